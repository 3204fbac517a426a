/-! DIVIDED to the coin: the model's -/
section DIVM
theorem m_am_l (k : Int32 → Int64 → gM → Option gM) {r : Nat → Option Nat} {n l : Nat} {u : gM} (hn : n ≤ 97) (hr : ∀ i, i < n → u.2 23 i = jI (r i)) (hb : ∀ i k, i < n → r i = some k → k < 2 ^ 62) : ∀ (f i b : Nat), i ≤ n → n - i < f → b < n → X12_divides_l159 k f (nI n) (lN l) (nI b) (nI i) u = k (nI n) (lN l - lN 1) (upJ (upJ u 22 (amF r (n - i) i b) (u.2 22 (amF r (n - i) i b) + lN 1)) 23 (amF r (n - i) i b) (-lN 1)) := by
  intro f
  induction f with
  | zero => intro i b h1 h2; omega
  | succ f ih =>
    intro i b h1 h2 h3
    unfold X12_divides_l159 X12_divides_b159 X12_divides_b187
    by_cases h4 : i = n
    · subst h4
      simp (disch := omega) [aM22, sM22, sM23, amF, nI_lit, lN_lit, nI_add, pk_mul, lN_add, lN_mul, Option.bind_some, nI_leI, nI_ltI, nI_eq, lN_leI, lN_ltI, lN_eqI, nI_m1, m1_nI, i_modN, lN_modN, nI_64, lN_32, if_pos, if_neg, ↓reduceIte, if_true, if_false]
    · have h5 := hr i (by omega)
      have h6 := hr b h3
      have h7 := jI_le (x := r i) (y := r b) (fun k => hb i k (by omega)) (fun k => hb b k h3)
      rw [show n - i = (n - (i + 1)) + 1 by omega]
      unfold amF
      by_cases h8 : gtB (r i) (r b) = true
      · have h9 : ¬ jI (r i) ≤ jI (r b) := fun z => (h7.mp z) h8
        simp (disch := omega) [aM23, h5, h6, h8, h9, lg_le, ih (i + 1) i (by omega) (by omega) (by omega), nI_lit, lN_lit, nI_add, pk_mul, lN_add, lN_mul, Option.bind_some, nI_leI, nI_ltI, nI_eq, lN_leI, lN_ltI, lN_eqI, nI_m1, m1_nI, i_modN, lN_modN, nI_64, lN_32, if_pos, if_neg, ↓reduceIte, if_true, if_false]
      · have h9 : jI (r i) ≤ jI (r b) := h7.mpr h8
        simp (disch := omega) [aM23, h5, h6, h8, h9, lg_le, ih (i + 1) b (by omega) (by omega) (by omega), nI_lit, lN_lit, nI_add, pk_mul, lN_add, lN_mul, Option.bind_some, nI_leI, nI_ltI, nI_eq, lN_leI, lN_ltI, lN_eqI, nI_m1, m1_nI, i_modN, lN_modN, nI_64, lN_32, if_pos, if_neg, ↓reduceIte, if_true, if_false]
theorem m_pk_l {n : Nat} (hn : n ≤ 97) : ∀ (f l : Nat) (r : Nat → Option Nat) (g : Nat → Nat) (u : gM), l < n → l < f → (∀ i, i < n → u.2 23 i = jI (r i)) → (∀ i k, i < n → r i = some k → k < 2 ^ 62) → (∀ i, i < n → u.2 22 i = lN (g i)) →
    ∃ u', X12_divides_l146 f (nI n) (lN l) u = some u' ∧ ∀ i, i < n → u'.2 22 i = lN (pkF n l r g i) := by
  intro f
  induction f with
  | zero => intro l r g u h1 h2; omega
  | succ f ih =>
    intro l r g u h1 h2 hr hb hg
    unfold X12_divides_l146 X12_divides_b146
    cases l with
    | zero =>
      refine ⟨u, ?_, hg⟩
      simp (disch := omega) [lg_le, nI_lit, lN_lit, nI_add, pk_mul, lN_add, lN_mul, Option.bind_some, nI_leI, nI_ltI, nI_eq, lN_leI, lN_ltI, lN_eqI, nI_m1, m1_nI, i_modN, lN_modN, nI_64, lN_32, if_pos, if_neg, ↓reduceIte, if_true, if_false]
    | succ l =>
      have hq := m_am_l (X12_divides_l146 f) (l := l + 1) hn hr hb fz 1 0 (by omega) (fz_lt (by omega)) (by omega)
      have hb1 := amS_lt r (n := n) (by omega)
      have hpk : pkF n (l + 1) r g = pkF n l (fun i => if i = amS r n then none else r i) (fun i => if i = amS r n then g i + 1 else g i) := rfl
      rw [hpk]
      change X12_divides_l159 _ fz _ _ _ _ _ = X12_divides_l146 f _ _ (upJ (upJ u 22 (amS r n) (u.2 22 (amS r n) + lN 1)) 23 (amS r n) (-lN 1)) at hq
      generalize amS r n = b at hq hb1 ⊢
      obtain ⟨u', e, h⟩ := ih l (fun i => if i = b then none else r i) (fun i => if i = b then g i + 1 else g i) (upJ (upJ u 22 b (u.2 22 b + lN 1)) 23 b (-lN 1)) (by omega) (by omega) (fun i hi => by
        have h5 := hr i hi
        by_cases hib : i = b
        · subst hib; simp [upJ_e, jI]
        · simp [upJ_e, hib, h5]) (fun i k hi hk => by
          by_cases hib : i = b
          · simp [hib] at hk
          · simp [hib] at hk; exact hb i k hi hk) (fun i hi => by
        have h5 := hg i hi
        by_cases hib : i = b
        · subst hib; simp [upJ_e, h5, lN_add]
        · simp [upJ_e, hib, h5])
      refine ⟨u', ?_, h⟩
      rw [nI_lit, nI_lit, lN_lit, if_neg (by rw [lg_le, lN_leI (by omega) (by omega)]; omega), hq, lN_s1]
      exact e
theorem m_fl_l {n much : Nat} {p : Nat → Nat} (hn : n ≤ 97) (hm : much ≤ 500000000) (hp : ∀ i, i < n → p i ≤ 10000000000) (hs0 : 0 < sumN p n) : ∀ (f i : Nat) (u : gM), i ≤ n → n - i < f → (∀ j, j < n → u.2 21 j = lN (p j)) → (∀ j, j < i → u.2 22 j = lN (much * p j / sumN p n)) → (∀ j, j < i → u.2 23 j = lN (much * p j % sumN p n)) →
    ∃ u', X12_divides_l82 f (nI n) (lN (sumN p n)) (lN (much - sumN (fun i => much * p i / sumN p n) i)) (lN much) (nI i) u = some u' ∧ ∀ i, i < n → u'.2 22 i = lN (pkF n (much - sumN (fun i => much * p i / sumN p n) n) (fun i => some (much * p i % sumN p n)) (fun i => much * p i / sumN p n) i) := by
  have hsm : sumN p n ≤ 97 * 10000000000 := Nat.le_trans (sumN_max hp) (Nat.mul_le_mul_right _ hn)
  intro f
  induction f with
  | zero => intro i u h1 h2; omega
  | succ f ih =>
    intro i u h1 h2 hpp hg hr
    unfold X12_divides_l82 X12_divides_b82
    by_cases h4 : i = n
    · subst h4
      have h5 := left_lt (p := p) (n := i) (m := much) hs0
      obtain ⟨u', e, h⟩ := m_pk_l hn fz (much - sumN (fun j => much * p j / sumN p i) i) (fun j => some (much * p j % sumN p i)) (fun j => much * p j / sumN p i) u h5 (fz_lt (by omega)) hr (fun j k hj hk => by
        cases hk
        have := Nat.mod_lt (much * p j) hs0
        omega) hg
      refine ⟨u', ?_, h⟩
      rw [if_pos (Int32.le_refl _)]; exact e
    · have h5 := hpp i (by omega)
      have h6 := hp i (by omega)
      have h7 : much * p i ≤ 500000000 * 10000000000 := Nat.mul_le_mul hm h6
      have h8 : much * p i / sumN p n ≤ much * p i := Nat.div_le_self _ _
      have h9 : sumN (fun i => much * p i / sumN p n) (i + 1) ≤ much := by
        have h10 := left_le (p := p) (n := n) (m := much) hs0
        exact Nat.le_trans (sumN_mono (by omega)) h10
      have h10 : much - sumN (fun i => much * p i / sumN p n) i - much * p i / sumN p n = much - sumN (fun i => much * p i / sumN p n) (i + 1) := by
        rw [sumN_s]
        omega
      have h11 : much * p i / sumN p n ≤ much - sumN (fun i => much * p i / sumN p n) i := by
        rw [sumN_s] at h9
        omega
      obtain ⟨u', e, h⟩ := ih (i + 1) (upJ (upJ u 22 i (lN (much * p i / sumN p n))) 23 i (lN (much * p i % sumN p n))) (by omega) (by omega) (fun j hj => by
          rw [← hpp j hj]; simp [upJ_e]) (fun j hj => by
          by_cases hji : j = i
          · subst hji; simp [upJ_e]
          · have := hg j (by omega); simp [upJ_e, hji, this]) (fun j hj => by
          by_cases hji : j = i
          · subst hji; simp [upJ_e]
          · have := hr j (by omega); simp [upJ_e, hji, this])
      refine ⟨u', ?_, h⟩
      simp (disch := omega) [h5, aM21, aM22, sM22, sM23, upJ_e, l_divN, lN_sub, h10, nI_lit, lN_lit, nI_add, pk_mul, lN_add, lN_mul, Option.bind_some, nI_leI, nI_ltI, nI_eq, lN_leI, lN_ltI, lN_eqI, nI_m1, m1_nI, i_modN, lN_modN, nI_64, lN_32, if_pos, if_neg, ↓reduceIte, if_true, if_false]
      exact e
theorem m_cp_l {n : Nat} {p : Nat → Nat} (hn : n ≤ 97) : ∀ (f i : Nat) (u : gM), i ≤ n → n - i < f → (∀ j, j < n → u.2 21 j = lN (p j)) → (∀ j, j < i → u.2 22 j = lN (p j)) → ∃ u', X12_divides_l48 f (nI n) (nI i) u = some u' ∧ ∀ i, i < n → u'.2 22 i = lN (p i) := by
  intro f
  induction f with
  | zero => intro i u h1 h2; omega
  | succ f ih =>
    intro i u h1 h2 hpp hg
    unfold X12_divides_l48 X12_divides_b48
    by_cases h4 : i = n
    · subst h4
      exact ⟨u, by rw [if_pos (Int32.le_refl _)], hg⟩
    · have h5 := hpp i (by omega)
      obtain ⟨u', e, h⟩ := ih (i + 1) (upJ u 22 i (lN (p i))) (by omega) (by omega) (fun j hj => by
          rw [← hpp j hj]; simp [upJ_e]) (fun j hj => by
          by_cases hji : j = i
          · subst hji; simp [upJ_e]
          · have := hg j (by omega); simp [upJ_e, hji, this])
      refine ⟨u', ?_, h⟩
      simp (disch := omega) [h5, aM21, sM22, nI_lit, lN_lit, nI_add, pk_mul, lN_add, lN_mul, Option.bind_some, nI_leI, nI_ltI, nI_eq, lN_leI, lN_ltI, lN_eqI, nI_m1, m1_nI, i_modN, lN_modN, nI_64, lN_32, if_pos, if_neg, ↓reduceIte, if_true, if_false]
      exact e
theorem m_dv_l {n much : Nat} {p : Nat → Nat} (hn : n ≤ 97) (hm : much ≤ 500000000) (hp : ∀ i, i < n → p i ≤ 10000000000) {u : gM} (hpp : ∀ j, j < n → u.2 21 j = lN (p j)) : ∀ (f i : Nat), i ≤ n → n - i < f → ∃ u', X12_divides_l6 f (lN much) (nI n) (lN (sumN p i)) (nI i) u = some u' ∧ ∀ i, i < n → u'.2 22 i = lN (divS p n much i) := by
  have hsm : sumN p n ≤ 97 * 10000000000 := Nat.le_trans (sumN_max hp) (Nat.mul_le_mul_right _ hn)
  intro f
  induction f with
  | zero => intro i h1 h2; omega
  | succ f ih =>
    intro i h1 h2
    unfold X12_divides_l6 X12_divides_b6
    by_cases h4 : i = n
    · subst h4
      unfold divS
      by_cases h5 : sumN p i ≤ much
      · rw [if_pos h5]
        obtain ⟨u', e, h⟩ := m_cp_l hn fz 0 u (by omega) (fz_lt (by omega)) hpp (fun j hj => absurd hj (Nat.not_lt_zero _))
        refine ⟨u', ?_, h⟩
        rw [if_pos (Int32.le_refl _), nI_lit, if_neg (by rw [lg_lt, lN_ltI (by omega) (by omega)]; omega)]
        exact e
      · rw [if_neg h5]
        obtain ⟨u', e, h⟩ := m_fl_l hn hm hp (by omega) fz 0 u (by omega) (fz_lt (by omega)) hpp (fun j hj => absurd hj (Nat.not_lt_zero _)) (fun j hj => absurd hj (Nat.not_lt_zero _))
        refine ⟨u', ?_, h⟩
        rw [if_pos (Int32.le_refl _), nI_lit, if_pos (by rw [lg_lt, lN_ltI (by omega) (by omega)]; omega), mnJ_N (by omega) (by omega), Nat.min_eq_left (by omega)]
        exact e
    · have h5 := hpp i (by omega)
      obtain ⟨u', e, h⟩ := ih (i + 1) (by omega) (by omega)
      refine ⟨u', ?_, h⟩
      rw [sumN_s] at e
      simp (disch := omega) [h5, aM21, nI_lit, lN_lit, nI_add, pk_mul, lN_add, lN_mul, Option.bind_some, nI_leI, nI_ltI, nI_eq, lN_leI, lN_ltI, lN_eqI, nI_m1, m1_nI, i_modN, lN_modN, nI_64, lN_32, if_pos, if_neg, ↓reduceIte, if_true, if_false]
      exact e
theorem m_divides {n much : Nat} {p : Nat → Nat} (hn : n ≤ 97) (hm : much ≤ 500000000) (hp : ∀ i, i < n → p i ≤ 10000000000) {u : gM} (hpp : ∀ j, j < n → u.2 21 j = lN (p j)) : ∃ u', X12_divides (lN much) (nI n) u = some u' ∧ (∀ i, i < n → u'.2 22 i = lN (divS p n much i)) ∧ off (fun c => c = 22 ∨ c = 23) u u' := by
  obtain ⟨u', e, h⟩ := m_dv_l hn hm hp hpp fz 0 (Nat.zero_le _) (fz_lt (by omega))
  have e2 : X12_divides (lN much) (nI n) u = some u' := by
    unfold X12_divides
    rw [nI_lit, lN_lit]
    exact e
  exact ⟨u', e2, h, fr_X12_divides (S := fun c => c = 22 ∨ c = 23) (Or.inl rfl) (Or.inr rfl) e2 (fun _ _ => ⟨rfl, rfl⟩)⟩
end DIVM
