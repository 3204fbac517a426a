/-! DIVIDED to the coin -/
def jI : Option Nat → Int64
  | none => -lN 1
  | some n => lN n
def sumN (p : Nat → Nat) : Nat → Nat
  | 0 => 0
  | n + 1 => sumN p n + p n
def gtB : Option Nat → Option Nat → Bool
  | some x, some y => decide (y < x)
  | some _, none => true
  | none, _ => false
def amF (r : Nat → Option Nat) : Nat → Nat → Nat → Nat
  | 0, _, b => b
  | s + 1, i, b => amF r s (i + 1) (if gtB (r i) (r b) = true then i else b)
/-- the greatest one, of several the first, of n -/
def amS (r : Nat → Option Nat) (n : Nat) : Nat := amF r (n - 1) 1 0
def pkF (n : Nat) : Nat → (Nat → Option Nat) → (Nat → Nat) → (Nat → Nat)
  | 0, _, g => g
  | l + 1, r, g => pkF n l (fun i => if i = amS r n then none else r i) (fun i => if i = amS r n then g i + 1 else g i)
/-- what each of n parts p gets of so much -/
def divS (p : Nat → Nat) (n much : Nat) : Nat → Nat :=
  if sumN p n ≤ much then p else pkF n (much - sumN (fun i => much * p i / sumN p n) n) (fun i => some (much * p i % sumN p n)) (fun i => much * p i / sumN p n)
theorem sumN_s (p : Nat → Nat) (n : Nat) : sumN p (n + 1) = sumN p n + p n := rfl
theorem sumN_mono {p : Nat → Nat} {a b : Nat} (h : a ≤ b) : sumN p a ≤ sumN p b := by
  induction b with
  | zero => rw [show a = 0 by omega]; exact Nat.le_refl _
  | succ b ih =>
    by_cases h1 : a = b + 1
    · rw [h1]; exact Nat.le_refl _
    · rw [sumN_s]; have := ih (by omega); omega
theorem sumN_congr {p q : Nat → Nat} : ∀ {n : Nat}, (∀ i, i < n → p i = q i) → sumN p n = sumN q n
  | 0, _ => rfl
  | n + 1, h => by
    unfold sumN
    rw [sumN_congr (fun i hi => h i (by omega)), h n (by omega)]
theorem sumN_le {p q : Nat → Nat} : ∀ {n : Nat}, (∀ i, i < n → p i ≤ q i) → sumN p n ≤ sumN q n
  | 0, _ => Nat.le_refl _
  | n + 1, h => by
    unfold sumN
    have := sumN_le (n := n) (fun i hi => h i (by omega))
    have := h n (by omega)
    omega
theorem sumN_at {p : Nat → Nat} : ∀ {n i : Nat}, i < n → p i ≤ sumN p n
  | n + 1, i, h => by
    unfold sumN
    by_cases hi : i = n
    · rw [hi]; omega
    · have := sumN_at (p := p) (n := n) (i := i) (by omega)
      omega
theorem sumN_max {p : Nat → Nat} {B : Nat} : ∀ {n : Nat}, (∀ i, i < n → p i ≤ B) → sumN p n ≤ n * B
  | 0, _ => by simp [sumN]
  | n + 1, h => by
    unfold sumN
    have h1 := sumN_max (p := p) (B := B) (n := n) (fun i hi => h i (by omega))
    have h2 := h n (by omega)
    rw [Nat.succ_mul]
    omega
theorem sumN_mul {p : Nat → Nat} {m : Nat} : ∀ {n : Nat}, sumN (fun i => m * p i) n = m * sumN p n
  | 0 => by simp [sumN]
  | n + 1 => by
    unfold sumN
    rw [sumN_mul, Nat.mul_add]
theorem sumN_add {p q : Nat → Nat} : ∀ {n : Nat}, sumN (fun i => p i + q i) n = sumN p n + sumN q n
  | 0 => by simp [sumN]
  | n + 1 => by
    unfold sumN
    rw [sumN_add]
    omega
/-- what is left when all have their part, cut -/
theorem left_eq {p : Nat → Nat} {n m : Nat} : sumN (fun i => m * p i / sumN p n) n * sumN p n + sumN (fun i => m * p i % sumN p n) n = m * sumN p n := by
  have h : sumN (fun i => sumN p n * (m * p i / sumN p n) + m * p i % sumN p n) n = sumN (fun i => m * p i) n := sumN_congr (fun i _ => Nat.div_add_mod _ _)
  rw [sumN_add, sumN_mul, sumN_mul] at h
  rw [Nat.mul_comm]
  exact h
theorem left_le {p : Nat → Nat} {n m : Nat} (h : 0 < sumN p n) : sumN (fun i => m * p i / sumN p n) n ≤ m := by
  have h1 := left_eq (p := p) (n := n) (m := m)
  have h2 : sumN (fun i => m * p i / sumN p n) n * sumN p n ≤ m * sumN p n := by omega
  exact Nat.le_of_mul_le_mul_right h2 h
theorem left_lt {p : Nat → Nat} {n m : Nat} (h : 0 < sumN p n) : m - sumN (fun i => m * p i / sumN p n) n < n := by
  have h1 := left_eq (p := p) (n := n) (m := m)
  have h2 := left_le (p := p) (n := n) (m := m) h
  have h3 : sumN (fun i => m * p i % sumN p n) n ≤ n * (sumN p n - 1) := sumN_max (fun i _ => by have := Nat.mod_lt (m * p i) h; omega)
  have h4 : (m - sumN (fun i => m * p i / sumN p n) n) * sumN p n = sumN (fun i => m * p i % sumN p n) n := by
    rw [Nat.sub_mul]; omega
  have hn : 0 < n := by
    cases n with
    | zero => simp [sumN] at h
    | succ n => omega
  have h5 : (m - sumN (fun i => m * p i / sumN p n) n) * sumN p n ≤ n * sumN p n - n := by
    rw [h4]
    have : n * (sumN p n - 1) = n * sumN p n - n := by rw [Nat.mul_sub, Nat.mul_one]
    omega
  have h6 : n ≤ n * sumN p n := Nat.le_mul_of_pos_right n h
  have h7 : (m - sumN (fun i => m * p i / sumN p n) n) * sumN p n < n * sumN p n := by omega
  exact Nat.lt_of_mul_lt_mul_right h7
theorem amF_lt (r : Nat → Option Nat) : ∀ (s i b n : Nat), i + s ≤ n → b < n → amF r s i b < n
  | 0, i, b, n, _, h => h
  | s + 1, i, b, n, h1, h2 => by
    unfold amF
    refine amF_lt r s (i + 1) _ n (by omega) ?_
    split
    · omega
    · exact h2
theorem amS_lt (r : Nat → Option Nat) {n : Nat} (h : 0 < n) : amS r n < n := amF_lt r (n - 1) 1 0 n (by omega) h
theorem jI_le {x y : Option Nat} (hx : ∀ n, x = some n → n < 2 ^ 62) (hy : ∀ n, y = some n → n < 2 ^ 62) : jI x ≤ jI y ↔ ¬ gtB x y = true := by
  cases x with
  | none =>
    cases y with
    | none => simp [jI, gtB, Int64.le_refl]
    | some n =>
      have := hy n rfl
      simp only [jI, gtB]
      refine ⟨fun _ => by simp, fun _ => ?_⟩
      rw [Int64.le_iff_toInt_le, pk_lT (by omega), show (-lN 1).toInt = -1 by decide]
      omega
  | some m =>
    have := hx m rfl
    cases y with
    | none =>
      simp only [jI, gtB]
      refine ⟨fun h => ?_, fun h => absurd trivial h⟩
      rw [Int64.le_iff_toInt_le, pk_lT (by omega), show (-lN 1).toInt = -1 by decide] at h
      omega
    | some n =>
      have := hy n rfl
      simp only [jI, gtB, decide_eq_true_eq]
      rw [lN_leI (by omega) (by omega)]
      omega
theorem l_divN {a d : Nat} (ha : a < 2 ^ 63) (h0 : 0 < d) (hd : d < 2 ^ 63) : lN a / lN d = lN (a / d) := pk_lDiv ha h0 hd
theorem jI_s (n : Nat) : jI (some n) = lN n := rfl
theorem jI_n : jI none = -lN 1 := rfl
section DIVC
variable {u : gM}
theorem q_gr_l {x0 : Nat} (hd : x0 = 138 ∨ x0 = 146) {r : Nat → Option Nat} {n : Nat} (hn : n ≤ 97) (hc : u.1 x0 0 = nI n) (hr : ∀ i, i < n → u.2 (x0 + 3) i = jI (r i)) (hb : ∀ i k, i < n → r i = some k → k < 2 ^ 62) : ∀ (f i b : Nat), i ≤ n → n - i < f → b < n → X4_greatestRest_l4 u f x0 (nI b) (nI i) = some (nI (amF r (n - i) i b)) := by
  intro f
  induction f with
  | zero => intro i b h1 h2; omega
  | succ f ih =>
    intro i b h1 h2 h3
    unfold X4_greatestRest_l4 X4_greatestRest_b4 X4_greatestRest_b30
    by_cases h4 : i = n
    · subst h4
      rcases hd with rfl | rfl <;> simp (disch := omega) [isO_C138, rf_C138_2, rf_C138_3, rf_C138_4, isO_C146, rf_C146_2, rf_C146_3, rf_C146_4, hc, amF, nI_lit, lN_lit, nI_add, pk_mul, lN_add, lN_mul, Option.bind_some, nI_leI, nI_ltI, nI_eq, lN_leI, lN_ltI, lN_eqI, nI_m1, m1_nI, i_modN, lN_modN, nI_64, lN_32, if_pos, if_neg, ↓reduceIte, if_true, if_false]
    · have h5 := hr i (by omega)
      have h6 := hr b h3
      have h7 := jI_le (x := r i) (y := r b) (fun k => hb i k (by omega)) (fun k => hb b k h3)
      rw [show n - i = (n - (i + 1)) + 1 by omega]
      unfold amF
      by_cases h8 : gtB (r i) (r b) = true
      · have h9 : ¬ jI (r i) ≤ jI (r b) := fun z => (h7.mp z) h8
        rcases hd with rfl | rfl <;> simp (disch := omega) [isO_C138, rf_C138_2, rf_C138_3, rf_C138_4, isO_C146, rf_C146_2, rf_C146_3, rf_C146_4, aC141, aC149, hc, h5, h6, h8, h9, lg_le, ih (i + 1) i (by omega) (by omega) (by omega), nI_lit, lN_lit, nI_add, pk_mul, lN_add, lN_mul, Option.bind_some, nI_leI, nI_ltI, nI_eq, lN_leI, lN_ltI, lN_eqI, nI_m1, m1_nI, i_modN, lN_modN, nI_64, lN_32, if_pos, if_neg, ↓reduceIte, if_true, if_false]
      · have h9 : jI (r i) ≤ jI (r b) := h7.mpr h8
        rcases hd with rfl | rfl <;> simp (disch := omega) [isO_C138, rf_C138_2, rf_C138_3, rf_C138_4, isO_C146, rf_C146_2, rf_C146_3, rf_C146_4, aC141, aC149, hc, h5, h6, h8, h9, lg_le, ih (i + 1) b (by omega) (by omega) (by omega), nI_lit, lN_lit, nI_add, pk_mul, lN_add, lN_mul, Option.bind_some, nI_leI, nI_ltI, nI_eq, lN_leI, lN_ltI, lN_eqI, nI_m1, m1_nI, i_modN, lN_modN, nI_64, lN_32, if_pos, if_neg, ↓reduceIte, if_true, if_false]
theorem q_gr {x0 : Nat} (hd : x0 = 138 ∨ x0 = 146) {r : Nat → Option Nat} {n : Nat} (h0 : 0 < n) (hn : n ≤ 97) (hc : u.1 x0 0 = nI n) (hr : ∀ i, i < n → u.2 (x0 + 3) i = jI (r i)) (hb : ∀ i k, i < n → r i = some k → k < 2 ^ 62) : X4_greatestRest u x0 = some (nI (amS r n)) := by
  unfold X4_greatestRest amS
  rw [nI_lit, nI_lit]
  exact q_gr_l hd hn hc hr hb fz 1 0 (by omega) (fz_lt (by omega)) h0
theorem q_pk_l {x0 : Nat} (hd : x0 = 138 ∨ x0 = 146) {n : Nat} (hn : n ≤ 97) : ∀ (f l i : Nat) (r : Nat → Option Nat) (g : Nat → Nat) (u : gM), l + i < n → l < f → u.1 x0 0 = nI n → (∀ i, i < n → u.2 (x0 + 3) i = jI (r i)) → (∀ i k, i < n → r i = some k → k < 2 ^ 62) → (∀ i, i < n → u.2 (x0 + 2) i = lN (g i)) →
    ∃ u', X4_divide_l108 f x0 (lN l) (nI i) u = some u' ∧ ∀ i, i < n → u'.2 (x0 + 2) i = lN (pkF n l r g i) := by
  intro f
  induction f with
  | zero => intro l i r g u h1 h2; omega
  | succ f ih =>
    intro l i r g u h1 h2 hc hr hb hg
    unfold X4_divide_l108 X4_divide_b108 X4_divide_b160
    cases l with
    | zero =>
      refine ⟨u, ?_, hg⟩
      rcases hd with rfl | rfl <;> simp (disch := omega) [isO_C138, rf_C138_2, rf_C138_3, rf_C138_4, isO_C146, rf_C146_2, rf_C146_3, rf_C146_4, hc, lg_le, nI_lit, lN_lit, nI_add, pk_mul, lN_add, lN_mul, Option.bind_some, nI_leI, nI_ltI, nI_eq, lN_leI, lN_ltI, lN_eqI, nI_m1, m1_nI, i_modN, lN_modN, nI_64, lN_32, if_pos, if_neg, ↓reduceIte, if_true, if_false]
    | succ l =>
      have hq := q_gr hd (by omega) hn hc hr hb
      have hb1 := amS_lt r (n := n) (by omega)
      have hpk : pkF n (l + 1) r g = pkF n l (fun i => if i = amS r n then none else r i) (fun i => if i = amS r n then g i + 1 else g i) := rfl
      rw [hpk]
      generalize amS r n = b at hq hb1 ⊢
      have hgb := hg b hb1
      have key : ∀ (u2 : gM), u2.1 x0 0 = nI n → (∀ i, i < n → u2.2 (x0 + 3) i = jI (if i = b then none else r i)) → (∀ i, i < n → u2.2 (x0 + 2) i = lN (if i = b then g i + 1 else g i)) → ∃ u', X4_divide_l108 f x0 (lN l) (nI (i + 1)) u2 = some u' ∧ ∀ i, i < n → u'.2 (x0 + 2) i = lN (pkF n l (fun i => if i = b then none else r i) (fun i => if i = b then g i + 1 else g i) i) := by
        intro u2 k1 k2 k3
        exact ih l (i + 1) _ _ u2 (by omega) (by omega) k1 k2 (fun i k hi hk => by
          by_cases hib : i = b
          · simp [hib] at hk
          · simp [hib] at hk; exact hb i k hi hk) k3
      obtain ⟨u', e, h⟩ := key (upJ (upJ u (x0 + 2) b (lN (g b + 1))) (x0 + 3) b (-lN 1)) hc (fun i hi => by
        have h5 := hr i hi
        by_cases hib : i = b
        · subst hib; simp [upJ_e, jI]
        · simp [upJ_e, hib, h5]) (fun i hi => by
        have h5 := hg i hi
        by_cases hib : i = b
        · subst hib; simp [upJ_e]
        · simp [upJ_e, hib, h5])
      refine ⟨u', ?_, h⟩
      rcases hd with rfl | rfl
      · simp only [Nat.reduceAdd] at *
        simp (disch := omega) [isO_C138, rf_C138_2, rf_C138_3, rf_C138_4, hc, lg_le, hq, aC140, sC140, sC141, hgb, lN_s1, upJ_e, nI_lit, lN_lit, nI_add, pk_mul, lN_add, lN_mul, Option.bind_some, nI_leI, nI_ltI, nI_eq, lN_leI, lN_ltI, lN_eqI, nI_m1, m1_nI, i_modN, lN_modN, nI_64, lN_32, if_pos, if_neg, ↓reduceIte, if_true, if_false]
        exact e
      · simp only [Nat.reduceAdd] at *
        simp (disch := omega) [isO_C146, rf_C146_2, rf_C146_3, rf_C146_4, hc, lg_le, hq, aC148, sC148, sC149, hgb, lN_s1, upJ_e, nI_lit, lN_lit, nI_add, pk_mul, lN_add, lN_mul, Option.bind_some, nI_leI, nI_ltI, nI_eq, lN_leI, lN_ltI, lN_eqI, nI_m1, m1_nI, i_modN, lN_modN, nI_64, lN_32, if_pos, if_neg, ↓reduceIte, if_true, if_false]
        exact e
/-- what is left over goes to the greatest rests -/
theorem q_fl_l {x0 : Nat} (hd : x0 = 138 ∨ x0 = 146) {n much : Nat} {p : Nat → Nat} (hn : n ≤ 97) (hm : much ≤ 500000000) (hp : ∀ i, i < n → p i ≤ 10000000000) (hs0 : 0 < sumN p n) : ∀ (f i : Nat) (u : gM), i ≤ n → n - i < f → u.1 x0 0 = nI n → u.2 x0 1 = lN (sumN p n) → (∀ j, j < n → u.2 (x0 + 1) j = lN (p j)) → (∀ j, j < i → u.2 (x0 + 2) j = lN (much * p j / sumN p n)) → (∀ j, j < i → u.2 (x0 + 3) j = lN (much * p j % sumN p n)) →
    ∃ u', X4_divide_l41 f x0 (lN much) (lN (much - sumN (fun i => much * p i / sumN p n) i)) (nI i) u = some u' ∧ ∀ i, i < n → u'.2 (x0 + 2) i = lN (pkF n (much - sumN (fun i => much * p i / sumN p n) n) (fun i => some (much * p i % sumN p n)) (fun i => much * p i / sumN p n) i) := by
  have hsm : sumN p n ≤ 97 * 10000000000 := Nat.le_trans (sumN_max hp) (Nat.mul_le_mul_right _ hn)
  intro f
  induction f with
  | zero => intro i u h1 h2; omega
  | succ f ih =>
    intro i u h1 h2 hc hs hpp hg hr
    unfold X4_divide_l41 X4_divide_b41
    by_cases h4 : i = n
    · subst h4
      have h5 := left_lt (p := p) (n := i) (m := much) hs0
      obtain ⟨u', e, h⟩ := q_pk_l hd hn fz (much - sumN (fun j => much * p j / sumN p i) i) 0 (fun j => some (much * p j % sumN p i)) (fun j => much * p j / sumN p i) u (by omega) (fz_lt (by omega)) hc hr (fun j k hj hk => by
        cases hk
        have := Nat.mod_lt (much * p j) hs0
        omega) hg
      refine ⟨u', ?_, h⟩
      rcases hd with rfl | rfl
      · rw [if_pos isO_C138, hc, if_pos (Int32.le_refl _), nI_lit]; exact e
      · rw [if_pos isO_C146, hc, if_pos (Int32.le_refl _), nI_lit]; exact e
    · have h5 := hpp i (by omega)
      have h6 := hp i (by omega)
      have h7 : much * p i ≤ 500000000 * 10000000000 := Nat.mul_le_mul hm h6
      have h8 : much * p i / sumN p n ≤ much * p i := Nat.div_le_self _ _
      have h9 : sumN (fun i => much * p i / sumN p n) (i + 1) ≤ much := by
        have h10 := left_le (p := p) (n := n) (m := much) hs0
        exact Nat.le_trans (sumN_mono (by omega)) h10
      have h10 : much - sumN (fun i => much * p i / sumN p n) i - much * p i / sumN p n = much - sumN (fun i => much * p i / sumN p n) (i + 1) := by
        rw [sumN_s]
        omega
      have h11 : much * p i / sumN p n ≤ much - sumN (fun i => much * p i / sumN p n) i := by
        rw [sumN_s] at h9
        omega
      obtain ⟨u', e, h⟩ := ih (i + 1) (upJ (upJ u (x0 + 2) i (lN (much * p i / sumN p n))) (x0 + 3) i (lN (much * p i % sumN p n))) (by omega) (by omega) hc (by rcases hd with rfl | rfl <;> simp [upJ_e, hs]) (fun j hj => by
          rw [← hpp j hj]; rcases hd with rfl | rfl <;> simp [upJ_e]) (fun j hj => by
          by_cases hji : j = i
          · subst hji; simp [upJ_e]
          · have := hg j (by omega); simp [upJ_e, hji, this]) (fun j hj => by
          by_cases hji : j = i
          · subst hji; simp [upJ_e]
          · have := hr j (by omega); simp [upJ_e, hji, this])
      refine ⟨u', ?_, h⟩
      rcases hd with rfl | rfl
      · simp only [Nat.reduceAdd] at *
        simp (disch := omega) [isO_C138, rf_C138_2, rf_C138_3, rf_C138_4, hc, hs, h5, aC139, aC140, sC140, sC141, upJ_e, l_divN, lN_sub, h10, nI_lit, lN_lit, nI_add, pk_mul, lN_add, lN_mul, Option.bind_some, nI_leI, nI_ltI, nI_eq, lN_leI, lN_ltI, lN_eqI, nI_m1, m1_nI, i_modN, lN_modN, nI_64, lN_32, if_pos, if_neg, ↓reduceIte, if_true, if_false]
        exact e
      · simp only [Nat.reduceAdd] at *
        simp (disch := omega) [isO_C146, rf_C146_2, rf_C146_3, rf_C146_4, hc, hs, h5, aC147, aC148, sC148, sC149, upJ_e, l_divN, lN_sub, h10, nI_lit, lN_lit, nI_add, pk_mul, lN_add, lN_mul, Option.bind_some, nI_leI, nI_ltI, nI_eq, lN_leI, lN_ltI, lN_eqI, nI_m1, m1_nI, i_modN, lN_modN, nI_64, lN_32, if_pos, if_neg, ↓reduceIte, if_true, if_false]
        exact e
theorem cpJ_at {sk : List gE} {u : gM} {r0 r1 n0 n1 : Nat} {rs0 rs1 : List Nat} (h0 : sk[r0]? = some (.inr (1, n0, rs0))) (h1 : sk[r1]? = some (.inr (1, n1, rs1))) (hn : n0 < 2 ^ 31) {a b n : Nat} (ha : a + n ≤ n0) (hb : b + n ≤ n1) (hn1 : n1 < 2 ^ 31) : cpJ sk u r0 (nI a) r1 (nI b) (nI n) = some (upRJ u r1 (va_cpy (u.2 r0) (u.2 r1) a b n)) := by
  unfold cpJ
  rw [h0, h1]
  simp only
  rw [nI_clamp (by omega), nI_clamp (by omega), nI_clamp (by omega), if_neg]
  rintro (z | z | z | z | z)
  · exact nI_pos (by omega) z
  · exact nI_pos (by omega) z
  · exact nI_pos (by omega) z
  · omega
  · omega
theorem cpI_at {sk : List gE} {u : gM} {r0 r1 n0 n1 : Nat} {rs0 rs1 : List Nat} (h0 : sk[r0]? = some (.inr (0, n0, rs0))) (h1 : sk[r1]? = some (.inr (0, n1, rs1))) (hn : n0 < 2 ^ 31) {a b n : Nat} (ha : a + n ≤ n0) (hb : b + n ≤ n1) (hn1 : n1 < 2 ^ 31) : cpI sk u r0 (nI a) r1 (nI b) (nI n) = some (upRI u r1 (va_cpy (u.1 r0) (u.1 r1) a b n)) := by
  unfold cpI
  rw [h0, h1]
  simp only
  rw [nI_clamp (by omega), nI_clamp (by omega), nI_clamp (by omega), if_neg]
  rintro (z | z | z | z | z)
  · exact nI_pos (by omega) z
  · exact nI_pos (by omega) z
  · exact nI_pos (by omega) z
  · omega
  · omega
theorem q_divide {x0 : Nat} (hd : x0 = 138 ∨ x0 = 146) {n much : Nat} {p : Nat → Nat} (hn : n ≤ 97) (hm : much ≤ 500000000) (hp : ∀ i, i < n → p i ≤ 10000000000) (hc : u.1 x0 0 = nI n) (hs : u.2 x0 1 = lN (sumN p n)) (hpp : ∀ j, j < n → u.2 (x0 + 1) j = lN (p j)) :
    ∃ u', X4_divide x0 (lN much) u = some u' ∧ (∀ i, i < n → u'.2 (x0 + 2) i = lN (divS p n much i)) ∧ off (fun c => c = x0 + 2 ∨ c = x0 + 3) u u' := by
  have hsm : sumN p n ≤ 97 * 10000000000 := Nat.le_trans (sumN_max hp) (Nat.mul_le_mul_right _ hn)
  have hfr : ∀ u', X4_divide x0 (lN much) u = some u' → off (fun c => c = x0 + 2 ∨ c = x0 + 3) u u' := by
    intro u' h
    rcases hd with rfl | rfl
    · exact fr_X4_divide (S := fun c => c = 140 ∨ c = 141) (Or.inl rfl) (Or.inr rfl) h (fun _ _ => ⟨rfl, rfl⟩)
    · exact fr_X4_divide (S := fun c => c = 148 ∨ c = 149) (Or.inl rfl) (Or.inr rfl) h (fun _ _ => ⟨rfl, rfl⟩)
  suffices hs2 : ∃ u', X4_divide x0 (lN much) u = some u' ∧ (∀ i, i < n → u'.2 (x0 + 2) i = lN (divS p n much i)) by
    obtain ⟨u', e, h⟩ := hs2
    exact ⟨u', e, h, hfr u' e⟩
  unfold divS
  by_cases h1 : sumN p n ≤ much
  · rw [if_pos h1]
    refine ⟨upRJ u (x0 + 2) (va_cpy (u.2 (x0 + 1)) (u.2 (x0 + 2)) 0 0 n), ?_, fun i hi => ?_⟩
    · unfold X4_divide X4_divide_b18
      rcases hd with rfl | rfl
      · simp (disch := omega) [isO_C138, rf_C138_2, rf_C138_3, rf_C138_4, hc, hs, lg_ge, h1, nI_lit, lN_lit, nI_add, pk_mul, lN_add, lN_mul, Option.bind_some, nI_leI, nI_ltI, nI_eq, lN_leI, lN_ltI, lN_eqI, nI_m1, m1_nI, i_modN, lN_modN, nI_64, lN_32, if_pos, if_neg, ↓reduceIte, if_true, if_false]
        exact cpJ_at (rs0 := []) (rs1 := []) (n0 := 97) (n1 := 97) rfl rfl (by decide) (by omega) (by omega) (by decide)
      · simp (disch := omega) [isO_C146, rf_C146_2, rf_C146_3, rf_C146_4, hc, hs, lg_ge, h1, nI_lit, lN_lit, nI_add, pk_mul, lN_add, lN_mul, Option.bind_some, nI_leI, nI_ltI, nI_eq, lN_leI, lN_ltI, lN_eqI, nI_m1, m1_nI, i_modN, lN_modN, nI_64, lN_32, if_pos, if_neg, ↓reduceIte, if_true, if_false]
        exact cpJ_at (rs0 := []) (rs1 := []) (n0 := 97) (n1 := 97) rfl rfl (by decide) (by omega) (by omega) (by decide)
    · rw [RJ_at, pk_cpy_in (Nat.zero_le _) (by omega), ← hpp i hi]
      simp
  · rw [if_neg h1]
    obtain ⟨u', e, h⟩ := q_fl_l hd hn hm hp (by omega) fz 0 u (Nat.zero_le _) (fz_lt (by omega)) hc hs hpp (fun j hj => absurd hj (Nat.not_lt_zero _)) (fun j hj => absurd hj (Nat.not_lt_zero _))
    refine ⟨u', ?_, h⟩
    unfold X4_divide
    have h2 : ¬ lN (sumN p n) ≤ lN much := by rw [lN_leI (by omega) (by omega)]; exact h1
    have h3 : lN 1 ≤ lN (sumN p n) := by rw [lN_leI (by omega) (by omega)]; omega
    simp only [sumN, Nat.sub_zero] at e
    rcases hd with rfl | rfl
    · rw [if_pos isO_C138, hs, nI_lit, lN_lit, if_neg (fun z => h2 (lg_ge.mp z)), if_pos (lg_ge.mpr h3)]; exact e
    · rw [if_pos isO_C146, hs, nI_lit, lN_lit, if_neg (fun z => h2 (lg_ge.mp z)), if_pos (lg_ge.mpr h3)]; exact e
end DIVC
theorem gtB_tr {x y z : Option Nat} (h1 : gtB x y = true) (h2 : ¬ gtB z y = true) : ¬ gtB z x = true := by
  cases x <;> cases y <;> cases z <;> simp_all [gtB]
  omega
theorem amF_max (r : Nat → Option Nat) : ∀ (s i b : Nat), (∀ j, j < i → ¬ gtB (r j) (r b) = true) → ∀ j, j < i + s → ¬ gtB (r j) (r (amF r s i b)) = true
  | 0, i, b, h, j, hj => h j (by omega)
  | s + 1, i, b, h, j, hj => by
    unfold amF
    by_cases h1 : gtB (r i) (r b) = true
    · rw [if_pos h1]
      refine amF_max r s (i + 1) i (fun j hj => ?_) j (by omega)
      by_cases h2 : j = i
      · rw [h2]; cases r i <;> simp [gtB]
      · exact gtB_tr h1 (h j (by omega))
    · rw [if_neg h1]
      refine amF_max r s (i + 1) b (fun j hj => ?_) j (by omega)
      by_cases h2 : j = i
      · rw [h2]; exact h1
      · exact h j (by omega)
theorem amS_max (r : Nat → Option Nat) {n : Nat} (h0 : 0 < n) {j : Nat} (h : j < n) : ¬ gtB (r j) (r (amS r n)) = true := by
  unfold amS
  refine amF_max r (n - 1) 1 0 (fun j hj => ?_) j (by omega)
  rw [show j = 0 by omega]
  cases r 0 <;> simp [gtB]
def rv (r : Nat → Option Nat) (i : Nat) : Nat := (r i).getD 0
theorem sumN_pos {p : Nat → Nat} : ∀ {n : Nat}, 0 < sumN p n → ∃ i, i < n ∧ 0 < p i
  | 0, h => by simp [sumN] at h
  | n + 1, h => by
    rw [sumN_s] at h
    by_cases h1 : 0 < p n
    · exact ⟨n, by omega, h1⟩
    · obtain ⟨i, h2, h3⟩ := sumN_pos (p := p) (n := n) (by omega)
      exact ⟨i, by omega, h3⟩
/-- the one that is picked has a rest above 0, if any has -/
theorem am_pos {r : Nat → Option Nat} {n : Nat} (h : 0 < sumN (rv r) n) : amS r n < n ∧ 0 < rv r (amS r n) := by
  obtain ⟨i, h1, h2⟩ := sumN_pos h
  have h3 := amS_max r (n := n) (by omega) h1
  refine ⟨amS_lt r (by omega), ?_⟩
  unfold rv at h2 ⊢
  cases h4 : r i with
  | none => rw [h4] at h2; simp at h2
  | some x =>
    rw [h4] at h2 h3
    simp at h2
    cases h5 : r (amS r n) with
    | none => rw [h5] at h3; simp [gtB] at h3
    | some y =>
      rw [h5] at h3
      simp [gtB] at h3
      simp
      omega
theorem sumN_upd {p q : Nat → Nat} {b : Nat} : ∀ {n : Nat}, b < n → (∀ i, i ≠ b → q i = p i) → sumN q n + p b = sumN p n + q b
  | n + 1, h, he => by
    rw [sumN_s, sumN_s]
    by_cases h1 : b = n
    · have : sumN q n = sumN p n := sumN_congr (fun i hi => he i (by omega))
      rw [h1]
      omega
    · have := sumN_upd (p := p) (q := q) (b := b) (n := n) (by omega) he
      have := he n (fun z => h1 z.symm)
      omega
/-- what is picked goes on being above 0 as long as something is left -/
theorem pkF_step {r : Nat → Option Nat} {n l s : Nat} (hs : ∀ i, i < n → rv r i < s) (h : (l + 1) * s ≤ sumN (rv r) n) (hs0 : 0 < s) : amS r n < n ∧ 0 < rv r (amS r n) ∧ l * s ≤ sumN (rv (fun i => if i = amS r n then none else r i)) n ∧ ∀ i, i < n → rv (fun i => if i = amS r n then none else r i) i < s := by
  have h1 : 0 < sumN (rv r) n := by
    rw [Nat.succ_mul] at h
    omega
  obtain ⟨h2, h3⟩ := am_pos h1
  refine ⟨h2, h3, ?_, fun i hi => ?_⟩
  · have h4 := sumN_upd (p := rv r) (q := rv (fun i => if i = amS r n then none else r i)) (b := amS r n) h2 (fun i hi => by simp [rv, hi])
    have h5 : rv (fun i => if i = amS r n then none else r i) (amS r n) = 0 := by simp [rv]
    have h6 := hs _ h2
    rw [Nat.succ_mul] at h
    omega
  · unfold rv
    by_cases h7 : i = amS r n
    · simp [h7]; exact hs0
    · simp [h7]; exact hs i hi
theorem pkF_le {n s : Nat} (hs0 : 0 < s) : ∀ (l : Nat) (r : Nat → Option Nat) (g : Nat → Nat), (∀ i, i < n → rv r i < s) → l * s ≤ sumN (rv r) n → ∀ i, i < n → pkF n l r g i ≤ g i + (if 0 < rv r i then 1 else 0)
  | 0, r, g, _, _, i, _ => by unfold pkF; omega
  | l + 1, r, g, hs, h, i, hi => by
    obtain ⟨h1, h2, h3, h4⟩ := pkF_step hs h hs0
    have h5 := pkF_le hs0 l _ (fun i => if i = amS r n then g i + 1 else g i) h4 h3 i hi
    unfold pkF
    by_cases h6 : i = amS r n
    · rw [h6] at h5 ⊢
      simp [rv] at h5
      rw [if_pos h2]
      exact h5
    · have h7 : rv (fun i => if i = amS r n then none else r i) i = rv r i := by simp [rv, h6]
      rw [h7] at h5
      simp only [if_neg h6] at h5
      exact h5
theorem pkF_sum {n s : Nat} (hs0 : 0 < s) : ∀ (l : Nat) (r : Nat → Option Nat) (g : Nat → Nat), (∀ i, i < n → rv r i < s) → l * s ≤ sumN (rv r) n → sumN (pkF n l r g) n = sumN g n + l
  | 0, r, g, _, _ => rfl
  | l + 1, r, g, hs, h => by
    obtain ⟨h1, h2, h3, h4⟩ := pkF_step hs h hs0
    unfold pkF
    rw [pkF_sum hs0 l _ _ h4 h3]
    have h5 := sumN_upd (p := g) (q := fun i => if i = amS r n then g i + 1 else g i) (b := amS r n) h1 (fun i hi => by simp [hi])
    simp at h5
    omega
theorem rv_some (f : Nat → Nat) : rv (fun i => some (f i)) = f := rfl
theorem left_mul {p : Nat → Nat} {n m : Nat} (h : 0 < sumN p n) : (m - sumN (fun i => m * p i / sumN p n) n) * sumN p n = sumN (fun i => m * p i % sumN p n) n := by
  have h1 := left_eq (p := p) (n := n) (m := m)
  have h2 := left_le (p := p) (n := n) (m := m) h
  rw [Nat.sub_mul]
  omega
/-- nobody gets more than his part; together they get it all -/
theorem divS_le {p : Nat → Nat} {n m i : Nat} (hi : i < n) : divS p n m i ≤ p i := by
  unfold divS
  by_cases h : sumN p n ≤ m
  · rw [if_pos h]; exact Nat.le_refl _
  · rw [if_neg h]
    have h0 : 0 < sumN p n := by omega
    have h1 := pkF_le (n := n) h0 (m - sumN (fun i => m * p i / sumN p n) n) (fun i => some (m * p i % sumN p n)) (fun i => m * p i / sumN p n) (fun i _ => Nat.mod_lt _ h0) (by rw [rv_some, left_mul h0]; exact Nat.le_refl _) i hi
    refine Nat.le_trans h1 ?_
    rw [rv_some]
    have h2 := Nat.div_add_mod (m * p i) (sumN p n)
    have h3 : m * p i ≤ sumN p n * p i := Nat.mul_le_mul_right _ (by omega)
    by_cases h4 : 0 < m * p i % sumN p n
    · rw [if_pos h4]
      have h5 : sumN p n * (m * p i / sumN p n) < sumN p n * p i := by omega
      have := Nat.lt_of_mul_lt_mul_left h5
      omega
    · rw [if_neg h4]
      have h5 : sumN p n * (m * p i / sumN p n) ≤ sumN p n * p i := by omega
      exact Nat.le_of_mul_le_mul_left h5 h0
theorem divS_sum {p : Nat → Nat} {n m : Nat} : sumN (divS p n m) n = min (sumN p n) m := by
  unfold divS
  by_cases h : sumN p n ≤ m
  · rw [if_pos h]; omega
  · rw [if_neg h]
    have h0 : 0 < sumN p n := by omega
    rw [pkF_sum (n := n) h0 _ _ _ (fun i _ => Nat.mod_lt _ h0) (by rw [rv_some, left_mul h0]; exact Nat.le_refl _)]
    have := left_le (p := p) (n := n) (m := m) h0
    omega
