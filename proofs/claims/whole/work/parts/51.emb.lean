/-! DIVIDED among some of n parts, the others being none: they get the same -/
theorem gtB_tr2 {x y z : Option Nat} (h1 : gtB x y = true) (h2 : ¬ gtB z y = true) : gtB x z = true := by
  cases x <;> cases y <;> cases z <;> simp_all [gtB]
  omega
theorem amF_fst (r : Nat → Option Nat) : ∀ (s i b : Nat), b < i → (∀ j, j < b → gtB (r b) (r j) = true) → (∀ j, j < i → ¬ gtB (r j) (r b) = true) → ∀ j, j < amF r s i b → gtB (r (amF r s i b)) (r j) = true
  | 0, i, b, _, h, _, j, hj => h j hj
  | s + 1, i, b, hb, h, h2, j, hj => by
    unfold amF at hj ⊢
    by_cases h1 : gtB (r i) (r b) = true
    · rw [if_pos h1] at hj ⊢
      refine amF_fst r s (i + 1) i (by omega) (fun j hj => gtB_tr2 h1 (h2 j hj)) (fun j hj => ?_) j hj
      by_cases z : j = i
      · rw [z]; cases r i <;> simp [gtB]
      · exact gtB_tr h1 (h2 j (by omega))
    · rw [if_neg h1] at hj ⊢
      refine amF_fst r s (i + 1) b (by omega) h (fun j hj => ?_) j hj
      by_cases z : j = i
      · rw [z]; exact h1
      · exact h2 j (by omega)
theorem amS_fst (r : Nat → Option Nat) {n j : Nat} (h : j < amS r n) : gtB (r (amS r n)) (r j) = true := by
  unfold amS at h ⊢
  refine amF_fst r (n - 1) 1 0 (by omega) (fun j hj => absurd hj (Nat.not_lt_zero _)) (fun j hj => ?_) j h
  rw [show j = 0 by omega]
  cases r 0 <;> simp [gtB]
def EMB (φ : Nat → Nat) (n' n : Nat) : Prop := (∀ i j, i < j → j < n' → φ i < φ j) ∧ (∀ j, j < n' → φ j < n)
theorem EMB.m {φ : Nat → Nat} {n' n : Nat} (h : EMB φ n' n) : ∀ i j, i < j → j < n' → φ i < φ j := h.1
theorem EMB.l {φ : Nat → Nat} {n' n : Nat} (h : EMB φ n' n) : ∀ j, j < n' → φ j < n := h.2
theorem EMB.inj {φ : Nat → Nat} {n' n i j : Nat} (h : EMB φ n' n) (hi : i < n') (hj : j < n') (e : φ i = φ j) : i = j := by
  rcases Nat.lt_trichotomy i j with z | z | z
  · have := h.m i j z hj; omega
  · exact z
  · have := h.m j i z hi; omega
theorem sumN_emb {φ : Nat → Nat} {f : Nat → Nat} : ∀ {n n' : Nat}, EMB φ n' n → (∀ i, i < n → (∀ j, j < n' → φ j ≠ i) → f i = 0) → sumN f n = sumN (fun j => f (φ j)) n'
  | 0, n', h, _ => by
    cases n' with
    | zero => rfl
    | succ m => have := h.l 0 (by omega); omega
  | n + 1, n', h, ho => by
    rw [sumN_s]
    by_cases hx : ∃ m, n' = m + 1 ∧ φ m = n
    · obtain ⟨m, rfl, hm⟩ := hx
      rw [sumN_s, hm]
      congr 1
      refine sumN_emb ⟨fun i j hi hj => h.m i j hi (by omega), fun j hj => ?_⟩ (fun i hi hq => ho i (by omega) (fun j hj => ?_))
      · have := h.m j m hj (by omega); omega
      · by_cases z : j = m
        · subst z; omega
        · exact hq j (by omega)
    · have hne : ∀ j, j < n' → φ j ≠ n := by
        intro j hj e
        obtain ⟨m, rfl⟩ : ∃ m, n' = m + 1 := ⟨n' - 1, by omega⟩
        by_cases z : j = m
        · exact hx ⟨m, rfl, by rw [← z]; exact e⟩
        · have h1 := h.m j m (by omega) (by omega)
          have h2 := h.l m (by omega)
          omega
      rw [ho n (by omega) hne, Nat.add_zero]
      refine sumN_emb ⟨h.m, fun j hj => ?_⟩ (fun i hi hq => ho i (by omega) hq)
      have h1 := h.l j hj
      have h2 := hne j hj
      omega
theorem amS_emb {φ : Nat → Nat} {n' n : Nat} {r r' : Nat → Option Nat} (h : EMB φ n' n) (hr : ∀ j, j < n' → r' j = r (φ j)) (ho : ∀ i, i < n → (∀ j, j < n' → φ j ≠ i) → rv r i = 0) (hp : 0 < sumN (rv r) n) : amS r n = φ (amS r' n') ∧ amS r' n' < n' := by
  obtain ⟨h1, h2⟩ := am_pos hp
  have hx : ∃ j, j < n' ∧ φ j = amS r n := by
    refine Classical.byContradiction fun z => ?_
    have := ho _ h1 (fun j hj e => z ⟨j, hj, e⟩)
    omega
  obtain ⟨j0, g1, g2⟩ := hx
  have hb := amS_lt r' (n := n') (by omega)
  refine ⟨?_, hb⟩
  rw [← g2]
  rcases Nat.lt_trichotomy j0 (amS r' n') with z | z | z
  · exfalso
    have k1 := amS_fst r' z
    have k2 := amS_max r (n := n) (by omega) (h.l _ hb)
    rw [← g2, ← hr _ hb, ← hr _ g1] at k2
    exact k2 k1
  · rw [z]
  · exfalso
    have k1 := h.m _ _ z g1
    rw [g2] at k1
    have k2 := amS_fst r k1
    rw [← g2, ← hr _ hb, ← hr _ g1] at k2
    exact amS_max r' (n := n') (by omega) g1 k2
theorem pkF_emb {φ : Nat → Nat} {n' n s : Nat} (h : EMB φ n' n) (hs0 : 0 < s) : ∀ (l : Nat) (r r' : Nat → Option Nat) (g g' : Nat → Nat), (∀ j, j < n' → r' j = r (φ j)) → (∀ j, j < n' → g' j = g (φ j)) → (∀ i, i < n → (∀ j, j < n' → φ j ≠ i) → rv r i = 0) → (∀ i, i < n → rv r i < s) → l * s ≤ sumN (rv r) n → ∀ j, j < n' → pkF n' l r' g' j = pkF n l r g (φ j)
  | 0, r, r', g, g', _, hg, _, _, _, j, hj => hg j hj
  | l + 1, r, r', g, g', hr, hg, ho, hs, hl, j, hj => by
    obtain ⟨h1, h2, h3, h4⟩ := pkF_step hs hl hs0
    obtain ⟨e1, e2⟩ := amS_emb h hr ho (by rw [Nat.succ_mul] at hl; omega)
    have hx : ∀ j, j < n' → ((j = amS r' n') ↔ (φ j = amS r n)) := by
      intro j hj
      rw [e1]
      exact ⟨fun z => by rw [z], fun z => h.inj hj e2 z⟩
    unfold pkF
    refine pkF_emb h hs0 l _ _ _ _ (fun j hj => ?_) (fun j hj => ?_) (fun i hi hq => ?_) h4 h3 j hj
    · by_cases z : j = amS r' n'
      · rw [if_pos z, if_pos ((hx j hj).mp z)]
      · rw [if_neg z, if_neg (fun w => z ((hx j hj).mpr w))]; exact hr j hj
    · by_cases z : j = amS r' n'
      · rw [if_pos z, if_pos ((hx j hj).mp z), hg j hj]
      · rw [if_neg z, if_neg (fun w => z ((hx j hj).mpr w))]; exact hg j hj
    · have := ho i hi hq
      unfold rv at this ⊢
      by_cases z : i = amS r n
      · simp [z]
      · simp only [if_neg z]; exact this
theorem divS_emb {φ : Nat → Nat} {n' n m : Nat} {p p' : Nat → Nat} (h : EMB φ n' n) (hp : ∀ j, j < n' → p' j = p (φ j)) (ho : ∀ i, i < n → (∀ j, j < n' → φ j ≠ i) → p i = 0) {j : Nat} (hj : j < n') : divS p' n' m j = divS p n m (φ j) := by
  have hs : sumN p' n' = sumN p n := by rw [sumN_emb h ho]; exact sumN_congr hp
  unfold divS
  rw [hs]
  by_cases h1 : sumN p n ≤ m
  · rw [if_pos h1, if_pos h1]; exact hp j hj
  · rw [if_neg h1, if_neg h1]
    have h0 : 0 < sumN p n := by omega
    have h2 : sumN (fun i => m * p' i / sumN p n) n' = sumN (fun i => m * p i / sumN p n) n := by
      rw [sumN_emb (f := fun i => m * p i / sumN p n) h (fun i hi hq => by simp only [ho i hi hq, Nat.mul_zero, Nat.zero_div])]
      exact sumN_congr (fun i hi => by rw [hp i hi])
    rw [h2]
    exact pkF_emb h h0 _ _ _ _ _ (fun j hj => by rw [hp j hj]) (fun j hj => by rw [hp j hj]) (fun i hi hq => by rw [rv_some]; simp only [ho i hi hq, Nat.mul_zero, Nat.zero_mod]) (fun i _ => Nat.mod_lt _ h0) (by rw [rv_some, left_mul h0]; exact Nat.le_refl _) j hj
/-- those of n that are so, in their order -/
def flt (P : Nat → Bool) (n : Nat) : List Nat := (List.range n).filter P
theorem flt_s {P : Nat → Bool} {n : Nat} : flt P (n + 1) = flt P n ++ (if P n = true then [n] else []) := by
  unfold flt
  rw [List.range_succ, List.filter_append]
  congr 1
  by_cases h : P n = true <;> simp [h]
theorem flt_1 {P : Nat → Bool} {n : Nat} (h : P n = true) : flt P (n + 1) = flt P n ++ [n] := by rw [flt_s, if_pos h]
theorem flt_0 {P : Nat → Bool} {n : Nat} (h : ¬ P n = true) : flt P (n + 1) = flt P n := by rw [flt_s, if_neg h, List.append_nil]
theorem flt_len {P : Nat → Bool} : ∀ n, (flt P n).length ≤ n
  | 0 => Nat.le_refl _
  | n + 1 => by
    have := flt_len (P := P) n
    by_cases h : P n = true
    · rw [flt_1 h, List.length_append]; simp; omega
    · rw [flt_0 h]; omega
theorem flt_EMB {P : Nat → Bool} : ∀ n, EMB (fun j => (flt P n).getD j 0) (flt P n).length n
  | 0 => ⟨fun i j _ h => absurd h (Nat.not_lt_zero _), fun j h => absurd h (Nat.not_lt_zero _)⟩
  | n + 1 => by
    have ih := flt_EMB (P := P) n
    by_cases h : P n = true
    · rw [flt_1 h]
      have hl : (flt P n ++ [n]).length = (flt P n).length + 1 := by rw [List.length_append]; rfl
      rw [hl]
      refine ⟨fun i j hi hj => ?_, fun j hj => ?_⟩
      · show (flt P n ++ [n]).getD i 0 < (flt P n ++ [n]).getD j 0
        rw [getD_app (by omega), getD_app hj, if_pos (by omega)]
        by_cases z : j < (flt P n).length
        · rw [if_pos z]; exact ih.m i j hi z
        · rw [if_neg z]; exact ih.l i (by omega)
      · show (flt P n ++ [n]).getD j 0 < n + 1
        rw [getD_app hj]
        by_cases z : j < (flt P n).length
        · rw [if_pos z]; have := ih.l j z; omega
        · rw [if_neg z]; omega
    · rw [flt_0 h]
      exact ⟨ih.m, fun j hj => Nat.lt_succ_of_lt (ih.l j hj)⟩
theorem flt_pre {P : Nat → Bool} {a : Nat} : ∀ {n : Nat}, a ≤ n → ∃ r, flt P n = flt P a ++ r
  | 0, h => ⟨[], by rw [show a = 0 by omega, List.append_nil]⟩
  | n + 1, h => by
    by_cases z : a = n + 1
    · exact ⟨[], by rw [z, List.append_nil]⟩
    · obtain ⟨r, hr⟩ := flt_pre (P := P) (a := a) (n := n) (by omega)
      rw [flt_s, hr]
      exact ⟨_, by rw [List.append_assoc]⟩
theorem flt_at {P : Nat → Bool} {a n : Nat} (h : a < n) (hg : P a = true) : (flt P a).length < (flt P n).length ∧ (flt P n).getD (flt P a).length 0 = a := by
  obtain ⟨r, hr⟩ := flt_pre (P := P) (a := a + 1) (n := n) h
  rw [flt_1 hg] at hr
  rw [hr]
  constructor
  · simp
  · rw [List.append_assoc]
    simp [List.getD_eq_getElem?_getD]
theorem flt_no {P : Nat → Bool} {n i : Nat} (hi : i < n) (h : ∀ j, j < (flt P n).length → (flt P n).getD j 0 ≠ i) : ¬ P i = true := by
  intro z
  obtain ⟨h1, h2⟩ := flt_at hi z
  exact h _ h1 h2
