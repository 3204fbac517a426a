/-! the class's step -/
def wsL : List Nat := [115, 105, 110, 103, 108, 101, 32, 106, 111, 105, 110, 116, 32, 116, 114, 117, 115, 116, 32, 112, 108, 97, 110, 32, 102, 105, 114, 109, 32, 112, 101, 114, 115, 111, 110, 32, 98, 97, 110, 107, 32, 108, 105, 109, 105, 116, 32, 103, 114, 97, 99, 101, 32, 108, 111, 97, 110, 32, 97, 116, 32, 111, 102, 32, 102, 111, 114, 32, 116, 101, 114, 109, 32, 112, 117, 116, 32, 116, 97, 107, 101, 32, 109, 101, 114, 103, 101, 32, 105, 110, 116, 111, 32, 109, 111, 110, 116, 104, 115, 32, 112, 97, 121, 32, 102, 97, 105, 108, 32]
def wsW (i : Nat) : Nat := wsL.getD i 0
def koL : List Nat := [0, 7, 13, 19, 24, 29, 36, 41, 47, 53, 58, 61, 64, 68, 73, 77, 82, 88, 93, 100, 104, 109]
def klL : List Nat := [6, 5, 5, 4, 4, 6, 4, 5, 5, 4, 2, 2, 3, 4, 3, 4, 5, 4, 6, 3, 4]
def ko (j : Nat) : Nat := koL.getD j 0
def kl (j : Nat) : Nat := klL.getD j 0
theorem ws_len : slen 0 = some (nI 109) := by decide +kernel
theorem ws_ch : ∀ i, i < 109 → sch 0 (nI i) = some (nI (wsW i)) := by decide +kernel
theorem kf_1 : ∀ j, j < 21 → ko (j + 1) = ko j + kl j + 1 ∧ kl j ≤ 6 ∧ 0 < kl j ∧ wsW (ko j + kl j) = 32 ∧ ko j + kl j < 109 ∧ nmF (fun i => wsW (ko j + i) - 96) (kl j) = kwc j := by decide +kernel
theorem kf_2 : ∀ j, j < 21 → ∀ i, i < kl j → 97 ≤ wsW (ko j + i) ∧ wsW (ko j + i) ≤ 122 := by decide +kernel
section RS
variable {u : gM} {B : Nat → Nat} {p q : Nat}
def wMt (B : Nat → Nat) (p q j k : Nat) : Prop := ∀ i, i < k → p + i < q ∧ B (p + i) = wsW (ko j + i)
theorem q_seg {g j : Nat} (hp : u.1 1 9 = nI p) (hq : u.1 1 10 = nI q) (hpq : p ≤ q) (hq7 : q ≤ 700) (hB : ∀ i, p ≤ i → i < q → u.1 2 i = nI (B i) ∧ B i < 128) (hj : j < 21) : ∀ (r k a : Nat) (al : Int32), k + r = kl j → ((al = nI 1 ∧ a = p + k ∧ p + k ≤ q ∧ wMt B p q j k) ∨ (al = nI 0 ∧ ¬ wMt B p q j k)) →
    ((wMt B p q j (kl j) ∧ p + kl j = q) ∧ X9_reserved_l12 u (g + (r + 1)) (nI j) (nI a) al (nI (ko j + k)) = some (nI j)) ∨
    (¬ (wMt B p q j (kl j) ∧ p + kl j = q) ∧ X9_reserved_l12 u (g + (r + 1)) (nI j) (nI a) al (nI (ko j + k)) = X9_reserved_l12 u g (nI (j + 1)) (nI p) (nI 1) (nI (ko (j + 1)))) := by
  obtain ⟨f1, f2, f3, f4, f5, f6⟩ := kf_1 j hj
  intro r
  induction r with
  | zero =>
    intro k a al hk hs
    have hk' : k = kl j := by omega
    subst hk'
    have e0 : X9_reserved_l12 u (g + (0 + 1)) (nI j) (nI a) al (nI (ko j + kl j)) = X9_reserved_b12 u (X9_reserved_l12 u g) (nI j) (nI a) al (nI (ko j + kl j)) := rfl
    have z : ¬ (nI 109 : Int32) ≤ nI (ko j + kl j) := by rw [nI_leI (by omega) (by omega)]; omega
    have no : ∀ x : Int32, X9_reserved_b52 u (X9_reserved_l12 u g) (nI j) (nI (ko j + kl j)) = X9_reserved_l12 u g (nI (j + 1)) (nI p) (nI 1) (nI (ko (j + 1))) := by
      intro _
      unfold X9_reserved_b52 X9_reserved_b96
      rw [hp, nI_s, nI_s, f1]
      rfl
    rw [e0]
    unfold X9_reserved_b12
    rw [bnd ws_len, if_neg z, bnd (ws_ch _ f5), f4, if_pos (show (nI 32 : Int32) = 32 from rfl)]
    rcases hs with ⟨rfl, rfl, h3, h4⟩ | ⟨rfl, h4⟩
    · rw [if_neg n10, hq]
      by_cases w : p + kl j = q
      · rw [if_pos (by rw [w])]
        exact Or.inl ⟨⟨h4, w⟩, rfl⟩
      · rw [if_neg (by rw [nI_eq (by omega) (by omega)]; exact w), no 0]
        exact Or.inr ⟨fun z => w z.2, rfl⟩
    · rw [if_pos z00, no 0]
      exact Or.inr ⟨fun z => h4 z.1, rfl⟩
  | succ r ih =>
    intro k a al hk hs
    obtain ⟨c1, c2⟩ := kf_2 j hj k (by omega)
    have e0 : X9_reserved_l12 u (g + (r + 1 + 1)) (nI j) (nI a) al (nI (ko j + k)) = X9_reserved_b12 u (X9_reserved_l12 u (g + (r + 1))) (nI j) (nI a) al (nI (ko j + k)) := rfl
    have z : ¬ (nI 109 : Int32) ≤ nI (ko j + k) := by rw [nI_leI (by omega) (by omega)]; omega
    have no : ¬ wMt B p q j (k + 1) → ((wMt B p q j (kl j) ∧ p + kl j = q) ∧ X9_reserved_b94 u (X9_reserved_l12 u (g + (r + 1))) (nI j) (nI a) (nI (ko j + k)) = some (nI j)) ∨ (¬ (wMt B p q j (kl j) ∧ p + kl j = q) ∧ X9_reserved_b94 u (X9_reserved_l12 u (g + (r + 1))) (nI j) (nI a) (nI (ko j + k)) = X9_reserved_l12 u g (nI (j + 1)) (nI p) (nI 1) (nI (ko (j + 1)))) := by
      intro hn
      have := ih (k + 1) a (nI 0) (by omega) (Or.inr ⟨rfl, hn⟩)
      unfold X9_reserved_b94 X9_reserved_b96
      rw [nI_s]
      exact this
    rw [e0]
    unfold X9_reserved_b12
    rw [bnd ws_len, if_neg z, bnd (ws_ch _ (by omega)), if_neg (show ¬ (nI (wsW (ko j + k)) : Int32) = 32 by rw [nI_lit, nI_eq (by omega) (by omega)]; omega)]
    rcases hs with ⟨rfl, rfl, h3, h4⟩ | ⟨rfl, h4⟩
    · rw [if_neg n10, hq]
      by_cases w : p + k = q
      · rw [if_pos (show nI q ≤ nI (p + k) by rw [w]; exact Int32.le_refl _)]
        exact no (fun y => by have := (y k (by omega)).1; omega)
      · obtain ⟨b1, b2⟩ := hB (p + k) (by omega) (by omega)
        rw [if_neg (show ¬ nI q ≤ nI (p + k) by rw [nI_leI (by omega) (by omega)]; omega), bnd (aC2 (by omega)), b1]
        by_cases y : B (p + k) = wsW (ko j + k)
        · rw [if_pos (by rw [y])]
          unfold X9_reserved_b96
          rw [nI_s, nI_s]
          exact ih (k + 1) (p + k + 1) (nI 1) (by omega) (Or.inl ⟨rfl, rfl, by omega, fun i hi => by
            by_cases x : i = k
            · rw [x]; exact ⟨by omega, y⟩
            · exact h4 i (by omega)⟩)
        · rw [if_neg (by rw [nI_eq (by omega) (by omega)]; exact y)]
          exact no (fun x => y (x k (by omega)).2)
    · rw [if_pos z00]
      exact no (fun y => h4 (fun i hi => y i (by omega)))
theorem wMt_iff {j : Nat} (hj : j < 21) (hpq : p ≤ q) (hl : ∀ i, p ≤ i → i < q → isL (B i) = true) : (wMt B p q j (kl j) ∧ p + kl j = q) ↔ (q - p ≤ 8 ∧ kwc j = nmF (fun i => B (p + i) - 96) (min (q - p) 8)) := by
  obtain ⟨f1, f2, f3, f4, f5, f6⟩ := kf_1 j hj
  have g1 : ∀ i, i < q - p → 0 < B (p + i) - 96 ∧ B (p + i) - 96 ≤ 26 := fun i hi => by
    have := isL_i.mp (hl (p + i) (by omega) (by omega))
    omega
  have g2 : ∀ i, i < kl j → 0 < wsW (ko j + i) - 96 ∧ wsW (ko j + i) - 96 ≤ 26 := fun i hi => by
    have := kf_2 j hj i hi
    omega
  constructor
  · rintro ⟨h1, h2⟩
    refine ⟨by omega, ?_⟩
    rw [← f6, show min (q - p) 8 = kl j by omega]
    exact nmF_cg (fun i hi => by rw [(h1 i hi).2])
  · rintro ⟨h1, h2⟩
    rw [← f6, show min (q - p) 8 = q - p by omega] at h2
    obtain ⟨h3, h4⟩ := nmF_inj g2 g1 h2
    refine ⟨fun i hi => ⟨by omega, ?_⟩, by omega⟩
    have a1 := h4 i hi
    have a2 := kf_2 j hj i hi
    have a3 := isL_i.mp (hl (p + i) (by omega) (by omega))
    omega
theorem q_rsv_l (hp : u.1 1 9 = nI p) (hq : u.1 1 10 = nI q) (hpq : p ≤ q) (hq7 : q ≤ 700) (hl : ∀ i, p ≤ i → i < q → isL (B i) = true) (hB : ∀ i, p ≤ i → i < q → u.1 2 i = nI (B i)) : ∀ (r j f : Nat), j + r = 21 → 110 ≤ f + ko j → X9_reserved_l12 u f (nI j) (nI p) (nI 1) (nI (ko j)) = some (oI (if q - p ≤ 8 then fstN (fun j => kwc j = nmF (fun i => B (p + i) - 96) (min (q - p) 8)) j r else none)) := by
  intro r
  induction r with
  | zero =>
    intro j f h1 h2
    have hj : j = 21 := by omega
    subst hj
    have e : ko 21 = 109 := by decide
    obtain ⟨f', rfl⟩ : ∃ f', f = f' + 1 := ⟨f - 1, by omega⟩
    show X9_reserved_b12 u (X9_reserved_l12 u f') (nI 21) (nI p) (nI 1) (nI (ko 21)) = _
    unfold X9_reserved_b12
    rw [bnd ws_len, e, if_pos (Int32.le_refl _)]
    split <;> rfl
  | succ r ih =>
    intro j f h1 h2
    have hj : j < 21 := by omega
    obtain ⟨f1, f2, f3, f4, f5, f6⟩ := kf_1 j hj
    obtain ⟨g, rfl⟩ : ∃ g, f = g + (kl j + 1) := ⟨f - (kl j + 1), by omega⟩
    have h3 := q_seg (B := B) (g := g) hp hq hpq hq7 (fun i i1 i2 => ⟨hB i i1 i2, by have := isL_i.mp (hl i i1 i2); omega⟩) hj (kl j) 0 p (nI 1) (by omega) (Or.inl ⟨rfl, rfl, by omega, fun i hi => absurd hi (Nat.not_lt_zero _)⟩)
    rw [wMt_iff hj hpq hl, show ko j + 0 = ko j from rfl] at h3
    rcases h3 with ⟨⟨a1, a2⟩, a3⟩ | ⟨a1, a3⟩
    · rw [a3, if_pos a1]
      unfold fstN
      rw [if_pos a2]
      rfl
    · rw [a3, ih (j + 1) g (by omega) (by omega)]
      by_cases w : q - p ≤ 8
      · rw [if_pos w, if_pos w]
        conv => rhs; unfold fstN
        rw [if_neg (fun z => a1 ⟨w, z⟩)]
      · rw [if_neg w, if_neg w]
theorem q_rsv (hp : u.1 1 9 = nI p) (hq : u.1 1 10 = nI q) (hpq : p ≤ q) (hq7 : q ≤ 700) (hl : ∀ i, p ≤ i → i < q → isL (B i) = true) (hB : ∀ i, p ≤ i → i < q → u.1 2 i = nI (B i)) : X9_reserved u = some (oI (if q - p ≤ 8 then kwS (nmF (fun i => B (p + i) - 96) (min (q - p) 8)) else none)) := by
  unfold X9_reserved
  rw [hp]
  exact q_rsv_l hp hq hpq hq7 hl hB 21 0 fz (by omega) (by show 110 ≤ 4000 + 0; omega)
end RS
