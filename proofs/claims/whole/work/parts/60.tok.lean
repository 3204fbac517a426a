/-! what stands on THE TAPE -/
def isB (c : Nat) : Bool := decide (c = 32) || decide (c = 10)
def isL (c : Nat) : Bool := decide (97 ≤ c) && decide (c ≤ 122)
def isD (c : Nat) : Bool := decide (48 ≤ c) && decide (c ≤ 57)
theorem isB_i {c : Nat} : isB c = true ↔ c = 32 ∨ c = 10 := by unfold isB; simp
theorem isL_i {c : Nat} : isL c = true ↔ 97 ≤ c ∧ c ≤ 122 := by unfold isL; simp
theorem isD_i {c : Nat} : isD c = true ↔ 48 ≤ c ∧ c ≤ 57 := by unfold isD; simp
def spF (P : Nat → Bool) : Nat → Nat → Nat
  | 0, n => n
  | k + 1, n => if P n = true then spF P k (n + 1) else n
/-- how far it goes on so -/
def spE (P : Nat → Bool) (L n : Nat) : Nat := spF P (L - n) n
theorem spE_s {P : Nat → Bool} {L n : Nat} (h : n < L) (hp : P n = true) : spE P L n = spE P L (n + 1) := by
  unfold spE
  rw [show L - n = (L - (n + 1)) + 1 by omega]
  show (if P n = true then _ else _) = _
  rw [if_pos hp]
theorem spE_0 {P : Nat → Bool} {L n : Nat} (hp : ¬ (n < L ∧ P n = true)) : spE P L n = n := by
  unfold spE
  cases h : L - n with
  | zero => rfl
  | succ k =>
    show (if P n = true then _ else _) = _
    rw [if_neg (fun z => hp ⟨by omega, z⟩)]
theorem spE_ge {P : Nat → Bool} {L : Nat} : ∀ (k n : Nat), L - n ≤ k → n ≤ spE P L n ∧ (n ≤ L → spE P L n ≤ L) ∧ (∀ i, n ≤ i → i < spE P L n → P i = true ∧ i < L) ∧ (spE P L n < L → ¬ P (spE P L n) = true) := by
  intro k
  induction k with
  | zero =>
    intro n h
    rw [spE_0 (by omega)]
    exact ⟨Nat.le_refl _, fun h => h, fun i h1 h2 => by omega, fun h => by omega⟩
  | succ k ih =>
    intro n h
    by_cases hp : n < L ∧ P n = true
    · rw [spE_s hp.1 hp.2]
      obtain ⟨h1, h2, h3, h4⟩ := ih (n + 1) (by omega)
      refine ⟨by omega, fun _ => h2 (by omega), fun i i1 i2 => ?_, h4⟩
      by_cases z : i = n
      · rw [z]; exact ⟨hp.2, hp.1⟩
      · exact h3 i (by omega) i2
    · rw [spE_0 hp]
      exact ⟨Nat.le_refl _, fun h => h, fun i h1 h2 => by omega, fun h z => hp ⟨h, z⟩⟩
def nmF (g : Nat → Nat) : Nat → Nat
  | 0 => 0
  | k + 1 => nmF g k * 27 + g k
def nuF (g : Nat → Nat) : Nat → Nat
  | 0 => 0
  | k + 1 => nuF g k * 10 + g k
theorem nmF_s {g : Nat → Nat} {k : Nat} : nmF g (k + 1) = nmF g k * 27 + g k := rfl
theorem nuF_s {g : Nat → Nat} {k : Nat} : nuF g (k + 1) = nuF g k * 10 + g k := rfl
theorem nmF_lt {g : Nat → Nat} : ∀ {k : Nat}, (∀ i, i < k → g i ≤ 26) → nmF g k < 27 ^ k
  | 0, _ => by simp [nmF]
  | k + 1, h => by
    have h1 := nmF_lt (g := g) (k := k) (fun i hi => h i (by omega))
    have h2 := h k (by omega)
    rw [nmF_s, Nat.pow_succ]
    omega
theorem nuF_lt {g : Nat → Nat} : ∀ {k : Nat}, (∀ i, i < k → g i ≤ 9) → nuF g k < 10 ^ k
  | 0, _ => by simp [nuF]
  | k + 1, h => by
    have h1 := nuF_lt (g := g) (k := k) (fun i hi => h i (by omega))
    have h2 := h k (by omega)
    rw [nuF_s, Nat.pow_succ]
    omega
theorem nmF_cg {g g' : Nat → Nat} : ∀ {k : Nat}, (∀ i, i < k → g i = g' i) → nmF g k = nmF g' k
  | 0, _ => rfl
  | k + 1, h => by rw [nmF_s, nmF_s, nmF_cg (fun i hi => h i (by omega)), h k (by omega)]
/-- a NAME's number tells its letters -/
theorem nmF_inj {g g' : Nat → Nat} : ∀ {k k' : Nat}, (∀ i, i < k → 0 < g i ∧ g i ≤ 26) → (∀ i, i < k' → 0 < g' i ∧ g' i ≤ 26) → nmF g k = nmF g' k' → k = k' ∧ ∀ i, i < k → g i = g' i
  | 0, 0, _, _, _ => ⟨rfl, fun i hi => absurd hi (Nat.not_lt_zero _)⟩
  | 0, k' + 1, _, h', h => by
    have := h' k' (by omega)
    rw [nmF_s] at h
    have h0 : nmF g 0 = 0 := rfl
    omega
  | k + 1, 0, hg, _, h => by
    have := hg k (by omega)
    rw [nmF_s] at h
    have h0 : nmF g' 0 = 0 := rfl
    omega
  | k + 1, k' + 1, hg, h', h => by
    have h1 := hg k (by omega)
    have h2 := h' k' (by omega)
    rw [nmF_s, nmF_s] at h
    have h3 : g k = g' k' := by omega
    obtain ⟨h4, h5⟩ := nmF_inj (g := g) (g' := g') (k := k) (k' := k') (fun i hi => hg i (by omega)) (fun i hi => h' i (by omega)) (by omega)
    refine ⟨by omega, fun i hi => ?_⟩
    by_cases z : i = k
    · rw [z, h3, h4]
    · exact h5 i (by omega)
theorem nmF_pos {g : Nat → Nat} {k : Nat} (h : ∀ i, i < k → 0 < g i) (hk : 0 < k) : 0 < nmF g k := by
  obtain ⟨j, rfl⟩ : ∃ j, k = j + 1 := ⟨k - 1, by omega⟩
  have := h j (by omega)
  rw [nmF_s]
  omega
/-- what stands there: END 0, WORD 1, NUMBER 2, SIGN 3; from where, to where -/
abbrev tkT : Type := Nat × Nat × Nat
def tkN (B : Nat → Nat) (L n : Nat) : tkT :=
  if spE (fun i => isB (B i)) L n < L then
    (if isL (B (spE (fun i => isB (B i)) L n)) = true then (1, spE (fun i => isB (B i)) L n, spE (fun i => isL (B i)) L (spE (fun i => isB (B i)) L n))
    else if isD (B (spE (fun i => isB (B i)) L n)) = true then (2, spE (fun i => isB (B i)) L n, spE (fun i => isD (B i)) L (spE (fun i => isB (B i)) L n))
    else (3, spE (fun i => isB (B i)) L n, spE (fun i => isB (B i)) L n + 1))
  else (0, spE (fun i => isB (B i)) L n, spE (fun i => isB (B i)) L n)
def kwL : List Nat := [277693196, 5616614, 10998956, 323717, 125158, 232608281, 40484, 6564179, 4075196, 247172, 47, 411, 4797, 397804, 12251, 394691, 7020464, 187908, 194797783, 11716, 119082]
def kwc (j : Nat) : Nat := kwL.getD j 0
/-- which of the WORDS that are no NAMES has this number -/
def kwS (n : Nat) : Option Nat := fstN (fun j => kwc j = n) 0 21
def tnm (B : Nat → Nat) (t : tkT) : Nat := if t.1 = 1 then nmF (fun i => B (t.2.1 + i) - 96) (min (t.2.2 - t.2.1) 8) else 0
def tnu (B : Nat → Nat) (t : tkT) : Nat := if t.1 = 2 then nuF (fun i => B (t.2.1 + i) - 48) (min (t.2.2 - t.2.1) 9) else 0
def tkw (B : Nat → Nat) (t : tkT) : Option Nat := if t.1 = 1 ∧ t.2.2 - t.2.1 ≤ 8 then kwS (tnm B t) else none
abbrev isNm (B : Nat → Nat) (t : tkT) : Prop := t.1 = 1 ∧ t.2.2 - t.2.1 ≤ 8 ∧ tkw B t = none
abbrev isNu (t : tkT) : Prop := t.1 = 2 ∧ t.2.2 - t.2.1 ≤ 9
abbrev isSc (B : Nat → Nat) (t : tkT) : Prop := t.1 = 3 ∧ B t.2.1 = 59
def srt (B : Nat → Nat) (t : tkT) : Nat :=
  if t.1 = 0 then 0 else if t.1 = 1 then (if t.2.2 - t.2.1 ≤ 8 then (if tkw B t = none then 1 else 2) else 5) else if t.1 = 2 then (if t.2.2 - t.2.1 ≤ 9 then 3 else 5) else if B t.2.1 = 59 then 4 else 5
def TKV (B : Nat → Nat) (L : Nat) (t : tkT) : Prop := (t.1 ≤ 3) ∧ (t.2.1 ≤ t.2.2) ∧ (t.2.2 ≤ L) ∧ (t.1 = 1 → t.2.1 < t.2.2 ∧ ∀ i, t.2.1 ≤ i → i < t.2.2 → isL (B i) = true) ∧ (t.1 = 2 → t.2.1 < t.2.2 ∧ ∀ i, t.2.1 ≤ i → i < t.2.2 → isD (B i) = true) ∧ (t.1 = 0 → t.2.1 = L ∧ t.2.2 = L) ∧ (t.1 ≠ 0 → t.2.1 < t.2.2)
theorem TKV.s {B : Nat → Nat} {L : Nat} {t : tkT} (h : TKV B L t) : t.1 ≤ 3 := h.1
theorem TKV.l {B : Nat → Nat} {L : Nat} {t : tkT} (h : TKV B L t) : t.2.1 ≤ t.2.2 := h.2.1
theorem TKV.m {B : Nat → Nat} {L : Nat} {t : tkT} (h : TKV B L t) : t.2.2 ≤ L := h.2.2.1
theorem TKV.w {B : Nat → Nat} {L : Nat} {t : tkT} (h : TKV B L t) : t.1 = 1 → t.2.1 < t.2.2 ∧ ∀ i, t.2.1 ≤ i → i < t.2.2 → isL (B i) = true := h.2.2.2.1
theorem TKV.n {B : Nat → Nat} {L : Nat} {t : tkT} (h : TKV B L t) : t.1 = 2 → t.2.1 < t.2.2 ∧ ∀ i, t.2.1 ≤ i → i < t.2.2 → isD (B i) = true := h.2.2.2.2.1
theorem TKV.e {B : Nat → Nat} {L : Nat} {t : tkT} (h : TKV B L t) : t.1 = 0 → t.2.1 = L ∧ t.2.2 = L := h.2.2.2.2.2.1
theorem TKV.g {B : Nat → Nat} {L : Nat} {t : tkT} (h : TKV B L t) : t.1 ≠ 0 → t.2.1 < t.2.2 := h.2.2.2.2.2.2
theorem tkN_V {B : Nat → Nat} {L n : Nat} (hn : n ≤ L) : TKV B L (tkN B L n) ∧ n ≤ (tkN B L n).2.1 := by
  obtain ⟨h1, h2, h3, h4⟩ := spE_ge (P := fun i => isB (B i)) (L := L) (L - n) n (Nat.le_refl _)
  have h2 := h2 hn
  unfold tkN
  generalize spE (fun i => isB (B i)) L n = p at *
  by_cases hp : p < L
  · rw [if_pos hp]
    by_cases hl : isL (B p) = true
    · rw [if_pos hl]
      obtain ⟨g1, g2, g3, g4⟩ := spE_ge (P := fun i => isL (B i)) (L := L) (L - p) p (Nat.le_refl _)
      have g5 : p + 1 ≤ spE (fun i => isL (B i)) L p := by
        rw [spE_s hp hl]
        exact (spE_ge (P := fun i => isL (B i)) (L := L) (L - (p + 1)) (p + 1) (Nat.le_refl _)).1
      exact ⟨⟨by show 1 ≤ 3; omega, g1, g2 (by omega), fun _ => ⟨g5, fun i i1 i2 => (g3 i i1 i2).1⟩, fun z => absurd (show 1 = 2 from z) (by decide), fun z => absurd (show 1 = 0 from z) (by decide), fun _ => g5⟩, h1⟩
    · rw [if_neg hl]
      by_cases hd : isD (B p) = true
      · rw [if_pos hd]
        obtain ⟨g1, g2, g3, g4⟩ := spE_ge (P := fun i => isD (B i)) (L := L) (L - p) p (Nat.le_refl _)
        have g5 : p + 1 ≤ spE (fun i => isD (B i)) L p := by
          rw [spE_s hp hd]
          exact (spE_ge (P := fun i => isD (B i)) (L := L) (L - (p + 1)) (p + 1) (Nat.le_refl _)).1
        exact ⟨⟨by show 2 ≤ 3; omega, g1, g2 (by omega), fun z => absurd (show 2 = 1 from z) (by decide), fun _ => ⟨g5, fun i i1 i2 => (g3 i i1 i2).1⟩, fun z => absurd (show 2 = 0 from z) (by decide), fun _ => g5⟩, h1⟩
      · rw [if_neg hd]
        exact ⟨⟨by show 3 ≤ 3; omega, by show p ≤ p + 1; omega, hp, fun z => absurd (show 3 = 1 from z) (by decide), fun z => absurd (show 3 = 2 from z) (by decide), fun z => absurd (show 3 = 0 from z) (by decide), fun _ => by show p < p + 1; omega⟩, h1⟩
  · rw [if_neg hp]
    exact ⟨⟨by show 0 ≤ 3; omega, Nat.le_refl _, h2, fun z => absurd (show 0 = 1 from z) (by decide), fun z => absurd (show 0 = 2 from z) (by decide), fun _ => ⟨by show p = L; omega, by show p = L; omega⟩, fun z => absurd rfl z⟩, h1⟩
theorem tnm_lt {B : Nat → Nat} {L : Nat} {t : tkT} (h : TKV B L t) : tnm B t < 27 ^ 8 := by
  unfold tnm
  split
  · next h1 =>
    obtain ⟨h2, h3⟩ := h.w h1
    have h4 := nmF_lt (g := fun i => B (t.2.1 + i) - 96) (k := min (t.2.2 - t.2.1) 8) (fun i hi => by
      have := isL_i.mp (h3 (t.2.1 + i) (by omega) (by omega))
      omega)
    exact Nat.lt_of_lt_of_le h4 (Nat.pow_le_pow_right (by omega) (by omega))
  · exact Nat.pow_pos (by omega)
theorem tnm_pos {B : Nat → Nat} {L : Nat} {t : tkT} (h : TKV B L t) (h1 : t.1 = 1) : 0 < tnm B t := by
  obtain ⟨h2, h3⟩ := h.w h1
  unfold tnm
  rw [if_pos h1]
  refine nmF_pos (fun i hi => ?_) (by omega)
  have := isL_i.mp (h3 (t.2.1 + i) (by omega) (by omega))
  omega
theorem tnu_lt {B : Nat → Nat} {L : Nat} {t : tkT} (h : TKV B L t) : tnu B t < 1000000000 := by
  unfold tnu
  split
  · next h1 =>
    obtain ⟨h2, h3⟩ := h.n h1
    have h4 := nuF_lt (g := fun i => B (t.2.1 + i) - 48) (k := min (t.2.2 - t.2.1) 9) (fun i hi => by
      have := isD_i.mp (h3 (t.2.1 + i) (by omega) (by omega))
      omega)
    have h5 : 10 ^ min (t.2.2 - t.2.1) 9 ≤ 10 ^ 9 := Nat.pow_le_pow_right (by omega) (by omega)
    omega
  · omega
theorem kwc_ne : ∀ i, i < 21 → ∀ j, j < 21 → kwc i = kwc j → i = j := by decide
theorem kwS_iff {n j : Nat} (hj : j < 21) : kwS n = some j ↔ kwc j = n := by
  constructor
  · intro h
    exact (fstN_some h).2.2
  · intro h
    cases hk : kwS n with
    | none => exact absurd h (fstN_none hk j (Nat.zero_le _) (by omega))
    | some i =>
      obtain ⟨-, h2, h3⟩ := fstN_some hk
      rw [kwc_ne i (by omega) j hj (by rw [h3, h])]
theorem kwS_lt {n j : Nat} (h : kwS n = some j) : j < 21 := by
  have := (fstN_some h).2.1
  omega
theorem tkw_lt {B : Nat → Nat} {t : tkT} {j : Nat} (h : tkw B t = some j) : j < 21 := by
  unfold tkw at h
  split at h
  · exact kwS_lt h
  · cases h
theorem tkw_w {B : Nat → Nat} {t : tkT} {j : Nat} (h : tkw B t = some j) : t.1 = 1 ∧ t.2.2 - t.2.1 ≤ 8 := by
  unfold tkw at h
  split at h
  · next h1 => exact h1
  · cases h
