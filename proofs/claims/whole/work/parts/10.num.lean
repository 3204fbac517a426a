/-! NUMBERS: everything as nI n, lN n; a missing one as m1 -/
theorem nI_lit (n : Nat) : (OfNat.ofNat n : Int32) = nI (OfNat.ofNat n) := rfl
theorem lN_lit (n : Nat) : (OfNat.ofNat n : Int64) = lN (OfNat.ofNat n) := rfl
/-- a number or none (-1) -/
def oI : Option Nat → Int32
  | none => -nI 1
  | some n => nI n
theorem nI_m1 {n : Nat} (h : n < 2 ^ 31) : (nI n = -nI 1) ↔ False := by
  refine ⟨fun e => ?_, False.elim⟩
  have := congrArg Int32.toInt e
  rw [nI_toInt h, show (-nI 1).toInt = -1 by decide] at this
  omega
theorem m1_nI {n : Nat} (h : n < 2 ^ 31) : (-nI 1 = nI n) ↔ False := by
  rw [eq_comm]; exact nI_m1 h
theorem m1_lt {n : Nat} (h : n < 2 ^ 31) : (-nI 1 < nI n) ↔ True := by
  refine ⟨fun _ => trivial, fun _ => ?_⟩
  rw [Int32.lt_iff_toInt_lt, nI_toInt h, show (-nI 1).toInt = -1 by decide]; omega
theorem oI_none : oI none = -nI 1 := rfl
theorem oI_some (n : Nat) : oI (some n) = nI n := rfl
theorem oI_m1 {o : Option Nat} (h : ∀ n, o = some n → n < 2 ^ 31) : (oI o = -nI 1) ↔ o = none := by
  cases o with
  | none => simp [oI]
  | some n => simp [oI, nI_m1 (h n rfl)]
theorem lN_leI {a b : Nat} (ha : a < 2 ^ 63) (hb : b < 2 ^ 63) : lN a ≤ lN b ↔ a ≤ b := pk_lLE ha hb
theorem lN_ltI {a b : Nat} (ha : a < 2 ^ 63) (hb : b < 2 ^ 63) : lN a < lN b ↔ a < b := pk_lLT ha hb
theorem lN_eqI {a b : Nat} (ha : a < 2 ^ 63) (hb : b < 2 ^ 63) : lN a = lN b ↔ a = b := pk_lEQ ha hb
theorem lg_lt {x y : Int64} : (lg_cmp x y < nI 0) ↔ x < y := by
  have h := lg_cmp_ge x y
  rw [show nI 0 = 0 from rfl, ← Int32.not_le, h, Int64.not_le]
theorem lg_ge {x y : Int64} : (nI 0 ≤ lg_cmp x y) ↔ y ≤ x := lg_cmp_ge x y
theorem lg_gt {x y : Int64} : (nI 0 < lg_cmp x y) ↔ y < x := by
  unfold lg_cmp
  by_cases h : x > y
  · simp [h]; decide
  · by_cases h2 : x = y
    · simp [h2]; decide
    · rw [if_neg h, if_neg h2]
      refine ⟨fun z => absurd z (by decide), fun z => absurd z h⟩
theorem lg_le {x y : Int64} : (lg_cmp x y ≤ nI 0) ↔ x ≤ y := by
  rw [← Int32.not_lt, lg_gt, Int64.not_lt]
theorem lg_eq {x y : Int64} : (lg_cmp x y = nI 0) ↔ x = y := by
  unfold lg_cmp
  by_cases h : x > y
  · rw [if_pos h]
    refine ⟨fun z => absurd z (by decide), fun z => ?_⟩
    subst z
    exact absurd h (Int64.lt_irrefl)
  · by_cases h2 : x = y
    · simp [h2]; decide
    · rw [if_neg h, if_neg h2]
      exact ⟨fun z => absurd z (by decide), fun z => absurd z h2⟩
/-- true and false as the machine has them -/
def b2 (P : Prop) [Decidable P] : Int32 := if P then nI 1 else nI 0
theorem b2_0 {P : Prop} [Decidable P] : (b2 P = nI 0) ↔ ¬ P := by
  unfold b2
  by_cases h : P
  · rw [if_pos h]; exact ⟨fun z => absurd z (by decide), fun z => absurd h z⟩
  · rw [if_neg h]; exact ⟨fun _ => h, fun _ => rfl⟩
theorem b2_1 {P : Prop} [Decidable P] : (b2 P = nI 1) ↔ P := by
  unfold b2
  by_cases h : P
  · rw [if_pos h]; exact ⟨fun _ => h, fun _ => rfl⟩
  · rw [if_neg h]; exact ⟨fun z => absurd z (by decide), fun z => absurd z h⟩
theorem b2_t {P : Prop} [Decidable P] (h : P) : b2 P = nI 1 := if_pos h
theorem b2_f {P : Prop} [Decidable P] (h : ¬ P) : b2 P = nI 0 := if_neg h
theorem bI_b2 {P : Prop} [Decidable P] : bI (b2 P) = some (b2 P) := by
  unfold bI
  rw [if_pos]
  by_cases h : P
  · rw [b2_t h]; right; rfl
  · rw [b2_f h]; left; rfl
/-- any int, seen as an index or not -/
theorem i_cases (x : Int32) (n : Nat) (hn : n < 2 ^ 31) : (∃ a, a < n ∧ x = nI a) ∨ x < nI 0 ∨ nI n ≤ x := by
  rcases pk_ix x hn with h | h | h
  · exact Or.inr (Or.inl h)
  · exact Or.inr (Or.inr h)
  · exact Or.inl h
theorem nI_inj {a b : Nat} (ha : a < 2 ^ 31) (hb : b < 2 ^ 31) (h : nI a = nI b) : a = b := (nI_eq ha hb).mp h
theorem i_nlt (n : Nat) (h : n < 2 ^ 31) : ¬ nI n < nI 0 := nI_pos h
theorem i_divN {a d : Nat} (ha : a < 2 ^ 31) (h0 : 0 < d) (hd : d < 2 ^ 31) : nI a / nI d = nI (a / d) := pk_div ha h0 hd
theorem i_remN {a d : Nat} (ha : a < 2 ^ 31) (h0 : 0 < d) (hd : d < 2 ^ 31) : nI a - nI a / nI d * nI d = nI (a % d) := pk_rem ha h0 hd
theorem fz_lt {n : Nat} (h : n < 4000) : n < fz := h
/-- rows, read and written at a place that is there -/
theorem aI_at {sk : List gE} {u : gM} {r n : Nat} {rs : List Nat} (h : sk[r]? = some (.inr (0, n, rs))) (hn : n < 2 ^ 31) {a : Nat} (ha : a < n) : aI sk u r (nI a) = some (u.1 r a) := by
  unfold aI
  rw [h]
  have h1 : (nI a).toNatClampNeg = a := nI_clamp (by omega)
  simp only [h1]
  rw [if_neg]
  intro z
  rcases z with z | z
  · exact nI_pos (by omega) z
  · omega
theorem aJ_at {sk : List gE} {u : gM} {r n : Nat} {rs : List Nat} (h : sk[r]? = some (.inr (1, n, rs))) (hn : n < 2 ^ 31) {a : Nat} (ha : a < n) : aJ sk u r (nI a) = some (u.2 r a) := by
  unfold aJ
  rw [h]
  have h1 : (nI a).toNatClampNeg = a := nI_clamp (by omega)
  simp only [h1]
  rw [if_neg]
  intro z
  rcases z with z | z
  · exact nI_pos (by omega) z
  · omega
theorem aB_at {sk : List gE} {u : gM} {r n : Nat} {rs : List Nat} (h : sk[r]? = some (.inr (2, n, rs))) (hn : n < 2 ^ 31) {a : Nat} (ha : a < n) : aB sk u r (nI a) = some (u.1 r a) := by
  unfold aB
  rw [h]
  have h1 : (nI a).toNatClampNeg = a := nI_clamp (by omega)
  simp only [h1]
  rw [if_neg]
  intro z
  rcases z with z | z
  · exact nI_pos (by omega) z
  · omega
theorem sI_at {sk : List gE} {u : gM} {r n : Nat} {rs : List Nat} (h : sk[r]? = some (.inr (0, n, rs))) (hn : n < 2 ^ 31) {a : Nat} (ha : a < n) {v : Int32} : sI sk u r (nI a) v = some (upI u r a v) := by
  unfold sI
  rw [h]
  have h1 : (nI a).toNatClampNeg = a := nI_clamp (by omega)
  simp only [h1]
  rw [if_neg]
  intro z
  rcases z with z | z
  · exact nI_pos (by omega) z
  · omega
theorem sJ_at {sk : List gE} {u : gM} {r n : Nat} {rs : List Nat} (h : sk[r]? = some (.inr (1, n, rs))) (hn : n < 2 ^ 31) {a : Nat} (ha : a < n) {v : Int64} : sJ sk u r (nI a) v = some (upJ u r a v) := by
  unfold sJ
  rw [h]
  have h1 : (nI a).toNatClampNeg = a := nI_clamp (by omega)
  simp only [h1]
  rw [if_neg]
  intro z
  rcases z with z | z
  · exact nI_pos (by omega) z
  · omega
theorem sB_at {sk : List gE} {u : gM} {r n : Nat} {rs : List Nat} (h : sk[r]? = some (.inr (2, n, rs))) (hn : n < 2 ^ 31) {a : Nat} (ha : a < n) {v : Int32} : sB sk u r (nI a) v = some (upI u r a v.toInt8.toInt32) := by
  unfold sB
  rw [h]
  have h1 : (nI a).toNatClampNeg = a := nI_clamp (by omega)
  simp only [h1]
  rw [if_neg]
  intro z
  rcases z with z | z
  · exact nI_pos (by omega) z
  · omega
theorem upI_at {u : gM} {k j : Nat} {v : Int32} : (upI u k j v).1 k j = v := by simp [upI]
theorem upI_j {u : gM} {k j i : Nat} {v : Int32} (h : i ≠ j) : (upI u k j v).1 k i = u.1 k i := by simp [upI, h]
theorem upI_k {u : gM} {k j a : Nat} {v : Int32} (h : a ≠ k) : (upI u k j v).1 a = u.1 a := by funext i; simp [upI, h]
theorem upI_2 {u : gM} {k j : Nat} {v : Int32} : (upI u k j v).2 = u.2 := rfl
theorem upJ_at {u : gM} {k j : Nat} {v : Int64} : (upJ u k j v).2 k j = v := by simp [upJ]
theorem upJ_j {u : gM} {k j i : Nat} {v : Int64} (h : i ≠ j) : (upJ u k j v).2 k i = u.2 k i := by simp [upJ, h]
theorem upJ_k {u : gM} {k j a : Nat} {v : Int64} (h : a ≠ k) : (upJ u k j v).2 a = u.2 a := by funext i; simp [upJ, h]
theorem upJ_1 {u : gM} {k j : Nat} {v : Int64} : (upJ u k j v).1 = u.1 := rfl
theorem upRI_k {u : gM} {k a : Nat} {f : Nat → Int32} (h : a ≠ k) : (upRI u k f).1 a = u.1 a := by simp [upRI, h]
theorem upRI_2 {u : gM} {k : Nat} {f : Nat → Int32} : (upRI u k f).2 = u.2 := rfl
theorem upRJ_k {u : gM} {k a : Nat} {f : Nat → Int64} (h : a ≠ k) : (upRJ u k f).2 a = u.2 a := by simp [upRJ, h]
theorem upRJ_1 {u : gM} {k : Nat} {f : Nat → Int64} : (upRJ u k f).1 = u.1 := rfl
theorem upI_e {u : gM} {k j a i : Nat} {v : Int32} : (upI u k j v).1 a i = if a = k ∧ i = j then v else u.1 a i := by
  by_cases h : a = k <;> by_cases h2 : i = j <;> simp [upI, h, h2]
theorem upJ_e {u : gM} {k j a i : Nat} {v : Int64} : (upJ u k j v).2 a i = if a = k ∧ i = j then v else u.2 a i := by
  by_cases h : a = k <;> by_cases h2 : i = j <;> simp [upJ, h, h2]
theorem i_modN {a d : Nat} : nI a - nI (a / d * d) = nI (a % d) := by
  rw [pk_sub (Nat.div_mul_le_self a d)]
  congr 1
  have := Nat.div_add_mod a d
  rw [Nat.mul_comm] at this
  omega
theorem mxI_N {a b : Nat} (ha : a < 2 ^ 31) (hb : b < 2 ^ 31) : mxI (nI a) (nI b) = nI (max a b) := by
  unfold mxI
  by_cases h : a < b
  · rw [if_pos (nI_lt h hb), Nat.max_eq_right (by omega)]
  · rw [if_neg (by rw [nI_ltI ha hb]; exact h), Nat.max_eq_left (by omega)]
theorem mnI_N {a b : Nat} (ha : a < 2 ^ 31) (hb : b < 2 ^ 31) : mnI (nI a) (nI b) = nI (min a b) := by
  unfold mnI
  by_cases h : b < a
  · rw [if_pos (nI_lt h ha), Nat.min_eq_right (by omega)]
  · rw [if_neg (by rw [nI_ltI hb ha]; exact h), Nat.min_eq_left (by omega)]
theorem mxJ_N {a b : Nat} (ha : a < 2 ^ 63) (hb : b < 2 ^ 63) : mxJ (lN a) (lN b) = lN (max a b) := by
  unfold mxJ
  by_cases h : b < a
  · rw [if_pos ((lN_ltI hb ha).mpr h), Nat.max_eq_left (by omega)]
  · rw [if_neg (by rw [lN_ltI hb ha]; exact h), Nat.max_eq_right (by omega)]
theorem mnJ_N {a b : Nat} (ha : a < 2 ^ 63) (hb : b < 2 ^ 63) : mnJ (lN a) (lN b) = lN (min a b) := by
  unfold mnJ
  by_cases h : b < a
  · rw [if_pos ((lN_ltI hb ha).mpr h), Nat.min_eq_right (by omega)]
  · rw [if_neg (by rw [lN_ltI hb ha]; exact h), Nat.min_eq_left (by omega)]
/-- the first place from i on, of n places, that is so -/
def fstN (P : Nat → Prop) [DecidablePred P] : Nat → Nat → Option Nat
  | _, 0 => none
  | i, n + 1 => if P i then some i else fstN P (i + 1) n
theorem fstN_some {P : Nat → Prop} [DecidablePred P] : ∀ {n i k : Nat}, fstN P i n = some k → i ≤ k ∧ k < i + n ∧ P k
  | 0, i, k, h => by simp [fstN] at h
  | n + 1, i, k, h => by
    unfold fstN at h
    by_cases hp : P i
    · rw [if_pos hp] at h
      cases h
      exact ⟨Nat.le_refl _, by omega, hp⟩
    · rw [if_neg hp] at h
      obtain ⟨h1, h2, h3⟩ := fstN_some h
      exact ⟨by omega, by omega, h3⟩
theorem fstN_none {P : Nat → Prop} [DecidablePred P] : ∀ {n i : Nat}, fstN P i n = none → ∀ k, i ≤ k → k < i + n → ¬ P k
  | 0, i, _, k, h1, h2 => by omega
  | n + 1, i, h, k, h1, h2 => by
    unfold fstN at h
    by_cases hp : P i
    · rw [if_pos hp] at h; cases h
    · rw [if_neg hp] at h
      by_cases hk : k = i
      · rw [hk]; exact hp
      · exact fstN_none h k (by omega) (by omega)
theorem fstN_congr {P Q : Nat → Prop} [DecidablePred P] [DecidablePred Q] : ∀ {n i : Nat}, (∀ k, i ≤ k → k < i + n → (P k ↔ Q k)) → fstN P i n = fstN Q i n
  | 0, _, _ => rfl
  | n + 1, i, h => by
    unfold fstN
    by_cases hp : P i
    · rw [if_pos hp, if_pos ((h i (Nat.le_refl _) (by omega)).mp hp)]
    · rw [if_neg hp, if_neg (fun z => hp ((h i (Nat.le_refl _) (by omega)).mpr z))]
      exact fstN_congr (fun k h1 h2 => h k (by omega) (by omega))
theorem i64_le {x y : Int32} : x.toInt64 ≤ y.toInt64 ↔ x ≤ y := by
  rw [Int64.le_iff_toInt_le, Int32.le_iff_toInt_le, Int32.toInt_toInt64, Int32.toInt_toInt64]
theorem i64_lt {x y : Int32} : x.toInt64 < y.toInt64 ↔ x < y := by
  rw [Int64.lt_iff_toInt_lt, Int32.lt_iff_toInt_lt, Int32.toInt_toInt64, Int32.toInt_toInt64]
theorem nI_64 {n : Nat} (h : n < 2 ^ 31) : (nI n).toInt64 = lN n := nI_l h
theorem i64_0 : (lN 0) = (nI 0).toInt64 := by decide
theorem lN_32 (n : Nat) : (lN n).toInt32 = nI n := lN_i n
theorem nI_sub1 {n : Nat} (h : 1 ≤ n) : nI n - nI 1 = nI (n - 1) := pk_sub h
theorem m1_64 : (-nI 1).toInt64 = -lN 1 := by decide
theorem lN_modN {a d : Nat} : lN a - lN (a / d * d) = lN (a % d) := by
  rw [lN_sub (Nat.div_mul_le_self a d)]
  congr 1
  have := Nat.div_add_mod a d
  rw [Nat.mul_comm] at this
  omega
theorem not_le_sub1 {x : Int32} {n : Nat} (hn : n < 2 ^ 30) (h : nI n ≤ x) : ¬ x ≤ nI n - nI 1 := by
  intro z
  have h1 := Int32.le_iff_toInt_le.mp h
  have h2 := Int32.le_iff_toInt_le.mp z
  rw [pk_sub_toInt hn (by omega)] at h2
  rw [nI_toInt (by omega)] at h1
  omega
theorem in64_t {n m : Nat} (h : n < m) (hm : m < 2 ^ 30) : (lN 0 ≤ (nI n).toInt64 ∧ (nI n).toInt64 ≤ (nI m - nI 1).toInt64) := by
  rw [i64_0, i64_le, i64_le, nI_sub1 (by omega), nI_leI (by omega) (by omega), nI_leI (by omega) (by omega)]
  omega
theorem in64_f {x : Int32} {m : Nat} (hm : m < 2 ^ 30) (h : x < nI 0 ∨ nI m ≤ x) : ¬ (lN 0 ≤ x.toInt64 ∧ x.toInt64 ≤ (nI m - nI 1).toInt64) := by
  rw [i64_0, i64_le, i64_le]
  rintro ⟨h1, h2⟩
  rcases h with h | h
  · exact absurd h (Int32.not_lt.mpr h1)
  · exact not_le_sub1 hm h h2
theorem oI_nI {o : Option Nat} {n : Nat} (h : ∀ k, o = some k → k < 2 ^ 31) (hn : n < 2 ^ 31) : (oI o = nI n) ↔ o = some n := by
  cases o with
  | none => simp [oI, m1_nI hn]
  | some k => simp [oI, nI_eq (h k rfl) hn]
theorem lN_s1 (n : Nat) : lN (n + 1) - lN 1 = lN n := by rw [lN_sub (by omega)]; rfl
theorem nI_s1 (n : Nat) : nI (n + 1) - nI 1 = nI n := by rw [pk_sub (by omega)]; rfl
