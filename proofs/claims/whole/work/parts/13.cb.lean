/-! THE DESK's plain functions -/
/-- which OWNER of the ACCOUNT the PERSON is -/
def owS (T : gT) (a p : Nat) : Option Nat := fstN (fun k => T 7 (a * 4 + k) = p) 0 (T 5 a)
def shS (T : gT) (N : gN) (a k : Nat) : Nat := N.1 1 a / T 5 a + (if k < N.1 1 a % T 5 a then 1 else 0)
def nowF (N : gN) : Nat → Nat → Nat
  | 0, b => b
  | n + 1, b => match N.2 0 b with
    | none => b
    | some c => nowF N n c
def nowS (N : gN) (b : Nat) : Nat := nowF N 6 b
def endS (T : gT) (N : gN) (a b : Nat) : Nat := if T 4 a = 0 then (N.2 1 b).getD 0 + T 0 5 else max 1 (((N.2 1 b).getD 0 + T 0 5 + T 4 a - 1) / T 4 a) * T 4 a
def cntF (T : gT) (N : gN) (a m : Nat) : Nat → Nat → Nat
  | 0, b => b
  | n + 1, b => match N.2 0 b with
    | none => b
    | some c => if endS T N a b ≤ m then cntF T N a m n c else b
def cntS (T : gT) (N : gN) (a m : Nat) : Nat := cntF T N a m 6 (T 2 a)
def lvS (T : gT) (N : gN) (a m : Nat) : Option Nat := match N.2 0 (cntS T N a m) with
  | none => none
  | some _ => some (endS T N a (cntS T N a m))
theorem owS_some {T : gT} {a p k : Nat} (h : owS T a p = some k) : k < T 5 a ∧ T 7 (a * 4 + k) = p := by
  obtain ⟨-, h2, h3⟩ := fstN_some h
  exact ⟨by omega, h3⟩
theorem owS_none {T : gT} {a p : Nat} (h : owS T a p = none) : ∀ k, k < T 5 a → T 7 (a * 4 + k) ≠ p := fun k hk => fstN_none h k (Nat.zero_le _) (by omega)
theorem owS_at {T : gT} (hV : VT T) {a k : Nat} (ha : a < T 0 2) (hk : k < T 5 a) : owS T a (T 7 (a * 4 + k)) = some k := by
  cases h : owS T a (T 7 (a * 4 + k)) with
  | none => exact absurd rfl (owS_none h k hk)
  | some j =>
    obtain ⟨h1, h2⟩ := owS_some h
    rw [hV.od a j k ha h1 hk h2]
theorem shS_le {T : gT} {N : gN} (hV : VT T) (hVN : VN T N) {a k : Nat} (ha : a < T 0 2) : shS T N a k ≤ 100000000 := by
  have h1 := hV.no a ha
  have h2 := hVN.co a ha
  unfold shS
  have h3 : N.1 1 a / T 5 a * T 5 a ≤ N.1 1 a := Nat.div_mul_le_self _ _
  have h4 := Nat.div_add_mod (N.1 1 a) (T 5 a)
  by_cases h5 : k < N.1 1 a % T 5 a
  · rw [if_pos h5]
    have h6 : N.1 1 a / T 5 a ≤ T 5 a * (N.1 1 a / T 5 a) := Nat.le_mul_of_pos_left _ (by omega)
    omega
  · rw [if_neg h5]
    have h6 : N.1 1 a / T 5 a ≤ N.1 1 a := Nat.div_le_self _ _
    omega
theorem it_lt {T : gT} {N : gN} (hV : VT T) (hVN : VN T N) {b c : Nat} (hb : b < 6) (h : N.2 0 b = some c) : c < 6 := by
  have := (hVN.it b c hb h).2
  have := hV.nb
  omega
theorem nowF_lt {T : gT} {N : gN} (hV : VT T) (hVN : VN T N) : ∀ (n b : Nat), b < 6 → nowF N n b < 6
  | 0, b, h => h
  | n + 1, b, h => by
    unfold nowF
    cases he : N.2 0 b with
    | none => exact h
    | some c => exact nowF_lt hV hVN n c (it_lt hV hVN h he)
theorem cntF_lt {T : gT} {N : gN} (hV : VT T) (hVN : VN T N) {a m : Nat} : ∀ (n b : Nat), b < 6 → cntF T N a m n b < 6
  | 0, b, h => h
  | n + 1, b, h => by
    unfold cntF
    cases he : N.2 0 b with
    | none => exact h
    | some c =>
      simp only
      split
      · exact cntF_lt hV hVN n c (it_lt hV hVN h he)
      · exact h
theorem cntF_nb {T : gT} {N : gN} (hVN : VN T N) {a m : Nat} (hV : VT T) : ∀ (n b : Nat), b < T 0 1 → cntF T N a m n b < T 0 1
  | 0, b, h => h
  | n + 1, b, h => by
    unfold cntF
    cases he : N.2 0 b with
    | none => exact h
    | some c =>
      simp only
      split
      · have := hV.nb
        exact cntF_nb hVN hV n c (hVN.it b c (by omega) he).2
      · exact h
theorem nowF_nb {T : gT} {N : gN} (hVN : VN T N) (hV : VT T) : ∀ (n b : Nat), b < T 0 1 → nowF N n b < T 0 1
  | 0, b, h => h
  | n + 1, b, h => by
    unfold nowF
    cases he : N.2 0 b with
    | none => exact h
    | some c =>
      have := hV.nb
      exact nowF_nb hVN hV n c (hVN.it b c (by omega) he).2
theorem endS_le {T : gT} {N : gN} (hV : VT T) (hVN : VN T N) {a b : Nat} (ha : a < T 0 2) (hb : b < 6) : endS T N a b ≤ 1200 := by
  have h1 := hV.te a ha
  have h2 := hV.gr
  have h3 : (N.2 1 b).getD 0 ≤ 999 := by
    cases h : N.2 1 b with
    | none => simp
    | some m => exact hVN.sn b m hb h
  unfold endS
  split
  · omega
  · next h4 =>
    have h5 : ((N.2 1 b).getD 0 + T 0 5 + T 4 a - 1) / T 4 a * T 4 a ≤ (N.2 1 b).getD 0 + T 0 5 + T 4 a - 1 := Nat.div_mul_le_self _ _
    rcases Nat.le_total 1 (((N.2 1 b).getD 0 + T 0 5 + T 4 a - 1) / T 4 a) with h | h
    · rw [Nat.max_eq_right h]; omega
    · rw [Nat.max_eq_left h]; omega
section CB
variable {T : gT} {N : gN} {u : gM}
theorem q_isPerson {n : Nat} (hV : VT T) (hT : RT 3 T u) (hn : n < T 0 0) : X10_isPerson u 3 (nI n) = some (nI 1) := by
  have h1 := hV.np
  simp (disch := omega) [X10_isPerson_b17, X10_isPerson_b16, X10_isPerson, hT.np, isO_C3, rf_C3_6, rf_C3_7, rf_C3_8, rf_C3_9, rf_C3_10, rf_C3_11, rf_C3_12, rf_C3_13, rf_C3_14, rf_C3_15, rf_C3_16, rf_C3_17, rf_C3_18, rf_C3_19, bI, nI_lit, lN_lit, nI_add, pk_mul, lN_add, lN_mul, Option.bind_some, nI_leI, nI_ltI, nI_eq, lN_leI, lN_ltI, lN_eqI, nI_m1, m1_nI, i_modN, lN_modN, nI_64, lN_32, if_pos, if_neg, ↓reduceIte, if_true, if_false]
theorem q_isPersonF {x : Int32} (hT : RT 3 T u) (hn : x < nI 0 ∨ nI (T 0 0) ≤ x) : X10_isPerson u 3 x = some (nI 0) := by
  by_cases h : x < nI 0
  · simp [X10_isPerson_b17, X10_isPerson_b16, X10_isPerson, isO_C3, rf_C3_6, rf_C3_7, rf_C3_8, rf_C3_9, rf_C3_10, rf_C3_11, rf_C3_12, rf_C3_13, rf_C3_14, rf_C3_15, rf_C3_16, rf_C3_17, rf_C3_18, rf_C3_19, nI_lit, h, bI]
  · have h2 := hn.resolve_left h
    simp [X10_isPerson_b17, X10_isPerson_b16, X10_isPerson, hT.np, isO_C3, rf_C3_6, rf_C3_7, rf_C3_8, rf_C3_9, rf_C3_10, rf_C3_11, rf_C3_12, rf_C3_13, rf_C3_14, rf_C3_15, rf_C3_16, rf_C3_17, rf_C3_18, rf_C3_19, nI_lit, h, h2, bI]
theorem q_isBank {n : Nat} (hV : VT T) (hT : RT 3 T u) (hn : n < T 0 1) : X10_isBank u 3 (nI n) = some (nI 1) := by
  have h1 := hV.nb
  simp (disch := omega) [X10_isBank_b17, X10_isBank_b16, X10_isBank, hT.nb, isO_C3, rf_C3_6, rf_C3_7, rf_C3_8, rf_C3_9, rf_C3_10, rf_C3_11, rf_C3_12, rf_C3_13, rf_C3_14, rf_C3_15, rf_C3_16, rf_C3_17, rf_C3_18, rf_C3_19, bI, nI_lit, lN_lit, nI_add, pk_mul, lN_add, lN_mul, Option.bind_some, nI_leI, nI_ltI, nI_eq, lN_leI, lN_ltI, lN_eqI, nI_m1, m1_nI, i_modN, lN_modN, nI_64, lN_32, if_pos, if_neg, ↓reduceIte, if_true, if_false]
theorem q_isBankF {x : Int32} (hT : RT 3 T u) (hn : x < nI 0 ∨ nI (T 0 1) ≤ x) : X10_isBank u 3 x = some (nI 0) := by
  by_cases h : x < nI 0
  · simp [X10_isBank_b17, X10_isBank_b16, X10_isBank, isO_C3, rf_C3_6, rf_C3_7, rf_C3_8, rf_C3_9, rf_C3_10, rf_C3_11, rf_C3_12, rf_C3_13, rf_C3_14, rf_C3_15, rf_C3_16, rf_C3_17, rf_C3_18, rf_C3_19, nI_lit, h, bI]
  · have h2 := hn.resolve_left h
    simp [X10_isBank_b17, X10_isBank_b16, X10_isBank, hT.nb, isO_C3, rf_C3_6, rf_C3_7, rf_C3_8, rf_C3_9, rf_C3_10, rf_C3_11, rf_C3_12, rf_C3_13, rf_C3_14, rf_C3_15, rf_C3_16, rf_C3_17, rf_C3_18, rf_C3_19, nI_lit, h, h2, bI]
theorem q_isAccount {n : Nat} (hV : VT T) (hT : RT 3 T u) (hn : n < T 0 2) : X10_isAccount u 3 (nI n) = some (nI 1) := by
  have h1 := hV.na
  simp (disch := omega) [X10_isAccount_b17, X10_isAccount_b16, X10_isAccount, hT.na, isO_C3, rf_C3_6, rf_C3_7, rf_C3_8, rf_C3_9, rf_C3_10, rf_C3_11, rf_C3_12, rf_C3_13, rf_C3_14, rf_C3_15, rf_C3_16, rf_C3_17, rf_C3_18, rf_C3_19, bI, nI_lit, lN_lit, nI_add, pk_mul, lN_add, lN_mul, Option.bind_some, nI_leI, nI_ltI, nI_eq, lN_leI, lN_ltI, lN_eqI, nI_m1, m1_nI, i_modN, lN_modN, nI_64, lN_32, if_pos, if_neg, ↓reduceIte, if_true, if_false]
theorem q_isAccountF {x : Int32} (hT : RT 3 T u) (hn : x < nI 0 ∨ nI (T 0 2) ≤ x) : X10_isAccount u 3 x = some (nI 0) := by
  by_cases h : x < nI 0
  · simp [X10_isAccount_b17, X10_isAccount_b16, X10_isAccount, isO_C3, rf_C3_6, rf_C3_7, rf_C3_8, rf_C3_9, rf_C3_10, rf_C3_11, rf_C3_12, rf_C3_13, rf_C3_14, rf_C3_15, rf_C3_16, rf_C3_17, rf_C3_18, rf_C3_19, nI_lit, h, bI]
  · have h2 := hn.resolve_left h
    simp [X10_isAccount_b17, X10_isAccount_b16, X10_isAccount, hT.na, isO_C3, rf_C3_6, rf_C3_7, rf_C3_8, rf_C3_9, rf_C3_10, rf_C3_11, rf_C3_12, rf_C3_13, rf_C3_14, rf_C3_15, rf_C3_16, rf_C3_17, rf_C3_18, rf_C3_19, nI_lit, h, h2, bI]
theorem q_isLoan {n : Nat} (hV : VT T) (hT : RT 3 T u) (hn : n < T 0 3) : X10_isLoan u 3 (nI n) = some (nI 1) := by
  have h1 := hV.nl
  simp (disch := omega) [X10_isLoan_b17, X10_isLoan_b16, X10_isLoan, hT.nl, isO_C3, rf_C3_6, rf_C3_7, rf_C3_8, rf_C3_9, rf_C3_10, rf_C3_11, rf_C3_12, rf_C3_13, rf_C3_14, rf_C3_15, rf_C3_16, rf_C3_17, rf_C3_18, rf_C3_19, bI, nI_lit, lN_lit, nI_add, pk_mul, lN_add, lN_mul, Option.bind_some, nI_leI, nI_ltI, nI_eq, lN_leI, lN_ltI, lN_eqI, nI_m1, m1_nI, i_modN, lN_modN, nI_64, lN_32, if_pos, if_neg, ↓reduceIte, if_true, if_false]
theorem q_isLoanF {x : Int32} (hT : RT 3 T u) (hn : x < nI 0 ∨ nI (T 0 3) ≤ x) : X10_isLoan u 3 x = some (nI 0) := by
  by_cases h : x < nI 0
  · simp [X10_isLoan_b17, X10_isLoan_b16, X10_isLoan, isO_C3, rf_C3_6, rf_C3_7, rf_C3_8, rf_C3_9, rf_C3_10, rf_C3_11, rf_C3_12, rf_C3_13, rf_C3_14, rf_C3_15, rf_C3_16, rf_C3_17, rf_C3_18, rf_C3_19, nI_lit, h, bI]
  · have h2 := hn.resolve_left h
    simp [X10_isLoan_b17, X10_isLoan_b16, X10_isLoan, hT.nl, isO_C3, rf_C3_6, rf_C3_7, rf_C3_8, rf_C3_9, rf_C3_10, rf_C3_11, rf_C3_12, rf_C3_13, rf_C3_14, rf_C3_15, rf_C3_16, rf_C3_17, rf_C3_18, rf_C3_19, nI_lit, h, h2, bI]
theorem q_isShare {a k : Nat} (hV : VT T) (hT : RT 3 T u) (ha : a < T 0 2) (hk : k < T 5 a) : X10_isShare u 3 (nI a) (nI k) = some (nI 1) := by
  have h1 := hV.na
  have h2 := hV.no a ha
  have h3 := hT.no a ha
  simp only [Nat.reduceAdd] at h3
  simp (disch := omega) [X10_isShare_b27, X10_isShare_b26, X10_isShare, q_isAccount hV hT ha, isO_C3, rf_C3_6, rf_C3_7, rf_C3_8, rf_C3_9, rf_C3_10, rf_C3_11, rf_C3_12, rf_C3_13, rf_C3_14, rf_C3_15, rf_C3_16, rf_C3_17, rf_C3_18, rf_C3_19, aC11, h3, bI, nI_lit, lN_lit, nI_add, pk_mul, lN_add, lN_mul, Option.bind_some, nI_leI, nI_ltI, nI_eq, lN_leI, lN_ltI, lN_eqI, nI_m1, m1_nI, i_modN, lN_modN, nI_64, lN_32, if_pos, if_neg, ↓reduceIte, if_true, if_false]
theorem q_isShareF1 {x y : Int32} (hT : RT 3 T u) (hn : x < nI 0 ∨ nI (T 0 2) ≤ x) : X10_isShare u 3 x y = some (nI 0) := by
  simp [X10_isShare_b27, X10_isShare_b26, X10_isShare, q_isAccountF hT hn, isO_C3, rf_C3_6, rf_C3_7, rf_C3_8, rf_C3_9, rf_C3_10, rf_C3_11, rf_C3_12, rf_C3_13, rf_C3_14, rf_C3_15, rf_C3_16, rf_C3_17, rf_C3_18, rf_C3_19, nI_lit, bI]
theorem q_isShareF2 {a : Nat} {y : Int32} (hV : VT T) (hT : RT 3 T u) (ha : a < T 0 2) (hn : y < nI 0 ∨ nI (T 5 a) ≤ y) : X10_isShare u 3 (nI a) y = some (nI 0) := by
  have h1 := hV.na
  have h3 := hT.no a ha
  simp only [Nat.reduceAdd] at h3
  by_cases h : y < nI 0
  · simp [X10_isShare_b27, X10_isShare_b26, X10_isShare, q_isAccount hV hT ha, isO_C3, rf_C3_6, rf_C3_7, rf_C3_8, rf_C3_9, rf_C3_10, rf_C3_11, rf_C3_12, rf_C3_13, rf_C3_14, rf_C3_15, rf_C3_16, rf_C3_17, rf_C3_18, rf_C3_19, nI_lit, h, bI, nI_eq]
  · have h2 := hn.resolve_left h
    simp (disch := omega) [X10_isShare_b27, X10_isShare_b26, X10_isShare, q_isAccount hV hT ha, isO_C3, rf_C3_6, rf_C3_7, rf_C3_8, rf_C3_9, rf_C3_10, rf_C3_11, rf_C3_12, rf_C3_13, rf_C3_14, rf_C3_15, rf_C3_16, rf_C3_17, rf_C3_18, rf_C3_19, nI_lit, aC11, h3, h, h2, bI, nI_eq]
theorem q_share {a k : Nat} (hV : VT T) (hT : RT 3 T u) (hN : RN 18 T N u) (hVN : VN T N) (ha : a < T 0 2) (hk : k < T 5 a) : X1_share u (nI a) (nI k) = some (nI (shS T N a k)) := by
  have h1 := hV.na
  have h2 := hV.no a ha
  have h3 := hVN.co a ha
  have h4 := hT.no a ha
  have h5 := hN.co a ha
  simp only [Nat.reduceAdd] at h4 h5
  have h6 : N.1 1 a % T 5 a < T 5 a := Nat.mod_lt _ (by omega)
  unfold shS
  by_cases h7 : k < N.1 1 a % T 5 a
  · simp (disch := omega) [X1_share_b45, X1_share, nI_lit, lN_lit, nI_add, pk_mul, lN_add, lN_mul, Option.bind_some, nI_leI, nI_ltI, nI_eq, lN_leI, lN_ltI, lN_eqI, nI_m1, m1_nI, i_modN, lN_modN, nI_64, lN_32, if_pos, if_neg, ↓reduceIte, if_true, if_false, aC11, aC19, h4, h5, i_divN, h7]
  · simp (disch := omega) [X1_share_b45, X1_share, nI_lit, lN_lit, nI_add, pk_mul, lN_add, lN_mul, Option.bind_some, nI_leI, nI_ltI, nI_eq, lN_leI, lN_ltI, lN_eqI, nI_m1, m1_nI, i_modN, lN_modN, nI_64, lN_32, if_pos, if_neg, ↓reduceIte, if_true, if_false, aC11, aC19, h4, h5, i_divN, h7]
theorem q_ownerOf_l {a p : Nat} (hV : VT T) (hT : RT 3 T u) (ha : a < T 0 2) (hp : p < T 0 0) : ∀ (n k : Nat), k ≤ T 5 a → T 5 a - k < n → X10_ownerOf_l7 u n 3 (nI a) (nI p) (nI (a * 4)) (nI k) = some (oI (fstN (fun k => T 7 (a * 4 + k) = p) k (T 5 a - k))) := by
  have h1 := hV.na
  have h2 := hV.no a ha
  have h3 := hT.no a ha
  have h9 := hV.np
  simp only [Nat.reduceAdd] at h3
  intro n
  induction n with
  | zero => intro k h4 h5; omega
  | succ n ih =>
    intro k h4 h5
    unfold X10_ownerOf_l7 X10_ownerOf_b7
    by_cases h6 : k = T 5 a
    · subst h6
      simp (disch := omega) [isO_C3, rf_C3_6, rf_C3_7, rf_C3_8, rf_C3_9, rf_C3_10, rf_C3_11, rf_C3_12, rf_C3_13, rf_C3_14, rf_C3_15, rf_C3_16, rf_C3_17, rf_C3_18, rf_C3_19, aC11, h3, fstN, oI, nI_lit, lN_lit, nI_add, pk_mul, lN_add, lN_mul, Option.bind_some, nI_leI, nI_ltI, nI_eq, lN_leI, lN_ltI, lN_eqI, nI_m1, m1_nI, i_modN, lN_modN, nI_64, lN_32, if_pos, if_neg, ↓reduceIte, if_true, if_false]
    · have h7 := hT.ow a k ha (by omega)
      simp only [Nat.reduceAdd] at h7
      have h8 := hV.ow a k ha (by omega)
      rw [show T 5 a - k = (T 5 a - (k + 1)) + 1 by omega]
      unfold fstN
      by_cases h10 : T 7 (a * 4 + k) = p
      · simp (disch := omega) [isO_C3, rf_C3_6, rf_C3_7, rf_C3_8, rf_C3_9, rf_C3_10, rf_C3_11, rf_C3_12, rf_C3_13, rf_C3_14, rf_C3_15, rf_C3_16, rf_C3_17, rf_C3_18, rf_C3_19, aC11, aC13, h3, h7, h10, oI, nI_lit, lN_lit, nI_add, pk_mul, lN_add, lN_mul, Option.bind_some, nI_leI, nI_ltI, nI_eq, lN_leI, lN_ltI, lN_eqI, nI_m1, m1_nI, i_modN, lN_modN, nI_64, lN_32, if_pos, if_neg, ↓reduceIte, if_true, if_false]
      · simp (disch := omega) [isO_C3, rf_C3_6, rf_C3_7, rf_C3_8, rf_C3_9, rf_C3_10, rf_C3_11, rf_C3_12, rf_C3_13, rf_C3_14, rf_C3_15, rf_C3_16, rf_C3_17, rf_C3_18, rf_C3_19, aC11, aC13, h3, h7, h10, nI_lit, lN_lit, nI_add, pk_mul, lN_add, lN_mul, Option.bind_some, nI_leI, nI_ltI, nI_eq, lN_leI, lN_ltI, lN_eqI, nI_m1, m1_nI, i_modN, lN_modN, nI_64, lN_32, if_pos, if_neg, ↓reduceIte, if_true, if_false, ih (k + 1) (by omega) (by omega)]
theorem q_ownerOf {a p : Nat} (hV : VT T) (hT : RT 3 T u) (ha : a < T 0 2) (hp : p < T 0 0) : X10_ownerOf u 3 (nI a) (nI p) = some (oI (owS T a p)) := by
  have h1 := hV.no a ha
  unfold X10_ownerOf owS
  have := q_ownerOf_l hV hT ha hp fz 0 (Nat.zero_le _) (fz_lt (by omega))
  simp only [nI_lit, pk_mul]
  exact this
theorem q_isMerged {b : Nat} (hV : VT T) (hN : RN 18 T N u) (hVN : VN T N) (hb : b < 6) : X8_isMerged u 18 (nI b) = some (b2 (N.2 0 b ≠ none)) := by
  have h1 := hN.it b hb
  simp only [Nat.reduceAdd] at h1
  cases h : N.2 0 b with
  | none => simp (disch := omega) [X8_isMerged_b25, X8_isMerged_b24, X8_isMerged, isO_C18, rf_C18_1, rf_C18_2, rf_C18_3, rf_C18_4, rf_C18_5, rf_C18_6, aC21, h1, h, oI, b2, bI, nI_lit, lN_lit, nI_add, pk_mul, lN_add, lN_mul, Option.bind_some, nI_leI, nI_ltI, nI_eq, lN_leI, lN_ltI, lN_eqI, nI_m1, m1_nI, i_modN, lN_modN, nI_64, lN_32, if_pos, if_neg, ↓reduceIte, if_true, if_false]
  | some c =>
    have h2 := it_lt hV hVN hb h
    simp (disch := omega) [X8_isMerged_b25, X8_isMerged_b24, X8_isMerged, isO_C18, rf_C18_1, rf_C18_2, rf_C18_3, rf_C18_4, rf_C18_5, rf_C18_6, aC21, h1, h, oI, b2, bI, nI_lit, lN_lit, nI_add, pk_mul, lN_add, lN_mul, Option.bind_some, nI_leI, nI_ltI, nI_eq, lN_leI, lN_ltI, lN_eqI, nI_m1, m1_nI, i_modN, lN_modN, nI_64, lN_32, if_pos, if_neg, ↓reduceIte, if_true, if_false]
theorem q_isOpen {b : Nat} (hV : VT T) (hN : RN 18 T N u) (hVN : VN T N) (hb : b < 6) : X8_isOpen u 18 (nI b) = some (b2 (N.2 0 b = none ∧ N.1 3 b = 0)) := by
  have h1 := hN.it b hb
  have h3 := hN.fa b hb
  have h4 := hVN.fa b hb
  simp only [Nat.reduceAdd] at h1 h3
  cases h : N.2 0 b with
  | none =>
    by_cases h5 : N.1 3 b = 0
    · simp (disch := omega) [X8_isOpen_b34, X8_isOpen_b33, X8_isOpen, isO_C18, rf_C18_1, rf_C18_2, rf_C18_3, rf_C18_4, rf_C18_5, rf_C18_6, aC21, aC23, h1, h, h3, h5, oI, b2, bI, nI_lit, lN_lit, nI_add, pk_mul, lN_add, lN_mul, Option.bind_some, nI_leI, nI_ltI, nI_eq, lN_leI, lN_ltI, lN_eqI, nI_m1, m1_nI, i_modN, lN_modN, nI_64, lN_32, if_pos, if_neg, ↓reduceIte, if_true, if_false]
    · simp (disch := omega) [X8_isOpen_b34, X8_isOpen_b33, X8_isOpen, isO_C18, rf_C18_1, rf_C18_2, rf_C18_3, rf_C18_4, rf_C18_5, rf_C18_6, aC21, aC23, h1, h, h3, h5, oI, b2, bI, nI_lit, lN_lit, nI_add, pk_mul, lN_add, lN_mul, Option.bind_some, nI_leI, nI_ltI, nI_eq, lN_leI, lN_ltI, lN_eqI, nI_m1, m1_nI, i_modN, lN_modN, nI_64, lN_32, if_pos, if_neg, ↓reduceIte, if_true, if_false]
  | some c =>
    have h2 := it_lt hV hVN hb h
    simp (disch := omega) [X8_isOpen_b34, X8_isOpen_b33, X8_isOpen, isO_C18, rf_C18_1, rf_C18_2, rf_C18_3, rf_C18_4, rf_C18_5, rf_C18_6, aC21, h1, h, oI, b2, bI, nI_lit, lN_lit, nI_add, pk_mul, lN_add, lN_mul, Option.bind_some, nI_leI, nI_ltI, nI_eq, lN_leI, lN_ltI, lN_eqI, nI_m1, m1_nI, i_modN, lN_modN, nI_64, lN_32, if_pos, if_neg, ↓reduceIte, if_true, if_false]
theorem q_nowAt_l (hV : VT T) (hN : RN 18 T N u) (hVN : VN T N) : ∀ (n i b : Nat), i ≤ 6 → 6 - i < n → b < 6 → X8_nowAt_l4 u n 18 (nI b) (nI i) = some (nI (nowF N (6 - i) b)) := by
  intro n
  induction n with
  | zero => intro i b h1 h2; omega
  | succ n ih =>
    intro i b h1 h2 hb
    unfold X8_nowAt_l4 X8_nowAt_b4
    by_cases h6 : i = 6
    · subst h6
      simp (disch := omega) [X8_nowAt_b31, X8_nowAt, nowF, nI_lit, lN_lit, nI_add, pk_mul, lN_add, lN_mul, Option.bind_some, nI_leI, nI_ltI, nI_eq, lN_leI, lN_ltI, lN_eqI, nI_m1, m1_nI, i_modN, lN_modN, nI_64, lN_32, if_pos, if_neg, ↓reduceIte, if_true, if_false]
    · have h3 := hN.it b hb
      simp only [Nat.reduceAdd] at h3
      rw [show 6 - i = (6 - (i + 1)) + 1 by omega]
      unfold nowF
      cases h : N.2 0 b with
      | none => simp (disch := omega) [X8_nowAt_b31, X8_nowAt, isO_C18, rf_C18_1, rf_C18_2, rf_C18_3, rf_C18_4, rf_C18_5, rf_C18_6, q_isMerged hV hN hVN hb, h, b2, nI_lit, lN_lit, nI_add, pk_mul, lN_add, lN_mul, Option.bind_some, nI_leI, nI_ltI, nI_eq, lN_leI, lN_ltI, lN_eqI, nI_m1, m1_nI, i_modN, lN_modN, nI_64, lN_32, if_pos, if_neg, ↓reduceIte, if_true, if_false]
      | some c =>
        have h4 := it_lt hV hVN hb h
        simp (disch := omega) [X8_nowAt_b31, X8_nowAt, isO_C18, rf_C18_1, rf_C18_2, rf_C18_3, rf_C18_4, rf_C18_5, rf_C18_6, q_isMerged hV hN hVN hb, h, h3, oI, b2, aC21, nI_lit, lN_lit, nI_add, pk_mul, lN_add, lN_mul, Option.bind_some, nI_leI, nI_ltI, nI_eq, lN_leI, lN_ltI, lN_eqI, nI_m1, m1_nI, i_modN, lN_modN, nI_64, lN_32, if_pos, if_neg, ↓reduceIte, if_true, if_false, ih (i + 1) c (by omega) (by omega) h4]
theorem q_nowAt {b : Nat} (hV : VT T) (hN : RN 18 T N u) (hVN : VN T N) (hb : b < 6) : X8_nowAt u 18 (nI b) = some (nI (nowS N b)) := by
  unfold X8_nowAt nowS
  have := q_nowAt_l hV hN hVN fz 0 b (by omega) (fz_lt (by omega)) hb
  simp only [nI_lit]
  exact this
theorem q_endOf {a b : Nat} (hV : VT T) (hT : RT 3 T u) (hN : RN 18 T N u) (hVN : VN T N) (ha : a < T 0 2) (hb : b < 6) (hm : N.2 0 b ≠ none) : X1_endOf u (nI a) (nI b) = some (nI (endS T N a b)) := by
  have h1 := hV.na
  have h2 := hV.te a ha
  have h3 := hV.gr
  have h4 := hT.te a ha
  have h5 := hN.si b hb
  have h6 := hT.gr
  simp only [Nat.reduceAdd] at h4 h5
  obtain ⟨m, h7, h8⟩ := hVN.si b hb hm
  have h9 := hVN.mo
  unfold endS
  by_cases h10 : T 4 a = 0
  · simp (disch := omega) [X1_endOf, aC22, aC10, h4, h5, h6, h7, h10, oI, nI_lit, lN_lit, nI_add, pk_mul, lN_add, lN_mul, Option.bind_some, nI_leI, nI_ltI, nI_eq, lN_leI, lN_ltI, lN_eqI, nI_m1, m1_nI, i_modN, lN_modN, nI_64, lN_32, if_pos, if_neg, ↓reduceIte, if_true, if_false]
  · have h11 : (m + T 0 5 + T 4 a - 1) / T 4 a ≤ m + T 0 5 + T 4 a - 1 := Nat.div_le_self _ _
    simp (disch := omega) [X1_endOf, aC22, aC10, h4, h5, h6, h7, h10, oI, pk_sub, i_divN, mxI_N, nI_lit, lN_lit, nI_add, pk_mul, lN_add, lN_mul, Option.bind_some, nI_leI, nI_ltI, nI_eq, lN_leI, lN_ltI, lN_eqI, nI_m1, m1_nI, i_modN, lN_modN, nI_64, lN_32, if_pos, if_neg, ↓reduceIte, if_true, if_false]
theorem q_countedAt_l {a m : Nat} (hV : VT T) (hT : RT 3 T u) (hN : RN 18 T N u) (hVN : VN T N) (ha : a < T 0 2) (hm : m < 2 ^ 30) : ∀ (n i b : Nat), i ≤ 6 → 6 - i < n → b < 6 → X1_countedAt_l13 u n (nI a) (nI m) (nI b) (nI i) = some (nI (cntF T N a m (6 - i) b)) := by
  intro n
  induction n with
  | zero => intro i b h1 h2; omega
  | succ n ih =>
    intro i b h1 h2 hb
    unfold X1_countedAt_l13 X1_countedAt_b13
    by_cases h6 : i = 6
    · subst h6
      simp (disch := omega) [X1_countedAt_b57, X1_countedAt, cntF, nI_lit, lN_lit, nI_add, pk_mul, lN_add, lN_mul, Option.bind_some, nI_leI, nI_ltI, nI_eq, lN_leI, lN_ltI, lN_eqI, nI_m1, m1_nI, i_modN, lN_modN, nI_64, lN_32, if_pos, if_neg, ↓reduceIte, if_true, if_false]
    · have h3 := hN.it b hb
      have h7 := endS_le hV hVN ha hb
      simp only [Nat.reduceAdd] at h3
      rw [show 6 - i = (6 - (i + 1)) + 1 by omega]
      unfold cntF
      cases h : N.2 0 b with
      | none => simp (disch := omega) [X1_countedAt_b57, X1_countedAt, q_isMerged hV hN hVN hb, h, b2, nI_lit, lN_lit, nI_add, pk_mul, lN_add, lN_mul, Option.bind_some, nI_leI, nI_ltI, nI_eq, lN_leI, lN_ltI, lN_eqI, nI_m1, m1_nI, i_modN, lN_modN, nI_64, lN_32, if_pos, if_neg, ↓reduceIte, if_true, if_false]
      | some c =>
        have h4 := it_lt hV hVN hb h
        by_cases h5 : endS T N a b ≤ m
        · simp (disch := omega) [X1_countedAt_b57, X1_countedAt, q_isMerged hV hN hVN hb, q_endOf hV hT hN hVN ha hb (by rw [h]; simp), h, h3, h5, oI, b2, aC21, nI_lit, lN_lit, nI_add, pk_mul, lN_add, lN_mul, Option.bind_some, nI_leI, nI_ltI, nI_eq, lN_leI, lN_ltI, lN_eqI, nI_m1, m1_nI, i_modN, lN_modN, nI_64, lN_32, if_pos, if_neg, ↓reduceIte, if_true, if_false, ih (i + 1) c (by omega) (by omega) h4]
        · simp (disch := omega) [X1_countedAt_b57, X1_countedAt, q_isMerged hV hN hVN hb, q_endOf hV hT hN hVN ha hb (by rw [h]; simp), h, h3, h5, oI, b2, aC21, nI_lit, lN_lit, nI_add, pk_mul, lN_add, lN_mul, Option.bind_some, nI_leI, nI_ltI, nI_eq, lN_leI, lN_ltI, lN_eqI, nI_m1, m1_nI, i_modN, lN_modN, nI_64, lN_32, if_pos, if_neg, ↓reduceIte, if_true, if_false]
theorem hm_lt (hV : VT T) {a : Nat} (ha : a < T 0 2) : T 2 a < 6 := by
  have := hV.hm a ha
  have := hV.nb
  omega
theorem q_countedAt {a m : Nat} (hV : VT T) (hT : RT 3 T u) (hN : RN 18 T N u) (hVN : VN T N) (ha : a < T 0 2) (hm : m < 2 ^ 30) : X1_countedAt u (nI a) (nI m) = some (nI (cntS T N a m)) := by
  have h1 := hV.na
  have h2 := hT.hm a ha
  simp only [Nat.reduceAdd] at h2
  unfold X1_countedAt cntS
  have := q_countedAt_l hV hT hN hVN ha hm fz 0 (T 2 a) (by omega) (fz_lt (by omega)) (hm_lt hV ha)
  rw [aC8 (by omega), h2, Option.bind_some, nI_lit]
  exact this
theorem cntS_lt (hV : VT T) (hVN : VN T N) {a m : Nat} (ha : a < T 0 2) : cntS T N a m < 6 := cntF_lt hV hVN 6 _ (hm_lt hV ha)
theorem q_leaves {a m : Nat} (hV : VT T) (hT : RT 3 T u) (hN : RN 18 T N u) (hVN : VN T N) (ha : a < T 0 2) (hm : m < 2 ^ 30) : X1_leaves u (nI a) (nI m) = some (oI (lvS T N a m)) := by
  have h1 := cntS_lt (m := m) hV hVN ha
  unfold lvS
  cases h : N.2 0 (cntS T N a m) with
  | none => simp (disch := omega) [X1_leaves_b28, X1_leaves, q_countedAt hV hT hN hVN ha hm, q_isMerged hV hN hVN h1, h, b2, oI, nI_lit, lN_lit, nI_add, pk_mul, lN_add, lN_mul, Option.bind_some, nI_leI, nI_ltI, nI_eq, lN_leI, lN_ltI, lN_eqI, nI_m1, m1_nI, i_modN, lN_modN, nI_64, lN_32, if_pos, if_neg, ↓reduceIte, if_true, if_false]
  | some c => simp (disch := omega) [X1_leaves_b28, X1_leaves, q_countedAt hV hT hN hVN ha hm, q_isMerged hV hN hVN h1, q_endOf hV hT hN hVN ha h1 (by rw [h]; simp), h, b2, oI, nI_lit, lN_lit, nI_add, pk_mul, lN_add, lN_mul, Option.bind_some, nI_leI, nI_ltI, nI_eq, lN_leI, lN_ltI, lN_eqI, nI_m1, m1_nI, i_modN, lN_modN, nI_64, lN_32, if_pos, if_neg, ↓reduceIte, if_true, if_false]
end CB
