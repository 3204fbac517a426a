/-! THE MODEL: its plain questions -/
theorem or_le {T : gT} {N : gN} (hV : VT T) (hVN : VN T N) : ∃ o : Nat → Nat, ∀ b, b < 6 → (N.2 0 b = none) ∨ (∃ c, N.2 0 b = some c ∧ o b < o c ∧ o c ≤ 5 ∧ c < 6) := by
  obtain ⟨o, ho⟩ := hVN.or
  refine ⟨o, fun b hb => ?_⟩
  rcases ho b hb with ⟨h, -⟩ | ⟨c, h1, h2, h3, -⟩
  · exact Or.inl h
  · exact Or.inr ⟨c, h1, h2, h3, it_lt hV hVN hb h1⟩
/-- more steps change nothing -/
theorem cntF_st {T : gT} {N : gN} {a m : Nat} {o : Nat → Nat} (ho : ∀ b, b < 6 → (N.2 0 b = none) ∨ (∃ c, N.2 0 b = some c ∧ o b < o c ∧ o c ≤ 5 ∧ c < 6)) : ∀ (n b : Nat), b < 6 → (N.2 0 b = none ∨ 5 - o b < n) → cntF T N a m n b = cntF T N a m (n + 1) b
  | 0, b, hb, h => by
    rcases h with h | h
    · simp [cntF, h]
    · omega
  | n + 1, b, hb, h => by
    conv => lhs; unfold cntF
    conv => rhs; unfold cntF
    cases he : N.2 0 b with
    | none => rfl
    | some c =>
      simp only
      rcases ho b hb with h1 | ⟨c', h1, h2, h3, h4⟩
      · rw [he] at h1; cases h1
      · rw [he] at h1; cases h1
        rw [cntF_st ho n c h4 (by
          rcases h with h | h
          · rw [he] at h; cases h
          · rcases ho c h4 with h5 | ⟨_, _, h6, h7, _⟩
            · exact Or.inl h5
            · exact Or.inr (by omega))]
theorem nowF_st {N : gN} {o : Nat → Nat} (ho : ∀ b, b < 6 → (N.2 0 b = none) ∨ (∃ c, N.2 0 b = some c ∧ o b < o c ∧ o c ≤ 5 ∧ c < 6)) : ∀ (n b : Nat), b < 6 → (N.2 0 b = none ∨ 5 - o b < n) → nowF N n b = nowF N (n + 1) b
  | 0, b, hb, h => by
    rcases h with h | h
    · simp [nowF, h]
    · omega
  | n + 1, b, hb, h => by
    conv => lhs; unfold nowF
    conv => rhs; unfold nowF
    cases he : N.2 0 b with
    | none => rfl
    | some c =>
      simp only
      rcases ho b hb with h1 | ⟨c', h1, h2, h3, h4⟩
      · rw [he] at h1; cases h1
      · rw [he] at h1; cases h1
        rw [nowF_st ho n c h4 (by
          rcases h with h | h
          · rw [he] at h; cases h
          · rcases ho c h4 with h5 | ⟨_, _, h6, h7, _⟩
            · exact Or.inl h5
            · exact Or.inr (by omega))]
theorem nowF_root {N : gN} {o : Nat → Nat} (ho : ∀ b, b < 6 → (N.2 0 b = none) ∨ (∃ c, N.2 0 b = some c ∧ o b < o c ∧ o c ≤ 5 ∧ c < 6)) : ∀ (n b : Nat), b < 6 → (N.2 0 b = none ∨ 5 - o b < n) → N.2 0 (nowF N n b) = none
  | 0, b, hb, h => by
    rcases h with h | h
    · exact h
    · omega
  | n + 1, b, hb, h => by
    unfold nowF
    cases he : N.2 0 b with
    | none => exact he
    | some c =>
      simp only
      rcases ho b hb with h1 | ⟨c', h1, h2, h3, h4⟩
      · rw [he] at h1; cases h1
      · rw [he] at h1; cases h1
        exact nowF_root ho n c h4 (by
          rcases h with h | h
          · rw [he] at h; cases h
          · rcases ho c h4 with h5 | ⟨_, _, h6, h7, _⟩
            · exact Or.inl h5
            · exact Or.inr (by omega))
theorem nowS_root {T : gT} {N : gN} (hV : VT T) (hVN : VN T N) {b : Nat} (hb : b < 6) : N.2 0 (nowS N b) = none := by
  obtain ⟨o, ho⟩ := or_le hV hVN
  exact nowF_root ho 6 b hb (Or.inr (by omega))
section MB
variable {T : gT} {N : gN} {u : gM}
theorem m_isIn (x y z : Int64) : X12_isIn u x y z = some (b2 (y ≤ x ∧ x ≤ z)) := by
  by_cases h1 : y ≤ x
  · by_cases h2 : x ≤ z
    · have h3 : ¬ x < y := Int64.not_lt.mpr h1
      have h4 : ¬ z < x := Int64.not_lt.mpr h2
      simp [X12_isIn_b18, X12_isIn_b17, X12_isIn, nI_lit, lg_lt, lg_gt, lg_le, lg_ge, h1, h2, h3, h4, bI, b2]
    · have h3 : ¬ x < y := Int64.not_lt.mpr h1
      have h4 : z < x := Int64.not_le.mp h2
      simp [X12_isIn_b18, X12_isIn_b17, X12_isIn, nI_lit, lg_lt, lg_gt, lg_le, lg_ge, h1, h2, h3, h4, bI, b2]
  · have h3 : x < y := Int64.not_le.mp h1
    simp [X12_isIn_b18, X12_isIn_b17, X12_isIn, nI_lit, lg_lt, lg_gt, lg_le, lg_ge, h1, h3, bI, b2]
theorem m_one (P : Prop) [Decidable P] : X12_one u (b2 P) = some (b2 P) := by
  by_cases h : P
  · simp [X12_one_b9, X12_one, b2_t h, nI_lit, nI_eq]
  · simp [X12_one_b9, X12_one, b2_f h, nI_lit]
theorem m_isPerson {n : Nat} (hV : VT T) (hT : RTm 0 T u) (hn : n < T 0 0) : X12_isPerson u (nI n) = some (nI 1) := by
  have h1 := hV.np
  have h2 := hT.np
  simp only [Nat.mul_zero, Nat.zero_add] at h2
  simp (disch := omega) only [X12_isPerson, nI_lit, lN_lit, aM1, h2, Option.bind_some, m_isIn, b2_t (in64_t hn (by omega))]
  rfl
theorem m_isPersonF {x : Int32} (hV : VT T) (hT : RTm 0 T u) (hn : x < nI 0 ∨ nI (T 0 0) ≤ x) : X12_isPerson u x = some (nI 0) := by
  have h1 := hV.np
  have h2 := hT.np
  simp only [Nat.mul_zero, Nat.zero_add] at h2
  simp (disch := omega) only [X12_isPerson, nI_lit, lN_lit, aM1, h2, Option.bind_some, m_isIn, b2_f (in64_f (by omega) hn)]
  rfl
theorem m_isBank {n : Nat} (hV : VT T) (hT : RTm 0 T u) (hn : n < T 0 1) : X12_isBank u (nI n) = some (nI 1) := by
  have h1 := hV.nb
  have h2 := hT.nb
  simp only [Nat.mul_zero, Nat.zero_add] at h2
  simp (disch := omega) only [X12_isBank, nI_lit, lN_lit, aM1, h2, Option.bind_some, m_isIn, b2_t (in64_t hn (by omega))]
  rfl
theorem m_isBankF {x : Int32} (hV : VT T) (hT : RTm 0 T u) (hn : x < nI 0 ∨ nI (T 0 1) ≤ x) : X12_isBank u x = some (nI 0) := by
  have h1 := hV.nb
  have h2 := hT.nb
  simp only [Nat.mul_zero, Nat.zero_add] at h2
  simp (disch := omega) only [X12_isBank, nI_lit, lN_lit, aM1, h2, Option.bind_some, m_isIn, b2_f (in64_f (by omega) hn)]
  rfl
theorem m_isAccount {n : Nat} (hV : VT T) (hT : RTm 0 T u) (hn : n < T 0 2) : X12_isAccount u (nI n) = some (nI 1) := by
  have h1 := hV.na
  have h2 := hT.na
  simp only [Nat.mul_zero, Nat.zero_add] at h2
  simp (disch := omega) only [X12_isAccount, nI_lit, lN_lit, aM1, h2, Option.bind_some, m_isIn, b2_t (in64_t hn (by omega))]
  rfl
theorem m_isAccountF {x : Int32} (hV : VT T) (hT : RTm 0 T u) (hn : x < nI 0 ∨ nI (T 0 2) ≤ x) : X12_isAccount u x = some (nI 0) := by
  have h1 := hV.na
  have h2 := hT.na
  simp only [Nat.mul_zero, Nat.zero_add] at h2
  simp (disch := omega) only [X12_isAccount, nI_lit, lN_lit, aM1, h2, Option.bind_some, m_isIn, b2_f (in64_f (by omega) hn)]
  rfl
theorem m_isLoan {n : Nat} (hV : VT T) (hT : RTm 0 T u) (hn : n < T 0 3) : X12_isLoan u (nI n) = some (nI 1) := by
  have h1 := hV.nl
  have h2 := hT.nl
  simp only [Nat.mul_zero, Nat.zero_add] at h2
  simp (disch := omega) only [X12_isLoan, nI_lit, lN_lit, aM1, h2, Option.bind_some, m_isIn, b2_t (in64_t hn (by omega))]
  rfl
theorem m_isLoanF {x : Int32} (hV : VT T) (hT : RTm 0 T u) (hn : x < nI 0 ∨ nI (T 0 3) ≤ x) : X12_isLoan u x = some (nI 0) := by
  have h1 := hV.nl
  have h2 := hT.nl
  simp only [Nat.mul_zero, Nat.zero_add] at h2
  simp (disch := omega) only [X12_isLoan, nI_lit, lN_lit, aM1, h2, Option.bind_some, m_isIn, b2_f (in64_f (by omega) hn)]
  rfl
theorem m_nowAt_l (hV : VT T) (hN : RNm (u.1 16) T N) (hVN : VN T N) {o : Nat → Nat} (ho : ∀ b, b < 6 → (N.2 0 b = none) ∨ (∃ c, N.2 0 b = some c ∧ o b < o c ∧ o c ≤ 5 ∧ c < 6)) : ∀ (n b : Nat), b < 6 → (N.2 0 b = none ∧ 0 < n ∨ 6 - o b < n) → X12_nowAt_l2 u n (nI b) = some (nI (nowF N 6 b)) := by
  intro n
  induction n with
  | zero => intro b h1 h2; omega
  | succ n ih =>
    intro b hb h2
    unfold X12_nowAt_l2 X12_nowAt_b2
    have h3 := hN.it b hb
    cases h : N.2 0 b with
    | none => simp (disch := omega) [aM16, h3, h, oI, nowF, nI_lit, lN_lit, nI_add, pk_mul, lN_add, lN_mul, Option.bind_some, nI_leI, nI_ltI, nI_eq, lN_leI, lN_ltI, lN_eqI, nI_m1, m1_nI, i_modN, lN_modN, nI_64, lN_32, if_pos, if_neg, ↓reduceIte, if_true, if_false]
    | some c =>
      rcases ho b hb with h4 | ⟨c', h4, h5, h6, h7⟩
      · rw [h] at h4; cases h4
      · rw [h] at h4; cases h4
        have e : nowF N 6 b = nowF N 6 c := by
          conv => lhs; unfold nowF
          rw [h]
          exact nowF_st ho 5 c h7 (by
            rcases ho c h7 with h8 | ⟨_, _, h9, h10, _⟩
            · exact Or.inl h8
            · exact Or.inr (by omega))
        simp (disch := omega) [aM16, h3, h, oI, e, nI_lit, lN_lit, nI_add, pk_mul, lN_add, lN_mul, Option.bind_some, nI_leI, nI_ltI, nI_eq, lN_leI, lN_ltI, lN_eqI, nI_m1, m1_nI, i_modN, lN_modN, nI_64, lN_32, if_pos, if_neg, ↓reduceIte, if_true, if_false]
        exact ih c h7 (by
          rcases h2 with ⟨h8, -⟩ | h8
          · rw [h] at h8; cases h8
          · right; omega)
theorem m_nowAt {b : Nat} (hV : VT T) (hN : RNm (u.1 16) T N) (hVN : VN T N) (hb : b < 6) : X12_nowAt u (nI b) = some (nI (nowS N b)) := by
  obtain ⟨o, ho⟩ := or_le hV hVN
  unfold X12_nowAt nowS
  exact m_nowAt_l hV hN hVN ho fz b hb (Or.inr (fz_lt (by omega)))
theorem m_endOf {a b : Nat} (hV : VT T) (hT : RTm 0 T u) (hN : RNm (u.1 16) T N) (hVN : VN T N) (ha : a < T 0 2) (hb : b < 6) (hm : N.2 0 b ≠ none) : X12_endOf u (nI a) (nI b) = some (nI (endS T N a b)) := by
  have h1 := hV.na
  have h2 := hV.te a ha
  have h3 := hV.gr
  have h4 := hT.te a ha
  have h5 := hN.si b hb
  have h6 := hT.gr
  simp only [Nat.mul_zero, Nat.zero_add] at h4 h6
  obtain ⟨m, h7, h8⟩ := hVN.si b hb hm
  have h9 := hVN.mo
  unfold endS
  by_cases h10 : T 4 a = 0
  · simp (disch := omega) [X12_endOf_b50, X12_endOf, aM16, aM12, aM1, h4, h5, h6, h7, h10, oI, nI_lit, lN_lit, nI_add, pk_mul, lN_add, lN_mul, Option.bind_some, nI_leI, nI_ltI, nI_eq, lN_leI, lN_ltI, lN_eqI, nI_m1, m1_nI, i_modN, lN_modN, nI_64, lN_32, if_pos, if_neg, ↓reduceIte, if_true, if_false]
  · have h11 : (m + T 0 5 + T 4 a - 1) / T 4 a ≤ m + T 0 5 + T 4 a - 1 := Nat.div_le_self _ _
    simp (disch := omega) [X12_endOf_b50, X12_endOf, aM16, aM12, aM1, h4, h5, h6, h7, h10, oI, pk_sub, i_divN, mxI_N, nI_lit, lN_lit, nI_add, pk_mul, lN_add, lN_mul, Option.bind_some, nI_leI, nI_ltI, nI_eq, lN_leI, lN_ltI, lN_eqI, nI_m1, m1_nI, i_modN, lN_modN, nI_64, lN_32, if_pos, if_neg, ↓reduceIte, if_true, if_false]
    rw [Nat.mul_comm]
theorem m_countedAt_l {a m : Nat} (hV : VT T) (hT : RTm 0 T u) (hN : RNm (u.1 16) T N) (hVN : VN T N) (ha : a < T 0 2) (hm : m < 2 ^ 30) {o : Nat → Nat} (ho : ∀ b, b < 6 → (N.2 0 b = none) ∨ (∃ c, N.2 0 b = some c ∧ o b < o c ∧ o c ≤ 5 ∧ c < 6)) : ∀ (n b : Nat), b < 6 → (N.2 0 b = none ∧ 0 < n ∨ 6 - o b < n) → X12_countedAt_l7 u n (nI a) (nI m) (nI b) = some (nI (cntF T N a m 6 b)) := by
  intro n
  induction n with
  | zero => intro b h1 h2; omega
  | succ n ih =>
    intro b hb h2
    unfold X12_countedAt_l7 X12_countedAt_b7
    have h3 := hN.it b hb
    have h11 := endS_le hV hVN ha hb
    cases h : N.2 0 b with
    | none => simp (disch := omega) [X12_countedAt_b43, X12_countedAt, aM16, h3, h, oI, cntF, nI_lit, lN_lit, nI_add, pk_mul, lN_add, lN_mul, Option.bind_some, nI_leI, nI_ltI, nI_eq, lN_leI, lN_ltI, lN_eqI, nI_m1, m1_nI, i_modN, lN_modN, nI_64, lN_32, if_pos, if_neg, ↓reduceIte, if_true, if_false]
    | some c =>
      rcases ho b hb with h4 | ⟨c', h4, h5, h6, h7⟩
      · rw [h] at h4; cases h4
      · rw [h] at h4; cases h4
        by_cases h12 : endS T N a b ≤ m
        · have e : cntF T N a m 6 b = cntF T N a m 6 c := by
            conv => lhs; unfold cntF
            rw [h]
            simp only
            rw [if_pos h12]
            exact cntF_st ho 5 c h7 (by
              rcases ho c h7 with h8 | ⟨_, _, h9, h10, _⟩
              · exact Or.inl h8
              · exact Or.inr (by omega))
          simp (disch := omega) [X12_countedAt_b43, X12_countedAt, aM16, h3, h, oI, e, m_endOf hV hT hN hVN ha hb (by rw [h]; simp), h12, nI_lit, lN_lit, nI_add, pk_mul, lN_add, lN_mul, Option.bind_some, nI_leI, nI_ltI, nI_eq, lN_leI, lN_ltI, lN_eqI, nI_m1, m1_nI, i_modN, lN_modN, nI_64, lN_32, if_pos, if_neg, ↓reduceIte, if_true, if_false]
          exact ih c h7 (by
            rcases h2 with ⟨h8, -⟩ | h8
            · rw [h] at h8; cases h8
            · right; omega)
        · have e : cntF T N a m 6 b = b := by
            unfold cntF
            rw [h]
            simp only
            rw [if_neg h12]
          simp (disch := omega) [X12_countedAt_b43, X12_countedAt, aM16, h3, h, oI, e, m_endOf hV hT hN hVN ha hb (by rw [h]; simp), h12, nI_lit, lN_lit, nI_add, pk_mul, lN_add, lN_mul, Option.bind_some, nI_leI, nI_ltI, nI_eq, lN_leI, lN_ltI, lN_eqI, nI_m1, m1_nI, i_modN, lN_modN, nI_64, lN_32, if_pos, if_neg, ↓reduceIte, if_true, if_false]
theorem m_countedAt {a m : Nat} (hV : VT T) (hT : RTm 0 T u) (hN : RNm (u.1 16) T N) (hVN : VN T N) (ha : a < T 0 2) (hm : m < 2 ^ 30) : X12_countedAt u (nI a) (nI m) = some (nI (cntS T N a m)) := by
  have h1 := hV.na
  have h2 := hT.hm a ha
  simp only [Nat.mul_zero, Nat.zero_add] at h2
  obtain ⟨o, ho⟩ := or_le hV hVN
  unfold X12_countedAt cntS
  rw [aM6 (by omega), h2, Option.bind_some]
  exact m_countedAt_l hV hT hN hVN ha hm ho fz (T 2 a) (hm_lt hV ha) (Or.inr (fz_lt (by omega)))
theorem m_isOpen {b : Nat} (hV : VT T) (hN : RNm (u.1 16) T N) (hVN : VN T N) (hb : b < 6) : X12_isOpen u (nI b) = some (b2 (N.2 0 b = none ∧ N.1 3 b = 0)) := by
  have h1 := hN.it b hb
  have h3 := hN.fa b hb
  have h4 := hVN.fa b hb
  cases h : N.2 0 b with
  | none =>
    by_cases h5 : N.1 3 b = 0
    · simp (disch := omega) [X12_isOpen_b30, X12_isOpen_b29, X12_isOpen, aM16, h1, h, h3, h5, oI, b2, bI, nI_lit, lN_lit, nI_add, pk_mul, lN_add, lN_mul, Option.bind_some, nI_leI, nI_ltI, nI_eq, lN_leI, lN_ltI, lN_eqI, nI_m1, m1_nI, i_modN, lN_modN, nI_64, lN_32, if_pos, if_neg, ↓reduceIte, if_true, if_false]
    · simp (disch := omega) [X12_isOpen_b30, X12_isOpen_b29, X12_isOpen, aM16, h1, h, h3, h5, oI, b2, bI, nI_lit, lN_lit, nI_add, pk_mul, lN_add, lN_mul, Option.bind_some, nI_leI, nI_ltI, nI_eq, lN_leI, lN_ltI, lN_eqI, nI_m1, m1_nI, i_modN, lN_modN, nI_64, lN_32, if_pos, if_neg, ↓reduceIte, if_true, if_false]
  | some c =>
    have h2 := it_lt hV hVN hb h
    simp (disch := omega) [X12_isOpen_b30, X12_isOpen_b29, X12_isOpen, aM16, h1, h, oI, b2, bI, nI_lit, lN_lit, nI_add, pk_mul, lN_add, lN_mul, Option.bind_some, nI_leI, nI_ltI, nI_eq, lN_leI, lN_ltI, lN_eqI, nI_m1, m1_nI, i_modN, lN_modN, nI_64, lN_32, if_pos, if_neg, ↓reduceIte, if_true, if_false]
theorem m_shareOf {a k : Nat} (hV : VT T) (hT : RTm 0 T u) (hN : RNm (u.1 16) T N) (hVN : VN T N) (ha : a < T 0 2) (hk : k < T 5 a) : X12_shareOf u (nI a) (nI k) = some (nI (shS T N a k)) := by
  have h1 := hV.na
  have h2 := hV.no a ha
  have h3 := hVN.co a ha
  have h4 := hT.no a ha
  have h5 := hN.co a ha
  simp only [Nat.mul_zero, Nat.zero_add] at h4
  have h6 : N.1 1 a % T 5 a < T 5 a := Nat.mod_lt _ (by omega)
  have h8 : X12_one u (nI 1) = some (nI 1) := by simp [X12_one_b9, X12_one, nI_lit, nI_eq]
  have h9 : X12_one u (nI 0) = some (nI 0) := by simp [X12_one_b9, X12_one, nI_lit]
  unfold shS
  by_cases h7 : k < N.1 1 a % T 5 a
  · simp (disch := omega) [X12_shareOf_b39, X12_shareOf, nI_lit, lN_lit, nI_add, pk_mul, lN_add, lN_mul, Option.bind_some, nI_leI, nI_ltI, nI_eq, lN_leI, lN_ltI, lN_eqI, nI_m1, m1_nI, i_modN, lN_modN, nI_64, lN_32, if_pos, if_neg, ↓reduceIte, if_true, if_false, aM16, aM7, h4, h5, i_divN, h7, h8, h9]
  · simp (disch := omega) [X12_shareOf_b39, X12_shareOf, nI_lit, lN_lit, nI_add, pk_mul, lN_add, lN_mul, Option.bind_some, nI_leI, nI_ltI, nI_eq, lN_leI, lN_ltI, lN_eqI, nI_m1, m1_nI, i_modN, lN_modN, nI_64, lN_32, if_pos, if_neg, ↓reduceIte, if_true, if_false, aM16, aM7, h4, h5, i_divN, h7, h8, h9]
theorem m_ownerAt_l {a p : Nat} (hV : VT T) (hT : RTm 0 T u) (ha : a < T 0 2) (hp : p < T 0 0) : ∀ (n k : Nat), k ≤ T 5 a → T 5 a - k < n → X12_ownerAt_l2 u n (nI a) (nI p) (nI k) = some (oI (fstN (fun k => T 7 (a * 4 + k) = p) k (T 5 a - k))) := by
  have h1 := hV.na
  have h2 := hV.no a ha
  have h3 := hT.no a ha
  have h9 := hV.np
  simp only [Nat.mul_zero, Nat.zero_add] at h3
  intro n
  induction n with
  | zero => intro k h4 h5; omega
  | succ n ih =>
    intro k h4 h5
    unfold X12_ownerAt_l2 X12_ownerAt_b2
    by_cases h6 : k = T 5 a
    · subst h6
      simp (disch := omega) [aM7, h3, fstN, oI, nI_lit, lN_lit, nI_add, pk_mul, lN_add, lN_mul, Option.bind_some, nI_leI, nI_ltI, nI_eq, lN_leI, lN_ltI, lN_eqI, nI_m1, m1_nI, i_modN, lN_modN, nI_64, lN_32, if_pos, if_neg, ↓reduceIte, if_true, if_false]
    · have h7 := hT.ow a k ha (by omega)
      simp only [Nat.mul_zero, Nat.zero_add] at h7
      have h8 := hV.ow a k ha (by omega)
      rw [show T 5 a - k = (T 5 a - (k + 1)) + 1 by omega]
      unfold fstN
      by_cases h10 : T 7 (a * 4 + k) = p
      · simp (disch := omega) [aM7, aM8, h3, h7, h10, oI, nI_lit, lN_lit, nI_add, pk_mul, lN_add, lN_mul, Option.bind_some, nI_leI, nI_ltI, nI_eq, lN_leI, lN_ltI, lN_eqI, nI_m1, m1_nI, i_modN, lN_modN, nI_64, lN_32, if_pos, if_neg, ↓reduceIte, if_true, if_false]
      · simp (disch := omega) [aM7, aM8, h3, h7, h10, nI_lit, lN_lit, nI_add, pk_mul, lN_add, lN_mul, Option.bind_some, nI_leI, nI_ltI, nI_eq, lN_leI, lN_ltI, lN_eqI, nI_m1, m1_nI, i_modN, lN_modN, nI_64, lN_32, if_pos, if_neg, ↓reduceIte, if_true, if_false, ih (k + 1) (by omega) (by omega)]
theorem m_ownerAt {a p : Nat} (hV : VT T) (hT : RTm 0 T u) (ha : a < T 0 2) (hp : p < T 0 0) : X12_ownerAt u (nI a) (nI p) = some (oI (owS T a p)) := by
  have h1 := hV.no a ha
  unfold X12_ownerAt owS
  have := m_ownerAt_l hV hT ha hp fz 0 (Nat.zero_le _) (fz_lt (by omega))
  rw [nI_lit]
  exact this
end MB
