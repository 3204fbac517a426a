/-! bank, account, owner -/
section O2
variable {T : gT} {N : gN} {P : List gN} {S : gS} {u v : gM}
theorem hM_t0 {d : Nat} (h : RTm 0 T u) (hd : d < 1) : True := trivial
/-- how many ACCOUNTS are now at a BANK -/
def natF (T : gT) (N : gN) (b a : Nat) : Nat := if nowS N (T 2 a) = b then 1 else 0
def catF (T : gT) (N : gN) (m b a : Nat) : Nat := if cntS T N a m = b then 1 else 0
theorem q_nat_l {b : Nat} (hV : VT T) (hVN : VN T N) (hT : RT 3 T u) (hN : RN 18 T N u) (hb : b < 2 ^ 31) : ∀ (f a : Nat), a ≤ T 0 2 → T 0 2 - a < f → X11_accountsNowAt_l4 u f (nI b) (nI (sumN (natF T N b) a)) (nI a) = some (nI (sumN (natF T N b) (T 0 2))) := by
  have hna := hV.na
  have c1 := hT.hm; simp only [Nat.reduceAdd] at c1
  intro f
  induction f with
  | zero => intro a h1 h2; omega
  | succ f ih =>
    intro a h1 h3
    unfold X11_accountsNowAt_l4 X11_accountsNowAt_b4 X11_accountsNowAt_b38
    by_cases h4 : a = T 0 2
    · rw [hT.na, h4, if_pos (Int32.le_refl _)]
    · have ha : a < T 0 2 := by omega
      have e := ih (a + 1) (by omega) (by omega)
      rw [sumN_s] at e
      have h5 := q_nowAt hV hN hVN (hm_lt hV ha)
      have h6 := nowF_lt hV hVN 6 _ (hm_lt hV ha)
      have h6' : nowS N (T 2 a) < 6 := h6
      by_cases h7 : nowS N (T 2 a) = b
      · have h8 : natF T N b a = 1 := if_pos h7
        rw [h8] at e
        simp (disch := omega) only [hT.na, aC8, c1 a ha, h5, h7, nI_lit, lN_lit, nI_add, pk_mul, lN_add, lN_mul, Option.bind_some, nI_leI, nI_ltI, nI_eq, lN_leI, lN_ltI, lN_eqI, nI_m1, m1_nI, i_modN, lN_modN, nI_64, lN_32, if_pos, if_neg, ↓reduceIte, if_true, if_false]
        exact e
      · have h8 : natF T N b a = 0 := if_neg h7
        rw [h8] at e
        simp (disch := omega) only [hT.na, aC8, c1 a ha, h5, h7, nI_lit, lN_lit, nI_add, pk_mul, lN_add, lN_mul, Option.bind_some, nI_leI, nI_ltI, nI_eq, lN_leI, lN_ltI, lN_eqI, nI_m1, m1_nI, i_modN, lN_modN, nI_64, lN_32, if_pos, if_neg, ↓reduceIte, if_true, if_false]
        exact e
theorem q_nat {b : Nat} (hV : VT T) (hVN : VN T N) (hT : RT 3 T u) (hN : RN 18 T N u) (hb : b < 2 ^ 31) : X11_accountsNowAt u (nI b) = some (nI (sumN (natF T N b) (T 0 2))) := by
  have hna := hV.na
  unfold X11_accountsNowAt
  rw [nI_lit]
  exact q_nat_l hV hVN hT hN hb fz 0 (Nat.zero_le _) (fz_lt (by omega))
theorem m_nat_l {b : Nat} (hV : VT T) (hVN : VN T N) (hT : RTm 0 T u) (hN : RNm (u.1 16) T N) (hb : b < 2 ^ 31) : ∀ (f a : Nat), a ≤ T 0 2 → T 0 2 - a < f → X12_bank_l72 u f (nI b) (nI 3) (nI (sumN (natF T N b) a)) (nI a) = some (nI (sumN (natF T N b) (T 0 2))) := by
  have hna := hV.na
  have t1 := hT.hm; have t2 := hT.na; simp only [Nat.mul_zero, Nat.zero_add] at t1 t2
  intro f
  induction f with
  | zero => intro a h1 h2; omega
  | succ f ih =>
    intro a h1 h3
    unfold X12_bank_l72 X12_bank_b72 X12_bank_b115 X12_bank_b124
    by_cases h4 : a = T 0 2
    · simp (disch := omega) only [aM1, t2, h4, nI_lit, lN_lit, nI_add, pk_mul, lN_add, lN_mul, Option.bind_some, nI_leI, nI_ltI, nI_eq, lN_leI, lN_ltI, lN_eqI, nI_m1, m1_nI, i_modN, lN_modN, nI_64, lN_32, if_pos, if_neg, ↓reduceIte, if_true, if_false]
    · have ha : a < T 0 2 := by omega
      have e := ih (a + 1) (by omega) (by omega)
      rw [sumN_s] at e
      have h5 := m_nowAt hV hN hVN (hm_lt hV ha)
      have h6 := nowF_lt hV hVN 6 _ (hm_lt hV ha)
      have h6' : nowS N (T 2 a) < 6 := h6
      have o1 := m_one (u := u) (1 = 1)
      have o0 := m_one (u := u) (1 = 0)
      rw [b2_t rfl] at o1
      rw [b2_f (by decide)] at o0
      by_cases h7 : nowS N (T 2 a) = b
      · have h8 : natF T N b a = 1 := if_pos h7
        rw [h8] at e
        simp (disch := omega) only [aM1, aM6, t2, t1 a ha, h5, h7, o1, nI_lit, lN_lit, nI_add, pk_mul, lN_add, lN_mul, Option.bind_some, nI_leI, nI_ltI, nI_eq, lN_leI, lN_ltI, lN_eqI, nI_m1, m1_nI, i_modN, lN_modN, nI_64, lN_32, if_pos, if_neg, ↓reduceIte, if_true, if_false]
        exact e
      · have h8 : natF T N b a = 0 := if_neg h7
        rw [h8] at e
        simp (disch := omega) only [aM1, aM6, t2, t1 a ha, h5, h7, o0, nI_lit, lN_lit, nI_add, pk_mul, lN_add, lN_mul, Option.bind_some, nI_leI, nI_ltI, nI_eq, lN_leI, lN_ltI, lN_eqI, nI_m1, m1_nI, i_modN, lN_modN, nI_64, lN_32, if_pos, if_neg, ↓reduceIte, if_true, if_false]
        exact e
theorem m_cat_l {b : Nat} (hV : VT T) (hVN : VN T N) (hT : RTm 0 T u) (hN : RNm (u.1 16) T N) (hb : b < 2 ^ 31) : ∀ (f a : Nat), a ≤ T 0 2 → T 0 2 - a < f → X12_bank_l72 u f (nI b) (nI 4) (nI (sumN (catF T N (N.1 0 0) b) a)) (nI a) = some (nI (sumN (catF T N (N.1 0 0) b) (T 0 2))) := by
  have hna := hV.na
  have hmo := hVN.mo
  have t2 := hT.na; simp only [Nat.mul_zero, Nat.zero_add] at t2
  intro f
  induction f with
  | zero => intro a h1 h2; omega
  | succ f ih =>
    intro a h1 h3
    unfold X12_bank_l72 X12_bank_b72 X12_bank_b115 X12_bank_b124
    by_cases h4 : a = T 0 2
    · simp (disch := omega) only [aM1, t2, h4, nI_lit, lN_lit, nI_add, pk_mul, lN_add, lN_mul, Option.bind_some, nI_leI, nI_ltI, nI_eq, lN_leI, lN_ltI, lN_eqI, nI_m1, m1_nI, i_modN, lN_modN, nI_64, lN_32, if_pos, if_neg, ↓reduceIte, if_true, if_false]
    · have ha : a < T 0 2 := by omega
      have e := ih (a + 1) (by omega) (by omega)
      rw [sumN_s] at e
      have h5 := m_countedAt (m := N.1 0 0) hV hT hN hVN ha (by omega)
      have h6 := cntS_lt (m := N.1 0 0) hV hVN ha
      have o1 := m_one (u := u) (1 = 1)
      have o0 := m_one (u := u) (1 = 0)
      rw [b2_t rfl] at o1
      rw [b2_f (by decide)] at o0
      have n43 : ((4 : Nat) = 3) = False := by simp
      by_cases h7 : cntS T N a (N.1 0 0) = b
      · have h8 : catF T N (N.1 0 0) b a = 1 := if_pos h7
        rw [h8] at e
        simp (disch := omega) only [aM1, aM16, hN.mo, t2, n43, h5, h7, o1, nI_lit, lN_lit, nI_add, pk_mul, lN_add, lN_mul, Option.bind_some, nI_leI, nI_ltI, nI_eq, lN_leI, lN_ltI, lN_eqI, nI_m1, m1_nI, i_modN, lN_modN, nI_64, lN_32, if_pos, if_neg, ↓reduceIte, if_true, if_false]
        exact e
      · have h8 : catF T N (N.1 0 0) b a = 0 := if_neg h7
        rw [h8] at e
        simp (disch := omega) only [aM1, aM16, hN.mo, t2, n43, h5, h7, o0, nI_lit, lN_lit, nI_add, pk_mul, lN_add, lN_mul, Option.bind_some, nI_leI, nI_ltI, nI_eq, lN_leI, lN_ltI, lN_eqI, nI_m1, m1_nI, i_modN, lN_modN, nI_64, lN_32, if_pos, if_neg, ↓reduceIte, if_true, if_false]
        exact e
theorem isIn_k {k n : Nat} (h : k ≤ n) (hn : n < 2 ^ 31) : X12_isIn u (nI k).toInt64 (lN 0) (lN n) = some (nI 1) := by
  rw [m_isIn, nI_64 (by omega), b2_t]
  rw [lN_leI (by omega) (by omega), lN_leI (by omega) (by omega)]
  omega
theorem isIn_o {x : Int32} {n : Nat} (h : x < nI 0 ∨ nI (n + 1) ≤ x) (hn : n < 2 ^ 29) : X12_isIn u x.toInt64 (lN 0) (lN n) = some (nI 0) := by
  have h1 := in64_f (m := n + 1) (x := x) (show n + 1 < 2 ^ 30 by omega) h
  rw [nI_sub1 (by omega), Nat.add_sub_cancel, nI_64 (by omega)] at h1
  rw [m_isIn, b2_f h1]
theorem o_bank (b x : Int32) (h : RR T N P S u v) : SP (X11_bank u b x) (X12_bank v b x) := by
  have c1 := h.c.t; have c2 := h.c.n; have m1 := h.m.t; have m2 := h.m.n
  have hV := h.d.t; have hVN := h.d.n; have hnb := hV.nb; have hmo := hVN.mo; have hna := hV.na
  have p1 := c2.it; have p2 := c2.si; have p3 := c2.fa
  simp only [Nat.reduceAdd] at p1 p2 p3
  unfold X11_bank X12_bank X12_bank_b20 SP
  rcases i_cases b (T 0 1) (by omega) with ⟨b, hb, rfl⟩ | hl
  · have hb6 : b < 6 := by omega
    rw [q_isBank hV c1 hb, m_isBank hV m1 hb, Option.bind_some, Option.bind_some, if_neg n10, if_neg n10]
    rcases i_cases x 5 (by omega) with ⟨k, hk, rfl⟩ | hx
    · have k0 := isIn_k (u := v) (show k ≤ 4 by omega) (by omega)
      rcases (show k = 0 ∨ k = 1 ∨ k = 2 ∨ k = 3 ∨ k = 4 by omega) with rfl | rfl | rfl | rfl | rfl
      · simp (disch := omega) only [k0, aC21, aM16, p1 b hb6, m2.it b hb6, nI_lit, lN_lit, nI_add, pk_mul, lN_add, lN_mul, Option.bind_some, nI_leI, nI_ltI, nI_eq, lN_leI, lN_ltI, lN_eqI, nI_m1, m1_nI, i_modN, lN_modN, nI_64, lN_32, if_pos, if_neg, ↓reduceIte, if_true, if_false, Nat.reduceEqDiff]; exact ⟨_, rfl, rfl⟩
      · simp (disch := omega) only [k0, aC22, aM16, p2 b hb6, m2.si b hb6, nI_lit, lN_lit, nI_add, pk_mul, lN_add, lN_mul, Option.bind_some, nI_leI, nI_ltI, nI_eq, lN_leI, lN_ltI, lN_eqI, nI_m1, m1_nI, i_modN, lN_modN, nI_64, lN_32, if_pos, if_neg, ↓reduceIte, if_true, if_false, Nat.reduceEqDiff]; exact ⟨_, rfl, rfl⟩
      · simp (disch := omega) only [k0, aC23, aM16, p3 b hb6, m2.fa b hb6, nI_lit, lN_lit, nI_add, pk_mul, lN_add, lN_mul, Option.bind_some, nI_leI, nI_ltI, nI_eq, lN_leI, lN_ltI, lN_eqI, nI_m1, m1_nI, i_modN, lN_modN, nI_64, lN_32, if_pos, if_neg, ↓reduceIte, if_true, if_false, Nat.reduceEqDiff]; exact ⟨_, rfl, rfl⟩
      · have e := m_nat_l (b := b) hV hVN m1 m2 (by omega) fz 0 (Nat.zero_le _) (fz_lt (by omega))
        rw [sumN] at e
        simp (disch := omega) only [k0, q_nat hV hVN c1 c2 (show b < 2 ^ 31 by omega), e, nI_lit, lN_lit, nI_add, pk_mul, lN_add, lN_mul, Option.bind_some, nI_leI, nI_ltI, nI_eq, lN_leI, lN_ltI, lN_eqI, nI_m1, m1_nI, i_modN, lN_modN, nI_64, lN_32, if_pos, if_neg, ↓reduceIte, if_true, if_false, Nat.reduceEqDiff]; exact ⟨_, rfl, rfl⟩
      · have e := m_cat_l (b := b) hV hVN m1 m2 (by omega) fz 0 (Nat.zero_le _) (fz_lt (by omega))
        rw [sumN] at e
        have e2 := q_ctd (b := b) (m := N.1 0 0) hV hVN c1 c2 (by omega) (by omega)
        rw [← c2.mo] at e2
        simp (disch := omega) only [k0, e2, e, nI_lit, lN_lit, nI_add, pk_mul, lN_add, lN_mul, Option.bind_some, nI_leI, nI_ltI, nI_eq, lN_leI, lN_ltI, lN_eqI, nI_m1, m1_nI, i_modN, lN_modN, nI_64, lN_32, if_pos, if_neg, ↓reduceIte, if_true, if_false, Nat.reduceEqDiff]; exact ⟨_, rfl, rfl⟩
    · have k0 := isIn_o (u := v) (n := 4) hx (by omega)
      have w0 := i_out hx (show 0 < 5 by omega) (by omega)
      have w1 := i_out hx (show 1 < 5 by omega) (by omega)
      have w2 := i_out hx (show 2 < 5 by omega) (by omega)
      have w3 := i_out hx (show 3 < 5 by omega) (by omega)
      have w4 := i_out hx (show 4 < 5 by omega) (by omega)
      simp (disch := omega) only [k0, w0, w1, w2, w3, w4, nI_lit, lN_lit, nI_add, pk_mul, lN_add, lN_mul, Option.bind_some, nI_leI, nI_ltI, nI_eq, lN_leI, lN_ltI, lN_eqI, nI_m1, m1_nI, i_modN, lN_modN, nI_64, lN_32, if_pos, if_neg, ↓reduceIte, if_true, if_false]; exact ⟨_, rfl, rfl⟩
  · rw [q_isBankF c1 hl, m_isBankF hV m1 hl]
    exact ⟨_, rfl, rfl⟩
end O2
