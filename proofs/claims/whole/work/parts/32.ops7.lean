/-! held -/
section O7
variable {T : gT} {N : gN} {P : List gN} {S : gS} {u v : gM}
def hcF (T : gT) (N : gN) (b a : Nat) : Nat := if nowS N (T 2 a) = b then N.1 1 a else 0
def hiF (T : gT) (N : gN) (b a : Nat) : Nat := if nowS N (T 2 a) = b then iacS T N (N.1 0 0) a else 0
def hlF (T : gT) (N : gN) (b l : Nat) : Nat := if nowS N (T 9 l) = b then N.1 2 l else 0
theorem nowS_6 (hV : VT T) (hVN : VN T N) {b : Nat} (hb : b < 6) : nowS N b < 6 := nowF_lt hV hVN 6 _ hb
theorem hb_sum {F : Nat → Nat} {n B : Nat} (hF : ∀ a, a < T 0 2 → F a ≤ B) (hV : VT T) (hn : n ≤ T 0 2) : sumN F n ≤ 24 * B := by
  have h1 := sumN_max (p := F) (B := B) (n := n) (fun i hi => hF i (by omega))
  have h2 := hV.na
  exact Nat.le_trans h1 (Nat.mul_le_mul_right _ (by omega))
theorem q_hc_l {b : Nat} (hV : VT T) (hVN : VN T N) (hT : RT 3 T u) (hN : RN 18 T N u) (hb : b < 2 ^ 31) : ∀ (f a : Nat), a ≤ T 0 2 → T 0 2 - a < f → X11_coinsNowAt_l5 u f (nI b) (lN (sumN (hcF T N b) a)) (nI a) = some (lN (sumN (hcF T N b) (T 0 2))) := by
  have hna := hV.na
  have c1 := hT.hm; have c2 := hN.co; simp only [Nat.reduceAdd] at c1 c2
  intro f
  induction f with
  | zero => intro a h1 h2; omega
  | succ f ih =>
    intro a h1 h3
    unfold X11_coinsNowAt_l5 X11_coinsNowAt_b5 X11_coinsNowAt_b52
    by_cases h4 : a = T 0 2
    · rw [hT.na, h4, if_pos (Int32.le_refl _)]
    · have ha : a < T 0 2 := by omega
      have e := ih (a + 1) (by omega) (by omega)
      rw [sumN_s] at e
      have h5 := q_nowAt hV hN hVN (hm_lt hV ha)
      have h6 := nowS_6 hV hVN (hm_lt hV ha)
      have h7 := hVN.co a ha
      by_cases h8 : nowS N (T 2 a) = b
      · have h9 : hcF T N b a = N.1 1 a := if_pos h8
        rw [h9] at e
        simp (disch := omega) only [hT.na, aC8, aC19, c1 a ha, c2 a ha, h5, h8, nI_lit, lN_lit, nI_add, pk_mul, lN_add, lN_mul, Option.bind_some, nI_leI, nI_ltI, nI_eq, lN_leI, lN_ltI, lN_eqI, nI_m1, m1_nI, i_modN, lN_modN, nI_64, lN_32, if_pos, if_neg, ↓reduceIte, if_true, if_false]
        exact e
      · have h9 : hcF T N b a = 0 := if_neg h8
        rw [h9] at e
        simp (disch := omega) only [hT.na, aC8, c1 a ha, h5, h8, nI_lit, lN_lit, nI_add, pk_mul, lN_add, lN_mul, Option.bind_some, nI_leI, nI_ltI, nI_eq, lN_leI, lN_ltI, lN_eqI, nI_m1, m1_nI, i_modN, lN_modN, nI_64, lN_32, if_pos, if_neg, ↓reduceIte, if_true, if_false]
        exact e
theorem q_hi_l {b : Nat} (hV : VT T) (hVN : VN T N) (hT : RT 3 T u) (hN : RN 18 T N u) (hb : b < 2 ^ 31) (hi : ∀ a k, a < T 0 2 → k < T 5 a → u.1 137 (a * 4 + k) = nI (insS T N (N.1 0 0) a k)) : ∀ (f a : Nat), a ≤ T 0 2 → T 0 2 - a < f → X11_insuredNowAt_l19 f (nI b) (lN (sumN (hiF T N b) a)) (nI a) u = some (lN (sumN (hiF T N b) (T 0 2)), u) := by
  have hna := hV.na
  have c1 := hT.hm; simp only [Nat.reduceAdd] at c1
  intro f
  induction f with
  | zero => intro a h1 h2; omega
  | succ f ih =>
    intro a h1 h3
    unfold X11_insuredNowAt_l19 X11_insuredNowAt_b19 X11_insuredNowAt_b65
    by_cases h4 : a = T 0 2
    · rw [hT.na, h4, if_pos (Int32.le_refl _)]
    · have ha : a < T 0 2 := by omega
      have e := ih (a + 1) (by omega) (by omega)
      rw [sumN_s] at e
      have h5 := q_nowAt hV hN hVN (hm_lt hV ha)
      have h6 := nowS_6 hV hVN (hm_lt hV ha)
      have h7 := iacS_le (m := N.1 0 0) hV hVN ha
      have h7' := q_iac (g := fun k => insS T N (N.1 0 0) a k) hV hT ha (fun k hk => ⟨hi a k ha hk, insS_b hV hVN ha hk⟩)
      have h7'' : sumN (fun k => insS T N (N.1 0 0) a k) (T 5 a) = iacS T N (N.1 0 0) a := rfl
      rw [h7''] at h7'
      by_cases h8 : nowS N (T 2 a) = b
      · have h9 : hiF T N b a = iacS T N (N.1 0 0) a := if_pos h8
        rw [h9] at e
        simp (disch := omega) only [hT.na, aC8, c1 a ha, h5, h8, h7', nI_lit, lN_lit, nI_add, pk_mul, lN_add, lN_mul, Option.bind_some, nI_leI, nI_ltI, nI_eq, lN_leI, lN_ltI, lN_eqI, nI_m1, m1_nI, i_modN, lN_modN, nI_64, lN_32, if_pos, if_neg, ↓reduceIte, if_true, if_false]
        exact e
      · have h9 : hiF T N b a = 0 := if_neg h8
        rw [h9] at e
        simp (disch := omega) only [hT.na, aC8, c1 a ha, h5, h8, nI_lit, lN_lit, nI_add, pk_mul, lN_add, lN_mul, Option.bind_some, nI_leI, nI_ltI, nI_eq, lN_leI, lN_ltI, lN_eqI, nI_m1, m1_nI, i_modN, lN_modN, nI_64, lN_32, if_pos, if_neg, ↓reduceIte, if_true, if_false]
        exact e
theorem q_hl_l {b : Nat} (hV : VT T) (hVN : VN T N) (hT : RT 3 T u) (hN : RN 18 T N u) (hb : b < 2 ^ 31) : ∀ (f l : Nat), l ≤ T 0 3 → T 0 3 - l < f → X11_loansNowAt_l5 u f (nI b) (lN (sumN (hlF T N b) l)) (nI l) = some (lN (sumN (hlF T N b) (T 0 3))) := by
  have hnl := hV.nl
  have hnb := hV.nb
  have c1 := hT.lb; have c2 := hN.od; simp only [Nat.reduceAdd] at c1 c2
  intro f
  induction f with
  | zero => intro l h1 h2; omega
  | succ f ih =>
    intro l h1 h3
    unfold X11_loansNowAt_l5 X11_loansNowAt_b5 X11_loansNowAt_b52
    by_cases h4 : l = T 0 3
    · rw [hT.nl, h4, if_pos (Int32.le_refl _)]
    · have hl : l < T 0 3 := by omega
      have e := ih (l + 1) (by omega) (by omega)
      rw [sumN_s] at e
      have hl6 : T 9 l < 6 := by have := hV.lb l hl; omega
      have h5 := q_nowAt hV hN hVN hl6
      have h6 := nowS_6 hV hVN hl6
      have h7 := hVN.od l hl
      by_cases h8 : nowS N (T 9 l) = b
      · have h9 : hlF T N b l = N.1 2 l := if_pos h8
        rw [h9] at e
        simp (disch := omega) only [hT.nl, aC16, aC20, c1 l hl, c2 l hl, h5, h8, nI_lit, lN_lit, nI_add, pk_mul, lN_add, lN_mul, Option.bind_some, nI_leI, nI_ltI, nI_eq, lN_leI, lN_ltI, lN_eqI, nI_m1, m1_nI, i_modN, lN_modN, nI_64, lN_32, if_pos, if_neg, ↓reduceIte, if_true, if_false]
        exact e
      · have h9 : hlF T N b l = 0 := if_neg h8
        rw [h9] at e
        simp (disch := omega) only [hT.nl, aC16, c1 l hl, h5, h8, nI_lit, lN_lit, nI_add, pk_mul, lN_add, lN_mul, Option.bind_some, nI_leI, nI_ltI, nI_eq, lN_leI, lN_ltI, lN_eqI, nI_m1, m1_nI, i_modN, lN_modN, nI_64, lN_32, if_pos, if_neg, ↓reduceIte, if_true, if_false]
        exact e
theorem m_hl_l {b : Nat} (hV : VT T) (hVN : VN T N) (hT : RTm 0 T v) (hN : RNm (v.1 16) T N) (hb : b < 2 ^ 31) : ∀ (f l : Nat), l ≤ T 0 3 → T 0 3 - l < f → X12_held_l29 f (nI b) (nI 2) (lN (sumN (hlF T N b) l)) (nI l) v = some (lN (sumN (hlF T N b) (T 0 3)), v) := by
  have hnl := hV.nl
  have hnb := hV.nb
  have hna := hV.na
  have t0 := hT.nl; have t1 := hT.lb; have t2 := hT.na; simp only [Nat.mul_zero, Nat.zero_add] at t0 t1 t2
  intro f
  induction f with
  | zero => intro l h1 h2; omega
  | succ f ih =>
    intro l h1 h3
    unfold X12_held_l29 X12_held_b29 X12_held_b76 X12_held_b84
    by_cases h4 : l = T 0 3
    · have e0 : X12_held_l87 fz (nI b) (nI 2) (lN (sumN (hlF T N b) (T 0 3))) (nI 0) v = some (lN (sumN (hlF T N b) (T 0 3)), v) := by
        show X12_held_l87 (3999 + 1) _ _ _ _ _ = _
        unfold X12_held_l87 X12_held_b87 X12_held_b150
        by_cases h5 : T 0 2 ≤ 0
        · simp (disch := omega) only [aM1, t2, h5, nI_lit, lN_lit, nI_add, pk_mul, lN_add, lN_mul, Option.bind_some, nI_leI, nI_ltI, nI_eq, lN_leI, lN_ltI, lN_eqI, nI_m1, m1_nI, i_modN, lN_modN, nI_64, lN_32, if_pos, if_neg, ↓reduceIte, if_true, if_false]
        · simp (disch := omega) only [aM1, t2, h5, nI_lit, lN_lit, nI_add, pk_mul, lN_add, lN_mul, Option.bind_some, nI_leI, nI_ltI, nI_eq, lN_leI, lN_ltI, lN_eqI, nI_m1, m1_nI, i_modN, lN_modN, nI_64, lN_32, if_pos, if_neg, ↓reduceIte, if_true, if_false, Nat.le_refl]
      simp (disch := omega) only [aM1, t0, h4, nI_lit, lN_lit, nI_add, pk_mul, lN_add, lN_mul, Option.bind_some, nI_leI, nI_ltI, nI_eq, lN_leI, lN_ltI, lN_eqI, nI_m1, m1_nI, i_modN, lN_modN, nI_64, lN_32, if_pos, if_neg, ↓reduceIte, if_true, if_false]
      exact e0
    · have hl : l < T 0 3 := by omega
      have e := ih (l + 1) (by omega) (by omega)
      rw [sumN_s] at e
      have hl6 : T 9 l < 6 := by have := hV.lb l hl; omega
      have h5 := m_nowAt hV hN hVN hl6
      have h6 := nowS_6 hV hVN hl6
      have h7 := hVN.od l hl
      by_cases h8 : nowS N (T 9 l) = b
      · have h9 : hlF T N b l = N.1 2 l := if_pos h8
        rw [h9] at e
        simp (disch := omega) only [aM1, aM14, aM16, t0, t1 l hl, hN.od l hl, h5, h8, nI_lit, lN_lit, nI_add, pk_mul, lN_add, lN_mul, Option.bind_some, nI_leI, nI_ltI, nI_eq, lN_leI, lN_ltI, lN_eqI, nI_m1, m1_nI, i_modN, lN_modN, nI_64, lN_32, if_pos, if_neg, ↓reduceIte, if_true, if_false]
        exact e
      · have h9 : hlF T N b l = 0 := if_neg h8
        rw [h9] at e
        simp (disch := omega) only [aM1, aM14, t0, t1 l hl, h5, h8, nI_lit, lN_lit, nI_add, pk_mul, lN_add, lN_mul, Option.bind_some, nI_leI, nI_ltI, nI_eq, lN_leI, lN_ltI, lN_eqI, nI_m1, m1_nI, i_modN, lN_modN, nI_64, lN_32, if_pos, if_neg, ↓reduceIte, if_true, if_false]
        exact e
theorem m_hc_l {b : Nat} (hV : VT T) (hVN : VN T N) (hT : RTm 0 T v) (hN : RNm (v.1 16) T N) (hb : b < 2 ^ 31) : ∀ (f a : Nat), a ≤ T 0 2 → T 0 2 - a < f → X12_held_l87 f (nI b) (nI 0) (lN (sumN (hcF T N b) a)) (nI a) v = some (lN (sumN (hcF T N b) (T 0 2)), v) := by
  have hna := hV.na
  have t1 := hT.hm; have t2 := hT.na; simp only [Nat.mul_zero, Nat.zero_add] at t1 t2
  intro f
  induction f with
  | zero => intro a h1 h2; omega
  | succ f ih =>
    intro a h1 h3
    unfold X12_held_l87 X12_held_b87 X12_held_b150 X12_held_b142 X12_held_b144
    by_cases h4 : a = T 0 2
    · simp (disch := omega) only [aM1, t2, h4, nI_lit, lN_lit, nI_add, pk_mul, lN_add, lN_mul, Option.bind_some, nI_leI, nI_ltI, nI_eq, lN_leI, lN_ltI, lN_eqI, nI_m1, m1_nI, i_modN, lN_modN, nI_64, lN_32, if_pos, if_neg, ↓reduceIte, if_true, if_false]
    · have ha : a < T 0 2 := by omega
      have e := ih (a + 1) (by omega) (by omega)
      rw [sumN_s] at e
      have h5 := m_nowAt hV hN hVN (hm_lt hV ha)
      have h6 := nowS_6 hV hVN (hm_lt hV ha)
      have h7 := hVN.co a ha
      by_cases h8 : nowS N (T 2 a) = b
      · have h9 : hcF T N b a = N.1 1 a := if_pos h8
        rw [h9] at e
        simp (disch := omega) only [aM1, aM6, aM16, t2, t1 a ha, hN.co a ha, h5, h8, nI_lit, lN_lit, nI_add, pk_mul, lN_add, lN_mul, Option.bind_some, nI_leI, nI_ltI, nI_eq, lN_leI, lN_ltI, lN_eqI, nI_m1, m1_nI, i_modN, lN_modN, nI_64, lN_32, if_pos, if_neg, ↓reduceIte, if_true, if_false]
        exact e
      · have h9 : hcF T N b a = 0 := if_neg h8
        rw [h9] at e
        simp (disch := omega) only [aM1, aM6, t2, t1 a ha, h5, h8, nI_lit, lN_lit, nI_add, pk_mul, lN_add, lN_mul, Option.bind_some, nI_leI, nI_ltI, nI_eq, lN_leI, lN_ltI, lN_eqI, nI_m1, m1_nI, i_modN, lN_modN, nI_64, lN_32, if_pos, if_neg, ↓reduceIte, if_true, if_false]
        exact e
theorem m_hi_l {b : Nat} {u0 : gM} (hV : VT T) (hVN : VN T N) (hM : MV T N none u0) (hb : b < 2 ^ 31) : ∀ (f a : Nat) (v : gM), a ≤ T 0 2 → T 0 2 - a < f → off sY u0 v → ∃ v', X12_held_l87 f (nI b) (nI 1) (lN (sumN (hiF T N b) a)) (nI a) v = some (lN (sumN (hiF T N b) (T 0 2)), v') ∧ off sY u0 v' := by
  have hna := hV.na
  intro f
  induction f with
  | zero => intro a v h1 h2; omega
  | succ f ih =>
    intro a v h1 h3 ho
    have hM1 := hM.mv ho
    have hN := hM1.n
    have t1 := hM1.t.hm; have t2 := hM1.t.na; simp only [Nat.mul_zero, Nat.zero_add] at t1 t2
    unfold X12_held_l87 X12_held_b87 X12_held_b150 X12_held_b142 X12_held_b144
    by_cases h4 : a = T 0 2
    · refine ⟨v, ?_, ho⟩
      simp (disch := omega) only [aM1, t2, h4, nI_lit, lN_lit, nI_add, pk_mul, lN_add, lN_mul, Option.bind_some, nI_leI, nI_ltI, nI_eq, lN_leI, lN_ltI, lN_eqI, nI_m1, m1_nI, i_modN, lN_modN, nI_64, lN_32, if_pos, if_neg, ↓reduceIte, if_true, if_false]
    · have ha : a < T 0 2 := by omega
      have h5 := m_nowAt hV hN hVN (hm_lt hV ha)
      have h6 := nowS_6 hV hVN (hm_lt hV ha)
      have h7 := iacS_le (m := N.1 0 0) hV hVN ha
      by_cases h8 : nowS N (T 2 a) = b
      · have h9 : hiF T N b a = iacS T N (N.1 0 0) a := if_pos h8
        obtain ⟨v1, e1, o1⟩ := m_iin hV hVN hM1 ha
        obtain ⟨v2, e, o2⟩ := ih (a + 1) v1 (by omega) (by omega) (off_tr ho (sZY o1))
        rw [sumN_s, h9] at e
        refine ⟨v2, ?_, o2⟩
        simp (disch := omega) only [aM1, aM6, t2, t1 a ha, h5, h8, e1, nI_lit, lN_lit, nI_add, pk_mul, lN_add, lN_mul, Option.bind_some, nI_leI, nI_ltI, nI_eq, lN_leI, lN_ltI, lN_eqI, nI_m1, m1_nI, i_modN, lN_modN, nI_64, lN_32, if_pos, if_neg, ↓reduceIte, if_true, if_false, Nat.reduceEqDiff]
        exact e
      · have h9 : hiF T N b a = 0 := if_neg h8
        obtain ⟨v2, e, o2⟩ := ih (a + 1) v (by omega) (by omega) ho
        rw [sumN_s, h9] at e
        refine ⟨v2, ?_, o2⟩
        simp (disch := omega) only [aM1, aM6, t2, t1 a ha, h5, h8, nI_lit, lN_lit, nI_add, pk_mul, lN_add, lN_mul, Option.bind_some, nI_leI, nI_ltI, nI_eq, lN_leI, lN_ltI, lN_eqI, nI_m1, m1_nI, i_modN, lN_modN, nI_64, lN_32, if_pos, if_neg, ↓reduceIte, if_true, if_false]
        exact e
theorem o_held (b x : Int32) (h : RR T N P S u v) : SQ (X11_held b x u) (X12_held b x v) u v := by
  have c1 := h.c.t; have c2 := h.c.n; have m1 := h.m.t; have m2 := h.m.n
  have hV := h.d.t; have hVN := h.d.n; have hnb := hV.nb; have hmo := hVN.mo; have hna := hV.na; have hnl := hV.nl
  have t0 := m1.nl; simp only [Nat.mul_zero, Nat.zero_add] at t0
  unfold X11_held X12_held X12_held_b20
  rcases i_cases b (T 0 1) (by omega) with ⟨b, hb, rfl⟩ | hl
  · have e1 := q_isBank hV c1 hb
    have f1 := m_isBank hV m1 hb
    rcases i_cases x 3 (by omega) with ⟨w, hw, rfl⟩ | hx
    · have k0 := isIn_l (v := v) (show w ≤ 2 by omega) (by omega)
      have skip : ∀ w, w < 2 → X12_held_l29 fz (nI b) (nI w) (lN 0) (nI 0) v = X12_held_l87 fz (nI b) (nI w) (lN 0) (nI 0) v := by
        intro w hw
        show X12_held_l29 (3999 + 1) _ _ _ _ _ = _
        unfold X12_held_l29 X12_held_b29 X12_held_b84
        by_cases h5 : T 0 3 ≤ 0
        · rw [show aI skM v 1 3 = some (nI (T 0 3)) by rw [nI_lit, aM1 (by omega), t0], Option.bind_some, if_pos (by rw [nI_leI (by omega) (by omega)]; exact h5)]
          rfl
        · rw [show aI skM v 1 3 = some (nI (T 0 3)) by rw [nI_lit, aM1 (by omega), t0], Option.bind_some, if_neg (by rw [nI_leI (by omega) (by omega)]; exact h5), if_neg (by rw [nI_lit, nI_eq (by omega) (by omega)]; omega)]
          rfl
      rcases (show w = 0 ∨ w = 1 ∨ w = 2 by omega) with rfl | rfl | rfl
      · have e2 := q_hc_l (b := b) hV hVN c1 c2 (by omega) fz 0 (Nat.zero_le _) (fz_lt (by omega))
        have f2 := m_hc_l (b := b) hV hVN m1 m2 (by omega) fz 0 (Nat.zero_le _) (fz_lt (by omega))
        rw [sumN] at e2 f2
        rw [← skip 0 (by omega)] at f2
        refine SQ.p (r := lN (sumN (hcF T N b) (T 0 2))) ?_ ?_
        · simp (disch := omega) only [X11_coinsNowAt, e1, e2, nI_lit, lN_lit, nI_add, pk_mul, lN_add, lN_mul, Option.bind_some, nI_leI, nI_ltI, nI_eq, lN_leI, lN_ltI, lN_eqI, nI_m1, m1_nI, i_modN, lN_modN, nI_64, lN_32, if_pos, if_neg, ↓reduceIte, if_true, if_false]
        · simp (disch := omega) only [f1, k0, f2, nI_lit, lN_lit, nI_add, pk_mul, lN_add, lN_mul, Option.bind_some, nI_leI, nI_ltI, nI_eq, lN_leI, lN_ltI, lN_eqI, nI_m1, m1_nI, i_modN, lN_modN, nI_64, lN_32, if_pos, if_neg, ↓reduceIte, if_true, if_false, Nat.reduceEqDiff]
      · obtain ⟨u', g1, g2, g3, g4, g5⟩ := q_ins h
        have e2 := q_hi_l (b := b) hV hVN g3 g4 (by omega) g5 fz 0 (Nat.zero_le _) (fz_lt (by omega))
        obtain ⟨v', f2, f3⟩ := m_hi_l (b := b) hV hVN (h.m.mvw hV) (by omega) fz 0 v (Nat.zero_le _) (fz_lt (by omega)) off_rf
        rw [sumN] at e2 f2
        rw [← skip 1 (by omega)] at f2
        refine ⟨lN (sumN (hiF T N b) (T 0 2)), u', v', ?_, ?_, g2, f3⟩
        · simp (disch := omega) only [X11_insuredNowAt, e1, g1, e2, nI_lit, lN_lit, nI_add, pk_mul, lN_add, lN_mul, Option.bind_some, nI_leI, nI_ltI, nI_eq, lN_leI, lN_ltI, lN_eqI, nI_m1, m1_nI, i_modN, lN_modN, nI_64, lN_32, if_pos, if_neg, ↓reduceIte, if_true, if_false, Nat.reduceEqDiff]
        · simp (disch := omega) only [f1, k0, f2, nI_lit, lN_lit, nI_add, pk_mul, lN_add, lN_mul, Option.bind_some, nI_leI, nI_ltI, nI_eq, lN_leI, lN_ltI, lN_eqI, nI_m1, m1_nI, i_modN, lN_modN, nI_64, lN_32, if_pos, if_neg, ↓reduceIte, if_true, if_false, Nat.reduceEqDiff]
      · have e2 := q_hl_l (b := b) hV hVN c1 c2 (by omega) fz 0 (Nat.zero_le _) (fz_lt (by omega))
        have f2 := m_hl_l (b := b) hV hVN m1 m2 (by omega) fz 0 (Nat.zero_le _) (fz_lt (by omega))
        rw [sumN] at e2 f2
        refine SQ.p (r := lN (sumN (hlF T N b) (T 0 3))) ?_ ?_
        · simp (disch := omega) only [X11_loansNowAt, e1, e2, nI_lit, lN_lit, nI_add, pk_mul, lN_add, lN_mul, Option.bind_some, nI_leI, nI_ltI, nI_eq, lN_leI, lN_ltI, lN_eqI, nI_m1, m1_nI, i_modN, lN_modN, nI_64, lN_32, if_pos, if_neg, ↓reduceIte, if_true, if_false, Nat.reduceEqDiff]
        · simp (disch := omega) only [f1, k0, f2, nI_lit, lN_lit, nI_add, pk_mul, lN_add, lN_mul, Option.bind_some, nI_leI, nI_ltI, nI_eq, lN_leI, lN_ltI, lN_eqI, nI_m1, m1_nI, i_modN, lN_modN, nI_64, lN_32, if_pos, if_neg, ↓reduceIte, if_true, if_false, Nat.reduceEqDiff]
    · have k0 := isIn_o (u := v) (n := 2) hx (by omega)
      have w0 := i_out hx (show 0 < 3 by omega) (by omega)
      have w1 := i_out hx (show 1 < 3 by omega) (by omega)
      have w2 := i_out hx (show 2 < 3 by omega) (by omega)
      refine SQ.p (r := -lN 1) ?_ ?_
      · simp (disch := omega) only [e1, w0, w1, w2, nI_lit, lN_lit, nI_add, pk_mul, lN_add, lN_mul, Option.bind_some, nI_leI, nI_ltI, nI_eq, lN_leI, lN_ltI, lN_eqI, nI_m1, m1_nI, i_modN, lN_modN, nI_64, lN_32, if_pos, if_neg, ↓reduceIte, if_true, if_false, Nat.reduceEqDiff]
      · simp (disch := omega) only [f1, k0, nI_lit, lN_lit, nI_add, pk_mul, lN_add, lN_mul, Option.bind_some, nI_leI, nI_ltI, nI_eq, lN_leI, lN_ltI, lN_eqI, nI_m1, m1_nI, i_modN, lN_modN, nI_64, lN_32, if_pos, if_neg, ↓reduceIte, if_true, if_false, Nat.reduceEqDiff]
  · rw [q_isBankF c1 hl, m_isBankF hV m1 hl]
    exact SQ.p rfl rfl
end O7
