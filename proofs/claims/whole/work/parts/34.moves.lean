/-! EXCESS and ROOM -/
section MO
variable {T : gT} {N : gN} {P : List gN} {S : gS} {u v : gM}
theorem lN_sI {a b : Nat} (ha : a < 2 ^ 62) (hb : b < 2 ^ 62) : (lN a - lN b).toInt = (a : Int) - b := by
  rw [Int64.toInt_sub, show (lN a).toInt = (a : Int) from lg_ofNat_toInt (by omega), show (lN b).toInt = (b : Int) from lg_ofNat_toInt (by omega)]
  exact Int.bmod_eq_of_le (by omega) (by omega)
theorem mxJ_sub {a b : Nat} (ha : a < 2 ^ 62) (hb : b < 2 ^ 62) : mxJ (lN 0) (lN a - lN b) = lN (a - b) := by
  by_cases h : b ≤ a
  · rw [lN_sub h, mxJ_N (by omega) (by omega), Nat.max_eq_right (by omega)]
  · unfold mxJ
    rw [if_pos, show a - b = 0 by omega]
    rw [Int64.lt_iff_toInt_lt, lN_sI ha hb, show (lN 0).toInt = 0 from by decide]
    omega
def togS (T : gT) (N : gN) (p b : Nat) : Nat := ((gl T N p 0 b (N.1 0 0) (T 0 2)).map (shP T N p)).sum
def exS (T : gT) (N : gN) (p b : Nat) : Nat := togS T N p b - T 0 4
def rmS (T : gT) (N : gN) (p b : Nat) : Nat := if N.2 0 b = none ∧ N.1 3 b = 0 then T 0 4 - togS T N p b else 0
theorem tog_le {p b : Nat} (hV : VT T) (hVN : VN T N) : togS T N p b ≤ 2400000000 := gsum_le hV hVN (Nat.le_refl _)
theorem exS_le {p b : Nat} (hV : VT T) (hVN : VN T N) : exS T N p b ≤ 2400000000 := by
  have := tog_le (p := p) (b := b) hV hVN
  unfold exS; omega
theorem rmS_le {p b : Nat} (hV : VT T) : rmS T N p b ≤ 100000000 := by
  have := hV.li
  unfold rmS
  split <;> omega
theorem q_weigh_l {p : Nat} {u0 : gM} (hV : VT T) (hVN : VN T N) (hT : RT 3 T u0) (hN : RN 18 T N u0) (hp : p < T 0 0) : ∀ (f b : Nat) (u : gM), b ≤ T 0 1 → T 0 1 - b < f → off sX u0 u → (∀ j, j < T 0 2 → u.1 142 j = nI (cntS T N j (N.1 0 0))) → (∀ c, c < b → u.2 151 c = lN (exS T N p c) ∧ u.2 152 c = lN (rmS T N p c)) →
    ∃ u', X6_weigh_l16 f (nI p) (nI b) u = some u' ∧ off sX u0 u' ∧ ∀ c, c < T 0 1 → u'.2 151 c = lN (exS T N p c) ∧ u'.2 152 c = lN (rmS T N p c) := by
  have hnb := hV.nb
  have hli := hV.li
  intro f
  induction f with
  | zero => intro b u h1 h2; omega
  | succ f ih =>
    intro b u h1 h2 ho hc hq
    have hT1 := RT_sX hT ho
    have hN1 := RN_sX hN ho
    unfold X6_weigh_l16 X6_weigh_b16 X6_weigh_b102
    by_cases h4 : b = T 0 1
    · refine ⟨u, ?_, ho, by rw [← h4]; exact hq⟩
      rw [hT1.nb, h4, if_pos (Int32.le_refl _)]
    · have hb : b < T 0 1 := by omega
      have hb6 : b < 6 := by omega
      obtain ⟨u1, g1, g2, g3⟩ := q_gather (p := p) (kd := 0) (b := b) (m := N.1 0 0) hV hVN hp (by omega) (by omega) hT1 hN1 hc
      have g3' : off sX u u1 := off_mono g3 (fun c hc => by have z : c = 138 ∨ c = 139 ∨ c = 143 := hc; exact sXk (by omega))
      have hs : u1.2 138 1 = lN (togS T N p b) := g2.s
      have hli1 := (RT_sX hT1 g3').li
      have b1 := tog_le (p := p) (b := b) hV hVN
      have m1 : mxJ (lN 0) (lN (togS T N p b) - lN (T 0 4)) = lN (exS T N p b) := mxJ_sub (by omega) (by omega)
      have m2 : mxJ (lN 0) (lN (T 0 4) - lN (togS T N p b)) = lN (T 0 4 - togS T N p b) := mxJ_sub (by omega) (by omega)
      have o2 : off sX u1 (upJ u1 151 b (lN (exS T N p b))) := by
        intro c hc
        have z : ¬ c = 151 := fun z => hc (by subst z; exact sXk (by omega))
        exact ⟨by rw [upJ_1], by rw [upJ_k z]⟩
      have o3 : off sX (upJ u1 151 b (lN (exS T N p b))) (upJ (upJ u1 151 b (lN (exS T N p b))) 152 b (lN (rmS T N p b))) := by
        intro c hc
        have z : ¬ c = 152 := fun z => hc (by subst z; exact sXk (by omega))
        exact ⟨by rw [upJ_1], by rw [upJ_k z]⟩
      have hop := q_isOpen hV (RN_sX (RN_sX hN1 g3') o2) hVN hb6
      have hli2 := (RT_sX (RT_sX hT1 g3') o2).li
      have k142 : ∀ j, j < T 0 2 → (upJ (upJ u1 151 b (lN (exS T N p b))) 152 b (lN (rmS T N p b))).1 142 j = nI (cntS T N j (N.1 0 0)) := by
        intro j hj
        rw [upJ_1, upJ_1, (g3 142 (by intro z; have z1 : 142 = 138 ∨ 142 = 139 ∨ 142 = 143 := z; omega)).1]
        exact hc j hj
      have kk : ∀ c, c < b + 1 → (upJ (upJ u1 151 b (lN (exS T N p b))) 152 b (lN (rmS T N p b))).2 151 c = lN (exS T N p c) ∧ (upJ (upJ u1 151 b (lN (exS T N p b))) 152 b (lN (rmS T N p b))).2 152 c = lN (rmS T N p c) := by
        intro c hc2
        have r1 := (g3 151 (by intro z; have z1 : 151 = 138 ∨ 151 = 139 ∨ 151 = 143 := z; omega)).2
        have r2 := (g3 152 (by intro z; have z1 : 152 = 138 ∨ 152 = 139 ∨ 152 = 143 := z; omega)).2
        by_cases z : c = b
        · subst z
          exact ⟨by rw [upJ_k (by omega), upJ_at], by rw [upJ_at]⟩
        · refine ⟨by rw [upJ_k (by omega), upJ_j z, r1]; exact (hq c (by omega)).1, by rw [upJ_j z, upJ_k (by omega), r2]; exact (hq c (by omega)).2⟩
      obtain ⟨u', e, o4, q4⟩ := ih (b + 1) _ (by omega) (by omega) (off_tr ho (off_tr g3' (off_tr o2 o3))) k142 kk
      refine ⟨u', ?_, o4, q4⟩
      by_cases hopen : N.2 0 b = none ∧ N.1 3 b = 0
      · have hr : rmS T N p b = T 0 4 - togS T N p b := if_pos hopen
        rw [hr] at e
        rw [b2_t hopen] at hop
        simp (disch := omega) only [hT1.nb, g1, hs, hli1, hli2, m1, m2, sC151, sC152, hop, upJ_1, nI_lit, lN_lit, nI_add, pk_mul, lN_add, lN_mul, Option.bind_some, nI_leI, nI_ltI, nI_eq, lN_leI, lN_ltI, lN_eqI, nI_m1, m1_nI, i_modN, lN_modN, nI_64, lN_32, if_pos, if_neg, ↓reduceIte, if_true, if_false, Nat.reduceEqDiff]
        exact e
      · have hr : rmS T N p b = 0 := if_neg hopen
        rw [hr] at e
        rw [b2_f hopen] at hop
        simp (disch := omega) only [hT1.nb, g1, hs, hli1, m1, sC151, sC152, hop, nI_lit, lN_lit, nI_add, pk_mul, lN_add, lN_mul, Option.bind_some, nI_leI, nI_ltI, nI_eq, lN_leI, lN_ltI, lN_eqI, nI_m1, m1_nI, i_modN, lN_modN, nI_64, lN_32, if_pos, if_neg, ↓reduceIte, if_true, if_false, Nat.reduceEqDiff]
        exact e
theorem q_weigh {p : Nat} (hV : VT T) (hVN : VN T N) (hT : RT 3 T u) (hN : RN 18 T N u) (hp : p < T 0 0) : ∃ u', X6_weigh (nI p) u = some u' ∧ off sX u u' ∧ ∀ c, c < T 0 1 → u'.2 151 c = lN (exS T N p c) ∧ u'.2 152 c = lN (rmS T N p c) := by
  have hmo := hVN.mo
  have hnb := hV.nb
  obtain ⟨u1, g1, g2, g3⟩ := q_setMonth (m := N.1 0 0) hV hVN (by omega) hT hN
  have g3' : off sX u u1 := off_mono g3 (fun c hc => by have z : c = 142 := hc; subst z; exact sXk (by omega))
  obtain ⟨u', e, o, q⟩ := q_weigh_l hV hVN hT hN hp fz 0 u1 (Nat.zero_le _) (fz_lt (by omega)) g3' g2 (fun c hc => by omega)
  refine ⟨u', ?_, o, q⟩
  unfold X6_weigh
  rw [hN.mo, g1, Option.bind_some, nI_lit]
  exact e
theorem m_lays_l {p : Nat} {u0 : gM} (hV : VT T) (hVN : VN T N) (hM : MV T N none u0) (hp : p < T 0 0) : ∀ (f b : Nat) (u : gM), b ≤ T 0 1 → T 0 1 - b < f → off sY u0 u → (∀ c, c < b → u.2 28 c = lN (exS T N p c) ∧ u.2 29 c = lN (rmS T N p c)) →
    ∃ u', X12_laysMoves_l2 f (nI p) (nI b) u = some u' ∧ off sY u0 u' ∧ ∀ c, c < T 0 1 → u'.2 28 c = lN (exS T N p c) ∧ u'.2 29 c = lN (rmS T N p c) := by
  have hnb := hV.nb
  have hli := hV.li
  have hmo := hVN.mo
  intro f
  induction f with
  | zero => intro b u h1 h2; omega
  | succ f ih =>
    intro b u h1 h2 ho hq
    have hM1 := hM.mv ho
    have t0 := hM1.t.nb; have t1 := hM1.t.li; simp only [Nat.mul_zero, Nat.zero_add] at t0 t1
    unfold X12_laysMoves_l2 X12_laysMoves_b2 X12_laysMoves_b75
    by_cases h4 : b = T 0 1
    · refine ⟨u, ?_, ho, by rw [← h4]; exact hq⟩
      simp (disch := omega) only [aM1, t0, h4, nI_lit, lN_lit, nI_add, pk_mul, lN_add, lN_mul, Option.bind_some, nI_leI, nI_ltI, nI_eq, lN_leI, lN_ltI, lN_eqI, nI_m1, m1_nI, i_modN, lN_modN, nI_64, lN_32, if_pos, if_neg, ↓reduceIte, if_true, if_false]
    · have hb : b < T 0 1 := by omega
      have hb6 : b < 6 := by omega
      have g1 : X12_sumOf u (nI p) (nI 0) (nI b) (nI (N.1 0 0)) = some (lN (togS T N p b)) := m_sumOf hV hVN hM1 hp (by omega) (by omega) (by omega)
      have b1 := tog_le (p := p) (b := b) hV hVN
      have m1 : mxJ (lN 0) (lN (togS T N p b) - lN (T 0 4)) = lN (exS T N p b) := mxJ_sub (by omega) (by omega)
      have m2 : mxJ (lN 0) (lN (T 0 4) - lN (togS T N p b)) = lN (T 0 4 - togS T N p b) := mxJ_sub (by omega) (by omega)
      have o2 : off sY u (upJ u 28 b (lN (exS T N p b))) := by
        intro c hc
        have z : ¬ c = 28 := fun z => hc (by subst z; exact sYk (by omega))
        exact ⟨by rw [upJ_1], by rw [upJ_k z]⟩
      have o3 : off sY (upJ u 28 b (lN (exS T N p b))) (upJ (upJ u 28 b (lN (exS T N p b))) 29 b (lN (rmS T N p b))) := by
        intro c hc
        have z : ¬ c = 29 := fun z => hc (by subst z; exact sYk (by omega))
        exact ⟨by rw [upJ_1], by rw [upJ_k z]⟩
      have hop := m_isOpen hV (hM1.mv o2).n hVN hb6
      have kk : ∀ c, c < b + 1 → (upJ (upJ u 28 b (lN (exS T N p b))) 29 b (lN (rmS T N p b))).2 28 c = lN (exS T N p c) ∧ (upJ (upJ u 28 b (lN (exS T N p b))) 29 b (lN (rmS T N p b))).2 29 c = lN (rmS T N p c) := by
        intro c hc2
        by_cases z : c = b
        · subst z
          exact ⟨by rw [upJ_k (by omega), upJ_at], by rw [upJ_at]⟩
        · refine ⟨by rw [upJ_k (by omega), upJ_j z]; exact (hq c (by omega)).1, by rw [upJ_j z, upJ_k (by omega)]; exact (hq c (by omega)).2⟩
      obtain ⟨u', e, o4, q4⟩ := ih (b + 1) _ (by omega) (by omega) (off_tr ho (off_tr o2 o3)) kk
      refine ⟨u', ?_, o4, q4⟩
      by_cases hopen : N.2 0 b = none ∧ N.1 3 b = 0
      · have hr : rmS T N p b = T 0 4 - togS T N p b := if_pos hopen
        rw [hr] at e
        rw [b2_t hopen] at hop
        simp (disch := omega) only [aM1, aM16, t0, t1, hM1.n.mo, g1, m1, m2, sM28, sM29, hop, upJ_1, nI_lit, lN_lit, nI_add, pk_mul, lN_add, lN_mul, Option.bind_some, nI_leI, nI_ltI, nI_eq, lN_leI, lN_ltI, lN_eqI, nI_m1, m1_nI, i_modN, lN_modN, nI_64, lN_32, if_pos, if_neg, ↓reduceIte, if_true, if_false, Nat.reduceEqDiff]
        exact e
      · have hr : rmS T N p b = 0 := if_neg hopen
        rw [hr] at e
        rw [b2_f hopen] at hop
        simp (disch := omega) only [aM1, aM16, t0, t1, hM1.n.mo, g1, m1, sM28, sM29, hop, nI_lit, lN_lit, nI_add, pk_mul, lN_add, lN_mul, Option.bind_some, nI_leI, nI_ltI, nI_eq, lN_leI, lN_ltI, lN_eqI, nI_m1, m1_nI, i_modN, lN_modN, nI_64, lN_32, if_pos, if_neg, ↓reduceIte, if_true, if_false, Nat.reduceEqDiff]
        exact e
theorem m_lays {p : Nat} (hV : VT T) (hVN : VN T N) (hM : MV T N none u) (hp : p < T 0 0) : ∃ u', X12_laysMoves (nI p) u = some u' ∧ off sY u u' ∧ ∀ c, c < T 0 1 → u'.2 28 c = lN (exS T N p c) ∧ u'.2 29 c = lN (rmS T N p c) := by
  have hnb := hV.nb
  obtain ⟨u', e, h⟩ := m_lays_l hV hVN hM hp fz 0 u (Nat.zero_le _) (fz_lt (by omega)) off_rf (fun c hc => by omega)
  refine ⟨u', ?_, h⟩
  unfold X12_laysMoves
  rw [nI_lit]
  exact e
end MO
