/-! owner, account -/
section O3
variable {T : gT} {N : gN} {P : List gN} {S : gS} {u v : gM}
theorem sZY {u u' : gM} (h : off sZ u u') : off sY u u' := off_mono h (fun c hc => by have z : 20 ≤ c ∧ c ≤ 24 := hc; exact z.1)
theorem sJX {u u' : gM} (h : off sJn u u') : off sX u u' := off_mono h (fun c hc => by have z : 137 ≤ c ∧ c ≤ 144 := hc; exact z.1)
theorem m_iin_l {a : Nat} (hV : VT T) (hVN : VN T N) (ha : a < T 0 2) (hno : v.1 7 a = nI (T 5 a)) (hi : ∀ k, k < T 5 a → v.2 24 (4 * a + k) = lN (insS T N (N.1 0 0) a k)) : ∀ (f k : Nat), k ≤ T 5 a → T 5 a - k < f → X12_insuredIn_l15 f (nI a) (lN (sumN (fun k => insS T N (N.1 0 0) a k) k)) (nI k) v = some (lN (iacS T N (N.1 0 0) a), v) := by
  have h0 := hV.no a ha
  have hna := hV.na
  intro f
  induction f with
  | zero => intro k h1 h2; omega
  | succ f ih =>
    intro k h1 h3
    unfold X12_insuredIn_l15 X12_insuredIn_b15
    by_cases h4 : k = T 5 a
    · rw [aM7 (by omega), hno, Option.bind_some, h4, if_pos (Int32.le_refl _)]
      rfl
    · have e := ih (k + 1) (by omega) (by omega)
      rw [sumN_s] at e
      have h5 := hi k (by omega)
      simp (disch := omega) only [aM7, hno, aM24, h5, nI_lit, lN_lit, nI_add, pk_mul, lN_add, lN_mul, Option.bind_some, nI_leI, nI_ltI, nI_eq, lN_leI, lN_ltI, lN_eqI, nI_m1, m1_nI, i_modN, lN_modN, nI_64, lN_32, if_pos, if_neg, ↓reduceIte, if_true, if_false]
      exact e
theorem m_iin {a : Nat} (hV : VT T) (hVN : VN T N) (hM : MV T N none u) (ha : a < T 0 2) : ∃ u', X12_insuredIn (nI a) u = some (lN (iacS T N (N.1 0 0) a), u') ∧ off sZ u u' := by
  have hmo := hVN.mo
  have h0 := hV.no a ha
  obtain ⟨u', e, o, hi⟩ := m_insures (m := N.1 0 0) hV hVN hM (by omega)
  have t1 := (hM.mv (sZY o)).t.no a ha
  simp only [Nat.mul_zero, Nat.zero_add] at t1
  refine ⟨u', ?_, o⟩
  unfold X12_insuredIn
  rw [nI_lit, lN_lit, aM16 (by omega), hM.n.mo, Option.bind_some, e, Option.bind_some]
  exact m_iin_l hV hVN ha t1 (hi a · ha) fz 0 (Nat.zero_le _) (fz_lt (by omega))
theorem q_ins {u : gM} (h : RR T N P S u v) : ∃ u', X1_insure (u.1 18 0) u = some u' ∧ off sX u u' ∧ RT 3 T u' ∧ RN 18 T N u' ∧ (∀ a k, a < T 0 2 → k < T 5 a → u'.1 137 (a * 4 + k) = nI (insS T N (N.1 0 0) a k)) := by
  have hmo := h.d.n.mo
  obtain ⟨u', e, o, h1, _⟩ := q_insure (m := N.1 0 0) h.d.t h.d.n (by omega) h.c.t h.c.n
  rw [h.c.n.mo]
  exact ⟨u', e, sJX o, RT_sX h.c.t (sJX o), RN_sX h.c.n (sJX o), h1⟩
theorem insS_b {m a k : Nat} (hV : VT T) (hVN : VN T N) (ha : a < T 0 2) (hk : k < T 5 a) : insS T N m a k ≤ 100000000 := Nat.le_trans (insS_le hV hVN ha hk) (shS_le hV hVN ha)
theorem SQ.p {α : Type} {x y : Option (α × gM)} {r : α} (h1 : x = some (r, u)) (h2 : y = some (r, v)) : SQ x y u v := ⟨r, u, v, h1, h2, off_rf, off_rf⟩
theorem isIn_l {k n : Nat} (h : k ≤ n) (hn : n < 2 ^ 31) : X12_isIn v (lN k) (lN 0) (lN n) = some (nI 1) := by
  rw [m_isIn, b2_t]
  rw [lN_leI (by omega) (by omega), lN_leI (by omega) (by omega)]
  omega
theorem o_owner (a k x : Int32) (h : RR T N P S u v) : SQ (X11_owner a k x u) (X12_owner a k x v) u v := by
  have c1 := h.c.t; have c2 := h.c.n; have m1 := h.m.t; have m2 := h.m.n
  have hV := h.d.t; have hVN := h.d.n; have hmo := hVN.mo; have hna := hV.na
  have r1 := m1.no; have r2 := m1.ow
  have p2 := c1.ow
  simp only [Nat.reduceAdd] at p2
  simp only [Nat.mul_zero, Nat.zero_add] at r1 r2
  unfold X11_owner X12_owner X12_owner_b38 X12_owner_b55 X12_owner_b97
  rcases i_cases a (T 0 2) (by omega) with ⟨a, ha, rfl⟩ | hl
  · have h0 := hV.no a ha
    have hsub : nI (T 5 a) - nI 1 = nI (T 5 a - 1) := nI_sub1 (by omega)
    rcases i_cases k (T 5 a) (by omega) with ⟨k, hk, rfl⟩ | hl
    · have e1 := q_isShare hV c1 ha hk
      have e2 := m_isAccount hV m1 ha
      have e3 := isIn_l (v := v) (show k ≤ T 5 a - 1 by omega) (by omega)
      have hsub2 : (nI (T 5 a - 1)).toInt64 = lN (T 5 a - 1) := nI_64 (by omega)
      rcases i_cases x 3 (by omega) with ⟨w, hw, rfl⟩ | hx
      · have k0 := isIn_l (v := v) (show w ≤ 2 by omega) (by omega)
        rcases (show w = 0 ∨ w = 1 ∨ w = 2 by omega) with rfl | rfl | rfl
        · refine SQ.p (r := nI (T 7 (a * 4 + k))) ?_ ?_
          · simp (disch := omega) only [e1, aC13, p2 a k ha hk, nI_lit, lN_lit, nI_add, pk_mul, lN_add, lN_mul, Option.bind_some, nI_leI, nI_ltI, nI_eq, lN_leI, lN_ltI, lN_eqI, nI_m1, m1_nI, i_modN, lN_modN, nI_64, lN_32, if_pos, if_neg, ↓reduceIte, if_true, if_false, Nat.reduceEqDiff]
          · simp (disch := omega) only [e2, e3, k0, aM7, aM8, hsub, hsub2, r1 a ha, r2 a k ha hk, nI_lit, lN_lit, nI_add, pk_mul, lN_add, lN_mul, Option.bind_some, nI_leI, nI_ltI, nI_eq, lN_leI, lN_ltI, lN_eqI, nI_m1, m1_nI, i_modN, lN_modN, nI_64, lN_32, if_pos, if_neg, ↓reduceIte, if_true, if_false, Nat.reduceEqDiff]
        · refine SQ.p (r := nI (shS T N a k)) ?_ ?_
          · simp (disch := omega) only [e1, q_share hV c1 c2 hVN ha hk, nI_lit, lN_lit, nI_add, pk_mul, lN_add, lN_mul, Option.bind_some, nI_leI, nI_ltI, nI_eq, lN_leI, lN_ltI, lN_eqI, nI_m1, m1_nI, i_modN, lN_modN, nI_64, lN_32, if_pos, if_neg, ↓reduceIte, if_true, if_false, Nat.reduceEqDiff]
          · simp (disch := omega) only [e2, e3, k0, aM7, hsub, hsub2, r1 a ha, m_shareOf hV m1 m2 hVN ha hk, nI_lit, lN_lit, nI_add, pk_mul, lN_add, lN_mul, Option.bind_some, nI_leI, nI_ltI, nI_eq, lN_leI, lN_ltI, lN_eqI, nI_m1, m1_nI, i_modN, lN_modN, nI_64, lN_32, if_pos, if_neg, ↓reduceIte, if_true, if_false, Nat.reduceEqDiff]
        · obtain ⟨u', f1, f2, f3, f4, f5⟩ := q_ins h
          obtain ⟨v', g1, g2, g3⟩ := m_insures (m := N.1 0 0) hV hVN (h.m.mvw hV) (by omega)
          refine ⟨nI (insS T N (N.1 0 0) a k), u', v', ?_, ?_, f2, sZY g2⟩
          · simp (disch := omega) only [e1, f1, aC137, f5 a k ha hk, nI_lit, lN_lit, nI_add, pk_mul, lN_add, lN_mul, Option.bind_some, nI_leI, nI_ltI, nI_eq, lN_leI, lN_ltI, lN_eqI, nI_m1, m1_nI, i_modN, lN_modN, nI_64, lN_32, if_pos, if_neg, ↓reduceIte, if_true, if_false, Nat.reduceEqDiff]
          · simp (disch := omega) only [e2, e3, k0, aM7, aM16, aM24, m2.mo, g1, g3 a k ha hk, hsub, hsub2, r1 a ha, lN_32, nI_lit, lN_lit, nI_add, pk_mul, lN_add, lN_mul, Option.bind_some, nI_leI, nI_ltI, nI_eq, lN_leI, lN_ltI, lN_eqI, nI_m1, m1_nI, i_modN, lN_modN, nI_64, lN_32, if_pos, if_neg, ↓reduceIte, if_true, if_false, Nat.reduceEqDiff]
      · have k0 := isIn_o (u := v) (n := 2) hx (by omega)
        have w0 := i_out hx (show 0 < 3 by omega) (by omega)
        have w1 := i_out hx (show 1 < 3 by omega) (by omega)
        have w2 := i_out hx (show 2 < 3 by omega) (by omega)
        refine SQ.p (r := -nI 1) ?_ ?_
        · simp (disch := omega) only [e1, w0, w1, w2, nI_lit, lN_lit, nI_add, pk_mul, lN_add, lN_mul, Option.bind_some, nI_leI, nI_ltI, nI_eq, lN_leI, lN_ltI, lN_eqI, nI_m1, m1_nI, i_modN, lN_modN, nI_64, lN_32, if_pos, if_neg, ↓reduceIte, if_true, if_false, Nat.reduceEqDiff]
        · simp (disch := omega) only [e2, e3, k0, aM7, hsub, hsub2, r1 a ha, nI_lit, lN_lit, nI_add, pk_mul, lN_add, lN_mul, Option.bind_some, nI_leI, nI_ltI, nI_eq, lN_leI, lN_ltI, lN_eqI, nI_m1, m1_nI, i_modN, lN_modN, nI_64, lN_32, if_pos, if_neg, ↓reduceIte, if_true, if_false, Nat.reduceEqDiff]
    · have e1 := q_isShareF2 hV c1 ha hl
      have e2 := m_isAccount hV m1 ha
      have e3 : X12_isIn v k.toInt64 (lN 0) (lN (T 5 a - 1)) = some (nI 0) := isIn_o (by rw [show T 5 a - 1 + 1 = T 5 a by omega]; exact hl) (by omega)
      have hsub2 : (nI (T 5 a - 1)).toInt64 = lN (T 5 a - 1) := nI_64 (by omega)
      refine SQ.p (r := -nI 1) ?_ ?_
      · simp (disch := omega) only [e1, nI_lit, lN_lit, nI_add, pk_mul, lN_add, lN_mul, Option.bind_some, nI_leI, nI_ltI, nI_eq, lN_leI, lN_ltI, lN_eqI, nI_m1, m1_nI, i_modN, lN_modN, nI_64, lN_32, if_pos, if_neg, ↓reduceIte, if_true, if_false, Nat.reduceEqDiff]
      · simp (disch := omega) only [e2, e3, aM7, hsub, hsub2, r1 a ha, nI_lit, lN_lit, nI_add, pk_mul, lN_add, lN_mul, Option.bind_some, nI_leI, nI_ltI, nI_eq, lN_leI, lN_ltI, lN_eqI, nI_m1, m1_nI, i_modN, lN_modN, nI_64, lN_32, if_pos, if_neg, ↓reduceIte, if_true, if_false, Nat.reduceEqDiff]
  · rw [q_isShareF1 c1 hl, m_isAccountF hV m1 hl]
    exact SQ.p rfl rfl
theorem o_account (a x : Int32) (h : RR T N P S u v) : SQ (X11_account a x u) (X12_account a x v) u v := by
  have c1 := h.c.t; have c2 := h.c.n; have m1 := h.m.t; have m2 := h.m.n
  have hV := h.d.t; have hVN := h.d.n; have hmo := hVN.mo; have hna := hV.na
  have r1 := m1.hm; have r2 := m1.no; have r3 := m1.nh; have r4 := m1.te; have r5 := h.m.k
  unfold RKm at r5
  have p1 := c1.hm; have p2 := c1.no; have p3 := c1.nh; have p4 := c1.te; have p5 := c1.kd; have p6 := c2.co
  simp only [Nat.reduceAdd] at p1 p2 p3 p4 p5 p6
  simp only [Nat.mul_zero, Nat.zero_add] at r1 r2 r3 r4 r5
  unfold X11_account X12_account X12_account_b167
  rcases i_cases a (T 0 2) (by omega) with ⟨a, ha, rfl⟩ | hl
  · have e1 := q_isAccount hV c1 ha
    have e2 := m_isAccount hV m1 ha
    have e3 := m_countedAt (m := N.1 0 0) hV m1 m2 hVN ha (by omega)
    have e4 := q_countedAt (m := N.1 0 0) hV c1 c2 hVN ha (by omega)
    have e5 := q_leaves (m := N.1 0 0) hV c1 c2 hVN ha (by omega)
    have hc := cntS_lt (m := N.1 0 0) hV hVN ha
    have hh := hm_lt hV ha
    have e6 := q_nowAt hV c2 hVN hh
    have e7 := m_nowAt hV m2 hVN hh
    have e8 := m2.mo
    have e9 := c2.mo
    rw [← e9] at e4 e5
    rcases i_cases x 10 (by omega) with ⟨w, hw, rfl⟩ | hx
    · rcases (show w = 0 ∨ w = 1 ∨ w = 2 ∨ w = 3 ∨ w = 4 ∨ w = 5 ∨ w = 6 ∨ w = 7 ∨ w = 8 ∨ w = 9 by omega) with rfl | rfl | rfl | rfl | rfl | rfl | rfl | rfl | rfl | rfl
      · refine SQ.p (r := nI (T 1 a)) ?_ ?_
        · simp (disch := omega) only [e1, aC7, p5 a ha, nI_lit, lN_lit, nI_add, pk_mul, lN_add, lN_mul, Option.bind_some, nI_leI, nI_ltI, nI_eq, lN_leI, lN_ltI, lN_eqI, nI_m1, m1_nI, i_modN, lN_modN, nI_64, lN_32, if_pos, if_neg, ↓reduceIte, if_true, if_false, Nat.reduceEqDiff]
        · simp (disch := omega) only [e2, e3, e8, aM16, aM5, r5 a ha, nI_lit, lN_lit, nI_add, pk_mul, lN_add, lN_mul, Option.bind_some, nI_leI, nI_ltI, nI_eq, lN_leI, lN_ltI, lN_eqI, nI_m1, m1_nI, i_modN, lN_modN, nI_64, lN_32, if_pos, if_neg, ↓reduceIte, if_true, if_false, Nat.reduceEqDiff]
      · refine SQ.p (r := nI (T 2 a)) ?_ ?_
        · simp (disch := omega) only [e1, aC8, p1 a ha, nI_lit, lN_lit, nI_add, pk_mul, lN_add, lN_mul, Option.bind_some, nI_leI, nI_ltI, nI_eq, lN_leI, lN_ltI, lN_eqI, nI_m1, m1_nI, i_modN, lN_modN, nI_64, lN_32, if_pos, if_neg, ↓reduceIte, if_true, if_false, Nat.reduceEqDiff]
        · simp (disch := omega) only [e2, e3, e8, aM16, aM6, r1 a ha, nI_lit, lN_lit, nI_add, pk_mul, lN_add, lN_mul, Option.bind_some, nI_leI, nI_ltI, nI_eq, lN_leI, lN_ltI, lN_eqI, nI_m1, m1_nI, i_modN, lN_modN, nI_64, lN_32, if_pos, if_neg, ↓reduceIte, if_true, if_false, Nat.reduceEqDiff]
      · refine SQ.p (r := nI (nowS N (T 2 a))) ?_ ?_
        · simp (disch := omega) only [e1, aC8, p1 a ha, e6, nI_lit, lN_lit, nI_add, pk_mul, lN_add, lN_mul, Option.bind_some, nI_leI, nI_ltI, nI_eq, lN_leI, lN_ltI, lN_eqI, nI_m1, m1_nI, i_modN, lN_modN, nI_64, lN_32, if_pos, if_neg, ↓reduceIte, if_true, if_false, Nat.reduceEqDiff]
        · simp (disch := omega) only [e2, e3, e8, aM16, aM6, r1 a ha, e7, nI_lit, lN_lit, nI_add, pk_mul, lN_add, lN_mul, Option.bind_some, nI_leI, nI_ltI, nI_eq, lN_leI, lN_ltI, lN_eqI, nI_m1, m1_nI, i_modN, lN_modN, nI_64, lN_32, if_pos, if_neg, ↓reduceIte, if_true, if_false, Nat.reduceEqDiff]
      · refine SQ.p (r := nI (cntS T N a (N.1 0 0))) ?_ ?_
        · simp (disch := omega) only [e1, e4, nI_lit, lN_lit, nI_add, pk_mul, lN_add, lN_mul, Option.bind_some, nI_leI, nI_ltI, nI_eq, lN_leI, lN_ltI, lN_eqI, nI_m1, m1_nI, i_modN, lN_modN, nI_64, lN_32, if_pos, if_neg, ↓reduceIte, if_true, if_false, Nat.reduceEqDiff]
        · simp (disch := omega) only [e2, e3, e8, aM16, nI_lit, lN_lit, nI_add, pk_mul, lN_add, lN_mul, Option.bind_some, nI_leI, nI_ltI, nI_eq, lN_leI, lN_ltI, lN_eqI, nI_m1, m1_nI, i_modN, lN_modN, nI_64, lN_32, if_pos, if_neg, ↓reduceIte, if_true, if_false, Nat.reduceEqDiff]
      · refine SQ.p (r := nI (N.1 1 a)) ?_ ?_
        · simp (disch := omega) only [e1, aC19, p6 a ha, nI_lit, lN_lit, nI_add, pk_mul, lN_add, lN_mul, Option.bind_some, nI_leI, nI_ltI, nI_eq, lN_leI, lN_ltI, lN_eqI, nI_m1, m1_nI, i_modN, lN_modN, nI_64, lN_32, if_pos, if_neg, ↓reduceIte, if_true, if_false, Nat.reduceEqDiff]
        · simp (disch := omega) only [e2, e3, e8, aM16, m2.co a ha, nI_lit, lN_lit, nI_add, pk_mul, lN_add, lN_mul, Option.bind_some, nI_leI, nI_ltI, nI_eq, lN_leI, lN_ltI, lN_eqI, nI_m1, m1_nI, i_modN, lN_modN, nI_64, lN_32, if_pos, if_neg, ↓reduceIte, if_true, if_false, Nat.reduceEqDiff]
      · refine SQ.p (r := nI (T 5 a)) ?_ ?_
        · simp (disch := omega) only [e1, aC11, p2 a ha, nI_lit, lN_lit, nI_add, pk_mul, lN_add, lN_mul, Option.bind_some, nI_leI, nI_ltI, nI_eq, lN_leI, lN_ltI, lN_eqI, nI_m1, m1_nI, i_modN, lN_modN, nI_64, lN_32, if_pos, if_neg, ↓reduceIte, if_true, if_false, Nat.reduceEqDiff]
        · simp (disch := omega) only [e2, e3, e8, aM16, aM7, r2 a ha, nI_lit, lN_lit, nI_add, pk_mul, lN_add, lN_mul, Option.bind_some, nI_leI, nI_ltI, nI_eq, lN_leI, lN_ltI, lN_eqI, nI_m1, m1_nI, i_modN, lN_modN, nI_64, lN_32, if_pos, if_neg, ↓reduceIte, if_true, if_false, Nat.reduceEqDiff]
      · refine SQ.p (r := nI (T 6 a)) ?_ ?_
        · simp (disch := omega) only [e1, aC12, p3 a ha, nI_lit, lN_lit, nI_add, pk_mul, lN_add, lN_mul, Option.bind_some, nI_leI, nI_ltI, nI_eq, lN_leI, lN_ltI, lN_eqI, nI_m1, m1_nI, i_modN, lN_modN, nI_64, lN_32, if_pos, if_neg, ↓reduceIte, if_true, if_false, Nat.reduceEqDiff]
        · simp (disch := omega) only [e2, e3, e8, aM16, aM9, r3 a ha, nI_lit, lN_lit, nI_add, pk_mul, lN_add, lN_mul, Option.bind_some, nI_leI, nI_ltI, nI_eq, lN_leI, lN_ltI, lN_eqI, nI_m1, m1_nI, i_modN, lN_modN, nI_64, lN_32, if_pos, if_neg, ↓reduceIte, if_true, if_false, Nat.reduceEqDiff]
      · refine SQ.p (r := nI (T 4 a)) ?_ ?_
        · simp (disch := omega) only [e1, aC10, p4 a ha, nI_lit, lN_lit, nI_add, pk_mul, lN_add, lN_mul, Option.bind_some, nI_leI, nI_ltI, nI_eq, lN_leI, lN_ltI, lN_eqI, nI_m1, m1_nI, i_modN, lN_modN, nI_64, lN_32, if_pos, if_neg, ↓reduceIte, if_true, if_false, Nat.reduceEqDiff]
        · simp (disch := omega) only [e2, e3, e8, aM16, aM12, r4 a ha, nI_lit, lN_lit, nI_add, pk_mul, lN_add, lN_mul, Option.bind_some, nI_leI, nI_ltI, nI_eq, lN_leI, lN_ltI, lN_eqI, nI_m1, m1_nI, i_modN, lN_modN, nI_64, lN_32, if_pos, if_neg, ↓reduceIte, if_true, if_false, Nat.reduceEqDiff]
      · obtain ⟨u', f1, f2, f3, f4, f5⟩ := q_ins h
        obtain ⟨v', g1, g2⟩ := m_iin hV hVN (h.m.mvw hV) ha
        have f6 := q_iac (g := fun k => insS T N (N.1 0 0) a k) hV f3 ha (fun k hk => ⟨f5 a k ha hk, insS_b hV hVN ha hk⟩)
        refine ⟨nI (iacS T N (N.1 0 0) a), u', v', ?_, ?_, f2, sZY g2⟩
        · simp (disch := omega) only [e1, f1, f6, nI_lit, lN_lit, nI_add, pk_mul, lN_add, lN_mul, Option.bind_some, nI_leI, nI_ltI, nI_eq, lN_leI, lN_ltI, lN_eqI, nI_m1, m1_nI, i_modN, lN_modN, nI_64, lN_32, if_pos, if_neg, ↓reduceIte, if_true, if_false, Nat.reduceEqDiff]
          rfl
        · simp (disch := omega) only [e2, e3, e8, aM16, g1, lN_32, nI_lit, lN_lit, nI_add, pk_mul, lN_add, lN_mul, Option.bind_some, nI_leI, nI_ltI, nI_eq, lN_leI, lN_ltI, lN_eqI, nI_m1, m1_nI, i_modN, lN_modN, nI_64, lN_32, if_pos, if_neg, ↓reduceIte, if_true, if_false, Nat.reduceEqDiff]
      · refine SQ.p (r := oI (lvS T N a (N.1 0 0))) ?_ ?_
        · simp (disch := omega) only [e1, e5, nI_lit, lN_lit, nI_add, pk_mul, lN_add, lN_mul, Option.bind_some, nI_leI, nI_ltI, nI_eq, lN_leI, lN_ltI, lN_eqI, nI_m1, m1_nI, i_modN, lN_modN, nI_64, lN_32, if_pos, if_neg, ↓reduceIte, if_true, if_false, Nat.reduceEqDiff]
        · unfold lvS
          have i1 := m2.it _ hc
          cases hi : N.2 0 (cntS T N a (N.1 0 0)) with
          | none =>
            rw [hi] at i1
            simp (disch := omega) only [e2, e3, e8, aM16, i1, oI_none, nI_lit, lN_lit, nI_add, pk_mul, lN_add, lN_mul, Option.bind_some, nI_leI, nI_ltI, nI_eq, lN_leI, lN_ltI, lN_eqI, nI_m1, m1_nI, i_modN, lN_modN, nI_64, lN_32, if_pos, if_neg, ↓reduceIte, if_true, if_false, Nat.reduceEqDiff]
          | some y =>
            rw [hi] at i1
            have hy := it_lt hV hVN hc hi
            have i2 := m_endOf hV m1 m2 hVN ha hc (by rw [hi]; simp)
            simp (disch := omega) only [e2, e3, e8, aM16, i1, i2, oI_some, nI_lit, lN_lit, nI_add, pk_mul, lN_add, lN_mul, Option.bind_some, nI_leI, nI_ltI, nI_eq, lN_leI, lN_ltI, lN_eqI, nI_m1, m1_nI, i_modN, lN_modN, nI_64, lN_32, if_pos, if_neg, ↓reduceIte, if_true, if_false, Nat.reduceEqDiff]
    · have w0 := i_out hx (show 0 < 10 by omega) (by omega)
      have w1 := i_out hx (show 1 < 10 by omega) (by omega)
      have w2 := i_out hx (show 2 < 10 by omega) (by omega)
      have w3 := i_out hx (show 3 < 10 by omega) (by omega)
      have w4 := i_out hx (show 4 < 10 by omega) (by omega)
      have w5 := i_out hx (show 5 < 10 by omega) (by omega)
      have w6 := i_out hx (show 6 < 10 by omega) (by omega)
      have w7 := i_out hx (show 7 < 10 by omega) (by omega)
      have w8 := i_out hx (show 8 < 10 by omega) (by omega)
      have w9 := i_out hx (show 9 < 10 by omega) (by omega)
      refine SQ.p (r := -nI 2) ?_ ?_
      · simp (disch := omega) only [e1, w0, w1, w2, w3, w4, w5, w6, w7, w8, w9, nI_lit, lN_lit, nI_add, pk_mul, lN_add, lN_mul, Option.bind_some, nI_leI, nI_ltI, nI_eq, lN_leI, lN_ltI, lN_eqI, nI_m1, m1_nI, i_modN, lN_modN, nI_64, lN_32, if_pos, if_neg, ↓reduceIte, if_true, if_false]
      · simp (disch := omega) only [e2, e3, e8, aM16, w0, w1, w2, w3, w4, w5, w6, w7, w8, w9, nI_lit, lN_lit, nI_add, pk_mul, lN_add, lN_mul, Option.bind_some, nI_leI, nI_ltI, nI_eq, lN_leI, lN_ltI, lN_eqI, nI_m1, m1_nI, i_modN, lN_modN, nI_64, lN_32, if_pos, if_neg, ↓reduceIte, if_true, if_false]
  · rw [q_isAccountF c1 hl, m_isAccountF hV m1 hl]
    exact SQ.p rfl rfl
end O3
