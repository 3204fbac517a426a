/-! of, came, total -/
section O5
variable {T : gT} {N : gN} {P : List gN} {S : gS} {u v : gM}
theorem o_of (p m x : Int32) (h : RR T N P S u v) : SQ (X11_of p m x u) (X12_of p m x v) u v := by
  have c1 := h.c.t; have c2 := h.c.n; have m1 := h.m.t; have m2 := h.m.n
  have hV := h.d.t; have hVN := h.d.n; have hmo := hVN.mo; have hna := hV.na; have hnp := hV.np; have hnb := hV.nb
  unfold X11_of X12_of X11_of_b18 X12_of_b32 X12_of_b74
  rcases i_cases p (T 0 0) (by omega) with ⟨p, hp, rfl⟩ | hl
  · have e1 := q_isPerson hV c1 hp
    have f1 := m_isPerson hV m1 hp
    rcases i_cases m 1000 (by omega) with ⟨m, hm, rfl⟩ | hl
    · have e4 := q_isMonth (u := u) hm
      have f4 := isIn_l (v := v) (show m ≤ 999 by omega) (by omega)
      obtain ⟨u1, g1, g2, g3, _⟩ := q_insure (m := m) hV hVN (by omega) c1 c2
      have ou := sJX g2
      have c1' := RT_sX c1 ou
      have c2' := RN_sX c2 ou
      have b1 := q_sharesOf hV hVN c1' c2' hp
      have b2 := q_insuredOf hV hVN c1' hp g3
      have b3 := q_openOf hV hVN c1' c2' hp g3
      have d1 := m_sharesOf hV hVN m1 m2 hp
      obtain ⟨v1, d2, d3⟩ := m_insuredOf (m := m) hV hVN (h.m.mvw hV) (fun _ => hn0) hp (by omega)
      have ov : off sY v v1 := off_mono d3 (fun c hc => by have z : c = 20 := hc; subst z; exact sYk (by omega))
      rcases i_cases x 3 (by omega) with ⟨w, hw, rfl⟩ | hx
      · have f5 := isIn_l (v := v) (show w ≤ 2 by omega) (by omega)
        rcases (show w = 0 ∨ w = 1 ∨ w = 2 by omega) with rfl | rfl | rfl
        · refine ⟨lN (shaS T N p), u1, v, ?_, ?_, ou, off_rf⟩
          · simp (disch := omega) only [e1, e4, g1, b1, nI_lit, lN_lit, nI_add, pk_mul, lN_add, lN_mul, Option.bind_some, nI_leI, nI_ltI, nI_eq, lN_leI, lN_ltI, lN_eqI, nI_m1, m1_nI, i_modN, lN_modN, nI_64, lN_32, if_pos, if_neg, ↓reduceIte, if_true, if_false, Nat.reduceEqDiff]
          · simp (disch := omega) only [f1, f4, f5, d1, nI_lit, lN_lit, nI_add, pk_mul, lN_add, lN_mul, Option.bind_some, nI_leI, nI_ltI, nI_eq, lN_leI, lN_ltI, lN_eqI, nI_m1, m1_nI, i_modN, lN_modN, nI_64, lN_32, if_pos, if_neg, ↓reduceIte, if_true, if_false, Nat.reduceEqDiff]
        · refine ⟨lN (iofS T N none p m), u1, v1, ?_, ?_, ou, ov⟩
          · simp (disch := omega) only [e1, e4, g1, b2, nI_lit, lN_lit, nI_add, pk_mul, lN_add, lN_mul, Option.bind_some, nI_leI, nI_ltI, nI_eq, lN_leI, lN_ltI, lN_eqI, nI_m1, m1_nI, i_modN, lN_modN, nI_64, lN_32, if_pos, if_neg, ↓reduceIte, if_true, if_false, Nat.reduceEqDiff]
          · simp (disch := omega) only [f1, f4, f5, d2, nI_lit, lN_lit, nI_add, pk_mul, lN_add, lN_mul, Option.bind_some, nI_leI, nI_ltI, nI_eq, lN_leI, lN_ltI, lN_eqI, nI_m1, m1_nI, i_modN, lN_modN, nI_64, lN_32, if_pos, if_neg, ↓reduceIte, if_true, if_false, Nat.reduceEqDiff]
        · refine ⟨lN (opnS T N p m), u1, v1, ?_, ?_, ou, ov⟩
          · simp (disch := omega) only [e1, e4, g1, b3, nI_lit, lN_lit, nI_add, pk_mul, lN_add, lN_mul, Option.bind_some, nI_leI, nI_ltI, nI_eq, lN_leI, lN_ltI, lN_eqI, nI_m1, m1_nI, i_modN, lN_modN, nI_64, lN_32, if_pos, if_neg, ↓reduceIte, if_true, if_false, Nat.reduceEqDiff]
          · have hs : lN (shaS T N p) - lN (iofS T N none p m) = lN (opnS T N p m) := lN_sub (iofS_sha hV hVN)
            simp (disch := omega) only [f1, f4, f5, d1, d2, hs, nI_lit, lN_lit, nI_add, pk_mul, lN_add, lN_mul, Option.bind_some, nI_leI, nI_ltI, nI_eq, lN_leI, lN_ltI, lN_eqI, nI_m1, m1_nI, i_modN, lN_modN, nI_64, lN_32, if_pos, if_neg, ↓reduceIte, if_true, if_false, Nat.reduceEqDiff]
      · have f5 := isIn_o (u := v) (n := 2) hx (by omega)
        have w0 := i_out hx (show 0 < 3 by omega) (by omega)
        have w1 := i_out hx (show 1 < 3 by omega) (by omega)
        have w2 := i_out hx (show 2 < 3 by omega) (by omega)
        refine ⟨-lN 1, u1, v, ?_, ?_, ou, off_rf⟩
        · simp (disch := omega) only [e1, e4, g1, w0, w1, w2, nI_lit, lN_lit, nI_add, pk_mul, lN_add, lN_mul, Option.bind_some, nI_leI, nI_ltI, nI_eq, lN_leI, lN_ltI, lN_eqI, nI_m1, m1_nI, i_modN, lN_modN, nI_64, lN_32, if_pos, if_neg, ↓reduceIte, if_true, if_false, Nat.reduceEqDiff]
        · simp (disch := omega) only [f1, f4, f5, nI_lit, lN_lit, nI_add, pk_mul, lN_add, lN_mul, Option.bind_some, nI_leI, nI_ltI, nI_eq, lN_leI, lN_ltI, lN_eqI, nI_m1, m1_nI, i_modN, lN_modN, nI_64, lN_32, if_pos, if_neg, ↓reduceIte, if_true, if_false, Nat.reduceEqDiff]
    · have e4 := q_isMonthF (u := u) hl
      have f4 := isIn_o (u := v) (n := 999) hl (by omega)
      refine SQ.p (r := -lN 1) ?_ ?_
      · simp (disch := omega) only [e1, e4, nI_lit, lN_lit, nI_add, pk_mul, lN_add, lN_mul, Option.bind_some, nI_leI, nI_ltI, nI_eq, lN_leI, lN_ltI, lN_eqI, nI_m1, m1_nI, i_modN, lN_modN, nI_64, lN_32, if_pos, if_neg, ↓reduceIte, if_true, if_false]
      · simp (disch := omega) only [f1, f4, nI_lit, lN_lit, nI_add, pk_mul, lN_add, lN_mul, Option.bind_some, nI_leI, nI_ltI, nI_eq, lN_leI, lN_ltI, lN_eqI, nI_m1, m1_nI, i_modN, lN_modN, nI_64, lN_32, if_pos, if_neg, ↓reduceIte, if_true, if_false, Nat.reduceEqDiff]
  · rw [q_isPersonF c1 hl, m_isPersonF hV m1 hl]
    exact SQ.p rfl rfl
/-- what stands in a row of the failing -/
theorem q_all_l {r : Nat} {g : Nat → Option Nat} (hsk : skC[r]? = some (.inr (0, 96, []))) (hg : ∀ i, i < 96 → u.1 r i = oI (g i)) (hb : ∀ i x, i < 96 → g i = some x → x ≤ 100000000) : ∀ (f i : Nat), i ≤ 96 → 96 - i < f → X5_all_l11 u f r (lN (sumN (fun i => (g i).getD 0) i)) (nI i) = some (lN (sumN (fun i => (g i).getD 0) 96)) := by
  intro f
  induction f with
  | zero => intro i h1 h2; omega
  | succ f ih =>
    intro i h1 h3
    unfold X5_all_l11 X5_all_b11 X5_all_b34
    have hl : aL skC r = some (nI 96) := by unfold aL; rw [hsk]; rfl
    by_cases h4 : i = 96
    · rw [hl, h4, Option.bind_some, if_pos (Int32.le_refl _)]
    · have e := ih (i + 1) (by omega) (by omega)
      rw [sumN_s] at e
      have hi : i < 96 := by omega
      have h5 := aI_at (u := u) hsk (by omega) hi
      rw [hg i hi] at h5
      cases hx : g i with
      | none =>
        rw [hx] at h5 e
        simp (disch := omega) only [hl, h5, oI_none, nI_lit, lN_lit, nI_add, pk_mul, lN_add, lN_mul, Option.bind_some, nI_leI, nI_ltI, nI_eq, lN_leI, lN_ltI, lN_eqI, nI_m1, m1_nI, i_modN, lN_modN, nI_64, lN_32, if_pos, if_neg, ↓reduceIte, if_true, if_false]
        exact e
      | some x =>
        have hxb := hb i x hi hx
        rw [hx] at h5 e
        simp (disch := omega) only [hl, h5, oI_some, nI_lit, lN_lit, nI_add, pk_mul, lN_add, lN_mul, Option.bind_some, nI_leI, nI_ltI, nI_eq, lN_leI, lN_ltI, lN_eqI, nI_m1, m1_nI, i_modN, lN_modN, nI_64, lN_32, if_pos, if_neg, ↓reduceIte, if_true, if_false]
        exact e
def fallS (N : gN) (r : Nat) : Nat := sumN (fun i => (N.2 r i).getD 0) 96
theorem q_all {w : Nat} (hw : w < 4) (hVN : VN T N) (hN : RN 18 T N u) : X5_all u 24 (nI w) = some (lN (fallS N (3 + w))) := by
  have p0 := hN.fo; have p1 := hN.fp; have p2 := hN.fd; have p3 := hN.fs
  simp only [Nat.reduceAdd] at p0 p1 p2 p3
  unfold X5_all X5_row
  rcases (show w = 0 ∨ w = 1 ∨ w = 2 ∨ w = 3 by omega) with rfl | rfl | rfl | rfl
  · have e := q_all_l (u := u) (r := 25) (by decide) p0 (fun i x hi => hVN.fv 3 i x (by omega) (by omega) hi) fz 0 (Nat.zero_le _) (fz_lt (by omega))
    rw [sumN] at e
    simp (disch := omega) only [isO_C24, rf_C24_2, rf_C24_3, rf_C24_4, rf_C24_5, rf_C24_6, nI_lit, lN_lit, nI_add, pk_mul, lN_add, lN_mul, Option.bind_some, nI_leI, nI_ltI, nI_eq, lN_leI, lN_ltI, lN_eqI, nI_m1, m1_nI, i_modN, lN_modN, nI_64, lN_32, if_pos, if_neg, ↓reduceIte, if_true, if_false, Nat.reduceEqDiff]
    exact e
  · have e := q_all_l (u := u) (r := 26) (by decide) p1 (fun i x hi => hVN.fv 4 i x (by omega) (by omega) hi) fz 0 (Nat.zero_le _) (fz_lt (by omega))
    rw [sumN] at e
    simp (disch := omega) only [isO_C24, rf_C24_2, rf_C24_3, rf_C24_4, rf_C24_5, rf_C24_6, nI_lit, lN_lit, nI_add, pk_mul, lN_add, lN_mul, Option.bind_some, nI_leI, nI_ltI, nI_eq, lN_leI, lN_ltI, lN_eqI, nI_m1, m1_nI, i_modN, lN_modN, nI_64, lN_32, if_pos, if_neg, ↓reduceIte, if_true, if_false, Nat.reduceEqDiff]
    exact e
  · have e := q_all_l (u := u) (r := 27) (by decide) p2 (fun i x hi => hVN.fv 5 i x (by omega) (by omega) hi) fz 0 (Nat.zero_le _) (fz_lt (by omega))
    rw [sumN] at e
    simp (disch := omega) only [isO_C24, rf_C24_2, rf_C24_3, rf_C24_4, rf_C24_5, rf_C24_6, nI_lit, lN_lit, nI_add, pk_mul, lN_add, lN_mul, Option.bind_some, nI_leI, nI_ltI, nI_eq, lN_leI, lN_ltI, lN_eqI, nI_m1, m1_nI, i_modN, lN_modN, nI_64, lN_32, if_pos, if_neg, ↓reduceIte, if_true, if_false, Nat.reduceEqDiff]
    exact e
  · have e := q_all_l (u := u) (r := 28) (by decide) p3 (fun i x hi => hVN.fv 6 i x (by omega) (by omega) hi) fz 0 (Nat.zero_le _) (fz_lt (by omega))
    rw [sumN] at e
    simp (disch := omega) only [isO_C24, rf_C24_2, rf_C24_3, rf_C24_4, rf_C24_5, rf_C24_6, nI_lit, lN_lit, nI_add, pk_mul, lN_add, lN_mul, Option.bind_some, nI_leI, nI_ltI, nI_eq, lN_leI, lN_ltI, lN_eqI, nI_m1, m1_nI, i_modN, lN_modN, nI_64, lN_32, if_pos, if_neg, ↓reduceIte, if_true, if_false, Nat.reduceEqDiff]
    exact e
theorem m_sums_l {r : Nat} {g : Nat → Option Nat} (hr : r ≤ 342) (hg : ∀ i, i < 96 → mxI (nI 0) (v.1 16 (r + i)) = nI ((g i).getD 0)) (hb : ∀ i x, i < 96 → g i = some x → x ≤ 100000000) : ∀ (f i : Nat), i ≤ 96 → 96 - i < f → X12_sums_l5 v f (nI r) (lN (sumN (fun i => (g i).getD 0) i)) (nI i) = some (lN (sumN (fun i => (g i).getD 0) 96)) := by
  intro f
  induction f with
  | zero => intro i h1 h2; omega
  | succ f ih =>
    intro i h1 h3
    unfold X12_sums_l5 X12_sums_b5
    by_cases h4 : i = 96
    · rw [h4, nI_lit, if_pos (Int32.le_refl _)]
    · have e := ih (i + 1) (by omega) (by omega)
      rw [sumN_s] at e
      have hi : i < 96 := by omega
      have h5 := hg i hi
      have h6 : (g i).getD 0 ≤ 100000000 := by
        cases hx : g i with
        | none => simp
        | some x => exact hb i x hi hx
      simp (disch := omega) only [aM16, h5, nI_lit, lN_lit, nI_add, pk_mul, lN_add, lN_mul, Option.bind_some, nI_leI, nI_ltI, nI_eq, lN_leI, lN_ltI, lN_eqI, nI_m1, m1_nI, i_modN, lN_modN, nI_64, lN_32, if_pos, if_neg, ↓reduceIte, if_true, if_false]
      exact e
theorem m_sums {w : Nat} (hw : w < 4) (hVN : VN T N) (hN : RNm (v.1 16) T N) (hb : N.2 2 0 ≠ none) : X12_sums v (nI (54 + 96 * w)) = some (lN (fallS N (3 + w))) := by
  have p0 := hN.fo hb; have p1 := hN.fp hb; have p2 := hN.fd hb; have p3 := hN.fs hb
  have hv := hVN.fv
  have mz : ∀ (o : Option Nat), (∀ x, o = some x → x ≤ 100000000) → mxI (nI 0) (oI o) = nI (o.getD 0) := by
    intro o ho
    cases o with
    | none => decide
    | some x =>
      have := ho x rfl
      rw [oI_some, mxI_N (by omega) (by omega)]
      simp
  have mg : ∀ (o : Option Nat), (∀ x, o = some x → x ≤ 100000000) → mxI (nI 0) (nI (o.getD 0)) = nI (o.getD 0) := by
    intro o ho
    cases o with
    | none => decide
    | some x =>
      have := ho x rfl
      rw [Option.getD_some, mxI_N (by omega) (by omega)]
      simp
  unfold X12_sums
  rcases (show w = 0 ∨ w = 1 ∨ w = 2 ∨ w = 3 by omega) with rfl | rfl | rfl | rfl
  · exact m_sums_l (v := v) (r := 54) (g := fun i => N.2 3 i) (by omega) (fun i hi => by rw [p0 i hi]; exact mz _ (fun x hx => hv 3 i x (by omega) (by omega) hi hx)) (fun i x hi => hv 3 i x (by omega) (by omega) hi) fz 0 (Nat.zero_le _) (fz_lt (by omega))
  · exact m_sums_l (v := v) (r := 150) (g := fun i => N.2 4 i) (by omega) (fun i hi => by rw [p1 i hi]; exact mg _ (fun x hx => hv 4 i x (by omega) (by omega) hi hx)) (fun i x hi => hv 4 i x (by omega) (by omega) hi) fz 0 (Nat.zero_le _) (fz_lt (by omega))
  · exact m_sums_l (v := v) (r := 246) (g := fun i => N.2 5 i) (by omega) (fun i hi => by rw [p2 i hi]; exact mg _ (fun x hx => hv 5 i x (by omega) (by omega) hi hx)) (fun i x hi => hv 5 i x (by omega) (by omega) hi) fz 0 (Nat.zero_le _) (fz_lt (by omega))
  · exact m_sums_l (v := v) (r := 342) (g := fun i => N.2 6 i) (by omega) (fun i hi => by rw [p3 i hi]; exact mg _ (fun x hx => hv 6 i x (by omega) (by omega) hi hx)) (fun i x hi => hv 6 i x (by omega) (by omega) hi) fz 0 (Nat.zero_le _) (fz_lt (by omega))
theorem o_total (x : Int32) (h : RR T N P S u v) : SP (X11_total u x) (X12_total v x) := by
  have c1 := h.c.t; have c2 := h.c.n; have m1 := h.m.t; have m2 := h.m.n
  have hV := h.d.t; have hVN := h.d.n
  have f1 := c2.fb; have f2 := m2.fb
  simp only [Nat.reduceAdd] at f1
  have f3 := c2.fl
  simp only [Nat.reduceAdd] at f3
  have f4 := hVN.fl
  unfold X11_total X12_total SP
  cases hb : N.2 2 0 with
  | none =>
    rw [hb] at f1 f2
    simp (disch := omega) only [nI_lit, aM16, f1, f2, oI_none, Option.bind_some, ↓reduceIte]
    exact ⟨_, rfl, rfl⟩
  | some b =>
    have hb6 := hVN.fb b hb
    have hne : N.2 2 0 ≠ none := by rw [hb]; simp
    have f5 := m2.fl hne
    have a0 := q_all (w := 0) (by omega) hVN c2
    have a1 := q_all (w := 1) (by omega) hVN c2
    have a2 := q_all (w := 2) (by omega) hVN c2
    have a3 := q_all (w := 3) (by omega) hVN c2
    have s0 := m_sums (w := 0) (by omega) hVN m2 hne
    have s1 := m_sums (w := 1) (by omega) hVN m2 hne
    have s2 := m_sums (w := 2) (by omega) hVN m2 hne
    have s3 := m_sums (w := 3) (by omega) hVN m2 hne
    simp only [Nat.reduceMul, Nat.reduceAdd] at a0 a1 a2 a3 s0 s1 s2 s3
    rw [hb] at f1 f2
    rcases i_cases x 6 (by omega) with ⟨w, hw, rfl⟩ | hx
    · rcases (show w = 0 ∨ w = 1 ∨ w = 2 ∨ w = 3 ∨ w = 4 ∨ w = 5 by omega) with rfl | rfl | rfl | rfl | rfl | rfl
      · simp (disch := omega) only [aM16, f1, f2, oI_some, nI_lit, lN_lit, nI_add, pk_mul, lN_add, lN_mul, Option.bind_some, nI_leI, nI_ltI, nI_eq, lN_leI, lN_ltI, lN_eqI, nI_m1, m1_nI, i_modN, lN_modN, nI_64, lN_32, if_pos, if_neg, ↓reduceIte, if_true, if_false, Nat.reduceEqDiff]
        exact ⟨_, rfl, rfl⟩
      · simp (disch := omega) only [aM16, f1, f2, oI_some, a0, s0, nI_lit, lN_lit, nI_add, pk_mul, lN_add, lN_mul, Option.bind_some, nI_leI, nI_ltI, nI_eq, lN_leI, lN_ltI, lN_eqI, nI_m1, m1_nI, i_modN, lN_modN, nI_64, lN_32, if_pos, if_neg, ↓reduceIte, if_true, if_false, Nat.reduceEqDiff]
        exact ⟨_, rfl, rfl⟩
      · simp (disch := omega) only [aM16, f1, f2, oI_some, a1, s1, nI_lit, lN_lit, nI_add, pk_mul, lN_add, lN_mul, Option.bind_some, nI_leI, nI_ltI, nI_eq, lN_leI, lN_ltI, lN_eqI, nI_m1, m1_nI, i_modN, lN_modN, nI_64, lN_32, if_pos, if_neg, ↓reduceIte, if_true, if_false, Nat.reduceEqDiff]
        exact ⟨_, rfl, rfl⟩
      · simp (disch := omega) only [aM16, f1, f2, oI_some, a2, s2, nI_lit, lN_lit, nI_add, pk_mul, lN_add, lN_mul, Option.bind_some, nI_leI, nI_ltI, nI_eq, lN_leI, lN_ltI, lN_eqI, nI_m1, m1_nI, i_modN, lN_modN, nI_64, lN_32, if_pos, if_neg, ↓reduceIte, if_true, if_false, Nat.reduceEqDiff]
        exact ⟨_, rfl, rfl⟩
      · simp (disch := omega) only [aM16, f1, f2, f3, f5, oI_some, nI_lit, lN_lit, nI_add, pk_mul, lN_add, lN_mul, Option.bind_some, nI_leI, nI_ltI, nI_eq, lN_leI, lN_ltI, lN_eqI, nI_m1, m1_nI, i_modN, lN_modN, nI_64, lN_32, if_pos, if_neg, ↓reduceIte, if_true, if_false, Nat.reduceEqDiff]
        exact ⟨_, rfl, rfl⟩
      · simp (disch := omega) only [aM16, f1, f2, oI_some, a3, s3, nI_lit, lN_lit, nI_add, pk_mul, lN_add, lN_mul, Option.bind_some, nI_leI, nI_ltI, nI_eq, lN_leI, lN_ltI, lN_eqI, nI_m1, m1_nI, i_modN, lN_modN, nI_64, lN_32, if_pos, if_neg, ↓reduceIte, if_true, if_false, Nat.reduceEqDiff]
        exact ⟨_, rfl, rfl⟩
    · have w0 := i_out hx (show 0 < 6 by omega) (by omega)
      have w1 := i_out hx (show 1 < 6 by omega) (by omega)
      have w2 := i_out hx (show 2 < 6 by omega) (by omega)
      have w3 := i_out hx (show 3 < 6 by omega) (by omega)
      have w4 := i_out hx (show 4 < 6 by omega) (by omega)
      have w5 := i_out hx (show 5 < 6 by omega) (by omega)
      simp (disch := omega) only [aM16, f1, f2, oI_some, w0, w1, w2, w3, w4, w5, nI_lit, lN_lit, nI_add, pk_mul, lN_add, lN_mul, Option.bind_some, nI_leI, nI_ltI, nI_eq, lN_leI, lN_ltI, lN_eqI, nI_m1, m1_nI, i_modN, lN_modN, nI_64, lN_32, if_pos, if_neg, ↓reduceIte, if_true, if_false]
      exact ⟨_, rfl, rfl⟩
theorem o_came (a k x : Int32) (h : RR T N P S u v) : SP (X11_came u a k x) (X12_came v a k x) := by
  have c1 := h.c.t; have c2 := h.c.n; have m1 := h.m.t; have m2 := h.m.n
  have hV := h.d.t; have hVN := h.d.n; have hna := hV.na
  have f2 := m2.fb
  have r1 := m1.no
  simp only [Nat.mul_zero, Nat.zero_add] at r1
  have p0 := c2.fo; have p1 := c2.fp; have p2 := c2.fd; have p3 := c2.fs
  simp only [Nat.reduceAdd] at p0 p1 p2 p3
  unfold X11_came X12_came X11_came_b21 X12_came_b66 X12_came_b147 X5_row SP
  rcases i_cases a (T 0 2) (by omega) with ⟨a, ha, rfl⟩ | hl
  · have h0 := hV.no a ha
    have e2 := m_isAccount hV m1 ha
    have hsub : nI (T 5 a) - nI 1 = nI (T 5 a - 1) := nI_sub1 (by omega)
    have hsub2 : (nI (T 5 a - 1)).toInt64 = lN (T 5 a - 1) := nI_64 (by omega)
    rcases i_cases k (T 5 a) (by omega) with ⟨k, hk, rfl⟩ | hl
    · have e1 := q_isShare hV c1 ha hk
      have e3 := isIn_l (v := v) (show k ≤ T 5 a - 1 by omega) (by omega)
      have hi : a * 4 + k < 96 := by omega
      rcases i_cases x 4 (by omega) with ⟨w, hw, rfl⟩ | hx
      · have k0 := isIn_l (v := v) (show w ≤ 3 by omega) (by omega)
        cases hb : N.2 2 0 with
        | none =>
          have z := hVN.fe hb _ hi
          have z2 := hVN.fz _ hi
          rw [hb] at f2
          have q0 := p0 _ hi; have q1 := p1 _ hi; have q2 := p2 _ hi; have q3 := p3 _ hi
          rw [z] at q0
          rw [z2.1.mp z] at q1
          rw [z2.2.1.mp z] at q2
          rw [z2.2.2.mp z] at q3
          have nn : (-nI 1).toInt64 = -lN 1 := by decide
          refine ⟨-lN 1, ?_, ?_⟩
          · rcases (show w = 0 ∨ w = 1 ∨ w = 2 ∨ w = 3 by omega) with rfl | rfl | rfl | rfl
            · simp (disch := omega) only [e1, isO_C24, rf_C24_2, rf_C24_3, rf_C24_4, rf_C24_5, rf_C24_6, aC25, q0, oI_none, nn, nI_lit, lN_lit, nI_add, pk_mul, lN_add, lN_mul, Option.bind_some, nI_leI, nI_ltI, nI_eq, lN_leI, lN_ltI, lN_eqI, nI_m1, m1_nI, i_modN, lN_modN, nI_64, lN_32, if_pos, if_neg, ↓reduceIte, if_true, if_false, Nat.reduceEqDiff, Nat.not_lt_zero, Nat.reduceLeDiff]
            · simp (disch := omega) only [e1, isO_C24, rf_C24_2, rf_C24_3, rf_C24_4, rf_C24_5, rf_C24_6, aC26, q1, oI_none, nn, nI_lit, lN_lit, nI_add, pk_mul, lN_add, lN_mul, Option.bind_some, nI_leI, nI_ltI, nI_eq, lN_leI, lN_ltI, lN_eqI, nI_m1, m1_nI, i_modN, lN_modN, nI_64, lN_32, if_pos, if_neg, ↓reduceIte, if_true, if_false, Nat.reduceEqDiff, Nat.not_lt_zero, Nat.reduceLeDiff]
            · simp (disch := omega) only [e1, isO_C24, rf_C24_2, rf_C24_3, rf_C24_4, rf_C24_5, rf_C24_6, aC27, q2, oI_none, nn, nI_lit, lN_lit, nI_add, pk_mul, lN_add, lN_mul, Option.bind_some, nI_leI, nI_ltI, nI_eq, lN_leI, lN_ltI, lN_eqI, nI_m1, m1_nI, i_modN, lN_modN, nI_64, lN_32, if_pos, if_neg, ↓reduceIte, if_true, if_false, Nat.reduceEqDiff, Nat.not_lt_zero, Nat.reduceLeDiff]
            · simp (disch := omega) only [e1, isO_C24, rf_C24_2, rf_C24_3, rf_C24_4, rf_C24_5, rf_C24_6, aC28, q3, oI_none, nn, nI_lit, lN_lit, nI_add, pk_mul, lN_add, lN_mul, Option.bind_some, nI_leI, nI_ltI, nI_eq, lN_leI, lN_ltI, lN_eqI, nI_m1, m1_nI, i_modN, lN_modN, nI_64, lN_32, if_pos, if_neg, ↓reduceIte, if_true, if_false, Nat.reduceEqDiff, Nat.not_lt_zero, Nat.reduceLeDiff]
          · simp (disch := omega) only [aM16, f2, oI_none, nI_lit, lN_lit, nI_add, pk_mul, lN_add, lN_mul, Option.bind_some, nI_leI, nI_ltI, nI_eq, lN_leI, lN_ltI, lN_eqI, nI_m1, m1_nI, i_modN, lN_modN, nI_64, lN_32, if_pos, if_neg, ↓reduceIte, if_true, if_false]
        | some b =>
          have hb6 := hVN.fb b hb
          have hne : N.2 2 0 ≠ none := by rw [hb]; simp
          rw [hb] at f2
          have z2 := hVN.fz _ hi
          have q0 := p0 _ hi; have q1 := p1 _ hi; have q2 := p2 _ hi; have q3 := p3 _ hi
          have s0 := m2.fo hne _ hi; have s1 := m2.fp hne _ hi; have s2 := m2.fd hne _ hi; have s3 := m2.fs hne _ hi
          have i0 : 54 + 4 * a + k = 54 + (a * 4 + k) := by omega
          have i1 : 4 * a + k = a * 4 + k := by omega
          cases hx : N.2 3 (a * 4 + k) with
          | none =>
            rw [hx] at q0 s0
            rw [z2.1.mp hx] at q1
            rw [z2.2.1.mp hx] at q2
            rw [z2.2.2.mp hx] at q3
            have nn : (-nI 1).toInt64 = -lN 1 := by decide
            refine ⟨-lN 1, ?_, ?_⟩
            · rcases (show w = 0 ∨ w = 1 ∨ w = 2 ∨ w = 3 by omega) with rfl | rfl | rfl | rfl
              · simp (disch := omega) only [e1, isO_C24, rf_C24_2, rf_C24_3, rf_C24_4, rf_C24_5, rf_C24_6, aC25, q0, oI_none, nn, nI_lit, lN_lit, nI_add, pk_mul, lN_add, lN_mul, Option.bind_some, nI_leI, nI_ltI, nI_eq, lN_leI, lN_ltI, lN_eqI, nI_m1, m1_nI, i_modN, lN_modN, nI_64, lN_32, if_pos, if_neg, ↓reduceIte, if_true, if_false, Nat.reduceEqDiff, Nat.not_lt_zero, Nat.reduceLeDiff]
              · simp (disch := omega) only [e1, isO_C24, rf_C24_2, rf_C24_3, rf_C24_4, rf_C24_5, rf_C24_6, aC26, q1, oI_none, nn, nI_lit, lN_lit, nI_add, pk_mul, lN_add, lN_mul, Option.bind_some, nI_leI, nI_ltI, nI_eq, lN_leI, lN_ltI, lN_eqI, nI_m1, m1_nI, i_modN, lN_modN, nI_64, lN_32, if_pos, if_neg, ↓reduceIte, if_true, if_false, Nat.reduceEqDiff, Nat.not_lt_zero, Nat.reduceLeDiff]
              · simp (disch := omega) only [e1, isO_C24, rf_C24_2, rf_C24_3, rf_C24_4, rf_C24_5, rf_C24_6, aC27, q2, oI_none, nn, nI_lit, lN_lit, nI_add, pk_mul, lN_add, lN_mul, Option.bind_some, nI_leI, nI_ltI, nI_eq, lN_leI, lN_ltI, lN_eqI, nI_m1, m1_nI, i_modN, lN_modN, nI_64, lN_32, if_pos, if_neg, ↓reduceIte, if_true, if_false, Nat.reduceEqDiff, Nat.not_lt_zero, Nat.reduceLeDiff]
              · simp (disch := omega) only [e1, isO_C24, rf_C24_2, rf_C24_3, rf_C24_4, rf_C24_5, rf_C24_6, aC28, q3, oI_none, nn, nI_lit, lN_lit, nI_add, pk_mul, lN_add, lN_mul, Option.bind_some, nI_leI, nI_ltI, nI_eq, lN_leI, lN_ltI, lN_eqI, nI_m1, m1_nI, i_modN, lN_modN, nI_64, lN_32, if_pos, if_neg, ↓reduceIte, if_true, if_false, Nat.reduceEqDiff, Nat.not_lt_zero, Nat.reduceLeDiff]
            · simp (disch := omega) only [e2, e3, k0, aM7, aM16, hsub, hsub2, r1 a ha, f2, i0, s0, oI_some, oI_none, nI_lit, lN_lit, nI_add, pk_mul, lN_add, lN_mul, Option.bind_some, nI_leI, nI_ltI, nI_eq, lN_leI, lN_ltI, lN_eqI, nI_m1, m1_nI, i_modN, lN_modN, nI_64, lN_32, if_pos, if_neg, ↓reduceIte, if_true, if_false, Nat.reduceEqDiff]
          | some y0 =>
            obtain ⟨y1, g1⟩ := Option.ne_none_iff_exists'.mp (fun z => by rw [z2.1.mpr z] at hx; cases hx)
            obtain ⟨y2, g2⟩ := Option.ne_none_iff_exists'.mp (fun z => by rw [z2.2.1.mpr z] at hx; cases hx)
            obtain ⟨y3, g3⟩ := Option.ne_none_iff_exists'.mp (fun z => by rw [z2.2.2.mpr z] at hx; cases hx)
            have v0 := hVN.fv 3 _ _ (by omega) (by omega) hi hx
            have v1 := hVN.fv 4 _ _ (by omega) (by omega) hi g1
            have v2 := hVN.fv 5 _ _ (by omega) (by omega) hi g2
            have v3 := hVN.fv 6 _ _ (by omega) (by omega) hi g3
            rw [hx] at q0 s0
            rw [g1] at q1 s1
            rw [g2] at q2 s2
            rw [g3] at q3 s3
            rcases (show w = 0 ∨ w = 1 ∨ w = 2 ∨ w = 3 by omega) with rfl | rfl | rfl | rfl
            · refine ⟨lN y0, ?_, ?_⟩
              · simp (disch := omega) only [e1, isO_C24, rf_C24_2, rf_C24_3, rf_C24_4, rf_C24_5, rf_C24_6, aC25, q0, oI_some, nI_lit, lN_lit, nI_add, pk_mul, lN_add, lN_mul, Option.bind_some, nI_leI, nI_ltI, nI_eq, lN_leI, lN_ltI, lN_eqI, nI_m1, m1_nI, i_modN, lN_modN, nI_64, lN_32, if_pos, if_neg, ↓reduceIte, if_true, if_false, Nat.reduceEqDiff, Nat.not_lt_zero, Nat.reduceLeDiff]
              · simp (disch := omega) only [e2, e3, k0, aM7, aM16, hsub, hsub2, r1 a ha, f2, i0, i1, s0, oI_some, nI_lit, lN_lit, nI_add, pk_mul, lN_add, lN_mul, Option.bind_some, nI_leI, nI_ltI, nI_eq, lN_leI, lN_ltI, lN_eqI, nI_m1, m1_nI, i_modN, lN_modN, nI_64, lN_32, if_pos, if_neg, ↓reduceIte, if_true, if_false, Nat.reduceEqDiff]
            · refine ⟨lN y1, ?_, ?_⟩
              · simp (disch := omega) only [e1, isO_C24, rf_C24_2, rf_C24_3, rf_C24_4, rf_C24_5, rf_C24_6, aC26, q1, oI_some, nI_lit, lN_lit, nI_add, pk_mul, lN_add, lN_mul, Option.bind_some, nI_leI, nI_ltI, nI_eq, lN_leI, lN_ltI, lN_eqI, nI_m1, m1_nI, i_modN, lN_modN, nI_64, lN_32, if_pos, if_neg, ↓reduceIte, if_true, if_false, Nat.reduceEqDiff, Nat.not_lt_zero, Nat.reduceLeDiff]
              · simp (disch := omega) only [e2, e3, k0, aM7, aM16, hsub, hsub2, r1 a ha, f2, i0, i1, s0, s1, oI_some, Option.getD_some, nI_lit, lN_lit, nI_add, pk_mul, lN_add, lN_mul, Option.bind_some, nI_leI, nI_ltI, nI_eq, lN_leI, lN_ltI, lN_eqI, nI_m1, m1_nI, i_modN, lN_modN, nI_64, lN_32, if_pos, if_neg, ↓reduceIte, if_true, if_false, Nat.reduceEqDiff]
            · refine ⟨lN y2, ?_, ?_⟩
              · simp (disch := omega) only [e1, isO_C24, rf_C24_2, rf_C24_3, rf_C24_4, rf_C24_5, rf_C24_6, aC27, q2, oI_some, nI_lit, lN_lit, nI_add, pk_mul, lN_add, lN_mul, Option.bind_some, nI_leI, nI_ltI, nI_eq, lN_leI, lN_ltI, lN_eqI, nI_m1, m1_nI, i_modN, lN_modN, nI_64, lN_32, if_pos, if_neg, ↓reduceIte, if_true, if_false, Nat.reduceEqDiff, Nat.not_lt_zero, Nat.reduceLeDiff]
              · simp (disch := omega) only [e2, e3, k0, aM7, aM16, hsub, hsub2, r1 a ha, f2, i0, i1, s0, s2, oI_some, Option.getD_some, nI_lit, lN_lit, nI_add, pk_mul, lN_add, lN_mul, Option.bind_some, nI_leI, nI_ltI, nI_eq, lN_leI, lN_ltI, lN_eqI, nI_m1, m1_nI, i_modN, lN_modN, nI_64, lN_32, if_pos, if_neg, ↓reduceIte, if_true, if_false, Nat.reduceEqDiff]
            · refine ⟨lN y3, ?_, ?_⟩
              · simp (disch := omega) only [e1, isO_C24, rf_C24_2, rf_C24_3, rf_C24_4, rf_C24_5, rf_C24_6, aC28, q3, oI_some, nI_lit, lN_lit, nI_add, pk_mul, lN_add, lN_mul, Option.bind_some, nI_leI, nI_ltI, nI_eq, lN_leI, lN_ltI, lN_eqI, nI_m1, m1_nI, i_modN, lN_modN, nI_64, lN_32, if_pos, if_neg, ↓reduceIte, if_true, if_false, Nat.reduceEqDiff, Nat.not_lt_zero, Nat.reduceLeDiff]
              · simp (disch := omega) only [e2, e3, k0, aM7, aM16, hsub, hsub2, r1 a ha, f2, i0, i1, s0, s3, oI_some, Option.getD_some, nI_lit, lN_lit, nI_add, pk_mul, lN_add, lN_mul, Option.bind_some, nI_leI, nI_ltI, nI_eq, lN_leI, lN_ltI, lN_eqI, nI_m1, m1_nI, i_modN, lN_modN, nI_64, lN_32, if_pos, if_neg, ↓reduceIte, if_true, if_false, Nat.reduceEqDiff]
      · have k0 := isIn_o (u := v) (n := 3) hx (by omega)
        refine ⟨-lN 1, ?_, ?_⟩
        · by_cases h1 : x < nI 0
          · simp (disch := omega) only [e1, h1, nI_lit, lN_lit, nI_add, pk_mul, lN_add, lN_mul, Option.bind_some, nI_leI, nI_ltI, nI_eq, lN_leI, lN_ltI, lN_eqI, nI_m1, m1_nI, i_modN, lN_modN, nI_64, lN_32, if_pos, if_neg, ↓reduceIte, if_true, if_false]
          · have h2 : ¬ x ≤ nI 3 := by
              have h2 := hx.resolve_left h1
              rw [Int32.le_iff_toInt_le] at *
              rw [nI_toInt (by decide)] at *
              omega
            simp (disch := omega) only [e1, h1, h2, nI_lit, lN_lit, nI_add, pk_mul, lN_add, lN_mul, Option.bind_some, nI_leI, nI_ltI, nI_eq, lN_leI, lN_ltI, lN_eqI, nI_m1, m1_nI, i_modN, lN_modN, nI_64, lN_32, if_pos, if_neg, ↓reduceIte, if_true, if_false]
        · cases hb : N.2 2 0 with
          | none =>
            rw [hb] at f2
            simp (disch := omega) only [aM16, f2, oI_none, nI_lit, lN_lit, nI_add, pk_mul, lN_add, lN_mul, Option.bind_some, nI_leI, nI_ltI, nI_eq, lN_leI, lN_ltI, lN_eqI, nI_m1, m1_nI, i_modN, lN_modN, nI_64, lN_32, if_pos, if_neg, ↓reduceIte, if_true, if_false]
          | some b =>
            have hb6 := hVN.fb b hb
            rw [hb] at f2
            simp (disch := omega) only [e2, e3, k0, aM7, aM16, hsub, hsub2, r1 a ha, f2, oI_some, nI_lit, lN_lit, nI_add, pk_mul, lN_add, lN_mul, Option.bind_some, nI_leI, nI_ltI, nI_eq, lN_leI, lN_ltI, lN_eqI, nI_m1, m1_nI, i_modN, lN_modN, nI_64, lN_32, if_pos, if_neg, ↓reduceIte, if_true, if_false, Nat.reduceEqDiff]
    · have e1 := q_isShareF2 hV c1 ha hl
      have e3 : X12_isIn v k.toInt64 (lN 0) (lN (T 5 a - 1)) = some (nI 0) := isIn_o (by rw [show T 5 a - 1 + 1 = T 5 a by omega]; exact hl) (by omega)
      refine ⟨-lN 1, ?_, ?_⟩
      · simp (disch := omega) only [e1, nI_lit, lN_lit, nI_add, pk_mul, lN_add, lN_mul, Option.bind_some, nI_leI, nI_ltI, nI_eq, lN_leI, lN_ltI, lN_eqI, nI_m1, m1_nI, i_modN, lN_modN, nI_64, lN_32, if_pos, if_neg, ↓reduceIte, if_true, if_false]
      · cases hb : N.2 2 0 with
        | none =>
          rw [hb] at f2
          simp (disch := omega) only [aM16, f2, oI_none, nI_lit, lN_lit, nI_add, pk_mul, lN_add, lN_mul, Option.bind_some, nI_leI, nI_ltI, nI_eq, lN_leI, lN_ltI, lN_eqI, nI_m1, m1_nI, i_modN, lN_modN, nI_64, lN_32, if_pos, if_neg, ↓reduceIte, if_true, if_false]
        | some b =>
          have hb6 := hVN.fb b hb
          rw [hb] at f2
          simp (disch := omega) only [e2, e3, aM7, aM16, hsub, hsub2, r1 a ha, f2, oI_some, nI_lit, lN_lit, nI_add, pk_mul, lN_add, lN_mul, Option.bind_some, nI_leI, nI_ltI, nI_eq, lN_leI, lN_ltI, lN_eqI, nI_m1, m1_nI, i_modN, lN_modN, nI_64, lN_32, if_pos, if_neg, ↓reduceIte, if_true, if_false, Nat.reduceEqDiff]
  · have e1 := q_isShareF1 (y := k) c1 hl
    have e2 := m_isAccountF hV m1 hl
    refine ⟨-lN 1, ?_, ?_⟩
    · simp (disch := omega) only [e1, nI_lit, lN_lit, nI_add, pk_mul, lN_add, lN_mul, Option.bind_some, nI_leI, nI_ltI, nI_eq, lN_leI, lN_ltI, lN_eqI, nI_m1, m1_nI, i_modN, lN_modN, nI_64, lN_32, if_pos, if_neg, ↓reduceIte, if_true, if_false]
    · cases hb : N.2 2 0 with
      | none =>
        rw [hb] at f2
        simp (disch := omega) only [aM16, f2, oI_none, nI_lit, lN_lit, nI_add, pk_mul, lN_add, lN_mul, Option.bind_some, nI_leI, nI_ltI, nI_eq, lN_leI, lN_ltI, lN_eqI, nI_m1, m1_nI, i_modN, lN_modN, nI_64, lN_32, if_pos, if_neg, ↓reduceIte, if_true, if_false]
      | some b =>
        have hb6 := hVN.fb b hb
        rw [hb] at f2
        simp (disch := omega) only [e2, aM16, f2, oI_some, nI_lit, lN_lit, nI_add, pk_mul, lN_add, lN_mul, Option.bind_some, nI_leI, nI_ltI, nI_eq, lN_leI, lN_ltI, lN_eqI, nI_m1, m1_nI, i_modN, lN_modN, nI_64, lN_32, if_pos, if_neg, ↓reduceIte, if_true, if_false]
end O5
