/-! group, of -/
section O4
variable {T : gT} {N : gN} {P : List gN} {S : gS} {u v : gM}
theorem hn0 {a : Nat} : (none : Option Nat) = some a → a < 2 ^ 31 := fun h => by cases h
theorem q_isMonth {m : Nat} (h : m < 1000) : X11_isMonth u (nI m) = some (nI 1) := by
  unfold X11_isMonth X11_isMonth_b16
  simp (disch := omega) only [bI, nI_lit, lN_lit, nI_add, pk_mul, lN_add, lN_mul, Option.bind_some, nI_leI, nI_ltI, nI_eq, lN_leI, lN_ltI, lN_eqI, nI_m1, m1_nI, i_modN, lN_modN, nI_64, lN_32, if_pos, if_neg, ↓reduceIte, if_true, if_false, show (m < 0) = False by simp, show (999 < m) = False by simp; omega, Nat.reduceEqDiff, or_true]
theorem q_isMonthF {x : Int32} (h : x < nI 0 ∨ nI 1000 ≤ x) : X11_isMonth u x = some (nI 0) := by
  unfold X11_isMonth X11_isMonth_b15 X11_isMonth_b16
  by_cases h1 : x < nI 0
  · simp only [nI_lit, h1, ↓reduceIte, bI, true_or]
  · have h2 : nI 999 < x := by
      have h2 := h.resolve_left h1
      rw [Int32.lt_iff_toInt_lt]
      rw [Int32.le_iff_toInt_le] at h2
      rw [nI_toInt (by decide)] at *
      omega
    simp only [nI_lit, h1, h2, ↓reduceIte, bI, true_or]
theorem o_group (p kd b m x : Int32) (h : RR T N P S u v) : SQ (X11_group p kd b m x u) (X12_group p kd b m x v) u v := by
  have c1 := h.c.t; have c2 := h.c.n; have m1 := h.m.t; have m2 := h.m.n
  have hV := h.d.t; have hVN := h.d.n; have hmo := hVN.mo; have hna := hV.na; have hnp := hV.np; have hnb := hV.nb
  unfold X11_group X12_group X11_group_b39 X12_group_b54 X12_group_b98 X12_group_b140
  rcases i_cases p (T 0 0) (by omega) with ⟨p, hp, rfl⟩ | hl
  · have e1 := q_isPerson hV c1 hp
    have f1 := m_isPerson hV m1 hp
    rcases i_cases kd 5 (by omega) with ⟨kd, hk, rfl⟩ | hl
    · have f2 := isIn_l (v := v) (show kd ≤ 4 by omega) (by omega)
      rcases i_cases b (T 0 1) (by omega) with ⟨b, hb, rfl⟩ | hl
      · have e3 := q_isBank hV c1 hb
        have f3 := m_isBank hV m1 hb
        rcases i_cases m 1000 (by omega) with ⟨m, hm, rfl⟩ | hl
        · have e4 := q_isMonth (u := u) hm
          have f4 := isIn_l (v := v) (show m ≤ 999 by omega) (by omega)
          obtain ⟨u1, g1, g2, g3⟩ := q_setMonth (m := m) hV hVN (by omega) c1 c2
          have g3' : off sX u u1 := off_mono g3 (fun c hc => by have z : c = 142 := hc; subst z; exact sXk (by omega))
          obtain ⟨u2, g4, g5, g6⟩ := q_gather (p := p) (kd := kd) (b := b) (m := m) hV hVN hp (by omega) (by omega) (RT_sX c1 g3') (RN_sX c2 g3') g2
          have g6' : off sX u1 u2 := off_mono g6 (fun c hc => by have z : c = 138 ∨ c = 139 ∨ c = 143 := hc; exact sXk (by omega))
          obtain ⟨u3, g7, g8⟩ := q_most hV g5 hp (by omega)
          have g8' : off sX u2 u3 := off_mono g8 (fun c hc => by have z : c = 144 := hc; subst z; exact sXk (by omega))
          have g9 := (g8 138 (by intro z; have z1 : 138 = 144 := z; omega)).1
          have a1 := m_accountsOf (p := p) (kd := kd) (b := b) (m := m) hV hVN (h.m.mvw hV) hp (by omega) (by omega) (by omega)
          have a2 := m_sumOf (p := p) (kd := kd) (b := b) (m := m) hV hVN (h.m.mvw hV) hp (by omega) (by omega) (by omega)
          obtain ⟨v1, a3, a4⟩ := m_mostOf (p := p) (kd := kd) (b := b) (m := m) hV hVN (h.m.mvw hV) (fun _ => hn0) hp (by omega) (by omega) (by omega)
          rw [mstM_none] at a3
          have a4' : off sY v v1 := off_mono a4 (fun c hc => by have z : c = 20 := hc; subst z; exact sYk (by omega))
          have b1 : mstS T N p kd b m ≤ 500000000 := by rw [← mstM_none]; exact mstM_le hV
          have b2 := gsum_le (p := p) (kd := kd) (b := b) (m := m) hV hVN (Nat.le_refl (T 0 2))
          have b3 := gl_len (T := T) (N := N) (p := p) (kd := kd) (b := b) (m := m) (T 0 2)
          have b4 : gN_ T N p kd b m ≤ 24 := by unfold gN_; omega
          have s1 := g5.s
          have s2 : u2.1 138 0 = nI (gN_ T N p kd b m) := g5.k
          have s3 : ((if gN_ T N p kd b m = 0 then 0 else mstS T N p kd b m) : Nat) ≤ 500000000 := by split <;> omega
          have ou := off_tr (off_tr g3' g6') g8'
          have n4 : (4 < kd) = False := by simp; omega
          rcases i_cases x 4 (by omega) with ⟨w, hw, rfl⟩ | hx
          · have f5 := isIn_l (v := v) (show w ≤ 3 by omega) (by omega)
            by_cases hz : gN_ T N p kd b m = 0
            · rw [hz] at a1 s2
              rw [if_pos hz] at g7
              rcases (show w = 0 ∨ w = 1 ∨ w = 2 ∨ w = 3 by omega) with rfl | rfl | rfl | rfl
              · refine ⟨lN ((gl T N p kd b m (T 0 2)).map (shP T N p)).sum, u3, v, ?_, ?_, ou, off_rf⟩
                · simp (disch := omega) only [e1, e3, e4, g1, g4, g7, s1, n4, nI_lit, lN_lit, nI_add, pk_mul, lN_add, lN_mul, Option.bind_some, nI_leI, nI_ltI, nI_eq, lN_leI, lN_ltI, lN_eqI, nI_m1, m1_nI, i_modN, lN_modN, nI_64, lN_32, if_pos, if_neg, ↓reduceIte, if_true, if_false, Nat.not_lt_zero, Nat.reduceEqDiff]
                · simp (disch := omega) only [f1, f2, f3, f4, f5, a1, a2, nI_lit, lN_lit, nI_add, pk_mul, lN_add, lN_mul, Option.bind_some, nI_leI, nI_ltI, nI_eq, lN_leI, lN_ltI, lN_eqI, nI_m1, m1_nI, i_modN, lN_modN, nI_64, lN_32, if_pos, if_neg, ↓reduceIte, if_true, if_false, Nat.reduceEqDiff]
              · refine ⟨lN 0, u3, v, ?_, ?_, ou, off_rf⟩
                · simp (disch := omega) only [e1, e3, e4, g1, g4, g7, s1, n4, nI_lit, lN_lit, nI_add, pk_mul, lN_add, lN_mul, Option.bind_some, nI_leI, nI_ltI, nI_eq, lN_leI, lN_ltI, lN_eqI, nI_m1, m1_nI, i_modN, lN_modN, nI_64, lN_32, if_pos, if_neg, ↓reduceIte, if_true, if_false, Nat.not_lt_zero, Nat.reduceEqDiff]
                · simp (disch := omega) only [f1, f2, f3, f4, f5, a1, a2, nI_lit, lN_lit, nI_add, pk_mul, lN_add, lN_mul, Option.bind_some, nI_leI, nI_ltI, nI_eq, lN_leI, lN_ltI, lN_eqI, nI_m1, m1_nI, i_modN, lN_modN, nI_64, lN_32, if_pos, if_neg, ↓reduceIte, if_true, if_false, Nat.reduceEqDiff]
              · refine ⟨lN (min ((gl T N p kd b m (T 0 2)).map (shP T N p)).sum 0), u3, v, ?_, ?_, ou, off_rf⟩
                · simp (disch := omega) only [e1, e3, e4, g1, g4, g7, s1, n4, mnJ_N, nI_lit, lN_lit, nI_add, pk_mul, lN_add, lN_mul, Option.bind_some, nI_leI, nI_ltI, nI_eq, lN_leI, lN_ltI, lN_eqI, nI_m1, m1_nI, i_modN, lN_modN, nI_64, lN_32, if_pos, if_neg, ↓reduceIte, if_true, if_false, Nat.not_lt_zero, Nat.reduceEqDiff]
                · simp (disch := omega) only [f1, f2, f3, f4, f5, a1, a2, mnJ_N, nI_lit, lN_lit, nI_add, pk_mul, lN_add, lN_mul, Option.bind_some, nI_leI, nI_ltI, nI_eq, lN_leI, lN_ltI, lN_eqI, nI_m1, m1_nI, i_modN, lN_modN, nI_64, lN_32, if_pos, if_neg, ↓reduceIte, if_true, if_false, Nat.reduceEqDiff]
              · refine ⟨lN 0, u3, v, ?_, ?_, ou, off_rf⟩
                · simp (disch := omega) only [e1, e3, e4, g1, g4, g7, g9, s2, n4, nI_lit, lN_lit, nI_add, pk_mul, lN_add, lN_mul, Option.bind_some, nI_leI, nI_ltI, nI_eq, lN_leI, lN_ltI, lN_eqI, nI_m1, m1_nI, i_modN, lN_modN, nI_64, lN_32, if_pos, if_neg, ↓reduceIte, if_true, if_false, Nat.not_lt_zero, Nat.reduceEqDiff]
                · simp (disch := omega) only [f1, f2, f3, f4, f5, a1, a2, nI_lit, lN_lit, nI_add, pk_mul, lN_add, lN_mul, Option.bind_some, nI_leI, nI_ltI, nI_eq, lN_leI, lN_ltI, lN_eqI, nI_m1, m1_nI, i_modN, lN_modN, nI_64, lN_32, if_pos, if_neg, ↓reduceIte, if_true, if_false, Nat.reduceEqDiff]
            · rw [if_neg hz] at g7
              rcases (show w = 0 ∨ w = 1 ∨ w = 2 ∨ w = 3 by omega) with rfl | rfl | rfl | rfl
              · refine ⟨lN ((gl T N p kd b m (T 0 2)).map (shP T N p)).sum, u3, v1, ?_, ?_, ou, a4'⟩
                · simp (disch := omega) only [e1, e3, e4, g1, g4, g7, s1, n4, nI_lit, lN_lit, nI_add, pk_mul, lN_add, lN_mul, Option.bind_some, nI_leI, nI_ltI, nI_eq, lN_leI, lN_ltI, lN_eqI, nI_m1, m1_nI, i_modN, lN_modN, nI_64, lN_32, if_pos, if_neg, ↓reduceIte, if_true, if_false, Nat.not_lt_zero, Nat.reduceEqDiff]
                · simp (disch := omega) only [f1, f2, f3, f4, f5, a1, a2, a3, hz, nI_lit, lN_lit, nI_add, pk_mul, lN_add, lN_mul, Option.bind_some, nI_leI, nI_ltI, nI_eq, lN_leI, lN_ltI, lN_eqI, nI_m1, m1_nI, i_modN, lN_modN, nI_64, lN_32, if_pos, if_neg, ↓reduceIte, if_true, if_false, Nat.reduceEqDiff]
              · refine ⟨lN (mstS T N p kd b m), u3, v1, ?_, ?_, ou, a4'⟩
                · simp (disch := omega) only [e1, e3, e4, g1, g4, g7, s1, n4, nI_lit, lN_lit, nI_add, pk_mul, lN_add, lN_mul, Option.bind_some, nI_leI, nI_ltI, nI_eq, lN_leI, lN_ltI, lN_eqI, nI_m1, m1_nI, i_modN, lN_modN, nI_64, lN_32, if_pos, if_neg, ↓reduceIte, if_true, if_false, Nat.not_lt_zero, Nat.reduceEqDiff]
                · simp (disch := omega) only [f1, f2, f3, f4, f5, a1, a2, a3, hz, nI_lit, lN_lit, nI_add, pk_mul, lN_add, lN_mul, Option.bind_some, nI_leI, nI_ltI, nI_eq, lN_leI, lN_ltI, lN_eqI, nI_m1, m1_nI, i_modN, lN_modN, nI_64, lN_32, if_pos, if_neg, ↓reduceIte, if_true, if_false, Nat.reduceEqDiff]
              · refine ⟨lN (min ((gl T N p kd b m (T 0 2)).map (shP T N p)).sum (mstS T N p kd b m)), u3, v1, ?_, ?_, ou, a4'⟩
                · simp (disch := omega) only [e1, e3, e4, g1, g4, g7, s1, n4, mnJ_N, nI_lit, lN_lit, nI_add, pk_mul, lN_add, lN_mul, Option.bind_some, nI_leI, nI_ltI, nI_eq, lN_leI, lN_ltI, lN_eqI, nI_m1, m1_nI, i_modN, lN_modN, nI_64, lN_32, if_pos, if_neg, ↓reduceIte, if_true, if_false, Nat.not_lt_zero, Nat.reduceEqDiff]
                · simp (disch := omega) only [f1, f2, f3, f4, f5, a1, a2, a3, hz, mnJ_N, nI_lit, lN_lit, nI_add, pk_mul, lN_add, lN_mul, Option.bind_some, nI_leI, nI_ltI, nI_eq, lN_leI, lN_ltI, lN_eqI, nI_m1, m1_nI, i_modN, lN_modN, nI_64, lN_32, if_pos, if_neg, ↓reduceIte, if_true, if_false, Nat.reduceEqDiff]
              · refine ⟨lN (gN_ T N p kd b m), u3, v1, ?_, ?_, ou, a4'⟩
                · simp (disch := omega) only [e1, e3, e4, g1, g4, g7, g9, s2, n4, nI_lit, lN_lit, nI_add, pk_mul, lN_add, lN_mul, Option.bind_some, nI_leI, nI_ltI, nI_eq, lN_leI, lN_ltI, lN_eqI, nI_m1, m1_nI, i_modN, lN_modN, nI_64, lN_32, if_pos, if_neg, ↓reduceIte, if_true, if_false, Nat.not_lt_zero, Nat.reduceEqDiff]
                · simp (disch := omega) only [f1, f2, f3, f4, f5, a1, a2, a3, hz, nI_lit, lN_lit, nI_add, pk_mul, lN_add, lN_mul, Option.bind_some, nI_leI, nI_ltI, nI_eq, lN_leI, lN_ltI, lN_eqI, nI_m1, m1_nI, i_modN, lN_modN, nI_64, lN_32, if_pos, if_neg, ↓reduceIte, if_true, if_false, Nat.reduceEqDiff]
          · have f5 := isIn_o (u := v) (n := 3) hx (by omega)
            have w0 := i_out hx (show 0 < 4 by omega) (by omega)
            have w1 := i_out hx (show 1 < 4 by omega) (by omega)
            have w2 := i_out hx (show 2 < 4 by omega) (by omega)
            have w3 := i_out hx (show 3 < 4 by omega) (by omega)
            refine ⟨-lN 1, u3, v, ?_, ?_, ou, off_rf⟩
            · simp (disch := omega) only [e1, e3, e4, g1, g4, g7, s1, n4, w0, w1, w2, w3, nI_lit, lN_lit, nI_add, pk_mul, lN_add, lN_mul, Option.bind_some, nI_leI, nI_ltI, nI_eq, lN_leI, lN_ltI, lN_eqI, nI_m1, m1_nI, i_modN, lN_modN, nI_64, lN_32, if_pos, if_neg, ↓reduceIte, if_true, if_false, Nat.not_lt_zero, Nat.reduceEqDiff]
            · simp (disch := omega) only [f1, f2, f3, f4, f5, nI_lit, lN_lit, nI_add, pk_mul, lN_add, lN_mul, Option.bind_some, nI_leI, nI_ltI, nI_eq, lN_leI, lN_ltI, lN_eqI, nI_m1, m1_nI, i_modN, lN_modN, nI_64, lN_32, if_pos, if_neg, ↓reduceIte, if_true, if_false, Nat.reduceEqDiff]
        · have e4 := q_isMonthF (u := u) hl
          have f4 := isIn_o (u := v) (n := 999) hl (by omega)
          have n4 : (4 < kd) = False := by simp; omega
          refine SQ.p (r := -lN 1) ?_ ?_
          · simp (disch := omega) only [e1, e3, e4, n4, nI_lit, lN_lit, nI_add, pk_mul, lN_add, lN_mul, Option.bind_some, nI_leI, nI_ltI, nI_eq, lN_leI, lN_ltI, lN_eqI, nI_m1, m1_nI, i_modN, lN_modN, nI_64, lN_32, if_pos, if_neg, ↓reduceIte, if_true, if_false, Nat.not_lt_zero]
          · simp (disch := omega) only [f1, f2, f3, f4, nI_lit, lN_lit, nI_add, pk_mul, lN_add, lN_mul, Option.bind_some, nI_leI, nI_ltI, nI_eq, lN_leI, lN_ltI, lN_eqI, nI_m1, m1_nI, i_modN, lN_modN, nI_64, lN_32, if_pos, if_neg, ↓reduceIte, if_true, if_false, Nat.reduceEqDiff]
      · have e3 := q_isBankF c1 hl
        have f3 := m_isBankF hV m1 hl
        have n4 : (4 < kd) = False := by simp; omega
        refine SQ.p (r := -lN 1) ?_ ?_
        · simp (disch := omega) only [e1, e3, n4, nI_lit, lN_lit, nI_add, pk_mul, lN_add, lN_mul, Option.bind_some, nI_leI, nI_ltI, nI_eq, lN_leI, lN_ltI, lN_eqI, nI_m1, m1_nI, i_modN, lN_modN, nI_64, lN_32, if_pos, if_neg, ↓reduceIte, if_true, if_false, Nat.not_lt_zero]
        · simp (disch := omega) only [f1, f2, f3, nI_lit, lN_lit, nI_add, pk_mul, lN_add, lN_mul, Option.bind_some, nI_leI, nI_ltI, nI_eq, lN_leI, lN_ltI, lN_eqI, nI_m1, m1_nI, i_modN, lN_modN, nI_64, lN_32, if_pos, if_neg, ↓reduceIte, if_true, if_false, Nat.reduceEqDiff]
    · have f2 := isIn_o (u := v) (n := 4) hl (by omega)
      refine SQ.p (r := -lN 1) ?_ ?_
      · by_cases h1 : kd < nI 0
        · simp (disch := omega) only [e1, h1, nI_lit, lN_lit, nI_add, pk_mul, lN_add, lN_mul, Option.bind_some, nI_leI, nI_ltI, nI_eq, lN_leI, lN_ltI, lN_eqI, nI_m1, m1_nI, i_modN, lN_modN, nI_64, lN_32, if_pos, if_neg, ↓reduceIte, if_true, if_false]
        · have h2 : nI 4 < kd := by
            have h2 := hl.resolve_left h1
            rw [Int32.lt_iff_toInt_lt]
            rw [Int32.le_iff_toInt_le] at h2
            rw [nI_toInt (by decide)] at *
            omega
          simp (disch := omega) only [e1, h1, h2, nI_lit, lN_lit, nI_add, pk_mul, lN_add, lN_mul, Option.bind_some, nI_leI, nI_ltI, nI_eq, lN_leI, lN_ltI, lN_eqI, nI_m1, m1_nI, i_modN, lN_modN, nI_64, lN_32, if_pos, if_neg, ↓reduceIte, if_true, if_false]
      · simp (disch := omega) only [f1, f2, nI_lit, lN_lit, nI_add, pk_mul, lN_add, lN_mul, Option.bind_some, nI_leI, nI_ltI, nI_eq, lN_leI, lN_ltI, lN_eqI, nI_m1, m1_nI, i_modN, lN_modN, nI_64, lN_32, if_pos, if_neg, ↓reduceIte, if_true, if_false, Nat.reduceEqDiff]
  · rw [q_isPersonF c1 hl, m_isPersonF hV m1 hl]
    exact SQ.p rfl rfl
end O4
