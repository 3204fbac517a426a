/-! moves -/
section MP
variable {T : gT} {N : gN} {P : List gN} {S : gS} {u v : gM}
theorem q_allOf_l {r : Nat} {g : Nat → Nat} (hV : VT T) (hT : RT 3 T u) (hsk : skC[r]? = some (.inr (1, 6, []))) (hg : ∀ b, b < T 0 1 → u.2 r b = lN (g b) ∧ g b ≤ 2400000000) : ∀ (f b : Nat), b ≤ T 0 1 → T 0 1 - b < f → X6_allOf_l5 u f r (lN (sumN g b)) (nI b) = some (lN (sumN g (T 0 1))) := by
  have hnb := hV.nb
  intro f
  induction f with
  | zero => intro b h1 h2; omega
  | succ f ih =>
    intro b h1 h2
    unfold X6_allOf_l5 X6_allOf_b5
    by_cases h4 : b = T 0 1
    · rw [hT.nb, h4, if_pos (Int32.le_refl _)]
    · have e := ih (b + 1) (by omega) (by omega)
      rw [sumN_s] at e
      have h5 := aJ_at (u := u) hsk (by omega) (show b < 6 by omega)
      rw [(hg b (by omega)).1] at h5
      simp (disch := omega) only [hT.nb, h5, nI_lit, lN_lit, nI_add, pk_mul, lN_add, lN_mul, Option.bind_some, nI_leI, nI_ltI, nI_eq, lN_leI, lN_ltI, lN_eqI, nI_m1, m1_nI, i_modN, lN_modN, nI_64, lN_32, if_pos, if_neg, ↓reduceIte, if_true, if_false]
      exact e
theorem q_allOf {r : Nat} {g : Nat → Nat} (hV : VT T) (hT : RT 3 T u) (hsk : skC[r]? = some (.inr (1, 6, []))) (hg : ∀ b, b < T 0 1 → u.2 r b = lN (g b) ∧ g b ≤ 2400000000) : X6_allOf u r = some (lN (sumN g (T 0 1))) := by
  have hnb := hV.nb
  unfold X6_allOf
  rw [nI_lit, lN_lit]
  exact q_allOf_l hV hT hsk hg fz 0 (Nat.zero_le _) (fz_lt (by omega))
/-- the BANK with the most ROOM among the first n -/
def rbV (g : Nat → Nat) : Option Nat → Nat
  | none => 0
  | some c => g c
def rbS (g : Nat → Nat) : Nat → Option Nat
  | 0 => none
  | n + 1 => if rbV g (rbS g n) < g n then some n else rbS g n
theorem rbS_s (g : Nat → Nat) (n : Nat) : rbS g (n + 1) = if rbV g (rbS g n) < g n then some n else rbS g n := rfl
theorem rbS_lt {g : Nat → Nat} : ∀ {n c : Nat}, rbS g n = some c → c < n
  | 0, c, h => by cases h
  | n + 1, c, h => by
    rw [rbS_s] at h
    split at h
    · cases h; omega
    · have := rbS_lt h; omega
theorem q_best_l {g : Nat → Nat} (hV : VT T) (hT : RT 3 T u) (hg : ∀ b, b < T 0 1 → u.2 152 b = lN (g b)) (hb : ∀ b, g b ≤ 100000000) : ∀ (f b : Nat), b ≤ T 0 1 → T 0 1 - b < f → X6_roomiest_l7 u f (oI (rbS g b)) (lN (rbV g (rbS g b))) (nI b) = some (oI (rbS g (T 0 1))) := by
  have hnb := hV.nb
  intro f
  induction f with
  | zero => intro b h1 h2; omega
  | succ f ih =>
    intro b h1 h2
    unfold X6_roomiest_l7 X6_roomiest_b7 X6_roomiest_b42
    by_cases h4 : b = T 0 1
    · rw [hT.nb, h4, if_pos (Int32.le_refl _)]
    · have e := ih (b + 1) (by omega) (by omega)
      rw [rbS_s] at e
      have b1 := hb b
      have b2 : rbV g (rbS g b) ≤ 100000000 := by unfold rbV; split <;> first | omega | exact hb _
      by_cases h5 : rbV g (rbS g b) < g b
      · rw [if_pos h5] at e
        have h6 : ¬ g b ≤ rbV g (rbS g b) := by omega
        simp (disch := omega) only [hT.nb, aC152, hg b (by omega), lg_le, h6, nI_lit, lN_lit, nI_add, pk_mul, lN_add, lN_mul, Option.bind_some, nI_leI, nI_ltI, nI_eq, lN_leI, lN_ltI, lN_eqI, nI_m1, m1_nI, i_modN, lN_modN, nI_64, lN_32, if_pos, if_neg, ↓reduceIte, if_true, if_false]
        exact e
      · rw [if_neg h5] at e
        have h6 : g b ≤ rbV g (rbS g b) := by omega
        simp (disch := omega) only [hT.nb, aC152, hg b (by omega), lg_le, h6, nI_lit, lN_lit, nI_add, pk_mul, lN_add, lN_mul, Option.bind_some, nI_leI, nI_ltI, nI_eq, lN_leI, lN_ltI, lN_eqI, nI_m1, m1_nI, i_modN, lN_modN, nI_64, lN_32, if_pos, if_neg, ↓reduceIte, if_true, if_false]
        exact e
theorem m_mv_l {w : Nat} {e r : Nat → Nat} (hw : w < 3) (hV : VT T) (hT : RTm 0 T v) (he : ∀ b, b < T 0 1 → v.2 28 b = lN (e b)) (hr : ∀ b, b < T 0 1 → v.2 29 b = lN (r b)) (hb1 : ∀ b, e b ≤ 2400000000) (hb2 : ∀ b, r b ≤ 100000000) : ∀ (f b : Nat), b ≤ T 0 1 → T 0 1 - b < f →
    X12_moves_l40 f (nI w) (lN (sumN e b)) (lN (sumN r b)) (oI (rbS r b)) (nI b) v = some ((if w = 0 then lN (sumN e (T 0 1) - sumN r (T 0 1)) else if w = 1 then lN (min (sumN e (T 0 1)) (sumN r (T 0 1))) else (oI (rbS r (T 0 1))).toInt64), v) := by
  have hnb := hV.nb
  have t0 := hT.nb; simp only [Nat.mul_zero, Nat.zero_add] at t0
  intro f
  induction f with
  | zero => intro b h1 h2; omega
  | succ f ih =>
    intro b h1 h2
    unfold X12_moves_l40 X12_moves_b40 X12_moves_b109 X12_moves_b113 X12_moves_b151
    by_cases h4 : b = T 0 1
    · have s1 : sumN e (T 0 1) ≤ T 0 1 * 2400000000 := sumN_max (fun i _ => hb1 i)
      have s2 : sumN r (T 0 1) ≤ T 0 1 * 100000000 := sumN_max (fun i _ => hb2 i)
      have m1 : mxJ (lN 0) (lN (sumN e (T 0 1)) - lN (sumN r (T 0 1))) = lN (sumN e (T 0 1) - sumN r (T 0 1)) := mxJ_sub (by omega) (by omega)
      have m2 : mnJ (lN (sumN e (T 0 1))) (lN (sumN r (T 0 1))) = lN (min (sumN e (T 0 1)) (sumN r (T 0 1))) := mnJ_N (by omega) (by omega)
      rcases (show w = 0 ∨ w = 1 ∨ w = 2 by omega) with rfl | rfl | rfl
      · simp (disch := omega) only [aM1, t0, h4, m1, nI_lit, lN_lit, nI_add, pk_mul, lN_add, lN_mul, Option.bind_some, nI_leI, nI_ltI, nI_eq, lN_leI, lN_ltI, lN_eqI, nI_m1, m1_nI, i_modN, lN_modN, nI_64, lN_32, if_pos, if_neg, ↓reduceIte, if_true, if_false, Nat.reduceEqDiff]
      · simp (disch := omega) only [aM1, t0, h4, m2, nI_lit, lN_lit, nI_add, pk_mul, lN_add, lN_mul, Option.bind_some, nI_leI, nI_ltI, nI_eq, lN_leI, lN_ltI, lN_eqI, nI_m1, m1_nI, i_modN, lN_modN, nI_64, lN_32, if_pos, if_neg, ↓reduceIte, if_true, if_false, Nat.reduceEqDiff]
      · simp (disch := omega) only [aM1, t0, h4, nI_lit, lN_lit, nI_add, pk_mul, lN_add, lN_mul, Option.bind_some, nI_leI, nI_ltI, nI_eq, lN_leI, lN_ltI, lN_eqI, nI_m1, m1_nI, i_modN, lN_modN, nI_64, lN_32, if_pos, if_neg, ↓reduceIte, if_true, if_false, Nat.reduceEqDiff]
    · have hbb : b < T 0 1 := by omega
      have ee := ih (b + 1) (by omega) (by omega)
      rw [rbS_s, sumN_s, sumN_s] at ee
      have g1 := he b hbb
      have g2 := hr b hbb
      have b1 := hb1 b
      have b2 := hb2 b
      by_cases h5 : r b = 0
      · have h6 : ¬ rbV r (rbS r b) < r b := by omega
        have h7 : r b ≤ 0 := by omega
        rw [if_neg h6] at ee
        simp (disch := omega) only [aM1, aM28, aM29, t0, g1, g2, lg_le, h7, nI_lit, lN_lit, nI_add, pk_mul, lN_add, lN_mul, Option.bind_some, nI_leI, nI_ltI, nI_eq, lN_leI, lN_ltI, lN_eqI, nI_m1, m1_nI, i_modN, lN_modN, nI_64, lN_32, if_pos, if_neg, ↓reduceIte, if_true, if_false]
        exact ee
      · have h7 : ¬ r b ≤ 0 := by omega
        cases hc : rbS r b with
        | none =>
          rw [hc] at ee
          have h6 : rbV r none < r b := by show 0 < r b; omega
          rw [if_pos h6] at ee
          simp (disch := omega) only [aM1, aM28, aM29, t0, g1, g2, lg_le, h7, oI_none, nI_lit, lN_lit, nI_add, pk_mul, lN_add, lN_mul, Option.bind_some, nI_leI, nI_ltI, nI_eq, lN_leI, lN_ltI, lN_eqI, nI_m1, m1_nI, i_modN, lN_modN, nI_64, lN_32, if_pos, if_neg, ↓reduceIte, if_true, if_false]
          exact ee
        | some c =>
          have hc1 := rbS_lt hc
          have g3 := hr c (by omega)
          have b3 := hb2 c
          rw [hc] at ee
          have h8 : rbV r (some c) = r c := rfl
          rw [h8] at ee
          by_cases h9 : r c < r b
          · have h10 : ¬ r b ≤ r c := by omega
            rw [if_pos h9] at ee
            simp (disch := omega) only [aM1, aM28, aM29, t0, g1, g2, g3, lg_le, h7, h10, oI_some, nI_lit, lN_lit, nI_add, pk_mul, lN_add, lN_mul, Option.bind_some, nI_leI, nI_ltI, nI_eq, lN_leI, lN_ltI, lN_eqI, nI_m1, m1_nI, i_modN, lN_modN, nI_64, lN_32, if_pos, if_neg, ↓reduceIte, if_true, if_false]
            exact ee
          · have h10 : r b ≤ r c := by omega
            rw [if_neg h9] at ee
            simp (disch := omega) only [aM1, aM28, aM29, t0, g1, g2, g3, lg_le, h7, h10, oI_some, nI_lit, lN_lit, nI_add, pk_mul, lN_add, lN_mul, Option.bind_some, nI_leI, nI_ltI, nI_eq, lN_leI, lN_ltI, lN_eqI, nI_m1, m1_nI, i_modN, lN_modN, nI_64, lN_32, if_pos, if_neg, ↓reduceIte, if_true, if_false]
            exact ee
theorem o_moves (p x : Int32) (h : RR T N P S u v) : SQ (X11_moves p x u) (X12_moves p x v) u v := by
  have hV := h.d.t; have hVN := h.d.n; have hnp := hV.np; have hnb := hV.nb
  unfold X11_moves X12_moves X12_moves_b20
  rcases i_cases p (T 0 0) (by omega) with ⟨p, hp, rfl⟩ | hl
  · have e0 := q_isPerson hV h.c.t hp
    have f0 := m_isPerson hV h.m.t hp
    obtain ⟨u1, g1, g2, g3⟩ := q_weigh hV hVN h.c.t h.c.n hp
    have hT1 := RT_sX h.c.t g2
    have e1 := q_allOf (r := 151) (g := exS T N p) hV hT1 (by decide) (fun b hb => ⟨(g3 b hb).1, exS_le hV hVN⟩)
    have e2 := q_allOf (r := 152) (g := rmS T N p) hV hT1 (by decide) (fun b hb => ⟨(g3 b hb).2, by have := rmS_le (N := N) (p := p) (b := b) hV; omega⟩)
    have e3 := q_best_l (g := rmS T N p) hV hT1 (fun b hb => (g3 b hb).2) (fun b => rmS_le hV) fz 0 (Nat.zero_le _) (fz_lt (by omega))
    have s1 : sumN (exS T N p) (T 0 1) ≤ T 0 1 * 2400000000 := sumN_max (fun i _ => exS_le hV hVN)
    have s2 : sumN (rmS T N p) (T 0 1) ≤ T 0 1 * 100000000 := sumN_max (fun i _ => rmS_le hV)
    have m1 : mxJ (lN 0) (lN (sumN (exS T N p) (T 0 1)) - lN (sumN (rmS T N p) (T 0 1))) = lN (sumN (exS T N p) (T 0 1) - sumN (rmS T N p) (T 0 1)) := mxJ_sub (by omega) (by omega)
    have m2 : mnJ (lN (sumN (exS T N p) (T 0 1))) (lN (sumN (rmS T N p) (T 0 1))) = lN (min (sumN (exS T N p) (T 0 1)) (sumN (rmS T N p) (T 0 1))) := mnJ_N (by omega) (by omega)
    rcases i_cases x 3 (by omega) with ⟨w, hw, rfl⟩ | hx
    · have k0 := isIn_l (v := v) (show w ≤ 2 by omega) (by omega)
      obtain ⟨v1, d1, d2, d3⟩ := m_lays hV hVN (h.m.mvw hV) hp
      have d4 := m_mv_l (w := w) (e := exS T N p) (r := rmS T N p) hw hV ((h.m.mvw hV).mv d2).t (fun b hb => (d3 b hb).1) (fun b hb => (d3 b hb).2) (fun b => exS_le hV hVN) (fun b => rmS_le hV) fz 0 (Nat.zero_le _) (fz_lt (by omega))
      refine ⟨(if w = 0 then lN (sumN (exS T N p) (T 0 1) - sumN (rmS T N p) (T 0 1)) else if w = 1 then lN (min (sumN (exS T N p) (T 0 1)) (sumN (rmS T N p) (T 0 1))) else (oI (rbS (rmS T N p) (T 0 1))).toInt64), u1, v1, ?_, ?_, g2, d2⟩
      rotate_left
      · have k1 : X12_isIn v (nI w).toInt64 0 2 = some (nI 1) := isIn_k (u := v) (n := 2) (by omega) (by omega)
        rw [f0, Option.bind_some, if_neg n10, k1, Option.bind_some, if_neg n10, d1, Option.bind_some]
        exact d4
      · have e3' : X6_roomiest u1 = some (oI (rbS (rmS T N p) (T 0 1))) := e3
        rcases (show w = 0 ∨ w = 1 ∨ w = 2 by omega) with rfl | rfl | rfl
        · simp (disch := omega) only [e0, g1, e1, e2, m1, nI_lit, lN_lit, nI_add, pk_mul, lN_add, lN_mul, Option.bind_some, nI_leI, nI_ltI, nI_eq, lN_leI, lN_ltI, lN_eqI, nI_m1, m1_nI, i_modN, lN_modN, nI_64, lN_32, if_pos, if_neg, ↓reduceIte, if_true, if_false, Nat.reduceEqDiff]
        · simp (disch := omega) only [e0, g1, e1, e2, m2, nI_lit, lN_lit, nI_add, pk_mul, lN_add, lN_mul, Option.bind_some, nI_leI, nI_ltI, nI_eq, lN_leI, lN_ltI, lN_eqI, nI_m1, m1_nI, i_modN, lN_modN, nI_64, lN_32, if_pos, if_neg, ↓reduceIte, if_true, if_false, Nat.reduceEqDiff]
        · simp (disch := omega) only [e0, g1, e1, e2, e3', nI_lit, lN_lit, nI_add, pk_mul, lN_add, lN_mul, Option.bind_some, nI_leI, nI_ltI, nI_eq, lN_leI, lN_ltI, lN_eqI, nI_m1, m1_nI, i_modN, lN_modN, nI_64, lN_32, if_pos, if_neg, ↓reduceIte, if_true, if_false, Nat.reduceEqDiff]
    · have k0 := isIn_o (u := v) (n := 2) hx (by omega)
      have w0 := i_out hx (show 0 < 3 by omega) (by omega)
      have w1 := i_out hx (show 1 < 3 by omega) (by omega)
      have w2 := i_out hx (show 2 < 3 by omega) (by omega)
      refine ⟨-lN 1, u1, v, ?_, ?_, g2, off_rf⟩
      · simp (disch := omega) only [e0, g1, e1, e2, w0, w1, w2, nI_lit, lN_lit, nI_add, pk_mul, lN_add, lN_mul, Option.bind_some, nI_leI, nI_ltI, nI_eq, lN_leI, lN_ltI, lN_eqI, nI_m1, m1_nI, i_modN, lN_modN, nI_64, lN_32, if_pos, if_neg, ↓reduceIte, if_true, if_false, Nat.reduceEqDiff]
      · simp (disch := omega) only [f0, k0, nI_lit, lN_lit, nI_add, pk_mul, lN_add, lN_mul, Option.bind_some, nI_leI, nI_ltI, nI_eq, lN_leI, lN_ltI, lN_eqI, nI_m1, m1_nI, i_modN, lN_modN, nI_64, lN_32, if_pos, if_neg, ↓reduceIte, if_true, if_false, Nat.reduceEqDiff]
  · rw [q_isPersonF h.c.t hl, m_isPersonF hV h.m.t hl]
    exact SQ.p rfl rfl
end MP
