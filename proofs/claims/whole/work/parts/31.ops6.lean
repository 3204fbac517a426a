/-! rank -/
section O6
variable {T : gT} {N : gN} {P : List gN} {S : gS} {u v : gM}
def rkF (g : Nat → Nat) (p o : Nat) : Nat := if g p < g o ∨ g o = g p ∧ o < p then 1 else 0
def rkS (g : Nat → Nat) (n p : Nat) : Nat := sumN (rkF g p) n
theorem sumN_ne (p : Nat) : ∀ n, sumN (fun o => if o = p then 0 else 1) n + (if p < n then 1 else 0) = n
  | 0 => by simp [sumN]
  | n + 1 => by
    have h := sumN_ne p n
    rw [sumN_s]
    by_cases h1 : n = p
    · subst h1; simp at h ⊢; exact h
    · by_cases h2 : p < n
      · rw [if_pos h2] at h; rw [if_neg h1, if_pos (by omega)]; omega
      · rw [if_neg h2] at h; rw [if_neg h1, if_neg (by omega)]; omega
theorem rkS_lt {g : Nat → Nat} {n p : Nat} (h : p < n) : rkS g n p < n := by
  have h1 : rkS g n p ≤ sumN (fun o => if o = p then 0 else 1) n := by
    refine sumN_le (fun o _ => ?_)
    unfold rkF
    by_cases h2 : o = p
    · subst h2; rw [if_neg (by omega)]; omega
    · rw [if_neg h2]; split <;> omega
  have h2 := sumN_ne p n
  rw [if_pos h] at h2
  omega
theorem opnS_le {p m : Nat} (hV : VT T) (hVN : VN T N) : opnS T N p m ≤ 2400000000 := by
  have := shaS_le (p := p) hV hVN (Nat.le_refl (T 0 2))
  unfold opnS shaS
  omega
theorem q_rk_l {p m : Nat} (hV : VT T) (hVN : VN T N) (hT : RT 3 T u) (hN : RN 18 T N u) (hp : p < T 0 0) (hi : ∀ a k, a < T 0 2 → k < T 5 a → u.1 137 (a * 4 + k) = nI (insS T N m a k)) : ∀ (f o : Nat), o ≤ T 0 0 → T 0 0 - o < f → X11_rankOf_l15 u f (nI p) (lN (opnS T N p m)) (nI (sumN (rkF (fun p => opnS T N p m) p) o)) (nI o) = some (nI (rkS (fun p => opnS T N p m) (T 0 0) p)) := by
  have hnp := hV.np
  intro f
  induction f with
  | zero => intro o h1 h2; omega
  | succ f ih =>
    intro o h1 h3
    unfold X11_rankOf_l15 X11_rankOf_b15 X11_rankOf_b58 X11_rankOf_b61
    by_cases h4 : o = T 0 0
    · rw [hT.np, h4, if_pos (Int32.le_refl _)]
      rfl
    · have ho : o < T 0 0 := by omega
      have e := ih (o + 1) (by omega) (by omega)
      rw [sumN_s] at e
      have h5 := q_openOf hV hVN hT hN ho hi
      have b1 := opnS_le (p := o) (m := m) hV hVN
      have b2 := opnS_le (p := p) (m := m) hV hVN
      by_cases g1 : opnS T N p m < opnS T N o m
      · have h8 : rkF (fun p => opnS T N p m) p o = 1 := if_pos (Or.inl g1)
        rw [h8] at e
        simp (disch := omega) only [hT.np, h5, lg_gt, lg_eq, g1, nI_lit, lN_lit, nI_add, pk_mul, lN_add, lN_mul, Option.bind_some, nI_leI, nI_ltI, nI_eq, lN_leI, lN_ltI, lN_eqI, nI_m1, m1_nI, i_modN, lN_modN, nI_64, lN_32, if_pos, if_neg, ↓reduceIte, if_true, if_false]
        exact e
      · by_cases g2 : opnS T N o m = opnS T N p m
        · by_cases g3 : o < p
          · have h8 : rkF (fun p => opnS T N p m) p o = 1 := if_pos (Or.inr ⟨g2, g3⟩)
            rw [h8] at e
            simp (disch := omega) only [hT.np, h5, lg_gt, lg_eq, g2, nI_lit, lN_lit, nI_add, pk_mul, lN_add, lN_mul, Option.bind_some, nI_leI, nI_ltI, nI_eq, lN_leI, lN_ltI, lN_eqI, nI_m1, m1_nI, i_modN, lN_modN, nI_64, lN_32, if_pos, if_neg, ↓reduceIte, if_true, if_false, Nat.lt_irrefl]
            exact e
          · have h8 : rkF (fun p => opnS T N p m) p o = 0 := if_neg (by simp only; omega)
            rw [h8] at e
            simp (disch := omega) only [hT.np, h5, lg_gt, lg_eq, g2, nI_lit, lN_lit, nI_add, pk_mul, lN_add, lN_mul, Option.bind_some, nI_leI, nI_ltI, nI_eq, lN_leI, lN_ltI, lN_eqI, nI_m1, m1_nI, i_modN, lN_modN, nI_64, lN_32, if_pos, if_neg, ↓reduceIte, if_true, if_false, Nat.lt_irrefl]
            exact e
        · have h8 : rkF (fun p => opnS T N p m) p o = 0 := if_neg (by simp only; omega)
          rw [h8] at e
          simp (disch := omega) only [hT.np, h5, lg_gt, lg_eq, g1, g2, nI_lit, lN_lit, nI_add, pk_mul, lN_add, lN_mul, Option.bind_some, nI_leI, nI_ltI, nI_eq, lN_leI, lN_ltI, lN_eqI, nI_m1, m1_nI, i_modN, lN_modN, nI_64, lN_32, if_pos, if_neg, ↓reduceIte, if_true, if_false]
          exact e
theorem q_rk {p m : Nat} (hV : VT T) (hVN : VN T N) (hT : RT 3 T u) (hN : RN 18 T N u) (hp : p < T 0 0) (hi : ∀ a k, a < T 0 2 → k < T 5 a → u.1 137 (a * 4 + k) = nI (insS T N m a k)) : X11_rankOf u (nI p) = some (nI (rkS (fun p => opnS T N p m) (T 0 0) p)) := by
  have hnp := hV.np
  unfold X11_rankOf
  rw [q_openOf hV hVN hT hN hp hi, Option.bind_some, nI_lit]
  exact q_rk_l hV hVN hT hN hp hi fz 0 (Nat.zero_le _) (fz_lt (by omega))
theorem q_rank_l {m : Nat} {x : Int32} {o : Option Nat} (hx : ∀ r, r < T 0 0 → (nI r = x ↔ o = some r)) (hV : VT T) (hVN : VN T N) (hT : RT 3 T u) (hN : RN 18 T N u) (hi : ∀ a k, a < T 0 2 → k < T 5 a → u.1 137 (a * 4 + k) = nI (insS T N m a k)) : ∀ (f p : Nat), p ≤ T 0 0 → T 0 0 - p < f → X11_rank_l16 f x (nI p) u = some (oI (fstN (fun p => o = some (rkS (fun p => opnS T N p m) (T 0 0) p)) p (T 0 0 - p)), u) := by
  have hnp := hV.np
  intro f
  induction f with
  | zero => intro p h1 h2; omega
  | succ f ih =>
    intro p h1 h3
    unfold X11_rank_l16 X11_rank_b16
    by_cases h4 : p = T 0 0
    · subst h4
      rw [hT.np, if_pos (Int32.le_refl _), Nat.sub_self]
      rfl
    · have hp : p < T 0 0 := by omega
      have e := ih (p + 1) (by omega) (by omega)
      have h5 := q_rk hV hVN hT hN hp hi
      have h6 := hx _ (rkS_lt (g := fun p => opnS T N p m) hp)
      rw [show T 0 0 - p = (T 0 0 - (p + 1)) + 1 by omega, fstN]
      by_cases h7 : o = some (rkS (fun p => opnS T N p m) (T 0 0) p)
      · rw [if_pos h7]
        simp (disch := omega) only [hT.np, h5, h6.mpr h7, oI_some, nI_lit, lN_lit, nI_add, pk_mul, lN_add, lN_mul, Option.bind_some, nI_leI, nI_ltI, nI_eq, lN_leI, lN_ltI, lN_eqI, nI_m1, m1_nI, i_modN, lN_modN, nI_64, lN_32, if_pos, if_neg, ↓reduceIte, if_true, if_false]
      · rw [if_neg h7]
        have h8 : ¬ nI (rkS (fun p => opnS T N p m) (T 0 0) p) = x := fun z => h7 (h6.mp z)
        simp (disch := omega) only [hT.np, h5, h8, nI_lit, lN_lit, nI_add, pk_mul, lN_add, lN_mul, Option.bind_some, nI_leI, nI_ltI, nI_eq, lN_leI, lN_ltI, lN_eqI, nI_m1, m1_nI, i_modN, lN_modN, nI_64, lN_32, if_pos, if_neg, ↓reduceIte, if_true, if_false]
        exact e
theorem m_rk_l {p m i x3 : Nat} {k53 : Int32 → Int32 → gM → Option (Int32 × gM)} {g : Nat → Nat} (hV : VT T) (hT : RTm 0 T v) (hp : p < T 0 0) (hi : i < T 0 0) (hg : ∀ q, q < T 0 0 → v.2 30 q = lN (g q) ∧ g q ≤ 2400000000) : ∀ (f o : Nat), o ≤ T 0 0 → T 0 0 - o < f → X12_rank_l68 k53 f (nI i) (nI p) (nI (sumN (rkF g p) o)) (nI o) v = (if rkS g (T 0 0) p = i then some (nI p, v) else k53 (nI i) (nI (p + 1)) v) := by
  have hnp := hV.np
  have t0 := hT.np; simp only [Nat.mul_zero, Nat.zero_add] at t0
  intro f
  induction f with
  | zero => intro o h1 h2; omega
  | succ f ih =>
    intro o h1 h3
    unfold X12_rank_l68 X12_rank_b68 X12_rank_b120 X12_rank_b124 X12_rank_b125
    have o1 := m_one (u := v) (1 = 1)
    have o0 := m_one (u := v) (1 = 0)
    rw [b2_t rfl] at o1
    rw [b2_f (by decide)] at o0
    by_cases h4 : o = T 0 0
    · have hlt := rkS_lt (g := g) hp
      have hq : sumN (rkF g p) (T 0 0) = rkS g (T 0 0) p := rfl
      simp (disch := omega) only [aM1, t0, h4, hq, nI_lit, lN_lit, nI_add, pk_mul, lN_add, lN_mul, Option.bind_some, nI_leI, nI_ltI, nI_eq, lN_leI, lN_ltI, lN_eqI, nI_m1, m1_nI, i_modN, lN_modN, nI_64, lN_32, if_pos, if_neg, ↓reduceIte, if_true, if_false]
    · have ho : o < T 0 0 := by omega
      have e := ih (o + 1) (by omega) (by omega)
      rw [sumN_s] at e
      obtain ⟨h5, b1⟩ := hg o ho
      obtain ⟨h6, b2⟩ := hg p hp
      by_cases g1 : g p < g o
      · have h8 : rkF g p o = 1 := if_pos (Or.inl g1)
        rw [h8] at e
        simp (disch := omega) only [aM1, aM30, t0, h5, h6, lg_gt, lg_eq, g1, o1, nI_lit, lN_lit, nI_add, pk_mul, lN_add, lN_mul, Option.bind_some, nI_leI, nI_ltI, nI_eq, lN_leI, lN_ltI, lN_eqI, nI_m1, m1_nI, i_modN, lN_modN, nI_64, lN_32, if_pos, if_neg, ↓reduceIte, if_true, if_false]
        exact e
      · by_cases g2 : g o = g p
        · by_cases g3 : o < p
          · have h8 : rkF g p o = 1 := if_pos (Or.inr ⟨g2, g3⟩)
            rw [h8] at e
            simp (disch := omega) only [aM1, aM30, t0, h5, h6, lg_gt, lg_eq, g2, o1, nI_lit, lN_lit, nI_add, pk_mul, lN_add, lN_mul, Option.bind_some, nI_leI, nI_ltI, nI_eq, lN_leI, lN_ltI, lN_eqI, nI_m1, m1_nI, i_modN, lN_modN, nI_64, lN_32, if_pos, if_neg, ↓reduceIte, if_true, if_false, Nat.lt_irrefl]
            exact e
          · have h8 : rkF g p o = 0 := if_neg (by omega)
            rw [h8] at e
            simp (disch := omega) only [aM1, aM30, t0, h5, h6, lg_gt, lg_eq, g2, o0, nI_lit, lN_lit, nI_add, pk_mul, lN_add, lN_mul, Option.bind_some, nI_leI, nI_ltI, nI_eq, lN_leI, lN_ltI, lN_eqI, nI_m1, m1_nI, i_modN, lN_modN, nI_64, lN_32, if_pos, if_neg, ↓reduceIte, if_true, if_false, Nat.lt_irrefl]
            exact e
        · have h8 : rkF g p o = 0 := if_neg (by omega)
          rw [h8] at e
          simp (disch := omega) only [aM1, aM30, t0, h5, h6, lg_gt, lg_eq, g1, g2, o0, nI_lit, lN_lit, nI_add, pk_mul, lN_add, lN_mul, Option.bind_some, nI_leI, nI_ltI, nI_eq, lN_leI, lN_ltI, lN_eqI, nI_m1, m1_nI, i_modN, lN_modN, nI_64, lN_32, if_pos, if_neg, ↓reduceIte, if_true, if_false]
          exact e
theorem m_rk2_l {i : Nat} {g : Nat → Nat} (hV : VT T) (hT : RTm 0 T v) (hi : i < T 0 0) (hg : ∀ q, q < T 0 0 → v.2 30 q = lN (g q) ∧ g q ≤ 2400000000) : ∀ (f p : Nat), p ≤ T 0 0 → T 0 0 - p < f → X12_rank_l53 f (nI i) (nI p) v = some (oI (fstN (fun p => some i = some (rkS g (T 0 0) p)) p (T 0 0 - p)), v) := by
  have hnp := hV.np
  have t0 := hT.np; simp only [Nat.mul_zero, Nat.zero_add] at t0
  intro f
  induction f with
  | zero => intro p h1 h2; omega
  | succ f ih =>
    intro p h1 h3
    unfold X12_rank_l53 X12_rank_b53
    by_cases h4 : p = T 0 0
    · subst h4
      rw [show aI skM v 1 0 = some (nI (T 0 0)) by rw [nI_lit, aM1 (by omega), t0], Option.bind_some, if_pos (Int32.le_refl _), Nat.sub_self]
      rfl
    · have hp : p < T 0 0 := by omega
      have e := ih (p + 1) (by omega) (by omega)
      rw [show T 0 0 - p = (T 0 0 - (p + 1)) + 1 by omega, fstN]
      have e2 := m_rk_l (m := 0) (x3 := 0) (k53 := X12_rank_l53 f) hV hT hp hi hg fz 0 (Nat.zero_le _) (fz_lt (by omega))
      rw [sumN] at e2
      have hc : ¬ nI (T 0 0) ≤ nI p := by rw [nI_leI (by omega) (by omega)]; omega
      rw [show aI skM v 1 0 = some (nI (T 0 0)) by rw [nI_lit, aM1 (by omega), t0], Option.bind_some, if_neg hc, nI_lit, e2]
      by_cases h7 : rkS g (T 0 0) p = i
      · rw [if_pos h7, if_pos (by rw [h7])]
        rfl
      · rw [if_neg h7, if_neg (fun z => h7 (Option.some.inj z).symm)]
        exact e
theorem m_bare_l {i : Nat} {u0 : gM} (hV : VT T) (hVN : VN T N) (hM : MV T N none u0) (hi : i < T 0 0) : ∀ (f p : Nat) (u : gM), p ≤ T 0 0 → T 0 0 - p < f → off sY u0 u → (∀ q, q < p → u.2 30 q = lN (opnS T N q (N.1 0 0))) → ∃ u', X12_rank_l12 f (nI i) (nI p) u = some (oI (fstN (fun p => some i = some (rkS (fun p => opnS T N p (N.1 0 0)) (T 0 0) p)) 0 (T 0 0)), u') ∧ off sY u0 u' := by
  have hnp := hV.np
  have hmo := hVN.mo
  intro f
  induction f with
  | zero => intro p u h1 h2; omega
  | succ f ih =>
    intro p u h1 h3 ho hq
    have hM1 := hM.mv ho
    have t0 := hM1.t.np; simp only [Nat.mul_zero, Nat.zero_add] at t0
    unfold X12_rank_l12 X12_rank_b12
    by_cases h4 : p = T 0 0
    · subst h4
      rw [show aI skM u 1 0 = some (nI (T 0 0)) by rw [nI_lit, aM1 (by omega), t0], Option.bind_some, if_pos (Int32.le_refl _), nI_lit]
      refine ⟨u, ?_, ho⟩
      exact m_rk2_l hV hM1.t hi (fun q h => ⟨hq q h, opnS_le hV hVN⟩) fz 0 (Nat.zero_le _) (fz_lt (by omega))
    · have hp : p < T 0 0 := by omega
      obtain ⟨u1, e1, o1⟩ := m_insuredOf (m := N.1 0 0) hV hVN hM1 (fun _ => hn0) hp (by omega)
      have o1' : off sY u u1 := off_mono o1 (fun c hc => by have z : c = 20 := hc; subst z; exact sYk (by omega))
      have e2 := m_sharesOf hV hVN hM1.t hM1.n hp
      have o3 : off sY u1 (upJ u1 30 p (lN (opnS T N p (N.1 0 0)))) := by
        intro c hc
        have z : ¬ c = 30 := fun z => hc (by subst z; exact sYk (by omega))
        exact ⟨by rw [upJ_1], by rw [upJ_k z]⟩
      have h30 : u1.2 30 = u.2 30 := (o1 30 (by intro z; have z1 : 30 = 20 := z; omega)).2
      obtain ⟨u', e3, o4⟩ := ih (p + 1) (upJ u1 30 p (lN (opnS T N p (N.1 0 0)))) (by omega) (by omega) (off_tr ho (off_tr o1' o3)) (by
        intro q hq2
        by_cases z : q = p
        · subst z; rw [upJ_at]
        · rw [upJ_j z, h30]; exact hq q (by omega))
      refine ⟨u', ?_, o4⟩
      have hs : lN (shaS T N p) - lN (iofS T N none p (N.1 0 0)) = lN (opnS T N p (N.1 0 0)) := lN_sub (iofS_sha hV hVN)
      simp (disch := omega) only [aM1, aM16, t0, e2, hM1.n.mo, e1, hs, sM30, nI_lit, lN_lit, nI_add, pk_mul, lN_add, lN_mul, Option.bind_some, nI_leI, nI_ltI, nI_eq, lN_leI, lN_ltI, lN_eqI, nI_m1, m1_nI, i_modN, lN_modN, nI_64, lN_32, if_pos, if_neg, ↓reduceIte, if_true, if_false]
      exact e3
theorem hx1 (i : Nat) {n : Nat} (hi : i < n) (hn : n < 2 ^ 31) : ∀ r, r < n → (nI r = nI i ↔ some i = some r) := by
  intro r hr
  rw [nI_eq (by omega) (by omega)]
  constructor
  · intro z; rw [z]
  · intro z; exact (Option.some.inj z).symm
theorem o_rank (x : Int32) (h : RR T N P S u v) : SQ (X11_rank x u) (X12_rank x v) u v := by
  have hV := h.d.t; have hVN := h.d.n; have hnp := hV.np
  obtain ⟨u', f1, f2, f3, f4, f5⟩ := q_ins h
  unfold X11_rank X12_rank
  rcases i_cases x (T 0 0) (by omega) with ⟨i, hi, rfl⟩ | hl
  · have e := q_rank_l (m := N.1 0 0) (x := nI i) (o := some i) (hx1 i hi (by omega)) hV hVN f3 f4 f5 fz 0 (Nat.zero_le _) (fz_lt (by omega))
    obtain ⟨v', g1, g2⟩ := m_bare_l hV hVN (h.m.mvw hV) hi fz 0 v (Nat.zero_le _) (fz_lt (by omega)) off_rf (fun q hq => by omega)
    rw [Nat.sub_zero] at e
    refine ⟨oI (fstN (fun p => some i = some (rkS (fun p => opnS T N p (N.1 0 0)) (T 0 0) p)) 0 (T 0 0)), u', v', ?_, ?_, f2, g2⟩
    · rw [f1, Option.bind_some, nI_lit]
      exact e
    · rw [m_isPerson hV h.m.t hi, Option.bind_some, if_neg n10, nI_lit]
      exact g1
  · have e := q_rank_l (m := N.1 0 0) (x := x) (o := none) (fun r hr => ⟨fun z => absurd z.symm (by rw [i_out hl hr (by omega)]; exact id), fun z => by cases z⟩) hV hVN f3 f4 f5 fz 0 (Nat.zero_le _) (fz_lt (by omega))
    refine ⟨-nI 1, u', v, ?_, ?_, f2, off_rf⟩
    · rw [f1, Option.bind_some, nI_lit]
      refine e.trans ?_
      have hz : fstN (fun p => none = some (rkS (fun p => opnS T N p (N.1 0 0)) (T 0 0) p)) 0 (T 0 0 - 0) = none := by
        cases hc : fstN (fun p => none = some (rkS (fun p => opnS T N p (N.1 0 0)) (T 0 0) p)) 0 (T 0 0 - 0) with
        | none => rfl
        | some y => exact absurd (fstN_some hc).2.2 (by simp)
      rw [hz]
      rfl
    · rw [m_isPersonF hV h.m.t hl]
      rfl
end O6
