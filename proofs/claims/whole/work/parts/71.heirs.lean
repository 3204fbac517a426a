/-! LINES: an ACCOUNT's HEIRS -/
def HRn (D : gT) (m : Nat) (H : Nat → Nat) (u v : gM) : Prop := (u.1 126 (D 0 2) = nI m) ∧ (∀ j, j < m → u.2 128 (D 0 2 * 6 + j) = lN (H j)) ∧ (v.1 9 (24 + D 0 2) = nI m) ∧ (∀ j, j < m → v.2 10 (6 * (24 + D 0 2) + j) = lN (cv (H j))) ∧ (∀ j, j < m → 0 < H j ∧ H j < 27 ^ 8)
theorem HRn.c {D : gT} {m : Nat} {H : Nat → Nat} {u v : gM} (h : HRn D m H u v) : u.1 126 (D 0 2) = nI m := h.1
theorem HRn.w {D : gT} {m : Nat} {H : Nat → Nat} {u v : gM} (h : HRn D m H u v) : ∀ j, j < m → u.2 128 (D 0 2 * 6 + j) = lN (H j) := h.2.1
theorem HRn.x {D : gT} {m : Nat} {H : Nat → Nat} {u v : gM} (h : HRn D m H u v) : v.1 9 (24 + D 0 2) = nI m := h.2.2.1
theorem HRn.y {D : gT} {m : Nat} {H : Nat → Nat} {u v : gM} (h : HRn D m H u v) : ∀ j, j < m → v.2 10 (6 * (24 + D 0 2) + j) = lN (cv (H j)) := h.2.2.2.1
theorem HRn.r {D : gT} {m : Nat} {H : Nat → Nat} {u v : gM} (h : HRn D m H u v) : ∀ j, j < m → 0 < H j ∧ H j < 27 ^ 8 := h.2.2.2.2
def hO (u u' : gM) : Prop := ∀ c : Nat, c ≠ 1 → c ≠ 126 → c ≠ 128 → u'.1 c = u.1 c ∧ u'.2 c = u.2 c
def hM (v v' : gM) : Prop := ∀ c : Nat, c ≠ 0 → c ≠ 9 → c ≠ 10 → v'.1 c = v.1 c ∧ v'.2 c = v.2 c
section HRS
variable {u0 v0 u v u1 v1 u' v' : gM} {s : tpT} {t t1 : tkT} {D : gT} {m w : Nat} {H : Nat → Nat}
theorem hO.tr {w : gM} (h : hO u u') (h2 : hO u' w) : hO u w := fun c a b d => ⟨(h2 c a b d).1.trans (h c a b d).1, (h2 c a b d).2.trans (h c a b d).2⟩
theorem hM.tr {w : gM} (h : hM v v') (h2 : hM v' w) : hM v w := fun c a b d => ⟨(h2 c a b d).1.trans (h c a b d).1, (h2 c a b d).2.trans (h c a b d).2⟩
theorem c_heir_l (hm : m ≤ 6) (ha : D 0 2 < 24) (h : HRn D m H u v) (hw : w < 27 ^ 8) : ∀ (f k : Nat), k ≤ m → m - k < f → X10_hasHeir_l9 u f 117 (nI (D 0 2)) (lN w) (nI (D 0 2 * 6)) (nI k) = some (b2 (fstN (fun j => H j = w) k (m - k) ≠ none)) := by
  intro f
  induction f with
  | zero => intro k h1 h2; omega
  | succ f ih =>
    intro k h1 h2
    unfold X10_hasHeir_l9 X10_hasHeir_b9
    rw [if_pos TOk_117.o, TOk_117.f14, TOk_117.f16, bnd (aC126 ha), h.c]
    by_cases h4 : k = m
    · rw [h4, if_pos (Int32.le_refl _), Nat.sub_self]
      rfl
    · have hk : k < m := by omega
      have hr := nm62 (h.r k hk).2
      have hw2 := nm62 hw
      rw [if_neg (show ¬ nI m ≤ nI k by rw [nI_leI (by omega) (by omega)]; omega), nI_add, bnd (aC128 (show D 0 2 * 6 + k < 144 by omega)), h.w k hk]
      have e := ih (k + 1) (by omega) (by omega)
      rw [show m - k = (m - (k + 1)) + 1 by omega]
      have hs : fstN (fun j => H j = w) k (m - (k + 1) + 1) = if H k = w then some k else fstN (fun j => H j = w) (k + 1) (m - (k + 1)) := rfl
      rw [hs]
      by_cases h5 : H k = w
      · rw [if_pos (show lg_cmp (lN (H k)) (lN w) = 0 by rw [nI_lit, lg_eq, h5]), if_pos h5, b2_t (by simp)]
        rfl
      · rw [if_neg (show ¬ lg_cmp (lN (H k)) (lN w) = 0 by rw [nI_lit, lg_eq, lN_eqI (by omega) (by omega)]; exact h5), if_neg h5, nI_s]
        exact e
theorem c_heir (hm : m ≤ 6) (ha : D 0 2 < 24) (h : HRn D m H u v) (hw : w < 27 ^ 8) : X10_hasHeir u 117 (nI (D 0 2)) (lN w) = some (b2 (fstN (fun j => H j = w) 0 m ≠ none)) := by
  unfold X10_hasHeir
  rw [show (nI (D 0 2) * 6 : Int32) = nI (D 0 2 * 6) by rw [nI_lit, pk_mul]]
  exact c_heir_l hm ha h hw fz 0 (Nat.zero_le _) (fz_lt (by omega))
theorem HRn.mv (h : HRn D m H u v) (c1 : u1.1 126 = u.1 126) (c2 : u1.2 128 = u.2 128) (c3 : v1.1 9 = v.1 9) (c4 : v1.2 10 = v.2 10) : HRn D m H u1 v1 :=
  ⟨by rw [c1]; exact h.c, by rw [c2]; exact h.w, by rw [c3]; exact h.x, by rw [c4]; exact h.y, h.r⟩
theorem HRn.add (h : HRn D m H u v) (hw : 0 < w) (hw2 : w < 27 ^ 8) : HRn D (m + 1) (upN H m w) (upI (upJ u 128 (D 0 2 * 6 + m) (lN w)) 126 (D 0 2) (nI (m + 1))) (upI (upJ v 10 (6 * (24 + D 0 2) + m) (lN (cv w))) 9 (24 + D 0 2) (nI (m + 1))) := by
  refine ⟨upI_at, fun j hj => ?_, upI_at, fun j hj => ?_, fun j hj => ?_⟩
  · rw [upI_2]
    by_cases z : j = m
    · subst z; rw [upJ_at, upN_at]
    · rw [upJ_j (by omega), upN_i z]; exact h.w j (by omega)
  · rw [upI_2]
    by_cases z : j = m
    · subst z; rw [upJ_at, upN_at]
    · rw [upJ_j (by omega), upN_i z]; exact h.y j (by omega)
  · by_cases z : j = m
    · subst z; rw [upN_at]; exact ⟨hw, hw2⟩
    · rw [upN_i z]; exact h.r j (by omega)
theorem b_heirs (hS : TS s) (ha : D 0 2 < 24) : ∀ (f m : Nat) (H : Nat → Nat) (t : tkT) (u v : gM), m ≤ 6 → 7 - m < f → (m = 0 ∨ isNm s.2 t) → BS u0 v0 s t D u v → HRn D m H u v →
    (∃ u1 v1, X0_readHeirs_l2 f (nI (D 0 2)) (nI m) u = some (nI 0, u1) ∧ X12_readHeirs_l0 f (nI (24 + D 0 2)) v = some (nI 0, v1) ∧ BF u0 v0 u1 v1) ∨
    (∃ t' m' H' u1 v1, X0_readHeirs_l2 f (nI (D 0 2)) (nI m) u = some (nI 1, u1) ∧ X12_readHeirs_l0 f (nI (24 + D 0 2)) v = some (nI 1, v1) ∧ m' ≤ 6 ∧ t.2.2 ≤ t'.2.1 ∧ BS u0 v0 s t' D u1 v1 ∧ HRn D m' H' u1 v1 ∧ hO u u1 ∧ hM v v1) := by
  intro f
  induction f with
  | zero => intro m O t u v h1 h2; omega
  | succ f ih =>
    intro m H t u v h1 h2 hg h hH
    have hnm := m_isName h.V hS.l h.m.tk
    have hwl := tnm_lt h.V
    have hhe := c_heir h1 ha hH hwl
    have hpl : X12_placeIn v 10 (6 * nI (24 + D 0 2)) (nI m) (lN (cv (tnm s.2 t))) = some (oI (fstN (fun j => H j = tnm s.2 t) 0 m)) := by
      rw [show (6 * nI (24 + D 0 2) : Int32) = nI (6 * (24 + D 0 2)) by rw [nI_lit, pk_mul]]
      exact m_place (r := 10) (n := 288) rfl (by omega) (by omega) (fun i hi => ⟨hH.y i hi, (hH.r i hi).2⟩) hwl
    have eH : X0_readHeirs_l2 (f + 1) (nI (D 0 2)) (nI m) u = X0_readHeirs_b23 (X0_readHeirs_l2 f) (nI (D 0 2)) (nI m) u := by
      show X0_readHeirs_b2 (X0_readHeirs_l2 f) (nI (D 0 2)) (nI m) u = _
      unfold X0_readHeirs_b2
      rw [if_neg (show ¬ (6 : Int32) < nI m by rw [nI_lit, nI_ltI (by omega) (by omega)]; omega)]
      by_cases z : m = 0
      · rw [if_pos (show nI m = 0 by rw [z]; rfl)]
      · rw [if_neg (show ¬ nI m = 0 by rw [nI_lit, nI_eq (by omega) (by omega)]; exact z), if_pos (h.c.nm.mpr (hg.resolve_left z))]
    rw [eH]
    unfold X0_readHeirs_b23 X12_readHeirs_l0 X12_readHeirs_b0
    rw [bnd hnm]
    by_cases g1 : isNm s.2 t
    · have s1 : u.1 1 3 = 1 := h.c.nm.mpr g1
      rw [if_pos s1, h.c.tk.n, bnd hhe, b2_t g1, if_neg n10, bnd (aM9 (show 24 + D 0 2 < 48 by omega)), hH.x, h.m.tk.w, bnd hpl]
      cases hf : fstN (fun j => H j = tnm s.2 t) 0 m with
      | some j =>
        have hj := fst_lt (P := fun j => H j = tnm s.2 t) hf
        obtain ⟨u1, c1, d1, oo⟩ := c_ref (k := 3) h.c
        obtain ⟨v1, c2, d2, om⟩ := m_ref (k := 3) h.m
        refine Or.inl ⟨u1, v1, ?_, ?_, h.no hS (by omega) d1 oo d2 om⟩
        · rw [b2_t (by simp), if_neg n10]
          exact c1
        · rw [if_neg (show ¬ oI (some j) = -1 from (nI_m1 (show j < 2 ^ 31 by omega)).mp)]
          exact c2
      | none =>
        rw [b2_f (show ¬ (none : Option Nat) ≠ none from fun z => z rfl), if_pos z00, if_pos (show oI none = -1 from rfl), bnd (aM9 (show 24 + D 0 2 < 48 by omega)), hH.x]
        by_cases h3 : m < 6
        · have fm10 : FRJ D 10 (6 * (24 + D 0 2) + m) := ⟨by omega, by omega, by omega, by omega, by omega⟩
          have fm9 : FRI D 9 (24 + D 0 2) := ⟨by omega, by omega, by omega, by omega, by omega⟩
          have fc128 : FCJ D 128 (D 0 2 * 6 + m) := ⟨by omega, by omega, by omega, by omega, by omega⟩
          have fc126 : FCI D 126 (D 0 2) := ⟨by omega, by omega, by omega, by omega⟩
          have hB0 := (((h.mJ (x := lN (cv (tnm s.2 t))) fm10).mI (x := nI (m + 1)) fm9).cJ (x := lN (tnm s.2 t)) fc128).cI (x := nI (m + 1)) fc126
          obtain ⟨u2, v2, e1, e2, hB2, oc2, om2⟩ := b_step hS hB0
          have hA := hH.add (tnm_pos h.V g1.1) hwl
          have hA2 : HRn D (m + 1) (upN H m (tnm s.2 t)) u2 v2 := hA.mv (oc2 126 (by omega)).1 (oc2 128 (by omega)).2 (om2.o 9 (by omega)).1 (om2.o 10 (by omega)).2
          have fOx : hO u u2 := fun c a b d => ⟨by rw [(oc2 c a).1, upI_k b, upJ_1], by rw [(oc2 c a).2, upI_2, upJ_k d]⟩
          have fMx : hM v v2 := fun c a b d => ⟨by rw [(om2.o c a).1, upI_k b, upJ_1], by rw [(om2.o c a).2, upI_2, upJ_k d]⟩
          have addH : X10_addHeir 117 (nI (D 0 2)) (lN (tnm s.2 t)) u = some (upI (upJ u 128 (D 0 2 * 6 + m) (lN (tnm s.2 t))) 126 (D 0 2) (nI (m + 1))) := by
            unfold X10_addHeir X10_addHeir_b38
            rw [if_pos TOk_117.o, TOk_117.f14, TOk_117.f16, bnd (aC126 ha), hH.c, if_neg (show ¬ (6 : Int32) ≤ nI m by rw [nI_lit, nI_leI (by omega) (by omega)]; omega), show (nI (D 0 2) * 6 + nI m : Int32) = nI (D 0 2 * 6 + m) by rw [nI_lit, pk_mul, nI_add], bnd (sC128 (show D 0 2 * 6 + m < 144 by omega)), nI_s, bnd (sC126 ha)]
          rw [if_neg (show ¬ nI m = 6 by rw [nI_lit, nI_eq (by omega) (by omega)]; omega), bnd addH, bnd e1, nI_s, if_neg (show ¬ nI m = 6 by rw [nI_lit, nI_eq (by omega) (by omega)]; omega), bnd (aM9 (show 24 + D 0 2 < 48 by omega)), hH.x, show (6 * nI (24 + D 0 2) + nI m : Int32) = nI (6 * (24 + D 0 2) + m) by rw [nI_lit, pk_mul, nI_add], bnd (sM10 (show 6 * (24 + D 0 2) + m < 288 by omega)), bnd (aM9 (show 24 + D 0 2 < 48 by omega)), upJ_1, hH.x, nI_s, bnd (sM9 (show 24 + D 0 2 < 48 by omega)), bnd e2, bnd (m_isName hB2.V hS.l hB2.m.tk)]
          by_cases g2 : isNm s.2 (nx s t)
          · rw [b2_t g2, if_neg n10]
            rcases ih (m + 1) (upN H m (tnm s.2 t)) (nx s t) u2 v2 (by omega) (by omega) (Or.inr g2) hB2 hA2 with hF | ⟨t', m', H', u3, v3, c3, d3, m1, tt, hB3, hH3, q1, q2⟩
            · exact Or.inl hF
            · refine Or.inr ⟨t', m', H', u3, v3, c3, d3, m1, ?_, hB3, hH3, fOx.tr q1, fMx.tr q2⟩
              have := (nx_V h.V).2
              have := hB2.V.l
              omega
          · have eE : X0_readHeirs_l2 f (nI (D 0 2)) (nI (m + 1)) u2 = some (nI 1, u2) := by
              obtain ⟨g, hg2⟩ : ∃ g, f = g + 1 := ⟨f - 1, by omega⟩
              rw [hg2]
              show X0_readHeirs_b2 (X0_readHeirs_l2 g) (nI (D 0 2)) (nI (m + 1)) u2 = _
              unfold X0_readHeirs_b2 X0_readHeirs_b109
              rw [if_neg (show ¬ (6 : Int32) < nI (m + 1) by rw [nI_lit, nI_ltI (by omega) (by omega)]; omega), if_neg (show ¬ nI (m + 1) = 0 by rw [nI_lit, nI_eq (by omega) (by omega)]; omega)]
              exact if_neg (fun z => g2 (hB2.c.nm.mp z))
            rw [b2_f g2, if_pos z00]
            exact Or.inr ⟨nx s t, m + 1, upN H m (tnm s.2 t), u2, v2, eE, rfl, by omega, (nx_V h.V).2, hB2, hA2, fOx, fMx⟩
        · obtain ⟨u1, c1, d1, oo⟩ := c_ref (k := 5) h.c
          obtain ⟨v1, c2, d2, om⟩ := m_ref (k := 5) h.m
          refine Or.inl ⟨u1, v1, ?_, ?_, h.no hS (by omega) d1 oo d2 om⟩
          · rw [if_pos (show nI m = 6 by rw [show m = 6 by omega]; rfl)]
            exact c1
          · rw [if_pos (show nI m = 6 by rw [show m = 6 by omega]; rfl)]
            exact c2
    · obtain ⟨u1, c1, d1, oo⟩ := c_ref (k := 1) h.c
      obtain ⟨v1, c2, d2, om⟩ := m_ref (k := 1) h.m
      refine Or.inl ⟨u1, v1, ?_, ?_, h.no hS (by omega) d1 oo d2 om⟩
      · rw [if_neg (fun z => g1 (h.c.nm.mp z))]
        exact c1
      · rw [b2_f g1, if_pos z00]
        exact c2
end HRS
