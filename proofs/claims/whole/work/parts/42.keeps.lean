/-! the model: what is laid aside, and kept -/
section KS
variable {T : gT} {N : gN} {P : List gN} {S : gS} {u v : gM}
theorem m_aside_l {u0 : gM} : ∀ (f k : Nat) (u : gM), k ≤ 439 → 439 - k < f → off (fun c => c = 18) u0 u → (∀ i, i < k → u.1 18 i = u0.1 16 i) → ∃ u', X12_laysAside_l2 f (nI k) u = some u' ∧ off (fun c => c = 18) u0 u' ∧ ∀ i, i < 439 → u'.1 18 i = u0.1 16 i := by
  intro f
  induction f with
  | zero => intro k u h1 h2; omega
  | succ f ih =>
    intro k u h1 h2 ho hq
    unfold X12_laysAside_l2 X12_laysAside_b2
    by_cases h4 : k = 439
    · subst h4
      refine ⟨u, ?_, ho, hq⟩
      rw [nI_lit, if_pos (Int32.le_refl _)]
    · have hz : ¬ (439 : Int32) ≤ nI k := by rw [nI_lit, nI_leI (by omega) (by omega)]; omega
      have e16 := (ho 16 (by intro z; have z1 : 16 = 18 := z; omega)).1
      have e1 : aI skM u 16 (nI k) = some (u0.1 16 k) := by rw [aM16 (by omega), e16]
      obtain ⟨u', e2, o2, q2⟩ := ih (k + 1) (upI u 18 k (u0.1 16 k)) (by omega) (by omega) (off_tr ho (fun c hc => ⟨by rw [upI_k (show c ≠ 18 from hc)], by rw [upI_2]⟩)) (fun i hi => by
        by_cases z : i = k
        · subst z; rw [upI_at]
        · rw [upI_j z]; exact hq i (by omega))
      refine ⟨u', ?_, o2, q2⟩
      rw [if_neg hz, bnd e1, bnd (sM18 (show k < 439 by omega)), nI_s]
      exact e2
theorem m_aside : ∃ v', X12_laysAside v = some v' ∧ off (fun c => c = 18) v v' ∧ ∀ i, i < 439 → v'.1 18 i = v.1 16 i := by
  obtain ⟨v', e, h⟩ := m_aside_l (u0 := v) fz 0 v (Nat.zero_le _) (fz_lt (by omega)) off_rf (fun i hi => by omega)
  exact ⟨v', e, h⟩
theorem m_keep_l {p : Nat} {u0 : gM} (hp : p ≤ 5) (h17 : u0.1 0 17 = nI p) : ∀ (f k : Nat) (u : gM), k ≤ 439 → 439 - k < f → off (fun c => c = 17) u0 u → (∀ i, i < k → u.1 17 (439 * p + i) = u0.1 18 i) → (∀ i, i < 439 * p → u.1 17 i = u0.1 17 i) → ∃ u', X12_keeps_l52 f (nI k) u = some (upI u' 0 17 (nI (p + 1))) ∧ off (fun c => c = 17) u0 u' ∧ (∀ i, i < 439 → u'.1 17 (439 * p + i) = u0.1 18 i) ∧ ∀ i, i < 439 * p → u'.1 17 i = u0.1 17 i := by
  intro f
  induction f with
  | zero => intro k u h1 h2; omega
  | succ f ih =>
    intro k u h1 h2 ho hq hq2
    unfold X12_keeps_l52 X12_keeps_b52
    have e0 := (ho 0 (by intro z; have z1 : 0 = 17 := z; omega)).1
    by_cases h4 : k = 439
    · subst h4
      refine ⟨u, ?_, ho, hq, hq2⟩
      rw [nI_lit, if_pos (Int32.le_refl _), e0, h17, nI_lit, nI_add]
    · have hz : ¬ (439 : Int32) ≤ nI k := by rw [nI_lit, nI_leI (by omega) (by omega)]; omega
      have e18 := (ho 18 (by intro z; have z1 : 18 = 17 := z; omega)).1
      have e1 : aI skM u 18 (nI k) = some (u0.1 18 k) := by rw [aM18 (by omega), e18]
      have e3 : (439 * u.1 0 17 + nI k : Int32) = nI (439 * p + k) := by rw [e0, h17, nI_lit, pk_mul, nI_add]
      obtain ⟨u', e2, o2, q2⟩ := ih (k + 1) (upI u 17 (439 * p + k) (u0.1 18 k)) (by omega) (by omega) (off_tr ho (fun c hc => ⟨by rw [upI_k (show c ≠ 17 from hc)], by rw [upI_2]⟩)) (fun i hi => by
        by_cases z : i = k
        · subst z; rw [upI_at]
        · rw [upI_j (by omega)]; exact hq i (by omega)) (fun i hi => by rw [upI_j (by omega)]; exact hq2 i hi)
      refine ⟨u', ?_, o2, q2⟩
      rw [if_neg hz, bnd e1, e3, bnd (sM17 (show 439 * p + k < 2634 by omega)), nI_s]
      exact e2
theorem m_shift_l {u0 : gM} (h17 : u0.1 0 17 = nI 6) : ∀ (f k : Nat) (u : gM), k ≤ 2195 → 2195 - k < f → off (fun c => c = 17) u0 u → (∀ i, i < k → u.1 17 i = u0.1 17 (i + 439)) → (∀ i, k ≤ i → u.1 17 i = u0.1 17 i) → ∃ u', X12_keeps_l11 f (nI k) u = X12_keeps_b50 (upI u' 0 17 (nI 5)) ∧ off (fun c => c = 17) u0 u' ∧ (∀ i, i < 2195 → u'.1 17 i = u0.1 17 (i + 439)) := by
  intro f
  induction f with
  | zero => intro k u h1 h2; omega
  | succ f ih =>
    intro k u h1 h2 ho hq hq2
    unfold X12_keeps_l11 X12_keeps_b11
    have e0 := (ho 0 (by intro z; have z1 : 0 = 17 := z; omega)).1
    by_cases h4 : k = 2195
    · subst h4
      refine ⟨u, ?_, ho, hq⟩
      rw [nI_lit, if_pos (Int32.le_refl _), e0, h17, nI_lit, nI_sub1 (by omega)]
    · have hz : ¬ (2195 : Int32) ≤ nI k := by rw [nI_lit, nI_leI (by omega) (by omega)]; omega
      have e1 : aI skM u 17 (nI k + 439) = some (u0.1 17 (k + 439)) := by
        rw [show (nI k + 439 : Int32) = nI (k + 439) by rw [nI_lit, nI_add], aM17 (by omega), hq2 _ (by omega)]
      obtain ⟨u', e2, o2, q2⟩ := ih (k + 1) (upI u 17 k (u0.1 17 (k + 439))) (by omega) (by omega) (off_tr ho (fun c hc => ⟨by rw [upI_k (show c ≠ 17 from hc)], by rw [upI_2]⟩)) (fun i hi => by
        by_cases z : i = k
        · subst z; rw [upI_at]
        · rw [upI_j z]; exact hq i (by omega)) (fun i hi => by rw [upI_j (by omega)]; exact hq2 i (by omega))
      refine ⟨u', ?_, o2, q2⟩
      rw [if_neg hz, bnd e1, bnd (sM17 (show k < 2634 by omega)), nI_s]
      exact e2
/-- what the model keeps: as the list grows at its head, six at most -/
theorem m_keeps {M : gN} (hV : VT T) (hP : P.length ≤ 6) (h17 : v.1 0 17 = nI P.length) (hM : RNm (v.1 18) T M) (hp : ∀ j Q, P[j]? = some Q → RNm (fun i => v.1 17 (439 * (P.length - 1 - j) + i)) T Q) : ∃ v', X12_keeps v = some v' ∧ (∀ c, 1 ≤ c → c ≠ 17 → v'.1 c = v.1 c ∧ v'.2 c = v.2 c) ∧ (∀ i, i ≠ 17 → v'.1 0 i = v.1 0 i) ∧ v'.1 0 17 = nI ((M :: P).take 6).length ∧ ∀ j Q, ((M :: P).take 6)[j]? = some Q → RNm (fun i => v'.1 17 (439 * (((M :: P).take 6).length - 1 - j) + i)) T Q := by
  by_cases h6 : P.length = 6
  · rw [h6] at h17
    obtain ⟨v1, e1, o1, q1⟩ := m_shift_l h17 fz 0 v (by omega) (fz_lt (by omega)) off_rf (fun i hi => by omega) (fun i _ => rfl)
    obtain ⟨v2, e2, o2, q2, q3⟩ := m_keep_l (p := 5) (u0 := upI v1 0 17 (nI 5)) (by omega) (by rw [upI_at]) fz 0 _ (by omega) (fz_lt (by omega)) off_rf (fun i hi => by omega) (fun i _ => rfl)
    have hl : ((M :: P).take 6).length = 6 := by rw [List.length_take, List.length_cons]; omega
    refine ⟨upI v2 0 17 (nI 6), ?_, fun c c1 c2 => ?_, fun i hi => ?_, by rw [upI_at, hl], fun j Q hj => ?_⟩
    · unfold X12_keeps
      rw [if_pos (show v.1 0 17 = 6 from h17)]
      exact e1.trans e2
    · have a1 := o2 c c2
      have a2 := o1 c c2
      exact ⟨by rw [upI_k (by omega), a1.1, upI_k (by omega), a2.1], by rw [upI_2, a1.2, upI_2, a2.2]⟩
    · rw [upI_j hi, (o2 0 (by intro z; have z1 : 0 = 17 := z; omega)).1, upI_j hi, (o1 0 (by intro z; have z1 : 0 = 17 := z; omega)).1]
    · have hj6 := get_lt hj
      rw [hl] at hj6 ⊢
      rw [List.getElem?_take, if_pos (by omega)] at hj
      cases j with
      | zero =>
        have hq : M = Q := Option.some.inj hj
        subst hq
        refine RNm_cg hV hM (fun i hi => ?_)
        rw [upI_k (by omega), show 439 * (6 - 1 - 0) + i = 439 * 5 + i by omega, q2 i hi, upI_k (by omega), (o1 18 (by intro z; have z1 : 18 = 17 := z; omega)).1]
      | succ j =>
        have hq : P[j]? = some Q := hj
        refine RNm_cg hV (hp j Q hq) (fun i hi => ?_)
        rw [upI_k (by omega), q3 _ (by omega), upI_k (by omega), q1 _ (by omega), h6]
        rw [show 439 * (6 - 1 - (j + 1)) + i + 439 = 439 * (6 - 1 - j) + i by omega]
  · obtain ⟨v2, e2, o2, q2, q3⟩ := m_keep_l (p := P.length) (u0 := v) (by omega) h17 fz 0 v (by omega) (fz_lt (by omega)) off_rf (fun i hi => by omega) (fun i _ => rfl)
    have hl : ((M :: P).take 6).length = P.length + 1 := by rw [List.length_take, List.length_cons]; omega
    refine ⟨upI v2 0 17 (nI (P.length + 1)), ?_, fun c c1 c2 => ?_, fun i hi => ?_, by rw [upI_at, hl], fun j Q hj => ?_⟩
    · unfold X12_keeps
      rw [if_neg (by rw [h17, nI_lit, nI_eq (by omega) (by omega)]; exact h6)]
      exact e2
    · have a1 := o2 c c2
      exact ⟨by rw [upI_k (by omega), a1.1], by rw [upI_2, a1.2]⟩
    · rw [upI_j hi, (o2 0 (by intro z; have z1 : 0 = 17 := z; omega)).1]
    · have hj6 := get_lt hj
      rw [hl] at hj6 ⊢
      rw [List.getElem?_take, if_pos (by omega)] at hj
      cases j with
      | zero =>
        have hq : M = Q := Option.some.inj hj
        subst hq
        refine RNm_cg hV hM (fun i hi => ?_)
        rw [upI_k (by omega), show 439 * (P.length + 1 - 1 - 0) + i = 439 * P.length + i by omega, q2 i hi]
      | succ j =>
        have hq : P[j]? = some Q := hj
        refine RNm_cg hV (hp j Q hq) (fun i hi => ?_)
        rw [upI_k (by omega), show 439 * (P.length + 1 - 1 - (j + 1)) + i = 439 * (P.length - 1 - j) + i by omega, q3 _ (by omega)]
end KS
