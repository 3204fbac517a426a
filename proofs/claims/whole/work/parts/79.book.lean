/-! book -/
section BK
variable {T : gT} {N : gN} {P : List gN} {S : gS} {u v u1 v1 v0 : gM} {D : gT}
theorem m_st89 (hD : VT D) : ∀ (f b : Nat) (u : gM), b ≤ 6 → 6 - b < f → off (fun c => c = 16) v u → (∀ a, a < D 0 2 → u.1 16 (1 + a) = nI (D 3 a)) → (∀ l, l < D 0 3 → u.1 16 (25 + l) = nI (D 10 l)) → (∀ i, i = 0 ∨ (47 ≤ i ∧ i < 439) → u.1 16 i = nI 0) → (∀ c, c < b → u.1 16 (35 + c) = -nI 1 ∧ u.1 16 (41 + c) = -nI 1) → ∃ u', X12_starts_l89 f (nI b) u = some (upI u' 0 17 0) ∧ off (fun c => c = 16) v u' ∧ RNm (u'.1 16) D (N0 D) := by
  have hna := hD.na; have hnl := hD.nl
  intro f
  induction f with
  | zero => intro b u h1 h2; omega
  | succ f ih =>
    intro b u h1 h2 ho hc hl hz hm
    unfold X12_starts_l89 X12_starts_b89
    by_cases h4 : b = 6
    · subst h4
      refine ⟨upI u 16 53 (-1), ?_, off_upI (k := 16) rfl ho, ?_⟩
      · rw [if_pos (show (6 : Int32) ≤ nI 6 from Int32.le_refl _), bnd (show sI skM u 16 53 (-1) = some (upI u 16 53 (-1)) from sM16 (a := 53) (by omega))]
      · have g : ∀ i, i ≠ 53 → (upI u 16 53 (-1)).1 16 i = u.1 16 i := fun i hi => by rw [upI_j hi]
        refine ⟨by rw [g _ (by omega)]; exact hz 0 (Or.inl rfl), fun a ha => by rw [g _ (by omega)]; exact hc a ha, fun l hll => by rw [g _ (by omega)]; exact hl l hll, fun b hb => by rw [g _ (by omega)]; exact (hm b hb).1, fun b hb => by rw [g _ (by omega)]; exact (hm b hb).2, fun b hb => by rw [g _ (by omega)]; exact hz _ (Or.inr ⟨by omega, by omega⟩), by rw [upI_at]; rfl, fun z => absurd rfl z, fun z => absurd rfl z, fun z => absurd rfl z, fun z => absurd rfl z, fun z => absurd rfl z⟩
    · have hz2 : ¬ (6 : Int32) ≤ nI b := by rw [nI_lit, nI_leI (by omega) (by omega)]; omega
      obtain ⟨u', e, o, q⟩ := ih (b + 1) (upI (upI u 16 (35 + b) (-1)) 16 (41 + b) (-1)) (by omega) (by omega) (off_upI (k := 16) rfl (off_upI (k := 16) rfl ho)) (fun a ha => by rw [upI_j (by omega), upI_j (by omega)]; exact hc a ha) (fun l hll => by rw [upI_j (by omega), upI_j (by omega)]; exact hl l hll) (fun i hi => by rw [upI_j (by omega), upI_j (by omega)]; exact hz i hi) (fun c hcb => by
        by_cases z : c = b
        · subst z
          exact ⟨by rw [upI_j (by omega), upI_at]; rfl, by rw [upI_at]; rfl⟩
        · exact ⟨by rw [upI_j (by omega), upI_j (by omega)]; exact (hm c (by omega)).1, by rw [upI_j (by omega), upI_j (by omega)]; exact (hm c (by omega)).2⟩)
      refine ⟨u', ?_, o, q⟩
      rw [if_neg hz2, show (35 + nI b : Int32) = nI (35 + b) by rw [nI_lit, nI_add], show (41 + nI b : Int32) = nI (41 + b) by rw [nI_lit, nI_add], bnd (sM16 (show 35 + b < 439 by omega)), bnd (sM16 (show 41 + b < 439 by omega)), nI_s]
      exact e
theorem m_st56 (hD : VT D) (hT : RTm 0 D v) : ∀ (f l : Nat) (u : gM), l ≤ D 0 3 → D 0 3 - l < f → off (fun c => c = 16) v u → (∀ a, a < D 0 2 → u.1 16 (1 + a) = nI (D 3 a)) → (∀ m, m < l → u.1 16 (25 + m) = nI (D 10 m)) → (∀ i, i = 0 ∨ (47 ≤ i ∧ i < 439) → u.1 16 i = nI 0) → ∃ u', X12_starts_l56 f (nI l) u = some (upI u' 0 17 0) ∧ off (fun c => c = 16) v u' ∧ RNm (u'.1 16) D (N0 D) := by
  have hna := hD.na; have hnl := hD.nl
  have hlc := hT.lc
  have hnlT := hT.nl
  simp only [Nat.mul_zero, Nat.zero_add] at hlc hnlT
  intro f
  induction f with
  | zero => intro l u h1 h2; omega
  | succ f ih =>
    intro l u h1 h2 ho hc hl hz
    have e1 : ∀ c, c ≠ 16 → u.1 c = v.1 c := fun c hc => (ho c hc).1
    unfold X12_starts_l56 X12_starts_b56
    rw [bnd (show aI skM u 1 3 = some (nI (D 0 3)) by rw [nI_lit, aM1 (by omega), e1 1 (by omega), hnlT])]
    by_cases h4 : l = D 0 3
    · rw [h4, if_pos (Int32.le_refl _)]
      exact m_st89 hD fz 0 u (Nat.zero_le _) (fz_lt (by omega)) ho hc (by rw [← h4]; exact hl) hz (fun c hcb => absurd hcb (Nat.not_lt_zero _))
    · have hll : l < D 0 3 := by omega
      obtain ⟨u', e, q⟩ := ih (l + 1) (upI u 16 (25 + l) (nI (D 10 l))) (by omega) (by omega) (off_upI (k := 16) rfl ho) (fun a ha => by rw [upI_j (by omega)]; exact hc a ha) (fun m hm => by
        by_cases z : m = l
        · subst z; rw [upI_at]
        · rw [upI_j (by omega)]; exact hl m (by omega)) (fun i hi => by rw [upI_j (by omega)]; exact hz i hi)
      refine ⟨u', ?_, q⟩
      rw [if_neg (show ¬ nI (D 0 3) ≤ nI l by rw [nI_leI (by omega) (by omega)]; omega), bnd (aM15 (show l < 20 by omega)), e1 15 (by omega), hlc l hll, show (25 + nI l : Int32) = nI (25 + l) by rw [nI_lit, nI_add], bnd (sM16 (show 25 + l < 439 by omega)), nI_s]
      exact e
theorem m_st24 (hD : VT D) (hT : RTm 0 D v) : ∀ (f a : Nat) (u : gM), a ≤ D 0 2 → D 0 2 - a < f → off (fun c => c = 16) v u → (∀ b, b < a → u.1 16 (1 + b) = nI (D 3 b)) → (∀ i, i = 0 ∨ (47 ≤ i ∧ i < 439) → u.1 16 i = nI 0) → ∃ u', X12_starts_l24 f (nI a) u = some (upI u' 0 17 0) ∧ off (fun c => c = 16) v u' ∧ RNm (u'.1 16) D (N0 D) := by
  have hna := hD.na; have hnl := hD.nl
  have htc := hT.tc
  have hnaT := hT.na
  simp only [Nat.mul_zero, Nat.zero_add] at htc hnaT
  intro f
  induction f with
  | zero => intro l u h1 h2; omega
  | succ f ih =>
    intro a u h1 h2 ho hc hz
    have e1 : ∀ c, c ≠ 16 → u.1 c = v.1 c := fun c hc => (ho c hc).1
    unfold X12_starts_l24 X12_starts_b24
    rw [bnd (show aI skM u 1 2 = some (nI (D 0 2)) by rw [nI_lit, aM1 (by omega), e1 1 (by omega), hnaT])]
    by_cases h4 : a = D 0 2
    · rw [h4, if_pos (Int32.le_refl _)]
      exact m_st56 hD hT fz 0 u (Nat.zero_le _) (fz_lt (by omega)) ho (by rw [← h4]; exact hc) (fun c hcb => absurd hcb (Nat.not_lt_zero _)) hz
    · have haa : a < D 0 2 := by omega
      obtain ⟨u', e, q⟩ := ih (a + 1) (upI u 16 (1 + a) (nI (D 3 a))) (by omega) (by omega) (off_upI (k := 16) rfl ho) (fun b hb => by
        by_cases z : b = a
        · subst z; rw [upI_at]
        · rw [upI_j (by omega)]; exact hc b (by omega)) (fun i hi => by rw [upI_j (by omega)]; exact hz i hi)
      refine ⟨u', ?_, q⟩
      rw [if_neg (show ¬ nI (D 0 2) ≤ nI a by rw [nI_leI (by omega) (by omega)]; omega), bnd (aM11 (show a < 48 by omega)), e1 11 (by omega), htc a haa, show (1 + nI a : Int32) = nI (1 + a) by rw [nI_lit, nI_add], bnd (sM16 (show 1 + a < 439 by omega)), nI_s]
      exact e
theorem m_st2 (hD : VT D) (hT : RTm 0 D v) : ∀ (f k : Nat) (u : gM), k ≤ 439 → 439 - k < f → off (fun c => c = 16) v u → (∀ i, i < k → u.1 16 i = nI 0) → ∃ u', X12_starts_l2 f (nI k) u = some (upI u' 0 17 0) ∧ off (fun c => c = 16) v u' ∧ RNm (u'.1 16) D (N0 D) := by
  have hna := hD.na
  intro f
  induction f with
  | zero => intro l u h1 h2; omega
  | succ f ih =>
    intro k u h1 h2 ho hz
    unfold X12_starts_l2 X12_starts_b2
    by_cases h4 : k = 439
    · subst h4
      rw [if_pos (show (439 : Int32) ≤ nI 439 from Int32.le_refl _)]
      exact m_st24 hD hT fz 0 u (Nat.zero_le _) (fz_lt (by omega)) ho (fun b hb => absurd hb (Nat.not_lt_zero _)) (fun i hi => hz i (by omega))
    · have hz2 : ¬ (439 : Int32) ≤ nI k := by rw [nI_lit, nI_leI (by omega) (by omega)]; omega
      obtain ⟨u', e, q⟩ := ih (k + 1) (upI u 16 k 0) (by omega) (by omega) (off_upI (k := 16) rfl ho) (fun i hi => by
        by_cases z : i = k
        · subst z; rw [upI_at]; rfl
        · rw [upI_j z]; exact hz i (by omega))
      refine ⟨u', ?_, q⟩
      rw [if_neg hz2, bnd (sM16 (show k < 439 by omega)), nI_s]
      exact e
theorem m_starts (hD : VT D) (hT : RTm 0 D v) : ∃ u', X12_starts v = some (upI u' 0 17 0) ∧ off (fun c => c = 16) v u' ∧ RNm (u'.1 16) D (N0 D) := m_st2 hD hT fz 0 v (Nat.zero_le _) (fz_lt (by omega)) off_rf (fun i hi => absurd hi (Nat.not_lt_zero _))
theorem m_isRead {k : Nat} {x : Int32} (hk : k < 2 ^ 31) (h23 : v.1 0 23 = nI k) (h24 : v.1 0 24 = x) : X12_isRead v = some (b2 (k = 0), upI (upI (upI v 0 20 0) 0 21 (nI k)) 0 22 x) := by
  unfold X12_isRead X12_isRead_b13 X12_isRead_b33
  have e1 : (upI v 0 20 0).1 0 23 = nI k := by rw [upI_j (by omega), h23]
  have e2 : (upI (upI v 0 20 0) 0 21 (nI k)).1 0 24 = x := by rw [upI_j (by omega), upI_j (by omega), h24]
  have e3 : (upI (upI (upI v 0 20 0) 0 21 (nI k)) 0 22 x).1 0 23 = nI k := by rw [upI_j (by omega), upI_j (by omega), upI_j (by omega), h23]
  rw [e1, e2, e3]
  by_cases z : k = 0
  · rw [if_pos (show nI k = 0 by rw [z]; rfl), b2_t z]
    rfl
  · rw [if_neg (show ¬ nI k = 0 by rw [nI_lit, nI_eq hk (by omega)]; exact z), b2_f z]
    rfl
theorem RTm_BX (hV : VT T) (h : RTm 0 T v0) (b : BXm v0 v) : RTm 0 T v := by
  have hnp := hV.np; have hnb := hV.nb; have hna := hV.na; have hnl := hV.nl; have hno := hV.no; have hnh := hV.nh
  have l1 : lo 1 = 6 := rfl
  have l2 : lo 2 = 10 := rfl
  have l3 : lo 3 = 6 := rfl
  have l4 : lo 4 = 24 := rfl
  have l6 : lo 6 = 24 := rfl
  have l7 : lo 7 = 24 := rfl
  have l8 : lo 8 = 96 := rfl
  have l9 : lo 9 = 24 := rfl
  have l10 : lo 10 = 144 := rfl
  have l11 : lo 11 = 24 := rfl
  have l12 : lo 12 = 24 := rfl
  have l13 : lo 13 = 10 := rfl
  have l14 : lo 14 = 10 := rfl
  have l15 : lo 15 = 10 := rfl
  refine ⟨?_, ?_, ?_, ?_, ?_, ?_, fun i hi => ?_, fun i hi => ?_, fun i hi => ?_, fun i hi => ?_, fun i hi => ?_, fun i hi => ?_, fun i hi => ?_, fun i hi => ?_, fun i k hi hk => ?_, fun i k hi hk => ?_, fun i hi => ?_, fun i hi => ?_, fun i hi => ?_⟩
  · rw [(b.l 1 _ (by omega) (by omega) (by omega)).1]; exact h.np
  · rw [(b.l 1 _ (by omega) (by omega) (by omega)).1]; exact h.nb
  · rw [(b.l 1 _ (by omega) (by omega) (by omega)).1]; exact h.na
  · rw [(b.l 1 _ (by omega) (by omega) (by omega)).1]; exact h.nl
  · rw [(b.l 1 _ (by omega) (by omega) (by omega)).1]; exact h.li
  · rw [(b.l 1 _ (by omega) (by omega) (by omega)).1]; exact h.gr
  · rw [(b.l 2 _ (by omega) (by omega) (by omega)).2]; exact h.pn i hi
  · rw [(b.l 3 _ (by omega) (by omega) (by omega)).2]; exact h.bn i hi
  · rw [(b.l 4 _ (by omega) (by omega) (by omega)).2]; exact h.an i hi
  · rw [(b.l 6 _ (by omega) (by omega) (by omega)).1]; exact h.hm i hi
  · rw [(b.l 11 _ (by omega) (by omega) (by omega)).1]; exact h.tc i hi
  · rw [(b.l 12 _ (by omega) (by omega) (by omega)).1]; exact h.te i hi
  · rw [(b.l 7 _ (by omega) (by omega) (by omega)).1]; exact h.no i hi
  · rw [(b.l 9 _ (by omega) (by omega) (by omega)).1]; exact h.nh i hi
  · have := hno i hi
    rw [(b.l 8 _ (by omega) (by omega) (by omega)).1]; exact h.ow i k hi hk
  · have := hnh i hi
    rw [(b.l 10 _ (by omega) (by omega) (by omega)).2]; exact h.hn i k hi hk
  · rw [(b.l 13 _ (by omega) (by omega) (by omega)).1]; exact h.lp i hi
  · rw [(b.l 14 _ (by omega) (by omega) (by omega)).1]; exact h.lb i hi
  · rw [(b.l 15 _ (by omega) (by omega) (by omega)).1]; exact h.lc i hi
theorem RKm_BX (hV : VT T) (h : RKm 0 T v0) (b : BXm v0 v) : RKm 0 T v := by
  have hna := hV.na
  have l5 : lo 5 = 24 := rfl
  intro a ha
  rw [(b.l 5 _ (by omega) (by omega) (by omega)).1]; exact h a ha
/-- a TEXT that was no BOOK, no DAY: its FAULT is all that stays -/
theorem BF_RR (h : RR T N P S u v) (hF : BF u v u1 v1) : ∃ k x, 1 ≤ k ∧ k ≤ 6 ∧ v1.1 0 23 = nI k ∧ v1.1 0 24 = x ∧ RR T N P ((0, S.1.2), (k, (some x.toNatClampNeg), S.2.2.2)) (upI u1 1 0 0) (upI (upI (upI v1 0 20 0) 0 21 (nI k)) 0 22 x) := by
  obtain ⟨k, p, k1, k2, hp, fc, fm, oc, om⟩ := hF
  have hV := h.d.t
  have e : ∀ c, c ≠ 1 → c < 117 → u1.1 c = u.1 c ∧ u1.2 c = u.2 c := fun c c1 c2 => oc c (by
    intro z
    have z1 : c = 1 ∨ 117 ≤ c := z
    omega)
  have hcl : (nI p).toNatClampNeg = p := nI_clamp (by omega)
  refine ⟨k, nI p, k1, k2, fm.f, fm.g, ⟨h.d.t, h.d.n, h.d.p, h.d.pl, Nat.zero_le _, fun i hi => absurd hi (Nat.not_lt_zero _), h.d.hz, h.d.pz⟩, ?_, ?_⟩
  · refine ⟨h.c.t.mv (fun c c1 c2 => ⟨by rw [upI_k (by omega)]; exact (e c (by omega) (by omega)).1, by rw [upI_2]; exact (e c (by omega) (by omega)).2⟩), h.c.n.mv (fun c c1 c2 => ⟨by rw [upI_k (by omega)]; exact (e c (by omega) (by omega)).1, by rw [upI_2]; exact (e c (by omega) (by omega)).2⟩), ?_, ?_, ?_, fun i hi => absurd hi (Nat.not_lt_zero _), ?_, ?_, ?_⟩
    · rw [upI_k (by omega), (e 30 (by omega) (by omega)).1]; exact h.c.pc
    · obtain ⟨nx, h1, h2, h3⟩ := h.c.pr
      refine ⟨nx, h1, by rw [upI_k (by omega), (e 30 (by omega) (by omega)).1]; exact h2, fun j Q hj => (h3 j Q hj).mv (fun c c1 c2 => ?_)⟩
      have := Nat.mod_lt (nx + 6 - j) (y := 7) (by decide)
      exact ⟨by rw [upI_k (by omega)]; exact (e c (by omega) (by omega)).1, by rw [upI_2]; exact (e c (by omega) (by omega)).2⟩
    · rw [upI_at]; rfl
    · rw [upI_j (by omega)]; exact fc.f
    · rw [upI_j (by omega)]
      show u1.1 1 2 = oI (some (nI p).toNatClampNeg)
      rw [hcl]; exact fc.g
    · rw [upI_k (by omega), (e 0 (by omega) (by omega)).1]; exact h.c.dt
  · have g : ∀ c, c ≠ 0 → (upI (upI (upI v1 0 20 0) 0 21 (nI k)) 0 22 (nI p)).1 c = v1.1 c := fun c hc => by rw [upI_k hc, upI_k hc, upI_k hc]
    have g0 : ∀ j, j ≠ 20 → j ≠ 21 → j ≠ 22 → (upI (upI (upI v1 0 20 0) 0 21 (nI k)) 0 22 (nI p)).1 0 j = v1.1 0 j := fun j a b c => by rw [upI_j c, upI_j b, upI_j a]
    refine ⟨(RTm_BX hV h.m.t om).mv (fun c c1 _ => ⟨g c (by omega), by rw [upI_2, upI_2, upI_2]⟩), ?_, ?_, ?_, ?_, ?_, fun i hi => absurd hi (Nat.not_lt_zero _), ?_, ?_, ?_, ?_, ?_⟩
    · have := RKm_BX hV h.m.k om
      unfold RKm at *
      rw [g 5 (by omega)]; exact this
    · rw [g 16 (by omega), om.c 16 (by omega) (by omega)]; exact h.m.n
    · rw [g0 17 (by omega) (by omega) (by omega), om.i 17 (by omega)]; exact h.m.pc
    · rw [g 17 (by omega), om.c 17 (by omega) (by omega)]; exact h.m.pr
    · rw [upI_j (by omega), upI_j (by omega), upI_at]; rfl
    · rw [upI_j (by omega), upI_at]
    · show _ = oI (some (nI p).toNatClampNeg)
      rw [upI_at, hcl]; rfl
    · rw [g0 32 (by omega) (by omega) (by omega), om.i 32 (by omega)]; exact h.m.oa
    · rw [g0 34 (by omega) (by omega) (by omega), om.i 34 (by omega)]; exact h.m.mh
    · rw [g0 44 (by omega) (by omega) (by omega), om.i 44 (by omega)]; exact h.m.dt
theorem o_book (h : RR T N P S u v) : SR (X11_book u) (X12_book v) := by
  have hS : TS S.1 := ⟨h.d.tl, h.d.tp⟩
  obtain ⟨u1, v1, e1, e2, hB⟩ := b_begin hS ⟨h.c.tl, h.c.tp⟩ ⟨h.m.tl, h.m.tp⟩
  unfold X11_book
  rw [e1, e2]
  rcases b_read hS fz 0 _ _ u1 v1 (Nat.zero_le _) (by show 702 ≤ 4000 + 0; omega) hB with ⟨u2, v2, c2, d2, hF⟩ | ⟨t', D', u2, v2, c2, d2, hB2⟩
  · obtain ⟨k, x, k1, k2, f1, f2, hR⟩ := BF_RR h hF
    refine ⟨-nI 1, _, _, T, N, P, _, ?_, ?_, hR⟩
    · rw [bnd c2, if_pos z00]
      rfl
    · rw [d2]
      unfold bY
      rw [bnd (m_isRead (by omega) f1 f2), b2_f (by omega), if_pos z00]
      rfl
  · have hD := hB2.d.t
    have hna := hD.na
    have oc := hB2.oc
    have om := hB2.om
    have e : ∀ c, c ≠ 1 → c < 117 → u2.1 c = u.1 c ∧ u2.2 c = u.2 c := fun c c1 c2 => oc c (by
      intro z
      have z1 : c = 1 ∨ 117 ≤ c := z
      omega)
    obtain ⟨u3, e3, o3, t3⟩ := q_tcopy (u := upI u2 1 0 0) hD (hB2.rc.mv (fun c c1 _ => ⟨by rw [upI_k (by omega)], by rw [upI_2]⟩))
    have o3' : ∀ c, (c < 3 ∨ 17 < c) → u3.1 c = (upI u2 1 0 0).1 c ∧ u3.2 c = (upI u2 1 0 0).2 c := fun c hc => o3 c (by rintro ⟨z1, z2⟩; omega)
    obtain ⟨u4, e4, o4, n4⟩ := q_open hD t3
    have o4' : ∀ c, (c < 18 ∨ 28 < c) → u4.1 c = u3.1 c ∧ u4.2 c = u3.2 c := fun c hc => o4 c (by rintro ⟨z1, z2⟩; omega)
    have e5 : X7_clear u4 = some (upI u4 30 0 0) := rfl
    generalize hw : upI (upI (upI v2 0 20 0) 0 21 (nI 0)) 0 22 (-nI 1) = w
    have hmr : X12_isRead v2 = some (nI 1, w) := by
      rw [m_isRead (k := 0) (by omega) hB2.m.f hB2.m.g, b2_t rfl, hw]
    have gw : ∀ c, c ≠ 0 → w.1 c = v2.1 c ∧ w.2 c = v2.2 c := fun c hc => by
      rw [← hw]
      exact ⟨by rw [upI_k hc, upI_k hc, upI_k hc], by rw [upI_2, upI_2, upI_2]⟩
    have hkw : RKm 1 D' w := by
      have := hB2.rk
      unfold RKm at *
      rw [(gw 5 (by omega)).1]; exact this
    obtain ⟨v3, f3, p3, t3m, k3m⟩ := m_bcopy hD (hB2.rm.mv (fun c c1 _ => gw c (by omega))) hkw
    have p3' : ∀ c, (c < 1 ∨ 15 < c) → v3.1 c = w.1 c ∧ v3.2 c = w.2 c := fun c hc => p3 c (by rintro ⟨z1, z2⟩; omega)
    obtain ⟨v4, f4, p4, n4m⟩ := m_starts hD t3m
    have p4' : ∀ c, c ≠ 16 → v4.1 c = v3.1 c ∧ v4.2 c = v3.2 c := fun c hc => p4 c hc
    refine ⟨nI (D' 0 2), upI u4 30 0 0, upI v4 0 17 0, D', N0 D', [], ((0, S.1.2), (0, none, S.2.2.2)), ?_, ?_, ⟨hD, N0_V hD, fun Q hQ => absurd hQ (List.not_mem_nil), Nat.zero_le _, Nat.zero_le _, fun i hi => absurd hi (Nat.not_lt_zero _), hB2.d.hz, hB2.d.pz⟩, ?_, ?_⟩
    · rw [bnd c2, if_neg n10]
      dsimp only
      rw [bnd e3, bnd e4, bnd e5, upI_k (by omega), (o4' 3 (by omega)).1, t3.na]
    · rw [d2]
      unfold bY
      rw [bnd hmr, if_neg n10]
      have a1 : aI skM (upI v4 0 17 0) 1 2 = some (nI (D' 0 2)) := by
        have := t3m.na
        simp only [Nat.mul_zero, Nat.zero_add] at this
        refine Eq.trans (aM1 (u := upI v4 0 17 0) (a := 2) (by omega)) ?_
        rw [upI_k (by omega), (p4' 1 (by omega)).1, this]
      refine Eq.trans f3 ?_
      rw [bnd f4, bnd a1]
    · have g : ∀ c, c ≠ 30 → (upI u4 30 0 0).1 c = u4.1 c ∧ (upI u4 30 0 0).2 c = u4.2 c := fun c hc => ⟨upI_k hc, by rw [upI_2]⟩
      have gu : ∀ c, (c < 3 ∨ 28 < c) → c < 117 → c ≠ 1 → c ≠ 30 → (upI u4 30 0 0).1 c = u.1 c ∧ (upI u4 30 0 0).2 c = u.2 c := fun c a b d f => by
        rw [(g c f).1, (g c f).2, (o4' c (by omega)).1, (o4' c (by omega)).2, (o3' c (by omega)).1, (o3' c (by omega)).2, upI_k d, upI_2]
        exact e c d b
      have g1 : ∀ j, j ≠ 0 → (upI u4 30 0 0).1 1 j = u2.1 1 j := fun j hj => by rw [(g 1 (by omega)).1, (o4' 1 (by omega)).1, (o3' 1 (by omega)).1, upI_j hj]
      refine ⟨t3.mv (fun c c1 c2 => ⟨by rw [(g c (by omega)).1, (o4' c (by omega)).1], by rw [(g c (by omega)).2, (o4' c (by omega)).2]⟩), n4.mv (fun c c1 c2 => g c (by omega)), ?_, ?_, ?_, fun i hi => absurd hi (Nat.not_lt_zero _), ?_, ?_, ?_⟩
      · rw [upI_at]; rfl
      · obtain ⟨nx, h1, h2, h3⟩ := h.c.pr
        refine ⟨nx, h1, ?_, fun j Q hj => by simp at hj⟩
        rw [upI_j (by omega), (o4' 30 (by omega)).1, (o3' 30 (by omega)).1, upI_k (by omega), (e 30 (by omega) (by omega)).1]; exact h2
      · rw [(g 1 (by omega)).1, (o4' 1 (by omega)).1, (o3' 1 (by omega)).1, upI_at]; rfl
      · rw [g1 1 (by omega)]; exact hB2.c.f
      · rw [g1 2 (by omega)]; exact hB2.c.g
      · rw [(gu 0 (by omega) (by omega) (by omega) (by omega)).1]; exact h.c.dt
    · have g : ∀ c, c ≠ 0 → (upI v4 0 17 0).1 c = v4.1 c ∧ (upI v4 0 17 0).2 c = v4.2 c := fun c hc => ⟨upI_k hc, by rw [upI_2]⟩
      have g0 : ∀ j, j ≠ 17 → (upI v4 0 17 0).1 0 j = w.1 0 j := fun j hj => by rw [upI_j hj, (p4' 0 (by omega)).1, (p3' 0 (by omega)).1]
      have g0v : ∀ j, j ≠ 17 → j ≠ 20 → j ≠ 21 → j ≠ 22 → (upI v4 0 17 0).1 0 j = v2.1 0 j := fun j a b c d => by rw [g0 j a, ← hw, upI_j d, upI_j c, upI_j b]
      refine ⟨t3m.mv (fun c c1 c2 => ⟨by rw [(g c (by omega)).1, (p4' c (by omega)).1], by rw [(g c (by omega)).2, (p4' c (by omega)).2]⟩), ?_, ?_, ?_, fun j Q hj => by simp at hj, ?_, fun i hi => absurd hi (Nat.not_lt_zero _), ?_, ?_, ?_, ?_, ?_⟩
      · have := k3m
        unfold RKm at *
        rw [(g 5 (by omega)).1, (p4' 5 (by omega)).1]; exact this
      · rw [(g 16 (by omega)).1]; exact n4m
      · rw [upI_at]; rfl
      · rw [g0 20 (by omega), ← hw, upI_j (by omega), upI_j (by omega), upI_at]; rfl
      · rw [g0 21 (by omega), ← hw, upI_j (by omega), upI_at]
      · rw [g0 22 (by omega), ← hw, upI_at]; rfl
      · rw [g0v 32 (by omega) (by omega) (by omega) (by omega), om.i 32 (by omega)]; exact h.m.oa
      · rw [g0v 34 (by omega) (by omega) (by omega) (by omega), om.i 34 (by omega)]; exact h.m.mh
      · rw [g0v 44 (by omega) (by omega) (by omega) (by omega), om.i 44 (by omega)]; exact h.m.dt
end BK
