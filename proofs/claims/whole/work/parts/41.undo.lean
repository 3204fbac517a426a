/-! undo -/
section UN
variable {T : gT} {N : gN} {P : List gN} {S : gS} {u v : gM}
theorem RNm_cg {f f' : Nat → Int32} (hV : VT T) (h : RNm f T N) (e : ∀ i, i < 439 → f' i = f i) : RNm f' T N := by
  have hna := hV.na
  have hnl := hV.nl
  refine ⟨by rw [e 0 (by omega)]; exact h.mo, fun a ha => by rw [e (1 + a) (by omega)]; exact h.co a ha, fun l hl => by rw [e (25 + l) (by omega)]; exact h.od l hl, fun b hb => by rw [e (35 + b) (by omega)]; exact h.it b hb, fun b hb => by rw [e (41 + b) (by omega)]; exact h.si b hb, fun b hb => by rw [e (47 + b) (by omega)]; exact h.fa b hb, by rw [e 53 (by omega)]; exact h.fb, fun hb i hi => by rw [e (54 + i) (by omega)]; exact h.fo hb i hi, fun hb i hi => by rw [e (150 + i) (by omega)]; exact h.fp hb i hi, fun hb i hi => by rw [e (246 + i) (by omega)]; exact h.fd hb i hi, fun hb i hi => by rw [e (342 + i) (by omega)]; exact h.fs hb i hi, fun hb => by rw [e 438 (by omega)]; exact h.fl hb⟩
theorem m_undo_l {p : Nat} {u0 : gM} (hp : p ≤ 5) (h17 : u0.1 0 17 = nI p) : ∀ (f k : Nat) (u : gM), k ≤ 439 → 439 - k < f → off (fun c => c = 16) u0 u → (∀ i, i < k → u.1 16 i = u0.1 17 (439 * p + i)) → ∃ u', X12_undo_l21 f (nI k) u = some (nI 1, u') ∧ off (fun c => c = 16) u0 u' ∧ ∀ i, i < 439 → u'.1 16 i = u0.1 17 (439 * p + i) := by
  intro f
  induction f with
  | zero => intro k u h1 h2; omega
  | succ f ih =>
    intro k u h1 h2 ho hq
    unfold X12_undo_l21 X12_undo_b21
    by_cases h4 : k = 439
    · subst h4
      refine ⟨u, ?_, ho, hq⟩
      rw [nI_lit, if_pos (Int32.le_refl _)]
      rfl
    · have hz : ¬ (439 : Int32) ≤ nI k := by rw [nI_lit, nI_leI (by omega) (by omega)]; omega
      have e0 := (ho 0 (by intro z; have z1 : 0 = 16 := z; omega)).1
      have e17 := (ho 17 (by intro z; have z1 : 17 = 16 := z; omega)).1
      have e1 : aI skM u 17 (439 * u.1 0 17 + nI k) = some (u0.1 17 (439 * p + k)) := by
        rw [e0, h17, show (439 * nI p + nI k : Int32) = nI (439 * p + k) by rw [nI_lit, pk_mul, nI_add], aM17 (by omega), e17]
      obtain ⟨u', e2, o2, q2⟩ := ih (k + 1) (upI u 16 k (u0.1 17 (439 * p + k))) (by omega) (by omega) (off_tr ho (fun c hc => ⟨by rw [upI_k (show c ≠ 16 from hc)], by rw [upI_2]⟩)) (fun i hi => by
        by_cases z : i = k
        · subst z; rw [upI_at]
        · rw [upI_j z]; exact hq i (by omega))
      refine ⟨u', ?_, o2, q2⟩
      rw [if_neg hz, bnd e1, bnd (sM16 (show k < 439 by omega)), nI_s]
      exact e2
theorem o_undo (h : RR T N P S u v) : SR (X11_undo u) (X12_undo v) := by
  have hV := h.d.t
  have hpl := h.d.pl
  cases P with
  | nil =>
    have h1 : u.1 30 0 = nI 0 := h.c.pc
    have h2 : v.1 0 17 = nI 0 := h.m.pc
    refine ⟨nI 0, u, v, T, N, [], S, ?_, ?_, h⟩
    · unfold X11_undo X7_restore
      rw [if_pos (show u.1 30 0 = 0 from h1)]
      rfl
    · unfold X12_undo
      rw [if_pos (show v.1 0 17 = 0 from h2)]
      rfl
  | cons Q P =>
    rw [List.length_cons] at hpl
    have h1 : u.1 30 0 = nI (P.length + 1) := h.c.pc
    have h2 : v.1 0 17 = nI (P.length + 1) := h.m.pc
    have z1 : ¬ (nI (P.length + 1) : Int32) = 0 := by rw [nI_lit, nI_eq (by omega) (by omega)]; omega
    have s1 : nI (P.length + 1) - 1 = nI P.length := by rw [nI_lit]; exact nI_s1 _
    obtain ⟨nx, g1, g2, g3⟩ := h.c.pr
    have hn : (nx + 6) % 7 < 7 := Nat.mod_lt _ (by decide)
    have e1 : (u.1 30 1 + 6) - (u.1 30 1 + 6) / 7 * 7 = nI ((nx + 6) % 7) := by
      rw [g2, show (nI nx + 6 : Int32) = nI (nx + 6) by rw [nI_lit, nI_add], nI_lit]
      exact i_remN (by omega) (by omega) (by omega)
    have oa : off (fun c => c = 30) u (upI (upI u 30 1 (nI ((nx + 6) % 7))) 30 0 (nI P.length)) := fun c hc => ⟨by rw [upI_k (show c ≠ 30 from hc), upI_k (show c ≠ 30 from hc)], by rw [upI_2, upI_2]⟩
    obtain ⟨u', e2, o2, q2⟩ := q_copy (u := upI (upI u 30 1 (nI ((nx + 6) % 7))) 30 0 (nI P.length)) STk_18 (STk_j hn) (by omega)
    have ec : ∀ c, c < 18 ∨ 29 < c → c ≠ 30 → u'.1 c = u.1 c ∧ u'.2 c = u.2 c := by
      intro c hc hc2
      have a1 := o2 c (by intro z; have z1 : 18 ≤ c ∧ c ≤ 18 + 11 := z; omega)
      have a2 := oa c hc2
      exact ⟨a1.1.trans a2.1, a1.2.trans a2.2⟩
    have e30 := (o2 30 (by intro z; have z1 : 18 ≤ 30 ∧ 30 ≤ 18 + 11 := z; omega)).1
    have hQ := g3 0 Q rfl
    rw [Nat.sub_zero] at hQ
    have hN' : RN 18 T Q u' := q2 T Q hV (hQ.mv (fun c c1 c2 => oa c (by intro z; have z1 : c = 30 := z; omega)))
    have hC : RC T Q P S u' := by
      refine ⟨h.c.t.mv (fun c _ c2 => ec c (by omega) (by omega)), hN', ?_, ⟨(nx + 6) % 7, hn, ?_, fun j R hj => ?_⟩, ?_, ?_, ?_, ?_, ?_⟩
      · rw [e30, upI_at]
      · rw [e30, upI_j (by omega), upI_at]
      · have hj6 := get_lt hj
        rw [show ((nx + 6) % 7 + 6 - j) % 7 = (nx + 6 - (j + 1)) % 7 by omega]
        exact (g3 (j + 1) R hj).mv (fun c c1 c2 => ec c (by omega) (by omega))
      · rw [(ec 1 (by omega) (by omega)).1]; exact h.c.tl
      · rw [(ec 2 (by omega) (by omega)).1]; exact h.c.tp
      · rw [(ec 1 (by omega) (by omega)).1]; exact h.c.fa
      · rw [(ec 1 (by omega) (by omega)).1]; exact h.c.fp
      · rw [(ec 0 (by omega) (by omega)).1]; exact h.c.dt
    -- the model
    have w17 : (upI v 0 17 (nI P.length)).1 0 17 = nI P.length := by rw [upI_at]
    obtain ⟨v', f2, o3, q3⟩ := m_undo_l (p := P.length) (by omega) w17 fz 0 _ (Nat.zero_le _) (fz_lt (by omega)) off_rf (fun i hi => by omega)
    have ev : ∀ c, c ≠ 16 → v'.1 c = (upI v 0 17 (nI P.length)).1 c ∧ v'.2 c = (upI v 0 17 (nI P.length)).2 c := fun c hc => o3 c hc
    have ev1 : ∀ c, 1 ≤ c → c ≠ 16 → v'.1 c = v.1 c ∧ v'.2 c = v.2 c := fun c c1 c2 => ⟨by rw [(ev c c2).1, upI_k (by omega)], by rw [(ev c c2).2, upI_2]⟩
    have ev0 : ∀ i, i ≠ 17 → v'.1 0 i = v.1 0 i := fun i hi => by rw [(ev 0 (by omega)).1, upI_j hi]
    have hM : RM T Q P S v' := by
      refine ⟨h.m.t.mv (fun c c1 c2 => ev1 c c1 (by omega)), ?_, ?_, ?_, fun j R hj => ?_, ?_, ?_, ?_, ?_, ?_, ?_, ?_⟩
      · have := h.m.k
        unfold RKm at *
        rw [(ev1 5 (by omega) (by omega)).1]; exact this
      · refine RNm_cg hV (h.m.pr 0 Q rfl) (fun i hi => ?_)
        rw [q3 i hi, upI_k (by omega), List.length_cons]
        rw [show P.length + 1 - 1 - 0 = P.length by omega]
      · rw [(ev 0 (by omega)).1, upI_at]
      · have hj6 := get_lt hj
        refine RNm_cg hV (h.m.pr (j + 1) R hj) (fun i hi => ?_)
        rw [(ev1 17 (by omega) (by omega)).1, List.length_cons, show P.length + 1 - 1 - (j + 1) = P.length - 1 - j by omega]
      · rw [ev0 20 (by omega)]; exact h.m.tl
      · rw [(ev1 19 (by omega) (by omega)).1]; exact h.m.tp
      · rw [ev0 21 (by omega)]; exact h.m.fa
      · rw [ev0 22 (by omega)]; exact h.m.fp
      · rw [ev0 32 (by omega)]; exact h.m.oa
      · rw [ev0 34 (by omega)]; exact h.m.mh
      · rw [ev0 44 (by omega)]; exact h.m.dt
    have hD : DV T Q P S := ⟨hV, h.d.p Q List.mem_cons_self, fun R hR => h.d.p R (List.mem_cons_of_mem _ hR), by omega, h.d.tl, h.d.tp, h.d.hz, h.d.pz⟩
    refine ⟨nI 1, u', v', T, Q, P, S, ?_, ?_, hD, hC, hM⟩
    · have e5 : X7_restore 18 u = some (nI 1, u') := by
        unfold X7_restore X7_restore_b23
        rw [if_neg (by rw [h1]; exact z1), e1, upI_j (show 0 ≠ 1 by omega), h1, s1, upI_j (show 1 ≠ 0 by omega), upI_at, bnd (aR_31 hn), STk_18.o8, if_pos rfl, bnd e2]
        rfl
      unfold X11_undo
      rw [bnd e5]
      rfl
    · unfold X12_undo
      rw [if_neg (by rw [h2]; exact z1), h2, s1]
      exact f2
end UN
