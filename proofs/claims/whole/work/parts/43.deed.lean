/-! a DEED, kept if it is done -/
section DE
variable {T : gT} {N : gN} {P : List gN} {S : gS} {u v : gM}
def sDc (c : Nat) : Prop := (18 ≤ c ∧ c ≤ 29) ∨ 137 ≤ c
def sDm (c : Nat) : Prop := c = 16 ∨ 20 ≤ c
/-- what a DEED does: it is REFUSED by both, or both come to the same -/
def DS (T : gT) (x y : Option (Int32 × gM)) (u v : gM) : Prop :=
  (∃ u' v', x = some (nI 0, u') ∧ y = some (nI 0, v') ∧ off sX u u' ∧ off sY v v') ∨
  (∃ u' v' N', x = some (nI 1, u') ∧ y = some (nI 1, v') ∧ off sDc u u' ∧ off sDm v v' ∧ RN 18 T N' u' ∧ RNm (v'.1 16) T N' ∧ VN T N')
theorem o_deed {fx fy : gM → Option (Int32 × gM)} (h : RR T N P S u v) (hd : ∀ u' v', RR T N P S u' v' → DS T (fx u') (fy v') u' v') : SR ((X7_keep 18 u).bind fun w8 => ((fx w8).bind fun w23 => ((X7_confirm w23.1 w23.2).bind fun w26 => ((bI w26.1).bind fun v29 => some (v29, w26.2))))) ((X12_laysAside v).bind fun w1 => ((fy w1).bind fun w8 => ((X12_isDone w8.1 w8.2).bind fun w11 => ((bI w11.1).bind fun v14 => some (v14, w11.2))))) := by
  have hV := h.d.t
  have hpl := h.d.pl
  obtain ⟨u1, nx, e1, o1, r1⟩ := q_keep h.c hV hpl
  obtain ⟨v1, f1, p1, q1⟩ := m_aside (v := v)
  have oc1 : ∀ c, c < 32 ∨ 115 < c → u1.1 c = u.1 c ∧ u1.2 c = u.2 c := fun c hc => o1 c (by intro z; have z1 : 32 ≤ c ∧ c ≤ 115 := z; omega)
  have hC1 : RC T N P S u1 := by
    refine ⟨h.c.t.mv (fun c _ c2 => oc1 c (by omega)), h.c.n.mv (fun c _ c2 => oc1 c (by omega)), ?_, ⟨nx, r1.l, r1.x, r1.p⟩, ?_, ?_, ?_, ?_, ?_⟩
    · rw [(oc1 30 (by omega)).1]; exact h.c.pc
    · rw [(oc1 1 (by omega)).1]; exact h.c.tl
    · rw [(oc1 2 (by omega)).1]; exact h.c.tp
    · rw [(oc1 1 (by omega)).1]; exact h.c.fa
    · rw [(oc1 1 (by omega)).1]; exact h.c.fp
    · rw [(oc1 0 (by omega)).1]; exact h.c.dt
  have hM1 : RM T N P S v1 := h.m.mv (fun c _ c2 => p1 c (by intro z; have z1 : c = 18 := z; omega))
  rw [bnd e1, bnd f1]
  rcases hd u1 v1 ⟨h.d, hC1, hM1⟩ with ⟨u2, v2, e2, f2, o2, p2⟩ | ⟨u2, v2, N', e2, f2, o2, p2, n2, m2, vn⟩
  · rw [bnd e2, bnd f2]
    exact ⟨nI 0, u2, v2, T, N, P, S, rfl, rfl, h.d, hC1.mv (fun c hc => o2 c (by intro z; have z1 : 137 ≤ c := z; omega)), hM1.mv (fun c hc _ => p2 c (by intro z; have z1 : 20 ≤ c := z; omega))⟩
  · have oc2 : ∀ c, c < 18 ∨ (29 < c ∧ c < 137) → u2.1 c = u1.1 c ∧ u2.2 c = u1.2 c := fun c hc => o2 c (by intro z; have z1 : (18 ≤ c ∧ c ≤ 29) ∨ 137 ≤ c := z; omega)
    have r2 : RP nx T N P u2 := by
      have hl := r1.l
      refine ⟨r1.l, ?_, r1.m.mv (fun c c1 c2 => oc2 c (by omega)), fun j Q hj => (r1.p j Q hj).mv (fun c c1 c2 => oc2 c (by have := Nat.mod_lt (nx + 6 - j) (y := 7) (by decide); omega))⟩
      rw [(oc2 30 (by omega)).1]; exact r1.x
    obtain ⟨u3, e3, o3, k3, nx', l3, x3, w3⟩ := q_conf1 r2 (by rw [(oc2 30 (by omega)).1]; exact hC1.pc) hpl
    have oc3 : ∀ c, c ≠ 30 → u3.1 c = u2.1 c ∧ u3.2 c = u2.2 c := fun c hc => o3 c hc
    have om2 : ∀ c, c ≤ 19 → c ≠ 16 → v2.1 c = v1.1 c ∧ v2.2 c = v1.2 c := fun c c1 c2 => p2 c (by intro z; have z1 : c = 16 ∨ 20 ≤ c := z; omega)
    have hM18 : RNm (v2.1 18) T N := RNm_cg hV h.m.n (fun i hi => by rw [(om2 18 (by omega) (by omega)).1, q1 i hi])
    obtain ⟨v3, f3, g1, g2, g3, g4⟩ := m_keeps (v := v2) (P := P) (M := N) hV hpl (by rw [(om2 0 (by omega) (by omega)).1]; exact hM1.pc) hM18 (fun j Q hj => by rw [(om2 17 (by omega) (by omega)).1]; exact hM1.pr j Q hj)
    have hC3 : RC T N' ((N :: P).take 6) S u3 := by
      have a1 : ∀ c, c < 18 → u3.1 c = u1.1 c ∧ u3.2 c = u1.2 c := fun c hc => ⟨(oc3 c (by omega)).1.trans (oc2 c (by omega)).1, (oc3 c (by omega)).2.trans (oc2 c (by omega)).2⟩
      refine ⟨hC1.t.mv (fun c _ c2 => a1 c (by omega)), n2.mv (fun c _ c2 => oc3 c (by omega)), k3, ⟨nx', l3, x3, w3⟩, ?_, ?_, ?_, ?_, ?_⟩
      · rw [(a1 1 (by omega)).1]; exact hC1.tl
      · rw [(a1 2 (by omega)).1]; exact hC1.tp
      · rw [(a1 1 (by omega)).1]; exact hC1.fa
      · rw [(a1 1 (by omega)).1]; exact hC1.fp
      · rw [(a1 0 (by omega)).1]; exact hC1.dt
    have hM3 : RM T N' ((N :: P).take 6) S v3 := by
      have a1 : ∀ c, 1 ≤ c → c ≤ 19 → c ≠ 16 → c ≠ 17 → v3.1 c = v1.1 c ∧ v3.2 c = v1.2 c := fun c c1 c2 c3 c4 => ⟨(g1 c c1 c4).1.trans (om2 c c2 c3).1, (g1 c c1 c4).2.trans (om2 c c2 c3).2⟩
      have a0 : ∀ i, i ≠ 17 → v3.1 0 i = v1.1 0 i := fun i hi => by rw [g2 i hi, (om2 0 (by omega) (by omega)).1]
      refine ⟨hM1.t.mv (fun c c1 c2 => a1 c c1 (by omega) (by omega) (by omega)), ?_, ?_, g3, g4, ?_, ?_, ?_, ?_, ?_, ?_, ?_⟩
      · have := hM1.k
        unfold RKm at *
        rw [(a1 5 (by omega) (by omega) (by omega) (by omega)).1]; exact this
      · rw [(g1 16 (by omega) (by omega)).1]; exact m2
      · rw [a0 20 (by omega)]; exact hM1.tl
      · rw [(a1 19 (by omega) (by omega) (by omega) (by omega)).1]; exact hM1.tp
      · rw [a0 21 (by omega)]; exact hM1.fa
      · rw [a0 22 (by omega)]; exact hM1.fp
      · rw [a0 32 (by omega)]; exact hM1.oa
      · rw [a0 34 (by omega)]; exact hM1.mh
      · rw [a0 44 (by omega)]; exact hM1.dt
    have hD : DV T N' ((N :: P).take 6) S := by
      refine ⟨hV, vn, fun Q hQ => ?_, by rw [List.length_take]; omega, h.d.tl, h.d.tp, h.d.hz, h.d.pz⟩
      rcases List.mem_cons.mp (List.mem_of_mem_take hQ) with z | z
      · rw [z]; exact h.d.n
      · exact h.d.p Q z
    rw [bnd e2, bnd f2, bnd e3]
    refine ⟨nI 1, u3, v3, T, N', (N :: P).take 6, S, rfl, ?_, hD, hC3, hM3⟩
    have f4 : X12_isDone (nI 1) v2 = some (nI 1, v3) := by
      unfold X12_isDone X12_isDone_b8
      rw [if_neg n10, bnd f3]
      rfl
    rw [bnd f4]
    rfl
end DE
