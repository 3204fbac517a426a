/-! named -/
section ND
variable {T : gT} {N : gN} {P : List gN} {S : gS} {u v u1 v1 : gM}
theorem RC.tok {B : Nat → Nat} (h : RC T N P S u) (e : ∀ c, c ≠ 1 → c < 117 → u1.1 c = u.1 c ∧ u1.2 c = u.2 c) (h0 : u1.1 1 0 = nI 0) (h1 : u1.1 1 1 = u.1 1 1) (h2 : u1.1 1 2 = u.1 1 2) : RC T N P ((0, B), S.2) u1 := by
  refine ⟨h.t.mv (fun c c1 c2 => e c (by omega) (by omega)), h.n.mv (fun c c1 c2 => e c (by omega) (by omega)), ?_, ?_, h0, fun i hi => absurd hi (Nat.not_lt_zero _), ?_, ?_, ?_⟩
  · rw [(e 30 (by omega) (by omega)).1]; exact h.pc
  · obtain ⟨nx, g1, g2, g3⟩ := h.pr
    refine ⟨nx, g1, by rw [(e 30 (by omega) (by omega)).1]; exact g2, fun j Q hj => (g3 j Q hj).mv (fun c c1 c2 => e c (by omega) (by have := Nat.mod_lt (nx + 6 - j) (y := 7) (by decide); omega))⟩
  · rw [h1]; exact h.fa
  · rw [h2]; exact h.fp
  · rw [(e 0 (by omega) (by omega)).1]; exact h.dt
theorem RM.tok {B : Nat → Nat} (h : RM T N P S v) (e : ∀ c, c ≠ 0 → c < 19 → v1.1 c = v.1 c ∧ v1.2 c = v.2 c) (h0 : v1.1 0 20 = nI 0) (hi : ∀ j, j ≠ 20 → j < 23 ∨ 31 < j → v1.1 0 j = v.1 0 j) : RM T N P ((0, B), S.2) v1 := by
  refine ⟨h.t.mv (fun c c1 c2 => e c (by omega) (by omega)), ?_, ?_, ?_, ?_, h0, fun i hi => absurd hi (Nat.not_lt_zero _), ?_, ?_, ?_, ?_, ?_⟩
  · have := h.k
    unfold RKm at *
    rw [(e 5 (by omega) (by omega)).1]; exact this
  · rw [(e 16 (by omega) (by omega)).1]; exact h.n
  · rw [hi 17 (by omega) (by omega)]; exact h.pc
  · rw [(e 17 (by omega) (by omega)).1]; exact h.pr
  · rw [hi 21 (by omega) (by omega)]; exact h.fa
  · rw [hi 22 (by omega) (by omega)]; exact h.fp
  · rw [hi 32 (by omega) (by omega)]; exact h.oa
  · rw [hi 34 (by omega) (by omega)]; exact h.mh
  · rw [hi 44 (by omega) (by omega)]; exact h.dt
theorem o_named (x : Int32) (h : RR T N P S u v) : SR (X11_named x u) (X12_named x v) := by
  have hV := h.d.t
  have hnp := hV.np; have hnb := hV.nb; have hna := hV.na
  have hS : TS S.1 := ⟨h.d.tl, h.d.tp⟩
  have hc : TPc S.1 u := ⟨h.c.tl, h.c.tp⟩
  have hm : TPm S.1 v := ⟨h.m.tl, h.m.tp⟩
  have hV0 := tk0_V hS
  have h1 : TPc S.1 (upI u 1 10 0) := TPc_o hc (by rw [upI_j (by omega)]) (by rw [upI_k (by omega)])
  obtain ⟨u1, e1, f1, k1⟩ := q_step (n := 0) hS.l hS.b h1 upI_at (Nat.zero_le _)
  have eb : X9_begin u = some u1 := by
    unfold X9_begin
    rw [bnd e1]
  obtain ⟨u2, e2, f2, k2⟩ := q_step (n := (tkN S.1.2 S.1.1 0).2.2) hS.l hS.b (h1.mv f1) k1.q hV0.m
  obtain ⟨v1, d1, p1, g1⟩ := m_start hS hm
  obtain ⟨v2, d2, p2, g2⟩ := m_step hS hV0 p1
  generalize ht0 : tkN S.1.2 S.1.1 0 = t0 at *
  have hnm := m_isName hV0 hS.l p1.tk
  have hw := tnm_lt hV0
  generalize ht1 : tkN S.1.2 S.1.1 t0.2.2 = t1 at *
  have hnx : nx S.1 t0 = t1 := ht1
  have hV1 : TKV S.1.2 S.1.1 t1 := by rw [← hnx]; exact (nx_V hV0).1
  rw [hnx] at p2
  have fu : o1 u u2 := o1.rf.I.tr (FTc.o f1 |>.tr (FTc.o f2))
  have fv : FMk v v2 := g1.tr g2.k
  have i1 : ∀ j, j < 3 → u2.1 1 j = u.1 1 j := fun j hj => by rw [f2.i j (by omega) (by omega) (by omega) (by omega) (by omega), f1.i j (by omega) (by omega) (by omega) (by omega) (by omega), upI_j (by omega)]
  have hRC : RC T N P ((0, S.1.2), S.2) (upI u2 1 0 0) := h.c.tok (fun c c1 c2 => ⟨by rw [upI_k c1]; exact (fu c c1).1, by rw [upI_2]; exact (fu c c1).2⟩) (by rw [upI_at]; rfl) (by rw [upI_j (by omega), i1 1 (by omega)]) (by rw [upI_j (by omega), i1 2 (by omega)])
  have hRM : RM T N P ((0, S.1.2), S.2) (upI v2 0 20 0) := h.m.tok (fun c c1 c2 => ⟨by rw [upI_k c1]; exact (fv.o c c1).1, by rw [upI_2]; exact (fv.o c c1).2⟩) (by rw [upI_at]; rfl) (fun j j1 j2 => by rw [upI_j j1]; exact fv.i j j2)
  have hRR : RR T N P ((0, S.1.2), S.2) (upI u2 1 0 0) (upI v2 0 20 0) := ⟨⟨h.d.t, h.d.n, h.d.p, h.d.pl, Nat.zero_le _, fun i hi => absurd hi (Nat.not_lt_zero _), h.d.hz, h.d.pz⟩, hRC, hRM⟩
  have s1 : u1.1 1 3 = 1 ↔ isNm S.1.2 t0 := (k1.s_iff (k := 1) (by omega)).trans srt_1
  have s2 : u2.1 1 3 = 0 ↔ t1.1 = 0 := (k2.s_iff (k := 0) (by omega)).trans srt_0
  have q0 := q_pn TOk_3 hV hRC.t (w := tnm S.1.2 t0) (nm62 hw)
  have q1 := q_bn TOk_3 hV hRC.t (w := tnm S.1.2 t0) (nm62 hw)
  have q2 := q_an TOk_3 hV hRC.t (w := tnm S.1.2 t0) (nm62 hw)
  have m0 : X12_placeIn (upI v2 0 20 0) 2 0 (nI (T 0 0)) (lN (cv (tnm S.1.2 t0))) = some (oI (pnS T (tnm S.1.2 t0))) := m_pn (d := 0) (by omega) hV hRM.t hw
  have m1 : X12_placeIn (upI v2 0 20 0) 3 0 (nI (T 0 1)) (lN (cv (tnm S.1.2 t0))) = some (oI (bnS T (tnm S.1.2 t0))) := m_bn (d := 0) (by omega) hV hRM.t hw
  have m2 : X12_placeIn (upI v2 0 20 0) 4 0 (nI (T 0 2)) (lN (cv (tnm S.1.2 t0))) = some (oI (anS T (tnm S.1.2 t0))) := m_an (d := 0) (by omega) hV hRM.t hw
  have a0 : aI skM (upI v2 0 20 0) 1 0 = some (nI (T 0 0)) := (aM1 (u := upI v2 0 20 0) (a := 0) (by omega)).trans (by have := hRM.t.np; simp only [Nat.mul_zero, Nat.zero_add] at this; rw [this])
  have a1 : aI skM (upI v2 0 20 0) 1 1 = some (nI (T 0 1)) := (aM1 (u := upI v2 0 20 0) (a := 1) (by omega)).trans (by have := hRM.t.nb; simp only [Nat.mul_zero, Nat.zero_add] at this; rw [this])
  have a2 : aI skM (upI v2 0 20 0) 1 2 = some (nI (T 0 2)) := (aM1 (u := upI v2 0 20 0) (a := 2) (by omega)).trans (by have := hRM.t.na; simp only [Nat.mul_zero, Nat.zero_add] at this; rw [this])
  unfold X11_named X11_named_b23 X11_named_b54 X11_named_b73 X12_named X12_named_b35 X12_named_b36 X12_named_b119
  rw [bnd eb, bnd e2, k1.n, bnd q0, bnd q1, bnd q2, bnd d1, bnd hnm, bnd d2, p1.tk.w, p2.tk.s, bnd a0, bnd a1, bnd a2, bnd m0, bnd m1, bnd m2]
  have ht1z : nI t1.1 = 0 ↔ t1.1 = 0 := by
    have := hV1.s
    rw [nI_lit, nI_eq (by omega) (by omega)]
  by_cases z1 : isNm S.1.2 t0
  · rw [if_pos (s1.mpr z1), b2_t z1, if_neg n10]
    by_cases z2 : t1.1 = 0
    · rw [if_pos (s2.mpr z2), if_pos (ht1z.mpr z2), if_neg (show ¬ (1 : Int32) = 0 by decide), if_neg (show ¬ (1 : Int32) = 0 by decide), if_neg (show ¬ (1 : Int32) = 0 by decide)]
      by_cases x0 : x = 0
      · rw [if_pos x0, if_pos x0]
        exact ⟨_, _, _, _, _, _, _, rfl, rfl, hRR⟩
      · rw [if_neg x0, if_neg x0]
        by_cases x1 : x = 1
        · rw [if_pos x1, if_pos x1]
          exact ⟨_, _, _, _, _, _, _, rfl, rfl, hRR⟩
        · rw [if_neg x1, if_neg x1]
          by_cases x2 : x = 2
          · rw [if_pos x2, if_pos x2]
            exact ⟨_, _, _, _, _, _, _, rfl, rfl, hRR⟩
          · rw [if_neg x2, if_neg x2]
            exact ⟨_, _, _, _, _, _, _, rfl, rfl, hRR⟩
    · rw [if_neg (fun y => z2 (s2.mp y)), if_neg (fun y => z2 (ht1z.mp y)), if_neg (show ¬ (1 : Int32) = 0 by decide), if_pos rfl, if_pos rfl]
      exact ⟨_, _, _, _, _, _, _, rfl, rfl, hRR⟩
  · rw [if_neg (fun y => z1 (s1.mp y)), bnd e2, b2_f z1, if_pos z00, if_pos rfl]
    by_cases z2 : u2.1 1 3 = 0
    · rw [if_pos z2, if_pos rfl]
      exact ⟨_, _, _, _, _, _, _, rfl, rfl, hRR⟩
    · rw [if_neg z2, if_pos rfl]
      exact ⟨_, _, _, _, _, _, _, rfl, rfl, hRR⟩
end ND
