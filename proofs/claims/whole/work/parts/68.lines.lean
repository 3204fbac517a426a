/-! LINES: person, bank, limit, grace, loan -/
def BLn (u0 v0 : gM) (s : tpT) (p0 : Nat) (x : Option (Int32 × gM)) (v : gM) : Prop :=
  (∃ u1 v1, x = some (nI 0, u1) ∧ X12_readLine v = some (nI 0, v1) ∧ BF u0 v0 u1 v1) ∨
  (∃ t' D' u1 v1, x = some (nI 1, u1) ∧ X12_readLine v = X12_readLine_b207 v1 ∧ p0 ≤ t'.2.1 ∧ BS u0 v0 s t' D' u1 v1)
section LI
variable {u0 v0 u v u1 v1 : gM} {s : tpT} {t t1 : tkT} {D : gT}
theorem BS_person {w : Nat} (h : BS u0 v0 s t D u v) (hn : D 0 0 < 10) (hw : 0 < w) (hw2 : w < 27 ^ 8) (hv : v.2 2 (10 + D 0 0) = lN (cv w)) : BS u0 v0 s t (uT (uT D 11 (D 0 0) w) 0 0 (D 0 0 + 1)) (upI (upJ u 118 (D 0 0) (lN w)) 117 0 (nI (D 0 0 + 1))) (upI v 1 6 (nI (D 0 0 + 1))) := by
  have hV := h.d.t
  have g11 : ∀ p, uT (uT D 11 (D 0 0) w) 0 0 (D 0 0 + 1) 11 p = if p = D 0 0 then w else D 11 p := fun p => by
    rw [uT_n (by omega)]
    by_cases z : p = D 0 0
    · rw [z, uT_at, if_pos rfl]
    · rw [uT_n (by omega), if_neg z]
  refine ⟨h.V, Pc_wI (Pc_wJ h.c (by omega)) (by omega) (by omega), Pm_wI h.m (by omega) (by omega), ⟨upI_at, h.rc.nb, h.rc.na, h.rc.nl, h.rc.li, h.rc.gr, fun p hp => ?_, h.rc.bn, h.rc.an, h.rc.kd, h.rc.hm, h.rc.tc, h.rc.te, h.rc.no, h.rc.nh, h.rc.ow, h.rc.hn, h.rc.lp, h.rc.lb, h.rc.lc⟩, ⟨upI_at, h.rm.nb, h.rm.na, h.rm.nl, h.rm.li, h.rm.gr, fun p hp => ?_, h.rm.bn, h.rm.an, h.rm.hm, h.rm.tc, h.rm.te, h.rm.no, h.rm.nh, h.rm.ow, h.rm.hn, h.rm.lp, h.rm.lb, h.rm.lc⟩, h.rk, ⟨⟨hn, hV.nb, hV.na, hV.nl, hV.li, hV.gr, hV.kd, hV.hm, hV.tc, hV.te, hV.no, hV.nh, fun a k ha hk => Nat.lt_succ_of_lt (hV.ow a k ha hk), hV.od, fun l hl => Nat.lt_succ_of_lt (hV.lp l hl), hV.lb, hV.lc, fun p hp => ?_, hV.bn, hV.an, hV.hn⟩, h.d.hz, fun p hp => ?_⟩, off_upI (Or.inr (by omega)) (off_upJ (Or.inr (by omega)) h.oc), h.om.wI (by omega) (by omega) (by unfold lo; simp)⟩
  · have hp' : p < D 0 0 + 1 := hp
    rw [g11, upI_2]
    show (upJ u 118 (D 0 0) (lN w)).2 118 p = _
    by_cases z : p = D 0 0
    · rw [if_pos z, z, upJ_at]
    · rw [if_neg z, upJ_j z]; exact h.rc.pn p (by omega)
  · have hp' : p < D 0 0 + 1 := hp
    rw [g11, upI_2]
    by_cases z : p = D 0 0
    · rw [if_pos z, z]; exact hv
    · rw [if_neg z]; exact h.rm.pn p (by omega)
  · have hp' : p < D 0 0 + 1 := hp
    rw [g11]
    by_cases z : p = D 0 0
    · rw [if_pos z]; exact hw2
    · rw [if_neg z]; exact hV.pn p (by omega)
  · have hp' : p < D 0 0 + 1 := hp
    rw [g11]
    by_cases z : p = D 0 0
    · rw [if_pos z]; exact hw
    · rw [if_neg z]; exact h.d.pz p (by omega)
theorem BS_bank {w : Nat} (h : BS u0 v0 s t D u v) (hn : D 0 1 < 6) (hw2 : w < 27 ^ 8) (hv : v.2 3 (6 + D 0 1) = lN (cv w)) : BS u0 v0 s t (uT (uT D 12 (D 0 1) w) 0 1 (D 0 1 + 1)) (upI (upJ u 119 (D 0 1) (lN w)) 117 1 (nI (D 0 1 + 1))) (upI v 1 7 (nI (D 0 1 + 1))) := by
  have hV := h.d.t
  have g11 : ∀ p, uT (uT D 12 (D 0 1) w) 0 1 (D 0 1 + 1) 12 p = if p = D 0 1 then w else D 12 p := fun p => by
    rw [uT_n (by omega)]
    by_cases z : p = D 0 1
    · rw [z, uT_at, if_pos rfl]
    · rw [uT_n (by omega), if_neg z]
  refine ⟨h.V, Pc_wI (Pc_wJ h.c (by omega)) (by omega) (by omega), Pm_wI h.m (by omega) (by omega), ⟨h.rc.np, upI_at, h.rc.na, h.rc.nl, h.rc.li, h.rc.gr, h.rc.pn, fun p hp => ?_, h.rc.an, h.rc.kd, h.rc.hm, h.rc.tc, h.rc.te, h.rc.no, h.rc.nh, h.rc.ow, h.rc.hn, h.rc.lp, h.rc.lb, h.rc.lc⟩, ⟨h.rm.np, upI_at, h.rm.na, h.rm.nl, h.rm.li, h.rm.gr, h.rm.pn, fun p hp => ?_, h.rm.an, h.rm.hm, h.rm.tc, h.rm.te, h.rm.no, h.rm.nh, h.rm.ow, h.rm.hn, h.rm.lp, h.rm.lb, h.rm.lc⟩, h.rk, ⟨⟨hV.np, hn, hV.na, hV.nl, hV.li, hV.gr, hV.kd, fun a ha => Nat.lt_succ_of_lt (hV.hm a ha), hV.tc, hV.te, hV.no, hV.nh, hV.ow, hV.od, hV.lp, fun l hl => Nat.lt_succ_of_lt (hV.lb l hl), hV.lc, hV.pn, fun p hp => ?_, hV.an, hV.hn⟩, h.d.hz, h.d.pz⟩, off_upI (Or.inr (by omega)) (off_upJ (Or.inr (by omega)) h.oc), h.om.wI (by omega) (by omega) (by unfold lo; simp)⟩
  · have hp' : p < D 0 1 + 1 := hp
    rw [g11, upI_2]
    show (upJ u 119 (D 0 1) (lN w)).2 119 p = _
    by_cases z : p = D 0 1
    · rw [if_pos z, z, upJ_at]
    · rw [if_neg z, upJ_j z]; exact h.rc.bn p (by omega)
  · have hp' : p < D 0 1 + 1 := hp
    rw [g11, upI_2]
    by_cases z : p = D 0 1
    · rw [if_pos z, z]; exact hv
    · rw [if_neg z]; exact h.rm.bn p (by omega)
  · have hp' : p < D 0 1 + 1 := hp
    rw [g11]
    by_cases z : p = D 0 1
    · rw [if_pos z]; exact hw2
    · rw [if_neg z]; exact hV.bn p (by omega)
theorem BS_limit {w : Nat} (h : BS u0 v0 s t D u v) (hw : 1 ≤ w) (hw2 : w ≤ 100000000) : BS u0 v0 s t (uT D 0 4 w) (upI u 117 4 (nI w)) (upI v 1 10 (nI w)) := by
  have hV := h.d.t
  exact ⟨h.V, Pc_wI h.c (by omega) (by omega), Pm_wI h.m (by omega) (by omega), ⟨h.rc.np, h.rc.nb, h.rc.na, h.rc.nl, upI_at, h.rc.gr, h.rc.pn, h.rc.bn, h.rc.an, h.rc.kd, h.rc.hm, h.rc.tc, h.rc.te, h.rc.no, h.rc.nh, h.rc.ow, h.rc.hn, h.rc.lp, h.rc.lb, h.rc.lc⟩, ⟨h.rm.np, h.rm.nb, h.rm.na, h.rm.nl, upI_at, h.rm.gr, h.rm.pn, h.rm.bn, h.rm.an, h.rm.hm, h.rm.tc, h.rm.te, h.rm.no, h.rm.nh, h.rm.ow, h.rm.hn, h.rm.lp, h.rm.lb, h.rm.lc⟩, h.rk, ⟨⟨hV.np, hV.nb, hV.na, hV.nl, ⟨hw, hw2⟩, hV.gr, hV.kd, hV.hm, hV.tc, hV.te, hV.no, hV.nh, hV.ow, hV.od, hV.lp, hV.lb, hV.lc, hV.pn, hV.bn, hV.an, hV.hn⟩, h.d.hz, h.d.pz⟩, off_upI (Or.inr (by omega)) h.oc, h.om.wI (by omega) (by omega) (by unfold lo; simp)⟩
theorem BS_grace {w : Nat} (h : BS u0 v0 s t D u v) (hw2 : w ≤ 60) : BS u0 v0 s t (uT D 0 5 w) (upI u 117 5 (nI w)) (upI v 1 11 (nI w)) := by
  have hV := h.d.t
  exact ⟨h.V, Pc_wI h.c (by omega) (by omega), Pm_wI h.m (by omega) (by omega), ⟨h.rc.np, h.rc.nb, h.rc.na, h.rc.nl, h.rc.li, upI_at, h.rc.pn, h.rc.bn, h.rc.an, h.rc.kd, h.rc.hm, h.rc.tc, h.rc.te, h.rc.no, h.rc.nh, h.rc.ow, h.rc.hn, h.rc.lp, h.rc.lb, h.rc.lc⟩, ⟨h.rm.np, h.rm.nb, h.rm.na, h.rm.nl, h.rm.li, upI_at, h.rm.pn, h.rm.bn, h.rm.an, h.rm.hm, h.rm.tc, h.rm.te, h.rm.no, h.rm.nh, h.rm.ow, h.rm.hn, h.rm.lp, h.rm.lb, h.rm.lc⟩, h.rk, ⟨⟨hV.np, hV.nb, hV.na, hV.nl, hV.li, hw2, hV.kd, hV.hm, hV.tc, hV.te, hV.no, hV.nh, hV.ow, hV.od, hV.lp, hV.lb, hV.lc, hV.pn, hV.bn, hV.an, hV.hn⟩, h.d.hz, h.d.pz⟩, off_upI (Or.inr (by omega)) h.oc, h.om.wI (by omega) (by omega) (by unfold lo; simp)⟩
theorem L_person (hS : TS s) (h : BS u0 v0 s t D u v) (hk : tkw s.2 t = some 5) : BLn u0 v0 s t.2.2 (X0_readPerson u) v := by
  have hV := h.d.t
  have hnp := hV.np
  have w1 := m_isWord (i := 1) (by omega) (by omega) h.V hS.l h.m.tk
  rw [hk, show b2 (some 5 = some (jd 1)) = nI 1 from rfl] at w1
  obtain ⟨u1, v1, e1, e2, h1, oc1, om1⟩ := b_step hS h
  have hq := q_taken TOk_117 hV h1.rc (w := tnm s.2 (nx s t)) (nm62 (tnm_lt h1.V))
  have a1 : X0_readPerson u = X0_readPerson_b46 (nI (D 0 0)) (lN (tnm s.2 (nx s t))) (b2 (takB D (tnm s.2 (nx s t)) = true)) (b2 (decide (D 0 0 = 10) = true)) u1 := by
    unfold X0_readPerson
    rw [bnd e1, h1.c.tk.n, bnd hq, h1.rc.np]
    by_cases z : D 0 0 < 10
    · rw [if_pos (show nI (D 0 0) < 10 by rw [nI_lit, nI_ltI (by omega) (by omega)]; exact z), b2_f (P := decide (D 0 0 = 10) = true) (fun y => by have := of_decide_eq_true y; omega)]
      rfl
    · rw [if_neg (show ¬ nI (D 0 0) < 10 by rw [nI_lit, nI_ltI (by omega) (by omega)]; exact z), b2_t (P := decide (D 0 0 = 10) = true) (decide_eq_true (by omega))]
      rfl
  rw [a1]
  unfold X0_readPerson_b46
  unfold BLn
  unfold X12_readLine
  rw [bnd w1, if_neg n10, bnd e2]
  rcases b_new (r := 2) (wh := 0) (mo := 10) hS h1 rfl (by omega) with ⟨u2, v2, c2, d2, hF⟩ | ⟨g1, g2, u2, v2, c2, d2, h2, hv, oc2⟩
  · refine Or.inl ⟨u2, v2, ?_, ?_, hF⟩
    · rw [bnd c2, if_pos z00]; rfl
    · rw [bnd (show X12_readNew 2 0 10 v1 = some (nI 0, v2) from d2), if_pos z00]; rfl
  · have h3 := BS_person h2 g2 (tnm_pos h1.V g1) (tnm_lt h1.V) hv
    refine Or.inr ⟨_, _, _, _, ?_, ?_, ?_, h3⟩
    · rw [bnd c2, if_neg n10, bnd (sC118 g2), nI_s]; rfl
    · rw [bnd (show X12_readNew 2 0 10 v1 = some (nI 1, v2) from d2), if_neg n10, bnd (show aI skM v2 1 6 = some (nI (D 0 0)) from m_many1 (k := 0) (by omega) h2.rm.np), nI_s, bnd (show sI skM v2 1 6 (nI (D 0 0 + 1)) = some (upI v2 1 6 (nI (D 0 0 + 1))) from sM1 (a := 6) (by omega))]
    · have := (nx_V h.V).2; have := (nx_V h1.V).2; have := h1.V.l; omega
theorem L_bank (hS : TS s) (h : BS u0 v0 s t D u v) (hk : tkw s.2 t = some 6) : BLn u0 v0 s t.2.2 (X0_readBank u) v := by
  have hV := h.d.t
  have hnb := hV.nb
  have w1 := m_isWord (i := 1) (by omega) (by omega) h.V hS.l h.m.tk
  have w2 := m_isWord (i := 2) (by omega) (by omega) h.V hS.l h.m.tk
  rw [hk, show b2 (some 6 = some (jd 1)) = nI 0 from rfl] at w1
  rw [hk, show b2 (some 6 = some (jd 2)) = nI 1 from rfl] at w2
  obtain ⟨u1, v1, e1, e2, h1, oc1, om1⟩ := b_step hS h
  have hq := q_taken TOk_117 hV h1.rc (w := tnm s.2 (nx s t)) (nm62 (tnm_lt h1.V))
  have a1 : X0_readBank u = X0_readBank_b46 (nI (D 0 1)) (lN (tnm s.2 (nx s t))) (b2 (takB D (tnm s.2 (nx s t)) = true)) (b2 (decide (D 0 1 = 6) = true)) u1 := by
    unfold X0_readBank
    rw [bnd e1, h1.c.tk.n, bnd hq, h1.rc.nb]
    by_cases z : D 0 1 < 6
    · rw [if_pos (show nI (D 0 1) < 6 by rw [nI_lit, nI_ltI (by omega) (by omega)]; exact z), b2_f (P := decide (D 0 1 = 6) = true) (fun y => by have := of_decide_eq_true y; omega)]
      rfl
    · rw [if_neg (show ¬ nI (D 0 1) < 6 by rw [nI_lit, nI_ltI (by omega) (by omega)]; exact z), b2_t (P := decide (D 0 1 = 6) = true) (decide_eq_true (by omega))]
      rfl
  rw [a1]
  unfold X0_readBank_b46
  unfold BLn
  unfold X12_readLine
  rw [bnd w1, if_pos z00, bnd w2, if_neg n10, bnd e2]
  rcases b_new (r := 3) (wh := 1) (mo := 6) hS h1 rfl (by omega) with ⟨u2, v2, c2, d2, hF⟩ | ⟨g1, g2, u2, v2, c2, d2, h2, hv, oc2⟩
  · refine Or.inl ⟨u2, v2, ?_, ?_, hF⟩
    · rw [bnd c2, if_pos z00]; rfl
    · rw [bnd (show X12_readNew 3 1 6 v1 = some (nI 0, v2) from d2), if_pos z00]; rfl
  · have h3 := BS_bank h2 g2 (tnm_lt h1.V) hv
    refine Or.inr ⟨_, _, _, _, ?_, ?_, ?_, h3⟩
    · rw [bnd c2, if_neg n10, bnd (sC119 g2), nI_s]; rfl
    · rw [bnd (show X12_readNew 3 1 6 v1 = some (nI 1, v2) from d2), if_neg n10, bnd (show aI skM v2 1 7 = some (nI (D 0 1)) from m_many1 (k := 1) (by omega) h2.rm.nb), nI_s, bnd (show sI skM v2 1 7 (nI (D 0 1 + 1)) = some (upI v2 1 7 (nI (D 0 1 + 1))) from sM1 (a := 7) (by omega))]
    · have := (nx_V h.V).2; have := (nx_V h1.V).2; have := h1.V.l; omega
theorem L_limit (hS : TS s) (h : BS u0 v0 s t D u v) (hk : tkw s.2 t = some 7) : BLn u0 v0 s t.2.2 (X0_readLimit u) v := by
  have w1 := m_isWord (i := 1) (by omega) (by omega) h.V hS.l h.m.tk
  have w2 := m_isWord (i := 2) (by omega) (by omega) h.V hS.l h.m.tk
  have w3 := m_isWord (i := 3) (by omega) (by omega) h.V hS.l h.m.tk
  rw [hk, show b2 (some 7 = some (jd 1)) = nI 0 from rfl] at w1
  rw [hk, show b2 (some 7 = some (jd 2)) = nI 0 from rfl] at w2
  rw [hk, show b2 (some 7 = some (jd 3)) = nI 1 from rfl] at w3
  obtain ⟨u1, v1, e1, e2, h1, oc1, om1⟩ := b_step hS h
  unfold BLn
  unfold X0_readLimit X12_readLine
  rw [bnd w1, if_pos z00, bnd w2, if_pos z00, bnd w3, if_neg n10, bnd e1, bnd e2]
  rcases b_num (lo := 1) (hi := 100000000) hS h1 (by omega) (by omega) with ⟨u2, v2, c2, d2, hF⟩ | ⟨g1, g2, u2, v2, c2, d2, h2, n1, n2, oc2, om2⟩
  · refine Or.inl ⟨u2, v2, ?_, ?_, hF⟩
    · rw [bnd (show X9_passNumber 1 100000000 u1 = some (nI 0, u2) from c2), if_pos z00]; rfl
    · rw [bnd (show X12_readNumber 1 100000000 v1 = some (nI 0, v2) from d2), if_pos z00]; rfl
  · have h3 := BS_limit h2 g1 g2
    refine Or.inr ⟨_, _, _, _, ?_, ?_, ?_, h3⟩
    · rw [bnd (show X9_passNumber 1 100000000 u1 = some (nI 1, u2) from c2), if_neg n10, n1]; rfl
    · rw [bnd (show X12_readNumber 1 100000000 v1 = some (nI 1, v2) from d2), if_neg n10, n2, bnd (show sI skM v2 1 10 (nI (tnu s.2 (nx s t))) = some (upI v2 1 10 (nI (tnu s.2 (nx s t)))) from sM1 (a := 10) (by omega))]
    · have := (nx_V h.V).2; have := (nx_V h1.V).2; have := h1.V.l; omega
theorem L_grace (hS : TS s) (h : BS u0 v0 s t D u v) (hk : tkw s.2 t = some 8) : BLn u0 v0 s t.2.2 (X0_readGrace u) v := by
  have w1 := m_isWord (i := 1) (by omega) (by omega) h.V hS.l h.m.tk
  have w2 := m_isWord (i := 2) (by omega) (by omega) h.V hS.l h.m.tk
  have w3 := m_isWord (i := 3) (by omega) (by omega) h.V hS.l h.m.tk
  have w4 := m_isWord (i := 4) (by omega) (by omega) h.V hS.l h.m.tk
  rw [hk, show b2 (some 8 = some (jd 1)) = nI 0 from rfl] at w1
  rw [hk, show b2 (some 8 = some (jd 2)) = nI 0 from rfl] at w2
  rw [hk, show b2 (some 8 = some (jd 3)) = nI 0 from rfl] at w3
  rw [hk, show b2 (some 8 = some (jd 4)) = nI 1 from rfl] at w4
  obtain ⟨u1, v1, e1, e2, h1, oc1, om1⟩ := b_step hS h
  unfold BLn
  unfold X0_readGrace X12_readLine
  rw [bnd w1, if_pos z00, bnd w2, if_pos z00, bnd w3, if_pos z00, bnd w4, if_neg n10, bnd e1, bnd e2]
  rcases b_num (lo := 0) (hi := 60) hS h1 (by omega) (by omega) with ⟨u2, v2, c2, d2, hF⟩ | ⟨g1, g2, u2, v2, c2, d2, h2, n1, n2, oc2, om2⟩
  · refine Or.inl ⟨u2, v2, ?_, ?_, hF⟩
    · rw [bnd (show X9_passNumber 0 60 u1 = some (nI 0, u2) from c2), if_pos z00]; rfl
    · rw [bnd (show X12_readNumber 0 60 v1 = some (nI 0, v2) from d2), if_pos z00]; rfl
  · have h3 := BS_grace h2 g2
    refine Or.inr ⟨_, _, _, _, ?_, ?_, ?_, h3⟩
    · rw [bnd (show X9_passNumber 0 60 u1 = some (nI 1, u2) from c2), if_neg n10, n1]; rfl
    · rw [bnd (show X12_readNumber 0 60 v1 = some (nI 1, v2) from d2), if_neg n10, n2, bnd (show sI skM v2 1 11 (nI (tnu s.2 (nx s t))) = some (upI v2 1 11 (nI (tnu s.2 (nx s t)))) from sM1 (a := 11) (by omega))]
    · have := (nx_V h.V).2; have := (nx_V h1.V).2; have := h1.V.l; omega
end LI
