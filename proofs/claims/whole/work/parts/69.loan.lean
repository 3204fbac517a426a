/-! LINES: loan -/
section LO
variable {u0 v0 u v u1 v1 : gM} {s : tpT} {t t1 : tkT} {D : gT}
theorem BS_loan {p b c : Nat} (h : BS u0 v0 s t D u v) (hn : D 0 3 < 10) (hp : p < D 0 0) (hb : b < D 0 1) (hc : c ≤ 100000000) (h13 : v.1 13 (10 + D 0 3) = nI p) (h14 : v.1 14 (10 + D 0 3) = nI b) (h15 : v.1 15 (10 + D 0 3) = nI c) : BS u0 v0 s t (uT (uT (uT (uT D 8 (D 0 3) p) 9 (D 0 3) b) 10 (D 0 3) c) 0 3 (D 0 3 + 1)) (upI (upI (upI (upI u 129 (D 0 3) (nI p)) 130 (D 0 3) (nI b)) 131 (D 0 3) (nI c)) 117 3 (nI (D 0 3 + 1))) (upI v 1 9 (nI (D 0 3 + 1))) := by
  have hV := h.d.t
  generalize hD : uT (uT (uT (uT D 8 (D 0 3) p) 9 (D 0 3) b) 10 (D 0 3) c) 0 3 (D 0 3 + 1) = D'
  have k0 : ∀ i, i ≠ 3 → D' 0 i = D 0 i := fun i hi => by rw [← hD, uT_n (by omega), uT_n (by omega), uT_n (by omega), uT_n (by omega)]
  have k3 : D' 0 3 = D 0 3 + 1 := by rw [← hD, uT_at]
  have kr : ∀ r, r ≠ 0 → r ≠ 8 → r ≠ 9 → r ≠ 10 → D' r = D r := fun r y1 y2 y3 y4 => by funext i; rw [← hD, uT_n (by omega), uT_n (by omega), uT_n (by omega), uT_n (by omega)]
  have k8 : ∀ l, D' 8 l = if l = D 0 3 then p else D 8 l := fun l => by
    rw [← hD, uT_n (by omega), uT_n (by omega), uT_n (by omega)]
    by_cases z : l = D 0 3
    · rw [z, uT_at, if_pos rfl]
    · rw [uT_n (by omega), if_neg z]
  have k9 : ∀ l, D' 9 l = if l = D 0 3 then b else D 9 l := fun l => by
    rw [← hD, uT_n (by omega), uT_n (by omega)]
    by_cases z : l = D 0 3
    · rw [z, uT_at, if_pos rfl]
    · rw [uT_n (by omega), uT_n (by omega), if_neg z]
  have k10 : ∀ l, D' 10 l = if l = D 0 3 then c else D 10 l := fun l => by
    rw [← hD, uT_n (by omega)]
    by_cases z : l = D 0 3
    · rw [z, uT_at, if_pos rfl]
    · rw [uT_n (by omega), uT_n (by omega), uT_n (by omega), if_neg z]
  have hRC : RT 117 D' (upI (upI (upI (upI u 129 (D 0 3) (nI p)) 130 (D 0 3) (nI b)) 131 (D 0 3) (nI c)) 117 3 (nI (D 0 3 + 1))) := by
    unfold RT
    rw [k0 0 (by omega), k0 1 (by omega), k0 2 (by omega), k0 4 (by omega), k0 5 (by omega), k3, kr 11 (by omega) (by omega) (by omega) (by omega), kr 12 (by omega) (by omega) (by omega) (by omega), kr 13 (by omega) (by omega) (by omega) (by omega), kr 1 (by omega) (by omega) (by omega) (by omega), kr 2 (by omega) (by omega) (by omega) (by omega), kr 3 (by omega) (by omega) (by omega) (by omega), kr 4 (by omega) (by omega) (by omega) (by omega), kr 5 (by omega) (by omega) (by omega) (by omega), kr 6 (by omega) (by omega) (by omega) (by omega), kr 7 (by omega) (by omega) (by omega) (by omega), kr 14 (by omega) (by omega) (by omega) (by omega)]
    refine ⟨h.rc.np, h.rc.nb, h.rc.na, upI_at, h.rc.li, h.rc.gr, h.rc.pn, h.rc.bn, h.rc.an, h.rc.kd, h.rc.hm, h.rc.tc, h.rc.te, h.rc.no, h.rc.nh, h.rc.ow, h.rc.hn, fun l hl => ?_, fun l hl => ?_, fun l hl => ?_⟩
    · rw [k8, upI_k (by omega), upI_k (by omega), upI_k (by omega)]
      show (upI u 129 (D 0 3) (nI p)).1 129 l = _
      by_cases z : l = D 0 3
      · rw [if_pos z, z, upI_at]
      · rw [if_neg z, upI_j z]; exact h.rc.lp l (by omega)
    · rw [k9, upI_k (by omega), upI_k (by omega)]
      show (upI _ 130 (D 0 3) (nI b)).1 130 l = _
      by_cases z : l = D 0 3
      · rw [if_pos z, z, upI_at]
      · rw [if_neg z, upI_j z, upI_k (by omega)]; exact h.rc.lb l (by omega)
    · rw [k10, upI_k (by omega)]
      show (upI _ 131 (D 0 3) (nI c)).1 131 l = _
      by_cases z : l = D 0 3
      · rw [if_pos z, z, upI_at]
      · rw [if_neg z, upI_j z, upI_k (by omega), upI_k (by omega)]; exact h.rc.lc l (by omega)
  have hRM : RTm 1 D' (upI v 1 9 (nI (D 0 3 + 1))) := by
    unfold RTm
    rw [k0 0 (by omega), k0 1 (by omega), k0 2 (by omega), k0 4 (by omega), k0 5 (by omega), k3, kr 11 (by omega) (by omega) (by omega) (by omega), kr 12 (by omega) (by omega) (by omega) (by omega), kr 13 (by omega) (by omega) (by omega) (by omega), kr 2 (by omega) (by omega) (by omega) (by omega), kr 3 (by omega) (by omega) (by omega) (by omega), kr 4 (by omega) (by omega) (by omega) (by omega), kr 5 (by omega) (by omega) (by omega) (by omega), kr 6 (by omega) (by omega) (by omega) (by omega), kr 7 (by omega) (by omega) (by omega) (by omega), kr 14 (by omega) (by omega) (by omega) (by omega)]
    refine ⟨h.rm.np, h.rm.nb, h.rm.na, upI_at, h.rm.li, h.rm.gr, h.rm.pn, h.rm.bn, h.rm.an, h.rm.hm, h.rm.tc, h.rm.te, h.rm.no, h.rm.nh, h.rm.ow, h.rm.hn, fun l hl => ?_, fun l hl => ?_, fun l hl => ?_⟩
    · rw [k8, upI_k (by omega)]
      by_cases z : l = D 0 3
      · rw [if_pos z, z]; exact h13
      · rw [if_neg z]; exact h.rm.lp l (by omega)
    · rw [k9, upI_k (by omega)]
      by_cases z : l = D 0 3
      · rw [if_pos z, z]; exact h14
      · rw [if_neg z]; exact h.rm.lb l (by omega)
    · rw [k10, upI_k (by omega)]
      by_cases z : l = D 0 3
      · rw [if_pos z, z]; exact h15
      · rw [if_neg z]; exact h.rm.lc l (by omega)
  have hVT : VT D' := by
    unfold VT
    rw [k0 0 (by omega), k0 1 (by omega), k0 2 (by omega), k0 4 (by omega), k0 5 (by omega), k3, kr 11 (by omega) (by omega) (by omega) (by omega), kr 12 (by omega) (by omega) (by omega) (by omega), kr 13 (by omega) (by omega) (by omega) (by omega), kr 1 (by omega) (by omega) (by omega) (by omega), kr 2 (by omega) (by omega) (by omega) (by omega), kr 3 (by omega) (by omega) (by omega) (by omega), kr 4 (by omega) (by omega) (by omega) (by omega), kr 5 (by omega) (by omega) (by omega) (by omega), kr 6 (by omega) (by omega) (by omega) (by omega), kr 7 (by omega) (by omega) (by omega) (by omega), kr 14 (by omega) (by omega) (by omega) (by omega)]
    refine ⟨hV.np, hV.nb, hV.na, hn, hV.li, hV.gr, hV.kd, hV.hm, hV.tc, hV.te, hV.no, hV.nh, hV.ow, hV.od, fun l hl => ?_, fun l hl => ?_, fun l hl => ?_, hV.pn, hV.bn, hV.an, hV.hn⟩
    · rw [k8]
      by_cases z : l = D 0 3
      · rw [if_pos z]; exact hp
      · rw [if_neg z]; exact hV.lp l (by omega)
    · rw [k9]
      by_cases z : l = D 0 3
      · rw [if_pos z]; exact hb
      · rw [if_neg z]; exact hV.lb l (by omega)
    · rw [k10]
      by_cases z : l = D 0 3
      · rw [if_pos z]; exact hc
      · rw [if_neg z]; exact hV.lc l (by omega)
  refine ⟨h.V, Pc_wI (Pc_wI (Pc_wI (Pc_wI h.c (by omega) (by omega)) (by omega) (by omega)) (by omega) (by omega)) (by omega) (by omega), Pm_wI h.m (by omega) (by omega), hRC, hRM, ?_, ⟨hVT, ?_, ?_⟩, off_upI (Or.inr (by omega)) (off_upI (Or.inr (by omega)) (off_upI (Or.inr (by omega)) (off_upI (Or.inr (by omega)) h.oc))), h.om.wI (by omega) (by omega) (by unfold lo; simp)⟩
  · unfold RKm
    rw [k0 2 (by omega), kr 1 (by omega) (by omega) (by omega) (by omega)]
    exact h.rk
  · rw [k0 2 (by omega), kr 6 (by omega) (by omega) (by omega) (by omega), kr 14 (by omega) (by omega) (by omega) (by omega)]
    exact h.d.hz
  · rw [k0 0 (by omega), kr 11 (by omega) (by omega) (by omega) (by omega)]
    exact h.d.pz
theorem L_loan (hS : TS s) (h : BS u0 v0 s t D u v) (hk : tkw s.2 t = some 9) : BLn u0 v0 s t.2.2 (X0_readLoan u) v := by
  have hV := h.d.t
  have hnp := hV.np; have hnb := hV.nb; have hnl := hV.nl
  have w1 := m_isWord (i := 1) (by omega) (by omega) h.V hS.l h.m.tk
  have w2 := m_isWord (i := 2) (by omega) (by omega) h.V hS.l h.m.tk
  have w3 := m_isWord (i := 3) (by omega) (by omega) h.V hS.l h.m.tk
  have w4 := m_isWord (i := 4) (by omega) (by omega) h.V hS.l h.m.tk
  have w9 := m_isWord (i := 9) (by omega) (by omega) h.V hS.l h.m.tk
  rw [hk, show b2 (some 9 = some (jd 1)) = nI 0 from rfl] at w1
  rw [hk, show b2 (some 9 = some (jd 2)) = nI 0 from rfl] at w2
  rw [hk, show b2 (some 9 = some (jd 3)) = nI 0 from rfl] at w3
  rw [hk, show b2 (some 9 = some (jd 4)) = nI 0 from rfl] at w4
  rw [hk, show b2 (some 9 = some (jd 9)) = nI 1 from rfl] at w9
  unfold BLn
  unfold X12_readLine
  rw [bnd w1, if_pos z00, bnd w2, if_pos z00, bnd w3, if_pos z00, bnd w4, if_pos z00, bnd w9, if_neg n10]
  -- what readLoan says, readLine says
  suffices hs : (∃ u1 v1, X0_readLoan u = some (nI 0, u1) ∧ X12_readLoan v = some (nI 0, v1) ∧ BF u0 v0 u1 v1) ∨ (∃ t' D' u1 v1, X0_readLoan u = some (nI 1, u1) ∧ X12_readLoan v = some (nI 1, v1) ∧ t.2.2 ≤ t'.2.1 ∧ BS u0 v0 s t' D' u1 v1) by
    rcases hs with ⟨u1, v1, e1, e2, hF⟩ | ⟨t', D', u1, v1, e1, e2, g, hB⟩
    · refine Or.inl ⟨u1, v1, e1, ?_, hF⟩
      rw [bnd e2, if_pos z00]; rfl
    · refine Or.inr ⟨t', D', u1, v1, e1, ?_, g, hB⟩
      rw [bnd e2, if_neg n10]
  have e9 : aI skM v 1 9 = some (nI (D 0 3)) := m_many1 (k := 3) (by omega) h.rm.nl
  have i10 : (10 + nI (D 0 3) : Int32) = nI (10 + D 0 3) := by rw [nI_lit, nI_add]
  unfold X0_readLoan X12_readLoan X0_readLoan_b68 X0_readLoan_b109 X12_readLoan_b76
  rw [h.rc.nl, bnd e9, i10]
  by_cases hn : D 0 3 < 10
  · rw [if_pos (show nI (D 0 3) < 10 by rw [nI_lit, nI_ltI (by omega) (by omega)]; exact hn), if_neg (show ¬ nI (10 + D 0 3) = 20 by rw [nI_lit, nI_eq (by omega) (by omega)]; omega)]
    obtain ⟨u1, v1, e1, e2, h1, oc1, om1⟩ := b_step hS h
    have hq1 := q_pn TOk_117 hV h1.rc (w := tnm s.2 (nx s t)) (nm62 (tnm_lt h1.V))
    have hp1 := m_pn (d := 1) (by omega) hV h1.rm (w := tnm s.2 (nx s t)) (tnm_lt h1.V)
    rw [bnd e1, bnd e2, h1.c.tk.n, bnd hq1]
    rcases b_of (r := 2) (wh := 0) (mo := 10) (f := pnS D (tnm s.2 (nx s t))) hS h1 (by omega) (fun n hn => by have := pnS_lt hn; omega) (m_many1 (k := 0) (by omega) h1.rm.np) hp1 with ⟨u2, v2, c2, d2, hF⟩ | ⟨p, u2, v2, f2, g2, c2, d2, h2, n2, oc2, om2⟩
    · refine Or.inl ⟨u2, v2, ?_, ?_, hF⟩
      · rw [bnd c2, if_pos z00]; rfl
      · rw [bnd (show X12_readOf 2 0 10 v1 = some (nI 0, v2) from d2), if_pos z00]; rfl
    · have hp := pnS_lt f2
      have f13 : FRI D 13 (10 + D 0 3) := ⟨by omega, by omega, by omega, by omega, by omega⟩
      have f14 : FRI D 14 (10 + D 0 3) := ⟨by omega, by omega, by omega, by omega, by omega⟩
      have f15 : FRI D 15 (10 + D 0 3) := ⟨by omega, by omega, by omega, by omega, by omega⟩
      have h2' := h2.mI (x := nI p) f13
      rw [bnd c2, if_neg n10, bnd (show X12_readOf 2 0 10 v1 = some (nI 1, v2) from d2), if_neg n10, n2, bnd (sM13 (show 10 + D 0 3 < 20 by omega))]
      rcases b_word (i := 5) (j := 10) (by omega) (by omega) (by omega) rfl hS h2' with ⟨u3, v3, c3, d3, hF⟩ | ⟨u3, v3, c3, d3, h3, oc3, om3⟩
      · refine Or.inl ⟨u3, v3, ?_, ?_, hF⟩
        · rw [bnd (show X9_passWord 10 u2 = some (nI 0, u3) from c3), if_pos z00]; rfl
        · rw [bnd d3, if_pos z00]; rfl
      · have hq3 := q_bn TOk_117 hV h3.rc (w := tnm s.2 (nx s (nx s (nx s t)))) (nm62 (tnm_lt h3.V))
        have hp3 := m_bn (d := 1) (by omega) hV h3.rm (w := tnm s.2 (nx s (nx s (nx s t)))) (tnm_lt h3.V)
        rw [bnd (show X9_passWord 10 u2 = some (nI 1, u3) from c3), if_neg n10, bnd d3, if_neg n10, h3.c.tk.n, bnd hq3]
        rcases b_of (r := 3) (wh := 1) (mo := 6) (f := bnS D (tnm s.2 (nx s (nx s (nx s t))))) hS h3 (by omega) (fun n hn => by have := bnS_lt hn; omega) (m_many1 (k := 1) (by omega) h3.rm.nb) hp3 with ⟨u4, v4, c4, d4, hF⟩ | ⟨b, u4, v4, f4, g4, c4, d4, h4, n4, oc4, om4⟩
        · refine Or.inl ⟨u4, v4, ?_, ?_, hF⟩
          · rw [bnd c4, if_pos z00]; rfl
          · rw [bnd (show X12_readOf 3 1 6 v3 = some (nI 0, v4) from d4), if_pos z00]; rfl
        · have hb := bnS_lt f4
          have h4' := h4.mI (x := nI b) f14
          rw [bnd c4, if_neg n10, bnd (show X12_readOf 3 1 6 v3 = some (nI 1, v4) from d4), if_neg n10, n4, bnd (sM14 (show 10 + D 0 3 < 20 by omega))]
          rcases b_num (lo := 0) (hi := 100000000) hS h4' (by omega) (by omega) with ⟨u5, v5, c5, d5, hF⟩ | ⟨g5, g6, u5, v5, c5, d5, h5, n5, n6, oc5, om5⟩
          · refine Or.inl ⟨u5, v5, ?_, ?_, hF⟩
            · rw [bnd (show X9_passNumber 0 100000000 u4 = some (nI 0, u5) from c5), if_pos z00]; rfl
            · rw [bnd (show X12_readNumber 0 100000000 (upI v4 14 (10 + D 0 3) (nI b)) = some (nI 0, v5) from d5), if_pos z00]; rfl
          · have h5' := h5.mI (x := nI (tnu s.2 (nx s (nx s (nx s (nx s t)))))) f15
            have k13 : (upI v5 15 (10 + D 0 3) (nI (tnu s.2 (nx s (nx s (nx s (nx s t))))))).1 13 (10 + D 0 3) = nI p := by
              rw [upI_k (by omega), (om5.o 13 (by omega)).1, upI_k (by omega), (om4.o 13 (by omega)).1, (om3.o 13 (by omega)).1, upI_at]
            have k14 : (upI v5 15 (10 + D 0 3) (nI (tnu s.2 (nx s (nx s (nx s (nx s t))))))).1 14 (10 + D 0 3) = nI b := by
              rw [upI_k (by omega), (om5.o 14 (by omega)).1, upI_at]
            have h6 := BS_loan h5' hn hp hb g6 k13 k14 upI_at
            refine Or.inr ⟨_, _, _, _, ?_, ?_, ?_, h6⟩
            · rw [bnd (show X9_passNumber 0 100000000 u4 = some (nI 1, u5) from c5), if_neg n10, f2, f4, bnd (sC129 hn), bnd (sC130 hn), upI_k (by omega), upI_k (by omega), n5, bnd (sC131 hn), nI_s]
              rfl
            · have e9' : aI skM (upI v5 15 (10 + D 0 3) (nI (tnu s.2 (nx s (nx s (nx s (nx s t))))))) 1 9 = some (nI (D 0 3)) := m_many1 (k := 3) (by omega) h5'.rm.nl
              rw [bnd (show X12_readNumber 0 100000000 (upI v4 14 (10 + D 0 3) (nI b)) = some (nI 1, v5) from d5), if_neg n10, n6, bnd (sM15 (show 10 + D 0 3 < 20 by omega)), bnd e9', nI_s, bnd (show sI skM (upI v5 15 (10 + D 0 3) (nI (tnu s.2 (nx s (nx s (nx s (nx s t))))))) 1 9 (nI (D 0 3 + 1)) = some (upI (upI v5 15 (10 + D 0 3) (nI (tnu s.2 (nx s (nx s (nx s (nx s t))))))) 1 9 (nI (D 0 3 + 1))) from sM1 (a := 9) (by omega))]
              rfl
            · have a1 := (nx_V h.V).2; have a2 := (nx_V h1.V).2; have a3 := (nx_V h2.V).2; have a4 := (nx_V h3.V).2; have a5 := (nx_V h4.V).2
              have b1 := h1.V.l; have b2 := h2.V.l; have b3 := h3.V.l; have b4 := h4.V.l
              omega
  · rw [if_neg (show ¬ nI (D 0 3) < 10 by rw [nI_lit, nI_ltI (by omega) (by omega)]; exact hn), if_pos (show nI (10 + D 0 3) = 20 by rw [nI_lit, nI_eq (by omega) (by omega)]; omega)]
    obtain ⟨u1, v1, e1, e2, hF⟩ := b_ref (k := 5) hS (by omega) h
    refine Or.inl ⟨u1, v1, ?_, ?_, hF⟩
    · rw [bnd (show X9_refuse 5 u = some (nI 0, u1) from e1)]; rfl
    · rw [bnd (show X12_fails 5 v = some (nI 0, v1) from e2)]; rfl
end LO
