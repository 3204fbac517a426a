/-! LINES: an ACCOUNT, read -/
section AC2
variable {u0 v0 u v u1 v1 : gM} {s : tpT} {t t1 : tkT} {D : gT} {kd hb c te m hm w : Nat} {O H : Nat → Nat}
theorem OWn.o (h : OWn D m O u v) (o : o1 u u1) (f : FMk v v1) : OWn D m O u1 v1 := h.mv (o 125 (by omega)).1 (o 127 (by omega)).1 (f.o 7 (by omega)).1 (f.o 8 (by omega)).1
theorem HRn.o (h : HRn D m H u v) (o : o1 u u1) (f : FMk v v1) : HRn D m H u1 v1 := h.mv (o 126 (by omega)).1 (o 128 (by omega)).2 (f.o 9 (by omega)).1 (f.o 10 (by omega)).2
/-- from COINS on -/
theorem b_tail (hS : TS s) (h : BS u0 v0 s t D u v) (ha : D 0 2 < 24) (hkd : kd ≤ 4) (hhb : hb < D 0 1) (hm1 : 1 ≤ m ∧ m ≤ 4) (hhm : hm ≤ 6) (hOw : OWn D m O u v) (hHr : HRn D hm H u v) (hw : w < 27 ^ 8) (m5 : v.1 5 (24 + D 0 2) = nI kd) (m6 : v.1 6 (24 + D 0 2) = nI hb) (m12 : v.1 12 (24 + D 0 2) = nI 0) (m4 : v.2 4 (24 + D 0 2) = lN (cv w)) :
    (∃ u1 v1, X0_readAccount_b154 (nI kd) (nI (D 0 2)) (lN w) (nI hb) u = some (nI 0, u1) ∧ X12_readAccount_b142 (nI kd) (nI (24 + D 0 2)) v = some (nI 0, v1) ∧ BF u0 v0 u1 v1) ∨
    (∃ t' D' u1 v1, X0_readAccount_b154 (nI kd) (nI (D 0 2)) (lN w) (nI hb) u = some (nI 1, u1) ∧ X12_readAccount_b142 (nI kd) (nI (24 + D 0 2)) v = some (nI 1, v1) ∧ t.2.2 ≤ t'.2.1 ∧ BS u0 v0 s t' D' u1 v1) := by
  have hs3 := h.V.s
  have hll := h.V.l
  have hmm := h.V.m
  have hsl := hS.l
  have hub := tnu_lt h.V
  unfold X0_readAccount_b154 X0_readAccount_b171
  by_cases hF : kd = 1 ∧ m < 2 ∧ isNu t ∧ tnu s.2 t ≤ 100000000
  · obtain ⟨f1, f2, f3, f4⟩ := hF
    obtain ⟨u1, c1, d1, oo⟩ := c_ref (k := 6) h.c
    obtain ⟨v1, c2, d2, om⟩ := m_ref (k := 6) h.m
    have eC : X0_readCoins (nI (D 0 2)) (nI kd) u = some (nI 0, u1) := by
      unfold X0_readCoins X0_readCoins_b23
      rw [if_pos (show nI kd = 1 by rw [f1]; rfl), bnd (aC125 ha), hOw.c, if_neg (show ¬ (2 : Int32) ≤ nI m by rw [nI_lit, nI_leI (by omega) (by omega)]; omega), if_neg (show ¬ (1 : Int32) = 0 by decide), if_pos (show u.1 1 3 = 3 from (h.c.tk.s_iff (k := 3) (by omega)).mpr (srt_3.mpr f3)), h.c.tk.m, if_neg (show ¬ (100000000 : Int32) < nI (tnu s.2 t) by rw [nI_lit, nI_ltI (by omega) (by omega)]; omega)]
      exact c1
    refine Or.inl ⟨u1, v1, ?_, ?_, h.no hS (by omega) d1 oo d2 om⟩
    · rw [bnd eC, if_pos z00]; rfl
    · unfold X12_readAccount_b142
      rw [h.m.tk.s, if_pos (show nI t.1 = 2 by rw [f3.1]; rfl), h.m.tk.q, h.m.tk.p, pk_sub hll, if_neg (show ¬ (9 : Int32) < nI (t.2.2 - t.2.1) by have := f3.2; rw [nI_lit, nI_ltI (by omega) (by omega)]; omega), h.m.tk.m, if_neg (show ¬ 0 < lg_cmp (lN (tnu s.2 t)) 100000000 by rw [nI_lit, lg_gt, lN_lit, lN_ltI (by omega) (by omega)]; omega), if_pos (show nI kd = 1 by rw [f1]; rfl), bnd (aM7 (show 24 + D 0 2 < 48 by omega)), hOw.x, if_neg (show ¬ (2 : Int32) ≤ nI m by rw [nI_lit, nI_leI (by omega) (by omega)]; omega)]
      exact c2
  · have eC : X0_readCoins (nI (D 0 2)) (nI kd) u = X0_readCoins_b61 (nI (D 0 2)) u := by
      unfold X0_readCoins X0_readCoins_b22 X0_readCoins_b23
      by_cases f1 : kd = 1
      · rw [if_pos (show nI kd = 1 by rw [f1]; rfl), bnd (aC125 ha), hOw.c]
        by_cases f2 : m < 2
        · rw [if_neg (show ¬ (2 : Int32) ≤ nI m by rw [nI_lit, nI_leI (by omega) (by omega)]; omega), if_neg (show ¬ (1 : Int32) = 0 by decide)]
          by_cases f3 : isNu t
          · rw [if_pos (show u.1 1 3 = 3 from (h.c.tk.s_iff (k := 3) (by omega)).mpr (srt_3.mpr f3)), h.c.tk.m, if_pos (show (100000000 : Int32) < nI (tnu s.2 t) by rw [nI_lit, nI_ltI (by omega) (by omega)]; exact Nat.lt_of_not_le (fun z => hF ⟨f1, f2, f3, z⟩))]
          · rw [if_neg (show ¬ u.1 1 3 = 3 from fun z => f3 (srt_3.mp ((h.c.tk.s_iff (k := 3) (by omega)).mp z)))]
        · rw [if_pos (show (2 : Int32) ≤ nI m by rw [nI_lit, nI_leI (by omega) (by omega)]; omega), if_pos rfl]
      · rw [if_neg (show ¬ nI kd = 1 by rw [nI_lit, nI_eq (by omega) (by omega)]; exact f1), if_pos rfl]
    have eM : X12_readAccount_b142 (nI kd) (nI (24 + D 0 2)) v = X12_readAccount_b197 (nI (24 + D 0 2)) v := by
      unfold X12_readAccount_b142
      rw [h.m.tk.s, h.m.tk.q, h.m.tk.p, pk_sub hll, h.m.tk.m]
      by_cases f3 : isNu t
      · rw [if_pos (show nI t.1 = 2 by rw [f3.1]; rfl), if_neg (show ¬ (9 : Int32) < nI (t.2.2 - t.2.1) by have := f3.2; rw [nI_lit, nI_ltI (by omega) (by omega)]; omega)]
        by_cases f4 : tnu s.2 t ≤ 100000000
        · rw [if_neg (show ¬ 0 < lg_cmp (lN (tnu s.2 t)) 100000000 by rw [nI_lit, lg_gt, lN_lit, lN_ltI (by omega) (by omega)]; omega)]
          by_cases f1 : kd = 1
          · rw [if_pos (show nI kd = 1 by rw [f1]; rfl), bnd (aM7 (show 24 + D 0 2 < 48 by omega)), hOw.x, if_pos (show (2 : Int32) ≤ nI m by rw [nI_lit, nI_leI (by omega) (by omega)]; exact Nat.le_of_not_lt (fun z => hF ⟨f1, z, f3, f4⟩))]
          · rw [if_neg (show ¬ nI kd = 1 by rw [nI_lit, nI_eq (by omega) (by omega)]; exact f1)]
        · rw [if_pos (show 0 < lg_cmp (lN (tnu s.2 t)) 100000000 by rw [nI_lit, lg_gt, lN_lit, lN_ltI (by omega) (by omega)]; omega)]
      · by_cases g1 : t.1 = 2
        · rw [if_pos (show nI t.1 = 2 by rw [g1]; rfl), if_pos (show (9 : Int32) < nI (t.2.2 - t.2.1) by rw [nI_lit, nI_ltI (by omega) (by omega)]; exact Nat.lt_of_not_le (fun z => f3 ⟨g1, z⟩))]
        · rw [if_neg (show ¬ nI t.1 = 2 by rw [nI_lit, nI_eq (by omega) (by omega)]; exact g1)]
    rw [eC, eM]
    unfold X0_readCoins_b61 X12_readAccount_b197 X12_readAccount_b256
    rcases b_num (lo := 0) (hi := 100000000) hS h (by omega) (by omega) with ⟨u2, v2, c2, d2, hF⟩ | ⟨g1, g2, u2, v2, c2, d2, h2, n1, n2, oc2, om2⟩
    · refine Or.inl ⟨u2, v2, ?_, ?_, hF⟩
      · rw [bnd (show X9_passNumber 0 100000000 u = some (nI 0, u2) from c2), if_pos z00]; rfl
      · rw [bnd (show X12_readNumber 0 100000000 v = some (nI 0, v2) from d2), if_pos z00]; rfl
    · have f123 : FCI D 123 (D 0 2) := ⟨by omega, by omega, by omega, by omega⟩
      have f124 : FCI D 124 (D 0 2) := ⟨by omega, by omega, by omega, by omega⟩
      have f11 : FRI D 11 (24 + D 0 2) := ⟨by omega, by omega, by omega, by omega, by omega⟩
      have f12 : FRI D 12 (24 + D 0 2) := ⟨by omega, by omega, by omega, by omega, by omega⟩
      have h3 := ((h2.cI (x := nI (tnu s.2 t)) f123).cI (x := 0) f124).mI (x := nI (tnu s.2 t)) f11
      have ow3 : OWn D m O (upI (upI u2 123 (D 0 2) (nI (tnu s.2 t))) 124 (D 0 2) 0) (upI v2 11 (24 + D 0 2) (nI (tnu s.2 t))) := (hOw.o oc2 om2).mv rfl rfl rfl rfl
      have hr3 : HRn D hm H (upI (upI u2 123 (D 0 2) (nI (tnu s.2 t))) 124 (D 0 2) 0) (upI v2 11 (24 + D 0 2) (nI (tnu s.2 t))) := (hHr.o oc2 om2).mv rfl rfl rfl rfl
      have w8 := m_isWord (i := 8) (by omega) (by omega) h3.V hS.l h3.m.tk
      rw [show jd 8 = 13 from rfl] at w8
      have k5 : (upI v2 11 (24 + D 0 2) (nI (tnu s.2 t))).1 5 (24 + D 0 2) = nI kd := by rw [upI_k (by omega), (om2.o 5 (by omega)).1]; exact m5
      have k6 : (upI v2 11 (24 + D 0 2) (nI (tnu s.2 t))).1 6 (24 + D 0 2) = nI hb := by rw [upI_k (by omega), (om2.o 6 (by omega)).1]; exact m6
      have k12 : (upI v2 11 (24 + D 0 2) (nI (tnu s.2 t))).1 12 (24 + D 0 2) = nI 0 := by rw [upI_k (by omega), (om2.o 12 (by omega)).1]; exact m12
      have k4 : (upI v2 11 (24 + D 0 2) (nI (tnu s.2 t))).2 4 (24 + D 0 2) = lN (cv w) := by rw [upI_2, (om2.o 4 (by omega)).2]; exact m4
      have eC2 : ((X9_passNumber 0 100000000 u).bind fun w68 => (if w68.1 = 0 then some (0, w68.2) else ((sI skC w68.2 123 (nI (D 0 2)) (w68.2.1 1 6)).bind fun u91 => some (1, u91)))) = some (nI 1, upI u2 123 (D 0 2) (nI (tnu s.2 t))) := by
        rw [bnd (show X9_passNumber 0 100000000 u = some (nI 1, u2) from c2), if_neg n10, n1, bnd (sC123 ha)]
        rfl
      have hst : ∀ (te : Nat) (u4 v4 : gM) (t4 : tkT), te ≤ 60 → t.2.2 ≤ t4.2.1 → BS u0 v0 s t4 D u4 v4 → OWn D m O u4 v4 → HRn D hm H u4 v4 → u4.1 123 (D 0 2) = nI (tnu s.2 t) → u4.1 124 (D 0 2) = nI te → v4.1 5 (24 + D 0 2) = nI kd → v4.1 6 (24 + D 0 2) = nI hb → v4.1 11 (24 + D 0 2) = nI (tnu s.2 t) → v4.1 12 (24 + D 0 2) = nI te → v4.2 4 (24 + D 0 2) = lN (cv w) → ∃ t' D' u5 v5, ((sJ skC u4 120 (nI (D 0 2)) (lN w)).bind fun u182 => ((sI skC u182 121 (nI (D 0 2)) (nI kd)).bind fun u192 => ((sI skC u192 122 (nI (D 0 2)) (nI hb)).bind fun u203 => some ((1 : Int32), upI u203 117 2 (nI (D 0 2) + 1))))) = some (nI 1, u5) ∧ ((aI skM v4 1 8).bind fun v263 => ((sI skM v4 1 8 (v263 + 1)).bind fun u266 => some ((1 : Int32), u266))) = some (nI 1, v5) ∧ t.2.2 ≤ t'.2.1 ∧ BS u0 v0 s t' D' u5 v5 := by
        intro te u4 v4 t4 hte htt h4 ow4 hr4 a1 a2 a3 a4 a5 a6 a7
        have h5 := BS_account h4 ha hkd hhb g2 hte hm1 hhm ow4 hr4 hw a1 a2 a3 a4 a5 a6 a7
        refine ⟨t4, _, _, _, ?_, ?_, htt, h5⟩
        · rw [bnd (sC120 ha), bnd (sC121 ha), bnd (sC122 ha), nI_s]
          rfl
        · rw [bnd (show aI skM v4 1 8 = some (nI (D 0 2)) from m_many1 (k := 2) (by omega) h4.rm.na), nI_s, bnd (show sI skM v4 1 8 (nI (D 0 2 + 1)) = some (upI v4 1 8 (nI (D 0 2 + 1))) from sM1 (a := 8) (by omega))]
          rfl
      have eM2 : ∀ F : gM → Option (Int32 × gM), ((X12_readNumber 0 100000000 v).bind fun w202 => (if w202.1 = 0 then some (0, w202.2) else ((sI skM w202.2 11 (nI (24 + D 0 2)) (w202.2.1 0 31)).bind fun u219 => F u219))) = F (upI v2 11 (24 + D 0 2) (nI (tnu s.2 t))) := by
        intro F
        rw [bnd (show X12_readNumber 0 100000000 v = some (nI 1, v2) from d2), if_neg n10, n2, bnd (sM11 (show 24 + D 0 2 < 48 by omega))]
      rw [eM2, bnd w8, bnd eC2, if_neg n10]
      unfold X0_readTerm
      dsimp only
      by_cases hk : tkw s.2 (nx s t) = some 13
      · obtain ⟨u4, v4, e4, e5, h4, oc4, om4⟩ := b_step hS h3
        have w4' : (upI (upI u2 123 (D 0 2) (nI (tnu s.2 t))) 124 (D 0 2) 0).1 1 4 = 13 := by rw [h3.c.tk.w, hk]; rfl
        rw [bnd (sC124 ha), if_pos w4', bnd e4, b2_t hk, if_neg n10, bnd e5]
        rcases b_num (lo := 1) (hi := 60) hS h4 (by omega) (by omega) with ⟨u6, v6, c6, d6, hF⟩ | ⟨g3, g4, u6, v6, c6, d6, h6, n3, n4, oc6, om6⟩
        · refine Or.inl ⟨u6, v6, ?_, ?_, hF⟩
          · rw [bnd (show X9_passNumber 1 60 u4 = some (nI 0, u6) from c6), if_pos z00]; rfl
          · rw [bnd (show X12_readNumber 1 60 v4 = some (nI 0, v6) from d6), if_pos z00]; rfl
        · have h7 := (h6.cI (x := nI (tnu s.2 (nx s (nx s t)))) f124).mI (x := nI (tnu s.2 (nx s (nx s t)))) f12
          have ow7 : OWn D m O (upI u6 124 (D 0 2) (nI (tnu s.2 (nx s (nx s t))))) (upI v6 12 (24 + D 0 2) (nI (tnu s.2 (nx s (nx s t))))) := ((ow3.o oc4 om4).o oc6 om6).mv rfl rfl rfl rfl
          have hr7 : HRn D hm H (upI u6 124 (D 0 2) (nI (tnu s.2 (nx s (nx s t))))) (upI v6 12 (24 + D 0 2) (nI (tnu s.2 (nx s (nx s t))))) := ((hr3.o oc4 om4).o oc6 om6).mv rfl rfl rfl rfl
          have tt : t.2.2 ≤ (nx s (nx s (nx s t))).2.1 := by
            have a1 := (nx_V h.V).2; have a2 := (nx_V h3.V).2; have a3 := (nx_V h4.V).2
            have b1 := h3.V.l; have b2 := h4.V.l
            omega
          obtain ⟨t', D', u8, v8, e8, e9, g8, h8⟩ := hst (tnu s.2 (nx s (nx s t))) _ _ _ g4 tt h7 ow7 hr7 (by rw [upI_k (by omega), (oc6 123 (by omega)).1, (oc4 123 (by omega)).1, upI_k (by omega), upI_at]) upI_at (by rw [upI_k (by omega), (om6.o 5 (by omega)).1, (om4.o 5 (by omega)).1]; exact k5) (by rw [upI_k (by omega), (om6.o 6 (by omega)).1, (om4.o 6 (by omega)).1]; exact k6) (by rw [upI_k (by omega), (om6.o 11 (by omega)).1, (om4.o 11 (by omega)).1, upI_at]) upI_at (by rw [upI_2, (om6.o 4 (by omega)).2, (om4.o 4 (by omega)).2]; exact k4)
          refine Or.inr ⟨t', D', u8, v8, ?_, ?_, g8, h8⟩
          · rw [bnd (show X9_passNumber 1 60 u4 = some (nI 1, u6) from c6), if_neg n10, n3, bnd (sC124 ha), Option.bind_some, if_neg (show ¬ (1 : Int32) = 0 by decide)]
            exact e8
          · rw [bnd (show X12_readNumber 1 60 v4 = some (nI 1, v6) from d6), if_neg n10, n4, bnd (sM12 (show 24 + D 0 2 < 48 by omega))]
            exact e9
      · have w4' : ¬ (upI (upI u2 123 (D 0 2) (nI (tnu s.2 t))) 124 (D 0 2) 0).1 1 4 = 13 := by
          rw [h3.c.tk.w]
          exact fun z => hk ((oI_nI (fun n hn => by have := tkw_lt hn; omega) (show 13 < 2 ^ 31 by omega)).mp z)
        obtain ⟨t', D', u8, v8, e8, e9, g8, h8⟩ := hst 0 _ _ _ (by omega) (nx_V h.V).2 h3 ow3 hr3 (by rw [upI_k (by omega), upI_at]) upI_at k5 k6 upI_at k12 k4
        refine Or.inr ⟨t', D', u8, v8, ?_, ?_, g8, h8⟩
        · rw [bnd (sC124 ha), if_neg w4', Option.bind_some, if_neg (show ¬ (1 : Int32) = 0 by decide)]
          exact e8
        · rw [b2_f hk, if_pos z00]
          exact e9
end AC2
