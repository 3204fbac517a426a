/-! day -/
section DY
variable {T : gT} {N N' : gN} {P : List gN} {S : gS} {u v u1 v1 u' v' : gM} {nx i j a b : Nat} {L : List (Nat × Nat × Nat)}
theorem RR.ref (h : RR T N P S u v) (o : off sX u u') (p : off sY v v') : RR T N P S u' v' :=
  ⟨h.d, h.c.mv (fun c hc => o c (by intro z; have z1 : 137 ≤ c := z; omega)), h.m.mv (fun c hc _ => p c (by intro z; have z1 : 20 ≤ c := z; omega))⟩
theorem RR.dn (h : RR T N P S u v) (o : off sDc u u') (p : off sDm v v') (hn : RN 18 T N' u') (hm : RNm (v'.1 16) T N') (hV : VN T N') : RR T N' P S u' v' := by
  have oc : ∀ c, c < 18 ∨ (29 < c ∧ c < 137) → u'.1 c = u.1 c ∧ u'.2 c = u.2 c := fun c hc => o c (by intro z; have z1 : (18 ≤ c ∧ c ≤ 29) ∨ 137 ≤ c := z; omega)
  have om : ∀ c, c < 20 → c ≠ 16 → v'.1 c = v.1 c ∧ v'.2 c = v.2 c := fun c c1 c2 => p c (by intro z; have z1 : c = 16 ∨ 20 ≤ c := z; omega)
  refine ⟨⟨h.d.t, hV, h.d.p, h.d.pl, h.d.tl, h.d.tp, h.d.hz, h.d.pz⟩, ⟨h.c.t.mv (fun c _ c2 => oc c (by omega)), hn, ?_, ?_, ?_, ?_, ?_, ?_, ?_⟩, ⟨h.m.t.mv (fun c _ c2 => om c (by omega) (by omega)), ?_, hm, ?_, ?_, ?_, ?_, ?_, ?_, ?_, ?_, ?_⟩⟩
  · rw [(oc 30 (by omega)).1]; exact h.c.pc
  · obtain ⟨nx, g1, g2, g3⟩ := h.c.pr
    refine ⟨nx, g1, by rw [(oc 30 (by omega)).1]; exact g2, fun j Q hj => (g3 j Q hj).mv (fun c c1 c2 => oc c (by have := Nat.mod_lt (nx + 6 - j) (y := 7) (by decide); omega))⟩
  · rw [(oc 1 (by omega)).1]; exact h.c.tl
  · rw [(oc 2 (by omega)).1]; exact h.c.tp
  · rw [(oc 1 (by omega)).1]; exact h.c.fa
  · rw [(oc 1 (by omega)).1]; exact h.c.fp
  · rw [(oc 0 (by omega)).1]; exact h.c.dt
  · have := h.m.k
    unfold RKm at *
    rw [(om 5 (by omega) (by omega)).1]; exact this
  · rw [(om 0 (by omega) (by omega)).1]; exact h.m.pc
  · rw [(om 17 (by omega) (by omega)).1]; exact h.m.pr
  · rw [(om 0 (by omega) (by omega)).1]; exact h.m.tl
  · rw [(om 19 (by omega) (by omega)).1]; exact h.m.tp
  · rw [(om 0 (by omega) (by omega)).1]; exact h.m.fa
  · rw [(om 0 (by omega) (by omega)).1]; exact h.m.fp
  · rw [(om 0 (by omega) (by omega)).1]; exact h.m.oa
  · rw [(om 0 (by omega) (by omega)).1]; exact h.m.mh
  · rw [(om 0 (by omega) (by omega)).1]; exact h.m.dt
theorem RP.mv (h : RP nx T N P u) (e : ∀ c, 30 ≤ c → c ≤ 115 → u'.1 c = u.1 c ∧ u'.2 c = u.2 c) : RP nx T N P u' := by
  have hl := h.l
  refine ⟨h.l, by rw [(e 30 (by omega) (by omega)).1]; exact h.x, h.m.mv (fun c c1 c2 => e c (by omega) (by omega)), fun j Q hj => (h.p j Q hj).mv (fun c c1 c2 => e c (by omega) (by have := Nat.mod_lt (nx + 6 - j) (y := 7) (by decide); omega))⟩
/-- what was kept counts -/
theorem kept (h : RR T N' P S u v) (hVN : VN T N) (hP : RP nx T N P u) (h18 : RNm (v.1 18) T N) : ∃ u' v', X7_confirm (nI 1) u = some (nI 1, u') ∧ X12_keeps v = some v' ∧ RR T N' ((N :: P).take 6) S u' v' := by
  have hV := h.d.t
  have hpl := h.d.pl
  obtain ⟨u3, e3, o3, k3, nx', l3, x3, w3⟩ := q_conf1 hP h.c.pc hpl
  have oc3 : ∀ c, c ≠ 30 → u3.1 c = u.1 c ∧ u3.2 c = u.2 c := fun c hc => o3 c hc
  obtain ⟨v3, f3, g1, g2, g3, g4⟩ := m_keeps (v := v) (P := P) (M := N) hV hpl h.m.pc h18 h.m.pr
  refine ⟨u3, v3, e3, f3, ⟨hV, h.d.n, fun Q hQ => ?_, by rw [List.length_take]; omega, h.d.tl, h.d.tp, h.d.hz, h.d.pz⟩, ?_, ?_⟩
  · rcases List.mem_cons.mp (List.mem_of_mem_take hQ) with z | z
    · rw [z]; exact hVN
    · exact h.d.p Q z
  · refine ⟨h.c.t.mv (fun c _ c2 => oc3 c (by omega)), h.c.n.mv (fun c _ c2 => oc3 c (by omega)), k3, ⟨nx', l3, x3, w3⟩, ?_, ?_, ?_, ?_, ?_⟩
    · rw [(oc3 1 (by omega)).1]; exact h.c.tl
    · rw [(oc3 2 (by omega)).1]; exact h.c.tp
    · rw [(oc3 1 (by omega)).1]; exact h.c.fa
    · rw [(oc3 1 (by omega)).1]; exact h.c.fp
    · rw [(oc3 0 (by omega)).1]; exact h.c.dt
  · refine ⟨h.m.t.mv (fun c c1 c2 => g1 c c1 (by omega)), ?_, ?_, g3, g4, ?_, ?_, ?_, ?_, ?_, ?_, ?_⟩
    · have := h.m.k
      unfold RKm at *
      rw [(g1 5 (by omega) (by omega)).1]; exact this
    · rw [(g1 16 (by omega) (by omega)).1]; exact h.m.n
    · rw [g2 20 (by omega)]; exact h.m.tl
    · rw [(g1 19 (by omega) (by omega)).1]; exact h.m.tp
    · rw [g2 21 (by omega)]; exact h.m.fa
    · rw [g2 22 (by omega)]; exact h.m.fp
    · rw [g2 32 (by omega)]; exact h.m.oa
    · rw [g2 34 (by omega)]; exact h.m.mh
    · rw [g2 44 (by omega)]; exact h.m.dt
theorem d_fin (h : RR T N' P S u v) (hVN : VN T N) (hi : i ≤ 116) (hP : RP nx T N P u) (h18 : RNm (v.1 18) T N) : SR (X11_day_b100 (nI i) u) (X12_day_b94 (nI i) v) := by
  unfold X11_day_b100 X11_day_b113 X12_day_b94 X12_day_b102
  by_cases z : i = 0
  · rw [if_pos (show nI i ≤ 0 by rw [z]; decide), if_pos (show nI i ≤ 0 by rw [z]; decide)]
    exact ⟨nI i, u, v, T, N', P, S, rfl, rfl, h⟩
  · have hz : ¬ (nI i : Int32) ≤ 0 := by rw [nI_lit, nI_leI (by omega) (by omega)]; omega
    rw [if_neg hz, if_neg hz]
    obtain ⟨u3, v3, e3, f3, hR⟩ := kept h hVN hP h18
    refine ⟨nI i, u3, v3, T, N', _, S, ?_, ?_, hR⟩
    · rw [bnd (show X7_confirm 1 u = some (nI 1, u3) from e3)]
    · rw [bnd f3]
theorem d_does (h : RR T N P S u v) (hi : i ≤ 116) (hj : isDc j) (r0 : v.1 27 (3 * i) = nI (mcd j)) (r1 : v.1 27 (3 * i + 1) = nI a) (r2 : v.1 27 (3 * i + 2) = nI b) : ∃ Y, X12_does (nI i) v = (Y.bind fun w => ((bI w.1).bind fun x => some (x, w.2))) ∧ DS T (X3_act (nI j) (nI a) (nI b) u) Y u v ∧ (∀ r w, Y = some (r, w) → w.1 27 = v.1 27) := by
  have e1 : aI skM v 27 (3 * nI i + 1) = some (nI a) := by rw [show (3 * nI i + 1 : Int32) = nI (3 * i + 1) by rw [nI_lit, nI_lit, pk_mul, nI_add], aM27 (by omega), r1]
  have e2 : aI skM v 27 (3 * nI i + 2) = some (nI b) := by rw [show (3 * nI i + 2 : Int32) = nI (3 * i + 2) by rw [nI_lit, nI_lit, pk_mul, nI_add], aM27 (by omega), r2]
  have e0 : aI skM v 27 (3 * nI i) = some (nI (mcd j)) := by rw [show (3 * nI i : Int32) = nI (3 * i) by rw [nI_lit, pk_mul], aM27 (by omega), r0]
  have ne : ∀ {w : gM}, off (fun c => c = 16) v w → w.1 27 = v.1 27 := fun {w} o => (o 27 (by intro z; have z1 : 27 = 16 := z; omega)).1
  unfold X12_does
  rw [bnd e1, bnd e2, bnd e0]
  rcases hj with rfl | rfl | rfl | rfl | rfl | rfl
  · refine ⟨X12_puts (nI a) (nI b) v, ?_, d_put _ _ h, fun r w hw => ne (fr_X12_puts (S := fun c => c = 16) rfl hw off_rf)⟩
    rw [if_pos (by decide)]
  · refine ⟨X12_takesFrom (nI a) (nI b) v, ?_, d_take _ _ h, fun r w hw => ne (fr_X12_takesFrom (S := fun c => c = 16) rfl hw off_rf)⟩
    rw [if_neg (by decide), if_pos (by decide)]
  · refine ⟨X12_merges (nI a) (nI b) v, ?_, d_merge _ _ h, fun r w hw => ne (fr_X12_merges (S := fun c => c = 16) rfl hw off_rf)⟩
    rw [if_neg (by decide), if_neg (by decide), if_pos (by decide)]
  · refine ⟨X12_passes (nI a) v, ?_, d_months _ _ h, fun r w hw => ne (fr_X12_passes (S := fun c => c = 16) rfl hw off_rf)⟩
    rw [if_neg (by decide), if_neg (by decide), if_neg (by decide), if_pos (by decide)]
  · refine ⟨X12_pays (nI a) (nI b) v, ?_, d_pay _ _ h, fun r w hw => ne (fr_X12_pays (S := fun c => c = 16) rfl hw off_rf)⟩
    rw [if_neg (by decide), if_neg (by decide), if_neg (by decide), if_neg (by decide), if_pos (by decide)]
  · refine ⟨X12_falls (nI a) (nI b) v, ?_, d_fail _ _ h, fun r w hw => ?_⟩
    · rw [if_neg (by decide), if_neg (by decide), if_neg (by decide), if_neg (by decide), if_neg (by decide)]
    · have o := fr_X12_falls (S := fun c => c = 16 ∨ (20 ≤ c ∧ c ≤ 26)) (Or.inl rfl) (Or.inr ⟨by omega, by omega⟩) (Or.inr ⟨by omega, by omega⟩) (Or.inr ⟨by omega, by omega⟩) (Or.inr ⟨by omega, by omega⟩) (Or.inr ⟨by omega, by omega⟩) (Or.inr ⟨by omega, by omega⟩) (Or.inr ⟨by omega, by omega⟩) hw off_rf
      exact (o 27 (by intro z; have z1 : 27 = 16 ∨ (20 ≤ 27 ∧ 27 ≤ 26) := z; omega)).1
theorem DL.mv (h : DL L u v) (e : ∀ c, 132 ≤ c → c ≤ 135 → u'.1 c = u.1 c) (e0 : v'.1 0 = v.1 0) (e27 : v'.1 27 = v.1 27) : DL L u' v' :=
  ⟨by rw [e 132 (by omega) (by omega)]; exact h.n, by rw [e0]; exact h.m, by rw [e 133 (by omega) (by omega), e 134 (by omega) (by omega), e 135 (by omega) (by omega)]; exact h.c, by rw [e27]; exact h.d, h.k⟩
theorem d_loop (hVN : VN T N) (hl : L.length ≤ 116) : ∀ (f i : Nat) (N' : gN) (u v : gM), i ≤ L.length → L.length - i < f → RR T N' P S u v → DL L u v → RP nx T N P u → RNm (v.1 18) T N → SR (X11_day_l46 f (nI i) u) (X12_day_l72 f (nI i) v) := by
  intro f
  induction f with
  | zero => intro i N' u v h1 h2; omega
  | succ f ih =>
    intro i N' u v h1 h2 h hL hP h18
    have e0 : X11_day_l46 (f + 1) (nI i) u = X11_day_b46 (X11_day_l46 f) (nI i) u := rfl
    have e1 : X12_day_l72 (f + 1) (nI i) v = X12_day_b72 (X12_day_l72 f) (nI i) v := rfl
    rw [e0, e1]
    unfold X11_day_b46 X12_day_b72
    rw [hL.n, hL.m]
    by_cases h4 : i = L.length
    · rw [h4, if_pos (Int32.le_refl _), if_pos (Int32.le_refl _)]
      exact d_fin h hVN hl hP h18
    · have hi : i < L.length := by omega
      have hg : L[i]? = some L[i] := List.getElem?_eq_getElem hi
      generalize L[i] = x at hg
      obtain ⟨c1, c2, c3⟩ := hL.c i x hg
      obtain ⟨m1, m2, m3⟩ := hL.d i x hg
      have hk := hL.k i x hg
      have hz : ¬ nI L.length ≤ nI i := by rw [nI_leI (by omega) (by omega)]; omega
      have hi7 : i < 117 := by omega
      obtain ⟨Y, eY, hY, h27⟩ := d_does h (show i ≤ 116 by omega) hk m1 m2 m3
      rw [if_neg hz, if_neg hz, bnd (aC133 hi7), c1, bnd (aC134 hi7), c2, bnd (aC135 hi7), c3, eY]
      rcases hY with ⟨u2, v2, a1, a2, o2, p2⟩ | ⟨u2, v2, N2, a1, a2, o2, p2, n2, q2, V2⟩
      · have hR := h.ref o2 p2
        have w27 := h27 _ _ a2
        rw [bnd a1, if_pos z00, bnd a2, show bI (nI 0) = some (nI 0) from rfl, Option.bind_some, Option.bind_some, if_pos z00]
        exact d_fin hR hVN (by omega) (hP.mv (fun c d1 d2 => o2 c (by intro z; have z1 : 137 ≤ c := z; omega))) (by rw [(p2 18 (by intro z; have z1 : 20 ≤ 18 := z; omega)).1]; exact h18)
      · have hR := h.dn o2 p2 n2 q2 V2
        have w27 := h27 _ _ a2
        rw [bnd a1, if_neg n10, bnd a2, show bI (nI 1) = some (nI 1) from rfl, Option.bind_some, Option.bind_some, if_neg n10, nI_s]
        exact ih (i + 1) N2 u2 v2 (by omega) (by omega) hR (hL.mv (fun c d1 d2 => (o2 c (by intro z; have z1 : (18 ≤ c ∧ c ≤ 29) ∨ 137 ≤ c := z; omega)).1) (p2 0 (by intro z; have z1 : 0 = 16 ∨ 20 ≤ 0 := z; omega)).1 w27) (hP.mv (fun c d1 d2 => o2 c (by intro z; have z1 : (18 ≤ c ∧ c ≤ 29) ∨ 137 ≤ c := z; omega))) (by rw [(p2 18 (by intro z; have z1 : 18 = 16 ∨ 20 ≤ 18 := z; omega)).1]; exact h18)
theorem o_day (h : RR T N P S u v) : SR (X11_day u) (X12_day v) := by
  have hV := h.d.t
  have hS : TS S.1 := ⟨h.d.tl, h.d.tp⟩
  have hV0 := tk0_V hS
  -- both begin
  have t1 : TPc S.1 (upI (upI u 1 1 0) 1 2 (-1)) := TPc_o ⟨h.c.tl, h.c.tp⟩ (by rw [upI_j (by omega), upI_j (by omega)]) (by rw [upI_k (by omega), upI_k (by omega)])
  obtain ⟨u1, e1, p1, o1'⟩ := c_start hS t1 (by rw [upI_j (by omega), upI_at]; rfl) (by rw [upI_at]; rfl)
  have oo : o1 u u1 := o1.rf.I.I.tr o1'
  have eC : X2_read u = X2_read_l19 fz (upI u1 132 0 0) := by
    unfold X2_read X9_forgetFault
    rw [Option.bind_some, bnd e1]
  obtain ⟨v1, e2, p2, f2⟩ := m_start (v := upI v 0 43 0) hS ⟨by rw [upI_j (by omega)]; exact h.m.tl, by rw [upI_k (by omega)]; exact h.m.tp⟩
  have bx : BXm v v1 := BXm.k ⟨fun c i a b d => by rw [upI_k (by omega), upI_2]; exact ⟨rfl, rfl⟩, fun c a b => by rw [upI_k (by omega)], fun j hj => by rw [upI_j (by omega)]⟩ f2
  have hB0 : PB u v T S.1 (tkN S.1.2 S.1.1 0) (upI u1 132 0 0) v1 := PB.cI (c := 132) (i := 0) (x := 0) ⟨hV0, p1, p2, h.c.t.mv (fun c a _ => oo c (by omega)), RTm_BX hV h.m.t bx, off_o1 off_rf oo, bx⟩ (by omega)
  have hL0 : DL [] (upI u1 132 0 0) v1 := ⟨by rw [upI_at]; rfl, by rw [f2.i 43 (by omega), upI_at]; rfl, fun k x hx => by simp at hx, fun k x hx => by simp at hx, fun k x hx => by simp at hx⟩
  have eM : X12_day v = X12_day_l22 fz (bE (tkN S.1.2 S.1.1 0)) v1 := by
    unfold X12_day X12_day_b21
    rw [bnd e2, p2.tk.s]
    unfold bE
    by_cases z : (tkN S.1.2 S.1.1 0).1 = 0
    · rw [if_pos z, if_pos (show nI _ = 0 by rw [z]; rfl)]
    · rw [if_neg z, if_neg (show ¬ nI (tkN S.1.2 S.1.1 0).1 = 0 by have := hV0.s; rw [nI_lit, nI_eq (by omega) (by omega)]; exact z)]
  unfold X11_day X11_day_b33
  rw [eC, eM]
  rcases d_read hS hV fz _ [] _ v1 (by show 702 ≤ 4000 + _; omega) (Nat.zero_le _) hB0 hL0 with ⟨u2, v2, c2, d2, hF⟩ | ⟨t', L, u2, v2, c2, d2, hB, hL, hl⟩
  · obtain ⟨k, x, k1, k2, f1, f2, hR⟩ := BF_RR h hF
    refine ⟨-nI 1, _, _, T, N, P, _, ?_, ?_, hR⟩
    · rw [bnd c2, if_pos z00]
      rfl
    · rw [d2]
      unfold dY
      rw [bnd (m_isRead (by omega) f1 f2), b2_f (by omega), if_pos z00]
      rfl
  · have oc := hB.oc
    have om := hB.om
    have e : ∀ c, c ≠ 1 → c < 117 → u2.1 c = u.1 c ∧ u2.2 c = u.2 c := fun c c1 c2 => oc c (by
      intro z
      have z1 : c = 1 ∨ 117 ≤ c := z
      omega)
    have hdt : (upI u2 1 0 0).1 132 0 = nI L.length := by rw [upI_k (by omega)]; exact hL.n
    generalize hw : upI (upI (upI v2 0 20 0) 0 21 (nI 0)) 0 22 (-nI 1) = w
    have hmr : X12_isRead v2 = some (nI 1, w) := by
      rw [m_isRead (k := 0) (by omega) hB.m.f hB.m.g, b2_t rfl, hw]
    have gw : ∀ c, c ≠ 0 → w.1 c = v2.1 c ∧ w.2 c = v2.2 c := fun c hc => by
      rw [← hw]
      exact ⟨by rw [upI_k hc, upI_k hc, upI_k hc], by rw [upI_2, upI_2, upI_2]⟩
    have gi : ∀ j, j ≠ 20 → j ≠ 21 → j ≠ 22 → w.1 0 j = v2.1 0 j := fun j a b c => by rw [← hw, upI_j c, upI_j b, upI_j a]
    have w43 : w.1 0 43 = nI L.length := by rw [gi 43 (by omega) (by omega) (by omega)]; exact hL.m
    have hRA : RR T N P ((0, S.1.2), (0, none, L.length)) (upI (upI u2 1 0 0) 0 10 (nI L.length)) (upI w 0 44 (nI L.length)) := by
      refine ⟨⟨h.d.t, h.d.n, h.d.p, h.d.pl, Nat.zero_le _, fun i hi => absurd hi (Nat.not_lt_zero _), h.d.hz, h.d.pz⟩, ?_, ?_⟩
      · have g : ∀ c, c ≠ 0 → c ≠ 1 → c < 117 → (upI (upI u2 1 0 0) 0 10 (nI L.length)).1 c = u.1 c ∧ (upI (upI u2 1 0 0) 0 10 (nI L.length)).2 c = u.2 c := fun c c0 c1 c2 => by
          rw [upI_k c0, upI_k c1, upI_2, upI_2]
          exact e c c1 c2
        refine ⟨h.c.t.mv (fun c c1 c2 => g c (by omega) (by omega) (by omega)), h.c.n.mv (fun c c1 c2 => g c (by omega) (by omega) (by omega)), ?_, ?_, ?_, fun i hi => absurd hi (Nat.not_lt_zero _), ?_, ?_, ?_⟩
        · rw [(g 30 (by omega) (by omega) (by omega)).1]; exact h.c.pc
        · obtain ⟨nx, g1, g2, g3⟩ := h.c.pr
          refine ⟨nx, g1, by rw [(g 30 (by omega) (by omega) (by omega)).1]; exact g2, fun j Q hj => (g3 j Q hj).mv (fun c c1 c2 => g c (by omega) (by omega) (by have := Nat.mod_lt (nx + 6 - j) (y := 7) (by decide); omega))⟩
        · rw [upI_k (by omega), upI_at]; rfl
        · rw [upI_k (by omega), upI_j (by omega)]; exact hB.c.f
        · rw [upI_k (by omega), upI_j (by omega)]; exact hB.c.g
        · rw [upI_at]
      · have g : ∀ c, c ≠ 0 → (upI w 0 44 (nI L.length)).1 c = v2.1 c := fun c hc => by rw [upI_k hc]; exact (gw c hc).1
        have g0 : ∀ j, j ≠ 44 → j ≠ 20 → j ≠ 21 → j ≠ 22 → (upI w 0 44 (nI L.length)).1 0 j = v2.1 0 j := fun j a b c d => by rw [upI_j a, gi j b c d]
        refine ⟨hB.rm.mv (fun c c1 _ => ⟨g c (by omega), by rw [upI_2]; exact (gw c (by omega)).2⟩), ?_, ?_, ?_, ?_, ?_, fun i hi => absurd hi (Nat.not_lt_zero _), ?_, ?_, ?_, ?_, ?_⟩
        · have := RKm_BX hV h.m.k om
          unfold RKm at *
          rw [g 5 (by omega)]; exact this
        · rw [g 16 (by omega), om.c 16 (by omega) (by omega)]; exact h.m.n
        · rw [g0 17 (by omega) (by omega) (by omega) (by omega), om.i 17 (by omega)]; exact h.m.pc
        · rw [g 17 (by omega), om.c 17 (by omega) (by omega)]; exact h.m.pr
        · rw [upI_j (by omega), ← hw, upI_j (by omega), upI_j (by omega), upI_at]; rfl
        · rw [upI_j (by omega), ← hw, upI_j (by omega), upI_at]
        · rw [upI_j (by omega), ← hw, upI_at]; rfl
        · rw [g0 32 (by omega) (by omega) (by omega) (by omega), om.i 32 (by omega)]; exact h.m.oa
        · rw [g0 34 (by omega) (by omega) (by omega) (by omega), om.i 34 (by omega)]; exact h.m.mh
        · rw [upI_at]
    have hLA : DL L (upI (upI u2 1 0 0) 0 10 (nI L.length)) (upI w 0 44 (nI L.length)) := by
      refine ⟨by rw [upI_k (by omega), upI_k (by omega)]; exact hL.n, by rw [upI_j (by omega)]; exact w43, ?_, ?_, hL.k⟩
      · rw [upI_k (by omega), upI_k (by omega), upI_k (by omega), upI_k (by omega), upI_k (by omega), upI_k (by omega)]; exact hL.c
      · rw [upI_k (by omega), (gw 27 (by omega)).1]; exact hL.d
    obtain ⟨u3, nx, e3, o3, r3⟩ := q_keep hRA.c hV h.d.pl
    have oc3 : ∀ c, c < 32 ∨ 115 < c → u3.1 c = (upI (upI u2 1 0 0) 0 10 (nI L.length)).1 c ∧ u3.2 c = (upI (upI u2 1 0 0) 0 10 (nI L.length)).2 c := fun c hc => o3 c (by intro z; have z1 : 32 ≤ c ∧ c ≤ 115 := z; omega)
    obtain ⟨v3, f3, q3, z3⟩ := m_aside (v := upI w 0 44 (nI L.length))
    have qc3 : ∀ c, c ≠ 18 → v3.1 c = (upI w 0 44 (nI L.length)).1 c ∧ v3.2 c = (upI w 0 44 (nI L.length)).2 c := fun c hc => q3 c hc
    have hC3 : RC T N P ((0, S.1.2), (0, none, L.length)) u3 := by
      refine ⟨hRA.c.t.mv (fun c _ c2 => oc3 c (by omega)), hRA.c.n.mv (fun c _ c2 => oc3 c (by omega)), ?_, ⟨nx, r3.l, r3.x, r3.p⟩, ?_, ?_, ?_, ?_, ?_⟩
      · rw [(oc3 30 (by omega)).1]; exact hRA.c.pc
      · rw [(oc3 1 (by omega)).1]; exact hRA.c.tl
      · rw [(oc3 2 (by omega)).1]; exact hRA.c.tp
      · rw [(oc3 1 (by omega)).1]; exact hRA.c.fa
      · rw [(oc3 1 (by omega)).1]; exact hRA.c.fp
      · rw [(oc3 0 (by omega)).1]; exact hRA.c.dt
    have hM3 : RM T N P ((0, S.1.2), (0, none, L.length)) v3 := hRA.m.mv (fun c _ c2 => qc3 c c2)
    have key := d_loop (nx := nx) (S := ((0, S.1.2), (0, none, L.length))) (P := P) h.d.n hl fz 0 N u3 v3 (Nat.zero_le _) (fz_lt (by omega)) ⟨hRA.d, hC3, hM3⟩ (hLA.mv (fun c c1 c2 => (oc3 c (by omega)).1) (qc3 0 (by omega)).1 (qc3 27 (by omega)).1) r3 (RNm_cg hV hRA.m.n (fun i hi => z3 i hi))
    obtain ⟨r, u4, v4, T4, N4, P4, S4, c4, d4, h4⟩ := key
    refine ⟨r, u4, v4, T4, N4, P4, S4, ?_, ?_, h4⟩
    · rw [bnd c2, if_neg n10]
      dsimp only
      rw [hdt, bnd e3]
      exact c4
    · rw [d2]
      unfold dY
      rw [bnd hmr, if_neg n10]
      dsimp only
      rw [w43, bnd f3]
      exact d4
end DY
