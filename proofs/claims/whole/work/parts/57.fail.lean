/-! fail -/
section FB
variable {T : gT} {N : gN} {P : List gN} {S : gS} {b es : Nat} {u v u0 : gM}
theorem q_fb87 (hV : VT T) (hVN : VN T N) (hT : RT 3 T u0) (hn : ∀ h, h < 6 → X8_nowAt u0 18 (nI h) = some (nI (nowS N h))) (hb : b < 6) : ∀ (f i : Nat) (u : gM), i ≤ T 0 2 → T 0 2 - i < f → off (fun c => c = 19) u0 u → (∀ a, a < T 0 2 → u.1 19 a = nI (if nowS N (T 2 a) = b ∧ a < i then 0 else N.1 1 a)) → ∃ u', X3_failBank_l87 f (nI b) (nI i) u = some (nI 1, upI u' 23 b (nI 1)) ∧ off (fun c => c = 19) u0 u' ∧ ∀ a, a < T 0 2 → u'.1 19 a = nI (if nowS N (T 2 a) = b then 0 else N.1 1 a) := by
  have hna := hV.na
  intro f
  induction f with
  | zero => intro i u h1 h2; omega
  | succ f ih =>
    intro i u h1 h2 ho h
    have e1 : ∀ c, c ≠ 19 → u.1 c = u0.1 c ∧ u.2 c = u0.2 c := fun c hc => ho c hc
    have hT1 : RT 3 T u := hT.mv (fun c _ c2 => e1 c (by omega))
    unfold X3_failBank_l87 X3_failBank_b87 X3_failBank_b128
    by_cases h4 : i = T 0 2
    · refine ⟨u, ?_, ho, fun a ha => ?_⟩
      · rw [hT1.na, h4, if_pos (Int32.le_refl _), bnd (sC23 hb)]
        rfl
      · rw [h a ha]
        by_cases w : nowS N (T 2 a) = b
        · rw [if_pos ⟨w, by omega⟩, if_pos w]
        · rw [if_neg (fun z => w z.1), if_neg w]
    · have hi : i < T 0 2 := by omega
      have hz : ¬ (u.1 3 2) ≤ nI i := by rw [hT1.na, nI_leI (by omega) (by omega)]; omega
      have hh := hT1.hm i hi
      simp only [Nat.reduceAdd] at hh
      have h6 := hm_lt hV hi
      have hn6 : nowS N (T 2 i) < 6 := by have := nowF_nb hVN hV 6 (T 2 i) (hV.hm i hi); have := hV.nb; unfold nowS; omega
      have en : X8_nowAt u 18 (u.1 8 i) = some (nI (nowS N (T 2 i))) := by rw [nowAt_cg (e1 21 (by omega)).1, hh]; exact hn _ h6
      rw [if_neg hz, bnd (aC8 (by omega)), bnd en]
      by_cases hab : nowS N (T 2 i) = b
      · obtain ⟨u', e2, o2, q2⟩ := ih (i + 1) (upI u 19 i (nI 0)) (by omega) (by omega) (off_upI (k := 19) rfl ho) (fun a ha => by
          by_cases z : a = i
          · subst z; rw [upI_at, if_pos ⟨hab, by omega⟩]
          · rw [upI_j z, h a ha]
            by_cases w : nowS N (T 2 a) = b ∧ a < i
            · rw [if_pos w, if_pos ⟨w.1, by omega⟩]
            · rw [if_neg w, if_neg (fun y => w ⟨y.1, by omega⟩)])
        refine ⟨u', ?_, o2, q2⟩
        rw [if_pos (by rw [hab]), bnd (sC19 (show i < 24 by omega)), nI_s]
        exact e2
      · obtain ⟨u', e2, o2, q2⟩ := ih (i + 1) u (by omega) (by omega) ho (fun a ha => by
          rw [h a ha]
          by_cases w : nowS N (T 2 a) = b ∧ a < i
          · rw [if_pos w, if_pos ⟨w.1, by omega⟩]
          · rw [if_neg w, if_neg]
            rintro ⟨y1, y2⟩
            by_cases z : a = i
            · subst z; exact hab y1
            · exact w ⟨y1, by omega⟩)
        refine ⟨u', ?_, o2, q2⟩
        rw [if_neg (by rw [nI_eq (by omega) (by omega)]; exact hab), nI_s]
        exact e2
theorem q_failBank (hV : VT T) (hVN : VN T N) (hT : RT 3 T u) (hN : RN 18 T N u) (hb : b < T 0 1) (hop : N.2 0 b = none ∧ N.1 3 b = 0) (he : es ≤ 100000000) : ∃ u', X3_failBank (nI b) (nI es) u = some (nI 1, u') ∧ off sDc u u' ∧ RN 18 T (wN T N b es) u' := by
  have hnb := hV.nb
  have hna := hV.na
  have hnl := hV.nl
  have hmo := hVN.mo
  have hb6 : b < 6 := by omega
  have em := hN.mo
  obtain ⟨u1, e1, o1, i1, -⟩ := q_insure (m := N.1 0 0) hV hVN (by omega) hT hN
  have o1' : ∀ c, c < 137 → u1.1 c = u.1 c ∧ u1.2 c = u.2 c := fun c hc => o1 c (by rintro ⟨z, _⟩; omega)
  have hT1 : RT 3 T u1 := hT.mv (fun c _ c2 => o1' c (by omega))
  have hN1 : RN 18 T N u1 := hN.mv (fun c _ c2 => o1' c (by omega))
  have hC := CW0.mk0 hV hVN hT1 hN1 i1
  obtain ⟨u2, e2, o2, q2⟩ := q_windUp (e := es) hV hVN FLk_24 hC hb6 he
  have o2' : ∀ c, c < 24 ∨ (29 < c ∧ c < 137) → u2.1 c = u1.1 c ∧ u2.2 c = u1.2 c := fun c hc => o2 c (by
    intro z
    have z1 : (24 ≤ c ∧ c ≤ 24 + 5) ∨ (146 ≤ c ∧ c ≤ 149) := z
    omega)
  obtain ⟨u3, e3, c3, k3, w3⟩ := cp1 (u := u2) (r0 := 29) (r1 := 20) (n := 10) (by decide) (by decide) (by omega)
  have hC2 := hC.mv FLk_24 o2
  have k3' : ∀ c, c ≠ 20 → u3.1 c = u2.1 c ∧ u3.2 c = u2.2 c := fun c hc => ⟨k3 c hc, by rw [w3]⟩
  have hT3 : RT 3 T u3 := hC2.t.mv (fun c _ c2 => k3' c (by omega))
  obtain ⟨u4, e4, o4, q4⟩ := q_fb87 (u0 := u3) hV hVN hT3 (fun h hh => by rw [nowAt_cg (k3' 21 (by omega)).1]; exact hC2.n h hh) hb6 fz 0 u3 (Nat.zero_le _) (fz_lt (by omega)) off_rf (fun a ha => by
    rw [(k3' 19 (by omega)).1, (o2' 19 (by omega)).1, if_neg (by omega)]
    exact hN1.co a ha)
  have o4' : ∀ c, c ≠ 19 → u4.1 c = u3.1 c ∧ u4.2 c = u3.2 c := fun c hc => o4 c hc
  have g : ∀ c, c ≠ 19 → c ≠ 20 → c ≠ 23 → (upI u4 23 b (nI 1)).1 c = u2.1 c := fun c c1 c2 c3 => by rw [upI_k c3, (o4' c c1).1, (k3' c c2).1]
  refine ⟨upI u4 23 b (nI 1), ?_, fun c hc => ?_, ?_⟩
  · unfold X3_failBank
    have hm := q_isBank hV hT hb
    have hm2 := q_isOpen hV hN hVN hb6
    rw [b2_t hop] at hm2
    have z1 : ¬ (nI es : Int32) < 0 := i_nlt es (by omega)
    have z2 : (nI es : Int32) ≤ 100000000 := by rw [nI_lit, nI_leI (by omega) (by omega)]; exact he
    rw [bnd hm, if_neg n10, bnd hm2, if_neg n10, if_neg z1, if_pos z2, em, bnd e1, bnd e2, bnd (show cpI skC u2 29 0 20 0 10 = some u3 from e3)]
    exact e4
  · have hc1 : ¬ ((18 ≤ c ∧ c ≤ 29) ∨ 137 ≤ c) := hc
    refine ⟨?_, ?_⟩
    · rw [g c (by omega) (by omega) (by omega), (o2' c (by omega)).1, (o1' c (by omega)).1]
    · rw [upI_2, (o4' c (by omega)).2, (k3' c (by omega)).2, (o2' c (by omega)).2, (o1' c (by omega)).2]
  · refine ⟨?_, fun a ha => ?_, fun l hl => ?_, ?_, ?_, fun c hc => ?_, ?_, ?_, ?_, ?_, ?_, ?_⟩
    · rw [g _ (by omega) (by omega) (by omega), (o2' 18 (by omega)).1]; exact hN1.mo
    · rw [upI_k (by omega)]
      show u4.1 19 a = nI (if a < T 0 2 ∧ nowS N (T 2 a) = b then 0 else N.1 1 a)
      rw [q4 a ha]
      by_cases w : nowS N (T 2 a) = b
      · rw [if_pos w, if_pos ⟨ha, w⟩]
      · rw [if_neg w, if_neg (fun z => w z.2)]
    · rw [upI_k (by omega), (o4' 20 (by omega)).1, c3 l (by omega)]
      exact q2.w l hl
    · rw [g _ (by omega) (by omega) (by omega), (o2' 21 (by omega)).1]; exact hN1.it
    · rw [g _ (by omega) (by omega) (by omega), (o2' 22 (by omega)).1]; exact hN1.si
    · show (upI u4 23 b (nI 1)).1 23 c = nI (if 3 = 3 ∧ c = b then 1 else N.1 3 c)
      by_cases z : c = b
      · subst z; rw [upI_at, if_pos ⟨rfl, rfl⟩]
      · rw [upI_j z, (o4' 23 (by omega)).1, (k3' 23 (by omega)).1, (o2' 23 (by omega)).1, if_neg (fun w => z w.2)]; exact hN1.fa c hc
    · rw [g _ (by omega) (by omega) (by omega)]; exact q2.k
    · show (upI u4 23 b (nI 1)).2 24 1 = _
      rw [upI_2, (o4' 24 (by omega)).2, (k3' 24 (by omega)).2]; exact q2.q
    · rw [g _ (by omega) (by omega) (by omega)]; exact q2.o
    · rw [g _ (by omega) (by omega) (by omega)]; exact q2.p
    · rw [g _ (by omega) (by omega) (by omega)]; exact q2.d
    · rw [g _ (by omega) (by omega) (by omega)]; exact q2.l
theorem d_fail (x y : Int32) (h : RR T N P S u v) : DS T (X3_act 20 x y u) (X12_falls x y v) u v := by
  have hV := h.d.t; have hVN := h.d.n; have hnb := hV.nb
  have e1 : X3_act 20 x y u = ((X3_failBank x y u).bind fun w => ((bI w.1).bind fun v' => some (v', w.2))) := rfl
  have no : X3_failBank x y u = some (nI 0, u) → X12_falls x y v = some (nI 0, v) → DS T (X3_act 20 x y u) (X12_falls x y v) u v := by
    intro z1 z2
    refine Or.inl ⟨u, v, ?_, z2, off_rf, off_rf⟩
    rw [e1, bnd z1]
    rfl
  rcases i_cases x (T 0 1) (by omega) with ⟨b, hb, rfl⟩ | hl
  · have o1 := q_isOpen hV h.c.n hVN (show b < 6 by omega)
    have p1 := m_isOpen hV h.m.n hVN (show b < 6 by omega)
    by_cases g1 : N.2 0 b = none ∧ N.1 3 b = 0
    · rcases i_cases y 100000001 (by omega) with ⟨es, he, rfl⟩ | hl2
      · obtain ⟨u', e2, o2, q2⟩ := q_failBank (es := es) hV hVN h.c.t h.c.n hb g1 (by omega)
        obtain ⟨v', f2, p2, r2⟩ := m_falls (es := es) hV hVN (h.m.mvw hV) hb g1 (by omega)
        refine Or.inr ⟨u', v', wN T N b es, ?_, f2, o2, p2, q2, r2, VN_fail hV hVN hb (by omega)⟩
        rw [e1, bnd e2]
        rfl
      · rw [b2_t g1] at o1 p1
        refine no ?_ ?_
        · unfold X3_failBank X3_failBank_b32
          rw [bnd (q_isBank hV h.c.t hb), if_neg n10, bnd o1, if_neg n10]
          rcases hl2 with z | z
          · rw [if_pos (show y < 0 from z)]; rfl
          · rw [if_neg (show ¬ y < 0 from fun w => by
              have := Int32.lt_of_le_of_lt z w
              rw [show (0 : Int32) = nI 0 from rfl, nI_ltI (by omega) (by omega)] at this
              omega), if_neg (show ¬ y ≤ 100000000 from fun w => by
              have := Int32.le_trans z w
              rw [nI_lit, nI_leI (by omega) (by omega)] at this
              omega)]
            rfl
        · unfold X12_falls X12_falls_b28
          have k0 : X12_isIn v y.toInt64 0 100000000 = some (nI 0) := isIn_o (u := v) (n := 100000000) hl2 (by omega)
          rw [bnd (m_isBank hV h.m.t hb), if_neg n10, bnd p1, if_neg n10, bnd k0]
          rfl
    · rw [b2_f g1] at o1 p1
      refine no ?_ ?_
      · unfold X3_failBank X3_failBank_b32
        rw [bnd (q_isBank hV h.c.t hb), if_neg n10, bnd o1]
        rfl
      · unfold X12_falls X12_falls_b28
        rw [bnd (m_isBank hV h.m.t hb), if_neg n10, bnd p1]
        rfl
  · refine no ?_ ?_
    · unfold X3_failBank X3_failBank_b32
      rw [bnd (q_isBankF h.c.t hl)]
      rfl
    · unfold X12_falls X12_falls_b28
      rw [bnd (m_isBankF hV h.m.t hl)]
      rfl
theorem o_fail (x y : Int32) (h : RR T N P S u v) : SR (X11_fail x y u) (X12_fail x y v) := by
  unfold X11_fail X12_fail
  exact o_deed h (fun u' v' h' => d_fail x y h')
end FB
