/-! put -/
section PT
variable {T : gT} {N : gN} {P : List gN} {S : gS} {u v : gM}
theorem lt_of_out {y : Int32} {n : Nat} (hn : n + 1 < 2 ^ 31) (h : nI (n + 1) ≤ y) {k : Nat} (hk : k ≤ n) : nI k < y := by
  rw [Int32.lt_iff_toInt_lt]
  rw [Int32.le_iff_toInt_le] at h
  rw [nI_toInt (by omega)] at *
  omega
theorem q_amt_big {x : Int32} (h : nI 100000001 ≤ x) : X3_isAmount u x = some (nI 0) := by
  have h1 := lt_of_out (n := 100000000) (by omega) h (k := 100000000) (by omega)
  have h2 := lt_of_out (n := 100000000) (by omega) h (k := 0) (by omega)
  unfold X3_isAmount X3_isAmount_b14 X3_isAmount_b15
  rw [if_neg (Int32.not_le.mpr (show (0 : Int32) < x from h2)), if_pos (show (100000000 : Int32) < x from h1)]
  rfl
theorem d_put (x y : Int32) (h : RR T N P S u v) : DS T (X3_act 14 x y u) (X12_puts x y v) u v := by
  have hV := h.d.t; have hVN := h.d.n; have hna := hV.na
  have hc := h.c.n.co; have hh := h.c.t.hm; have mh := h.m.t.hm
  simp only [Nat.reduceAdd] at hc hh
  simp only [Nat.mul_zero, Nat.zero_add] at mh
  have e1 : X3_act 14 x y u = ((X3_putCoins x y u).bind fun w => ((bI w.1).bind fun v' => some (v', w.2))) := rfl
  have no : X3_putCoins x y u = some (nI 0, u) → X12_puts x y v = some (nI 0, v) → DS T (X3_act 14 x y u) (X12_puts x y v) u v := by
    intro z1 z2
    refine Or.inl ⟨u, v, ?_, z2, off_rf, off_rf⟩
    rw [e1, bnd z1]
    rfl
  rcases i_cases x (T 0 2) (by omega) with ⟨a, ha, rfl⟩ | hl
  · have e2 := q_isAccount hV h.c.t ha
    have e3 := m_isAccount hV h.m.t ha
    have hb := hVN.co a ha
    have h6 := hm_lt hV ha
    have h7 := nowS_6 hV hVN h6
    have a19 : aI skC u 19 (nI a) = some (nI (N.1 1 a)) := by rw [aC19 (by omega), hc a ha]
    have a8 : aI skC u 8 (nI a) = some (nI (T 2 a)) := by rw [aC8 (by omega), hh a ha]
    have m6 : aI skM v 6 (nI a) = some (nI (T 2 a)) := by rw [aM6 (by omega), mh a ha]
    have s0 : (1 + nI a : Int32) = nI (1 + a) := by rw [nI_lit, nI_add]
    have a16 : aI skM v 16 (nI (1 + a)) = some (nI (N.1 1 a)) := by rw [aM16 (by omega), h.m.n.co a ha]
    have s3 : (100000000 - nI (N.1 1 a) : Int32) = nI (100000000 - N.1 1 a) := by rw [nI_lit, pk_sub (by omega)]
    rcases i_cases y 100000001 (by omega) with ⟨n, hn, rfl⟩ | hy
    · by_cases h0 : n = 0
      · subst h0
        refine no ?_ ?_
        · unfold X3_putCoins X3_putCoins_b60
          rw [bnd e2, if_neg n10, bnd q_amt0]
          rfl
        · unfold X12_puts X12_puts_b50
          rw [bnd e3, if_neg n10, if_pos (by decide)]
          rfl
      · have c1 : ¬ (nI n : Int32) ≤ 0 := by rw [nI_lit, nI_leI (by omega) (by omega)]; omega
        have s2 : (100000000 - nI n : Int32) = nI (100000000 - n) := by rw [nI_lit, pk_sub (by omega)]
        have am := q_amt (u := u) (n := n) (by omega) (by omega)
        by_cases hm : N.1 1 a + n ≤ 100000000
        · have k1 : ¬ nI (100000000 - n) < nI (N.1 1 a) := by rw [nI_ltI (by omega) (by omega)]; omega
          have k2 : ¬ nI (100000000 - N.1 1 a) < nI n := by rw [nI_ltI (by omega) (by omega)]; omega
          have ro := nowS_root hV hVN h6
          have op := q_isOpen hV h.c.n hVN h7
          have fv := hVN.fa _ h7
          have mf := h.m.n.fa _ h7
          have s4 : (47 + nI (nowS N (T 2 a)) : Int32) = nI (47 + nowS N (T 2 a)) := by rw [nI_lit, nI_add]
          have a47 : aI skM v 16 (nI (47 + nowS N (T 2 a))) = some (nI (N.1 3 (nowS N (T 2 a)))) := by rw [aM16 (by omega), mf]
          by_cases hf : N.1 3 (nowS N (T 2 a)) = 0
          · rw [b2_t ⟨ro, hf⟩] at op
            have k3 : ¬ (nI (N.1 3 (nowS N (T 2 a))) : Int32) = 1 := by rw [hf]; decide
            have s1 : nI (N.1 1 a) + nI n = nI (N.1 1 a + n) := nI_add _ _
            refine Or.inr ⟨upI u 19 a (nI (N.1 1 a + n)), upI v 16 (1 + a) (nI (N.1 1 a + n)), sN N 1 a (N.1 1 a + n), ?_, ?_, ?_, ?_, RN_take h.c.n, RNm_take hV ha h.m.n, VN_take hVN (by omega)⟩
            · have e4 : X3_putCoins (nI a) (nI n) u = some (nI 1, upI u 19 a (nI (N.1 1 a + n))) := by
                unfold X3_putCoins
                rw [bnd e2, if_neg n10, bnd am, if_neg n10, bnd a19, s2, if_neg k1, bnd a8, bnd (q_nowAt hV h.c.n hVN h6), bnd op, if_neg n10, bnd a19, s1, bnd (sC19 (by omega))]
                rfl
              rw [e1, bnd e4]
              rfl
            · unfold X12_puts
              rw [bnd e3, if_neg n10, if_neg c1, s0, bnd a16, s3, if_neg k2, bnd m6, bnd (m_nowAt hV h.m.n hVN h6), s4, bnd a47, if_neg k3, bnd a16, s1, bnd (sM16 (by omega))]
              rfl
            · intro c hc
              have z : c ≠ 19 := fun z => hc (Or.inl (by omega))
              exact ⟨by rw [upI_k z], by rw [upI_2]⟩
            · intro c hc
              have z : c ≠ 16 := fun z => hc (Or.inl z)
              exact ⟨by rw [upI_k z], by rw [upI_2]⟩
          · rw [b2_f (fun z => hf z.2)] at op
            have k3 : (nI (N.1 3 (nowS N (T 2 a))) : Int32) = 1 := by rw [show N.1 3 (nowS N (T 2 a)) = 1 by omega]; rfl
            refine no ?_ ?_
            · unfold X3_putCoins X3_putCoins_b60
              rw [bnd e2, if_neg n10, bnd am, if_neg n10, bnd a19, s2, if_neg k1, bnd a8, bnd (q_nowAt hV h.c.n hVN h6), bnd op]
              rfl
            · unfold X12_puts X12_puts_b50
              rw [bnd e3, if_neg n10, if_neg c1, s0, bnd a16, s3, if_neg k2, bnd m6, bnd (m_nowAt hV h.m.n hVN h6), s4, bnd a47, if_pos k3]
              rfl
        · have k1 : nI (100000000 - n) < nI (N.1 1 a) := by rw [nI_ltI (by omega) (by omega)]; omega
          have k2 : nI (100000000 - N.1 1 a) < nI n := by rw [nI_ltI (by omega) (by omega)]; omega
          refine no ?_ ?_
          · unfold X3_putCoins X3_putCoins_b60
            rw [bnd e2, if_neg n10, bnd am, if_neg n10, bnd a19, s2, if_pos k1]
            rfl
          · unfold X12_puts X12_puts_b50
            rw [bnd e3, if_neg n10, if_neg c1, s0, bnd a16, s3, if_pos k2]
            rfl
    · refine no ?_ ?_
      · unfold X3_putCoins X3_putCoins_b60
        rw [bnd e2, if_neg n10]
        rcases hy with hy | hy
        · rw [bnd (q_amt_neg hy)]; rfl
        · rw [bnd (q_amt_big hy)]; rfl
      · unfold X12_puts X12_puts_b50
        rw [bnd e3, if_neg n10]
        rcases hy with hy | hy
        · rw [if_pos (Int32.le_of_lt (show y < 0 from hy))]; rfl
        · rw [if_neg (Int32.not_le.mpr (show (0 : Int32) < y from lt_of_out (n := 100000000) (by omega) hy (k := 0) (by omega))), s0, bnd a16, s3, if_pos (lt_of_out (n := 100000000) (by omega) hy (by omega))]; rfl
  · refine no ?_ ?_
    · unfold X3_putCoins X3_putCoins_b60
      rw [bnd (q_isAccountF h.c.t hl)]; rfl
    · unfold X12_puts X12_puts_b50
      rw [bnd (m_isAccountF hV h.m.t hl)]; rfl
theorem o_put (x y : Int32) (h : RR T N P S u v) : SR (X11_put x y u) (X12_put x y v) := by
  unfold X11_put X12_put
  exact o_deed h (fun u' v' h' => d_put x y h')
end PT
