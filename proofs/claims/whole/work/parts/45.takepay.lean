/-! take, pay -/
section TP
variable {T : gT} {N : gN} {P : List gN} {S : gS} {u v : gM}
theorem q_amt {n : Nat} (h1 : 1 ≤ n) (h2 : n ≤ 100000000) : X3_isAmount u (nI n) = some (nI 1) := by
  unfold X3_isAmount X3_isAmount_b15
  rw [if_neg (by rw [nI_lit, nI_leI (by omega) (by omega)]; omega), if_neg (by rw [nI_lit, nI_ltI (by omega) (by omega)]; omega)]
  rfl
theorem q_amt0 : X3_isAmount u (nI 0) = some (nI 0) := rfl
theorem q_amt_dec (x : Int32) : X3_isAmount u x = some (nI 0) ∨ X3_isAmount u x = some (nI 1) := by
  unfold X3_isAmount X3_isAmount_b14 X3_isAmount_b15
  split
  · exact Or.inl rfl
  · split
    · exact Or.inl rfl
    · exact Or.inr rfl
theorem q_amt_neg {x : Int32} (h : x < nI 0) : X3_isAmount u x = some (nI 0) := by
  unfold X3_isAmount X3_isAmount_b14 X3_isAmount_b15
  rw [if_pos (Int32.le_of_lt (show x < 0 from h))]
  rfl
theorem not_le_of {x : Int32} {n : Nat} (hn : n + 1 < 2 ^ 31) (h : nI (n + 1) ≤ x) : ¬ x ≤ nI n := by
  rw [Int32.le_iff_toInt_le] at *
  rw [nI_toInt (by omega)] at *
  omega
theorem VN_take {a x : Nat} (h : VN T N) (hx : x ≤ 100000000) : VN T (sN N 1 a x) := by
  refine ⟨by rw [sN_r (by omega)]; exact h.mo, ?_, ?_, ?_, h.it, fun b hb hne => ?_, h.sn, h.fz, h.fe, h.fv, ?_, h.fb, h.or⟩
  · intro b hb; by_cases z : b = a; { subst z; rw [sN_at]; exact hx }; { rw [sN_i z]; exact h.co b hb }
  · rw [sN_r (by omega)]; exact h.od
  · rw [sN_r (by omega)]; exact h.fa
  · rw [sN_r (by omega)]; exact h.si b hb hne
  · rw [sN_r (by omega)]; exact h.fl
theorem RN_take {a x : Nat} (h : RN 18 T N u) : RN 18 T (sN N 1 a x) (upI u 19 a (nI x)) := by
  have e : ∀ c, c ≠ 19 → (upI u 19 a (nI x)).1 c = u.1 c := fun c hc => upI_k hc
  refine ⟨by rw [e _ (by omega), sN_r (by omega)]; exact h.mo, ?_, ?_, ?_, ?_, ?_, ?_, ?_, ?_, ?_, ?_, ?_⟩
  · intro b hb; by_cases z : b = a; { subst z; rw [show 18 + 1 = 19 from rfl, upI_at, sN_at] }; { rw [show 18 + 1 = 19 from rfl, upI_j z, sN_i z]; exact h.co b hb }
  · rw [sN_r (by omega), e _ (by omega)]; exact h.od
  · rw [e _ (by omega)]; exact h.it
  · rw [e _ (by omega)]; exact h.si
  · rw [sN_r (by omega), e _ (by omega)]; exact h.fa
  · rw [e _ (by omega)]; exact h.fb
  · rw [sN_r (by omega), upI_2]; exact h.fl
  · rw [e _ (by omega)]; exact h.fo
  · rw [e _ (by omega)]; exact h.fp
  · rw [e _ (by omega)]; exact h.fd
  · rw [e _ (by omega)]; exact h.fs
theorem RNm_take {a x : Nat} (hV : VT T) (ha : a < T 0 2) (h : RNm (v.1 16) T N) : RNm ((upI v 16 (1 + a) (nI x)).1 16) T (sN N 1 a x) := by
  have hna := hV.na
  have hnl := hV.nl
  have e : ∀ i, i ≠ 1 + a → (upI v 16 (1 + a) (nI x)).1 16 i = v.1 16 i := fun i hi => upI_j hi
  refine ⟨by rw [e _ (by omega), sN_r (by omega)]; exact h.mo, fun b hb => ?_, fun l hl => ?_, fun b hb => ?_, fun b hb => ?_, fun b hb => ?_, ?_, fun hb i hi => ?_, fun hb i hi => ?_, fun hb i hi => ?_, fun hb i hi => ?_, fun hb => ?_⟩
  · by_cases z : b = a; { subst z; rw [upI_at, sN_at] }; { rw [e _ (by omega), sN_i z]; exact h.co b hb }
  · rw [sN_r (by omega), e _ (by omega)]; exact h.od l hl
  · rw [e _ (by omega)]; exact h.it b hb
  · rw [e _ (by omega)]; exact h.si b hb
  · rw [sN_r (by omega), e _ (by omega)]; exact h.fa b hb
  · rw [e _ (by omega)]; exact h.fb
  · rw [e _ (by omega)]; exact h.fo hb i hi
  · rw [e _ (by omega)]; exact h.fp hb i hi
  · rw [e _ (by omega)]; exact h.fd hb i hi
  · rw [e _ (by omega)]; exact h.fs hb i hi
  · rw [sN_r (by omega), e _ (by omega)]; exact h.fl hb
theorem d_take (x y : Int32) (h : RR T N P S u v) : DS T (X3_act 15 x y u) (X12_takesFrom x y v) u v := by
  have hV := h.d.t; have hVN := h.d.n; have hna := hV.na; have hnl := hV.nl
  have hc := h.c.n.co
  simp only [Nat.reduceAdd] at hc
  have e1 : X3_act 15 x y u = ((X3_takeCoins x y u).bind fun w => ((bI w.1).bind fun v' => some (v', w.2))) := rfl
  have no : X3_takeCoins x y u = some (nI 0, u) → X12_takesFrom x y v = some (nI 0, v) → DS T (X3_act 15 x y u) (X12_takesFrom x y v) u v := by
    intro z1 z2
    refine Or.inl ⟨u, v, ?_, z2, off_rf, off_rf⟩
    rw [e1, bnd z1]
    rfl
  rcases i_cases x (T 0 2) (by omega) with ⟨a, ha, rfl⟩ | hl
  · have e2 := q_isAccount hV h.c.t ha
    have e3 := m_isAccount hV h.m.t ha
    have hb := hVN.co a ha
    have a19 : aI skC u 19 (nI a) = some (nI (N.1 1 a)) := by rw [aC19 (by omega), hc a ha]
    have s0 : (1 + nI a : Int32) = nI (1 + a) := by rw [nI_lit, nI_add]
    have a16 : aI skM v 16 (nI (1 + a)) = some (nI (N.1 1 a)) := by rw [aM16 (by omega), h.m.n.co a ha]
    rcases i_cases y (N.1 1 a + 1) (by omega) with ⟨n, hn, rfl⟩ | hy
    · have k0 := isIn_1 (v := v) (k := n) (n := N.1 1 a) (by omega) (by omega)
      by_cases h0 : n = 0
      · subst h0
        rw [b2_f (by omega)] at k0
        refine no ?_ ?_
        · unfold X3_takeCoins X3_takeCoins_b31
          rw [bnd e2, if_neg n10, bnd q_amt0]
          rfl
        · unfold X12_takesFrom X12_takesFrom_b26
          rw [bnd e3, if_neg n10, s0, bnd a16, nI_64 (show N.1 1 a < 2 ^ 31 by omega)]
          exact (bnd k0 _).trans rfl
      · rw [b2_t (by omega)] at k0
        have s1 : nI (N.1 1 a) - nI n = nI (N.1 1 a - n) := pk_sub (by omega)
        refine Or.inr ⟨upI u 19 a (nI (N.1 1 a - n)), upI v 16 (1 + a) (nI (N.1 1 a - n)), sN N 1 a (N.1 1 a - n), ?_, ?_, ?_, ?_, RN_take h.c.n, RNm_take hV ha h.m.n, VN_take hVN (by omega)⟩
        · have e4 : X3_takeCoins (nI a) (nI n) u = some (nI 1, upI u 19 a (nI (N.1 1 a - n))) := by
            unfold X3_takeCoins
            rw [bnd e2, if_neg n10, bnd (q_amt (by omega) (by omega)), if_neg n10, bnd a19, if_pos (by rw [nI_leI (by omega) (by omega)]; omega), bnd a19, s1, bnd (sC19 (by omega))]
            rfl
          rw [e1, bnd e4]
          rfl
        · unfold X12_takesFrom
          rw [bnd e3, if_neg n10, s0, bnd a16, nI_64 (show N.1 1 a < 2 ^ 31 by omega)]
          refine (bnd k0 _).trans ?_
          rw [if_neg n10, bnd a16, s1, bnd (sM16 (by omega))]
          rfl
        · intro c hc
          have z : c ≠ 19 := fun z => hc (Or.inl (by omega))
          exact ⟨by rw [upI_k z], by rw [upI_2]⟩
        · intro c hc
          have z : c ≠ 16 := fun z => hc (Or.inl z)
          exact ⟨by rw [upI_k z], by rw [upI_2]⟩
    · have k0 := isIn_1o (v := v) hy (by omega)
      refine no ?_ ?_
      · unfold X3_takeCoins X3_takeCoins_b31
        rw [bnd e2, if_neg n10]
        rcases hy with hy | hy
        · rw [bnd (q_amt_neg hy)]; rfl
        · rcases q_amt_dec (u := u) y with z | z
          · rw [bnd z]; rfl
          · rw [bnd z, if_neg n10, bnd a19, if_neg (not_le_of (by omega) hy)]; rfl
      · unfold X12_takesFrom X12_takesFrom_b26
        rw [bnd e3, if_neg n10, s0, bnd a16, nI_64 (show N.1 1 a < 2 ^ 31 by omega)]
        exact (bnd k0 _).trans rfl
  · refine no ?_ ?_
    · unfold X3_takeCoins X3_takeCoins_b31
      rw [bnd (q_isAccountF h.c.t hl)]; rfl
    · unfold X12_takesFrom X12_takesFrom_b26
      rw [bnd (m_isAccountF hV h.m.t hl)]; rfl
theorem o_take (x y : Int32) (h : RR T N P S u v) : SR (X11_take x y u) (X12_take x y v) := by
  unfold X11_take X12_take
  exact o_deed h (fun u' v' h' => d_take x y h')
theorem VN_pay {a x : Nat} (h : VN T N) (hx : x ≤ 100000000) : VN T (sN N 2 a x) := by
  refine ⟨by rw [sN_r (by omega)]; exact h.mo, ?_, ?_, ?_, h.it, fun b hb hne => ?_, h.sn, h.fz, h.fe, h.fv, ?_, h.fb, h.or⟩
  · rw [sN_r (by omega)]; exact h.co
  · intro b hb; by_cases z : b = a; { subst z; rw [sN_at]; exact hx }; { rw [sN_i z]; exact h.od b hb }
  · rw [sN_r (by omega)]; exact h.fa
  · rw [sN_r (by omega)]; exact h.si b hb hne
  · rw [sN_r (by omega)]; exact h.fl
theorem RN_pay {a x : Nat} (h : RN 18 T N u) : RN 18 T (sN N 2 a x) (upI u 20 a (nI x)) := by
  have e : ∀ c, c ≠ 20 → (upI u 20 a (nI x)).1 c = u.1 c := fun c hc => upI_k hc
  refine ⟨by rw [e _ (by omega), sN_r (by omega)]; exact h.mo, ?_, ?_, ?_, ?_, ?_, ?_, ?_, ?_, ?_, ?_, ?_⟩
  · rw [sN_r (by omega), e _ (by omega)]; exact h.co
  · intro b hb; by_cases z : b = a; { subst z; rw [show 18 + 2 = 20 from rfl, upI_at, sN_at] }; { rw [show 18 + 2 = 20 from rfl, upI_j z, sN_i z]; exact h.od b hb }
  · rw [e _ (by omega)]; exact h.it
  · rw [e _ (by omega)]; exact h.si
  · rw [sN_r (by omega), e _ (by omega)]; exact h.fa
  · rw [e _ (by omega)]; exact h.fb
  · rw [sN_r (by omega), upI_2]; exact h.fl
  · rw [e _ (by omega)]; exact h.fo
  · rw [e _ (by omega)]; exact h.fp
  · rw [e _ (by omega)]; exact h.fd
  · rw [e _ (by omega)]; exact h.fs
theorem RNm_pay {a x : Nat} (hV : VT T) (ha : a < T 0 3) (h : RNm (v.1 16) T N) : RNm ((upI v 16 (25 + a) (nI x)).1 16) T (sN N 2 a x) := by
  have hna := hV.na
  have hnl := hV.nl
  have e : ∀ i, i ≠ 25 + a → (upI v 16 (25 + a) (nI x)).1 16 i = v.1 16 i := fun i hi => upI_j hi
  refine ⟨by rw [e _ (by omega), sN_r (by omega)]; exact h.mo, fun b hb => ?_, fun l hl => ?_, fun b hb => ?_, fun b hb => ?_, fun b hb => ?_, ?_, fun hb i hi => ?_, fun hb i hi => ?_, fun hb i hi => ?_, fun hb i hi => ?_, fun hb => ?_⟩
  · rw [sN_r (by omega), e _ (by omega)]; exact h.co b hb
  · by_cases z : l = a; { subst z; rw [upI_at, sN_at] }; { rw [e _ (by omega), sN_i z]; exact h.od l hl }
  · rw [e _ (by omega)]; exact h.it b hb
  · rw [e _ (by omega)]; exact h.si b hb
  · rw [sN_r (by omega), e _ (by omega)]; exact h.fa b hb
  · rw [e _ (by omega)]; exact h.fb
  · rw [e _ (by omega)]; exact h.fo hb i hi
  · rw [e _ (by omega)]; exact h.fp hb i hi
  · rw [e _ (by omega)]; exact h.fd hb i hi
  · rw [e _ (by omega)]; exact h.fs hb i hi
  · rw [sN_r (by omega), e _ (by omega)]; exact h.fl hb
theorem d_pay (x y : Int32) (h : RR T N P S u v) : DS T (X3_act 19 x y u) (X12_pays x y v) u v := by
  have hV := h.d.t; have hVN := h.d.n; have hna := hV.na; have hnl := hV.nl
  have hc := h.c.n.od
  simp only [Nat.reduceAdd] at hc
  have e1 : X3_act 19 x y u = ((X3_payLoan x y u).bind fun w => ((bI w.1).bind fun v' => some (v', w.2))) := rfl
  have no : X3_payLoan x y u = some (nI 0, u) → X12_pays x y v = some (nI 0, v) → DS T (X3_act 19 x y u) (X12_pays x y v) u v := by
    intro z1 z2
    refine Or.inl ⟨u, v, ?_, z2, off_rf, off_rf⟩
    rw [e1, bnd z1]
    rfl
  rcases i_cases x (T 0 3) (by omega) with ⟨a, ha, rfl⟩ | hl
  · have e2 := q_isLoan hV h.c.t ha
    have e3 := m_isLoan hV h.m.t ha
    have hb := hVN.od a ha
    have a19 : aI skC u 20 (nI a) = some (nI (N.1 2 a)) := by rw [aC20 (by omega), hc a ha]
    have s0 : (25 + nI a : Int32) = nI (25 + a) := by rw [nI_lit, nI_add]
    have a16 : aI skM v 16 (nI (25 + a)) = some (nI (N.1 2 a)) := by rw [aM16 (by omega), h.m.n.od a ha]
    rcases i_cases y (N.1 2 a + 1) (by omega) with ⟨n, hn, rfl⟩ | hy
    · have k0 := isIn_1 (v := v) (k := n) (n := N.1 2 a) (by omega) (by omega)
      by_cases h0 : n = 0
      · subst h0
        rw [b2_f (by omega)] at k0
        refine no ?_ ?_
        · unfold X3_payLoan X3_payLoan_b31
          rw [bnd e2, if_neg n10, bnd q_amt0]
          rfl
        · unfold X12_pays X12_pays_b27
          rw [bnd e3, if_neg n10, s0, bnd a16, nI_64 (show N.1 2 a < 2 ^ 31 by omega)]
          exact (bnd k0 _).trans rfl
      · rw [b2_t (by omega)] at k0
        have s1 : nI (N.1 2 a) - nI n = nI (N.1 2 a - n) := pk_sub (by omega)
        refine Or.inr ⟨upI u 20 a (nI (N.1 2 a - n)), upI v 16 (25 + a) (nI (N.1 2 a - n)), sN N 2 a (N.1 2 a - n), ?_, ?_, ?_, ?_, RN_pay h.c.n, RNm_pay hV ha h.m.n, VN_pay hVN (by omega)⟩
        · have e4 : X3_payLoan (nI a) (nI n) u = some (nI 1, upI u 20 a (nI (N.1 2 a - n))) := by
            unfold X3_payLoan
            rw [bnd e2, if_neg n10, bnd (q_amt (by omega) (by omega)), if_neg n10, bnd a19, if_pos (by rw [nI_leI (by omega) (by omega)]; omega), bnd a19, s1, bnd (sC20 (by omega))]
            rfl
          rw [e1, bnd e4]
          rfl
        · unfold X12_pays
          rw [bnd e3, if_neg n10, s0, bnd a16, nI_64 (show N.1 2 a < 2 ^ 31 by omega)]
          refine (bnd k0 _).trans ?_
          rw [if_neg n10, bnd a16, s1, bnd (sM16 (by omega))]
          rfl
        · intro c hc
          have z : c ≠ 20 := fun z => hc (Or.inl (by omega))
          exact ⟨by rw [upI_k z], by rw [upI_2]⟩
        · intro c hc
          have z : c ≠ 16 := fun z => hc (Or.inl z)
          exact ⟨by rw [upI_k z], by rw [upI_2]⟩
    · have k0 := isIn_1o (v := v) hy (by omega)
      refine no ?_ ?_
      · unfold X3_payLoan X3_payLoan_b31
        rw [bnd e2, if_neg n10]
        rcases hy with hy | hy
        · rw [bnd (q_amt_neg hy)]; rfl
        · rcases q_amt_dec (u := u) y with z | z
          · rw [bnd z]; rfl
          · rw [bnd z, if_neg n10, bnd a19, if_neg (not_le_of (by omega) hy)]; rfl
      · unfold X12_pays X12_pays_b27
        rw [bnd e3, if_neg n10, s0, bnd a16, nI_64 (show N.1 2 a < 2 ^ 31 by omega)]
        exact (bnd k0 _).trans rfl
  · refine no ?_ ?_
    · unfold X3_payLoan X3_payLoan_b31
      rw [bnd (q_isLoanF h.c.t hl)]; rfl
    · unfold X12_pays X12_pays_b27
      rw [bnd (m_isLoanF hV h.m.t hl)]; rfl
theorem o_pay (x y : Int32) (h : RR T N P S u v) : SR (X11_pay x y u) (X12_pay x y v) := by
  unfold X11_pay X12_pay
  exact o_deed h (fun u' v' h' => d_pay x y h')
end TP
