/-! THE OPERATIONS: look, fault, loan, bank, owner, account -/
section O1
variable {T : gT} {N : gN} {P : List gN} {S : gS} {u v : gM}
theorem o_look (x : Int32) (h : RR T N P S u v) : SP (X11_look u x) (X12_look v x) := by
  have c1 := h.c.t; have c2 := h.c.n; have m1 := h.m.t; have m2 := h.m.n
  have t0 := m1.np; have t1 := m1.nb; have t2 := m1.na; have t3 := m1.nl; have t4 := m1.li; have t5 := m1.gr
  simp only [Nat.mul_zero, Nat.zero_add] at t0 t1 t2 t3 t4 t5
  unfold X11_look X12_look SP
  by_cases h0 : x = 0
  · simp only [↓if_pos h0]
    simp (disch := omega) only [aM1, aM16, nI_lit, t0, c1.np, Option.bind_some]; exact ⟨_, rfl, rfl⟩
  by_cases h1 : x = 1
  · simp only [↓if_neg h0, ↓if_pos h1]
    simp (disch := omega) only [aM1, aM16, nI_lit, t1, c1.nb, Option.bind_some]; exact ⟨_, rfl, rfl⟩
  by_cases h2 : x = 2
  · simp only [↓if_neg h0, ↓if_neg h1, ↓if_pos h2]
    simp (disch := omega) only [aM1, aM16, nI_lit, t2, c1.na, Option.bind_some]; exact ⟨_, rfl, rfl⟩
  by_cases h3 : x = 3
  · simp only [↓if_neg h0, ↓if_neg h1, ↓if_neg h2, ↓if_pos h3]
    simp (disch := omega) only [aM1, aM16, nI_lit, t3, c1.nl, Option.bind_some]; exact ⟨_, rfl, rfl⟩
  by_cases h4 : x = 4
  · simp only [↓if_neg h0, ↓if_neg h1, ↓if_neg h2, ↓if_neg h3, ↓if_pos h4]
    simp (disch := omega) only [aM1, aM16, nI_lit, m2.mo, c2.mo, Option.bind_some]; exact ⟨_, rfl, rfl⟩
  by_cases h5 : x = 5
  · simp only [↓if_neg h0, ↓if_neg h1, ↓if_neg h2, ↓if_neg h3, ↓if_neg h4, ↓if_pos h5]
    simp (disch := omega) only [aM1, aM16, nI_lit, t4, c1.li, Option.bind_some]; exact ⟨_, rfl, rfl⟩
  by_cases h6 : x = 6
  · simp only [↓if_neg h0, ↓if_neg h1, ↓if_neg h2, ↓if_neg h3, ↓if_neg h4, ↓if_neg h5, ↓if_pos h6]
    simp (disch := omega) only [aM1, aM16, nI_lit, t5, c1.gr, Option.bind_some]; exact ⟨_, rfl, rfl⟩
  by_cases h7 : x = 7
  · simp only [↓if_neg h0, ↓if_neg h1, ↓if_neg h2, ↓if_neg h3, ↓if_neg h4, ↓if_neg h5, ↓if_neg h6, ↓if_pos h7]
    simp (disch := omega) only [aM1, aM16, nI_lit, h.c.pc, h.m.pc, Option.bind_some]; exact ⟨_, rfl, rfl⟩
  by_cases h8 : x = 8
  · simp only [↓if_neg h0, ↓if_neg h1, ↓if_neg h2, ↓if_neg h3, ↓if_neg h4, ↓if_neg h5, ↓if_neg h6, ↓if_neg h7, ↓if_pos h8]
    simp (disch := omega) only [aM1, aM16, nI_lit, h.c.tl, h.m.tl, Option.bind_some]; exact ⟨_, rfl, rfl⟩
  by_cases h9 : x = 9
  · simp only [↓if_neg h0, ↓if_neg h1, ↓if_neg h2, ↓if_neg h3, ↓if_neg h4, ↓if_neg h5, ↓if_neg h6, ↓if_neg h7, ↓if_neg h8, ↓if_pos h9]
    simp (disch := omega) only [aM1, aM16, nI_lit, h.c.dt, h.m.dt, Option.bind_some]; exact ⟨_, rfl, rfl⟩
  simp only [↓if_neg h0, ↓if_neg h1, ↓if_neg h2, ↓if_neg h3, ↓if_neg h4, ↓if_neg h5, ↓if_neg h6, ↓if_neg h7, ↓if_neg h8, ↓if_neg h9]
  exact ⟨_, rfl, rfl⟩
theorem o_fault (x : Int32) (h : RR T N P S u v) : SP (X11_fault u x) (X12_fault v x) := by
  unfold X11_fault X12_fault X12_fault_b24 SP
  by_cases h0 : x = 0
  · simp only [↓if_pos h0, h.c.fa, h.m.fa]; exact ⟨_, rfl, rfl⟩
  by_cases h1 : x = 1
  · simp only [↓if_neg h0, ↓if_pos h1, h.c.fp, h.m.fp]; exact ⟨_, rfl, rfl⟩
  simp only [↓if_neg h0, ↓if_neg h1]
  exact ⟨_, rfl, rfl⟩
theorem o_loan (l x : Int32) (h : RR T N P S u v) : SP (X11_loan u l x) (X12_loan v l x) := by
  have c1 := h.c.t; have c2 := h.c.n; have m1 := h.m.t; have m2 := h.m.n
  have hV := h.d.t; have hVN := h.d.n; have hnl := hV.nl; have hnb := hV.nb
  have p0 := c1.lp; have p1 := c1.lb; have r0 := m1.lp; have r1 := m1.lb
  simp only [Nat.reduceAdd] at p0 p1
  simp only [Nat.mul_zero, Nat.zero_add] at r0 r1
  have q2 := c2.od; simp only [Nat.reduceAdd] at q2
  unfold X11_loan X12_loan X12_loan_b59 SP
  rcases i_cases l (T 0 3) (by omega) with ⟨i, hi, rfl⟩ | hl
  · rw [q_isLoan hV c1 hi, m_isLoan hV m1 hi, Option.bind_some, Option.bind_some, if_neg n10, if_neg n10]
    have hb := hV.lb i hi
    by_cases h0 : x = 0
    · simp only [↓if_pos h0]
      simp (disch := omega) only [aC15, aM13, p0 i hi, r0 i hi, Option.bind_some]; exact ⟨_, rfl, rfl⟩
    by_cases h1 : x = 1
    · simp only [↓if_neg h0, ↓if_pos h1]
      simp (disch := omega) only [aC16, aM14, p1 i hi, r1 i hi, q_nowAt hV c2 hVN (show T 9 i < 6 by omega), m_nowAt hV m2 hVN (show T 9 i < 6 by omega), Option.bind_some]; exact ⟨_, rfl, rfl⟩
    by_cases h2 : x = 2
    · simp only [↓if_neg h0, ↓if_neg h1, ↓if_pos h2]
      simp (disch := omega) only [aC20, aM16, q2 i hi, m2.od i hi, nI_lit, nI_add, Option.bind_some]; exact ⟨_, rfl, rfl⟩
    simp only [↓if_neg h0, ↓if_neg h1, ↓if_neg h2]
    exact ⟨_, rfl, rfl⟩
  · rw [q_isLoanF c1 hl, m_isLoanF hV m1 hl]
    exact ⟨_, rfl, rfl⟩
end O1
