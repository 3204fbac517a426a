/-! what is passed, and with which FAULT it isn't -/
def numO (B : Nat → Nat) (t : tkT) (lo hi : Nat) : Option Nat := if isNu t then (if lo ≤ tnu B t ∧ tnu B t ≤ hi then none else some 4) else some 1
def wrdO (B : Nat → Nat) (t : tkT) (j : Nat) : Option Nat := if tkw B t = some j then none else some 1
def smO (B : Nat → Nat) (t : tkT) : Option Nat := if isSc B t then none else some 1
def knO (B : Nat → Nat) (t : tkT) (f : Option Nat) : Option Nat := if isNm B t then (if f = none then some 3 else none) else some 1
def nwO (B : Nat → Nat) (t : tkT) (tk fu : Bool) : Option Nat := if isNm B t then (if tk = true then some 2 else if fu = true then some 5 else none) else some 1
section PS
variable {u v u' v' : gM} {s : tpT} {t : tkT}
theorem c_ref {k : Nat} (h : Pc s t u) : ∃ u', ((X9_refuse (nI k) u).bind fun w => ((bI w.1).bind fun v => some (v, w.2))) = some (nI 0, u') ∧ Fc k t.2.1 u' ∧ o1 u u' := by
  obtain ⟨u', e, f, o⟩ := c_refuse (k := k) h
  refine ⟨u', ?_, f, o⟩
  rw [bnd e]
  rfl
theorem m_ref {k : Nat} (h : Pm s t v) : ∃ v', ((X12_fails (nI k) v).bind fun w => ((bI w.1).bind fun x => some (x, w.2))) = some (nI 0, v') ∧ Fm k t.2.1 v' ∧ FMk v v' := by
  obtain ⟨v', e, f, o⟩ := m_fails (k := k) h
  refine ⟨v', ?_, f, o⟩
  rw [bnd e]
  rfl
theorem c_num {lo hi : Nat} (hS : TS s) (hV : TKV s.2 s.1 t) (h : Pc s t u) (hlo : lo < 2 ^ 31) (hhi : hi < 2 ^ 31) (hO : numO s.2 t lo hi = none) : ∃ u', X9_passNumber (nI lo) (nI hi) u = some (nI 1, u') ∧ Pc s (nx s t) u' ∧ u'.1 1 6 = nI (tnu s.2 t) ∧ o1 u u' := by
  have hb := tnu_lt hV
  unfold numO at hO
  split at hO
  · next h1 =>
    split at hO
    · next h2 =>
      have f1 : Pc s t (upI u 1 6 (nI (tnu s.2 t))) := ⟨⟨by rw [upI_j (by omega)]; exact h.tp.l, by rw [upI_k (by omega)]; exact h.tp.b⟩, ⟨by rw [upI_j (by omega)]; exact h.tk.p, by rw [upI_j (by omega)]; exact h.tk.q, by rw [upI_j (by omega)]; exact h.tk.s, by rw [upI_j (by omega)]; exact h.tk.w, by rw [upI_2]; exact h.tk.n, by rw [upI_j (by omega)]; exact h.tk.m⟩, by rw [upI_j (by omega)]; exact h.f, by rw [upI_j (by omega)]; exact h.g⟩
      obtain ⟨u', e, p, f⟩ := c_step hS hV f1
      refine ⟨u', ?_, p, by rw [f.i 6 (by omega) (by omega) (by omega) (by omega) (by omega), upI_at], o1.rf.I.tr f.o⟩
      unfold X9_passNumber
      rw [if_pos (show u.1 1 3 = 3 from (h.tk.s_iff (k := 3) (by omega)).mpr (srt_3.mpr h1)), h.tk.m, if_neg (show ¬ nI (tnu s.2 t) < nI lo by rw [nI_ltI (by omega) hlo]; omega), if_pos (show nI (tnu s.2 t) ≤ nI hi by rw [nI_leI (by omega) hhi]; omega), bnd e]
      rfl
    · cases hO
  · cases hO
theorem c_numF {lo hi k : Nat} (hV : TKV s.2 s.1 t) (h : Pc s t u) (hlo : lo < 2 ^ 31) (hhi : hi < 2 ^ 31) (hO : numO s.2 t lo hi = some k) : ∃ u', X9_passNumber (nI lo) (nI hi) u = some (nI 0, u') ∧ Fc k t.2.1 u' ∧ o1 u u' := by
  have hb := tnu_lt hV
  unfold X9_passNumber X9_passNumber_b30
  unfold numO at hO
  split at hO
  · next h1 =>
    split at hO
    · cases hO
    · next h2 =>
      cases hO
      obtain ⟨u', e, f⟩ := c_ref (k := 4) h
      refine ⟨u', ?_, f⟩
      rw [if_pos (show u.1 1 3 = 3 from (h.tk.s_iff (k := 3) (by omega)).mpr (srt_3.mpr h1)), h.tk.m]
      by_cases h3 : tnu s.2 t < lo
      · rw [if_pos (show nI (tnu s.2 t) < nI lo by rw [nI_ltI (by omega) hlo]; exact h3)]
        exact e
      · rw [if_neg (show ¬ nI (tnu s.2 t) < nI lo by rw [nI_ltI (by omega) hlo]; exact h3), if_neg (show ¬ nI (tnu s.2 t) ≤ nI hi by rw [nI_leI (by omega) hhi]; omega)]
        exact e
  · next h1 =>
    cases hO
    obtain ⟨u', e, f⟩ := c_ref (k := 1) h
    refine ⟨u', ?_, f⟩
    rw [if_neg (show ¬ u.1 1 3 = 3 from fun z => h1 (srt_3.mp ((h.tk.s_iff (k := 3) (by omega)).mp z)))]
    exact e
theorem m_num {lo hi : Nat} (hS : TS s) (hV : TKV s.2 s.1 t) (h : Pm s t v) (hlo : lo < 2 ^ 31) (hhi : hi < 2 ^ 31) (hO : numO s.2 t lo hi = none) : ∃ v', X12_readNumber (lN lo) (lN hi) v = some (nI 1, v') ∧ Pm s (nx s t) v' ∧ v'.1 0 31 = nI (tnu s.2 t) ∧ FMk v v' := by
  have hb := tnu_lt hV
  have hs := hV.s
  have hl := hV.l
  have hm := hV.m
  have hsl := hS.l
  unfold numO at hO
  split at hO
  · next h1 =>
    split at hO
    · next h2 =>
      have f1 : Pm s t (upI v 0 31 (nI (tnu s.2 t))) := ⟨⟨by rw [upI_j (by omega)]; exact h.tp.l, by rw [upI_k (by omega)]; exact h.tp.b⟩, ⟨by rw [upI_j (by omega)]; exact h.tk.p, by rw [upI_j (by omega)]; exact h.tk.q, by rw [upI_j (by omega)]; exact h.tk.s, by rw [upI_2]; exact h.tk.w, by rw [upI_2]; exact h.tk.m, by rw [upI_j (by omega)]; exact h.tk.g⟩, by rw [upI_j (by omega)]; exact h.f, by rw [upI_j (by omega)]; exact h.g⟩
      obtain ⟨v', e, p, f⟩ := m_step hS hV f1
      refine ⟨v', ?_, p, by rw [f.i 31 (by omega) (by omega) (by omega) (by omega), upI_at], (FMk.rf.I (by omega)).tr f.k⟩
      unfold X12_readNumber
      have hin : X12_isIn v (lN (tnu s.2 t)) (lN lo) (lN hi) = some (nI 1) := by
        rw [m_isIn, b2_t]
        rw [lN_leI (by omega) (by omega), lN_leI (by omega) (by omega)]
        exact h2
      rw [h.tk.s, if_pos (show nI t.1 = 2 by rw [h1.1]; rfl), h.tk.q, h.tk.p, pk_sub hl, if_pos (show nI (t.2.2 - t.2.1) ≤ 9 by rw [nI_lit, nI_leI (by omega) (by omega)]; exact h1.2), h.tk.m, bnd hin, if_neg n10, lN_32, bnd e]
      rfl
    · cases hO
  · cases hO
theorem m_numF {lo hi k : Nat} (hV : TKV s.2 s.1 t) (hS : TS s) (h : Pm s t v) (hlo : lo < 2 ^ 31) (hhi : hi < 2 ^ 31) (hO : numO s.2 t lo hi = some k) : ∃ v', X12_readNumber (lN lo) (lN hi) v = some (nI 0, v') ∧ Fm k t.2.1 v' ∧ FMk v v' := by
  have hb := tnu_lt hV
  have hs := hV.s
  have hl := hV.l
  have hm := hV.m
  have hsl := hS.l
  unfold X12_readNumber X12_readNumber_b22
  unfold numO at hO
  split at hO
  · next h1 =>
    split at hO
    · cases hO
    · next h2 =>
      cases hO
      obtain ⟨v', e, f⟩ := m_ref (k := 4) h
      refine ⟨v', ?_, f⟩
      have hin : X12_isIn v (lN (tnu s.2 t)) (lN lo) (lN hi) = some (nI 0) := by
        rw [m_isIn, b2_f]
        rw [lN_leI (by omega) (by omega), lN_leI (by omega) (by omega)]
        exact h2
      rw [h.tk.s, if_pos (show nI t.1 = 2 by rw [h1.1]; rfl), h.tk.q, h.tk.p, pk_sub hl, if_pos (show nI (t.2.2 - t.2.1) ≤ 9 by rw [nI_lit, nI_leI (by omega) (by omega)]; exact h1.2), h.tk.m, bnd hin, if_pos z00]
      exact e
  · next h1 =>
    cases hO
    obtain ⟨v', e, f⟩ := m_ref (k := 1) h
    refine ⟨v', ?_, f⟩
    rw [h.tk.s, h.tk.q, h.tk.p, pk_sub hl]
    by_cases g1 : t.1 = 2
    · rw [if_pos (show nI t.1 = 2 by rw [g1]; rfl), if_neg (show ¬ nI (t.2.2 - t.2.1) ≤ 9 by rw [nI_lit, nI_leI (by omega) (by omega)]; exact fun z => h1 ⟨g1, z⟩)]
      exact e
    · rw [if_neg (show ¬ nI t.1 = 2 by rw [nI_lit, nI_eq (by omega) (by omega)]; exact g1)]
      exact e
theorem c_word {j : Nat} (hj : j < 21) (hS : TS s) (hV : TKV s.2 s.1 t) (h : Pc s t u) (hO : wrdO s.2 t j = none) : ∃ u', X9_passWord (nI j) u = some (nI 1, u') ∧ Pc s (nx s t) u' ∧ o1 u u' := by
  unfold wrdO at hO
  split at hO
  · next h1 =>
    obtain ⟨u', e, p, f⟩ := c_step hS hV h
    refine ⟨u', ?_, p, f.o⟩
    unfold X9_passWord
    rw [h.tk.w, h1, if_pos (show oI (some j) = nI j from rfl), bnd e]
    rfl
  · cases hO
theorem c_wordF {j k : Nat} (hj : j < 21) (h : Pc s t u) (hO : wrdO s.2 t j = some k) : ∃ u', X9_passWord (nI j) u = some (nI 0, u') ∧ Fc k t.2.1 u' ∧ o1 u u' := by
  unfold wrdO at hO
  split at hO
  · cases hO
  · next h1 =>
    cases hO
    obtain ⟨u', e, f⟩ := c_ref (k := 1) h
    refine ⟨u', ?_, f⟩
    unfold X9_passWord
    rw [h.tk.w, if_neg (show ¬ oI (tkw s.2 t) = nI j by rw [oI_nI (fun n hn => by have := tkw_lt hn; omega) (by omega)]; exact h1)]
    exact e
theorem m_takes {i j : Nat} (hi : i < 22) (hi1 : 1 ≤ i) (hj : jd i = j) (hS : TS s) (hV : TKV s.2 s.1 t) (h : Pm s t v) (hO : wrdO s.2 t j = none) : ∃ v', X12_takes i v = some (nI 1, v') ∧ Pm s (nx s t) v' ∧ FMk v v' := by
  unfold wrdO at hO
  split at hO
  · next h1 =>
    obtain ⟨v', e, p, f⟩ := m_step hS hV h
    refine ⟨v', ?_, p, f.k⟩
    unfold X12_takes
    rw [bnd (m_isWord hi hi1 hV hS.l h.tk), hj, b2_t h1, if_neg n10, bnd e]
    rfl
  · cases hO
theorem m_takesF {i j k : Nat} (hi : i < 22) (hi1 : 1 ≤ i) (hj : jd i = j) (hS : TS s) (hV : TKV s.2 s.1 t) (h : Pm s t v) (hO : wrdO s.2 t j = some k) : ∃ v', X12_takes i v = some (nI 0, v') ∧ Fm k t.2.1 v' ∧ FMk v v' := by
  unfold wrdO at hO
  split at hO
  · cases hO
  · next h1 =>
    cases hO
    obtain ⟨v', e, f⟩ := m_ref (k := 1) h
    refine ⟨v', ?_, f⟩
    unfold X12_takes
    rw [bnd (m_isWord hi hi1 hV hS.l h.tk), hj, b2_f h1, if_pos z00]
    exact e
theorem c_semi (hS : TS s) (hV : TKV s.2 s.1 t) (h : Pc s t u) (hO : smO s.2 t = none) : ∃ u', X9_passSemicolon u = some (nI 1, u') ∧ Pc s (nx s t) u' ∧ o1 u u' := by
  unfold smO at hO
  split at hO
  · next h1 =>
    obtain ⟨u', e, p, f⟩ := c_step hS hV h
    refine ⟨u', ?_, p, f.o⟩
    unfold X9_passSemicolon
    rw [if_pos (show u.1 1 3 = 4 from (h.tk.s_iff (k := 4) (by omega)).mpr ((srt_4 hV).mpr h1)), bnd e]
    rfl
  · cases hO
theorem c_semiF {k : Nat} (hV : TKV s.2 s.1 t) (h : Pc s t u) (hO : smO s.2 t = some k) : ∃ u', X9_passSemicolon u = some (nI 0, u') ∧ Fc k t.2.1 u' ∧ o1 u u' := by
  unfold smO at hO
  split at hO
  · cases hO
  · next h1 =>
    cases hO
    obtain ⟨u', e, f⟩ := c_ref (k := 1) h
    refine ⟨u', ?_, f⟩
    unfold X9_passSemicolon
    rw [if_neg (show ¬ u.1 1 3 = 4 from fun z => h1 ((srt_4 hV).mp ((h.tk.s_iff (k := 4) (by omega)).mp z)))]
    exact e
theorem m_ends (hS : TS s) (hV : TKV s.2 s.1 t) (h : Pm s t v) (hO : smO s.2 t = none) : ∃ v', X12_ends v = some (nI 1, v') ∧ Pm s (nx s t) v' ∧ FMk v v' := by
  unfold smO at hO
  split at hO
  · next h1 =>
    obtain ⟨v', e, p, f⟩ := m_step hS hV h
    refine ⟨v', ?_, p, f.k⟩
    unfold X12_ends
    rw [h.tk.s, if_pos (show nI t.1 = 3 by rw [h1.1]; rfl), h.tk.g, if_pos h1.1, if_pos (show nI (s.2 t.2.1) = 59 by rw [h1.2]; rfl), bnd e]
    rfl
  · cases hO
theorem m_endsF {k : Nat} (hS : TS s) (hV : TKV s.2 s.1 t) (h : Pm s t v) (hO : smO s.2 t = some k) : ∃ v', X12_ends v = some (nI 0, v') ∧ Fm k t.2.1 v' ∧ FMk v v' := by
  have hs := hV.s
  have hm := hV.m
  unfold smO at hO
  split at hO
  · cases hO
  · next h1 =>
    cases hO
    obtain ⟨v', e, f⟩ := m_ref (k := 1) h
    refine ⟨v', ?_, f⟩
    unfold X12_ends X12_ends_b17
    rw [h.tk.s, h.tk.g]
    by_cases g1 : t.1 = 3
    · have g2 : t.2.1 < s.1 := by have := hV.g (by omega); omega
      have g3 := hS.b _ g2
      rw [if_pos (show nI t.1 = 3 by rw [g1]; rfl), if_pos g1, if_neg (show ¬ nI (s.2 t.2.1) = 59 by rw [nI_lit, nI_eq (by omega) (by omega)]; exact fun z => h1 ⟨g1, z⟩)]
      exact e
    · rw [if_neg (show ¬ nI t.1 = 3 by rw [nI_lit, nI_eq (by omega) (by omega)]; exact g1)]
      exact e
theorem Pc.nm (h : Pc s t u) : u.1 1 3 = 1 ↔ isNm s.2 t := (h.tk.s_iff (k := 1) (by omega)).trans srt_1
theorem c_known {f : Option Nat} (hf : ∀ n, f = some n → n < 2 ^ 31) (hS : TS s) (hV : TKV s.2 s.1 t) (h : Pc s t u) (hO : knO s.2 t f = none) : ∃ u', X9_passKnown (oI f) u = some (nI 1, u') ∧ Pc s (nx s t) u' ∧ o1 u u' := by
  unfold knO at hO
  split at hO
  · next h1 =>
    split at hO
    · cases hO
    · next h2 =>
      obtain ⟨u', e, p, f⟩ := c_step hS hV h
      refine ⟨u', ?_, p, f.o⟩
      unfold X9_passKnown
      rw [if_pos (h.nm.mpr h1), if_neg (show ¬ oI _ = -1 by rw [nI_lit, oI_m1 hf]; exact h2), bnd e]
      rfl
  · cases hO
theorem c_knownF {f : Option Nat} {k : Nat} (hf : ∀ n, f = some n → n < 2 ^ 31) (h : Pc s t u) (hO : knO s.2 t f = some k) : ∃ u', X9_passKnown (oI f) u = some (nI 0, u') ∧ Fc k t.2.1 u' ∧ o1 u u' := by
  unfold X9_passKnown
  unfold knO at hO
  split at hO
  · next h1 =>
    split at hO
    · next h2 =>
      cases hO
      obtain ⟨u', e, f⟩ := c_ref (k := 3) h
      refine ⟨u', ?_, f⟩
      rw [if_pos (h.nm.mpr h1), if_pos (show oI _ = -1 by rw [h2]; rfl)]
      exact e
    · cases hO
  · next h1 =>
    cases hO
    obtain ⟨u', e, f⟩ := c_ref (k := 1) h
    refine ⟨u', ?_, f⟩
    rw [if_neg (fun z => h1 (h.nm.mp z))]
    exact e
theorem c_new {tk fu : Bool} (hS : TS s) (hV : TKV s.2 s.1 t) (h : Pc s t u) (hO : nwO s.2 t tk fu = none) : ∃ u', X9_passNew (b2 (tk = true)) (b2 (fu = true)) u = some (nI 1, u') ∧ Pc s (nx s t) u' ∧ o1 u u' := by
  unfold nwO at hO
  split at hO
  · next h1 =>
    split at hO
    · cases hO
    · next h2 =>
      split at hO
      · cases hO
      · next h3 =>
        obtain ⟨u', e, p, f⟩ := c_step hS hV h
        refine ⟨u', ?_, p, f.o⟩
        unfold X9_passNew
        rw [if_pos (h.nm.mpr h1), b2_f h2, if_pos z00, b2_f h3, if_pos z00, bnd e]
        rfl
  · cases hO
theorem c_newF {tk fu : Bool} {k : Nat} (h : Pc s t u) (hO : nwO s.2 t tk fu = some k) : ∃ u', X9_passNew (b2 (tk = true)) (b2 (fu = true)) u = some (nI 0, u') ∧ Fc k t.2.1 u' ∧ o1 u u' := by
  unfold X9_passNew
  unfold nwO at hO
  split at hO
  · next h1 =>
    split at hO
    · next h2 =>
      cases hO
      obtain ⟨u', e, f⟩ := c_ref (k := 2) h
      refine ⟨u', ?_, f⟩
      rw [if_pos (h.nm.mpr h1), b2_t h2, if_neg n10]
      exact e
    · next h2 =>
      split at hO
      · next h3 =>
        cases hO
        obtain ⟨u', e, f⟩ := c_ref (k := 5) h
        refine ⟨u', ?_, f⟩
        rw [if_pos (h.nm.mpr h1), b2_f h2, if_pos z00, b2_t h3, if_neg n10]
        exact e
      · cases hO
  · next h1 =>
    cases hO
    obtain ⟨u', e, f⟩ := c_ref (k := 1) h
    refine ⟨u', ?_, f⟩
    rw [if_neg (fun z => h1 (h.nm.mp z))]
    exact e
end PS
