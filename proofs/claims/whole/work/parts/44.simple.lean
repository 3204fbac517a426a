/-! months -/
section SD
variable {T : gT} {N : gN} {P : List gN} {S : gS} {u v : gM}
def sN (N : gN) (r i x : Nat) : gN := (fun a b => if a = r ∧ b = i then x else N.1 a b, N.2)
theorem sN_at {r i x : Nat} : (sN N r i x).1 r i = x := if_pos ⟨rfl, rfl⟩
theorem sN_i {r i j x : Nat} (h : j ≠ i) : (sN N r i x).1 r j = N.1 r j := if_neg (fun z => h z.2)
theorem sN_r {r i a x : Nat} (h : a ≠ r) : (sN N r i x).1 a = N.1 a := funext fun _ => if_neg (fun z => h z.1)
theorem isIn_1 {k n : Nat} (hk : k < 2 ^ 31) (hn : n < 2 ^ 31) : X12_isIn v (nI k).toInt64 (lN 1) (lN n) = some (b2 (1 ≤ k ∧ k ≤ n)) := by
  rw [m_isIn, nI_64 hk]
  congr 2
  rw [lN_leI (by omega) (by omega), lN_leI (by omega) (by omega)]
theorem isIn_1o {x : Int32} {n : Nat} (h : x < nI 0 ∨ nI (n + 1) ≤ x) (hn : n < 2 ^ 29) : X12_isIn v x.toInt64 (lN 1) (lN n) = some (nI 0) := by
  rw [m_isIn, b2_f]
  rintro ⟨z1, z2⟩
  rw [← nI_64 (show 1 < 2 ^ 31 by omega), i64_le] at z1
  rw [← nI_64 (show n < 2 ^ 31 by omega), i64_le] at z2
  rcases h with h | h
  · rw [Int32.lt_iff_toInt_lt, nI_toInt (by omega)] at h
    rw [Int32.le_iff_toInt_le, nI_toInt (by omega)] at z1
    omega
  · rw [Int32.le_iff_toInt_le, nI_toInt (by omega)] at h z2
    omega
theorem VN_mo {n : Nat} (h : VN T N) (hn : N.1 0 0 + n ≤ 999) : VN T (sN N 0 0 (N.1 0 0 + n)) := by
  refine ⟨by rw [sN_at]; exact hn, ?_, ?_, ?_, h.it, fun b hb hne => ?_, h.sn, h.fz, h.fe, h.fv, ?_, h.fb, h.or⟩
  · rw [sN_r (by omega)]; exact h.co
  · rw [sN_r (by omega)]; exact h.od
  · rw [sN_r (by omega)]; exact h.fa
  · obtain ⟨m, h1, h2⟩ := h.si b hb hne
    exact ⟨m, h1, by rw [sN_at]; omega⟩
  · rw [sN_i (by omega)]; exact h.fl
theorem RN_mo {x : Nat} (h : RN 18 T N u) : RN 18 T (sN N 0 0 x) (upI u 18 0 (nI x)) := by
  have e : ∀ c, c ≠ 18 → (upI u 18 0 (nI x)).1 c = u.1 c := fun c hc => upI_k hc
  refine ⟨by rw [upI_at, sN_at], ?_, ?_, ?_, ?_, ?_, ?_, ?_, ?_, ?_, ?_, ?_⟩
  · rw [sN_r (by omega), e _ (by omega)]; exact h.co
  · rw [sN_r (by omega), e _ (by omega)]; exact h.od
  · rw [e _ (by omega)]; exact h.it
  · rw [e _ (by omega)]; exact h.si
  · rw [sN_r (by omega), e _ (by omega)]; exact h.fa
  · rw [e _ (by omega)]; exact h.fb
  · rw [sN_i (by omega), upI_2]; exact h.fl
  · rw [e _ (by omega)]; exact h.fo
  · rw [e _ (by omega)]; exact h.fp
  · rw [e _ (by omega)]; exact h.fd
  · rw [e _ (by omega)]; exact h.fs
theorem RNm_mo {x : Nat} (h : RNm (v.1 16) T N) : RNm ((upI v 16 0 (nI x)).1 16) T (sN N 0 0 x) := by
  have e : ∀ i, i ≠ 0 → (upI v 16 0 (nI x)).1 16 i = v.1 16 i := fun i hi => upI_j hi
  refine ⟨by rw [upI_at, sN_at], fun a ha => ?_, fun l hl => ?_, fun b hb => ?_, fun b hb => ?_, fun b hb => ?_, ?_, fun hb i hi => ?_, fun hb i hi => ?_, fun hb i hi => ?_, fun hb i hi => ?_, fun hb => ?_⟩
  · rw [sN_r (by omega), e _ (by omega)]; exact h.co a ha
  · rw [sN_r (by omega), e _ (by omega)]; exact h.od l hl
  · rw [e _ (by omega)]; exact h.it b hb
  · rw [e _ (by omega)]; exact h.si b hb
  · rw [sN_r (by omega), e _ (by omega)]; exact h.fa b hb
  · rw [e _ (by omega)]; exact h.fb
  · rw [e _ (by omega)]; exact h.fo hb i hi
  · rw [e _ (by omega)]; exact h.fp hb i hi
  · rw [e _ (by omega)]; exact h.fd hb i hi
  · rw [e _ (by omega)]; exact h.fs hb i hi
  · rw [sN_i (by omega), e _ (by omega)]; exact h.fl hb
theorem d_months (x y : Int32) (h : RR T N P S u v) : DS T (X3_act 18 x y u) (X12_passes x v) u v := by
  have hmo := h.d.n.mo
  have e1 : X3_act 18 x y u = ((X3_passMonths x u).bind fun w67 => ((bI w67.1).bind fun v70 => some (v70, w67.2))) := rfl
  have no : X3_passMonths x u = some (nI 0, u) → X12_passes x v = some (nI 0, v) → DS T (X3_act 18 x y u) (X12_passes x v) u v := by
    intro z1 z2
    refine Or.inl ⟨u, v, ?_, z2, off_rf, off_rf⟩
    rw [e1, bnd z1]
    rfl
  rcases i_cases x 100 (by omega) with ⟨n, hn, rfl⟩ | hx
  · have k0 := isIn_1 (v := v) (k := n) (n := 99) (by omega) (by omega)
    by_cases h0 : n = 0
    · subst h0
      rw [b2_f (by omega)] at k0
      refine no ?_ ?_
      · unfold X3_passMonths X3_passMonths_b26
        rw [if_pos (by decide)]
        rfl
      · unfold X12_passes X12_passes_b26
        exact (bnd k0 _).trans rfl
    · rw [b2_t (by omega)] at k0
      have c1 : ¬ (nI n : Int32) < 1 := by rw [nI_lit, nI_ltI (by omega) (by omega)]; omega
      have c2 : ¬ (99 : Int32) < nI n := by rw [nI_lit, nI_ltI (by omega) (by omega)]; omega
      have a16 : aI skM v 16 0 = some (nI (N.1 0 0)) := by rw [nI_lit, aM16 (by omega), h.m.n.mo]
      have s1 : (999 - nI n : Int32) = nI (999 - n) := by rw [nI_lit, pk_sub (by omega)]
      have s2 : nI (N.1 0 0) + nI n = nI (N.1 0 0 + n) := nI_add _ _
      by_cases hm : N.1 0 0 + n ≤ 999
      · refine Or.inr ⟨upI u 18 0 (nI (N.1 0 0 + n)), upI v 16 0 (nI (N.1 0 0 + n)), sN N 0 0 (N.1 0 0 + n), ?_, ?_, ?_, ?_, RN_mo h.c.n, RNm_mo h.m.n, VN_mo h.d.n hm⟩
        · have e2 : X3_passMonths (nI n) u = some (nI 1, upI u 18 0 (nI (N.1 0 0 + n))) := by
            unfold X3_passMonths
            rw [if_neg c1, if_neg c2, h.c.n.mo, s1, if_pos (by rw [nI_leI (by omega) (by omega)]; omega), s2]
            rfl
          rw [e1, bnd e2]
          rfl
        · unfold X12_passes
          refine (bnd k0 _).trans ?_
          rw [if_neg n10, bnd a16, s2, if_pos (by rw [nI_lit, nI_leI (by omega) (by omega)]; omega), bnd a16, s2]
          rw [show sI skM v 16 0 (nI (N.1 0 0 + n)) = some (upI v 16 0 (nI (N.1 0 0 + n))) from by rw [nI_lit, sM16 (by omega)]]
          rfl
        · intro c hc
          have z : c ≠ 18 := fun z => hc (Or.inl (by omega))
          exact ⟨by rw [upI_k z], by rw [upI_2]⟩
        · intro c hc
          have z : c ≠ 16 := fun z => hc (Or.inl z)
          exact ⟨by rw [upI_k z], by rw [upI_2]⟩
      · refine no ?_ ?_
        · unfold X3_passMonths X3_passMonths_b26
          rw [if_neg c1, if_neg c2, h.c.n.mo, s1, if_neg (by rw [nI_leI (by omega) (by omega)]; omega)]
          rfl
        · unfold X12_passes X12_passes_b26
          refine (bnd k0 _).trans ?_
          rw [if_neg n10, bnd a16, s2, if_neg (by rw [nI_lit, nI_leI (by omega) (by omega)]; omega)]
          rfl
  · have k0 := isIn_1o (v := v) (n := 99) hx (by omega)
    refine no ?_ ?_
    · unfold X3_passMonths X3_passMonths_b26
      by_cases c1 : x < 1
      · rw [if_pos c1]; rfl
      · have c2 : (99 : Int32) < x := by
          have h2 := hx.resolve_left (fun z => c1 (by
            rw [Int32.lt_iff_toInt_lt] at *
            rw [nI_toInt (by decide)] at z
            rw [show (1 : Int32).toInt = 1 from by decide]
            omega))
          rw [nI_lit, Int32.lt_iff_toInt_lt]
          rw [Int32.le_iff_toInt_le] at h2
          rw [nI_toInt (by decide)] at *
          omega
        rw [if_neg c1, if_pos c2]; rfl
    · unfold X12_passes X12_passes_b26
      exact (bnd k0 _).trans rfl
theorem o_months (x : Int32) (h : RR T N P S u v) : SR (X11_months x u) (X12_months x v) := by
  unfold X11_months X12_months
  exact o_deed h (fun u' v' h' => d_months x 0 h')
end SD
