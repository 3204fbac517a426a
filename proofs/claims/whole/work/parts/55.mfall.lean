/-! a BANK FAILS: the model's -/
section MF
variable {T : gT} {N : gN} {b es : Nat} {u v u0 : gM} {f0 : Nat → Int32}
theorem m_nowAt_il (hV : VT T) (hit : ∀ c, c < 6 → u.1 16 (35 + c) = oI (N.2 0 c)) (hVN : VN T N) {o : Nat → Nat} (ho : ∀ b, b < 6 → (N.2 0 b = none) ∨ (∃ c, N.2 0 b = some c ∧ o b < o c ∧ o c ≤ 5 ∧ c < 6)) : ∀ (n b : Nat), b < 6 → (N.2 0 b = none ∧ 0 < n ∨ 6 - o b < n) → X12_nowAt_l2 u n (nI b) = some (nI (nowF N 6 b)) := by
  intro n
  induction n with
  | zero => intro b h1 h2; omega
  | succ n ih =>
    intro b hb h2
    unfold X12_nowAt_l2 X12_nowAt_b2
    have h3 := hit b hb
    cases h : N.2 0 b with
    | none => simp (disch := omega) [aM16, h3, h, oI, nowF, nI_lit, lN_lit, nI_add, pk_mul, lN_add, lN_mul, Option.bind_some, nI_leI, nI_ltI, nI_eq, lN_leI, lN_ltI, lN_eqI, nI_m1, m1_nI, i_modN, lN_modN, nI_64, lN_32, if_pos, if_neg, ↓reduceIte, if_true, if_false]
    | some c =>
      rcases ho b hb with h4 | ⟨c', h4, h5, h6, h7⟩
      · rw [h] at h4; cases h4
      · rw [h] at h4; cases h4
        have e : nowF N 6 b = nowF N 6 c := by
          conv => lhs; unfold nowF
          rw [h]
          exact nowF_st ho 5 c h7 (by
            rcases ho c h7 with h8 | ⟨_, _, h9, h10, _⟩
            · exact Or.inl h8
            · exact Or.inr (by omega))
        simp (disch := omega) [aM16, h3, h, oI, e, nI_lit, lN_lit, nI_add, pk_mul, lN_add, lN_mul, Option.bind_some, nI_leI, nI_ltI, nI_eq, lN_leI, lN_ltI, lN_eqI, nI_m1, m1_nI, i_modN, lN_modN, nI_64, lN_32, if_pos, if_neg, ↓reduceIte, if_true, if_false]
        exact ih c h7 (by
          rcases h2 with ⟨h8, -⟩ | h8
          · rw [h] at h8; cases h8
          · right; omega)
theorem m_nowAt_i {c : Nat} (hV : VT T) (hit : ∀ c, c < 6 → u.1 16 (35 + c) = oI (N.2 0 c)) (hVN : VN T N) (hc : c < 6) : X12_nowAt u (nI c) = some (nI (nowS N c)) := by
  obtain ⟨o, ho⟩ := or_le hV hVN
  unfold X12_nowAt nowS
  exact m_nowAt_il hV hit hVN ho fz c hc (Or.inr (fz_lt (by omega)))
theorem m_shareOf_i {a k : Nat} (hV : VT T) (hT : RTm 0 T u) (hco : ∀ a, a < T 0 2 → u.1 16 (1 + a) = nI (N.1 1 a)) (hVN : VN T N) (ha : a < T 0 2) (hk : k < T 5 a) : X12_shareOf u (nI a) (nI k) = some (nI (shS T N a k)) := by
  have h1 := hV.na
  have h2 := hV.no a ha
  have h3 := hVN.co a ha
  have h4 := hT.no a ha
  have h5 := hco a ha
  simp only [Nat.mul_zero, Nat.zero_add] at h4
  have h6 : N.1 1 a % T 5 a < T 5 a := Nat.mod_lt _ (by omega)
  have h8 : X12_one u (nI 1) = some (nI 1) := by simp [X12_one_b9, X12_one, nI_lit, nI_eq]
  have h9 : X12_one u (nI 0) = some (nI 0) := by simp [X12_one_b9, X12_one, nI_lit]
  unfold shS
  by_cases h7 : k < N.1 1 a % T 5 a
  · simp (disch := omega) [X12_shareOf_b39, X12_shareOf, nI_lit, lN_lit, nI_add, pk_mul, lN_add, lN_mul, Option.bind_some, nI_leI, nI_ltI, nI_eq, lN_leI, lN_ltI, lN_eqI, nI_m1, m1_nI, i_modN, lN_modN, nI_64, lN_32, if_pos, if_neg, ↓reduceIte, if_true, if_false, aM16, aM7, h4, h5, i_divN, h7, h8, h9]
  · simp (disch := omega) [X12_shareOf_b39, X12_shareOf, nI_lit, lN_lit, nI_add, pk_mul, lN_add, lN_mul, Option.bind_some, nI_leI, nI_ltI, nI_eq, lN_leI, lN_ltI, lN_eqI, nI_m1, m1_nI, i_modN, lN_modN, nI_64, lN_32, if_pos, if_neg, ↓reduceIte, if_true, if_false, aM16, aM7, h4, h5, i_divN, h7, h8, h9]
theorem RTm_D (h : RTm 0 T u0) (o : off sDm u0 u) : RTm 0 T u := h.mv (fun c _ h2 => o c (by intro z; have z1 : c = 16 ∨ 20 ≤ c := z; omega))
/-- the row of what DEEDS change, as far as a failing leaves it until its end -/
def MA (T : gT) (f0 : Nat → Int32) (u : gM) : Prop := (RTm 0 T u) ∧ (∀ k, k < 25 ∨ (35 ≤ k ∧ k < 54) → u.1 16 k = f0 k)
theorem MA.t {T : gT} {f0 : Nat → Int32} {u : gM} (h : MA T f0 u) : RTm 0 T u := h.1
theorem MA.e {T : gT} {f0 : Nat → Int32} {u : gM} (h : MA T f0 u) : ∀ k, k < 25 ∨ (35 ≤ k ∧ k < 54) → u.1 16 k = f0 k := h.2
def M0 (T : gT) (N : gN) (b : Nat) (f0 : Nat → Int32) : Prop := (∀ c, c < 6 → f0 (35 + c) = oI (N.2 0 c)) ∧ (∀ a, a < T 0 2 → f0 (1 + a) = nI (N.1 1 a))
theorem M0.it {T : gT} {N : gN} {b : Nat} {f0 : Nat → Int32} (h : M0 T N b f0) : ∀ c, c < 6 → f0 (35 + c) = oI (N.2 0 c) := h.1
theorem M0.co {T : gT} {N : gN} {b : Nat} {f0 : Nat → Int32} (h : M0 T N b f0) : ∀ a, a < T 0 2 → f0 (1 + a) = nI (N.1 1 a) := h.2
theorem MA.now {c : Nat} (hV : VT T) (hVN : VN T N) (h0 : M0 T N b f0) (h : MA T f0 u) (hc : c < 6) : X12_nowAt u (nI c) = some (nI (nowS N c)) :=
  m_nowAt_i hV (fun d hd => by rw [h.e _ (by omega)]; exact h0.it d hd) hVN hc
theorem MA.sh {a k : Nat} (hV : VT T) (hVN : VN T N) (h0 : M0 T N b f0) (h : MA T f0 u) (ha : a < T 0 2) (hk : k < T 5 a) : X12_shareOf u (nI a) (nI k) = some (nI (shS T N a k)) :=
  m_shareOf_i hV h.t (fun d hd => by rw [h.e _ (by have := hV.na; omega)]; exact h0.co d hd) hVN ha hk
def ML1 (T : gT) (N : gN) (b : Nat) (f0 : Nat → Int32) (i : Nat) (u : gM) : Prop := (MA T f0 u) ∧ (∀ l, l < T 0 3 → u.1 16 (25 + l) = nI (N.1 2 l)) ∧ (∀ a k, a < T 0 2 → k < T 5 a → u.2 24 (4 * a + k) = lN (insS T N (N.1 0 0) a k)) ∧ (∀ j, j < i → u.1 16 (54 + j) = oI (pv (inF T N b) (fun _ => 0) j)) ∧ (∀ j, j < i → u.1 16 (150 + j) = nI 0 ∧ u.1 16 (246 + j) = nI 0 ∧ u.1 16 (342 + j) = nI 0) ∧ (∀ j, j < i → u.2 25 j = lN ((w0 T N b).2.1 j)) ∧ (∀ j, j < i → u.2 26 j = lN ((w0 T N b).2.2.1 j))
theorem ML1.a {T : gT} {N : gN} {b : Nat} {f0 : Nat → Int32} {i : Nat} {u : gM} (h : ML1 T N b f0 i u) : MA T f0 u := h.1
theorem ML1.d {T : gT} {N : gN} {b : Nat} {f0 : Nat → Int32} {i : Nat} {u : gM} (h : ML1 T N b f0 i u) : ∀ l, l < T 0 3 → u.1 16 (25 + l) = nI (N.1 2 l) := h.2.1
theorem ML1.n {T : gT} {N : gN} {b : Nat} {f0 : Nat → Int32} {i : Nat} {u : gM} (h : ML1 T N b f0 i u) : ∀ a k, a < T 0 2 → k < T 5 a → u.2 24 (4 * a + k) = lN (insS T N (N.1 0 0) a k) := h.2.2.1
theorem ML1.o {T : gT} {N : gN} {b : Nat} {f0 : Nat → Int32} {i : Nat} {u : gM} (h : ML1 T N b f0 i u) : ∀ j, j < i → u.1 16 (54 + j) = oI (pv (inF T N b) (fun _ => 0) j) := h.2.2.2.1
theorem ML1.z {T : gT} {N : gN} {b : Nat} {f0 : Nat → Int32} {i : Nat} {u : gM} (h : ML1 T N b f0 i u) : ∀ j, j < i → u.1 16 (150 + j) = nI 0 ∧ u.1 16 (246 + j) = nI 0 ∧ u.1 16 (342 + j) = nI 0 := h.2.2.2.2.1
theorem ML1.p {T : gT} {N : gN} {b : Nat} {f0 : Nat → Int32} {i : Nat} {u : gM} (h : ML1 T N b f0 i u) : ∀ j, j < i → u.2 25 j = lN ((w0 T N b).2.1 j) := h.2.2.2.2.2.1
theorem ML1.l {T : gT} {N : gN} {b : Nat} {f0 : Nat → Int32} {i : Nat} {u : gM} (h : ML1 T N b f0 i u) : ∀ j, j < i → u.2 26 j = lN ((w0 T N b).2.2.1 j) := h.2.2.2.2.2.2
def m1U (u : gM) (i : Nat) (x y : Int64) (z : Int32) : gM := upI (upI (upI (upI (upJ (upJ u 25 i x) 26 i y) 16 (54 + i) z) 16 (150 + i) (nI 0)) 16 (246 + i) (nI 0)) 16 (342 + i) (nI 0)
theorem m1U_c {i c : Nat} {x y : Int64} {z : Int32} (h : c ≠ 16) : (m1U u i x y z).1 c = u.1 c := by
  unfold m1U
  rw [upI_k h, upI_k h, upI_k h, upI_k h, upJ_1, upJ_1]
theorem m1U_2 {i c : Nat} {x y : Int64} {z : Int32} (h : c ≠ 25) (h2 : c ≠ 26) : (m1U u i x y z).2 c = u.2 c := by
  unfold m1U
  rw [upI_2, upI_2, upI_2, upI_2, upJ_k h2, upJ_k h]
theorem m1U_i {i k : Nat} {x y : Int64} {z : Int32} (h1 : k ≠ 54 + i) (h2 : k ≠ 150 + i) (h3 : k ≠ 246 + i) (h4 : k ≠ 342 + i) : (m1U u i x y z).1 16 k = u.1 16 k := by
  unfold m1U
  rw [upI_j h4, upI_j h3, upI_j h2, upI_j h1, upJ_1, upJ_1]
theorem m1U_o {i : Nat} {x y : Int64} {z : Int32} : off sDm u (m1U u i x y z) := by
  unfold m1U
  exact off_upI (Or.inl rfl) (off_upI (Or.inl rfl) (off_upI (Or.inl rfl) (off_upI (Or.inl rfl) (off_upJ (Or.inr (by omega)) (off_upJ (Or.inr (by omega)) off_rf)))))
theorem ML1.set {i : Nat} (h : ML1 T N b f0 i u) (hi : i < 96) (hnl : T 0 3 ≤ 10) : ML1 T N b f0 (i + 1) (m1U u i (lN ((w0 T N b).2.1 i)) (lN ((w0 T N b).2.2.1 i)) (oI (pv (inF T N b) (fun _ => 0) i))) := by
  refine ⟨⟨RTm_D h.a.t m1U_o, fun k hk => ?_⟩, fun l hl => ?_, fun a k ha hk => ?_, fun j hj => ?_, fun j hj => ?_, fun j hj => ?_, fun j hj => ?_⟩
  · rw [m1U_i (by omega) (by omega) (by omega) (by omega)]; exact h.a.e k hk
  · rw [m1U_i (by omega) (by omega) (by omega) (by omega)]; exact h.d l hl
  · rw [m1U_2 (by omega) (by omega)]; exact h.n a k ha hk
  · by_cases z : j = i
    · subst z
      unfold m1U
      rw [upI_j (by omega), upI_j (by omega), upI_j (by omega), upI_at]
    · rw [m1U_i (by omega) (by omega) (by omega) (by omega)]; exact h.o j (by omega)
  · by_cases z : j = i
    · subst z
      unfold m1U
      refine ⟨?_, ?_, ?_⟩
      · rw [upI_j (by omega), upI_j (by omega), upI_at]
      · rw [upI_j (by omega), upI_at]
      · rw [upI_at]
    · have := h.z j (by omega)
      exact ⟨by rw [m1U_i (by omega) (by omega) (by omega) (by omega)]; exact this.1, by rw [m1U_i (by omega) (by omega) (by omega) (by omega)]; exact this.2.1, by rw [m1U_i (by omega) (by omega) (by omega) (by omega)]; exact this.2.2⟩
  · unfold m1U
    rw [upI_2, upI_2, upI_2, upI_2, upJ_k (by omega)]
    by_cases z : j = i
    · subst z; rw [upJ_at]
    · rw [upJ_j z]; exact h.p j (by omega)
  · unfold m1U
    rw [upI_2, upI_2, upI_2, upI_2]
    by_cases z : j = i
    · subst z; rw [upJ_at]
    · rw [upJ_j z, upJ_k (by omega)]; exact h.l j (by omega)
/-- one place is split -/
theorem m_f50 {k50 : Int32 → Int32 → Int32 → gM → Option (Int32 × gM)} {x1 x2 : Int32} {i : Nat} (hV : VT T) (hVN : VN T N) (hb : b < 6) (h0 : M0 T N b f0) (h : ML1 T N b f0 i u) (hi : i < 96) : X12_falls_b50 k50 (nI b) x2 (nI i) u = k50 (nI b) x2 (nI (i + 1)) (m1U u i (lN ((w0 T N b).2.1 i)) (lN ((w0 T N b).2.2.1 i)) (oI (pv (inF T N b) (fun _ => 0) i))) := by
  have hna := hV.na
  have hz : ¬ (96 : Int32) ≤ nI i := by rw [nI_lit, nI_leI (by omega) (by omega)]; omega
  have ed : (nI i / 4 : Int32) = nI (i / 4) := by rw [nI_lit, i_divN (by omega) (by omega) (by omega)]
  have em : (nI i - nI (i / 4) * 4 : Int32) = nI (i % 4) := by rw [nI_lit, pk_mul, i_modN]
  have i1 : (54 + nI i : Int32) = nI (54 + i) := by rw [nI_lit, nI_add]
  have i2 : (150 + nI i : Int32) = nI (150 + i) := by rw [nI_lit, nI_add]
  have i3 : (246 + nI i : Int32) = nI (246 + i) := by rw [nI_lit, nI_add]
  have i4 : (342 + nI i : Int32) = nI (342 + i) := by rw [nI_lit, nI_add]
  have s176 : ∀ (w : gM) (z : Int32), X12_falls_b176 k50 (nI b) x2 (nI i) (nI (54 + i)) z w = k50 (nI b) x2 (nI (i + 1)) (upI (upI (upI (upI w 16 (54 + i) z) 16 (150 + i) (nI 0)) 16 (246 + i) (nI 0)) 16 (342 + i) (nI 0)) := by
    intro w z
    unfold X12_falls_b176
    rw [bnd (sM16 (by omega)), i2, bnd (sM16 (by omega)), i3, bnd (sM16 (by omega)), i4, bnd (sM16 (by omega)), nI_s]
    rfl
  have no : ¬ inF T N b i = true → X12_falls_b102 k50 (nI b) x2 (nI i) (nI (i / 4)) u = k50 (nI b) x2 (nI (i + 1)) (m1U u i (lN ((w0 T N b).2.1 i)) (lN ((w0 T N b).2.2.1 i)) (oI (pv (inF T N b) (fun _ => 0) i))) := by
    intro hf
    have w1 : (w0 T N b).2.1 i = 0 := if_neg hf
    have w2 : (w0 T N b).2.2.1 i = 0 := if_neg hf
    unfold X12_falls_b102 X12_falls_b103 X12_falls_b125 X12_falls_b157
    rw [if_pos rfl, bnd (sM25 hi), if_pos rfl, bnd (sM26 hi), if_pos rfl, i1, s176, w1, w2, pv_0 hf]
    rfl
  unfold X12_falls_b50
  rw [if_neg hz, ed]
  by_cases ha : i / 4 < T 0 2
  · have hh := h.a.t.hm _ ha
    have ho := h.a.t.no _ ha
    simp only [Nat.mul_zero, Nat.zero_add] at hh ho
    have h6 := hm_lt hV ha
    have hno := hV.no _ ha
    have hn6 : nowS N (T 2 (i / 4)) < 6 := by have := nowF_nb hVN hV 6 (T 2 (i / 4)) (hV.hm _ ha); have := hV.nb; unfold nowS; omega
    rw [bnd (m_isAccount hV h.a.t ha), if_neg n10, bnd (aM6 (by omega)), hh, bnd (h.a.now hV hVN h0 h6)]
    by_cases hn : nowS N (T 2 (i / 4)) = b
    · rw [if_pos (by rw [hn]), bnd (aM7 (by omega)), ho, em]
      by_cases hk : i % 4 < T 5 (i / 4)
      · have hf : inF T N b i = true := inF_iff.mpr ⟨ha, hn, hk⟩
        have w1 : (w0 T N b).2.1 i = insS T N (N.1 0 0) (i / 4) (i % 4) := if_pos hf
        have w2 : (w0 T N b).2.2.1 i = shS T N (i / 4) (i % 4) - insS T N (N.1 0 0) (i / 4) (i % 4) := if_pos hf
        have hle := insS_le (m := N.1 0 0) hV hVN ha hk
        have hsl := shS_le (k := i % 4) hV hVN ha
        have e24 := h.n _ _ ha hk
        rw [show 4 * (i / 4) + i % 4 = i by omega] at e24
        have hA2 : MA T f0 (upJ u 25 i (lN (insS T N (N.1 0 0) (i / 4) (i % 4)))) := ⟨RTm_D h.a.t (off_upJ (Or.inr (by omega)) off_rf), fun k hk => by rw [upJ_1]; exact h.a.e k hk⟩
        have n1 : ¬ ((1 : Int32) = 0) := by decide
        unfold X12_falls_b103 X12_falls_b125 X12_falls_b157
        rw [if_neg (show ¬ nI (T 5 (i / 4)) ≤ nI (i % 4) by rw [nI_leI (by omega) (by omega)]; omega), if_neg n1, bnd (aM24 hi), e24, bnd (sM25 hi), if_neg n1, ed, em, bnd (hA2.sh hV hVN h0 ha hk), bnd (aM24 hi), upJ_k (by omega), e24, nI_64 (by omega), lN_sub hle, bnd (sM26 hi), if_neg n1, i1, s176, w1, w2, pv_1 hf]
        rfl
      · rw [if_pos (show nI (T 5 (i / 4)) ≤ nI (i % 4) by rw [nI_leI (by omega) (by omega)]; omega)]
        exact no (fun z => hk (inF_iff.mp z).2.2)
    · rw [if_neg (show ¬ nI (nowS N (T 2 (i / 4))) = nI b by rw [nI_eq (by omega) (by omega)]; exact hn)]
      exact no (fun z => hn (inF_iff.mp z).2.1)
  · rw [bnd (m_isAccountF hV h.a.t (Or.inr (by rw [nI_leI (by omega) (by omega)]; omega))), if_pos z00]
    exact no (fun z => ha (inF_iff.mp z).1)
theorem m_fl50 {x2 : Int32} (hV : VT T) (hVN : VN T N) (hb : b < 6) (h0 : M0 T N b f0) : ∀ (f i : Nat) (u : gM), i ≤ 96 → 96 - i < f → off sDm u0 u → ML1 T N b f0 i u → ∃ u', X12_falls_l50 f (nI b) x2 (nI i) u = X12_falls_l218 fz (nI b) x2 (nI 0) u' ∧ off sDm u0 u' ∧ ML1 T N b f0 96 u' := by
  intro f
  induction f with
  | zero => intro i u h1 h2; omega
  | succ f ih =>
    intro i u h1 h2 ho h
    unfold X12_falls_l50
    by_cases h4 : i = 96
    · subst h4
      refine ⟨u, ?_, ho, h⟩
      unfold X12_falls_b50
      rw [if_pos (show (96 : Int32) ≤ nI 96 from Int32.le_refl _)]
      rfl
    · obtain ⟨u', e1, o1, q1⟩ := ih (i + 1) _ (by omega) (by omega) (off_tr ho m1U_o) (h.set (by omega) hV.nl)
      refine ⟨u', ?_, o1, q1⟩
      rw [m_f50 (x1 := x2) hV hVN hb h0 h (by omega)]
      exact e1
/-- LOANS SET OFF -/
def ML2 (T : gT) (N : gN) (b : Nat) (f0 : Nat → Int32) (s : wT) (u : gM) : Prop := (MA T f0 u) ∧ (∀ l, l < T 0 3 → u.1 16 (25 + l) = nI (s.2.2.2 l)) ∧ (∀ j, j < 96 → u.1 16 (54 + j) = oI (pv (inF T N b) s.1 j)) ∧ (∀ j, j < 96 → u.1 16 (150 + j) = nI 0 ∧ u.1 16 (246 + j) = nI 0 ∧ u.1 16 (342 + j) = nI 0) ∧ (∀ j, j < 96 → u.2 25 j = lN (s.2.1 j)) ∧ (∀ j, j < 96 → u.2 26 j = lN (s.2.2.1 j))
theorem ML2.a {T : gT} {N : gN} {b : Nat} {f0 : Nat → Int32} {s : wT} {u : gM} (h : ML2 T N b f0 s u) : MA T f0 u := h.1
theorem ML2.d {T : gT} {N : gN} {b : Nat} {f0 : Nat → Int32} {s : wT} {u : gM} (h : ML2 T N b f0 s u) : ∀ l, l < T 0 3 → u.1 16 (25 + l) = nI (s.2.2.2 l) := h.2.1
theorem ML2.o {T : gT} {N : gN} {b : Nat} {f0 : Nat → Int32} {s : wT} {u : gM} (h : ML2 T N b f0 s u) : ∀ j, j < 96 → u.1 16 (54 + j) = oI (pv (inF T N b) s.1 j) := h.2.2.1
theorem ML2.z {T : gT} {N : gN} {b : Nat} {f0 : Nat → Int32} {s : wT} {u : gM} (h : ML2 T N b f0 s u) : ∀ j, j < 96 → u.1 16 (150 + j) = nI 0 ∧ u.1 16 (246 + j) = nI 0 ∧ u.1 16 (342 + j) = nI 0 := h.2.2.2.1
theorem ML2.p {T : gT} {N : gN} {b : Nat} {f0 : Nat → Int32} {s : wT} {u : gM} (h : ML2 T N b f0 s u) : ∀ j, j < 96 → u.2 25 j = lN (s.2.1 j) := h.2.2.2.2.1
theorem ML2.l {T : gT} {N : gN} {b : Nat} {f0 : Nat → Int32} {s : wT} {u : gM} (h : ML2 T N b f0 s u) : ∀ j, j < 96 → u.2 26 j = lN (s.2.2.1 j) := h.2.2.2.2.2
theorem m_so_l {r l : Nat} {s0 : tT} (hV : VT T) (hr : r = 25 ∨ r = 26) (hll : l < T 0 3) (hb1 : ∀ j, j < 96 → s0.1 j + s0.2.1 j ≤ 100000000) (hb2 : s0.2.2 ≤ 100000000) (hT : RTm 0 T u0) : ∀ (f i : Nat) (u : gM), i ≤ 96 → 96 - i < f → off (fun c => c = 16 ∨ c = r) u0 u → (∀ k, k ≠ 25 + l → k < 54 ∨ 150 ≤ k → u.1 16 k = u0.1 16 k) → u.1 16 (25 + l) = nI (soL T N b (T 8 l) i s0).2.2 → (∀ j, j < 96 → u.1 16 (54 + j) = oI (pv (inF T N b) (soL T N b (T 8 l) i s0).2.1 j)) → (∀ j, j < 96 → u.2 r j = lN ((soL T N b (T 8 l) i s0).1 j)) →
    ∃ u', X12_setsOff_l2 f (nI l) r (nI i) u = some u' ∧ off (fun c => c = 16 ∨ c = r) u0 u' ∧ (∀ k, k ≠ 25 + l → k < 54 ∨ 150 ≤ k → u'.1 16 k = u0.1 16 k) ∧ u'.1 16 (25 + l) = nI (soL T N b (T 8 l) 96 s0).2.2 ∧ (∀ j, j < 96 → u'.1 16 (54 + j) = oI (pv (inF T N b) (soL T N b (T 8 l) 96 s0).2.1 j)) ∧ (∀ j, j < 96 → u'.2 r j = lN ((soL T N b (T 8 l) 96 s0).1 j)) := by
  have hna := hV.na
  have hnl := hV.nl
  have hnp := hV.np
  have hp8 := hV.lp l hll
  have har : skM[r]? = some (.inr (1, 96, [])) := by rcases hr with rfl | rfl <;> rfl
  intro f
  induction f with
  | zero => intro i u h1 h2; omega
  | succ f ih =>
    intro i u h1 h2 ho hk hd ho1 hr1
    have hT1 : RTm 0 T u := hT.mv (fun c c1 c2 => ho c (by intro z; have z1 : c = 16 ∨ c = r := z; omega))
    unfold X12_setsOff_l2 X12_setsOff_b2 X12_setsOff_b95
    by_cases h4 : i = 96
    · subst h4
      refine ⟨u, ?_, ho, hk, hd, ho1, hr1⟩
      rw [if_pos (show (96 : Int32) ≤ nI 96 from Int32.le_refl _)]
    · have hi : i < 96 := by omega
      have hz : ¬ (96 : Int32) ≤ nI i := by rw [nI_lit, nI_leI (by omega) (by omega)]; omega
      have i1 : (54 + nI i : Int32) = nI (54 + i) := by rw [nI_lit, nI_add]
      have i2 : (25 + nI l : Int32) = nI (25 + l) := by rw [nI_lit, nI_add]
      have hsum := soL_sum (T := T) (N := N) (b := b) (p := T 8 l) (s := s0) i i
      have hlf := soL_left (T := T) (N := N) (b := b) (p := T 8 l) (s := s0) i
      have hb3 := hb1 _ hi
      rw [if_neg hz, i1, i2, bnd (aM16 (by omega)), ho1 i hi]
      have go : ¬ (inF T N b i = true ∧ T 7 i = T 8 l) → ∃ u', X12_setsOff_l2 f (nI l) r (nI i + 1) u = some u' ∧ off (fun c => c = 16 ∨ c = r) u0 u' ∧ (∀ k, k ≠ 25 + l → k < 54 ∨ 150 ≤ k → u'.1 16 k = u0.1 16 k) ∧ u'.1 16 (25 + l) = nI (soL T N b (T 8 l) 96 s0).2.2 ∧ (∀ j, j < 96 → u'.1 16 (54 + j) = oI (pv (inF T N b) (soL T N b (T 8 l) 96 s0).2.1 j)) ∧ (∀ j, j < 96 → u'.2 r j = lN ((soL T N b (T 8 l) 96 s0).1 j)) := by
        intro hq
        have hq2 : soL T N b (T 8 l) (i + 1) s0 = soL T N b (T 8 l) i s0 := soS_n hq
        rw [nI_s]
        exact ih (i + 1) u (by omega) (by omega) ho hk (by rw [hq2]; exact hd) (by rw [hq2]; exact ho1) (by rw [hq2]; exact hr1)
      by_cases hf : inF T N b i = true
      · obtain ⟨f1, f2, f3⟩ := inF_iff.mp hf
        have hno := hV.no _ f1
        have how := hT1.ow _ _ f1 f3
        simp only [Nat.mul_zero, Nat.zero_add] at how
        rw [show 4 * (i / 4) + i % 4 = i by omega, show i / 4 * 4 + i % 4 = i by omega] at how
        have hlo := hT1.lp l hll
        simp only [Nat.mul_zero, Nat.zero_add] at hlo
        have hp7 : T 7 i < T 0 0 := by have := hV.ow _ _ f1 f3; rw [show i / 4 * 4 + i % 4 = i by omega] at this; exact this
        have hw : ¬ oI (pv (inF T N b) (soL T N b (T 8 l) i s0).2.1 i) = -1 := by
          rw [pv_1 hf, oI_some, nI_lit, nI_m1 (by omega)]; exact id
        rw [if_neg hw, bnd (aM8 (by omega)), bnd (aM13 (by omega)), how, hlo]
        by_cases hp : T 7 i = T 8 l
        · have hS : soL T N b (T 8 l) (i + 1) s0 = _ := soS_y ⟨hf, hp⟩
          generalize hg : soL T N b (T 8 l) i s0 = s at *
          have m0 : (mnJ (lN (s.1 i)) (nI s.2.2).toInt64).toInt32 = nI (min s.2.2 (s.1 i)) := by
            rw [nI_64 (by omega), mnJ_N (by omega) (by omega), lN_32, Nat.min_comm]
          have m1 : (nI (min s.2.2 (s.1 i))).toInt64 = lN (min s.2.2 (s.1 i)) := nI_64 (by omega)
          have r1 : aJ skM u r (nI i) = some (lN (s.1 i)) := by rw [aJ_at har (by omega) hi, hr1 i hi]
          have r2 : aI skM (upJ u r i (lN (s.1 i - min s.2.2 (s.1 i)))) 16 (nI (25 + l)) = some (nI s.2.2) := by rw [aM16 (by omega), upJ_1, hd]
          have r3 : aI skM (upI (upJ u r i (lN (s.1 i - min s.2.2 (s.1 i)))) 16 (25 + l) (nI (s.2.2 - min s.2.2 (s.1 i)))) 16 (nI (54 + i)) = some (nI (s.2.1 i)) := by rw [aM16 (by omega), upI_j (by omega), upJ_1, ho1 i hi, pv_1 hf]; rfl
          have ee := ih (i + 1) (upI (upI (upJ u r i (lN (s.1 i - min s.2.2 (s.1 i)))) 16 (25 + l) (nI (s.2.2 - min s.2.2 (s.1 i)))) 16 (54 + i) (nI (s.2.1 i + min s.2.2 (s.1 i)))) (by omega) (by omega) (off_upI (Or.inl rfl) (off_upI (Or.inl rfl) (off_upJ (Or.inr rfl) ho))) (fun k k1 k2 => by rw [upI_j (by omega), upI_j k1, upJ_1]; exact hk k k1 k2) (by rw [hS, upI_j (by omega), upI_at]) (fun j hj => by
            rw [hS]
            show _ = oI (pv _ (upN _ _ _) j)
            by_cases z : j = i
            · subst z; rw [upI_at, pv_1 hf, upN_at]; rfl
            · rw [upI_j (by omega), upI_j (by omega), upJ_1, ho1 j hj]
              rw [pv_cg (g' := s.2.1) (upN_i z)]) (fun j hj => by
            rw [hS]
            show _ = lN (upN _ _ _ j)
            rw [upI_2, upI_2]
            by_cases z : j = i
            · subst z; rw [upJ_at, upN_at]
            · rw [upJ_j z, upN_i z]; exact hr1 j hj)
          rw [if_pos (by rw [hp]), bnd r1, bnd (aM16 (by omega)), hd, bnd r1, m0, m1, lN_sub (Nat.min_le_right _ _), bnd (sJ_at har (by omega) hi), bnd r2, pk_sub (Nat.min_le_left _ _), bnd (sM16 (by omega)), bnd r3, nI_add, bnd (sM16 (by omega)), nI_s]
          exact ee
        · rw [if_neg (by rw [nI_eq (by omega) (by omega)]; exact hp)]
          exact go (fun z => hp z.2)
      · rw [pv_0 hf, if_pos (show oI none = -1 from rfl)]
        exact go (fun z => hf z.1)
end MF
