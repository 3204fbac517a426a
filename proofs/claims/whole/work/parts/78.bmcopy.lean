/-! the same in the model -/
def CPI (c n L : Nat) (u v : gM) : Prop := ∀ i, u.1 c i = if i < n then v.1 c (L + i) else v.1 c i
def CPJ (c n L : Nat) (u v : gM) : Prop := ∀ i, u.2 c i = if i < n then v.2 c (L + i) else v.2 c i
section CM
variable {u v u1 v1 w : gM} {D : gT} {c n L : Nat}
theorem CPI.z (h : u.1 c = v.1 c) : CPI c 0 L u v := fun i => by rw [h, if_neg (Nat.not_lt_zero _)]
theorem CPJ.z (h : u.2 c = v.2 c) : CPJ c 0 L u v := fun i => by rw [h, if_neg (Nat.not_lt_zero _)]
theorem CPI.rd (h : CPI c n L u v) (hn : n ≤ L) : u.1 c (L + n) = v.1 c (L + n) := by rw [h, if_neg (by omega)]
theorem CPJ.rd (h : CPJ c n L u v) (hn : n ≤ L) : u.2 c (L + n) = v.2 c (L + n) := by rw [h, if_neg (by omega)]
theorem CPI.s (h : CPI c n L u v) : CPI c (n + 1) L (upI u c n (v.1 c (L + n))) v := by
  intro i
  by_cases z : i = n
  · rw [z, upI_at, if_pos (by omega)]
  · rw [upI_j z, h i]
    by_cases y : i < n
    · rw [if_pos y, if_pos (by omega)]
    · rw [if_neg y, if_neg (by omega)]
theorem CPJ.s (h : CPJ c n L u v) : CPJ c (n + 1) L (upJ u c n (v.2 c (L + n))) v := by
  intro i
  by_cases z : i = n
  · rw [z, upJ_at, if_pos (by omega)]
  · rw [upJ_j z, h i]
    by_cases y : i < n
    · rw [if_pos y, if_pos (by omega)]
    · rw [if_neg y, if_neg (by omega)]
theorem CPI.mv (h : CPI c n L u v) (e : u1.1 c = u.1 c) : CPI c n L u1 v := fun i => by rw [e]; exact h i
theorem CPJ.mv (h : CPJ c n L u v) (e : u1.2 c = u.2 c) : CPJ c n L u1 v := fun i => by rw [e]; exact h i
theorem CPI.vv (h : CPI c n L u v) (e : v1.1 c = v.1 c) : CPI c n L u v1 := fun i => by rw [e]; exact h i
theorem CPJ.vv (h : CPJ c n L u v) (e : v1.2 c = v.2 c) : CPJ c n L u v1 := fun i => by rw [e]; exact h i
theorem m_cp97 : ∀ (f k : Nat) (u : gM), k ≤ 6 → 6 - k < f → off (fun c => c = 1) v u → CPI 1 k 6 u v → ∃ u', X12_book_l97 f (nI k) u = X12_book_l126 fz (nI 0) u' ∧ off (fun c => c = 1) v u' ∧ CPI 1 6 6 u' v := by
  intro f
  induction f with
  | zero => intro k u h1 h2; omega
  | succ f ih =>
    intro k u h1 h2 ho h
    unfold X12_book_l97 X12_book_b97
    by_cases h4 : k = 6
    · subst h4
      refine ⟨u, ?_, ho, h⟩
      rw [if_pos (show (6 : Int32) ≤ nI 6 from Int32.le_refl _)]
      rfl
    · have hz : ¬ (6 : Int32) ≤ nI k := by rw [nI_lit, nI_leI (by omega) (by omega)]; omega
      obtain ⟨u', e, o, q⟩ := ih (k + 1) (upI u 1 k (v.1 1 (6 + k))) (by omega) (by omega) (off_upI (k := 1) rfl ho) h.s
      refine ⟨u', ?_, o, q⟩
      rw [if_neg hz, show (6 + nI k : Int32) = nI (6 + k) by rw [nI_lit, nI_add], bnd (aM1 (show 6 + k < 12 by omega)), h.rd (by omega), bnd (sM1 (show k < 12 by omega)), nI_s]
      exact e
theorem m_cp126 : ∀ (f k : Nat) (u : gM), k ≤ 10 → 10 - k < f → off (fun c => c = 2) v u → CPJ 2 k 10 u v → ∃ u', X12_book_l126 f (nI k) u = X12_book_l155 fz (nI 0) u' ∧ off (fun c => c = 2) v u' ∧ CPJ 2 10 10 u' v := by
  intro f
  induction f with
  | zero => intro k u h1 h2; omega
  | succ f ih =>
    intro k u h1 h2 ho h
    unfold X12_book_l126 X12_book_b126
    by_cases h4 : k = 10
    · subst h4
      refine ⟨u, ?_, ho, h⟩
      rw [if_pos (show (10 : Int32) ≤ nI 10 from Int32.le_refl _)]
      rfl
    · have hz : ¬ (10 : Int32) ≤ nI k := by rw [nI_lit, nI_leI (by omega) (by omega)]; omega
      obtain ⟨u', e, o, q⟩ := ih (k + 1) (upJ u 2 k (v.2 2 (10 + k))) (by omega) (by omega) (off_upJ (k := 2) rfl ho) h.s
      refine ⟨u', ?_, o, q⟩
      rw [if_neg hz, show (10 + nI k : Int32) = nI (10 + k) by rw [nI_lit, nI_add], bnd (aM2 (show 10 + k < 20 by omega)), h.rd (by omega), bnd (sM2 (show k < 20 by omega)), nI_s]
      exact e
theorem m_cp155 : ∀ (f k : Nat) (u : gM), k ≤ 6 → 6 - k < f → off (fun c => c = 3) v u → CPJ 3 k 6 u v → ∃ u', X12_book_l155 f (nI k) u = X12_book_l184 fz (nI 0) u' ∧ off (fun c => c = 3) v u' ∧ CPJ 3 6 6 u' v := by
  intro f
  induction f with
  | zero => intro k u h1 h2; omega
  | succ f ih =>
    intro k u h1 h2 ho h
    unfold X12_book_l155 X12_book_b155
    by_cases h4 : k = 6
    · subst h4
      refine ⟨u, ?_, ho, h⟩
      rw [if_pos (show (6 : Int32) ≤ nI 6 from Int32.le_refl _)]
      rfl
    · have hz : ¬ (6 : Int32) ≤ nI k := by rw [nI_lit, nI_leI (by omega) (by omega)]; omega
      obtain ⟨u', e, o, q⟩ := ih (k + 1) (upJ u 3 k (v.2 3 (6 + k))) (by omega) (by omega) (off_upJ (k := 3) rfl ho) h.s
      refine ⟨u', ?_, o, q⟩
      rw [if_neg hz, show (6 + nI k : Int32) = nI (6 + k) by rw [nI_lit, nI_add], bnd (aM3 (show 6 + k < 12 by omega)), h.rd (by omega), bnd (sM3 (show k < 12 by omega)), nI_s]
      exact e
theorem m_cp184 : ∀ (f k : Nat) (u : gM), k ≤ 10 → 10 - k < f → off (fun c => 13 ≤ c ∧ c ≤ 15) v u → CPI 13 k 10 u v → CPI 14 k 10 u v → CPI 15 k 10 u v → ∃ u', X12_book_l184 f (nI k) u = X12_book_l243 fz (nI 0) u' ∧ off (fun c => 13 ≤ c ∧ c ≤ 15) v u' ∧ CPI 13 10 10 u' v ∧ CPI 14 10 10 u' v ∧ CPI 15 10 10 u' v := by
  intro f
  induction f with
  | zero => intro k u h1 h2; omega
  | succ f ih =>
    intro k u h1 h2 ho h13 h14 h15
    unfold X12_book_l184 X12_book_b184
    by_cases h4 : k = 10
    · subst h4
      refine ⟨u, ?_, ho, h13, h14, h15⟩
      rw [if_pos (show (10 : Int32) ≤ nI 10 from Int32.le_refl _)]
      rfl
    · have hz : ¬ (10 : Int32) ≤ nI k := by rw [nI_lit, nI_leI (by omega) (by omega)]; omega
      have hk : k < 20 := by omega
      obtain ⟨u', e, o, q⟩ := ih (k + 1) (upI (upI (upI u 13 k (v.1 13 (10 + k))) 14 k (v.1 14 (10 + k))) 15 k (v.1 15 (10 + k))) (by omega) (by omega) (off_upI (k := 15) ⟨by omega, by omega⟩ (off_upI (k := 14) ⟨by omega, by omega⟩ (off_upI (k := 13) ⟨by omega, by omega⟩ ho))) (h13.s.mv (by rw [upI_k (by omega), upI_k (by omega)])) (((h14.mv (u1 := upI u 13 k (v.1 13 (10 + k))) (by rw [upI_k (by omega)])).s).mv (by rw [upI_k (by omega)])) ((h15.mv (u1 := upI (upI u 13 k (v.1 13 (10 + k))) 14 k (v.1 14 (10 + k))) (by rw [upI_k (by omega), upI_k (by omega)])).s)
      refine ⟨u', ?_, o, q⟩
      rw [if_neg hz, show (10 + nI k : Int32) = nI (10 + k) by rw [nI_lit, nI_add], bnd (aM13 (show 10 + k < 20 by omega)), h13.rd (by omega), bnd (sM13 hk), bnd (aM14 (show 10 + k < 20 by omega)), upI_k (by omega), h14.rd (by omega), bnd (sM14 hk), bnd (aM15 (show 10 + k < 20 by omega)), upI_k (by omega), upI_k (by omega), h15.rd (by omega), bnd (sM15 hk), nI_s]
      exact e
def TKO (a b d : Nat) (u v : gM) : Prop := (off (fun c => 4 ≤ c ∧ c ≤ 12) v u) ∧ (CPJ 4 a 24 u v) ∧ (CPI 5 a 24 u v) ∧ (CPI 6 a 24 u v) ∧ (CPI 7 a 24 u v) ∧ (CPI 8 b 96 u v) ∧ (CPJ 10 d 144 u v)
theorem TKO.o {a b d : Nat} {u v : gM} (h : TKO a b d u v) : off (fun c => 4 ≤ c ∧ c ≤ 12) v u := h.1
theorem TKO.r4 {a b d : Nat} {u v : gM} (h : TKO a b d u v) : CPJ 4 a 24 u v := h.2.1
theorem TKO.r5 {a b d : Nat} {u v : gM} (h : TKO a b d u v) : CPI 5 a 24 u v := h.2.2.1
theorem TKO.r6 {a b d : Nat} {u v : gM} (h : TKO a b d u v) : CPI 6 a 24 u v := h.2.2.2.1
theorem TKO.r7 {a b d : Nat} {u v : gM} (h : TKO a b d u v) : CPI 7 a 24 u v := h.2.2.2.2.1
theorem TKO.r8 {a b d : Nat} {u v : gM} (h : TKO a b d u v) : CPI 8 b 96 u v := h.2.2.2.2.2.1
theorem TKO.r10 {a b d : Nat} {u v : gM} (h : TKO a b d u v) : CPJ 10 d 144 u v := h.2.2.2.2.2.2
theorem m_to50 {a : Nat} (ha : a < 24) : ∀ (f k : Nat) (u : gM), k ≤ 4 → 4 - k < f → TKO (a + 1) (4 * a + k) (6 * a) u v → CPI 9 a 24 u v → CPI 11 a 24 u v → CPI 12 a 24 u v → ∃ u', X12_takesOver_l50 f (nI a) (nI (24 + a)) (nI k) u = X12_takesOver_l95 fz (nI a) (nI (24 + a)) (nI 0) u' ∧ TKO (a + 1) (4 * a + 4) (6 * a) u' v ∧ CPI 9 (a + 1) 24 u' v ∧ CPI 11 a 24 u' v ∧ CPI 12 a 24 u' v := by
  intro f
  induction f with
  | zero => intro k u h1 h2; omega
  | succ f ih =>
    intro k u h1 h2 h h9 h11 h12
    unfold X12_takesOver_l50 X12_takesOver_b50
    by_cases h4 : k = 4
    · subst h4
      refine ⟨upI u 9 a (v.1 9 (24 + a)), ?_, ⟨off_upI (k := 9) ⟨by omega, by omega⟩ h.o, h.r4.mv (by rw [upI_2]), h.r5.mv (by rw [upI_k (by omega)]), h.r6.mv (by rw [upI_k (by omega)]), h.r7.mv (by rw [upI_k (by omega)]), h.r8.mv (by rw [upI_k (by omega)]), h.r10.mv (by rw [upI_2])⟩, h9.s, h11.mv (by rw [upI_k (by omega)]), h12.mv (by rw [upI_k (by omega)])⟩
      rw [if_pos (show (4 : Int32) ≤ nI 4 from Int32.le_refl _), bnd (aM9 (show 24 + a < 48 by omega)), h9.rd (by omega), bnd (sM9 (show a < 48 by omega))]
      rfl
    · have hz : ¬ (4 : Int32) ≤ nI k := by rw [nI_lit, nI_leI (by omega) (by omega)]; omega
      obtain ⟨u', e, q⟩ := ih (k + 1) (upI u 8 (4 * a + k) (v.1 8 (96 + (4 * a + k)))) (by omega) (by omega) ⟨off_upI (k := 8) ⟨by omega, by omega⟩ h.o, h.r4.mv (by rw [upI_2]), h.r5.mv (by rw [upI_k (by omega)]), h.r6.mv (by rw [upI_k (by omega)]), h.r7.mv (by rw [upI_k (by omega)]), h.r8.s, h.r10.mv (by rw [upI_2])⟩ (h9.mv (by rw [upI_k (by omega)])) (h11.mv (by rw [upI_k (by omega)])) (h12.mv (by rw [upI_k (by omega)]))
      refine ⟨u', ?_, q⟩
      rw [if_neg hz, show (4 * nI (24 + a) + nI k : Int32) = nI (96 + (4 * a + k)) by rw [nI_lit, pk_mul, nI_add]; congr 1; omega, show (4 * nI a + nI k : Int32) = nI (4 * a + k) by rw [nI_lit, pk_mul, nI_add], bnd (aM8 (show 96 + (4 * a + k) < 192 by omega)), h.r8.rd (by omega), bnd (sM8 (show 4 * a + k < 192 by omega)), nI_s]
      exact e
theorem m_to95 {a : Nat} (ha : a < 24) : ∀ (f k : Nat) (u : gM), k ≤ 6 → 6 - k < f → TKO (a + 1) (4 * a + 4) (6 * a + k) u v → CPI 9 (a + 1) 24 u v → CPI 11 a 24 u v → CPI 12 a 24 u v → ∃ u', X12_takesOver_l95 f (nI a) (nI (24 + a)) (nI k) u = some u' ∧ TKO (a + 1) (4 * a + 4) (6 * a + 6) u' v ∧ CPI 9 (a + 1) 24 u' v ∧ CPI 11 (a + 1) 24 u' v ∧ CPI 12 (a + 1) 24 u' v := by
  intro f
  induction f with
  | zero => intro k u h1 h2; omega
  | succ f ih =>
    intro k u h1 h2 h h9 h11 h12
    unfold X12_takesOver_l95 X12_takesOver_b95
    by_cases h4 : k = 6
    · subst h4
      refine ⟨upI (upI u 11 a (v.1 11 (24 + a))) 12 a (v.1 12 (24 + a)), ?_, ⟨off_upI (k := 12) ⟨by omega, by omega⟩ (off_upI (k := 11) ⟨by omega, by omega⟩ h.o), h.r4.mv (by rw [upI_2, upI_2]), h.r5.mv (by rw [upI_k (by omega), upI_k (by omega)]), h.r6.mv (by rw [upI_k (by omega), upI_k (by omega)]), h.r7.mv (by rw [upI_k (by omega), upI_k (by omega)]), h.r8.mv (by rw [upI_k (by omega), upI_k (by omega)]), h.r10.mv (by rw [upI_2, upI_2])⟩, h9.mv (by rw [upI_k (by omega), upI_k (by omega)]), h11.s.mv (by rw [upI_k (by omega)]), (h12.mv (u1 := upI u 11 a (v.1 11 (24 + a))) (by rw [upI_k (by omega)])).s⟩
      rw [if_pos (show (6 : Int32) ≤ nI 6 from Int32.le_refl _), bnd (aM11 (show 24 + a < 48 by omega)), h11.rd (by omega), bnd (sM11 (show a < 48 by omega)), bnd (aM12 (show 24 + a < 48 by omega)), upI_k (by omega), h12.rd (by omega), bnd (sM12 (show a < 48 by omega))]
    · have hz : ¬ (6 : Int32) ≤ nI k := by rw [nI_lit, nI_leI (by omega) (by omega)]; omega
      obtain ⟨u', e, q⟩ := ih (k + 1) (upJ u 10 (6 * a + k) (v.2 10 (144 + (6 * a + k)))) (by omega) (by omega) ⟨off_upJ (k := 10) ⟨by omega, by omega⟩ h.o, h.r4.mv (by rw [upJ_k (by omega)]), h.r5.mv (by rw [upJ_1]), h.r6.mv (by rw [upJ_1]), h.r7.mv (by rw [upJ_1]), h.r8.mv (by rw [upJ_1]), h.r10.s⟩ (h9.mv (by rw [upJ_1])) (h11.mv (by rw [upJ_1])) (h12.mv (by rw [upJ_1]))
      refine ⟨u', ?_, q⟩
      rw [if_neg hz, show (6 * nI (24 + a) + nI k : Int32) = nI (144 + (6 * a + k)) by rw [nI_lit, pk_mul, nI_add]; congr 1; omega, show (6 * nI a + nI k : Int32) = nI (6 * a + k) by rw [nI_lit, pk_mul, nI_add], bnd (aM10 (show 144 + (6 * a + k) < 288 by omega)), h.r10.rd (by omega), bnd (sM10 (show 6 * a + k < 288 by omega)), nI_s]
      exact e
theorem m_takesOver {a : Nat} (ha : a < 24) (h : TKO a (4 * a) (6 * a) u v) (h9 : CPI 9 a 24 u v) (h11 : CPI 11 a 24 u v) (h12 : CPI 12 a 24 u v) : ∃ u', X12_takesOver (nI a) (nI (24 + a)) u = some u' ∧ TKO (a + 1) (4 * a + 4) (6 * a + 6) u' v ∧ CPI 9 (a + 1) 24 u' v ∧ CPI 11 (a + 1) 24 u' v ∧ CPI 12 (a + 1) 24 u' v := by
  have hl : 24 + a < 48 := by omega
  have hl2 : a < 48 := by omega
  have t1 : TKO (a + 1) (4 * a + 0) (6 * a) (upI (upI (upI (upJ u 4 a (v.2 4 (24 + a))) 5 a (v.1 5 (24 + a))) 6 a (v.1 6 (24 + a))) 7 a (v.1 7 (24 + a))) v := by
    refine ⟨off_upI (k := 7) ⟨by omega, by omega⟩ (off_upI (k := 6) ⟨by omega, by omega⟩ (off_upI (k := 5) ⟨by omega, by omega⟩ (off_upJ (k := 4) ⟨by omega, by omega⟩ h.o))), h.r4.s.mv (by rw [upI_2, upI_2, upI_2]), ?_, ?_, ?_, h.r8.mv (by rw [upI_k (by omega), upI_k (by omega), upI_k (by omega), upJ_1]), h.r10.mv (by rw [upI_2, upI_2, upI_2, upJ_k (by omega)])⟩
    · exact ((h.r5.mv (u1 := upJ u 4 a (v.2 4 (24 + a))) (by rw [upJ_1])).s).mv (by rw [upI_k (by omega), upI_k (by omega)])
    · exact ((h.r6.mv (u1 := upI (upJ u 4 a (v.2 4 (24 + a))) 5 a (v.1 5 (24 + a))) (by rw [upI_k (by omega), upJ_1])).s).mv (by rw [upI_k (by omega)])
    · exact (h.r7.mv (u1 := upI (upI (upJ u 4 a (v.2 4 (24 + a))) 5 a (v.1 5 (24 + a))) 6 a (v.1 6 (24 + a))) (by rw [upI_k (by omega), upI_k (by omega), upJ_1])).s
  obtain ⟨u2, e2, t2, a9, a11, a12⟩ := m_to50 ha fz 0 _ (Nat.zero_le _) (fz_lt (by omega)) t1 (h9.mv (by rw [upI_k (by omega), upI_k (by omega), upI_k (by omega), upJ_1])) (h11.mv (by rw [upI_k (by omega), upI_k (by omega), upI_k (by omega), upJ_1])) (h12.mv (by rw [upI_k (by omega), upI_k (by omega), upI_k (by omega), upJ_1]))
  obtain ⟨u3, e3, p⟩ := m_to95 ha fz 0 u2 (Nat.zero_le _) (fz_lt (by omega)) t2 a9 a11 a12
  refine ⟨u3, ?_, p⟩
  unfold X12_takesOver
  rw [bnd (aM4 hl), h.r4.rd (by omega), bnd (sM4 hl2), bnd (aM5 hl), upJ_1, h.r5.rd (by omega), bnd (sM5 hl2), bnd (aM6 hl), upI_k (by omega), upJ_1, h.r6.rd (by omega), bnd (sM6 hl2), bnd (aM7 hl), upI_k (by omega), upI_k (by omega), upJ_1, h.r7.rd (by omega), bnd (sM7 hl2)]
  exact e2.trans e3
theorem m_cp243 : ∀ (f a : Nat) (u : gM), a ≤ 24 → 24 - a < f → TKO a (4 * a) (6 * a) u v → CPI 9 a 24 u v → CPI 11 a 24 u v → CPI 12 a 24 u v → ∃ u', X12_book_l243 f (nI a) u = ((X12_starts u').bind fun w265 => ((aI skM w265 1 2).bind fun v273 => some (v273, w265))) ∧ TKO 24 96 144 u' v ∧ CPI 9 24 24 u' v ∧ CPI 11 24 24 u' v ∧ CPI 12 24 24 u' v := by
  intro f
  induction f with
  | zero => intro a u h1 h2; omega
  | succ f ih =>
    intro a u h1 h2 h h9 h11 h12
    unfold X12_book_l243 X12_book_b243
    by_cases h4 : a = 24
    · subst h4
      refine ⟨u, ?_, h, h9, h11, h12⟩
      rw [if_pos (show (24 : Int32) ≤ nI 24 from Int32.le_refl _)]
    · have hz : ¬ (24 : Int32) ≤ nI a := by rw [nI_lit, nI_leI (by omega) (by omega)]; omega
      obtain ⟨u1, e1, t1, a9, a11, a12⟩ := m_takesOver (show a < 24 by omega) h h9 h11 h12
      obtain ⟨u', e, q⟩ := ih (a + 1) u1 (by omega) (by omega) (by rw [show 4 * (a + 1) = 4 * a + 4 by omega, show 6 * (a + 1) = 6 * a + 6 by omega]; exact t1) a9 a11 a12
      refine ⟨u', ?_, q⟩
      rw [if_neg hz, show (24 + nI a : Int32) = nI (24 + a) by rw [nI_lit, nI_add], bnd e1, nI_s]
      exact e
/-- what was read comes in place of what was told -/
theorem m_bcopy (hV : VT D) (h : RTm 1 D v) (hk : RKm 1 D v) : ∃ u', X12_book_l97 fz (nI 0) v = ((X12_starts u').bind fun w265 => ((aI skM w265 1 2).bind fun v273 => some (v273, w265))) ∧ off (fun c => 1 ≤ c ∧ c ≤ 15) v u' ∧ RTm 0 D u' ∧ RKm 0 D u' := by
  have hnp := hV.np; have hnb := hV.nb; have hna := hV.na; have hnl := hV.nl; have hno := hV.no; have hnh := hV.nh
  obtain ⟨u1, e1, o1, q1⟩ := m_cp97 (v := v) fz 0 v (Nat.zero_le _) (fz_lt (by omega)) off_rf (CPI.z rfl)
  obtain ⟨u2, e2, o2, q2⟩ := m_cp126 (v := u1) fz 0 u1 (Nat.zero_le _) (fz_lt (by omega)) off_rf (CPJ.z rfl)
  obtain ⟨u3, e3, o3, q3⟩ := m_cp155 (v := u2) fz 0 u2 (Nat.zero_le _) (fz_lt (by omega)) off_rf (CPJ.z rfl)
  obtain ⟨u4, e4, o4, q13, q14, q15⟩ := m_cp184 (v := u3) fz 0 u3 (Nat.zero_le _) (fz_lt (by omega)) off_rf (CPI.z rfl) (CPI.z rfl) (CPI.z rfl)
  obtain ⟨u5, e5, t5, q9, q11, q12⟩ := m_cp243 (v := u4) fz 0 u4 (Nat.zero_le _) (fz_lt (by omega)) ⟨off_rf, CPJ.z rfl, CPI.z rfl, CPI.z rfl, CPI.z rfl, CPI.z rfl, CPJ.z rfl⟩ (CPI.z rfl) (CPI.z rfl) (CPI.z rfl)
  have p1 : ∀ c, c ≠ 1 → u1.1 c = v.1 c ∧ u1.2 c = v.2 c := fun c hc => o1 c hc
  have p2 : ∀ c, c ≠ 2 → u2.1 c = u1.1 c ∧ u2.2 c = u1.2 c := fun c hc => o2 c hc
  have p3 : ∀ c, c ≠ 3 → u3.1 c = u2.1 c ∧ u3.2 c = u2.2 c := fun c hc => o3 c hc
  have p4 : ∀ c, c < 13 ∨ 15 < c → u4.1 c = u3.1 c ∧ u4.2 c = u3.2 c := fun c hc => o4 c (by rintro ⟨z1, z2⟩; omega)
  have p5 : ∀ c, c < 4 ∨ 12 < c → u5.1 c = u4.1 c ∧ u5.2 c = u4.2 c := fun c hc => t5.o c (by rintro ⟨z1, z2⟩; omega)
  have b4 : ∀ c, 4 ≤ c → c ≤ 12 → u4.1 c = v.1 c ∧ u4.2 c = v.2 c := fun c c1 c2 => by
    rw [(p4 c (by omega)).1, (p3 c (by omega)).1, (p2 c (by omega)).1, (p1 c (by omega)).1, (p4 c (by omega)).2, (p3 c (by omega)).2, (p2 c (by omega)).2, (p1 c (by omega)).2]
    exact ⟨rfl, rfl⟩
  have g1 : ∀ i, i < 6 → u5.1 1 i = v.1 1 (6 + i) := fun i hi => by rw [(p5 1 (by omega)).1, (p4 1 (by omega)).1, (p3 1 (by omega)).1, (p2 1 (by omega)).1, q1 i, if_pos hi]
  have g2 : ∀ i, i < 10 → u5.2 2 i = v.2 2 (10 + i) := fun i hi => by rw [(p5 2 (by omega)).2, (p4 2 (by omega)).2, (p3 2 (by omega)).2, q2 i, if_pos hi, (p1 2 (by omega)).2]
  have g3 : ∀ i, i < 6 → u5.2 3 i = v.2 3 (6 + i) := fun i hi => by rw [(p5 3 (by omega)).2, (p4 3 (by omega)).2, q3 i, if_pos hi, (p2 3 (by omega)).2, (p1 3 (by omega)).2]
  have g13 : ∀ c i, CPI c 10 10 u4 u3 → 13 ≤ c → i < 10 → u5.1 c i = v.1 c (10 + i) := fun c i q hc hi => by rw [(p5 c (by omega)).1, q i, if_pos hi, (p3 c (by omega)).1, (p2 c (by omega)).1, (p1 c (by omega)).1]
  have g5 : ∀ c i, CPI c 24 24 u5 u4 → 4 ≤ c → c ≤ 12 → i < 24 → u5.1 c i = v.1 c (24 + i) := fun c i q c1 c2 hi => by rw [q i, if_pos hi, (b4 c c1 c2).1]
  refine ⟨u5, e1.trans (e2.trans (e3.trans (e4.trans e5))), fun c hc => ?_, ?_, fun a ha => ?_⟩
  · have hc2 : ¬ (1 ≤ c ∧ c ≤ 15) := hc
    rw [(p5 c (by omega)).1, (p4 c (by omega)).1, (p3 c (by omega)).1, (p2 c (by omega)).1, (p1 c (by omega)).1, (p5 c (by omega)).2, (p4 c (by omega)).2, (p3 c (by omega)).2, (p2 c (by omega)).2, (p1 c (by omega)).2]
    exact ⟨rfl, rfl⟩
  · refine ⟨by rw [g1 _ (by omega)]; exact h.np, by rw [g1 _ (by omega)]; exact h.nb, by rw [g1 _ (by omega)]; exact h.na, by rw [g1 _ (by omega)]; exact h.nl, by rw [g1 _ (by omega)]; exact h.li, by rw [g1 _ (by omega)]; exact h.gr, fun i hi => ?_, fun i hi => ?_, fun i hi => ?_, fun i hi => ?_, fun i hi => ?_, fun i hi => ?_, fun i hi => ?_, fun i hi => ?_, fun i k hi hk => ?_, fun i k hi hk => ?_, fun i hi => ?_, fun i hi => ?_, fun i hi => ?_⟩
    · rw [Nat.mul_zero, Nat.zero_add, g2 i (by omega)]; exact h.pn i hi
    · rw [Nat.mul_zero, Nat.zero_add, g3 i (by omega)]; exact h.bn i hi
    · rw [Nat.mul_zero, Nat.zero_add, t5.r4 i, if_pos (by omega), (b4 4 (by omega) (by omega)).2]; exact h.an i hi
    · rw [Nat.mul_zero, Nat.zero_add, g5 6 i t5.r6 (by omega) (by omega) (by omega)]; exact h.hm i hi
    · rw [Nat.mul_zero, Nat.zero_add, g5 11 i q11 (by omega) (by omega) (by omega)]; exact h.tc i hi
    · rw [Nat.mul_zero, Nat.zero_add, g5 12 i q12 (by omega) (by omega) (by omega)]; exact h.te i hi
    · rw [Nat.mul_zero, Nat.zero_add, g5 7 i t5.r7 (by omega) (by omega) (by omega)]; exact h.no i hi
    · rw [Nat.mul_zero, Nat.zero_add, g5 9 i q9 (by omega) (by omega) (by omega)]; exact h.nh i hi
    · have := hno i hi
      rw [Nat.mul_zero, Nat.zero_add, t5.r8 _, if_pos (by omega), (b4 8 (by omega) (by omega)).1, show 96 + (4 * i + k) = 4 * (24 * 1 + i) + k by omega]
      exact h.ow i k hi hk
    · have := hnh i hi
      rw [Nat.mul_zero, Nat.zero_add, t5.r10 _, if_pos (by omega), (b4 10 (by omega) (by omega)).2, show 144 + (6 * i + k) = 6 * (24 * 1 + i) + k by omega]
      exact h.hn i k hi hk
    · rw [Nat.mul_zero, Nat.zero_add, g13 13 i q13 (by omega) (by omega)]; exact h.lp i hi
    · rw [Nat.mul_zero, Nat.zero_add, g13 14 i q14 (by omega) (by omega)]; exact h.lb i hi
    · rw [Nat.mul_zero, Nat.zero_add, g13 15 i q15 (by omega) (by omega)]; exact h.lc i hi
  · rw [Nat.mul_zero, Nat.zero_add, g5 5 a t5.r5 (by omega) (by omega) (by omega)]; exact hk a ha
end CM
