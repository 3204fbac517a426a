/-! a BANK FAILS: the model's, to its end -/
section MF2
variable {T : gT} {N : gN} {b es : Nat} {u v u0 : gM} {f0 : Nat → Int32}
theorem m_fl218 (hV : VT T) (hVN : VN T N) (hb : b < 6) (h0 : M0 T N b f0) : ∀ (f l : Nat) (u : gM), l ≤ T 0 3 → T 0 3 - l < f → off sDm u0 u → ML2 T N b f0 (lnL T N b l (w0 T N b)) u → ∃ u', X12_falls_l218 f (nI b) (nI es) (nI l) u = X12_falls_l274 fz (nI b) (nI es) (lN 0) (nI 0) u' ∧ off sDm u0 u' ∧ ML2 T N b f0 (wS T N b) u' := by
  have hnl := hV.nl
  intro f
  induction f with
  | zero => intro l u h1 h2; omega
  | succ f ih =>
    intro l u h1 h2 ho h
    have t3 := h.a.t.nl
    simp only [Nat.mul_zero, Nat.zero_add] at t3
    unfold X12_falls_l218 X12_falls_b218 X12_falls_b263
    by_cases h4 : l = T 0 3
    · rw [h4] at h
      refine ⟨u, ?_, ho, h⟩
      rw [bnd (show aI skM u 1 3 = some (nI (T 0 3)) by rw [nI_lit, aM1 (by omega), t3]), h4, if_pos (Int32.le_refl _)]
      rfl
    · have hll : l < T 0 3 := by omega
      have hz : ¬ (nI (T 0 3) : Int32) ≤ nI l := by rw [nI_leI (by omega) (by omega)]; omega
      have hlb := h.a.t.lb l hll
      simp only [Nat.mul_zero, Nat.zero_add] at hlb
      have hb9 := hV.lb l hll
      have hnb := hV.nb
      have hn6 : nowS N (T 9 l) < 6 := by have := nowF_nb hVN hV 6 (T 9 l) hb9; unfold nowS; omega
      have hWV := lnL_V (b := b) hV hVN l
      have hd0 := lnL_d (T := T) (N := N) (b := b) (k := l) (n := l) (Nat.le_refl _)
      have hod := hVN.od l hll
      rw [bnd (show aI skM u 1 3 = some (nI (T 0 3)) by rw [nI_lit, aM1 (by omega), t3]), if_neg hz, bnd (aM14 (by omega)), hlb, bnd (h.a.now hV hVN h0 (by omega))]
      by_cases hab : nowS N (T 9 l) = b
      · have hS : lnL T N b (l + 1) (w0 T N b) = _ := lnS_y hab
        generalize hg : lnL T N b l (w0 T N b) = s at *
        have bs : ∀ j, j < 96 → s.1 j + s.2.1 j + s.2.2.1 j ≤ 100000000 := fun j hj => hWV.le hV hVN hj
        obtain ⟨u1, e3, o1, k1, d1, x1, y1⟩ := m_so_l (b := b) (N := N) (r := 26) (l := l) (s0 := (s.2.2.1, s.1, s.2.2.2 l)) hV (Or.inr rfl) hll (fun j hj => by show s.2.2.1 j + s.1 j ≤ _; have := bs j hj; omega) (by show s.2.2.2 l ≤ _; omega) h.a.t fz 0 u (Nat.zero_le _) (fz_lt (by omega)) off_rf (fun _ _ _ => rfl) (h.d l hll) h.o h.l
        have o1' : ∀ c, c ≠ 16 → c ≠ 26 → u1.1 c = u.1 c ∧ u1.2 c = u.2 c := fun c c1 c2 => o1 c (by rintro (z | z); exact c1 z; exact c2 z)
        have od1 : off sDm u u1 := off_mono o1 (fun c hc => by rcases hc with z | z; exact Or.inl z; exact Or.inr (by omega))
        have hsum := ln1_sum (T := T) (N := N) (b := b) (l := l) (s := s)
        have hlf : (ln1 T N b l s).2.2 ≤ s.2.2.2 l := soL_left 96
        obtain ⟨u2, e5, o2, k2, d2, x2, y2⟩ := m_so_l (b := b) (N := N) (r := 25) (l := l) (s0 := (s.2.1, (ln1 T N b l s).2.1, (ln1 T N b l s).2.2)) hV (Or.inl rfl) hll (fun j hj => by show s.2.1 j + (ln1 T N b l s).2.1 j ≤ _; have := bs j hj; have := hsum j; omega) (by show (ln1 T N b l s).2.2 ≤ _; omega) (RTm_D h.a.t od1) fz 0 u1 (Nat.zero_le _) (fz_lt (by omega)) off_rf (fun _ _ _ => rfl) d1 x1 (fun j hj => by rw [(o1' 25 (by omega) (by omega)).2]; exact h.p j hj)
        have o2' : ∀ c, c ≠ 16 → c ≠ 25 → u2.1 c = u1.1 c ∧ u2.2 c = u1.2 c := fun c c1 c2 => o2 c (by rintro (z | z); exact c1 z; exact c2 z)
        have od2 : off sDm u1 u2 := off_mono o2 (fun c hc => by rcases hc with z | z; exact Or.inl z; exact Or.inr (by omega))
        have kk : ∀ k, k ≠ 25 + l → k < 54 ∨ 150 ≤ k → u2.1 16 k = u.1 16 k := fun k c1 c2 => (k2 k c1 c2).trans (k1 k c1 c2)
        have hM : ML2 T N b f0 (lnL T N b (l + 1) (w0 T N b)) u2 := by
          rw [hS]
          refine ⟨⟨RTm_D h.a.t (off_tr od1 od2), fun k hk => ?_⟩, fun k hk => ?_, fun j hj => x2 j hj, fun j hj => ?_, fun j hj => y2 j hj, fun j hj => ?_⟩
          · rw [kk k (by omega) (by omega)]; exact h.a.e k hk
          · show _ = nI (upN _ _ _ k)
            by_cases z : k = l
            · subst z; rw [upN_at]; exact d2
            · rw [upN_i z, kk _ (by omega) (by omega)]; exact h.d k hk
          · have := h.z j hj
            exact ⟨by rw [kk _ (by omega) (by omega)]; exact this.1, by rw [kk _ (by omega) (by omega)]; exact this.2.1, by rw [kk _ (by omega) (by omega)]; exact this.2.2⟩
          · rw [(o2' 26 (by omega) (by omega)).2]; exact y1 j hj
        obtain ⟨u', e6, o6, q6⟩ := ih (l + 1) u2 (by omega) (by omega) (off_tr ho (off_tr od1 od2)) hM
        refine ⟨u', ?_, o6, q6⟩
        have e3' : X12_setsOff (nI l) 26 u = some u1 := e3
        have e5' : X12_setsOff (nI l) 25 u1 = some u2 := e5
        rw [if_pos (by rw [hab]), bnd e3', bnd e5', nI_s]
        exact e6
      · have hS : lnL T N b (l + 1) (w0 T N b) = lnL T N b l (w0 T N b) := lnS_n hab
        obtain ⟨u', e6, o6, q6⟩ := ih (l + 1) u (by omega) (by omega) ho (by rw [hS]; exact h)
        refine ⟨u', ?_, o6, q6⟩
        rw [if_neg (by rw [nI_eq (by omega) (by omega)]; exact hab), nI_s]
        exact e6
theorem m_fl274 (hV : VT T) (hVN : VN T N) (he : es ≤ 100000000) (hp : ∀ j, j < 96 → u0.2 25 j = lN ((wS T N b).2.1 j)) (hl : ∀ j, j < 96 → u0.2 26 j = lN ((wS T N b).2.2.1 j)) : ∀ (f i : Nat) (u : gM), i ≤ 96 → 96 - i < f → off (fun c => 21 ≤ c ∧ c ≤ 23) u0 u → (∀ j, j < i → u.2 21 j = lN ((wS T N b).2.2.1 j)) → ∃ u', X12_falls_l274 f (nI b) (nI es) (lN (sumN (wS T N b).2.1 i)) (nI i) u = X12_falls_l330 fz (nI b) (nI 0) u' ∧ off (fun c => 21 ≤ c ∧ c ≤ 23) u0 u' ∧ ∀ j, j < 97 → u'.2 22 j = lN (wG T N b es j) := by
  intro f
  induction f with
  | zero => intro i u h1 h2; omega
  | succ f ih =>
    intro i u h1 h2 ho h
    unfold X12_falls_l274 X12_falls_b274
    by_cases h4 : i = 96
    · subst h4
      obtain ⟨u1, e1, g1, o1⟩ := m_divides (u := upJ u 21 96 (lN (sumN (wS T N b).2.1 96))) (n := 97) (much := es) (p := wP T N b) (by omega) (by omega) (fun j hj => wP_le hV hVN hj) (fun j hj => by
        unfold wP
        by_cases z : j = 96
        · subst z; rw [upJ_at, if_pos rfl]
        · rw [upJ_j z, if_neg z]; exact h j (by omega))
      refine ⟨u1, ?_, off_tr ho (off_tr (off_upJ (k := 21) ⟨by omega, by omega⟩ off_rf) (off_mono o1 (fun c hc => by rcases hc with z | z <;> exact ⟨by omega, by omega⟩))), g1⟩
      rw [if_pos (show (96 : Int32) ≤ nI 96 from Int32.le_refl _), bnd (show sJ skM u 21 96 (lN (sumN (wS T N b).2.1 96)) = some (upJ u 21 96 (lN (sumN (wS T N b).2.1 96))) by rw [nI_lit]; exact sM21 (by omega)), nI_64 (by omega), bnd (show X12_divides (lN es) 97 (upJ u 21 96 (lN (sumN (wS T N b).2.1 96))) = some u1 from e1)]
      rfl
    · have hi : i < 96 := by omega
      have hz : ¬ (96 : Int32) ≤ nI i := by rw [nI_lit, nI_leI (by omega) (by omega)]; omega
      have g25 := (ho 25 (by rintro ⟨_, z⟩; omega)).2
      have g26 := (ho 26 (by rintro ⟨_, z⟩; omega)).2
      obtain ⟨u', e1, o1, q1⟩ := ih (i + 1) (upJ u 21 i (lN ((wS T N b).2.2.1 i))) (by omega) (by omega) (off_upJ (k := 21) ⟨by omega, by omega⟩ ho) (fun j hj => by
        by_cases z : j = i
        · subst z; rw [upJ_at]
        · rw [upJ_j z]; exact h j (by omega))
      refine ⟨u', ?_, o1, q1⟩
      rw [sumN_s] at e1
      rw [if_neg hz, bnd (aM26 hi), g26, hl i hi, bnd (sM21 (by omega)), bnd (aM25 hi), upJ_k (by omega), g25, hp i hi, lN_add, nI_s]
      exact e1
def M4 (T : gT) (N : gN) (b es : Nat) (f1 : Nat → Int32) (i : Nat) (u : gM) : Prop := (∀ a, a < T 0 2 → u.1 16 (1 + a) = nI (if nowS N (T 2 a) = b ∧ 4 * a < i then 0 else N.1 1 a)) ∧ (∀ k, k = 0 ∨ (25 ≤ k ∧ k < 150) → u.1 16 k = f1 k) ∧ (∀ j, j < 96 → u.1 16 (150 + j) = nI ((sv (inF T N b) (wO T N b es 4) i j).getD 0)) ∧ (∀ j, j < 96 → u.1 16 (246 + j) = nI ((sv (inF T N b) (wO T N b es 5) i j).getD 0)) ∧ (∀ j, j < 96 → u.1 16 (342 + j) = nI ((sv (inF T N b) (wO T N b es 6) i j).getD 0))
theorem M4.c {T : gT} {N : gN} {b es : Nat} {f1 : Nat → Int32} {i : Nat} {u : gM} (h : M4 T N b es f1 i u) : ∀ a, a < T 0 2 → u.1 16 (1 + a) = nI (if nowS N (T 2 a) = b ∧ 4 * a < i then 0 else N.1 1 a) := h.1
theorem M4.k {T : gT} {N : gN} {b es : Nat} {f1 : Nat → Int32} {i : Nat} {u : gM} (h : M4 T N b es f1 i u) : ∀ k, k = 0 ∨ (25 ≤ k ∧ k < 150) → u.1 16 k = f1 k := h.2.1
theorem M4.p {T : gT} {N : gN} {b es : Nat} {f1 : Nat → Int32} {i : Nat} {u : gM} (h : M4 T N b es f1 i u) : ∀ j, j < 96 → u.1 16 (150 + j) = nI ((sv (inF T N b) (wO T N b es 4) i j).getD 0) := h.2.2.1
theorem M4.s {T : gT} {N : gN} {b es : Nat} {f1 : Nat → Int32} {i : Nat} {u : gM} (h : M4 T N b es f1 i u) : ∀ j, j < 96 → u.1 16 (246 + j) = nI ((sv (inF T N b) (wO T N b es 5) i j).getD 0) := h.2.2.2.1
theorem M4.l {T : gT} {N : gN} {b es : Nat} {f1 : Nat → Int32} {i : Nat} {u : gM} (h : M4 T N b es f1 i u) : ∀ j, j < 96 → u.1 16 (342 + j) = nI ((sv (inF T N b) (wO T N b es 6) i j).getD 0) := h.2.2.2.2
theorem m_fl330 {f1 : Nat → Int32} (hV : VT T) (hVN : VN T N) (hb : b < 6) (ho54 : ∀ j, j < 96 → f1 (54 + j) = oI (pv (inF T N b) (wS T N b).1 j)) (hp : ∀ j, j < 96 → u0.2 25 j = lN ((wS T N b).2.1 j)) (hl : ∀ j, j < 96 → u0.2 26 j = lN ((wS T N b).2.2.1 j)) (hg : ∀ j, j < 97 → u0.2 22 j = lN (wG T N b es j)) : ∀ (f i : Nat) (u : gM), i ≤ 96 → 96 - i < f → off (fun c => c = 16) u0 u → u.2 = u0.2 → M4 T N b es f1 i u → ∃ u', X12_falls_l330 f (nI b) (nI i) u = some (nI 1, upI (upI u' 16 438 (nI (wG T N b es 96))) 16 (47 + b) (nI 1)) ∧ off (fun c => c = 16) u0 u' ∧ M4 T N b es f1 96 u' := by
  have hna := hV.na
  intro f
  induction f with
  | zero => intro i u h1 h2; omega
  | succ f ih =>
    intro i u h1 h2 ho hu2 h
    unfold X12_falls_l330 X12_falls_b330 X12_falls_b431
    by_cases h4 : i = 96
    · subst h4
      refine ⟨u, ?_, ho, h⟩
      have e1 : aJ skM u 22 96 = some (lN (wG T N b es 96)) := by
        have := aM22 (u := u) (a := 96) (by omega)
        rw [hu2, hg 96 (by omega)] at this
        exact this
      have e2 : sI skM u 16 438 (nI (wG T N b es 96)) = some (upI u 16 438 (nI (wG T N b es 96))) := by rw [nI_lit]; exact sM16 (by omega)
      have e3 : (47 + nI b : Int32) = nI (47 + b) := by rw [nI_lit, nI_add]
      rw [if_pos (show (96 : Int32) ≤ nI 96 from Int32.le_refl _), bnd e1, lN_32, bnd e2, e3, bnd (sM16 (by omega))]
      rfl
    · have hi : i < 96 := by omega
      have hz : ¬ (96 : Int32) ≤ nI i := by rw [nI_lit, nI_leI (by omega) (by omega)]; omega
      have i1 : (54 + nI i : Int32) = nI (54 + i) := by rw [nI_lit, nI_add]
      have i2 : (150 + nI i : Int32) = nI (150 + i) := by rw [nI_lit, nI_add]
      have i3 : (246 + nI i : Int32) = nI (246 + i) := by rw [nI_lit, nI_add]
      have i4 : (342 + nI i : Int32) = nI (342 + i) := by rw [nI_lit, nI_add]
      have i5 : (1 + nI i / 4 : Int32) = nI (1 + i / 4) := by rw [show (nI i / 4 : Int32) = nI (i / 4) by rw [nI_lit, i_divN (by omega) (by omega) (by omega)], nI_lit, nI_add]
      rw [if_neg hz, i1, bnd (aM16 (by omega)), h.k _ (by omega), ho54 i hi]
      by_cases hf : inF T N b i = true
      · obtain ⟨f1', f2, f3⟩ := inF_iff.mp hf
        have hle := wS_le (b := b) hV hVN hi
        have hgl := wG_l (T := T) (N := N) (b := b) (e := es) hi
        have hw : ¬ oI (pv (inF T N b) (wS T N b).1 i) = -1 := by rw [pv_1 hf, oI_some, nI_lit, nI_m1 (by omega)]; exact id
        have r1 : aJ skM u 25 (nI i) = some (lN ((wS T N b).2.1 i)) := by rw [aM25 hi, hu2, hp i hi]
        have r2 : ∀ w : gM, w.2 = u.2 → aJ skM w 22 (nI i) = some (lN (wG T N b es i)) := fun w hw => by rw [aM22 (by omega), hw, hu2, hg i (by omega)]
        have r3 : ∀ w : gM, w.2 = u.2 → aJ skM w 26 (nI i) = some (lN ((wS T N b).2.2.1 i)) := fun w hw => by rw [aM26 hi, hw, hu2, hl i hi]
        have hM : M4 T N b es f1 (i + 1) (upI (upI (upI (upI u 16 (150 + i) (nI ((wS T N b).2.1 i))) 16 (246 + i) (nI (wG T N b es i))) 16 (342 + i) (nI ((wS T N b).2.2.1 i - wG T N b es i))) 16 (1 + i / 4) (nI 0)) := by
          refine ⟨fun a ha => ?_, fun k hk => ?_, fun j hj => ?_, fun j hj => ?_, fun j hj => ?_⟩
          · by_cases z : a = i / 4
            · rw [z, upI_at, if_pos ⟨f2, by omega⟩]
            · rw [upI_j (by omega), upI_j (by omega), upI_j (by omega), upI_j (by omega), h.c a ha]
              by_cases w : nowS N (T 2 a) = b ∧ 4 * a < i
              · rw [if_pos w, if_pos ⟨w.1, by omega⟩]
              · rw [if_neg w, if_neg (fun y => w ⟨y.1, by omega⟩)]
          · rw [upI_j (by omega), upI_j (by omega), upI_j (by omega), upI_j (by omega)]; exact h.k k hk
          · rw [upI_j (by omega), upI_j (by omega), upI_j (by omega)]
            by_cases z : j = i
            · subst z; rw [upI_at, sv_at hf]; rfl
            · rw [upI_j (by omega), sv_ne z]; exact h.p j hj
          · rw [upI_j (by omega), upI_j (by omega)]
            by_cases z : j = i
            · subst z; rw [upI_at, sv_at hf]; rfl
            · rw [upI_j (by omega), sv_ne z, upI_j (by omega)]; exact h.s j hj
          · rw [upI_j (by omega)]
            by_cases z : j = i
            · subst z; rw [upI_at, sv_at hf]; rfl
            · rw [upI_j (by omega), sv_ne z, upI_j (by omega), upI_j (by omega)]; exact h.l j hj
        obtain ⟨u', e1, o1, q1⟩ := ih (i + 1) _ (by omega) (by omega) (off_upI (k := 16) rfl (off_upI (k := 16) rfl (off_upI (k := 16) rfl (off_upI (k := 16) rfl ho)))) (by rw [upI_2, upI_2, upI_2, upI_2]; exact hu2) hM
        refine ⟨u', ?_, o1, q1⟩
        rw [if_neg hw, bnd r1, lN_32, i2, bnd (sM16 (by omega)), bnd (r2 _ (by rw [upI_2])), lN_32, i3, bnd (sM16 (by omega)), bnd (r3 _ (by rw [upI_2, upI_2])), bnd (r2 _ (by rw [upI_2, upI_2])), lN_sub hgl, lN_32, i4, bnd (sM16 (by omega)), i5, bnd (sM16 (by omega)), nI_s]
        exact e1
      · obtain ⟨u', e1, o1, q1⟩ := ih (i + 1) u (by omega) (by omega) ho hu2 (by
          refine ⟨fun a ha => ?_, h.k, fun j hj => by rw [sv_skip hf]; exact h.p j hj, fun j hj => by rw [sv_skip hf]; exact h.s j hj, fun j hj => by rw [sv_skip hf]; exact h.l j hj⟩
          rw [h.c a ha]
          by_cases w : nowS N (T 2 a) = b ∧ 4 * a < i
          · rw [if_pos w, if_pos ⟨w.1, by omega⟩]
          · rw [if_neg w, if_neg]
            rintro ⟨y1, y2⟩
            have hno := hV.no a ha
            have z : i = a * 4 + 0 := by
              have : ¬ 4 * a < i := fun z => w ⟨y1, z⟩
              omega
            exact hf (by rw [z]; exact (inF_ak (by omega)).mpr ⟨ha, y1, by omega⟩))
        refine ⟨u', ?_, o1, q1⟩
        rw [pv_0 hf, if_pos (show oI none = -1 from rfl), nI_s]
        exact e1
/-- the failing of a BANK, as the model does it -/
theorem m_falls (hV : VT T) (hVN : VN T N) (hM : MV T N none v) (hb : b < T 0 1) (hop : N.2 0 b = none ∧ N.1 3 b = 0) (he : es ≤ 100000000) : ∃ v', X12_falls (nI b) (nI es) v = some (nI 1, v') ∧ off sDm v v' ∧ RNm (v'.1 16) T (wN T N b es) := by
  have hnb := hV.nb
  have hna := hV.na
  have hnl := hV.nl
  have hmo := hVN.mo
  have hb6 : b < 6 := by omega
  obtain ⟨v1, e1, o1, i1⟩ := m_insures (m := N.1 0 0) hV hVN hM (by omega)
  have o1' : ∀ c, c < 20 → v1.1 c = v.1 c ∧ v1.2 c = v.2 c := fun c hc => o1 c (by rintro ⟨z, _⟩; omega)
  have od1 : off sDm v v1 := off_mono o1 (fun c hc => Or.inr hc.1)
  have f16 : ∀ k, k ≠ 53 → (upI v1 16 53 (nI b)).1 16 k = v.1 16 k := fun k hk => by rw [upI_j hk, (o1' 16 (by omega)).1]
  have od2 : off sDm v (upI v1 16 53 (nI b)) := off_upI (Or.inl rfl) od1
  have h0 : M0 T N b ((upI v1 16 53 (nI b)).1 16) := ⟨fun c hc => by rw [f16 _ (by omega)]; exact hM.n.it c hc, fun a ha => by rw [f16 _ (by omega)]; exact hM.n.co a ha⟩
  obtain ⟨v2, e2, o2, q2⟩ := m_fl50 (x2 := nI es) (u0 := upI v1 16 53 (nI b)) hV hVN hb6 h0 fz 0 (upI v1 16 53 (nI b)) (Nat.zero_le _) (fz_lt (by omega)) off_rf ⟨⟨RTm_D hM.t od2, fun _ _ => rfl⟩, fun l hl => by rw [f16 _ (by omega)]; exact hM.n.od l hl, fun a k ha hk => by rw [upI_2]; exact i1 a k ha hk, fun j hj => absurd hj (Nat.not_lt_zero _), fun j hj => absurd hj (Nat.not_lt_zero _), fun j hj => absurd hj (Nat.not_lt_zero _), fun j hj => absurd hj (Nat.not_lt_zero _)⟩
  obtain ⟨v3, e3, o3, q3⟩ := m_fl218 (es := es) (u0 := upI v1 16 53 (nI b)) hV hVN hb6 h0 fz 0 v2 (Nat.zero_le _) (fz_lt (by omega)) o2 ⟨q2.a, q2.d, q2.o, q2.z, q2.p, q2.l⟩
  obtain ⟨v4, e4, o4, q4⟩ := m_fl274 (u0 := v3) hV hVN he q3.p q3.l fz 0 v3 (Nat.zero_le _) (fz_lt (by omega)) off_rf (fun j hj => absurd hj (Nat.not_lt_zero _))
  have o4' : ∀ c, (c < 21 ∨ 23 < c) → v4.1 c = v3.1 c ∧ v4.2 c = v3.2 c := fun c hc => o4 c (by rintro ⟨z1, z2⟩; omega)
  have hM4 : M4 T N b es (v3.1 16) 0 v4 := by
    refine ⟨fun a ha => ?_, fun k hk => by rw [(o4' 16 (by omega)).1], fun j hj => ?_, fun j hj => ?_, fun j hj => ?_⟩
    · rw [(o4' 16 (by omega)).1, q3.a.e _ (by omega), h0.co a ha, if_neg (by omega)]
    · rw [(o4' 16 (by omega)).1, sv_z]; exact (q3.z j hj).1
    · rw [(o4' 16 (by omega)).1, sv_z]; exact (q3.z j hj).2.1
    · rw [(o4' 16 (by omega)).1, sv_z]; exact (q3.z j hj).2.2
  obtain ⟨v5, e5, o5, q5⟩ := m_fl330 (u0 := v4) (f1 := v3.1 16) hV hVN hb6 q3.o (fun j hj => by rw [(o4' 25 (by omega)).2]; exact q3.p j hj) (fun j hj => by rw [(o4' 26 (by omega)).2]; exact q3.l j hj) q4 fz 0 v4 (Nat.zero_le _) (fz_lt (by omega)) off_rf rfl hM4
  have hm := m_isBank hV hM.t hb
  have hm2 := m_isOpen hV hM.n hVN hb6
  rw [b2_t hop] at hm2
  refine ⟨upI (upI v5 16 438 (nI (wG T N b es 96))) 16 (47 + b) (nI 1), ?_, off_upI (k := 16) (Or.inl rfl) (off_upI (k := 16) (Or.inl rfl) (off_tr od2 (off_tr o3 (off_tr (off_mono o4 (fun c hc => Or.inr (by have := hc.1; omega))) (off_mono o5 (fun c hc => Or.inl hc)))))), ?_⟩
  rotate_left
  · have g : ∀ k, k ≠ 438 → k ≠ 47 + b → (upI (upI v5 16 438 (nI (wG T N b es 96))) 16 (47 + b) (nI 1)).1 16 k = v5.1 16 k := fun k k1 k2 => by rw [upI_j k2, upI_j k1]
    have g2 : ∀ k, k ≠ 53 → k = 0 ∨ (35 ≤ k ∧ k < 53) → v5.1 16 k = v.1 16 k := fun k k1 k2 => by rw [q5.k k (by omega), q3.a.e k (by omega), f16 k k1]
    refine ⟨?_, fun a ha => ?_, fun l hl => ?_, fun c hc => ?_, fun c hc => ?_, fun c hc => ?_, ?_, fun _ i hi => ?_, fun _ i hi => ?_, fun _ i hi => ?_, fun _ i hi => ?_, fun _ => ?_⟩
    · rw [g _ (by omega) (by omega), g2 _ (by omega) (by omega)]; exact hM.n.mo
    · rw [g _ (by omega) (by omega), q5.c a ha]
      show _ = nI (if a < T 0 2 ∧ nowS N (T 2 a) = b then 0 else N.1 1 a)
      by_cases w : nowS N (T 2 a) = b
      · rw [if_pos ⟨w, by omega⟩, if_pos ⟨ha, w⟩]
      · rw [if_neg (fun z => w z.1), if_neg (fun z => w z.2)]
    · rw [g _ (by omega) (by omega), q5.k _ (by omega)]; exact q3.d l hl
    · rw [g _ (by omega) (by omega), g2 _ (by omega) (by omega)]; exact hM.n.it c hc
    · rw [g _ (by omega) (by omega), g2 _ (by omega) (by omega)]; exact hM.n.si c hc
    · show _ = nI (if 3 = 3 ∧ c = b then 1 else N.1 3 c)
      by_cases z : c = b
      · subst z; rw [upI_at, if_pos ⟨rfl, rfl⟩]
      · rw [g _ (by omega) (by omega), g2 _ (by omega) (by omega), if_neg (fun w => z w.2)]; exact hM.n.fa c hc
    · rw [g _ (by omega) (by omega), q5.k _ (by omega), q3.a.e _ (by omega), upI_at]; rfl
    · rw [g _ (by omega) (by omega), q5.k _ (by omega), q3.o i hi]; rfl
    · rw [g _ (by omega) (by omega), q5.p i hi, sv_e hi]; rfl
    · rw [g _ (by omega) (by omega), q5.s i hi, sv_e hi]; rfl
    · rw [g _ (by omega) (by omega), q5.l i hi, sv_e hi]; rfl
    · rw [upI_j (by omega), upI_at]; rfl
  · unfold X12_falls
    have k1 : X12_isIn v (nI es).toInt64 0 100000000 = some (nI 1) := isIn_k (u := v) (n := 100000000) (by omega) (by omega)
    have a16 : aI skM v 16 0 = some (nI (N.1 0 0)) := by rw [nI_lit, aM16 (by omega), hM.n.mo]
    have s53 : sI skM v1 16 53 (nI b) = some (upI v1 16 53 (nI b)) := by rw [nI_lit]; exact sM16 (by omega)
    rw [bnd hm, if_neg n10, bnd hm2, if_neg n10, bnd k1, if_neg n10, bnd a16, bnd e1, bnd s53]
    exact e2.trans (e3.trans (e4.trans e5))
end MF2
