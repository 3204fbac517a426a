/-! a BANK FAILS: the class's windUp -/
section CW2
variable {T : gT} {N : gN} {b x : Nat} {u v u0 : gM}
def CWs (T : gT) (N : gN) (b x l : Nat) (u : gM) : Prop := (u.1 x 0 = nI b) ∧ (∀ j, j < 96 → u.1 (x + 1) j = oI (pv (inF T N b) (lnL T N b l (w0 T N b)).1 j)) ∧ (∀ j, j < 96 → u.1 (x + 2) j = oI (pv (inF T N b) (lnL T N b l (w0 T N b)).2.1 j)) ∧ (∀ j, j < 96 → u.1 (x + 3) j = oI (pv (inF T N b) (fun _ => 0) j)) ∧ (∀ j, j < 96 → u.1 (x + 4) j = oI (pv (inF T N b) (lnL T N b l (w0 T N b)).2.2.1 j)) ∧ (∀ j, j < l → u.1 (x + 5) j = nI ((lnL T N b l (w0 T N b)).2.2.2 j))
theorem CWs.k {T : gT} {N : gN} {b x l : Nat} {u : gM} (h : CWs T N b x l u) : u.1 x 0 = nI b := h.1
theorem CWs.o {T : gT} {N : gN} {b x l : Nat} {u : gM} (h : CWs T N b x l u) : ∀ j, j < 96 → u.1 (x + 1) j = oI (pv (inF T N b) (lnL T N b l (w0 T N b)).1 j) := h.2.1
theorem CWs.p {T : gT} {N : gN} {b x l : Nat} {u : gM} (h : CWs T N b x l u) : ∀ j, j < 96 → u.1 (x + 2) j = oI (pv (inF T N b) (lnL T N b l (w0 T N b)).2.1 j) := h.2.2.1
theorem CWs.d {T : gT} {N : gN} {b x l : Nat} {u : gM} (h : CWs T N b x l u) : ∀ j, j < 96 → u.1 (x + 3) j = oI (pv (inF T N b) (fun _ => 0) j) := h.2.2.2.1
theorem CWs.l {T : gT} {N : gN} {b x l : Nat} {u : gM} (h : CWs T N b x l u) : ∀ j, j < 96 → u.1 (x + 4) j = oI (pv (inF T N b) (lnL T N b l (w0 T N b)).2.2.1 j) := h.2.2.2.2.1
theorem CWs.w {T : gT} {N : gN} {b x l : Nat} {u : gM} (h : CWs T N b x l u) : ∀ j, j < l → u.1 (x + 5) j = nI ((lnL T N b l (w0 T N b)).2.2.2 j) := h.2.2.2.2.2
theorem lnS_w {l j : Nat} {s : wT} (h : j ≠ l) : (lnS T N b l s).2.2.2 j = s.2.2.2 j := by
  by_cases hl : nowS N (T 9 l) = b
  · rw [lnS_y hl]; exact upN_i h
  · rw [lnS_n hl]
/-- what windUp does once SHARES are split -/
theorem q_wu13 {e : Nat} (hV : VT T) (hVN : VN T N) (hk : FLk x) (h0 : CW0 T N u0) (hb : b < 6) {Q : gM → Prop} (hdiv : ∀ u, off (sW x) u0 u → CWs T N b x (T 0 3) u → ∃ u', X3_divide x (nI e) u = some u' ∧ Q u') : ∀ (f l : Nat) (u : gM), l ≤ T 0 3 → T 0 3 - l < f → off (sW x) u0 u → CWs T N b x l u → ∃ u', X3_windUp_l13 f x (nI b) (nI e) (nI l) u = some u' ∧ Q u' := by
  have hnl := hV.nl
  intro f
  induction f with
  | zero => intro l u h1 h2; omega
  | succ f ih =>
    intro l u h1 h2 ho hs
    have hc := h0.mv hk ho
    have hl := hk.l
    unfold X3_windUp_l13 X3_windUp_b13 X3_windUp_b104
    by_cases h4 : l = T 0 3
    · rw [h4] at hs
      obtain ⟨u', e1, q1⟩ := hdiv u ho hs
      refine ⟨u', ?_, q1⟩
      rw [hc.t.nl, h4, if_pos (Int32.le_refl _), bnd e1]
    · have hll : l < T 0 3 := by omega
      have hz : ¬ (u.1 3 3) ≤ nI l := by rw [hc.t.nl, nI_leI (by omega) (by omega)]; omega
      have hlb := hc.t.lb l hll
      have hlp := hc.t.lp l hll
      simp only [Nat.reduceAdd] at hlb hlp
      have hb9 := hV.lb l hll
      have hp8 := hV.lp l hll
      have hnb := hV.nb
      have hn6 : nowS N (T 9 l) < 6 := by have := nowF_nb hVN hV 6 (T 9 l) hb9; unfold nowS; omega
      have e1 : X8_nowAt u 18 (u.1 16 l) = some (nI (nowS N (T 9 l))) := by rw [hlb]; exact hc.n _ (by omega)
      have hWV := lnL_V (b := b) hV hVN l
      have hd0 := lnL_d (T := T) (N := N) (b := b) (k := l) (n := l) (Nat.le_refl _)
      have hod := hVN.od l hll
      rw [if_neg hz, bnd (aC20 (by omega)), hc.o l hll, bnd (aC16 (by omega)), bnd e1]
      by_cases hab : nowS N (T 9 l) = b
      · have hS : lnL T N b (l + 1) (w0 T N b) = _ := lnS_y hab
        generalize hg : lnL T N b l (w0 T N b) = s at *
        have e2 : aI skC u 15 (nI l) = some (nI (T 8 l)) := by rw [aC15 (by omega), hlp]
        have bs : ∀ j, j < 96 → s.1 j + s.2.1 j + s.2.2.1 j ≤ 100000000 := fun j hj => hWV.le hV hVN hj
        obtain ⟨u1, e3, o1, x1, y1⟩ := q_so_l (N := N) (b := b) (r := x + 4) (p := T 8 l) (s0 := (s.2.2.1, s.1, s.2.2.2 l)) hV hk (Or.inr rfl) hp8 (fun j hj => by show s.2.2.1 j + s.1 j ≤ _; have := bs j hj; omega) (by show s.2.2.2 l ≤ _; omega) hc.t fz 0 u (Nat.zero_le _) (fz_lt (by have := hV.na; omega)) off_rf (by rw [Nat.zero_mul]; exact hg ▸ hs.o) (by rw [Nat.zero_mul]; exact hg ▸ hs.l)
        have o1' : ∀ c, c ≠ x + 1 → c ≠ x + 4 → u1.1 c = u.1 c ∧ u1.2 c = u.2 c := fun c c1 c2 => o1 c (by rintro (z | z); exact c1 z; exact c2 z)
        have oo1 : off (sW x) u0 u1 := off_tr ho (off_mono o1 (fun c hc => by rcases hc with z | z <;> exact Or.inl ⟨by omega, by omega⟩))
        have hc1 := h0.mv hk oo1
        have hlp1 := hc1.t.lp l hll
        simp only [Nat.reduceAdd] at hlp1
        have e4 : aI skC u1 15 (nI l) = some (nI (T 8 l)) := by rw [aC15 (by omega), hlp1]
        have hsum := ln1_sum (T := T) (N := N) (b := b) (l := l) (s := s)
        have hlf : (ln1 T N b l s).2.2 ≤ s.2.2.2 l := soL_left 96
        obtain ⟨u2, e5, o2, x2, y2⟩ := q_so_l (N := N) (b := b) (r := x + 2) (p := T 8 l) (s0 := (s.2.1, (ln1 T N b l s).2.1, (ln1 T N b l s).2.2)) hV hk (Or.inl rfl) hp8 (fun j hj => by show s.2.1 j + (ln1 T N b l s).2.1 j ≤ _; have := bs j hj; have := hsum j; omega) (by show (ln1 T N b l s).2.2 ≤ _; omega) hc1.t fz 0 u1 (Nat.zero_le _) (fz_lt (by have := hV.na; omega)) off_rf (by rw [Nat.zero_mul]; exact x1) (by rw [Nat.zero_mul]; intro j hj; rw [(o1' (x + 2) (by omega) (by omega)).1]; exact (hg ▸ hs.p) j hj)
        have o2' : ∀ c, c ≠ x + 1 → c ≠ x + 2 → u2.1 c = u1.1 c ∧ u2.2 c = u1.2 c := fun c c1 c2 => o2 c (by rintro (z | z); exact c1 z; exact c2 z)
        have oo2 : off (sW x) u0 u2 := off_tr oo1 (off_mono o2 (fun c hc => by rcases hc with z | z <;> exact Or.inl ⟨by omega, by omega⟩))
        have hCW : CWs T N b x (l + 1) (upI u2 (x + 5) l (nI (ln2 T N b l s).2.2)) := by
          refine ⟨?_, fun j hj => ?_, fun j hj => ?_, fun j hj => ?_, fun j hj => ?_, fun j hj => ?_⟩
          · rw [upI_k (by omega), (o2' x (by omega) (by omega)).1, (o1' x (by omega) (by omega)).1]; exact hs.k
          · rw [upI_k (by omega), hS]; exact x2 j hj
          · rw [upI_k (by omega), hS]; exact y2 j hj
          · rw [upI_k (by omega), (o2' (x + 3) (by omega) (by omega)).1, (o1' (x + 3) (by omega) (by omega)).1]; exact hs.d j hj
          · rw [upI_k (by omega), hS, (o2' (x + 4) (by omega) (by omega)).1]; exact y1 j hj
          · rw [hS]
            show _ = nI (upN _ _ _ j)
            by_cases z : j = l
            · subst z; rw [upI_at, upN_at]
            · rw [upI_j z, upN_i z, (o2' (x + 5) (by omega) (by omega)).1, (o1' (x + 5) (by omega) (by omega)).1]; exact (hg ▸ hs.w) j (by omega)
        obtain ⟨u', e6, q6⟩ := ih (l + 1) _ (by omega) (by omega) (off_upI (Or.inl ⟨by omega, by omega⟩) oo2) hCW
        refine ⟨u', ?_, q6⟩
        have e3' : X3_setOff x (x + 4) (nI (T 8 l)) (nI (N.1 2 l)) u = some (nI (ln1 T N b l s).2.2, u1) := by
          unfold X3_setOff
          rw [nI_lit, ← hd0]
          exact e3
        have e5' : X3_setOff x (x + 2) (nI (T 8 l)) (nI (ln1 T N b l s).2.2) u1 = some (nI (ln2 T N b l s).2.2, u2) := by
          unfold X3_setOff
          rw [nI_lit]
          exact e5
        rw [if_pos (by rw [hab]), if_pos hk.o, bnd e2, hk.f5, bnd e3', bnd e4, hk.f3, bnd e5', if_pos hk.o, hk.f6, bnd (sI_at hk.a5 (by omega) (show l < 10 by omega)), nI_s]
        exact e6
      · have hS : lnL T N b (l + 1) (w0 T N b) = lnL T N b l (w0 T N b) := lnS_n hab
        have hCW : CWs T N b x (l + 1) (upI u (x + 5) l (nI (N.1 2 l))) := by
          refine ⟨?_, fun j hj => ?_, fun j hj => ?_, fun j hj => ?_, fun j hj => ?_, fun j hj => ?_⟩
          · rw [upI_k (by omega)]; exact hs.k
          · rw [upI_k (by omega), hS]; exact hs.o j hj
          · rw [upI_k (by omega), hS]; exact hs.p j hj
          · rw [upI_k (by omega)]; exact hs.d j hj
          · rw [upI_k (by omega), hS]; exact hs.l j hj
          · rw [hS]
            by_cases z : j = l
            · subst z; rw [upI_at, hd0]
            · rw [upI_j z]; exact hs.w j (by omega)
        obtain ⟨u', e6, q6⟩ := ih (l + 1) _ (by omega) (by omega) (off_upI (Or.inl ⟨by omega, by omega⟩) ho) hCW
        refine ⟨u', ?_, q6⟩
        rw [if_neg (by rw [nI_eq (by omega) (by omega)]; exact hab), if_pos hk.o, hk.f6, bnd (sI_at hk.a5 (by omega) (show l < 10 by omega)), nI_s]
        exact e6
/-- the CLAIMS, the last one behind them -/
def P97 (T : gT) (N : gN) (b i : Nat) : Bool := decide (i = 96) || inF T N b i
theorem P97_i {i : Nat} (h : i < 96) : P97 T N b i = inF T N b i := by unfold P97; simp [show ¬ i = 96 by omega]
theorem P97_96 : P97 T N b 96 = true := by unfold P97; simp
theorem flt_cg {P Q : Nat → Bool} : ∀ {n : Nat}, (∀ i, i < n → P i = Q i) → flt P n = flt Q n
  | 0, _ => rfl
  | n + 1, h => by rw [flt_s, flt_s, flt_cg (n := n) (fun i hi => h i (by omega)), h n (by omega)]
theorem flt97 {i : Nat} (h : i ≤ 96) : flt (P97 T N b) i = flt (inF T N b) i := flt_cg (fun j hj => P97_i (by omega))
theorem flt97e : flt (P97 T N b) 97 = flt (inF T N b) 96 ++ [96] := by rw [flt_1 P97_96, flt97 (Nat.le_refl _)]
def clP (T : gT) (N : gN) (b j : Nat) : Nat := wP T N b ((flt (P97 T N b) 97).getD j 0)
def clN (T : gT) (N : gN) (b : Nat) : Nat := (flt (P97 T N b) 97).length
theorem clN_s : clN T N b = (flt (inF T N b) 96).length + 1 := by unfold clN; rw [flt97e, List.length_append]; rfl
theorem wP_le (hV : VT T) (hVN : VN T N) {i : Nat} (hi : i < 97) : wP T N b i ≤ 10000000000 := by
  have h1 := lnL_V (b := b) hV hVN (T 0 3)
  unfold wP
  split
  · have : sumN (wS T N b).2.1 96 ≤ 96 * 100000000 := sumN_max (fun j hj => by
      have h2 : (wS T N b).1 j + (wS T N b).2.1 j + (wS T N b).2.2.1 j ≤ 100000000 := h1.le hV hVN hj
      omega)
    omega
  · have h2 : (wS T N b).1 i + (wS T N b).2.1 i + (wS T N b).2.2.1 i ≤ 100000000 := h1.le hV hVN (by omega)
    omega
theorem wP_0 (hV : VT T) (hVN : VN T N) {i : Nat} (hi : i < 97) (h : ¬ P97 T N b i = true) : wP T N b i = 0 := by
  have h1 : i ≠ 96 := fun z => h (by rw [z]; exact P97_96)
  have h2 : ¬ inF T N b i = true := by rw [← P97_i (by omega)]; exact h
  unfold wP
  rw [if_neg h1]
  exact ((lnL_V (b := b) hV hVN (T 0 3)).z i h2).2.2
theorem clP_sum (hV : VT T) (hVN : VN T N) : sumN (clP T N b) (clN T N b) = sumN (wP T N b) 97 := (sumN_emb (flt_EMB 97) (fun i hi hq => wP_0 hV hVN hi (flt_no hi hq))).symm
theorem cl_div {e i : Nat} (hV : VT T) (hVN : VN T N) (hi : i < 97) (h : P97 T N b i = true) : (flt (P97 T N b) i).length < clN T N b ∧ divS (clP T N b) (clN T N b) e (flt (P97 T N b) i).length = wG T N b e i := by
  obtain ⟨h1, h2⟩ := flt_at hi h
  refine ⟨h1, ?_⟩
  have h3 := divS_emb (m := e) (p := wP T N b) (p' := clP T N b) (flt_EMB (P := P97 T N b) 97) (fun j _ => rfl) (fun i hi hq => wP_0 hV hVN hi (flt_no hi hq)) h1
  unfold wG
  simp only [h2] at h3
  exact h3
def CL1 (T : gT) (N : gN) (b i : Nat) (u : gM) : Prop := (u.1 146 0 = nI (flt (inF T N b) i).length) ∧ (u.2 146 1 = lN (sumN (wS T N b).2.2.1 i)) ∧ (∀ j, j < (flt (inF T N b) i).length → u.2 147 j = lN ((wS T N b).2.2.1 ((flt (inF T N b) i).getD j 0)))
theorem CL1.c {T : gT} {N : gN} {b i : Nat} {u : gM} (h : CL1 T N b i u) : u.1 146 0 = nI (flt (inF T N b) i).length := h.1
theorem CL1.s {T : gT} {N : gN} {b i : Nat} {u : gM} (h : CL1 T N b i u) : u.2 146 1 = lN (sumN (wS T N b).2.2.1 i) := h.2.1
theorem CL1.p {T : gT} {N : gN} {b i : Nat} {u : gM} (h : CL1 T N b i u) : ∀ j, j < (flt (inF T N b) i).length → u.2 147 j = lN ((wS T N b).2.2.1 ((flt (inF T N b) i).getD j 0)) := h.2.2
theorem q_add146 {n S w : Nat} (hc : u.1 146 0 = nI n) (hn : n < 97) (hs : u.2 146 1 = lN S) : X4_add 146 (lN w) u = some (upJ (upI (upJ u 147 n (lN w)) 146 0 (nI (n + 1))) 146 1 (lN (S + w))) := by
  unfold X4_add X4_add_b42
  have e1 : aL skC 147 = some (nI 97) := rfl
  have c1 : (upJ u 147 n (lN w)).1 146 0 = nI n := by rw [upJ_1, hc]
  have s1 : (upI (upJ u 147 n (lN w)) 146 0 (nI (n + 1))).2 146 1 = lN S := by rw [upI_2, upJ_k (by omega), hs]
  simp only [isO_C146, rf_C146_2, rf_C146_3, rf_C146_4, if_true, ↓reduceIte, e1, Option.bind_some]
  rw [hc, if_neg (show ¬ (nI 97 : Int32) ≤ nI n by rw [nI_leI (by omega) (by omega)]; omega), bnd (sC147 hn), c1, nI_s, s1, lN_add]
/-- so much is DIVIDED among the CLAIMS -/
def CL2 (T : gT) (N : gN) (b e x i : Nat) (u : gM) : Prop := (∀ j, j < clN T N b → u.2 148 j = lN (divS (clP T N b) (clN T N b) e j)) ∧ (u.1 x 0 = nI b) ∧ (∀ j, j < 96 → u.1 (x + 1) j = oI (pv (inF T N b) (wS T N b).1 j)) ∧ (∀ j, j < 96 → u.1 (x + 2) j = oI (pv (inF T N b) (wS T N b).2.1 j)) ∧ (∀ j, j < 96 → u.1 (x + 3) j = oI (pv (inF T N b) (fun j => if j < i then wG T N b e j else 0) j)) ∧ (∀ j, j < 96 → u.1 (x + 4) j = oI (pv (inF T N b) (fun j => if j < i then (wS T N b).2.2.1 j - wG T N b e j else (wS T N b).2.2.1 j) j)) ∧ (∀ j, j < T 0 3 → u.1 (x + 5) j = nI ((wS T N b).2.2.2 j))
theorem CL2.g {T : gT} {N : gN} {b e x i : Nat} {u : gM} (h : CL2 T N b e x i u) : ∀ j, j < clN T N b → u.2 148 j = lN (divS (clP T N b) (clN T N b) e j) := h.1
theorem CL2.k {T : gT} {N : gN} {b e x i : Nat} {u : gM} (h : CL2 T N b e x i u) : u.1 x 0 = nI b := h.2.1
theorem CL2.o {T : gT} {N : gN} {b e x i : Nat} {u : gM} (h : CL2 T N b e x i u) : ∀ j, j < 96 → u.1 (x + 1) j = oI (pv (inF T N b) (wS T N b).1 j) := h.2.2.1
theorem CL2.p {T : gT} {N : gN} {b e x i : Nat} {u : gM} (h : CL2 T N b e x i u) : ∀ j, j < 96 → u.1 (x + 2) j = oI (pv (inF T N b) (wS T N b).2.1 j) := h.2.2.2.1
theorem CL2.d {T : gT} {N : gN} {b e x i : Nat} {u : gM} (h : CL2 T N b e x i u) : ∀ j, j < 96 → u.1 (x + 3) j = oI (pv (inF T N b) (fun j => if j < i then wG T N b e j else 0) j) := h.2.2.2.2.1
theorem CL2.l {T : gT} {N : gN} {b e x i : Nat} {u : gM} (h : CL2 T N b e x i u) : ∀ j, j < 96 → u.1 (x + 4) j = oI (pv (inF T N b) (fun j => if j < i then (wS T N b).2.2.1 j - wG T N b e j else (wS T N b).2.2.1 j) j) := h.2.2.2.2.2.1
theorem CL2.w {T : gT} {N : gN} {b e x i : Nat} {u : gM} (h : CL2 T N b e x i u) : ∀ j, j < T 0 3 → u.1 (x + 5) j = nI ((wS T N b).2.2.2 j) := h.2.2.2.2.2.2
def CWf (T : gT) (N : gN) (b e x : Nat) (u : gM) : Prop := (u.1 x 0 = nI b) ∧ (u.2 x 1 = lN (wG T N b e 96)) ∧ (∀ j, j < 96 → u.1 (x + 1) j = oI (pv (inF T N b) (wO T N b e 3) j)) ∧ (∀ j, j < 96 → u.1 (x + 2) j = oI (pv (inF T N b) (wO T N b e 4) j)) ∧ (∀ j, j < 96 → u.1 (x + 3) j = oI (pv (inF T N b) (wO T N b e 5) j)) ∧ (∀ j, j < 96 → u.1 (x + 4) j = oI (pv (inF T N b) (wO T N b e 6) j)) ∧ (∀ j, j < T 0 3 → u.1 (x + 5) j = nI ((wS T N b).2.2.2 j))
theorem CWf.k {T : gT} {N : gN} {b e x : Nat} {u : gM} (h : CWf T N b e x u) : u.1 x 0 = nI b := h.1
theorem CWf.q {T : gT} {N : gN} {b e x : Nat} {u : gM} (h : CWf T N b e x u) : u.2 x 1 = lN (wG T N b e 96) := h.2.1
theorem CWf.o {T : gT} {N : gN} {b e x : Nat} {u : gM} (h : CWf T N b e x u) : ∀ j, j < 96 → u.1 (x + 1) j = oI (pv (inF T N b) (wO T N b e 3) j) := h.2.2.1
theorem CWf.p {T : gT} {N : gN} {b e x : Nat} {u : gM} (h : CWf T N b e x u) : ∀ j, j < 96 → u.1 (x + 2) j = oI (pv (inF T N b) (wO T N b e 4) j) := h.2.2.2.1
theorem CWf.d {T : gT} {N : gN} {b e x : Nat} {u : gM} (h : CWf T N b e x u) : ∀ j, j < 96 → u.1 (x + 3) j = oI (pv (inF T N b) (wO T N b e 5) j) := h.2.2.2.2.1
theorem CWf.l {T : gT} {N : gN} {b e x : Nat} {u : gM} (h : CWf T N b e x u) : ∀ j, j < 96 → u.1 (x + 4) j = oI (pv (inF T N b) (wO T N b e 6) j) := h.2.2.2.2.2.1
theorem CWf.w {T : gT} {N : gN} {b e x : Nat} {u : gM} (h : CWf T N b e x u) : ∀ j, j < T 0 3 → u.1 (x + 5) j = nI ((wS T N b).2.2.2 j) := h.2.2.2.2.2.2
theorem wS_le (hV : VT T) (hVN : VN T N) {i : Nat} (hi : i < 96) : (wS T N b).1 i + (wS T N b).2.1 i + (wS T N b).2.2.1 i ≤ 100000000 := (lnL_V (b := b) hV hVN (T 0 3)).le hV hVN hi
theorem wG_l {e i : Nat} (hi : i < 96) : wG T N b e i ≤ (wS T N b).2.2.1 i := by
  have h := wG_le (T := T) (N := N) (b := b) (e := e) (i := i) (by omega)
  unfold wP at h
  rw [if_neg (by omega)] at h
  exact h
theorem q_dv71 {e : Nat} (hV : VT T) (hVN : VN T N) (hk : FLk x) : ∀ (f i : Nat) (u : gM), i ≤ 96 → 96 - i < f → off (sW x) u0 u → CL2 T N b e x i u → ∃ u', X3_divide_l71 f x (nI (flt (inF T N b) i).length) (nI i) u = some u' ∧ off (sW x) u0 u' ∧ CWf T N b e x u' := by
  have hl := hk.l
  intro f
  induction f with
  | zero => intro i u h1 h2; omega
  | succ f ih =>
    intro i u h1 h2 ho hs
    have hlen := flt_len (P := inF T N b) i
    unfold X3_divide_l71 X3_divide_b71 X3_divide_b126
    by_cases h4 : i = 96
    · subst h4
      obtain ⟨g1, g2⟩ := cl_div (e := e) hV hVN (i := 96) (by omega) P97_96
      rw [flt97 (Nat.le_refl _)] at g1 g2
      refine ⟨upJ u x 1 (lN (wG T N b e 96)), ?_, off_upJ (Or.inl ⟨by omega, by omega⟩) ho, ?_⟩
      · rw [nI_lit, if_pos (Int32.le_refl _), bnd (aC148 (show (flt (inF T N b) 96).length < 97 by omega)), if_pos hk.o, hs.g _ g1, g2]
      · refine ⟨by rw [upJ_1]; exact hs.k, by rw [upJ_at], fun j hj => ?_, fun j hj => ?_, fun j hj => ?_, fun j hj => ?_, fun j hj => by rw [upJ_1]; exact hs.w j hj⟩
        · rw [upJ_1, hs.o j hj, pv_cg (g' := wO T N b e 3)]; rfl
        · rw [upJ_1, hs.p j hj, pv_cg (g' := wO T N b e 4)]; rfl
        · rw [upJ_1, hs.d j hj, pv_cg (g' := wO T N b e 5)]; exact if_pos hj
        · rw [upJ_1, hs.l j hj, pv_cg (g' := wO T N b e 6)]; exact if_pos hj
    · have hi : i < 96 := by omega
      have hz : ¬ (96 : Int32) ≤ nI i := by rw [nI_lit, nI_leI (by omega) (by omega)]; omega
      rw [if_neg hz, if_pos hk.o, hk.f5, bnd (aF_at hk.a4 hi), hs.l i hi]
      by_cases hf : inF T N b i = true
      · obtain ⟨g1, g2⟩ := cl_div (e := e) hV hVN (i := i) (by omega) (by rw [P97_i hi]; exact hf)
        rw [flt97 (by omega)] at g1 g2
        have hle := wS_le (b := b) hV hVN hi
        have hgl := wG_l (T := T) (N := N) (b := b) (e := e) hi
        have hw : ¬ oI (pv (inF T N b) (fun j => if j < i then (wS T N b).2.2.1 j - wG T N b e j else (wS T N b).2.2.1 j) i) = -1 := by
          rw [pv_1 hf, oI_some, if_neg (Nat.lt_irrefl _), nI_lit, nI_m1 (by omega)]
          exact id
        have r1 : (upI u (x + 3) i (nI (wG T N b e i))).1 (x + 4) i = nI ((wS T N b).2.2.1 i) := by
          rw [upI_k (by omega), hs.l i hi, pv_1 hf, oI_some, if_neg (Nat.lt_irrefl _)]
        have hC : CL2 T N b e x (i + 1) (upI (upI u (x + 3) i (nI (wG T N b e i))) (x + 4) i (nI ((wS T N b).2.2.1 i - wG T N b e i))) := by
          refine ⟨fun j hj => by rw [upI_2, upI_2]; exact hs.g j hj, by rw [upI_k (by omega), upI_k (by omega)]; exact hs.k, fun j hj => ?_, fun j hj => ?_, fun j hj => ?_, fun j hj => ?_, fun j hj => ?_⟩
          · rw [upI_k (by omega), upI_k (by omega)]; exact hs.o j hj
          · rw [upI_k (by omega), upI_k (by omega)]; exact hs.p j hj
          · rw [upI_k (by omega)]
            by_cases z : j = i
            · subst z; rw [upI_at, pv_1 hf, if_pos (by omega)]; rfl
            · rw [upI_j z, hs.d j hj]
              congr 1
              refine pv_cg ?_
              by_cases w : j < i
              · rw [if_pos w, if_pos (by omega)]
              · rw [if_neg w, if_neg (by omega)]
          · by_cases z : j = i
            · subst z; rw [upI_at, pv_1 hf, if_pos (by omega)]; rfl
            · rw [upI_j z, upI_k (by omega), hs.l j hj]
              congr 1
              refine pv_cg ?_
              by_cases w : j < i
              · rw [if_pos w, if_pos (by omega)]
              · rw [if_neg w, if_neg (by omega)]
          · rw [upI_k (by omega), upI_k (by omega)]; exact hs.w j hj
        obtain ⟨u', e1, o1, q1⟩ := ih (i + 1) _ (by omega) (by omega) (off_upI (Or.inl ⟨by omega, by omega⟩) (off_upI (Or.inl ⟨by omega, by omega⟩) ho)) hC
        refine ⟨u', ?_, o1, q1⟩
        rw [flt_1 hf, List.length_append] at e1
        rw [if_neg hw, bnd (aC148 (show (flt (inF T N b) i).length < 97 by omega)), hs.g _ g1, g2, lN_32, hk.f4, bnd (sI_at hk.a3 (by omega) hi), bnd (aF_at hk.a4 hi), bnd (aF_at hk.a3 hi), r1, upI_at, pk_sub hgl, bnd (sI_at hk.a4 (by omega) hi), nI_s, nI_s]
        exact e1
      · obtain ⟨u', e1, o1, q1⟩ := ih (i + 1) u (by omega) (by omega) ho (by
          refine ⟨hs.g, hs.k, hs.o, hs.p, fun j hj => ?_, fun j hj => ?_, hs.w⟩
          · rw [hs.d j hj]
            by_cases z : j = i
            · subst z; rw [pv_0 hf, pv_0 hf]
            · congr 1
              refine pv_cg ?_
              by_cases w : j < i
              · rw [if_pos w, if_pos (by omega)]
              · rw [if_neg w, if_neg (by omega)]
          · rw [hs.l j hj]
            by_cases z : j = i
            · subst z; rw [pv_0 hf, pv_0 hf]
            · congr 1
              refine pv_cg ?_
              by_cases w : j < i
              · rw [if_pos w, if_pos (by omega)]
              · rw [if_neg w, if_neg (by omega)])
        refine ⟨u', ?_, o1, q1⟩
        rw [flt_0 hf] at e1
        rw [pv_0 hf, if_pos (show oI none = -1 from rfl), nI_s]
        exact e1
theorem q_dv9 {e : Nat} (hV : VT T) (hVN : VN T N) (hk : FLk x) (he : e ≤ 100000000) : ∀ (f i : Nat) (u : gM), i ≤ 96 → 96 - i < f → off (sW x) u0 u → CWs T N b x (T 0 3) u → CL1 T N b i u → ∃ u', X3_divide_l9 f x (nI e) (nI i) u = some u' ∧ off (sW x) u0 u' ∧ CWf T N b e x u' := by
  have hl := hk.l
  have hWV := lnL_V (b := b) hV hVN (T 0 3)
  intro f
  induction f with
  | zero => intro i u h1 h2; omega
  | succ f ih =>
    intro i u h1 h2 ho hs hc
    have hlen := flt_len (P := inF T N b) i
    unfold X3_divide_l9 X3_divide_b9 X3_divide_b39
    by_cases h4 : i = 96
    · subst h4
      have e1 : X5_all u x 1 = some (lN (sumN (wS T N b).2.1 96)) := by
        have e0 := q_all_l (u := u) (r := x + 2) (g := pv (inF T N b) (wS T N b).2.1) hk.a2 hs.p (fun j y hj hy => by
          have h5 := wS_le (b := b) hV hVN hj
          unfold pv at hy
          split at hy
          · cases hy; omega
          · cases hy) fz 0 (Nat.zero_le _) (fz_lt (by omega))
        have e2 : sumN (fun j => (pv (inF T N b) (wS T N b).2.1 j).getD 0) 96 = sumN (wS T N b).2.1 96 := sumN_congr (fun j _ => by
          by_cases z : inF T N b j = true
          · rw [pv_1 z]; rfl
          · rw [pv_0 z]; exact ((hWV.z j z).2.1).symm)
        rw [e2] at e0
        unfold X5_all X5_row
        rw [if_pos hk.o, if_neg (by decide), if_pos (by decide), if_pos hk.o, hk.f3, Option.bind_some, nI_lit, lN_lit]
        exact e0
      have s2 : sumN (wS T N b).2.1 96 ≤ 96 * 100000000 := sumN_max (fun j hj => by have h5 := wS_le (b := b) hV hVN hj; omega)
      have e2 := q_add146 (w := sumN (wS T N b).2.1 96) hc.c (by omega) hc.s
      have hS : sumN (wS T N b).2.2.1 96 + sumN (wS T N b).2.1 96 = sumN (clP T N b) (clN T N b) := by
        rw [clP_sum hV hVN, show sumN (wP T N b) 97 = sumN (wP T N b) 96 + wP T N b 96 from rfl]
        have a1 : sumN (wP T N b) 96 = sumN (wS T N b).2.2.1 96 := sumN_congr (fun j hj => if_neg (by omega))
        have a2 : wP T N b 96 = sumN (wS T N b).2.1 96 := if_pos rfl
        rw [a1, a2]
      have hn97 : clN T N b ≤ 97 := by rw [clN_s]; omega
      obtain ⟨u2, e3, g3, o3⟩ := q_divide (u := upJ (upI (upJ u 147 (flt (inF T N b) 96).length (lN (sumN (wS T N b).2.1 96))) 146 0 (nI ((flt (inF T N b) 96).length + 1))) 146 1 (lN (sumN (wS T N b).2.2.1 96 + sumN (wS T N b).2.1 96))) (x0 := 146) (Or.inr rfl) (n := clN T N b) (much := e) (p := clP T N b) hn97 (by omega) (fun j hj => wP_le hV hVN ((flt_EMB 97).l j hj)) (by rw [upJ_1, upI_at, clN_s]) (by rw [upJ_at, hS]) (fun j hj => by
        rw [upJ_k (by omega), upI_2]
        unfold clP
        rw [flt97e]
        rw [clN_s] at hj
        rw [getD_app hj]
        by_cases z : j < (flt (inF T N b) 96).length
        · rw [if_pos z, upJ_j (by omega), hc.p j z]
          have := (flt_EMB (P := inF T N b) 96).l j z
          unfold wP
          rw [if_neg (Nat.ne_of_lt this)]
        · rw [if_neg z, show j = (flt (inF T N b) 96).length by omega, upJ_at]
          unfold wP
          rw [if_pos rfl])
      have o3' : ∀ c, (c < 146 ∨ 149 < c) → u2.1 c = u.1 c ∧ u2.2 c = u.2 c := fun c hc => by
        have a1 := o3 c (by rintro (z | z) <;> omega)
        exact ⟨by rw [a1.1, upJ_1, upI_k (by omega), upJ_1], by rw [a1.2, upJ_k (by omega), upI_2, upJ_k (by omega)]⟩
      have oo : off (sW x) u0 u2 := off_tr ho (fun c hc2 => o3' c (by
        have z1 : ¬ ((x ≤ c ∧ c ≤ x + 5) ∨ (146 ≤ c ∧ c ≤ 149)) := hc2
        omega))
      obtain ⟨u', e4, o4, q4⟩ := q_dv71 (e := e) hV hVN hk fz 0 u2 (Nat.zero_le _) (fz_lt (by omega)) oo (by
        refine ⟨g3, by rw [(o3' x (by omega)).1]; exact hs.k, fun j hj => by rw [(o3' (x + 1) (by omega)).1]; exact hs.o j hj, fun j hj => by rw [(o3' (x + 2) (by omega)).1]; exact hs.p j hj, fun j hj => ?_, fun j hj => ?_, fun j hj => by rw [(o3' (x + 5) (by omega)).1]; exact hs.w j hj⟩
        · rw [(o3' (x + 3) (by omega)).1, hs.d j hj]
          congr 1
        · rw [(o3' (x + 4) (by omega)).1, hs.l j hj]
          congr 1)
      refine ⟨u', ?_, o4, q4⟩
      rw [if_pos (show (96 : Int32) ≤ nI 96 from Int32.le_refl _), if_pos hk.o, bnd e1, bnd e2, nI_64 (by omega), bnd e3]
      exact e4
    · have hi : i < 96 := by omega
      have hz : ¬ (96 : Int32) ≤ nI i := by rw [nI_lit, nI_leI (by omega) (by omega)]; omega
      rw [if_neg hz, if_pos hk.o, hk.f5, bnd (aF_at hk.a4 hi), hs.l i hi]
      by_cases hf : inF T N b i = true
      · have hle := wS_le (b := b) hV hVN hi
        have hw : ¬ oI (pv (inF T N b) (lnL T N b (T 0 3) (w0 T N b)).2.2.1 i) = -1 := by
          have h5 : (wS T N b).2.2.1 i ≤ 100000000 := by omega
          rw [pv_1 hf, oI_some, nI_lit]
          exact (nI_m1 (show (wS T N b).2.2.1 i < 2 ^ 31 by omega)).mp
        have r1 : (oI (pv (inF T N b) (lnL T N b (T 0 3) (w0 T N b)).2.2.1 i)).toInt64 = lN ((wS T N b).2.2.1 i) := by
          rw [pv_1 hf, oI_some]
          exact nI_64 (show (wS T N b).2.2.1 i < 2 ^ 31 by omega)
        have e2 := q_add146 (w := (wS T N b).2.2.1 i) hc.c (by omega) hc.s
        obtain ⟨u', e4, o4, q4⟩ := ih (i + 1) (upJ (upI (upJ u 147 (flt (inF T N b) i).length (lN ((wS T N b).2.2.1 i))) 146 0 (nI ((flt (inF T N b) i).length + 1))) 146 1 (lN (sumN (wS T N b).2.2.1 i + (wS T N b).2.2.1 i))) (by omega) (by omega) (off_upJ (Or.inr ⟨by omega, by omega⟩) (off_upI (Or.inr ⟨by omega, by omega⟩) (off_upJ (Or.inr ⟨by omega, by omega⟩) ho))) (by
          have r : ∀ c, c ≠ 146 → (upJ (upI (upJ u 147 (flt (inF T N b) i).length (lN ((wS T N b).2.2.1 i))) 146 0 (nI ((flt (inF T N b) i).length + 1))) 146 1 (lN (sumN (wS T N b).2.2.1 i + (wS T N b).2.2.1 i))).1 c = u.1 c := fun c hc2 => by rw [upJ_1, upI_k hc2, upJ_1]
          exact ⟨by rw [r _ (by omega)]; exact hs.k, by rw [r _ (by omega)]; exact hs.o, by rw [r _ (by omega)]; exact hs.p, by rw [r _ (by omega)]; exact hs.d, by rw [r _ (by omega)]; exact hs.l, by rw [r _ (by omega)]; exact hs.w⟩) (by
          refine ⟨?_, ?_, fun j hj => ?_⟩
          · rw [upJ_1, upI_at, flt_1 hf, List.length_append]; rfl
          · rw [upJ_at, sumN_s]
          · rw [upJ_k (by omega), upI_2]
            rw [flt_1 hf] at hj ⊢
            rw [List.length_append] at hj
            rw [getD_app hj]
            by_cases z : j < (flt (inF T N b) i).length
            · rw [if_pos z, upJ_j (by omega)]; exact hc.p j z
            · have hj2 : j = (flt (inF T N b) i).length := by simp only [List.length_cons, List.length_nil] at hj; omega
              rw [if_neg z, hj2, upJ_at])
        refine ⟨u', ?_, o4, q4⟩
        rw [if_neg hw, bnd (aF_at hk.a4 hi), hs.l i hi, r1, bnd e2, nI_s]
        exact e4
      · obtain ⟨u', e4, o4, q4⟩ := ih (i + 1) u (by omega) (by omega) ho hs (by
          refine ⟨by rw [flt_0 hf]; exact hc.c, ?_, by rw [flt_0 hf]; exact hc.p⟩
          have h5 : (wS T N b).2.2.1 i = 0 := (hWV.z i hf).2.2
          rw [sumN_s, h5]
          exact hc.s)
        refine ⟨u', ?_, o4, q4⟩
        rw [pv_0 hf, if_pos (show oI none = -1 from rfl), nI_s]
        exact e4
/-- what the failing of a BANK brings, as the class works it out -/
theorem q_windUp {e : Nat} (hV : VT T) (hVN : VN T N) (hk : FLk x) (h0 : CW0 T N u) (hb : b < 6) (he : e ≤ 100000000) : ∃ u', X3_windUp x (nI b) (nI e) u = some u' ∧ off (sW x) u u' ∧ CWf T N b e x u' := by
  have hna := hV.na
  obtain ⟨u1, e1, o1, k1, q1, r1⟩ := q_fclear (u := u) (w := nI b) hk
  have o1' : off (sW x) u u1 := off_mono o1 (fun c hc => Or.inl ⟨hc.1, by omega⟩)
  obtain ⟨u2, e2, o2, s2, k2, q2⟩ := q_split2 (b := b) hV hVN hk h0 hb fz 0 u1 (Nat.zero_le _) (fz_lt (by omega)) o1' k1 (by
    rw [Nat.zero_mul]
    refine ⟨fun j hj => ?_, fun j hj => ?_, fun j hj => ?_, fun j hj => ?_⟩
    · rw [sv_z]; exact r1 (x + 1) j (by omega) (by omega) hj
    · rw [sv_z]; exact r1 (x + 2) j (by omega) (by omega) hj
    · rw [sv_z]; exact r1 (x + 3) j (by omega) (by omega) hj
    · rw [sv_z]; exact r1 (x + 4) j (by omega) (by omega) hj)
  obtain ⟨u3, e3, o3, q3⟩ := q_wu13 (e := e) (Q := fun u' => off (sW x) u u' ∧ CWf T N b e x u') hV hVN hk h0 hb (fun w ho hs => by
    have hc1 : CL1 T N b 0 (upJ (upI w 146 0 (nI 0)) 146 1 (lN 0)) := ⟨by rw [upJ_1, upI_at]; rfl, by rw [upJ_at]; rfl, fun j hj => absurd hj (Nat.not_lt_zero _)⟩
    have hl := hk.l
    obtain ⟨w', f1, p1, c1⟩ := q_dv9 (e := e) hV hVN hk he fz 0 (upJ (upI w 146 0 (nI 0)) 146 1 (lN 0)) (Nat.zero_le _) (fz_lt (by omega)) (off_upJ (Or.inr ⟨by omega, by omega⟩) (off_upI (Or.inr ⟨by omega, by omega⟩) ho)) (by
      have r : ∀ c, c ≠ 146 → (upJ (upI w 146 0 (nI 0)) 146 1 (lN 0)).1 c = w.1 c := fun c hc2 => by rw [upJ_1, upI_k hc2]
      exact ⟨by rw [r _ (by omega)]; exact hs.k, by rw [r _ (by omega)]; exact hs.o, by rw [r _ (by omega)]; exact hs.p, by rw [r _ (by omega)]; exact hs.d, by rw [r _ (by omega)]; exact hs.l, by rw [r _ (by omega)]; exact hs.w⟩) hc1
    refine ⟨w', ?_, p1, c1⟩
    unfold X3_divide X4_clear
    simp only [isO_C146, rf_C146_2, rf_C146_3, rf_C146_4, if_true, ↓reduceIte, Option.bind_some]
    exact f1) fz 0 u2 (Nat.zero_le _) (fz_lt (by have := hV.nl; omega)) o2 (by
    refine ⟨k2, fun j hj => ?_, fun j hj => ?_, fun j hj => ?_, fun j hj => ?_, fun j hj => absurd hj (Nat.not_lt_zero _)⟩
    · rw [s2.o j hj, sv_e hj]; rfl
    · rw [s2.p j hj, sv_e hj]; rfl
    · rw [s2.d j hj, sv_e hj]
    · rw [s2.l j hj, sv_e hj]; rfl)
  refine ⟨u3, ?_, o3, q3⟩
  unfold X3_windUp
  rw [if_pos hk.o, bnd e1]
  unfold X3_split
  rw [nI_lit, bnd e2]
  exact e3
end CW2
