/-! worst -/
section WO
variable {T : gT} {N : gN} {P : List gN} {S : gS} {b es : Nat} {u v u0 v0 v' : gM}
theorem RM.mv16 (h : RM T N P S v) (e : ∀ c, c ≤ 19 → c ≠ 16 → c ≠ 18 → v'.1 c = v.1 c ∧ v'.2 c = v.2 c) (hn : RNm (v'.1 16) T N) : RM T N P S v' := by
  refine ⟨h.t.mv (fun c _ h2 => e c (by omega) (by omega) (by omega)), ?_, hn, ?_, ?_, ?_, ?_, ?_, ?_, ?_, ?_, ?_⟩
  · have := h.k
    unfold RKm at *
    rw [(e 5 (by omega) (by omega) (by omega)).1]; exact this
  · rw [(e 0 (by omega) (by omega) (by omega)).1]; exact h.pc
  · rw [(e 17 (by omega) (by omega) (by omega)).1]; exact h.pr
  · rw [(e 0 (by omega) (by omega) (by omega)).1]; exact h.tl
  · rw [(e 19 (by omega) (by omega) (by omega)).1]; exact h.tp
  · rw [(e 0 (by omega) (by omega) (by omega)).1]; exact h.fa
  · rw [(e 0 (by omega) (by omega) (by omega)).1]; exact h.fp
  · rw [(e 0 (by omega) (by omega) (by omega)).1]; exact h.oa
  · rw [(e 0 (by omega) (by omega) (by omega)).1]; exact h.mh
  · rw [(e 0 (by omega) (by omega) (by omega)).1]; exact h.dt
def lostS (T : gT) (N : gN) (b : Nat) : Nat := fallS (wN T N b 0) 6
theorem lost_e : lostS T N b = sumN (fun i => (pv (inF T N b) (wO T N b 0 6) i).getD 0) 96 := rfl
theorem lost_le (hV : VT T) (hVN : VN T N) : lostS T N b ≤ 9600000000 := by
  rw [lost_e]
  have : sumN (fun i => (pv (inF T N b) (wO T N b 0 6) i).getD 0) 96 ≤ 96 * 100000000 := sumN_max (fun i hi => by
    by_cases h : inF T N b i = true
    · rw [pv_1 h]; exact wO_le hV hVN hi
    · rw [pv_0 h]; exact Nat.zero_le _)
  omega
/-- the worst among the first n BANKS -/
def wrF (T : gT) (N : gN) : Nat → Option (Nat × Nat)
  | 0 => none
  | n + 1 => if N.2 0 n = none ∧ N.1 3 n = 0 then (match wrF T N n with
    | none => some (n, lostS T N n)
    | some x => if x.2 < lostS T N n then some (n, lostS T N n) else some x) else wrF T N n
def wB : Option (Nat × Nat) → Int32
  | none => -nI 1
  | some x => nI x.1
def wMc : Option (Nat × Nat) → Int64
  | none => -lN 1
  | some x => lN x.2
def wMm : Option (Nat × Nat) → Int64
  | none => lN 0
  | some x => lN x.2
def wA (w : Nat) (o : Option (Nat × Nat)) : Int64 := if w = 0 then (wB o).toInt64 else wMc o
theorem wrF_le (hV : VT T) (hVN : VN T N) : ∀ (n : Nat) {x : Nat × Nat}, wrF T N n = some x → x.1 < n ∧ x.2 ≤ 9600000000
  | 0, x, h => by cases h
  | n + 1, x, h => by
    have hl := lost_le (b := n) hV hVN
    unfold wrF at h
    by_cases h1 : N.2 0 n = none ∧ N.1 3 n = 0
    · rw [if_pos h1] at h
      cases h2 : wrF T N n with
      | none =>
        rw [h2] at h
        cases h
        exact ⟨by omega, hl⟩
      | some y =>
        have h3 := wrF_le hV hVN n h2
        rw [h2] at h
        simp only at h
        split at h
        · cases h; exact ⟨by omega, hl⟩
        · cases h; exact ⟨by omega, h3.2⟩
    · rw [if_neg h1] at h
      have h3 := wrF_le hV hVN n h
      exact ⟨by omega, h3.2⟩
theorem q_wr {w : Nat} (hw : w < 2) (hV : VT T) (hVN : VN T N) (hT : RT 3 T u0) (hN : RN 18 T N u0) (hi : ∀ a k, a < T 0 2 → k < T 5 a → u0.1 137 (a * 4 + k) = nI (insS T N (N.1 0 0) a k)) : ∀ (f n : Nat) (u : gM), n ≤ T 0 1 → T 0 1 - n < f → off (sW 156) u0 u → ∃ u', X11_worst_l36 f (nI w) (wB (wrF T N n)) (wMc (wrF T N n)) (nI n) u = some (wA w (wrF T N (T 0 1)), u') ∧ off (sW 156) u0 u' := by
  have hnb := hV.nb
  intro f
  induction f with
  | zero => intro n u h1 h2; omega
  | succ f ih =>
    intro n u h1 h2 ho
    have oe : ∀ c, c < 137 → u.1 c = u0.1 c ∧ u.2 c = u0.2 c := fun c hc => ho c (by
      intro z
      have z1 : (156 ≤ c ∧ c ≤ 156 + 5) ∨ (146 ≤ c ∧ c ≤ 149) := z
      omega)
    have hT1 : RT 3 T u := hT.mv (fun c _ c2 => oe c (by omega))
    have hN1 : RN 18 T N u := hN.mv (fun c _ c2 => oe c (by omega))
    have hC : CW0 T N u := (CW0.mk0 hV hVN hT hN hi).mv FLk_156 ho
    unfold X11_worst_l36 X11_worst_b36 X11_worst_b97 X11_worst_b113
    by_cases h4 : n = T 0 1
    · refine ⟨u, ?_, ho⟩
      rw [hT1.nb, ← h4, if_pos (Int32.le_refl _)]
      unfold wA
      rcases (show w = 0 ∨ w = 1 by omega) with rfl | rfl
      · rw [if_pos z00, if_pos rfl]
      · rw [if_neg n10, if_neg (by omega)]
    · have hn : n < T 0 1 := by omega
      have hz : ¬ (u.1 3 1) ≤ nI n := by rw [hT1.nb, nI_leI (by omega) (by omega)]; omega
      have hop := q_isOpen hV hN1 hVN (show n < 6 by omega)
      rw [if_neg hz, bnd hop]
      by_cases g : N.2 0 n = none ∧ N.1 3 n = 0
      · obtain ⟨u1, e1, o1, q1⟩ := q_windUp (e := 0) hV hVN FLk_156 hC (show n < 6 by omega) (by omega)
        have e2 : X5_all u1 156 3 = some (lN (lostS T N n)) := by
          have e0 := q_all_l (u := u1) (r := 160) (g := pv (inF T N n) (wO T N n 0 6)) (by decide) q1.l (fun j y hj hy => by
            unfold pv at hy
            split at hy
            · cases hy; exact wO_le hV hVN hj
            · cases hy) fz 0 (Nat.zero_le _) (fz_lt (by omega))
          unfold X5_all X5_row
          rw [if_pos FLk_156.o, if_neg (by decide), if_neg (by decide), if_neg (by decide), if_pos FLk_156.o, FLk_156.f5, Option.bind_some, nI_lit, lN_lit]
          exact e0
        have hl := lost_le (b := n) hV hVN
        have e1' : X3_windUp 156 (nI n) 0 u = some u1 := e1
        rw [b2_t g, if_neg n10, bnd e1', bnd e2]
        cases hx : wrF T N n with
        | none =>
          have hs : wrF T N (n + 1) = some (n, lostS T N n) := by
            show (if N.2 0 n = none ∧ N.1 3 n = 0 then _ else _) = _
            rw [if_pos g, hx]
          obtain ⟨u', e3, o3⟩ := ih (n + 1) u1 (by omega) (by omega) (off_tr ho o1)
          refine ⟨u', ?_, o3⟩
          rw [hs] at e3
          rw [if_neg (show ¬ lg_cmp (lN (lostS T N n)) (wMc none) ≤ 0 from by
            rw [nI_lit, lg_le]
            show ¬ lN (lostS T N n) ≤ -lN 1
            intro z
            rw [Int64.le_iff_toInt_le, pk_lT (by omega), show (-lN 1).toInt = -1 by decide] at z
            omega), nI_s]
          exact e3
        | some x =>
          have hb := wrF_le hV hVN n hx
          by_cases hlt : x.2 < lostS T N n
          · have hs : wrF T N (n + 1) = some (n, lostS T N n) := by
              show (if N.2 0 n = none ∧ N.1 3 n = 0 then _ else _) = _
              rw [if_pos g, hx]
              exact if_pos hlt
            obtain ⟨u', e3, o3⟩ := ih (n + 1) u1 (by omega) (by omega) (off_tr ho o1)
            refine ⟨u', ?_, o3⟩
            rw [hs] at e3
            rw [if_neg (show ¬ lg_cmp (lN (lostS T N n)) (wMc (some x)) ≤ 0 from by
              rw [nI_lit, lg_le]
              show ¬ lN (lostS T N n) ≤ lN x.2
              rw [lN_leI (by omega) (by omega)]
              omega), nI_s]
            exact e3
          · have hs : wrF T N (n + 1) = some x := by
              show (if N.2 0 n = none ∧ N.1 3 n = 0 then _ else _) = _
              rw [if_pos g, hx]
              exact if_neg hlt
            obtain ⟨u', e3, o3⟩ := ih (n + 1) u1 (by omega) (by omega) (off_tr ho o1)
            refine ⟨u', ?_, o3⟩
            rw [hs] at e3
            rw [if_pos (show lg_cmp (lN (lostS T N n)) (wMc (some x)) ≤ 0 from by
              rw [nI_lit, lg_le]
              show lN (lostS T N n) ≤ lN x.2
              rw [lN_leI (by omega) (by omega)]
              omega), nI_s]
            exact e3
      · have hs : wrF T N (n + 1) = wrF T N n := if_neg g
        obtain ⟨u', e3, o3⟩ := ih (n + 1) u (by omega) (by omega) ho
        refine ⟨u', ?_, o3⟩
        rw [hs] at e3
        rw [b2_f g, if_pos z00, nI_s]
        exact e3
/-- what was laid aside comes back -/
theorem m_wr68 {k25 : Int32 → Int32 → Int64 → Int32 → gM → Option (Int64 × gM)} {x1 x2 x5 : Int32} {x3 x6 : Int64} {g : Nat → Int32} (hg : ∀ i, i < 439 → u0.1 18 i = g i) : ∀ (f k : Nat) (u : gM), k ≤ 439 → 439 - k < f → off (fun c => c = 16) u0 u → (∀ i, i < k → u.1 16 i = g i) → ∃ u', X12_worst_l68 k25 f x1 x2 x3 x5 x6 (nI k) u = (if x2 = -1 then k25 x1 x5 x6 (x5 + 1) u' else if 0 < lg_cmp x6 x3 then k25 x1 x5 x6 (x5 + 1) u' else k25 x1 x2 x3 (x5 + 1) u') ∧ off (fun c => c = 16) u0 u' ∧ ∀ i, i < 439 → u'.1 16 i = g i := by
  intro f
  induction f with
  | zero => intro k u h1 h2; omega
  | succ f ih =>
    intro k u h1 h2 ho hq
    unfold X12_worst_l68 X12_worst_b68 X12_worst_b111 X12_worst_b117
    by_cases h4 : k = 439
    · subst h4
      refine ⟨u, ?_, ho, hq⟩
      rw [if_pos (show (439 : Int32) ≤ nI 439 from Int32.le_refl _)]
    · have hz : ¬ (439 : Int32) ≤ nI k := by rw [nI_lit, nI_leI (by omega) (by omega)]; omega
      have e18 := (ho 18 (by intro z; have z1 : 18 = 16 := z; omega)).1
      have e1 : aI skM u 18 (nI k) = some (g k) := by rw [aM18 (by omega), e18, hg k (by omega)]
      obtain ⟨u', e2, o2, q2⟩ := ih (k + 1) (upI u 16 k (g k)) (by omega) (by omega) (off_upI (k := 16) rfl ho) (fun i hi => by
        by_cases z : i = k
        · subst z; rw [upI_at]
        · rw [upI_j z]; exact hq i (by omega))
      refine ⟨u', ?_, o2, q2⟩
      rw [if_neg hz, bnd e1, bnd (sM16 (show k < 439 by omega)), nI_s]
      exact e2
theorem m_wr {w : Nat} (hw : w < 2) (hV : VT T) (hVN : VN T N) (hM : MV T N none v0) (h18 : ∀ i, i < 439 → v0.1 18 i = v0.1 16 i) : ∀ (f n : Nat) (v : gM), n ≤ T 0 1 → T 0 1 - n < f → off sDm v0 v → (∀ i, i < 439 → v.1 16 i = v0.1 16 i) → ∃ v', X12_worst_l25 f (nI w) (wB (wrF T N n)) (wMm (wrF T N n)) (nI n) v = some (wA w (wrF T N (T 0 1)), v') ∧ off sDm v0 v' ∧ (∀ i, i < 439 → v'.1 16 i = v0.1 16 i) := by
  have hnb := hV.nb
  intro f
  induction f with
  | zero => intro n v h1 h2; omega
  | succ f ih =>
    intro n v h1 h2 ho hq
    have oe : ∀ c, c < 20 → c ≠ 16 → v.1 c = v0.1 c ∧ v.2 c = v0.2 c := fun c hc c2 => ho c (by
      intro z
      have z1 : c = 16 ∨ 20 ≤ c := z
      omega)
    have hM1 : MV T N none v := by
      refine ⟨RTm_D hM.t ho, RNm_cg hV hM.n hq, ?_, ?_⟩
      · rw [(oe 0 (by omega) (by omega)).1, (oe 5 (by omega) (by omega)).1]; exact hM.k
      · rw [(oe 0 (by omega) (by omega)).1]; exact hM.h
    have t1 := hM1.t.nb
    simp only [Nat.mul_zero, Nat.zero_add] at t1
    unfold X12_worst_l25 X12_worst_b25 X12_worst_b144 X12_worst_b117
    rw [bnd (show aI skM v 1 1 = some (nI (T 0 1)) by rw [nI_lit, aM1 (by omega), t1])]
    by_cases h4 : n = T 0 1
    · refine ⟨v, ?_, ho, hq⟩
      rw [← h4, if_pos (Int32.le_refl _)]
      unfold wA
      cases hx : wrF T N n with
      | none =>
        rw [if_pos (show wB none = -1 from rfl)]
        rcases (show w = 0 ∨ w = 1 by omega) with rfl | rfl
        · rfl
        · rfl
      | some x =>
        have hb := wrF_le hV hVN n hx
        rw [if_neg (show ¬ wB (some x) = -1 from (nI_m1 (show x.1 < 2 ^ 31 by omega)).mp)]
        rcases (show w = 0 ∨ w = 1 by omega) with rfl | rfl
        · rw [if_pos z00, if_pos rfl]
        · rw [if_neg n10, if_neg (by omega)]
          rfl
    · have hn : n < T 0 1 := by omega
      have hz : ¬ (nI (T 0 1) : Int32) ≤ nI n := by rw [nI_leI (by omega) (by omega)]; omega
      have hop := m_isOpen hV hM1.n hVN (show n < 6 by omega)
      rw [if_neg hz, bnd hop]
      by_cases g : N.2 0 n = none ∧ N.1 3 n = 0
      · obtain ⟨v1, e1, o1, r1⟩ := m_falls (es := 0) hV hVN hM1 hn g (by omega)
        have hVN2 := VN_fail (e := 0) hV hVN hn (by omega)
        have e2 : X12_sums v1 342 = some (lN (lostS T N n)) := m_sums (w := 3) (by omega) hVN2 r1 (by show some n ≠ none; simp)
        have hl := lost_le (b := n) hV hVN
        have o1' := off_tr ho o1
        have e18 : ∀ i, i < 439 → v1.1 18 i = v0.1 16 i := fun i hi => by
          rw [(o1' 18 (by intro z; have z1 : 18 = 16 ∨ 20 ≤ 18 := z; omega)).1]; exact h18 i hi
        obtain ⟨v2, e3, o3, q3⟩ := m_wr68 (k25 := X12_worst_l25 f) (x1 := nI w) (x2 := wB (wrF T N n)) (x5 := nI n) (x3 := wMm (wrF T N n)) (x6 := lN (lostS T N n)) e18 fz 0 v1 (Nat.zero_le _) (fz_lt (by omega)) off_rf (fun i hi => absurd hi (Nat.not_lt_zero _))
        have o3' : off sDm v0 v2 := off_tr o1' (off_mono o3 (fun c hc => Or.inl hc))
        obtain ⟨v', e4, o4, q4⟩ := ih (n + 1) v2 (by omega) (by omega) o3' q3
        refine ⟨v', ?_, o4, q4⟩
        have e1' : X12_falls (nI n) 0 v = some (nI 1, v1) := e1
        have e3' := e3
        rw [b2_t g, if_neg n10, bnd e1', bnd e2]
        refine e3'.trans ?_
        rw [nI_s]
        cases hx : wrF T N n with
        | none =>
          have hs : wrF T N (n + 1) = some (n, lostS T N n) := by
            show (if N.2 0 n = none ∧ N.1 3 n = 0 then _ else _) = _
            rw [if_pos g, hx]
          rw [hs] at e4
          rw [if_pos (show wB none = -1 from rfl)]
          exact e4
        | some x =>
          have hb := wrF_le hV hVN n hx
          rw [if_neg (show ¬ wB (some x) = -1 from (nI_m1 (show x.1 < 2 ^ 31 by omega)).mp)]
          by_cases hlt : x.2 < lostS T N n
          · have hs : wrF T N (n + 1) = some (n, lostS T N n) := by
              show (if N.2 0 n = none ∧ N.1 3 n = 0 then _ else _) = _
              rw [if_pos g, hx]
              exact if_pos hlt
            rw [hs] at e4
            rw [if_pos (show 0 < lg_cmp (lN (lostS T N n)) (wMm (some x)) from by
              rw [nI_lit, lg_gt]
              show lN x.2 < lN (lostS T N n)
              rw [lN_ltI (by omega) (by omega)]
              omega)]
            exact e4
          · have hs : wrF T N (n + 1) = some x := by
              show (if N.2 0 n = none ∧ N.1 3 n = 0 then _ else _) = _
              rw [if_pos g, hx]
              exact if_neg hlt
            rw [hs] at e4
            rw [if_neg (show ¬ 0 < lg_cmp (lN (lostS T N n)) (wMm (some x)) from by
              rw [nI_lit, lg_gt]
              show ¬ lN x.2 < lN (lostS T N n)
              rw [lN_ltI (by omega) (by omega)]
              omega)]
            exact e4
      · have hs : wrF T N (n + 1) = wrF T N n := if_neg g
        obtain ⟨v', e3, o3, q3⟩ := ih (n + 1) v (by omega) (by omega) ho hq
        refine ⟨v', ?_, o3, q3⟩
        rw [hs] at e3
        rw [b2_f g, if_pos z00, nI_s]
        exact e3
theorem o_worst (x : Int32) (h : RR T N P S u v) : SR (X11_worst x u) (X12_worst x v) := by
  have hV := h.d.t; have hVN := h.d.n; have hmo := hVN.mo
  rcases i_cases x 2 (by omega) with ⟨w, hw, rfl⟩ | hl
  · have em := h.c.n.mo
    obtain ⟨u1, e1, o1, i1, -⟩ := q_insure (m := N.1 0 0) hV hVN (by omega) h.c.t h.c.n
    have o1' : off sX u u1 := off_mono o1 (fun c hc => hc.1)
    obtain ⟨u2, e2, o2⟩ := q_wr (w := w) hw hV hVN (RT_sX h.c.t o1') (RN_sX h.c.n o1') i1 fz 0 u1 (Nat.zero_le _) (fz_lt (by have := hV.nb; omega)) off_rf
    have o2' : off sX u u2 := off_tr o1' (off_mono o2 (fun c hc => by
      have z1 : (156 ≤ c ∧ c ≤ 156 + 5) ∨ (146 ≤ c ∧ c ≤ 149) := hc
      exact sXk (by omega)))
    obtain ⟨v1, f1, p1, q1⟩ := m_aside (v := v)
    have hM1 : MV T N none v1 := (h.m.mv (fun c _ c2 => p1 c (by intro z; have z1 : c = 18 := z; omega))).mvw hV
    have p16 := (p1 16 (by intro z; have z1 : 16 = 18 := z; omega)).1
    obtain ⟨v2, f2, p2, q2⟩ := m_wr (w := w) hw hV hVN hM1 (fun i hi => by rw [q1 i hi, p16]) fz 0 v1 (Nat.zero_le _) (fz_lt (by have := hV.nb; omega)) off_rf (fun i hi => rfl)
    refine ⟨wA w (wrF T N (T 0 1)), u2, v2, T, N, P, S, ?_, ?_, h.d, h.c.mv (fun c hc => o2' c (by intro z; have z1 : 137 ≤ c := z; omega)), h.m.mv16 (fun c c1 c2 c3 => ?_) (RNm_cg hV h.m.n (fun i hi => by rw [q2 i hi, p16]))⟩
    · unfold X11_worst X11_worst_b13
      rw [em, bnd e1]
      rcases (show w = 0 ∨ w = 1 by omega) with rfl | rfl
      · rw [if_pos z00]; exact e2
      · rw [if_neg n10, if_pos (show (nI 1 : Int32) = 1 from rfl)]; exact e2
    · unfold X12_worst
      have k1 : X12_isIn v (nI w).toInt64 0 1 = some (nI 1) := isIn_k (u := v) (n := 1) (by omega) (by omega)
      rw [bnd k1, if_neg n10, bnd f1]
      exact f2
    · have a1 := p2 c (by intro z; have z1 : c = 16 ∨ 20 ≤ c := z; omega)
      have a2 := p1 c (by intro z; have z1 : c = 18 := z; omega)
      exact ⟨a1.1.trans a2.1, a1.2.trans a2.2⟩
  · have w0 := i_out hl (show 0 < 2 by omega) (by omega)
    have w1 := i_out hl (show 1 < 2 by omega) (by omega)
    refine SQ.r (SQ.p (r := -lN 1) ?_ ?_) h
    · unfold X11_worst
      rw [if_neg (show ¬ x = 0 from fun z => by rw [← w0]; exact z), if_neg (show ¬ x = 1 from fun z => by rw [← w1]; exact z)]
      rfl
    · unfold X12_worst
      have k0 : X12_isIn v x.toInt64 0 1 = some (nI 0) := isIn_o (u := v) (n := 1) hl (by omega)
      rw [bnd k0]
      rfl
end WO
