/-! move: the model's -/
section MVB
variable {T : gT} {N : gN} {P : List gN} {S : gS} {u v : gM}
def mvA (x3 : Int32) (x : Nat × Nat × Nat) : Int64 := if x3 = 0 then (nI x.1).toInt64 else if x3 = 1 then (nI x.2.1).toInt64 else if x3 = 2 then lN x.2.2 else -1
def mvR (x2 x3 : Int32) (oi : Option Nat) (L : List (Nat × Nat × Nat)) : Int64 := match oi with
  | some i => (match L[i]? with
    | some x => mvA x3 x
    | none => -1)
  | none => if x2 = -1 then lN L.length else -1
def MM (n : Nat) (s : mvT) (u : gM) : Prop := (∀ b, b < n → u.2 28 b = lN (s.2.1 b)) ∧ (∀ o, o < n → u.2 29 o = lN (s.2.2 o))
theorem MM.e {n : Nat} {s : mvT} {u : gM} (h : MM n s u) : ∀ b, b < n → u.2 28 b = lN (s.2.1 b) := h.1
theorem MM.r {n : Nat} {s : mvT} {u : gM} (h : MM n s u) : ∀ o, o < n → u.2 29 o = lN (s.2.2 o) := h.2
theorem mvR_app {x2 x3 : Int32} {i : Nat} {L r : List (Nat × Nat × Nat)} (h : i < L.length) : mvR x2 x3 (some i) (L ++ r) = mvR x2 x3 (some i) L := by
  unfold mvR
  simp only
  rw [List.getElem?_append_left h]
theorem m_mv37 {k23 : Int32 → Int32 → Int32 → Int32 → gM → Option (Int64 × gM)} {x2 x3 : Int32} {oi : Option Nat} {u0 : gM} {b : Nat} (hV : VT T) (hT : RTm 0 T u0) (hb : b < T 0 1) (hs : ∀ i, oi = some i → x2 = nI i ∧ i < 12) (hn : oi = none → ∀ n, n < 12 → ¬ nI n = x2) : ∀ (f o : Nat) (s : mvT) (u : gM), o ≤ T 0 1 → T 0 1 - o < f → off sY u0 u → mvV (T 0 1) s → MM (T 0 1) s u → (∀ i, oi = some i → s.1.length ≤ i) →
    (∃ i u', oi = some i ∧ i < (mvI b o (T 0 1 - o) s).1.length ∧ off sY u0 u' ∧ X12_move_l37 k23 f x2 x3 (nI s.1.length) (nI b) (nI o) u = some (mvR x2 x3 oi (mvI b o (T 0 1 - o) s).1, u')) ∨
    ((∀ i, oi = some i → (mvI b o (T 0 1 - o) s).1.length ≤ i) ∧ ∃ u', X12_move_l37 k23 f x2 x3 (nI s.1.length) (nI b) (nI o) u = k23 x2 x3 (nI (mvI b o (T 0 1 - o) s).1.length) (nI (b + 1)) u' ∧ off sY u0 u' ∧ MM (T 0 1) (mvI b o (T 0 1 - o) s) u') := by
  have hnb := hV.nb
  intro f
  induction f with
  | zero => intro o s u h1 h2; omega
  | succ f ih =>
    intro o s u h1 h2 hoff hv hc hi
    have t0 : u.1 1 1 = nI (T 0 1) := by
      have := (hT.mv (u' := u) (fun c _ h2 => hoff c (by intro z; have z1 : 20 ≤ c := z; omega))).nb
      simpa only [Nat.mul_zero, Nat.zero_add] using this
    have a1 : aI skM u 1 1 = some (nI (T 0 1)) := by rw [nI_lit, aM1 (by omega), t0]
    unfold X12_move_l37 X12_move_b37 X12_move_b145
    by_cases h4 : o = T 0 1
    · rw [show T 0 1 - o = 0 by omega]
      refine Or.inr ⟨hi, u, ?_, hoff, hc⟩
      rw [bnd a1, h4, if_pos (Int32.le_refl _), nI_s]
      rfl
    · have ho : o < T 0 1 := by omega
      have z1 : ¬ nI (T 0 1) ≤ nI o := by rw [nI_leI (by omega) (by omega)]; omega
      have c1 := hc.e b hb
      have c2 := hc.r o ho
      have b1 := hv.e b
      have b2 := hv.r o
      have hv2 := mvS_V hb ho hv
      rw [show T 0 1 - o = (T 0 1 - (o + 1)) + 1 by omega]
      rw [bnd a1, if_neg z1, bnd (aM28 (show b < 6 by omega)), bnd (aM29 (show o < 6 by omega)), c1, c2, mnJ_N (by omega) (by omega)]
      show (∃ i u', oi = some i ∧ i < (mvI b (o + 1) (T 0 1 - (o + 1)) (mvS b o s)).1.length ∧ _ ∧ _ = some (mvR x2 x3 oi (mvI b (o + 1) (T 0 1 - (o + 1)) (mvS b o s)).1, u')) ∨ ((∀ i, oi = some i → (mvI b (o + 1) (T 0 1 - (o + 1)) (mvS b o s)).1.length ≤ i) ∧ ∃ u', _ = k23 x2 x3 (nI (mvI b (o + 1) (T 0 1 - (o + 1)) (mvS b o s)).1.length) (nI (b + 1)) u' ∧ _ ∧ MM (T 0 1) (mvI b (o + 1) (T 0 1 - (o + 1)) (mvS b o s)) u')
      by_cases hm : min (s.2.1 b) (s.2.2 o) = 0
      · rw [mvS_0 hm, hm, if_pos (by decide), nI_s]
        exact ih (o + 1) s u (by omega) (by omega) hoff hv hc hi
      · have hS := mvS_1 hm
        have hl2 := hv2.l
        rw [hS] at hl2
        simp only [List.length_append, List.length_cons, List.length_nil] at hl2
        have z3 : ¬ lg_cmp (lN (min (s.2.1 b) (s.2.2 o))) 0 = 0 := by
          rw [nI_lit, lg_eq, lN_lit, lN_eqI (by omega) (by omega)]; exact hm
        rw [if_neg z3]
        by_cases hq : nI s.1.length = x2
        · rw [if_pos hq]
          have h5 : oi = some s.1.length := by
            cases hoi : oi with
            | none => exact absurd hq (hn hoi _ (by omega))
            | some i =>
              obtain ⟨g1, g2⟩ := hs i hoi
              rw [g1, nI_eq (by omega) (by omega)] at hq
              rw [hq]
          obtain ⟨r, hr⟩ := mvI_pre b (T 0 1 - (o + 1)) (o + 1) (mvS b o s)
          refine Or.inl ⟨s.1.length, u, h5, ?_, hoff, ?_⟩
          · rw [hr, hS]
            simp only [List.length_append, List.length_cons, List.length_nil]
            omega
          · have e1 : mvR x2 x3 oi (mvI b (o + 1) (T 0 1 - (o + 1)) (mvS b o s)).1 = mvA x3 (b, o, min (s.2.1 b) (s.2.2 o)) := by
              rw [hr, h5, mvR_app (by rw [hS]; simp only [List.length_append, List.length_cons, List.length_nil]; omega), hS]
              unfold mvR
              simp only
              rw [List.getElem?_append_right (Nat.le_refl _), Nat.sub_self]
              rfl
            rw [e1]
            unfold mvA X12_move_b117
            by_cases w0 : x3 = 0
            · rw [if_pos w0, if_pos w0]
            · rw [if_neg w0, if_neg w0]
              by_cases w1 : x3 = 1
              · rw [if_pos w1, if_pos w1]
              · rw [if_neg w1, if_neg w1]
                by_cases w2 : x3 = 2
                · rw [if_pos w2, if_pos w2]
                · rw [if_neg w2, if_neg w2]
        · rw [if_neg hq, bnd (aM28 (show b < 6 by omega)), c1, lN_sub (Nat.min_le_left _ _), bnd (sM28 (show b < 6 by omega)), bnd (aM29 (show o < 6 by omega)), show (upJ u 28 b (lN (s.2.1 b - min (s.2.1 b) (s.2.2 o)))).2 29 o = lN (s.2.2 o) by rw [upJ_k (by omega), c2], lN_sub (Nat.min_le_right _ _), bnd (sM29 (show o < 6 by omega)), nI_s, nI_s]
          have hC : MM (T 0 1) (mvS b o s) (upJ (upJ u 28 b (lN (s.2.1 b - min (s.2.1 b) (s.2.2 o)))) 29 o (lN (s.2.2 o - min (s.2.1 b) (s.2.2 o)))) := by
            rw [hS]
            refine ⟨fun c hc' => ?_, fun c hc' => ?_⟩
            · show _ = lN (upN s.2.1 b _ c)
              rw [upJ_k (by omega)]
              by_cases z : c = b
              · subst z; rw [upJ_at, upN_at]
              · rw [upJ_j z, upN_i z]; exact hc.e c hc'
            · show _ = lN (upN s.2.2 o _ c)
              by_cases z : c = o
              · subst z; rw [upJ_at, upN_at]
              · rw [upJ_j z, upN_i z, upJ_k (by omega)]; exact hc.r c hc'
          have hl3 : (mvS b o s).1.length = s.1.length + 1 := by rw [hS]; simp only [List.length_append, List.length_cons, List.length_nil]
          have e := ih (o + 1) (mvS b o s) _ (by omega) (by omega) (off_upJ (sYk (by omega)) (off_upJ (sYk (by omega)) hoff)) hv2 hC (fun i hoi => by
            rw [hl3]
            obtain ⟨g1, g2⟩ := hs i hoi
            have g3 := hi i hoi
            have g4 : s.1.length ≠ i := fun z => hq (by rw [g1, z])
            omega)
          rw [hl3] at e
          exact e
theorem m_mv23 {x2 x3 : Int32} {oi : Option Nat} {u0 : gM} (hV : VT T) (hT : RTm 0 T u0) (hs : ∀ i, oi = some i → x2 = nI i ∧ i < 12) (hn : oi = none → ∀ n, n < 12 → ¬ nI n = x2) : ∀ (f b : Nat) (s : mvT) (u : gM), b ≤ T 0 1 → T 0 1 - b < f → off sY u0 u → mvV (T 0 1) s → MM (T 0 1) s u → (∀ i, oi = some i → s.1.length ≤ i) →
    ∃ u', off sY u0 u' ∧ X12_move_l23 f x2 x3 (nI s.1.length) (nI b) u = some (mvR x2 x3 oi (mvO (T 0 1) b (T 0 1 - b) s).1, u') := by
  have hnb := hV.nb
  intro f
  induction f with
  | zero => intro b s u h1 h2; omega
  | succ f ih =>
    intro b s u h1 h2 hoff hv hc hi
    have t0 : u.1 1 1 = nI (T 0 1) := by
      have := (hT.mv (u' := u) (fun c _ h2 => hoff c (by intro z; have z1 : 20 ≤ c := z; omega))).nb
      simpa only [Nat.mul_zero, Nat.zero_add] using this
    have a1 : aI skM u 1 1 = some (nI (T 0 1)) := by rw [nI_lit, aM1 (by omega), t0]
    have hl := hv.l
    unfold X12_move_l23 X12_move_b23 X12_move_b171
    by_cases h4 : b = T 0 1
    · rw [show T 0 1 - b = 0 by omega]
      refine ⟨u, hoff, ?_⟩
      rw [bnd a1, h4, if_pos (Int32.le_refl _)]
      show _ = some (mvR x2 x3 oi s.1, u)
      unfold mvR
      cases hoi : oi with
      | none =>
        simp only
        by_cases hx : x2 = -1
        · rw [if_pos hx, if_pos hx, nI_64 (by omega)]
        · rw [if_neg hx, if_neg hx]
      | some i =>
        obtain ⟨g1, g2⟩ := hs i hoi
        have g3 := hi i hoi
        simp only
        rw [List.getElem?_eq_none g3, if_neg (show ¬ x2 = -1 by rw [g1, nI_lit, nI_m1 (by omega)]; exact id)]
    · have hb : b < T 0 1 := by omega
      have z1 : ¬ nI (T 0 1) ≤ nI b := by rw [nI_leI (by omega) (by omega)]; omega
      rw [bnd a1, if_neg z1]
      rw [show T 0 1 - b = (T 0 1 - (b + 1)) + 1 by omega]
      show ∃ u', _ ∧ _ = some (mvR x2 x3 oi (mvO (T 0 1) (b + 1) (T 0 1 - (b + 1)) (mvI b 0 (T 0 1) s)).1, u')
      have hv1 := mvI_V hb (T 0 1) 0 s (by omega) hv
      have e := m_mv37 (k23 := X12_move_l23 f) (x3 := x3) hV hT hb hs hn fz 0 s u (Nat.zero_le _) (fz_lt (by omega)) hoff hv hc hi
      rw [Nat.sub_zero] at e
      rcases e with ⟨i, u', q1, q2, q3, q4⟩ | ⟨q1, u', q2, q3, q4⟩
      · refine ⟨u', q3, ?_⟩
        obtain ⟨r, hr⟩ := mvO_pre (T 0 1) (T 0 1 - (b + 1)) (b + 1) (mvI b 0 (T 0 1) s)
        rw [hr, q1, mvR_app q2, ← q1]
        exact q4
      · obtain ⟨u2, e1, e2⟩ := ih (b + 1) _ u' (by omega) (by omega) q3 hv1 q4 q1
        exact ⟨u2, e1, q2.trans e2⟩
theorem mv_V0 {p : Nat} (hV : VT T) (hVN : VN T N) : mvV (T 0 1) ([], exS T N p, rmS T N p) := by
  have hnb := hV.nb
  have hli := hV.li
  refine ⟨?_, fun b => exS_le hV hVN, fun b => rmS_le hV⟩
  have h1 : sumN (fun i => pz (exS T N p) i + pz (rmS T N p) i) (T 0 1) ≤ T 0 1 * 1 := sumN_max (fun i _ => by
    unfold pz
    by_cases h2 : exS T N p i = 0
    · rw [if_pos h2]; split <;> omega
    · have h3 : rmS T N p i = 0 := by
        unfold exS at h2
        unfold rmS
        split <;> omega
      rw [if_pos h3]; split <;> omega)
  rw [sumN_add] at h1
  show 0 + sumN (pz (exS T N p)) (T 0 1) + sumN (pz (rmS T N p)) (T 0 1) ≤ 6
  omega
theorem o_move (p x w : Int32) (h : RR T N P S u v) : SQ (X11_move p x w u) (X12_move p x w v) u v := by
  have hV := h.d.t; have hVN := h.d.n; have hnp := hV.np; have hnb := hV.nb
  unfold X11_move X12_move X11_move_b59
  rcases i_cases p (T 0 0) (by omega) with ⟨p, hp, rfl⟩ | hl
  · have v0 := mv_V0 (p := p) hV hVN
    obtain ⟨u1, g1, g2, g3⟩ := q_weigh hV hVN h.c.t h.c.n hp
    obtain ⟨v1, d1, d2, d3⟩ := m_lays hV hVN (h.m.mvw hV) hp
    have hc0 : CM (T 0 1) ([], exS T N p, rmS T N p) (upI u1 150 0 0) := by
      refine ⟨by rw [upI_at]; rfl, fun b hb => by rw [upI_2]; exact (g3 b hb).1, fun b hb => by rw [upI_2]; exact (g3 b hb).2, fun k y hk => ?_⟩
      simp at hk
    obtain ⟨u2, g4, g5, g6⟩ := q_find7 hV h.c.t fz 0 _ _ (Nat.zero_le _) (fz_lt (by omega)) (off_upI (k := 150) (j := 0) (x := 0) (sXk (by omega)) g2) v0 hc0
    rw [Nat.sub_zero] at g6
    have hfin : mvV (T 0 1) (mvO (T 0 1) 0 (T 0 1) ([], exS T N p, rmS T N p)) := by
      have : ∀ (k b : Nat) (s : mvT), b + k ≤ T 0 1 → mvV (T 0 1) s → mvV (T 0 1) (mvO (T 0 1) b k s) := by
        intro k
        induction k with
        | zero => intro b s _ h; exact h
        | succ k ihk => intro b s hb h; exact ihk (b + 1) _ (by omega) (mvI_V (by omega) _ 0 s (by omega) h)
      exact this _ _ _ (by omega) v0
    have hf := hfin.l
    have e1 : X6_find u1 = some u2 := g4
    have key : ∀ oi : Option Nat, (∀ i, oi = some i → x = nI i ∧ i < 12) → (oi = none → x < nI 0 ∨ nI 12 ≤ x) → SQ ((X10_isPerson u 3 (nI p)).bind fun w5 => (if w5 = 0 then some ((-1), u)
  else ((X6_weigh (nI p) u).bind fun w20 => ((X6_find w20).bind fun w27 => (if x = (-1) then some ((w27.1 150 0).toInt64, w27)
    else (if x < 0 then (some ((-1), w27))
      else (if x < (w27.1 150 0) then (if w = 0 then ((aI skC w27 153 x).bind fun v100 => some (v100.toInt64, w27))
          else (if w = 1 then ((aI skC w27 154 x).bind fun v111 => some (v111.toInt64, w27))
          else (if w = 2 then ((aJ skC w27 155 x).bind fun v122 => some (v122, w27))
          else some ((-1), w27))))
        else (some ((-1), w27))))))))) ((X12_isPerson v (nI p)).bind fun w2 => (if w2 = 0 then some ((-1), v)
  else ((X12_laysMoves (nI p) v).bind fun w14 => (X12_move_l23 fz x w 0 0 w14)))) u v := by
      intro oi hs hn
      have hn' : oi = none → ∀ n, n < 12 → ¬ nI n = x := fun z n hn' e => by
        have := i_out (hn z) (show n < 12 by omega) (by omega)
        rw [← e] at this
        simp at this
      obtain ⟨v2, d4, d5⟩ := m_mv23 (x2 := x) (x3 := w) (oi := oi) hV (h.m.mvw hV).t hs hn' fz 0 ([], exS T N p, rmS T N p) v1 (Nat.zero_le _) (fz_lt (by omega)) d2 v0 ⟨fun b hb => (d3 b hb).1, fun b hb => (d3 b hb).2⟩ (fun i _ => Nat.zero_le _)
      rw [Nat.sub_zero] at d5
      refine ⟨mvR x w oi (mvO (T 0 1) 0 (T 0 1) ([], exS T N p, rmS T N p)).1, u2, v2, ?_, ?_, g5, d4⟩
      · rw [bnd (q_isPerson hV h.c.t hp), if_neg n10, bnd g1, bnd e1, g6.n]
        cases hoi : oi with
        | none =>
          unfold mvR
          simp only
          by_cases hx : x = -1
          · rw [if_pos hx, if_pos hx, nI_64 (by omega)]
          · rw [if_neg hx, if_neg hx]
            by_cases hx2 : x < 0
            · rw [if_pos hx2]
            · rw [if_neg hx2]
              rcases hn hoi with z | z
              · exact absurd z hx2
              · rw [if_neg]
                intro z2
                have z3 := Int32.lt_of_le_of_lt z z2
                rw [nI_ltI (by omega) (by omega)] at z3
                omega
        | some i =>
          obtain ⟨rfl, hi⟩ := hs i hoi
          rw [if_neg (show ¬ nI i = -1 by rw [nI_lit, nI_m1 (by omega)]; exact id), if_neg (show ¬ nI i < 0 from i_nlt i (by omega))]
          unfold mvR
          simp only
          cases hg : (mvO (T 0 1) 0 (T 0 1) ([], exS T N p, rmS T N p)).1[i]? with
          | none =>
            rw [List.getElem?_eq_none_iff] at hg
            rw [if_neg (by rw [nI_ltI (by omega) (by omega)]; omega)]
          | some y =>
            have hg2 := (List.getElem?_eq_some_iff.mp hg).1
            obtain ⟨w1, w2, w3⟩ := g6.l i y hg
            rw [if_pos (by rw [nI_ltI (by omega) (by omega)]; omega)]
            simp only
            unfold mvA
            by_cases q0 : w = 0
            · rw [if_pos q0, if_pos q0, bnd (aC153 hi), w1]
            · rw [if_neg q0, if_neg q0]
              by_cases q1 : w = 1
              · rw [if_pos q1, if_pos q1, bnd (aC154 hi), w2]
              · rw [if_neg q1, if_neg q1]
                by_cases q2 : w = 2
                · rw [if_pos q2, if_pos q2, bnd (aC155 hi), w3]
                · rw [if_neg q2, if_neg q2]
      · rw [bnd (m_isPerson hV h.m.t hp), if_neg n10, bnd d1]
        exact d5
    rcases i_cases x 12 (by omega) with ⟨i, hi, hx⟩ | hx
    · exact key (some i) (fun j hj => by cases hj; exact ⟨hx, hi⟩) (fun z => by cases z)
    · exact key none (fun j hj => by cases hj) (fun _ => hx)
  · rw [q_isPersonF h.c.t hl, m_isPersonF hV h.m.t hl]
    exact SQ.p rfl rfl
end MVB
