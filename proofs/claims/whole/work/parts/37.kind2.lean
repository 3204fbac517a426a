/-! asKind, bestKind -/
section KE
variable {T : gT} {N : gN} {P : List gN} {S : gS} {u v : gM}
def plK (k : Nat) : Prop := k = 0 ∨ k = 3 ∨ k = 4
theorem q_plain {k : Nat} (hk : k < 5) : X11_isPlainKind u (nI k) = some (if k = 0 ∨ k = 3 ∨ k = 4 then nI 1 else nI 0) ∧ X12_isPlain v (nI k) = some (if k = 0 ∨ k = 3 ∨ k = 4 then nI 1 else nI 0) := by
  unfold X11_isPlainKind X12_isPlain X11_isPlainKind_b14 X11_isPlainKind_b19 X12_isPlain_b14 X12_isPlain_b19
  rcases (show k = 0 ∨ k = 1 ∨ k = 2 ∨ k = 3 ∨ k = 4 by omega) with rfl | rfl | rfl | rfl | rfl <;> exact ⟨rfl, rfl⟩
theorem q_plainF {x : Int32} (hx : x < nI 0 ∨ nI 5 ≤ x) : X11_isPlainKind u x = some (nI 0) ∧ X12_isPlain v x = some (nI 0) := by
  unfold X11_isPlainKind X12_isPlain X11_isPlainKind_b14 X11_isPlainKind_b19 X12_isPlain_b14 X12_isPlain_b19
  have w0 := i_out hx (show 0 < 5 by omega) (by omega)
  have w3 := i_out hx (show 3 < 5 by omega) (by omega)
  have w4 := i_out hx (show 4 < 5 by omega) (by omega)
  simp only [nI_lit, w0, w3, w4, ↓reduceIte]
  exact ⟨rfl, rfl⟩
theorem sumN_mono2 {g : Nat → Nat} {n B : Nat} (h : ∀ i, i < n → g i ≤ B) : sumN g n ≤ n * B := sumN_max h
theorem iallS_le {mh : Option Nat} (hV : VT T) : iallS T N mh ≤ 150000000000 := by
  have h := sumN_max (p := fun p => iofS T N mh p (N.1 0 0)) (B := 15000000000) (n := T 0 0) (fun p _ => iofS_le hV)
  have hnp := hV.np
  have h2 : T 0 0 * 15000000000 ≤ 10 * 15000000000 := Nat.mul_le_mul_right _ hnp
  unfold iallS
  omega
theorem bnd {α β : Type} {o : Option α} {a : α} (h : o = some a) (f : α → Option β) : o.bind f = f a := by rw [h]; rfl
theorem r2' {v' : gM} (h : RM T N P S v) (o : off (fun c => c = 20) v v') : RM T N P S v' := h.mv (fun c hc _ => o c (by intro z; have z1 : c = 20 := z; omega))
theorem o_asKind (a x : Int32) (h : RR T N P S u v) : SR (X11_asKind a x u) (X12_asKind a x v) := by
  have hV := h.d.t; have hVN := h.d.n; have hna := hV.na
  have k1 := h.c.t.kd; have k2 := h.m.k
  unfold RKm at k2
  simp only [Nat.reduceAdd] at k1
  simp only [Nat.mul_zero, Nat.zero_add] at k2
  unfold X11_asKind X12_asKind X11_asKind_b46 X12_asKind_b37
  have bad : ∀ {x y : Option (Int64 × gM)}, x = some (-9223372036854775808, u) → y = some (-9223372036854775808, v) → SR x y := fun e1 e2 => ⟨_, u, v, T, N, P, S, e1, e2, h⟩
  rcases i_cases a (T 0 2) (by omega) with ⟨a, ha, rfl⟩ | hl
  · have g1 := k1 a ha
    have g2 := k2 a ha
    have hk := hV.kd a ha
    obtain ⟨p1, p2⟩ := q_plain (u := u) (v := v) (k := T 1 a) (by omega)
    have A7 : aI skC u 7 (nI a) = some (nI (T 1 a)) := by rw [aC7 (by omega), g1]
    have B5 : aI skM v 5 (nI a) = some (nI (T 1 a)) := by rw [aM5 (by omega), g2]
    rw [bnd (q_isAccount hV h.c.t ha), if_neg n10, bnd A7, bnd p1, bnd (m_isAccount hV h.m.t ha), if_neg n10, bnd B5, bnd p2]
    by_cases hp : T 1 a = 0 ∨ T 1 a = 3 ∨ T 1 a = 4
    · rw [if_pos hp, if_neg n10, if_neg n10]
      rcases i_cases x 5 (by omega) with ⟨k, hk5, rfl⟩ | hx
      · obtain ⟨p3, p4⟩ := q_plain (u := u) (v := v) (k := k) hk5
        rw [bnd p3, bnd p4]
        by_cases hp2 : k = 0 ∨ k = 3 ∨ k = 4
        · rw [if_pos hp2, if_neg n10, if_neg n10, bnd A7, bnd B5]
          by_cases he : k = T 1 a
          · rw [if_pos (by rw [he]), if_pos (by rw [he])]
            exact bad rfl rfl
          · rw [if_neg (by rw [nI_eq (by omega) (by omega)]; exact he), if_neg (by rw [nI_eq (by omega) (by omega)]; exact fun z => he z.symm)]
            obtain ⟨u1, e1, o1⟩ := q_asK (k := k) hV hVN h.c.t h.c.n ha (by omega)
            have hT1 := RT_sX h.c.t o1
            have hN1 := RN_sX h.c.n o1
            have g3 := hT1.kd a ha
            simp only [Nat.reduceAdd] at g3
            obtain ⟨u2, e2, o2⟩ := q_asK (k := T 1 a) hV hVN hT1 hN1 ha hk
            rw [TK_id] at e2
            obtain ⟨v1, f1, r1⟩ := m_asK (k := k) hV hVN h.m ha (by omega)
            obtain ⟨v2, f2, r2⟩ := m_insuredAll hV hVN (r1.mvw hV) (fun _ => hn0)
            refine ⟨lN (iallS (TK T a k) N none) - lN (iallS T N none), u2, v2, T, N, P, S, ?_, ?_, h.d, h.c.mv (fun c hc => off_tr o1 o2 c (by intro z; have z1 : 137 ≤ c := z; omega)), r2' r1 r2⟩
            · rw [bnd e1, bnd (show aI skC u1 7 (nI a) = some (nI (T 1 a)) by rw [aC7 (by omega), g3]), bnd e2]
            · rw [bnd f1, bnd f2]
        · rw [if_neg hp2]
          exact bad rfl rfl
      · obtain ⟨p3, p4⟩ := q_plainF (u := u) (v := v) hx
        rw [p3, p4]
        exact bad rfl rfl
    · rw [if_neg hp]
      exact bad rfl rfl
  · rw [q_isAccountF h.c.t hl, m_isAccountF hV h.m.t hl]
    exact bad rfl rfl
theorem nI_s (n : Nat) : nI n + 1 = nI (n + 1) := by rw [nI_lit, nI_add]
/-- the best KIND of the first n, and what would be INSURED -/
def bkS (T : gT) (N : gN) (a : Nat) : Nat → Nat × Nat
  | 0 => (T 1 a, iallS T N none)
  | n + 1 => if (n = 0 ∨ n = 3 ∨ n = 4) ∧ (bkS T N a n).2 < iallS (TK T a n) N none then (n, iallS (TK T a n) N none) else bkS T N a n
theorem bkS_s {a n : Nat} : bkS T N a (n + 1) = if (n = 0 ∨ n = 3 ∨ n = 4) ∧ (bkS T N a n).2 < iallS (TK T a n) N none then (n, iallS (TK T a n) N none) else bkS T N a n := rfl
theorem bkS_le {a : Nat} (hV : VT T) : ∀ n, n ≤ 5 → (bkS T N a n).2 ≤ 150000000000
  | 0, _ => iallS_le hV
  | n + 1, h => by
    rw [bkS_s]
    split
    · exact iallS_le (TK_V hV (by omega))
    · exact bkS_le hV n (by omega)
theorem q_bk_l {a : Nat} {u0 : gM} (hV : VT T) (hVN : VN T N) (hT : RT 3 T u0) (hN : RN 18 T N u0) (ha : a < T 0 2) : ∀ (f n : Nat) (u : gM), n ≤ 5 → 5 - n < f → off sX u0 u → ∃ u', X11_bestKind_l48 f (nI a) (nI (bkS T N a n).1) (lN (bkS T N a n).2) (nI n) u = some (nI (bkS T N a 5).1, u') ∧ off sX u0 u' := by
  intro f
  induction f with
  | zero => intro n u h1 h2; omega
  | succ f ih =>
    intro n u h1 h2 ho
    unfold X11_bestKind_l48 X11_bestKind_b48 X11_bestKind_b84
    by_cases h4 : n = 5
    · subst h4
      exact ⟨u, by rw [nI_lit, if_pos (by decide)], ho⟩
    · have h5 : ¬ nI 4 < nI n := by rw [nI_ltI (by omega) (by omega)]; omega
      obtain ⟨p1, _⟩ := q_plain (u := u) (v := u) (k := n) (by omega)
      rw [nI_lit, if_neg h5, p1, Option.bind_some]
      by_cases hp : n = 0 ∨ n = 3 ∨ n = 4
      · rw [if_pos hp, if_neg n10]
        obtain ⟨u1, e1, o1⟩ := q_asK (k := n) hV hVN (RT_sX hT ho) (RN_sX hN ho) ha (by omega)
        rw [e1, Option.bind_some]
        have b1 := bkS_le (N := N) (a := a) hV n h1
        have b2 := iallS_le (N := N) (mh := none) (TK_V (a := a) (k := n) hV (by omega))
        obtain ⟨u2, e2, o2⟩ := ih (n + 1) u1 (by omega) (by omega) (off_tr ho o1)
        rw [bkS_s] at e2
        refine ⟨u2, ?_, o2⟩
        by_cases hl : (bkS T N a n).2 < iallS (TK T a n) N none
        · rw [if_pos ⟨hp, hl⟩] at e2
          rw [if_neg (by rw [nI_lit, lg_le, lN_leI (by omega) (by omega)]; omega)]
          rw [nI_s]; exact e2
        · rw [if_neg (fun z => hl z.2)] at e2
          rw [if_pos (by rw [nI_lit, lg_le, lN_leI (by omega) (by omega)]; omega)]
          rw [nI_s]; exact e2
      · rw [if_neg hp, if_pos z00]
        obtain ⟨u2, e2, o2⟩ := ih (n + 1) u (by omega) (by omega) ho
        rw [bkS_s, if_neg (fun z => hp z.1)] at e2
        exact ⟨u2, by rw [nI_s]; exact e2, o2⟩
theorem m_bk_l {a : Nat} (hV : VT T) (hVN : VN T N) (ha : a < T 0 2) : ∀ (f n : Nat) (v : gM), n ≤ 5 → 5 - n < f → RM T N P S v → ∃ v', X12_bestKind_l37 f (nI a) (nI (bkS T N a n).1) (lN (bkS T N a n).2) (nI n) v = some (nI (bkS T N a 5).1, v') ∧ RM T N P S v' := by
  intro f
  induction f with
  | zero => intro n u h1 h2; omega
  | succ f ih =>
    intro n v h1 h2 ho
    unfold X12_bestKind_l37 X12_bestKind_b37 X12_bestKind_b79
    by_cases h4 : n = 5
    · subst h4
      exact ⟨v, by rw [nI_lit, if_pos (by decide)], ho⟩
    · have h5 : ¬ nI 5 ≤ nI n := by rw [nI_leI (by omega) (by omega)]; omega
      obtain ⟨_, p1⟩ := q_plain (u := v) (v := v) (k := n) (by omega)
      rw [nI_lit, if_neg h5, p1, Option.bind_some]
      by_cases hp : n = 0 ∨ n = 3 ∨ n = 4
      · rw [if_pos hp, if_neg n10]
        obtain ⟨v1, e1, o1⟩ := m_asK (k := n) hV hVN ho ha (by omega)
        rw [e1, Option.bind_some]
        have b1 := bkS_le (N := N) (a := a) hV n h1
        have b2 := iallS_le (N := N) (mh := none) (TK_V (a := a) (k := n) hV (by omega))
        obtain ⟨v2, e2, o2⟩ := ih (n + 1) v1 (by omega) (by omega) o1
        rw [bkS_s] at e2
        refine ⟨v2, ?_, o2⟩
        by_cases hl : (bkS T N a n).2 < iallS (TK T a n) N none
        · rw [if_pos ⟨hp, hl⟩] at e2
          rw [if_pos (by rw [nI_lit, lg_gt, lN_ltI (by omega) (by omega)]; omega)]
          rw [nI_s]; exact e2
        · rw [if_neg (fun z => hl z.2)] at e2
          rw [if_neg (by rw [nI_lit, lg_gt, lN_ltI (by omega) (by omega)]; omega)]
          rw [nI_s]; exact e2
      · rw [if_neg hp, if_pos z00]
        obtain ⟨v2, e2, o2⟩ := ih (n + 1) v (by omega) (by omega) ho
        rw [bkS_s, if_neg (fun z => hp z.1)] at e2
        exact ⟨v2, by rw [nI_s]; exact e2, o2⟩
theorem o_bestKind (a : Int32) (h : RR T N P S u v) : SR (X11_bestKind a u) (X12_bestKind a v) := by
  have hV := h.d.t; have hVN := h.d.n; have hna := hV.na
  have k1 := h.c.t.kd; have k2 := h.m.k
  unfold RKm at k2
  simp only [Nat.reduceAdd] at k1
  simp only [Nat.mul_zero, Nat.zero_add] at k2
  unfold X11_bestKind X12_bestKind X11_bestKind_b26 X12_bestKind_b20
  have bad : ∀ {x y : Option (Int32 × gM)}, x = some (-1, u) → y = some (-1, v) → SR x y := fun e1 e2 => ⟨_, u, v, T, N, P, S, e1, e2, h⟩
  rcases i_cases a (T 0 2) (by omega) with ⟨a, ha, rfl⟩ | hl
  · have g1 := k1 a ha
    have g2 := k2 a ha
    have hk := hV.kd a ha
    obtain ⟨p1, p2⟩ := q_plain (u := u) (v := v) (k := T 1 a) (by omega)
    have A7 : aI skC u 7 (nI a) = some (nI (T 1 a)) := by rw [aC7 (by omega), g1]
    have B5 : aI skM v 5 (nI a) = some (nI (T 1 a)) := by rw [aM5 (by omega), g2]
    rw [bnd (q_isAccount hV h.c.t ha), if_neg n10, bnd A7, bnd p1, bnd (m_isAccount hV h.m.t ha), if_neg n10, bnd B5, bnd p2]
    by_cases hp : T 1 a = 0 ∨ T 1 a = 3 ∨ T 1 a = 4
    · rw [if_pos hp, if_neg n10, if_neg n10, bnd A7, bnd B5]
      obtain ⟨u1, e1, o1⟩ := q_asK (k := T 1 a) hV hVN h.c.t h.c.n ha hk
      rw [TK_id] at e1
      obtain ⟨v1, f1, r1⟩ := m_insuredAll hV hVN (h.m.mvw hV) (fun _ => hn0)
      obtain ⟨u2, e2, o2⟩ := q_bk_l hV hVN h.c.t h.c.n ha fz 0 u1 (by omega) (fz_lt (by omega)) o1
      obtain ⟨v2, f2, r2⟩ := m_bk_l hV hVN ha fz 0 v1 (by omega) (fz_lt (by omega)) (r2' h.m r1)
      refine ⟨nI (bkS T N a 5).1, u2, v2, T, N, P, S, ?_, ?_, h.d, h.c.mv (fun c hc => o2 c (by intro z; have z1 : 137 ≤ c := z; omega)), r2⟩
      · rw [e1, Option.bind_some]
        exact e2
      · rw [f1, Option.bind_some]
        exact f2
    · rw [if_neg hp]
      exact bad rfl rfl
  · rw [q_isAccountF h.c.t hl, m_isAccountF hV h.m.t hl]
    exact bad rfl rfl
end KE
