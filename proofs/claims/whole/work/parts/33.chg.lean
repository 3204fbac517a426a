/-! WHEN ACCOUNTS COME TO COUNT ELSEWHERE -/
section CH
variable {T : gT} {N : gN} {P : List gN} {S : gS} {u v : gM}
def okO (N : gN) (o : Nat → Nat) : Prop := ∀ b, b < 6 → (N.2 0 b = none) ∨ (∃ c, N.2 0 b = some c ∧ o b < o c ∧ o c ≤ 5 ∧ c < 6)
theorem cntF_up {o : Nat → Nat} (ho : okO N o) {a m : Nat} : ∀ (n b : Nat), b < 6 → o b ≤ o (cntF T N a m n b)
  | 0, b, hb => Nat.le_refl _
  | n + 1, b, hb => by
    unfold cntF
    cases he : N.2 0 b with
    | none => exact Nat.le_refl _
    | some c =>
      simp only
      rcases ho b hb with h1 | ⟨c', h1, h2, h3, h4⟩
      · rw [he] at h1; cases h1
      · rw [he] at h1; cases h1
        split
        · exact Nat.le_trans (Nat.le_of_lt h2) (cntF_up ho n c h4)
        · exact Nat.le_refl _
theorem cntF_stay {a m m' : Nat} (hm : m ≤ m') : ∀ (n b : Nat), (N.2 0 (cntF T N a m n b) = none ∨ m' < endS T N a (cntF T N a m n b)) → cntF T N a m' n b = cntF T N a m n b
  | 0, b, _ => rfl
  | n + 1, b, h => by
    unfold cntF at h ⊢
    cases he : N.2 0 b with
    | none => rfl
    | some c =>
      rw [he] at h
      simp only at h ⊢
      by_cases h1 : endS T N a b ≤ m
      · rw [if_pos h1] at h ⊢
        rw [if_pos (Nat.le_trans h1 hm)]
        exact cntF_stay hm n c h
      · rw [if_neg h1] at h ⊢
        rw [if_neg]
        rcases h with h | h
        · rw [he] at h; cases h
        · omega
theorem cntF_fix {o : Nat → Nat} (ho : okO N o) {a m : Nat} : ∀ (n b : Nat), b < 6 → (N.2 0 b = none ∨ 5 - o b < n) → N.2 0 (cntF T N a m n b) = none ∨ m < endS T N a (cntF T N a m n b)
  | 0, b, hb, h => by
    rcases h with h | h
    · exact Or.inl h
    · omega
  | n + 1, b, hb, h => by
    unfold cntF
    cases he : N.2 0 b with
    | none => exact Or.inl he
    | some c =>
      simp only
      rcases ho b hb with h1 | ⟨c', h1, h2, h3, h4⟩
      · rw [he] at h1; cases h1
      · rw [he] at h1; cases h1
        by_cases h5 : endS T N a b ≤ m
        · rw [if_pos h5]
          refine cntF_fix ho n c h4 ?_
          rcases h with h | h
          · rw [he] at h; cases h
          · rcases ho c h4 with h5 | ⟨_, _, h6, h7, _⟩
            · exact Or.inl h5
            · exact Or.inr (by omega)
        · rw [if_neg h5]
          exact Or.inr (by omega)
theorem cntF_go {o : Nat → Nat} (ho : okO N o) {a m m' : Nat} (hm : m ≤ m') : ∀ (n b c : Nat), b < 6 → (N.2 0 b = none ∨ 5 - o b < n) → N.2 0 (cntF T N a m n b) = some c → endS T N a (cntF T N a m n b) ≤ m' → o (cntF T N a m n b) < o (cntF T N a m' n b)
  | 0, b, c, hb, h, hc, _ => by
    rcases h with h | h
    · rw [cntF, h] at hc; cases hc
    · omega
  | n + 1, b, c, hb, h, hc, hy => by
    unfold cntF at hc hy ⊢
    cases he : N.2 0 b with
    | none => rw [he] at hc; simp only at hc; rw [he] at hc; cases hc
    | some d =>
      rw [he] at hc hy
      simp only at hc hy ⊢
      rcases ho b hb with h1 | ⟨c', h1, h2, h3, h4⟩
      · rw [he] at h1; cases h1
      · rw [he] at h1; cases h1
        by_cases h5 : endS T N a b ≤ m
        · rw [if_pos h5] at hc hy ⊢
          rw [if_pos (Nat.le_trans h5 hm)]
          refine cntF_go ho hm n d c h4 ?_ hc hy
          rcases h with h | h
          · rw [he] at h; cases h
          · rcases ho d h4 with h5 | ⟨_, _, h6, h7, _⟩
            · exact Or.inl h5
            · exact Or.inr (by omega)
        · rw [if_neg h5] at hc hy ⊢
          rw [if_pos hy]
          exact Nat.lt_of_lt_of_le h2 (cntF_up ho n d h4)
theorem lvz_lt (hV : VT T) (hVN : VN T N) {a m y : Nat} (ha : a < T 0 2) (h : lvS T N a m = some y) : m < y ∧ (∀ m', m ≤ m' → m' < y → cntS T N a m' = cntS T N a m) ∧ cntS T N a y ≠ cntS T N a m := by
  obtain ⟨o, ho⟩ := or_le hV hVN
  have hb := hm_lt hV ha
  unfold lvS at h
  cases hc : N.2 0 (cntS T N a m) with
  | none => rw [hc] at h; cases h
  | some c =>
    rw [hc] at h
    have hy : endS T N a (cntS T N a m) = y := Option.some.inj h
    have h1 := cntF_fix (T := T) (a := a) (m := m) ho 6 (T 2 a) hb (Or.inr (by omega))
    have h2 : m < y := by
      rcases h1 with h1 | h1
      · unfold cntS at hc; rw [hc] at h1; cases h1
      · rw [← hy]; exact h1
    refine ⟨h2, fun m' h3 h4 => cntF_stay h3 6 (T 2 a) (Or.inr (by rw [← hy] at h4; exact h4)), ?_⟩
    have h5 := cntF_go (T := T) (a := a) (m := m) (m' := y) ho (Nat.le_of_lt h2) 6 (T 2 a) c hb (Or.inr (by omega)) hc (by rw [← hy]; exact Nat.le_refl _)
    intro z
    unfold cntS at z
    rw [z] at h5
    exact Nat.lt_irrefl _ h5
theorem lvz_no {a m : Nat} (h : lvS T N a m = none) : ∀ m', m ≤ m' → cntS T N a m' = cntS T N a m := by
  intro m' h1
  unfold lvS at h
  cases hc : N.2 0 (cntS T N a m) with
  | none => exact cntF_stay h1 6 (T 2 a) (Or.inl hc)
  | some c => rw [hc] at h; cases h
theorem nxF_none {m : Nat} : ∀ {n : Nat}, nxF T N m n = none → ∀ a, a < n → lvS T N a m = none
  | 0, _, a, ha => by omega
  | n + 1, h, a, ha => by
    rw [nxF_s] at h
    cases h1 : nxF T N m n with
    | none =>
      rw [h1] at h
      by_cases h2 : a = n
      · subst h2; exact h
      · exact nxF_none h1 a (by omega)
    | some x =>
      rw [h1] at h
      cases h3 : lvS T N n m with
      | none => rw [h3] at h; cases h
      | some z => rw [h3] at h; cases h
theorem nxF_some {m : Nat} : ∀ {n y : Nat}, nxF T N m n = some y → (∃ a, a < n ∧ lvS T N a m = some y) ∧ ∀ a z, a < n → lvS T N a m = some z → y ≤ z
  | 0, y, h => by simp [nxF] at h
  | n + 1, y, h => by
    rw [nxF_s] at h
    cases h1 : nxF T N m n with
    | none =>
      rw [h1] at h
      have h' : lvS T N n m = some y := h
      refine ⟨⟨n, by omega, h'⟩, fun a z ha hz => ?_⟩
      by_cases h2 : a = n
      · subst h2; rw [h'] at hz; cases hz; exact Nat.le_refl _
      · rw [nxF_none h1 a (by omega)] at hz; cases hz
    | some x =>
      obtain ⟨⟨a0, h4, h5⟩, h6⟩ := nxF_some h1
      rw [h1] at h
      cases h3 : lvS T N n m with
      | none =>
        rw [h3] at h
        have h' : x = y := Option.some.inj h
        subst h'
        refine ⟨⟨a0, by omega, h5⟩, fun a z ha hz => ?_⟩
        by_cases h2 : a = n
        · subst h2; rw [h3] at hz; cases hz
        · exact h6 a z (by omega) hz
      | some w =>
        rw [h3] at h
        have h' : min x w = y := Option.some.inj h
        subst h'
        refine ⟨?_, fun a z ha hz => ?_⟩
        · rcases Nat.le_total x w with g | g
          · rw [Nat.min_eq_left g]; exact ⟨a0, by omega, h5⟩
          · rw [Nat.min_eq_right g]; exact ⟨n, by omega, h3⟩
        · by_cases h2 : a = n
          · subst h2; rw [h3] at hz; cases hz; omega
          · have := h6 a z (by omega) hz; omega
/-- no ACCOUNT counts elsewhere than in another MONTH -/
def eqM (T : gT) (N : gN) (m m' : Nat) : Prop := ∀ a, a < T 0 2 → cntS T N a m' = cntS T N a m
theorem nx_some (hV : VT T) (hVN : VN T N) {m y : Nat} (h : nxS T N m = some y) : m < y ∧ (∀ m', m ≤ m' → m' < y → eqM T N m m') ∧ ¬ eqM T N m y := by
  obtain ⟨⟨a0, h1, h2⟩, h3⟩ := nxF_some h
  obtain ⟨h4, h5, h6⟩ := lvz_lt hV hVN h1 h2
  refine ⟨h4, fun m' g1 g2 a ha => ?_, fun z => h6 (z a0 h1)⟩
  cases hl : lvS T N a m with
  | none => exact lvz_no hl m' g1
  | some z =>
    have := h3 a z ha hl
    exact (lvz_lt hV hVN ha hl).2.1 m' g1 (by omega)
theorem nx_none {m : Nat} (h : nxS T N m = none) : ∀ m', m ≤ m' → eqM T N m m' := fun m' h1 a ha => lvz_no (nxF_none h a ha) m' h1
theorem gl_eqM {m m' p kd b n : Nat} (h : eqM T N m m') (hn : n ≤ T 0 2) : gl T N p kd b m' n = gl T N p kd b m n := by
  unfold gl
  refine List.filter_congr (fun a ha => ?_)
  have ha2 : a < n := List.mem_range.mp ha
  unfold gB
  rw [h a (by omega)]
theorem iofS_eqM {m m' p : Nat} {mh : Option Nat} (h : eqM T N m m') : iofS T N mh p m' = iofS T N mh p m := by
  unfold iofS mstM uhN
  congr 1
  funext kd
  congr 1
  funext b
  rw [gl_eqM h (Nat.le_refl _)]
/-- the first ACCOUNT that comes to count elsewhere in a MONTH -/
def chF (T : gT) (N : gN) (m : Nat) : Option Nat := fstN (fun a => ¬ cntS T N a m = cntS T N a (m - 1)) 0 (T 0 2)
theorem chF_n {m : Nat} (h : eqM T N (m - 1) m) : chF T N m = none := by
  cases hc : chF T N m with
  | none => rfl
  | some a =>
    obtain ⟨_, h1, h2⟩ := fstN_some hc
    exact absurd (h a (by omega)) h2
theorem chF_s {m : Nat} (h : ¬ eqM T N (m - 1) m) : ∃ a, chF T N m = some a := by
  cases hc : chF T N m with
  | some a => exact ⟨a, rfl⟩
  | none =>
    exfalso
    apply h
    intro a ha
    have := fstN_none hc a (Nat.zero_le _) (by omega)
    exact Decidable.of_not_not this
/-- the change asked for, looked for in k MONTHS from m on, n before it -/
def chS (T : gT) (N : gN) (x : Int32) : Nat → Nat → Nat → Int32
  | 0, n, _ => if x = -nI 1 then nI n else -nI 1
  | k + 1, n, m => match chF T N m with
    | none => chS T N x k n (m + 1)
    | some _ => if nI n = x then nI m else chS T N x k (n + 1) (m + 1)
theorem chS_skip {x : Int32} : ∀ (d k n m : Nat), (∀ j, j < d → chF T N (m + j) = none) → chS T N x (k + d) n m = chS T N x k n (m + d)
  | 0, k, n, m, _ => rfl
  | d + 1, k, n, m, h => by
    have h0 := h 0 (by omega)
    rw [Nat.add_zero] at h0
    rw [show k + (d + 1) = (k + d) + 1 by omega, chS, h0]
    simp only
    rw [chS_skip d k n (m + 1) (fun j hj => by rw [show m + 1 + j = m + (j + 1) by omega]; exact h (j + 1) (by omega))]
    rw [show m + 1 + d = m + (d + 1) by omega]
theorem m_isCh_l {m : Nat} (hV : VT T) (hVN : VN T N) (hT : RTm 0 T u) (hN : RNm (u.1 16) T N) (h1 : 1 ≤ m) (hm : m < 2 ^ 30) : ∀ (f a : Nat), a ≤ T 0 2 → T 0 2 - a < f → X12_isChange_l2 u f (nI m) (nI a) = some (match fstN (fun a => ¬ cntS T N a m = cntS T N a (m - 1)) a (T 0 2 - a) with | none => nI 0 | some _ => nI 1) := by
  have hna := hV.na
  have t2 := hT.na; simp only [Nat.mul_zero, Nat.zero_add] at t2
  intro f
  induction f with
  | zero => intro a h1 h2; omega
  | succ f ih =>
    intro a h2 h3
    unfold X12_isChange_l2 X12_isChange_b2
    by_cases h4 : a = T 0 2
    · subst h4
      simp (disch := omega) only [aM1, t2, nI_lit, lN_lit, nI_add, pk_mul, lN_add, lN_mul, Option.bind_some, nI_leI, nI_ltI, nI_eq, lN_leI, lN_ltI, lN_eqI, nI_m1, m1_nI, i_modN, lN_modN, nI_64, lN_32, if_pos, if_neg, ↓reduceIte, if_true, if_false, Nat.sub_self]
      rfl
    · have ha : a < T 0 2 := by omega
      have e := ih (a + 1) (by omega) (by omega)
      have h5 := m_countedAt (m := m) hV hT hN hVN ha hm
      have h6 := m_countedAt (m := m - 1) hV hT hN hVN ha (by omega)
      have h7 := cntS_lt (m := m) hV hVN ha
      have h8 := cntS_lt (m := m - 1) hV hVN ha
      have h9 : nI m - nI 1 = nI (m - 1) := nI_sub1 h1
      rw [show T 0 2 - a = (T 0 2 - (a + 1)) + 1 by omega, fstN]
      by_cases g : cntS T N a m = cntS T N a (m - 1)
      · rw [if_neg (fun z => z g)]
        simp (disch := omega) only [aM1, t2, h5, h9, h6, g, nI_lit, lN_lit, nI_add, pk_mul, lN_add, lN_mul, Option.bind_some, nI_leI, nI_ltI, nI_eq, lN_leI, lN_ltI, lN_eqI, nI_m1, m1_nI, i_modN, lN_modN, nI_64, lN_32, if_pos, if_neg, ↓reduceIte, if_true, if_false]
        exact e
      · rw [if_pos g]
        simp (disch := omega) only [aM1, t2, h5, h9, h6, g, nI_lit, lN_lit, nI_add, pk_mul, lN_add, lN_mul, Option.bind_some, nI_leI, nI_ltI, nI_eq, lN_leI, lN_ltI, lN_eqI, nI_m1, m1_nI, i_modN, lN_modN, nI_64, lN_32, if_pos, if_neg, ↓reduceIte, if_true, if_false]
theorem m_change_l {x : Int32} (hV : VT T) (hVN : VN T N) (hT : RTm 0 T u) (hN : RNm (u.1 16) T N) : ∀ (f n m : Nat), 1 ≤ m → m ≤ 1000 → n ≤ m → 1000 - m < f → X12_change_l11 u f x (nI n) (nI m) = some (chS T N x (1000 - m) n m) := by
  have hna := hV.na
  intro f
  induction f with
  | zero => intro n m h1 h2 h3 h4; omega
  | succ f ih =>
    intro n m h1 h2 h3 h4
    unfold X12_change_l11 X12_change_b11 X12_change_b39 X12_change_b55
    by_cases h5 : m = 1000
    · subst h5
      by_cases hx : x = -nI 1
      · simp (disch := omega) only [hx, nI_lit, lN_lit, nI_add, pk_mul, lN_add, lN_mul, Option.bind_some, nI_leI, nI_ltI, nI_eq, lN_leI, lN_ltI, lN_eqI, nI_m1, m1_nI, i_modN, lN_modN, nI_64, lN_32, if_pos, if_neg, ↓reduceIte, if_true, if_false, Nat.sub_self, chS, Nat.reduceLT]
      · simp (disch := omega) only [hx, nI_lit, lN_lit, nI_add, pk_mul, lN_add, lN_mul, Option.bind_some, nI_leI, nI_ltI, nI_eq, lN_leI, lN_ltI, lN_eqI, nI_m1, m1_nI, i_modN, lN_modN, nI_64, lN_32, if_pos, if_neg, ↓reduceIte, if_true, if_false, Nat.sub_self, chS, Nat.reduceLT]
    · have e1 : X12_isChange u (nI m) = some (match chF T N m with | none => nI 0 | some _ => nI 1) := by
        have := m_isCh_l (m := m) hV hVN hT hN h1 (by omega) fz 0 (Nat.zero_le _) (fz_lt (by omega))
        unfold X12_isChange
        rw [nI_lit]
        exact this
      have h6 : (999 < m) = False := by simp; omega
      rw [show 1000 - m = (1000 - (m + 1)) + 1 by omega, chS]
      cases hc : chF T N m with
      | none =>
        rw [hc] at e1
        have e := ih n (m + 1) (by omega) (by omega) (by omega) (by omega)
        simp (disch := omega) only [e1, h6, nI_lit, lN_lit, nI_add, pk_mul, lN_add, lN_mul, Option.bind_some, nI_leI, nI_ltI, nI_eq, lN_leI, lN_ltI, lN_eqI, nI_m1, m1_nI, i_modN, lN_modN, nI_64, lN_32, if_pos, if_neg, ↓reduceIte, if_true, if_false]
        exact e
      | some a =>
        rw [hc] at e1
        have e := ih (n + 1) (m + 1) (by omega) (by omega) (by omega) (by omega)
        by_cases hx : nI n = x
        · simp (disch := omega) only [e1, h6, hx, nI_lit, lN_lit, nI_add, pk_mul, lN_add, lN_mul, Option.bind_some, nI_leI, nI_ltI, nI_eq, lN_leI, lN_ltI, lN_eqI, nI_m1, m1_nI, i_modN, lN_modN, nI_64, lN_32, if_pos, if_neg, ↓reduceIte, if_true, if_false, Nat.reduceEqDiff]
        · simp (disch := omega) only [e1, h6, hx, nI_lit, lN_lit, nI_add, pk_mul, lN_add, lN_mul, Option.bind_some, nI_leI, nI_ltI, nI_eq, lN_leI, lN_ltI, lN_eqI, nI_m1, m1_nI, i_modN, lN_modN, nI_64, lN_32, if_pos, if_neg, ↓reduceIte, if_true, if_false, Nat.reduceEqDiff]
          exact e
theorem q_change_l {x : Int32} (hV : VT T) (hVN : VN T N) (hT : RT 3 T u) (hN : RN 18 T N u) : ∀ (f n m : Nat), m ≤ 999 → n ≤ m → 999 - m < f → X11_change_l10 u f x (nI m) (nI n) = some (chS T N x (999 - m) n (m + 1)) := by
  intro f
  induction f with
  | zero => intro n m h1 h2 h3; omega
  | succ f ih =>
    intro n m h1 h2 h3
    unfold X11_change_l10 X11_change_b10 X11_change_b43
    have e1 := q_next (m := m) hV hVN hT hN (by omega)
    have h6 : (999 < n) = False := by simp; omega
    have last : (∀ m', m ≤ m' → m' ≤ 999 → eqM T N m m') → chS T N x (999 - m) n (m + 1) = (if x = -nI 1 then nI n else -nI 1) := by
      intro hq
      have := chS_skip (T := T) (N := N) (x := x) (999 - m) 0 n (m + 1) (fun j hj => chF_n (fun a ha => by
        rw [hq (m + 1 + j) (by omega) (by omega) a ha, hq (m + 1 + j - 1) (by omega) (by omega) a ha]))
      rw [Nat.zero_add] at this
      rw [this, chS]
    cases hn : nxS T N m with
    | none =>
      have hq := nx_none hn
      rw [hn] at e1
      have e2 := q_isMonthF (u := u) (x := oI none) (Or.inl (by decide))
      rw [last (fun m' g _ => hq m' g)]
      by_cases hx : x = -nI 1
      · simp (disch := omega) only [e1, e2, h6, hx, nI_lit, lN_lit, nI_add, pk_mul, lN_add, lN_mul, Option.bind_some, nI_leI, nI_ltI, nI_eq, lN_leI, lN_ltI, lN_eqI, nI_m1, m1_nI, i_modN, lN_modN, nI_64, lN_32, if_pos, if_neg, ↓reduceIte, if_true, if_false]
      · simp (disch := omega) only [e1, e2, h6, hx, nI_lit, lN_lit, nI_add, pk_mul, lN_add, lN_mul, Option.bind_some, nI_leI, nI_ltI, nI_eq, lN_leI, lN_ltI, lN_eqI, nI_m1, m1_nI, i_modN, lN_modN, nI_64, lN_32, if_pos, if_neg, ↓reduceIte, if_true, if_false]
    | some y =>
      obtain ⟨g1, g2, g3⟩ := nx_some hV hVN hn
      rw [hn] at e1
      have hy := nxF_le hV hVN (Nat.le_refl _) hn
      by_cases h5 : y ≤ 999
      · have e2 : X11_isMonth u (oI (some y)) = some (nI 1) := q_isMonth (u := u) (m := y) (by omega)
        have sk := chS_skip (T := T) (N := N) (x := x) (y - (m + 1)) (999 - y + 1) n (m + 1) (fun j hj => chF_n (fun a ha => by
          rw [g2 (m + 1 + j) (by omega) (by omega) a ha, g2 (m + 1 + j - 1) (by omega) (by omega) a ha]))
        rw [show 999 - y + 1 + (y - (m + 1)) = 999 - m by omega, show m + 1 + (y - (m + 1)) = y by omega] at sk
        obtain ⟨a, ha⟩ := chF_s (T := T) (N := N) (m := y) (fun z => g3 (fun a ha => by rw [z a ha, g2 (y - 1) (by omega) (by omega) a ha]))
        rw [sk, chS, ha]
        have e := ih (n + 1) y h5 (by omega) (by omega)
        by_cases hx : nI n = x
        · subst hx
          simp (disch := omega) only [e1, e2, h6, nI_lit, lN_lit, nI_add, pk_mul, lN_add, lN_mul, Option.bind_some, nI_leI, nI_ltI, nI_eq, lN_leI, lN_ltI, lN_eqI, nI_m1, m1_nI, i_modN, lN_modN, nI_64, lN_32, if_pos, if_neg, ↓reduceIte, if_true, if_false, Nat.reduceEqDiff]
          rfl
        · simp (disch := omega) only [e1, e2, h6, hx, nI_lit, lN_lit, nI_add, pk_mul, lN_add, lN_mul, Option.bind_some, nI_leI, nI_ltI, nI_eq, lN_leI, lN_ltI, lN_eqI, nI_m1, m1_nI, i_modN, lN_modN, nI_64, lN_32, if_pos, if_neg, ↓reduceIte, if_true, if_false, Nat.reduceEqDiff]
          exact e
      · have e2 : X11_isMonth u (oI (some y)) = some (nI 0) := q_isMonthF (u := u) (x := nI y) (Or.inr (by rw [nI_leI (by omega) (by omega)]; omega))
        rw [last (fun m' g g' => g2 m' g (by omega))]
        by_cases hx : x = -nI 1
        · simp (disch := omega) only [e1, e2, h6, hx, nI_lit, lN_lit, nI_add, pk_mul, lN_add, lN_mul, Option.bind_some, nI_leI, nI_ltI, nI_eq, lN_leI, lN_ltI, lN_eqI, nI_m1, m1_nI, i_modN, lN_modN, nI_64, lN_32, if_pos, if_neg, ↓reduceIte, if_true, if_false]
        · simp (disch := omega) only [e1, e2, h6, hx, nI_lit, lN_lit, nI_add, pk_mul, lN_add, lN_mul, Option.bind_some, nI_leI, nI_ltI, nI_eq, lN_leI, lN_ltI, lN_eqI, nI_m1, m1_nI, i_modN, lN_modN, nI_64, lN_32, if_pos, if_neg, ↓reduceIte, if_true, if_false]
theorem o_change (x : Int32) (h : RR T N P S u v) : SP (X11_change u x) (X12_change v x) := by
  have hV := h.d.t; have hVN := h.d.n; have hmo := hVN.mo
  have e1 := q_change_l (x := x) hV hVN h.c.t h.c.n fz 0 (N.1 0 0) (by omega) (Nat.zero_le _) (fz_lt (by omega))
  have e2 := m_change_l (x := x) hV hVN h.m.t h.m.n fz 0 (N.1 0 0 + 1) (by omega) (by omega) (Nat.zero_le _) (fz_lt (by omega))
  refine ⟨chS T N x (999 - N.1 0 0) 0 (N.1 0 0 + 1), ?_, ?_⟩
  · unfold X11_change
    rw [h.c.n.mo, nI_lit]
    exact e1
  · unfold X12_change
    rw [show 999 - N.1 0 0 = 1000 - (N.1 0 0 + 1) by omega]
    simp (disch := omega) only [aM16, h.m.n.mo, nI_lit, lN_lit, nI_add, pk_mul, lN_add, lN_mul, Option.bind_some, nI_leI, nI_ltI, nI_eq, lN_leI, lN_ltI, lN_eqI, nI_m1, m1_nI, i_modN, lN_modN, nI_64, lN_32, if_pos, if_neg, ↓reduceIte, if_true, if_false]
    exact e2
/-- the first of k MONTHS from m on in which less is INSURED of a PERSON than w -/
def wrS (T : gT) (N : gN) (p w : Nat) : Nat → Nat → Int32
  | 0, _ => -nI 1
  | k + 1, m => if iofS T N none p m < w then nI m else wrS T N p w k (m + 1)
theorem wrS_skip {p w : Nat} : ∀ (d k m : Nat), (∀ j, j < d → ¬ iofS T N none p (m + j) < w) → wrS T N p w (k + d) m = wrS T N p w k (m + d)
  | 0, k, m, _ => rfl
  | d + 1, k, m, h => by
    have h0 := h 0 (by omega)
    rw [Nat.add_zero] at h0
    rw [show k + (d + 1) = (k + d) + 1 by omega, wrS, if_neg h0]
    rw [wrS_skip d k (m + 1) (fun j hj => by rw [show m + 1 + j = m + (j + 1) by omega]; exact h (j + 1) (by omega))]
    rw [show m + 1 + d = m + (d + 1) by omega]
theorem m_warns_l {p w : Nat} {u0 : gM} (hV : VT T) (hVN : VN T N) (hM : MV T N none u0) (hp : p < T 0 0) (hw : w ≤ 15000000000) : ∀ (f m : Nat) (u : gM), m ≤ 1000 → 1000 - m < f → off sY u0 u → ∃ u', X12_warns_l32 f (nI p) (lN w) (nI m) u = some (wrS T N p w (1000 - m) m, u') ∧ off sY u0 u' := by
  intro f
  induction f with
  | zero => intro m u h1 h2; omega
  | succ f ih =>
    intro m u h1 h2 ho
    have hM1 := hM.mv ho
    unfold X12_warns_l32 X12_warns_b32
    by_cases h5 : m = 1000
    · subst h5
      refine ⟨u, ?_, ho⟩
      simp (disch := omega) only [nI_lit, lN_lit, nI_add, pk_mul, lN_add, lN_mul, Option.bind_some, nI_leI, nI_ltI, nI_eq, lN_leI, lN_ltI, lN_eqI, nI_m1, m1_nI, i_modN, lN_modN, nI_64, lN_32, if_pos, if_neg, ↓reduceIte, if_true, if_false, Nat.sub_self, wrS, Nat.reduceLT]
    · obtain ⟨u1, e1, o1⟩ := m_insuredOf (m := m) hV hVN hM1 (fun _ => hn0) hp (by omega)
      have o1' : off sY u u1 := off_mono o1 (fun c hc => by have z : c = 20 := hc; subst z; exact sYk (by omega))
      have h6 : (999 < m) = False := by simp; omega
      have b1 := iofS_le (N := N) (mh := none) (p := p) (m := m) hV
      rw [show 1000 - m = (1000 - (m + 1)) + 1 by omega, wrS]
      by_cases hl : iofS T N none p m < w
      · refine ⟨u1, ?_, off_tr ho o1'⟩
        have hl2 : ¬ w ≤ iofS T N none p m := by omega
        rw [if_pos hl]
        simp (disch := omega) only [e1, h6, lg_ge, hl2, nI_lit, lN_lit, nI_add, pk_mul, lN_add, lN_mul, Option.bind_some, nI_leI, nI_ltI, nI_eq, lN_leI, lN_ltI, lN_eqI, nI_m1, m1_nI, i_modN, lN_modN, nI_64, lN_32, if_pos, if_neg, ↓reduceIte, if_true, if_false]
      · obtain ⟨u2, e2, o2⟩ := ih (m + 1) u1 (by omega) (by omega) (off_tr ho o1')
        refine ⟨u2, ?_, o2⟩
        have hl2 : w ≤ iofS T N none p m := by omega
        rw [if_neg hl]
        simp (disch := omega) only [e1, h6, lg_ge, hl2, nI_lit, lN_lit, nI_add, pk_mul, lN_add, lN_mul, Option.bind_some, nI_leI, nI_ltI, nI_eq, lN_leI, lN_ltI, lN_eqI, nI_m1, m1_nI, i_modN, lN_modN, nI_64, lN_32, if_pos, if_neg, ↓reduceIte, if_true, if_false]
        exact e2
theorem q_warns_l {p m0 : Nat} {u0 : gM} (hV : VT T) (hVN : VN T N) (hT : RT 3 T u0) (hN : RN 18 T N u0) (hp : p < T 0 0) : ∀ (f n m : Nat) (u : gM), m ≤ 999 → n ≤ m → 999 - m < f → off sX u0 u → ¬ iofS T N none p m < iofS T N none p m0 → ∃ u', X11_warns_l48 f (nI p) (lN (opnS T N p m0)) (nI m) (nI n) u = some (wrS T N p (iofS T N none p m0) (999 - m) (m + 1), u') ∧ off sX u0 u' := by
  intro f
  induction f with
  | zero => intro n m u h1 h2 h3; omega
  | succ f ih =>
    intro n m u h1 h2 h3 ho hge
    have hT1 := RT_sX hT ho
    have hN1 := RN_sX hN ho
    unfold X11_warns_l48 X11_warns_b48
    have e1 := q_next (m := m) hV hVN hT1 hN1 (by omega)
    have h6 : (999 < n) = False := by simp; omega
    have last : (∀ m', m ≤ m' → m' ≤ 999 → eqM T N m m') → wrS T N p (iofS T N none p m0) (999 - m) (m + 1) = -nI 1 := by
      intro hq
      have := wrS_skip (T := T) (N := N) (p := p) (w := iofS T N none p m0) (999 - m) 0 (m + 1) (fun j hj => by
        rw [iofS_eqM (hq (m + 1 + j) (by omega) (by omega))]; exact hge)
      rw [Nat.zero_add] at this
      rw [this, wrS]
    cases hn : nxS T N m with
    | none =>
      have hq := nx_none hn
      rw [hn] at e1
      have e2 := q_isMonthF (u := u) (x := oI none) (Or.inl (by decide))
      rw [last (fun m' g _ => hq m' g)]
      refine ⟨u, ?_, ho⟩
      simp (disch := omega) only [e1, e2, h6, nI_lit, lN_lit, nI_add, pk_mul, lN_add, lN_mul, Option.bind_some, nI_leI, nI_ltI, nI_eq, lN_leI, lN_ltI, lN_eqI, nI_m1, m1_nI, i_modN, lN_modN, nI_64, lN_32, if_pos, if_neg, ↓reduceIte, if_true, if_false]
    | some y =>
      obtain ⟨g1, g2, g3⟩ := nx_some hV hVN hn
      rw [hn] at e1
      have hy := nxF_le hV hVN (Nat.le_refl _) hn
      by_cases h5 : y ≤ 999
      · have e2 : X11_isMonth u (oI (some y)) = some (nI 1) := q_isMonth (u := u) (m := y) (by omega)
        have sk := wrS_skip (T := T) (N := N) (p := p) (w := iofS T N none p m0) (y - (m + 1)) (999 - y + 1) (m + 1) (fun j hj => by
          rw [iofS_eqM (g2 (m + 1 + j) (by omega) (by omega))]; exact hge)
        rw [show 999 - y + 1 + (y - (m + 1)) = 999 - m by omega, show m + 1 + (y - (m + 1)) = y by omega] at sk
        obtain ⟨u1, e3, o1, hi, _⟩ := q_insure (m := y) hV hVN (by omega) hT1 hN1
        have o1' := off_tr ho (sJX o1)
        have e4 := q_openOf hV hVN (RT_sX hT o1') (RN_sX hN o1') hp hi
        have b1 := opnS_le (p := p) (m := y) hV hVN
        have b2 := opnS_le (p := p) (m := m0) hV hVN
        have b3 := iofS_sha (p := p) (m := y) hV hVN
        have b4 := iofS_sha (p := p) (m := m0) hV hVN
        have e3' : X1_insure (oI (some y)) u = some u1 := e3
        rw [sk, wrS]
        by_cases hl : iofS T N none p y < iofS T N none p m0
        · have hl2 : ¬ opnS T N p y ≤ opnS T N p m0 := by unfold opnS; omega
          refine ⟨u1, ?_, o1'⟩
          rw [if_pos hl]
          simp (disch := omega) only [e1, e2, e3', e4, h6, lg_le, hl2, nI_lit, lN_lit, nI_add, pk_mul, lN_add, lN_mul, Option.bind_some, nI_leI, nI_ltI, nI_eq, lN_leI, lN_ltI, lN_eqI, nI_m1, m1_nI, i_modN, lN_modN, nI_64, lN_32, if_pos, if_neg, ↓reduceIte, if_true, if_false, Nat.reduceEqDiff]
          rfl
        · have hl2 : opnS T N p y ≤ opnS T N p m0 := by unfold opnS; omega
          obtain ⟨u2, e5, o2⟩ := ih (n + 1) y u1 h5 (by omega) (by omega) o1' hl
          refine ⟨u2, ?_, o2⟩
          rw [if_neg hl]
          simp (disch := omega) only [e1, e2, e3', e4, h6, lg_le, hl2, nI_lit, lN_lit, nI_add, pk_mul, lN_add, lN_mul, Option.bind_some, nI_leI, nI_ltI, nI_eq, lN_leI, lN_ltI, lN_eqI, nI_m1, m1_nI, i_modN, lN_modN, nI_64, lN_32, if_pos, if_neg, ↓reduceIte, if_true, if_false, Nat.reduceEqDiff]
          exact e5
      · have e2 : X11_isMonth u (oI (some y)) = some (nI 0) := q_isMonthF (u := u) (x := nI y) (Or.inr (by rw [nI_leI (by omega) (by omega)]; omega))
        rw [last (fun m' g g' => g2 m' g (by omega))]
        refine ⟨u, ?_, ho⟩
        simp (disch := omega) only [e1, e2, h6, nI_lit, lN_lit, nI_add, pk_mul, lN_add, lN_mul, Option.bind_some, nI_leI, nI_ltI, nI_eq, lN_leI, lN_ltI, lN_eqI, nI_m1, m1_nI, i_modN, lN_modN, nI_64, lN_32, if_pos, if_neg, ↓reduceIte, if_true, if_false]
theorem o_warns (p : Int32) (h : RR T N P S u v) : SQ (X11_warns p u) (X12_warns p v) u v := by
  have hV := h.d.t; have hVN := h.d.n; have hmo := hVN.mo; have hnp := hV.np
  unfold X11_warns X12_warns
  rcases i_cases p (T 0 0) (by omega) with ⟨p, hp, rfl⟩ | hl
  · obtain ⟨u1, g1, g2, g3, g4, g5⟩ := q_ins h
    have g6 := q_openOf hV hVN g3 g4 hp g5
    obtain ⟨v1, d1, d2⟩ := m_insuredOf (m := N.1 0 0) hV hVN (h.m.mvw hV) (fun _ => hn0) hp (by omega)
    have d2' : off sY v v1 := off_mono d2 (fun c hc => by have z : c = 20 := hc; subst z; exact sYk (by omega))
    have hM1 := (h.m.mvw hV).mv d2'
    obtain ⟨u2, e1, o1⟩ := q_warns_l (m0 := N.1 0 0) hV hVN h.c.t h.c.n hp fz 0 (N.1 0 0) u1 (by omega) (Nat.zero_le _) (fz_lt (by omega)) g2 (Nat.lt_irrefl _)
    obtain ⟨v2, e2, o2⟩ := m_warns_l (w := iofS T N none p (N.1 0 0)) hV hVN (h.m.mvw hV) hp (iofS_le hV) fz (N.1 0 0 + 1) v1 (by omega) (fz_lt (by omega)) d2'
    rw [show 1000 - (N.1 0 0 + 1) = 999 - N.1 0 0 by omega] at e2
    refine ⟨wrS T N p (iofS T N none p (N.1 0 0)) (999 - N.1 0 0) (N.1 0 0 + 1), u2, v2, ?_, ?_, o1, o2⟩
    · rw [q_isPerson hV h.c.t hp, Option.bind_some, if_neg n10, g1, Option.bind_some, g6, Option.bind_some, g4.mo, nI_lit]
      exact e1
    · rw [m_isPerson hV h.m.t hp]
      simp (disch := omega) only [aM16, h.m.n.mo, d1, hM1.n.mo, nI_lit, lN_lit, nI_add, pk_mul, lN_add, lN_mul, Option.bind_some, nI_leI, nI_ltI, nI_eq, lN_leI, lN_ltI, lN_eqI, nI_m1, m1_nI, i_modN, lN_modN, nI_64, lN_32, if_pos, if_neg, ↓reduceIte, if_true, if_false, Nat.reduceEqDiff]
      exact e2
  · rw [q_isPersonF h.c.t hl, m_isPersonF hV h.m.t hl]
    exact SQ.p rfl rfl
end CH
