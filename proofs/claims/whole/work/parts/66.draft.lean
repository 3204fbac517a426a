/-! names looked up; what is being read -/
def pnS (T : gT) (w : Nat) : Option Nat := fstN (fun p => T 11 p = w) 0 (T 0 0)
def bnS (T : gT) (w : Nat) : Option Nat := fstN (fun p => T 12 p = w) 0 (T 0 1)
def anS (T : gT) (w : Nat) : Option Nat := fstN (fun p => T 13 p = w) 0 (T 0 2)
def takB (T : gT) (w : Nat) : Bool := (pnS T w).isSome || ((bnS T w).isSome || (anS T w).isSome)
def TOk (x : Nat) : Prop := (isO skC x 10 = true) ∧ (rf skC x 6 = x + 1) ∧ (rf skC x 7 = x + 2) ∧ (rf skC x 8 = x + 3) ∧ (rf skC x 9 = x + 4) ∧ (rf skC x 10 = x + 5) ∧ (rf skC x 11 = x + 6) ∧ (rf skC x 12 = x + 7) ∧ (rf skC x 13 = x + 8) ∧ (rf skC x 14 = x + 9) ∧ (rf skC x 15 = x + 10) ∧ (rf skC x 16 = x + 11) ∧ (rf skC x 17 = x + 12) ∧ (rf skC x 18 = x + 13) ∧ (rf skC x 19 = x + 14) ∧ (skC[x + 1]? = some (.inr (1, 10, []))) ∧ (skC[x + 2]? = some (.inr (1, 6, []))) ∧ (skC[x + 3]? = some (.inr (1, 24, []))) ∧ (skC[x + 4]? = some (.inr (0, 24, []))) ∧ (skC[x + 5]? = some (.inr (0, 24, []))) ∧ (skC[x + 6]? = some (.inr (0, 24, []))) ∧ (skC[x + 7]? = some (.inr (0, 24, []))) ∧ (skC[x + 8]? = some (.inr (0, 24, []))) ∧ (skC[x + 9]? = some (.inr (0, 24, []))) ∧ (skC[x + 10]? = some (.inr (0, 96, []))) ∧ (skC[x + 11]? = some (.inr (1, 144, []))) ∧ (skC[x + 12]? = some (.inr (0, 10, []))) ∧ (skC[x + 13]? = some (.inr (0, 10, []))) ∧ (skC[x + 14]? = some (.inr (0, 10, [])))
theorem TOk.o {x : Nat} (h : TOk x) : isO skC x 10 = true := h.1
theorem TOk.f6 {x : Nat} (h : TOk x) : rf skC x 6 = x + 1 := h.2.1
theorem TOk.f7 {x : Nat} (h : TOk x) : rf skC x 7 = x + 2 := h.2.2.1
theorem TOk.f8 {x : Nat} (h : TOk x) : rf skC x 8 = x + 3 := h.2.2.2.1
theorem TOk.f9 {x : Nat} (h : TOk x) : rf skC x 9 = x + 4 := h.2.2.2.2.1
theorem TOk.f10 {x : Nat} (h : TOk x) : rf skC x 10 = x + 5 := h.2.2.2.2.2.1
theorem TOk.f11 {x : Nat} (h : TOk x) : rf skC x 11 = x + 6 := h.2.2.2.2.2.2.1
theorem TOk.f12 {x : Nat} (h : TOk x) : rf skC x 12 = x + 7 := h.2.2.2.2.2.2.2.1
theorem TOk.f13 {x : Nat} (h : TOk x) : rf skC x 13 = x + 8 := h.2.2.2.2.2.2.2.2.1
theorem TOk.f14 {x : Nat} (h : TOk x) : rf skC x 14 = x + 9 := h.2.2.2.2.2.2.2.2.2.1
theorem TOk.f15 {x : Nat} (h : TOk x) : rf skC x 15 = x + 10 := h.2.2.2.2.2.2.2.2.2.2.1
theorem TOk.f16 {x : Nat} (h : TOk x) : rf skC x 16 = x + 11 := h.2.2.2.2.2.2.2.2.2.2.2.1
theorem TOk.f17 {x : Nat} (h : TOk x) : rf skC x 17 = x + 12 := h.2.2.2.2.2.2.2.2.2.2.2.2.1
theorem TOk.f18 {x : Nat} (h : TOk x) : rf skC x 18 = x + 13 := h.2.2.2.2.2.2.2.2.2.2.2.2.2.1
theorem TOk.f19 {x : Nat} (h : TOk x) : rf skC x 19 = x + 14 := h.2.2.2.2.2.2.2.2.2.2.2.2.2.2.1
theorem TOk.a1 {x : Nat} (h : TOk x) : skC[x + 1]? = some (.inr (1, 10, [])) := h.2.2.2.2.2.2.2.2.2.2.2.2.2.2.2.1
theorem TOk.a2 {x : Nat} (h : TOk x) : skC[x + 2]? = some (.inr (1, 6, [])) := h.2.2.2.2.2.2.2.2.2.2.2.2.2.2.2.2.1
theorem TOk.a3 {x : Nat} (h : TOk x) : skC[x + 3]? = some (.inr (1, 24, [])) := h.2.2.2.2.2.2.2.2.2.2.2.2.2.2.2.2.2.1
theorem TOk.a4 {x : Nat} (h : TOk x) : skC[x + 4]? = some (.inr (0, 24, [])) := h.2.2.2.2.2.2.2.2.2.2.2.2.2.2.2.2.2.2.1
theorem TOk.a5 {x : Nat} (h : TOk x) : skC[x + 5]? = some (.inr (0, 24, [])) := h.2.2.2.2.2.2.2.2.2.2.2.2.2.2.2.2.2.2.2.1
theorem TOk.a6 {x : Nat} (h : TOk x) : skC[x + 6]? = some (.inr (0, 24, [])) := h.2.2.2.2.2.2.2.2.2.2.2.2.2.2.2.2.2.2.2.2.1
theorem TOk.a7 {x : Nat} (h : TOk x) : skC[x + 7]? = some (.inr (0, 24, [])) := h.2.2.2.2.2.2.2.2.2.2.2.2.2.2.2.2.2.2.2.2.2.1
theorem TOk.a8 {x : Nat} (h : TOk x) : skC[x + 8]? = some (.inr (0, 24, [])) := h.2.2.2.2.2.2.2.2.2.2.2.2.2.2.2.2.2.2.2.2.2.2.1
theorem TOk.a9 {x : Nat} (h : TOk x) : skC[x + 9]? = some (.inr (0, 24, [])) := h.2.2.2.2.2.2.2.2.2.2.2.2.2.2.2.2.2.2.2.2.2.2.2.1
theorem TOk.a10 {x : Nat} (h : TOk x) : skC[x + 10]? = some (.inr (0, 96, [])) := h.2.2.2.2.2.2.2.2.2.2.2.2.2.2.2.2.2.2.2.2.2.2.2.2.1
theorem TOk.a11 {x : Nat} (h : TOk x) : skC[x + 11]? = some (.inr (1, 144, [])) := h.2.2.2.2.2.2.2.2.2.2.2.2.2.2.2.2.2.2.2.2.2.2.2.2.2.1
theorem TOk.a12 {x : Nat} (h : TOk x) : skC[x + 12]? = some (.inr (0, 10, [])) := h.2.2.2.2.2.2.2.2.2.2.2.2.2.2.2.2.2.2.2.2.2.2.2.2.2.2.1
theorem TOk.a13 {x : Nat} (h : TOk x) : skC[x + 13]? = some (.inr (0, 10, [])) := h.2.2.2.2.2.2.2.2.2.2.2.2.2.2.2.2.2.2.2.2.2.2.2.2.2.2.2.1
theorem TOk.a14 {x : Nat} (h : TOk x) : skC[x + 14]? = some (.inr (0, 10, [])) := h.2.2.2.2.2.2.2.2.2.2.2.2.2.2.2.2.2.2.2.2.2.2.2.2.2.2.2.2
theorem TOk_3 : TOk 3 := by
  refine ⟨?_, ?_, ?_, ?_, ?_, ?_, ?_, ?_, ?_, ?_, ?_, ?_, ?_, ?_, ?_, ?_, ?_, ?_, ?_, ?_, ?_, ?_, ?_, ?_, ?_, ?_, ?_, ?_, ?_⟩ <;> decide
theorem TOk_117 : TOk 117 := by
  refine ⟨?_, ?_, ?_, ?_, ?_, ?_, ?_, ?_, ?_, ?_, ?_, ?_, ?_, ?_, ?_, ?_, ?_, ?_, ?_, ?_, ?_, ?_, ?_, ?_, ?_, ?_, ?_, ?_, ?_⟩ <;> decide
section NMD
variable {T : gT} {u v u' v' : gM} {x w : Nat}
theorem q_place_l {r n cnt : Nat} {g : Nat → Nat} (hr : skC[r]? = some (.inr (1, n, []))) (hn : n < 2 ^ 30) (hc : cnt ≤ n) (hg : ∀ i, i < cnt → u.2 r i = lN (g i) ∧ g i < 2 ^ 62) (hw : w < 2 ^ 62) : ∀ (f i : Nat), i ≤ cnt → cnt - i < f → X10_placeOf_l3 u f (lN w) r (nI cnt) (nI i) = some (oI (fstN (fun p => g p = w) i (cnt - i))) := by
  intro f
  induction f with
  | zero => intro i h1 h2; omega
  | succ f ih =>
    intro i h1 h2
    unfold X10_placeOf_l3 X10_placeOf_b3 X10_placeOf_b34
    by_cases h4 : i = cnt
    · rw [h4, if_pos (Int32.le_refl _), Nat.sub_self]
      rfl
    · have hi : i < cnt := by omega
      obtain ⟨g1, g2⟩ := hg i hi
      rw [if_neg (show ¬ nI cnt ≤ nI i by rw [nI_leI (by omega) (by omega)]; omega), bnd (show aL skC r = some (nI n) by unfold aL; rw [hr]; rfl), if_neg (show ¬ nI n ≤ nI i by rw [nI_leI (by omega) (by omega)]; omega), bnd (aJ_at hr (by omega) (show i < n by omega)), g1]
      rw [show cnt - i = (cnt - (i + 1)) + 1 by omega]
      unfold fstN
      by_cases h5 : g i = w
      · rw [if_pos (show lg_cmp (lN (g i)) (lN w) = 0 by rw [nI_lit, lg_eq, h5]), if_pos h5]
        rfl
      · rw [if_neg (show ¬ lg_cmp (lN (g i)) (lN w) = 0 by rw [nI_lit, lg_eq, lN_eqI (by omega) (by omega)]; exact h5), if_neg h5, nI_s]
        exact ih (i + 1) (by omega) (by omega)
theorem q_place {r n cnt : Nat} {g : Nat → Nat} (hr : skC[r]? = some (.inr (1, n, []))) (hn : n < 2 ^ 11) (hc : cnt ≤ n) (hg : ∀ i, i < cnt → u.2 r i = lN (g i) ∧ g i < 2 ^ 62) (hw : w < 2 ^ 62) : X10_placeOf u (lN w) r (nI cnt) = some (oI (fstN (fun p => g p = w) 0 cnt)) := by
  unfold X10_placeOf
  exact q_place_l hr (by omega) hc hg hw fz 0 (Nat.zero_le _) (fz_lt (by omega))
theorem nm62 {n : Nat} (h : n < 27 ^ 8) : n < 2 ^ 62 := by
  have : (27 : Nat) ^ 8 < 2 ^ 62 := by decide
  omega
theorem q_pn (hx : TOk x) (hV : VT T) (hT : RT x T u) (hw : w < 2 ^ 62) : X10_personNamed u x (lN w) = some (oI (pnS T w)) := by
  have := hV.np
  unfold X10_personNamed
  rw [if_pos hx.o, hx.f6, hT.np, bnd (q_place (g := T 11) hx.a1 (by omega) hV.np (fun i hi => ⟨hT.pn i hi, nm62 (hV.pn i hi)⟩) hw)]
  rfl
theorem q_bn (hx : TOk x) (hV : VT T) (hT : RT x T u) (hw : w < 2 ^ 62) : X10_bankNamed u x (lN w) = some (oI (bnS T w)) := by
  have := hV.nb
  unfold X10_bankNamed
  rw [if_pos hx.o, hx.f7, hT.nb, bnd (q_place (g := T 12) hx.a2 (by omega) hV.nb (fun i hi => ⟨hT.bn i hi, nm62 (hV.bn i hi)⟩) hw)]
  rfl
theorem q_an (hx : TOk x) (hV : VT T) (hT : RT x T u) (hw : w < 2 ^ 62) : X10_accountNamed u x (lN w) = some (oI (anS T w)) := by
  have := hV.na
  unfold X10_accountNamed
  rw [if_pos hx.o, hx.f8, hT.na, bnd (q_place (g := T 13) hx.a3 (by omega) hV.na (fun i hi => ⟨hT.an i hi, nm62 (hV.an i hi)⟩) hw)]
  rfl
theorem fst_lt {P : Nat → Prop} [DecidablePred P] {n k : Nat} (h : fstN P 0 n = some k) : k < n := by
  have := (fstN_some h).2.1
  omega
theorem pnS_lt {k : Nat} (h : pnS T w = some k) : k < T 0 0 := fst_lt h
theorem bnS_lt {k : Nat} (h : bnS T w = some k) : k < T 0 1 := fst_lt h
theorem anS_lt {k : Nat} (h : anS T w = some k) : k < T 0 2 := fst_lt h
theorem oI_neg1 {o : Option Nat} {B : Nat} (hB : B < 2 ^ 31) (h : ∀ n, o = some n → n < B) : oI o = -1 ↔ o = none := by
  rw [nI_lit]
  exact oI_m1 (fun n hn => by have := h n hn; omega)
theorem q_taken (hx : TOk x) (hV : VT T) (hT : RT x T u) (hw : w < 2 ^ 62) : X10_isTaken u x (lN w) = some (b2 (takB T w = true)) := by
  have h1 := hV.np
  have h2 := hV.nb
  have h3 := hV.na
  unfold X10_isTaken X10_isTaken_b27 X10_isTaken_b32 takB
  rw [if_pos hx.o, bnd (q_pn hx hV hT hw), bnd (q_bn hx hV hT hw), bnd (q_an hx hV hT hw)]
  cases hp : pnS T w with
  | some p =>
    have := pnS_lt hp
    rw [if_neg (show ¬ oI (some p) = -1 from (nI_m1 (show p < 2 ^ 31 by omega)).mp), b2_t (by simp)]
    rfl
  | none =>
    rw [if_pos (show oI none = -1 from rfl)]
    cases hb : bnS T w with
    | some p =>
      have := bnS_lt hb
      rw [if_neg (show ¬ oI (some p) = -1 from (nI_m1 (show p < 2 ^ 31 by omega)).mp), b2_t (by simp)]
      rfl
    | none =>
      rw [if_pos (show oI none = -1 from rfl)]
      cases ha : anS T w with
      | some p =>
        have := anS_lt ha
        rw [if_neg (show ¬ oI (some p) = -1 from (nI_m1 (show p < 2 ^ 31 by omega)).mp), b2_t (by simp)]
        rfl
      | none =>
        rw [if_pos (show oI none = -1 from rfl), b2_f (by simp)]
        rfl
/-- the same in the model -/
theorem m_place_l {r n a cnt : Nat} {g : Nat → Nat} (hr : skM[r]? = some (.inr (1, n, []))) (hn : n < 2 ^ 30) (hc : a + cnt ≤ n) (hg : ∀ i, i < cnt → v.2 r (a + i) = lN (cv (g i)) ∧ g i < 27 ^ 8) (hw : w < 27 ^ 8) : ∀ (f i : Nat), i ≤ cnt → cnt - i < f → X12_placeIn_l3 v f r (nI a) (nI cnt) (lN (cv w)) (nI i) = some (oI (fstN (fun p => g p = w) i (cnt - i))) := by
  intro f
  induction f with
  | zero => intro i h1 h2; omega
  | succ f ih =>
    intro i h1 h2
    unfold X12_placeIn_l3 X12_placeIn_b3
    by_cases h4 : i = cnt
    · rw [h4, if_pos (Int32.le_refl _), Nat.sub_self]
      rfl
    · have hi : i < cnt := by omega
      obtain ⟨g1, g2⟩ := hg i hi
      have a1 := cv_62 g2
      have a2 := cv_62 hw
      rw [if_neg (show ¬ nI cnt ≤ nI i by rw [nI_leI (by omega) (by omega)]; omega), nI_add, bnd (aJ_at hr (by omega) (show a + i < n by omega)), g1]
      rw [show cnt - i = (cnt - (i + 1)) + 1 by omega]
      unfold fstN
      by_cases h5 : g i = w
      · rw [if_pos (show lg_cmp (lN (cv (g i))) (lN (cv w)) = 0 by rw [nI_lit, lg_eq, h5]), if_pos h5]
        rfl
      · rw [if_neg (show ¬ lg_cmp (lN (cv (g i))) (lN (cv w)) = 0 by rw [nI_lit, lg_eq, lN_eqI (by omega) (by omega), cv_eq]; exact h5), if_neg h5, nI_s]
        exact ih (i + 1) (by omega) (by omega)
theorem m_place {r n a cnt : Nat} {g : Nat → Nat} (hr : skM[r]? = some (.inr (1, n, []))) (hn : n < 2 ^ 11) (hc : a + cnt ≤ n) (hg : ∀ i, i < cnt → v.2 r (a + i) = lN (cv (g i)) ∧ g i < 27 ^ 8) (hw : w < 27 ^ 8) : X12_placeIn v r (nI a) (nI cnt) (lN (cv w)) = some (oI (fstN (fun p => g p = w) 0 cnt)) := by
  unfold X12_placeIn
  exact m_place_l hr (by omega) hc hg hw fz 0 (Nat.zero_le _) (fz_lt (by omega))
theorem m_pn {d : Nat} (hd : d < 2) (hV : VT T) (hT : RTm d T v) (hw : w < 27 ^ 8) : X12_placeIn v 2 (nI (10 * d)) (nI (T 0 0)) (lN (cv w)) = some (oI (pnS T w)) := by
  have := hV.np
  exact m_place (g := T 11) (n := 20) rfl (by omega) (by omega) (fun i hi => ⟨hT.pn i hi, hV.pn i hi⟩) hw
theorem m_bn {d : Nat} (hd : d < 2) (hV : VT T) (hT : RTm d T v) (hw : w < 27 ^ 8) : X12_placeIn v 3 (nI (6 * d)) (nI (T 0 1)) (lN (cv w)) = some (oI (bnS T w)) := by
  have := hV.nb
  exact m_place (g := T 12) (n := 12) rfl (by omega) (by omega) (fun i hi => ⟨hT.bn i hi, hV.bn i hi⟩) hw
theorem m_an {d : Nat} (hd : d < 2) (hV : VT T) (hT : RTm d T v) (hw : w < 27 ^ 8) : X12_placeIn v 4 (nI (24 * d)) (nI (T 0 2)) (lN (cv w)) = some (oI (anS T w)) := by
  have := hV.na
  exact m_place (g := T 13) (n := 48) rfl (by omega) (by omega) (fun i hi => ⟨hT.an i hi, hV.an i hi⟩) hw
theorem m_many1 {k : Nat} (hk : k < 6) (hT : v.1 1 (6 + k) = nI w) : aI skM v 1 (nI (6 + k)) = some (nI w) := by rw [aM1 (by omega), hT]
theorem m_isThere (hV : VT T) (hT : RTm 1 T v) (hw : w < 27 ^ 8) (h28 : v.2 0 28 = lN (cv w)) : X12_isThere v = some (b2 (takB T w = true)) := by
  have h1 := hV.np
  have h2 := hV.nb
  have h3 := hV.na
  have e1 : aI skM v 1 6 = some (nI (T 0 0)) := m_many1 (k := 0) (by omega) hT.np
  have e2 : aI skM v 1 7 = some (nI (T 0 1)) := m_many1 (k := 1) (by omega) hT.nb
  have e3 : aI skM v 1 8 = some (nI (T 0 2)) := m_many1 (k := 2) (by omega) hT.na
  have p1 : X12_placeIn v 2 10 (nI (T 0 0)) (lN (cv w)) = some (oI (pnS T w)) := m_pn (d := 1) (by omega) hV hT hw
  have p2 : X12_placeIn v 3 6 (nI (T 0 1)) (lN (cv w)) = some (oI (bnS T w)) := m_bn (d := 1) (by omega) hV hT hw
  have p3 : X12_placeIn v 4 24 (nI (T 0 2)) (lN (cv w)) = some (oI (anS T w)) := m_an (d := 1) (by omega) hV hT hw
  unfold X12_isThere X12_isThere_b72 X12_isThere_b77 takB
  rw [h28, bnd e1, bnd p1, bnd e2, bnd p2, bnd e3, bnd p3]
  cases hp : pnS T w with
  | some p =>
    have := pnS_lt hp
    rw [if_neg (show ¬ oI (some p) = -1 from (nI_m1 (show p < 2 ^ 31 by omega)).mp), b2_t (by simp)]
    rfl
  | none =>
    rw [if_pos (show oI none = -1 from rfl)]
    cases hb : bnS T w with
    | some p =>
      have := bnS_lt hb
      rw [if_neg (show ¬ oI (some p) = -1 from (nI_m1 (show p < 2 ^ 31 by omega)).mp), b2_t (by simp)]
      rfl
    | none =>
      rw [if_pos (show oI none = -1 from rfl)]
      cases ha : anS T w with
      | some p =>
        have := anS_lt ha
        rw [if_neg (show ¬ oI (some p) = -1 from (nI_m1 (show p < 2 ^ 31 by omega)).mp), b2_t (by simp)]
        rfl
      | none =>
        rw [if_pos (show oI none = -1 from rfl), b2_f (by simp)]
        rfl
end NMD
/-! both, while a BOOK is read -/
def sBk (c : Nat) : Prop := c = 1 ∨ 117 ≤ c
def lo (c : Nat) : Nat := if c = 1 ∨ c = 3 then 6 else if c = 2 ∨ 13 ≤ c then 10 else if c = 8 then 96 else if c = 10 then 144 else 24
/-- what is told stays -/
def BXm (v0 v : gM) : Prop := (∀ c i, 1 ≤ c → c ≤ 15 → i < lo c → v.1 c i = v0.1 c i ∧ v.2 c i = v0.2 c i) ∧ (∀ c, 16 ≤ c → c ≤ 18 → v.1 c = v0.1 c) ∧ (∀ j, j = 17 ∨ j = 21 ∨ j = 22 ∨ j = 32 ∨ j = 34 ∨ j = 44 → v.1 0 j = v0.1 0 j)
theorem BXm.l {v0 v : gM} (h : BXm v0 v) : ∀ c i, 1 ≤ c → c ≤ 15 → i < lo c → v.1 c i = v0.1 c i ∧ v.2 c i = v0.2 c i := h.1
theorem BXm.c {v0 v : gM} (h : BXm v0 v) : ∀ c, 16 ≤ c → c ≤ 18 → v.1 c = v0.1 c := h.2.1
theorem BXm.i {v0 v : gM} (h : BXm v0 v) : ∀ j, j = 17 ∨ j = 21 ∨ j = 22 ∨ j = 32 ∨ j = 34 ∨ j = 44 → v.1 0 j = v0.1 0 j := h.2.2
def VD (D : gT) : Prop := (VT D) ∧ (∀ a k, a < D 0 2 → k < D 6 a → 0 < D 14 (a * 6 + k)) ∧ (∀ p, p < D 0 0 → 0 < D 11 p)
theorem VD.t {D : gT} (h : VD D) : VT D := h.1
theorem VD.hz {D : gT} (h : VD D) : ∀ a k, a < D 0 2 → k < D 6 a → 0 < D 14 (a * 6 + k) := h.2.1
theorem VD.pz {D : gT} (h : VD D) : ∀ p, p < D 0 0 → 0 < D 11 p := h.2.2
def BS (u0 v0 : gM) (s : tpT) (t : tkT) (D : gT) (u v : gM) : Prop := (TKV s.2 s.1 t) ∧ (Pc s t u) ∧ (Pm s t v) ∧ (RT 117 D u) ∧ (RTm 1 D v) ∧ (RKm 1 D v) ∧ (VD D) ∧ (off sBk u0 u) ∧ (BXm v0 v)
theorem BS.V {u0 v0 : gM} {s : tpT} {t : tkT} {D : gT} {u v : gM} (h : BS u0 v0 s t D u v) : TKV s.2 s.1 t := h.1
theorem BS.c {u0 v0 : gM} {s : tpT} {t : tkT} {D : gT} {u v : gM} (h : BS u0 v0 s t D u v) : Pc s t u := h.2.1
theorem BS.m {u0 v0 : gM} {s : tpT} {t : tkT} {D : gT} {u v : gM} (h : BS u0 v0 s t D u v) : Pm s t v := h.2.2.1
theorem BS.rc {u0 v0 : gM} {s : tpT} {t : tkT} {D : gT} {u v : gM} (h : BS u0 v0 s t D u v) : RT 117 D u := h.2.2.2.1
theorem BS.rm {u0 v0 : gM} {s : tpT} {t : tkT} {D : gT} {u v : gM} (h : BS u0 v0 s t D u v) : RTm 1 D v := h.2.2.2.2.1
theorem BS.rk {u0 v0 : gM} {s : tpT} {t : tkT} {D : gT} {u v : gM} (h : BS u0 v0 s t D u v) : RKm 1 D v := h.2.2.2.2.2.1
theorem BS.d {u0 v0 : gM} {s : tpT} {t : tkT} {D : gT} {u v : gM} (h : BS u0 v0 s t D u v) : VD D := h.2.2.2.2.2.2.1
theorem BS.oc {u0 v0 : gM} {s : tpT} {t : tkT} {D : gT} {u v : gM} (h : BS u0 v0 s t D u v) : off sBk u0 u := h.2.2.2.2.2.2.2.1
theorem BS.om {u0 v0 : gM} {s : tpT} {t : tkT} {D : gT} {u v : gM} (h : BS u0 v0 s t D u v) : BXm v0 v := h.2.2.2.2.2.2.2.2
def BF (u0 v0 u v : gM) : Prop := ∃ k p, 1 ≤ k ∧ k ≤ 6 ∧ p ≤ 700 ∧ Fc k p u ∧ Fm k p v ∧ off sBk u0 u ∧ BXm v0 v
section BSS
variable {u0 v0 u v u1 v1 : gM} {s : tpT} {t t1 : tkT} {D : gT}
theorem BXm.rf : BXm v v := ⟨fun _ _ _ _ _ => ⟨rfl, rfl⟩, fun _ _ _ => rfl, fun _ _ => rfl⟩
theorem BXm.k (h : BXm v0 v) (f : FMk v v1) : BXm v0 v1 := ⟨fun c i a b d => by rw [(f.o c (by omega)).1, (f.o c (by omega)).2]; exact h.l c i a b d, fun c a b => by rw [(f.o c (by omega)).1]; exact h.c c a b, fun j hj => by rw [f.i j (by omega)]; exact h.i j hj⟩
theorem off_o1 (h : off sBk u0 u) (o : o1 u u1) : off sBk u0 u1 := off_tr h (fun c hc => o c (fun z => hc (Or.inl z)))
theorem BS.go (h : BS u0 v0 s t D u v) (V1 : TKV s.2 s.1 t1) (c : Pc s t1 u1) (oc : o1 u u1) (m : Pm s t1 v1) (om : FMk v v1) : BS u0 v0 s t1 D u1 v1 :=
  ⟨V1, c, m, h.rc.mv (fun c a _ => oc c (by omega)), h.rm.mv (fun c a _ => om.o c (by omega)), by
    have := h.rk
    unfold RKm at *
    rw [(om.o 5 (by omega)).1]; exact this, h.d, off_o1 h.oc oc, h.om.k om⟩
theorem BS.no {k : Nat} (hS : TS s) (h : BS u0 v0 s t D u v) (hk : 1 ≤ k ∧ k ≤ 6) (c : Fc k t.2.1 u1) (oc : o1 u u1) (m : Fm k t.2.1 v1) (om : FMk v v1) : BF u0 v0 u1 v1 :=
  ⟨k, t.2.1, hk.1, hk.2, by have := h.V.l; have := h.V.m; have := hS.l; omega, c, m, off_o1 h.oc oc, h.om.k om⟩
theorem b_ref {k : Nat} (hS : TS s) (hk : 1 ≤ k ∧ k ≤ 6) (h : BS u0 v0 s t D u v) : ∃ u1 v1, X9_refuse (nI k) u = some (nI 0, u1) ∧ X12_fails (nI k) v = some (nI 0, v1) ∧ BF u0 v0 u1 v1 := by
  obtain ⟨u1, e1, f1, o1⟩ := c_refuse (k := k) h.c
  obtain ⟨v1, e2, f2, o2⟩ := m_fails (k := k) h.m
  exact ⟨u1, v1, e1, e2, h.no hS hk f1 o1 f2 o2⟩
theorem b_step (hS : TS s) (h : BS u0 v0 s t D u v) : ∃ u1 v1, X9_step u = some u1 ∧ X12_next v = some v1 ∧ BS u0 v0 s (nx s t) D u1 v1 ∧ o1 u u1 ∧ FMk v v1 := by
  obtain ⟨u1, e1, p1, f1⟩ := c_step hS h.V h.c
  obtain ⟨v1, e2, p2, f2⟩ := m_step hS h.V h.m
  exact ⟨u1, v1, e1, e2, h.go (nx_V h.V).1 p1 f1.o p2 f2.k, f1.o, f2.k⟩
theorem numO_k {B : Nat → Nat} {lo hi k : Nat} (h : numO B t lo hi = some k) : 1 ≤ k ∧ k ≤ 6 := by
  unfold numO at h
  split at h
  · split at h
    · cases h
    · cases h; omega
  · cases h; omega
theorem wrdO_k {B : Nat → Nat} {j k : Nat} (h : wrdO B t j = some k) : 1 ≤ k ∧ k ≤ 6 := by
  unfold wrdO at h
  split at h
  · cases h
  · cases h; omega
theorem smO_k {B : Nat → Nat} {k : Nat} (h : smO B t = some k) : 1 ≤ k ∧ k ≤ 6 := by
  unfold smO at h
  split at h
  · cases h
  · cases h; omega
theorem knO_k {B : Nat → Nat} {f : Option Nat} {k : Nat} (h : knO B t f = some k) : 1 ≤ k ∧ k ≤ 6 := by
  unfold knO at h
  split at h
  · split at h
    · cases h; omega
    · cases h
  · cases h; omega
theorem nwO_k {B : Nat → Nat} {tk fu : Bool} {k : Nat} (h : nwO B t tk fu = some k) : 1 ≤ k ∧ k ≤ 6 := by
  unfold nwO at h
  split at h
  · split at h
    · cases h; omega
    · split at h
      · cases h; omega
      · cases h
  · cases h; omega
theorem b_num {lo hi : Nat} (hS : TS s) (h : BS u0 v0 s t D u v) (hlo : lo < 2 ^ 31) (hhi : hi < 2 ^ 31) :
    (∃ u1 v1, X9_passNumber (nI lo) (nI hi) u = some (nI 0, u1) ∧ X12_readNumber (lN lo) (lN hi) v = some (nI 0, v1) ∧ BF u0 v0 u1 v1) ∨
    (lo ≤ tnu s.2 t ∧ tnu s.2 t ≤ hi ∧ ∃ u1 v1, X9_passNumber (nI lo) (nI hi) u = some (nI 1, u1) ∧ X12_readNumber (lN lo) (lN hi) v = some (nI 1, v1) ∧ BS u0 v0 s (nx s t) D u1 v1 ∧ u1.1 1 6 = nI (tnu s.2 t) ∧ v1.1 0 31 = nI (tnu s.2 t) ∧ o1 u u1 ∧ FMk v v1) := by
  cases hO : numO s.2 t lo hi with
  | some k =>
    obtain ⟨u1, e1, f1, o1⟩ := c_numF h.V h.c hlo hhi hO
    obtain ⟨v1, e2, f2, o2⟩ := m_numF h.V hS h.m hlo hhi hO
    exact Or.inl ⟨u1, v1, e1, e2, h.no hS (numO_k hO) f1 o1 f2 o2⟩
  | none =>
    obtain ⟨u1, e1, p1, n1, f1⟩ := c_num hS h.V h.c hlo hhi hO
    obtain ⟨v1, e2, p2, n2, f2⟩ := m_num hS h.V h.m hlo hhi hO
    have hb : lo ≤ tnu s.2 t ∧ tnu s.2 t ≤ hi := by
      unfold numO at hO
      split at hO
      · split at hO
        · assumption
        · cases hO
      · cases hO
    exact Or.inr ⟨hb.1, hb.2, u1, v1, e1, e2, h.go (nx_V h.V).1 p1 f1 p2 f2, n1, n2, f1, f2⟩
theorem b_word {i j : Nat} (hj : j < 21) (hi : i < 22) (hi1 : 1 ≤ i) (hd : jd i = j) (hS : TS s) (h : BS u0 v0 s t D u v) :
    (∃ u1 v1, X9_passWord (nI j) u = some (nI 0, u1) ∧ X12_takes i v = some (nI 0, v1) ∧ BF u0 v0 u1 v1) ∨
    (∃ u1 v1, X9_passWord (nI j) u = some (nI 1, u1) ∧ X12_takes i v = some (nI 1, v1) ∧ BS u0 v0 s (nx s t) D u1 v1 ∧ o1 u u1 ∧ FMk v v1) := by
  cases hO : wrdO s.2 t j with
  | some k =>
    obtain ⟨u1, e1, f1, o1⟩ := c_wordF hj h.c hO
    obtain ⟨v1, e2, f2, o2⟩ := m_takesF hi hi1 hd hS h.V h.m hO
    exact Or.inl ⟨u1, v1, e1, e2, h.no hS (wrdO_k hO) f1 o1 f2 o2⟩
  | none =>
    obtain ⟨u1, e1, p1, f1⟩ := c_word hj hS h.V h.c hO
    obtain ⟨v1, e2, p2, f2⟩ := m_takes hi hi1 hd hS h.V h.m hO
    exact Or.inr ⟨u1, v1, e1, e2, h.go (nx_V h.V).1 p1 f1 p2 f2, f1, f2⟩
theorem b_semi (hS : TS s) (h : BS u0 v0 s t D u v) :
    (∃ u1 v1, X9_passSemicolon u = some (nI 0, u1) ∧ X12_ends v = some (nI 0, v1) ∧ BF u0 v0 u1 v1) ∨
    (t.1 ≠ 0 ∧ ∃ u1 v1, X9_passSemicolon u = some (nI 1, u1) ∧ X12_ends v = some (nI 1, v1) ∧ BS u0 v0 s (nx s t) D u1 v1) := by
  cases hO : smO s.2 t with
  | some k =>
    obtain ⟨u1, e1, f1, o1⟩ := c_semiF h.V h.c hO
    obtain ⟨v1, e2, f2, o2⟩ := m_endsF hS h.V h.m hO
    exact Or.inl ⟨u1, v1, e1, e2, h.no hS (smO_k hO) f1 o1 f2 o2⟩
  | none =>
    obtain ⟨u1, e1, p1, f1⟩ := c_semi hS h.V h.c hO
    obtain ⟨v1, e2, p2, f2⟩ := m_ends hS h.V h.m hO
    refine Or.inr ⟨?_, u1, v1, e1, e2, h.go (nx_V h.V).1 p1 f1 p2 f2⟩
    unfold smO at hO
    split at hO
    · next h1 => have := h1.1; omega
    · cases hO
end BSS
