/-! LINES: an ACCOUNT's OWNERS -/
def OWn (D : gT) (m : Nat) (O : Nat → Nat) (u v : gM) : Prop := (u.1 125 (D 0 2) = nI m) ∧ (∀ j, j < m → u.1 127 (D 0 2 * 4 + j) = nI (O j)) ∧ (v.1 7 (24 + D 0 2) = nI m) ∧ (∀ j, j < m → v.1 8 (4 * (24 + D 0 2) + j) = nI (O j)) ∧ (∀ j, j < m → O j < D 0 0) ∧ (∀ i j, i < m → j < m → O i = O j → i = j)
theorem OWn.c {D : gT} {m : Nat} {O : Nat → Nat} {u v : gM} (h : OWn D m O u v) : u.1 125 (D 0 2) = nI m := h.1
theorem OWn.w {D : gT} {m : Nat} {O : Nat → Nat} {u v : gM} (h : OWn D m O u v) : ∀ j, j < m → u.1 127 (D 0 2 * 4 + j) = nI (O j) := h.2.1
theorem OWn.x {D : gT} {m : Nat} {O : Nat → Nat} {u v : gM} (h : OWn D m O u v) : v.1 7 (24 + D 0 2) = nI m := h.2.2.1
theorem OWn.y {D : gT} {m : Nat} {O : Nat → Nat} {u v : gM} (h : OWn D m O u v) : ∀ j, j < m → v.1 8 (4 * (24 + D 0 2) + j) = nI (O j) := h.2.2.2.1
theorem OWn.r {D : gT} {m : Nat} {O : Nat → Nat} {u v : gM} (h : OWn D m O u v) : ∀ j, j < m → O j < D 0 0 := h.2.2.2.2.1
theorem OWn.d {D : gT} {m : Nat} {O : Nat → Nat} {u v : gM} (h : OWn D m O u v) : ∀ i j, i < m → j < m → O i = O j → i = j := h.2.2.2.2.2
def owk (O : Nat → Nat) (k n : Nat) : Option Nat → Option Nat
  | none => none
  | some p => fstN (fun j => O j = p) k n
def owf (O : Nat → Nat) (m : Nat) (f : Option Nat) : Option Nat := owk O 0 m f
def fO (u u' : gM) : Prop := ∀ c : Nat, c ≠ 1 → c ≠ 125 → c ≠ 127 → u'.1 c = u.1 c ∧ u'.2 c = u.2 c
def fM (v v' : gM) : Prop := ∀ c : Nat, c ≠ 0 → c ≠ 7 → c ≠ 8 → v'.1 c = v.1 c ∧ v'.2 c = v.2 c
section OWS
variable {u0 v0 u v u1 v1 u' v' : gM} {s : tpT} {t t1 : tkT} {D : gT} {m : Nat} {O : Nat → Nat}
theorem fO.tr {w : gM} (h : fO u u') (h2 : fO u' w) : fO u w := fun c a b d => ⟨(h2 c a b d).1.trans (h c a b d).1, (h2 c a b d).2.trans (h c a b d).2⟩
theorem fM.tr {w : gM} (h : fM v v') (h2 : fM v' w) : fM v w := fun c a b d => ⟨(h2 c a b d).1.trans (h c a b d).1, (h2 c a b d).2.trans (h c a b d).2⟩
theorem c_own_l {fo : Option Nat} (hm : m ≤ 4) (ha : D 0 2 < 24) (hnp : D 0 0 ≤ 10) (h : OWn D m O u v) (hf : ∀ p, fo = some p → p < D 0 0) : ∀ (f k : Nat), k ≤ m → m - k < f → X10_ownerOf_l7 u f 117 (nI (D 0 2)) (oI fo) (nI (D 0 2 * 4)) (nI k) = some (oI (owk O k (m - k) fo)) := by
  intro f
  induction f with
  | zero => intro k h1 h2; omega
  | succ f ih =>
    intro k h1 h2
    unfold X10_ownerOf_l7 X10_ownerOf_b7
    rw [if_pos TOk_117.o, TOk_117.f13, TOk_117.f15, bnd (aC125 ha), h.c]
    by_cases h4 : k = m
    · rw [h4, if_pos (Int32.le_refl _), Nat.sub_self]
      cases fo <;> rfl
    · have hk : k < m := by omega
      have hr := h.r k hk
      rw [if_neg (show ¬ nI m ≤ nI k by rw [nI_leI (by omega) (by omega)]; omega), nI_add, bnd (aC127 (show D 0 2 * 4 + k < 96 by omega)), h.w k hk]
      have e := ih (k + 1) (by omega) (by omega)
      rw [show m - k = (m - (k + 1)) + 1 by omega]
      cases hfo : fo with
      | none =>
        rw [hfo] at e
        rw [if_neg (show ¬ nI (O k) = oI none from (nI_m1 (show O k < 2 ^ 31 by omega)).mp), nI_s]
        exact e
      | some p =>
        have hp := hf p hfo
        rw [hfo] at e
        show _ = some (oI (if O k = p then some k else fstN (fun j => O j = p) (k + 1) (m - (k + 1))))
        by_cases h5 : O k = p
        · rw [if_pos (show nI (O k) = oI (some p) by rw [h5]; rfl), if_pos h5]
          rfl
        · rw [if_neg (show ¬ nI (O k) = oI (some p) from fun z => h5 ((nI_eq (by omega) (by omega)).mp z)), if_neg h5, nI_s]
          exact e
theorem c_own {fo : Option Nat} (hm : m ≤ 4) (ha : D 0 2 < 24) (hnp : D 0 0 ≤ 10) (h : OWn D m O u v) (hf : ∀ p, fo = some p → p < D 0 0) : X10_ownerOf u 117 (nI (D 0 2)) (oI fo) = some (oI (owf O m fo)) := by
  unfold X10_ownerOf
  rw [show (nI (D 0 2) * 4 : Int32) = nI (D 0 2 * 4) by rw [nI_lit, pk_mul]]
  have e := c_own_l hm ha hnp h hf fz 0 (Nat.zero_le _) (fz_lt (by omega))
  exact e
theorem m_own78 {k30 : Int32 → Int32 → gM → Option (Int32 × gM)} {p : Nat} {x2 : Int32} (hm : m ≤ 4) (ha : D 0 2 < 24) (hnp : D 0 0 ≤ 10) (h : OWn D m O u v) (hp : p < D 0 0) : ∀ (f k : Nat), k ≤ m → m - k < f → ((∃ j, fstN (fun j => O j = p) k (m - k) = some j) ∧ X12_readOwners_l78 k30 f (nI (24 + D 0 2)) x2 (nI p) (nI k) v = ((X12_fails 3 v).bind fun w106 => ((bI w106.1).bind fun v109 => some (v109, w106.2)))) ∨ (fstN (fun j => O j = p) k (m - k) = none ∧ ∃ g, X12_readOwners_l78 k30 f (nI (24 + D 0 2)) x2 (nI p) (nI k) v = X12_readOwners_b78 k30 (X12_readOwners_l78 k30 g) (nI (24 + D 0 2)) x2 (nI p) (nI m) v) := by
  intro f
  induction f with
  | zero => intro k h1 h2; omega
  | succ f ih =>
    intro k h1 h2
    by_cases h4 : k = m
    · subst h4
      refine Or.inr ⟨by rw [Nat.sub_self]; rfl, f, rfl⟩
    · have hk : k < m := by omega
      have hr := h.r k hk
      have e0 : X12_readOwners_l78 k30 (f + 1) (nI (24 + D 0 2)) x2 (nI p) (nI k) v = (if nI (O k) = nI p then ((X12_fails 3 v).bind fun w106 => ((bI w106.1).bind fun v109 => some (v109, w106.2))) else X12_readOwners_l78 k30 f (nI (24 + D 0 2)) x2 (nI p) (nI (k + 1)) v) := by
        show X12_readOwners_b78 k30 (X12_readOwners_l78 k30 f) (nI (24 + D 0 2)) x2 (nI p) (nI k) v = _
        unfold X12_readOwners_b78
        rw [bnd (aM7 (show 24 + D 0 2 < 48 by omega)), h.x, if_neg (show ¬ nI m ≤ nI k by rw [nI_leI (by omega) (by omega)]; omega), show (4 * nI (24 + D 0 2) + nI k : Int32) = nI (4 * (24 + D 0 2) + k) by rw [nI_lit, pk_mul, nI_add], bnd (aM8 (show 4 * (24 + D 0 2) + k < 192 by omega)), h.y k hk, nI_s]
      rw [e0, show m - k = (m - (k + 1)) + 1 by omega]
      unfold fstN
      by_cases h5 : O k = p
      · rw [if_pos (show nI (O k) = nI p by rw [h5]), if_pos h5]
        exact Or.inl ⟨⟨k, rfl⟩, rfl⟩
      · rw [if_neg (show ¬ nI (O k) = nI p by rw [nI_eq (by omega) (by omega)]; exact h5), if_neg h5]
        exact ih (k + 1) (by omega) (by omega)
theorem OWn.mv (h : OWn D m O u v) (c1 : u1.1 125 = u.1 125) (c2 : u1.1 127 = u.1 127) (c3 : v1.1 7 = v.1 7) (c4 : v1.1 8 = v.1 8) : OWn D m O u1 v1 :=
  ⟨by rw [c1]; exact h.c, by rw [c2]; exact h.w, by rw [c3]; exact h.x, by rw [c4]; exact h.y, h.r, h.d⟩
theorem OWn.add {p : Nat} (hm : m < 4) (h : OWn D m O u v) (hp : p < D 0 0) (hn : fstN (fun j => O j = p) 0 m = none) : OWn D (m + 1) (upN O m p) (upI (upI u 127 (D 0 2 * 4 + m) (nI p)) 125 (D 0 2) (nI (m + 1))) (upI (upI v 8 (4 * (24 + D 0 2) + m) (nI p)) 7 (24 + D 0 2) (nI (m + 1))) := by
  have hne : ∀ j, j < m → O j ≠ p := fun j hj => fstN_none hn j (Nat.zero_le _) (by omega)
  refine ⟨upI_at, fun j hj => ?_, upI_at, fun j hj => ?_, fun j hj => ?_, fun i j hi hj e => ?_⟩
  · rw [upI_k (by omega)]
    by_cases z : j = m
    · subst z; rw [upI_at, upN_at]
    · rw [upI_j (by omega), upN_i z]; exact h.w j (by omega)
  · rw [upI_k (by omega)]
    by_cases z : j = m
    · subst z; rw [upI_at, upN_at]
    · rw [upI_j (by omega), upN_i z]; exact h.y j (by omega)
  · by_cases z : j = m
    · subst z; rw [upN_at]; exact hp
    · rw [upN_i z]; exact h.r j (by omega)
  · by_cases z : i = m
    · by_cases y : j = m
      · omega
      · rw [z, upN_at, upN_i y] at e
        exact absurd e.symm (hne j (by omega))
    · by_cases y : j = m
      · rw [y, upN_at, upN_i z] at e
        exact absurd e (hne i (by omega))
      · rw [upN_i z, upN_i y] at e
        exact h.d i j (by omega) (by omega) e
theorem c_b90 {k : Int32 → Int32 → Int32 → gM → Option (Int32 × gM)} {x1 x3 x4 x5 s0 : Int32} (h : x4 = x3 → x5 ≠ -1 → s0 ≠ 0) : X0_readOwners_b90 k x1 x3 x4 x5 s0 u = X0_readOwners_b118 k x1 x3 x4 x5 s0 u := by
  unfold X0_readOwners_b90
  by_cases z : x4 = x3
  · rw [if_pos z]
    by_cases y : x5 = -1
    · rw [if_pos y]
    · rw [if_neg y, if_neg (h z y)]
  · rw [if_neg z]
/-- OWNERS, one after the other -/
theorem b_owners {most : Nat} (hS : TS s) (hmo : most ≤ 4) (hmo1 : 1 ≤ most) (ha : D 0 2 < 24) : ∀ (f m : Nat) (O : Nat → Nat) (t : tkT) (u v : gM), m ≤ most → most + 1 - m < f → (m = 0 ∨ isNm s.2 t) → BS u0 v0 s t D u v → OWn D m O u v →
    (∃ u1 v1, X0_readOwners_l33 f (nI (D 0 2)) (nI most) (nI m) u = some (nI 0, u1) ∧ X12_readOwners_l30 f (nI (24 + D 0 2)) (nI most) v = some (nI 0, v1) ∧ BF u0 v0 u1 v1) ∨
    (∃ t' m' O' u1 v1, X0_readOwners_l33 f (nI (D 0 2)) (nI most) (nI m) u = some (nI 1, u1) ∧ X12_readOwners_l30 f (nI (24 + D 0 2)) (nI most) v = some (nI 1, v1) ∧ 1 ≤ m' ∧ m' ≤ most ∧ t.2.2 ≤ t'.2.1 ∧ BS u0 v0 s t' D u1 v1 ∧ OWn D m' O' u1 v1 ∧ fO u u1 ∧ fM v v1) := by
  intro f
  induction f with
  | zero => intro m O t u v h1 h2; omega
  | succ f ih =>
    intro m O t u v h1 h2 hg h hO
    have hV := h.d.t
    have hnp := hV.np
    have hq := q_pn TOk_117 hV h.rc (w := tnm s.2 t) (nm62 (tnm_lt h.V))
    have hp0 : X12_placeIn v 2 10 (nI (D 0 0)) (lN (cv (tnm s.2 t))) = some (oI (pnS D (tnm s.2 t))) := m_pn (d := 1) (by omega) hV h.rm (tnm_lt h.V)
    have hnm := m_isName h.V hS.l h.m.tk
    have e6 : aI skM v 1 6 = some (nI (D 0 0)) := m_many1 (k := 0) (by omega) h.rm.np
    have how := c_own (fo := pnS D (tnm s.2 t)) (by omega) ha hnp hO (fun p hp => pnS_lt hp)
    have eH : X0_readOwners_l33 (f + 1) (nI (D 0 2)) (nI most) (nI m) u = X0_readOwners_b55 (X0_readOwners_l33 f) (nI (D 0 2)) (nI most) (nI m) u := by
      show X0_readOwners_b33 (X0_readOwners_l33 f) (nI (D 0 2)) (nI most) (nI m) u = _
      unfold X0_readOwners_b33
      rw [if_neg (show ¬ nI most < nI m by rw [nI_ltI (by omega) (by omega)]; omega)]
      by_cases z : m = 0
      · rw [if_pos (show nI m = 0 by rw [z]; rfl)]
      · rw [if_neg (show ¬ nI m = 0 by rw [nI_lit, nI_eq (by omega) (by omega)]; exact z), if_pos (h.c.nm.mpr (hg.resolve_left z))]
    rw [eH]
    unfold X0_readOwners_b55 X12_readOwners_l30 X12_readOwners_b30
    rw [h.c.tk.n, bnd hq, bnd how, bnd hnm]
    have hfl : ∀ n, pnS D (tnm s.2 t) = some n → n < 2 ^ 31 := fun n hn => by have := pnS_lt hn; omega
    by_cases g1 : isNm s.2 t
    · have s1 : u.1 1 3 = 1 := h.c.nm.mpr g1
      rw [b2_t g1, if_neg n10, bnd e6, h.m.tk.w, bnd hp0]
      cases hf : pnS D (tnm s.2 t) with
      | none =>
        have hO2 : knO s.2 t none = some 3 := by unfold knO; rw [if_pos g1, if_pos rfl]
        obtain ⟨u1, c1, d1, oo⟩ := c_knownF (f := none) (fun n hn => by cases hn) h.c hO2
        obtain ⟨v1, c2, d2, om⟩ := m_ref (k := 3) h.m
        refine Or.inl ⟨u1, v1, ?_, ?_, h.no hS (by omega) d1 oo d2 om⟩
        · rw [show oI (owf O m none) = -1 from rfl, if_pos rfl, c_b90 (fun _ y => absurd (show oI none = -1 from rfl) y)]
          unfold X0_readOwners_b118 X0_readOwners_b133
          rw [if_pos rfl, bnd c1, if_pos z00]
          rfl
        · rw [if_pos (show oI none = -1 from rfl)]
          exact c2
      | some p =>
        have hp := pnS_lt hf
        have np1 : ¬ oI (some p) = -1 := (nI_m1 (show p < 2 ^ 31 by omega)).mp
        rw [if_neg np1]
        rcases m_own78 (k30 := X12_readOwners_l30 f) (x2 := nI most) (p := p) (by omega) ha hnp hO hp fz 0 (Nat.zero_le _) (fz_lt (by omega)) with ⟨⟨j, hj⟩, e78⟩ | ⟨hj, g, e78⟩
        · have hO2 : knO s.2 t none = some 3 := by unfold knO; rw [if_pos g1, if_pos rfl]
          obtain ⟨u1, c1, d1, oo⟩ := c_knownF (f := none) (fun n hn => by cases hn) h.c hO2
          obtain ⟨v1, c2, d2, om⟩ := m_ref (k := 3) h.m
          have hjm := fst_lt (P := fun j => O j = p) hj
          refine Or.inl ⟨u1, v1, ?_, ?_, h.no hS (by omega) d1 oo d2 om⟩
          · rw [show owf O m (some p) = some j from hj, if_neg (show ¬ oI (some j) = -1 from (nI_m1 (show j < 2 ^ 31 by omega)).mp), c_b90 (fun _ _ => show (1 : Int32) ≠ 0 by decide)]
            unfold X0_readOwners_b118 X0_readOwners_b133
            rw [if_neg (show ¬ (1 : Int32) = 0 by decide), bnd (show X9_passKnown (-1) u = some (nI 0, u1) from c1), if_pos z00]
            rfl
          · exact e78.trans c2
        · rw [Nat.sub_zero] at hj
          rw [show owf O m (some p) = none from hj, if_pos (show oI none = -1 from rfl)]
          by_cases h3 : m < most
          · have hO2 : knO s.2 t (some p) = none := by unfold knO; rw [if_pos g1, if_neg (by simp)]
            obtain ⟨u1, c1, p1, oo⟩ := c_known (f := some p) (fun n hn => by cases hn; omega) hS h.V h.c hO2
            have hO4 : OWn D m O u1 v := hO.mv (oo 125 (by omega)).1 (oo 127 (by omega)).1 rfl rfl
            have hA := hO4.add (p := p) (by omega) hp hj
            have fm8 : FRI D 8 (4 * (24 + D 0 2) + m) := ⟨by omega, by omega, by omega, by omega, by omega⟩
            have fm7 : FRI D 7 (24 + D 0 2) := ⟨by omega, by omega, by omega, by omega, by omega⟩
            have fc127 : FCI D 127 (D 0 2 * 4 + m) := ⟨by omega, by omega, by omega, by omega⟩
            have fc125 : FCI D 125 (D 0 2) := ⟨by omega, by omega, by omega, by omega⟩
            have hM1 := (h.mI (x := nI p) fm8).mI (x := nI (m + 1)) fm7
            obtain ⟨v2, e2, p2, f2⟩ := m_step hS h.V hM1.m
            have hB1 := ((h.mI (x := nI p) fm8).mI (x := nI (m + 1)) fm7).go (nx_V h.V).1 p1 oo p2 f2.k
            have hB2 := (hB1.cI (x := nI p) fc127).cI (x := nI (m + 1)) fc125
            have hA2 : OWn D (m + 1) (upN O m p) (upI (upI u1 127 (D 0 2 * 4 + m) (nI p)) 125 (D 0 2) (nI (m + 1))) v2 := hA.mv rfl rfl (f2.c 7 (by omega)).1 (f2.c 8 (by omega)).1
            have fOx : fO u (upI (upI u1 127 (D 0 2 * 4 + m) (nI p)) 125 (D 0 2) (nI (m + 1))) := fun c a b d => ⟨by rw [upI_k b, upI_k d]; exact (oo c a).1, by rw [upI_2, upI_2]; exact (oo c a).2⟩
            have fMx : fM v v2 := fun c a b d => ⟨by rw [(f2.c c a).1, upI_k b, upI_k d], by rw [(f2.c c a).2, upI_2, upI_2]⟩
            have addO : X10_addOwner 117 (nI (D 0 2)) (oI (some p)) u1 = some (upI (upI u1 127 (D 0 2 * 4 + m) (nI p)) 125 (D 0 2) (nI (m + 1))) := by
              unfold X10_addOwner X10_addOwner_b32
              rw [if_pos TOk_117.o, TOk_117.f13, TOk_117.f15, bnd (aC125 ha), hO4.c, if_neg (show ¬ (4 : Int32) ≤ nI m by rw [nI_lit, nI_leI (by omega) (by omega)]; omega), show (nI (D 0 2) * 4 + nI m : Int32) = nI (D 0 2 * 4 + m) by rw [nI_lit, pk_mul, nI_add], bnd (sC127 (show D 0 2 * 4 + m < 96 by omega)), nI_s, bnd (sC125 ha)]
              rfl
            have eC : X0_readOwners_b90 (X0_readOwners_l33 f) (nI (D 0 2)) (nI most) (nI m) (oI (some p)) 0 u = X0_readOwners_l33 f (nI (D 0 2)) (nI most) (nI (m + 1)) (upI (upI u1 127 (D 0 2 * 4 + m) (nI p)) 125 (D 0 2) (nI (m + 1))) := by
              rw [c_b90 (fun z _ => absurd ((nI_eq (by omega) (by omega)).mp z) (by omega))]
              unfold X0_readOwners_b118 X0_readOwners_b133
              rw [if_pos rfl, bnd c1, if_neg n10, bnd addO, nI_s]
            have eM : X12_readOwners_l78 (X12_readOwners_l30 f) fz (nI (24 + D 0 2)) (nI most) (nI p) (nI 0) v = ((X12_isName v2).bind fun w163 => (if w163 = 0 then some (1, v2) else X12_readOwners_l30 f (nI (24 + D 0 2)) (nI most) v2)) := by
              rw [e78]
              unfold X12_readOwners_b78
              rw [bnd (aM7 (show 24 + D 0 2 < 48 by omega)), hO.x, if_pos (Int32.le_refl _), bnd (aM7 (show 24 + D 0 2 < 48 by omega)), hO.x, if_neg (show ¬ nI m = nI most by rw [nI_eq (by omega) (by omega)]; omega), bnd (aM7 (show 24 + D 0 2 < 48 by omega)), hO.x, show (4 * nI (24 + D 0 2) + nI m : Int32) = nI (4 * (24 + D 0 2) + m) by rw [nI_lit, pk_mul, nI_add], bnd (sM8 (show 4 * (24 + D 0 2) + m < 192 by omega)), bnd (aM7 (show 24 + D 0 2 < 48 by omega)), upI_k (show 7 ≠ 8 by omega), hO.x, nI_s, bnd (sM7 (show 24 + D 0 2 < 48 by omega)), bnd e2]
            have hnm2 := m_isName hB2.V hS.l hB2.m.tk
            have eM' : X12_readOwners_l78 (X12_readOwners_l30 f) fz (nI (24 + D 0 2)) (nI most) (oI (some p)) 0 v = ((X12_isName v2).bind fun w163 => (if w163 = 0 then some (1, v2) else X12_readOwners_l30 f (nI (24 + D 0 2)) (nI most) v2)) := eM
            rw [eC, eM', bnd hnm2]
            by_cases g2 : isNm s.2 (nx s t)
            · rw [b2_t g2, if_neg n10]
              rcases ih (m + 1) (upN O m p) (nx s t) _ _ (by omega) (by omega) (Or.inr g2) hB2 hA2 with hF | ⟨t', m', O', u3, v3, c3, d3, m1, m2, tt, h3, hO3, q1, q2⟩
              · exact Or.inl hF
              · refine Or.inr ⟨t', m', O', u3, v3, c3, d3, m1, m2, ?_, h3, hO3, fOx.tr q1, fMx.tr q2⟩
                have := (nx_V h.V).2
                have := hB2.V.l
                omega
            · have eE : X0_readOwners_l33 f (nI (D 0 2)) (nI most) (nI (m + 1)) (upI (upI u1 127 (D 0 2 * 4 + m) (nI p)) 125 (D 0 2) (nI (m + 1))) = some (nI 1, upI (upI u1 127 (D 0 2 * 4 + m) (nI p)) 125 (D 0 2) (nI (m + 1))) := by
                obtain ⟨g, hg2⟩ : ∃ g, f = g + 1 := ⟨f - 1, by omega⟩
                rw [hg2]
                show X0_readOwners_b33 (X0_readOwners_l33 g) (nI (D 0 2)) (nI most) (nI (m + 1)) _ = _
                unfold X0_readOwners_b33 X0_readOwners_b157
                rw [if_neg (show ¬ nI most < nI (m + 1) by rw [nI_ltI (by omega) (by omega)]; omega), if_neg (show ¬ nI (m + 1) = 0 by rw [nI_lit, nI_eq (by omega) (by omega)]; omega)]
                exact if_neg (fun z => g2 (hB2.c.nm.mp z))
              rw [b2_f g2, if_pos z00]
              exact Or.inr ⟨nx s t, m + 1, upN O m p, _, v2, eE, rfl, by omega, by omega, (nx_V h.V).2, hB2, hA2, fOx, fMx⟩
          · obtain ⟨u1, c1, d1, oo⟩ := c_ref (k := 5) h.c
            obtain ⟨v1, c2, d2, om⟩ := m_ref (k := 5) h.m
            refine Or.inl ⟨u1, v1, ?_, ?_, h.no hS (by omega) d1 oo d2 om⟩
            · unfold X0_readOwners_b90
              rw [if_pos (show nI m = nI most by rw [show m = most by omega]), if_neg np1, if_pos rfl]
              exact c1
            · refine Eq.trans e78 ?_
              unfold X12_readOwners_b78
              rw [bnd (aM7 (show 24 + D 0 2 < 48 by omega)), hO.x, if_pos (Int32.le_refl _), bnd (aM7 (show 24 + D 0 2 < 48 by omega)), hO.x, if_pos (show nI m = nI most by rw [show m = most by omega])]
              exact c2
    · have hO2 : ∀ fo, knO s.2 t fo = some 1 := fun fo => by unfold knO; rw [if_neg g1]
      obtain ⟨v1, c2, d2, om⟩ := m_ref (k := 1) h.m
      have s1 : ¬ u.1 1 3 = 1 := fun z => g1 (h.c.nm.mp z)
      rw [b2_f g1, if_pos z00]
      have m0 : m = 0 := hg.resolve_right g1
      have key : ∀ x5 : Int32, ∃ u1, X0_readOwners_b90 (X0_readOwners_l33 f) (nI (D 0 2)) (nI most) (nI m) (oI (pnS D (tnm s.2 t))) x5 u = some (nI 0, u1) ∧ Fc 1 t.2.1 u1 ∧ o1 u u1 := by
        intro x5
        rw [c_b90 (fun z _ => absurd ((nI_eq (by omega) (by omega)).mp z) (by omega))]
        unfold X0_readOwners_b118 X0_readOwners_b133
        by_cases hx : x5 = 0
        · obtain ⟨u1, c1, d1, oo⟩ := c_knownF hfl h.c (hO2 _)
          refine ⟨u1, ?_, d1, oo⟩
          rw [if_pos hx, bnd c1, if_pos z00]
          rfl
        · obtain ⟨u1, c1, d1, oo⟩ := c_knownF (f := none) (fun n hn => by cases hn) h.c (hO2 none)
          refine ⟨u1, ?_, d1, oo⟩
          rw [if_neg hx, bnd (show X9_passKnown (-1) u = some (nI 0, u1) from c1), if_pos z00]
          rfl
      by_cases hw : oI (owf O m (pnS D (tnm s.2 t))) = -1
      · obtain ⟨u1, c1, d1, oo⟩ := key 0
        refine Or.inl ⟨u1, v1, ?_, c2, h.no hS (by omega) d1 oo d2 om⟩
        rw [if_pos hw]
        exact c1
      · obtain ⟨u1, c1, d1, oo⟩ := key 1
        refine Or.inl ⟨u1, v1, ?_, c2, h.no hS (by omega) d1 oo d2 om⟩
        rw [if_neg hw]
        exact c1
end OWS
