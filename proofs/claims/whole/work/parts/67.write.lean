/-! what is written into drafts behind what they tell -/
def uT (D : gT) (r i x : Nat) : gT := fun a b => if a = r ∧ b = i then x else D a b
theorem uT_at {D : gT} {r i x : Nat} : uT D r i x r i = x := if_pos ⟨rfl, rfl⟩
theorem uT_n {D : gT} {r i x a b : Nat} (h : ¬ (a = r ∧ b = i)) : uT D r i x a b = D a b := if_neg h
def FRI (D : gT) (c i : Nat) : Prop := (c = 1 ∨ (5 ≤ c ∧ c ≤ 9) ∨ (11 ≤ c ∧ c ≤ 15)) ∧ (c = 1 → 12 ≤ i) ∧ ((c = 5 ∨ c = 6 ∨ c = 7 ∨ c = 9 ∨ c = 11 ∨ c = 12) → 24 + D 0 2 ≤ i) ∧ (c = 8 → 96 + 4 * D 0 2 ≤ i) ∧ (13 ≤ c → 10 + D 0 3 ≤ i)
theorem FRI.b {D : gT} {c i : Nat} (h : FRI D c i) : c = 1 ∨ (5 ≤ c ∧ c ≤ 9) ∨ (11 ≤ c ∧ c ≤ 15) := h.1
theorem FRI.o {D : gT} {c i : Nat} (h : FRI D c i) : c = 1 → 12 ≤ i := h.2.1
theorem FRI.a {D : gT} {c i : Nat} (h : FRI D c i) : (c = 5 ∨ c = 6 ∨ c = 7 ∨ c = 9 ∨ c = 11 ∨ c = 12) → 24 + D 0 2 ≤ i := h.2.2.1
theorem FRI.w {D : gT} {c i : Nat} (h : FRI D c i) : c = 8 → 96 + 4 * D 0 2 ≤ i := h.2.2.2.1
theorem FRI.l {D : gT} {c i : Nat} (h : FRI D c i) : 13 ≤ c → 10 + D 0 3 ≤ i := h.2.2.2.2
def FRJ (D : gT) (c i : Nat) : Prop := (c = 2 ∨ c = 3 ∨ c = 4 ∨ c = 10) ∧ (c = 2 → 10 + D 0 0 ≤ i) ∧ (c = 3 → 6 + D 0 1 ≤ i) ∧ (c = 4 → 24 + D 0 2 ≤ i) ∧ (c = 10 → 144 + 6 * D 0 2 ≤ i)
theorem FRJ.b {D : gT} {c i : Nat} (h : FRJ D c i) : c = 2 ∨ c = 3 ∨ c = 4 ∨ c = 10 := h.1
theorem FRJ.p {D : gT} {c i : Nat} (h : FRJ D c i) : c = 2 → 10 + D 0 0 ≤ i := h.2.1
theorem FRJ.k {D : gT} {c i : Nat} (h : FRJ D c i) : c = 3 → 6 + D 0 1 ≤ i := h.2.2.1
theorem FRJ.a {D : gT} {c i : Nat} (h : FRJ D c i) : c = 4 → 24 + D 0 2 ≤ i := h.2.2.2.1
theorem FRJ.h {D : gT} {c i : Nat} (h : FRJ D c i) : c = 10 → 144 + 6 * D 0 2 ≤ i := h.2.2.2.2
def FCI (D : gT) (c i : Nat) : Prop := (121 ≤ c ∧ c ≤ 131) ∧ (c ≤ 126 → D 0 2 ≤ i) ∧ (c = 127 → 4 * D 0 2 ≤ i) ∧ (129 ≤ c → D 0 3 ≤ i)
theorem FCI.b {D : gT} {c i : Nat} (h : FCI D c i) : 121 ≤ c ∧ c ≤ 131 := h.1
theorem FCI.a {D : gT} {c i : Nat} (h : FCI D c i) : c ≤ 126 → D 0 2 ≤ i := h.2.1
theorem FCI.w {D : gT} {c i : Nat} (h : FCI D c i) : c = 127 → 4 * D 0 2 ≤ i := h.2.2.1
theorem FCI.l {D : gT} {c i : Nat} (h : FCI D c i) : 129 ≤ c → D 0 3 ≤ i := h.2.2.2
def FCJ (D : gT) (c i : Nat) : Prop := (c = 118 ∨ c = 119 ∨ c = 120 ∨ c = 128) ∧ (c = 118 → D 0 0 ≤ i) ∧ (c = 119 → D 0 1 ≤ i) ∧ (c = 120 → D 0 2 ≤ i) ∧ (c = 128 → 6 * D 0 2 ≤ i)
theorem FCJ.b {D : gT} {c i : Nat} (h : FCJ D c i) : c = 118 ∨ c = 119 ∨ c = 120 ∨ c = 128 := h.1
theorem FCJ.p {D : gT} {c i : Nat} (h : FCJ D c i) : c = 118 → D 0 0 ≤ i := h.2.1
theorem FCJ.k {D : gT} {c i : Nat} (h : FCJ D c i) : c = 119 → D 0 1 ≤ i := h.2.2.1
theorem FCJ.a {D : gT} {c i : Nat} (h : FCJ D c i) : c = 120 → D 0 2 ≤ i := h.2.2.2.1
theorem FCJ.h {D : gT} {c i : Nat} (h : FCJ D c i) : c = 128 → 6 * D 0 2 ≤ i := h.2.2.2.2
section WR
variable {u0 v0 u v u1 v1 : gM} {s : tpT} {t t1 : tkT} {D : gT} {c i : Nat}
theorem upI_n {k j a b : Nat} {x : Int32} (h : ¬ (a = k ∧ b = j)) : (upI u k j x).1 a b = u.1 a b := by rw [upI_e, if_neg h]
theorem upJ_n {k j a b : Nat} {x : Int64} (h : ¬ (a = k ∧ b = j)) : (upJ u k j x).2 a b = u.2 a b := by rw [upJ_e, if_neg h]
theorem RTm_wI {x : Int32} (hV : VT D) (h : RTm 1 D v) (f : FRI D c i) : RTm 1 D (upI v c i x) := by
  have b := f.b; have o := f.o; have a := f.a; have w := f.w; have l := f.l
  have hnp := hV.np; have hnb := hV.nb; have hna := hV.na; have hnl := hV.nl; have hno := hV.no
  refine ⟨by rw [upI_n (by omega)]; exact h.np, by rw [upI_n (by omega)]; exact h.nb, by rw [upI_n (by omega)]; exact h.na, by rw [upI_n (by omega)]; exact h.nl, by rw [upI_n (by omega)]; exact h.li, by rw [upI_n (by omega)]; exact h.gr, h.pn, h.bn, h.an, fun y hy => by rw [upI_n (by omega)]; exact h.hm y hy, fun y hy => by rw [upI_n (by omega)]; exact h.tc y hy, fun y hy => by rw [upI_n (by omega)]; exact h.te y hy, fun y hy => by rw [upI_n (by omega)]; exact h.no y hy, fun y hy => by rw [upI_n (by omega)]; exact h.nh y hy, fun y k hy hk => by rw [upI_n (by have := hno y hy; omega)]; exact h.ow y k hy hk, h.hn, fun y hy => by rw [upI_n (by omega)]; exact h.lp y hy, fun y hy => by rw [upI_n (by omega)]; exact h.lb y hy, fun y hy => by rw [upI_n (by omega)]; exact h.lc y hy⟩
theorem RTm_wJ {x : Int64} (hV : VT D) (h : RTm 1 D v) (f : FRJ D c i) : RTm 1 D (upJ v c i x) := by
  have b := f.b; have p := f.p; have k := f.k; have a := f.a; have hh := f.h
  have hnh := hV.nh
  refine ⟨h.np, h.nb, h.na, h.nl, h.li, h.gr, fun y hy => by rw [upJ_n (by omega)]; exact h.pn y hy, fun y hy => by rw [upJ_n (by omega)]; exact h.bn y hy, fun y hy => by rw [upJ_n (by omega)]; exact h.an y hy, h.hm, h.tc, h.te, h.no, h.nh, h.ow, fun y k hy hk => by rw [upJ_n (by have := hnh y hy; omega)]; exact h.hn y k hy hk, h.lp, h.lb, h.lc⟩
theorem RKm_wI {x : Int32} (h : RKm 1 D v) (f : FRI D c i) : RKm 1 D (upI v c i x) := by
  have a := f.a
  intro y hy
  rw [upI_n (by omega)]; exact h y hy
theorem RT_wI {x : Int32} (hV : VT D) (h : RT 117 D u) (f : FCI D c i) : RT 117 D (upI u c i x) := by
  have b := f.b; have a := f.a; have w := f.w; have l := f.l
  have hno := hV.no
  refine ⟨by rw [upI_n (by omega)]; exact h.np, by rw [upI_n (by omega)]; exact h.nb, by rw [upI_n (by omega)]; exact h.na, by rw [upI_n (by omega)]; exact h.nl, by rw [upI_n (by omega)]; exact h.li, by rw [upI_n (by omega)]; exact h.gr, h.pn, h.bn, h.an, fun y hy => by rw [upI_n (by omega)]; exact h.kd y hy, fun y hy => by rw [upI_n (by omega)]; exact h.hm y hy, fun y hy => by rw [upI_n (by omega)]; exact h.tc y hy, fun y hy => by rw [upI_n (by omega)]; exact h.te y hy, fun y hy => by rw [upI_n (by omega)]; exact h.no y hy, fun y hy => by rw [upI_n (by omega)]; exact h.nh y hy, fun y k hy hk => by rw [upI_n (by have := hno y hy; omega)]; exact h.ow y k hy hk, h.hn, fun y hy => by rw [upI_n (by omega)]; exact h.lp y hy, fun y hy => by rw [upI_n (by omega)]; exact h.lb y hy, fun y hy => by rw [upI_n (by omega)]; exact h.lc y hy⟩
theorem RT_wJ {x : Int64} (hV : VT D) (h : RT 117 D u) (f : FCJ D c i) : RT 117 D (upJ u c i x) := by
  have b := f.b; have p := f.p; have k := f.k; have a := f.a; have hh := f.h
  have hnh := hV.nh
  refine ⟨h.np, h.nb, h.na, h.nl, h.li, h.gr, fun y hy => by rw [upJ_n (by omega)]; exact h.pn y hy, fun y hy => by rw [upJ_n (by omega)]; exact h.bn y hy, fun y hy => by rw [upJ_n (by omega)]; exact h.an y hy, h.kd, h.hm, h.tc, h.te, h.no, h.nh, h.ow, fun y k hy hk => by rw [upJ_n (by have := hnh y hy; omega)]; exact h.hn y k hy hk, h.lp, h.lb, h.lc⟩
theorem lo_I (f : FRI D c i) : lo c ≤ i := by
  have b := f.b; have o := f.o; have a := f.a; have w := f.w; have l := f.l
  unfold lo
  repeat' split
  all_goals omega
theorem lo_J (f : FRJ D c i) : lo c ≤ i := by
  have b := f.b; have p := f.p; have k := f.k; have a := f.a; have h := f.h
  unfold lo
  repeat' split
  all_goals omega
theorem BXm.wI {x : Int32} (h : BXm v0 v) (h1 : 1 ≤ c) (h2 : c ≤ 15) (hl : lo c ≤ i) : BXm v0 (upI v c i x) :=
  ⟨fun a b a1 a2 a3 => by
    rw [upI_2, upI_n (by rintro ⟨z1, z2⟩; subst z1; omega)]
    exact h.l a b a1 a2 a3, fun a a1 a2 => by rw [upI_k (by omega)]; exact h.c a a1 a2, fun j hj => by rw [upI_n (by omega)]; exact h.i j hj⟩
theorem BXm.wJ {x : Int64} (h : BXm v0 v) (h1 : 1 ≤ c) (h2 : c ≤ 15) (hl : lo c ≤ i) : BXm v0 (upJ v c i x) :=
  ⟨fun a b a1 a2 a3 => by
    rw [upJ_1, upJ_n (by rintro ⟨z1, z2⟩; subst z1; omega)]
    exact h.l a b a1 a2 a3, fun a a1 a2 => by rw [upJ_1]; exact h.c a a1 a2, fun j hj => by rw [upJ_1]; exact h.i j hj⟩
theorem Pm_wI {x : Int32} (h : Pm s t v) (h1 : c ≠ 0) (h2 : c ≠ 19) : Pm s t (upI v c i x) :=
  ⟨⟨by rw [upI_k (Ne.symm h1)]; exact h.tp.l, by rw [upI_k (Ne.symm h2)]; exact h.tp.b⟩, ⟨by rw [upI_k (Ne.symm h1)]; exact h.tk.p, by rw [upI_k (Ne.symm h1)]; exact h.tk.q, by rw [upI_k (Ne.symm h1)]; exact h.tk.s, h.tk.w, h.tk.m, by rw [upI_k (Ne.symm h1)]; exact h.tk.g⟩, by rw [upI_k (Ne.symm h1)]; exact h.f, by rw [upI_k (Ne.symm h1)]; exact h.g⟩
theorem Pm_wJ {x : Int64} (h : Pm s t v) (h1 : c ≠ 0) : Pm s t (upJ v c i x) :=
  ⟨⟨h.tp.l, h.tp.b⟩, ⟨h.tk.p, h.tk.q, h.tk.s, by rw [upJ_k (Ne.symm h1)]; exact h.tk.w, by rw [upJ_k (Ne.symm h1)]; exact h.tk.m, h.tk.g⟩, h.f, h.g⟩
theorem Pc_wI {x : Int32} (h : Pc s t u) (h1 : c ≠ 1) (h2 : c ≠ 2) : Pc s t (upI u c i x) :=
  ⟨⟨by rw [upI_k (Ne.symm h1)]; exact h.tp.l, by rw [upI_k (Ne.symm h2)]; exact h.tp.b⟩, ⟨by rw [upI_k (Ne.symm h1)]; exact h.tk.p, by rw [upI_k (Ne.symm h1)]; exact h.tk.q, by rw [upI_k (Ne.symm h1)]; exact h.tk.s, by rw [upI_k (Ne.symm h1)]; exact h.tk.w, h.tk.n, by rw [upI_k (Ne.symm h1)]; exact h.tk.m⟩, by rw [upI_k (Ne.symm h1)]; exact h.f, by rw [upI_k (Ne.symm h1)]; exact h.g⟩
theorem Pc_wJ {x : Int64} (h : Pc s t u) (h1 : c ≠ 1) : Pc s t (upJ u c i x) :=
  ⟨⟨h.tp.l, h.tp.b⟩, ⟨h.tk.p, h.tk.q, h.tk.s, h.tk.w, by rw [upJ_k (Ne.symm h1)]; exact h.tk.n, h.tk.m⟩, h.f, h.g⟩
theorem BS.mI {x : Int32} (h : BS u0 v0 s t D u v) (f : FRI D c i) : BS u0 v0 s t D u (upI v c i x) := by
  have b := f.b
  exact ⟨h.V, h.c, Pm_wI h.m (by omega) (by omega), h.rc, RTm_wI h.d.t h.rm f, RKm_wI h.rk f, h.d, h.oc, h.om.wI (by omega) (by omega) (lo_I f)⟩
theorem BS.mJ {x : Int64} (h : BS u0 v0 s t D u v) (f : FRJ D c i) : BS u0 v0 s t D u (upJ v c i x) := by
  have b := f.b
  exact ⟨h.V, h.c, Pm_wJ h.m (by omega), h.rc, RTm_wJ h.d.t h.rm f, h.rk, h.d, h.oc, h.om.wJ (by omega) (by omega) (lo_J f)⟩
theorem BS.cI {x : Int32} (h : BS u0 v0 s t D u v) (f : FCI D c i) : BS u0 v0 s t D (upI u c i x) v := by
  have b := f.b
  exact ⟨h.V, Pc_wI h.c (by omega) (by omega), h.m, RT_wI h.d.t h.rc f, h.rm, h.rk, h.d, off_upI (Or.inr (by omega)) h.oc, h.om⟩
theorem BS.cJ {x : Int64} (h : BS u0 v0 s t D u v) (f : FCJ D c i) : BS u0 v0 s t D (upJ u c i x) v := by
  have b := f.b
  exact ⟨h.V, Pc_wJ h.c (by omega), h.m, RT_wJ h.d.t h.rc f, h.rm, h.rk, h.d, off_upJ (Or.inr (by omega)) h.oc, h.om⟩
/-- a NAME that is none yet -/
theorem b_new {r wh mo : Nat} (hS : TS s) (h : BS u0 v0 s t D u v) (hr : skM[r]? = some (.inr (1, 2 * mo, []))) (hw : (r = 2 ∧ wh = 0 ∧ mo = 10) ∨ (r = 3 ∧ wh = 1 ∧ mo = 6) ∨ (r = 4 ∧ wh = 2 ∧ mo = 24)) :
    (∃ u1 v1, X9_passNew (b2 (takB D (tnm s.2 t) = true)) (b2 (decide (D 0 wh = mo) = true)) u = some (nI 0, u1) ∧ X12_readNew r (nI wh) (nI mo) v = some (nI 0, v1) ∧ BF u0 v0 u1 v1) ∨
    (t.1 = 1 ∧ D 0 wh < mo ∧ ∃ u1 v1, X9_passNew (b2 (takB D (tnm s.2 t) = true)) (b2 (decide (D 0 wh = mo) = true)) u = some (nI 1, u1) ∧ X12_readNew r (nI wh) (nI mo) v = some (nI 1, v1) ∧ BS u0 v0 s (nx s t) D u1 v1 ∧ v1.2 r (mo + D 0 wh) = lN (cv (tnm s.2 t)) ∧ o1 u u1) := by
  have hV := h.d.t
  have hnp := hV.np; have hnb := hV.nb; have hna := hV.na
  have hle : D 0 wh ≤ mo := by rcases hw with ⟨-, rfl, rfl⟩ | ⟨-, rfl, rfl⟩ | ⟨-, rfl, rfl⟩ <;> assumption
  have hmo : mo ≤ 24 ∧ r ≠ 0 := by omega
  have e0 : aI skM v 1 (6 + nI wh) = some (nI (D 0 wh)) := by
    rw [nI_lit, nI_add]
    rcases hw with ⟨-, rfl, rfl⟩ | ⟨-, rfl, rfl⟩ | ⟨-, rfl, rfl⟩
    · exact m_many1 (k := 0) (by omega) h.rm.np
    · exact m_many1 (k := 1) (by omega) h.rm.nb
    · exact m_many1 (k := 2) (by omega) h.rm.na
  have hnm := m_isName h.V hS.l h.m.tk
  have hth := m_isThere hV h.rm (tnm_lt h.V) h.m.tk.w
  cases hO : nwO s.2 t (takB D (tnm s.2 t)) (decide (D 0 wh = mo)) with
  | some k =>
    obtain ⟨u1, e1, f1, oo⟩ := c_newF h.c hO
    have hk := nwO_k hO
    obtain ⟨v1, e2, f2, p2⟩ := m_ref (k := k) h.m
    refine Or.inl ⟨u1, v1, e1, ?_, h.no hS hk f1 oo f2 p2⟩
    unfold X12_readNew
    unfold nwO at hO
    split at hO
    · next g1 =>
      rw [bnd hnm, b2_t g1, if_neg n10, bnd hth]
      split at hO
      · next g2 =>
        cases hO
        rw [b2_t g2, if_neg n10]
        exact e2
      · next g2 =>
        rw [b2_f g2, if_pos z00, bnd e0]
        split at hO
        · next g3 =>
          cases hO
          have g4 : D 0 wh = mo := of_decide_eq_true g3
          rw [if_pos (by rw [g4])]
          exact e2
        · cases hO
    · next g1 =>
      cases hO
      rw [bnd hnm, b2_f g1, if_pos z00]
      exact e2
  | none =>
    obtain ⟨u1, e1, p1, f1⟩ := c_new hS h.V h.c hO
    unfold nwO at hO
    split at hO
    · next g1 =>
      split at hO
      · cases hO
      · next g2 =>
        split at hO
        · cases hO
        · next g3 =>
          have g4 : ¬ D 0 wh = mo := fun z => g3 (decide_eq_true z)
          have fJ : FRJ D r (mo + D 0 wh) := by
            rcases hw with ⟨rfl, rfl, rfl⟩ | ⟨rfl, rfl, rfl⟩ | ⟨rfl, rfl, rfl⟩ <;> exact ⟨by omega, by omega, by omega, by omega, by omega⟩
          have hB2 := h.mJ (x := lN (cv (tnm s.2 t))) fJ
          obtain ⟨v1, e2, p2, f2⟩ := m_step hS h.V hB2.m
          refine Or.inr ⟨g1.1, by omega, u1, v1, e1, ?_, hB2.go (nx_V h.V).1 p1 f1 p2 f2.k, by rw [(f2.c r hmo.2).2, upJ_at], f1⟩
          unfold X12_readNew
          rw [bnd hnm, b2_t g1, if_neg n10, bnd hth, b2_f g2, if_pos z00, bnd e0, if_neg (show ¬ nI (D 0 wh) = nI mo by rw [nI_eq (by omega) (by omega)]; exact g4), bnd e0, h.m.tk.w, nI_add, bnd (sJ_at hr (by omega) (show mo + D 0 wh < 2 * mo by omega)), bnd e2]
          rfl
    · cases hO
/-- a NAME that is told ahead -/
theorem b_of {r wh mo : Nat} {f : Option Nat} (hS : TS s) (h : BS u0 v0 s t D u v) (hw : wh < 3) (hb : ∀ n, f = some n → n < 24) (e0 : aI skM v 1 (nI (6 + wh)) = some (nI (D 0 wh))) (hp : X12_placeIn v r (nI mo) (nI (D 0 wh)) (lN (cv (tnm s.2 t))) = some (oI f)) :
    (∃ u1 v1, X9_passKnown (oI f) u = some (nI 0, u1) ∧ X12_readOf r (nI wh) (nI mo) v = some (nI 0, v1) ∧ BF u0 v0 u1 v1) ∨
    (∃ p u1 v1, f = some p ∧ t.1 = 1 ∧ X9_passKnown (oI f) u = some (nI 1, u1) ∧ X12_readOf r (nI wh) (nI mo) v = some (nI 1, v1) ∧ BS u0 v0 s (nx s t) D u1 v1 ∧ v1.1 0 31 = nI p ∧ o1 u u1 ∧ FMk v v1) := by
  have hnm := m_isName h.V hS.l h.m.tk
  have hfl : ∀ n, f = some n → n < 2 ^ 31 := fun n hn => by have := hb n hn; omega
  have e0' : aI skM v 1 (6 + nI wh) = some (nI (D 0 wh)) := by rw [nI_lit, nI_add]; exact e0
  have h31 : ∀ x : Int32, Pm s t (upI v 0 31 x) := fun x => ⟨⟨by rw [upI_j (by omega)]; exact h.m.tp.l, by rw [upI_k (by omega)]; exact h.m.tp.b⟩, ⟨by rw [upI_j (by omega)]; exact h.m.tk.p, by rw [upI_j (by omega)]; exact h.m.tk.q, by rw [upI_j (by omega)]; exact h.m.tk.s, by rw [upI_2]; exact h.m.tk.w, by rw [upI_2]; exact h.m.tk.m, by rw [upI_j (by omega)]; exact h.m.tk.g⟩, by rw [upI_j (by omega)]; exact h.m.f, by rw [upI_j (by omega)]; exact h.m.g⟩
  have f31 : ∀ x : Int32, FMk v (upI v 0 31 x) := fun x => FMk.rf.I (by omega)
  cases hO : knO s.2 t f with
  | some k =>
    obtain ⟨u1, e1, f1, oo⟩ := c_knownF hfl h.c hO
    have hk := knO_k hO
    unfold knO at hO
    split at hO
    · next g1 =>
      split at hO
      · next g2 =>
        cases hO
        obtain ⟨v1, e2, f2, p2⟩ := m_ref (k := 3) (h31 (oI f))
        refine Or.inl ⟨u1, v1, e1, ?_, h.no hS hk f1 oo f2 ((f31 _).tr p2)⟩
        unfold X12_readOf
        rw [bnd hnm, b2_t g1, if_neg n10, bnd e0', h.m.tk.w, bnd hp, upI_at, if_pos (show oI f = -1 by rw [g2]; rfl)]
        exact e2
      · cases hO
    · next g1 =>
      cases hO
      obtain ⟨v1, e2, f2, p2⟩ := m_ref (k := 1) h.m
      refine Or.inl ⟨u1, v1, e1, ?_, h.no hS hk f1 oo f2 p2⟩
      unfold X12_readOf
      rw [bnd hnm, b2_f g1, if_pos z00]
      exact e2
  | none =>
    obtain ⟨u1, e1, p1, f1⟩ := c_known hfl hS h.V h.c hO
    unfold knO at hO
    split at hO
    · next g1 =>
      split at hO
      · cases hO
      · next g2 =>
        obtain ⟨p, hp2⟩ := Option.ne_none_iff_exists'.mp g2
        obtain ⟨v1, e2, p2, f2⟩ := m_step hS h.V (h31 (oI f))
        refine Or.inr ⟨p, u1, v1, hp2, g1.1, e1, ?_, h.go (nx_V h.V).1 p1 f1 p2 ((f31 _).tr f2.k), by rw [f2.i 31 (by omega) (by omega) (by omega) (by omega), upI_at, hp2]; rfl, f1, (f31 _).tr f2.k⟩
        unfold X12_readOf
        rw [bnd hnm, b2_t g1, if_neg n10, bnd e0', h.m.tk.w, bnd hp, upI_at, if_neg (show ¬ oI f = -1 by rw [nI_lit, oI_m1 hfl]; exact g2), bnd e2]
        rfl
    · cases hO
end WR
