/-! a DAY is read: what both hold -/
def PB (u0 v0 : gM) (T : gT) (s : tpT) (t : tkT) (u v : gM) : Prop := (TKV s.2 s.1 t) ∧ (Pc s t u) ∧ (Pm s t v) ∧ (RT 3 T u) ∧ (RTm 0 T v) ∧ (off sBk u0 u) ∧ (BXm v0 v)
theorem PB.V {u0 v0 : gM} {T : gT} {s : tpT} {t : tkT} {u v : gM} (h : PB u0 v0 T s t u v) : TKV s.2 s.1 t := h.1
theorem PB.c {u0 v0 : gM} {T : gT} {s : tpT} {t : tkT} {u v : gM} (h : PB u0 v0 T s t u v) : Pc s t u := h.2.1
theorem PB.m {u0 v0 : gM} {T : gT} {s : tpT} {t : tkT} {u v : gM} (h : PB u0 v0 T s t u v) : Pm s t v := h.2.2.1
theorem PB.rc {u0 v0 : gM} {T : gT} {s : tpT} {t : tkT} {u v : gM} (h : PB u0 v0 T s t u v) : RT 3 T u := h.2.2.2.1
theorem PB.rm {u0 v0 : gM} {T : gT} {s : tpT} {t : tkT} {u v : gM} (h : PB u0 v0 T s t u v) : RTm 0 T v := h.2.2.2.2.1
theorem PB.oc {u0 v0 : gM} {T : gT} {s : tpT} {t : tkT} {u v : gM} (h : PB u0 v0 T s t u v) : off sBk u0 u := h.2.2.2.2.2.1
theorem PB.om {u0 v0 : gM} {T : gT} {s : tpT} {t : tkT} {u v : gM} (h : PB u0 v0 T s t u v) : BXm v0 v := h.2.2.2.2.2.2
section DP
variable {u0 v0 u v u1 v1 : gM} {s : tpT} {t t1 : tkT} {T : gT}
theorem PB.go (h : PB u0 v0 T s t u v) (V1 : TKV s.2 s.1 t1) (c : Pc s t1 u1) (oc : o1 u u1) (m : Pm s t1 v1) (om : FMk v v1) : PB u0 v0 T s t1 u1 v1 :=
  ⟨V1, c, m, h.rc.mv (fun c a _ => oc c (by omega)), h.rm.mv (fun c a _ => om.o c (by omega)), off_o1 h.oc oc, h.om.k om⟩
theorem PB.no {k : Nat} (hS : TS s) (h : PB u0 v0 T s t u v) (hk : 1 ≤ k ∧ k ≤ 6) (c : Fc k t.2.1 u1) (oc : o1 u u1) (m : Fm k t.2.1 v1) (om : FMk v v1) : BF u0 v0 u1 v1 :=
  ⟨k, t.2.1, hk.1, hk.2, by have := h.V.l; have := h.V.m; have := hS.l; omega, c, m, off_o1 h.oc oc, h.om.k om⟩
theorem PB.cI {c i : Nat} {x : Int32} (h : PB u0 v0 T s t u v) (hc : 132 ≤ c) : PB u0 v0 T s t (upI u c i x) v :=
  ⟨h.V, Pc_wI h.c (by omega) (by omega), h.m, h.rc.mv (fun d a b => ⟨by rw [upI_k (by omega)], by rw [upI_2]⟩), h.rm, off_upI (Or.inr (by omega)) h.oc, h.om⟩
theorem PB.m27 {i : Nat} {x : Int32} (h : PB u0 v0 T s t u v) : PB u0 v0 T s t u (upI v 27 i x) :=
  ⟨h.V, h.c, Pm_wI h.m (by omega) (by omega), h.rc, h.rm.mv (fun d a b => ⟨by rw [upI_k (by omega)], by rw [upI_2]⟩), h.oc, ⟨fun c i a b d => by rw [upI_k (by omega), upI_2]; exact h.om.l c i a b d, fun c a b => by rw [upI_k (by omega)]; exact h.om.c c a b, fun j hj => by rw [upI_k (by omega)]; exact h.om.i j hj⟩⟩
theorem PB.m43 {x : Int32} (h : PB u0 v0 T s t u v) : PB u0 v0 T s t u (upI v 0 43 x) :=
  ⟨h.V, h.c, ⟨⟨by rw [upI_j (by omega)]; exact h.m.tp.l, by rw [upI_k (by omega)]; exact h.m.tp.b⟩, ⟨by rw [upI_j (by omega)]; exact h.m.tk.p, by rw [upI_j (by omega)]; exact h.m.tk.q, by rw [upI_j (by omega)]; exact h.m.tk.s, h.m.tk.w, h.m.tk.m, by rw [upI_j (by omega)]; exact h.m.tk.g⟩, by rw [upI_j (by omega)]; exact h.m.f, by rw [upI_j (by omega)]; exact h.m.g⟩, h.rc, h.rm.mv (fun d a b => ⟨by rw [upI_k (by omega)], by rw [upI_2]⟩), h.oc, ⟨fun c i a b d => by rw [upI_k (by omega), upI_2]; exact h.om.l c i a b d, fun c a b => by rw [upI_k (by omega)]; exact h.om.c c a b, fun j hj => by rw [upI_j (by omega)]; exact h.om.i j hj⟩⟩
theorem p_step (hS : TS s) (h : PB u0 v0 T s t u v) : ∃ u1 v1, X9_step u = some u1 ∧ X12_next v = some v1 ∧ PB u0 v0 T s (nx s t) u1 v1 ∧ o1 u u1 ∧ FMk v v1 := by
  obtain ⟨u1, e1, p1, f1⟩ := c_step hS h.V h.c
  obtain ⟨v1, e2, p2, f2⟩ := m_step hS h.V h.m
  exact ⟨u1, v1, e1, e2, h.go (nx_V h.V).1 p1 f1.o p2 f2.k, f1.o, f2.k⟩
theorem p_num (hS : TS s) (h : PB u0 v0 T s t u v) :
    (∃ u1 v1, X9_passNumber 0 100000000 u = some (nI 0, u1) ∧ X12_readNumber 0 100000000 v = some (nI 0, v1) ∧ BF u0 v0 u1 v1) ∨
    (t.2.1 < t.2.2 ∧ tnu s.2 t ≤ 100000000 ∧ ∃ u1 v1, X9_passNumber 0 100000000 u = some (nI 1, u1) ∧ X12_readNumber 0 100000000 v = some (nI 1, v1) ∧ PB u0 v0 T s (nx s t) u1 v1 ∧ u1.1 1 6 = nI (tnu s.2 t) ∧ v1.1 0 31 = nI (tnu s.2 t) ∧ o1 u u1 ∧ FMk v v1) := by
  cases hO : numO s.2 t 0 100000000 with
  | some k =>
    obtain ⟨u1, e1, f1, o1⟩ := c_numF h.V h.c (by omega) (by omega) hO
    obtain ⟨v1, e2, f2, o2⟩ := m_numF h.V hS h.m (by omega) (by omega) hO
    exact Or.inl ⟨u1, v1, e1, e2, h.no hS (numO_k hO) f1 o1 f2 o2⟩
  | none =>
    obtain ⟨u1, e1, p1, n1, f1⟩ := c_num hS h.V h.c (by omega) (by omega) hO
    obtain ⟨v1, e2, p2, n2, f2⟩ := m_num hS h.V h.m (by omega) (by omega) hO
    have hb : t.1 = 2 ∧ tnu s.2 t ≤ 100000000 := by
      unfold numO at hO
      split at hO
      · next g1 =>
        split at hO
        · next g2 => exact ⟨g1.1, g2.2⟩
        · cases hO
      · cases hO
    exact Or.inr ⟨(h.V.n hb.1).1, hb.2, u1, v1, e1, e2, h.go (nx_V h.V).1 p1 f1 p2 f2, n1, n2, f1, f2⟩
theorem p_word {i j : Nat} (hj : j < 21) (hi : i < 22) (hi1 : 1 ≤ i) (hd : jd i = j) (hS : TS s) (h : PB u0 v0 T s t u v) :
    (∃ u1 v1, X9_passWord (nI j) u = some (nI 0, u1) ∧ X12_takes i v = some (nI 0, v1) ∧ BF u0 v0 u1 v1) ∨
    (t.2.1 < t.2.2 ∧ ∃ u1 v1, X9_passWord (nI j) u = some (nI 1, u1) ∧ X12_takes i v = some (nI 1, v1) ∧ PB u0 v0 T s (nx s t) u1 v1 ∧ o1 u u1 ∧ FMk v v1) := by
  cases hO : wrdO s.2 t j with
  | some k =>
    obtain ⟨u1, e1, f1, o1⟩ := c_wordF hj h.c hO
    obtain ⟨v1, e2, f2, o2⟩ := m_takesF hi hi1 hd hS h.V h.m hO
    exact Or.inl ⟨u1, v1, e1, e2, h.no hS (wrdO_k hO) f1 o1 f2 o2⟩
  | none =>
    obtain ⟨u1, e1, p1, f1⟩ := c_word hj hS h.V h.c hO
    obtain ⟨v1, e2, p2, f2⟩ := m_takes hi hi1 hd hS h.V h.m hO
    have hb : t.1 = 1 := by
      unfold wrdO at hO
      split at hO
      · next g1 => exact (tkw_w g1).1
      · cases hO
    exact Or.inr ⟨(h.V.w hb).1, u1, v1, e1, e2, h.go (nx_V h.V).1 p1 f1 p2 f2, f1, f2⟩
theorem p_semi (hS : TS s) (h : PB u0 v0 T s t u v) :
    (∃ u1 v1, X9_passSemicolon u = some (nI 0, u1) ∧ X12_ends v = some (nI 0, v1) ∧ BF u0 v0 u1 v1) ∨
    (t.1 ≠ 0 ∧ ∃ u1 v1, X9_passSemicolon u = some (nI 1, u1) ∧ X12_ends v = some (nI 1, v1) ∧ PB u0 v0 T s (nx s t) u1 v1 ∧ o1 u u1 ∧ FMk v v1) := by
  cases hO : smO s.2 t with
  | some k =>
    obtain ⟨u1, e1, f1, o1⟩ := c_semiF h.V h.c hO
    obtain ⟨v1, e2, f2, o2⟩ := m_endsF hS h.V h.m hO
    exact Or.inl ⟨u1, v1, e1, e2, h.no hS (smO_k hO) f1 o1 f2 o2⟩
  | none =>
    obtain ⟨u1, e1, p1, f1⟩ := c_semi hS h.V h.c hO
    obtain ⟨v1, e2, p2, f2⟩ := m_ends hS h.V h.m hO
    refine Or.inr ⟨?_, u1, v1, e1, e2, h.go (nx_V h.V).1 p1 f1 p2 f2, f1, f2⟩
    unfold smO at hO
    split at hO
    · next h1 => have := h1.1; omega
    · cases hO
def rdE (r : Nat) (i : Int32) (v : gM) : Option (Int32 × gM) := ((X12_isName v).bind fun w1 => (if w1 = 0 then ((X12_fails 1 v).bind fun w9 => ((bI w9.1).bind fun v12 => some (v12, w9.2)))
  else ((aI skM v 1 i).bind fun v24 => ((X12_placeIn v r 0 v24 (v.2 0 28)).bind fun w29 => (if ((upI v 0 31 w29).1 0 31) = (-1) then ((X12_fails 3 (upI v 0 31 w29)).bind fun w45 => ((bI w45.1).bind fun v48 => some (v48, w45.2)))
    else ((X12_next (upI v 0 31 w29)).bind fun w50 => some (1, w50)))))))
theorem rdE_b : X12_readBank v = rdE 3 1 v := rfl
theorem rdE_h : X12_readHere v = rdE 4 2 v := rfl
theorem p_rd {r cnt : Nat} {i : Int32} {f : Option Nat} (hS : TS s) (h : PB u0 v0 T s t u v) (hb : ∀ n, f = some n → n < 24) (e0 : aI skM v 1 i = some (nI cnt)) (hp : X12_placeIn v r 0 (nI cnt) (lN (cv (tnm s.2 t))) = some (oI f)) :
    (∃ u1 v1, X9_passKnown (oI f) u = some (nI 0, u1) ∧ rdE r i v = some (nI 0, v1) ∧ BF u0 v0 u1 v1) ∨
    (∃ p u1 v1, f = some p ∧ t.2.1 < t.2.2 ∧ X9_passKnown (oI f) u = some (nI 1, u1) ∧ rdE r i v = some (nI 1, v1) ∧ PB u0 v0 T s (nx s t) u1 v1 ∧ v1.1 0 31 = nI p ∧ o1 u u1 ∧ FMk v v1) := by
  have hnm := m_isName h.V hS.l h.m.tk
  have hfl : ∀ n, f = some n → n < 2 ^ 31 := fun n hn => by have := hb n hn; omega
  have h31 : ∀ x : Int32, Pm s t (upI v 0 31 x) := fun x => ⟨⟨by rw [upI_j (by omega)]; exact h.m.tp.l, by rw [upI_k (by omega)]; exact h.m.tp.b⟩, ⟨by rw [upI_j (by omega)]; exact h.m.tk.p, by rw [upI_j (by omega)]; exact h.m.tk.q, by rw [upI_j (by omega)]; exact h.m.tk.s, by rw [upI_2]; exact h.m.tk.w, by rw [upI_2]; exact h.m.tk.m, by rw [upI_j (by omega)]; exact h.m.tk.g⟩, by rw [upI_j (by omega)]; exact h.m.f, by rw [upI_j (by omega)]; exact h.m.g⟩
  have f31 : ∀ x : Int32, FMk v (upI v 0 31 x) := fun x => FMk.rf.I (by omega)
  cases hO : knO s.2 t f with
  | some k =>
    obtain ⟨u1, e1, f1, oo⟩ := c_knownF hfl h.c hO
    have hk := knO_k hO
    unfold knO at hO
    split at hO
    · next g1 =>
      split at hO
      · next g2 =>
        cases hO
        obtain ⟨v1, e2, f2, p2⟩ := m_ref (k := 3) (h31 (oI f))
        refine Or.inl ⟨u1, v1, e1, ?_, h.no hS hk f1 oo f2 ((f31 _).tr p2)⟩
        unfold rdE
        rw [bnd hnm, b2_t g1, if_neg n10, bnd e0, h.m.tk.w, bnd hp, upI_at, if_pos (show oI f = -1 by rw [g2]; rfl)]
        exact e2
      · cases hO
    · next g1 =>
      cases hO
      obtain ⟨v1, e2, f2, p2⟩ := m_ref (k := 1) h.m
      refine Or.inl ⟨u1, v1, e1, ?_, h.no hS hk f1 oo f2 p2⟩
      unfold rdE
      rw [bnd hnm, b2_f g1, if_pos z00]
      exact e2
  | none =>
    obtain ⟨u1, e1, p1, f1⟩ := c_known hfl hS h.V h.c hO
    unfold knO at hO
    split at hO
    · next g1 =>
      split at hO
      · cases hO
      · next g2 =>
        obtain ⟨p, hp2⟩ := Option.ne_none_iff_exists'.mp g2
        obtain ⟨v1, e2, p2, f2⟩ := m_step hS h.V (h31 (oI f))
        refine Or.inr ⟨p, u1, v1, hp2, (h.V.w g1.1).1, e1, ?_, h.go (nx_V h.V).1 p1 f1 p2 ((f31 _).tr f2.k), by rw [f2.i 31 (by omega) (by omega) (by omega) (by omega), upI_at, hp2]; rfl, f1, (f31 _).tr f2.k⟩
        unfold rdE
        rw [bnd hnm, b2_t g1, if_neg n10, bnd e0, h.m.tk.w, bnd hp, upI_at, if_neg (show ¬ oI f = -1 by rw [nI_lit, oI_m1 hfl]; exact g2), bnd e2]
        rfl
    · cases hO
theorem p_bank (hS : TS s) (hV : VT T) (h : PB u0 v0 T s t u v) :
    (∃ u1 v1, X9_passKnown (oI (bnS T (tnm s.2 t))) u = some (nI 0, u1) ∧ X12_readBank v = some (nI 0, v1) ∧ BF u0 v0 u1 v1) ∨
    (∃ p u1 v1, bnS T (tnm s.2 t) = some p ∧ t.2.1 < t.2.2 ∧ X9_passKnown (oI (bnS T (tnm s.2 t))) u = some (nI 1, u1) ∧ X12_readBank v = some (nI 1, v1) ∧ PB u0 v0 T s (nx s t) u1 v1 ∧ v1.1 0 31 = nI p ∧ o1 u u1 ∧ FMk v v1) := by
  have hnb := hV.nb
  have hT := h.rm.nb
  simp only [Nat.mul_zero, Nat.zero_add] at hT
  rw [rdE_b]
  exact p_rd hS h (fun n hn => by have := bnS_lt hn; omega) (show aI skM v 1 1 = some (nI (T 0 1)) from (aM1 (a := 1) (by omega)).trans (by rw [hT])) (m_bn (d := 0) (by omega) hV h.rm (tnm_lt h.V))
theorem p_here (hS : TS s) (hV : VT T) (h : PB u0 v0 T s t u v) :
    (∃ u1 v1, X9_passKnown (oI (anS T (tnm s.2 t))) u = some (nI 0, u1) ∧ X12_readHere v = some (nI 0, v1) ∧ BF u0 v0 u1 v1) ∨
    (∃ p u1 v1, anS T (tnm s.2 t) = some p ∧ t.2.1 < t.2.2 ∧ X9_passKnown (oI (anS T (tnm s.2 t))) u = some (nI 1, u1) ∧ X12_readHere v = some (nI 1, v1) ∧ PB u0 v0 T s (nx s t) u1 v1 ∧ v1.1 0 31 = nI p ∧ o1 u u1 ∧ FMk v v1) := by
  have hna := hV.na
  have hT := h.rm.na
  simp only [Nat.mul_zero, Nat.zero_add] at hT
  rw [rdE_h]
  exact p_rd hS h (fun n hn => by have := anS_lt hn; omega) (show aI skM v 1 2 = some (nI (T 0 2)) from (aM1 (a := 2) (by omega)).trans (by rw [hT])) (m_an (d := 0) (by omega) hV h.rm (tnm_lt h.V))
theorem m_lays1 {k n x : Nat} (hn : n < 119) (hk : k < 3) (h43 : v.1 0 43 = nI n) (h31 : v.1 0 31 = nI x) : X12_lays (nI k) (nI 1) v = some (nI 1, upI v 27 (3 * n + k) (nI x)) := by
  unfold X12_lays X12_lays_b21
  rw [if_neg n10, h43, h31, show (3 * nI n + nI k : Int32) = nI (3 * n + k) by rw [nI_lit, pk_mul, nI_add], bnd (sM27 (show 3 * n + k < 360 by omega))]
  rfl
theorem m_lays0 {k : Int32} : X12_lays k (nI 0) v = some (nI 0, v) := rfl
end DP
