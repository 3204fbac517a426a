/-! bits; feed, end -/
theorem u_tn {n : Nat} (h : n < 2 ^ 64) : (UInt64.ofNat n).toNat = n := Nat.mod_eq_of_lt h
theorem g_or {k p a b : Nat} (hp : 2 ^ k = p) (ha : a < p) (h : b * p + a < 2 ^ 64) : lN (b * p) ||| lN a = lN (b * p + a) := by
  subst hp
  have h1 : b * 2 ^ k ||| a = b * 2 ^ k + a := by rw [← Nat.shiftLeft_eq, Nat.shiftLeft_add_eq_or_of_lt ha]
  have h3 : UInt64.ofNat (b * 2 ^ k) ||| UInt64.ofNat a = UInt64.ofNat (b * 2 ^ k + a) := UInt64.toNat_inj.mp (by rw [UInt64.toNat_or, u_tn (by omega), u_tn (by omega), u_tn h, h1])
  have h2 := congrArg UInt64.toInt64 h3
  exact h2
theorem g_shl {a k p : Nat} {y : Int64} (hy : y.toBitVec.smod 64 = BitVec.ofNat 64 k) (hk : k < 64) (hp : 2 ^ k = p) (ha : a < 2 ^ 64) : lN a <<< y = lN (a * p) := by
  subst hp
  apply Int64.toBitVec_inj.mp
  rw [Int64.toBitVec_shiftLeft, hy]
  apply BitVec.eq_of_toNat_eq
  have hb : (lN a).toBitVec.toNat = a := Nat.mod_eq_of_lt ha
  have hk' : (BitVec.ofNat 64 k).toNat = k := Nat.mod_eq_of_lt (by omega)
  have h : ((lN a).toBitVec <<< BitVec.ofNat 64 k).toNat = (a * 2 ^ k) % 2 ^ 64 := by simp only [BitVec.shiftLeft_eq', BitVec.toNat_shiftLeft, hb, hk', Nat.shiftLeft_eq]
  exact h
theorem fa_byte_low (x : Int32) : (x &&& 255).toInt8 = x.toInt8 := by
  apply Int8.toBitVec_inj.1
  apply BitVec.eq_of_getLsbD_eq
  intro i hi
  have h2 : (255 : Int32).toBitVec.getLsbD i = true := by
    have : ∀ j : Fin 8, (255 : Int32).toBitVec.getLsbD j.val = true := by decide +kernel
    exact this ⟨i, hi⟩
  have h4 : (x &&& 255).toBitVec.getLsbD i = x.toBitVec.getLsbD i := by
    show (x.toBitVec &&& (255 : Int32).toBitVec).getLsbD i = _
    rw [BitVec.getLsbD_and, h2, Bool.and_true]
  have h3 : i < 32 := by omega
  first
    | (show (((x &&& 255).toBitVec).signExtend 8).getLsbD i = (x.toBitVec.signExtend 8).getLsbD i; rw [BitVec.getLsbD_signExtend, BitVec.getLsbD_signExtend, if_pos h3, if_pos h3, h4])
    | (show (((x &&& 255).toBitVec).setWidth 8).getLsbD i = (x.toBitVec.setWidth 8).getLsbD i; rw [BitVec.getLsbD_setWidth, BitVec.getLsbD_setWidth, h4])
    | (simp [hi, h3, h4]; done)
theorem fa_byte_small {n : Nat} (h : n < 128) : (nI n).toInt8.toInt32 = nI n := by
  have : ∀ j : Fin 128, (nI j.val).toInt8.toInt32 = nI j.val := by decide +kernel
  exact this ⟨n, h⟩
/-- a letter more, in base 32 -/
theorem sh5 {x d : Nat} (hx : x < 2 ^ 50) (hd : d < 32) : (lN x <<< ((5 : Int32).toInt64 &&& 63)) ||| lN d = lN (32 * x + d) := by
  rw [g_shl (k := 5) (p := 32) (by decide) (by decide) (by decide) (by omega), g_or (k := 5) (p := 32) (by decide) hd (by omega), Nat.mul_comm]
/-- the byte that is told from place k of an int on -/
def byt (x : Int32) (k : Nat) : Nat := ((x >>> (nI k &&& 31)) &&& 255).toBitVec.toNat
theorem byt_m (x : Int32) (k : Nat) : (x >>> (nI k &&& 31)) &&& 255 = nI (byt x k) := by
  unfold byt
  apply Int32.toBitVec_inj.1
  show _ = BitVec.ofNat 32 ((x >>> (nI k &&& 31)) &&& 255).toBitVec.toNat
  rw [BitVec.ofNat_toNat, BitVec.setWidth_eq]
theorem byt_lt (x : Int32) (k : Nat) : byt x k < 256 := by
  unfold byt
  have h : ((x >>> (nI k &&& 31)) &&& 255).toBitVec.toNat = (x >>> (nI k &&& 31)).toBitVec.toNat &&& 255 := BitVec.toNat_and _ _
  rw [h]
  have := Nat.and_le_right (n := (x >>> (nI k &&& 31)).toBitVec.toNat) (m := 255)
  omega
theorem byt_c (x : Int32) (k : Nat) : ((x >>> (nI k &&& 31)).toInt8.toInt32).toInt8.toInt32 = (nI (byt x k)).toInt8.toInt32 := by
  rw [← byt_m, fa_byte_low, Int8.toInt8_toInt32]
abbrev tpT : Type := Nat × (Nat → Nat)
def tp1 (s : tpT) (y : Nat) : tpT := (s.1 + 1, upN s.2 s.1 y)
def tp4 (s : tpT) (x : Int32) : tpT := tp1 (tp1 (tp1 (tp1 s (byt x 24)) (byt x 16)) (byt x 8)) (byt x 0)
section FE
variable {T : gT} {N : gN} {P : List gN} {S : gS} {s : tpT} {u v u' v' : gM}
def TPc (s : tpT) (u : gM) : Prop := (u.1 1 0 = nI s.1) ∧ (∀ i, i < s.1 → u.1 2 i = (nI (s.2 i)).toInt8.toInt32)
theorem TPc.l {s : tpT} {u : gM} (h : TPc s u) : u.1 1 0 = nI s.1 := h.1
theorem TPc.b {s : tpT} {u : gM} (h : TPc s u) : ∀ i, i < s.1 → u.1 2 i = (nI (s.2 i)).toInt8.toInt32 := h.2
def TPm (s : tpT) (v : gM) : Prop := (v.1 0 20 = nI s.1) ∧ (∀ i, i < s.1 → v.1 19 i = nI (s.2 i))
theorem TPm.l {s : tpT} {v : gM} (h : TPm s v) : v.1 0 20 = nI s.1 := h.1
theorem TPm.b {s : tpT} {v : gM} (h : TPm s v) : ∀ i, i < s.1 → v.1 19 i = nI (s.2 i) := h.2
def FRc (u u' : gM) : Prop := (∀ c, c ≠ 1 → c ≠ 2 → u'.1 c = u.1 c) ∧ (∀ j, j ≠ 0 → u'.1 1 j = u.1 1 j) ∧ (u'.2 = u.2)
theorem FRc.c {u u' : gM} (h : FRc u u') : ∀ c, c ≠ 1 → c ≠ 2 → u'.1 c = u.1 c := h.1
theorem FRc.i {u u' : gM} (h : FRc u u') : ∀ j, j ≠ 0 → u'.1 1 j = u.1 1 j := h.2.1
theorem FRc.l {u u' : gM} (h : FRc u u') : u'.2 = u.2 := h.2.2
def FRm (v v' : gM) : Prop := (∀ c, c ≠ 0 → c ≠ 19 → v'.1 c = v.1 c) ∧ (∀ j, j ≠ 20 → v'.1 0 j = v.1 0 j) ∧ (v'.2 = v.2)
theorem FRm.c {v v' : gM} (h : FRm v v') : ∀ c, c ≠ 0 → c ≠ 19 → v'.1 c = v.1 c := h.1
theorem FRm.i {v v' : gM} (h : FRm v v') : ∀ j, j ≠ 20 → v'.1 0 j = v.1 0 j := h.2.1
theorem FRm.l {v v' : gM} (h : FRm v v') : v'.2 = v.2 := h.2.2
theorem FRc.tr {u u' w : gM} (h : FRc u u') (h2 : FRc u' w) : FRc u w := ⟨fun c c1 c2 => (h2.c c c1 c2).trans (h.c c c1 c2), fun j hj => (h2.i j hj).trans (h.i j hj), h2.l.trans h.l⟩
theorem FRm.tr {v v' w : gM} (h : FRm v v') (h2 : FRm v' w) : FRm v w := ⟨fun c c1 c2 => (h2.c c c1 c2).trans (h.c c c1 c2), fun j hj => (h2.i j hj).trans (h.i j hj), h2.l.trans h.l⟩
theorem q_app1 {x : Int32} {f k : Nat} (h : TPc s u) (hs : s.1 < 700) (hk : k < 32) : ∃ u', X9_append_l3 (f + 1) x (nI k) u = X9_append_l3 f x (nI k + (-8)) u' ∧ TPc (tp1 s (byt x k)) u' ∧ FRc u u' := by
  refine ⟨upI (upI u 2 s.1 ((x >>> (nI k &&& 31)).toInt8.toInt32).toInt8.toInt32) 1 0 (nI (s.1 + 1)), ?_, ⟨?_, fun i hi => ?_⟩, ⟨fun c c1 c2 => ?_, fun j hj => ?_, rfl⟩⟩
  · show X9_append_b3 (X9_append_l3 f) x (nI k) u = _
    unfold X9_append_b3
    rw [if_neg (show ¬ nI k < 0 from i_nlt k (by omega)), bnd (show aL skC 2 = some (nI 700) from rfl), h.l, if_neg (show ¬ (nI 700 : Int32) ≤ nI s.1 by rw [nI_leI (by omega) (by omega)]; omega), bnd (sC2 hs), upI_k (by omega), h.l, nI_s]
  · rw [upI_at]; rfl
  · rw [upI_k (by omega)]
    show _ = (nI (upN s.2 s.1 _ i)).toInt8.toInt32
    by_cases z : i = s.1
    · rw [z, upI_at, upN_at, byt_c]
    · rw [upI_j z, upN_i z]
      exact h.b i (by have : i < s.1 + 1 := hi; omega)
  · rw [upI_k c1, upI_k c2]
  · rw [upI_j hj, upI_k (by omega)]
theorem q_append {x : Int32} (h : TPc s u) (hs : s.1 + 4 ≤ 700) : ∃ u', X9_append x u = some u' ∧ TPc (tp4 s x) u' ∧ FRc u u' := by
  obtain ⟨u1, e1, t1, f1⟩ := q_app1 (x := x) (f := 3999) (k := 24) h (by omega) (by omega)
  obtain ⟨u2, e2, t2, f2⟩ := q_app1 (x := x) (f := 3998) (k := 16) t1 (by show s.1 + 1 < 700; omega) (by omega)
  obtain ⟨u3, e3, t3, f3⟩ := q_app1 (x := x) (f := 3997) (k := 8) t2 (by show s.1 + 1 + 1 < 700; omega) (by omega)
  obtain ⟨u4, e4, t4, f4⟩ := q_app1 (x := x) (f := 3996) (k := 0) t3 (by show s.1 + 1 + 1 + 1 < 700; omega) (by omega)
  refine ⟨u4, ?_, t4, f1.tr (f2.tr (f3.tr f4))⟩
  refine Eq.trans (show X9_append x u = X9_append_l3 (3999 + 1) x (nI 24) u from rfl) (e1.trans ?_)
  rw [show (nI 24 + (-8) : Int32) = nI 16 by decide]
  refine e2.trans ?_
  rw [show (nI 16 + (-8) : Int32) = nI 8 by decide]
  refine e3.trans ?_
  rw [show (nI 8 + (-8) : Int32) = nI 0 by decide]
  refine e4.trans ?_
  show X9_append_b3 (X9_append_l3 3995) x (nI 0 + (-8)) u4 = _
  unfold X9_append_b3 X9_append_b48
  rw [if_pos (by decide)]
theorem m_four1 {x : Int32} {f k : Nat} (h : TPm s v) (hs : s.1 < 700) (hk : k < 32) : ∃ v', X12_four_l3 (f + 1) x (nI k) v = X12_four_l3 f x (nI k + (-8)) v' ∧ TPm (tp1 s (byt x k)) v' ∧ FRm v v' := by
  refine ⟨upI (upI v 19 s.1 (nI (byt x k))) 0 20 (nI (s.1 + 1)), ?_, ⟨?_, fun i hi => ?_⟩, ⟨fun c c1 c2 => ?_, fun j hj => ?_, rfl⟩⟩
  · show X12_four_b3 (X12_four_l3 f) x (nI k) v = _
    unfold X12_four_b3
    rw [if_neg (show ¬ nI k < 0 from i_nlt k (by omega)), h.l, byt_m, bnd (sM19 hs), upI_k (by omega), h.l, nI_s]
  · rw [upI_at]; rfl
  · rw [upI_k (by omega)]
    show _ = nI (upN s.2 s.1 _ i)
    by_cases z : i = s.1
    · rw [z, upI_at, upN_at]
    · rw [upI_j z, upN_i z]
      exact h.b i (by have : i < s.1 + 1 := hi; omega)
  · rw [upI_k c1, upI_k c2]
  · rw [upI_j hj, upI_k (by omega)]
theorem m_four {x : Int32} (h : TPm s v) (hs : s.1 + 4 ≤ 700) : ∃ v', X12_four x v = some v' ∧ TPm (tp4 s x) v' ∧ FRm v v' := by
  obtain ⟨u1, e1, t1, f1⟩ := m_four1 (x := x) (f := 3999) (k := 24) h (by omega) (by omega)
  obtain ⟨u2, e2, t2, f2⟩ := m_four1 (x := x) (f := 3998) (k := 16) t1 (by show s.1 + 1 < 700; omega) (by omega)
  obtain ⟨u3, e3, t3, f3⟩ := m_four1 (x := x) (f := 3997) (k := 8) t2 (by show s.1 + 1 + 1 < 700; omega) (by omega)
  obtain ⟨u4, e4, t4, f4⟩ := m_four1 (x := x) (f := 3996) (k := 0) t3 (by show s.1 + 1 + 1 + 1 < 700; omega) (by omega)
  refine ⟨u4, ?_, t4, f1.tr (f2.tr (f3.tr f4))⟩
  refine Eq.trans (show X12_four x v = X12_four_l3 (3999 + 1) x (nI 24) v from rfl) (e1.trans ?_)
  rw [show (nI 24 + (-8) : Int32) = nI 16 by decide]
  refine e2.trans ?_
  rw [show (nI 16 + (-8) : Int32) = nI 8 by decide]
  refine e3.trans ?_
  rw [show (nI 8 + (-8) : Int32) = nI 0 by decide]
  refine e4.trans ?_
  show X12_four_b3 (X12_four_l3 3995) x (nI 0 + (-8)) u4 = _
  unfold X12_four_b3
  rw [if_pos (by decide)]
theorem RC.tape (h : RC T N P S u) (f : FRc u u') (t : TPc s u') : RC T N P (s, S.2) u' := by
  have e : ∀ c, c ≠ 1 → c ≠ 2 → u'.1 c = u.1 c ∧ u'.2 c = u.2 c := fun c c1 c2 => ⟨f.c c c1 c2, by rw [f.l]⟩
  refine ⟨h.t.mv (fun c c1 _ => e c (by omega) (by omega)), h.n.mv (fun c c1 _ => e c (by omega) (by omega)), ?_, ?_, t.l, t.b, ?_, ?_, ?_⟩
  · rw [(e 30 (by omega) (by omega)).1]; exact h.pc
  · obtain ⟨nx, h1, h2, h3⟩ := h.pr
    exact ⟨nx, h1, by rw [(e 30 (by omega) (by omega)).1]; exact h2, fun j Q hj => (h3 j Q hj).mv (fun c c1 _ => e c (by omega) (by omega))⟩
  · rw [f.i 1 (by omega)]; exact h.fa
  · rw [f.i 2 (by omega)]; exact h.fp
  · rw [(e 0 (by omega) (by omega)).1]; exact h.dt
theorem RM.tape (h : RM T N P S v) (f : FRm v v') (t : TPm s v') : RM T N P (s, S.2) v' := by
  have e : ∀ c, c ≠ 0 → c ≠ 19 → v'.1 c = v.1 c ∧ v'.2 c = v.2 c := fun c c1 c2 => ⟨f.c c c1 c2, by rw [f.l]⟩
  refine ⟨h.t.mv (fun c c1 _ => e c (by omega) (by omega)), ?_, ?_, ?_, ?_, t.l, t.b, ?_, ?_, ?_, ?_, ?_⟩
  · have := h.k
    unfold RKm at *
    rw [(e 5 (by omega) (by omega)).1]; exact this
  · rw [(e 16 (by omega) (by omega)).1]; exact h.n
  · rw [f.i 17 (by omega)]; exact h.pc
  · rw [(e 17 (by omega) (by omega)).1]; exact h.pr
  · rw [f.i 21 (by omega)]; exact h.fa
  · rw [f.i 22 (by omega)]; exact h.fp
  · rw [f.i 32 (by omega)]; exact h.oa
  · rw [f.i 34 (by omega)]; exact h.mh
  · rw [f.i 44 (by omega)]; exact h.dt
theorem DV.tape (h : DV T N P S) (hl : s.1 ≤ 700) (hb : ∀ i, i < s.1 → s.2 i < 256) : DV T N P (s, S.2) := ⟨h.t, h.n, h.p, h.pl, hl, hb, h.hz, h.pz⟩
theorem tp1_lt {y : Nat} (hs : ∀ i, i < s.1 → s.2 i < 256) (hy : y < 256) : ∀ i, i < (tp1 s y).1 → (tp1 s y).2 i < 256 := by
  intro i hi
  have hi2 : i < s.1 + 1 := hi
  show upN s.2 s.1 y i < 256
  by_cases z : i = s.1
  · subst z; rw [upN_at]; exact hy
  · rw [upN_i z]; exact hs i (by omega)
theorem tp4_lt {x : Int32} (hs : ∀ i, i < s.1 → s.2 i < 256) : ∀ i, i < (tp4 s x).1 → (tp4 s x).2 i < 256 := tp1_lt (tp1_lt (tp1_lt (tp1_lt hs (byt_lt _ _)) (byt_lt _ _)) (byt_lt _ _)) (byt_lt _ _)
theorem tp4_l {x : Int32} : (tp4 s x).1 = s.1 + 4 := rfl
theorem o_feed (a b c d e : Int32) (h : RR T N P S u v) : SR (X11_feed a b c d e u) (X12_feed a b c d e v) := by
  have hl := h.d.tl
  have hc : TPc S.1 u := ⟨h.c.tl, h.c.tp⟩
  have hm : TPm S.1 v := ⟨h.m.tl, h.m.tp⟩
  unfold X11_feed X12_feed
  rw [h.c.tl, h.m.tl]
  by_cases hf : S.1.1 + 20 ≤ 700
  · obtain ⟨u1, e1, t1, f1⟩ := q_append (x := a) hc (by omega)
    obtain ⟨u2, e2, t2, f2⟩ := q_append (x := b) t1 (by rw [tp4_l]; omega)
    obtain ⟨u3, e3, t3, f3⟩ := q_append (x := c) t2 (by rw [tp4_l, tp4_l]; omega)
    obtain ⟨u4, e4, t4, f4⟩ := q_append (x := d) t3 (by rw [tp4_l, tp4_l, tp4_l]; omega)
    obtain ⟨u5, e5, t5, f5⟩ := q_append (x := e) t4 (by rw [tp4_l, tp4_l, tp4_l, tp4_l]; omega)
    obtain ⟨v1, d1, s1, g1⟩ := m_four (x := a) hm (by omega)
    obtain ⟨v2, d2, s2, g2⟩ := m_four (x := b) s1 (by rw [tp4_l]; omega)
    obtain ⟨v3, d3, s3, g3⟩ := m_four (x := c) s2 (by rw [tp4_l, tp4_l]; omega)
    obtain ⟨v4, d4, s4, g4⟩ := m_four (x := d) s3 (by rw [tp4_l, tp4_l, tp4_l]; omega)
    obtain ⟨v5, d5, s5, g5⟩ := m_four (x := e) s4 (by rw [tp4_l, tp4_l, tp4_l, tp4_l]; omega)
    have z1 : (nI S.1.1 : Int32) ≤ 680 := by rw [nI_lit, nI_leI (by omega) (by omega)]; omega
    have z2 : (nI S.1.1 + 20 : Int32) ≤ 700 := by rw [nI_lit, nI_lit, nI_add, nI_leI (by omega) (by omega)]; exact hf
    refine ⟨nI (S.1.1 + 20), u5, v5, T, N, P, (tp4 (tp4 (tp4 (tp4 (tp4 S.1 a) b) c) d) e, S.2), ?_, ?_, h.d.tape ?_ (tp4_lt (tp4_lt (tp4_lt (tp4_lt (tp4_lt h.d.tp))))), h.c.tape (f1.tr (f2.tr (f3.tr (f4.tr f5)))) t5, h.m.tape (g1.tr (g2.tr (g3.tr (g4.tr g5)))) s5⟩
    · rw [if_pos z1, bnd e1, bnd e2, bnd e3, bnd e4, bnd e5, t5.l]
      rfl
    · rw [if_pos z2, bnd d1, bnd d2, bnd d3, bnd d4, bnd d5, s5.l]
      rfl
    · rw [tp4_l, tp4_l, tp4_l, tp4_l, tp4_l]; omega
  · have z1 : ¬ (nI S.1.1 : Int32) ≤ 680 := by rw [nI_lit, nI_leI (by omega) (by omega)]; omega
    have z2 : ¬ (nI S.1.1 + 20 : Int32) ≤ 700 := by rw [nI_lit, nI_lit, nI_add, nI_leI (by omega) (by omega)]; exact hf
    rw [if_neg z1, if_neg z2]
    exact SQ.r (SQ.p rfl rfl) h
theorem o_end (x : Int32) (h : RR T N P S u v) : SR (X11_end x u) (X12_end x v) := by
  have hl := h.d.tl
  unfold X11_end X12_end X11_end_b15
  rw [h.c.tl, h.m.tl]
  rcases i_cases x (S.1.1 + 1) (by omega) with ⟨n, hn, rfl⟩ | ho
  · have z1 : ¬ (nI n : Int32) < 0 := i_nlt n (by omega)
    have z2 : (nI n : Int32) ≤ nI S.1.1 := by rw [nI_leI (by omega) (by omega)]; omega
    have k1 : X12_isIn v (nI n).toInt64 0 (nI S.1.1).toInt64 = some (nI 1) := by
      rw [nI_64 (show S.1.1 < 2 ^ 31 by omega)]
      exact isIn_k (u := v) (by omega) (by omega)
    refine ⟨nI 1, upI u 1 0 (nI n), upI v 0 20 (nI n), T, N, P, ((n, S.1.2), S.2), ?_, ?_, h.d.tape (by show n ≤ 700; omega) (fun i hi => h.d.tp i (by have : i < n := hi; omega)), h.c.tape ⟨fun c c1 _ => upI_k c1, fun j hj => upI_j hj, upI_2⟩ ⟨upI_at, fun i hi => ?_⟩, h.m.tape ⟨fun c c1 _ => upI_k c1, fun j hj => upI_j hj, upI_2⟩ ⟨upI_at, fun i hi => ?_⟩⟩
    · rw [if_neg z1, if_pos z2]; rfl
    · rw [bnd k1, if_neg n10]; rfl
    · rw [upI_k (by omega)]; exact h.c.tp i (by have : i < n := hi; omega)
    · rw [upI_k (by omega)]; exact h.m.tp i (by have : i < n := hi; omega)
  · have k0 : X12_isIn v x.toInt64 0 (nI S.1.1).toInt64 = some (nI 0) := by
      rw [nI_64 (show S.1.1 < 2 ^ 31 by omega)]
      exact isIn_o (u := v) ho (by omega)
    refine SQ.r (SQ.p (r := nI 0) ?_ ?_) h
    · rcases ho with z | z
      · rw [if_pos (show x < 0 from z)]; rfl
      · by_cases w : x < 0
        · rw [if_pos w]; rfl
        · rw [if_neg w, if_neg (fun y => by
            have := Int32.le_trans z y
            rw [nI_leI (by omega) (by omega)] at this
            omega)]
          rfl
    · rw [bnd k0, if_pos z00]; rfl
end FE
