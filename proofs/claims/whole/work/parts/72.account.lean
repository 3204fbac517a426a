/-! LINES: an ACCOUNT -/
def aD (D : gT) (kd hb c te m : Nat) (O : Nat → Nat) (hm : Nat) (H : Nat → Nat) (w : Nat) : gT := fun r i =>
  if r = 0 then (if i = 2 then D 0 2 + 1 else D 0 i)
  else if r = 1 then (if i = D 0 2 then kd else D 1 i)
  else if r = 2 then (if i = D 0 2 then hb else D 2 i)
  else if r = 3 then (if i = D 0 2 then c else D 3 i)
  else if r = 4 then (if i = D 0 2 then te else D 4 i)
  else if r = 5 then (if i = D 0 2 then m else D 5 i)
  else if r = 6 then (if i = D 0 2 then hm else D 6 i)
  else if r = 13 then (if i = D 0 2 then w else D 13 i)
  else if r = 7 then (if D 0 2 * 4 ≤ i then O (i - D 0 2 * 4) else D 7 i)
  else if r = 14 then (if D 0 2 * 6 ≤ i then H (i - D 0 2 * 6) else D 14 i)
  else D r i
section AC
variable {u0 v0 u v u1 v1 : gM} {s : tpT} {t t1 : tkT} {D : gT} {kd hb c te m hm w : Nat} {O H : Nat → Nat}
theorem BS_account (h : BS u0 v0 s t D u v) (ha : D 0 2 < 24) (hkd : kd ≤ 4) (hhb : hb < D 0 1) (hc : c ≤ 100000000) (hte : te ≤ 60) (hm1 : 1 ≤ m ∧ m ≤ 4) (hhm : hm ≤ 6) (hOw : OWn D m O u v) (hHr : HRn D hm H u v) (hw : w < 27 ^ 8) (c123 : u.1 123 (D 0 2) = nI c) (c124 : u.1 124 (D 0 2) = nI te) (m5 : v.1 5 (24 + D 0 2) = nI kd) (m6 : v.1 6 (24 + D 0 2) = nI hb) (m11 : v.1 11 (24 + D 0 2) = nI c) (m12 : v.1 12 (24 + D 0 2) = nI te) (m4 : v.2 4 (24 + D 0 2) = lN (cv w)) : BS u0 v0 s t (aD D kd hb c te m O hm H w) (upI (upI (upI (upJ u 120 (D 0 2) (lN w)) 121 (D 0 2) (nI kd)) 122 (D 0 2) (nI hb)) 117 2 (nI (D 0 2 + 1))) (upI v 1 8 (nI (D 0 2 + 1))) := by
  have hV := h.d.t
  have hno := hV.no
  have hnh := hV.nh
  have q7 : ∀ a k, aD D kd hb c te m O hm H w 7 (a * 4 + k) = if D 0 2 * 4 ≤ a * 4 + k then O (a * 4 + k - D 0 2 * 4) else D 7 (a * 4 + k) := fun a k => rfl
  have q14 : ∀ a k, aD D kd hb c te m O hm H w 14 (a * 6 + k) = if D 0 2 * 6 ≤ a * 6 + k then H (a * 6 + k - D 0 2 * 6) else D 14 (a * 6 + k) := fun a k => rfl
  have q5 : ∀ a, aD D kd hb c te m O hm H w 5 a = if a = D 0 2 then m else D 5 a := fun a => rfl
  have q6 : ∀ a, aD D kd hb c te m O hm H w 6 a = if a = D 0 2 then hm else D 6 a := fun a => rfl
  have p7 : ∀ k, aD D kd hb c te m O hm H w 7 (D 0 2 * 4 + k) = O k := fun k => by rw [q7, if_pos (by omega), show D 0 2 * 4 + k - D 0 2 * 4 = k by omega]
  have p14 : ∀ k, aD D kd hb c te m O hm H w 14 (D 0 2 * 6 + k) = H k := fun k => by rw [q14, if_pos (by omega), show D 0 2 * 6 + k - D 0 2 * 6 = k by omega]
  have r7 : ∀ a k, a < D 0 2 → k < D 5 a → aD D kd hb c te m O hm H w 7 (a * 4 + k) = D 7 (a * 4 + k) := fun a k h1 h2 => by
    rw [q7, if_neg (by have := hno a h1; omega)]
  have r14 : ∀ a k, a < D 0 2 → k < D 6 a → aD D kd hb c te m O hm H w 14 (a * 6 + k) = D 14 (a * 6 + k) := fun a k h1 h2 => by
    rw [q14, if_neg (by have := hnh a h1; omega)]
  have e5 : ∀ a, a ≠ D 0 2 → aD D kd hb c te m O hm H w 5 a = D 5 a := fun a ha => by rw [q5, if_neg ha]
  have e6 : ∀ a, a ≠ D 0 2 → aD D kd hb c te m O hm H w 6 a = D 6 a := fun a ha => by rw [q6, if_neg ha]
  have hRC : RT 117 (aD D kd hb c te m O hm H w) (upI (upI (upI (upJ u 120 (D 0 2) (lN w)) 121 (D 0 2) (nI kd)) 122 (D 0 2) (nI hb)) 117 2 (nI (D 0 2 + 1))) := by
    refine ⟨h.rc.np, h.rc.nb, upI_at, h.rc.nl, h.rc.li, h.rc.gr, h.rc.pn, h.rc.bn, fun a hb2 => ?_, fun a hb2 => ?_, fun a hb2 => ?_, fun a hb2 => ?_, fun a hb2 => ?_, fun a hb2 => ?_, fun a hb2 => ?_, fun a k hb2 hk => ?_, fun a k hb2 hk => ?_, h.rc.lp, h.rc.lb, h.rc.lc⟩
    · have ha2 : a < D 0 2 + 1 := hb2
      show (upJ u 120 (D 0 2) (lN w)).2 120 a = lN (if a = D 0 2 then w else D 13 a)
      by_cases z : a = D 0 2
      · rw [if_pos z, z, upJ_at]
      · rw [if_neg z, upJ_j z]; exact h.rc.an a (by omega)
    · have ha2 : a < D 0 2 + 1 := hb2
      show (upI (upJ u 120 (D 0 2) (lN w)) 121 (D 0 2) (nI kd)).1 121 a = nI (if a = D 0 2 then kd else D 1 a)
      by_cases z : a = D 0 2
      · rw [if_pos z, z, upI_at]
      · rw [if_neg z, upI_j z]; exact h.rc.kd a (by omega)
    · have ha2 : a < D 0 2 + 1 := hb2
      show (upI (upI (upJ u 120 (D 0 2) (lN w)) 121 (D 0 2) (nI kd)) 122 (D 0 2) (nI hb)).1 122 a = nI (if a = D 0 2 then hb else D 2 a)
      by_cases z : a = D 0 2
      · rw [if_pos z, z, upI_at]
      · rw [if_neg z, upI_j z]; exact h.rc.hm a (by omega)
    · have ha2 : a < D 0 2 + 1 := hb2
      show u.1 123 a = nI (if a = D 0 2 then c else D 3 a)
      by_cases z : a = D 0 2
      · rw [if_pos z, z]; exact c123
      · rw [if_neg z]; exact h.rc.tc a (by omega)
    · have ha2 : a < D 0 2 + 1 := hb2
      show u.1 124 a = nI (if a = D 0 2 then te else D 4 a)
      by_cases z : a = D 0 2
      · rw [if_pos z, z]; exact c124
      · rw [if_neg z]; exact h.rc.te a (by omega)
    · have ha2 : a < D 0 2 + 1 := hb2
      show u.1 125 a = nI (if a = D 0 2 then m else D 5 a)
      by_cases z : a = D 0 2
      · rw [if_pos z, z]; exact hOw.c
      · rw [if_neg z]; exact h.rc.no a (by omega)
    · have ha2 : a < D 0 2 + 1 := hb2
      show u.1 126 a = nI (if a = D 0 2 then hm else D 6 a)
      by_cases z : a = D 0 2
      · rw [if_pos z, z]; exact hHr.c
      · rw [if_neg z]; exact h.rc.nh a (by omega)
    · have ha2 : a < D 0 2 + 1 := hb2
      show u.1 127 (a * 4 + k) = _
      by_cases z : a = D 0 2
      · subst z
        rw [q5, if_pos rfl] at hk
        rw [p7]; exact hOw.w k hk
      · rw [e5 a z] at hk
        rw [r7 a k (by omega) hk]; exact h.rc.ow a k (by omega) hk
    · have ha2 : a < D 0 2 + 1 := hb2
      show u.2 128 (a * 6 + k) = _
      by_cases z : a = D 0 2
      · subst z
        rw [q6, if_pos rfl] at hk
        rw [p14]; exact hHr.w k hk
      · rw [e6 a z] at hk
        rw [r14 a k (by omega) hk]; exact h.rc.hn a k (by omega) hk
  have hRM : RTm 1 (aD D kd hb c te m O hm H w) (upI v 1 8 (nI (D 0 2 + 1))) := by
    refine ⟨h.rm.np, h.rm.nb, upI_at, h.rm.nl, h.rm.li, h.rm.gr, h.rm.pn, h.rm.bn, fun a hb2 => ?_, fun a hb2 => ?_, fun a hb2 => ?_, fun a hb2 => ?_, fun a hb2 => ?_, fun a hb2 => ?_, fun a k hb2 hk => ?_, fun a k hb2 hk => ?_, h.rm.lp, h.rm.lb, h.rm.lc⟩
    · have ha2 : a < D 0 2 + 1 := hb2
      show v.2 4 (24 * 1 + a) = lN (cv (if a = D 0 2 then w else D 13 a))
      by_cases z : a = D 0 2
      · rw [if_pos z, z]; exact m4
      · rw [if_neg z]; exact h.rm.an a (by omega)
    · have ha2 : a < D 0 2 + 1 := hb2
      show v.1 6 (24 * 1 + a) = nI (if a = D 0 2 then hb else D 2 a)
      by_cases z : a = D 0 2
      · rw [if_pos z, z]; exact m6
      · rw [if_neg z]; exact h.rm.hm a (by omega)
    · have ha2 : a < D 0 2 + 1 := hb2
      show v.1 11 (24 * 1 + a) = nI (if a = D 0 2 then c else D 3 a)
      by_cases z : a = D 0 2
      · rw [if_pos z, z]; exact m11
      · rw [if_neg z]; exact h.rm.tc a (by omega)
    · have ha2 : a < D 0 2 + 1 := hb2
      show v.1 12 (24 * 1 + a) = nI (if a = D 0 2 then te else D 4 a)
      by_cases z : a = D 0 2
      · rw [if_pos z, z]; exact m12
      · rw [if_neg z]; exact h.rm.te a (by omega)
    · have ha2 : a < D 0 2 + 1 := hb2
      show v.1 7 (24 * 1 + a) = nI (if a = D 0 2 then m else D 5 a)
      by_cases z : a = D 0 2
      · rw [if_pos z, z]; exact hOw.x
      · rw [if_neg z]; exact h.rm.no a (by omega)
    · have ha2 : a < D 0 2 + 1 := hb2
      show v.1 9 (24 * 1 + a) = nI (if a = D 0 2 then hm else D 6 a)
      by_cases z : a = D 0 2
      · rw [if_pos z, z]; exact hHr.x
      · rw [if_neg z]; exact h.rm.nh a (by omega)
    · have ha2 : a < D 0 2 + 1 := hb2
      show v.1 8 (4 * (24 * 1 + a) + k) = _
      by_cases z : a = D 0 2
      · subst z
        rw [q5, if_pos rfl] at hk
        rw [p7]; exact hOw.y k hk
      · rw [e5 a z] at hk
        rw [r7 a k (by omega) hk]; exact h.rm.ow a k (by omega) hk
    · have ha2 : a < D 0 2 + 1 := hb2
      show v.2 10 (6 * (24 * 1 + a) + k) = _
      by_cases z : a = D 0 2
      · subst z
        rw [q6, if_pos rfl] at hk
        rw [p14]; exact hHr.y k hk
      · rw [e6 a z] at hk
        rw [r14 a k (by omega) hk]; exact h.rm.hn a k (by omega) hk
  have hVT : VT (aD D kd hb c te m O hm H w) := by
    refine ⟨hV.np, hV.nb, ha, hV.nl, hV.li, hV.gr, fun a hb2 => ?_, fun a hb2 => ?_, fun a hb2 => ?_, fun a hb2 => ?_, fun a hb2 => ?_, fun a hb2 => ?_, fun a k hb2 hk => ?_, fun a k j hb2 hk hj e => ?_, hV.lp, hV.lb, hV.lc, hV.pn, hV.bn, fun a hb2 => ?_, fun a k hb2 hk => ?_⟩
    · have ha2 : a < D 0 2 + 1 := hb2
      show (if a = D 0 2 then kd else D 1 a) ≤ 4
      by_cases z : a = D 0 2
      · rw [if_pos z]; exact hkd
      · rw [if_neg z]; exact hV.kd a (by omega)
    · have ha2 : a < D 0 2 + 1 := hb2
      show (if a = D 0 2 then hb else D 2 a) < D 0 1
      by_cases z : a = D 0 2
      · rw [if_pos z]; exact hhb
      · rw [if_neg z]; exact hV.hm a (by omega)
    · have ha2 : a < D 0 2 + 1 := hb2
      show (if a = D 0 2 then c else D 3 a) ≤ 100000000
      by_cases z : a = D 0 2
      · rw [if_pos z]; exact hc
      · rw [if_neg z]; exact hV.tc a (by omega)
    · have ha2 : a < D 0 2 + 1 := hb2
      show (if a = D 0 2 then te else D 4 a) ≤ 60
      by_cases z : a = D 0 2
      · rw [if_pos z]; exact hte
      · rw [if_neg z]; exact hV.te a (by omega)
    · have ha2 : a < D 0 2 + 1 := hb2
      show 1 ≤ (if a = D 0 2 then m else D 5 a) ∧ (if a = D 0 2 then m else D 5 a) ≤ 4
      by_cases z : a = D 0 2
      · rw [if_pos z]; exact hm1
      · rw [if_neg z]; exact hV.no a (by omega)
    · have ha2 : a < D 0 2 + 1 := hb2
      show (if a = D 0 2 then hm else D 6 a) ≤ 6
      by_cases z : a = D 0 2
      · rw [if_pos z]; exact hhm
      · rw [if_neg z]; exact hV.nh a (by omega)
    · have ha2 : a < D 0 2 + 1 := hb2
      show _ < D 0 0
      by_cases z : a = D 0 2
      · subst z
        rw [q5, if_pos rfl] at hk
        rw [p7]; exact hOw.r k hk
      · rw [e5 a z] at hk
        rw [r7 a k (by omega) hk]; exact hV.ow a k (by omega) hk
    · have ha2 : a < D 0 2 + 1 := hb2
      by_cases z : a = D 0 2
      · subst z
        rw [q5, if_pos rfl] at hk hj
        rw [p7, p7] at e
        exact hOw.d k j hk hj e
      · rw [e5 a z] at hk hj
        rw [r7 a k (by omega) hk, r7 a j (by omega) hj] at e
        exact hV.od a k j (by omega) hk hj e
    · have ha2 : a < D 0 2 + 1 := hb2
      show (if a = D 0 2 then w else D 13 a) < 27 ^ 8
      by_cases z : a = D 0 2
      · rw [if_pos z]; exact hw
      · rw [if_neg z]; exact hV.an a (by omega)
    · have ha2 : a < D 0 2 + 1 := hb2
      by_cases z : a = D 0 2
      · subst z
        rw [q6, if_pos rfl] at hk
        rw [p14]; exact (hHr.r k hk).2
      · rw [e6 a z] at hk
        rw [r14 a k (by omega) hk]; exact hV.hn a k (by omega) hk
  refine ⟨h.V, Pc_wI (Pc_wI (Pc_wI (Pc_wJ h.c (by omega)) (by omega) (by omega)) (by omega) (by omega)) (by omega) (by omega), Pm_wI h.m (by omega) (by omega), hRC, hRM, ?_, ⟨hVT, ?_, h.d.pz⟩, off_upI (Or.inr (by omega)) (off_upI (Or.inr (by omega)) (off_upI (Or.inr (by omega)) (off_upJ (Or.inr (by omega)) h.oc))), h.om.wI (by omega) (by omega) (by unfold lo; simp)⟩
  · intro a hb2
    have ha2 : a < D 0 2 + 1 := hb2
    show v.1 5 (24 * 1 + a) = nI (if a = D 0 2 then kd else D 1 a)
    by_cases z : a = D 0 2
    · rw [if_pos z, z]; exact m5
    · rw [if_neg z]; exact h.rk a (by omega)
  · intro a k hb2 hk
    have ha2 : a < D 0 2 + 1 := hb2
    by_cases z : a = D 0 2
    · subst z
      rw [q6, if_pos rfl] at hk
      rw [p14]; exact (hHr.r k hk).1
    · rw [e6 a z] at hk
      rw [r14 a k (by omega) hk]; exact h.d.hz a k (by omega) hk
end AC
