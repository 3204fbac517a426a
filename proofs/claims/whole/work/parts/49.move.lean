/-! move -/
section MVA
variable {T : gT} {N : gN} {P : List gN} {S : gS} {u v : gM}
abbrev mvT : Type := List (Nat × Nat × Nat) × (Nat → Nat) × (Nat → Nat)
def upN (f : Nat → Nat) (b x : Nat) : Nat → Nat := fun i => if i = b then x else f i
theorem upN_at {f : Nat → Nat} {b x : Nat} : upN f b x b = x := if_pos rfl
theorem upN_i {f : Nat → Nat} {b x i : Nat} (h : i ≠ b) : upN f b x i = f i := if_neg h
def mvS (b o : Nat) (s : mvT) : mvT := if min (s.2.1 b) (s.2.2 o) = 0 then s else (s.1 ++ [(b, o, min (s.2.1 b) (s.2.2 o))], upN s.2.1 b (s.2.1 b - min (s.2.1 b) (s.2.2 o)), upN s.2.2 o (s.2.2 o - min (s.2.1 b) (s.2.2 o)))
theorem mvS_0 {b o : Nat} {s : mvT} (h : min (s.2.1 b) (s.2.2 o) = 0) : mvS b o s = s := if_pos h
theorem mvS_1 {b o : Nat} {s : mvT} (h : ¬ min (s.2.1 b) (s.2.2 o) = 0) : mvS b o s = (s.1 ++ [(b, o, min (s.2.1 b) (s.2.2 o))], upN s.2.1 b (s.2.1 b - min (s.2.1 b) (s.2.2 o)), upN s.2.2 o (s.2.2 o - min (s.2.1 b) (s.2.2 o))) := if_neg h
def mvI (b : Nat) : Nat → Nat → mvT → mvT
  | _, 0, s => s
  | o, k + 1, s => mvI b (o + 1) k (mvS b o s)
def mvO (n : Nat) : Nat → Nat → mvT → mvT
  | _, 0, s => s
  | b, k + 1, s => mvO n (b + 1) k (mvI b 0 n s)
def pz (f : Nat → Nat) (i : Nat) : Nat := if f i = 0 then 0 else 1
theorem pz_1 {f : Nat → Nat} {i : Nat} (h : f i ≠ 0) : pz f i = 1 := if_neg h
theorem pz_0 {f : Nat → Nat} {i : Nat} (h : f i = 0) : pz f i = 0 := if_pos h
theorem pz_le {f : Nat → Nat} {i : Nat} : pz f i ≤ 1 := by unfold pz; split <;> omega
def mvV (n : Nat) (s : mvT) : Prop := (s.1.length + sumN (pz s.2.1) n + sumN (pz s.2.2) n ≤ 6) ∧ (∀ b, s.2.1 b ≤ 2400000000) ∧ (∀ b, s.2.2 b ≤ 100000000)
theorem mvV.l {n : Nat} {s : mvT} (h : mvV n s) : s.1.length + sumN (pz s.2.1) n + sumN (pz s.2.2) n ≤ 6 := h.1
theorem mvV.e {n : Nat} {s : mvT} (h : mvV n s) : ∀ b, s.2.1 b ≤ 2400000000 := h.2.1
theorem mvV.r {n : Nat} {s : mvT} (h : mvV n s) : ∀ b, s.2.2 b ≤ 100000000 := h.2.2
theorem upN_le {f : Nat → Nat} {b x B : Nat} (h : ∀ i, f i ≤ B) (hx : x ≤ B) : ∀ i, upN f b x i ≤ B := by
  intro i
  by_cases z : i = b
  · subst z; rw [upN_at]; exact hx
  · rw [upN_i z]; exact h i
theorem mvS_V {n b o : Nat} {s : mvT} (hb : b < n) (ho : o < n) (h : mvV n s) : mvV n (mvS b o s) := by
  by_cases hm : min (s.2.1 b) (s.2.2 o) = 0
  · rw [mvS_0 hm]; exact h
  · rw [mvS_1 hm]
    have e1 := sumN_upd (p := pz s.2.1) (q := pz (upN s.2.1 b (s.2.1 b - min (s.2.1 b) (s.2.2 o)))) hb (fun i hi => by unfold pz; rw [upN_i hi])
    have e2 := sumN_upd (p := pz s.2.2) (q := pz (upN s.2.2 o (s.2.2 o - min (s.2.1 b) (s.2.2 o)))) ho (fun i hi => by unfold pz; rw [upN_i hi])
    have p1 : pz s.2.1 b = 1 := pz_1 (by omega)
    have p2 : pz s.2.2 o = 1 := pz_1 (by omega)
    have q1 := pz_le (f := upN s.2.1 b (s.2.1 b - min (s.2.1 b) (s.2.2 o))) (i := b)
    have q2 := pz_le (f := upN s.2.2 o (s.2.2 o - min (s.2.1 b) (s.2.2 o))) (i := o)
    have hl := h.l
    have he := h.e
    have hr := h.r
    refine ⟨?_, upN_le he (by have := he b; omega), upN_le hr (by have := hr o; omega)⟩
    simp only [List.length_append, List.length_cons, List.length_nil]
    by_cases hc : s.2.1 b ≤ s.2.2 o
    · have q3 : pz (upN s.2.1 b (s.2.1 b - min (s.2.1 b) (s.2.2 o))) b = 0 := pz_0 (by rw [upN_at]; omega)
      omega
    · have q3 : pz (upN s.2.2 o (s.2.2 o - min (s.2.1 b) (s.2.2 o))) o = 0 := pz_0 (by rw [upN_at]; omega)
      omega
theorem mvI_V {n b : Nat} (hb : b < n) : ∀ (k o : Nat) (s : mvT), o + k ≤ n → mvV n s → mvV n (mvI b o k s)
  | 0, _, _, _, h => h
  | k + 1, o, s, h1, h => mvI_V hb k (o + 1) _ (by omega) (mvS_V hb (by omega) h)
theorem mvS_pre (b o : Nat) (s : mvT) : ∃ r, (mvS b o s).1 = s.1 ++ r := by
  by_cases hm : min (s.2.1 b) (s.2.2 o) = 0
  · rw [mvS_0 hm]; exact ⟨[], by rw [List.append_nil]⟩
  · rw [mvS_1 hm]; exact ⟨_, rfl⟩
theorem mvI_pre (b : Nat) : ∀ (k o : Nat) (s : mvT), ∃ r, (mvI b o k s).1 = s.1 ++ r
  | 0, _, s => ⟨[], by show s.1 = _; rw [List.append_nil]⟩
  | k + 1, o, s => by
    obtain ⟨r1, h1⟩ := mvS_pre b o s
    obtain ⟨r2, h2⟩ := mvI_pre b k (o + 1) (mvS b o s)
    exact ⟨r1 ++ r2, by show (mvI b (o + 1) k (mvS b o s)).1 = _; rw [h2, h1, List.append_assoc]⟩
theorem mvO_pre (n : Nat) : ∀ (k b : Nat) (s : mvT), ∃ r, (mvO n b k s).1 = s.1 ++ r
  | 0, _, s => ⟨[], by show s.1 = _; rw [List.append_nil]⟩
  | k + 1, b, s => by
    obtain ⟨r1, h1⟩ := mvI_pre b n 0 s
    obtain ⟨r2, h2⟩ := mvO_pre n k (b + 1) (mvI b 0 n s)
    exact ⟨r1 ++ r2, by show (mvO n (b + 1) k (mvI b 0 n s)).1 = _; rw [h2, h1, List.append_assoc]⟩
def CM (n : Nat) (s : mvT) (u : gM) : Prop := (u.1 150 0 = nI s.1.length) ∧ (∀ b, b < n → u.2 151 b = lN (s.2.1 b)) ∧ (∀ o, o < n → u.2 152 o = lN (s.2.2 o)) ∧ (∀ k x, s.1[k]? = some x → u.1 153 k = nI x.1 ∧ u.1 154 k = nI x.2.1 ∧ u.2 155 k = lN x.2.2)
theorem CM.n {n : Nat} {s : mvT} {u : gM} (h : CM n s u) : u.1 150 0 = nI s.1.length := h.1
theorem CM.e {n : Nat} {s : mvT} {u : gM} (h : CM n s u) : ∀ b, b < n → u.2 151 b = lN (s.2.1 b) := h.2.1
theorem CM.r {n : Nat} {s : mvT} {u : gM} (h : CM n s u) : ∀ o, o < n → u.2 152 o = lN (s.2.2 o) := h.2.2.1
theorem CM.l {n : Nat} {s : mvT} {u : gM} (h : CM n s u) : ∀ k x, s.1[k]? = some x → u.1 153 k = nI x.1 ∧ u.1 154 k = nI x.2.1 ∧ u.2 155 k = lN x.2.2 := h.2.2.2
theorem q_find20 {k7 : Int32 → gM → Option gM} {u0 : gM} {b : Nat} (hV : VT T) (hT : RT 3 T u0) (hb : b < T 0 1) : ∀ (f o : Nat) (s : mvT) (u : gM), o ≤ T 0 1 → T 0 1 - o < f → off sX u0 u → mvV (T 0 1) s → CM (T 0 1) s u → ∃ u', X6_find_l20 k7 f (nI b) (nI o) u = k7 (nI (b + 1)) u' ∧ off sX u0 u' ∧ CM (T 0 1) (mvI b o (T 0 1 - o) s) u' := by
  have hnb := hV.nb
  intro f
  induction f with
  | zero => intro o s u h1 h2; omega
  | succ f ih =>
    intro o s u h1 h2 hoff hv hc
    have hT1 := RT_sX hT hoff
    unfold X6_find_l20 X6_find_b20 X6_find_b122 X6_find_b128
    by_cases h4 : o = T 0 1
    · refine ⟨u, ?_, hoff, ?_⟩
      · rw [hT1.nb, h4, if_pos (Int32.le_refl _), nI_s]
      · rw [show T 0 1 - o = 0 by omega]; exact hc
    · have ho : o < T 0 1 := by omega
      have z1 : ¬ (u.1 3 1) ≤ nI o := by rw [hT1.nb, nI_leI (by omega) (by omega)]; omega
      have hl := hv.l
      have c0 := hc.n
      have z2 : ¬ (12 : Int32) ≤ u.1 150 0 := by rw [c0, nI_lit, nI_leI (by omega) (by omega)]; omega
      have c1 := hc.e b hb
      have c2 := hc.r o ho
      have b1 := hv.e b
      have b2 := hv.r o
      rw [show T 0 1 - o = (T 0 1 - (o + 1)) + 1 by omega]
      show ∃ u', _ ∧ _ ∧ CM (T 0 1) (mvI b (o + 1) (T 0 1 - (o + 1)) (mvS b o s)) u'
      have hv2 := mvS_V hb ho hv
      by_cases hm : min (s.2.1 b) (s.2.2 o) = 0
      · rw [mvS_0 hm]
        obtain ⟨u', e, o4, q4⟩ := ih (o + 1) s u (by omega) (by omega) hoff hv hc
        refine ⟨u', ?_, o4, q4⟩
        rw [if_neg z1, if_neg z2, bnd (aC151 (show b < 6 by omega)), bnd (aC152 (show o < 6 by omega)), c1, c2, mnJ_N (by omega) (by omega), hm, if_pos (by decide), nI_s]
        exact e
      · rw [mvS_1 hm] at hv2 ⊢
        have z3 : ¬ lg_cmp (lN (min (s.2.1 b) (s.2.2 o))) 0 ≤ 0 := by
          rw [nI_lit, lg_le, lN_lit, lN_leI (by omega) (by omega)]; omega
        have hv3 := hv.l
        have kl : s.1.length < 12 := by omega
        have x1 : (upI u 153 s.1.length (nI b)).1 150 0 = nI s.1.length := by rw [upI_k (by omega), c0]
        have x2 : (upI (upI u 153 s.1.length (nI b)) 154 s.1.length (nI o)).1 150 0 = nI s.1.length := by rw [upI_k (by omega), x1]
        have x3 : (upJ (upI (upI u 153 s.1.length (nI b)) 154 s.1.length (nI o)) 155 s.1.length (lN (min (s.2.1 b) (s.2.2 o)))).1 150 0 = nI s.1.length := by rw [upJ_1, x2]
        have y1 : (upI (upJ (upI (upI u 153 s.1.length (nI b)) 154 s.1.length (nI o)) 155 s.1.length (lN (min (s.2.1 b) (s.2.2 o)))) 150 0 (nI (s.1.length + 1))).2 151 b = lN (s.2.1 b) := by
          rw [upI_2, upJ_k (by omega), upI_2, upI_2, c1]
        have y2 : (upJ (upI (upJ (upI (upI u 153 s.1.length (nI b)) 154 s.1.length (nI o)) 155 s.1.length (lN (min (s.2.1 b) (s.2.2 o)))) 150 0 (nI (s.1.length + 1))) 151 b (lN (s.2.1 b - min (s.2.1 b) (s.2.2 o)))).2 152 o = lN (s.2.2 o) := by
          rw [upJ_k (by omega), upI_2, upJ_k (by omega), upI_2, upI_2, c2]
        have hC : CM (T 0 1) (s.1 ++ [(b, o, min (s.2.1 b) (s.2.2 o))], upN s.2.1 b (s.2.1 b - min (s.2.1 b) (s.2.2 o)), upN s.2.2 o (s.2.2 o - min (s.2.1 b) (s.2.2 o))) (upJ (upJ (upI (upJ (upI (upI u 153 s.1.length (nI b)) 154 s.1.length (nI o)) 155 s.1.length (lN (min (s.2.1 b) (s.2.2 o)))) 150 0 (nI (s.1.length + 1))) 151 b (lN (s.2.1 b - min (s.2.1 b) (s.2.2 o)))) 152 o (lN (s.2.2 o - min (s.2.1 b) (s.2.2 o)))) := by
          refine ⟨?_, fun c hc' => ?_, fun c hc' => ?_, fun k x hk => ?_⟩
          · rw [upJ_1, upJ_1, upI_at, List.length_append]; rfl
          · show _ = lN (upN s.2.1 b _ c)
            rw [upJ_k (by omega)]
            by_cases z : c = b
            · subst z; rw [upJ_at, upN_at]
            · rw [upJ_j z, upN_i z, upI_2, upJ_k (by omega), upI_2, upI_2]; exact hc.e c hc'
          · show _ = lN (upN s.2.2 o _ c)
            by_cases z : c = o
            · subst z; rw [upJ_at, upN_at]
            · rw [upJ_j z, upN_i z, upJ_k (by omega), upI_2, upJ_k (by omega), upI_2, upI_2]; exact hc.r c hc'
          · have hk' : (s.1 ++ [(b, o, min (s.2.1 b) (s.2.2 o))])[k]? = some x := hk
            by_cases z : k < s.1.length
            · rw [List.getElem?_append_left z] at hk'
              obtain ⟨g1, g2, g3⟩ := hc.l k x hk'
              refine ⟨?_, ?_, ?_⟩
              · rw [upJ_1, upJ_1, upI_k (by omega), upJ_1, upI_k (by omega), upI_j (by omega)]; exact g1
              · rw [upJ_1, upJ_1, upI_k (by omega), upJ_1, upI_j (by omega), upI_k (by omega)]; exact g2
              · rw [upJ_k (by omega), upJ_k (by omega), upI_2, upJ_j (by omega), upI_2, upI_2]; exact g3
            · have hk2 := (List.getElem?_eq_some_iff.mp hk').1
              rw [List.length_append] at hk2
              have hk3 : k = s.1.length := by simp only [List.length_cons, List.length_nil] at hk2; omega
              subst hk3
              rw [List.getElem?_append_right (Nat.le_refl _), Nat.sub_self] at hk'
              have hx : (b, o, min (s.2.1 b) (s.2.2 o)) = x := Option.some.inj hk'
              subst hx
              refine ⟨?_, ?_, ?_⟩
              · rw [upJ_1, upJ_1, upI_k (by omega), upJ_1, upI_k (by omega), upI_at]
              · rw [upJ_1, upJ_1, upI_k (by omega), upJ_1, upI_at]
              · rw [upJ_k (by omega), upJ_k (by omega), upI_2, upJ_at]
        have hO : off sX u0 (upJ (upJ (upI (upJ (upI (upI u 153 s.1.length (nI b)) 154 s.1.length (nI o)) 155 s.1.length (lN (min (s.2.1 b) (s.2.2 o)))) 150 0 (nI (s.1.length + 1))) 151 b (lN (s.2.1 b - min (s.2.1 b) (s.2.2 o)))) 152 o (lN (s.2.2 o - min (s.2.1 b) (s.2.2 o)))) :=
          off_upJ (sXk (by omega)) (off_upJ (sXk (by omega)) (off_upI (sXk (by omega)) (off_upJ (sXk (by omega)) (off_upI (sXk (by omega)) (off_upI (sXk (by omega)) hoff)))))
        obtain ⟨u', e, o4, q4⟩ := ih (o + 1) _ _ (by omega) (by omega) hO hv2 hC
        refine ⟨u', ?_, o4, q4⟩
        rw [if_neg z1, if_neg z2, bnd (aC151 (show b < 6 by omega)), bnd (aC152 (show o < 6 by omega)), c1, c2, mnJ_N (by omega) (by omega), if_neg z3, c0, bnd (sC153 kl), x1, bnd (sC154 kl), x2, bnd (sC155 kl), x3, show (nI s.1.length + 1 : Int32) = nI (s.1.length + 1) from nI_s _, bnd (aC151 (show b < 6 by omega)), y1, lN_sub (Nat.min_le_left _ _), bnd (sC151 (show b < 6 by omega)), bnd (aC152 (show o < 6 by omega)), y2, lN_sub (Nat.min_le_right _ _), bnd (sC152 (show o < 6 by omega)), nI_s]
        exact e
theorem q_find7 {u0 : gM} (hV : VT T) (hT : RT 3 T u0) : ∀ (f b : Nat) (s : mvT) (u : gM), b ≤ T 0 1 → T 0 1 - b < f → off sX u0 u → mvV (T 0 1) s → CM (T 0 1) s u → ∃ u', X6_find_l7 f (nI b) u = some u' ∧ off sX u0 u' ∧ CM (T 0 1) (mvO (T 0 1) b (T 0 1 - b) s) u' := by
  have hnb := hV.nb
  intro f
  induction f with
  | zero => intro b s u h1 h2; omega
  | succ f ih =>
    intro b s u h1 h2 hoff hv hc
    have hT1 := RT_sX hT hoff
    unfold X6_find_l7 X6_find_b7
    by_cases h4 : b = T 0 1
    · refine ⟨u, ?_, hoff, ?_⟩
      · rw [hT1.nb, h4, if_pos (Int32.le_refl _)]
      · rw [show T 0 1 - b = 0 by omega]; exact hc
    · have hb : b < T 0 1 := by omega
      have z1 : ¬ (u.1 3 1) ≤ nI b := by rw [hT1.nb, nI_leI (by omega) (by omega)]; omega
      obtain ⟨u1, e1, o1, c1⟩ := q_find20 (k7 := X6_find_l7 f) hV hT hb fz 0 s u (Nat.zero_le _) (fz_lt (by omega)) hoff hv hc
      rw [Nat.sub_zero] at c1
      have hv1 := mvI_V hb (T 0 1) 0 s (by omega) hv
      obtain ⟨u', e, o4, q4⟩ := ih (b + 1) _ u1 (by omega) (by omega) o1 hv1 c1
      rw [show T 0 1 - b = (T 0 1 - (b + 1)) + 1 by omega]
      refine ⟨u', ?_, o4, q4⟩
      rw [if_neg z1]
      exact e1.trans e
end MVA
