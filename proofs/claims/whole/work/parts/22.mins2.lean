/-! INSURED: the model's, all of it -/
section MJ
variable {T : gT} {N : gN} {mh : Option Nat}
theorem iofS_le (hV : VT T) {p m : Nat} : iofS T N mh p m ≤ 15000000000 := by
  have hnb := hV.nb
  unfold iofS
  have h5 := sumN_max (p := fun kd => sumN (fun b => min ((gl T N p kd b m (T 0 2)).map (shP T N p)).sum (mstM T N mh p kd b m)) (T 0 1)) (B := 6 * 500000000) (n := 5) (fun i _ => by
    have h6 := sumN_max (p := fun b => min ((gl T N p i b m (T 0 2)).map (shP T N p)).sum (mstM T N mh p i b m)) (B := 500000000) (n := T 0 1) (fun j _ => Nat.le_trans (Nat.min_le_right _ _) (mstM_le hV))
    exact Nat.le_trans h6 (Nat.mul_le_mul_right _ hnb))
  exact Nat.le_trans h5 (by decide)
/-- INSURED of all PEOPLE now -/
def iallS (T : gT) (N : gN) (mh : Option Nat) : Nat := sumN (fun p => iofS T N mh p (N.1 0 0)) (T 0 0)
theorem m_insuredAll_l {u0 : gM} (hV : VT T) (hVN : VN T N) (hM : MV T N mh u0) (hmh : ∀ a, mh = some a → a < 2 ^ 31) : ∀ (f p : Nat) (u : gM), p ≤ T 0 0 → T 0 0 - p < f → off sY u0 u → ∃ u', X12_insuredAll_l4 f (lN (sumN (fun p => iofS T N mh p (N.1 0 0)) p)) (nI p) u = some (lN (iallS T N mh), u') := by
  have hnp := hV.np
  have hmo := hVN.mo
  intro f
  induction f with
  | zero => intro p u h1 h2; omega
  | succ f ih =>
    intro p u h1 h2 ho
    have hM1 := hM.mv ho
    have h3 := hM1.t.np
    have h6 := hM1.n.mo
    simp only [Nat.mul_zero, Nat.zero_add] at h3
    unfold X12_insuredAll_l4 X12_insuredAll_b4
    by_cases h4 : p = T 0 0
    · refine ⟨u, ?_⟩
      rw [nI_lit, aM1 (by omega), h3, Option.bind_some, h4, if_pos (Int32.le_refl _)]
      rfl
    · obtain ⟨u1, e1, o1⟩ := m_insuredOf (p := p) (m := N.1 0 0) hV hVN hM1 hmh (by omega) (by omega)
      obtain ⟨u', e⟩ := ih (p + 1) u1 (by omega) (by omega) (off_tr ho (off_mono o1 (fun c h => by have h : c = 20 := h; show 20 ≤ c; omega)))
      refine ⟨u', ?_⟩
      rw [sumN_s] at e
      rw [nI_lit, aM1 (by omega), h3, Option.bind_some, if_neg (by rw [nI_leI (by omega) (by omega)]; omega), aM16 (by omega), h6, Option.bind_some, e1, Option.bind_some, nI_lit, nI_add, lN_add]
      exact e
theorem m_insuredAll {u : gM} (hV : VT T) (hVN : VN T N) (hM : MV T N mh u) (hmh : ∀ a, mh = some a → a < 2 ^ 31) : ∃ u', X12_insuredAll u = some (lN (iallS T N mh), u') ∧ off (fun c => c = 20) u u' := by
  have hnp := hV.np
  obtain ⟨u', e⟩ := m_insuredAll_l hV hVN hM hmh fz 0 u (Nat.zero_le _) (fz_lt (by omega)) off_rf
  have e2 : X12_insuredAll u = some (lN (iallS T N mh), u') := by
    unfold X12_insuredAll
    rw [nI_lit, lN_lit]
    exact e
  exact ⟨u', e2, fr_X12_insuredAll (S := fun c => c = 20) rfl e2 off_rf⟩
/-- all SHARES of a PERSON -/
def shaF (T : gT) (N : gN) (p a : Nat) : Nat := match owS T a p with
  | none => 0
  | some k => shS T N a k
def shaS (T : gT) (N : gN) (p : Nat) : Nat := sumN (shaF T N p) (T 0 2)
theorem shaF_le {p a : Nat} (hV : VT T) (hVN : VN T N) (ha : a < T 0 2) : shaF T N p a ≤ 100000000 := by
  unfold shaF
  split
  · omega
  · exact shS_le hV hVN ha
theorem shaS_le {p n : Nat} (hV : VT T) (hVN : VN T N) (hn : n ≤ T 0 2) : sumN (shaF T N p) n ≤ 2400000000 := by
  have h := sumN_max (p := shaF T N p) (B := 100000000) (n := n) (fun i hi => shaF_le hV hVN (by omega))
  have h2 := hV.na
  have : n * 100000000 ≤ 24 * 100000000 := Nat.mul_le_mul_right _ (by omega)
  omega
theorem m_sharesOf_l {p : Nat} {u : gM} (hV : VT T) (hVN : VN T N) (hT : RTm 0 T u) (hN : RNm (u.1 16) T N) (hp : p < T 0 0) : ∀ (f a : Nat), a ≤ T 0 2 → T 0 2 - a < f → X12_sharesOf_l5 u f (nI p) (lN (sumN (shaF T N p) a)) (nI a) = some (lN (shaS T N p)) := by
  have hna := hV.na
  have h2 := hT.na
  simp only [Nat.mul_zero, Nat.zero_add] at h2
  intro f
  induction f with
  | zero => intro a h1 h2; omega
  | succ f ih =>
    intro a h1 h3
    unfold X12_sharesOf_l5 X12_sharesOf_b5 X12_sharesOf_b46
    by_cases h4 : a = T 0 2
    · rw [nI_lit, aM1 (by omega), h2, Option.bind_some, h4, if_pos (Int32.le_refl _)]
      rfl
    · have ha : a < T 0 2 := by omega
      have e := ih (a + 1) (by omega) (by omega)
      rw [sumN_s] at e
      have h5 := m_ownerAt hV hT ha hp
      have h0 := hV.no a ha
      have hle := shaS_le (p := p) (n := a) hV hVN h1
      cases hk : owS T a p with
      | none =>
        have h6 : shaF T N p a = 0 := by unfold shaF; rw [hk]
        rw [h6] at e
        rw [hk] at h5
        simp (disch := omega) only [aM1, h2, h5, oI, nI_lit, lN_lit, nI_add, pk_mul, lN_add, lN_mul, Option.bind_some, nI_leI, nI_ltI, nI_eq, lN_leI, lN_ltI, lN_eqI, nI_m1, m1_nI, i_modN, lN_modN, nI_64, lN_32, if_pos, if_neg, ↓reduceIte, if_true, if_false]
        exact e
      | some k =>
        have hk1 := (owS_some hk).1
        have h6 : shaF T N p a = shS T N a k := by unfold shaF; rw [hk]
        have h7 := m_shareOf hV hT hN hVN ha hk1
        have h8 := shS_le (k := k) hV hVN ha
        rw [h6] at e
        rw [hk] at h5
        simp (disch := omega) only [aM1, h2, h5, h7, oI, nI_lit, lN_lit, nI_add, pk_mul, lN_add, lN_mul, Option.bind_some, nI_leI, nI_ltI, nI_eq, lN_leI, lN_ltI, lN_eqI, nI_m1, m1_nI, i_modN, lN_modN, nI_64, lN_32, if_pos, if_neg, ↓reduceIte, if_true, if_false]
        exact e
theorem m_sharesOf {p : Nat} {u : gM} (hV : VT T) (hVN : VN T N) (hT : RTm 0 T u) (hN : RNm (u.1 16) T N) (hp : p < T 0 0) : X12_sharesOf u (nI p) = some (lN (shaS T N p)) := by
  have hna := hV.na
  unfold X12_sharesOf
  rw [nI_lit, lN_lit]
  exact m_sharesOf_l hV hVN hT hN hp fz 0 (Nat.zero_le _) (fz_lt (by omega))
theorem mrS_none {L : List Nat} : mrS none L = 0 := by
  unfold mrS
  rw [List.filter_eq_nil_iff.mpr (by simp)]
  rfl
theorem mstM_none {p kd b m : Nat} : mstM T N none p kd b m = mstS T N p kd b m := by
  unfold mstM mstS
  rw [mrS_none, Nat.add_zero]
/-- the first loop of a GROUP: the parts -/
theorem m_insG_a {p kd b m : Nat} {u0 : gM} (hV : VT T) (hVN : VN T N) (hM : MV T N none u0) (hp : p < T 0 0) (hkd : kd ≤ 4) (hb : b < 2 ^ 31) (hm : m < 2 ^ 30) : ∀ (f a : Nat) (u : gM), a ≤ T 0 2 → T 0 2 - a < f → off (fun c => c = 21) u0 u → (∀ i, i < (gl T N p kd b m a).length → u.2 21 i = lN (shP T N p ((gl T N p kd b m a).getD i 0))) →
    ∃ u', X12_insuresGroup_l6 f (nI p) (nI kd) (nI b) (nI m) (nI (gl T N p kd b m a).length) (nI a) u = (if gN_ T N p kd b m = 0 then some u' else ((X12_mostOf (nI p) (nI kd) (nI b) (nI m) u').bind fun w77 => ((X12_divides w77.1 (nI (gN_ T N p kd b m)) w77.2).bind fun w82 => (X12_insuresGroup_l91 fz (nI p) (nI kd) (nI b) (nI m) (nI 0) (nI 0) w82)))) ∧ off (fun c => c = 21) u0 u' ∧ ∀ i, i < gN_ T N p kd b m → u'.2 21 i = lN (gpt T N p kd b m i) := by
  have hna := hV.na
  intro f
  induction f with
  | zero => intro a u h1 h2; omega
  | succ f ih =>
    intro a u h1 h2 ho hpp
    have hM1 := hM.mv (off_mono ho (fun c h => by have h : c = 21 := h; show 20 ≤ c; omega))
    have h3 := hM1.t.na
    simp only [Nat.mul_zero, Nat.zero_add] at h3
    have hlen := gl_len (T := T) (N := N) (p := p) (kd := kd) (b := b) (m := m) a
    unfold X12_insuresGroup_l6 X12_insuresGroup_b6 X12_insuresGroup_b58
    by_cases h4 : a = T 0 2
    · subst h4
      refine ⟨u, ?_, ho, hpp⟩
      have h5 : (gl T N p kd b m (T 0 2)).length = gN_ T N p kd b m := rfl
      rw [h5] at hlen ⊢
      rw [nI_lit, aM1 (by omega), h3, Option.bind_some, if_pos (Int32.le_refl _), nI_lit]
      by_cases h6 : gN_ T N p kd b m = 0
      · rw [if_pos h6, h6, if_pos rfl]
      · rw [if_neg h6, if_neg (by rw [nI_eq (by omega) (by omega)]; exact h6)]
    · have ha : a < T 0 2 := by omega
      have h5 := m_isInGroup (kd := kd) (b := b) hV hVN hM1 ha hp (by omega) hb hm
      by_cases hg : gB T N p kd b m a = true
      · have hg2 := gB_iff.mp hg
        have h6 := m_kO hV hM1 ha hp hg2.2.1
        have h7 := m_shareOf hV hM1.t hM1.n hVN ha (kO_lt hV ha hg2.2.1).1
        have h8 := shS_le (k := kO T p a) hV hVN ha
        have e2 := ih (a + 1) (upJ u 21 (gl T N p kd b m a).length (lN (shS T N a (kO T p a)))) (by omega) (by omega) (off_upJ rfl ho) (by
          intro i hi
          rw [gl_s, if_pos hg] at hi ⊢
          rw [List.length_append] at hi
          simp only [List.length_cons, List.length_nil] at hi
          rw [getD_app (by omega)]
          by_cases h9 : i < (gl T N p kd b m a).length
          · have := hpp i h9
            simp [upJ_e, h9, show ¬ i = (gl T N p kd b m a).length by omega, this]
          · simp [upJ_e, show i = (gl T N p kd b m a).length by omega, shP])
        rw [gl_s, if_pos hg, List.length_append] at e2
        simp only [List.length_cons, List.length_nil] at e2
        obtain ⟨u', e, h⟩ := e2
        refine ⟨u', ?_, h⟩
        rw [b2_t hg] at h5
        simp (disch := omega) only [aM1, h3, h5, h6, h7, sM21, nI_lit, lN_lit, nI_add, pk_mul, lN_add, lN_mul, Option.bind_some, nI_leI, nI_ltI, nI_eq, lN_leI, lN_ltI, lN_eqI, nI_m1, m1_nI, i_modN, lN_modN, nI_64, lN_32, if_pos, if_neg, ↓reduceIte, if_true, if_false]
        exact e
      · have e2 := ih (a + 1) u (by omega) (by omega) ho (by rw [gl_s, if_neg hg, List.append_nil]; exact hpp)
        rw [gl_s, if_neg hg, List.append_nil] at e2
        obtain ⟨u', e, h⟩ := e2
        refine ⟨u', ?_, h⟩
        rw [b2_f hg] at h5
        simp (disch := omega) only [aM1, h3, h5, nI_lit, lN_lit, nI_add, pk_mul, lN_add, lN_mul, Option.bind_some, nI_leI, nI_ltI, nI_eq, lN_leI, lN_ltI, lN_eqI, nI_m1, m1_nI, i_modN, lN_modN, nI_64, lN_32, if_pos, if_neg, ↓reduceIte, if_true, if_false]
        exact e
/-- the second loop: what each has got -/
theorem m_insG_b {p kd b m : Nat} {g : Nat → Nat} {u0 : gM} (hV : VT T) (hVN : VN T N) (hM : MV T N none u0) (hp : p < T 0 0) (hkd : kd ≤ 4) (hb : b < 2 ^ 31) (hm : m < 2 ^ 30) (hg : ∀ i, i < gN_ T N p kd b m → u0.2 22 i = lN (g i)) : ∀ (f a : Nat) (u : gM), a ≤ T 0 2 → T 0 2 - a < f → off (fun c => c = 24) u0 u → (∀ x, x < a → inG T N p kd b m x → u.2 24 (4 * x + kO T p x) = lN (g (gl T N p kd b m x).length)) → (∀ s, (∀ x, x < T 0 2 → inG T N p kd b m x → s ≠ 4 * x + kO T p x) → u.2 24 s = u0.2 24 s) →
    ∃ u', X12_insuresGroup_l91 f (nI p) (nI kd) (nI b) (nI m) (nI (gl T N p kd b m a).length) (nI a) u = some u' ∧ off (fun c => c = 24) u0 u' ∧ (∀ x, x < T 0 2 → inG T N p kd b m x → u'.2 24 (4 * x + kO T p x) = lN (g (gl T N p kd b m x).length)) ∧ (∀ s, (∀ x, x < T 0 2 → inG T N p kd b m x → s ≠ 4 * x + kO T p x) → u'.2 24 s = u0.2 24 s) := by
  have hna := hV.na
  intro f
  induction f with
  | zero => intro a u h1 h2; omega
  | succ f ih =>
    intro a u h1 h2 ho k1 k2
    have hM1 := hM.mv (off_mono ho (fun c h => by have h : c = 24 := h; show 20 ≤ c; omega))
    have h3 := hM1.t.na
    simp only [Nat.mul_zero, Nat.zero_add] at h3
    have hlen := gl_len (T := T) (N := N) (p := p) (kd := kd) (b := b) (m := m) a
    unfold X12_insuresGroup_l91 X12_insuresGroup_b91 X12_insuresGroup_b146
    by_cases h4 : a = T 0 2
    · subst h4
      refine ⟨u, ?_, ho, k1, k2⟩
      rw [nI_lit, aM1 (by omega), h3, Option.bind_some, if_pos (Int32.le_refl _)]
    · have ha : a < T 0 2 := by omega
      have h5 := m_isInGroup (kd := kd) (b := b) hV hVN hM1 ha hp (by omega) hb hm
      by_cases hgb : gB T N p kd b m a = true
      · have hg2 := gB_iff.mp hgb
        have h6 := m_kO hV hM1 ha hp hg2.2.1
        have h7 := kO_lt hV ha hg2.2.1
        have h8 := hV.no a ha
        have h9 := gl_lt ha hg2
        have h10 := hg (gl T N p kd b m a).length h9
        rw [← (ho 22 (by decide)).2] at h10
        have e2 := ih (a + 1) (upJ u 24 (4 * a + kO T p a) (lN (g (gl T N p kd b m a).length))) (by omega) (by omega) (off_upJ rfl ho) (by
          intro x hx hgx
          rw [upJ_e]
          have h11 := kO_lt hV (show x < T 0 2 by omega) hgx.2.1
          have h12 := hV.no x (by omega)
          by_cases hxa : x = a
          · subst hxa
            rw [if_pos ⟨rfl, rfl⟩]
          · rw [if_neg (by rintro ⟨-, z⟩; omega)]
            exact k1 x (by omega) hgx) (by
          intro s hs
          rw [upJ_e, if_neg (by rintro ⟨-, z⟩; exact hs a ha hg2 z)]
          exact k2 s hs)
        rw [gl_s, if_pos hgb, List.length_append] at e2
        simp only [List.length_cons, List.length_nil] at e2
        obtain ⟨u', e, h⟩ := e2
        refine ⟨u', ?_, h⟩
        rw [b2_t hgb] at h5
        simp (disch := omega) only [aM1, h3, h5, h6, aM22, h10, sM24, nI_lit, lN_lit, nI_add, pk_mul, lN_add, lN_mul, Option.bind_some, nI_leI, nI_ltI, nI_eq, lN_leI, lN_ltI, lN_eqI, nI_m1, m1_nI, i_modN, lN_modN, nI_64, lN_32, if_pos, if_neg, ↓reduceIte, if_true, if_false]
        exact e
      · have e2 := ih (a + 1) u (by omega) (by omega) ho (by
          intro x hx hgx
          by_cases hxa : x = a
          · subst hxa; exact absurd (gB_iff.mpr hgx) hgb
          · exact k1 x (by omega) hgx) k2
        rw [gl_s, if_neg hgb, List.append_nil] at e2
        obtain ⟨u', e, h⟩ := e2
        refine ⟨u', ?_, h⟩
        rw [b2_f hgb] at h5
        simp (disch := omega) only [aM1, h3, h5, nI_lit, lN_lit, nI_add, pk_mul, lN_add, lN_mul, Option.bind_some, nI_leI, nI_ltI, nI_eq, lN_leI, lN_ltI, lN_eqI, nI_m1, m1_nI, i_modN, lN_modN, nI_64, lN_32, if_pos, if_neg, ↓reduceIte, if_true, if_false]
        exact e
theorem m_insG {p kd b m : Nat} {u : gM} (hV : VT T) (hVN : VN T N) (hM : MV T N none u) (hp : p < T 0 0) (hkd : kd ≤ 4) (hb : b < 2 ^ 31) (hm : m < 2 ^ 30) :
    ∃ u', X12_insuresGroup (nI p) (nI kd) (nI b) (nI m) u = some u' ∧ off sY u u' ∧ (∀ x, x < T 0 2 → inG T N p kd b m x → u'.2 24 (4 * x + kO T p x) = lN (insG T N p kd b m x)) ∧ (∀ s, (∀ x, x < T 0 2 → inG T N p kd b m x → s ≠ 4 * x + kO T p x) → u'.2 24 s = u.2 24 s) := by
  have hna := hV.na
  obtain ⟨u1, e1, o1, p1⟩ := m_insG_a hV hVN hM hp hkd hb hm fz 0 u (Nat.zero_le _) (fz_lt (by omega)) off_rf (by intro i hi; simp [gl] at hi)
  have o1Y : off sY u u1 := off_mono o1 (fun c h => by have h : c = 21 := h; show 20 ≤ c; omega)
  have e0 : X12_insuresGroup (nI p) (nI kd) (nI b) (nI m) u = X12_insuresGroup_l6 fz (nI p) (nI kd) (nI b) (nI m) (nI 0) (nI 0) u := by
    unfold X12_insuresGroup
    rw [nI_lit]
  have hz : (gl T N p kd b m 0).length = 0 := rfl
  rw [hz] at e1
  rw [e0, e1]
  by_cases h1 : gN_ T N p kd b m = 0
  · refine ⟨u1, by rw [if_pos h1], o1Y, ?_, ?_⟩
    · intro x hx hg
      have h2 := gl_lt hx hg
      have h3 : (gl T N p kd b m (T 0 2)).length = 0 := h1
      omega
    · intro s hs
      rw [(o1 24 (by decide)).2]
  · rw [if_neg h1]
    have hM1 := hM.mv o1Y
    obtain ⟨u2, e2, o2⟩ := m_mostOf (kd := kd) (b := b) (m := m) hV hVN hM1 (fun a h => by cases h) hp hkd hb hm
    have hlen := gl_len (T := T) (N := N) (p := p) (kd := kd) (b := b) (m := m) (T 0 2)
    obtain ⟨u3, e3, d3, o3⟩ := m_divides (n := gN_ T N p kd b m) (much := mstM T N none p kd b m) (p := gpt T N p kd b m) (u := u2) (by unfold gN_; omega) (mstM_le hV) (by
      intro i hi
      obtain ⟨a1, a2, a3⟩ := gl_get hi
      have := shS_le (k := kO T p ((gl T N p kd b m (T 0 2)).getD i 0)) hV hVN a1
      unfold gpt shP
      omega) (by intro j hj; rw [(o2 21 (by decide)).2]; exact p1 j hj)
    have o3Y : off sY u u3 := off_tr (off_tr o1Y (off_mono o2 (fun c h => by have h : c = 20 := h; show 20 ≤ c; omega))) (off_mono o3 (fun c h => by have h : c = 22 ∨ c = 23 := h; show 20 ≤ c; omega))
    have hM3 := hM.mv o3Y
    obtain ⟨u4, e4, o4, k4, l4⟩ := m_insG_b (p := p) (kd := kd) (b := b) (m := m) hV hVN hM3 hp hkd hb hm d3 fz 0 u3 (Nat.zero_le _) (fz_lt (by omega)) off_rf (fun x hx => absurd hx (Nat.not_lt_zero _)) (fun _ _ => rfl)
    rw [hz] at e4
    refine ⟨u4, ?_, off_tr o3Y (off_mono o4 (fun c h => by have h : c = 24 := h; show 20 ≤ c; omega)), ?_, ?_⟩
    · rw [e2, Option.bind_some]
      simp only
      rw [e3, Option.bind_some]
      exact e4
    · intro x hx hg
      rw [k4 x hx hg, mstM_none]
      rfl
    · intro s hs
      rw [l4 s hs, (o3 24 (by decide)).2, (o2 24 (by decide)).2, (o1 24 (by decide)).2]
/-- the GROUPS ahead of one, PERSON by PERSON, KIND by KIND, BANK by BANK -/
def lxl (p kd b p0 k0 b0 : Nat) : Prop := p < p0 ∨ (p = p0 ∧ (kd < k0 ∨ (kd = k0 ∧ b < b0)))
def InsM (T : gT) (N : gN) (m p0 k0 b0 : Nat) (u : gM) : Prop := ∀ a k, a < T 0 2 → k < T 5 a → lxl (T 7 (a * 4 + k)) (T 1 a) (cntS T N a m) p0 k0 b0 → u.2 24 (4 * a + k) = lN (insS T N m a k)
theorem m_insB_l {m p kd : Nat} (hV : VT T) (hVN : VN T N) {u0 : gM} (hM : MV T N none u0) (hp : p < T 0 0) (hkd : kd ≤ 4) (hm : m < 2 ^ 30) (k2 : Int32 → Int32 → gM → Option gM) (k14 : Int32 → Int32 → Int32 → gM → Option gM) : ∀ (f b : Nat) (u : gM), b ≤ T 0 1 → T 0 1 - b < f → off sY u0 u → InsM T N m p kd b u →
    ∃ u', X12_insures_l22 k2 k14 f (nI m) (nI p) (nI kd) (nI b) u = k14 (nI m) (nI p) (nI (kd + 1)) u' ∧ off sY u0 u' ∧ InsM T N m p kd (T 0 1) u' := by
  have hnb := hV.nb
  intro f
  induction f with
  | zero => intro b u h1 h2; omega
  | succ f ih =>
    intro b u h1 h2 ho hI
    have hM1 := hM.mv ho
    have h3 := hM1.t.nb
    simp only [Nat.mul_zero, Nat.zero_add] at h3
    unfold X12_insures_l22 X12_insures_b22
    by_cases h4 : b = T 0 1
    · refine ⟨u, ?_, ho, by rw [← h4]; exact hI⟩
      rw [nI_lit, aM1 (by omega), h3, Option.bind_some, h4, if_pos (Int32.le_refl _), nI_add]
    · obtain ⟨u1, e1, o1, g1, g2⟩ := m_insG (kd := kd) (b := b) (m := m) hV hVN hM1 hp hkd (by omega) hm
      obtain ⟨u', e, h⟩ := ih (b + 1) u1 (by omega) (by omega) (off_tr ho o1) (by
        intro a k ha hk hx
        by_cases hg : T 7 (a * 4 + k) = p ∧ T 1 a = kd ∧ cntS T N a m = b
        · obtain ⟨q1, q2, q3⟩ := hg
          have hg2 : inG T N p kd b m a := ⟨q2, by rw [← q1, owS_at hV ha hk]; simp, q3⟩
          have hk2 : k = kO T p a := by unfold kO; rw [← q1, owS_at hV ha hk]; rfl
          rw [hk2, g1 a ha hg2, insS_grp (a := a) hV ha hg2]
        · rw [g2 _ (by
            intro x hx2 hgx hs
            have h5 := kO_lt hV hx2 hgx.2.1
            have h6 := hV.no x hx2
            have h7 := hV.no a ha
            have h8 : x = a := by omega
            subst h8
            have h9 : k = kO T p x := by omega
            exact hg ⟨by rw [h9]; exact h5.2.1, hgx.1, hgx.2.2⟩)]
          refine hI a k ha hk ?_
          unfold lxl at hx ⊢
          rcases hx with hx | ⟨hx, hx2 | ⟨hx2, hx3⟩⟩
          · exact Or.inl hx
          · exact Or.inr ⟨hx, Or.inl hx2⟩
          · refine Or.inr ⟨hx, Or.inr ⟨hx2, ?_⟩⟩
            by_cases h5 : cntS T N a m = b
            · exact absurd ⟨hx, hx2, h5⟩ hg
            · omega)
      refine ⟨u', ?_, h⟩
      rw [nI_lit, aM1 (by omega), h3, Option.bind_some, if_neg (by rw [nI_leI (by omega) (by omega)]; omega), e1, Option.bind_some, nI_add]
      exact e
theorem InsM_up {m p kd : Nat} (hV : VT T) (hVN : VN T N) {u : gM} (h : InsM T N m p kd (T 0 1) u) : InsM T N m p (kd + 1) 0 u := by
  intro a k ha hk hx
  refine h a k ha hk ?_
  have h1 : cntS T N a m < T 0 1 := cntF_nb hVN hV 6 _ (hV.hm a ha)
  unfold lxl at hx ⊢
  omega
theorem m_insK_l {m p : Nat} (hV : VT T) (hVN : VN T N) {u0 : gM} (hM : MV T N none u0) (hp : p < T 0 0) (hm : m < 2 ^ 30) (k2 : Int32 → Int32 → gM → Option gM) : ∀ (f kd : Nat) (u : gM), kd ≤ 5 → 5 - kd < f → off sY u0 u → InsM T N m p kd 0 u →
    ∃ u', X12_insures_l14 k2 f (nI m) (nI p) (nI kd) u = k2 (nI m) (nI (p + 1)) u' ∧ off sY u0 u' ∧ InsM T N m (p + 1) 0 0 u' := by
  have hnb := hV.nb
  intro f
  induction f with
  | zero => intro kd u h1 h2; omega
  | succ f ih =>
    intro kd u h1 h2 ho hI
    unfold X12_insures_l14 X12_insures_b14
    by_cases h4 : kd = 5
    · subst h4
      refine ⟨u, ?_, ho, ?_⟩
      · rw [nI_lit, if_pos (Int32.le_refl _), nI_lit, nI_add]
      · intro a k ha hk hx
        refine hI a k ha hk ?_
        have := hV.kd a ha
        unfold lxl at hx ⊢
        omega
    · obtain ⟨u1, e1, o1, I1⟩ := m_insB_l (kd := kd) hV hVN hM hp (by omega) hm k2 (X12_insures_l14 k2 f) fz 0 u (Nat.zero_le _) (fz_lt (by omega)) ho hI
      obtain ⟨u', e, h⟩ := ih (kd + 1) u1 (by omega) (by omega) o1 (InsM_up hV hVN I1)
      refine ⟨u', ?_, h⟩
      rw [nI_lit, if_neg (by rw [nI_leI (by omega) (by omega)]; omega), nI_lit, e1]
      exact e
theorem m_insP_l {m : Nat} (hV : VT T) (hVN : VN T N) {u0 : gM} (hM : MV T N none u0) (hm : m < 2 ^ 30) : ∀ (f p : Nat) (u : gM), p ≤ T 0 0 → T 0 0 - p < f → off sY u0 u → InsM T N m p 0 0 u →
    ∃ u', X12_insures_l2 f (nI m) (nI p) u = some u' ∧ off sY u0 u' ∧ InsM T N m (T 0 0) 0 0 u' := by
  have hnp := hV.np
  intro f
  induction f with
  | zero => intro p u h1 h2; omega
  | succ f ih =>
    intro p u h1 h2 ho hI
    have h3 := (hM.mv ho).t.np
    simp only [Nat.mul_zero, Nat.zero_add] at h3
    unfold X12_insures_l2 X12_insures_b2
    by_cases h4 : p = T 0 0
    · refine ⟨u, ?_, ho, by rw [← h4]; exact hI⟩
      rw [nI_lit, aM1 (by omega), h3, Option.bind_some, h4, if_pos (Int32.le_refl _)]
    · obtain ⟨u1, e1, o1, I1⟩ := m_insK_l (p := p) hV hVN hM (by omega) hm (X12_insures_l2 f) fz 0 u (Nat.zero_le _) (fz_lt (by omega)) ho hI
      obtain ⟨u', e, h⟩ := ih (p + 1) u1 (by omega) (by omega) o1 I1
      refine ⟨u', ?_, h⟩
      rw [nI_lit, aM1 (by omega), h3, Option.bind_some, if_neg (by rw [nI_leI (by omega) (by omega)]; omega), e1]
      exact e
def sZ (c : Nat) : Prop := 20 ≤ c ∧ c ≤ 24
theorem m_insures {m : Nat} {u : gM} (hV : VT T) (hVN : VN T N) (hM : MV T N none u) (hm : m < 2 ^ 30) : ∃ u', X12_insures (nI m) u = some u' ∧ off sZ u u' ∧ ∀ a k, a < T 0 2 → k < T 5 a → u'.2 24 (4 * a + k) = lN (insS T N m a k) := by
  have hnp := hV.np
  obtain ⟨u', e, o1, I1⟩ := m_insP_l hV hVN hM hm fz 0 u (Nat.zero_le _) (fz_lt (by omega)) off_rf (by intro a k ha hk hx; unfold lxl at hx; omega)
  have e2 : X12_insures (nI m) u = some u' := by
    unfold X12_insures
    rw [nI_lit]
    exact e
  refine ⟨u', e2, fr_X12_insures (S := sZ) ⟨by decide, by decide⟩ ⟨by decide, by decide⟩ ⟨by decide, by decide⟩ ⟨by decide, by decide⟩ ⟨by decide, by decide⟩ e2 off_rf, fun a k ha hk => I1 a k ha hk (Or.inl (hV.ow a k ha hk))⟩
theorem insS_le {m a k : Nat} (hV : VT T) (hVN : VN T N) (ha : a < T 0 2) (hk : k < T 5 a) : insS T N m a k ≤ shS T N a k := by
  have h17 : inG T N (T 7 (a * 4 + k)) (T 1 a) (cntS T N a m) m a := ⟨rfl, by rw [owS_at hV ha hk]; simp, rfl⟩
  have h18 : insS T N m a k ≤ gpt T N (T 7 (a * 4 + k)) (T 1 a) (cntS T N a m) m (gl T N (T 7 (a * 4 + k)) (T 1 a) (cntS T N a m) m a).length := divS_le (gl_lt ha h17)
  have h19 := gl_at ha h17
  unfold gpt shP at h18
  rw [List.getD_eq_getElem?_getD, h19] at h18
  have h20 : kO T (T 7 (a * 4 + k)) a = k := by unfold kO; rw [owS_at hV ha hk]; rfl
  simp only [Option.getD_some, h20] at h18
  exact h18
end MJ
