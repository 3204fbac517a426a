/-! INSURED: the model's -/
section MI
variable {T : gT} {N : gN} {mh : Option Nat}
/-- all of the names found so far stand in unlike -/
def HRm (acc : List Nat) (u : gM) : Prop := ∀ i, i < acc.length → u.2 20 i = lN (cv (acc.getD i 0))
theorem fstN_mem {acc : List Nat} {w : Nat} (hacc : ∀ x ∈ acc, x < 27 ^ 8) : (fstN (fun i => cv (acc.getD i 0) = cv w) 0 acc.length = none) ↔ w ∉ acc := by
  constructor
  · intro h hw
    obtain ⟨j, h1, h2⟩ := List.getElem_of_mem hw
    refine fstN_none h j (Nat.zero_le _) (by omega) ?_
    rw [List.getD_eq_getElem?_getD, List.getElem?_eq_getElem h1, Option.getD_some, h2]
  · intro h
    cases hf : fstN (fun i => cv (acc.getD i 0) = cv w) 0 acc.length with
    | none => rfl
    | some k =>
      obtain ⟨-, h2, h3⟩ := fstN_some hf
      exact absurd (cv_inj _ _ h3 ▸ getD_mem (by omega)) h
theorem uhA_le (T : gT) (own a : Nat) : ∀ (n k : Nat) (acc : List Nat), (uhA T own a n k acc).length ≤ acc.length + n
  | 0, _, _ => Nat.le_refl _
  | n + 1, k, acc => by
    unfold uhA
    have h1 := uhA_le T own a n (k + 1) (uhS own acc (T 14 (a * 6 + k)))
    have h2 : (uhS own acc (T 14 (a * 6 + k))).length ≤ acc.length + 1 := by
      unfold uhS
      split
      · omega
      · simp
    omega
theorem m_uhA_l {p a : Nat} {u0 : gM} (hV : VT T) (hM : MV T N mh u0) (ha : a < T 0 2) (hp : p < T 0 0) (k22 : Int32 → Int32 → Int32 → Int32 → Int32 → Int32 → Int32 → gM → Option (Int64 × gM)) (x2 x3 x4 x6 : Int32) : ∀ (f k : Nat) (acc : List Nat) (u : gM), k ≤ T 6 a → T 6 a - k < f → acc.length + (T 6 a - k) ≤ 144 → off (fun c => c = 20) u0 u → HRm acc u → (∀ x ∈ acc, x < 27 ^ 8) →
    ∃ u', X12_mostOf_l75 k22 f (nI p) x2 x3 x4 (nI acc.length) x6 (nI a) (nI k) u = k22 (nI p) x2 x3 x4 (nI (uhA T (T 11 p) a (T 6 a - k) k acc).length) x6 (nI (a + 1)) u' ∧ off (fun c => c = 20) u0 u' ∧ HRm (uhA T (T 11 p) a (T 6 a - k) k acc) u' ∧ ∀ x ∈ uhA T (T 11 p) a (T 6 a - k) k acc, x < 27 ^ 8 := by
  have hna := hV.na
  have hnp := hV.np
  have hnh := hV.nh a ha
  intro f
  induction f with
  | zero => intro k acc u h1 h2; omega
  | succ f ih =>
    intro k acc u h1 h2 hl ho hH hacc
    have h3 := hM.t.nh a ha
    simp only [Nat.mul_zero, Nat.zero_add] at h3
    rw [← (ho 9 (by decide)).1] at h3
    unfold X12_mostOf_l75 X12_mostOf_b75 X12_mostOf_b151 X12_mostOf_b145
    by_cases h4 : k = T 6 a
    · subst h4
      refine ⟨u, ?_, ho, ?_, ?_⟩
      · simp (disch := omega) only [aM9, h3, Nat.sub_self, uhA, nI_lit, lN_lit, nI_add, pk_mul, lN_add, lN_mul, Option.bind_some, nI_leI, nI_ltI, nI_eq, lN_leI, lN_ltI, lN_eqI, nI_m1, m1_nI, i_modN, lN_modN, nI_64, lN_32, if_pos, if_neg, ↓reduceIte, if_true, if_false]
      · simpa [uhA] using hH
      · simpa [uhA] using hacc
    · have h5 := hM.t.hn a k ha (by omega)
      have h6 := hV.hn a k ha (by omega)
      have h7 := hM.t.pn p hp
      have h8 := hV.pn p hp
      simp only [Nat.mul_zero, Nat.zero_add] at h5 h7
      rw [← (ho 10 (by decide)).2] at h5
      rw [← (ho 2 (by decide)).2] at h7
      have h9 := cv_62 h6
      have h10 := cv_62 h8
      rw [show T 6 a - k = (T 6 a - (k + 1)) + 1 by omega]
      unfold uhA
      by_cases h11 : T 14 (a * 6 + k) = T 11 p
      · have e3 : uhS (T 11 p) acc (T 14 (a * 6 + k)) = acc := by unfold uhS; rw [if_pos (Or.inl h11)]
        obtain ⟨u', e, h⟩ := ih (k + 1) acc u (by omega) (by omega) (by omega) ho hH hacc
        rw [e3]
        refine ⟨u', ?_, h⟩
        rw [h11] at h5
        simp (disch := omega) only [aM9, h3, aM10, h5, aM2, h7, lg_eq, nI_lit, lN_lit, nI_add, pk_mul, lN_add, lN_mul, Option.bind_some, nI_leI, nI_ltI, nI_eq, lN_leI, lN_ltI, lN_eqI, nI_m1, m1_nI, i_modN, lN_modN, nI_64, lN_32, if_pos, if_neg, ↓reduceIte, if_true, if_false]
        exact e
      · have h12 : ¬ cv (T 14 (a * 6 + k)) = cv (T 11 p) := fun z => h11 (cv_inj _ _ z)
        have h13 := m_placeIn (u := u) (r := 20) (o := 0) (n := acc.length) (w := cv (T 14 (a * 6 + k))) (g := fun i => cv (acc.getD i 0)) (by omega) h9 (by
          intro i hi
          rw [Nat.zero_add, aM20 (by omega), hH i hi]
          exact ⟨rfl, cv_62 (hacc _ (getD_mem hi))⟩)
        by_cases h14 : T 14 (a * 6 + k) ∈ acc
        · have e3 : uhS (T 11 p) acc (T 14 (a * 6 + k)) = acc := by unfold uhS; rw [if_pos (Or.inr h14)]
          obtain ⟨u', e, h⟩ := ih (k + 1) acc u (by omega) (by omega) (by omega) ho hH hacc
          rw [e3]
          refine ⟨u', ?_, h⟩
          cases hf : fstN (fun i => cv (acc.getD i 0) = cv (T 14 (a * 6 + k))) 0 acc.length with
          | none => exact absurd h14 ((fstN_mem hacc).mp hf)
          | some j =>
            have hj := (fstN_some hf).2.1
            rw [hf, oI_some] at h13
            simp (disch := omega) only [aM9, h3, aM10, h5, aM2, h7, lg_eq, h12, h13, nI_lit, lN_lit, nI_add, pk_mul, lN_add, lN_mul, Option.bind_some, nI_leI, nI_ltI, nI_eq, lN_leI, lN_ltI, lN_eqI, nI_m1, m1_nI, i_modN, lN_modN, nI_64, lN_32, if_pos, if_neg, ↓reduceIte, if_true, if_false]
            exact e
        · have e3 : uhS (T 11 p) acc (T 14 (a * 6 + k)) = acc ++ [T 14 (a * 6 + k)] := by unfold uhS; rw [if_neg (fun z => z.elim h11 h14)]
          rw [(fstN_mem hacc).mpr h14, oI_none] at h13
          obtain ⟨u', e, h⟩ := ih (k + 1) (acc ++ [T 14 (a * 6 + k)]) (upJ u 20 acc.length (lN (cv (T 14 (a * 6 + k))))) (by omega) (by omega) (by rw [List.length_append]; simp only [List.length_cons, List.length_nil]; omega) (off_upJ rfl ho) (by
            intro i hi
            rw [List.length_append] at hi
            simp only [List.length_cons, List.length_nil] at hi
            rw [getD_app (by omega)]
            by_cases h11 : i < acc.length
            · have := hH i h11
              simp [upJ_e, h11, show ¬ i = acc.length by omega, this]
            · simp [upJ_e, show i = acc.length by omega]) (by
            intro x hx
            rcases List.mem_append.mp hx with hx | hx
            · exact hacc x hx
            · rw [List.mem_singleton.mp hx]; exact h6)
          rw [e3]
          refine ⟨u', ?_, h⟩
          rw [List.length_append] at e
          simp only [List.length_cons, List.length_nil] at e
          simp (disch := omega) only [aM9, h3, aM10, h5, aM2, h7, lg_eq, h12, h13, sM20, nI_lit, lN_lit, nI_add, pk_mul, lN_add, lN_mul, Option.bind_some, nI_leI, nI_ltI, nI_eq, lN_leI, lN_ltI, lN_eqI, nI_m1, m1_nI, i_modN, lN_modN, nI_64, lN_32, if_pos, if_neg, ↓reduceIte, if_true, if_false]
          exact e
theorem uhL_app (T : gT) (own : Nat) : ∀ (l acc : List Nat) (a : Nat), uhL T own (l ++ [a]) acc = uhA T own a (T 6 a) 0 (uhL T own l acc)
  | [], acc, a => rfl
  | x :: l, acc, a => by
    show uhL T own (l ++ [a]) _ = _
    rw [uhL_app T own l _ a]
    rfl
theorem mrS_app (mh : Option Nat) (l : List Nat) (a : Nat) : mrS mh (l ++ [a]) = mrS mh l + (if mh = some a then 1 else 0) := by
  unfold mrS
  rw [List.filter_append, List.length_append]
  congr 1
  by_cases h : mh = some a <;> simp [List.filter, h]
theorem uhL_le (hV : VT T) {own p kd b m : Nat} : ∀ (n : Nat), n ≤ T 0 2 → (uhL T own (gl T N p kd b m n) []).length ≤ n * 6
  | 0, _ => by simp [gl, uhL]
  | n + 1, h => by
    have h1 := uhL_le hV (own := own) (p := p) (kd := kd) (b := b) (m := m) n (by omega)
    rw [gl_s]
    by_cases hg : gB T N p kd b m n = true
    · rw [if_pos hg, uhL_app]
      have h2 := uhA_le T own n (T 6 n) 0 (uhL T own (gl T N p kd b m n) [])
      have h3 := hV.nh n (by omega)
      omega
    · rw [if_neg hg, List.append_nil]
      omega
theorem m_mostOf_l {p b m : Nat} {u0 : gM} (hV : VT T) (hVN : VN T N) (hM : MV T N mh u0) (hmh : ∀ a, mh = some a → a < 2 ^ 31) (hp : p < T 0 0) (hb : b < 2 ^ 31) (hm : m < 2 ^ 30) : ∀ (f a : Nat) (u : gM), a ≤ T 0 2 → T 0 2 - a < f → off (fun c => c = 20) u0 u → HRm (uhL T (T 11 p) (gl T N p 2 b m a) []) u → (∀ x ∈ uhL T (T 11 p) (gl T N p 2 b m a) [], x < 27 ^ 8) →
    ∃ u', X12_mostOf_l22 f (nI p) (nI 2) (nI b) (nI m) (nI (uhL T (T 11 p) (gl T N p 2 b m a) []).length) (nI (mrS mh (gl T N p 2 b m a))) (nI a) u = some (lN (mstM T N mh p 2 b m), u') := by
  have hna := hV.na
  have hli := hV.li
  intro f
  induction f with
  | zero => intro a u h1 h2; omega
  | succ f ih =>
    intro a u h1 h2 ho hH hacc
    have hoY : off sY u0 u := off_mono ho (fun c h => by have h : c = 20 := h; show 20 ≤ c; omega)
    have hM1 := hM.mv hoY
    have h3 := hM1.t.na
    have h4 := hM1.t.li
    simp only [Nat.mul_zero, Nat.zero_add] at h3 h4
    have hul := uhL_le (N := N) hV (own := T 11 p) (p := p) (kd := 2) (b := b) (m := m) a h1
    unfold X12_mostOf_l22 X12_mostOf_b22 X12_mostOf_b151 X12_mostOf_b66
    by_cases h5 : a = T 0 2
    · subst h5
      refine ⟨u, ?_⟩
      have hmr : mrS mh (gl T N p 2 b m (T 0 2)) ≤ 24 := by
        unfold mrS
        have := List.length_filter_le (fun a => decide (mh = some a)) (gl T N p 2 b m (T 0 2))
        have := gl_len (T := T) (N := N) (p := p) (kd := 2) (b := b) (m := m) (T 0 2)
        omega
      have h6 : T 0 4 * max 1 (min 5 (uhN T N p 2 b m + mrS mh (gl T N p 2 b m (T 0 2)))) ≤ 100000000 * 5 := Nat.mul_le_mul hli.2 (by omega)
      have h7 : (uhL T (T 11 p) (gl T N p 2 b m (T 0 2)) []).length = uhN T N p 2 b m := rfl
      rw [h7] at hul ⊢
      unfold mstM
      simp (disch := omega) only [aM1, h3, h4, mnI_N, mxI_N, nI_lit, lN_lit, nI_add, pk_mul, lN_add, lN_mul, Option.bind_some, nI_leI, nI_ltI, nI_eq, lN_leI, lN_ltI, lN_eqI, nI_m1, m1_nI, i_modN, lN_modN, nI_64, lN_32, if_pos, if_neg, ↓reduceIte, if_true, if_false]
    · have ha : a < T 0 2 := by omega
      have h6 := m_isInGroup (kd := 2) hV hVN hM1 ha hp (by omega) hb hm
      by_cases hg : gB T N p 2 b m a = true
      · obtain ⟨u1, e1, o1, H1, A1⟩ := m_uhA_l (u0 := u0) hV hM ha hp (X12_mostOf_l22 f) (nI 2) (nI b) (nI m) (nI (mrS mh (gl T N p 2 b m a) + (if mh = some a then 1 else 0))) fz 0 (uhL T (T 11 p) (gl T N p 2 b m a) []) u (Nat.zero_le _) (fz_lt (by have := hV.nh a ha; omega)) (by have := hV.nh a ha; omega) ho hH hacc
        have e2 := ih (a + 1) u1 (by omega) (by omega) o1 (by rw [gl_s, if_pos hg, uhL_app]; exact H1) (by rw [gl_s, if_pos hg, uhL_app]; exact A1)
        rw [gl_s, if_pos hg, uhL_app, mrS_app] at e2
        obtain ⟨u', e⟩ := e2
        refine ⟨u', ?_⟩
        rw [b2_t hg] at h6
        have h8 := hM1.h
        have h9 : X12_one u (nI 1) = some (nI 1) := by simp [X12_one_b9, X12_one, nI_lit, nI_eq]
        have h10 : X12_one u (nI 0) = some (nI 0) := by simp [X12_one_b9, X12_one, nI_lit]
        rw [nI_lit, aM1 (by omega), h3, Option.bind_some, if_neg (by rw [nI_leI (by omega) (by omega)]; omega), h6, Option.bind_some, nI_lit, if_neg (by decide), h8]
        by_cases h11 : mh = some a
        · rw [h11, oI_some, if_pos rfl, nI_lit, h9, Option.bind_some, nI_add]
          rw [h11, if_pos rfl] at e1 e
          rw [e1]
          exact e
        · have h12 : ¬ nI a = oI mh := by
            cases hmm : mh with
            | none => rw [oI_none, nI_m1 (by omega)]; exact id
            | some x =>
              rw [oI_some, nI_eq (by omega) (hmh x hmm)]
              intro z
              rw [hmm, z] at h11
              exact h11 rfl
          rw [if_neg h12, h10, Option.bind_some, nI_add]
          rw [if_neg h11] at e1 e
          rw [e1]
          exact e
      · have e2 := ih (a + 1) u (by omega) (by omega) ho (by rw [gl_s, if_neg hg, List.append_nil]; exact hH) (by rw [gl_s, if_neg hg, List.append_nil]; exact hacc)
        rw [gl_s, if_neg hg, List.append_nil] at e2
        obtain ⟨u', e⟩ := e2
        refine ⟨u', ?_⟩
        rw [b2_f hg] at h6
        rw [nI_lit, aM1 (by omega), h3, Option.bind_some, if_neg (by rw [nI_leI (by omega) (by omega)]; omega), h6, Option.bind_some, nI_lit, if_pos rfl, nI_lit, nI_add]
        exact e
theorem m_mostOf {p kd b m : Nat} {u : gM} (hV : VT T) (hVN : VN T N) (hM : MV T N mh u) (hmh : ∀ a, mh = some a → a < 2 ^ 31) (hp : p < T 0 0) (hkd : kd ≤ 4) (hb : b < 2 ^ 31) (hm : m < 2 ^ 30) : ∃ u', X12_mostOf (nI p) (nI kd) (nI b) (nI m) u = some (lN (mstM T N mh p kd b m), u') ∧ off (fun c => c = 20) u u' := by
  have hna := hV.na
  have hli := hV.li
  suffices hs : ∃ u', X12_mostOf (nI p) (nI kd) (nI b) (nI m) u = some (lN (mstM T N mh p kd b m), u') by
    obtain ⟨u', e⟩ := hs
    exact ⟨u', e, fr_X12_mostOf (S := fun c => c = 20) rfl e off_rf⟩
  unfold X12_mostOf
  by_cases h1 : kd = 2
  · subst h1
    obtain ⟨u', e⟩ := m_mostOf_l hV hVN hM hmh hp hb hm fz 0 u (Nat.zero_le _) (fz_lt (by omega)) off_rf (by intro i hi; simp [gl, uhL] at hi) (by simp [gl, uhL])
    refine ⟨u', ?_⟩
    rw [nI_lit, if_pos rfl]
    simp only [gl, List.range_zero, List.filter_nil, uhL, List.length_nil, mrS] at e
    exact e
  · refine ⟨u, ?_⟩
    have h2 := hM.t.li
    simp only [Nat.mul_zero, Nat.zero_add] at h2
    unfold mstM
    simp (disch := omega) only [aM1, h2, h1, nI_lit, lN_lit, nI_add, pk_mul, lN_add, lN_mul, Option.bind_some, nI_leI, nI_ltI, nI_eq, lN_leI, lN_ltI, lN_eqI, nI_m1, m1_nI, i_modN, lN_modN, nI_64, lN_32, if_pos, if_neg, ↓reduceIte, if_true, if_false]
theorem mstM_le {p kd b m : Nat} (hV : VT T) : mstM T N mh p kd b m ≤ 500000000 := by
  have hli := hV.li
  unfold mstM
  split
  · have : T 0 4 * max 1 (min 5 (uhN T N p kd b m + mrS mh (gl T N p kd b m (T 0 2)))) ≤ 100000000 * 5 := Nat.mul_le_mul hli.2 (by omega)
    omega
  · omega
/-- what one PERSON has INSURED -/
def iofS (T : gT) (N : gN) (mh : Option Nat) (p m : Nat) : Nat := sumN (fun kd => sumN (fun b => min ((gl T N p kd b m (T 0 2)).map (shP T N p)).sum (mstM T N mh p kd b m)) (T 0 1)) 5
theorem m_insuredOf_b {p kd m acc : Nat} {u0 : gM} (hV : VT T) (hVN : VN T N) (hM : MV T N mh u0) (hmh : ∀ a, mh = some a → a < 2 ^ 31) (hp : p < T 0 0) (hkd : kd ≤ 4) (hm : m < 2 ^ 30) (hacc : acc ≤ 100000000000) (k5 : Int32 → Int32 → Int64 → Int32 → gM → Option (Int64 × gM)) : ∀ (f b : Nat) (u : gM), b ≤ T 0 1 → T 0 1 - b < f → off sY u0 u →
    ∃ u', X12_insuredOf_l14 k5 f (nI p) (nI m) (lN (acc + sumN (fun b => min ((gl T N p kd b m (T 0 2)).map (shP T N p)).sum (mstM T N mh p kd b m)) b)) (nI kd) (nI b) u = k5 (nI p) (nI m) (lN (acc + sumN (fun b => min ((gl T N p kd b m (T 0 2)).map (shP T N p)).sum (mstM T N mh p kd b m)) (T 0 1))) (nI (kd + 1)) u' ∧ off sY u0 u' := by
  have hnb := hV.nb
  intro f
  induction f with
  | zero => intro b u h1 h2; omega
  | succ f ih =>
    intro b u h1 h2 ho
    have hM1 := hM.mv ho
    have h3 := hM1.t.nb
    simp only [Nat.mul_zero, Nat.zero_add] at h3
    unfold X12_insuredOf_l14 X12_insuredOf_b14
    by_cases h4 : b = T 0 1
    · refine ⟨u, ?_, ho⟩
      rw [nI_lit, aM1 (by omega), h3, Option.bind_some, h4, if_pos (Int32.le_refl _), nI_add]
    · have h5 := m_sumOf (b := b) (kd := kd) (m := m) hV hVN hM1 hp (by omega) (by omega) hm
      obtain ⟨u1, e1, o1⟩ := m_mostOf (b := b) (kd := kd) (m := m) hV hVN hM1 hmh hp hkd (by omega) hm
      obtain ⟨u', e, o2⟩ := ih (b + 1) u1 (by omega) (by omega) (off_tr ho (off_mono o1 (fun c h => by have h : c = 20 := h; show 20 ≤ c; omega)))
      refine ⟨u', ?_, o2⟩
      have h6 := gsum_le (p := p) (kd := kd) (b := b) (m := m) (n := T 0 2) hV hVN (Nat.le_refl _)
      have h7 := mstM_le (N := N) (mh := mh) (p := p) (kd := kd) (b := b) (m := m) hV
      rw [sumN_s, ← Nat.add_assoc] at e
      rw [nI_lit, aM1 (by omega), h3, Option.bind_some, if_neg (by rw [nI_leI (by omega) (by omega)]; omega), h5, Option.bind_some, e1, Option.bind_some, mnJ_N (by omega) (by omega), lN_add, nI_add]
      exact e
theorem m_insuredOf_l {p m : Nat} {u0 : gM} (hV : VT T) (hVN : VN T N) (hM : MV T N mh u0) (hmh : ∀ a, mh = some a → a < 2 ^ 31) (hp : p < T 0 0) (hm : m < 2 ^ 30) : ∀ (f kd : Nat) (u : gM), kd ≤ 5 → 5 - kd < f → off sY u0 u →
    ∃ u', X12_insuredOf_l5 f (nI p) (nI m) (lN (sumN (fun kd => sumN (fun b => min ((gl T N p kd b m (T 0 2)).map (shP T N p)).sum (mstM T N mh p kd b m)) (T 0 1)) kd)) (nI kd) u = some (lN (iofS T N mh p m), u') := by
  have hnb := hV.nb
  intro f
  induction f with
  | zero => intro kd u h1 h2; omega
  | succ f ih =>
    intro kd u h1 h2 ho
    unfold X12_insuredOf_l5 X12_insuredOf_b5
    by_cases h4 : kd = 5
    · refine ⟨u, ?_⟩
      subst h4
      rw [nI_lit, if_pos (Int32.le_refl _)]
      rfl
    · have hacc : sumN (fun kd => sumN (fun b => min ((gl T N p kd b m (T 0 2)).map (shP T N p)).sum (mstM T N mh p kd b m)) (T 0 1)) kd ≤ 100000000000 := by
        have h5 := sumN_max (p := fun kd => sumN (fun b => min ((gl T N p kd b m (T 0 2)).map (shP T N p)).sum (mstM T N mh p kd b m)) (T 0 1)) (B := 6 * 500000000) (n := kd) (fun i _ => by
          have h6 := sumN_max (p := fun b => min ((gl T N p i b m (T 0 2)).map (shP T N p)).sum (mstM T N mh p i b m)) (B := 500000000) (n := T 0 1) (fun j _ => Nat.le_trans (Nat.min_le_right _ _) (mstM_le hV))
          exact Nat.le_trans h6 (Nat.mul_le_mul_right _ hnb))
        exact Nat.le_trans h5 (Nat.le_trans (Nat.mul_le_mul_right _ h1) (by decide))
      obtain ⟨u1, e1, o1⟩ := m_insuredOf_b (kd := kd) hV hVN hM hmh hp (by omega) hm hacc (X12_insuredOf_l5 f) fz 0 u (Nat.zero_le _) (fz_lt (by omega)) ho
      obtain ⟨u', e⟩ := ih (kd + 1) u1 (by omega) (by omega) o1
      refine ⟨u', ?_⟩
      rw [sumN_s] at e
      simp only [sumN, Nat.add_zero] at e1
      rw [nI_lit, if_neg (by rw [nI_leI (by omega) (by omega)]; omega), nI_lit, e1]
      exact e
theorem m_insuredOf {p m : Nat} {u : gM} (hV : VT T) (hVN : VN T N) (hM : MV T N mh u) (hmh : ∀ a, mh = some a → a < 2 ^ 31) (hp : p < T 0 0) (hm : m < 2 ^ 30) : ∃ u', X12_insuredOf (nI p) (nI m) u = some (lN (iofS T N mh p m), u') ∧ off (fun c => c = 20) u u' := by
  obtain ⟨u', e⟩ := m_insuredOf_l hV hVN hM hmh hp hm fz 0 u (Nat.zero_le _) (fz_lt (by omega)) off_rf
  have e2 : X12_insuredOf (nI p) (nI m) u = some (lN (iofS T N mh p m), u') := by
    unfold X12_insuredOf
    rw [nI_lit, lN_lit]
    exact e
  exact ⟨u', e2, fr_X12_insuredOf (S := fun c => c = 20) rfl e2 off_rf⟩
end MI
