/-! GROUPS: the model's -/
theorem RTm.mv {d : Nat} {T : gT} {u u' : gM} (h : RTm d T u) (e : ∀ c, 1 ≤ c → c ≤ 15 → u'.1 c = u.1 c ∧ u'.2 c = u.2 c) : RTm d T u' := by
  unfold RTm at *
  rw [(e 1 (by omega) (by omega)).1, (e 2 (by omega) (by omega)).2, (e 3 (by omega) (by omega)).2, (e 4 (by omega) (by omega)).2, (e 6 (by omega) (by omega)).1, (e 11 (by omega) (by omega)).1, (e 12 (by omega) (by omega)).1, (e 7 (by omega) (by omega)).1, (e 9 (by omega) (by omega)).1, (e 8 (by omega) (by omega)).1, (e 10 (by omega) (by omega)).2, (e 13 (by omega) (by omega)).1, (e 14 (by omega) (by omega)).1, (e 15 (by omega) (by omega)).1]
  exact h
def sY (c : Nat) : Prop := 20 ≤ c
theorem sYk {c : Nat} (h : 20 ≤ c) : sY c := h
/-- the model as it is looked at: with an ACCOUNT's other KIND, one with an HEIR more -/
def MV (T : gT) (N : gN) (mh : Option Nat) (u : gM) : Prop := (RTm 0 T u) ∧ (RNm (u.1 16) T N) ∧ (∀ a, a < T 0 2 → (if nI a = u.1 0 32 then u.1 0 33 else u.1 5 a) = nI (T 1 a)) ∧ (u.1 0 34 = oI mh)
theorem MV.t {T : gT} {N : gN} {mh : Option Nat} {u : gM} (h : MV T N mh u) : RTm 0 T u := h.1
theorem MV.n {T : gT} {N : gN} {mh : Option Nat} {u : gM} (h : MV T N mh u) : RNm (u.1 16) T N := h.2.1
theorem MV.k {T : gT} {N : gN} {mh : Option Nat} {u : gM} (h : MV T N mh u) : ∀ a, a < T 0 2 → (if nI a = u.1 0 32 then u.1 0 33 else u.1 5 a) = nI (T 1 a) := h.2.2.1
theorem MV.h {T : gT} {N : gN} {mh : Option Nat} {u : gM} (h : MV T N mh u) : u.1 0 34 = oI mh := h.2.2.2
theorem MV.mv {T : gT} {N : gN} {mh : Option Nat} {u u' : gM} (h : MV T N mh u) (e : off sY u u') : MV T N mh u' := by
  have e2 : ∀ c, c ≤ 16 → u'.1 c = u.1 c ∧ u'.2 c = u.2 c := fun c hc => e c (by intro z; have z1 : 20 ≤ c := z; omega)
  refine ⟨h.t.mv (fun c _ h2 => e2 c (by omega)), ?_, ?_, ?_⟩
  · rw [(e2 16 (by omega)).1]; exact h.n
  · rw [(e2 0 (by omega)).1, (e2 5 (by omega)).1]; exact h.k
  · rw [(e2 0 (by omega)).1]; exact h.h
def mrS (mh : Option Nat) (L : List Nat) : Nat := (L.filter (fun a => decide (mh = some a))).length
def mstM (T : gT) (N : gN) (mh : Option Nat) (p kd b m : Nat) : Nat := if kd = 2 then T 0 4 * max 1 (min 5 (uhN T N p kd b m + mrS mh (gl T N p kd b m (T 0 2)))) else T 0 4
section MG
variable {T : gT} {N : gN} {mh : Option Nat} {u : gM}
theorem m_kindOf {a : Nat} (hV : VT T) (hM : MV T N mh u) (ha : a < T 0 2) : X12_kindOf u (nI a) = some (nI (T 1 a)) := by
  have h1 := hV.na
  have h2 := hM.k a ha
  unfold X12_kindOf X12_kindOf_b21
  by_cases h3 : nI a = u.1 0 32
  · rw [if_pos h3] at h2
    rw [if_pos h3, h2]
  · rw [if_neg h3] at h2
    rw [if_neg h3, aM5 (by omega), Option.bind_some, h2]
theorem m_isInGroup {a p kd b m : Nat} (hV : VT T) (hVN : VN T N) (hM : MV T N mh u) (ha : a < T 0 2) (hp : p < T 0 0) (hkd : kd < 2 ^ 31) (hb : b < 2 ^ 31) (hm : m < 2 ^ 30) : X12_isInGroup u (nI a) (nI p) (nI kd) (nI b) (nI m) = some (b2 (gB T N p kd b m a = true)) := by
  have h0 := hV.no a ha
  have h1 := m_kindOf hV hM ha
  have h2 := m_ownerAt hV hM.t ha hp
  have h3 := m_countedAt hV hM.t hM.n hVN ha hm
  have h4 := hV.kd a ha
  have h5 := cntS_lt (m := m) hV hVN ha
  unfold X12_isInGroup X12_isInGroup_b35 X12_isInGroup_b36
  by_cases g1 : T 1 a = kd
  · cases hk : owS T a p with
    | none =>
      rw [b2_f (by unfold gB; rw [hk]; simp)]
      rw [hk] at h2
      simp (disch := omega) only [h1, g1, h2, oI, bI, nI_lit, lN_lit, nI_add, pk_mul, lN_add, lN_mul, Option.bind_some, nI_leI, nI_ltI, nI_eq, lN_leI, lN_ltI, lN_eqI, nI_m1, m1_nI, i_modN, lN_modN, nI_64, lN_32, if_pos, if_neg, ↓reduceIte, if_true, if_false]
      rfl
    | some k =>
      have hk1 := (owS_some hk).1
      rw [hk] at h2
      by_cases g3 : cntS T N a m = b
      · rw [b2_t (by unfold gB; rw [hk]; simp [g1, g3])]
        simp (disch := omega) only [h1, g1, h2, h3, g3, oI, bI, nI_lit, lN_lit, nI_add, pk_mul, lN_add, lN_mul, Option.bind_some, nI_leI, nI_ltI, nI_eq, lN_leI, lN_ltI, lN_eqI, nI_m1, m1_nI, i_modN, lN_modN, nI_64, lN_32, if_pos, if_neg, ↓reduceIte, if_true, if_false]
        rfl
      · rw [b2_f (by unfold gB; rw [hk]; simp [g3])]
        simp (disch := omega) only [h1, g1, h2, h3, g3, oI, bI, nI_lit, lN_lit, nI_add, pk_mul, lN_add, lN_mul, Option.bind_some, nI_leI, nI_ltI, nI_eq, lN_leI, lN_ltI, lN_eqI, nI_m1, m1_nI, i_modN, lN_modN, nI_64, lN_32, if_pos, if_neg, ↓reduceIte, if_true, if_false]
        rfl
  · rw [b2_f (by unfold gB; simp [g1])]
    simp (disch := omega) only [h1, g1, bI, nI_lit, lN_lit, nI_add, pk_mul, lN_add, lN_mul, Option.bind_some, nI_leI, nI_ltI, nI_eq, lN_leI, lN_ltI, lN_eqI, nI_m1, m1_nI, i_modN, lN_modN, nI_64, lN_32, if_pos, if_neg, ↓reduceIte, if_true, if_false]
    rfl
theorem m_kO {a p : Nat} (hV : VT T) (hM : MV T N mh u) (ha : a < T 0 2) (hp : p < T 0 0) (h : owS T a p ≠ none) : X12_ownerAt u (nI a) (nI p) = some (nI (kO T p a)) := by
  rw [m_ownerAt hV hM.t ha hp, (kO_lt hV ha h).2.2]
  rfl
theorem sum_le {p : Nat} (hV : VT T) (hVN : VN T N) : ∀ (l : List Nat), (∀ a ∈ l, a < T 0 2) → (l.map (shP T N p)).sum ≤ l.length * 100000000
  | [], _ => by simp
  | a :: l, h => by
    have h1 := sum_le (p := p) hV hVN l (fun x hx => h x (List.mem_cons_of_mem _ hx))
    have h2 := shS_le (k := kO T p a) hV hVN (h a List.mem_cons_self)
    simp only [List.map_cons, List.sum_cons, List.length_cons, Nat.succ_mul]
    unfold shP at *
    omega
theorem gsum_le {p kd b m n : Nat} (hV : VT T) (hVN : VN T N) (hn : n ≤ T 0 2) : ((gl T N p kd b m n).map (shP T N p)).sum ≤ 2400000000 := by
  have h1 := sum_le (p := p) hV hVN (gl T N p kd b m n) (fun a ha => by have := (gl_mem.mp ha).1; omega)
  have h2 := gl_len (T := T) (N := N) (p := p) (kd := kd) (b := b) (m := m) n
  have h3 := hV.na
  have h4 : (gl T N p kd b m n).length * 100000000 ≤ 24 * 100000000 := Nat.mul_le_mul_right _ (by omega)
  omega
theorem m_sumOf_l {p kd b m : Nat} (hV : VT T) (hVN : VN T N) (hM : MV T N mh u) (hp : p < T 0 0) (hkd : kd < 2 ^ 31) (hb : b < 2 ^ 31) (hm : m < 2 ^ 30) : ∀ (f a : Nat), a ≤ T 0 2 → T 0 2 - a < f → X12_sumOf_l6 u f (nI p) (nI kd) (nI b) (nI m) (lN ((gl T N p kd b m a).map (shP T N p)).sum) (nI a) = some (lN ((gl T N p kd b m (T 0 2)).map (shP T N p)).sum) := by
  have hna := hV.na
  have h2 := hM.t.na
  simp only [Nat.mul_zero, Nat.zero_add] at h2
  intro f
  induction f with
  | zero => intro a h1 h2; omega
  | succ f ih =>
    intro a h1 h3
    unfold X12_sumOf_l6 X12_sumOf_b6 X12_sumOf_b50
    by_cases h4 : a = T 0 2
    · rw [nI_lit, aM1 (by omega), h2, Option.bind_some, h4, if_pos (Int32.le_refl _)]
    · have ha : a < T 0 2 := by omega
      have h5 := m_isInGroup hV hVN hM ha hp hkd hb hm
      have e := ih (a + 1) (by omega) (by omega)
      rw [gl_s] at e
      by_cases hg : gB T N p kd b m a = true
      · have hg2 := gB_iff.mp hg
        have h6 := m_kO hV hM ha hp hg2.2.1
        have h7 := m_shareOf hV hM.t hM.n hVN ha (kO_lt hV ha hg2.2.1).1
        have h8 := shS_le (k := kO T p a) hV hVN ha
        rw [if_pos hg, List.map_append, List.sum_append] at e
        simp only [List.map_cons, List.map_nil, List.sum_cons, List.sum_nil, Nat.add_zero] at e
        rw [b2_t hg] at h5
        simp (disch := omega) only [aM1, h2, h5, h6, h7, nI_lit, lN_lit, nI_add, pk_mul, lN_add, lN_mul, Option.bind_some, nI_leI, nI_ltI, nI_eq, lN_leI, lN_ltI, lN_eqI, nI_m1, m1_nI, i_modN, lN_modN, nI_64, lN_32, if_pos, if_neg, ↓reduceIte, if_true, if_false]
        exact e
      · rw [if_neg hg, List.append_nil] at e
        rw [b2_f hg] at h5
        simp (disch := omega) only [aM1, h2, h5, nI_lit, lN_lit, nI_add, pk_mul, lN_add, lN_mul, Option.bind_some, nI_leI, nI_ltI, nI_eq, lN_leI, lN_ltI, lN_eqI, nI_m1, m1_nI, i_modN, lN_modN, nI_64, lN_32, if_pos, if_neg, ↓reduceIte, if_true, if_false]
        exact e
theorem m_sumOf {p kd b m : Nat} (hV : VT T) (hVN : VN T N) (hM : MV T N mh u) (hp : p < T 0 0) (hkd : kd < 2 ^ 31) (hb : b < 2 ^ 31) (hm : m < 2 ^ 30) : X12_sumOf u (nI p) (nI kd) (nI b) (nI m) = some (lN ((gl T N p kd b m (T 0 2)).map (shP T N p)).sum) := by
  have hna := hV.na
  unfold X12_sumOf
  rw [nI_lit, lN_lit]
  exact m_sumOf_l hV hVN hM hp hkd hb hm fz 0 (Nat.zero_le _) (fz_lt (by omega))
theorem m_accountsOf_l {p kd b m : Nat} (hV : VT T) (hVN : VN T N) (hM : MV T N mh u) (hp : p < T 0 0) (hkd : kd < 2 ^ 31) (hb : b < 2 ^ 31) (hm : m < 2 ^ 30) : ∀ (f a : Nat), a ≤ T 0 2 → T 0 2 - a < f → X12_accountsOf_l6 u f (nI p) (nI kd) (nI b) (nI m) (nI (gl T N p kd b m a).length) (nI a) = some (nI (gl T N p kd b m (T 0 2)).length) := by
  have hna := hV.na
  have h2 := hM.t.na
  simp only [Nat.mul_zero, Nat.zero_add] at h2
  intro f
  induction f with
  | zero => intro a h1 h2; omega
  | succ f ih =>
    intro a h1 h3
    unfold X12_accountsOf_l6 X12_accountsOf_b6
    by_cases h4 : a = T 0 2
    · rw [nI_lit, aM1 (by omega), h2, Option.bind_some, h4, if_pos (Int32.le_refl _)]
    · have ha : a < T 0 2 := by omega
      have h5 := m_isInGroup hV hVN hM ha hp hkd hb hm
      have e := ih (a + 1) (by omega) (by omega)
      rw [gl_s] at e
      have h6 := m_one (u := u) (gB T N p kd b m a = true)
      by_cases hg : gB T N p kd b m a = true
      · rw [if_pos hg, List.length_append] at e
        simp only [List.length_cons, List.length_nil] at e
        rw [b2_t hg] at h5 h6
        simp (disch := omega) only [aM1, h2, h5, h6, nI_lit, lN_lit, nI_add, pk_mul, lN_add, lN_mul, Option.bind_some, nI_leI, nI_ltI, nI_eq, lN_leI, lN_ltI, lN_eqI, nI_m1, m1_nI, i_modN, lN_modN, nI_64, lN_32, if_pos, if_neg, ↓reduceIte, if_true, if_false]
        exact e
      · rw [if_neg hg, List.append_nil] at e
        rw [b2_f hg] at h5 h6
        simp (disch := omega) only [aM1, h2, h5, h6, nI_lit, lN_lit, nI_add, pk_mul, lN_add, lN_mul, Option.bind_some, nI_leI, nI_ltI, nI_eq, lN_leI, lN_ltI, lN_eqI, nI_m1, m1_nI, i_modN, lN_modN, nI_64, lN_32, if_pos, if_neg, ↓reduceIte, if_true, if_false]
        exact e
theorem m_accountsOf {p kd b m : Nat} (hV : VT T) (hVN : VN T N) (hM : MV T N mh u) (hp : p < T 0 0) (hkd : kd < 2 ^ 31) (hb : b < 2 ^ 31) (hm : m < 2 ^ 30) : X12_accountsOf u (nI p) (nI kd) (nI b) (nI m) = some (nI (gN_ T N p kd b m)) := by
  have hna := hV.na
  unfold X12_accountsOf gN_
  rw [nI_lit]
  exact m_accountsOf_l hV hVN hM hp hkd hb hm fz 0 (Nat.zero_le _) (fz_lt (by omega))
theorem m_placeIn_l {r o n w : Nat} {g : Nat → Nat} (hn : n < 2 ^ 30) (hw : w < 2 ^ 62) (hr : ∀ i, i < n → aJ skM u r (nI (o + i)) = some (lN (g i)) ∧ g i < 2 ^ 62) : ∀ (f i : Nat), i ≤ n → n - i < f → X12_placeIn_l3 u f r (nI o) (nI n) (lN w) (nI i) = some (oI (fstN (fun i => g i = w) i (n - i))) := by
  intro f
  induction f with
  | zero => intro i h1 h2; omega
  | succ f ih =>
    intro i h1 h2
    unfold X12_placeIn_l3 X12_placeIn_b3
    by_cases h4 : i = n
    · rw [h4, if_pos (Int32.le_refl _), Nat.sub_self]
      rfl
    · obtain ⟨h5, h6⟩ := hr i (by omega)
      rw [show n - i = (n - (i + 1)) + 1 by omega]
      unfold fstN
      by_cases h7 : g i = w
      · simp (disch := omega) only [h5, h7, lg_eq, oI, nI_lit, lN_lit, nI_add, pk_mul, lN_add, lN_mul, Option.bind_some, nI_leI, nI_ltI, nI_eq, lN_leI, lN_ltI, lN_eqI, nI_m1, m1_nI, i_modN, lN_modN, nI_64, lN_32, if_pos, if_neg, ↓reduceIte, if_true, if_false]
      · simp (disch := omega) only [h5, h7, lg_eq, ih (i + 1) (by omega) (by omega), nI_lit, lN_lit, nI_add, pk_mul, lN_add, lN_mul, Option.bind_some, nI_leI, nI_ltI, nI_eq, lN_leI, lN_ltI, lN_eqI, nI_m1, m1_nI, i_modN, lN_modN, nI_64, lN_32, if_pos, if_neg, ↓reduceIte, if_true, if_false]
theorem m_placeIn {r o n w : Nat} {g : Nat → Nat} (hn : n < 3999) (hw : w < 2 ^ 62) (hr : ∀ i, i < n → aJ skM u r (nI (o + i)) = some (lN (g i)) ∧ g i < 2 ^ 62) : X12_placeIn u r (nI o) (nI n) (lN w) = some (oI (fstN (fun i => g i = w) 0 n)) := by
  unfold X12_placeIn
  rw [nI_lit]
  exact m_placeIn_l (by omega) hw hr fz 0 (Nat.zero_le _) (fz_lt (by omega))
end MG
