/-! INSURED: the class's -/
section CI
variable {T : gT} {N : gN}
/-- gather's answer -/
theorem q_gather {p kd b m : Nat} {u : gM} (hV : VT T) (hVN : VN T N) (hp : p < T 0 0) (hkd : kd < 2 ^ 31) (hb : b < 2 ^ 31) (hT : RT 3 T u) (hN : RN 18 T N u) (hc : ∀ j, j < T 0 2 → u.1 142 j = nI (cntS T N j m)) :
    ∃ u', X1_gather (nI p) (nI kd) (nI b) u = some u' ∧ GTH T N p kd b m (T 0 2) u' ∧ off (fun c => c = 138 ∨ c = 139 ∨ c = 143) u u' := by
  have hna := hV.na
  have ho : off sX u (upJ (upI u 138 0 (nI 0)) 138 1 (lN 0)) := off_upJ (sXk (by decide)) (off_upI (sXk (by decide)) off_rf)
  obtain ⟨u', e, h⟩ := q_gather_l (m := m) hV hVN hp hkd hb fz 0 (upJ (upI u 138 0 (nI 0)) 138 1 (lN 0)) (Nat.zero_le _) (fz_lt (by omega)) (by
    refine ⟨RT_sX hT ho, RN_sX hN ho, ?_, ?_, ?_, ?_, ?_⟩
    · intro j hj; have := hc j hj; simp [upI_e, upJ_1, this]
    · simp [upI_e, upJ_1, gl]
    · simp [upJ_e, gl]
    · intro i hi; simp [gl] at hi
    · intro i hi; simp [gl] at hi)
  have e2 : X1_gather (nI p) (nI kd) (nI b) u = some u' := by
    unfold X1_gather X4_clear
    rw [if_pos isO_C138, nI_lit, lN_lit, Option.bind_some]
    exact e
  exact ⟨u', e2, h, fr_X1_gather (S := fun c => c = 138 ∨ c = 139 ∨ c = 143) (Or.inr (Or.inl rfl)) (Or.inl rfl) (Or.inr (Or.inr rfl)) e2 off_rf⟩
theorem drop_c {l : List Nat} {i : Nat} (h : i < l.length) : l.drop i = l.getD i 0 :: l.drop (i + 1) := by
  rw [List.drop_eq_getElem_cons h, List.getD_eq_getElem?_getD, List.getElem?_eq_getElem h]
  rfl
theorem getD_mem {l : List Nat} {i : Nat} (h : i < l.length) : l.getD i 0 ∈ l := by
  rw [List.getD_eq_getElem?_getD, List.getElem?_eq_getElem h]
  exact List.getElem_mem _
theorem q_among_l {acc : List Nat} {w : Nat} {u : gM} (hw : w < 2 ^ 62) (hacc : ∀ x ∈ acc, x < 2 ^ 62) (hl : acc.length ≤ 5) (hh : ∀ i, i < acc.length → u.2 144 i = lN (acc.getD i 0)) : ∀ (f i : Nat), i ≤ acc.length → acc.length - i < f → X1_isAmongHeirs_l3 u f (lN w) (nI acc.length) (nI i) = some (b2 (w ∈ acc.drop i)) := by
  intro f
  induction f with
  | zero => intro i h1 h2; omega
  | succ f ih =>
    intro i h1 h2
    unfold X1_isAmongHeirs_l3 X1_isAmongHeirs_b3
    by_cases h4 : i = acc.length
    · rw [h4, if_pos (Int32.le_refl _), b2_f (by rw [List.drop_length]; simp)]
      rfl
    · have h5 := hh i (by omega)
      have h6 : acc.getD i 0 < 2 ^ 62 := hacc _ (getD_mem (by omega))
      have h8 := drop_c (l := acc) (i := i) (by omega)
      by_cases h7 : acc.getD i 0 = w
      · rw [b2_t (by rw [h8, h7]; exact List.mem_cons_self)]
        simp (disch := omega) only [aC144, h5, h7, lg_eq, nI_lit, lN_lit, nI_add, pk_mul, lN_add, lN_mul, Option.bind_some, nI_leI, nI_ltI, nI_eq, lN_leI, lN_ltI, lN_eqI, nI_m1, m1_nI, i_modN, lN_modN, nI_64, lN_32, if_pos, if_neg, ↓reduceIte, if_true, if_false]
      · have h9 := ih (i + 1) (by omega) (by omega)
        have h10 : w ∈ acc.drop i ↔ w ∈ acc.drop (i + 1) := by
          rw [h8, List.mem_cons]
          exact ⟨fun z => z.resolve_left (fun e => h7 e.symm), Or.inr⟩
        simp (disch := omega) only [aC144, h5, h7, lg_eq, h9, nI_lit, lN_lit, nI_add, pk_mul, lN_add, lN_mul, Option.bind_some, nI_leI, nI_ltI, nI_eq, lN_leI, lN_ltI, lN_eqI, nI_m1, m1_nI, i_modN, lN_modN, nI_64, lN_32, if_pos, if_neg, ↓reduceIte, if_true, if_false]
        by_cases h11 : w ∈ acc.drop i
        · rw [b2_t h11, b2_t (h10.mp h11)]
        · rw [b2_f h11, b2_f (fun z => h11 (h10.mpr z))]
theorem q_among {acc : List Nat} {w : Nat} {u : gM} (hw : w < 2 ^ 62) (hacc : ∀ x ∈ acc, x < 2 ^ 62) (hl : acc.length ≤ 5) (hh : ∀ i, i < acc.length → u.2 144 i = lN (acc.getD i 0)) : X1_isAmongHeirs u (lN w) (nI acc.length) = some (b2 (w ∈ acc)) := by
  unfold X1_isAmongHeirs
  rw [nI_lit]
  exact q_among_l hw hacc hl hh fz 0 (Nat.zero_le _) (fz_lt (by omega))
/-- the first five of the names found so far stand in heirs -/
def HR (acc : List Nat) (u : gM) : Prop := ∀ i, i < min 5 acc.length → u.2 144 i = lN (acc.getD i 0)
theorem q_uhA_l {own a : Nat} {u0 : gM} (hV : VT T) (hT : RT 3 T u0) (ha : a < T 0 2) (hown : own < 2 ^ 62) (k31 : Int64 → Int32 → Int32 → gM → Option (Int32 × gM)) (x5 : Int32) : ∀ (f k : Nat) (acc : List Nat) (u : gM), k ≤ T 6 a → T 6 a - k < f → off (fun c => c = 144) u0 u → HR acc u → (∀ x ∈ acc, x < 2 ^ 62) →
    ∃ u', X1_unlikeHeirs_l57 k31 f (lN own) (nI (min 5 acc.length)) x5 (nI a) (nI k) u = k31 (lN own) (nI (min 5 (uhA T own a (T 6 a - k) k acc).length)) (x5 + nI 1) u' ∧ off (fun c => c = 144) u0 u' ∧ HR (uhA T own a (T 6 a - k) k acc) u' ∧ ∀ x ∈ uhA T own a (T 6 a - k) k acc, x < 2 ^ 62 := by
  have hna := hV.na
  have hnh := hV.nh a ha
  intro f
  induction f with
  | zero => intro k acc u h1 h2; omega
  | succ f ih =>
    intro k acc u h1 h2 ho hH hacc
    have h3 := hT.nh a ha
    simp only [Nat.reduceAdd] at h3
    rw [← (ho 12 (by decide)).1] at h3
    unfold X1_unlikeHeirs_l57 X1_unlikeHeirs_b57 X1_unlikeHeirs_b132 X1_unlikeHeirs_b126
    by_cases h4 : k = T 6 a
    · subst h4
      refine ⟨u, ?_, ho, ?_, ?_⟩
      · simp (disch := omega) only [aC12, h3, Nat.sub_self, uhA, nI_lit, lN_lit, nI_add, pk_mul, lN_add, lN_mul, Option.bind_some, nI_leI, nI_ltI, nI_eq, lN_leI, lN_ltI, lN_eqI, nI_m1, m1_nI, i_modN, lN_modN, nI_64, lN_32, if_pos, if_neg, ↓reduceIte, if_true, if_false]
      · simpa [uhA] using hH
      · simpa [uhA] using hacc
    · have h5 := hT.hn a k ha (by omega)
      have h6 := hV.hn a k ha (by omega)
      simp only [Nat.reduceAdd] at h5
      rw [← (ho 14 (by decide)).2] at h5
      rw [show T 6 a - k = (T 6 a - (k + 1)) + 1 by omega]
      unfold uhA
      by_cases h7 : 5 ≤ acc.length
      · -- enough of them
        have hge : ∀ n k acc', acc.length ≤ acc'.length → min 5 (uhA T own a n k acc').length = 5 := fun n k acc' hle => by
          have := uhA_len T own a n k acc'
          omega
        have hrest : ∀ n k (acc' : List Nat), (∀ x ∈ acc', x < 2 ^ 62) → k + n ≤ T 6 a → (∃ r, acc' = acc ++ r) → (∃ r, uhA T own a n k acc' = acc ++ r) ∧ ∀ x ∈ uhA T own a n k acc', x < 2 ^ 62 := by
          intro n
          induction n with
          | zero => intro k acc' hb _ hr; exact ⟨hr, hb⟩
          | succ n ihn =>
            intro k acc' hb hk2 hr
            unfold uhA
            refine ihn (k + 1) _ ?_ (by omega) ?_
            · unfold uhS
              split
              · exact hb
              · intro x hx
                rcases List.mem_append.mp hx with hx | hx
                · exact hb x hx
                · rw [List.mem_singleton.mp hx]
                  have := hV.hn a k ha (by omega)
                  omega
            · obtain ⟨r, rfl⟩ := hr
              unfold uhS
              split
              · exact ⟨r, rfl⟩
              · exact ⟨r ++ [_], by rw [List.append_assoc]⟩
        have hfin := hrest (T 6 a - (k + 1) + 1) k acc hacc (by omega) ⟨[], by simp⟩
        unfold uhA at hfin
        obtain ⟨⟨r, hr⟩, hb⟩ := hfin
        refine ⟨u, ?_, ho, ?_, hb⟩
        · have e1 : min 5 (uhA T own a (T 6 a - (k + 1)) (k + 1) (uhS own acc (T 14 (a * 6 + k)))).length = 5 := hge _ _ _ (uhS_len own acc _)
          have e2 : min 5 acc.length = 5 := by omega
          rw [e1, e2]
          simp (disch := omega) only [aC12, h3, nI_lit, lN_lit, nI_add, pk_mul, lN_add, lN_mul, Option.bind_some, nI_leI, nI_ltI, nI_eq, lN_leI, lN_ltI, lN_eqI, nI_m1, m1_nI, i_modN, lN_modN, nI_64, lN_32, if_pos, if_neg, ↓reduceIte, if_true, if_false]
        · intro i hi
          rw [hr]
          rw [hr, List.length_append] at hi
          have := hH i (by omega)
          rw [this, List.getD_eq_getElem?_getD, List.getD_eq_getElem?_getD, List.getElem?_append_left (by omega)]
      · have hmin : min 5 acc.length = acc.length := by omega
        have hH2 : ∀ i, i < acc.length → u.2 144 i = lN (acc.getD i 0) := fun i hi => hH i (by omega)
        rw [hmin]
        by_cases h8 : T 14 (a * 6 + k) = own
        · obtain ⟨u', e, h⟩ := ih (k + 1) acc u (by omega) (by omega) ho hH hacc
          rw [hmin] at e
          have e3 : uhS own acc (T 14 (a * 6 + k)) = acc := by unfold uhS; rw [if_pos (Or.inl h8)]
          rw [e3]
          refine ⟨u', ?_, h⟩
          simp (disch := omega) only [aC12, h3, aC14, h5, h8, lg_eq, nI_lit, lN_lit, nI_add, pk_mul, lN_add, lN_mul, Option.bind_some, nI_leI, nI_ltI, nI_eq, lN_leI, lN_ltI, lN_eqI, nI_m1, m1_nI, i_modN, lN_modN, nI_64, lN_32, if_pos, if_neg, ↓reduceIte, if_true, if_false]
          exact e
        · have h9 := q_among (w := T 14 (a * 6 + k)) (by omega) hacc (by omega) hH2
          by_cases h10 : T 14 (a * 6 + k) ∈ acc
          · obtain ⟨u', e, h⟩ := ih (k + 1) acc u (by omega) (by omega) ho hH hacc
            rw [hmin] at e
            have e3 : uhS own acc (T 14 (a * 6 + k)) = acc := by unfold uhS; rw [if_pos (Or.inr h10)]
            rw [e3]
            refine ⟨u', ?_, h⟩
            rw [b2_t h10] at h9
            simp (disch := omega) only [aC12, h3, aC14, h5, h8, h9, lg_eq, nI_lit, lN_lit, nI_add, pk_mul, lN_add, lN_mul, Option.bind_some, nI_leI, nI_ltI, nI_eq, lN_leI, lN_ltI, lN_eqI, nI_m1, m1_nI, i_modN, lN_modN, nI_64, lN_32, if_pos, if_neg, ↓reduceIte, if_true, if_false]
            exact e
          · have e3 : uhS own acc (T 14 (a * 6 + k)) = acc ++ [T 14 (a * 6 + k)] := by unfold uhS; rw [if_neg (fun z => z.elim h8 h10)]
            obtain ⟨u', e, h⟩ := ih (k + 1) (acc ++ [T 14 (a * 6 + k)]) (upJ u 144 acc.length (lN (T 14 (a * 6 + k)))) (by omega) (by omega) (off_upJ rfl ho) (by
              intro i hi
              rw [List.length_append] at hi
              simp only [List.length_cons, List.length_nil] at hi
              rw [getD_app (by omega)]
              by_cases h11 : i < acc.length
              · have := hH2 i h11
                simp [upJ_e, h11, show ¬ i = acc.length by omega, this]
              · simp [upJ_e, show i = acc.length by omega]) (by
              intro x hx
              rcases List.mem_append.mp hx with hx | hx
              · exact hacc x hx
              · rw [List.mem_singleton.mp hx]; omega)
            rw [e3]
            refine ⟨u', ?_, h⟩
            have e4 : min 5 (acc ++ [T 14 (a * 6 + k)]).length = acc.length + 1 := by rw [List.length_append]; simp only [List.length_cons, List.length_nil]; omega
            rw [e4] at e
            rw [b2_f h10] at h9
            simp (disch := omega) only [aC12, h3, aC14, h5, h8, h9, lg_eq, sC144, nI_lit, lN_lit, nI_add, pk_mul, lN_add, lN_mul, Option.bind_some, nI_leI, nI_ltI, nI_eq, lN_leI, lN_ltI, lN_eqI, nI_m1, m1_nI, i_modN, lN_modN, nI_64, lN_32, if_pos, if_neg, ↓reduceIte, if_true, if_false]
            exact e
theorem q_uhL_l {p kd b m own : Nat} {u0 : gM} (hV : VT T) (hG : GTH T N p kd b m (T 0 2) u0) (hp : p < T 0 0) (hown : own < 2 ^ 62) : ∀ (f i : Nat) (acc : List Nat) (u : gM), i ≤ (gl T N p kd b m (T 0 2)).length → (gl T N p kd b m (T 0 2)).length - i < f → off (fun c => c = 144) u0 u → HR acc u → (∀ x ∈ acc, x < 2 ^ 62) →
    ∃ u', X1_unlikeHeirs_l31 f (lN own) (nI (min 5 acc.length)) (nI i) u = some (nI (min 5 (uhL T own ((gl T N p kd b m (T 0 2)).drop i) acc).length), u') := by
  have hna := hV.na
  have hlen := gl_len (T := T) (N := N) (p := p) (kd := kd) (b := b) (m := m) (T 0 2)
  intro f
  induction f with
  | zero => intro i acc u h1 h2; omega
  | succ f ih =>
    intro i acc u h1 h2 ho hH hacc
    have h3 := hG.k
    rw [← (ho 138 (by decide)).1] at h3
    unfold X1_unlikeHeirs_l31 X1_unlikeHeirs_b31
    by_cases h4 : i = (gl T N p kd b m (T 0 2)).length
    · refine ⟨u, ?_⟩
      rw [h3, h4, if_pos (Int32.le_refl _), List.drop_length]
      rfl
    · obtain ⟨a, g1, g2, g3, g4⟩ := gl_pos (T := T) (N := N) (p := p) (kd := kd) (b := b) (m := m) (n := T 0 2) (i := i) (by omega)
      have h5 := hG.m i (by omega)
      rw [← (ho 143 (by decide)).1] at h5
      have h6 : (gl T N p kd b m (T 0 2)).getD i 0 = a := by rw [List.getD_eq_getElem?_getD, g3]; rfl
      rw [h6] at h5
      have h7 : kO T p a < 4 := by
        obtain ⟨k, hk⟩ := Option.ne_none_iff_exists'.mp g2.2.1
        have := (owS_some hk).1
        have := hV.no a g1
        unfold kO
        rw [hk]
        simp only [Option.getD_some]
        omega
      have h8 : (gl T N p kd b m (T 0 2)).drop i = a :: (gl T N p kd b m (T 0 2)).drop (i + 1) := by
        rw [List.drop_eq_getElem_cons (by omega)]
        congr 1
        rw [List.getElem?_eq_getElem (by omega)] at g3
        exact Option.some.inj g3
      have h9 : (a * 4 + kO T p a) / 4 = a := by omega
      obtain ⟨u1, e1, o1, H1, A1⟩ := q_uhA_l (u0 := u0) hV hG.t g1 hown (X1_unlikeHeirs_l31 f) (nI i) fz 0 acc u (Nat.zero_le _) (fz_lt (by have := hV.nh a g1; omega)) ho hH hacc
      obtain ⟨u', e⟩ := ih (i + 1) (uhA T own a (T 6 a - 0) 0 acc) u1 (by omega) (by omega) o1 H1 A1
      refine ⟨u', ?_⟩
      rw [h8]
      simp (disch := omega) only [h3, aC143, h5, i_divN, h9, nI_lit, lN_lit, nI_add, pk_mul, lN_add, lN_mul, Option.bind_some, nI_leI, nI_ltI, nI_eq, lN_leI, lN_ltI, lN_eqI, nI_m1, m1_nI, i_modN, lN_modN, nI_64, lN_32, if_pos, if_neg, ↓reduceIte, if_true, if_false]
      rw [e1, nI_add]
      exact e
theorem off_eq {S : Nat → Prop} {u v : gM} (h : off S u v) {c : Nat} (hc : ¬ S c) : v.1 c = u.1 c ∧ v.2 c = u.2 c := h c hc
theorem q_most {p kd b m : Nat} {u : gM} (hV : VT T) (hG : GTH T N p kd b m (T 0 2) u) (hp : p < T 0 0) (hkd : kd ≤ 4) : ∃ u', X1_most (nI p) (nI kd) u = some (lN (if gN_ T N p kd b m = 0 then 0 else mstS T N p kd b m), u') ∧ off (fun c => c = 144) u u' := by
  have hna := hV.na
  have hli := hV.li
  have hlen := gl_len (T := T) (N := N) (p := p) (kd := kd) (b := b) (m := m) (T 0 2)
  have hT := hG.t
  suffices hs : ∃ u', X1_most (nI p) (nI kd) u = some (lN (if gN_ T N p kd b m = 0 then 0 else mstS T N p kd b m), u') by
    obtain ⟨u', e⟩ := hs
    exact ⟨u', e, fr_X1_most (S := fun c => c = 144) rfl e off_rf⟩
  unfold X1_most X1_most_b47
  by_cases h1 : gN_ T N p kd b m = 0
  · refine ⟨u, ?_⟩
    have h2 : (gl T N p kd b m (T 0 2)).length = 0 := h1
    have h3 := hG.k
    rw [h2] at h3
    rw [h3, nI_lit, if_pos rfl, if_pos h1]
    rfl
  · have h2 : ¬ (gl T N p kd b m (T 0 2)).length = 0 := h1
    have h3 := hG.k
    rw [if_neg h1]
    unfold mstS
    by_cases h4 : kd = 2
    · subst h4
      have h5 : T 11 p < 2 ^ 62 := by have := hV.pn p hp; omega
      have h6 := hT.pn p hp
      simp only [Nat.reduceAdd] at h6
      obtain ⟨u', e⟩ := q_uhL_l hV hG hp h5 fz 0 [] u (Nat.zero_le _) (fz_lt (by omega)) off_rf (by intro i hi; simp at hi) (by simp)
      refine ⟨u', ?_⟩
      rw [List.drop_zero] at e
      have e2 : X1_unlikeHeirs (nI p) u = some (nI (min 5 (uhN T N p 2 b m)), u') := by
        unfold X1_unlikeHeirs X1_unlikeHeirs_b24
        rw [q_isPerson hV hT hp, Option.bind_some, nI_lit, if_neg (by decide), aC4 (by have := hV.np; omega), h6, Option.bind_some]
        exact e
      have h7 : max 1 (min 5 (uhN T N p 2 b m)) ≤ 5 := by omega
      have h8 : T 0 4 * max 1 (min 5 (uhN T N p 2 b m)) ≤ 100000000 * 5 := Nat.mul_le_mul hli.2 h7
      simp (disch := omega) only [h3, e2, hT.li, mxI_N, nI_lit, lN_lit, nI_add, pk_mul, lN_add, lN_mul, Option.bind_some, nI_leI, nI_ltI, nI_eq, lN_leI, lN_ltI, lN_eqI, nI_m1, m1_nI, i_modN, lN_modN, nI_64, lN_32, if_pos, if_neg, ↓reduceIte, if_true, if_false]
    · refine ⟨u, ?_⟩
      simp (disch := omega) only [h3, hT.li, h4, nI_lit, lN_lit, nI_add, pk_mul, lN_add, lN_mul, Option.bind_some, nI_leI, nI_ltI, nI_eq, lN_leI, lN_ltI, lN_eqI, nI_m1, m1_nI, i_modN, lN_modN, nI_64, lN_32, if_pos, if_neg, ↓reduceIte, if_true, if_false]
theorem kO_lt {p a : Nat} (hV : VT T) (ha : a < T 0 2) (h : owS T a p ≠ none) : kO T p a < T 5 a ∧ T 7 (a * 4 + kO T p a) = p ∧ owS T a p = some (kO T p a) := by
  obtain ⟨k, hk⟩ := Option.ne_none_iff_exists'.mp h
  obtain ⟨h1, h2⟩ := owS_some hk
  unfold kO
  rw [hk]
  exact ⟨h1, h2, rfl⟩
/-- the slot of the i-th SHARE of a GROUP -/
def slt (T : gT) (p : Nat) (L : List Nat) (i : Nat) : Nat := L.getD i 0 * 4 + kO T p (L.getD i 0)
theorem gl_get {N : gN} {p kd b m i : Nat} (h : i < (gl T N p kd b m (T 0 2)).length) : (gl T N p kd b m (T 0 2)).getD i 0 < T 0 2 ∧ inG T N p kd b m ((gl T N p kd b m (T 0 2)).getD i 0) ∧ i = (gl T N p kd b m ((gl T N p kd b m (T 0 2)).getD i 0)).length := by
  obtain ⟨a, h1, h2, h3, h4⟩ := gl_pos h
  have : (gl T N p kd b m (T 0 2)).getD i 0 = a := by rw [List.getD_eq_getElem?_getD, h3]; rfl
  rw [this]
  exact ⟨h1, h2, h4⟩
theorem slt_inj {p kd b m i j : Nat} (hV : VT T) (hi : i < (gl T N p kd b m (T 0 2)).length) (hj : j < (gl T N p kd b m (T 0 2)).length) (h : slt T p (gl T N p kd b m (T 0 2)) i = slt T p (gl T N p kd b m (T 0 2)) j) : i = j := by
  obtain ⟨a1, a2, a3⟩ := gl_get hi
  obtain ⟨b1, b2, b3⟩ := gl_get hj
  have k1 := (kO_lt hV a1 a2.2.1).1
  have k2 := (kO_lt hV b1 b2.2.1).1
  have k3 := (hV.no _ a1).2
  have k4 := (hV.no _ b1).2
  unfold slt at h
  have : (gl T N p kd b m (T 0 2)).getD i 0 = (gl T N p kd b m (T 0 2)).getD j 0 := by omega
  rw [a3, b3, this]
theorem slt_lt {p kd b m i : Nat} (hV : VT T) (hi : i < (gl T N p kd b m (T 0 2)).length) : slt T p (gl T N p kd b m (T 0 2)) i < 96 := by
  obtain ⟨a1, a2, a3⟩ := gl_get hi
  have k1 := (kO_lt hV a1 a2.2.1).1
  have k3 := (hV.no _ a1).2
  have := hV.na
  unfold slt
  omega
theorem q_insG_l {p kd b m : Nat} {g : Nat → Nat} {u3 : gM} (hV : VT T) (hc : u3.1 138 0 = nI (gl T N p kd b m (T 0 2)).length) (hm : ∀ i, i < (gl T N p kd b m (T 0 2)).length → u3.1 143 i = nI (slt T p (gl T N p kd b m (T 0 2)) i)) (hg : ∀ i, i < (gl T N p kd b m (T 0 2)).length → u3.2 140 i = lN (g i)) :
    ∀ (f i : Nat) (u : gM), i ≤ (gl T N p kd b m (T 0 2)).length → (gl T N p kd b m (T 0 2)).length - i < f → off (fun c => c = 137) u3 u → (∀ j, j < i → u.1 137 (slt T p (gl T N p kd b m (T 0 2)) j) = nI (g j)) → (∀ s, (∀ j, j < i → s ≠ slt T p (gl T N p kd b m (T 0 2)) j) → u.1 137 s = u3.1 137 s) →
    ∃ u', X1_insureGroup_l23 f (nI i) u = some u' ∧ off (fun c => c = 137) u3 u' ∧ (∀ j, j < (gl T N p kd b m (T 0 2)).length → u'.1 137 (slt T p (gl T N p kd b m (T 0 2)) j) = nI (g j)) ∧ (∀ s, (∀ j, j < (gl T N p kd b m (T 0 2)).length → s ≠ slt T p (gl T N p kd b m (T 0 2)) j) → u'.1 137 s = u3.1 137 s) := by
  have hna := hV.na
  have hlen := gl_len (T := T) (N := N) (p := p) (kd := kd) (b := b) (m := m) (T 0 2)
  intro f
  induction f with
  | zero => intro i u h1 h2; omega
  | succ f ih =>
    intro i u h1 h2 ho h3 h4
    have e1 := hc
    rw [← (ho 138 (by decide)).1] at e1
    unfold X1_insureGroup_l23 X1_insureGroup_b23
    by_cases h5 : i = (gl T N p kd b m (T 0 2)).length
    · refine ⟨u, ?_, ho, by rw [← h5]; exact h3, by rw [← h5]; exact h4⟩
      rw [e1, h5, if_pos (Int32.le_refl _)]
    · have e2 := hm i (by omega)
      rw [← (ho 143 (by decide)).1] at e2
      have e3 := hg i (by omega)
      rw [← (ho 140 (by decide)).2] at e3
      have e4 := slt_lt (N := N) (p := p) (kd := kd) (b := b) (m := m) (i := i) hV (by omega)
      obtain ⟨u', e, h⟩ := ih (i + 1) (upI u 137 (slt T p (gl T N p kd b m (T 0 2)) i) (nI (g i))) (by omega) (by omega) (off_upI rfl ho) (by
        intro j hj
        by_cases hji : j = i
        · subst hji; simp [upI_e]
        · have := slt_inj (N := N) (p := p) (kd := kd) (b := b) (m := m) (i := j) (j := i) hV (by omega) (by omega)
          rw [upI_e, if_neg (by rintro ⟨-, z⟩; exact hji (this z))]
          exact h3 j (by omega)) (by
        intro s hs
        rw [upI_e, if_neg (by rintro ⟨-, z⟩; exact hs i (by omega) z)]
        exact h4 s (fun j hj => hs j (by omega)))
      refine ⟨u', ?_, h⟩
      simp (disch := omega) only [e1, aC143, e2, aC140, e3, sC137, nI_lit, lN_lit, nI_add, pk_mul, lN_add, lN_mul, Option.bind_some, nI_leI, nI_ltI, nI_eq, lN_leI, lN_ltI, lN_eqI, nI_m1, m1_nI, i_modN, lN_modN, nI_64, lN_32, if_pos, if_neg, ↓reduceIte, if_true, if_false]
      exact e
theorem q_insG {p kd b m : Nat} {u : gM} (hV : VT T) (hVN : VN T N) (hp : p < T 0 0) (hkd : kd ≤ 4) (hb : b < 6) (hT : RT 3 T u) (hN : RN 18 T N u) (hc : ∀ j, j < T 0 2 → u.1 142 j = nI (cntS T N j m)) :
    ∃ u', X1_insureGroup (nI p) (nI kd) (nI b) u = some u' ∧ off (fun c => 137 ≤ c ∧ c ≤ 144 ∧ c ≠ 142) u u' ∧ (∀ a, a < T 0 2 → inG T N p kd b m a → u'.1 137 (a * 4 + kO T p a) = nI (insG T N p kd b m a)) ∧ (∀ s, (∀ a, a < T 0 2 → inG T N p kd b m a → s ≠ a * 4 + kO T p a) → u'.1 137 s = u.1 137 s) := by
  have hna := hV.na
  have hli := hV.li
  have hlen := gl_len (T := T) (N := N) (p := p) (kd := kd) (b := b) (m := m) (T 0 2)
  obtain ⟨u1, e1, G1, o1⟩ := q_gather (kd := kd) (b := b) (m := m) hV hVN hp (by omega) (by omega) hT hN hc
  obtain ⟨u2, e2, o2⟩ := q_most hV G1 hp hkd
  have hmst : mstS T N p kd b m ≤ 500000000 := by
    unfold mstS
    split
    · have : T 0 4 * max 1 (min 5 (uhN T N p kd b m)) ≤ 100000000 * 5 := Nat.mul_le_mul hli.2 (by omega)
      omega
    · omega
  have hgp : ∀ i, i < gN_ T N p kd b m → gpt T N p kd b m i ≤ 10000000000 := by
    intro i hi
    obtain ⟨a1, a2, a3⟩ := gl_get hi
    have := shS_le (k := kO T p ((gl T N p kd b m (T 0 2)).getD i 0)) hV hVN a1
    unfold gpt shP
    omega
  obtain ⟨u3, e3, d3, o3⟩ := q_divide (x0 := 138) (Or.inl rfl) (n := gN_ T N p kd b m) (much := if gN_ T N p kd b m = 0 then 0 else mstS T N p kd b m) (p := gpt T N p kd b m) (u := u2) (by unfold gN_; omega) (by split <;> omega) hgp (by rw [(o2 138 (by decide)).1]; exact G1.k) (by rw [(o2 138 (by decide)).2, G1.s]; congr 1; exact (sumN_list _ _).symm) (by intro j hj; rw [(o2 139 (by decide)).2]; exact G1.p j hj)
  simp only [Nat.reduceAdd] at d3 o3
  obtain ⟨u4, e4, o4, k4, l4⟩ := q_insG_l (g := divS (gpt T N p kd b m) (gN_ T N p kd b m) (if gN_ T N p kd b m = 0 then 0 else mstS T N p kd b m)) hV (u3 := u3) (N := N) (p := p) (kd := kd) (b := b) (m := m) (by rw [(o3 138 (by decide)).1, (o2 138 (by decide)).1]; exact G1.k) (by intro i hi; rw [(o3 143 (by decide)).1, (o2 143 (by decide)).1]; exact G1.m i hi) d3 fz 0 u3 (Nat.zero_le _) (fz_lt (by omega)) off_rf (fun j hj => absurd hj (Nat.not_lt_zero _)) (fun _ _ => rfl)
  refine ⟨u4, ?_, ?_, ?_, ?_⟩
  · unfold X1_insureGroup
    rw [e1, Option.bind_some, e2, Option.bind_some]
    simp only
    rw [e3, Option.bind_some, nI_lit]
    exact e4
  · intro c hc2
    have c1 : ¬ c = 137 := fun z => hc2 (by omega)
    have c2 : ¬ (c = 140 ∨ c = 141) := fun z => hc2 (by omega)
    have c3 : ¬ c = 144 := fun z => hc2 (by omega)
    have c4 : ¬ (c = 138 ∨ c = 139 ∨ c = 143) := fun z => hc2 (by omega)
    exact ⟨(o4 c c1).1.trans ((o3 c c2).1.trans ((o2 c c3).1.trans (o1 c c4).1)), (o4 c c1).2.trans ((o3 c c2).2.trans ((o2 c c3).2.trans (o1 c c4).2))⟩
  · intro a ha hg
    have h1 := gl_lt ha hg
    have h2 := gl_at ha hg
    have h3 := k4 _ h1
    have h4 : (gl T N p kd b m (T 0 2)).getD (gl T N p kd b m a).length 0 = a := by rw [List.getD_eq_getElem?_getD, h2]; rfl
    unfold slt at h3
    rw [h4] at h3
    rw [h3]
    unfold insG
    rw [if_neg (by unfold gN_; omega)]
  · intro s hs
    rw [l4 s (by
      intro j hj
      obtain ⟨a1, a2, a3⟩ := gl_get hj
      exact hs _ a1 a2)]
    rw [(o3 137 (by decide)).1, (o2 137 (by decide)).1, (o1 137 (by decide)).1]
/-- every slot has what it must have, or nothing yet; those ahead of (a, k) have it -/
def InsI (T : gT) (N : gN) (m a k : Nat) (u : gM) : Prop := ∀ x j, x < T 0 2 → j < T 5 x → u.1 137 (x * 4 + j) = nI (insS T N m x j) ∨ (u.1 137 (x * 4 + j) = -nI 1 ∧ (a < x ∨ (a = x ∧ k ≤ j)))
theorem insS_grp {m a x : Nat} (hV : VT T) {p kd b : Nat} (hx : x < T 0 2) (hg : inG T N p kd b m x) : insS T N m x (kO T p x) = insG T N p kd b m x := by
  unfold insS
  rw [(kO_lt hV hx hg.2.1).2.1, hg.1, hg.2.2]
def sIn (c : Nat) : Prop := 137 ≤ c ∧ c ≤ 144 ∧ c ≠ 142
theorem q_insK_l {m a : Nat} (hV : VT T) (hVN : VN T N) (ha : a < T 0 2) {u0 : gM} (hT : RT 3 T u0) (hN : RN 18 T N u0) (hc : ∀ j, j < T 0 2 → u0.1 142 j = nI (cntS T N j m)) (k15 : Int32 → gM → Option gM) : ∀ (f k : Nat) (u : gM), k ≤ T 5 a → T 5 a - k < f → off sIn u0 u → InsI T N m a k u →
    ∃ u', X1_insure_l28 k15 f (nI a) (nI k) u = k15 (nI (a + 1)) u' ∧ off sIn u0 u' ∧ InsI T N m (a + 1) 0 u' := by
  have hna := hV.na
  have hno := hV.no a ha
  intro f
  induction f with
  | zero => intro k u h1 h2; omega
  | succ f ih =>
    intro k u h1 h2 ho hI
    have hoX : off sX u0 u := off_mono ho (fun c h => h.1)
    have hT1 := RT_sX hT hoX
    have hN1 := RN_sX hN hoX
    have h3 := hT1.no a ha
    simp only [Nat.reduceAdd] at h3
    unfold X1_insure_l28 X1_insure_b28 X1_insure_b87
    by_cases h4 : k = T 5 a
    · refine ⟨u, ?_, ho, ?_⟩
      · simp (disch := omega) only [aC11, h3, h4, nI_lit, lN_lit, nI_add, pk_mul, lN_add, lN_mul, Option.bind_some, nI_leI, nI_ltI, nI_eq, lN_leI, lN_ltI, lN_eqI, nI_m1, m1_nI, i_modN, lN_modN, nI_64, lN_32, if_pos, if_neg, ↓reduceIte, if_true, if_false]
      · intro x j hx hj
        rcases hI x j hx hj with h5 | ⟨h5, h6⟩
        · exact Or.inl h5
        · refine Or.inr ⟨h5, ?_⟩
          rcases h6 with h6 | ⟨h6, h7⟩
          · by_cases h8 : x = a + 1
            · exact Or.inr ⟨h8.symm, Nat.zero_le _⟩
            · exact Or.inl (by omega)
          · rw [← h6] at hj; omega
    · have hk : k < T 5 a := by omega
      have h5 := hT1.ow a k ha hk
      have h6 := hT1.kd a ha
      have h7 := hc a ha
      rw [← (ho 142 (fun z => z.2.2 rfl)).1] at h7
      have h8 := hV.ow a k ha hk
      simp only [Nat.reduceAdd] at h5 h6
      have hcc : ∀ j, j < T 0 2 → u.1 142 j = nI (cntS T N j m) := fun j hj => by rw [(ho 142 (fun z => z.2.2 rfl)).1]; exact hc j hj
      have h9 := cntS_lt (m := m) hV hVN ha
      rcases hI a k ha hk with h10 | ⟨h10, -⟩
      · obtain ⟨u', e, h⟩ := ih (k + 1) u (by omega) (by omega) ho (by
          intro x j hx hj
          rcases hI x j hx hj with h11 | ⟨h11, h12⟩
          · exact Or.inl h11
          · by_cases h13 : x = a ∧ j = k
            · rw [h13.1, h13.2]; exact Or.inl h10
            · refine Or.inr ⟨h11, ?_⟩
              rcases h12 with h12 | ⟨h12, h14⟩
              · exact Or.inl h12
              · exact Or.inr ⟨h12, by by_cases h15 : j = k; exact absurd ⟨h12.symm, h15⟩ h13; omega⟩)
        refine ⟨u', ?_, h⟩
        have h16 : insS T N m a k < 2 ^ 31 := by
          have h17 : inG T N (T 7 (a * 4 + k)) (T 1 a) (cntS T N a m) m a := ⟨rfl, by rw [owS_at hV ha hk]; simp, rfl⟩
          have h18 : insS T N m a k ≤ gpt T N (T 7 (a * 4 + k)) (T 1 a) (cntS T N a m) m (gl T N (T 7 (a * 4 + k)) (T 1 a) (cntS T N a m) m a).length := divS_le (gl_lt ha h17)
          have h19 := gl_at ha h17
          have h20 : gpt T N (T 7 (a * 4 + k)) (T 1 a) (cntS T N a m) m (gl T N (T 7 (a * 4 + k)) (T 1 a) (cntS T N a m) m a).length ≤ 100000000 := by
            unfold gpt shP
            rw [List.getD_eq_getElem?_getD, h19]
            exact shS_le hV hVN ha
          omega
        simp (disch := omega) only [aC11, h3, aC137, h10, nI_lit, lN_lit, nI_add, pk_mul, lN_add, lN_mul, Option.bind_some, nI_leI, nI_ltI, nI_eq, lN_leI, lN_ltI, lN_eqI, nI_m1, m1_nI, i_modN, lN_modN, nI_64, lN_32, if_pos, if_neg, ↓reduceIte, if_true, if_false]
        exact e
      · obtain ⟨u1, e1, o1, k1, l1⟩ := q_insG (m := m) (p := T 7 (a * 4 + k)) (kd := T 1 a) (b := cntS T N a m) hV hVN h8 (hV.kd a ha) h9 hT1 hN1 hcc
        have hgrp : inG T N (T 7 (a * 4 + k)) (T 1 a) (cntS T N a m) m a := ⟨rfl, by rw [owS_at hV ha hk]; simp, rfl⟩
        obtain ⟨u', e, h⟩ := ih (k + 1) u1 (by omega) (by omega) (off_tr ho o1) (by
          intro x j hx hj
          by_cases h11 : inG T N (T 7 (a * 4 + k)) (T 1 a) (cntS T N a m) m x ∧ j = kO T (T 7 (a * 4 + k)) x
          · left
            rw [h11.2, k1 x hx h11.1, insS_grp (a := a) hV hx h11.1]
          · have h12 : u1.1 137 (x * 4 + j) = u.1 137 (x * 4 + j) := l1 _ (by
              intro y hy hg hxy
              have h13 := (kO_lt hV hy hg.2.1).1
              have h14 := (hV.no y hy).2
              have h15 := (hV.no x hx).2
              have h16 : x = y := by omega
              subst h16
              exact h11 ⟨hg, by omega⟩)
            rw [h12]
            rcases hI x j hx hj with h13 | ⟨h13, h14⟩
            · exact Or.inl h13
            · refine Or.inr ⟨h13, ?_⟩
              rcases h14 with h14 | ⟨h14, h15⟩
              · exact Or.inl h14
              · refine Or.inr ⟨h14, ?_⟩
                by_cases h16 : j = k
                · exfalso
                  apply h11
                  subst h14
                  subst h16
                  refine ⟨hgrp, ?_⟩
                  unfold kO
                  rw [owS_at hV hx hj]
                  rfl
                · omega)
        refine ⟨u', ?_, h⟩
        simp (disch := omega) only [aC11, h3, aC137, h10, aC13, h5, aC7, h6, aC142, h7, e1, nI_lit, lN_lit, nI_add, pk_mul, lN_add, lN_mul, Option.bind_some, nI_leI, nI_ltI, nI_eq, lN_leI, lN_ltI, lN_eqI, nI_m1, m1_nI, i_modN, lN_modN, nI_64, lN_32, if_pos, if_neg, ↓reduceIte, if_true, if_false]
        exact e
theorem q_insA_l {m : Nat} (hV : VT T) (hVN : VN T N) {u0 : gM} (hT : RT 3 T u0) (hN : RN 18 T N u0) (hc : ∀ j, j < T 0 2 → u0.1 142 j = nI (cntS T N j m)) : ∀ (f a : Nat) (u : gM), a ≤ T 0 2 → T 0 2 - a < f → off sIn u0 u → InsI T N m a 0 u → ∃ u', X1_insure_l15 f (nI a) u = some u' ∧ off sIn u0 u' ∧ InsI T N m (T 0 2) 0 u' := by
  have hna := hV.na
  intro f
  induction f with
  | zero => intro a u h1 h2; omega
  | succ f ih =>
    intro a u h1 h2 ho hI
    have hoX : off sX u0 u := off_mono ho (fun c h => h.1)
    have hT1 := RT_sX hT hoX
    unfold X1_insure_l15 X1_insure_b15
    by_cases h4 : a = T 0 2
    · refine ⟨u, ?_, ho, by rw [← h4]; exact hI⟩
      rw [hT1.na, h4, if_pos (Int32.le_refl _)]
    · have ha : a < T 0 2 := by omega
      obtain ⟨u1, e1, o1, I1⟩ := q_insK_l hV hVN ha hT hN hc (X1_insure_l15 f) fz 0 u (Nat.zero_le _) (fz_lt (by have := hV.no a ha; omega)) ho hI
      obtain ⟨u', e, h⟩ := ih (a + 1) u1 (by omega) (by omega) o1 I1
      refine ⟨u', ?_, h⟩
      rw [hT1.na, if_neg (by rw [nI_leI (by omega) (by omega)]; omega), nI_lit, e1]
      exact e
theorem q_fill_l {n : Nat} {x : Int32} {r : Nat} (hsk : skC[r]? = some (.inr (0, n, []))) (hn : n < 4000) {u0 : gM} : ∀ (f i : Nat) (u : gM), i ≤ n → n - i < f → off (fun c => c = r) u0 u → (∀ j, j < i → u.1 r j = x) → ∃ u', J7_fill_53178_l5 f r x (nI i) (nI n) u = some u' ∧ ∀ j, j < n → u'.1 r j = x := by
  intro f
  induction f with
  | zero => intro i u h1 h2; omega
  | succ f ih =>
    intro i u h1 h2 ho h3
    unfold J7_fill_53178_l5 J7_fill_53178_b5
    by_cases h4 : i = n
    · refine ⟨u, ?_, by rw [← h4]; exact h3⟩
      rw [h4, if_pos (Int32.le_refl _)]
    · obtain ⟨u', e, h⟩ := ih (i + 1) (upI u r i x) (by omega) (by omega) (off_upI rfl ho) (by
        intro j hj
        by_cases hji : j = i
        · subst hji; simp [upI_e]
        · simp [upI_e, hji, h3 j (by omega)])
      refine ⟨u', ?_, h⟩
      rw [if_neg (by rw [nI_leI (by omega) (by omega)]; omega), sI_at hsk (by omega) (by omega), Option.bind_some, nI_lit, nI_add]
      exact e
theorem q_fill {n : Nat} {x : Int32} {r : Nat} {u : gM} (h : skC[r]? = some (.inr (0, n, []))) (hn : n < 4000) : ∃ u', J7_fill_53178 r x u = some u' ∧ (∀ j, j < n → u'.1 r j = x) ∧ off (fun c => c = r) u u' := by
  obtain ⟨u', e, h1⟩ := q_fill_l (x := x) h hn (u0 := u) fz 0 u (Nat.zero_le _) (fz_lt (by omega)) off_rf (fun j hj => absurd hj (Nat.not_lt_zero _))
  have e2 : J7_fill_53178 r x u = some u' := by
    unfold J7_fill_53178
    rw [show aL skC r = some (nI n) by unfold aL; rw [h]; rfl, Option.bind_some, nI_lit]
    exact e
  exact ⟨u', e2, h1, fr_J7_fill_53178 (S := fun c => c = r) rfl e2 off_rf⟩
def sJn (c : Nat) : Prop := 137 ≤ c ∧ c ≤ 144
/-- INSURED of every SHARE -/
theorem q_insure {m : Nat} {u : gM} (hV : VT T) (hVN : VN T N) (hm : m < 2 ^ 30) (hT : RT 3 T u) (hN : RN 18 T N u) : ∃ u', X1_insure (nI m) u = some u' ∧ off sJn u u' ∧ (∀ a k, a < T 0 2 → k < T 5 a → u'.1 137 (a * 4 + k) = nI (insS T N m a k)) ∧ (∀ j, j < T 0 2 → u'.1 142 j = nI (cntS T N j m)) := by
  have hna := hV.na
  obtain ⟨u1, e1, c1, o1⟩ := q_setMonth hV hVN hm hT hN
  obtain ⟨u2, e2, f2, o2⟩ := q_fill (n := 96) (x := -nI 1) (r := 137) (u := u1) rfl (by decide)
  have oX : off sX u u2 := off_tr (off_mono o1 (fun c h => by have h : c = 142 := h; show 137 ≤ c; omega)) (off_mono o2 (fun c h => by have h : c = 137 := h; show 137 ≤ c; omega))
  obtain ⟨u3, e3, o3, I3⟩ := q_insA_l hV hVN (u0 := u2) (m := m) (RT_sX hT oX) (RN_sX hN oX) (fun j hj => by rw [(o2 142 (by decide)).1]; exact c1 j hj) fz 0 u2 (Nat.zero_le _) (fz_lt (by omega)) off_rf (by
    intro x j hx hj
    have := (hV.no x hx).2
    refine Or.inr ⟨f2 _ (by omega), ?_⟩
    by_cases h : x = 0
    · exact Or.inr ⟨h.symm, Nat.zero_le _⟩
    · exact Or.inl (by omega))
  refine ⟨u3, ?_, ?_, ?_, ?_⟩
  · unfold X1_insure
    rw [e1, Option.bind_some, nI_lit, e2, Option.bind_some, nI_lit]
    exact e3
  · intro c hc
    have h1 : ¬ c = 142 := fun z => hc ⟨by omega, by omega⟩
    have h2 : ¬ c = 137 := fun z => hc ⟨by omega, by omega⟩
    have h3 : ¬ sIn c := fun z => hc ⟨z.1, z.2.1⟩
    exact ⟨(o3 c h3).1.trans ((o2 c h2).1.trans (o1 c h1).1), (o3 c h3).2.trans ((o2 c h2).2.trans (o1 c h1).2)⟩
  · intro a k ha hk
    rcases I3 a k ha hk with h | ⟨-, h⟩
    · exact h
    · rcases h with h | ⟨h, -⟩ <;> omega
  · intro j hj
    rw [(o3 142 (fun z => z.2.2 rfl)).1, (o2 142 (by decide)).1]
    exact c1 j hj
end CI
