/-! GROUPS: the class's -/
theorem sXk {c : Nat} (h : 137 ≤ c) : sX c := h
section CG
variable {T : gT} {N : gN}
theorem q_setMonth_l {m : Nat} (hV : VT T) (hVN : VN T N) (hm : m < 2 ^ 30) : ∀ (f a : Nat) (u : gM), a ≤ T 0 2 → T 0 2 - a < f → RT 3 T u → RN 18 T N u → (∀ j, j < a → u.1 142 j = nI (cntS T N j m)) → ∃ u', X1_setMonth_l2 f (nI m) (nI a) u = some u' ∧ ∀ j, j < T 0 2 → u'.1 142 j = nI (cntS T N j m) := by
  have hna := hV.na
  intro f
  induction f with
  | zero => intro a u h1 h2; omega
  | succ f ih =>
    intro a u h1 h2 hT hN hc
    unfold X1_setMonth_l2 X1_setMonth_b2
    by_cases h4 : a = T 0 2
    · refine ⟨u, ?_, by rw [← h4]; exact hc⟩
      rw [hT.na, h4, if_pos (Int32.le_refl _)]
    · have hk := q_countedAt hV hT hN hVN (a := a) (by omega) hm
      have ho : off sX u (upI u 142 a (nI (cntS T N a m))) := off_upI (sXk (by decide)) off_rf
      obtain ⟨u', e, h⟩ := ih (a + 1) (upI u 142 a (nI (cntS T N a m))) (by omega) (by omega) (RT_sX hT ho) (RN_sX hN ho) (fun j hj => by
        by_cases hja : j = a
        · subst hja; simp [upI_e]
        · have := hc j (by omega); simp [upI_e, hja, this])
      refine ⟨u', ?_, h⟩
      simp (disch := omega) [hT.na, hk, sC142, nI_lit, lN_lit, nI_add, pk_mul, lN_add, lN_mul, Option.bind_some, nI_leI, nI_ltI, nI_eq, lN_leI, lN_ltI, lN_eqI, nI_m1, m1_nI, i_modN, lN_modN, nI_64, lN_32, if_pos, if_neg, ↓reduceIte, if_true, if_false]
      exact e
theorem q_setMonth {m : Nat} {u : gM} (hV : VT T) (hVN : VN T N) (hm : m < 2 ^ 30) (hT : RT 3 T u) (hN : RN 18 T N u) : ∃ u', X1_setMonth (nI m) u = some u' ∧ (∀ j, j < T 0 2 → u'.1 142 j = nI (cntS T N j m)) ∧ off (fun c => c = 142) u u' := by
  have hna := hV.na
  obtain ⟨u', e, h⟩ := q_setMonth_l hV hVN hm fz 0 u (Nat.zero_le _) (fz_lt (by omega)) hT hN (fun j hj => absurd hj (Nat.not_lt_zero _))
  have e2 : X1_setMonth (nI m) u = some u' := by
    unfold X1_setMonth
    rw [nI_lit]
    exact e
  exact ⟨u', e2, h, fr_X1_setMonth (S := fun c => c = 142) rfl e2 off_rf⟩
/-- what gather has when it has seen the ACCOUNTS below a -/
def GTH (T : gT) (N : gN) (p kd b m a : Nat) (u : gM) : Prop := (RT 3 T u) ∧ (RN 18 T N u) ∧ (∀ j, j < T 0 2 → u.1 142 j = nI (cntS T N j m)) ∧ (u.1 138 0 = nI (gl T N p kd b m a).length) ∧ (u.2 138 1 = lN ((gl T N p kd b m a).map (shP T N p)).sum) ∧ (∀ i, i < (gl T N p kd b m a).length → u.2 139 i = lN (shP T N p ((gl T N p kd b m a).getD i 0))) ∧ (∀ i, i < (gl T N p kd b m a).length → u.1 143 i = nI ((gl T N p kd b m a).getD i 0 * 4 + kO T p ((gl T N p kd b m a).getD i 0)))
theorem GTH.t {T : gT} {N : gN} {p kd b m a : Nat} {u : gM} (h : GTH T N p kd b m a u) : RT 3 T u := h.1
theorem GTH.n {T : gT} {N : gN} {p kd b m a : Nat} {u : gM} (h : GTH T N p kd b m a u) : RN 18 T N u := h.2.1
theorem GTH.c {T : gT} {N : gN} {p kd b m a : Nat} {u : gM} (h : GTH T N p kd b m a u) : ∀ j, j < T 0 2 → u.1 142 j = nI (cntS T N j m) := h.2.2.1
theorem GTH.k {T : gT} {N : gN} {p kd b m a : Nat} {u : gM} (h : GTH T N p kd b m a u) : u.1 138 0 = nI (gl T N p kd b m a).length := h.2.2.2.1
theorem GTH.s {T : gT} {N : gN} {p kd b m a : Nat} {u : gM} (h : GTH T N p kd b m a u) : u.2 138 1 = lN ((gl T N p kd b m a).map (shP T N p)).sum := h.2.2.2.2.1
theorem GTH.p {T : gT} {N : gN} {p kd b m a : Nat} {u : gM} (h : GTH T N p kd b m a u) : ∀ i, i < (gl T N p kd b m a).length → u.2 139 i = lN (shP T N p ((gl T N p kd b m a).getD i 0)) := h.2.2.2.2.2.1
theorem GTH.m {T : gT} {N : gN} {p kd b m a : Nat} {u : gM} (h : GTH T N p kd b m a u) : ∀ i, i < (gl T N p kd b m a).length → u.1 143 i = nI ((gl T N p kd b m a).getD i 0 * 4 + kO T p ((gl T N p kd b m a).getD i 0)) := h.2.2.2.2.2.2
theorem q_gather_l {p kd b m : Nat} (hV : VT T) (hVN : VN T N) (hp : p < T 0 0) (hkd : kd < 2 ^ 31) (hb : b < 2 ^ 31) : ∀ (f a : Nat) (u : gM), a ≤ T 0 2 → T 0 2 - a < f → GTH T N p kd b m a u → ∃ u', X1_gather_l10 f (nI p) (nI kd) (nI b) (nI a) u = some u' ∧ GTH T N p kd b m (T 0 2) u' := by
  have hna := hV.na
  intro f
  induction f with
  | zero => intro a u h1 h2; omega
  | succ f ih =>
    intro a u h1 h2 hG
    have hT := hG.t
    unfold X1_gather_l10 X1_gather_b10 X1_gather_b100
    by_cases h4 : a = T 0 2
    · refine ⟨u, ?_, by rw [← h4]; exact hG⟩
      rw [hT.na, h4, if_pos (Int32.le_refl _)]
    · have ha : a < T 0 2 := by omega
      have h5 := hT.kd a ha
      have h6 := hV.kd a ha
      have h7 := hG.c a ha
      have h8 := cntS_lt (m := m) hV hVN ha
      have h9 := q_ownerOf hV hT ha hp
      have h10 := hV.no a ha
      simp only [Nat.reduceAdd] at h5
      by_cases hg : inG T N p kd b m a
      · obtain ⟨g1, g2, g3⟩ := hg
        obtain ⟨k, hk⟩ := Option.ne_none_iff_exists'.mp g2
        obtain ⟨k1, k2⟩ := owS_some hk
        have hkO : kO T p a = k := by unfold kO; rw [hk]; rfl
        have hlen := gl_len (T := T) (N := N) (p := p) (kd := kd) (b := b) (m := m) a
        have ho1 : off sX u (upI u 143 (gl T N p kd b m a).length (nI (a * 4 + k))) := off_upI (sXk (by decide)) off_rf
        have hT1 := RT_sX hT ho1
        have hN1 := RN_sX hG.n ho1
        have h11 := q_share hV hT1 hN1 hVN ha k1
        have h12 : shS T N a k = shP T N p a := by unfold shP; rw [hkO]
        have h13 := shS_le (k := k) hV hVN ha
        have hgl : gl T N p kd b m (a + 1) = gl T N p kd b m a ++ [a] := by rw [gl_s, if_pos (gB_iff.mpr ⟨g1, g2, g3⟩)]
        generalize hLe : gl T N p kd b m a = L at *
        have ho2 : off sX u (upJ (upI (upJ (upI u 143 L.length (nI (a * 4 + k))) 139 L.length (lN (shS T N a k))) 138 0 (nI (L.length + 1))) 138 1 (lN ((L.map (shP T N p)).sum + shS T N a k))) := off_upJ (sXk (by decide)) (off_upI (sXk (by decide)) (off_upJ (sXk (by decide)) ho1))
        obtain ⟨u', e, h⟩ := ih (a + 1) (upJ (upI (upJ (upI u 143 L.length (nI (a * 4 + k))) 139 L.length (lN (shS T N a k))) 138 0 (nI (L.length + 1))) 138 1 (lN ((L.map (shP T N p)).sum + shS T N a k))) (by omega) (by omega) (by
          have q3 := hG.c
          have q4 := hG.k
          have q5 := hG.s
          have q6 := hG.p
          have q7 := hG.m
          rw [hLe] at q4 q5 q6 q7
          refine ⟨RT_sX hT ho2, RN_sX hG.n ho2, ?_, ?_, ?_, ?_, ?_⟩
          · intro j hj; have := q3 j hj; simp [upI_e, upJ_1, this]
          · rw [hgl]; simp [upI_e, upJ_1]
          · rw [hgl]; simp [upJ_e, h12]
          · intro i hi
            rw [hgl] at hi ⊢
            rw [List.length_append] at hi
            simp only [List.length_cons, List.length_nil] at hi
            rw [getD_app (by omega)]
            by_cases h14 : i < L.length
            · have := q6 i h14
              simp [upI_2, upJ_e, h14, show ¬ i = L.length by omega, this]
            · simp [upI_2, upJ_e, show i = L.length by omega, h12]
          · intro i hi
            rw [hgl] at hi ⊢
            rw [List.length_append] at hi
            simp only [List.length_cons, List.length_nil] at hi
            rw [getD_app (by omega)]
            by_cases h14 : i < L.length
            · have := q7 i h14
              simp [upI_e, upJ_1, h14, show ¬ i = L.length by omega, this]
            · simp [upI_e, upJ_1, show i = L.length by omega, hkO])
        refine ⟨u', ?_, h⟩
        have q4 := hG.k
        have q5 := hG.s
        rw [hLe] at q4 q5
        simp (disch := omega) [hT.na, aC7, h5, g1, aC142, h7, g3, h9, hk, oI, q4, sC143, h11, X4_add, X4_add_b42, isO_C138, rf_C138_2, rf_C138_3, rf_C138_4, aL, c_139, upI_e, sC139, upJ_1, upJ_e, upI_2, q5, nI_64, nI_lit, lN_lit, nI_add, pk_mul, lN_add, lN_mul, Option.bind_some, nI_leI, nI_ltI, nI_eq, lN_leI, lN_ltI, lN_eqI, nI_m1, m1_nI, i_modN, lN_modN, nI_64, lN_32, if_pos, if_neg, ↓reduceIte, if_true, if_false]
        exact e
      · have hgl : gl T N p kd b m (a + 1) = gl T N p kd b m a := by
          rw [gl_s, if_neg (fun z => hg (gB_iff.mp z)), List.append_nil]
        obtain ⟨u', e, h⟩ := ih (a + 1) u (by omega) (by omega) (by
          unfold GTH at hG ⊢
          rw [hgl]
          exact hG)
        refine ⟨u', ?_, h⟩
        by_cases g1 : T 1 a = kd
        · by_cases g3 : cntS T N a m = b
          · have g2 : owS T a p = none := by
              cases hk : owS T a p with
              | none => rfl
              | some k => exact absurd ⟨g1, by rw [hk]; simp, g3⟩ hg
            simp (disch := omega) [hT.na, aC7, h5, g1, aC142, h7, g3, h9, g2, oI, nI_lit, lN_lit, nI_add, pk_mul, lN_add, lN_mul, Option.bind_some, nI_leI, nI_ltI, nI_eq, lN_leI, lN_ltI, lN_eqI, nI_m1, m1_nI, i_modN, lN_modN, nI_64, lN_32, if_pos, if_neg, ↓reduceIte, if_true, if_false]
            exact e
          · simp (disch := omega) [hT.na, aC7, h5, g1, aC142, h7, g3, nI_lit, lN_lit, nI_add, pk_mul, lN_add, lN_mul, Option.bind_some, nI_leI, nI_ltI, nI_eq, lN_leI, lN_ltI, lN_eqI, nI_m1, m1_nI, i_modN, lN_modN, nI_64, lN_32, if_pos, if_neg, ↓reduceIte, if_true, if_false]
            exact e
        · simp (disch := omega) [hT.na, aC7, h5, g1, nI_lit, lN_lit, nI_add, pk_mul, lN_add, lN_mul, Option.bind_some, nI_leI, nI_ltI, nI_eq, lN_leI, lN_ltI, lN_eqI, nI_m1, m1_nI, i_modN, lN_modN, nI_64, lN_32, if_pos, if_neg, ↓reduceIte, if_true, if_false]
          exact e
end CG
