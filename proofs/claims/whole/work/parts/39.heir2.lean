/-! heirMore -/
section HF
variable {T : gT} {N : gN} {P : List gN} {S : gS} {u v : gM}
theorem RC.mvt (h : RC T N P S u) {u' : gM} (hT : RT 3 T u') (e : ∀ c, c ≤ 115 → c < 3 ∨ 18 ≤ c → u'.1 c = u.1 c ∧ u'.2 c = u.2 c) : RC T N P S u' := by
  refine ⟨hT, h.n.mv (fun c _ h2 => e c (by omega) (by omega)), ?_, ?_, ?_, ?_, ?_, ?_, ?_⟩
  · rw [(e 30 (by omega) (by omega)).1]; exact h.pc
  · obtain ⟨nx, h1, h2, h3⟩ := h.pr
    refine ⟨nx, h1, ?_, ?_⟩
    · rw [(e 30 (by omega) (by omega)).1]; exact h2
    · intro j Q hj
      exact (h3 j Q hj).mv (fun c _ h2 => e c (by have := Nat.mod_lt (nx + 6 - j) (y := 7) (by decide); omega) (by omega))
  · rw [(e 1 (by omega) (by omega)).1]; exact h.tl
  · rw [(e 2 (by omega) (by omega)).1]; exact h.tp
  · rw [(e 1 (by omega) (by omega)).1]; exact h.fa
  · rw [(e 1 (by omega) (by omega)).1]; exact h.fp
  · rw [(e 0 (by omega) (by omega)).1]; exact h.dt
theorem RT_14 {a : Nat} {u' : gM} (hV : VT T) (h : RT 3 T u) (ha6 : T 6 a < 6) (e1 : ∀ c, c ≤ 17 → u'.1 c = u.1 c) (e2 : ∀ c, c ≤ 17 → c ≠ 14 → u'.2 c = u.2 c) (e14 : ∀ i, i ≠ a * 6 + T 6 a → u'.2 14 i = u.2 14 i) : RT 3 T u' := by
  have hnh := hV.nh
  unfold RT at *
  simp only [Nat.reduceAdd] at *
  rw [e1 3 (by omega), e2 4 (by omega) (by omega), e2 5 (by omega) (by omega), e2 6 (by omega) (by omega), e1 7 (by omega), e1 8 (by omega), e1 9 (by omega), e1 10 (by omega), e1 11 (by omega), e1 12 (by omega), e1 13 (by omega), e1 15 (by omega), e1 16 (by omega), e1 17 (by omega)]
  obtain ⟨h1, h2, h3, h4, h5, h6, h7, h8, h9, h10, h11, h12, h13, h14, h15, h16, h17, h18, h19, h20⟩ := h
  refine ⟨h1, h2, h3, h4, h5, h6, h7, h8, h9, h10, h11, h12, h13, h14, h15, h16, fun x k hx hk => ?_, h18, h19, h20⟩
  have := hnh x hx
  rw [e14 _ (by
    intro z
    have hxa : x = a := by omega
    subst hxa
    omega)]
  exact h17 x k hx hk
theorem o_heirMore (a : Int32) (h : RR T N P S u v) : SR (X11_heirMore a u) (X12_heirMore a v) := by
  have hV := h.d.t; have hVN := h.d.n; have hna := hV.na; have hmo := hVN.mo
  have k1 := h.c.t.kd; have k2 := h.m.k; have n1 := h.c.t.nh; have n2 := h.m.t.nh
  unfold RKm at k2
  simp only [Nat.reduceAdd] at k1 n1
  simp only [Nat.mul_zero, Nat.zero_add] at k2 n2
  unfold X11_heirMore X12_heirMore X11_heirMore_b38 X12_heirMore_b29
  have bad : ∀ {x y : Option (Int64 × gM)}, x = some (-1, u) → y = some (-1, v) → SR x y := fun e1 e2 => ⟨_, u, v, T, N, P, S, e1, e2, h⟩
  rcases i_cases a (T 0 2) (by omega) with ⟨a, ha, rfl⟩ | hl
  · have hk := hV.kd a ha
    have hh := hV.nh a ha
    have A7 : aI skC u 7 (nI a) = some (nI (T 1 a)) := by rw [aC7 (by omega), k1 a ha]
    have B5 : aI skM v 5 (nI a) = some (nI (T 1 a)) := by rw [aM5 (by omega), k2 a ha]
    have A12 : aI skC u 12 (nI a) = some (nI (T 6 a)) := by rw [aC12 (by omega), n1 a ha]
    have B9 : aI skM v 9 (nI a) = some (nI (T 6 a)) := by rw [aM9 (by omega), n2 a ha]
    rw [bnd (q_isAccount hV h.c.t ha), if_neg n10, bnd A7, bnd (m_isAccount hV h.m.t ha), if_neg n10, bnd B5]
    by_cases hp : T 1 a = 2
    · have hp' : (nI (T 1 a) : Int32) = 2 := by rw [hp]; rfl
      rw [if_pos hp', if_pos hp', bnd A12, bnd B9]
      by_cases h6 : T 6 a = 6
      · rw [if_neg (by rw [h6]; decide), if_pos (by rw [h6]; rfl)]
        exact bad rfl rfl
      · have ha6 : T 6 a < 6 := by omega
        have c6 : (nI (T 6 a) : Int32) < 6 := by rw [nI_lit, nI_ltI (by omega) (by omega)]; exact ha6
        have c6' : ¬ (nI (T 6 a) : Int32) = 6 := by rw [nI_lit, nI_eq (by omega) (by omega)]; exact h6
        rw [if_pos c6, if_neg c6']
        -- the class
        obtain ⟨u1, f1, f2, f3, f4, f5⟩ := q_ins h
        have f6 := q_iall (g := fun a k => insS T N (N.1 0 0) a k) hV f3 (fun a' k' ha' hk' => ⟨f5 a' k' ha' hk', insS_b hV hVN ha' hk'⟩)
        have f7 : sumN (fun a' => sumN (fun k' => insS T N (N.1 0 0) a' k') (T 5 a')) (T 0 2) = iallS T N none := by
          rw [← iall_sum hV hVN rfl]; rfl
        rw [f7] at f6
        have n3 := f3.nh a ha
        simp only [Nat.reduceAdd] at n3
        have g1 : X10_addHeir 3 (nI a) 0 u1 = some (upI (upJ u1 14 (a * 6 + T 6 a) (lN 0)) 12 a (nI (T 6 a + 1))) := by
          unfold X10_addHeir X10_addHeir_b38
          have c : ¬ nI 6 ≤ nI (T 6 a) := by rw [nI_leI (by omega) (by omega)]; omega
          simp (disch := omega) only [isO_C3, rf_C3_6, rf_C3_7, rf_C3_8, rf_C3_9, rf_C3_10, rf_C3_11, rf_C3_12, rf_C3_13, rf_C3_14, rf_C3_15, rf_C3_16, rf_C3_17, rf_C3_18, rf_C3_19, aC12, n3, c, sC14, sC12, upJ_1, nI_lit, lN_lit, nI_add, pk_mul, lN_add, lN_mul, Option.bind_some, nI_leI, nI_ltI, nI_eq, lN_leI, lN_ltI, lN_eqI, nI_m1, m1_nI, i_modN, lN_modN, nI_64, lN_32, if_pos, if_neg, ↓reduceIte, if_true, if_false]
        have o12 : off (fun c => c = 12 ∨ c = 14) u1 (upI (upJ u1 14 (a * 6 + T 6 a) (lN 0)) 12 a (nI (T 6 a + 1))) := by
          intro c hc
          have z1 : c ≠ 12 := fun z => hc (Or.inl z)
          have z2 : c ≠ 14 := fun z => hc (Or.inr z)
          exact ⟨by rw [upI_k z1, upJ_1], by rw [upI_2, upJ_k z2]⟩
        have hN2 : RN 18 T N (upI (upJ u1 14 (a * 6 + T 6 a) (lN 0)) 12 a (nI (T 6 a + 1))) := f4.mv (fun c h1 _ => o12 c (by rintro (z | z) <;> omega))
        have hT2 : RT 3 (TH T a) (upI (upJ u1 14 (a * 6 + T 6 a) (lN 0)) 12 a (nI (T 6 a + 1))) := by
          refine TH_RT hV f3 ha ha6 (fun c _ => ⟨fun z => by rw [upI_k z, upJ_1], fun z => by rw [upI_2, upJ_k z]⟩) (fun i => ?_) (fun i => ?_)
          · by_cases z : i = a
            · subst z; rw [upI_at, if_pos rfl]
            · rw [upI_j z, upJ_1, if_neg z]
          · rw [upI_2]
            by_cases z : i = a * 6 + T 6 a
            · subst z; rw [upJ_at, if_pos rfl]
            · rw [upJ_j z, if_neg z]
        obtain ⟨u3, g2, g3, g4, _⟩ := q_insure (m := N.1 0 0) (TH_V hV ha6) (TH_N hVN) (by omega) hT2 (TH_RN hN2)
        have g3' := sJX g3
        have e3 : ∀ c, c ≤ 115 → u3.1 c = (upI (upJ u1 14 (a * 6 + T 6 a) (lN 0)) 12 a (nI (T 6 a + 1))).1 c ∧ u3.2 c = (upI (upJ u1 14 (a * 6 + T 6 a) (lN 0)) 12 a (nI (T 6 a + 1))).2 c := fun c hc => g3' c (by intro z; have z1 : 137 ≤ c := z; omega)
        have e1 : ∀ c, c ≤ 115 → u1.1 c = u.1 c ∧ u1.2 c = u.2 c := fun c hc => f2 c (by intro z; have z1 : 137 ≤ c := z; omega)
        have q12 : u3.1 12 a = nI (T 6 a + 1) := by rw [(e3 12 (by omega)).1, upI_at]
        have q1 : ∀ c, c ≤ 115 → (upI u3 12 a (nI (T 6 a))).1 c = u.1 c := by
          intro c hc
          by_cases z : c = 12
          · subst z
            funext i
            by_cases z : i = a
            · subst z; rw [upI_at, n1 i ha]
            · rw [upI_j z, (e3 12 hc).1, upI_j z, upJ_1, (e1 12 hc).1]
          · rw [upI_k z, (e3 c hc).1, upI_k z, upJ_1, (e1 c hc).1]
        have q2 : ∀ c, c ≤ 115 → c ≠ 14 → (upI u3 12 a (nI (T 6 a))).2 c = u.2 c := by
          intro c hc z
          rw [upI_2, (e3 c hc).2, upI_2, upJ_k z, (e1 c hc).2]
        have hT4 : RT 3 T (upI u3 12 a (nI (T 6 a))) := RT_14 hV h.c.t ha6 (fun c hc => q1 c (by omega)) (fun c hc => q2 c (by omega)) (fun i hi => by
          rw [upI_2, (e3 14 (by omega)).2, upI_2, upJ_j hi, (e1 14 (by omega)).2])
        have hC4 : RC T N P S (upI u3 12 a (nI (T 6 a))) := h.c.mvt hT4 (fun c hc hd => ⟨q1 c hc, q2 c hc (by omega)⟩)
        have f8 := q_iall (g := fun a' k' => insS (TH T a) N (N.1 0 0) a' k') hV hT4 (fun a' k' ha' hk' => by
          have ha2 : a' < TH T a 0 2 := by rw [TH_f (by omega) (by omega)]; exact ha'
          have hk2 : k' < TH T a 5 a' := by rw [TH_f (by omega) (by omega)]; exact hk'
          refine ⟨?_, insS_b (TH_V hV ha6) (TH_N hVN) ha2 hk2⟩
          rw [upI_k (by omega)]
          exact g4 a' k' ha2 hk2)
        have f9 : sumN (fun a' => sumN (fun k' => insS (TH T a) N (N.1 0 0) a' k') (T 5 a')) (T 0 2) = iallS T N (some a) := by
          rw [← TH_iall hV h.d.hz h.d.pz ha6, ← iall_sum (TH_V hV ha6) (TH_N hVN) rfl]
          unfold iacS
          rw [TH_f (r := 0) (by omega) (by omega), TH_f (r := 5) (by omega) (by omega)]
        rw [f9] at f8
        -- the model
        have hM : MV T N (some a) (upI v 0 34 (nI a)) := by
          have ec : ∀ c, 1 ≤ c → (upI v 0 34 (nI a)).1 c = v.1 c := fun c hc => upI_k (by omega)
          refine ⟨h.m.t.mv (fun c h1 _ => ⟨ec c h1, by rw [upI_2]⟩), ?_, ?_, ?_⟩
          · rw [ec 16 (by omega)]; exact h.m.n
          · have := (h.m.mvw hV).k
            rw [upI_j (show 32 ≠ 34 by omega), upI_j (show 33 ≠ 34 by omega), ec 5 (by omega)]; exact this
          · rw [upI_at]; rfl
        obtain ⟨v1, d1, d2⟩ := m_insuredAll hV hVN hM (fun x hx => by cases hx; omega)
        have d3 : ∀ c, c ≤ 19 → v1.1 c = (upI v 0 34 (nI a)).1 c ∧ v1.2 c = (upI v 0 34 (nI a)).2 c := fun c hc => d2 c (by intro z; have z1 : c = 20 := z; omega)
        have hM2 : RM T N P S (upI v1 0 34 (-nI 1)) := by
          refine h.m.mv2 (fun c h1 h2 _ => ⟨by rw [upI_k (by omega), (d3 c h2).1, upI_k (by omega)], by rw [upI_2, (d3 c h2).2, upI_2]⟩) (fun i hi => ?_)
          by_cases z : i = 34
          · subst z; rw [upI_at]; exact h.m.mh.symm
          · rw [upI_j z, (d3 0 (by omega)).1, upI_j z]
        obtain ⟨v2, d4, d5⟩ := m_insuredAll hV hVN (hM2.mvw hV) (fun _ => hn0)
        refine ⟨lN (iallS T N (some a)) - lN (iallS T N none), upI u3 12 a (nI (T 6 a)), v2, T, N, P, S, ?_, ?_, h.d, hC4, r2' hM2 d5⟩
        · have m2 : (upI (upJ u1 14 (a * 6 + T 6 a) (lN 0)) 12 a (nI (T 6 a + 1))).1 18 0 = nI (N.1 0 0) := hN2.mo
          have s1 : nI (T 6 a + 1) - 1 = nI (T 6 a) := by rw [nI_lit]; exact nI_s1 _
          rw [bnd f1, bnd f6, bnd g1, m2, bnd g2, bnd (show aI skC u3 12 (nI a) = some (nI (T 6 a + 1)) by rw [aC12 (by omega), q12]), s1, bnd (sC12 (u := u3) (show a < 24 by omega)), bnd f8]
        · rw [bnd d1]
          exact bnd d4 _
    · have hp' : ¬ (nI (T 1 a) : Int32) = 2 := by rw [nI_lit, nI_eq (by omega) (by omega)]; exact hp
      rw [if_neg hp', if_neg hp']
      exact bad rfl rfl
  · rw [q_isAccountF h.c.t hl, m_isAccountF hV h.m.t hl]
    exact bad rfl rfl
end HF
