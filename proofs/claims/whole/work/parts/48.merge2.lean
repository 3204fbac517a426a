/-! merge -/
section MG2
variable {T : gT} {N : gN} {P : List gN} {S : gS} {u v : gM}
theorem RN_mg {b c m : Nat} (h : RN 18 T N u) : RN 18 T (mN N b c m) (upI (upI u 21 b (nI c)) 22 b (nI m)) := by
  have e : ∀ k, k ≠ 21 → k ≠ 22 → (upI (upI u 21 b (nI c)) 22 b (nI m)).1 k = u.1 k := fun k h1 h2 => by rw [upI_k h2, upI_k h1]
  refine ⟨by rw [e _ (by omega) (by omega)]; exact h.mo, by rw [e _ (by omega) (by omega)]; exact h.co, by rw [e _ (by omega) (by omega)]; exact h.od, fun x hx => ?_, fun x hx => ?_, by rw [e _ (by omega) (by omega)]; exact h.fa, ?_, by rw [upI_2, upI_2]; exact h.fl, ?_, ?_, ?_, ?_⟩
  · rw [upI_k (show 18 + 3 ≠ 22 by omega), mN_0]
    by_cases z : x = b
    · subst z; rw [upI_at, if_pos rfl]; rfl
    · rw [upI_j z, if_neg z]; exact h.it x hx
  · rw [mN_1]
    by_cases z : x = b
    · subst z; rw [upI_at, if_pos rfl]; rfl
    · rw [upI_j z, if_neg z, upI_k (show 18 + 4 ≠ 21 by omega)]; exact h.si x hx
  · rw [e _ (by omega) (by omega), mN_r (by omega) (by omega)]; exact h.fb
  · rw [e _ (by omega) (by omega), mN_r (by omega) (by omega)]; exact h.fo
  · rw [e _ (by omega) (by omega), mN_r (by omega) (by omega)]; exact h.fp
  · rw [e _ (by omega) (by omega), mN_r (by omega) (by omega)]; exact h.fd
  · rw [e _ (by omega) (by omega), mN_r (by omega) (by omega)]; exact h.fs
theorem RNm_mg {b c m : Nat} (hV : VT T) (hb : b < 6) (h : RNm (v.1 16) T N) : RNm ((upI (upI v 16 (35 + b) (nI c)) 16 (41 + b) (nI m)).1 16) T (mN N b c m) := by
  have hna := hV.na
  have hnl := hV.nl
  have e : ∀ i, i ≠ 35 + b → i ≠ 41 + b → (upI (upI v 16 (35 + b) (nI c)) 16 (41 + b) (nI m)).1 16 i = v.1 16 i := fun i h1 h2 => by rw [upI_j h2, upI_j h1]
  refine ⟨by rw [e _ (by omega) (by omega)]; exact h.mo, fun a ha => by rw [e _ (by omega) (by omega)]; exact h.co a ha, fun l hl => by rw [e _ (by omega) (by omega)]; exact h.od l hl, fun x hx => ?_, fun x hx => ?_, fun x hx => by rw [e _ (by omega) (by omega)]; exact h.fa x hx, ?_, ?_, ?_, ?_, ?_, ?_⟩
  · rw [mN_0]
    by_cases z : x = b
    · subst z; rw [upI_j (by omega), upI_at, if_pos rfl]; rfl
    · rw [e _ (by omega) (by omega), if_neg z]; exact h.it x hx
  · rw [mN_1]
    by_cases z : x = b
    · subst z; rw [upI_at, if_pos rfl]; rfl
    · rw [e _ (by omega) (by omega), if_neg z]; exact h.si x hx
  · rw [e _ (by omega) (by omega), mN_r (by omega) (by omega)]; exact h.fb
  · rw [mN_r (r := 2) (by omega) (by omega), mN_r (r := 3) (by omega) (by omega)]
    exact fun hb i hi => by rw [e _ (by omega) (by omega)]; exact h.fo hb i hi
  · rw [mN_r (r := 2) (by omega) (by omega), mN_r (r := 4) (by omega) (by omega)]
    exact fun hb i hi => by rw [e _ (by omega) (by omega)]; exact h.fp hb i hi
  · rw [mN_r (r := 2) (by omega) (by omega), mN_r (r := 5) (by omega) (by omega)]
    exact fun hb i hi => by rw [e _ (by omega) (by omega)]; exact h.fd hb i hi
  · rw [mN_r (r := 2) (by omega) (by omega), mN_r (r := 6) (by omega) (by omega)]
    exact fun hb i hi => by rw [e _ (by omega) (by omega)]; exact h.fs hb i hi
  · rw [mN_r (r := 2) (by omega) (by omega)]
    exact fun hb => by rw [e _ (by omega) (by omega)]; exact h.fl hb
theorem d_merge (x y : Int32) (h : RR T N P S u v) : DS T (X3_act 16 x y u) (X12_merges x y v) u v := by
  have hV := h.d.t; have hVN := h.d.n; have hnb := hV.nb
  have e1 : X3_act 16 x y u = ((X3_mergeBanks x y u).bind fun w => ((bI w.1).bind fun v' => some (v', w.2))) := rfl
  have no : X3_mergeBanks x y u = some (nI 0, u) → X12_merges x y v = some (nI 0, v) → DS T (X3_act 16 x y u) (X12_merges x y v) u v := by
    intro z1 z2
    refine Or.inl ⟨u, v, ?_, z2, off_rf, off_rf⟩
    rw [e1, bnd z1]
    rfl
  unfold X3_mergeBanks X3_mergeBanks_b49 at no
  unfold X12_merges X12_merges_b37 at no ⊢
  rcases i_cases x (T 0 1) (by omega) with ⟨b, hb, rfl⟩ | hl
  · rw [bnd (q_isBank hV h.c.t hb), if_neg n10, bnd (m_isBank hV h.m.t hb), if_neg n10] at no
    rw [bnd (m_isBank hV h.m.t hb), if_neg n10]
    rcases i_cases y (T 0 1) (by omega) with ⟨c, hc, rfl⟩ | hl2
    · rw [bnd (q_isBank hV h.c.t hc), if_neg n10, bnd (m_isBank hV h.m.t hc), if_neg n10] at no
      rw [bnd (m_isBank hV h.m.t hc), if_neg n10]
      by_cases hbc : b = c
      · rw [if_pos (by rw [hbc]), if_pos (by rw [hbc])] at no
        rw [if_pos (by rw [hbc])]
        exact no rfl rfl
      · have ne : ¬ (nI b : Int32) = nI c := by rw [nI_eq (by omega) (by omega)]; exact hbc
        rw [if_neg ne, if_neg ne] at no
        rw [if_neg ne]
        have o1 := q_isOpen hV h.c.n hVN (show b < 6 by omega)
        have o2 := q_isOpen hV h.c.n hVN (show c < 6 by omega)
        have p1 := m_isOpen hV h.m.n hVN (show b < 6 by omega)
        have p2 := m_isOpen hV h.m.n hVN (show c < 6 by omega)
        rw [bnd o1, bnd p1] at no
        rw [bnd p1]
        by_cases g1 : N.2 0 b = none ∧ N.1 3 b = 0
        · rw [b2_t g1] at no o1 ⊢
          rw [if_neg n10, if_neg n10, bnd o2, bnd p2] at no
          rw [if_neg n10, bnd p2]
          by_cases g2 : N.2 0 c = none ∧ N.1 3 c = 0
          · rw [b2_t g2] at o2 ⊢
            rw [if_neg n10]
            refine Or.inr ⟨upI (upI u 21 b (nI c)) 22 b (nI (N.1 0 0)), upI (upI v 16 (35 + b) (nI c)) 16 (41 + b) (nI (N.1 0 0)), mN N b c (N.1 0 0), ?_, ?_, ?_, ?_, RN_mg h.c.n, RNm_mg hV (by omega) h.m.n, VN_merge hV hVN hb hc hbc g1.1 g2.1⟩
            · have e4 : X3_mergeBanks (nI b) (nI c) u = some (nI 1, upI (upI u 21 b (nI c)) 22 b (nI (N.1 0 0))) := by
                unfold X3_mergeBanks
                rw [bnd (q_isBank hV h.c.t hb), if_neg n10, bnd (q_isBank hV h.c.t hc), if_neg n10, if_neg ne, bnd o1, if_neg n10, bnd o2, if_neg n10, bnd (sC21 (show b < 6 by omega)), upI_k (show 18 ≠ 21 by omega), h.c.n.mo, bnd (sC22 (show b < 6 by omega))]
                rfl
              rw [e1, bnd e4]
              rfl
            · rw [show (35 + nI b : Int32) = nI (35 + b) by rw [nI_lit, nI_add], show (41 + nI b : Int32) = nI (41 + b) by rw [nI_lit, nI_add], bnd (sM16 (show 35 + b < 439 by omega)), bnd (show aI skM (upI v 16 (35 + b) (nI c)) 16 0 = some (nI (N.1 0 0)) by rw [nI_lit, aM16 (by omega), upI_j (by omega), h.m.n.mo]), bnd (sM16 (show 41 + b < 439 by omega))]
              rfl
            · intro k hk
              have z1 : k ≠ 21 := fun z => hk (Or.inl (by omega))
              have z2 : k ≠ 22 := fun z => hk (Or.inl (by omega))
              exact ⟨by rw [upI_k z2, upI_k z1], by rw [upI_2, upI_2]⟩
            · intro k hk
              have z : k ≠ 16 := fun z => hk (Or.inl z)
              exact ⟨by rw [upI_k z, upI_k z], by rw [upI_2, upI_2]⟩
          · rw [b2_f g2] at no ⊢
            exact no rfl rfl
        · rw [b2_f g1] at no ⊢
          exact no rfl rfl
    · rw [bnd (q_isBankF h.c.t hl2), bnd (m_isBankF hV h.m.t hl2)] at no
      rw [bnd (m_isBankF hV h.m.t hl2)]
      exact no rfl rfl
  · rw [bnd (q_isBankF h.c.t hl), bnd (m_isBankF hV h.m.t hl)] at no
    rw [bnd (m_isBankF hV h.m.t hl)]
    exact no rfl rfl
theorem o_merge (x y : Int32) (h : RR T N P S u v) : SR (X11_merge x y u) (X12_merge x y v) := by
  unfold X11_merge X12_merge
  exact o_deed h (fun u' v' h' => d_merge x y h')
end MG2
