/-! a DAY, DEED by DEED -/
def dY (v : gM) : Option (Int32 × gM) := ((X12_isRead v).bind fun w50 => (if w50.1 = 0 then some ((-1), w50.2) else ((X12_laysAside (upI w50.2 0 44 (w50.2.1 0 43))).bind fun w67 => (X12_day_l72 fz 0 w67))))
def isDc (j : Nat) : Prop := j = 14 ∨ j = 15 ∨ j = 16 ∨ j = 18 ∨ j = 19 ∨ j = 20
def DL (L : List (Nat × Nat × Nat)) (u v : gM) : Prop := (u.1 132 0 = nI L.length) ∧ (v.1 0 43 = nI L.length) ∧ (∀ (k : Nat) (x : Nat × Nat × Nat), L[k]? = some x → u.1 133 k = nI x.1 ∧ u.1 134 k = nI x.2.1 ∧ u.1 135 k = nI x.2.2) ∧ (∀ (k : Nat) (x : Nat × Nat × Nat), L[k]? = some x → v.1 27 (3 * k) = nI (mcd x.1) ∧ v.1 27 (3 * k + 1) = nI x.2.1 ∧ v.1 27 (3 * k + 2) = nI x.2.2) ∧ (∀ (k : Nat) (x : Nat × Nat × Nat), L[k]? = some x → isDc x.1)
theorem DL.n {L : List (Nat × Nat × Nat)} {u v : gM} (h : DL L u v) : u.1 132 0 = nI L.length := h.1
theorem DL.m {L : List (Nat × Nat × Nat)} {u v : gM} (h : DL L u v) : v.1 0 43 = nI L.length := h.2.1
theorem DL.c {L : List (Nat × Nat × Nat)} {u v : gM} (h : DL L u v) : ∀ (k : Nat) (x : Nat × Nat × Nat), L[k]? = some x → u.1 133 k = nI x.1 ∧ u.1 134 k = nI x.2.1 ∧ u.1 135 k = nI x.2.2 := h.2.2.1
theorem DL.d {L : List (Nat × Nat × Nat)} {u v : gM} (h : DL L u v) : ∀ (k : Nat) (x : Nat × Nat × Nat), L[k]? = some x → v.1 27 (3 * k) = nI (mcd x.1) ∧ v.1 27 (3 * k + 1) = nI x.2.1 ∧ v.1 27 (3 * k + 2) = nI x.2.2 := h.2.2.2.1
theorem DL.k {L : List (Nat × Nat × Nat)} {u v : gM} (h : DL L u v) : ∀ (k : Nat) (x : Nat × Nat × Nat), L[k]? = some x → isDc x.1 := h.2.2.2.2
section DR
variable {u0 v0 u v u1 v1 : gM} {s : tpT} {t t1 : tkT} {T : gT} {n : Nat} {L : List (Nat × Nat × Nat)}
theorem d_disp (hS : TS s) (hV : VT T) (hn : n < 119) (h : PB u0 v0 T s t u v) (h43 : v.1 0 43 = nI n) :
    (∃ j, isDc j ∧ tkw s.2 t = some j ∧ DRd u0 v0 T s t.2.1 n j (X2_readDeed (u.1 1 4) u) (X12_readDeed v) u v) ∨
    (∃ u1 v1, X2_readDeed (u.1 1 4) u = some (nI 0, u1) ∧ X12_readDeed v = some (nI 0, v1) ∧ BF u0 v0 u1 v1) := by
  have w : ∀ i, i < 22 → 1 ≤ i → X12_isWord v i = some (b2 (tkw s.2 t = some (jd i))) := fun i a b => m_isWord a b h.V hS.l h.m.tk
  have e0 : ∀ mc : Int32, ∀ j, tkw s.2 t = some j → (∀ i, i < 22 → 1 ≤ i → X12_isWord v i = some (b2 (some j = some (jd i)))) := fun mc j hj i a b => by rw [w i a b, hj]
  by_cases hd : ∃ j, isDc j ∧ tkw s.2 t = some j
  · obtain ⟨j, hj, hk⟩ := hd
    refine Or.inl ⟨j, hj, hk, ?_⟩
    have hjl := tkw_lt hk
    have hlen := ((tkw_iff hjl h.V).mp hk).2.1
    have hll := h.V.l
    have e1 := e0 0 j hk
    rw [h.c.tk.w, hk, show oI (some j) = nI j from rfl]
    rcases hj with rfl | rfl | rfl | rfl | rfl | rfl
    · have em : X12_readDeed v = X12_readDeed_b79 (nI (mcd 14)) v := by
        unfold X12_readDeed
        rw [bnd (e1 15 (by omega) (by omega)), if_neg (by decide)]
        rfl
      rw [em]
      exact R_put (Or.inl rfl) hS hV hn h h43 (by have : kl 14 = 3 := rfl; omega)
    · have em : X12_readDeed v = X12_readDeed_b79 (nI (mcd 15)) v := by
        unfold X12_readDeed
        rw [bnd (e1 15 (by omega) (by omega)), if_pos (by decide), bnd (e1 16 (by omega) (by omega)), if_neg (by decide)]
        rfl
      rw [em]
      exact R_put (Or.inr rfl) hS hV hn h h43 (by have : kl 15 = 4 := rfl; omega)
    · have em : X12_readDeed v = X12_readDeed_b79 (nI 2) v := by
        unfold X12_readDeed
        rw [bnd (e1 15 (by omega) (by omega)), if_pos (by decide), bnd (e1 16 (by omega) (by omega)), if_pos (by decide), bnd (e1 17 (by omega) (by omega)), if_neg (by decide)]
        rfl
      rw [em]
      exact R_merge hS hV hn h h43 (by have : kl 16 = 5 := rfl; omega)
    · have em : X12_readDeed v = X12_readDeed_b79 (nI 3) v := by
        unfold X12_readDeed
        rw [bnd (e1 15 (by omega) (by omega)), if_pos (by decide), bnd (e1 16 (by omega) (by omega)), if_pos (by decide), bnd (e1 17 (by omega) (by omega)), if_pos (by decide), bnd (e1 19 (by omega) (by omega)), if_neg (by decide)]
        rfl
      rw [em]
      exact R_months hS hV hn h h43 (by have : kl 18 = 6 := rfl; omega)
    · have em : X12_readDeed v = X12_readDeed_b79 (nI 4) v := by
        unfold X12_readDeed
        rw [bnd (e1 15 (by omega) (by omega)), if_pos (by decide), bnd (e1 16 (by omega) (by omega)), if_pos (by decide), bnd (e1 17 (by omega) (by omega)), if_pos (by decide), bnd (e1 19 (by omega) (by omega)), if_pos (by decide), bnd (e1 20 (by omega) (by omega)), if_neg (by decide)]
        rfl
      rw [em]
      exact R_pay hS hV hn h h43 (by have : kl 19 = 3 := rfl; omega)
    · have em : X12_readDeed v = X12_readDeed_b79 (nI 5) v := by
        unfold X12_readDeed
        rw [bnd (e1 15 (by omega) (by omega)), if_pos (by decide), bnd (e1 16 (by omega) (by omega)), if_pos (by decide), bnd (e1 17 (by omega) (by omega)), if_pos (by decide), bnd (e1 19 (by omega) (by omega)), if_pos (by decide), bnd (e1 20 (by omega) (by omega)), if_pos (by decide), bnd (e1 21 (by omega) (by omega)), if_neg (by decide)]
        rfl
      rw [em]
      exact R_fail hS hV hn h h43 (by have : kl 20 = 4 := rfl; omega)
  · have hno : ∀ j, isDc j → tkw s.2 t ≠ some j := fun j hj z => hd ⟨j, hj, z⟩
    have hne : ∀ j, j < 21 → isDc j → ¬ oI (tkw s.2 t) = nI j := fun j hj9 hj z => hno j hj ((oI_nI (fun n hn => by have := tkw_lt hn; omega) (show j < 2 ^ 31 by omega)).mp z)
    obtain ⟨u1, c1, f1, oo⟩ := c_ref (k := 1) h.c
    obtain ⟨v1, c2, f2, om⟩ := m_ref (k := 1) h.m
    refine Or.inr ⟨u1, v1, ?_, ?_, h.no hS (by omega) f1 oo f2 om⟩
    · unfold X2_readDeed X2_readDeed_b69
      rw [h.c.tk.w, if_neg (show ¬ oI (tkw s.2 t) = 14 from hne 14 (by omega) (by unfold isDc; omega)), if_neg (show ¬ oI (tkw s.2 t) = 15 from hne 15 (by omega) (by unfold isDc; omega)), if_neg (show ¬ oI (tkw s.2 t) = 16 from hne 16 (by omega) (by unfold isDc; omega))]
      by_cases z : oI (tkw s.2 t) = 17
      · rw [if_pos z]; exact c1
      · rw [if_neg z, if_neg (show ¬ oI (tkw s.2 t) = 18 from hne 18 (by omega) (by unfold isDc; omega)), if_neg (show ¬ oI (tkw s.2 t) = 19 from hne 19 (by omega) (by unfold isDc; omega)), if_neg (show ¬ oI (tkw s.2 t) = 20 from hne 20 (by omega) (by unfold isDc; omega))]
        exact c1
    · have wn : ∀ i, i < 22 → 1 ≤ i → isDc (jd i) → X12_isWord v i = some (nI 0) := fun i a b hi => by
        rw [w i a b, b2_f]
        exact hno _ hi
      unfold X12_readDeed X12_readDeed_b79
      rw [bnd (wn 15 (by omega) (by omega) (by unfold isDc; decide)), if_pos z00, bnd (wn 16 (by omega) (by omega) (by unfold isDc; decide)), if_pos z00, bnd (wn 17 (by omega) (by omega) (by unfold isDc; decide)), if_pos z00, bnd (wn 19 (by omega) (by omega) (by unfold isDc; decide)), if_pos z00, bnd (wn 20 (by omega) (by omega) (by unfold isDc; decide)), if_pos z00, bnd (wn 21 (by omega) (by omega) (by unfold isDc; decide)), if_pos z00, if_pos rfl]
      exact c2
theorem d_read (hS : TS s) (hV : VT T) : ∀ (f : Nat) (t : tkT) (L : List (Nat × Nat × Nat)) (u v : gM), 702 ≤ f + t.2.1 → 6 * L.length ≤ t.2.1 → PB u0 v0 T s t u v → DL L u v →
    (∃ u1 v1, X2_read_l19 f u = some (nI 0, u1) ∧ X12_day_l22 f (bE t) v = dY v1 ∧ BF u0 v0 u1 v1) ∨
    (∃ t' L' u1 v1, X2_read_l19 f u = some (nI 1, u1) ∧ X12_day_l22 f (bE t) v = dY v1 ∧ PB u0 v0 T s t' u1 v1 ∧ DL L' u1 v1 ∧ L'.length ≤ 116) := by
  intro f
  induction f with
  | zero =>
    intro t L u v h1 h2 h
    have := h.V.l; have := h.V.m; have := hS.l
    omega
  | succ f ih =>
    intro t L u v h1 h2 h hL
    have hl := h.V.l; have hm := h.V.m; have hsl := hS.l
    obtain ⟨f', rfl⟩ : ∃ f', f = f' + 1 := ⟨f - 1, by omega⟩
    have hn : L.length ≤ 116 := by omega
    have z1 : ¬ (117 : Int32) ≤ u.1 132 0 := by rw [hL.n, nI_lit, nI_leI (by omega) (by omega)]; omega
    have s0 : u.1 1 3 = 0 ↔ t.1 = 0 := (h.c.tk.s_iff (k := 0) (by omega)).trans srt_0
    by_cases h0 : t.1 = 0
    · refine Or.inr ⟨t, L, u, v, ?_, ?_, h, hL, hn⟩
      · show X2_read_b19 (X2_read_l19 (f' + 1)) u = _
        unfold X2_read_b19 X2_read_b115 X2_read_b136 X2_read_b141
        rw [if_neg z1, if_pos (s0.mpr h0), if_pos (s0.mpr h0)]
        rfl
      · show X12_day_b22 (X12_day_l22 (f' + 1)) (bE t) v = _
        unfold X12_day_b22
        rw [if_pos (show bE t = 0 from if_pos h0)]
        rfl
    · have eM : X12_day_l22 (f' + 1 + 1) (bE t) v = ((X12_readDeed v).bind fun w27 => (if w27.1 = 0 then (X12_day_b44 (X12_day_l22 (f' + 1)) w27.2) else (if (w27.2.1 0 25) = 0 then (X12_day_b44 (X12_day_l22 (f' + 1)) w27.2) else (X12_day_b45 (X12_day_l22 (f' + 1)) 1 w27.2)))) := by
        show X12_day_b22 (X12_day_l22 (f' + 1)) (bE t) v = _
        unfold X12_day_b22
        rw [if_neg (show ¬ bE t = 0 by unfold bE; rw [if_neg h0]; decide)]
      have fl : ∀ v1, X12_day_b44 (X12_day_l22 (f' + 1)) v1 = dY v1 := fun v1 => by
        show X12_day_b22 (X12_day_l22 f') 0 v1 = _
        unfold X12_day_b22
        rw [if_pos rfl]
        rfl
      have eC : X2_read_l19 (f' + 1 + 1) u = ((X2_readDeed (u.1 1 4) u).bind fun w48 => (if w48.1 = 0 then (X2_read_b64 w48.2)
      else ((X9_passSemicolon w48.2).bind fun w58 => (if w58.1 = 0 then (X2_read_b64 w58.2)
        else ((sI skC w58.2 133 (w58.2.1 132 0) (u.1 1 4)).bind fun u75 => ((sI skC u75 134 (u75.1 132 0) (u75.1 132 6)).bind fun u88 => ((sI skC u88 135 (u88.1 132 0) (u88.1 132 7)).bind fun u101 => (X2_read_l19 (f' + 1) (upI u101 132 0 ((u101.1 132 0) + 1)))))))))) := by
        show X2_read_b19 (X2_read_l19 (f' + 1)) u = _
        unfold X2_read_b19
        rw [if_neg z1, if_neg (fun z => h0 (s0.mp z))]
      rw [eC, eM]
      unfold X2_read_b64
      rcases d_disp hS hV (show L.length < 119 by omega) h hL.m with ⟨j, hj, hk, ⟨u1, v1, c1, d1, hF⟩ | ⟨t', a, b, u1, v1, c1, d1, tt, h1', ha, hb, hK⟩⟩ | ⟨u1, v1, c1, d1, hF⟩
      · refine Or.inl ⟨u1, v1, ?_, ?_, hF⟩
        · rw [bnd c1, if_pos z00]; rfl
        · rw [bnd d1, if_pos z00]; exact fl v1
      · rw [bnd c1, if_neg n10, d1]
        dsimp only
        unfold X12_readDeed_b323 X12_readDeed_b334
        rw [if_neg (show ¬ (1 : Int32) = 0 by decide)]
        rcases p_semi hS h1' with ⟨u2, v2, c2, d2, hF⟩ | ⟨g0, u2, v2, c2, d2, h2', oc2, om2⟩
        · refine Or.inl ⟨u2, v2, ?_, ?_, hF⟩
          · rw [bnd c2, if_pos z00]; rfl
          · rw [bnd d2, if_pos z00, Option.bind_some, if_pos rfl]; exact fl v2
        · have k0 : u2.1 132 0 = nI L.length := by rw [(oc2 132 (by omega)).1, hK.c0, hL.n]
          have k6 : u2.1 132 6 = nI a := by rw [(oc2 132 (by omega)).1, hK.c6]
          have k7 : u2.1 132 7 = nI b := by rw [(oc2 132 (by omega)).1, hK.c7]
          have kw : u.1 1 4 = nI j := by rw [h.c.tk.w, hk]; rfl
          have n43 : v2.1 0 43 = nI L.length := by rw [om2.i 43 (by omega), hK.m0, hL.m]
          have hlt : L.length < 117 := by omega
          have hPB := (((h2'.cI (c := 133) (i := L.length) (x := nI j) (by omega)).cI (c := 134) (i := L.length) (x := nI a) (by omega)).cI (c := 135) (i := L.length) (x := nI b) (by omega)).cI (c := 132) (i := 0) (x := nI (L.length + 1)) (by omega)
          have hPB2 := hPB.m43 (x := nI (L.length + 1))
          have hlen : (L ++ [(j, a, b)]).length = L.length + 1 := by rw [List.length_append]; rfl
          have hDL : DL (L ++ [(j, a, b)]) (upI (upI (upI (upI u2 133 L.length (nI j)) 134 L.length (nI a)) 135 L.length (nI b)) 132 0 (nI (L.length + 1))) (upI v2 0 43 (nI (L.length + 1))) := by
            have hg : ∀ k x, (L ++ [(j, a, b)])[k]? = some x → (k < L.length ∧ L[k]? = some x) ∨ (k = L.length ∧ x = (j, a, b)) := by
              intro k x hx
              by_cases z : k < L.length
              · rw [List.getElem?_append_left z] at hx
                exact Or.inl ⟨z, hx⟩
              · have hx2 := (List.getElem?_eq_some_iff.mp hx).1
                rw [hlen] at hx2
                have hk2 : k = L.length := by omega
                subst hk2
                rw [List.getElem?_append_right (Nat.le_refl _), Nat.sub_self] at hx
                exact Or.inr ⟨rfl, (Option.some.inj hx).symm⟩
            refine ⟨by rw [upI_at, hlen], by rw [upI_at, hlen], fun k x hx => ?_, fun k x hx => ?_, fun k x hx => ?_⟩
            · rcases hg k x hx with ⟨y1, y2⟩ | ⟨rfl, rfl⟩
              · obtain ⟨q1, q2, q3⟩ := hL.c k x y2
                refine ⟨?_, ?_, ?_⟩
                · rw [upI_k (by omega), upI_k (by omega), upI_k (by omega), upI_j (by omega), (oc2 133 (by omega)).1, hK.cr 133 (by omega) (by omega)]; exact q1
                · rw [upI_k (by omega), upI_k (by omega), upI_j (by omega), upI_k (by omega), (oc2 134 (by omega)).1, hK.cr 134 (by omega) (by omega)]; exact q2
                · rw [upI_k (by omega), upI_j (by omega), upI_k (by omega), upI_k (by omega), (oc2 135 (by omega)).1, hK.cr 135 (by omega) (by omega)]; exact q3
              · refine ⟨?_, ?_, ?_⟩
                · rw [upI_k (by omega), upI_k (by omega), upI_k (by omega), upI_at]
                · rw [upI_k (by omega), upI_k (by omega), upI_at]
                · rw [upI_k (by omega), upI_at]
            · rcases hg k x hx with ⟨y1, y2⟩ | ⟨rfl, rfl⟩
              · obtain ⟨q1, q2, q3⟩ := hL.d k x y2
                refine ⟨?_, ?_, ?_⟩
                · rw [upI_k (by omega), (om2.o 27 (by omega)).1, hK.ml _ (by omega)]; exact q1
                · rw [upI_k (by omega), (om2.o 27 (by omega)).1, hK.ml _ (by omega)]; exact q2
                · rw [upI_k (by omega), (om2.o 27 (by omega)).1, hK.ml _ (by omega)]; exact q3
              · refine ⟨?_, ?_, ?_⟩
                · rw [upI_k (by omega), (om2.o 27 (by omega)).1]; exact hK.m1
                · rw [upI_k (by omega), (om2.o 27 (by omega)).1]; exact hK.m2
                · rw [upI_k (by omega), (om2.o 27 (by omega)).1]; exact hK.m3
            · rcases hg k x hx with ⟨y1, y2⟩ | ⟨rfl, rfl⟩
              · exact hL.k k x y2
              · exact hj
          have tt2 : t.2.1 + 6 ≤ (nx s t').2.1 := by
            have a1 := (nx_V h1'.V).2
            have a2 := h1'.V.g g0
            omega
          have ee : X12_day_l22 (f' + 1) (bE (nx s t')) (upI v2 0 43 (nI (L.length + 1))) = (if (upI v2 0 43 (nI (L.length + 1))).1 0 25 = 0 then X12_day_b44 (X12_day_l22 (f' + 1)) (upI v2 0 43 (nI (L.length + 1))) else X12_day_b45 (X12_day_l22 (f' + 1)) 1 (upI v2 0 43 (nI (L.length + 1)))) := by
            unfold X12_day_b44 X12_day_b45
            rw [hPB2.m.tk.s]
            unfold bE
            by_cases z : (nx s t').1 = 0
            · rw [if_pos z, if_pos (show nI (nx s t').1 = 0 by rw [z]; rfl)]
            · rw [if_neg z, if_neg (show ¬ nI (nx s t').1 = 0 by have := hPB2.V.s; rw [nI_lit, nI_eq (by omega) (by omega)]; exact z)]
          rw [bnd c2, if_neg n10, k0, kw, bnd (sC133 hlt), upI_k (by omega), k0, k6, bnd (sC134 hlt), upI_k (by omega), upI_k (by omega), k0, k7, bnd (sC135 hlt), upI_k (by omega), upI_k (by omega), upI_k (by omega), k0, nI_s, bnd d2, if_neg n10]
          dsimp only
          rw [n43, nI_s, Option.bind_some, if_neg (show ¬ (1 : Int32) = 0 by decide), ← ee]
          exact ih (nx s t') (L ++ [(j, a, b)]) _ _ (by omega) (by rw [hlen]; omega) hPB2 hDL
      · refine Or.inl ⟨u1, v1, ?_, ?_, hF⟩
        · rw [bnd c1, if_pos z00]; rfl
        · rw [bnd d1, if_pos z00]; exact fl v1
end DR
