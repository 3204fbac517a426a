/-! the model's next -/
def TKm (B : Nat → Nat) (t : tkT) (v : gM) : Prop := (v.1 0 26 = nI t.2.1) ∧ (v.1 0 27 = nI t.2.2) ∧ (v.1 0 25 = nI t.1) ∧ (v.2 0 28 = lN (cv (tnm B t))) ∧ (v.2 0 29 = lN (tnu B t)) ∧ (v.1 0 30 = nI (if t.1 = 3 then B t.2.1 else 0))
theorem TKm.p {B : Nat → Nat} {t : tkT} {v : gM} (h : TKm B t v) : v.1 0 26 = nI t.2.1 := h.1
theorem TKm.q {B : Nat → Nat} {t : tkT} {v : gM} (h : TKm B t v) : v.1 0 27 = nI t.2.2 := h.2.1
theorem TKm.s {B : Nat → Nat} {t : tkT} {v : gM} (h : TKm B t v) : v.1 0 25 = nI t.1 := h.2.2.1
theorem TKm.w {B : Nat → Nat} {t : tkT} {v : gM} (h : TKm B t v) : v.2 0 28 = lN (cv (tnm B t)) := h.2.2.2.1
theorem TKm.m {B : Nat → Nat} {t : tkT} {v : gM} (h : TKm B t v) : v.2 0 29 = lN (tnu B t) := h.2.2.2.2.1
theorem TKm.g {B : Nat → Nat} {t : tkT} {v : gM} (h : TKm B t v) : v.1 0 30 = nI (if t.1 = 3 then B t.2.1 else 0) := h.2.2.2.2.2
def FTm (v v' : gM) : Prop := (∀ c, c ≠ 0 → v'.1 c = v.1 c ∧ v'.2 c = v.2 c) ∧ (∀ j, j ≠ 25 → j ≠ 26 → j ≠ 27 → j ≠ 30 → v'.1 0 j = v.1 0 j) ∧ (∀ j, j ≠ 28 → j ≠ 29 → v'.2 0 j = v.2 0 j)
theorem FTm.c {v v' : gM} (h : FTm v v') : ∀ c, c ≠ 0 → v'.1 c = v.1 c ∧ v'.2 c = v.2 c := h.1
theorem FTm.i {v v' : gM} (h : FTm v v') : ∀ j, j ≠ 25 → j ≠ 26 → j ≠ 27 → j ≠ 30 → v'.1 0 j = v.1 0 j := h.2.1
theorem FTm.l {v v' : gM} (h : FTm v v') : ∀ j, j ≠ 28 → j ≠ 29 → v'.2 0 j = v.2 0 j := h.2.2
section NX
variable {u v u' v' : gM} {s : tpT} {p : Nat}
theorem FTm.rf : FTm v v := ⟨fun _ _ => ⟨rfl, rfl⟩, fun _ _ _ _ _ => rfl, fun _ _ _ => rfl⟩
theorem FTm.tr {w : gM} (h : FTm v v') (h2 : FTm v' w) : FTm v w := ⟨fun c hc => ⟨(h2.c c hc).1.trans (h.c c hc).1, (h2.c c hc).2.trans (h.c c hc).2⟩, fun j a b c d => (h2.i j a b c d).trans (h.i j a b c d), fun j a b => (h2.l j a b).trans (h.l j a b)⟩
theorem FTm.I {j : Nat} {x : Int32} (h : FTm v v') (hj : j = 25 ∨ j = 26 ∨ j = 27 ∨ j = 30) : FTm v (upI v' 0 j x) :=
  ⟨fun c hc => ⟨by rw [upI_k hc]; exact (h.c c hc).1, by rw [upI_2]; exact (h.c c hc).2⟩, fun i a b c d => by rw [upI_j (by omega)]; exact h.i i a b c d, fun i a b => by rw [upI_2]; exact h.l i a b⟩
theorem FTm.J {j : Nat} {x : Int64} (h : FTm v v') (hj : j = 28 ∨ j = 29) : FTm v (upJ v' 0 j x) :=
  ⟨fun c hc => ⟨by rw [upJ_1]; exact (h.c c hc).1, by rw [upJ_k hc]; exact (h.c c hc).2⟩, fun i a b c d => by rw [upJ_1]; exact h.i i a b c d, fun i a b => by rw [upJ_j (by omega)]; exact h.l i a b⟩
theorem TPm.mv (h : TPm s v) (f : FTm v v') : TPm s v' := ⟨by rw [f.i 20 (by omega) (by omega) (by omega) (by omega)]; exact h.l, fun i hi => by rw [(f.c 19 (by omega)).1]; exact h.b i hi⟩
theorem m_see1 {k : Nat} (h : TPm s v) (hs : s.1 ≤ 700) (hk : k < s.1) : X12_see v (nI k) = some (nI (s.2 k)) := by
  unfold X12_see X12_see_b18
  rw [h.l, if_neg (by rw [nI_leI (by omega) (by omega)]; omega), bnd (aM19 (by omega)), h.b k hk]
theorem m_see0 {k : Nat} (h : TPm s v) (hs : s.1 ≤ 700) (hk : s.1 ≤ k) (hk2 : k ≤ 800) : X12_see v (nI k) = some (-nI 1) := by
  unfold X12_see X12_see_b18
  rw [h.l, if_pos (by rw [nI_leI (by omega) (by omega)]; exact hk)]
  rfl
theorem isIn_ab {c a b : Nat} (hc : c < 2 ^ 31) (ha : a < 2 ^ 31) (hb : b < 2 ^ 31) : X12_isIn v (nI c).toInt64 (lN a) (lN b) = some (b2 (a ≤ c ∧ c ≤ b)) := by
  rw [m_isIn, nI_64 hc]
  congr 2
  rw [lN_leI (by omega) (by omega), lN_leI (by omega) (by omega)]
theorem isIn_m1 {a b : Nat} (ha : a < 2 ^ 31) : X12_isIn v (-nI 1).toInt64 (lN a) (lN b) = some (nI 0) := by
  rw [m_isIn, b2_f]
  rintro ⟨z, _⟩
  rw [m1_64, Int64.le_iff_toInt_le, pk_lT (by omega), show (-lN 1).toInt = -1 by decide] at z
  omega
theorem in_az {c : Nat} (hc : c < 2 ^ 31) : X12_isIn v (nI c).toInt64 97 122 = some (b2 (97 ≤ c ∧ c ≤ 122)) := isIn_ab (a := 97) (b := 122) hc (by omega) (by omega)
theorem in_09 {c : Nat} (hc : c < 2 ^ 31) : X12_isIn v (nI c).toInt64 48 57 = some (b2 (48 ≤ c ∧ c ≤ 57)) := isIn_ab (a := 48) (b := 57) hc (by omega) (by omega)
theorem in_azm : X12_isIn v (-nI 1).toInt64 97 122 = some (nI 0) := isIn_m1 (a := 97) (b := 122) (by omega)
theorem in_09m : X12_isIn v (-nI 1).toInt64 48 57 = some (nI 0) := isIn_m1 (a := 48) (b := 57) (by omega)
theorem b2_cg {P Q : Prop} [Decidable P] [Decidable Q] (h : P ↔ Q) : b2 P = b2 Q := by
  by_cases z : P
  · rw [b2_t z, b2_t (h.mp z)]
  · rw [b2_f z, b2_f (fun w => z (h.mpr w))]
theorem m_nw (hs : s.1 ≤ 700) (hb : ∀ i, i < s.1 → s.2 i < 256) : ∀ (f k : Nat) (u : gM), p + k ≤ s.1 → s.1 - (p + k) < f → TPm s u → u.1 0 26 = nI p → u.1 0 27 = nI (p + k) → (∀ i, i < k → isL (s.2 (p + i)) = true) → u.2 0 28 = lN (cv (nmF (fun i => s.2 (p + i) - 96) (min k 8))) →
    ∃ u', X12_next_l103 f u = some u' ∧ FTm u u' ∧ u'.1 0 26 = nI p ∧ u'.1 0 27 = nI (spE (fun i => isL (s.2 i)) s.1 (p + k)) ∧ u'.2 0 28 = lN (cv (nmF (fun i => s.2 (p + i) - 96) (min (spE (fun i => isL (s.2 i)) s.1 (p + k) - p) 8))) ∧ u'.1 0 25 = u.1 0 25 ∧ u'.1 0 30 = u.1 0 30 ∧ u'.2 0 29 = u.2 0 29 := by
  intro f
  induction f with
  | zero => intro n u h1 h2; omega
  | succ f ih =>
    intro k u h1 h2 ht h9 h10 hl h7
    have fin : spE (fun i => isL (s.2 i)) s.1 (p + k) = p + k → ∃ u', X12_next_b287 u = some u' ∧ FTm u u' ∧ u'.1 0 26 = nI p ∧ u'.1 0 27 = nI (spE (fun i => isL (s.2 i)) s.1 (p + k)) ∧ u'.2 0 28 = lN (cv (nmF (fun i => s.2 (p + i) - 96) (min (spE (fun i => isL (s.2 i)) s.1 (p + k) - p) 8))) ∧ u'.1 0 25 = u.1 0 25 ∧ u'.1 0 30 = u.1 0 30 ∧ u'.2 0 29 = u.2 0 29 := by
      intro he
      rw [he, Nat.add_sub_cancel_left]
      exact ⟨u, rfl, FTm.rf, h9, h10, h7, rfl, rfl, rfl⟩
    unfold X12_next_l103 X12_next_b103 X12_next_b161
    by_cases h4 : p + k = s.1
    · rw [h10, bnd (m_see0 ht hs (by omega) (by omega)), bnd in_azm, if_pos z00]
      exact fin (spE_0 (by omega))
    · have hn : p + k < s.1 := by omega
      have hbn := hb _ hn
      rw [h10, bnd (m_see1 ht hs hn), bnd (in_az (show s.2 (p + k) < 2 ^ 31 by omega))]
      by_cases hB : isL (s.2 (p + k)) = true
      · have hc := isL_i.mp hB
        have hsp : spE (fun i => isL (s.2 i)) s.1 (p + k) = spE (fun i => isL (s.2 i)) s.1 (p + (k + 1)) := spE_s hn hB
        have hl2 : ∀ i, i < k + 1 → isL (s.2 (p + i)) = true := fun i hi => by
          by_cases z : i = k
          · rw [z]; exact hB
          · exact hl i (by omega)
        rw [b2_t hc, if_neg n10, h9, pk_sub (Nat.le_add_right p k), Nat.add_sub_cancel_left]
        by_cases w : 8 ≤ k
        · obtain ⟨u', e, g1, g2, g3, g4, g5, g6, g7⟩ := ih (k + 1) (upI u 0 27 (nI (p + (k + 1)))) (by omega) (by omega) (ht.mv (FTm.rf.I (by omega))) (by rw [upI_j (by omega), h9]) upI_at hl2 (by rw [upI_2, h7, show min k 8 = 8 by omega, show min (k + 1) 8 = 8 by omega])
          rw [hsp]
          refine ⟨u', ?_, (FTm.rf.I (by omega)).tr g1, g2, g3, g4, by rw [g5, upI_j (by omega)], by rw [g6, upI_j (by omega)], by rw [g7, upI_2]⟩
          rw [if_pos (show (8 : Int32) ≤ nI k by rw [nI_lit, nI_leI (by omega) (by omega)]; exact w), nI_s]
          exact e
        · have hx : nmF (fun i => s.2 (p + i) - 96) k < 27 ^ k := nmF_lt (fun i hi => by have := isL_i.mp (hl i hi); omega)
          have hx2 : cv (nmF (fun i => s.2 (p + i) - 96) k) < 2 ^ 50 := by
            have a1 := cv_lt k _ hx
            have a2 : 32 ^ k ≤ 32 ^ 8 := Nat.pow_le_pow_right (by omega) (by omega)
            omega
          have e7 : ((lN (cv (nmF (fun i => s.2 (p + i) - 96) (min k 8))) <<< ((5 : Int32).toInt64 &&& 63)) ||| (nI (s.2 (p + k)) - 96).toInt64 : Int64) = lN (cv (nmF (fun i => s.2 (p + i) - 96) (min (k + 1) 8))) := by
            rw [show min k 8 = k by omega, show min (k + 1) 8 = k + 1 by omega, nmF_s, show (96 : Int32) = nI 96 from rfl, pk_sub (show 96 ≤ s.2 (p + k) by omega), nI_64 (by omega), sh5 hx2 (by omega), Nat.mul_comm _ 27, cv_s _ _ (by omega) (by omega)]
          obtain ⟨u', e, g1, g2, g3, g4, g5, g6, g7⟩ := ih (k + 1) (upI (upJ u 0 28 (lN (cv (nmF (fun i => s.2 (p + i) - 96) (min (k + 1) 8))))) 0 27 (nI (p + (k + 1)))) (by omega) (by omega) (ht.mv ((FTm.rf.J (by omega)).I (by omega))) (by rw [upI_j (by omega), upJ_1, h9]) upI_at hl2 (by rw [upI_2, upJ_at])
          rw [hsp]
          refine ⟨u', ?_, ((FTm.rf.J (by omega)).I (by omega)).tr g1, g2, g3, g4, by rw [g5, upI_j (by omega), upJ_1], by rw [g6, upI_j (by omega), upJ_1], by rw [g7, upI_2, upJ_j (by omega)]⟩
          rw [if_neg (show ¬ (8 : Int32) ≤ nI k by rw [nI_lit, nI_leI (by omega) (by omega)]; exact w), bnd (m_see1 ht hs hn), h7, e7, upJ_1, h10, nI_s]
          exact e
      · rw [b2_f (fun z => hB (isL_i.mpr z)), if_pos z00]
        exact fin (spE_0 (fun z => hB z.2))
theorem m_nn (hs : s.1 ≤ 700) (hb : ∀ i, i < s.1 → s.2 i < 256) : ∀ (f k : Nat) (u : gM), p + k ≤ s.1 → s.1 - (p + k) < f → TPm s u → u.1 0 26 = nI p → u.1 0 27 = nI (p + k) → (∀ i, i < k → isD (s.2 (p + i)) = true) → u.2 0 29 = lN (nuF (fun i => s.2 (p + i) - 48) (min k 9)) →
    ∃ u', X12_next_l193 f u = some u' ∧ FTm u u' ∧ u'.1 0 26 = nI p ∧ u'.1 0 27 = nI (spE (fun i => isD (s.2 i)) s.1 (p + k)) ∧ u'.2 0 29 = lN (nuF (fun i => s.2 (p + i) - 48) (min (spE (fun i => isD (s.2 i)) s.1 (p + k) - p) 9)) ∧ u'.1 0 25 = u.1 0 25 ∧ u'.1 0 30 = u.1 0 30 ∧ u'.2 0 28 = u.2 0 28 := by
  intro f
  induction f with
  | zero => intro n u h1 h2; omega
  | succ f ih =>
    intro k u h1 h2 ht h9 h10 hl h7
    have fin : spE (fun i => isD (s.2 i)) s.1 (p + k) = p + k → ∃ u', X12_next_b287 u = some u' ∧ FTm u u' ∧ u'.1 0 26 = nI p ∧ u'.1 0 27 = nI (spE (fun i => isD (s.2 i)) s.1 (p + k)) ∧ u'.2 0 29 = lN (nuF (fun i => s.2 (p + i) - 48) (min (spE (fun i => isD (s.2 i)) s.1 (p + k) - p) 9)) ∧ u'.1 0 25 = u.1 0 25 ∧ u'.1 0 30 = u.1 0 30 ∧ u'.2 0 28 = u.2 0 28 := by
      intro he
      rw [he, Nat.add_sub_cancel_left]
      exact ⟨u, rfl, FTm.rf, h9, h10, h7, rfl, rfl, rfl⟩
    unfold X12_next_l193 X12_next_b193 X12_next_b254
    by_cases h4 : p + k = s.1
    · rw [h10, bnd (m_see0 ht hs (by omega) (by omega)), bnd in_09m, if_pos z00]
      exact fin (spE_0 (by omega))
    · have hn : p + k < s.1 := by omega
      have hbn := hb _ hn
      rw [h10, bnd (m_see1 ht hs hn), bnd (in_09 (show s.2 (p + k) < 2 ^ 31 by omega))]
      by_cases hB : isD (s.2 (p + k)) = true
      · have hc := isD_i.mp hB
        have hsp : spE (fun i => isD (s.2 i)) s.1 (p + k) = spE (fun i => isD (s.2 i)) s.1 (p + (k + 1)) := spE_s hn hB
        have hl2 : ∀ i, i < k + 1 → isD (s.2 (p + i)) = true := fun i hi => by
          by_cases z : i = k
          · rw [z]; exact hB
          · exact hl i (by omega)
        rw [b2_t hc, if_neg n10, h9, pk_sub (Nat.le_add_right p k), Nat.add_sub_cancel_left]
        by_cases w : 9 ≤ k
        · obtain ⟨u', e, g1, g2, g3, g4, g5, g6, g7⟩ := ih (k + 1) (upI u 0 27 (nI (p + (k + 1)))) (by omega) (by omega) (ht.mv (FTm.rf.I (by omega))) (by rw [upI_j (by omega), h9]) upI_at hl2 (by rw [upI_2, h7, show min k 9 = 9 by omega, show min (k + 1) 9 = 9 by omega])
          rw [hsp]
          refine ⟨u', ?_, (FTm.rf.I (by omega)).tr g1, g2, g3, g4, by rw [g5, upI_j (by omega)], by rw [g6, upI_j (by omega)], by rw [g7, upI_2]⟩
          rw [if_pos (show (9 : Int32) ≤ nI k by rw [nI_lit, nI_leI (by omega) (by omega)]; exact w), nI_s]
          exact e
        · have e7 : ((10 * lN (nuF (fun i => s.2 (p + i) - 48) (min k 9))) + (nI (s.2 (p + k))).toInt64 - 48 : Int64) = lN (nuF (fun i => s.2 (p + i) - 48) (min (k + 1) 9)) := by
            rw [show min k 9 = k by omega, show min (k + 1) 9 = k + 1 by omega, nuF_s, nI_64 (by omega), show (10 : Int64) = lN 10 from rfl, show (48 : Int64) = lN 48 from rfl, lN_mul, lN_add, lN_sub (by omega)]
            congr 1
            omega
          obtain ⟨u', e, g1, g2, g3, g4, g5, g6, g7⟩ := ih (k + 1) (upI (upJ u 0 29 (lN (nuF (fun i => s.2 (p + i) - 48) (min (k + 1) 9)))) 0 27 (nI (p + (k + 1)))) (by omega) (by omega) (ht.mv ((FTm.rf.J (by omega)).I (by omega))) (by rw [upI_j (by omega), upJ_1, h9]) upI_at hl2 (by rw [upI_2, upJ_at])
          rw [hsp]
          refine ⟨u', ?_, ((FTm.rf.J (by omega)).I (by omega)).tr g1, g2, g3, g4, by rw [g5, upI_j (by omega), upJ_1], by rw [g6, upI_j (by omega), upJ_1], by rw [g7, upI_2, upJ_j (by omega)]⟩
          rw [if_neg (show ¬ (9 : Int32) ≤ nI k by rw [nI_lit, nI_leI (by omega) (by omega)]; exact w), bnd (m_see1 ht hs hn), h7, e7, upJ_1, h10, nI_s]
          exact e
      · rw [b2_f (fun z => hB (isD_i.mpr z)), if_pos z00]
        exact fin (spE_0 (fun z => hB z.2))
theorem m_b66 (hs : s.1 ≤ 700) (hb : ∀ i, i < s.1 → s.2 i < 256) (hp : p ≤ s.1) (ht : TPm s u) (h26 : u.1 0 26 = nI p) (h27 : u.1 0 27 = nI p) (h28 : u.2 0 28 = lN 0) (h29 : u.2 0 29 = lN 0) : ∃ u', X12_next_b66 (if p < s.1 then nI (s.2 p) else -nI 1) u = some u' ∧ FTm u u' ∧ TKm s.2 (if p < s.1 then (if isL (s.2 p) = true then (1, p, spE (fun i => isL (s.2 i)) s.1 p) else if isD (s.2 p) = true then (2, p, spE (fun i => isD (s.2 i)) s.1 p) else (3, p, p + 1)) else (0, p, p)) u' := by
  unfold X12_next_b66
  by_cases hp2 : p < s.1
  · have hbp := hb p hp2
    rw [if_pos hp2, if_pos hp2, if_neg (show ¬ nI (s.2 p) = -1 from (nI_m1 (show s.2 p < 2 ^ 31 by omega)).mp), bnd (in_az (show s.2 p < 2 ^ 31 by omega)), bnd (in_09 (show s.2 p < 2 ^ 31 by omega))]
    by_cases hl : isL (s.2 p) = true
    · rw [b2_t (isL_i.mp hl), if_neg n10, if_pos hl]
      obtain ⟨u2, e2, f2, k1, k2, k3, k4, k5, k6⟩ := m_nw (p := p) hs hb fz 0 (upI (upI u 0 30 0) 0 25 1) (by omega) (fz_lt (by omega)) (ht.mv ((FTm.rf.I (by omega)).I (by omega))) (by rw [upI_j (by omega), upI_j (by omega), h26]) (by rw [upI_j (by omega), upI_j (by omega), h27]; rfl) (fun i hi => absurd hi (Nat.not_lt_zero _)) (by rw [upI_2, upI_2, h28]; show lN 0 = lN (cv 0); rw [cv_0])
      rw [Nat.add_zero] at k2 k3
      refine ⟨u2, e2, ((FTm.rf.I (by omega)).I (by omega)).tr f2, ⟨k1, k2, ?_, ?_, ?_, ?_⟩⟩
      · rw [k4, upI_at]; rfl
      · rw [k3]; rfl
      · rw [k6, upI_2, upI_2, h29]; rfl
      · rw [k5, upI_j (by omega), upI_at]; rfl
    · rw [b2_f (fun z => hl (isL_i.mpr z)), if_pos z00, if_neg hl]
      by_cases hd : isD (s.2 p) = true
      · rw [b2_t (isD_i.mp hd), if_neg n10, if_pos hd]
        obtain ⟨u2, e2, f2, k1, k2, k3, k4, k5, k6⟩ := m_nn (p := p) hs hb fz 0 (upI (upI u 0 30 0) 0 25 2) (by omega) (fz_lt (by omega)) (ht.mv ((FTm.rf.I (by omega)).I (by omega))) (by rw [upI_j (by omega), upI_j (by omega), h26]) (by rw [upI_j (by omega), upI_j (by omega), h27]; rfl) (fun i hi => absurd hi (Nat.not_lt_zero _)) (by rw [upI_2, upI_2, h29]; rfl)
        rw [Nat.add_zero] at k2 k3
        refine ⟨u2, e2, ((FTm.rf.I (by omega)).I (by omega)).tr f2, ⟨k1, k2, ?_, ?_, ?_, ?_⟩⟩
        · rw [k4, upI_at]; rfl
        · rw [k6, upI_2, upI_2, h28]; show lN 0 = lN (cv 0); rw [cv_0]
        · rw [k3]; rfl
        · rw [k5, upI_j (by omega), upI_at]; rfl
      · rw [b2_f (fun z => hd (isD_i.mpr z)), if_pos z00, if_neg hd]
        refine ⟨_, rfl, (((FTm.rf.I (by omega)).I (by omega)).I (by omega)).I (by omega), ⟨?_, ?_, ?_, ?_, ?_, ?_⟩⟩
        · rw [upI_j (by omega), upI_j (by omega), upI_j (by omega), upI_j (by omega), h26]
        · rw [upI_at, upI_j (by omega), upI_j (by omega), upI_j (by omega), h27, nI_s]
        · rw [upI_j (by omega), upI_j (by omega), upI_at]; rfl
        · rw [upI_2, upI_2, upI_2, upI_2, h28]; show lN 0 = lN (cv 0); rw [cv_0]
        · rw [upI_2, upI_2, upI_2, upI_2, h29]; rfl
        · rw [upI_j (by omega), upI_at]; rfl
  · rw [if_neg hp2, if_neg hp2, if_pos (show -nI 1 = -1 from rfl)]
    refine ⟨_, rfl, (FTm.rf.I (by omega)).I (by omega), ⟨?_, ?_, ?_, ?_, ?_, ?_⟩⟩
    · rw [upI_j (by omega), upI_j (by omega), h26]
    · rw [upI_j (by omega), upI_j (by omega), h27]
    · rw [upI_at]; rfl
    · rw [upI_2, upI_2, h28]; show lN 0 = lN (cv 0); rw [cv_0]
    · rw [upI_2, upI_2, h29]; rfl
    · rw [upI_j (by omega), upI_at]; rfl
theorem m_next_l (hs : s.1 ≤ 700) (hb : ∀ i, i < s.1 → s.2 i < 256) : ∀ (f n : Nat) (u : gM), n ≤ s.1 → s.1 - n < f → TPm s u → u.1 0 27 = nI n → ∃ u', X12_next_l0 f u = some u' ∧ FTm u u' ∧ TKm s.2 (tkN s.2 s.1 n) u' := by
  intro f
  induction f with
  | zero => intro n u h1 h2; omega
  | succ f ih =>
    intro n u h1 h2 ht h27
    have hlast : spE (fun i => isB (s.2 i)) s.1 n = n → ∃ u', (X12_see (upI u 0 26 (u.1 0 27)) ((upI u 0 26 (u.1 0 27)).1 0 27)).bind (fun w52 => (X12_next_b66 w52 (upJ (upJ (upI u 0 26 (u.1 0 27)) 0 28 0) 0 29 0))) = some u' ∧ FTm u u' ∧ TKm s.2 (tkN s.2 s.1 n) u' := by
      intro he
      have f1 : FTm u (upI u 0 26 (nI n)) := FTm.rf.I (by omega)
      have t1 := ht.mv f1
      have f2 : FTm u (upJ (upJ (upI u 0 26 (nI n)) 0 28 0) 0 29 0) := (f1.J (by omega)).J (by omega)
      obtain ⟨u', e, f3, k⟩ := m_b66 (p := n) (u := upJ (upJ (upI u 0 26 (nI n)) 0 28 0) 0 29 0) hs hb h1 (ht.mv f2) (by rw [upJ_1, upJ_1, upI_at]) (by rw [upJ_1, upJ_1, upI_j (by omega), h27]) (by rw [upJ_j (by omega), upJ_at]; rfl) (by rw [upJ_at]; rfl)
      have hsee : X12_see (upI u 0 26 (nI n)) ((upI u 0 26 (nI n)).1 0 27) = some (if n < s.1 then nI (s.2 n) else -nI 1) := by
        rw [upI_j (by omega), h27]
        by_cases z : n < s.1
        · rw [if_pos z, m_see1 t1 hs z]
        · rw [if_neg z, m_see0 t1 hs (by omega) (by omega)]
      refine ⟨u', ?_, f2.tr f3, ?_⟩
      · rw [h27, bnd hsee]
        exact e
      · unfold tkN
        rw [he]
        exact k
    unfold X12_next_l0 X12_next_b0 X12_next_b26
    by_cases h4 : n = s.1
    · have e1 : X12_see u (u.1 0 27) = some (-nI 1) := by rw [h27, m_see0 ht hs (by omega) (by omega)]
      rw [bnd e1, if_neg (by decide), bnd e1, if_neg (by decide)]
      exact hlast (spE_0 (by omega))
    · have hn : n < s.1 := by omega
      have hbn := hb n hn
      have e1 : X12_see u (u.1 0 27) = some (nI (s.2 n)) := by rw [h27, m_see1 ht hs hn]
      rw [bnd e1]
      by_cases hB : isB (s.2 n) = true
      · have hsp : tkN s.2 s.1 n = tkN s.2 s.1 (n + 1) := by
          unfold tkN
          rw [spE_s (P := fun i => isB (s.2 i)) hn hB]
        obtain ⟨u', e, g1, g2⟩ := ih (n + 1) (upI u 0 27 (nI (n + 1))) (by omega) (by omega) (ht.mv (FTm.rf.I (by omega))) upI_at
        rw [hsp]
        refine ⟨u', ?_, (FTm.rf.I (by omega)).tr g1, g2⟩
        by_cases w : s.2 n = 32
        · rw [if_pos (show nI (s.2 n) = 32 by rw [w]; rfl), h27, nI_s]
          exact e
        · have w2 : s.2 n = 10 := by rcases isB_i.mp hB with z | z; exact absurd z w; exact z
          rw [if_neg (show ¬ nI (s.2 n) = 32 by rw [w2]; decide), bnd e1, if_pos (show nI (s.2 n) = 10 by rw [w2]; rfl), h27, nI_s]
          exact e
      · have w1 : ¬ s.2 n = 32 := fun z => hB (isB_i.mpr (Or.inl z))
        have w2 : ¬ s.2 n = 10 := fun z => hB (isB_i.mpr (Or.inr z))
        rw [if_neg (show ¬ nI (s.2 n) = 32 by rw [nI_lit, nI_eq (by omega) (by omega)]; exact w1), bnd e1, if_neg (show ¬ nI (s.2 n) = 10 by rw [nI_lit, nI_eq (by omega) (by omega)]; exact w2)]
        exact hlast (spE_0 (P := fun i => isB (s.2 i)) (fun z => hB z.2))
theorem m_next {n : Nat} (hs : s.1 ≤ 700) (hb : ∀ i, i < s.1 → s.2 i < 256) (ht : TPm s u) (h27 : u.1 0 27 = nI n) (hn : n ≤ s.1) : ∃ u', X12_next u = some u' ∧ FTm u u' ∧ TKm s.2 (tkN s.2 s.1 n) u' := m_next_l hs hb fz n u hn (fz_lt (by omega)) ht h27
end NX
