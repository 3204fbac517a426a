/-! the class's step: from what stands there to what stands behind -/
theorem cb_lo {c : Nat} (h : c < 128) : (nI c).toInt8.toInt32 = nI c := fa_byte_small h
theorem cb_hi {c : Nat} (h : 128 ≤ c) (h2 : c < 256) : (nI c).toInt8.toInt32 < nI 0 := by
  have : ∀ j : Fin 256, 128 ≤ j.val → (nI j.val).toInt8.toInt32 < nI 0 := by decide +kernel
  exact this ⟨c, h2⟩ h
theorem cb_eq {c k : Nat} (h : c < 256) (hk : k < 128) : (nI c).toInt8.toInt32 = nI k ↔ c = k := by
  by_cases z : c < 128
  · rw [cb_lo z, nI_eq (by omega) (by omega)]
  · have h1 := cb_hi (by omega) h
    refine ⟨fun e => ?_, fun e => by omega⟩
    rw [e] at h1
    exact absurd h1 (i_nlt k (by omega))
def TKc (B : Nat → Nat) (t : tkT) (u : gM) : Prop := (u.1 1 9 = nI t.2.1) ∧ (u.1 1 10 = nI t.2.2) ∧ (u.1 1 3 = nI (srt B t)) ∧ (u.1 1 4 = oI (tkw B t)) ∧ (u.2 1 7 = lN (tnm B t)) ∧ (u.1 1 5 = nI (tnu B t))
theorem TKc.p {B : Nat → Nat} {t : tkT} {u : gM} (h : TKc B t u) : u.1 1 9 = nI t.2.1 := h.1
theorem TKc.q {B : Nat → Nat} {t : tkT} {u : gM} (h : TKc B t u) : u.1 1 10 = nI t.2.2 := h.2.1
theorem TKc.s {B : Nat → Nat} {t : tkT} {u : gM} (h : TKc B t u) : u.1 1 3 = nI (srt B t) := h.2.2.1
theorem TKc.w {B : Nat → Nat} {t : tkT} {u : gM} (h : TKc B t u) : u.1 1 4 = oI (tkw B t) := h.2.2.2.1
theorem TKc.n {B : Nat → Nat} {t : tkT} {u : gM} (h : TKc B t u) : u.2 1 7 = lN (tnm B t) := h.2.2.2.2.1
theorem TKc.m {B : Nat → Nat} {t : tkT} {u : gM} (h : TKc B t u) : u.1 1 5 = nI (tnu B t) := h.2.2.2.2.2
/-- nothing but what stands there has changed -/
def FTc (u u' : gM) : Prop := (∀ c, c ≠ 1 → u'.1 c = u.1 c ∧ u'.2 c = u.2 c) ∧ (∀ j, j ≠ 3 → j ≠ 4 → j ≠ 5 → j ≠ 9 → j ≠ 10 → u'.1 1 j = u.1 1 j) ∧ (∀ j, j ≠ 7 → u'.2 1 j = u.2 1 j)
theorem FTc.c {u u' : gM} (h : FTc u u') : ∀ c, c ≠ 1 → u'.1 c = u.1 c ∧ u'.2 c = u.2 c := h.1
theorem FTc.i {u u' : gM} (h : FTc u u') : ∀ j, j ≠ 3 → j ≠ 4 → j ≠ 5 → j ≠ 9 → j ≠ 10 → u'.1 1 j = u.1 1 j := h.2.1
theorem FTc.l {u u' : gM} (h : FTc u u') : ∀ j, j ≠ 7 → u'.2 1 j = u.2 1 j := h.2.2
section ST
variable {u v u' v' : gM} {s : tpT} {p : Nat}
theorem q_isBlank {c : Nat} (h : c < 256) : X9_isBlank u (nI c).toInt8.toInt32 = some (b2 (isB c = true)) := by
  unfold X9_isBlank X9_isBlank_b12 X9_isBlank_b17
  by_cases h1 : c = 32
  · rw [if_pos (show (nI c).toInt8.toInt32 = 32 from (cb_eq (k := 32) h (by omega)).mpr h1), b2_t (isB_i.mpr (Or.inl h1))]; rfl
  · rw [if_neg (show ¬ (nI c).toInt8.toInt32 = 32 from fun z => h1 ((cb_eq (k := 32) h (by omega)).mp z))]
    by_cases h2 : c = 10
    · rw [if_pos (show (nI c).toInt8.toInt32 = 10 from (cb_eq (k := 10) h (by omega)).mpr h2), b2_t (isB_i.mpr (Or.inr h2))]; rfl
    · rw [if_neg (show ¬ (nI c).toInt8.toInt32 = 10 from fun z => h2 ((cb_eq (k := 10) h (by omega)).mp z)), b2_f (fun z => by rcases isB_i.mp z with y | y; exact h1 y; exact h2 y)]; rfl
theorem cb_lt {c k : Nat} (h : c < 256) (hk : k < 128) : (nI c).toInt8.toInt32 < nI k ↔ (c < k ∨ 128 ≤ c) ∧ 0 < 1 := by
  by_cases z : c < 128
  · rw [cb_lo z, nI_ltI (by omega) (by omega)]; omega
  · have h1 := cb_hi (by omega) h
    refine ⟨fun _ => by omega, fun _ => ?_⟩
    rw [Int32.lt_iff_toInt_lt] at h1 ⊢
    rw [nI_toInt (by omega)] at h1 ⊢
    omega
theorem cb_gt {c k : Nat} (h : c < 256) (hk : k < 128) : nI k < (nI c).toInt8.toInt32 ↔ (k < c ∧ c < 128) := by
  by_cases z : c < 128
  · rw [cb_lo z, nI_ltI (by omega) (by omega)]; omega
  · have h1 := cb_hi (by omega) h
    refine ⟨fun y => ?_, fun y => by omega⟩
    exfalso
    rw [Int32.lt_iff_toInt_lt] at h1 y
    rw [nI_toInt (by omega)] at h1 y
    omega
theorem q_isLetter {c : Nat} (h : c < 256) : X9_isLetter u (nI c).toInt8.toInt32 = some (b2 (isL c = true)) := by
  unfold X9_isLetter X9_isLetter_b16 X9_isLetter_b17
  by_cases h1 : c < 97 ∨ 128 ≤ c
  · rw [if_pos (show (nI c).toInt8.toInt32 < 97 from (cb_lt (k := 97) h (by omega)).mpr ⟨h1, by omega⟩), b2_f (fun z => by have := isL_i.mp z; omega)]; rfl
  · rw [if_neg (show ¬ (nI c).toInt8.toInt32 < 97 from fun z => h1 ((cb_lt (k := 97) h (by omega)).mp z).1)]
    by_cases h2 : 122 < c
    · rw [if_pos (show 122 < (nI c).toInt8.toInt32 from (cb_gt (k := 122) h (by omega)).mpr ⟨h2, by omega⟩), b2_f (fun z => by have := isL_i.mp z; omega)]; rfl
    · rw [if_neg (show ¬ 122 < (nI c).toInt8.toInt32 from fun z => h2 ((cb_gt (k := 122) h (by omega)).mp z).1), b2_t (isL_i.mpr ⟨by omega, by omega⟩)]; rfl
theorem q_isDigit {c : Nat} (h : c < 256) : X9_isDigit u (nI c).toInt8.toInt32 = some (b2 (isD c = true)) := by
  unfold X9_isDigit X9_isDigit_b16 X9_isDigit_b17
  by_cases h1 : c < 48 ∨ 128 ≤ c
  · rw [if_pos (show (nI c).toInt8.toInt32 < 48 from (cb_lt (k := 48) h (by omega)).mpr ⟨h1, by omega⟩), b2_f (fun z => by have := isD_i.mp z; omega)]; rfl
  · rw [if_neg (show ¬ (nI c).toInt8.toInt32 < 48 from fun z => h1 ((cb_lt (k := 48) h (by omega)).mp z).1)]
    by_cases h2 : 57 < c
    · rw [if_pos (show 57 < (nI c).toInt8.toInt32 from (cb_gt (k := 57) h (by omega)).mpr ⟨h2, by omega⟩), b2_f (fun z => by have := isD_i.mp z; omega)]; rfl
    · rw [if_neg (show ¬ 57 < (nI c).toInt8.toInt32 from fun z => h2 ((cb_gt (k := 57) h (by omega)).mp z).1), b2_t (isD_i.mpr ⟨by omega, by omega⟩)]; rfl
theorem FTc.rf : FTc u u := ⟨fun _ _ => ⟨rfl, rfl⟩, fun _ _ _ _ _ _ => rfl, fun _ _ => rfl⟩
theorem FTc.tr {w : gM} (h : FTc u u') (h2 : FTc u' w) : FTc u w := ⟨fun c hc => ⟨(h2.c c hc).1.trans (h.c c hc).1, (h2.c c hc).2.trans (h.c c hc).2⟩, fun j a b c d e => (h2.i j a b c d e).trans (h.i j a b c d e), fun j hj => (h2.l j hj).trans (h.l j hj)⟩
theorem FTc.I {j : Nat} {x : Int32} (h : FTc u u') (hj : j = 3 ∨ j = 4 ∨ j = 5 ∨ j = 9 ∨ j = 10) : FTc u (upI u' 1 j x) :=
  ⟨fun c hc => ⟨by rw [upI_k hc]; exact (h.c c hc).1, by rw [upI_2]; exact (h.c c hc).2⟩, fun i a b c d e => by rw [upI_j (by omega)]; exact h.i i a b c d e, fun i hi => by rw [upI_2]; exact h.l i hi⟩
theorem FTc.J {x : Int64} (h : FTc u u') : FTc u (upJ u' 1 7 x) :=
  ⟨fun c hc => ⟨by rw [upJ_1]; exact (h.c c hc).1, by rw [upJ_k hc]; exact (h.c c hc).2⟩, fun i a b c d e => by rw [upJ_1]; exact h.i i a b c d e, fun i hi => by rw [upJ_j hi]; exact h.l i hi⟩
theorem TPc.mv (h : TPc s u) (f : FTc u u') : TPc s u' := ⟨by rw [f.i 0 (by omega) (by omega) (by omega) (by omega) (by omega)]; exact h.l, fun i hi => by rw [(f.c 2 (by omega)).1]; exact h.b i hi⟩
theorem TPc.at {n : Nat} (h : TPc s u) (hs : s.1 ≤ 700) (hn : n < s.1) : aB skC u 2 (nI n) = some (nI (s.2 n)).toInt8.toInt32 := by rw [aC2 (by omega), h.b n hn]
theorem q_blank (hs : s.1 ≤ 700) (hb : ∀ i, i < s.1 → s.2 i < 256) : ∀ (f n : Nat) (u : gM), n ≤ s.1 → s.1 - n < f → TPc s u → u.1 1 10 = nI n → ∃ u', X9_step_l0 f u = X9_step_b39 u' ∧ FTc u u' ∧ u'.1 1 10 = nI (spE (fun i => isB (s.2 i)) s.1 n) := by
  intro f
  induction f with
  | zero => intro n u h1 h2; omega
  | succ f ih =>
    intro n u h1 h2 ht h10
    unfold X9_step_l0 X9_step_b0
    rw [ht.l, h10]
    by_cases h4 : n = s.1
    · refine ⟨u, ?_, FTc.rf, ?_⟩
      · rw [h4, if_pos (Int32.le_refl _)]
      · rw [spE_0 (by omega), h10]
    · have hn : n < s.1 := by omega
      rw [if_neg (show ¬ nI s.1 ≤ nI n by rw [nI_leI (by omega) (by omega)]; omega), bnd (ht.at hs hn), bnd (q_isBlank (hb n hn))]
      by_cases hB : isB (s.2 n) = true
      · obtain ⟨u', e, g1, g2⟩ := ih (n + 1) (upI u 1 10 (nI (n + 1))) (by omega) (by omega) (ht.mv (FTc.rf.I (by omega))) upI_at
        rw [b2_t hB, if_neg n10, nI_s, spE_s hn hB]
        exact ⟨u', e, (FTc.rf.I (by omega)).tr g1, g2⟩
      · rw [b2_f hB, if_pos z00]
        refine ⟨u, rfl, FTc.rf, ?_⟩
        rw [spE_0 (P := fun i => isB (s.2 i)) (fun z => hB z.2), h10]
theorem q_sw (hs : s.1 ≤ 700) (hb : ∀ i, i < s.1 → s.2 i < 256) : ∀ (f k : Nat) (u : gM), p + k ≤ s.1 → s.1 - (p + k) < f → TPc s u → u.1 1 9 = nI p → u.1 1 10 = nI (p + k) → u.2 1 7 = lN (nmF (fun i => s.2 (p + i) - 96) (min k 8)) →
    ∃ u', X9_scanWord_l0 f u = some u' ∧ FTc u u' ∧ u'.1 1 9 = nI p ∧ u'.1 1 10 = nI (spE (fun i => isL (s.2 i)) s.1 (p + k)) ∧ u'.2 1 7 = lN (nmF (fun i => s.2 (p + i) - 96) (min (spE (fun i => isL (s.2 i)) s.1 (p + k) - p) 8)) ∧ u'.1 1 3 = nI (if spE (fun i => isL (s.2 i)) s.1 (p + k) - p ≤ 8 then 1 else 5) ∧ u'.1 1 4 = u.1 1 4 ∧ u'.1 1 5 = u.1 1 5 := by
  intro f
  induction f with
  | zero => intro n u h1 h2; omega
  | succ f ih =>
    intro k u h1 h2 ht h9 h10 h7
    have fin : spE (fun i => isL (s.2 i)) s.1 (p + k) = p + k → ∃ u', X9_scanWord_b81 u = some u' ∧ FTc u u' ∧ u'.1 1 9 = nI p ∧ u'.1 1 10 = nI (spE (fun i => isL (s.2 i)) s.1 (p + k)) ∧ u'.2 1 7 = lN (nmF (fun i => s.2 (p + i) - 96) (min (spE (fun i => isL (s.2 i)) s.1 (p + k) - p) 8)) ∧ u'.1 1 3 = nI (if spE (fun i => isL (s.2 i)) s.1 (p + k) - p ≤ 8 then 1 else 5) ∧ u'.1 1 4 = u.1 1 4 ∧ u'.1 1 5 = u.1 1 5 := by
      intro he
      rw [he, Nat.add_sub_cancel_left]
      unfold X9_scanWord_b81 X9_scanWord_b101
      rw [h10, h9, pk_sub (Nat.le_add_right p k), Nat.add_sub_cancel_left]
      by_cases w : k ≤ 8
      · rw [if_pos (show (nI k : Int32) ≤ 8 by rw [nI_lit, nI_leI (by omega) (by omega)]; exact w), if_pos w]
        exact ⟨_, rfl, FTc.rf.I (by omega), by rw [upI_j (by omega), h9], by rw [upI_j (by omega), h10], by rw [upI_2, h7], upI_at, upI_j (by omega), upI_j (by omega)⟩
      · rw [if_neg (show ¬ (nI k : Int32) ≤ 8 by rw [nI_lit, nI_leI (by omega) (by omega)]; exact w), if_neg w]
        exact ⟨_, rfl, FTc.rf.I (by omega), by rw [upI_j (by omega), h9], by rw [upI_j (by omega), h10], by rw [upI_2, h7], upI_at, upI_j (by omega), upI_j (by omega)⟩
    unfold X9_scanWord_l0 X9_scanWord_b0 X9_scanWord_b68
    by_cases h4 : p + k = s.1
    · rw [ht.l, h10, if_pos (show nI s.1 ≤ nI (p + k) by rw [h4]; exact Int32.le_refl _)]
      exact fin (spE_0 (by omega))
    · have hn : p + k < s.1 := by omega
      rw [ht.l, h10, if_neg (show ¬ nI s.1 ≤ nI (p + k) by rw [nI_leI (by omega) (by omega)]; omega), bnd (ht.at hs hn), bnd (q_isLetter (hb _ hn))]
      by_cases hB : isL (s.2 (p + k)) = true
      · have hc := isL_i.mp hB
        have hsp : spE (fun i => isL (s.2 i)) s.1 (p + k) = spE (fun i => isL (s.2 i)) s.1 (p + (k + 1)) := spE_s hn hB
        rw [b2_t hB, if_neg n10, h9, pk_sub (Nat.le_add_right p k), Nat.add_sub_cancel_left]
        by_cases w : 8 ≤ k
        · obtain ⟨u', e, g1, g2, g3, g4, g5, g6, g7⟩ := ih (k + 1) (upI u 1 10 (nI (p + (k + 1)))) (by omega) (by omega) (ht.mv (FTc.rf.I (by omega))) (by rw [upI_j (by omega), h9]) upI_at (by rw [upI_2, h7, show min k 8 = 8 by omega, show min (k + 1) 8 = 8 by omega])
          rw [hsp]
          refine ⟨u', ?_, (FTc.rf.I (by omega)).tr g1, g2, g3, g4, g5, by rw [g6, upI_j (by omega)], by rw [g7, upI_j (by omega)]⟩
          rw [if_pos (show (8 : Int32) ≤ nI k by rw [nI_lit, nI_leI (by omega) (by omega)]; exact w), nI_s]
          exact e
        · have e7 : (lN (nmF (fun i => s.2 (p + i) - 96) (min k 8)) * 27 + ((nI (s.2 (p + k)) - 97) + 1).toInt64 : Int64) = lN (nmF (fun i => s.2 (p + i) - 96) (min (k + 1) 8)) := by
            rw [show min k 8 = k by omega, show min (k + 1) 8 = k + 1 by omega, nmF_s, nI_lit, pk_sub (show 97 ≤ s.2 (p + k) by omega), nI_s, nI_64 (by omega), lN_lit, lN_mul, lN_add, show s.2 (p + k) - 97 + 1 = s.2 (p + k) - 96 by omega]
          obtain ⟨u', e, g1, g2, g3, g4, g5, g6, g7⟩ := ih (k + 1) (upI (upJ u 1 7 (lN (nmF (fun i => s.2 (p + i) - 96) (min (k + 1) 8)))) 1 10 (nI (p + (k + 1)))) (by omega) (by omega) (ht.mv (FTc.rf.J.I (by omega))) (by rw [upI_j (by omega), upJ_1, h9]) upI_at (by rw [upI_2, upJ_at])
          rw [hsp]
          refine ⟨u', ?_, (FTc.rf.J.I (by omega)).tr g1, g2, g3, g4, g5, by rw [g6, upI_j (by omega), upJ_1], by rw [g7, upI_j (by omega), upJ_1]⟩
          rw [if_neg (show ¬ (8 : Int32) ≤ nI k by rw [nI_lit, nI_leI (by omega) (by omega)]; exact w), bnd (ht.at hs hn), cb_lo (by omega), h7, e7, upJ_1, h10, nI_s]
          exact e
      · rw [b2_f hB, if_pos z00]
        exact fin (spE_0 (fun z => hB z.2))
theorem q_sn (hs : s.1 ≤ 700) (hb : ∀ i, i < s.1 → s.2 i < 256) : ∀ (f k : Nat) (u : gM), p + k ≤ s.1 → s.1 - (p + k) < f → TPc s u → u.1 1 9 = nI p → u.1 1 10 = nI (p + k) → u.1 1 5 = nI (nuF (fun i => s.2 (p + i) - 48) (min k 9)) →
    ∃ u', X9_scanNumber_l0 f u = some u' ∧ FTc u u' ∧ u'.1 1 9 = nI p ∧ u'.1 1 10 = nI (spE (fun i => isD (s.2 i)) s.1 (p + k)) ∧ u'.1 1 5 = nI (nuF (fun i => s.2 (p + i) - 48) (min (spE (fun i => isD (s.2 i)) s.1 (p + k) - p) 9)) ∧ u'.1 1 3 = nI (if spE (fun i => isD (s.2 i)) s.1 (p + k) - p ≤ 9 then 3 else 5) ∧ u'.1 1 4 = u.1 1 4 ∧ u'.2 1 7 = u.2 1 7 := by
  intro f
  induction f with
  | zero => intro n u h1 h2; omega
  | succ f ih =>
    intro k u h1 h2 ht h9 h10 h5
    have fin : spE (fun i => isD (s.2 i)) s.1 (p + k) = p + k → ∃ u', X9_scanNumber_b77 u = some u' ∧ FTc u u' ∧ u'.1 1 9 = nI p ∧ u'.1 1 10 = nI (spE (fun i => isD (s.2 i)) s.1 (p + k)) ∧ u'.1 1 5 = nI (nuF (fun i => s.2 (p + i) - 48) (min (spE (fun i => isD (s.2 i)) s.1 (p + k) - p) 9)) ∧ u'.1 1 3 = nI (if spE (fun i => isD (s.2 i)) s.1 (p + k) - p ≤ 9 then 3 else 5) ∧ u'.1 1 4 = u.1 1 4 ∧ u'.2 1 7 = u.2 1 7 := by
      intro he
      rw [he, Nat.add_sub_cancel_left]
      unfold X9_scanNumber_b77 X9_scanNumber_b97
      rw [h10, h9, pk_sub (Nat.le_add_right p k), Nat.add_sub_cancel_left]
      by_cases w : k ≤ 9
      · rw [if_pos (show (nI k : Int32) ≤ 9 by rw [nI_lit, nI_leI (by omega) (by omega)]; exact w), if_pos w]
        exact ⟨_, rfl, FTc.rf.I (by omega), by rw [upI_j (by omega), h9], by rw [upI_j (by omega), h10], by rw [upI_j (by omega), h5], upI_at, upI_j (by omega), by rw [upI_2]⟩
      · rw [if_neg (show ¬ (nI k : Int32) ≤ 9 by rw [nI_lit, nI_leI (by omega) (by omega)]; exact w), if_neg w]
        exact ⟨_, rfl, FTc.rf.I (by omega), by rw [upI_j (by omega), h9], by rw [upI_j (by omega), h10], by rw [upI_j (by omega), h5], upI_at, upI_j (by omega), by rw [upI_2]⟩
    unfold X9_scanNumber_l0 X9_scanNumber_b0 X9_scanNumber_b64
    by_cases h4 : p + k = s.1
    · rw [ht.l, h10, if_pos (show nI s.1 ≤ nI (p + k) by rw [h4]; exact Int32.le_refl _)]
      exact fin (spE_0 (by omega))
    · have hn : p + k < s.1 := by omega
      rw [ht.l, h10, if_neg (show ¬ nI s.1 ≤ nI (p + k) by rw [nI_leI (by omega) (by omega)]; omega), bnd (ht.at hs hn), bnd (q_isDigit (hb _ hn))]
      by_cases hB : isD (s.2 (p + k)) = true
      · have hc := isD_i.mp hB
        have hsp : spE (fun i => isD (s.2 i)) s.1 (p + k) = spE (fun i => isD (s.2 i)) s.1 (p + (k + 1)) := spE_s hn hB
        rw [b2_t hB, if_neg n10, h9, pk_sub (Nat.le_add_right p k), Nat.add_sub_cancel_left]
        by_cases w : 9 ≤ k
        · obtain ⟨u', e, g1, g2, g3, g4, g5, g6, g7⟩ := ih (k + 1) (upI u 1 10 (nI (p + (k + 1)))) (by omega) (by omega) (ht.mv (FTc.rf.I (by omega))) (by rw [upI_j (by omega), h9]) upI_at (by rw [upI_j (by omega), h5, show min k 9 = 9 by omega, show min (k + 1) 9 = 9 by omega])
          rw [hsp]
          refine ⟨u', ?_, (FTc.rf.I (by omega)).tr g1, g2, g3, g4, g5, by rw [g6, upI_j (by omega)], by rw [g7, upI_2]⟩
          rw [if_pos (show (9 : Int32) ≤ nI k by rw [nI_lit, nI_leI (by omega) (by omega)]; exact w), nI_s]
          exact e
        · have e7 : (nI (nuF (fun i => s.2 (p + i) - 48) (min k 9)) * 10 + (nI (s.2 (p + k)) - 48) : Int32) = nI (nuF (fun i => s.2 (p + i) - 48) (min (k + 1) 9)) := by
            rw [show min k 9 = k by omega, show min (k + 1) 9 = k + 1 by omega, nuF_s, show (48 : Int32) = nI 48 from rfl, pk_sub (show 48 ≤ s.2 (p + k) by omega), show (10 : Int32) = nI 10 from rfl, pk_mul, nI_add]
          obtain ⟨u', e, g1, g2, g3, g4, g5, g6, g7⟩ := ih (k + 1) (upI (upI u 1 5 (nI (nuF (fun i => s.2 (p + i) - 48) (min (k + 1) 9)))) 1 10 (nI (p + (k + 1)))) (by omega) (by omega) (ht.mv ((FTc.rf.I (by omega)).I (by omega))) (by rw [upI_j (by omega), upI_j (by omega), h9]) upI_at (by rw [upI_j (by omega), upI_at])
          rw [hsp]
          refine ⟨u', ?_, ((FTc.rf.I (by omega)).I (by omega)).tr g1, g2, g3, g4, g5, by rw [g6, upI_j (by omega), upI_j (by omega)], by rw [g7, upI_2, upI_2]⟩
          rw [if_neg (show ¬ (9 : Int32) ≤ nI k by rw [nI_lit, nI_leI (by omega) (by omega)]; exact w), bnd (ht.at hs hn), cb_lo (by omega), h5, e7, upI_j (by omega), h10, nI_s]
          exact e
      · rw [b2_f hB, if_pos z00]
        exact fin (spE_0 (fun z => hB z.2))
theorem q_step {n : Nat} (hs : s.1 ≤ 700) (hb : ∀ i, i < s.1 → s.2 i < 256) (ht : TPc s u) (h10 : u.1 1 10 = nI n) (hn : n ≤ s.1) : ∃ u', X9_step u = some u' ∧ FTc u u' ∧ TKc s.2 (tkN s.2 s.1 n) u' := by
  obtain ⟨u1, e1, f1, g1⟩ := q_blank hs hb fz n u hn (fz_lt (by omega)) ht h10
  obtain ⟨h1, h2, h3, h4⟩ := spE_ge (P := fun i => isB (s.2 i)) (L := s.1) (s.1 - n) n (Nat.le_refl _)
  have h2 := h2 hn
  unfold X9_step
  rw [e1]
  unfold tkN
  generalize spE (fun i => isB (s.2 i)) s.1 n = p at *
  unfold X9_step_b39 X9_step_b57 X9_step_b174 X9_step_b187
  rw [g1]
  have fw : FTc u (upI (upJ (upI (upI u1 1 9 (nI p)) 1 4 (-1)) 1 7 0) 1 5 0) := FTc.I (FTc.J (FTc.I (FTc.I f1 (by omega)) (by omega))) (by omega)
  have w9 : (upI (upJ (upI (upI u1 1 9 (nI p)) 1 4 (-1)) 1 7 0) 1 5 0).1 1 9 = nI p := by rw [upI_j (by omega), upJ_1, upI_j (by omega), upI_at]
  have w10 : (upI (upJ (upI (upI u1 1 9 (nI p)) 1 4 (-1)) 1 7 0) 1 5 0).1 1 10 = nI p := by rw [upI_j (by omega), upJ_1, upI_j (by omega), upI_j (by omega), g1]
  have w4 : (upI (upJ (upI (upI u1 1 9 (nI p)) 1 4 (-1)) 1 7 0) 1 5 0).1 1 4 = -1 := by rw [upI_j (by omega), upJ_1, upI_at]
  have w5 : (upI (upJ (upI (upI u1 1 9 (nI p)) 1 4 (-1)) 1 7 0) 1 5 0).1 1 5 = 0 := upI_at
  have w7 : (upI (upJ (upI (upI u1 1 9 (nI p)) 1 4 (-1)) 1 7 0) 1 5 0).2 1 7 = 0 := by rw [upI_2, upJ_at]
  generalize upI (upJ (upI (upI u1 1 9 (nI p)) 1 4 (-1)) 1 7 0) 1 5 0 = w at *
  have tw := ht.mv fw
  rw [w10, tw.l]
  by_cases hp : p < s.1
  · rw [if_pos (show nI p < nI s.1 by rw [nI_ltI (by omega) (by omega)]; exact hp), if_pos hp, bnd (tw.at hs hp), bnd (q_isLetter (hb p hp)), bnd (tw.at hs hp), bnd (q_isDigit (hb p hp)), bnd (tw.at hs hp)]
    by_cases hl : isL (s.2 p) = true
    · have hV := (tkN_V (B := s.2) (L := s.1) (n := n) hn).1
      obtain ⟨u2, e2, f2, k1, k2, k3, k4, k5, k6⟩ := q_sw (p := p) hs hb fz 0 w (by omega) (fz_lt (by omega)) tw w9 w10 w7
      obtain ⟨g1', g2, g3, g4⟩ := spE_ge (P := fun i => isL (s.2 i)) (L := s.1) (s.1 - p) p (Nat.le_refl _)
      have g2 := g2 (by omega)
      rw [Nat.add_zero] at k2 k3 k4
      have t2 := tw.mv f2
      generalize hq : spE (fun i => isL (s.2 i)) s.1 p = q at *
      have e3 := q_rsv (B := s.2) k1 k2 g1' (by omega) (fun i i1 i2 => (g3 i i1 i2).1) (fun i i1 i2 => by
        rw [t2.b i (g3 i i1 i2).2, cb_lo (by have := isL_i.mp (g3 i i1 i2).1; omega)])
      have e4 : X9_scanWord w = some u2 := e2
      rw [b2_t hl, if_neg n10, bnd e4, bnd e3, if_pos hl, upI_j (by omega), upI_at, k4]
      have tn : tnm s.2 (1, p, q) = nmF (fun i => s.2 (p + i) - 96) (min (q - p) 8) := if_pos rfl
      have tu : tnu s.2 (1, p, q) = 0 := if_neg (by show ¬ 1 = 2; omega)
      by_cases w8 : q - p ≤ 8
      · have tk : tkw s.2 (1, p, q) = kwS (nmF (fun i => s.2 (p + i) - 96) (min (q - p) 8)) := by
          unfold tkw
          rw [if_pos ⟨rfl, w8⟩, tn]
        rw [if_pos w8, if_pos w8, if_pos (show (nI 1 : Int32) = 1 from rfl)]
        cases hk : kwS (nmF (fun i => s.2 (p + i) - 96) (min (q - p) 8)) with
        | none =>
          rw [hk] at tk
          rw [if_pos (show oI none = -1 from rfl)]
          refine ⟨_, rfl, (fw.tr f2).I (by omega), ⟨?_, ?_, ?_, ?_, ?_, ?_⟩⟩
          · rw [upI_j (by omega), k1]
          · rw [upI_j (by omega), k2]
          · rw [upI_j (by omega), k4, if_pos w8]
            unfold srt
            rw [if_neg (by show ¬ 1 = 0; omega), if_pos rfl, if_pos w8, tk, if_pos rfl]
          · rw [upI_at, tk]
          · rw [upI_2, k3, tn]
          · rw [upI_j (by omega), k6, w5, tu]; rfl
        | some j =>
          have hj := kwS_lt hk
          rw [hk] at tk
          rw [if_neg (show ¬ oI (some j) = -1 from (nI_m1 (show j < 2 ^ 31 by omega)).mp)]
          refine ⟨_, rfl, ((fw.tr f2).I (by omega)).I (by omega), ⟨?_, ?_, ?_, ?_, ?_, ?_⟩⟩
          · rw [upI_j (by omega), upI_j (by omega), k1]
          · rw [upI_j (by omega), upI_j (by omega), k2]
          · rw [upI_at]
            unfold srt
            rw [if_neg (by show ¬ 1 = 0; omega), if_pos rfl, if_pos w8, tk, if_neg (by simp)]
            rfl
          · rw [upI_j (by omega), upI_at, tk]
          · rw [upI_2, upI_2, k3, tn]
          · rw [upI_j (by omega), upI_j (by omega), k6, w5, tu]; rfl
      · have tk : tkw s.2 (1, p, q) = none := if_neg (fun z => w8 z.2)
        rw [if_neg w8, if_neg w8, if_neg (show ¬ (nI 5 : Int32) = 1 by decide)]
        refine ⟨_, rfl, (fw.tr f2).I (by omega), ⟨?_, ?_, ?_, ?_, ?_, ?_⟩⟩
        · rw [upI_j (by omega), k1]
        · rw [upI_j (by omega), k2]
        · rw [upI_j (by omega), k4, if_neg w8]
          unfold srt
          rw [if_neg (by show ¬ 1 = 0; omega), if_pos rfl, if_neg w8]
        · rw [upI_at, tk]
        · rw [upI_2, k3, tn]
        · rw [upI_j (by omega), k6, w5, tu]; rfl
    · rw [b2_f hl, if_pos z00, if_neg hl]
      by_cases hd : isD (s.2 p) = true
      · obtain ⟨u2, e2, f2, k1, k2, k3, k4, k5, k6⟩ := q_sn (p := p) hs hb fz 0 w (by omega) (fz_lt (by omega)) tw w9 w10 w5
        rw [Nat.add_zero] at k2 k3 k4
        generalize hq : spE (fun i => isD (s.2 i)) s.1 p = q at *
        have e4 : X9_scanNumber w = some u2 := e2
        rw [b2_t hd, if_neg n10, bnd e4, if_pos hd]
        refine ⟨u2, rfl, fw.tr f2, ⟨k1, k2, ?_, ?_, ?_, ?_⟩⟩
        · rw [k4]; rfl
        · rw [k5, w4]
          unfold tkw
          rw [if_neg (fun z => absurd z.1 (by show ¬ 2 = 1; omega))]
          rfl
        · rw [k6, w7]
          unfold tnm
          rw [if_neg (by show ¬ 2 = 1; omega)]
          rfl
        · rw [k3]
          unfold tnu
          rw [if_pos rfl]
      · rw [b2_f hd, if_pos z00, if_neg hd]
        have hw : tkw s.2 (3, p, p + 1) = none := if_neg (fun z => absurd z.1 (by show ¬ 3 = 1; omega))
        have hnm : tnm s.2 (3, p, p + 1) = 0 := if_neg (by show ¬ 3 = 1; omega)
        have hnu : tnu s.2 (3, p, p + 1) = 0 := if_neg (by show ¬ 3 = 2; omega)
        have key : ∀ x : Int32, x = nI (srt s.2 (3, p, p + 1)) → ∃ u', some (upI (upI w 1 3 x) 1 10 ((upI w 1 3 x).1 1 10 + 1)) = some u' ∧ FTc u u' ∧ TKc s.2 (3, p, p + 1) u' := by
          intro x hx
          refine ⟨_, rfl, (fw.I (by omega)).I (by omega), ⟨?_, ?_, ?_, ?_, ?_, ?_⟩⟩
          · rw [upI_j (by omega), upI_j (by omega), w9]
          · rw [upI_at, upI_j (by omega), w10, nI_s]
          · rw [upI_j (by omega), upI_at, hx]
          · rw [upI_j (by omega), upI_j (by omega), w4, hw]; rfl
          · rw [upI_2, upI_2, w7, hnm]; rfl
          · rw [upI_j (by omega), upI_j (by omega), w5, hnu]; rfl
        by_cases hc : s.2 p = 59
        · rw [if_pos (show (nI (s.2 p)).toInt8.toInt32 = 59 from (cb_eq (k := 59) (hb p hp) (by omega)).mpr hc)]
          refine key 4 ?_
          unfold srt
          rw [if_neg (by show ¬ 3 = 0; omega), if_neg (by show ¬ 3 = 1; omega), if_neg (by show ¬ 3 = 2; omega), if_pos hc]
          rfl
        · rw [if_neg (show ¬ (nI (s.2 p)).toInt8.toInt32 = 59 from fun z => hc ((cb_eq (k := 59) (hb p hp) (by omega)).mp z))]
          refine key 5 ?_
          unfold srt
          rw [if_neg (by show ¬ 3 = 0; omega), if_neg (by show ¬ 3 = 1; omega), if_neg (by show ¬ 3 = 2; omega), if_neg hc]
          rfl
  · rw [if_neg (show ¬ nI p < nI s.1 by rw [nI_ltI (by omega) (by omega)]; exact hp), if_neg hp]
    have hw : tkw s.2 (0, p, p) = none := if_neg (fun z => absurd z.1 (by show ¬ 0 = 1; omega))
    have hnm : tnm s.2 (0, p, p) = 0 := if_neg (by show ¬ 0 = 1; omega)
    have hnu : tnu s.2 (0, p, p) = 0 := if_neg (by show ¬ 0 = 2; omega)
    refine ⟨_, rfl, fw.I (by omega), ⟨?_, ?_, ?_, ?_, ?_, ?_⟩⟩
    · rw [upI_j (by omega), w9]
    · rw [upI_j (by omega), w10]
    · rw [upI_at]; rfl
    · rw [upI_j (by omega), w4, hw]; rfl
    · rw [upI_2, w7, hnm]; rfl
    · rw [upI_j (by omega), w5, hnu]; rfl
end ST
