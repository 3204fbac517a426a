/-! what is read, token by token: the primitives of both -/
def jdL : List Nat := [0, 5, 6, 7, 8, 10, 11, 12, 13, 9, 0, 1, 2, 3, 4, 14, 15, 16, 17, 18, 19, 20]
def jd (i : Nat) : Nat := jdL.getD i 0
theorem ws_id : ∀ i, i < 22 → 1 ≤ i → jd i < 21 ∧ slen i = some (nI (kl (jd i))) := by decide +kernel
theorem ws_idc : ∀ i, i < 22 → 1 ≤ i → ∀ k, k < kl (jd i) → sch i (nI k) = some (nI (wsW (ko (jd i) + k))) := by decide +kernel
def nx (s : tpT) (t : tkT) : tkT := tkN s.2 s.1 t.2.2
def TS (s : tpT) : Prop := (s.1 ≤ 700) ∧ (∀ i, i < s.1 → s.2 i < 256)
theorem TS.l {s : tpT} (h : TS s) : s.1 ≤ 700 := h.1
theorem TS.b {s : tpT} (h : TS s) : ∀ i, i < s.1 → s.2 i < 256 := h.2
def Pc (s : tpT) (t : tkT) (u : gM) : Prop := (TPc s u) ∧ (TKc s.2 t u) ∧ (u.1 1 1 = nI 0) ∧ (u.1 1 2 = -nI 1)
theorem Pc.tp {s : tpT} {t : tkT} {u : gM} (h : Pc s t u) : TPc s u := h.1
theorem Pc.tk {s : tpT} {t : tkT} {u : gM} (h : Pc s t u) : TKc s.2 t u := h.2.1
theorem Pc.f {s : tpT} {t : tkT} {u : gM} (h : Pc s t u) : u.1 1 1 = nI 0 := h.2.2.1
theorem Pc.g {s : tpT} {t : tkT} {u : gM} (h : Pc s t u) : u.1 1 2 = -nI 1 := h.2.2.2
def Pm (s : tpT) (t : tkT) (v : gM) : Prop := (TPm s v) ∧ (TKm s.2 t v) ∧ (v.1 0 23 = nI 0) ∧ (v.1 0 24 = -nI 1)
theorem Pm.tp {s : tpT} {t : tkT} {v : gM} (h : Pm s t v) : TPm s v := h.1
theorem Pm.tk {s : tpT} {t : tkT} {v : gM} (h : Pm s t v) : TKm s.2 t v := h.2.1
theorem Pm.f {s : tpT} {t : tkT} {v : gM} (h : Pm s t v) : v.1 0 23 = nI 0 := h.2.2.1
theorem Pm.g {s : tpT} {t : tkT} {v : gM} (h : Pm s t v) : v.1 0 24 = -nI 1 := h.2.2.2
def Fc (k p : Nat) (u : gM) : Prop := (u.1 1 1 = nI k) ∧ (u.1 1 2 = nI p)
theorem Fc.f {k p : Nat} {u : gM} (h : Fc k p u) : u.1 1 1 = nI k := h.1
theorem Fc.g {k p : Nat} {u : gM} (h : Fc k p u) : u.1 1 2 = nI p := h.2
def Fm (k p : Nat) (v : gM) : Prop := (v.1 0 23 = nI k) ∧ (v.1 0 24 = nI p)
theorem Fm.f {k p : Nat} {v : gM} (h : Fm k p v) : v.1 0 23 = nI k := h.1
theorem Fm.g {k p : Nat} {v : gM} (h : Fm k p v) : v.1 0 24 = nI p := h.2
/-- all but the cell 1 is as it was -/
def o1 (u u' : gM) : Prop := ∀ c : Nat, c ≠ 1 → u'.1 c = u.1 c ∧ u'.2 c = u.2 c
def FMk (v v' : gM) : Prop := (∀ c, c ≠ 0 → v'.1 c = v.1 c ∧ v'.2 c = v.2 c) ∧ (∀ j, j < 23 ∨ 31 < j → v'.1 0 j = v.1 0 j)
theorem FMk.o {v v' : gM} (h : FMk v v') : ∀ c, c ≠ 0 → v'.1 c = v.1 c ∧ v'.2 c = v.2 c := h.1
theorem FMk.i {v v' : gM} (h : FMk v v') : ∀ j, j < 23 ∨ 31 < j → v'.1 0 j = v.1 0 j := h.2
section PR
variable {u v u' v' : gM} {s : tpT} {t : tkT}
theorem o1.rf : o1 u u := fun _ _ => ⟨rfl, rfl⟩
theorem o1.tr {w : gM} (h : o1 u u') (h2 : o1 u' w) : o1 u w := fun c hc => ⟨(h2 c hc).1.trans (h c hc).1, (h2 c hc).2.trans (h c hc).2⟩
theorem o1.I {j : Nat} {x : Int32} (h : o1 u u') : o1 u (upI u' 1 j x) := fun c hc => ⟨by rw [upI_k hc]; exact (h c hc).1, by rw [upI_2]; exact (h c hc).2⟩
theorem FMk.rf : FMk v v := ⟨fun _ _ => ⟨rfl, rfl⟩, fun _ _ => rfl⟩
theorem FMk.tr {w : gM} (h : FMk v v') (h2 : FMk v' w) : FMk v w := ⟨fun c hc => ⟨(h2.o c hc).1.trans (h.o c hc).1, (h2.o c hc).2.trans (h.o c hc).2⟩, fun j hj => (h2.i j hj).trans (h.i j hj)⟩
theorem FMk.I {j : Nat} {x : Int32} (h : FMk v v') (hj : 23 ≤ j ∧ j ≤ 31) : FMk v (upI v' 0 j x) := ⟨fun c hc => ⟨by rw [upI_k hc]; exact (h.o c hc).1, by rw [upI_2]; exact (h.o c hc).2⟩, fun i hi => by rw [upI_j (by omega)]; exact h.i i hi⟩
theorem FTc.o (h : FTc u u') : o1 u u' := h.c
theorem FTm.k (h : FTm v v') : FMk v v' := ⟨h.c, fun j hj => h.i j (by omega) (by omega) (by omega) (by omega)⟩
theorem srt_le : srt s.2 t ≤ 5 := by
  unfold srt
  repeat' split
  all_goals omega
theorem srt_1 : srt s.2 t = 1 ↔ isNm s.2 t := by
  unfold srt
  constructor
  · intro h
    split at h
    · omega
    · split at h
      · next h1 =>
        split at h
        · next h2 =>
          split at h
          · next h3 => exact ⟨h1, h2, h3⟩
          · omega
        · omega
      · split at h
        · split at h <;> omega
        · split at h <;> omega
  · rintro ⟨h1, h2, h3⟩
    rw [if_neg (by omega), if_pos h1, if_pos h2, if_pos h3]
theorem srt_3 : srt s.2 t = 3 ↔ isNu t := by
  unfold srt
  constructor
  · intro h
    split at h
    · omega
    · split at h
      · split at h
        · split at h <;> omega
        · omega
      · split at h
        · next h1 =>
          split at h
          · next h2 => exact ⟨h1, h2⟩
          · omega
        · split at h <;> omega
  · rintro ⟨h1, h2⟩
    rw [if_neg (by omega), if_neg (by omega), if_pos h1, if_pos h2]
theorem srt_4 (hV : TKV s.2 s.1 t) : srt s.2 t = 4 ↔ isSc s.2 t := by
  have h3 := hV.s
  unfold srt
  constructor
  · intro h
    split at h
    · omega
    · split at h
      · split at h
        · split at h <;> omega
        · omega
      · split at h
        · split at h <;> omega
        · split at h
          · next h5 => exact ⟨by omega, h5⟩
          · omega
  · rintro ⟨h1, h2⟩
    rw [if_neg (by omega), if_neg (by omega), if_neg (by omega), if_pos h2]
theorem srt_0 : srt s.2 t = 0 ↔ t.1 = 0 := by
  unfold srt
  constructor
  · intro h
    split at h
    · assumption
    · split at h
      · split at h
        · split at h <;> omega
        · omega
      · split at h
        · split at h <;> omega
        · split at h <;> omega
  · intro h
    rw [if_pos h]
theorem TKc.s_iff (h : TKc s.2 t u) {k : Nat} (hk : k < 2 ^ 31) : u.1 1 3 = nI k ↔ srt s.2 t = k := by
  have := srt_le (s := s) (t := t)
  rw [h.s, nI_eq (by omega) hk]
theorem c_refuse {k : Nat} (h : Pc s t u) : ∃ u', X9_refuse (nI k) u = some (nI 0, u') ∧ Fc k t.2.1 u' ∧ o1 u u' := by
  refine ⟨upI (upI u 1 1 (nI k)) 1 2 (nI t.2.1), ?_, ⟨by rw [upI_j (by omega), upI_at], upI_at⟩, o1.rf.I.I⟩
  unfold X9_refuse X9_refuse_b13
  rw [upI_j (by omega), h.tk.p]
  rfl
theorem c_step (hS : TS s) (hV : TKV s.2 s.1 t) (h : Pc s t u) : ∃ u', X9_step u = some u' ∧ Pc s (nx s t) u' ∧ FTc u u' := by
  obtain ⟨u', e, f, k⟩ := q_step hS.l hS.b h.tp h.tk.q hV.m
  exact ⟨u', e, ⟨h.tp.mv f, k, by rw [f.i 1 (by omega) (by omega) (by omega) (by omega) (by omega)]; exact h.f, by rw [f.i 2 (by omega) (by omega) (by omega) (by omega) (by omega)]; exact h.g⟩, f⟩
theorem nx_V (hV : TKV s.2 s.1 t) : TKV s.2 s.1 (nx s t) ∧ t.2.2 ≤ (nx s t).2.1 := tkN_V hV.m
theorem m_fails {k : Nat} (h : Pm s t v) : ∃ v', X12_fails (nI k) v = some (nI 0, v') ∧ Fm k t.2.1 v' ∧ FMk v v' := by
  refine ⟨upI (upI v 0 23 (nI k)) 0 24 (nI t.2.1), ?_, ⟨by rw [upI_j (by omega), upI_at], upI_at⟩, (FMk.rf.I (by omega)).I (by omega)⟩
  unfold X12_fails X12_fails_b20
  rw [if_pos (show v.1 0 23 = 0 from h.f), upI_j (by omega), h.tk.p]
  rfl
theorem m_step (hS : TS s) (hV : TKV s.2 s.1 t) (h : Pm s t v) : ∃ v', X12_next v = some v' ∧ Pm s (nx s t) v' ∧ FTm v v' := by
  obtain ⟨v', e, f, k⟩ := m_next hS.l hS.b h.tp h.tk.q hV.m
  exact ⟨v', e, ⟨h.tp.mv f, k, by rw [f.i 23 (by omega) (by omega) (by omega) (by omega)]; exact h.f, by rw [f.i 24 (by omega) (by omega) (by omega) (by omega)]; exact h.g⟩, f⟩
/-- the model's words that are no NAMES -/
theorem m_packed_l {i : Nat} (hi : i < 22) (h1 : 1 ≤ i) : ∀ (f k : Nat), k ≤ kl (jd i) → kl (jd i) - k < f → X12_packed_l4 v f i (lN (cv (nmF (fun x => wsW (ko (jd i) + x) - 96) k))) (nI k) = some (lN (cv (kwc (jd i)))) := by
  obtain ⟨hj, hl⟩ := ws_id i hi h1
  obtain ⟨f1, f2, f3, f4, f5, f6⟩ := kf_1 _ hj
  intro f
  induction f with
  | zero => intro k h1 h2; omega
  | succ f ih =>
    intro k h2 h3
    unfold X12_packed_l4 X12_packed_b4
    rw [bnd hl]
    by_cases h4 : k = kl (jd i)
    · rw [h4, if_pos (Int32.le_refl _), f6]
    · have hk : k < kl (jd i) := by omega
      have hc := kf_2 _ hj k hk
      have hx : nmF (fun x => wsW (ko (jd i) + x) - 96) k < 27 ^ k := nmF_lt (fun x hx => by have := kf_2 _ hj x (by omega); omega)
      have hx2 : cv (nmF (fun x => wsW (ko (jd i) + x) - 96) k) < 2 ^ 50 := by
        have a1 := cv_lt k _ hx
        have a2 : 32 ^ k ≤ 32 ^ 8 := Nat.pow_le_pow_right (by omega) (by omega)
        omega
      rw [if_neg (show ¬ nI (kl (jd i)) ≤ nI k by rw [nI_leI (by omega) (by omega)]; omega), bnd (ws_idc i hi h1 k hk), show (96 : Int32) = nI 96 from rfl, pk_sub (show 96 ≤ wsW (ko (jd i) + k) by omega), nI_64 (by omega), sh5 hx2 (by omega), nI_s]
      have e := ih (k + 1) (by omega) (by omega)
      rw [nmF_s, Nat.mul_comm _ 27, cv_s _ _ (by omega) (by omega)] at e
      exact e
theorem m_packed {i : Nat} (hi : i < 22) (h1 : 1 ≤ i) : X12_packed v i = some (lN (cv (kwc (jd i)))) := by
  obtain ⟨hj, hl⟩ := ws_id i hi h1
  obtain ⟨f1, f2, f3, f4, f5, f6⟩ := kf_1 _ hj
  have e := m_packed_l (v := v) hi h1 fz 0 (Nat.zero_le _) (fz_lt (by omega))
  unfold X12_packed
  rw [show nmF (fun x => wsW (ko (jd i) + x) - 96) 0 = 0 from rfl, cv_0] at e
  exact e
theorem kwc_lt {j : Nat} (hj : j < 21) : kwc j < 27 ^ 8 := by
  obtain ⟨f1, f2, f3, f4, f5, f6⟩ := kf_1 j hj
  rw [← f6]
  exact Nat.lt_of_lt_of_le (nmF_lt (fun i hi => by have := kf_2 j hj i hi; omega)) (Nat.pow_le_pow_right (by omega) (by omega))
theorem tkw_iff {j : Nat} (hj : j < 21) (hV : TKV s.2 s.1 t) : tkw s.2 t = some j ↔ t.1 = 1 ∧ t.2.2 - t.2.1 = kl j ∧ tnm s.2 t = kwc j := by
  obtain ⟨f1, f2, f3, f4, f5, f6⟩ := kf_1 j hj
  constructor
  · intro h
    obtain ⟨h1, h2⟩ := tkw_w h
    unfold tkw at h
    rw [if_pos ⟨h1, h2⟩, kwS_iff hj] at h
    have h3 : tnm s.2 t = nmF (fun i => s.2 (t.2.1 + i) - 96) (min (t.2.2 - t.2.1) 8) := if_pos h1
    have h4 := (wMt_iff (B := s.2) hj hV.l (hV.w h1).2).mpr ⟨h2, by rw [h, h3]⟩
    exact ⟨h1, by have := h4.2; omega, h.symm⟩
  · rintro ⟨h1, h2, h3⟩
    unfold tkw
    rw [if_pos ⟨h1, by omega⟩, kwS_iff hj, h3]
theorem m_isWord {i : Nat} (hi : i < 22) (h1 : 1 ≤ i) (hV : TKV s.2 s.1 t) (hs : s.1 ≤ 700) (h : TKm s.2 t v) : X12_isWord v i = some (b2 (tkw s.2 t = some (jd i))) := by
  obtain ⟨hj, hl⟩ := ws_id i hi h1
  obtain ⟨f1, f2, f3, f4, f5, f6⟩ := kf_1 _ hj
  have hm := hV.m
  have hll := hV.l
  have hss := hV.s
  have e1 := tkw_iff hj hV
  unfold X12_isWord X12_isWord_b40 X12_isWord_b41
  rw [h.s, h.q, h.p, pk_sub hll, h.w, bnd hl, bnd (m_packed hi h1)]
  by_cases g1 : t.1 = 1
  · rw [if_pos (show nI t.1 = 1 by rw [g1]; rfl)]
    by_cases g2 : t.2.2 - t.2.1 = kl (jd i)
    · rw [if_pos (show nI (t.2.2 - t.2.1) = nI (kl (jd i)) by rw [g2])]
      have a1 := cv_62 (tnm_lt hV)
      have a2 := cv_62 (kwc_lt hj)
      by_cases g3 : tnm s.2 t = kwc (jd i)
      · rw [if_pos (show lg_cmp (lN (cv (tnm s.2 t))) (lN (cv (kwc (jd i)))) = 0 by rw [nI_lit, lg_eq, g3]), b2_t (e1.mpr ⟨g1, g2, g3⟩)]
        rfl
      · rw [if_neg (show ¬ lg_cmp (lN (cv (tnm s.2 t))) (lN (cv (kwc (jd i)))) = 0 by rw [nI_lit, lg_eq, lN_eqI (by omega) (by omega), cv_eq]; exact g3), b2_f (fun z => g3 (e1.mp z).2.2)]
        rfl
    · rw [if_neg (show ¬ nI (t.2.2 - t.2.1) = nI (kl (jd i)) by rw [nI_eq (by omega) (by omega)]; exact g2), b2_f (fun z => g2 (e1.mp z).2.1)]
      rfl
  · rw [if_neg (show ¬ nI t.1 = 1 by rw [nI_lit, nI_eq (by omega) (by omega)]; exact g1), b2_f (fun z => g1 (e1.mp z).1)]
    rfl
/-- which KIND a WORD is -/
def tkd (B : Nat → Nat) (t : tkT) : Option Nat := match tkw B t with
  | none => none
  | some j => if j < 5 then some j else none
theorem m_kindHere (hV : TKV s.2 s.1 t) (hs : s.1 ≤ 700) (h : TKm s.2 t v) : X12_kindHere v = some (oI (tkd s.2 t)) := by
  have w : ∀ i, i < 22 → 1 ≤ i → X12_isWord v i = some (b2 (tkw s.2 t = some (jd i))) := fun i a b => m_isWord a b hV hs h
  unfold X12_kindHere X12_kindHere_b66 tkd
  rw [bnd (w 10 (by omega) (by omega)), bnd (w 11 (by omega) (by omega)), bnd (w 12 (by omega) (by omega)), bnd (w 13 (by omega) (by omega)), bnd (w 14 (by omega) (by omega))]
  rw [show jd 10 = 0 from rfl, show jd 11 = 1 from rfl, show jd 12 = 2 from rfl, show jd 13 = 3 from rfl, show jd 14 = 4 from rfl]
  cases hk : tkw s.2 t with
  | none => rfl
  | some j =>
    have hj := tkw_lt hk
    by_cases h5 : j < 5
    · rcases (show j = 0 ∨ j = 1 ∨ j = 2 ∨ j = 3 ∨ j = 4 by omega) with rfl | rfl | rfl | rfl | rfl <;> rfl
    · have no : ∀ i, i < 5 → b2 (some j = some i) = nI 0 := fun i hi => b2_f (fun z => by have := Option.some.inj z; omega)
      rw [no 0 (by omega), no 1 (by omega), no 2 (by omega), no 3 (by omega), no 4 (by omega)]
      simp only
      rw [if_neg h5]
      rfl
theorem m_isOwn (hV : TKV s.2 s.1 t) (hs : s.1 ≤ 700) (h : TKm s.2 t v) : X12_isOwn v = some (b2 (tkw s.2 t ≠ none)) := by
  have w : ∀ i, i < 22 → 1 ≤ i → X12_isWord v i = some (b2 (tkw s.2 t = some (jd i))) := fun i a b => m_isWord a b hV hs h
  unfold X12_isOwn X12_isOwn_b152 X12_isOwn_b157
  rw [bnd (w 1 (by omega) (by omega)), bnd (w 2 (by omega) (by omega)), bnd (w 3 (by omega) (by omega)), bnd (w 4 (by omega) (by omega)), bnd (w 5 (by omega) (by omega)), bnd (w 6 (by omega) (by omega)), bnd (w 7 (by omega) (by omega)), bnd (w 8 (by omega) (by omega)), bnd (w 9 (by omega) (by omega)), bnd (m_kindHere hV hs h), bnd (w 15 (by omega) (by omega)), bnd (w 16 (by omega) (by omega)), bnd (w 17 (by omega) (by omega)), bnd (w 18 (by omega) (by omega)), bnd (w 19 (by omega) (by omega)), bnd (w 20 (by omega) (by omega)), bnd (w 21 (by omega) (by omega))]
  unfold tkd
  cases hk : tkw s.2 t with
  | none => rfl
  | some j =>
    have hj := tkw_lt hk
    rcases (show j = 0 ∨ j = 1 ∨ j = 2 ∨ j = 3 ∨ j = 4 ∨ j = 5 ∨ j = 6 ∨ j = 7 ∨ j = 8 ∨ j = 9 ∨ j = 10 ∨ j = 11 ∨ j = 12 ∨ j = 13 ∨ j = 14 ∨ j = 15 ∨ j = 16 ∨ j = 17 ∨ j = 18 ∨ j = 19 ∨ j = 20 by omega) with rfl | rfl | rfl | rfl | rfl | rfl | rfl | rfl | rfl | rfl | rfl | rfl | rfl | rfl | rfl | rfl | rfl | rfl | rfl | rfl | rfl <;> rfl
theorem m_isName (hV : TKV s.2 s.1 t) (hs : s.1 ≤ 700) (h : TKm s.2 t v) : X12_isName v = some (b2 (isNm s.2 t)) := by
  have hm := hV.m
  have hll := hV.l
  have hss := hV.s
  unfold X12_isName X12_isName_b33 X12_isName_b34
  rw [h.s, h.q, h.p, pk_sub hll, bnd (m_isOwn hV hs h)]
  by_cases g1 : t.1 = 1
  · rw [if_pos (show nI t.1 = 1 by rw [g1]; rfl)]
    by_cases g2 : t.2.2 - t.2.1 ≤ 8
    · rw [if_neg (show ¬ (8 : Int32) < nI (t.2.2 - t.2.1) by rw [nI_lit, nI_ltI (by omega) (by omega)]; omega)]
      by_cases g3 : tkw s.2 t = none
      · rw [b2_f (show ¬ tkw s.2 t ≠ none from fun z => z g3), if_pos z00, b2_t ⟨g1, g2, g3⟩]
        rfl
      · rw [b2_t (show tkw s.2 t ≠ none from g3), if_neg n10, b2_f (fun z => g3 z.2.2)]
        rfl
    · rw [if_pos (show (8 : Int32) < nI (t.2.2 - t.2.1) by rw [nI_lit, nI_ltI (by omega) (by omega)]; omega), b2_f (fun z => g2 z.2.1)]
      rfl
  · rw [if_neg (show ¬ nI t.1 = 1 by rw [nI_lit, nI_eq (by omega) (by omega)]; exact g1), b2_f (fun z => g1 z.1)]
    rfl
end PR
