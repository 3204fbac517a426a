/-! a BOOK's begin -/
def D0 : gT := fun r i => if r = 0 then (if i = 4 then 250000 else if i = 5 then 6 else 0) else 0
theorem D0_V : VD D0 := by
  refine ⟨⟨Nat.zero_le _, Nat.zero_le _, Nat.zero_le _, Nat.zero_le _, ⟨by decide, by decide⟩, by decide, fun a h => absurd h (Nat.not_lt_zero _), fun a h => absurd h (Nat.not_lt_zero _), fun a h => absurd h (Nat.not_lt_zero _), fun a h => absurd h (Nat.not_lt_zero _), fun a h => absurd h (Nat.not_lt_zero _), fun a h => absurd h (Nat.not_lt_zero _), fun a k h => absurd h (Nat.not_lt_zero _), fun a k j h => absurd h (Nat.not_lt_zero _), fun a h => absurd h (Nat.not_lt_zero _), fun a h => absurd h (Nat.not_lt_zero _), fun a h => absurd h (Nat.not_lt_zero _), fun a h => absurd h (Nat.not_lt_zero _), fun a h => absurd h (Nat.not_lt_zero _), fun a h => absurd h (Nat.not_lt_zero _), fun a k h => absurd h (Nat.not_lt_zero _)⟩, fun a k h => absurd h (Nat.not_lt_zero _), fun a h => absurd h (Nat.not_lt_zero _)⟩
section BB
variable {u0 v0 u v u1 v1 : gM} {s : tpT} {t t1 : tkT} {D : gT}
theorem TPc_o (h : TPc s u) (e0 : u1.1 1 0 = u.1 1 0) (e2 : u1.1 2 = u.1 2) : TPc s u1 := ⟨by rw [e0]; exact h.l, by rw [e2]; exact h.b⟩
theorem tk0_V (hS : TS s) : TKV s.2 s.1 (tkN s.2 s.1 0) := (tkN_V (Nat.zero_le _)).1
theorem c_start (hS : TS s) (h : TPc s u) (hf : u.1 1 1 = nI 0) (hg : u.1 1 2 = -nI 1) : ∃ u1, X9_begin u = some u1 ∧ Pc s (tkN s.2 s.1 0) u1 ∧ o1 u u1 := by
  have h1 : TPc s (upI u 1 10 0) := TPc_o h (by rw [upI_j (by omega)]) (by rw [upI_k (by omega)])
  obtain ⟨u1, e, f, k⟩ := q_step (n := 0) hS.l hS.b h1 upI_at (Nat.zero_le _)
  refine ⟨u1, ?_, ⟨h1.mv f, k, by rw [f.i 1 (by omega) (by omega) (by omega) (by omega) (by omega), upI_j (by omega)]; exact hf, by rw [f.i 2 (by omega) (by omega) (by omega) (by omega) (by omega), upI_j (by omega)]; exact hg⟩, o1.rf.I.tr f.o⟩
  unfold X9_begin
  rw [bnd e]
theorem m_start (hS : TS s) (h : TPm s v) : ∃ v1, X12_begins v = some v1 ∧ Pm s (tkN s.2 s.1 0) v1 ∧ FMk v v1 := by
  have f0 : FMk v (upI (upI (upI v 0 27 0) 0 23 0) 0 24 (-1)) := ((FMk.rf.I (by omega)).I (by omega)).I (by omega)
  have h1 : TPm s (upI (upI (upI v 0 27 0) 0 23 0) 0 24 (-1)) := ⟨by rw [upI_j (by omega), upI_j (by omega), upI_j (by omega)]; exact h.l, by rw [upI_k (by omega), upI_k (by omega), upI_k (by omega)]; exact h.b⟩
  obtain ⟨v1, e, f, k⟩ := m_next (n := 0) hS.l hS.b h1 (by rw [upI_j (by omega), upI_j (by omega), upI_at]; rfl) (Nat.zero_le _)
  refine ⟨v1, ?_, ⟨h1.mv f, k, by rw [f.i 23 (by omega) (by omega) (by omega) (by omega), upI_j (by omega), upI_at]; rfl, by rw [f.i 24 (by omega) (by omega) (by omega) (by omega), upI_at]; rfl⟩, f0.tr f.k⟩
  unfold X12_begins
  rw [bnd e]
theorem c_bbegin (hS : TS s) (h : TPc s u) : ∃ u1, X0_read u = X0_read_l25 fz 1 (nI 0) u1 ∧ Pc s (tkN s.2 s.1 0) u1 ∧ RT 117 D0 u1 ∧ off sBk u u1 := by
  have hi : isO skC 117 10 = true := TOk_117.o
  generalize hw : upI (upI (upI (upI (upI (upI u 117 0 0) 117 1 0) 117 2 0) 117 3 0) 117 4 250000) 117 5 6 = w
  have e1 : X10_clear 117 u = some w := by
    unfold X10_clear X10_clear_b20
    rw [if_pos hi, if_pos hi, hw]
  have hk : ∀ c, c ≠ 117 → w.1 c = u.1 c := fun c hc => by rw [← hw, upI_k hc, upI_k hc, upI_k hc, upI_k hc, upI_k hc, upI_k hc]
  have h2 : w.2 = u.2 := by rw [← hw]; rfl
  have ow : off sBk u w := by
    rw [← hw]
    exact off_upI (Or.inr (by omega)) (off_upI (Or.inr (by omega)) (off_upI (Or.inr (by omega)) (off_upI (Or.inr (by omega)) (off_upI (Or.inr (by omega)) (off_upI (Or.inr (by omega)) off_rf)))))
  have hT : RT 117 D0 w := by
    rw [← hw]
    exact ⟨rfl, rfl, rfl, rfl, rfl, rfl, fun a h => absurd h (Nat.not_lt_zero _), fun a h => absurd h (Nat.not_lt_zero _), fun a h => absurd h (Nat.not_lt_zero _), fun a h => absurd h (Nat.not_lt_zero _), fun a h => absurd h (Nat.not_lt_zero _), fun a h => absurd h (Nat.not_lt_zero _), fun a h => absurd h (Nat.not_lt_zero _), fun a h => absurd h (Nat.not_lt_zero _), fun a h => absurd h (Nat.not_lt_zero _), fun a k h => absurd h (Nat.not_lt_zero _), fun a k h => absurd h (Nat.not_lt_zero _), fun a h => absurd h (Nat.not_lt_zero _), fun a h => absurd h (Nat.not_lt_zero _), fun a h => absurd h (Nat.not_lt_zero _)⟩
  have t1 : TPc s (upI (upI w 1 1 0) 1 2 (-1)) := TPc_o h (by rw [upI_j (by omega), upI_j (by omega), hk 1 (by omega)]) (by rw [upI_k (by omega), upI_k (by omega), hk 2 (by omega)])
  obtain ⟨u1, e2, p1, oo⟩ := c_start hS t1 (by rw [upI_j (by omega), upI_at]; rfl) (by rw [upI_at]; rfl)
  have o2 : o1 w u1 := o1.rf.I.I.tr oo
  refine ⟨u1, ?_, p1, hT.mv (fun c a _ => o2 c (by omega)), off_o1 ow o2⟩
  unfold X0_read X9_forgetFault
  rw [bnd e1, Option.bind_some, bnd e2]
  rfl
theorem m_b2 : ∀ (f k : Nat) (v : gM), k ≤ 6 → 6 - k < f → BXm v0 v → (∀ c, c ≠ 1 → v.1 c = v0.1 c) → v.2 = v0.2 → (∀ j, j < k → v.1 1 (6 + j) = nI 0) → ∃ v1, X12_book_l2 f (nI k) v = (X12_begins v1).bind (fun w43 => (if (w43.1 0 25) = 0 then (X12_book_b58 0 w43) else (X12_book_b58 1 w43))) ∧ BXm v0 v1 ∧ (∀ c, c ≠ 1 → v1.1 c = v0.1 c) ∧ v1.2 = v0.2 ∧ RTm 1 D0 v1 := by
  intro f
  induction f with
  | zero => intro k v h1 h2; omega
  | succ f ih =>
    intro k v h1 h2 hB hc h2' hz
    unfold X12_book_l2 X12_book_b2
    by_cases h4 : k = 6
    · subst h4
      refine ⟨upI (upI v 1 10 250000) 1 11 6, ?_, (hB.wI (by omega) (by omega) (by unfold lo; simp)).wI (by omega) (by omega) (by unfold lo; simp), fun c a => by rw [upI_k a, upI_k a, hc c a], by rw [upI_2, upI_2, h2'], ?_⟩
      · rw [if_pos (show (6 : Int32) ≤ nI 6 from Int32.le_refl _), bnd (show sI skM v 1 10 250000 = some (upI v 1 10 250000) from sM1 (a := 10) (by omega)), bnd (show sI skM (upI v 1 10 250000) 1 11 6 = some (upI (upI v 1 10 250000) 1 11 6) from sM1 (a := 11) (by omega))]
      · exact ⟨hz 0 (by omega), hz 1 (by omega), hz 2 (by omega), hz 3 (by omega), rfl, rfl, fun a h => absurd h (Nat.not_lt_zero _), fun a h => absurd h (Nat.not_lt_zero _), fun a h => absurd h (Nat.not_lt_zero _), fun a h => absurd h (Nat.not_lt_zero _), fun a h => absurd h (Nat.not_lt_zero _), fun a h => absurd h (Nat.not_lt_zero _), fun a h => absurd h (Nat.not_lt_zero _), fun a h => absurd h (Nat.not_lt_zero _), fun a k h => absurd h (Nat.not_lt_zero _), fun a k h => absurd h (Nat.not_lt_zero _), fun a h => absurd h (Nat.not_lt_zero _), fun a h => absurd h (Nat.not_lt_zero _), fun a h => absurd h (Nat.not_lt_zero _)⟩
    · have hz2 : ¬ (6 : Int32) ≤ nI k := by rw [nI_lit, nI_leI (by omega) (by omega)]; omega
      obtain ⟨v1, e1, p⟩ := ih (k + 1) (upI v 1 (6 + k) 0) (by omega) (by omega) (hB.wI (by omega) (by omega) (by unfold lo; simp)) (fun c a => by rw [upI_k a, hc c a]) (by rw [upI_2, h2']) (fun j hj => by
        by_cases z : j = k
        · subst z; rw [upI_at]; rfl
        · rw [upI_j (by omega)]; exact hz j (by omega))
      refine ⟨v1, ?_, p⟩
      rw [if_neg hz2, show (6 + nI k : Int32) = nI (6 + k) by rw [nI_lit, nI_add], bnd (sM1 (show 6 + k < 12 by omega)), nI_s]
      exact e1
theorem m_bbegin (hS : TS s) (h : TPm s v) : ∃ v1, X12_book v = X12_book_l59 fz (bE (tkN s.2 s.1 0)) v1 ∧ Pm s (tkN s.2 s.1 0) v1 ∧ RTm 1 D0 v1 ∧ BXm v v1 := by
  obtain ⟨v1, e1, b1, c1, d1, t1⟩ := m_b2 (v0 := v) fz 0 v (Nat.zero_le _) (fz_lt (by omega)) BXm.rf (fun _ _ => rfl) rfl (fun j hj => absurd hj (Nat.not_lt_zero _))
  obtain ⟨v2, e2, p2, f2⟩ := m_start hS (v := v1) ⟨by rw [c1 0 (by omega)]; exact h.l, by rw [c1 19 (by omega)]; exact h.b⟩
  have hV := tk0_V hS
  refine ⟨v2, ?_, p2, t1.mv (fun c a _ => f2.o c (by omega)), b1.k f2⟩
  refine Eq.trans e1 ?_
  rw [bnd e2, p2.tk.s]
  unfold X12_book_b58 bE
  by_cases z : (tkN s.2 s.1 0).1 = 0
  · rw [if_pos (show nI _ = 0 by rw [z]; rfl), if_pos z]
  · rw [if_neg (show ¬ nI (tkN s.2 s.1 0).1 = 0 by have := hV.s; rw [nI_lit, nI_eq (by omega) (by omega)]; exact z), if_neg z]
theorem b_begin (hS : TS s) (hc : TPc s u) (hm : TPm s v) : ∃ u1 v1, X0_read u = X0_read_l25 fz 1 (nI 0) u1 ∧ X12_book v = X12_book_l59 fz (bE (tkN s.2 s.1 0)) v1 ∧ BS u v s (tkN s.2 s.1 0) D0 u1 v1 := by
  obtain ⟨u1, e1, p1, t1, o1⟩ := c_bbegin hS hc
  obtain ⟨v1, e2, p2, t2, b2⟩ := m_bbegin hS hm
  exact ⟨u1, v1, e1, e2, tk0_V hS, p1, p2, t1, t2, fun a h => absurd h (Nat.not_lt_zero _), D0_V, o1, b2⟩
end BB
