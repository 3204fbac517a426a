/-! Arrays.fill and Failing.clear in any world -/
def FG_b5 (sk : List gE) (k5 : Nat → Int32 → Int32 → Int32 → gM → Option gM) (x0 : Nat) (x1 : Int32) (x2 : Int32) (x3 : Int32) (u : gM) : Option gM :=
(if x3 ≤ x2 then some u
  else ((sI sk u x0 x2 x1).bind fun u13 => (k5 x0 x1 (x2 + 1) x3 u13)))
def FG_l5 (sk : List gE)  : Nat → Nat → Int32 → Int32 → Int32 → gM → Option gM
  | 0, _, _, _, _, _ => none
  | n + 1, x0, x1, x2, x3, u => FG_b5 sk  (FG_l5 sk  n) x0 x1 x2 x3 u
def FG (sk : List gE)  (x0 : Nat) (x1 : Int32) (u : gM) : Option gM :=
((aL sk x0).bind fun v3 => (FG_l5 sk fz x0 x1 0 v3 u))
set_option maxRecDepth 20000 in
theorem v_FG_b5 {sk : List gE} {κ : gK} {B : Nat} {u : gM} (X : gX κ B sk cJ7_fill_53178 4 RJ7 none 0 0) {k5 : Nat → Int32 → Int32 → Int32 → gM → Option gM} (ih5 : ∀ (x0 : Nat) (x1 : Int32) (x2 : Int32) (x3 : Int32) (u : gM) (w : gM), k5 x0 x1 x2 x3 u = some w → gV κ B sk 4 ((none), w) 5 [some (.ref (B + x0)), some (.int x1), some (.int x2), some (.int x3)] [] u) {x0 : Nat} {x1 : Int32} {x2 : Int32} {x3 : Int32} {w : gM} (hM : FG_b5 sk k5 x0 x1 x2 x3 u = some w) : gV κ B sk 4 ((none), w) 5 [some (.ref (B + x0)), some (.int x1), some (.int x2), some (.int x3)] [] u := by
  unfold FG_b5 at hM
  refine g_iload_n X dJ7_fill_53178_5 rfl ?_
  refine g_iload_n X dJ7_fill_53178_6 rfl ?_
  refine g_icmp_ge (tgt := 20) X dJ7_fill_53178_7 (by decide) (fun c7 => ?_) (fun c7 => ?_)
  · rw [if_pos c7] at hM
    cases hM
    exact g_vret X dJ7_fill_53178_20
  · rw [if_neg c7] at hM
    refine g_aload_n X dJ7_fill_53178_10 rfl ?_
    refine g_iload_n X dJ7_fill_53178_11 rfl ?_
    refine g_iload_n X dJ7_fill_53178_12 rfl ?_
    obtain ⟨u13, e13, hM⟩ := bind_of hM
    refine g_iastore X e13 dJ7_fill_53178_13 ?_
    refine g_iinc (d := 1) X [some (.ref (B + x0)), some (.int x1), some (.int (x2 + 1)), some (.int x3)] dJ7_fill_53178_14 (by decide) rfl (by decide) rfl ?_
    refine g_goto (tgt := 5) X dJ7_fill_53178_17 (by decide) ?_
    refine g_mk [true, true, true, true] [some (.ref (B + x0)), some (.int x1), some (.int (x2 + 1)), some (.int x3)] rfl ?_
    exact ih5 x0 x1 (x2 + 1) x3 u13 _ hM
theorem v_FG_l5 {sk : List gE} {κ : gK} {B : Nat} (X : gX κ B sk cJ7_fill_53178 4 RJ7 none 0 0)   : ∀ (n : Nat) {x0 : Nat} {x1 : Int32} {x2 : Int32} {x3 : Int32} {u : gM} {w : gM} (hM : FG_l5 sk  n x0 x1 x2 x3 u = some w), gV κ B sk 4 ((none), w) 5 [some (.ref (B + x0)), some (.int x1), some (.int x2), some (.int x3)] [] u := by
  intro n
  induction n with
  | zero => intro x0 x1 x2 x3 u w hM; exact nomatch (show (none : Option gM) = some w from hM)
  | succ n ihn => intro x0 x1 x2 x3 u w hM; exact v_FG_b5 X  (fun x0 x1 x2 x3 u w h => ihn h) hM
set_option maxRecDepth 20000 in
theorem v_FG {sk : List gE} {κ : gK} {B : Nat} {u : gM} (X : gX κ B sk cJ7_fill_53178 4 RJ7 none 0 0)   {x0 : Nat} {x1 : Int32} {w : gM} (ht : ∀ (t n : Nat) (rs : List Nat), sk[x0]? = some (.inr (t, n, rs)) → t < 4) (hM : FG sk x0 x1 u = some w) : gV κ B sk 4 ((none), w) 0 [some (.ref (B + x0)), some (.int x1), none, none] [] u := by
  unfold FG at hM
  refine g_iconst X (v := 0) dJ7_fill_53178_0 (by decide) ?_
  refine g_istore_n X [some (.ref (B + x0)), some (.int x1), some (.int 0), none] dJ7_fill_53178_1 (by decide) rfl ?_
  refine g_aload_n X dJ7_fill_53178_2 rfl ?_
  obtain ⟨v3, e3, hM⟩ := bind_of hM
  refine g_alen X e3 dJ7_fill_53178_3 ht ?_
  refine g_istore_n X [some (.ref (B + x0)), some (.int x1), some (.int 0), some (.int v3)] dJ7_fill_53178_4 (by decide) rfl ?_
  refine g_mk [true, true, true, true] [some (.ref (B + x0)), some (.int x1), some (.int 0), some (.int v3)] rfl ?_
  exact v_FG_l5 X  fz hM
theorem s_FG {sk : List gE} {x0 : Nat} {x1 : Int32} {u : gM} {w : gM} (ht : ∀ (t n : Nat) (rs : List Nat), sk[x0]? = some (.inr (t, n, rs)) → t < 4) (hM : FG sk x0 x1 u = some w) : gMet sk yJ7_fill_53178 cJ7_fill_53178 4 none 0 0 (fun B adK => [.ref (B + x0), .int x1]) u ((fun _ => none), w) := by
  refine gMet.of (by decide) (fun _ _ => Nat.le_of_ble_eq_true rfl) (fun κ B X => ?_)
  have X : gX κ B sk cJ7_fill_53178 4 RJ7 none 0 0 := X
  refine g_mk [true, true, false, false] [some (.ref (B + x0)), some (.int x1), none, none] rfl ?_
  exact v_FG X ht hM
theorem fr_FG_b5 {sk : List gE} {S : Nat → Prop} {u0 u : gM} {x0 : Nat} {x1 : Int32} {x2 : Int32} {x3 : Int32} (hs0 : S x0) {k5 : Nat → Int32 → Int32 → Int32 → gM → Option gM} (ik5 : ∀ (x0 : Nat) (x1 : Int32) (x2 : Int32) (x3 : Int32) (u : gM) (w : gM), S x0 → off S u0 u → k5 x0 x1 x2 x3 u = some w → off S u0 w) {w : gM} (hM : FG_b5 sk k5 x0 x1 x2 x3 u = some w) (h0 : off S u0 u) : off S u0 w := by
  unfold FG_b5 at hM
  by_cases c7 : x3 ≤ x2
  · rw [if_pos c7] at hM
    cases hM
    exact h0
  · rw [if_neg c7] at hM
    obtain ⟨u13, e13, hM⟩ := bind_of hM
    have h0 := off_sI hs0 e13 h0
    exact ik5 _ _ _ _ _ _ hs0 h0 hM
theorem fr_FG_l5 {sk : List gE} {S : Nat → Prop} {u0 : gM}   : ∀ (n : Nat) {x0 : Nat} {x1 : Int32} {x2 : Int32} {x3 : Int32} (hs0 : S x0) {u : gM} {w : gM} (h0 : off S u0 u) (hM : FG_l5 sk  n x0 x1 x2 x3 u = some w), off S u0 w := by
  intro n
  induction n with
  | zero => intro x0 x1 x2 x3 hs0 u w h0 hM; exact nomatch (show (none : Option gM) = some w from hM)
  | succ n ihn => intro x0 x1 x2 x3 hs0 u w h0 hM; exact fr_FG_b5 hs0  (fun x0 x1 x2 x3 _ _ hs0 h0 h => ihn hs0 h0 h) hM h0
theorem fr_FG {sk : List gE} {S : Nat → Prop} {u0 u : gM} {x0 : Nat} {x1 : Int32} (hs0 : S x0)   {w : gM} (hM : FG sk x0 x1 u = some w) (h0 : off S u0 u) : off S u0 w := by
  unfold FG at hM
  obtain ⟨v3, e3, hM⟩ := bind_of hM
  exact fr_FG_l5  fz hs0 h0 hM
theorem q_FG_l {sk : List gE} {n : Nat} {x : Int32} {r : Nat} (hsk : sk[r]? = some (.inr (0, n, []))) (hn : n < 4000) {u0 : gM} : ∀ (f i : Nat) (u : gM), i ≤ n → n - i < f → off (fun c => c = r) u0 u → (∀ j, j < i → u.1 r j = x) → ∃ u', FG_l5 sk f r x (nI i) (nI n) u = some u' ∧ ∀ j, j < n → u'.1 r j = x := by
  intro f
  induction f with
  | zero => intro i u h1 h2; omega
  | succ f ih =>
    intro i u h1 h2 ho h3
    unfold FG_l5 FG_b5
    by_cases h4 : i = n
    · refine ⟨u, ?_, by rw [← h4]; exact h3⟩
      rw [h4, if_pos (Int32.le_refl _)]
    · obtain ⟨u', e, h⟩ := ih (i + 1) (upI u r i x) (by omega) (by omega) (off_upI rfl ho) (by
        intro j hj
        by_cases hji : j = i
        · subst hji; simp [upI_e]
        · simp [upI_e, hji, h3 j (by omega)])
      refine ⟨u', ?_, h⟩
      rw [if_neg (by rw [nI_leI (by omega) (by omega)]; omega), sI_at hsk (by omega) (by omega), Option.bind_some, nI_lit, nI_add]
      exact e
theorem q_FG {sk : List gE} {n : Nat} {x : Int32} {r : Nat} {u : gM} (h : sk[r]? = some (.inr (0, n, []))) (hn : n < 4000) : ∃ u', FG sk r x u = some u' ∧ (∀ j, j < n → u'.1 r j = x) ∧ off (fun c => c = r) u u' := by
  obtain ⟨u', e, h1⟩ := q_FG_l (x := x) h hn (u0 := u) fz 0 u (Nat.zero_le _) (fz_lt (by omega)) off_rf (fun j hj => absurd hj (Nat.not_lt_zero _))
  have e2 : FG sk r x u = some u' := by
    unfold FG
    rw [show aL sk r = some (nI n) by unfold aL; rw [h]; rfl, Option.bind_some, nI_lit]
    exact e
  exact ⟨u', e2, h1, fr_FG (S := fun c => c = r) rfl e2 off_rf⟩
theorem s_clrG {sk : List gE} {x0 r2 r3 r4 r5 r6 : Nat} {b : Int32} {u : gM} (he : sk[x0]? = some (.inl (5, [0, 1, r2 + 3, r3 + 3, r4 + 3, r5 + 3, r6 + 3]))) (h2 : sk[r2]? = some (.inr (0, 96, []))) (h3 : sk[r3]? = some (.inr (0, 96, []))) (h4 : sk[r4]? = some (.inr (0, 96, []))) (h5 : sk[r5]? = some (.inr (0, 96, []))) : ∃ w : gM, gMet sk yX5_clear cX5_clear 2 none 1 23 (fun B adK => [.ref (B + x0), .int b]) u ((fun _ => none), w) ∧ off (fun c => c = x0 ∨ c = r2 ∨ c = r3 ∨ c = r4 ∨ c = r5) u w := by
  obtain ⟨w1, e1, -, o1⟩ := q_FG (x := -1) (u := upJ (upI u x0 0 b) x0 1 0) h2 (by omega)
  obtain ⟨w2, e2, -, o2⟩ := q_FG (x := -1) (u := w1) h3 (by omega)
  obtain ⟨w3, e3, -, o3⟩ := q_FG (x := -1) (u := w2) h4 (by omega)
  obtain ⟨w4, e4, -, o4⟩ := q_FG (x := -1) (u := w3) h5 (by omega)
  refine ⟨w4, ?_, off_tr (off_upJ (Or.inl rfl) (off_upI (Or.inl rfl) off_rf)) (off_tr (off_mono o1 (fun c hc => Or.inr (Or.inl hc))) (off_tr (off_mono o2 (fun c hc => Or.inr (Or.inr (Or.inl hc)))) (off_tr (off_mono o3 (fun c hc => Or.inr (Or.inr (Or.inr (Or.inl hc))))) (off_mono o4 (fun c hc => Or.inr (Or.inr (Or.inr (Or.inr hc))))))))⟩
  refine gMet.of (by decide) (fun _ _ => Nat.le_of_ble_eq_true rfl) (fun κ B X => ?_)
  have X : gX κ B sk cX5_clear 2 RX5 none 1 23 := X
  have kt : ∀ {r : Nat}, sk[r]? = some (.inr (0, 96, [])) → ∀ (t n : Nat) (rs : List Nat), sk[r]? = some (.inr (t, n, rs)) → t < 4 := fun h t n rs q => by
    rw [h] at q
    cases q
    decide
  refine g_mk [true, true] [some (.ref (B + x0)), some (.int b)] rfl ?_
  refine g_aload_n X dX5_clear_0 rfl ?_
  refine g_iload_n X dX5_clear_1 rfl ?_
  refine g_putI X fX5_9 gc_X5 gp_X5_0 he rfl dX5_clear_2 ?_
  refine g_aload_n X dX5_clear_5 rfl ?_
  refine g_lconst (v := 0) X dX5_clear_6 (by decide) ?_
  refine g_putJ X fX5_35 gc_X5 gp_X5_1 he rfl dX5_clear_7 ?_
  refine g_aload_n X dX5_clear_10 rfl ?_
  refine g_getR X fX5_15 he rfl dX5_clear_11 ?_
  refine g_iconst X (v := (-1)) dX5_clear_14 (by decide) ?_
  refine g_callSv X (fun B adK => [.ref (B + r2), .int (-1)]) (s_FG (kt h2) e1) cvX5_39 rfl rfl (Nat.le_of_ble_eq_true rfl) ⟨by decide, by decide⟩ dX5_clear_15 ?_
  refine g_aload_n X dX5_clear_18 rfl ?_
  refine g_getR X fX5_19 he rfl dX5_clear_19 ?_
  refine g_iconst X (v := (-1)) dX5_clear_22 (by decide) ?_
  refine g_callSv X (fun B adK => [.ref (B + r3), .int (-1)]) (s_FG (kt h3) e2) cvX5_39 rfl rfl (Nat.le_of_ble_eq_true rfl) ⟨by decide, by decide⟩ dX5_clear_23 ?_
  refine g_aload_n X dX5_clear_26 rfl ?_
  refine g_getR X fX5_22 he rfl dX5_clear_27 ?_
  refine g_iconst X (v := (-1)) dX5_clear_30 (by decide) ?_
  refine g_callSv X (fun B adK => [.ref (B + r4), .int (-1)]) (s_FG (kt h4) e3) cvX5_39 rfl rfl (Nat.le_of_ble_eq_true rfl) ⟨by decide, by decide⟩ dX5_clear_31 ?_
  refine g_aload_n X dX5_clear_34 rfl ?_
  refine g_getR X fX5_25 he rfl dX5_clear_35 ?_
  refine g_iconst X (v := (-1)) dX5_clear_38 (by decide) ?_
  refine g_callSv X (fun B adK => [.ref (B + r5), .int (-1)]) (s_FG (kt h5) e4) cvX5_39 rfl rfl (Nat.le_of_ble_eq_true rfl) ⟨by decide, by decide⟩ dX5_clear_39 ?_
  exact g_vret X dX5_clear_42
