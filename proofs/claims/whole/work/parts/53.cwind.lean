/-! a BANK FAILS: the class's rows -/
def FLk (x : Nat) : Prop := (isO skC x 5 = true) ∧ (rf skC x 2 = x + 1) ∧ (rf skC x 3 = x + 2) ∧ (rf skC x 4 = x + 3) ∧ (rf skC x 5 = x + 4) ∧ (rf skC x 6 = x + 5) ∧ (skC[x + 1]? = some (.inr (0, 96, []))) ∧ (skC[x + 2]? = some (.inr (0, 96, []))) ∧ (skC[x + 3]? = some (.inr (0, 96, []))) ∧ (skC[x + 4]? = some (.inr (0, 96, []))) ∧ (skC[x + 5]? = some (.inr (0, 10, []))) ∧ (x = 24 ∨ x = 156)
theorem FLk.o {x : Nat} (h : FLk x) : isO skC x 5 = true := h.1
theorem FLk.f2 {x : Nat} (h : FLk x) : rf skC x 2 = x + 1 := h.2.1
theorem FLk.f3 {x : Nat} (h : FLk x) : rf skC x 3 = x + 2 := h.2.2.1
theorem FLk.f4 {x : Nat} (h : FLk x) : rf skC x 4 = x + 3 := h.2.2.2.1
theorem FLk.f5 {x : Nat} (h : FLk x) : rf skC x 5 = x + 4 := h.2.2.2.2.1
theorem FLk.f6 {x : Nat} (h : FLk x) : rf skC x 6 = x + 5 := h.2.2.2.2.2.1
theorem FLk.a1 {x : Nat} (h : FLk x) : skC[x + 1]? = some (.inr (0, 96, [])) := h.2.2.2.2.2.2.1
theorem FLk.a2 {x : Nat} (h : FLk x) : skC[x + 2]? = some (.inr (0, 96, [])) := h.2.2.2.2.2.2.2.1
theorem FLk.a3 {x : Nat} (h : FLk x) : skC[x + 3]? = some (.inr (0, 96, [])) := h.2.2.2.2.2.2.2.2.1
theorem FLk.a4 {x : Nat} (h : FLk x) : skC[x + 4]? = some (.inr (0, 96, [])) := h.2.2.2.2.2.2.2.2.2.1
theorem FLk.a5 {x : Nat} (h : FLk x) : skC[x + 5]? = some (.inr (0, 10, [])) := h.2.2.2.2.2.2.2.2.2.2.1
theorem FLk.l {x : Nat} (h : FLk x) : x = 24 ∨ x = 156 := h.2.2.2.2.2.2.2.2.2.2.2
theorem FLk_24 : FLk 24 := ⟨by decide, by decide, by decide, by decide, by decide, by decide, by decide, by decide, by decide, by decide, by decide, Or.inl rfl⟩
theorem FLk_156 : FLk 156 := ⟨by decide, by decide, by decide, by decide, by decide, by decide, by decide, by decide, by decide, by decide, by decide, Or.inr rfl⟩
def sW (x c : Nat) : Prop := (x ≤ c ∧ c ≤ x + 5) ∨ (146 ≤ c ∧ c ≤ 149)
theorem aI_cg {sk : List gE} {u u' : gM} {r : Nat} (h : u'.1 r = u.1 r) : aI sk u' r = aI sk u r := by
  funext i
  unfold aI
  rw [h]
theorem isMerged_cg {u u' : gM} (h : u'.1 21 = u.1 21) : X8_isMerged u' 18 = X8_isMerged u 18 := by
  funext x
  simp only [X8_isMerged_b25, X8_isMerged_b24, X8_isMerged, isO_C18, rf_C18_1, rf_C18_2, rf_C18_3, rf_C18_4, rf_C18_5, rf_C18_6, aI_cg h]
theorem nowAt_l_cg {u u' : gM} (h : u'.1 21 = u.1 21) : ∀ (n : Nat) (x y : Int32), X8_nowAt_l4 u' n 18 x y = X8_nowAt_l4 u n 18 x y := by
  intro n
  induction n with
  | zero => intro x y; rfl
  | succ n ih =>
    intro x y
    unfold X8_nowAt_l4 X8_nowAt_b4 X8_nowAt_b31
    simp only [isO_C18, rf_C18_1, rf_C18_2, rf_C18_3, rf_C18_4, rf_C18_5, rf_C18_6, isMerged_cg h, aI_cg h, ih]
theorem aF_at {u : gM} {r a : Nat} (h : skC[r]? = some (.inr (0, 96, []))) (ha : a < 96) : aI skC u r (nI a) = some (u.1 r a) := aI_at h (by decide) ha
theorem nowAt_cg {u u' : gM} (h : u'.1 21 = u.1 21) : X8_nowAt u' 18 = X8_nowAt u 18 := by
  funext x
  unfold X8_nowAt
  exact nowAt_l_cg h fz x 0
theorem share_cg {u u' : gM} (h : u'.1 11 = u.1 11) (h2 : u'.1 19 = u.1 19) : X1_share u' = X1_share u := by
  funext x y
  simp only [X1_share_b45, X1_share, aI_cg h, aI_cg h2]
def pv (P : Nat → Bool) (g : Nat → Nat) (j : Nat) : Option Nat := if P j = true then some (g j) else none
theorem pv_1 {P : Nat → Bool} {g : Nat → Nat} {j : Nat} (h : P j = true) : pv P g j = some (g j) := if_pos h
theorem pv_0 {P : Nat → Bool} {g : Nat → Nat} {j : Nat} (h : ¬ P j = true) : pv P g j = none := if_neg h
theorem pv_cg {P : Nat → Bool} {g g' : Nat → Nat} {j : Nat} (h : g j = g' j) : pv P g j = pv P g' j := by unfold pv; rw [h]
def sv (P : Nat → Bool) (g : Nat → Nat) (i j : Nat) : Option Nat := if j < i ∧ P j = true then some (g j) else none
theorem sv_skip {P : Nat → Bool} {g : Nat → Nat} {i j : Nat} (h : ¬ P i = true) : sv P g (i + 1) j = sv P g i j := by
  unfold sv
  by_cases z : j < i ∧ P j = true
  · rw [if_pos z, if_pos ⟨by omega, z.2⟩]
  · rw [if_neg z, if_neg]
    rintro ⟨z1, z2⟩
    by_cases w : j = i
    · subst w; exact h z2
    · exact z ⟨by omega, z2⟩
theorem sv_ne {P : Nat → Bool} {g : Nat → Nat} {i j : Nat} (h : j ≠ i) : sv P g (i + 1) j = sv P g i j := by
  unfold sv
  by_cases z : j < i ∧ P j = true
  · rw [if_pos z, if_pos ⟨by omega, z.2⟩]
  · rw [if_neg z, if_neg (fun w => z ⟨by omega, w.2⟩)]
theorem sv_at {P : Nat → Bool} {g : Nat → Nat} {i : Nat} (h : P i = true) : sv P g (i + 1) i = some (g i) := if_pos ⟨by omega, h⟩
theorem sv_z {P : Nat → Bool} {g : Nat → Nat} {j : Nat} : sv P g 0 j = none := if_neg (fun z => absurd z.1 (Nat.not_lt_zero _))
theorem sv_e {P : Nat → Bool} {g : Nat → Nat} {i j : Nat} (h : j < i) : sv P g i j = pv P g j := by
  unfold sv pv
  by_cases z : P j = true
  · rw [if_pos z, if_pos ⟨h, z⟩]
  · rw [if_neg z, if_neg (fun w => z w.2)]
section CW
variable {T : gT} {N : gN} {b x : Nat} {u v u0 : gM}
theorem q_fclear (hk : FLk x) {w : Int32} : ∃ u', X5_clear x w u = some u' ∧ off (fun c => x ≤ c ∧ c ≤ x + 4) u u' ∧ u'.1 x 0 = w ∧ u'.2 x 1 = lN 0 ∧ ∀ r i, x + 1 ≤ r → r ≤ x + 4 → i < 96 → u'.1 r i = -nI 1 := by
  obtain ⟨u1, e1, f1, o1⟩ := q_fill (x := -nI 1) (u := upJ (upI u x 0 w) x 1 (lN 0)) hk.a1 (by decide)
  obtain ⟨u2, e2, f2, o2⟩ := q_fill (x := -nI 1) (u := u1) hk.a2 (by decide)
  obtain ⟨u3, e3, f3, o3⟩ := q_fill (x := -nI 1) (u := u2) hk.a3 (by decide)
  obtain ⟨u4, e4, f4, o4⟩ := q_fill (x := -nI 1) (u := u3) hk.a4 (by decide)
  have p1 : ∀ c, c ≠ x + 1 → u1.1 c = (upJ (upI u x 0 w) x 1 (lN 0)).1 c ∧ u1.2 c = (upJ (upI u x 0 w) x 1 (lN 0)).2 c := fun c hc => o1 c hc
  have p2 : ∀ c, c ≠ x + 2 → u2.1 c = u1.1 c ∧ u2.2 c = u1.2 c := fun c hc => o2 c hc
  have p3 : ∀ c, c ≠ x + 3 → u3.1 c = u2.1 c ∧ u3.2 c = u2.2 c := fun c hc => o3 c hc
  have p4 : ∀ c, c ≠ x + 4 → u4.1 c = u3.1 c ∧ u4.2 c = u3.2 c := fun c hc => o4 c hc
  refine ⟨u4, ?_, fun c hc => ?_, ?_, ?_, fun r i h1 h2 hi => ?_⟩
  · unfold X5_clear
    rw [if_pos hk.o, hk.f2, hk.f3, hk.f4, hk.f5, nI_lit, lN_lit, bnd e1, bnd e2, bnd e3, bnd e4]
  · have hc2 : ¬ (x ≤ c ∧ c ≤ x + 4) := hc
    refine ⟨?_, ?_⟩
    · rw [(p4 c (by omega)).1, (p3 c (by omega)).1, (p2 c (by omega)).1, (p1 c (by omega)).1, upJ_1, upI_k (by omega)]
    · rw [(p4 c (by omega)).2, (p3 c (by omega)).2, (p2 c (by omega)).2, (p1 c (by omega)).2, upJ_k (by omega), upI_2]
  · rw [(p4 x (by omega)).1, (p3 x (by omega)).1, (p2 x (by omega)).1, (p1 x (by omega)).1, upJ_1, upI_at]
  · rw [(p4 x (by omega)).2, (p3 x (by omega)).2, (p2 x (by omega)).2, (p1 x (by omega)).2, upJ_at]
  · rcases (show r = x + 1 ∨ r = x + 2 ∨ r = x + 3 ∨ r = x + 4 by omega) with rfl | rfl | rfl | rfl
    · rw [(p4 _ (by omega)).1, (p3 _ (by omega)).1, (p2 _ (by omega)).1]; exact f1 i hi
    · rw [(p4 _ (by omega)).1, (p3 _ (by omega)).1]; exact f2 i hi
    · rw [(p4 _ (by omega)).1]; exact f3 i hi
    · exact f4 i hi
/-- what stays while a failing is worked out -/
def CW0 (T : gT) (N : gN) (u : gM) : Prop := (RT 3 T u) ∧ (∀ h, h < 6 → X8_nowAt u 18 (nI h) = some (nI (nowS N h))) ∧ (∀ a k, a < T 0 2 → k < T 5 a → X1_share u (nI a) (nI k) = some (nI (shS T N a k))) ∧ (∀ a k, a < T 0 2 → k < T 5 a → u.1 137 (a * 4 + k) = nI (insS T N (N.1 0 0) a k)) ∧ (∀ l, l < T 0 3 → u.1 20 l = nI (N.1 2 l))
theorem CW0.t {T : gT} {N : gN} {u : gM} (h : CW0 T N u) : RT 3 T u := h.1
theorem CW0.n {T : gT} {N : gN} {u : gM} (h : CW0 T N u) : ∀ h, h < 6 → X8_nowAt u 18 (nI h) = some (nI (nowS N h)) := h.2.1
theorem CW0.s {T : gT} {N : gN} {u : gM} (h : CW0 T N u) : ∀ a k, a < T 0 2 → k < T 5 a → X1_share u (nI a) (nI k) = some (nI (shS T N a k)) := h.2.2.1
theorem CW0.i {T : gT} {N : gN} {u : gM} (h : CW0 T N u) : ∀ a k, a < T 0 2 → k < T 5 a → u.1 137 (a * 4 + k) = nI (insS T N (N.1 0 0) a k) := h.2.2.2.1
theorem CW0.o {T : gT} {N : gN} {u : gM} (h : CW0 T N u) : ∀ l, l < T 0 3 → u.1 20 l = nI (N.1 2 l) := h.2.2.2.2
theorem CW0.mk0 (hV : VT T) (hVN : VN T N) (hT : RT 3 T u) (hN : RN 18 T N u) (hi : ∀ a k, a < T 0 2 → k < T 5 a → u.1 137 (a * 4 + k) = nI (insS T N (N.1 0 0) a k)) : CW0 T N u :=
  ⟨hT, fun _ hh => q_nowAt hV hN hVN hh, fun _ _ ha hk => q_share hV hT hN hVN ha hk, hi, hN.od⟩
theorem CW0.mv (hk : FLk x) (h : CW0 T N u0) (ho : off (sW x) u0 u) : CW0 T N u := by
  have hl := hk.l
  have e : ∀ c, c < 24 ∨ c = 137 → u.1 c = u0.1 c ∧ u.2 c = u0.2 c := fun c hc => ho c (by
    intro z
    have z1 : (x ≤ c ∧ c ≤ x + 5) ∨ (146 ≤ c ∧ c ≤ 149) := z
    omega)
  refine ⟨h.t.mv (fun c _ h2 => e c (by omega)), fun i hi => ?_, fun a k ha hk => ?_, fun a k ha hk => ?_, fun l hl => ?_⟩
  · rw [nowAt_cg (e 21 (by omega)).1]; exact h.n i hi
  · rw [share_cg (e 11 (by omega)).1 (e 19 (by omega)).1]; exact h.s a k ha hk
  · rw [(e 137 (by omega)).1]; exact h.i a k ha hk
  · rw [(e 20 (by omega)).1]; exact h.o l hl
def SPL (T : gT) (N : gN) (b x i : Nat) (u : gM) : Prop := (∀ j, j < 96 → u.1 (x + 1) j = oI (sv (inF T N b) (fun _ => 0) i j)) ∧ (∀ j, j < 96 → u.1 (x + 2) j = oI (sv (inF T N b) (w0 T N b).2.1 i j)) ∧ (∀ j, j < 96 → u.1 (x + 3) j = oI (sv (inF T N b) (fun _ => 0) i j)) ∧ (∀ j, j < 96 → u.1 (x + 4) j = oI (sv (inF T N b) (w0 T N b).2.2.1 i j))
theorem SPL.o {T : gT} {N : gN} {b x i : Nat} {u : gM} (h : SPL T N b x i u) : ∀ j, j < 96 → u.1 (x + 1) j = oI (sv (inF T N b) (fun _ => 0) i j) := h.1
theorem SPL.p {T : gT} {N : gN} {b x i : Nat} {u : gM} (h : SPL T N b x i u) : ∀ j, j < 96 → u.1 (x + 2) j = oI (sv (inF T N b) (w0 T N b).2.1 i j) := h.2.1
theorem SPL.d {T : gT} {N : gN} {b x i : Nat} {u : gM} (h : SPL T N b x i u) : ∀ j, j < 96 → u.1 (x + 3) j = oI (sv (inF T N b) (fun _ => 0) i j) := h.2.2.1
theorem SPL.l {T : gT} {N : gN} {b x i : Nat} {u : gM} (h : SPL T N b x i u) : ∀ j, j < 96 → u.1 (x + 4) j = oI (sv (inF T N b) (w0 T N b).2.2.1 i j) := h.2.2.2
theorem SPL.skip {i : Nat} (h : SPL T N b x i u) (hf : ¬ inF T N b i = true) : SPL T N b x (i + 1) u :=
  ⟨fun j hj => by rw [sv_skip hf]; exact h.o j hj, fun j hj => by rw [sv_skip hf]; exact h.p j hj, fun j hj => by rw [sv_skip hf]; exact h.d j hj, fun j hj => by rw [sv_skip hf]; exact h.l j hj⟩
theorem SPL.skips {i : Nat} (h : SPL T N b x i u) : ∀ (n : Nat), (∀ j, i ≤ j → j < i + n → ¬ inF T N b j = true) → SPL T N b x (i + n) u
  | 0, _ => h
  | n + 1, hf => (SPL.skips h n (fun j h1 h2 => hf j h1 (by omega))).skip (hf _ (by omega) (by omega))
theorem SPL.set {i : Nat} (h : SPL T N b x i u) (hf : inF T N b i = true) : SPL T N b x (i + 1) (upI (upI (upI (upI u (x + 1) i (nI 0)) (x + 2) i (nI ((w0 T N b).2.1 i))) (x + 3) i (nI 0)) (x + 4) i (nI ((w0 T N b).2.2.1 i))) := by
  refine ⟨fun j hj => ?_, fun j hj => ?_, fun j hj => ?_, fun j hj => ?_⟩
  · rw [upI_k (by omega), upI_k (by omega), upI_k (by omega)]
    by_cases z : j = i
    · subst z; rw [upI_at, sv_at hf]; rfl
    · rw [upI_j z, sv_ne z]; exact h.o j hj
  · rw [upI_k (by omega), upI_k (by omega)]
    by_cases z : j = i
    · subst z; rw [upI_at, sv_at hf]; rfl
    · rw [upI_j z, sv_ne z, upI_k (by omega)]; exact h.p j hj
  · rw [upI_k (by omega)]
    by_cases z : j = i
    · subst z; rw [upI_at, sv_at hf]; rfl
    · rw [upI_j z, sv_ne z, upI_k (by omega), upI_k (by omega)]; exact h.d j hj
  · by_cases z : j = i
    · subst z; rw [upI_at, sv_at hf]; rfl
    · rw [upI_j z, sv_ne z, upI_k (by omega), upI_k (by omega), upI_k (by omega)]; exact h.l j hj
theorem q_split38 {k2 : Nat → Int32 → gM → Option gM} {a : Nat} (hV : VT T) (hVN : VN T N) (hk : FLk x) (h0 : CW0 T N u0) (ha : a < T 0 2) (hab : nowS N (T 2 a) = b) : ∀ (f k : Nat) (u : gM), k ≤ T 5 a → T 5 a - k < f → off (sW x) u0 u → SPL T N b x (a * 4 + k) u → ∃ u', X3_split_l38 k2 f x (nI a) (nI k) u = k2 x (nI (a + 1)) u' ∧ off (sW x) u0 u' ∧ SPL T N b x (a * 4 + 4) u' ∧ u'.1 x = u.1 x ∧ u'.2 x = u.2 x := by
  have hna := hV.na
  have hno := hV.no a ha
  have hl := hk.l
  intro f
  induction f with
  | zero => intro k u h1 h2; omega
  | succ f ih =>
    intro k u h1 h2 ho hs
    have hc := h0.mv hk ho
    have hT5 := hc.t.no a ha
    simp only [Nat.reduceAdd] at hT5
    unfold X3_split_l38 X3_split_b38 X3_split_b124
    by_cases h4 : k = T 5 a
    · refine ⟨u, ?_, ho, ?_, rfl, rfl⟩
      · rw [bnd (aC11 (by omega)), hT5, h4, if_pos (Int32.le_refl _), nI_s]
      · have := hs.skips (4 - k) (fun j j1 j2 => by
          rw [show j = a * 4 + (j - a * 4) by omega, inF_ak (by omega)]
          rintro ⟨_, _, z⟩
          omega)
        rw [show a * 4 + k + (4 - k) = a * 4 + 4 by omega] at this
        exact this
    · have hkk : k < T 5 a := by omega
      have hi : a * 4 + k < 96 := by omega
      have hf : inF T N b (a * 4 + k) = true := (inF_ak (by omega)).mpr ⟨ha, hab, hkk⟩
      have hz : ¬ (nI (T 5 a) : Int32) ≤ nI k := by rw [nI_leI (by omega) (by omega)]; omega
      have ei : (nI a * 4 + nI k : Int32) = nI (a * 4 + k) := by rw [nI_lit, pk_mul, nI_add]
      have w1 : (w0 T N b).2.1 (a * 4 + k) = insS T N (N.1 0 0) a k := by
        show (if inF T N b (a * 4 + k) = true then _ else 0) = _
        rw [if_pos hf, show (a * 4 + k) / 4 = a by omega, show (a * 4 + k) % 4 = k by omega]
      have w2 : (w0 T N b).2.2.1 (a * 4 + k) = shS T N a k - insS T N (N.1 0 0) a k := by
        show (if inF T N b (a * 4 + k) = true then _ else 0) = _
        rw [if_pos hf, show (a * 4 + k) / 4 = a by omega, show (a * 4 + k) % 4 = k by omega]
      have hle := insS_le (m := N.1 0 0) hV hVN ha hkk
      have hS := hs.set hf
      rw [w1, w2] at hS
      have i1 : (upI u (x + 1) (a * 4 + k) (nI 0)).1 137 (a * 4 + k) = nI (insS T N (N.1 0 0) a k) := by rw [upI_k (by omega)]; exact hc.i a k ha hkk
      have o3 : off (sW x) u0 (upI (upI (upI u (x + 1) (a * 4 + k) (nI 0)) (x + 2) (a * 4 + k) (nI (insS T N (N.1 0 0) a k))) (x + 3) (a * 4 + k) (nI 0)) := off_upI (Or.inl ⟨by omega, by omega⟩) (off_upI (Or.inl ⟨by omega, by omega⟩) (off_upI (Or.inl ⟨by omega, by omega⟩) ho))
      have hc3 := h0.mv hk o3
      obtain ⟨u', e, o4, q4, y1, y2⟩ := ih (k + 1) _ (by omega) (by omega) (off_upI (k := x + 4) (j := a * 4 + k) (x := nI (shS T N a k - insS T N (N.1 0 0) a k)) (Or.inl ⟨by omega, by omega⟩) o3) hS
      refine ⟨u', ?_, o4, q4, ?_, ?_⟩
      · rw [bnd (aC11 (by omega)), hT5, if_neg hz, if_pos hk.o, ei, hk.f2, hk.f3, hk.f4, hk.f5, nI_lit, bnd (sI_at hk.a1 (by omega) hi), bnd (aC137 hi), i1, bnd (sI_at hk.a2 (by omega) hi), bnd (sI_at hk.a3 (by omega) hi), bnd (hc3.s a k ha hkk), bnd (aC137 hi), hc3.i a k ha hkk, pk_sub hle, bnd (sI_at hk.a4 (by omega) hi), nI_s]
        exact e
      · rw [y1, upI_k (by omega), upI_k (by omega), upI_k (by omega), upI_k (by omega)]
      · rw [y2, upI_2, upI_2, upI_2, upI_2]
theorem q_split2 (hV : VT T) (hVN : VN T N) (hk : FLk x) (h0 : CW0 T N u0) (hb : b < 6) : ∀ (f a : Nat) (u : gM), a ≤ T 0 2 → T 0 2 - a < f → off (sW x) u0 u → u.1 x 0 = nI b → SPL T N b x (a * 4) u → ∃ u', X3_split_l2 f x (nI a) u = some u' ∧ off (sW x) u0 u' ∧ SPL T N b x 96 u' ∧ u'.1 x 0 = nI b ∧ u'.2 x = u.2 x := by
  have hna := hV.na
  intro f
  induction f with
  | zero => intro a u h1 h2; omega
  | succ f ih =>
    intro a u h1 h2 ho hx hs
    have hc := h0.mv hk ho
    unfold X3_split_l2 X3_split_b2 X3_split_b124
    by_cases h4 : a = T 0 2
    · refine ⟨u, ?_, ho, ?_, hx, rfl⟩
      · rw [hc.t.na, h4, if_pos (Int32.le_refl _)]
      · have := hs.skips (96 - a * 4) (fun j j1 j2 => by
          rw [inF_iff]
          rintro ⟨z, _⟩
          omega)
        rw [show a * 4 + (96 - a * 4) = 96 by omega] at this
        exact this
    · have ha : a < T 0 2 := by omega
      have hz : ¬ (u.1 3 2) ≤ nI a := by rw [hc.t.na, nI_leI (by omega) (by omega)]; omega
      have hh := hc.t.hm a ha
      simp only [Nat.reduceAdd] at hh
      have h6 := hm_lt hV ha
      have e1 : X8_nowAt u 18 (u.1 8 a) = some (nI (nowS N (T 2 a))) := by rw [hh]; exact hc.n _ h6
      have hn6 : nowS N (T 2 a) < 6 := by have := nowF_nb hVN hV 6 (T 2 a) (hV.hm a ha); have := hV.nb; unfold nowS; omega
      rw [if_neg hz, bnd (aC8 (by omega)), bnd e1, if_pos hk.o, hx]
      by_cases hab : nowS N (T 2 a) = b
      · obtain ⟨u1, e2, o2, s2, y1, y2⟩ := q_split38 (k2 := X3_split_l2 f) hV hVN hk h0 ha hab fz 0 u (Nat.zero_le _) (fz_lt (by have := hV.no a ha; omega)) ho hs
        rw [show a * 4 + 4 = (a + 1) * 4 by omega] at s2
        obtain ⟨u', e, o4, q4, x4, z4⟩ := ih (a + 1) u1 (by omega) (by omega) o2 (by rw [y1]; exact hx) s2
        refine ⟨u', ?_, o4, q4, x4, z4.trans y2⟩
        rw [if_pos (by rw [hab]), nI_lit]
        exact e2.trans e
      · have hs2 := hs.skips 4 (fun j j1 j2 => by
          rw [inF_iff, show j / 4 = a by omega]
          rintro ⟨_, z, _⟩
          exact hab z)
        rw [show a * 4 + 4 = (a + 1) * 4 by omega] at hs2
        obtain ⟨u', e, o4, q4, x4, z4⟩ := ih (a + 1) u (by omega) (by omega) ho hx hs2
        refine ⟨u', ?_, o4, q4, x4, z4⟩
        rw [if_neg (by rw [nI_eq (by omega) (by omega)]; exact hab), nI_s]
        exact e
/-- one LOAN against one row -/
theorem q_so_l {r p : Nat} {s0 : tT} (hV : VT T) (hk : FLk x) (hr : r = x + 2 ∨ r = x + 4) (hp : p < T 0 0) (hb1 : ∀ j, j < 96 → s0.1 j + s0.2.1 j ≤ 100000000) (hb2 : s0.2.2 ≤ 100000000) (hT : RT 3 T u0) : ∀ (f a : Nat) (u : gM), a ≤ T 0 2 → T 0 2 - a < f → off (fun c => c = x + 1 ∨ c = r) u0 u → (∀ j, j < 96 → u.1 (x + 1) j = oI (pv (inF T N b) (soL T N b p (a * 4) s0).2.1 j)) → (∀ j, j < 96 → u.1 r j = oI (pv (inF T N b) (soL T N b p (a * 4) s0).1 j)) →
    ∃ u', X3_setOff_l7 f x r (nI p) (nI (soL T N b p (a * 4) s0).2.2) (nI a) u = some (nI (soL T N b p 96 s0).2.2, u') ∧ off (fun c => c = x + 1 ∨ c = r) u0 u' ∧ (∀ j, j < 96 → u'.1 (x + 1) j = oI (pv (inF T N b) (soL T N b p 96 s0).2.1 j)) ∧ (∀ j, j < 96 → u'.1 r j = oI (pv (inF T N b) (soL T N b p 96 s0).1 j)) := by
  have hna := hV.na
  have hl := hk.l
  have hnp := hV.np
  have har : skC[r]? = some (.inr (0, 96, [])) := by rcases hr with rfl | rfl; exact hk.a2; exact hk.a4
  intro f
  induction f with
  | zero => intro a u h1 h2; omega
  | succ f ih =>
    intro a u h1 h2 ho ho1 hr1
    have hT1 : RT 3 T u := hT.mv (fun c c1 c2 => ho c (by intro z; have z1 : c = x + 1 ∨ c = r := z; omega))
    unfold X3_setOff_l7 X3_setOff_b7 X3_setOff_b96
    by_cases h4 : a = T 0 2
    · rw [soL_end (n := 96) (by omega), ← h4]
      refine ⟨u, ?_, ho, ho1, hr1⟩
      rw [hT1.na, h4, if_pos (Int32.le_refl _)]
    · have ha : a < T 0 2 := by omega
      have hno := hV.no a ha
      have hz : ¬ (u.1 3 2) ≤ nI a := by rw [hT1.na, nI_leI (by omega) (by omega)]; omega
      have hacc := soL_acc (N := N) (b := b) (p := p) (s := s0) hV ha
      rw [if_neg hz, bnd (q_ownerOf hV hT1 ha hp)]
      have go : soL T N b p ((a + 1) * 4) s0 = soL T N b p (a * 4) s0 → ∃ u', X3_setOff_l7 f x r (nI p) (nI (soL T N b p (a * 4) s0).2.2) (nI a + 1) u = some (nI (soL T N b p 96 s0).2.2, u') ∧ off (fun c => c = x + 1 ∨ c = r) u0 u' ∧ (∀ j, j < 96 → u'.1 (x + 1) j = oI (pv (inF T N b) (soL T N b p 96 s0).2.1 j)) ∧ (∀ j, j < 96 → u'.1 r j = oI (pv (inF T N b) (soL T N b p 96 s0).1 j)) := by
        intro hq
        have e := ih (a + 1) u (by omega) (by omega) ho (by rw [hq]; exact ho1) (by rw [hq]; exact hr1)
        rw [hq] at e
        rw [nI_s]
        exact e
      have e4 : (a + 1) * 4 = a * 4 + 4 := by omega
      cases hw : owS T a p with
      | none =>
        rw [hw] at hacc
        rw [if_pos (show oI none = -1 from rfl)]
        exact go (by rw [e4]; exact hacc)
      | some k =>
        obtain ⟨k1, k2⟩ := owS_some hw
        rw [hw] at hacc
        have hi : a * 4 + k < 96 := by omega
        have ei : (nI a * 4 + nI k : Int32) = nI (a * 4 + k) := by rw [nI_lit, pk_mul, nI_add]
        rw [if_neg (show ¬ oI (some k) = -1 by rw [oI_some, nI_lit, nI_m1 (by omega)]; exact id), if_pos hk.o, oI_some, ei, hk.f2, bnd (aF_at hk.a1 hi), ho1 _ hi]
        by_cases hf : inF T N b (a * 4 + k) = true
        · have hsum := soL_sum (T := T) (N := N) (b := b) (p := p) (s := s0) (a * 4 + k) (a * 4)
          have hlf := soL_left (T := T) (N := N) (b := b) (p := p) (s := s0) (a * 4)
          have hb3 := hb1 _ hi
          have hS : soL T N b p (a * 4 + 4) s0 = _ := hacc.trans (soS_y ⟨hf, k2⟩)
          generalize hg : soL T N b p (a * 4) s0 = s at *
          have m0 : mnI (nI s.2.2) (nI (s.1 (a * 4 + k))) = nI (min s.2.2 (s.1 (a * 4 + k))) := mnI_N (by omega) (by omega)
          have r1 : u.1 r (a * 4 + k) = nI (s.1 (a * 4 + k)) := by rw [hr1 _ hi, pv_1 hf]; rfl
          have e1 : (upI u r (a * 4 + k) (nI (s.1 (a * 4 + k) - min s.2.2 (s.1 (a * 4 + k))))).1 (x + 1) (a * 4 + k) = nI (s.2.1 (a * 4 + k)) := by
            rw [upI_k (by omega), ho1 _ hi, pv_1 hf]; rfl
          have e := ih (a + 1) (upI (upI u r (a * 4 + k) (nI (s.1 (a * 4 + k) - min s.2.2 (s.1 (a * 4 + k))))) (x + 1) (a * 4 + k) (nI (s.2.1 (a * 4 + k) + min s.2.2 (s.1 (a * 4 + k))))) (by omega) (by omega) (off_upI (Or.inl rfl) (off_upI (Or.inr rfl) ho)) (fun j hj => by
            rw [e4, hS]
            show _ = oI (pv _ (upN _ _ _) j)
            by_cases z : j = a * 4 + k
            · subst z; rw [upI_at, pv_1 hf, upN_at]; rfl
            · rw [upI_j z, upI_k (by omega), ho1 j hj]
              rw [pv_cg (g' := s.2.1) (upN_i z)]) (fun j hj => by
            rw [e4, hS]
            show _ = oI (pv _ (upN _ _ _) j)
            by_cases z : j = a * 4 + k
            · subst z; rw [upI_k (by omega), upI_at, pv_1 hf, upN_at]; rfl
            · rw [upI_k (by omega), upI_j z, hr1 j hj]
              rw [pv_cg (g' := s.1) (upN_i z)])
          rw [e4, hS] at e
          rw [pv_1 hf, oI_some, if_neg (show ¬ (nI (s.2.1 (a * 4 + k)) : Int32) = -1 by rw [nI_lit, nI_m1 (by omega)]; exact id), bnd (aF_at har hi), bnd (aF_at har hi), r1, m0, pk_sub (Nat.min_le_right _ _), bnd (sI_at har (by omega) hi), bnd (aF_at hk.a1 hi), e1, nI_add, bnd (sI_at hk.a1 (by omega) hi), pk_sub (Nat.min_le_left _ _), nI_s]
          exact e
        · rw [pv_0 hf, if_pos (show oI none = -1 from rfl)]
          exact go (by rw [e4]; exact hacc.trans (soS_n (fun z => hf z.1)))
end CW
