/-! a BANK FAILS: what it brings -/
section WN
variable {T : gT} {N : gN} {b : Nat}
/-- whether place i is a SHARE that is NOW AT the BANK -/
def inF (T : gT) (N : gN) (b i : Nat) : Bool := decide (i / 4 < T 0 2) && (decide (nowS N (T 2 (i / 4)) = b) && decide (i % 4 < T 5 (i / 4)))
theorem inF_iff {i : Nat} : inF T N b i = true ↔ i / 4 < T 0 2 ∧ nowS N (T 2 (i / 4)) = b ∧ i % 4 < T 5 (i / 4) := by
  unfold inF
  simp only [Bool.and_eq_true, decide_eq_true_eq]
theorem inF_ak {a k : Nat} (hk : k < 4) : inF T N b (a * 4 + k) = true ↔ a < T 0 2 ∧ nowS N (T 2 a) = b ∧ k < T 5 a := by
  rw [inF_iff, show (a * 4 + k) / 4 = a by omega, show (a * 4 + k) % 4 = k by omega]
/-- a row, what is SET OFF, what is left of the LOAN -/
abbrev tT : Type := (Nat → Nat) × (Nat → Nat) × Nat
def soS (T : gT) (N : gN) (b p i : Nat) (s : tT) : tT := if inF T N b i = true ∧ T 7 i = p then (upN s.1 i (s.1 i - min s.2.2 (s.1 i)), upN s.2.1 i (s.2.1 i + min s.2.2 (s.1 i)), s.2.2 - min s.2.2 (s.1 i)) else s
theorem soS_y {p i : Nat} {s : tT} (h : inF T N b i = true ∧ T 7 i = p) : soS T N b p i s = (upN s.1 i (s.1 i - min s.2.2 (s.1 i)), upN s.2.1 i (s.2.1 i + min s.2.2 (s.1 i)), s.2.2 - min s.2.2 (s.1 i)) := if_pos h
theorem soS_n {p i : Nat} {s : tT} (h : ¬ (inF T N b i = true ∧ T 7 i = p)) : soS T N b p i s = s := if_neg h
def soL (T : gT) (N : gN) (b p : Nat) : Nat → tT → tT
  | 0, s => s
  | n + 1, s => soS T N b p n (soL T N b p n s)
theorem soL_s {p n : Nat} {s : tT} : soL T N b p (n + 1) s = soS T N b p n (soL T N b p n s) := rfl
theorem soS_sum {p i : Nat} {s : tT} (j : Nat) : (soS T N b p i s).1 j + (soS T N b p i s).2.1 j = s.1 j + s.2.1 j := by
  by_cases h : inF T N b i = true ∧ T 7 i = p
  · rw [soS_y h]
    show upN _ _ _ j + upN _ _ _ j = _
    by_cases z : j = i
    · subst z; rw [upN_at, upN_at]; omega
    · rw [upN_i z, upN_i z]
  · rw [soS_n h]
theorem soS_left {p i : Nat} {s : tT} : (soS T N b p i s).2.2 ≤ s.2.2 := by
  by_cases h : inF T N b i = true ∧ T 7 i = p
  · rw [soS_y h]; show s.2.2 - _ ≤ _; omega
  · rw [soS_n h]; exact Nat.le_refl _
theorem soS_out {p i j : Nat} {s : tT} (hj : ¬ inF T N b j = true) : (soS T N b p i s).1 j = s.1 j ∧ (soS T N b p i s).2.1 j = s.2.1 j := by
  by_cases h : inF T N b i = true ∧ T 7 i = p
  · rw [soS_y h]
    have z : j ≠ i := fun z => hj (by rw [z]; exact h.1)
    exact ⟨upN_i z, upN_i z⟩
  · rw [soS_n h]; exact ⟨rfl, rfl⟩
theorem soL_sum {p : Nat} {s : tT} (j : Nat) : ∀ n, (soL T N b p n s).1 j + (soL T N b p n s).2.1 j = s.1 j + s.2.1 j
  | 0 => rfl
  | n + 1 => by rw [soL_s, soS_sum, soL_sum j n]
theorem soL_left {p : Nat} {s : tT} : ∀ n, (soL T N b p n s).2.2 ≤ s.2.2
  | 0 => Nat.le_refl _
  | n + 1 => by rw [soL_s]; exact Nat.le_trans soS_left (soL_left n)
theorem soL_out {p j : Nat} {s : tT} (hj : ¬ inF T N b j = true) : ∀ n, (soL T N b p n s).1 j = s.1 j ∧ (soL T N b p n s).2.1 j = s.2.1 j
  | 0 => ⟨rfl, rfl⟩
  | n + 1 => by
    rw [soL_s]
    exact ⟨(soS_out hj).1.trans (soL_out hj n).1, (soS_out hj).2.trans (soL_out hj n).2⟩
/-- an ACCOUNT's four places: one at most is the PERSON's -/
theorem soL_acc {a p : Nat} {s : tT} (hV : VT T) (ha : a < T 0 2) : soL T N b p (a * 4 + 4) s = (match owS T a p with
    | some k => soS T N b p (a * 4 + k) (soL T N b p (a * 4) s)
    | none => soL T N b p (a * 4) s) := by
  have hno := hV.no a ha
  cases h : owS T a p with
  | none =>
    have hk : ∀ k, k < 4 → ¬ (inF T N b (a * 4 + k) = true ∧ T 7 (a * 4 + k) = p) := by
      intro k hk z
      exact owS_none h k ((inF_ak hk).mp z.1).2.2 z.2
    show soS T N b p (a * 4 + 3) (soS T N b p (a * 4 + 2) (soS T N b p (a * 4 + 1) (soS T N b p (a * 4 + 0) (soL T N b p (a * 4) s)))) = _
    rw [soS_n (hk 0 (by omega)), soS_n (hk 1 (by omega)), soS_n (hk 2 (by omega)), soS_n (hk 3 (by omega))]
  | some j =>
    obtain ⟨h1, h2⟩ := owS_some h
    have hk : ∀ k, k < 4 → k ≠ j → ¬ (inF T N b (a * 4 + k) = true ∧ T 7 (a * 4 + k) = p) := by
      intro k hk hne z
      exact hne (hV.od a k j ha ((inF_ak hk).mp z.1).2.2 h1 (by rw [z.2, h2]))
    show soS T N b p (a * 4 + 3) (soS T N b p (a * 4 + 2) (soS T N b p (a * 4 + 1) (soS T N b p (a * 4 + 0) (soL T N b p (a * 4) s)))) = soS T N b p (a * 4 + j) _
    rcases (show j = 0 ∨ j = 1 ∨ j = 2 ∨ j = 3 by omega) with rfl | rfl | rfl | rfl
    · rw [soS_n (hk 3 (by omega) (by omega)), soS_n (hk 2 (by omega) (by omega)), soS_n (hk 1 (by omega) (by omega))]
    · rw [soS_n (hk 3 (by omega) (by omega)), soS_n (hk 2 (by omega) (by omega)), soS_n (hk 0 (by omega) (by omega))]
    · rw [soS_n (hk 3 (by omega) (by omega)), soS_n (hk 1 (by omega) (by omega)), soS_n (hk 0 (by omega) (by omega))]
    · rw [soS_n (hk 2 (by omega) (by omega)), soS_n (hk 1 (by omega) (by omega)), soS_n (hk 0 (by omega) (by omega))]
theorem soL_end {p : Nat} {s : tT} : ∀ {n : Nat}, T 0 2 * 4 ≤ n → soL T N b p n s = soL T N b p (T 0 2 * 4) s
  | 0, h => by rw [show T 0 2 * 4 = 0 by omega]
  | n + 1, h => by
    by_cases z : T 0 2 * 4 = n + 1
    · rw [z]
    · rw [soL_s, soS_n (fun w => by have := (inF_iff.mp w.1).1; omega)]
      exact soL_end (by omega)
/-- SET OFF, safe, open, what is owed of LOANS -/
abbrev wT : Type := (Nat → Nat) × (Nat → Nat) × (Nat → Nat) × (Nat → Nat)
def ln1 (T : gT) (N : gN) (b l : Nat) (s : wT) : tT := soL T N b (T 8 l) 96 (s.2.2.1, s.1, s.2.2.2 l)
def ln2 (T : gT) (N : gN) (b l : Nat) (s : wT) : tT := soL T N b (T 8 l) 96 (s.2.1, (ln1 T N b l s).2.1, (ln1 T N b l s).2.2)
def lnS (T : gT) (N : gN) (b l : Nat) (s : wT) : wT := if nowS N (T 9 l) = b then ((ln2 T N b l s).2.1, (ln2 T N b l s).1, (ln1 T N b l s).1, upN s.2.2.2 l (ln2 T N b l s).2.2) else s
theorem lnS_y {l : Nat} {s : wT} (h : nowS N (T 9 l) = b) : lnS T N b l s = ((ln2 T N b l s).2.1, (ln2 T N b l s).1, (ln1 T N b l s).1, upN s.2.2.2 l (ln2 T N b l s).2.2) := if_pos h
theorem lnS_n {l : Nat} {s : wT} (h : ¬ nowS N (T 9 l) = b) : lnS T N b l s = s := if_neg h
def lnL (T : gT) (N : gN) (b : Nat) : Nat → wT → wT
  | 0, s => s
  | n + 1, s => lnS T N b n (lnL T N b n s)
theorem lnL_s {n : Nat} {s : wT} : lnL T N b (n + 1) s = lnS T N b n (lnL T N b n s) := rfl
def w0 (T : gT) (N : gN) (b : Nat) : wT := (fun _ => 0, fun i => if inF T N b i = true then insS T N (N.1 0 0) (i / 4) (i % 4) else 0, fun i => if inF T N b i = true then shS T N (i / 4) (i % 4) - insS T N (N.1 0 0) (i / 4) (i % 4) else 0, N.1 2)
def WV (T : gT) (N : gN) (b : Nat) (s : wT) : Prop := (∀ i, i < 96 → inF T N b i = true → s.1 i + s.2.1 i + s.2.2.1 i = shS T N (i / 4) (i % 4)) ∧ (∀ i, ¬ inF T N b i = true → s.1 i = 0 ∧ s.2.1 i = 0 ∧ s.2.2.1 i = 0) ∧ (∀ l, s.2.2.2 l ≤ N.1 2 l)
theorem WV.i {T : gT} {N : gN} {b : Nat} {s : wT} (h : WV T N b s) : ∀ i, i < 96 → inF T N b i = true → s.1 i + s.2.1 i + s.2.2.1 i = shS T N (i / 4) (i % 4) := h.1
theorem WV.z {T : gT} {N : gN} {b : Nat} {s : wT} (h : WV T N b s) : ∀ i, ¬ inF T N b i = true → s.1 i = 0 ∧ s.2.1 i = 0 ∧ s.2.2.1 i = 0 := h.2.1
theorem WV.d {T : gT} {N : gN} {b : Nat} {s : wT} (h : WV T N b s) : ∀ l, s.2.2.2 l ≤ N.1 2 l := h.2.2
theorem w0_V (hV : VT T) (hVN : VN T N) : WV T N b (w0 T N b) := by
  refine ⟨fun i hi h => ?_, fun i h => ?_, fun l => Nat.le_refl _⟩
  · have h1 := inF_iff.mp h
    have h2 := insS_le (m := N.1 0 0) hV hVN h1.1 h1.2.2
    show 0 + (if inF T N b i = true then _ else 0) + (if inF T N b i = true then _ else 0) = _
    rw [if_pos h, if_pos h]
    omega
  · exact ⟨rfl, if_neg h, if_neg h⟩
theorem ln1_sum {l : Nat} {s : wT} (i : Nat) : (ln1 T N b l s).1 i + (ln1 T N b l s).2.1 i = s.2.2.1 i + s.1 i := soL_sum i 96
theorem ln2_sum {l : Nat} {s : wT} (i : Nat) : (ln2 T N b l s).1 i + (ln2 T N b l s).2.1 i = s.2.1 i + (ln1 T N b l s).2.1 i := soL_sum i 96
theorem lnS_V {l : Nat} {s : wT} (h : WV T N b s) : WV T N b (lnS T N b l s) := by
  by_cases hl : nowS N (T 9 l) = b
  · rw [lnS_y hl]
    refine ⟨fun i hi hf => ?_, fun i hf => ?_, fun k => ?_⟩
    · have h1 := h.i i hi hf
      have h2 := ln1_sum (T := T) (N := N) (b := b) (l := l) (s := s) i
      have h3 := ln2_sum (T := T) (N := N) (b := b) (l := l) (s := s) i
      show (ln2 T N b l s).2.1 i + (ln2 T N b l s).1 i + (ln1 T N b l s).1 i = _
      omega
    · have h1 := h.z i hf
      have h2 := soL_out (T := T) (N := N) (b := b) (p := T 8 l) (s := (s.2.2.1, s.1, s.2.2.2 l)) hf 96
      have h3 := soL_out (T := T) (N := N) (b := b) (p := T 8 l) (s := (s.2.1, (ln1 T N b l s).2.1, (ln1 T N b l s).2.2)) hf 96
      exact ⟨h3.2.trans (h2.2.trans h1.1), h3.1.trans h1.2.1, h2.1.trans h1.2.2⟩
    · show upN _ _ _ k ≤ _
      by_cases z : k = l
      · subst z
        rw [upN_at]
        exact Nat.le_trans (soL_left 96) (Nat.le_trans (soL_left 96) (h.d k))
      · rw [upN_i z]; exact h.d k
  · rw [lnS_n hl]; exact h
theorem lnL_V (hV : VT T) (hVN : VN T N) : ∀ n, WV T N b (lnL T N b n (w0 T N b))
  | 0 => w0_V hV hVN
  | n + 1 => lnS_V (lnL_V hV hVN n)
theorem lnL_d {k : Nat} : ∀ {n : Nat}, n ≤ k → (lnL T N b n (w0 T N b)).2.2.2 k = N.1 2 k
  | 0, _ => rfl
  | n + 1, h => by
    rw [lnL_s]
    by_cases hl : nowS N (T 9 n) = b
    · rw [lnS_y hl]
      show upN _ _ _ k = _
      rw [upN_i (by omega)]
      exact lnL_d (by omega)
    · rw [lnS_n hl]; exact lnL_d (by omega)
theorem WV.le {s : wT} (hV : VT T) (hVN : VN T N) (h : WV T N b s) {i : Nat} (hi : i < 96) : s.1 i + s.2.1 i + s.2.2.1 i ≤ 100000000 := by
  by_cases hf : inF T N b i = true
  · rw [h.i i hi hf]; exact shS_le hV hVN (inF_iff.mp hf).1
  · have := h.z i hf; omega
/-- all SET OFF; the CLAIMS; what each gets -/
def wS (T : gT) (N : gN) (b : Nat) : wT := lnL T N b (T 0 3) (w0 T N b)
def wP (T : gT) (N : gN) (b i : Nat) : Nat := if i = 96 then sumN (wS T N b).2.1 96 else (wS T N b).2.2.1 i
def wG (T : gT) (N : gN) (b e : Nat) : Nat → Nat := divS (wP T N b) 97 e
theorem wG_le {e i : Nat} (hi : i < 97) : wG T N b e i ≤ wP T N b i := divS_le hi
theorem wG_0 {e i : Nat} (hV : VT T) (hVN : VN T N) (hi : i < 96) (h : ¬ inF T N b i = true) : wG T N b e i = 0 := by
  have h1 := wG_le (T := T) (N := N) (b := b) (e := e) (i := i) (by omega)
  unfold wP at h1
  rw [if_neg (by omega), show (wS T N b).2.2.1 i = 0 from ((lnL_V hV hVN (T 0 3)).z i h).2.2] at h1
  omega
theorem wG_96 {e : Nat} : wG T N b e 96 ≤ e := by
  have h1 := divS_sum (p := wP T N b) (n := 97) (m := e)
  have h2 := sumN_at (p := divS (wP T N b) 97 e) (n := 97) (i := 96) (by omega)
  show divS (wP T N b) 97 e 96 ≤ e
  omega
def wO (T : gT) (N : gN) (b e r i : Nat) : Nat := if r = 3 then (wS T N b).1 i else if r = 4 then (wS T N b).2.1 i else if r = 5 then wG T N b e i else (wS T N b).2.2.1 i - wG T N b e i
/-- the desk behind it -/
def wN (T : gT) (N : gN) (b e : Nat) : gN := (fun r i => if r = 0 ∧ i = 1 then wG T N b e 96 else if r = 1 then (if i < T 0 2 ∧ nowS N (T 2 i) = b then 0 else N.1 1 i) else if r = 2 then (wS T N b).2.2.2 i else if r = 3 ∧ i = b then 1 else N.1 r i, fun r i => if r = 2 ∧ i = 0 then some b else if 3 ≤ r ∧ r ≤ 6 then (if inF T N b i = true then some (wO T N b e r i) else none) else N.2 r i)
theorem wO_le {e r i : Nat} (hV : VT T) (hVN : VN T N) (hi : i < 96) : wO T N b e r i ≤ 100000000 := by
  have h1 := (lnL_V (b := b) hV hVN (T 0 3)).le hV hVN hi
  have h2 := wG_le (T := T) (N := N) (b := b) (e := e) (i := i) (by omega)
  unfold wP at h2
  rw [if_neg (by omega)] at h2
  have h3 : (wS T N b).1 i + (wS T N b).2.1 i + (wS T N b).2.2.1 i ≤ 100000000 := h1
  unfold wO
  split
  · omega
  · split
    · omega
    · split <;> omega
theorem VN_fail {e : Nat} (hV : VT T) (hVN : VN T N) (hb : b < T 0 1) (he : e ≤ 100000000) : VN T (wN T N b e) := by
  have hnb := hV.nb
  have hc : ∀ k, k < 2 → (wN T N b e).2 k = N.2 k := by
    intro k hk
    funext i
    show (if k = 2 ∧ i = 0 then some b else if 3 ≤ k ∧ k ≤ 6 then _ else N.2 k i) = _
    rw [if_neg (by omega), if_neg (by omega)]
  have hr : ∀ r i, 3 ≤ r → r ≤ 6 → (wN T N b e).2 r i = if inF T N b i = true then some (wO T N b e r i) else none := by
    intro r i h1 h2
    show (if r = 2 ∧ i = 0 then some b else if 3 ≤ r ∧ r ≤ 6 then _ else N.2 r i) = _
    rw [if_neg (by omega), if_pos ⟨h1, h2⟩]
  have hfb : (wN T N b e).2 2 0 = some b := rfl
  have hmo : (wN T N b e).1 0 0 = N.1 0 0 := rfl
  refine ⟨hVN.mo, fun a ha => ?_, fun l hl => ?_, fun c hc => ?_, by rw [hc 0 (by omega)]; exact hVN.it, ?_, by rw [hc 1 (by omega)]; exact hVN.sn, fun i hi => ?_, fun h => ?_, fun r i v h3 h6 hi hv => ?_, ?_, fun c hc2 => ?_, ?_⟩
  · show (if a < T 0 2 ∧ nowS N (T 2 a) = b then 0 else N.1 1 a) ≤ _
    have := hVN.co a ha
    split <;> omega
  · have h1 := (lnL_V (b := b) hV hVN (T 0 3)).d l
    have h2 := hVN.od l hl
    show (wS T N b).2.2.2 l ≤ _
    have h3 : (wS T N b).2.2.2 l ≤ N.1 2 l := h1
    omega
  · show (if 3 = 3 ∧ c = b then 1 else N.1 3 c) ≤ 1
    have := hVN.fa c hc
    split <;> omega
  · rw [hc 0 (by omega), hc 1 (by omega), hmo]; exact hVN.si
  · rw [hr 3 i (by omega) (by omega), hr 4 i (by omega) (by omega), hr 5 i (by omega) (by omega), hr 6 i (by omega) (by omega)]
    by_cases h : inF T N b i = true <;> simp [h]
  · rw [hfb] at h; cases h
  · rw [hr r i h3 h6] at hv
    by_cases h : inF T N b i = true
    · rw [if_pos h] at hv
      cases hv
      exact wO_le hV hVN hi
    · rw [if_neg h] at hv; cases hv
  · show wG T N b e 96 ≤ _
    have := wG_96 (T := T) (N := N) (b := b) (e := e)
    omega
  · rw [hfb] at hc2; cases hc2; omega
  · have h1 := hVN.or
    have h2 : cntM (wN T N b e) = cntM N := by unfold cntM; rw [hc 0 (by omega)]
    rw [h2, hc 0 (by omega)]
    exact h1
end WN
