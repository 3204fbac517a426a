/-! GROUPS -/
theorem off_tr {S : Nat → Prop} {u v w : gM} (h1 : off S u v) (h2 : off S v w) : off S u w := fun c hc => ⟨(h2 c hc).1.trans (h1 c hc).1, (h2 c hc).2.trans (h1 c hc).2⟩
theorem off_rf {S : Nat → Prop} {u : gM} : off S u u := fun _ _ => ⟨rfl, rfl⟩
theorem off_mono {S S' : Nat → Prop} {u v : gM} (h : off S u v) (hs : ∀ c, S c → S' c) : off S' u v := fun c hc => h c (fun z => hc (hs c z))
theorem RT.mv {t : Nat} {T : gT} {u u' : gM} (h : RT t T u) (e : ∀ c, t ≤ c → c ≤ t + 14 → u'.1 c = u.1 c ∧ u'.2 c = u.2 c) : RT t T u' := by
  unfold RT at *
  rw [(e t (by omega) (by omega)).1, (e (t + 1) (by omega) (by omega)).2, (e (t + 2) (by omega) (by omega)).2, (e (t + 3) (by omega) (by omega)).2, (e (t + 4) (by omega) (by omega)).1, (e (t + 5) (by omega) (by omega)).1, (e (t + 6) (by omega) (by omega)).1, (e (t + 7) (by omega) (by omega)).1, (e (t + 8) (by omega) (by omega)).1, (e (t + 9) (by omega) (by omega)).1, (e (t + 10) (by omega) (by omega)).1, (e (t + 11) (by omega) (by omega)).2, (e (t + 12) (by omega) (by omega)).1, (e (t + 13) (by omega) (by omega)).1, (e (t + 14) (by omega) (by omega)).1]
  exact h
theorem RN.mv {s : Nat} {T : gT} {N : gN} {u u' : gM} (h : RN s T N u) (e : ∀ c, s ≤ c → c ≤ s + 11 → u'.1 c = u.1 c ∧ u'.2 c = u.2 c) : RN s T N u' := by
  unfold RN at *
  rw [(e s (by omega) (by omega)).1, (e (s + 1) (by omega) (by omega)).1, (e (s + 2) (by omega) (by omega)).1, (e (s + 3) (by omega) (by omega)).1, (e (s + 4) (by omega) (by omega)).1, (e (s + 5) (by omega) (by omega)).1, (e (s + 6) (by omega) (by omega)).1, (e (s + 6) (by omega) (by omega)).2, (e (s + 7) (by omega) (by omega)).1, (e (s + 8) (by omega) (by omega)).1, (e (s + 9) (by omega) (by omega)).1, (e (s + 10) (by omega) (by omega)).1]
  exact h
/-- what only the desk's questions write -/
def sX (c : Nat) : Prop := 137 ≤ c
theorem RT_sX {T : gT} {u u' : gM} (h : RT 3 T u) (e : off sX u u') : RT 3 T u' := h.mv (fun c _ h2 => e c (by intro z; have z1 : 137 ≤ c := z; omega))
theorem RN_sX {T : gT} {N : gN} {u u' : gM} (h : RN 18 T N u) (e : off sX u u') : RN 18 T N u' := h.mv (fun c _ h2 => e c (by intro z; have z1 : 137 ≤ c := z; omega))
/-- whether the ACCOUNT is in the GROUP of a PERSON, a KIND, a BANK in a MONTH -/
def inG (T : gT) (N : gN) (p kd b m a : Nat) : Prop := T 1 a = kd ∧ owS T a p ≠ none ∧ cntS T N a m = b
def gB (T : gT) (N : gN) (p kd b m a : Nat) : Bool := decide (T 1 a = kd) && (owS T a p).isSome && decide (cntS T N a m = b)
theorem gB_iff {T : gT} {N : gN} {p kd b m a : Nat} : gB T N p kd b m a = true ↔ inG T N p kd b m a := by
  unfold gB inG
  cases owS T a p <;> simp [and_assoc]
/-- the GROUP's ACCOUNTS below n -/
def gl (T : gT) (N : gN) (p kd b m n : Nat) : List Nat := (List.range n).filter (gB T N p kd b m)
def kO (T : gT) (p a : Nat) : Nat := (owS T a p).getD 0
/-- the SHARE of a PERSON in an ACCOUNT -/
def shP (T : gT) (N : gN) (p a : Nat) : Nat := shS T N a (kO T p a)
theorem gl_s {T : gT} {N : gN} {p kd b m n : Nat} : gl T N p kd b m (n + 1) = gl T N p kd b m n ++ (if gB T N p kd b m n = true then [n] else []) := by
  unfold gl
  rw [List.range_succ, List.filter_append]
  congr 1
  by_cases h : gB T N p kd b m n = true <;> simp [List.filter, h]
theorem gl_len {T : gT} {N : gN} {p kd b m : Nat} : ∀ n, (gl T N p kd b m n).length ≤ n
  | 0 => by simp [gl]
  | n + 1 => by
    rw [gl_s, List.length_append]
    have := gl_len (T := T) (N := N) (p := p) (kd := kd) (b := b) (m := m) n
    split <;> simp <;> omega
theorem gl_mem {T : gT} {N : gN} {p kd b m n a : Nat} : a ∈ gl T N p kd b m n ↔ a < n ∧ inG T N p kd b m a := by
  unfold gl
  rw [List.mem_filter, List.mem_range, gB_iff]
theorem gl_pre {T : gT} {N : gN} {p kd b m a : Nat} : ∀ {n : Nat}, a ≤ n → ∃ r, gl T N p kd b m n = gl T N p kd b m a ++ r
  | 0, h => ⟨[], by rw [show a = 0 by omega]; simp⟩
  | n + 1, h => by
    by_cases h1 : a = n + 1
    · rw [h1]; exact ⟨[], by simp⟩
    · obtain ⟨r, hr⟩ := gl_pre (T := T) (N := N) (p := p) (kd := kd) (b := b) (m := m) (a := a) (n := n) (by omega)
      rw [gl_s, hr]
      exact ⟨r ++ _, by rw [List.append_assoc]⟩
/-- an ACCOUNT's place in its GROUP -/
theorem gl_at {T : gT} {N : gN} {p kd b m a n : Nat} (h : a < n) (hg : inG T N p kd b m a) : (gl T N p kd b m n)[(gl T N p kd b m a).length]? = some a := by
  obtain ⟨r, hr⟩ := gl_pre (T := T) (N := N) (p := p) (kd := kd) (b := b) (m := m) (a := a + 1) (n := n) (by omega)
  rw [hr, gl_s, if_pos (gB_iff.mpr hg), List.append_assoc, List.getElem?_append_right (Nat.le_refl _), Nat.sub_self]
  rfl
theorem gl_lt {T : gT} {N : gN} {p kd b m a n : Nat} (h : a < n) (hg : inG T N p kd b m a) : (gl T N p kd b m a).length < (gl T N p kd b m n).length := (List.getElem?_eq_some_iff.mp (gl_at h hg)).1
theorem gl_pos {T : gT} {N : gN} {p kd b m : Nat} : ∀ {n i : Nat}, i < (gl T N p kd b m n).length → ∃ a, a < n ∧ inG T N p kd b m a ∧ (gl T N p kd b m n)[i]? = some a ∧ i = (gl T N p kd b m a).length
  | 0, i, h => by simp [gl] at h
  | n + 1, i, h => by
    by_cases h1 : i < (gl T N p kd b m n).length
    · obtain ⟨a, h2, h3, h4, h5⟩ := gl_pos h1
      exact ⟨a, by omega, h3, by rw [h5]; exact gl_at (by omega) h3, h5⟩
    · rw [gl_s] at h
      by_cases hg : gB T N p kd b m n = true
      · rw [if_pos hg, List.length_append] at h
        have : i = (gl T N p kd b m n).length := by simp at h; omega
        subst this
        exact ⟨n, by omega, gB_iff.mp hg, gl_at (by omega) (gB_iff.mp hg), rfl⟩
      · rw [if_neg hg, List.append_nil] at h
        exact absurd h h1
/-- the parts of a GROUP -/
def gpt (T : gT) (N : gN) (p kd b m i : Nat) : Nat := shP T N p ((gl T N p kd b m (T 0 2)).getD i 0)
def gN_ (T : gT) (N : gN) (p kd b m : Nat) : Nat := (gl T N p kd b m (T 0 2)).length
def uhS (own : Nat) (acc : List Nat) (w : Nat) : List Nat := if w = own ∨ w ∈ acc then acc else acc ++ [w]
/-- the unlike HEIRS' NAMES: of an ACCOUNT from the k-th on, of n; of the ACCOUNTS of a list -/
def uhA (T : gT) (own a : Nat) : Nat → Nat → List Nat → List Nat
  | 0, _, acc => acc
  | n + 1, k, acc => uhA T own a n (k + 1) (uhS own acc (T 14 (a * 6 + k)))
def uhL (T : gT) (own : Nat) : List Nat → List Nat → List Nat
  | [], acc => acc
  | a :: l, acc => uhL T own l (uhA T own a (T 6 a) 0 acc)
def uhN (T : gT) (N : gN) (p kd b m : Nat) : Nat := (uhL T (T 11 p) (gl T N p kd b m (T 0 2)) []).length
/-- the MOST of a GROUP that has ACCOUNTS -/
def mstS (T : gT) (N : gN) (p kd b m : Nat) : Nat := if kd = 2 then T 0 4 * max 1 (min 5 (uhN T N p kd b m)) else T 0 4
/-- INSURED of the SHARE in the ACCOUNT a of that GROUP -/
def insG (T : gT) (N : gN) (p kd b m a : Nat) : Nat := divS (gpt T N p kd b m) (gN_ T N p kd b m) (mstS T N p kd b m) (gl T N p kd b m a).length
def insS (T : gT) (N : gN) (m a k : Nat) : Nat := insG T N (T 7 (a * 4 + k)) (T 1 a) (cntS T N a m) m a
theorem uhS_len (own : Nat) (acc : List Nat) (w : Nat) : acc.length ≤ (uhS own acc w).length := by
  unfold uhS
  split
  · exact Nat.le_refl _
  · simp
theorem uhA_len (T : gT) (own a : Nat) : ∀ (n k : Nat) (acc : List Nat), acc.length ≤ (uhA T own a n k acc).length
  | 0, _, _ => Nat.le_refl _
  | n + 1, k, acc => Nat.le_trans (uhS_len own acc _) (uhA_len T own a n (k + 1) _)
theorem uhL_len (T : gT) (own : Nat) : ∀ (l acc : List Nat), acc.length ≤ (uhL T own l acc).length
  | [], _ => Nat.le_refl _
  | a :: l, acc => Nat.le_trans (uhA_len T own a _ 0 acc) (uhL_len T own l _)
theorem getD_app {l : List Nat} {x i : Nat} (h : i < l.length + 1) : (l ++ [x]).getD i 0 = if i < l.length then l.getD i 0 else x := by
  rw [List.getD_eq_getElem?_getD, List.getD_eq_getElem?_getD]
  by_cases h1 : i < l.length
  · rw [if_pos h1, List.getElem?_append_left h1]
  · rw [if_neg h1, show i = l.length by omega, List.getElem?_append_right (Nat.le_refl _), Nat.sub_self]
    rfl
theorem sumN_list (f : Nat → Nat) : ∀ (l : List Nat), sumN (fun i => f (l.getD i 0)) l.length = (l.map f).sum := by
  intro l
  suffices h : ∀ (n : Nat) (l : List Nat), l.length = n → sumN (fun i => f (l.getD i 0)) n = (l.map f).sum from h l.length l rfl
  intro n
  induction n with
  | zero => intro l hl; rw [List.length_eq_zero_iff.mp hl]; rfl
  | succ n ih =>
    intro l hl
    rcases List.eq_nil_or_concat l with h | ⟨l', x, h⟩
    · rw [h] at hl; cases hl
    · rw [List.concat_eq_append] at h
      subst h
      have hl' : l'.length = n := by simp at hl; exact hl
      rw [sumN_s, List.map_append, List.sum_append, ← ih l' hl']
      congr 1
      · refine sumN_congr (fun i hi => ?_)
        rw [getD_app (by omega), if_pos (by omega)]
      · rw [getD_app (by omega), if_neg (by omega)]
        simp
