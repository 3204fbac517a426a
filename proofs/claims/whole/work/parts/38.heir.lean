/-! an HEIR more -/
section HE
variable {T : gT} {N : gN} {P : List gN} {S : gS} {u v : gM}
def TH (T : gT) (a : Nat) : gT := fun r i => if r = 6 ∧ i = a then T 6 a + 1 else if r = 14 ∧ i = a * 6 + T 6 a then 0 else T r i
theorem TH_f {r a : Nat} (h1 : r ≠ 6) (h2 : r ≠ 14) : TH T a r = T r := by
  funext i
  unfold TH
  rw [if_neg (fun z => h1 z.1), if_neg (fun z => h2 z.1)]
theorem TH_6 {i a : Nat} : TH T a 6 i = if i = a then T 6 a + 1 else T 6 i := by
  unfold TH
  by_cases h : i = a
  · rw [if_pos ⟨rfl, h⟩, if_pos h]
  · rw [if_neg (fun z => h z.2), if_neg (fun z => absurd z.1 (by omega)), if_neg h]
theorem TH_14 {i a : Nat} : TH T a 14 i = if i = a * 6 + T 6 a then 0 else T 14 i := by
  unfold TH
  rw [if_neg (fun z => absurd z.1 (by omega))]
  by_cases h : i = a * 6 + T 6 a
  · rw [if_pos ⟨rfl, h⟩, if_pos h]
  · rw [if_neg (fun z => h z.2), if_neg h]
theorem TH_end {a x b : Nat} : endS (TH T a) N x b = endS T N x b := by
  unfold endS
  rw [TH_f (r := 4) (by omega) (by omega), TH_f (r := 0) (by omega) (by omega)]
theorem TH_cntF {a x m : Nat} : ∀ (n b : Nat), cntF (TH T a) N x m n b = cntF T N x m n b
  | 0, b => rfl
  | n + 1, b => by
    unfold cntF
    cases N.2 0 b with
    | none => rfl
    | some c => simp only; rw [TH_end, TH_cntF n c]
theorem TH_ow {a x p : Nat} : owS (TH T a) x p = owS T x p := by
  unfold owS
  rw [TH_f (r := 7) (by omega) (by omega), TH_f (r := 5) (by omega) (by omega)]
theorem TH_gB {a p kd b m : Nat} : gB (TH T a) N p kd b m = gB T N p kd b m := by
  funext x
  unfold gB cntS
  rw [TH_ow, TH_cntF, TH_f (r := 1) (by omega) (by omega), TH_f (r := 2) (by omega) (by omega)]
theorem TH_gl {a p kd b m n : Nat} : gl (TH T a) N p kd b m n = gl T N p kd b m n := by
  unfold gl
  rw [TH_gB]
theorem TH_shP {a p : Nat} : shP (TH T a) N p = shP T N p := by
  funext x
  unfold shP shS kO
  rw [TH_ow, TH_f (r := 5) (by omega) (by omega)]
/-- the names of the same, a 0 put in or not -/
def zR (acc acc' : List Nat) (c : Nat) : Prop := (∀ w, 0 < w → (w ∈ acc' ↔ w ∈ acc)) ∧ acc'.length = acc.length + c ∧ (0 ∈ acc' → c = 1)
theorem uhS_mem {own w x : Nat} {acc : List Nat} : x ∈ uhS own acc w ↔ x ∈ acc ∨ (x = w ∧ w ≠ own) := by
  unfold uhS
  by_cases h : w = own ∨ w ∈ acc
  · rw [if_pos h]
    constructor
    · exact Or.inl
    · rintro (z | ⟨rfl, z⟩)
      · exact z
      · exact h.resolve_left z
  · rw [if_neg h, List.mem_append, List.mem_singleton]
    constructor
    · rintro (z | z)
      · exact Or.inl z
      · exact Or.inr ⟨z, fun y => h (Or.inl y)⟩
    · rintro (z | ⟨z, _⟩)
      · exact Or.inl z
      · exact Or.inr z
theorem zR_S {own w c : Nat} {acc acc' : List Nat} (hw : 0 < w) (h : zR acc acc' c) : zR (uhS own acc w) (uhS own acc' w) c := by
  obtain ⟨h1, h2, h3⟩ := h
  refine ⟨fun x hx => ?_, ?_, fun hz => ?_⟩
  · rw [uhS_mem, uhS_mem, h1 x hx]
  · unfold uhS
    by_cases g : w = own ∨ w ∈ acc
    · rw [if_pos g, if_pos (g.imp id (h1 w hw).mpr)]; exact h2
    · rw [if_neg g, if_neg (fun z => g (z.imp id (h1 w hw).mp)), List.length_append, List.length_append, h2]; simp; omega
  · rw [uhS_mem] at hz
    rcases hz with z | ⟨z, _⟩
    · exact h3 z
    · omega
theorem uhA_zR {own x a c : Nat} (hx : ∀ k, k < T 6 x → 0 < T 14 (x * 6 + k)) (h6 : T 6 x ≤ 6) (ha6 : T 6 a < 6) : ∀ (n k : Nat) (acc acc' : List Nat), k + n ≤ T 6 x → zR acc acc' c → zR (uhA T own x n k acc) (uhA (TH T a) own x n k acc') c
  | 0, k, acc, acc', _, h => h
  | n + 1, k, acc, acc', hk, h => by
    unfold uhA
    have e : TH T a 14 (x * 6 + k) = T 14 (x * 6 + k) := by
      rw [TH_14, if_neg]
      intro z
      have hxa : x = a := by omega
      subst hxa
      omega
    rw [e]
    exact uhA_zR hx h6 ha6 n (k + 1) _ _ (by omega) (zR_S (hx k (by omega)) h)
theorem uhA_last (T : gT) (own x : Nat) : ∀ (n k : Nat) (acc : List Nat), uhA T own x (n + 1) k acc = uhS own (uhA T own x n k acc) (T 14 (x * 6 + (k + n)))
  | 0, k, acc => rfl
  | n + 1, k, acc => by
    rw [uhA, uhA_last T own x n (k + 1)]
    conv => rhs; rw [uhA]
    rw [show k + 1 + n = k + (n + 1) by omega]
theorem uhL_zR {own a : Nat} (hown : 0 < own) (ha6 : T 6 a < 6) : ∀ (l acc acc' : List Nat) (c : Nat), l.Nodup → (∀ x ∈ l, (∀ k, k < T 6 x → 0 < T 14 (x * 6 + k)) ∧ T 6 x ≤ 6) → (c = 1 → a ∉ l) → c ≤ 1 → zR acc acc' c → (uhL (TH T a) own l acc').length = (uhL T own l acc).length + (c + mrS (some a) l)
  | [], acc, acc', c, _, _, _, _, h => by
    have : mrS (some a) [] = 0 := rfl
    rw [this]
    exact h.2.1
  | x :: l, acc, acc', c, hn, hx, hc, hc1, h => by
    obtain ⟨hn1, hn2⟩ := List.nodup_cons.mp hn
    obtain ⟨g1, g2⟩ := hx x List.mem_cons_self
    have g3 : ∀ y ∈ l, (∀ k, k < T 6 y → 0 < T 14 (y * 6 + k)) ∧ T 6 y ≤ 6 := fun y hy => hx y (List.mem_cons_of_mem _ hy)
    have z1 := uhA_zR (own := own) (a := a) g1 g2 ha6 (T 6 x) 0 acc acc' (by omega) h
    unfold uhL
    by_cases e : x = a
    · subst e
      have c0 : c = 0 := by
        by_cases hcc : c = 1
        · exact absurd List.mem_cons_self (hc hcc)
        · omega
      subst c0
      have m1 : mrS (some x) (x :: l) = 1 + mrS (some x) l := by
        unfold mrS
        rw [List.filter_cons_of_pos (by simp), List.length_cons]; omega
      have m2 : mrS (some x) l = 0 := by
        unfold mrS
        rw [List.length_eq_zero_iff, List.filter_eq_nil_iff]
        intro y hy
        simp only [Option.some.injEq, decide_eq_true_eq]
        intro z; subst z; exact hn1 hy
      rw [TH_6, if_pos rfl, uhA_last, Nat.zero_add, TH_14, if_pos rfl]
      have hz : 0 ∉ uhA (TH T x) own x (T 6 x) 0 acc' := fun z => by have := z1.2.2 z; omega
      have z2 : zR (uhA T own x (T 6 x) 0 acc) (uhS own (uhA (TH T x) own x (T 6 x) 0 acc') 0) 1 := by
        refine ⟨fun w hw => ?_, ?_, fun _ => rfl⟩
        · rw [uhS_mem, z1.1 w hw]
          constructor
          · rintro (z | ⟨z, _⟩)
            · exact z
            · omega
          · exact Or.inl
        · unfold uhS
          rw [if_neg (fun z => z.elim (fun z => by omega) hz), List.length_append, z1.2.1]
          rfl
      rw [uhL_zR hown ha6 l _ _ 1 hn2 g3 (fun _ => hn1) (by omega) z2, m1, m2]
    · have m1 : mrS (some a) (x :: l) = mrS (some a) l := by
        unfold mrS
        rw [List.filter_cons_of_neg]
        simp only [Option.some.injEq, decide_eq_true_eq]
        exact fun z => e z.symm
      rw [TH_6, if_neg e, m1]
      exact uhL_zR hown ha6 l _ _ c hn2 g3 (fun hcc z => hc hcc (List.mem_cons_of_mem _ z)) hc1 z1
theorem TH_mst {a p kd b m : Nat} (hV : VT T) (hz : ∀ a k, a < T 0 2 → k < T 6 a → 0 < T 14 (a * 6 + k)) (hp : 0 < T 11 p) (ha6 : T 6 a < 6) : mstM (TH T a) N none p kd b m = mstM T N (some a) p kd b m := by
  unfold mstM uhN
  rw [TH_gl, TH_f (r := 0) (by omega) (by omega), TH_f (r := 11) (by omega) (by omega), mrS_none]
  by_cases h : kd = 2
  · rw [if_pos h, if_pos h]
    have hnd : (gl T N p kd b m (T 0 2)).Nodup := by unfold gl; exact List.Pairwise.filter _ List.nodup_range
    have e := uhL_zR (T := T) (own := T 11 p) (a := a) hp ha6 (gl T N p kd b m (T 0 2)) [] [] 0 hnd (fun x hx => ⟨fun k hk => hz x k (gl_mem.mp hx).1 hk, hV.nh x (gl_mem.mp hx).1⟩) (fun z => by omega) (by omega) ⟨fun _ _ => Iff.rfl, rfl, fun z => by cases z⟩
    rw [e, Nat.zero_add, Nat.add_zero]
  · rw [if_neg h, if_neg h]
theorem TH_iof {a p m : Nat} (hV : VT T) (hz : ∀ a k, a < T 0 2 → k < T 6 a → 0 < T 14 (a * 6 + k)) (hp : 0 < T 11 p) (ha6 : T 6 a < 6) : iofS (TH T a) N none p m = iofS T N (some a) p m := by
  unfold iofS
  congr 1
  funext kd
  rw [TH_f (r := 0) (by omega) (by omega)]
  congr 1
  funext b
  rw [TH_gl, TH_shP, TH_mst hV hz hp ha6]
theorem TH_iall {a : Nat} (hV : VT T) (hz : ∀ a k, a < T 0 2 → k < T 6 a → 0 < T 14 (a * 6 + k)) (hp : ∀ p, p < T 0 0 → 0 < T 11 p) (ha6 : T 6 a < 6) : iallS (TH T a) N none = iallS T N (some a) := by
  unfold iallS
  rw [TH_f (r := 0) (by omega) (by omega)]
  exact sumN_congr (fun p h => TH_iof hV hz (hp p h) ha6)
theorem TH_V {a : Nat} (hV : VT T) (ha6 : T 6 a < 6) : VT (TH T a) := by
  have e : ∀ r, r ≠ 6 → r ≠ 14 → TH T a r = T r := fun r h h' => TH_f h h'
  have hn := hV.hn
  unfold VT at *
  rw [e 0 (by omega) (by omega), e 1 (by omega) (by omega), e 2 (by omega) (by omega), e 3 (by omega) (by omega), e 4 (by omega) (by omega), e 5 (by omega) (by omega), e 7 (by omega) (by omega), e 8 (by omega) (by omega), e 9 (by omega) (by omega), e 10 (by omega) (by omega), e 11 (by omega) (by omega), e 12 (by omega) (by omega), e 13 (by omega) (by omega)]
  obtain ⟨h1, h2, h3, h4, h5, h6, h7, h8, h9, h10, h11, h12, h13, h14, h15, h16, h17, h18, h19, h20, h21⟩ := hV
  refine ⟨h1, h2, h3, h4, h5, h6, h7, h8, h9, h10, h11, fun x hx => ?_, h13, h14, h15, h16, h17, h18, h19, h20, fun x k hx hk => ?_⟩
  · rw [TH_6]
    split
    · omega
    · exact h12 x hx
  · rw [TH_14]
    split
    · decide
    · next g =>
      refine hn x k hx ?_
      rw [TH_6] at hk
      by_cases z : x = a
      · subst z; rw [if_pos rfl] at hk; omega
      · rw [if_neg z] at hk; exact hk
theorem TH_N {a : Nat} (h : VN T N) : VN (TH T a) N := by
  unfold VN at *
  rw [TH_f (r := 0) (by omega) (by omega)]
  exact h
theorem TH_RN {a s : Nat} (h : RN s T N u) : RN s (TH T a) N u := by
  unfold RN at *
  rw [TH_f (r := 0) (by omega) (by omega)]
  exact h
/-- the class's rows with an HEIR more of the ACCOUNT -/
theorem TH_RT {a : Nat} {u' : gM} (hV : VT T) (h : RT 3 T u) (ha : a < T 0 2) (ha6 : T 6 a < 6) (e : ∀ c, c ≤ 17 → (c ≠ 12 → u'.1 c = u.1 c) ∧ (c ≠ 14 → u'.2 c = u.2 c)) (e12 : ∀ i, u'.1 12 i = if i = a then nI (T 6 a + 1) else u.1 12 i) (e14 : ∀ i, u'.2 14 i = if i = a * 6 + T 6 a then lN 0 else u.2 14 i) : RT 3 (TH T a) u' := by
  have e' : ∀ r, r ≠ 6 → r ≠ 14 → TH T a r = T r := fun r h h' => TH_f h h'
  have hnh := hV.nh
  unfold RT at *
  simp only [Nat.reduceAdd] at *
  rw [e' 0 (by omega) (by omega), e' 1 (by omega) (by omega), e' 2 (by omega) (by omega), e' 3 (by omega) (by omega), e' 4 (by omega) (by omega), e' 5 (by omega) (by omega), e' 7 (by omega) (by omega), e' 8 (by omega) (by omega), e' 9 (by omega) (by omega), e' 10 (by omega) (by omega), e' 11 (by omega) (by omega), e' 12 (by omega) (by omega), e' 13 (by omega) (by omega)]
  rw [(e 3 (by omega)).1 (by omega), (e 4 (by omega)).2 (by omega), (e 5 (by omega)).2 (by omega), (e 6 (by omega)).2 (by omega), (e 7 (by omega)).1 (by omega), (e 8 (by omega)).1 (by omega), (e 9 (by omega)).1 (by omega), (e 10 (by omega)).1 (by omega), (e 11 (by omega)).1 (by omega), (e 13 (by omega)).1 (by omega), (e 15 (by omega)).1 (by omega), (e 16 (by omega)).1 (by omega), (e 17 (by omega)).1 (by omega)]
  obtain ⟨h1, h2, h3, h4, h5, h6, h7, h8, h9, h10, h11, h12, h13, h14, h15, h16, h17, h18, h19, h20⟩ := h
  refine ⟨h1, h2, h3, h4, h5, h6, h7, h8, h9, h10, h11, h12, h13, h14, fun x hx => ?_, h16, fun x k hx hk => ?_, h18, h19, h20⟩
  · rw [e12, TH_6]
    by_cases z : x = a
    · rw [if_pos z, if_pos z]
    · rw [if_neg z, if_neg z]; exact h15 x hx
  · rw [e14, TH_14]
    by_cases g : x * 6 + k = a * 6 + T 6 a
    · rw [if_pos g, if_pos g]
    · rw [if_neg g, if_neg g]
      refine h17 x k hx ?_
      rw [TH_6] at hk
      by_cases z : x = a
      · subst z; rw [if_pos rfl] at hk; omega
      · rw [if_neg z] at hk; exact hk
end HE
