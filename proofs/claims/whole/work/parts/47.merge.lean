/-! merge: the order of the BANKS -/
section ME
variable {T : gT} {N : gN}
/-- the BANK b MERGED into c in the MONTH m -/
def mN (N : gN) (b c m : Nat) : gN := (N.1, fun r i => if r = 0 ∧ i = b then some c else if r = 1 ∧ i = b then some m else N.2 r i)
theorem mN_0 {b c m i : Nat} : (mN N b c m).2 0 i = if i = b then some c else N.2 0 i := by
  unfold mN
  by_cases h : i = b
  · simp [h]
  · simp [h]
theorem mN_1 {b c m i : Nat} : (mN N b c m).2 1 i = if i = b then some m else N.2 1 i := by
  unfold mN
  by_cases h : i = b
  · simp [h]
  · simp [h]
theorem mN_r {b c m r : Nat} (h0 : r ≠ 0) (h1 : r ≠ 1) : (mN N b c m).2 r = N.2 r := by
  funext i
  unfold mN
  simp [h0, h1]
def c1M (N : gN) (i : Nat) : Nat := if N.2 0 i = none then 0 else 1
theorem c1M_le (i : Nat) : c1M N i ≤ 1 := by unfold c1M; split <;> omega
theorem c1M_0 {i : Nat} (h : N.2 0 i = none) : c1M N i = 0 := if_pos h
theorem cntM_s : cntM N = c1M N 0 + c1M N 1 + c1M N 2 + c1M N 3 + c1M N 4 + c1M N 5 := rfl
theorem cntM_4 {b c : Nat} (hb : b < 6) (hc : c < 6) (hne : b ≠ c) (h1 : N.2 0 b = none) (h2 : N.2 0 c = none) : cntM N ≤ 4 := by
  have g1 := c1M_0 h1
  have g2 := c1M_0 h2
  have a0 := c1M_le (N := N) 0
  have a1 := c1M_le (N := N) 1
  have a2 := c1M_le (N := N) 2
  have a3 := c1M_le (N := N) 3
  have a4 := c1M_le (N := N) 4
  have a5 := c1M_le (N := N) 5
  rw [cntM_s]
  rcases (show b = 0 ∨ b = 1 ∨ b = 2 ∨ b = 3 ∨ b = 4 ∨ b = 5 by omega) with rfl | rfl | rfl | rfl | rfl | rfl <;> rcases (show c = 0 ∨ c = 1 ∨ c = 2 ∨ c = 3 ∨ c = 4 ∨ c = 5 by omega) with rfl | rfl | rfl | rfl | rfl | rfl <;> omega
theorem c1M_m {b c m i : Nat} : c1M (mN N b c m) i = if i = b then 1 else c1M N i := by
  unfold c1M
  rw [mN_0]
  by_cases h : i = b
  · rw [if_pos h, if_pos h, if_neg (by simp)]
  · rw [if_neg h, if_neg h]
theorem cntM_m {b c m : Nat} (hb : b < 6) (h1 : N.2 0 b = none) : cntM (mN N b c m) = cntM N + 1 := by
  have g1 := c1M_0 h1
  rw [cntM_s, cntM_s, c1M_m, c1M_m, c1M_m, c1M_m, c1M_m, c1M_m]
  rcases (show b = 0 ∨ b = 1 ∨ b = 2 ∨ b = 3 ∨ b = 4 ∨ b = 5 by omega) with rfl | rfl | rfl | rfl | rfl | rfl <;> simp <;> omega
theorem VN_merge {b c : Nat} (hV : VT T) (h : VN T N) (hb : b < T 0 1) (hc : c < T 0 1) (hne : b ≠ c) (h1 : N.2 0 b = none) (h2 : N.2 0 c = none) : VN T (mN N b c (N.1 0 0)) := by
  have hnb := hV.nb
  have hmo := h.mo
  have k4 := cntM_4 (by omega) (by omega) hne h1 h2
  have k5 := cntM_m (c := c) (m := N.1 0 0) (show b < 6 by omega) h1
  refine ⟨h.mo, h.co, h.od, h.fa, fun x y hx hy => ?_, fun x hx hn => ?_, fun x m hx hm => ?_, ?_, ?_, fun r i v r3 => ?_, h.fl, ?_, ?_⟩
  · rw [mN_0] at hy
    by_cases z : x = b
    · rw [if_pos z] at hy
      cases hy
      exact ⟨by omega, hc⟩
    · rw [if_neg z] at hy; exact h.it x y hx hy
  · rw [mN_0] at hn
    by_cases z : x = b
    · exact ⟨N.1 0 0, by rw [mN_1, if_pos z], Nat.le_refl _⟩
    · rw [if_neg z] at hn
      obtain ⟨m, g1, g2⟩ := h.si x hx hn
      exact ⟨m, by rw [mN_1, if_neg z]; exact g1, g2⟩
  · rw [mN_1] at hm
    by_cases z : x = b
    · rw [if_pos z] at hm
      cases hm
      exact hmo
    · rw [if_neg z] at hm; exact h.sn x m hx hm
  · rw [mN_r (r := 3) (by omega) (by omega), mN_r (r := 4) (by omega) (by omega), mN_r (r := 5) (by omega) (by omega), mN_r (r := 6) (by omega) (by omega)]; exact h.fz
  · rw [mN_r (r := 2) (by omega) (by omega), mN_r (r := 3) (by omega) (by omega)]; exact h.fe
  · rw [mN_r (r := r) (by omega) (by omega)]; exact h.fv r i v r3
  · rw [mN_r (r := 2) (by omega) (by omega)]; exact h.fb
  · obtain ⟨o, ho⟩ := h.or
    have oc : o c = 5 := by
      rcases ho c (by omega) with z | ⟨y, z, _⟩
      · exact z.2
      · rw [h2] at z; cases z
    obtain ⟨o', p1, p2⟩ : ∃ o' : Nat → Nat, (∀ x, x ≠ b → o' x = o x) ∧ o' b = cntM N := ⟨fun x => if x = b then cntM N else o x, fun x hx => if_neg hx, if_pos rfl⟩
    refine ⟨o', fun x hx => ?_⟩
    have pc : o' c = 5 := by rw [p1 c (fun w => hne w.symm), oc]
    by_cases z : x = b
    · subst z
      exact Or.inr ⟨c, by rw [mN_0, if_pos rfl], by omega, by omega, by omega⟩
    · have px := p1 x z
      rcases ho x hx with ⟨g1, g2⟩ | ⟨y, g1, g2, g3, g4⟩
      · exact Or.inl ⟨by rw [mN_0, if_neg z]; exact g1, by omega⟩
      · have py : o' y = o y ∨ o' y = cntM N := by
          by_cases w : y = b
          · subst w; exact Or.inr p2
          · exact Or.inl (p1 y w)
        exact Or.inr ⟨y, by rw [mN_0, if_neg z]; exact g1, by omega, by omega, by omega⟩
end ME
