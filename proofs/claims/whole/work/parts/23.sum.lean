/-! SUMS: by ACCOUNTS and by GROUPS */ -/
theorem sumN_0 {n : Nat} : sumN (fun _ => 0) n = 0 := by
  induction n with
  | zero => rfl
  | succ n ih => rw [sumN_s, ih]
theorem sumN_z {p : Nat → Nat} {n : Nat} (h : ∀ i, i < n → p i = 0) : sumN p n = 0 := (sumN_congr h).trans sumN_0
theorem sumN_only {p : Nat → Nat} {j : Nat} : ∀ {n : Nat}, j < n → (∀ i, i < n → i ≠ j → p i = 0) → sumN p n = p j
  | n + 1, h, he => by
    rw [sumN_s]
    by_cases h1 : j = n
    · rw [sumN_z (fun i hi => he i (by omega) (by omega)), h1]
      omega
    · rw [sumN_only (by omega) (fun i hi hj => he i (by omega) hj), he n (by omega) (fun z => h1 z.symm)]
      omega
theorem sumN_comm {f : Nat → Nat → Nat} {m : Nat} : ∀ {n : Nat}, sumN (fun a => sumN (fun b => f a b) m) n = sumN (fun b => sumN (fun a => f a b) n) m
  | 0 => by
    show 0 = sumN (fun b => 0) m
    rw [sumN_0]
  | n + 1 => by
    rw [sumN_s, sumN_comm, ← sumN_add]
    exact sumN_congr (fun i _ => rfl)
section SU
variable {T : gT} {N : gN}
theorem gl_sum {p kd b m : Nat} {g : Nat → Nat} : ∀ n, sumN (fun a => if gB T N p kd b m a = true then g (gl T N p kd b m a).length else 0) n = sumN g (gl T N p kd b m n).length
  | 0 => rfl
  | n + 1 => by
    rw [sumN_s, gl_sum n, gl_s]
    by_cases h : gB T N p kd b m n = true
    · rw [if_pos h, if_pos h, List.length_append]
      rfl
    · rw [if_neg h, if_neg h, List.append_nil]
      rfl
/-- INSURED of a PERSON's SHARE in an ACCOUNT -/
def insF (T : gT) (N : gN) (p m a : Nat) : Nat := match owS T a p with
  | none => 0
  | some k => insS T N m a k
theorem insF_grp {p m a : Nat} (hV : VT T) (hVN : VN T N) (ha : a < T 0 2) : insF T N p m a = sumN (fun kd => sumN (fun b => if gB T N p kd b m a = true then insG T N p kd b m a else 0) (T 0 1)) 5 := by
  have h1 := hV.kd a ha
  have h2 : cntS T N a m < T 0 1 := cntF_nb hVN hV 6 _ (hV.hm a ha)
  unfold insF
  cases hk : owS T a p with
  | none =>
    refine (sumN_z (fun kd _ => sumN_z (fun b _ => ?_))).symm
    rw [if_neg (by unfold gB; rw [hk]; simp)]
  | some k =>
    have h3 := (owS_some hk).2
    have h4 : ∀ kd b, gB T N p kd b m a = true ↔ T 1 a = kd ∧ cntS T N a m = b := by
      intro kd b
      unfold gB
      rw [hk]
      simp
    rw [sumN_only (j := T 1 a) (by omega) (fun kd _ h6 => sumN_z (fun b _ => by rw [if_neg (fun z => h6 ((h4 kd b).mp z).1.symm)])), sumN_only (j := cntS T N a m) h2 (fun b _ h6 => by rw [if_neg (fun z => h6 ((h4 _ b).mp z).2.symm)]), if_pos ((h4 _ _).mpr ⟨rfl, rfl⟩)]
    show insS T N m a k = _
    unfold insS
    rw [h3]
theorem insF_sum {p m : Nat} (hV : VT T) (hVN : VN T N) : sumN (insF T N p m) (T 0 2) = iofS T N none p m := by
  have h1 : sumN (insF T N p m) (T 0 2) = sumN (fun a => sumN (fun kd => sumN (fun b => if gB T N p kd b m a = true then insG T N p kd b m a else 0) (T 0 1)) 5) (T 0 2) := sumN_congr (fun a ha => insF_grp hV hVN ha)
  rw [h1, sumN_comm]
  unfold iofS
  refine sumN_congr (fun kd _ => ?_)
  rw [sumN_comm]
  refine sumN_congr (fun b _ => ?_)
  unfold insG
  rw [gl_sum (g := divS (gpt T N p kd b m) (gN_ T N p kd b m) (mstS T N p kd b m))]
  show sumN (divS (gpt T N p kd b m) (gN_ T N p kd b m) (mstS T N p kd b m)) (gN_ T N p kd b m) = _
  rw [divS_sum, mstM_none]
  congr 1
  exact sumN_list (shP T N p) (gl T N p kd b m (T 0 2))
theorem own_sum {a : Nat} {g : Nat → Nat} (hV : VT T) (ha : a < T 0 2) : sumN (fun p => match owS T a p with | none => 0 | some k => g k) (T 0 0) = sumN g (T 5 a) := by
  have h1 : ∀ p, (match owS T a p with | none => 0 | some k => g k) = sumN (fun k => if T 7 (a * 4 + k) = p then g k else 0) (T 5 a) := by
    intro p
    cases hk : owS T a p with
    | none => exact (sumN_z (fun k hk2 => by rw [if_neg (owS_none hk k hk2)])).symm
    | some j =>
      obtain ⟨h2, h3⟩ := owS_some hk
      rw [sumN_only (j := j) h2 (fun k hk2 h4 => by rw [if_neg (fun z => h4 (hV.od a k j ha hk2 h2 (by rw [z, h3])))]), if_pos h3]
  simp only [h1]
  rw [sumN_comm]
  refine sumN_congr (fun k hk => ?_)
  have h2 := hV.ow a k ha hk
  rw [sumN_only (j := T 7 (a * 4 + k)) h2 (fun p _ h3 => by rw [if_neg (fun z => h3 z.symm)]), if_pos rfl]
/-- INSURED of an ACCOUNT; of all -/
def iacS (T : gT) (N : gN) (m a : Nat) : Nat := sumN (fun k => insS T N m a k) (T 5 a)
theorem iall_sum {m : Nat} (hV : VT T) (hVN : VN T N) (hm : m = N.1 0 0) : sumN (iacS T N m) (T 0 2) = iallS T N none := by
  unfold iallS
  have h1 : sumN (iacS T N m) (T 0 2) = sumN (fun a => sumN (fun p => insF T N p m a) (T 0 0)) (T 0 2) := sumN_congr (fun a ha => (own_sum hV ha).symm)
  rw [h1, sumN_comm]
  refine sumN_congr (fun p _ => ?_)
  rw [← hm]
  exact insF_sum hV hVN
theorem iacS_le {m a : Nat} (hV : VT T) (hVN : VN T N) (ha : a < T 0 2) : iacS T N m a ≤ 400000000 := by
  unfold iacS
  have h1 := sumN_max (p := fun k => insS T N m a k) (B := 100000000) (n := T 5 a) (fun k hk => Nat.le_trans (insS_le hV hVN ha hk) (shS_le hV hVN ha))
  have h2 := hV.no a ha
  have : T 5 a * 100000000 ≤ 4 * 100000000 := Nat.mul_le_mul_right _ h2.2
  omega
theorem insF_le {p m a : Nat} (hV : VT T) (hVN : VN T N) (ha : a < T 0 2) : insF T N p m a ≤ shaF T N p a := by
  unfold insF shaF
  cases hk : owS T a p with
  | none => exact Nat.le_refl _
  | some k => exact insS_le hV hVN ha (owS_some hk).1
end SU
