/-! the desk as it begins -/
def T0 : gT := fun r i => if r = 0 then (if i = 4 then 250000 else if i = 5 then 6 else 0) else 0
def S0 : gS := ((0, fun _ => 0), (0, none, 0))
theorem T0_no {a n : Nat} {p : Prop} (h : a < T0 0 n) (hn : n ≠ 4) (h5 : n ≠ 5) : p := by
  have e : T0 0 n = 0 := by simp [T0, hn, h5]
  rw [e] at h
  exact absurd h (Nat.not_lt_zero _)
theorem VT_T0 : VT T0 := ⟨by decide, by decide, by decide, by decide, by decide, by decide, fun a h => T0_no h (by decide) (by decide), fun a h => T0_no h (by decide) (by decide), fun a h => T0_no h (by decide) (by decide), fun a h => T0_no h (by decide) (by decide), fun a h => T0_no h (by decide) (by decide), fun a h => T0_no h (by decide) (by decide), fun a k h _ => T0_no h (by decide) (by decide), fun a k j h _ _ => T0_no h (by decide) (by decide), fun a h => T0_no h (by decide) (by decide), fun a h => T0_no h (by decide) (by decide), fun a h => T0_no h (by decide) (by decide), fun a h => T0_no h (by decide) (by decide), fun a h => T0_no h (by decide) (by decide), fun a h => T0_no h (by decide) (by decide), fun a k h _ => T0_no h (by decide) (by decide)⟩
theorem DV_T0 : DV T0 (N0 T0) [] S0 := ⟨VT_T0, N0_V VT_T0, fun Q hQ => absurd hQ List.not_mem_nil, Nat.zero_le _, Nat.zero_le _, fun i hi => absurd hi (Nat.not_lt_zero _), fun a k h _ => T0_no h (by decide) (by decide), fun p h => T0_no h (by decide) (by decide)⟩
theorem q_init {u : gM} (d0 : u.1 3 0 = 0) (d1 : u.1 3 1 = 0) (d2 : u.1 3 2 = 0) (d3 : u.1 3 3 = 0) (d4 : u.1 3 4 = 250000) (d5 : u.1 3 5 = 6) (t0 : u.1 1 0 = 0) (t1 : u.1 1 1 = 0) (t2 : u.1 1 2 = -1) (p0 : u.1 30 0 = 0) (p1 : u.1 30 1 = 0) (e0 : u.1 0 10 = 0) (hz : gZ 162 u) : ∃ w, X8_open 18 3 u = some w ∧ RC T0 (N0 T0) [] S0 w ∧ gZ 162 w := by
  have hT : RT 3 T0 u := ⟨d0, d1, d2, d3, d4, d5, fun a h => T0_no h (by decide) (by decide), fun a h => T0_no h (by decide) (by decide), fun a h => T0_no h (by decide) (by decide), fun a h => T0_no h (by decide) (by decide), fun a h => T0_no h (by decide) (by decide), fun a h => T0_no h (by decide) (by decide), fun a h => T0_no h (by decide) (by decide), fun a h => T0_no h (by decide) (by decide), fun a h => T0_no h (by decide) (by decide), fun a k h _ => T0_no h (by decide) (by decide), fun a k h _ => T0_no h (by decide) (by decide), fun a h => T0_no h (by decide) (by decide), fun a h => T0_no h (by decide) (by decide), fun a h => T0_no h (by decide) (by decide)⟩
  obtain ⟨w, e, o, n⟩ := q_open VT_T0 hT
  have g : ∀ c, (c < 18 ∨ 28 < c) → w.1 c = u.1 c ∧ w.2 c = u.2 c := fun c hc => o c (by rintro ⟨z1, z2⟩; omega)
  refine ⟨w, e, ⟨hT.mv (fun c c1 c2 => g c (by omega)), n, ?_, ⟨0, by decide, ?_, fun j Q hj => by simp at hj⟩, ?_, fun i hi => absurd hi (Nat.not_lt_zero _), ?_, ?_, ?_⟩, hz.off o (fun c hc => by have := hc.2; omega)⟩
  · rw [(g 30 (by omega)).1]; exact p0
  · rw [(g 30 (by omega)).1]; exact p1
  · rw [(g 1 (by omega)).1]; exact t0
  · rw [(g 1 (by omega)).1]; exact t1
  · rw [(g 1 (by omega)).1, t2]; rfl
  · rw [(g 0 (by omega)).1]; exact e0
theorem m_init {v : gM} (m0 : v.1 1 0 = 0) (m1 : v.1 1 1 = 0) (m2 : v.1 1 2 = 0) (m3 : v.1 1 3 = 0) (m4 : v.1 1 4 = 250000) (m5 : v.1 1 5 = 6) (h20 : v.1 0 20 = 0) (h21 : v.1 0 21 = 0) (h22 : v.1 0 22 = -1) (h32 : v.1 0 32 = -1) (h34 : v.1 0 34 = -1) (h44 : v.1 0 44 = 0) : ∃ w, X12_starts v = some w ∧ RM T0 (N0 T0) [] S0 w ∧ off (fun c => c = 0 ∨ c = 16) v w := by
  have hT : RTm 0 T0 v := ⟨m0, m1, m2, m3, m4, m5, fun a h => T0_no h (by decide) (by decide), fun a h => T0_no h (by decide) (by decide), fun a h => T0_no h (by decide) (by decide), fun a h => T0_no h (by decide) (by decide), fun a h => T0_no h (by decide) (by decide), fun a h => T0_no h (by decide) (by decide), fun a h => T0_no h (by decide) (by decide), fun a h => T0_no h (by decide) (by decide), fun a k h _ => T0_no h (by decide) (by decide), fun a k h _ => T0_no h (by decide) (by decide), fun a h => T0_no h (by decide) (by decide), fun a h => T0_no h (by decide) (by decide), fun a h => T0_no h (by decide) (by decide)⟩
  obtain ⟨w, e, o, n⟩ := m_starts VT_T0 hT
  have g : ∀ c, c ≠ 16 → w.1 c = v.1 c ∧ w.2 c = v.2 c := fun c hc => o c hc
  have g0 : ∀ j, j ≠ 17 → (upI w 0 17 0).1 0 j = v.1 0 j := fun j hj => by rw [upI_j hj, (g 0 (by omega)).1]
  refine ⟨upI w 0 17 0, e, ⟨hT.mv (fun c c1 c2 => ⟨by rw [upI_k (by omega), (g c (by omega)).1], by rw [upI_2, (g c (by omega)).2]⟩), fun a h => T0_no h (by decide) (by decide), ?_, ?_, fun j Q hj => by simp at hj, ?_, fun i hi => absurd hi (Nat.not_lt_zero _), ?_, ?_, ?_, ?_, ?_⟩, off_upI (Or.inl rfl) (off_mono o (fun c hc => Or.inr hc))⟩
  · rw [upI_k (by omega)]; exact n
  · rw [upI_at]; rfl
  · rw [g0 20 (by omega)]; exact h20
  · rw [g0 21 (by omega)]; exact h21
  · rw [g0 22 (by omega), h22]; rfl
  · rw [g0 32 (by omega), h32]; rfl
  · rw [g0 34 (by omega), h34]; rfl
  · rw [g0 44 (by omega)]; exact h44
