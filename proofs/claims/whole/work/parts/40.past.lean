/-! what is kept to go back to -/
def STk (d : Nat) : Prop := (isO skC d 8 = true) ∧ (isO skC (d + 6) 5 = true) ∧ (rf skC d 1 = d + 1) ∧ (rf skC d 2 = d + 2) ∧ (rf skC d 3 = d + 3) ∧ (rf skC d 4 = d + 4) ∧ (rf skC d 5 = d + 5) ∧ (rf skC d 6 = d + 6) ∧ (rf skC (d + 6) 2 = d + 7) ∧ (rf skC (d + 6) 3 = d + 8) ∧ (rf skC (d + 6) 4 = d + 9) ∧ (rf skC (d + 6) 5 = d + 10) ∧ (rf skC (d + 6) 6 = d + 11) ∧ (skC[d + 1]? = some (.inr (0, 24, []))) ∧ (skC[d + 2]? = some (.inr (0, 10, []))) ∧ (skC[d + 3]? = some (.inr (0, 6, []))) ∧ (skC[d + 4]? = some (.inr (0, 6, []))) ∧ (skC[d + 5]? = some (.inr (0, 6, []))) ∧ (skC[d + 7]? = some (.inr (0, 96, []))) ∧ (skC[d + 8]? = some (.inr (0, 96, []))) ∧ (skC[d + 9]? = some (.inr (0, 96, []))) ∧ (skC[d + 10]? = some (.inr (0, 96, []))) ∧ (skC[d + 11]? = some (.inr (0, 10, [])))
theorem STk.o8 {d : Nat} (h : STk d) : isO skC d 8 = true := h.1
theorem STk.o5 {d : Nat} (h : STk d) : isO skC (d + 6) 5 = true := h.2.1
theorem STk.f1 {d : Nat} (h : STk d) : rf skC d 1 = d + 1 := h.2.2.1
theorem STk.f2 {d : Nat} (h : STk d) : rf skC d 2 = d + 2 := h.2.2.2.1
theorem STk.f3 {d : Nat} (h : STk d) : rf skC d 3 = d + 3 := h.2.2.2.2.1
theorem STk.f4 {d : Nat} (h : STk d) : rf skC d 4 = d + 4 := h.2.2.2.2.2.1
theorem STk.f5 {d : Nat} (h : STk d) : rf skC d 5 = d + 5 := h.2.2.2.2.2.2.1
theorem STk.f6 {d : Nat} (h : STk d) : rf skC d 6 = d + 6 := h.2.2.2.2.2.2.2.1
theorem STk.g2 {d : Nat} (h : STk d) : rf skC (d + 6) 2 = d + 7 := h.2.2.2.2.2.2.2.2.1
theorem STk.g3 {d : Nat} (h : STk d) : rf skC (d + 6) 3 = d + 8 := h.2.2.2.2.2.2.2.2.2.1
theorem STk.g4 {d : Nat} (h : STk d) : rf skC (d + 6) 4 = d + 9 := h.2.2.2.2.2.2.2.2.2.2.1
theorem STk.g5 {d : Nat} (h : STk d) : rf skC (d + 6) 5 = d + 10 := h.2.2.2.2.2.2.2.2.2.2.2.1
theorem STk.g6 {d : Nat} (h : STk d) : rf skC (d + 6) 6 = d + 11 := h.2.2.2.2.2.2.2.2.2.2.2.2.1
theorem STk.a1 {d : Nat} (h : STk d) : skC[d + 1]? = some (.inr (0, 24, [])) := h.2.2.2.2.2.2.2.2.2.2.2.2.2.1
theorem STk.a2 {d : Nat} (h : STk d) : skC[d + 2]? = some (.inr (0, 10, [])) := h.2.2.2.2.2.2.2.2.2.2.2.2.2.2.1
theorem STk.a3 {d : Nat} (h : STk d) : skC[d + 3]? = some (.inr (0, 6, [])) := h.2.2.2.2.2.2.2.2.2.2.2.2.2.2.2.1
theorem STk.a4 {d : Nat} (h : STk d) : skC[d + 4]? = some (.inr (0, 6, [])) := h.2.2.2.2.2.2.2.2.2.2.2.2.2.2.2.2.1
theorem STk.a5 {d : Nat} (h : STk d) : skC[d + 5]? = some (.inr (0, 6, [])) := h.2.2.2.2.2.2.2.2.2.2.2.2.2.2.2.2.2.1
theorem STk.a7 {d : Nat} (h : STk d) : skC[d + 7]? = some (.inr (0, 96, [])) := h.2.2.2.2.2.2.2.2.2.2.2.2.2.2.2.2.2.2.1
theorem STk.a8 {d : Nat} (h : STk d) : skC[d + 8]? = some (.inr (0, 96, [])) := h.2.2.2.2.2.2.2.2.2.2.2.2.2.2.2.2.2.2.2.1
theorem STk.a9 {d : Nat} (h : STk d) : skC[d + 9]? = some (.inr (0, 96, [])) := h.2.2.2.2.2.2.2.2.2.2.2.2.2.2.2.2.2.2.2.2.1
theorem STk.a10 {d : Nat} (h : STk d) : skC[d + 10]? = some (.inr (0, 96, [])) := h.2.2.2.2.2.2.2.2.2.2.2.2.2.2.2.2.2.2.2.2.2.1
theorem STk.a11 {d : Nat} (h : STk d) : skC[d + 11]? = some (.inr (0, 10, [])) := h.2.2.2.2.2.2.2.2.2.2.2.2.2.2.2.2.2.2.2.2.2.2
section PA
variable {T : gT} {N : gN} {P : List gN} {S : gS} {u v : gM}
theorem STk_18 : STk 18 := ⟨by decide, by decide, by decide, by decide, by decide, by decide, by decide, by decide, by decide, by decide, by decide, by decide, by decide, by decide, by decide, by decide, by decide, by decide, by decide, by decide, by decide, by decide, by decide⟩
theorem STk_j {j : Nat} (h : j < 7) : STk (32 + 12 * j) := by
  rcases (show j = 0 ∨ j = 1 ∨ j = 2 ∨ j = 3 ∨ j = 4 ∨ j = 5 ∨ j = 6 by omega) with rfl | rfl | rfl | rfl | rfl | rfl | rfl <;> exact ⟨by decide, by decide, by decide, by decide, by decide, by decide, by decide, by decide, by decide, by decide, by decide, by decide, by decide, by decide, by decide, by decide, by decide, by decide, by decide, by decide, by decide, by decide, by decide⟩
theorem cp1 {r0 r1 n : Nat} (h0 : skC[r0]? = some (.inr (0, n, []))) (h1 : skC[r1]? = some (.inr (0, n, []))) (hn : n < 2 ^ 31) : ∃ u', cpI skC u r0 (nI 0) r1 (nI 0) (nI n) = some u' ∧ (∀ i, i < n → u'.1 r1 i = u.1 r0 i) ∧ (∀ c, c ≠ r1 → u'.1 c = u.1 c) ∧ u'.2 = u.2 := by
  refine ⟨_, cpI_at h0 h1 hn (by omega) (by omega) hn, fun i hi => ?_, fun c hc => upRI_k hc, upRI_2⟩
  have hz : (upRI u r1 (va_cpy (u.1 r0) (u.1 r1) 0 0 n)).1 r1 = va_cpy (u.1 r0) (u.1 r1) 0 0 n := by simp [upRI]
  rw [hz]
  unfold va_cpy
  simp [hi]
theorem RN_cp {d s : Nat} {u' : gM} (h : RN s T N u) (hV : VT T) (e0 : u'.1 d 0 = u.1 s 0) (e1 : ∀ i, i < 24 → u'.1 (d + 1) i = u.1 (s + 1) i) (e2 : ∀ i, i < 10 → u'.1 (d + 2) i = u.1 (s + 2) i) (e3 : ∀ i, i < 6 → u'.1 (d + 3) i = u.1 (s + 3) i) (e4 : ∀ i, i < 6 → u'.1 (d + 4) i = u.1 (s + 4) i) (e5 : ∀ i, i < 6 → u'.1 (d + 5) i = u.1 (s + 5) i) (e6 : u'.1 (d + 6) 0 = u.1 (s + 6) 0) (e6' : u'.2 (d + 6) 1 = u.2 (s + 6) 1) (e7 : ∀ i, i < 96 → u'.1 (d + 7) i = u.1 (s + 7) i) (e8 : ∀ i, i < 96 → u'.1 (d + 8) i = u.1 (s + 8) i) (e9 : ∀ i, i < 96 → u'.1 (d + 9) i = u.1 (s + 9) i) (e10 : ∀ i, i < 96 → u'.1 (d + 10) i = u.1 (s + 10) i) : RN d T N u' := by
  have hna := hV.na
  have hnl := hV.nl
  refine ⟨by rw [e0]; exact h.mo, fun a ha => by rw [e1 a (by omega)]; exact h.co a ha, fun l hl => by rw [e2 l (by omega)]; exact h.od l hl, fun b hb => by rw [e3 b hb]; exact h.it b hb, fun b hb => by rw [e4 b hb]; exact h.si b hb, fun b hb => by rw [e5 b hb]; exact h.fa b hb, by rw [e6]; exact h.fb, by rw [e6']; exact h.fl, fun i hi => by rw [e7 i hi]; exact h.fo i hi, fun i hi => by rw [e8 i hi]; exact h.fp i hi, fun i hi => by rw [e9 i hi]; exact h.fd i hi, fun i hi => by rw [e10 i hi]; exact h.fs i hi⟩
theorem q_copy {d s : Nat} (hd : STk d) (hs : STk s) (hds : s + 11 < d ∨ d + 11 < s) : ∃ u', X8_copy d s u = some u' ∧ off (fun c => d ≤ c ∧ c ≤ d + 11) u u' ∧ ∀ T N, VT T → RN s T N u → RN d T N u' := by
  obtain ⟨u1, e1, a1, b1, c1⟩ := cp1 (u := upI u d 0 (u.1 s 0)) hs.a1 hd.a1 (by omega)
  obtain ⟨u2, e2, a2, b2, c2⟩ := cp1 (u := u1) hs.a2 hd.a2 (by omega)
  obtain ⟨u3, e3, a3, b3, c3⟩ := cp1 (u := u2) hs.a3 hd.a3 (by omega)
  obtain ⟨u4, e4, a4, b4, c4⟩ := cp1 (u := u3) hs.a4 hd.a4 (by omega)
  obtain ⟨u5, e5, a5, b5, c5⟩ := cp1 (u := u4) hs.a5 hd.a5 (by omega)
  obtain ⟨u7, e7, a7, b7, c7⟩ := cp1 (u := upJ (upI u5 (d + 6) 0 (u5.1 (s + 6) 0)) (d + 6) 1 ((upI u5 (d + 6) 0 (u5.1 (s + 6) 0)).2 (s + 6) 1)) hs.a7 hd.a7 (by omega)
  obtain ⟨u8, e8, a8, b8, c8⟩ := cp1 (u := u7) hs.a8 hd.a8 (by omega)
  obtain ⟨u9, e9, a9, b9, c9⟩ := cp1 (u := u8) hs.a9 hd.a9 (by omega)
  obtain ⟨u10, e10, a10, b10, c10⟩ := cp1 (u := u9) hs.a10 hd.a10 (by omega)
  obtain ⟨u11, e11, a11, b11, c11⟩ := cp1 (u := u10) hs.a11 hd.a11 (by omega)
  have e : X8_copy d s u = some u11 := by
    unfold X8_copy X5_copy X5_copy_b16
    simp only [hd.o8, hs.o8, hd.o5, hs.o5, hd.f1, hd.f2, hd.f3, hd.f4, hd.f5, hd.f6, hs.f1, hs.f2, hs.f3, hs.f4, hs.f5, hs.f6, hd.g2, hd.g3, hd.g4, hd.g5, hd.g6, hs.g2, hs.g3, hs.g4, hs.g5, hs.g6, if_true, ↓reduceIte, nI_lit, e1, e2, e3, e4, e5, e7, e8, e9, e10, e11, Option.bind_some]
  have w0 : ∀ c, c ≠ d → (upI u d 0 (u.1 s 0)).1 c = u.1 c := fun c hc => upI_k hc
  have w6 : ∀ c, c ≠ d + 6 → (upJ (upI u5 (d + 6) 0 (u5.1 (s + 6) 0)) (d + 6) 1 ((upI u5 (d + 6) 0 (u5.1 (s + 6) 0)).2 (s + 6) 1)).1 c = u5.1 c := fun c hc => by rw [upJ_1, upI_k hc]
  have w5 : u5.2 = u.2 := by rw [c5, c4, c3, c2, c1, upI_2]
  have w7 : ∀ c, c ≠ d + 6 → u11.2 c = u.2 c := fun c hc => by rw [c11, c10, c9, c8, c7, upJ_k hc, upI_2, w5]
  -- a row below a later one stays
  have L5 : ∀ c, c < d + 1 ∨ d + 5 < c → u5.1 c = (upI u d 0 (u.1 s 0)).1 c := fun c hc => by rw [b5 c (by omega), b4 c (by omega), b3 c (by omega), b2 c (by omega), b1 c (by omega)]
  have L11 : ∀ c, c < d + 7 ∨ d + 11 < c → u11.1 c = (upJ (upI u5 (d + 6) 0 (u5.1 (s + 6) 0)) (d + 6) 1 ((upI u5 (d + 6) 0 (u5.1 (s + 6) 0)).2 (s + 6) 1)).1 c := fun c hc => by rw [b11 c (by omega), b10 c (by omega), b9 c (by omega), b8 c (by omega), b7 c (by omega)]
  have S5 : ∀ c, c < d ∨ d + 5 < c → u5.1 c = u.1 c := fun c hc => by rw [L5 c (by omega), w0 c (by omega)]
  refine ⟨u11, e, ?_, ?_⟩
  · intro c hc
    have hc2 : ¬ (d ≤ c ∧ c ≤ d + 11) := hc
    exact ⟨by rw [L11 c (by omega), w6 c (by omega), S5 c (by omega)], w7 c (by omega)⟩
  · intro T N hV h
    refine RN_cp h hV ?_ (fun i hi => ?_) (fun i hi => ?_) (fun i hi => ?_) (fun i hi => ?_) (fun i hi => ?_) ?_ ?_ (fun i hi => ?_) (fun i hi => ?_) (fun i hi => ?_) (fun i hi => ?_)
    · rw [L11 d (by omega), w6 d (by omega), L5 d (by omega), upI_at]
    · rw [L11 (d + 1) (by omega), w6 (d + 1) (by omega), b5 (d + 1) (by omega), b4 (d + 1) (by omega), b3 (d + 1) (by omega), b2 (d + 1) (by omega), a1 i hi, w0 (s + 1) (by omega)]
    · rw [L11 (d + 2) (by omega), w6 (d + 2) (by omega), b5 (d + 2) (by omega), b4 (d + 2) (by omega), b3 (d + 2) (by omega), a2 i hi, b1 (s + 2) (by omega), w0 (s + 2) (by omega)]
    · rw [L11 (d + 3) (by omega), w6 (d + 3) (by omega), b5 (d + 3) (by omega), b4 (d + 3) (by omega), a3 i hi, b2 (s + 3) (by omega), b1 (s + 3) (by omega), w0 (s + 3) (by omega)]
    · rw [L11 (d + 4) (by omega), w6 (d + 4) (by omega), b5 (d + 4) (by omega), a4 i hi, b3 (s + 4) (by omega), b2 (s + 4) (by omega), b1 (s + 4) (by omega), w0 (s + 4) (by omega)]
    · rw [L11 (d + 5) (by omega), w6 (d + 5) (by omega), a5 i hi, b4 (s + 5) (by omega), b3 (s + 5) (by omega), b2 (s + 5) (by omega), b1 (s + 5) (by omega), w0 (s + 5) (by omega)]
    · rw [L11 (d + 6) (by omega), upJ_1, upI_at, S5 (s + 6) (by omega)]
    · rw [c11, c10, c9, c8, c7, upJ_at, upI_2, w5]
    · rw [b11 (d + 7) (by omega), b10 (d + 7) (by omega), b9 (d + 7) (by omega), b8 (d + 7) (by omega), a7 i hi, w6 (s + 7) (by omega), S5 (s + 7) (by omega)]
    · rw [b11 (d + 8) (by omega), b10 (d + 8) (by omega), b9 (d + 8) (by omega), a8 i hi, b7 (s + 8) (by omega), w6 (s + 8) (by omega), S5 (s + 8) (by omega)]
    · rw [b11 (d + 9) (by omega), b10 (d + 9) (by omega), a9 i hi, b8 (s + 9) (by omega), b7 (s + 9) (by omega), w6 (s + 9) (by omega), S5 (s + 9) (by omega)]
    · rw [b11 (d + 10) (by omega), a10 i hi, b9 (s + 10) (by omega), b8 (s + 10) (by omega), b7 (s + 10) (by omega), w6 (s + 10) (by omega), S5 (s + 10) (by omega)]
theorem aR_31 {j : Nat} (h : j < 7) : aR skC 31 (nI j) = some (32 + 12 * j) := by
  rcases (show j = 0 ∨ j = 1 ∨ j = 2 ∨ j = 3 ∨ j = 4 ∨ j = 5 ∨ j = 6 by omega) with rfl | rfl | rfl | rfl | rfl | rfl | rfl <;> decide
/-- the ring of kept states, the one at nx kept but not counted -/
def RP (nx : Nat) (T : gT) (M : gN) (P : List gN) (u : gM) : Prop := (nx < 7) ∧ (u.1 30 1 = nI nx) ∧ (RN (32 + 12 * nx) T M u) ∧ (∀ j Q, P[j]? = some Q → RN (32 + 12 * ((nx + 6 - j) % 7)) T Q u)
theorem RP.l {nx : Nat} {T : gT} {M : gN} {P : List gN} {u : gM} (h : RP nx T M P u) : nx < 7 := h.1
theorem RP.x {nx : Nat} {T : gT} {M : gN} {P : List gN} {u : gM} (h : RP nx T M P u) : u.1 30 1 = nI nx := h.2.1
theorem RP.m {nx : Nat} {T : gT} {M : gN} {P : List gN} {u : gM} (h : RP nx T M P u) : RN (32 + 12 * nx) T M u := h.2.2.1
theorem RP.p {nx : Nat} {T : gT} {M : gN} {P : List gN} {u : gM} (h : RP nx T M P u) : ∀ j Q, P[j]? = some Q → RN (32 + 12 * ((nx + 6 - j) % 7)) T Q u := h.2.2.2
theorem ring_ne {nx j : Nat} (h : nx < 7) (hj : j < 6) : (nx + 6 - j) % 7 ≠ nx := by omega
theorem get_lt {l : List gN} {j : Nat} {Q : gN} (h : l[j]? = some Q) : j < l.length := (List.getElem?_eq_some_iff.mp h).1
theorem q_keep (h : RC T N P S u) (hV : VT T) (hP : P.length ≤ 6) : ∃ u' nx, X7_keep 18 u = some u' ∧ off (fun c => 32 ≤ c ∧ c ≤ 115) u u' ∧ RP nx T N P u' := by
  obtain ⟨nx, h1, h2, h3⟩ := h.pr
  obtain ⟨u', e, o, hn⟩ := q_copy (u := u) (STk_j h1) STk_18 (by omega)
  have o' : off (fun c => 32 ≤ c ∧ c ≤ 115) u u' := off_mono o (fun c hc => by have z : 32 + 12 * nx ≤ c ∧ c ≤ 32 + 12 * nx + 11 := hc; exact ⟨by omega, by omega⟩)
  refine ⟨u', nx, ?_, o', h1, ?_, hn T N hV h.n, fun j Q hj => ?_⟩
  · unfold X7_keep
    rw [h2, bnd (aR_31 h1), (STk_j h1).o8, if_pos rfl, bnd e]
  · rw [(o 30 (by intro z; have z1 : 32 + 12 * nx ≤ 30 ∧ 30 ≤ 32 + 12 * nx + 11 := z; omega)).1]; exact h2
  · have hj6 := get_lt hj
    have hne := ring_ne (j := j) h1 (by omega)
    exact (h3 j Q hj).mv (fun c g1 g2 => o c (by intro z; have z1 : 32 + 12 * nx ≤ c ∧ c ≤ 32 + 12 * nx + 11 := z; omega))
theorem q_conf0 : X7_confirm (nI 0) u = some (nI 0, u) := rfl
theorem q_conf1 {nx : Nat} {M : gN} (h : RP nx T M P u) (hc : u.1 30 0 = nI P.length) (hP : P.length ≤ 6) : ∃ u', X7_confirm (nI 1) u = some (nI 1, u') ∧ off (fun c => c = 30) u u' ∧ u'.1 30 0 = nI ((M :: P).take 6).length ∧ ∃ nx', nx' < 7 ∧ u'.1 30 1 = nI nx' ∧ ∀ j Q, ((M :: P).take 6)[j]? = some Q → RN (32 + 12 * ((nx' + 6 - j) % 7)) T Q u' := by
  have hl := h.l
  have hx := h.x
  have e1 : (u.1 30 1 + 1) - (u.1 30 1 + 1) / 7 * 7 = nI ((nx + 1) % 7) := by
    rw [hx, show (nI nx + 1 : Int32) = nI (nx + 1) from nI_s nx, nI_lit]
    exact i_remN (by omega) (by omega) (by omega)
  have o : off (fun c => c = 30) u (upI (upI u 30 1 (nI ((nx + 1) % 7))) 30 0 (nI (min (P.length + 1) 6))) := by
    intro c hc
    have z : c ≠ 30 := hc
    exact ⟨by rw [upI_k z, upI_k z], by rw [upI_2, upI_2]⟩
  refine ⟨_, ?_, o, ?_, (nx + 1) % 7, by omega, by rw [upI_j (by omega), upI_at], fun j Q hj => ?_⟩
  · unfold X7_confirm X7_confirm_b17 X7_confirm_b32
    rw [if_neg n10, e1, upI_j (show 0 ≠ 1 by omega), hc, nI_s]
    have e2 : mnI (nI (P.length + 1)) 6 = nI (min (P.length + 1) 6) := by rw [nI_lit]; exact mnI_N (by omega) (by omega)
    rw [e2]
    rfl
  · rw [upI_at, List.length_take, List.length_cons]
    congr 1
    omega
  · have hj6 := get_lt hj
    rw [List.length_take, List.length_cons] at hj6
    rw [List.getElem?_take, if_pos (by omega)] at hj
    cases j with
    | zero =>
      have hq : M = Q := Option.some.inj hj
      subst hq
      rw [show ((nx + 1) % 7 + 6 - 0) % 7 = nx by omega]
      exact h.m.mv (fun c g1 g2 => o c (by intro z; have z1 : c = 30 := z; omega))
    | succ j =>
      have hq : P[j]? = some Q := hj
      rw [show ((nx + 1) % 7 + 6 - (j + 1)) % 7 = (nx + 6 - j) % 7 by omega]
      exact (h.p j Q hq).mv (fun c g1 g2 => o c (by intro z; have z1 : c = 30 := z; omega))
end PA
