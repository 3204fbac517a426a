/-! what a BOOK told comes in place of all -/
def N0 (T : gT) : gN := (fun r i => if r = 1 then T 3 i else if r = 2 then T 10 i else 0, fun _ _ => none)
theorem N0_V {T : gT} (hV : VT T) : VN T (N0 T) := by
  refine ⟨Nat.zero_le _, hV.tc, hV.lc, fun b hb => Nat.zero_le _, fun b c _ h => ?_, fun b _ h => absurd rfl h, fun b m _ h => ?_, fun i hi => ⟨Iff.rfl, Iff.rfl, Iff.rfl⟩, fun _ i hi => rfl, fun r i v _ _ _ h => ?_, Nat.zero_le _, fun b h => ?_, ⟨fun _ => 5, fun b hb => Or.inl ⟨rfl, rfl⟩⟩⟩
  · cases h
  · cases h
  · cases h
  · cases h
section CB
variable {u v u1 v1 : gM} {D : gT}
theorem cp1J {r0 r1 n : Nat} (h0 : skC[r0]? = some (.inr (1, n, []))) (h1 : skC[r1]? = some (.inr (1, n, []))) (hn : n < 2 ^ 31) : ∃ u', cpJ skC u r0 (nI 0) r1 (nI 0) (nI n) = some u' ∧ (∀ i, i < n → u'.2 r1 i = u.2 r0 i) ∧ (∀ c, c ≠ r1 → u'.2 c = u.2 c) ∧ u'.1 = u.1 := by
  refine ⟨_, cpJ_at h0 h1 hn (by omega) (by omega) hn, fun i hi => ?_, fun c hc => upRJ_k hc, upRJ_1⟩
  have hz : (upRJ u r1 (va_cpy (u.2 r0) (u.2 r1) 0 0 n)).2 r1 = va_cpy (u.2 r0) (u.2 r1) 0 0 n := by simp [upRJ]
  rw [hz]
  unfold va_cpy
  simp [hi]
theorem cpX1 {r0 r1 n : Nat} (h0 : skC[r0]? = some (.inr (0, n, []))) (h1 : skC[r1]? = some (.inr (0, n, []))) (hn : n < 2 ^ 31) : ∃ u', cpI skC u r0 (nI 0) r1 (nI 0) (nI n) = some u' ∧ (∀ i, i < n → u'.1 r1 i = u.1 r0 i) ∧ off (fun c => c = r1) u u' := by
  obtain ⟨u', e, a, b, c⟩ := cp1 (u := u) h0 h1 hn
  exact ⟨u', e, a, fun d hd => ⟨b d hd, by rw [c]⟩⟩
theorem cpX2 {r0 r1 n : Nat} (h0 : skC[r0]? = some (.inr (1, n, []))) (h1 : skC[r1]? = some (.inr (1, n, []))) (hn : n < 2 ^ 31) : ∃ u', cpJ skC u r0 (nI 0) r1 (nI 0) (nI n) = some u' ∧ (∀ i, i < n → u'.2 r1 i = u.2 r0 i) ∧ off (fun c => c = r1) u u' := by
  obtain ⟨u', e, a, b, c⟩ := cp1J (u := u) h0 h1 hn
  exact ⟨u', e, a, fun d hd => ⟨by rw [c], b d hd⟩⟩
theorem offR {S S2 S' : Nat → Prop} {a b c : gM} (h1 : off S a b) (h2 : off S2 b c) (h : ∀ x, S x ∨ S2 x → S' x) : off S' a c := off_tr (off_mono h1 (fun x hx => h x (Or.inl hx))) (off_mono h2 (fun x hx => h x (Or.inr hx)))
theorem q_tcopy (hV : VT D) (h : RT 117 D u) : ∃ u', X10_copy 3 117 u = some u' ∧ off (fun c => 3 ≤ c ∧ c ≤ 17) u u' ∧ RT 3 D u' := by
  have hnp := hV.np; have hnb := hV.nb; have hna := hV.na; have hnl := hV.nl; have hno := hV.no; have hnh := hV.nh
  have A := TOk_3
  have B := TOk_117
  generalize hw : upI (upI (upI (upI (upI (upI u 3 0 (u.1 117 0)) 3 1 (u.1 117 1)) 3 2 (u.1 117 2)) 3 3 (u.1 117 3)) 3 4 (u.1 117 4)) 3 5 (u.1 117 5) = w
  have p0 : off (fun c => c = 3) u w := by
    rw [← hw]
    exact off_upI (k := 3) rfl (off_upI (k := 3) rfl (off_upI (k := 3) rfl (off_upI (k := 3) rfl (off_upI (k := 3) rfl (off_upI (k := 3) rfl off_rf)))))
  obtain ⟨u4, e4, a4, o4⟩ := cpX2 (u := w) (r0 := 118) (r1 := 4) (n := 10) (by decide) (by decide) (by omega)
  obtain ⟨u5, e5, a5, o5⟩ := cpX2 (u := u4) (r0 := 119) (r1 := 5) (n := 6) (by decide) (by decide) (by omega)
  obtain ⟨u6, e6, a6, o6⟩ := cpX2 (u := u5) (r0 := 120) (r1 := 6) (n := 24) (by decide) (by decide) (by omega)
  obtain ⟨u7, e7, a7, o7⟩ := cpX1 (u := u6) (r0 := 121) (r1 := 7) (n := 24) (by decide) (by decide) (by omega)
  obtain ⟨u8, e8, a8, o8⟩ := cpX1 (u := u7) (r0 := 122) (r1 := 8) (n := 24) (by decide) (by decide) (by omega)
  obtain ⟨u9, e9, a9, o9⟩ := cpX1 (u := u8) (r0 := 123) (r1 := 9) (n := 24) (by decide) (by decide) (by omega)
  obtain ⟨u10, e10, a10, o10⟩ := cpX1 (u := u9) (r0 := 124) (r1 := 10) (n := 24) (by decide) (by decide) (by omega)
  obtain ⟨u11, e11, a11, o11⟩ := cpX1 (u := u10) (r0 := 125) (r1 := 11) (n := 24) (by decide) (by decide) (by omega)
  obtain ⟨u12, e12, a12, o12⟩ := cpX1 (u := u11) (r0 := 126) (r1 := 12) (n := 24) (by decide) (by decide) (by omega)
  obtain ⟨u13, e13, a13, o13⟩ := cpX1 (u := u12) (r0 := 127) (r1 := 13) (n := 96) (by decide) (by decide) (by omega)
  obtain ⟨u14, e14, a14, o14⟩ := cpX2 (u := u13) (r0 := 128) (r1 := 14) (n := 144) (by decide) (by decide) (by omega)
  obtain ⟨u15, e15, a15, o15⟩ := cpX1 (u := u14) (r0 := 129) (r1 := 15) (n := 10) (by decide) (by decide) (by omega)
  obtain ⟨u16, e16, a16, o16⟩ := cpX1 (u := u15) (r0 := 130) (r1 := 16) (n := 10) (by decide) (by decide) (by omega)
  obtain ⟨u17, e17, a17, o17⟩ := cpX1 (u := u16) (r0 := 131) (r1 := 17) (n := 10) (by decide) (by decide) (by omega)
  have P4 : off (fun c => 3 ≤ c ∧ c < 4) u w := off_mono p0 (fun c hc => by have z : c = 3 := hc; omega)
  have P5 : off (fun c => 3 ≤ c ∧ c < 5) u u4 := offR P4 o4 (fun c hc => by rcases hc with z | z; exact ⟨z.1, by have := z.2; omega⟩; exact ⟨by have z2 : c = 4 := z; omega, by have z2 : c = 4 := z; omega⟩)
  have P6 : off (fun c => 3 ≤ c ∧ c < 6) u u5 := offR P5 o5 (fun c hc => by rcases hc with z | z; exact ⟨z.1, by have := z.2; omega⟩; exact ⟨by have z2 : c = 5 := z; omega, by have z2 : c = 5 := z; omega⟩)
  have P7 : off (fun c => 3 ≤ c ∧ c < 7) u u6 := offR P6 o6 (fun c hc => by rcases hc with z | z; exact ⟨z.1, by have := z.2; omega⟩; exact ⟨by have z2 : c = 6 := z; omega, by have z2 : c = 6 := z; omega⟩)
  have P8 : off (fun c => 3 ≤ c ∧ c < 8) u u7 := offR P7 o7 (fun c hc => by rcases hc with z | z; exact ⟨z.1, by have := z.2; omega⟩; exact ⟨by have z2 : c = 7 := z; omega, by have z2 : c = 7 := z; omega⟩)
  have P9 : off (fun c => 3 ≤ c ∧ c < 9) u u8 := offR P8 o8 (fun c hc => by rcases hc with z | z; exact ⟨z.1, by have := z.2; omega⟩; exact ⟨by have z2 : c = 8 := z; omega, by have z2 : c = 8 := z; omega⟩)
  have P10 : off (fun c => 3 ≤ c ∧ c < 10) u u9 := offR P9 o9 (fun c hc => by rcases hc with z | z; exact ⟨z.1, by have := z.2; omega⟩; exact ⟨by have z2 : c = 9 := z; omega, by have z2 : c = 9 := z; omega⟩)
  have P11 : off (fun c => 3 ≤ c ∧ c < 11) u u10 := offR P10 o10 (fun c hc => by rcases hc with z | z; exact ⟨z.1, by have := z.2; omega⟩; exact ⟨by have z2 : c = 10 := z; omega, by have z2 : c = 10 := z; omega⟩)
  have P12 : off (fun c => 3 ≤ c ∧ c < 12) u u11 := offR P11 o11 (fun c hc => by rcases hc with z | z; exact ⟨z.1, by have := z.2; omega⟩; exact ⟨by have z2 : c = 11 := z; omega, by have z2 : c = 11 := z; omega⟩)
  have P13 : off (fun c => 3 ≤ c ∧ c < 13) u u12 := offR P12 o12 (fun c hc => by rcases hc with z | z; exact ⟨z.1, by have := z.2; omega⟩; exact ⟨by have z2 : c = 12 := z; omega, by have z2 : c = 12 := z; omega⟩)
  have P14 : off (fun c => 3 ≤ c ∧ c < 14) u u13 := offR P13 o13 (fun c hc => by rcases hc with z | z; exact ⟨z.1, by have := z.2; omega⟩; exact ⟨by have z2 : c = 13 := z; omega, by have z2 : c = 13 := z; omega⟩)
  have P15 : off (fun c => 3 ≤ c ∧ c < 15) u u14 := offR P14 o14 (fun c hc => by rcases hc with z | z; exact ⟨z.1, by have := z.2; omega⟩; exact ⟨by have z2 : c = 14 := z; omega, by have z2 : c = 14 := z; omega⟩)
  have P16 : off (fun c => 3 ≤ c ∧ c < 16) u u15 := offR P15 o15 (fun c hc => by rcases hc with z | z; exact ⟨z.1, by have := z.2; omega⟩; exact ⟨by have z2 : c = 15 := z; omega, by have z2 : c = 15 := z; omega⟩)
  have P17 : off (fun c => 3 ≤ c ∧ c < 17) u u16 := offR P16 o16 (fun c hc => by rcases hc with z | z; exact ⟨z.1, by have := z.2; omega⟩; exact ⟨by have z2 : c = 16 := z; omega, by have z2 : c = 16 := z; omega⟩)
  have P18 : off (fun c => 3 ≤ c ∧ c < 18) u u17 := offR P17 o17 (fun c hc => by rcases hc with z | z; exact ⟨z.1, by have := z.2; omega⟩; exact ⟨by have z2 : c = 17 := z; omega, by have z2 : c = 17 := z; omega⟩)
  have R17 : off (fun c => 17 < c ∧ c ≤ 17) u17 u17 := off_rf
  have R16 : off (fun c => 16 < c ∧ c ≤ 17) u16 u17 := offR o17 R17 (fun c hc => by rcases hc with z | z; exact ⟨by have z2 : c = 17 := z; omega, by have z2 : c = 17 := z; omega⟩; exact ⟨by have := z.1; omega, z.2⟩)
  have R15 : off (fun c => 15 < c ∧ c ≤ 17) u15 u17 := offR o16 R16 (fun c hc => by rcases hc with z | z; exact ⟨by have z2 : c = 16 := z; omega, by have z2 : c = 16 := z; omega⟩; exact ⟨by have := z.1; omega, z.2⟩)
  have R14 : off (fun c => 14 < c ∧ c ≤ 17) u14 u17 := offR o15 R15 (fun c hc => by rcases hc with z | z; exact ⟨by have z2 : c = 15 := z; omega, by have z2 : c = 15 := z; omega⟩; exact ⟨by have := z.1; omega, z.2⟩)
  have R13 : off (fun c => 13 < c ∧ c ≤ 17) u13 u17 := offR o14 R14 (fun c hc => by rcases hc with z | z; exact ⟨by have z2 : c = 14 := z; omega, by have z2 : c = 14 := z; omega⟩; exact ⟨by have := z.1; omega, z.2⟩)
  have R12 : off (fun c => 12 < c ∧ c ≤ 17) u12 u17 := offR o13 R13 (fun c hc => by rcases hc with z | z; exact ⟨by have z2 : c = 13 := z; omega, by have z2 : c = 13 := z; omega⟩; exact ⟨by have := z.1; omega, z.2⟩)
  have R11 : off (fun c => 11 < c ∧ c ≤ 17) u11 u17 := offR o12 R12 (fun c hc => by rcases hc with z | z; exact ⟨by have z2 : c = 12 := z; omega, by have z2 : c = 12 := z; omega⟩; exact ⟨by have := z.1; omega, z.2⟩)
  have R10 : off (fun c => 10 < c ∧ c ≤ 17) u10 u17 := offR o11 R11 (fun c hc => by rcases hc with z | z; exact ⟨by have z2 : c = 11 := z; omega, by have z2 : c = 11 := z; omega⟩; exact ⟨by have := z.1; omega, z.2⟩)
  have R9 : off (fun c => 9 < c ∧ c ≤ 17) u9 u17 := offR o10 R10 (fun c hc => by rcases hc with z | z; exact ⟨by have z2 : c = 10 := z; omega, by have z2 : c = 10 := z; omega⟩; exact ⟨by have := z.1; omega, z.2⟩)
  have R8 : off (fun c => 8 < c ∧ c ≤ 17) u8 u17 := offR o9 R9 (fun c hc => by rcases hc with z | z; exact ⟨by have z2 : c = 9 := z; omega, by have z2 : c = 9 := z; omega⟩; exact ⟨by have := z.1; omega, z.2⟩)
  have R7 : off (fun c => 7 < c ∧ c ≤ 17) u7 u17 := offR o8 R8 (fun c hc => by rcases hc with z | z; exact ⟨by have z2 : c = 8 := z; omega, by have z2 : c = 8 := z; omega⟩; exact ⟨by have := z.1; omega, z.2⟩)
  have R6 : off (fun c => 6 < c ∧ c ≤ 17) u6 u17 := offR o7 R7 (fun c hc => by rcases hc with z | z; exact ⟨by have z2 : c = 7 := z; omega, by have z2 : c = 7 := z; omega⟩; exact ⟨by have := z.1; omega, z.2⟩)
  have R5 : off (fun c => 5 < c ∧ c ≤ 17) u5 u17 := offR o6 R6 (fun c hc => by rcases hc with z | z; exact ⟨by have z2 : c = 6 := z; omega, by have z2 : c = 6 := z; omega⟩; exact ⟨by have := z.1; omega, z.2⟩)
  have R4 : off (fun c => 4 < c ∧ c ≤ 17) u4 u17 := offR o5 R5 (fun c hc => by rcases hc with z | z; exact ⟨by have z2 : c = 5 := z; omega, by have z2 : c = 5 := z; omega⟩; exact ⟨by have := z.1; omega, z.2⟩)
  have R3 : off (fun c => 3 < c ∧ c ≤ 17) w u17 := offR o4 R4 (fun c hc => by rcases hc with z | z; exact ⟨by have z2 : c = 4 := z; omega, by have z2 : c = 4 := z; omega⟩; exact ⟨by have := z.1; omega, z.2⟩)
  have eC : X10_copy 3 117 u = some u17 := by
    unfold X10_copy X10_copy_b16 X10_copy_b32 X10_copy_b48
    have f1 : (upI u 3 0 (u.1 117 0)).1 117 1 = u.1 117 1 := by rw [upI_k (by omega)]
    have f2 : (upI (upI u 3 0 (u.1 117 0)) 3 1 (u.1 117 1)).1 117 2 = u.1 117 2 := by rw [upI_k (by omega), upI_k (by omega)]
    have f3 : (upI (upI (upI u 3 0 (u.1 117 0)) 3 1 (u.1 117 1)) 3 2 (u.1 117 2)).1 117 3 = u.1 117 3 := by rw [upI_k (by omega), upI_k (by omega), upI_k (by omega)]
    have f4 : (upI (upI (upI (upI u 3 0 (u.1 117 0)) 3 1 (u.1 117 1)) 3 2 (u.1 117 2)) 3 3 (u.1 117 3)).1 117 4 = u.1 117 4 := by rw [upI_k (by omega), upI_k (by omega), upI_k (by omega), upI_k (by omega)]
    have f5 : (upI (upI (upI (upI (upI u 3 0 (u.1 117 0)) 3 1 (u.1 117 1)) 3 2 (u.1 117 2)) 3 3 (u.1 117 3)) 3 4 (u.1 117 4)).1 117 5 = u.1 117 5 := by rw [upI_k (by omega), upI_k (by omega), upI_k (by omega), upI_k (by omega), upI_k (by omega)]
    simp only [A.o, B.o, if_true, ↓reduceIte, f1, f2, f3, f4, f5, hw, A.f6, A.f7, A.f8, A.f9, A.f10, A.f11, A.f12, A.f13, A.f14, A.f15, A.f16, A.f17, A.f18, A.f19, B.f6, B.f7, B.f8, B.f9, B.f10, B.f11, B.f12, B.f13, B.f14, B.f15, B.f16, B.f17, B.f18, B.f19]
    rw [bnd (show cpJ skC w 118 0 4 0 10 = some u4 from e4)]
    rw [bnd (show cpJ skC u4 119 0 5 0 6 = some u5 from e5)]
    rw [bnd (show cpJ skC u5 120 0 6 0 24 = some u6 from e6)]
    rw [bnd (show cpI skC u6 121 0 7 0 24 = some u7 from e7)]
    rw [bnd (show cpI skC u7 122 0 8 0 24 = some u8 from e8)]
    rw [bnd (show cpI skC u8 123 0 9 0 24 = some u9 from e9)]
    rw [bnd (show cpI skC u9 124 0 10 0 24 = some u10 from e10)]
    rw [bnd (show cpI skC u10 125 0 11 0 24 = some u11 from e11)]
    rw [bnd (show cpI skC u11 126 0 12 0 24 = some u12 from e12)]
    rw [bnd (show cpI skC u12 127 0 13 0 96 = some u13 from e13)]
    rw [bnd (show cpJ skC u13 128 0 14 0 144 = some u14 from e14)]
    rw [bnd (show cpI skC u14 129 0 15 0 10 = some u15 from e15)]
    rw [bnd (show cpI skC u15 130 0 16 0 10 = some u16 from e16)]
    rw [bnd (show cpI skC u16 131 0 17 0 10 = some u17 from e17)]
  have g3 : u17.1 3 = w.1 3 := (R3 3 (by rintro ⟨z, _⟩; omega)).1
  have g4 : ∀ i, i < 10 → u17.2 4 i = u.2 118 i := fun i hi => by rw [(R4 4 (by rintro ⟨z, _⟩; omega)).2, a4 i hi, (P4 118 (by rintro ⟨_, z⟩; omega)).2]
  have g5 : ∀ i, i < 6 → u17.2 5 i = u.2 119 i := fun i hi => by rw [(R5 5 (by rintro ⟨z, _⟩; omega)).2, a5 i hi, (P5 119 (by rintro ⟨_, z⟩; omega)).2]
  have g6 : ∀ i, i < 24 → u17.2 6 i = u.2 120 i := fun i hi => by rw [(R6 6 (by rintro ⟨z, _⟩; omega)).2, a6 i hi, (P6 120 (by rintro ⟨_, z⟩; omega)).2]
  have g7 : ∀ i, i < 24 → u17.1 7 i = u.1 121 i := fun i hi => by rw [(R7 7 (by rintro ⟨z, _⟩; omega)).1, a7 i hi, (P7 121 (by rintro ⟨_, z⟩; omega)).1]
  have g8 : ∀ i, i < 24 → u17.1 8 i = u.1 122 i := fun i hi => by rw [(R8 8 (by rintro ⟨z, _⟩; omega)).1, a8 i hi, (P8 122 (by rintro ⟨_, z⟩; omega)).1]
  have g9 : ∀ i, i < 24 → u17.1 9 i = u.1 123 i := fun i hi => by rw [(R9 9 (by rintro ⟨z, _⟩; omega)).1, a9 i hi, (P9 123 (by rintro ⟨_, z⟩; omega)).1]
  have g10 : ∀ i, i < 24 → u17.1 10 i = u.1 124 i := fun i hi => by rw [(R10 10 (by rintro ⟨z, _⟩; omega)).1, a10 i hi, (P10 124 (by rintro ⟨_, z⟩; omega)).1]
  have g11 : ∀ i, i < 24 → u17.1 11 i = u.1 125 i := fun i hi => by rw [(R11 11 (by rintro ⟨z, _⟩; omega)).1, a11 i hi, (P11 125 (by rintro ⟨_, z⟩; omega)).1]
  have g12 : ∀ i, i < 24 → u17.1 12 i = u.1 126 i := fun i hi => by rw [(R12 12 (by rintro ⟨z, _⟩; omega)).1, a12 i hi, (P12 126 (by rintro ⟨_, z⟩; omega)).1]
  have g13 : ∀ i, i < 96 → u17.1 13 i = u.1 127 i := fun i hi => by rw [(R13 13 (by rintro ⟨z, _⟩; omega)).1, a13 i hi, (P13 127 (by rintro ⟨_, z⟩; omega)).1]
  have g14 : ∀ i, i < 144 → u17.2 14 i = u.2 128 i := fun i hi => by rw [(R14 14 (by rintro ⟨z, _⟩; omega)).2, a14 i hi, (P14 128 (by rintro ⟨_, z⟩; omega)).2]
  have g15 : ∀ i, i < 10 → u17.1 15 i = u.1 129 i := fun i hi => by rw [(R15 15 (by rintro ⟨z, _⟩; omega)).1, a15 i hi, (P15 129 (by rintro ⟨_, z⟩; omega)).1]
  have g16 : ∀ i, i < 10 → u17.1 16 i = u.1 130 i := fun i hi => by rw [(R16 16 (by rintro ⟨z, _⟩; omega)).1, a16 i hi, (P16 130 (by rintro ⟨_, z⟩; omega)).1]
  have g17 : ∀ i, i < 10 → u17.1 17 i = u.1 131 i := fun i hi => by rw [(R17 17 (by rintro ⟨z, _⟩; omega)).1, a17 i hi, (P17 131 (by rintro ⟨_, z⟩; omega)).1]
  refine ⟨u17, eC, off_mono P18 (fun c hc => ⟨hc.1, by have := hc.2; omega⟩), ?_⟩
  refine ⟨by rw [g3, ← hw]; exact h.np, by rw [g3, ← hw]; exact h.nb, by rw [g3, ← hw]; exact h.na, by rw [g3, ← hw]; exact h.nl, by rw [g3, ← hw]; exact h.li, by rw [g3, ← hw]; exact h.gr, fun i hi => ?_, fun i hi => ?_, fun i hi => ?_, fun i hi => ?_, fun i hi => ?_, fun i hi => ?_, fun i hi => ?_, fun i hi => ?_, fun i hi => ?_, fun i k hi hk => ?_, fun i k hi hk => ?_, fun i hi => ?_, fun i hi => ?_, fun i hi => ?_⟩
  · rw [g4 i (by omega)]; exact h.pn i hi
  · rw [g5 i (by omega)]; exact h.bn i hi
  · rw [g6 i (by omega)]; exact h.an i hi
  · rw [g7 i (by omega)]; exact h.kd i hi
  · rw [g8 i (by omega)]; exact h.hm i hi
  · rw [g9 i (by omega)]; exact h.tc i hi
  · rw [g10 i (by omega)]; exact h.te i hi
  · rw [g11 i (by omega)]; exact h.no i hi
  · rw [g12 i (by omega)]; exact h.nh i hi
  · rw [g13 _ (by have := hno i hi; omega)]; exact h.ow i k hi hk
  · rw [g14 _ (by have := hnh i hi; omega)]; exact h.hn i k hi hk
  · rw [g15 i (by omega)]; exact h.lp i hi
  · rw [g16 i (by omega)]; exact h.lb i hi
  · rw [g17 i (by omega)]; exact h.lc i hi
theorem q_open (hV : VT D) (h : RT 3 D u) : ∃ u', X8_open 18 3 u = some u' ∧ off (fun c => 18 ≤ c ∧ c ≤ 28) u u' ∧ RN 18 D (N0 D) u' := by
  have hna := hV.na; have hnl := hV.nl
  have A := TOk_3
  have C := STk_18
  obtain ⟨u1, e1, a1, o1⟩ := cpX1 (u := upI u 18 0 0) (r0 := 9) (r1 := 19) (n := 24) (by decide) (by decide) (by omega)
  obtain ⟨u2, e2, a2, o2⟩ := cpX1 (u := u1) (r0 := 17) (r1 := 20) (n := 10) (by decide) (by decide) (by omega)
  obtain ⟨u3, e3, a3, o3⟩ := q_fill (x := -nI 1) (u := u2) (r := 21) (n := 6) (by decide) (by decide)
  obtain ⟨u4, e4, a4, o4⟩ := q_fill (x := -nI 1) (u := u3) (r := 22) (n := 6) (by decide) (by decide)
  obtain ⟨u5, e5, a5, o5⟩ := q_fill (x := nI 0) (u := u4) (r := 23) (n := 6) (by decide) (by decide)
  obtain ⟨u6, e6, o6, k6, q6, r6⟩ := q_fclear (u := u5) (w := -nI 1) FLk_24
  have p1 : ∀ c, c ≠ 19 → u1.1 c = (upI u 18 0 0).1 c ∧ u1.2 c = (upI u 18 0 0).2 c := fun c hc => o1 c hc
  have p2 : ∀ c, c ≠ 20 → u2.1 c = u1.1 c ∧ u2.2 c = u1.2 c := fun c hc => o2 c hc
  have p3 : ∀ c, c ≠ 21 → u3.1 c = u2.1 c ∧ u3.2 c = u2.2 c := fun c hc => o3 c hc
  have p4 : ∀ c, c ≠ 22 → u4.1 c = u3.1 c ∧ u4.2 c = u3.2 c := fun c hc => o4 c hc
  have p5 : ∀ c, c ≠ 23 → u5.1 c = u4.1 c ∧ u5.2 c = u4.2 c := fun c hc => o5 c hc
  have p6 : ∀ c, c < 24 ∨ 28 < c → u6.1 c = u5.1 c ∧ u6.2 c = u5.2 c := fun c hc => o6 c (by rintro ⟨z1, z2⟩; omega)
  refine ⟨u6, ?_, fun c hc => ?_, ?_⟩
  · unfold X8_open
    simp only [C.o8, A.o, C.o5, if_true, ↓reduceIte, A.f11, A.f19, C.f1, C.f2, C.f3, C.f4, C.f5, C.f6]
    rw [bnd (show cpI skC (upI u 18 0 0) (3 + 6) 0 (18 + 1) 0 24 = some u1 from e1), bnd (show cpI skC u1 (3 + 14) 0 (18 + 2) 0 10 = some u2 from e2), bnd (show J7_fill_53178 (18 + 3) (-1) u2 = some u3 from e3), bnd (show J7_fill_53178 (18 + 4) (-1) u3 = some u4 from e4), bnd (show J7_fill_53178 (18 + 5) 0 u4 = some u5 from e5), bnd (show X5_clear (18 + 6) (-1) u5 = some u6 from e6)]
  · have hc2 : ¬ (18 ≤ c ∧ c ≤ 28) := hc
    refine ⟨?_, ?_⟩
    · rw [(p6 c (by omega)).1, (p5 c (by omega)).1, (p4 c (by omega)).1, (p3 c (by omega)).1, (p2 c (by omega)).1, (p1 c (by omega)).1, upI_k (by omega)]
    · rw [(p6 c (by omega)).2, (p5 c (by omega)).2, (p4 c (by omega)).2, (p3 c (by omega)).2, (p2 c (by omega)).2, (p1 c (by omega)).2, upI_2]
  · refine ⟨?_, fun a ha => ?_, fun l hl => ?_, fun b hb => ?_, fun b hb => ?_, fun b hb => ?_, ?_, ?_, fun i hi => ?_, fun i hi => ?_, fun i hi => ?_, fun i hi => ?_⟩
    · rw [(p6 18 (by omega)).1, (p5 18 (by omega)).1, (p4 18 (by omega)).1, (p3 18 (by omega)).1, (p2 18 (by omega)).1, (p1 18 (by omega)).1, upI_at]
      rfl
    · rw [(p6 19 (by omega)).1, (p5 19 (by omega)).1, (p4 19 (by omega)).1, (p3 19 (by omega)).1, (p2 19 (by omega)).1, a1 a (by omega), upI_k (by omega)]
      exact h.tc a ha
    · rw [(p6 20 (by omega)).1, (p5 20 (by omega)).1, (p4 20 (by omega)).1, (p3 20 (by omega)).1, a2 l (by omega), (p1 17 (by omega)).1, upI_k (by omega)]
      exact h.lc l hl
    · rw [(p6 21 (by omega)).1, (p5 21 (by omega)).1, (p4 21 (by omega)).1, a3 b hb]
      rfl
    · rw [(p6 22 (by omega)).1, (p5 22 (by omega)).1, a4 b hb]
      rfl
    · rw [(p6 23 (by omega)).1, a5 b hb]
      rfl
    · exact k6
    · exact q6
    · exact r6 25 i (by omega) (by omega) hi
    · exact r6 26 i (by omega) (by omega) hi
    · exact r6 27 i (by omega) (by omega) hi
    · exact r6 28 i (by omega) (by omega) hi
end CB
