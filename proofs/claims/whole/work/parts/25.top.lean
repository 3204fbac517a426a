/-! THE DESK AS A WHOLE: both worlds hold the same -/
abbrev gS : Type := (Nat × (Nat → Nat)) × (Nat × Option Nat × Nat)
def RC (T : gT) (N : gN) (P : List gN) (S : gS) (u : gM) : Prop := (RT 3 T u) ∧ (RN 18 T N u) ∧ (u.1 30 0 = nI P.length) ∧ (∃ nx, nx < 7 ∧ u.1 30 1 = nI nx ∧ ∀ j Q, P[j]? = some Q → RN (32 + 12 * ((nx + 6 - j) % 7)) T Q u) ∧ (u.1 1 0 = nI S.1.1) ∧ (∀ i, i < S.1.1 → u.1 2 i = (nI (S.1.2 i)).toInt8.toInt32) ∧ (u.1 1 1 = nI S.2.1) ∧ (u.1 1 2 = oI S.2.2.1) ∧ (u.1 0 10 = nI S.2.2.2)
theorem RC.t {T : gT} {N : gN} {P : List gN} {S : gS} {u : gM} (h : RC T N P S u) : RT 3 T u := h.1
theorem RC.n {T : gT} {N : gN} {P : List gN} {S : gS} {u : gM} (h : RC T N P S u) : RN 18 T N u := h.2.1
theorem RC.pc {T : gT} {N : gN} {P : List gN} {S : gS} {u : gM} (h : RC T N P S u) : u.1 30 0 = nI P.length := h.2.2.1
theorem RC.pr {T : gT} {N : gN} {P : List gN} {S : gS} {u : gM} (h : RC T N P S u) : ∃ nx, nx < 7 ∧ u.1 30 1 = nI nx ∧ ∀ j Q, P[j]? = some Q → RN (32 + 12 * ((nx + 6 - j) % 7)) T Q u := h.2.2.2.1
theorem RC.tl {T : gT} {N : gN} {P : List gN} {S : gS} {u : gM} (h : RC T N P S u) : u.1 1 0 = nI S.1.1 := h.2.2.2.2.1
theorem RC.tp {T : gT} {N : gN} {P : List gN} {S : gS} {u : gM} (h : RC T N P S u) : ∀ i, i < S.1.1 → u.1 2 i = (nI (S.1.2 i)).toInt8.toInt32 := h.2.2.2.2.2.1
theorem RC.fa {T : gT} {N : gN} {P : List gN} {S : gS} {u : gM} (h : RC T N P S u) : u.1 1 1 = nI S.2.1 := h.2.2.2.2.2.2.1
theorem RC.fp {T : gT} {N : gN} {P : List gN} {S : gS} {u : gM} (h : RC T N P S u) : u.1 1 2 = oI S.2.2.1 := h.2.2.2.2.2.2.2.1
theorem RC.dt {T : gT} {N : gN} {P : List gN} {S : gS} {u : gM} (h : RC T N P S u) : u.1 0 10 = nI S.2.2.2 := h.2.2.2.2.2.2.2.2
def RM (T : gT) (N : gN) (P : List gN) (S : gS) (u : gM) : Prop := (RTm 0 T u) ∧ (RKm 0 T u) ∧ (RNm (u.1 16) T N) ∧ (u.1 0 17 = nI P.length) ∧ (∀ j Q, P[j]? = some Q → RNm (fun i => u.1 17 (439 * (P.length - 1 - j) + i)) T Q) ∧ (u.1 0 20 = nI S.1.1) ∧ (∀ i, i < S.1.1 → u.1 19 i = nI (S.1.2 i)) ∧ (u.1 0 21 = nI S.2.1) ∧ (u.1 0 22 = oI S.2.2.1) ∧ (u.1 0 32 = -nI 1) ∧ (u.1 0 34 = -nI 1) ∧ (u.1 0 44 = nI S.2.2.2)
theorem RM.t {T : gT} {N : gN} {P : List gN} {S : gS} {u : gM} (h : RM T N P S u) : RTm 0 T u := h.1
theorem RM.k {T : gT} {N : gN} {P : List gN} {S : gS} {u : gM} (h : RM T N P S u) : RKm 0 T u := h.2.1
theorem RM.n {T : gT} {N : gN} {P : List gN} {S : gS} {u : gM} (h : RM T N P S u) : RNm (u.1 16) T N := h.2.2.1
theorem RM.pc {T : gT} {N : gN} {P : List gN} {S : gS} {u : gM} (h : RM T N P S u) : u.1 0 17 = nI P.length := h.2.2.2.1
theorem RM.pr {T : gT} {N : gN} {P : List gN} {S : gS} {u : gM} (h : RM T N P S u) : ∀ j Q, P[j]? = some Q → RNm (fun i => u.1 17 (439 * (P.length - 1 - j) + i)) T Q := h.2.2.2.2.1
theorem RM.tl {T : gT} {N : gN} {P : List gN} {S : gS} {u : gM} (h : RM T N P S u) : u.1 0 20 = nI S.1.1 := h.2.2.2.2.2.1
theorem RM.tp {T : gT} {N : gN} {P : List gN} {S : gS} {u : gM} (h : RM T N P S u) : ∀ i, i < S.1.1 → u.1 19 i = nI (S.1.2 i) := h.2.2.2.2.2.2.1
theorem RM.fa {T : gT} {N : gN} {P : List gN} {S : gS} {u : gM} (h : RM T N P S u) : u.1 0 21 = nI S.2.1 := h.2.2.2.2.2.2.2.1
theorem RM.fp {T : gT} {N : gN} {P : List gN} {S : gS} {u : gM} (h : RM T N P S u) : u.1 0 22 = oI S.2.2.1 := h.2.2.2.2.2.2.2.2.1
theorem RM.oa {T : gT} {N : gN} {P : List gN} {S : gS} {u : gM} (h : RM T N P S u) : u.1 0 32 = -nI 1 := h.2.2.2.2.2.2.2.2.2.1
theorem RM.mh {T : gT} {N : gN} {P : List gN} {S : gS} {u : gM} (h : RM T N P S u) : u.1 0 34 = -nI 1 := h.2.2.2.2.2.2.2.2.2.2.1
theorem RM.dt {T : gT} {N : gN} {P : List gN} {S : gS} {u : gM} (h : RM T N P S u) : u.1 0 44 = nI S.2.2.2 := h.2.2.2.2.2.2.2.2.2.2.2
def DV (T : gT) (N : gN) (P : List gN) (S : gS) : Prop := (VT T) ∧ (VN T N) ∧ (∀ Q, Q ∈ P → VN T Q) ∧ (P.length ≤ 6) ∧ (S.1.1 ≤ 700) ∧ (∀ i, i < S.1.1 → S.1.2 i < 256) ∧ (∀ a k, a < T 0 2 → k < T 6 a → 0 < T 14 (a * 6 + k)) ∧ (∀ p, p < T 0 0 → 0 < T 11 p)
theorem DV.t {T : gT} {N : gN} {P : List gN} {S : gS} (h : DV T N P S) : VT T := h.1
theorem DV.n {T : gT} {N : gN} {P : List gN} {S : gS} (h : DV T N P S) : VN T N := h.2.1
theorem DV.p {T : gT} {N : gN} {P : List gN} {S : gS} (h : DV T N P S) : ∀ Q, Q ∈ P → VN T Q := h.2.2.1
theorem DV.pl {T : gT} {N : gN} {P : List gN} {S : gS} (h : DV T N P S) : P.length ≤ 6 := h.2.2.2.1
theorem DV.tl {T : gT} {N : gN} {P : List gN} {S : gS} (h : DV T N P S) : S.1.1 ≤ 700 := h.2.2.2.2.1
theorem DV.tp {T : gT} {N : gN} {P : List gN} {S : gS} (h : DV T N P S) : ∀ i, i < S.1.1 → S.1.2 i < 256 := h.2.2.2.2.2.1
theorem DV.hz {T : gT} {N : gN} {P : List gN} {S : gS} (h : DV T N P S) : ∀ a k, a < T 0 2 → k < T 6 a → 0 < T 14 (a * 6 + k) := h.2.2.2.2.2.2.1
theorem DV.pz {T : gT} {N : gN} {P : List gN} {S : gS} (h : DV T N P S) : ∀ p, p < T 0 0 → 0 < T 11 p := h.2.2.2.2.2.2.2
def RR (T : gT) (N : gN) (P : List gN) (S : gS) (u : gM) (v : gM) : Prop := (DV T N P S) ∧ (RC T N P S u) ∧ (RM T N P S v)
theorem RR.d {T : gT} {N : gN} {P : List gN} {S : gS} {u : gM} {v : gM} (h : RR T N P S u v) : DV T N P S := h.1
theorem RR.c {T : gT} {N : gN} {P : List gN} {S : gS} {u : gM} {v : gM} (h : RR T N P S u v) : RC T N P S u := h.2.1
theorem RR.m {T : gT} {N : gN} {P : List gN} {S : gS} {u : gM} {v : gM} (h : RR T N P S u v) : RM T N P S v := h.2.2
section TOP
variable {T : gT} {N : gN} {P : List gN} {S : gS} {u v u' v' : gM}
theorem RC.mv (h : RC T N P S u) (e : ∀ c, c ≤ 115 → u'.1 c = u.1 c ∧ u'.2 c = u.2 c) : RC T N P S u' := by
  refine ⟨h.t.mv (fun c _ h2 => e c (by omega)), h.n.mv (fun c _ h2 => e c (by omega)), ?_, ?_, ?_, ?_, ?_, ?_, ?_⟩
  · rw [(e 30 (by omega)).1]; exact h.pc
  · obtain ⟨nx, h1, h2, h3⟩ := h.pr
    refine ⟨nx, h1, ?_, ?_⟩
    · rw [(e 30 (by omega)).1]; exact h2
    · intro j Q hj
      exact (h3 j Q hj).mv (fun c _ h2 => e c (by have := Nat.mod_lt (nx + 6 - j) (y := 7) (by decide); omega))
  · rw [(e 1 (by omega)).1]; exact h.tl
  · rw [(e 2 (by omega)).1]; exact h.tp
  · rw [(e 1 (by omega)).1]; exact h.fa
  · rw [(e 1 (by omega)).1]; exact h.fp
  · rw [(e 0 (by omega)).1]; exact h.dt
theorem RM.mv (h : RM T N P S v) (e : ∀ c, c ≤ 19 → c ≠ 18 → v'.1 c = v.1 c ∧ v'.2 c = v.2 c) : RM T N P S v' := by
  refine ⟨h.t.mv (fun c _ h2 => e c (by omega) (by omega)), ?_, ?_, ?_, ?_, ?_, ?_, ?_, ?_, ?_, ?_, ?_⟩
  · have := h.k
    unfold RKm at *
    rw [(e 5 (by omega) (by omega)).1]; exact this
  · rw [(e 16 (by omega) (by omega)).1]; exact h.n
  · rw [(e 0 (by omega) (by omega)).1]; exact h.pc
  · rw [(e 17 (by omega) (by omega)).1]; exact h.pr
  · rw [(e 0 (by omega) (by omega)).1]; exact h.tl
  · rw [(e 19 (by omega) (by omega)).1]; exact h.tp
  · rw [(e 0 (by omega) (by omega)).1]; exact h.fa
  · rw [(e 0 (by omega) (by omega)).1]; exact h.fp
  · rw [(e 0 (by omega) (by omega)).1]; exact h.oa
  · rw [(e 0 (by omega) (by omega)).1]; exact h.mh
  · rw [(e 0 (by omega) (by omega)).1]; exact h.dt
theorem RM.mvw (hV : VT T) (h : RM T N P S v) : MV T N none v := by
  refine ⟨h.t, h.n, ?_, h.mh⟩
  intro a ha
  rw [h.oa]
  have h1 := h.k a ha
  rw [Nat.mul_zero, Nat.zero_add] at h1
  by_cases h2 : nI a = -nI 1
  · exact absurd h2 (fun z => by rw [nI_m1 (by have := hV.na; omega)] at z; exact z)
  · rw [if_neg h2, h1]
/-- the same answer, and neither touches what it holds -/
def SQ {α : Type} (x y : Option (α × gM)) (u v : gM) : Prop := ∃ r u' v', x = some (r, u') ∧ y = some (r, v') ∧ off sX u u' ∧ off sY v v'
/-- the same answer, and both hold the same behind -/
def SR {α : Type} (x y : Option (α × gM)) : Prop := ∃ r u' v' T N P S, x = some (r, u') ∧ y = some (r, v') ∧ RR T N P S u' v'
theorem SQ.r {α : Type} {x y : Option (α × gM)} (h : SQ x y u v) (hR : RR T N P S u v) : SR x y := by
  obtain ⟨r, u', v', h1, h2, h3, h4⟩ := h
  refine ⟨r, u', v', T, N, P, S, h1, h2, hR.d, hR.c.mv (fun c hc => h3 c (by intro z; have z1 : 137 ≤ c := z; omega)), hR.m.mv (fun c hc _ => h4 c (by intro z; have z1 : 20 ≤ c := z; omega))⟩
def SP {α : Type} (x y : Option α) : Prop := ∃ r, x = some r ∧ y = some r
theorem n10 : ¬ ((nI 1 : Int32) = 0) := by decide
theorem z00 : ((nI 0 : Int32) = 0) := by decide
theorem i_out {x : Int32} {n k : Nat} (h : x < nI 0 ∨ nI n ≤ x) (hk : k < n) (hn : n < 2 ^ 31) : (x = nI k) = False := by
  refine eq_false (fun z => ?_)
  subst z
  rcases h with h | h
  · exact i_nlt k (by omega) h
  · rw [nI_leI hn (by omega)] at h; omega
end TOP
