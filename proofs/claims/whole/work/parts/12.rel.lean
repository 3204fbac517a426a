/-! THE DESK: what is told (T), what deeds change (N) -/
abbrev gT : Type := Nat → Nat → Nat
abbrev gN : Type := (Nat → Nat → Nat) × (Nat → Nat → Option Nat)
/-- a NAME's code of base 27, in base 32 -/
def cv : Nat → Nat
  | 0 => 0
  | n + 1 => 32 * cv ((n + 1) / 27) + (n + 1) % 27
termination_by n => n
decreasing_by omega
def VT (T : gT) : Prop := (T 0 0 ≤ 10) ∧ (T 0 1 ≤ 6) ∧ (T 0 2 ≤ 24) ∧ (T 0 3 ≤ 10) ∧ (1 ≤ T 0 4 ∧ T 0 4 ≤ 100000000) ∧ (T 0 5 ≤ 60) ∧ (∀ a, a < T 0 2 → T 1 a ≤ 4) ∧ (∀ a, a < T 0 2 → T 2 a < T 0 1) ∧ (∀ a, a < T 0 2 → T 3 a ≤ 100000000) ∧ (∀ a, a < T 0 2 → T 4 a ≤ 60) ∧ (∀ a, a < T 0 2 → 1 ≤ T 5 a ∧ T 5 a ≤ 4) ∧ (∀ a, a < T 0 2 → T 6 a ≤ 6) ∧ (∀ a k, a < T 0 2 → k < T 5 a → T 7 (a * 4 + k) < T 0 0) ∧ (∀ a k j, a < T 0 2 → k < T 5 a → j < T 5 a → T 7 (a * 4 + k) = T 7 (a * 4 + j) → k = j) ∧ (∀ l, l < T 0 3 → T 8 l < T 0 0) ∧ (∀ l, l < T 0 3 → T 9 l < T 0 1) ∧ (∀ l, l < T 0 3 → T 10 l ≤ 100000000) ∧ (∀ p, p < T 0 0 → T 11 p < 27 ^ 8) ∧ (∀ b, b < T 0 1 → T 12 b < 27 ^ 8) ∧ (∀ a, a < T 0 2 → T 13 a < 27 ^ 8) ∧ (∀ a k, a < T 0 2 → k < T 6 a → T 14 (a * 6 + k) < 27 ^ 8)
theorem VT.np {T : gT} (h : VT T) : T 0 0 ≤ 10 := h.1
theorem VT.nb {T : gT} (h : VT T) : T 0 1 ≤ 6 := h.2.1
theorem VT.na {T : gT} (h : VT T) : T 0 2 ≤ 24 := h.2.2.1
theorem VT.nl {T : gT} (h : VT T) : T 0 3 ≤ 10 := h.2.2.2.1
theorem VT.li {T : gT} (h : VT T) : 1 ≤ T 0 4 ∧ T 0 4 ≤ 100000000 := h.2.2.2.2.1
theorem VT.gr {T : gT} (h : VT T) : T 0 5 ≤ 60 := h.2.2.2.2.2.1
theorem VT.kd {T : gT} (h : VT T) : ∀ a, a < T 0 2 → T 1 a ≤ 4 := h.2.2.2.2.2.2.1
theorem VT.hm {T : gT} (h : VT T) : ∀ a, a < T 0 2 → T 2 a < T 0 1 := h.2.2.2.2.2.2.2.1
theorem VT.tc {T : gT} (h : VT T) : ∀ a, a < T 0 2 → T 3 a ≤ 100000000 := h.2.2.2.2.2.2.2.2.1
theorem VT.te {T : gT} (h : VT T) : ∀ a, a < T 0 2 → T 4 a ≤ 60 := h.2.2.2.2.2.2.2.2.2.1
theorem VT.no {T : gT} (h : VT T) : ∀ a, a < T 0 2 → 1 ≤ T 5 a ∧ T 5 a ≤ 4 := h.2.2.2.2.2.2.2.2.2.2.1
theorem VT.nh {T : gT} (h : VT T) : ∀ a, a < T 0 2 → T 6 a ≤ 6 := h.2.2.2.2.2.2.2.2.2.2.2.1
theorem VT.ow {T : gT} (h : VT T) : ∀ a k, a < T 0 2 → k < T 5 a → T 7 (a * 4 + k) < T 0 0 := h.2.2.2.2.2.2.2.2.2.2.2.2.1
theorem VT.od {T : gT} (h : VT T) : ∀ a k j, a < T 0 2 → k < T 5 a → j < T 5 a → T 7 (a * 4 + k) = T 7 (a * 4 + j) → k = j := h.2.2.2.2.2.2.2.2.2.2.2.2.2.1
theorem VT.lp {T : gT} (h : VT T) : ∀ l, l < T 0 3 → T 8 l < T 0 0 := h.2.2.2.2.2.2.2.2.2.2.2.2.2.2.1
theorem VT.lb {T : gT} (h : VT T) : ∀ l, l < T 0 3 → T 9 l < T 0 1 := h.2.2.2.2.2.2.2.2.2.2.2.2.2.2.2.1
theorem VT.lc {T : gT} (h : VT T) : ∀ l, l < T 0 3 → T 10 l ≤ 100000000 := h.2.2.2.2.2.2.2.2.2.2.2.2.2.2.2.2.1
theorem VT.pn {T : gT} (h : VT T) : ∀ p, p < T 0 0 → T 11 p < 27 ^ 8 := h.2.2.2.2.2.2.2.2.2.2.2.2.2.2.2.2.2.1
theorem VT.bn {T : gT} (h : VT T) : ∀ b, b < T 0 1 → T 12 b < 27 ^ 8 := h.2.2.2.2.2.2.2.2.2.2.2.2.2.2.2.2.2.2.1
theorem VT.an {T : gT} (h : VT T) : ∀ a, a < T 0 2 → T 13 a < 27 ^ 8 := h.2.2.2.2.2.2.2.2.2.2.2.2.2.2.2.2.2.2.2.1
theorem VT.hn {T : gT} (h : VT T) : ∀ a k, a < T 0 2 → k < T 6 a → T 14 (a * 6 + k) < 27 ^ 8 := h.2.2.2.2.2.2.2.2.2.2.2.2.2.2.2.2.2.2.2.2
def RT (t : Nat) (T : gT) (u : gM) : Prop := (u.1 t 0 = nI (T 0 0)) ∧ (u.1 t 1 = nI (T 0 1)) ∧ (u.1 t 2 = nI (T 0 2)) ∧ (u.1 t 3 = nI (T 0 3)) ∧ (u.1 t 4 = nI (T 0 4)) ∧ (u.1 t 5 = nI (T 0 5)) ∧ (∀ p, p < T 0 0 → u.2 (t + 1) p = lN (T 11 p)) ∧ (∀ b, b < T 0 1 → u.2 (t + 2) b = lN (T 12 b)) ∧ (∀ a, a < T 0 2 → u.2 (t + 3) a = lN (T 13 a)) ∧ (∀ a, a < T 0 2 → u.1 (t + 4) a = nI (T 1 a)) ∧ (∀ a, a < T 0 2 → u.1 (t + 5) a = nI (T 2 a)) ∧ (∀ a, a < T 0 2 → u.1 (t + 6) a = nI (T 3 a)) ∧ (∀ a, a < T 0 2 → u.1 (t + 7) a = nI (T 4 a)) ∧ (∀ a, a < T 0 2 → u.1 (t + 8) a = nI (T 5 a)) ∧ (∀ a, a < T 0 2 → u.1 (t + 9) a = nI (T 6 a)) ∧ (∀ a k, a < T 0 2 → k < T 5 a → u.1 (t + 10) (a * 4 + k) = nI (T 7 (a * 4 + k))) ∧ (∀ a k, a < T 0 2 → k < T 6 a → u.2 (t + 11) (a * 6 + k) = lN (T 14 (a * 6 + k))) ∧ (∀ l, l < T 0 3 → u.1 (t + 12) l = nI (T 8 l)) ∧ (∀ l, l < T 0 3 → u.1 (t + 13) l = nI (T 9 l)) ∧ (∀ l, l < T 0 3 → u.1 (t + 14) l = nI (T 10 l))
theorem RT.np {t : Nat} {T : gT} {u : gM} (h : RT t T u) : u.1 t 0 = nI (T 0 0) := h.1
theorem RT.nb {t : Nat} {T : gT} {u : gM} (h : RT t T u) : u.1 t 1 = nI (T 0 1) := h.2.1
theorem RT.na {t : Nat} {T : gT} {u : gM} (h : RT t T u) : u.1 t 2 = nI (T 0 2) := h.2.2.1
theorem RT.nl {t : Nat} {T : gT} {u : gM} (h : RT t T u) : u.1 t 3 = nI (T 0 3) := h.2.2.2.1
theorem RT.li {t : Nat} {T : gT} {u : gM} (h : RT t T u) : u.1 t 4 = nI (T 0 4) := h.2.2.2.2.1
theorem RT.gr {t : Nat} {T : gT} {u : gM} (h : RT t T u) : u.1 t 5 = nI (T 0 5) := h.2.2.2.2.2.1
theorem RT.pn {t : Nat} {T : gT} {u : gM} (h : RT t T u) : ∀ p, p < T 0 0 → u.2 (t + 1) p = lN (T 11 p) := h.2.2.2.2.2.2.1
theorem RT.bn {t : Nat} {T : gT} {u : gM} (h : RT t T u) : ∀ b, b < T 0 1 → u.2 (t + 2) b = lN (T 12 b) := h.2.2.2.2.2.2.2.1
theorem RT.an {t : Nat} {T : gT} {u : gM} (h : RT t T u) : ∀ a, a < T 0 2 → u.2 (t + 3) a = lN (T 13 a) := h.2.2.2.2.2.2.2.2.1
theorem RT.kd {t : Nat} {T : gT} {u : gM} (h : RT t T u) : ∀ a, a < T 0 2 → u.1 (t + 4) a = nI (T 1 a) := h.2.2.2.2.2.2.2.2.2.1
theorem RT.hm {t : Nat} {T : gT} {u : gM} (h : RT t T u) : ∀ a, a < T 0 2 → u.1 (t + 5) a = nI (T 2 a) := h.2.2.2.2.2.2.2.2.2.2.1
theorem RT.tc {t : Nat} {T : gT} {u : gM} (h : RT t T u) : ∀ a, a < T 0 2 → u.1 (t + 6) a = nI (T 3 a) := h.2.2.2.2.2.2.2.2.2.2.2.1
theorem RT.te {t : Nat} {T : gT} {u : gM} (h : RT t T u) : ∀ a, a < T 0 2 → u.1 (t + 7) a = nI (T 4 a) := h.2.2.2.2.2.2.2.2.2.2.2.2.1
theorem RT.no {t : Nat} {T : gT} {u : gM} (h : RT t T u) : ∀ a, a < T 0 2 → u.1 (t + 8) a = nI (T 5 a) := h.2.2.2.2.2.2.2.2.2.2.2.2.2.1
theorem RT.nh {t : Nat} {T : gT} {u : gM} (h : RT t T u) : ∀ a, a < T 0 2 → u.1 (t + 9) a = nI (T 6 a) := h.2.2.2.2.2.2.2.2.2.2.2.2.2.2.1
theorem RT.ow {t : Nat} {T : gT} {u : gM} (h : RT t T u) : ∀ a k, a < T 0 2 → k < T 5 a → u.1 (t + 10) (a * 4 + k) = nI (T 7 (a * 4 + k)) := h.2.2.2.2.2.2.2.2.2.2.2.2.2.2.2.1
theorem RT.hn {t : Nat} {T : gT} {u : gM} (h : RT t T u) : ∀ a k, a < T 0 2 → k < T 6 a → u.2 (t + 11) (a * 6 + k) = lN (T 14 (a * 6 + k)) := h.2.2.2.2.2.2.2.2.2.2.2.2.2.2.2.2.1
theorem RT.lp {t : Nat} {T : gT} {u : gM} (h : RT t T u) : ∀ l, l < T 0 3 → u.1 (t + 12) l = nI (T 8 l) := h.2.2.2.2.2.2.2.2.2.2.2.2.2.2.2.2.2.1
theorem RT.lb {t : Nat} {T : gT} {u : gM} (h : RT t T u) : ∀ l, l < T 0 3 → u.1 (t + 13) l = nI (T 9 l) := h.2.2.2.2.2.2.2.2.2.2.2.2.2.2.2.2.2.2.1
theorem RT.lc {t : Nat} {T : gT} {u : gM} (h : RT t T u) : ∀ l, l < T 0 3 → u.1 (t + 14) l = nI (T 10 l) := h.2.2.2.2.2.2.2.2.2.2.2.2.2.2.2.2.2.2.2
/-- how many of the six BANKS are MERGED -/
def cntM (N : gN) : Nat := (if N.2 0 0 = none then 0 else 1) + (if N.2 0 1 = none then 0 else 1) + (if N.2 0 2 = none then 0 else 1) + (if N.2 0 3 = none then 0 else 1) + (if N.2 0 4 = none then 0 else 1) + (if N.2 0 5 = none then 0 else 1)
def VN (T : gT) (N : gN) : Prop := (N.1 0 0 ≤ 999) ∧ (∀ a, a < T 0 2 → N.1 1 a ≤ 100000000) ∧ (∀ l, l < T 0 3 → N.1 2 l ≤ 100000000) ∧ (∀ b, b < 6 → N.1 3 b ≤ 1) ∧ (∀ b c, b < 6 → N.2 0 b = some c → b < T 0 1 ∧ c < T 0 1) ∧ (∀ b, b < 6 → N.2 0 b ≠ none → ∃ m, N.2 1 b = some m ∧ m ≤ N.1 0 0) ∧ (∀ b m, b < 6 → N.2 1 b = some m → m ≤ 999) ∧ (∀ i, i < 96 → ((N.2 3 i = none ↔ N.2 4 i = none) ∧ (N.2 3 i = none ↔ N.2 5 i = none) ∧ (N.2 3 i = none ↔ N.2 6 i = none))) ∧ (N.2 2 0 = none → ∀ i, i < 96 → N.2 3 i = none) ∧ (∀ r i v, 3 ≤ r → r ≤ 6 → i < 96 → N.2 r i = some v → v ≤ 100000000) ∧ (N.1 0 1 ≤ 100000000) ∧ (∀ b, N.2 2 0 = some b → b < 6) ∧ (∃ o : Nat → Nat, (∀ b, b < 6 → (N.2 0 b = none ∧ o b = 5) ∨ (∃ c, N.2 0 b = some c ∧ o b < o c ∧ o c ≤ 5 ∧ o b < cntM N)))
theorem VN.mo {T : gT} {N : gN} (h : VN T N) : N.1 0 0 ≤ 999 := h.1
theorem VN.co {T : gT} {N : gN} (h : VN T N) : ∀ a, a < T 0 2 → N.1 1 a ≤ 100000000 := h.2.1
theorem VN.od {T : gT} {N : gN} (h : VN T N) : ∀ l, l < T 0 3 → N.1 2 l ≤ 100000000 := h.2.2.1
theorem VN.fa {T : gT} {N : gN} (h : VN T N) : ∀ b, b < 6 → N.1 3 b ≤ 1 := h.2.2.2.1
theorem VN.it {T : gT} {N : gN} (h : VN T N) : ∀ b c, b < 6 → N.2 0 b = some c → b < T 0 1 ∧ c < T 0 1 := h.2.2.2.2.1
theorem VN.si {T : gT} {N : gN} (h : VN T N) : ∀ b, b < 6 → N.2 0 b ≠ none → ∃ m, N.2 1 b = some m ∧ m ≤ N.1 0 0 := h.2.2.2.2.2.1
theorem VN.sn {T : gT} {N : gN} (h : VN T N) : ∀ b m, b < 6 → N.2 1 b = some m → m ≤ 999 := h.2.2.2.2.2.2.1
theorem VN.fz {T : gT} {N : gN} (h : VN T N) : ∀ i, i < 96 → ((N.2 3 i = none ↔ N.2 4 i = none) ∧ (N.2 3 i = none ↔ N.2 5 i = none) ∧ (N.2 3 i = none ↔ N.2 6 i = none)) := h.2.2.2.2.2.2.2.1
theorem VN.fe {T : gT} {N : gN} (h : VN T N) : N.2 2 0 = none → ∀ i, i < 96 → N.2 3 i = none := h.2.2.2.2.2.2.2.2.1
theorem VN.fv {T : gT} {N : gN} (h : VN T N) : ∀ r i v, 3 ≤ r → r ≤ 6 → i < 96 → N.2 r i = some v → v ≤ 100000000 := h.2.2.2.2.2.2.2.2.2.1
theorem VN.fl {T : gT} {N : gN} (h : VN T N) : N.1 0 1 ≤ 100000000 := h.2.2.2.2.2.2.2.2.2.2.1
theorem VN.fb {T : gT} {N : gN} (h : VN T N) : ∀ b, N.2 2 0 = some b → b < 6 := h.2.2.2.2.2.2.2.2.2.2.2.1
theorem VN.or {T : gT} {N : gN} (h : VN T N) : ∃ o : Nat → Nat, (∀ b, b < 6 → (N.2 0 b = none ∧ o b = 5) ∨ (∃ c, N.2 0 b = some c ∧ o b < o c ∧ o c ≤ 5 ∧ o b < cntM N)) := h.2.2.2.2.2.2.2.2.2.2.2.2
def RN (s : Nat) (T : gT) (N : gN) (u : gM) : Prop := (u.1 s 0 = nI (N.1 0 0)) ∧ (∀ a, a < T 0 2 → u.1 (s + 1) a = nI (N.1 1 a)) ∧ (∀ l, l < T 0 3 → u.1 (s + 2) l = nI (N.1 2 l)) ∧ (∀ b, b < 6 → u.1 (s + 3) b = oI (N.2 0 b)) ∧ (∀ b, b < 6 → u.1 (s + 4) b = oI (N.2 1 b)) ∧ (∀ b, b < 6 → u.1 (s + 5) b = nI (N.1 3 b)) ∧ (u.1 (s + 6) 0 = oI (N.2 2 0)) ∧ (u.2 (s + 6) 1 = lN (N.1 0 1)) ∧ (∀ i, i < 96 → u.1 (s + 7) i = oI (N.2 3 i)) ∧ (∀ i, i < 96 → u.1 (s + 8) i = oI (N.2 4 i)) ∧ (∀ i, i < 96 → u.1 (s + 9) i = oI (N.2 5 i)) ∧ (∀ i, i < 96 → u.1 (s + 10) i = oI (N.2 6 i))
theorem RN.mo {s : Nat} {T : gT} {N : gN} {u : gM} (h : RN s T N u) : u.1 s 0 = nI (N.1 0 0) := h.1
theorem RN.co {s : Nat} {T : gT} {N : gN} {u : gM} (h : RN s T N u) : ∀ a, a < T 0 2 → u.1 (s + 1) a = nI (N.1 1 a) := h.2.1
theorem RN.od {s : Nat} {T : gT} {N : gN} {u : gM} (h : RN s T N u) : ∀ l, l < T 0 3 → u.1 (s + 2) l = nI (N.1 2 l) := h.2.2.1
theorem RN.it {s : Nat} {T : gT} {N : gN} {u : gM} (h : RN s T N u) : ∀ b, b < 6 → u.1 (s + 3) b = oI (N.2 0 b) := h.2.2.2.1
theorem RN.si {s : Nat} {T : gT} {N : gN} {u : gM} (h : RN s T N u) : ∀ b, b < 6 → u.1 (s + 4) b = oI (N.2 1 b) := h.2.2.2.2.1
theorem RN.fa {s : Nat} {T : gT} {N : gN} {u : gM} (h : RN s T N u) : ∀ b, b < 6 → u.1 (s + 5) b = nI (N.1 3 b) := h.2.2.2.2.2.1
theorem RN.fb {s : Nat} {T : gT} {N : gN} {u : gM} (h : RN s T N u) : u.1 (s + 6) 0 = oI (N.2 2 0) := h.2.2.2.2.2.2.1
theorem RN.fl {s : Nat} {T : gT} {N : gN} {u : gM} (h : RN s T N u) : u.2 (s + 6) 1 = lN (N.1 0 1) := h.2.2.2.2.2.2.2.1
theorem RN.fo {s : Nat} {T : gT} {N : gN} {u : gM} (h : RN s T N u) : ∀ i, i < 96 → u.1 (s + 7) i = oI (N.2 3 i) := h.2.2.2.2.2.2.2.2.1
theorem RN.fp {s : Nat} {T : gT} {N : gN} {u : gM} (h : RN s T N u) : ∀ i, i < 96 → u.1 (s + 8) i = oI (N.2 4 i) := h.2.2.2.2.2.2.2.2.2.1
theorem RN.fd {s : Nat} {T : gT} {N : gN} {u : gM} (h : RN s T N u) : ∀ i, i < 96 → u.1 (s + 9) i = oI (N.2 5 i) := h.2.2.2.2.2.2.2.2.2.2.1
theorem RN.fs {s : Nat} {T : gT} {N : gN} {u : gM} (h : RN s T N u) : ∀ i, i < 96 → u.1 (s + 10) i = oI (N.2 6 i) := h.2.2.2.2.2.2.2.2.2.2.2
/-- the model's rows: what is told, h = 0, what is being read, h = 1 -/
def RTm (d : Nat) (T : gT) (u : gM) : Prop := (u.1 1 (6 * d + 0) = nI (T 0 0)) ∧ (u.1 1 (6 * d + 1) = nI (T 0 1)) ∧ (u.1 1 (6 * d + 2) = nI (T 0 2)) ∧ (u.1 1 (6 * d + 3) = nI (T 0 3)) ∧ (u.1 1 (6 * d + 4) = nI (T 0 4)) ∧ (u.1 1 (6 * d + 5) = nI (T 0 5)) ∧ (∀ p, p < T 0 0 → u.2 2 (10 * d + p) = lN (cv (T 11 p))) ∧ (∀ b, b < T 0 1 → u.2 3 (6 * d + b) = lN (cv (T 12 b))) ∧ (∀ a, a < T 0 2 → u.2 4 (24 * d + a) = lN (cv (T 13 a))) ∧ (∀ a, a < T 0 2 → u.1 6 (24 * d + a) = nI (T 2 a)) ∧ (∀ a, a < T 0 2 → u.1 11 (24 * d + a) = nI (T 3 a)) ∧ (∀ a, a < T 0 2 → u.1 12 (24 * d + a) = nI (T 4 a)) ∧ (∀ a, a < T 0 2 → u.1 7 (24 * d + a) = nI (T 5 a)) ∧ (∀ a, a < T 0 2 → u.1 9 (24 * d + a) = nI (T 6 a)) ∧ (∀ a k, a < T 0 2 → k < T 5 a → u.1 8 (4 * (24 * d + a) + k) = nI (T 7 (a * 4 + k))) ∧ (∀ a k, a < T 0 2 → k < T 6 a → u.2 10 (6 * (24 * d + a) + k) = lN (cv (T 14 (a * 6 + k)))) ∧ (∀ l, l < T 0 3 → u.1 13 (10 * d + l) = nI (T 8 l)) ∧ (∀ l, l < T 0 3 → u.1 14 (10 * d + l) = nI (T 9 l)) ∧ (∀ l, l < T 0 3 → u.1 15 (10 * d + l) = nI (T 10 l))
theorem RTm.np {d : Nat} {T : gT} {u : gM} (h : RTm d T u) : u.1 1 (6 * d + 0) = nI (T 0 0) := h.1
theorem RTm.nb {d : Nat} {T : gT} {u : gM} (h : RTm d T u) : u.1 1 (6 * d + 1) = nI (T 0 1) := h.2.1
theorem RTm.na {d : Nat} {T : gT} {u : gM} (h : RTm d T u) : u.1 1 (6 * d + 2) = nI (T 0 2) := h.2.2.1
theorem RTm.nl {d : Nat} {T : gT} {u : gM} (h : RTm d T u) : u.1 1 (6 * d + 3) = nI (T 0 3) := h.2.2.2.1
theorem RTm.li {d : Nat} {T : gT} {u : gM} (h : RTm d T u) : u.1 1 (6 * d + 4) = nI (T 0 4) := h.2.2.2.2.1
theorem RTm.gr {d : Nat} {T : gT} {u : gM} (h : RTm d T u) : u.1 1 (6 * d + 5) = nI (T 0 5) := h.2.2.2.2.2.1
theorem RTm.pn {d : Nat} {T : gT} {u : gM} (h : RTm d T u) : ∀ p, p < T 0 0 → u.2 2 (10 * d + p) = lN (cv (T 11 p)) := h.2.2.2.2.2.2.1
theorem RTm.bn {d : Nat} {T : gT} {u : gM} (h : RTm d T u) : ∀ b, b < T 0 1 → u.2 3 (6 * d + b) = lN (cv (T 12 b)) := h.2.2.2.2.2.2.2.1
theorem RTm.an {d : Nat} {T : gT} {u : gM} (h : RTm d T u) : ∀ a, a < T 0 2 → u.2 4 (24 * d + a) = lN (cv (T 13 a)) := h.2.2.2.2.2.2.2.2.1
theorem RTm.hm {d : Nat} {T : gT} {u : gM} (h : RTm d T u) : ∀ a, a < T 0 2 → u.1 6 (24 * d + a) = nI (T 2 a) := h.2.2.2.2.2.2.2.2.2.1
theorem RTm.tc {d : Nat} {T : gT} {u : gM} (h : RTm d T u) : ∀ a, a < T 0 2 → u.1 11 (24 * d + a) = nI (T 3 a) := h.2.2.2.2.2.2.2.2.2.2.1
theorem RTm.te {d : Nat} {T : gT} {u : gM} (h : RTm d T u) : ∀ a, a < T 0 2 → u.1 12 (24 * d + a) = nI (T 4 a) := h.2.2.2.2.2.2.2.2.2.2.2.1
theorem RTm.no {d : Nat} {T : gT} {u : gM} (h : RTm d T u) : ∀ a, a < T 0 2 → u.1 7 (24 * d + a) = nI (T 5 a) := h.2.2.2.2.2.2.2.2.2.2.2.2.1
theorem RTm.nh {d : Nat} {T : gT} {u : gM} (h : RTm d T u) : ∀ a, a < T 0 2 → u.1 9 (24 * d + a) = nI (T 6 a) := h.2.2.2.2.2.2.2.2.2.2.2.2.2.1
theorem RTm.ow {d : Nat} {T : gT} {u : gM} (h : RTm d T u) : ∀ a k, a < T 0 2 → k < T 5 a → u.1 8 (4 * (24 * d + a) + k) = nI (T 7 (a * 4 + k)) := h.2.2.2.2.2.2.2.2.2.2.2.2.2.2.1
theorem RTm.hn {d : Nat} {T : gT} {u : gM} (h : RTm d T u) : ∀ a k, a < T 0 2 → k < T 6 a → u.2 10 (6 * (24 * d + a) + k) = lN (cv (T 14 (a * 6 + k))) := h.2.2.2.2.2.2.2.2.2.2.2.2.2.2.2.1
theorem RTm.lp {d : Nat} {T : gT} {u : gM} (h : RTm d T u) : ∀ l, l < T 0 3 → u.1 13 (10 * d + l) = nI (T 8 l) := h.2.2.2.2.2.2.2.2.2.2.2.2.2.2.2.2.1
theorem RTm.lb {d : Nat} {T : gT} {u : gM} (h : RTm d T u) : ∀ l, l < T 0 3 → u.1 14 (10 * d + l) = nI (T 9 l) := h.2.2.2.2.2.2.2.2.2.2.2.2.2.2.2.2.2.1
theorem RTm.lc {d : Nat} {T : gT} {u : gM} (h : RTm d T u) : ∀ l, l < T 0 3 → u.1 15 (10 * d + l) = nI (T 10 l) := h.2.2.2.2.2.2.2.2.2.2.2.2.2.2.2.2.2.2
def RNm (f : Nat → Int32) (T : gT) (N : gN) : Prop := (f 0 = nI (N.1 0 0)) ∧ (∀ a, a < T 0 2 → f (1 + a) = nI (N.1 1 a)) ∧ (∀ l, l < T 0 3 → f (25 + l) = nI (N.1 2 l)) ∧ (∀ b, b < 6 → f (35 + b) = oI (N.2 0 b)) ∧ (∀ b, b < 6 → f (41 + b) = oI (N.2 1 b)) ∧ (∀ b, b < 6 → f (47 + b) = nI (N.1 3 b)) ∧ (f 53 = oI (N.2 2 0)) ∧ (N.2 2 0 ≠ none → ∀ i, i < 96 → f (54 + i) = oI (N.2 3 i)) ∧ (N.2 2 0 ≠ none → ∀ i, i < 96 → f (150 + i) = nI ((N.2 4 i).getD 0)) ∧ (N.2 2 0 ≠ none → ∀ i, i < 96 → f (246 + i) = nI ((N.2 5 i).getD 0)) ∧ (N.2 2 0 ≠ none → ∀ i, i < 96 → f (342 + i) = nI ((N.2 6 i).getD 0)) ∧ (N.2 2 0 ≠ none → f 438 = nI (N.1 0 1))
theorem RNm.mo {f : Nat → Int32} {T : gT} {N : gN} (h : RNm f T N) : f 0 = nI (N.1 0 0) := h.1
theorem RNm.co {f : Nat → Int32} {T : gT} {N : gN} (h : RNm f T N) : ∀ a, a < T 0 2 → f (1 + a) = nI (N.1 1 a) := h.2.1
theorem RNm.od {f : Nat → Int32} {T : gT} {N : gN} (h : RNm f T N) : ∀ l, l < T 0 3 → f (25 + l) = nI (N.1 2 l) := h.2.2.1
theorem RNm.it {f : Nat → Int32} {T : gT} {N : gN} (h : RNm f T N) : ∀ b, b < 6 → f (35 + b) = oI (N.2 0 b) := h.2.2.2.1
theorem RNm.si {f : Nat → Int32} {T : gT} {N : gN} (h : RNm f T N) : ∀ b, b < 6 → f (41 + b) = oI (N.2 1 b) := h.2.2.2.2.1
theorem RNm.fa {f : Nat → Int32} {T : gT} {N : gN} (h : RNm f T N) : ∀ b, b < 6 → f (47 + b) = nI (N.1 3 b) := h.2.2.2.2.2.1
theorem RNm.fb {f : Nat → Int32} {T : gT} {N : gN} (h : RNm f T N) : f 53 = oI (N.2 2 0) := h.2.2.2.2.2.2.1
theorem RNm.fo {f : Nat → Int32} {T : gT} {N : gN} (h : RNm f T N) : N.2 2 0 ≠ none → ∀ i, i < 96 → f (54 + i) = oI (N.2 3 i) := h.2.2.2.2.2.2.2.1
theorem RNm.fp {f : Nat → Int32} {T : gT} {N : gN} (h : RNm f T N) : N.2 2 0 ≠ none → ∀ i, i < 96 → f (150 + i) = nI ((N.2 4 i).getD 0) := h.2.2.2.2.2.2.2.2.1
theorem RNm.fd {f : Nat → Int32} {T : gT} {N : gN} (h : RNm f T N) : N.2 2 0 ≠ none → ∀ i, i < 96 → f (246 + i) = nI ((N.2 5 i).getD 0) := h.2.2.2.2.2.2.2.2.2.1
theorem RNm.fs {f : Nat → Int32} {T : gT} {N : gN} (h : RNm f T N) : N.2 2 0 ≠ none → ∀ i, i < 96 → f (342 + i) = nI ((N.2 6 i).getD 0) := h.2.2.2.2.2.2.2.2.2.2.1
theorem RNm.fl {f : Nat → Int32} {T : gT} {N : gN} (h : RNm f T N) : N.2 2 0 ≠ none → f 438 = nI (N.1 0 1) := h.2.2.2.2.2.2.2.2.2.2.2
def RKm (d : Nat) (T : gT) (u : gM) : Prop := ∀ a, a < T 0 2 → u.1 5 (24 * d + a) = nI (T 1 a)
theorem cv_s (x d : Nat) (hd : 0 < d) (h : d < 27) : cv (27 * x + d) = 32 * cv x + d := by
  obtain ⟨n, hn⟩ : ∃ n, 27 * x + d = n + 1 := ⟨27 * x + d - 1, by omega⟩
  rw [hn, cv, ← hn]
  have h1 : (27 * x + d) / 27 = x := by omega
  have h2 : (27 * x + d) % 27 = d := by omega
  rw [h1, h2]
theorem cv_0 : cv 0 = 0 := by rw [cv]
theorem cv_lt : ∀ (k x : Nat), x < 27 ^ k → cv x < 32 ^ k
  | 0, x, h => by
    have : x = 0 := by simpa using h
    subst this
    rw [cv_0]; decide
  | k + 1, 0, _ => by rw [cv_0]; exact Nat.pow_pos (by decide)
  | k + 1, x + 1, h => by
    rw [cv]
    have h1 : (x + 1) / 27 < 27 ^ k := by
      rw [Nat.div_lt_iff_lt_mul (by decide)]
      rw [Nat.pow_succ] at h
      exact h
    have h2 := cv_lt k _ h1
    have h3 : (x + 1) % 27 < 27 := Nat.mod_lt _ (by decide)
    rw [Nat.pow_succ]
    omega
theorem cv_inj : ∀ (x y : Nat), cv x = cv y → x = y := by
  intro x
  induction x using Nat.strongRecOn with
  | ind x ih =>
    intro y h
    cases x with
    | zero =>
      cases y with
      | zero => rfl
      | succ y =>
        exfalso
        rw [cv_0, cv] at h
        by_cases h1 : (y + 1) % 27 = 0
        · have h2 : cv ((y + 1) / 27) = cv 0 := by rw [cv_0]; omega
          have h3 : ∀ z, cv z = 0 → z = 0 := by
            intro z
            induction z using Nat.strongRecOn with
            | ind z ihz =>
              intro hz
              cases z with
              | zero => rfl
              | succ z =>
                rw [cv] at hz
                have := ihz ((z + 1) / 27) (by omega) (by omega)
                omega
          have := h3 _ (by rw [h2, cv_0])
          omega
        · omega
    | succ x =>
      cases y with
      | zero =>
        exfalso
        rw [cv_0, cv] at h
        have h3 : ∀ z, cv z = 0 → z = 0 := by
          intro z
          induction z using Nat.strongRecOn with
          | ind z ihz =>
            intro hz
            cases z with
            | zero => rfl
            | succ z =>
              rw [cv] at hz
              have := ihz ((z + 1) / 27) (by omega) (by omega)
              omega
        have := h3 ((x + 1) / 27) (by omega)
        omega
      | succ y =>
        rw [cv, cv] at h
        have h1 : (x + 1) % 27 < 27 := Nat.mod_lt _ (by decide)
        have h2 : (y + 1) % 27 < 27 := Nat.mod_lt _ (by decide)
        have h3 : cv ((x + 1) / 27) = cv ((y + 1) / 27) := by omega
        have := ih ((x + 1) / 27) (by omega) _ h3
        omega
theorem cv_eq {x y : Nat} : cv x = cv y ↔ x = y := ⟨cv_inj x y, fun h => by rw [h]⟩
theorem cv_62 {x : Nat} (h : x < 27 ^ 8) : cv x < 2 ^ 62 := by
  have := cv_lt 8 x h
  have e : (32 : Nat) ^ 8 < 2 ^ 62 := by decide
  omega
