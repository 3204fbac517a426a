/-! THE FLAT LAYER: a system's whole world is a list sk of cells (objects and rows, at B, B + 1, ..) and two functions: the ints and the longs that they hold -/
abbrev tb : List Cond := wsL_law
abbrev gM : Type := (Nat → Nat → Int32) × (Nat → Nat → Int64)
abbrev gE : Type := (Nat × List Nat) ⊕ (Nat × Nat × List Nat)
/-- a field's value by its code: 0 an int, 1 a long, 2 null, r + 3 the cell r -/
def gF (B k : Nat) (u : gM) (j : Nat) : Nat → Value
  | 0 => .int (u.1 k j)
  | 1 => .long (u.2 k j)
  | 2 => .null
  | r + 3 => .ref (B + r)
def gFs (B k : Nat) (u : gM) : Nat → List Nat → List Value
  | _, [] => []
  | j, c :: cs => gF B k u j c :: gFs B k u (j + 1) cs
def gQr (B : Nat) (rs : List Nat) (j : Nat) : Option Nat := match rs[j]? with
  | some (r + 3) => some (B + r)
  | _ => none
/-- a row's contents by its type: 0 int, 1 long, 2 byte, others: references -/
def gA0 (B k : Nat) (u : gM) (rs : List Nat) : Nat → ((Nat → Int32) ⊕ (Nat → Int64) ⊕ (Nat → UInt32) ⊕ (Nat → UInt64) ⊕ (Nat → Option Nat))
  | 0 => .inl (u.1 k)
  | 1 => .inr (.inl (u.2 k))
  | 2 => .inl (u.1 k)
  | _ => .inr (.inr (.inr (.inr (gQr B rs))))
def gC (B : Nat) (cA : Nat → ClassId) (u : gM) (k : Nat) : gE → va_E
  | .inl (ci, cs) => .inr (ci, gFs B k u 0 cs)
  | .inr (t, n, rs) => .inl (cA t, n, gA0 B k u rs t)
def gWf (B : Nat) (cA : Nat → ClassId) (u : gM) : Nat → List gE → va_W
  | _, [] => []
  | k, e :: sk => (B + k, gC B cA u k e) :: gWf B cA u (k + 1) sk
def gWs (B : Nat) (cA : Nat → ClassId) (sk : List gE) (u : gM) : va_W := gWf B cA u 0 sk
def gTy (cA : Nat → ClassId) : List (ClassId × FieldType) := [(cA 0, .int), (cA 1, .long), (cA 2, .byte), (cA 3, .object RX8)]
def gAr (B n : Nat) : Nat → Prop := fun q => B ≤ q ∧ q < B + n
theorem gFs_at (B k : Nat) (u : gM) : ∀ (cs : List Nat) (j0 j : Nat), (gFs B k u j0 cs)[j]? = (cs[j]?).map (fun c => gF B k u (j0 + j) c)
  | [], _, _ => by simp [gFs]
  | c :: cs, j0, 0 => by simp [gFs]
  | c :: cs, j0, j + 1 => by
    simp only [gFs, List.getElem?_cons_succ]
    rw [gFs_at B k u cs (j0 + 1) j, show j0 + 1 + j = j0 + (j + 1) by omega]
theorem gFs_get {B k : Nat} {u : gM} {cs : List Nat} {j c : Nat} (h : cs[j]? = some c) : (gFs B k u 0 cs)[j]? = some (gF B k u j c) := by
  rw [gFs_at, h, Nat.zero_add]
  rfl
theorem gFs_len (B k : Nat) (u : gM) : ∀ (cs : List Nat) (j0 : Nat), (gFs B k u j0 cs).length = cs.length
  | [], _ => rfl
  | _ :: cs, j0 => congrArg (· + 1) (gFs_len B k u cs (j0 + 1))
theorem gWf_at (B : Nat) (cA : Nat → ClassId) (u : gM) : ∀ (sk : List gE) (k0 k : Nat), (gWf B cA u k0 sk)[k]? = (sk[k]?).map (fun e => (B + (k0 + k), gC B cA u (k0 + k) e))
  | [], _, _ => by simp [gWf]
  | e :: sk, k0, 0 => by simp [gWf]
  | e :: sk, k0, k + 1 => by
    simp only [gWf, List.getElem?_cons_succ]
    rw [gWf_at B cA u sk (k0 + 1) k, show k0 + 1 + k = k0 + (k + 1) by omega]
theorem gWs_all {B : Nat} {cA : Nat → ClassId} {sk : List gE} {u : gM} {k : Nat} : (gWs B cA sk u)[k]? = (sk[k]?).map (fun e => (B + k, gC B cA u k e)) := by
  unfold gWs
  rw [gWf_at, Nat.zero_add]
theorem gWs_at {B : Nat} {cA : Nat → ClassId} {sk : List gE} {u : gM} {k : Nat} {e : gE} (h : sk[k]? = some e) : (gWs B cA sk u)[k]? = some (B + k, gC B cA u k e) := by
  rw [gWs_all, h]
  rfl
theorem gWs_of {B : Nat} {cA : Nat → ClassId} {sk : List gE} {u : gM} {k : Nat} {q : Nat × va_E} (h : (gWs B cA sk u)[k]? = some q) : ∃ e, sk[k]? = some e ∧ q = (B + k, gC B cA u k e) := by
  rw [gWs_all] at h
  cases he : sk[k]? with
  | none => rw [he] at h; cases h
  | some e => rw [he] at h; exact ⟨e, rfl, (Option.some.inj h).symm⟩
theorem gWs_D {B : Nat} {cA : Nat → ClassId} {sk : List gE} {u : gM} : va_D (gAr B sk.length) (gWs B cA sk u) := by
  refine ⟨fun i j p q hi hj h => ?_, fun k q hk => ?_⟩
  · obtain ⟨_, -, rfl⟩ := gWs_of hi
    obtain ⟨_, -, rfl⟩ := gWs_of hj
    exact Nat.add_left_cancel h
  · obtain ⟨_, h1, rfl⟩ := gWs_of hk
    have := (List.getElem?_eq_some_iff.mp h1).1
    exact ⟨Nat.le_add_right _ _, Nat.add_lt_add_left this _⟩
/-- an int is written, a long is written, a whole row of ints or longs is written -/
def upI (u : gM) (k j : Nat) (v : Int32) : gM := (fun a i => if a = k then (if i = j then v else u.1 a i) else u.1 a i, u.2)
def upJ (u : gM) (k j : Nat) (v : Int64) : gM := (u.1, fun a i => if a = k then (if i = j then v else u.2 a i) else u.2 a i)
def upRI (u : gM) (k : Nat) (f : Nat → Int32) : gM := (fun a => if a = k then f else u.1 a, u.2)
def upRJ (u : gM) (k : Nat) (f : Nat → Int64) : gM := (u.1, fun a => if a = k then f else u.2 a)
theorem upI_row (u : gM) (k j : Nat) (v : Int32) : upI u k j v = upRI u k (upd (u.1 k) j v) := by
  unfold upI upRI
  congr 1
  funext a i
  by_cases ha : a = k
  · subst ha; simp [upd]
  · simp [ha]
theorem upJ_row (u : gM) (k j : Nat) (v : Int64) : upJ u k j v = upRJ u k (vp_updL (u.2 k) j v) := by
  unfold upJ upRJ
  congr 1
  funext a i
  by_cases ha : a = k
  · subst ha; simp [vp_updL]
  · simp [ha]
/-- two memories that differ at one cell alone -/
def gOff (k : Nat) (u v : gM) : Prop := ∀ a, a ≠ k → v.1 a = u.1 a ∧ v.2 a = u.2 a
theorem gFs_off {B k : Nat} {u v : gM} (h1 : v.1 k = u.1 k) (h2 : v.2 k = u.2 k) : ∀ (cs : List Nat) (j : Nat), gFs B k v j cs = gFs B k u j cs
  | [], _ => rfl
  | c :: cs, j => by
    simp only [gFs, gFs_off h1 h2 cs (j + 1)]
    congr 1
    match c with
    | 0 => simp [gF, h1]
    | 1 => simp [gF, h2]
    | 2 => rfl
    | r + 3 => rfl
theorem gC_off {B a : Nat} {cA : Nat → ClassId} {u v : gM} (h1 : v.1 a = u.1 a) (h2 : v.2 a = u.2 a) (e : gE) : gC B cA v a e = gC B cA u a e := by
  match e with
  | .inl (ci, cs) => simp only [gC, gFs_off h1 h2 cs 0]
  | .inr (0, n, rs) => simp only [gC, gA0, h1]
  | .inr (1, n, rs) => simp only [gC, gA0, h2]
  | .inr (2, n, rs) => simp only [gC, gA0, h1]
  | .inr (t + 3, n, rs) => rfl
theorem gWs_set {B k : Nat} {cA : Nat → ClassId} {sk : List gE} {u v : gM} {e : gE} {x : va_E} (h : sk[k]? = some e) (ho : gOff k u v) (hx : x = gC B cA v k e) : (gWs B cA sk u).set k (B + k, x) = gWs B cA sk v := by
  subst hx
  apply List.ext_getElem?
  intro i
  by_cases hi : i = k
  · subst hi
    rw [List.getElem?_set_self (by have := gWs_at (B := B) (cA := cA) (u := u) h; exact (List.getElem?_eq_some_iff.mp this).1), gWs_at h]
  · rw [List.getElem?_set_ne (Ne.symm hi), gWs_all, gWs_all]
    cases he : sk[i]? with
    | none => rfl
    | some e' => simp only [Option.map_some, gC_off (ho i hi).1 (ho i hi).2 e']
theorem off_RI {u : gM} {k : Nat} {f : Nat → Int32} : gOff k u (upRI u k f) := fun a ha => ⟨by simp [upRI, ha], rfl⟩
theorem off_RJ {u : gM} {k : Nat} {f : Nat → Int64} : gOff k u (upRJ u k f) := fun a ha => ⟨rfl, by simp [upRJ, ha]⟩
theorem RI_at {u : gM} {k : Nat} {f : Nat → Int32} : (upRI u k f).1 k = f := by simp [upRI]
theorem RJ_at {u : gM} {k : Nat} {f : Nat → Int64} : (upRJ u k f).2 k = f := by simp [upRJ]
theorem gFs_setI {B k : Nat} {u : gM} {x : Int32} : ∀ (cs : List Nat) (j0 j : Nat), cs[j]? = some 0 → (gFs B k u j0 cs).set j (.int x) = gFs B k (upRI u k (upd (u.1 k) (j0 + j) x)) j0 cs
  | [], _, _, h => by simp at h
  | c :: cs, j0, 0, h => by
    simp only [List.getElem?_cons_zero, Option.some.injEq] at h
    subst h
    simp only [gFs, List.set_cons_zero, Nat.add_zero]
    congr 1
    · simp [gF, RI_at, upd]
    · have key : ∀ (cs : List Nat) (i : Nat), j0 < i → gFs B k u i cs = gFs B k (upRI u k (upd (u.1 k) j0 x)) i cs := by
        intro cs
        induction cs with
        | nil => intro i _; rfl
        | cons c cs ih =>
          intro i hi
          simp only [gFs]
          congr 1
          · match c with
            | 0 => simp [gF, RI_at, upd, show i ≠ j0 by omega]
            | 1 => rfl
            | 2 => rfl
            | r + 3 => rfl
          · exact ih (i + 1) (by omega)
      exact key cs (j0 + 1) (by omega)
  | c :: cs, j0, j + 1, h => by
    simp only [List.getElem?_cons_succ] at h
    simp only [gFs, List.set_cons_succ]
    rw [gFs_setI cs (j0 + 1) j h, show j0 + 1 + j = j0 + (j + 1) by omega]
    congr 1
    match c with
    | 0 => simp [gF, RI_at, upd]
    | 1 => rfl
    | 2 => rfl
    | r + 3 => rfl
theorem gFs_setJ {B k : Nat} {u : gM} {x : Int64} : ∀ (cs : List Nat) (j0 j : Nat), cs[j]? = some 1 → (gFs B k u j0 cs).set j (.long x) = gFs B k (upRJ u k (vp_updL (u.2 k) (j0 + j) x)) j0 cs
  | [], _, _, h => by simp at h
  | c :: cs, j0, 0, h => by
    simp only [List.getElem?_cons_zero, Option.some.injEq] at h
    subst h
    simp only [gFs, List.set_cons_zero, Nat.add_zero]
    congr 1
    · simp [gF, RJ_at, vp_updL]
    · have key : ∀ (cs : List Nat) (i : Nat), j0 < i → gFs B k u i cs = gFs B k (upRJ u k (vp_updL (u.2 k) j0 x)) i cs := by
        intro cs
        induction cs with
        | nil => intro i _; rfl
        | cons c cs ih =>
          intro i hi
          simp only [gFs]
          congr 1
          · match c with
            | 0 => rfl
            | 1 => simp [gF, RJ_at, vp_updL, show i ≠ j0 by omega]
            | 2 => rfl
            | r + 3 => rfl
          · exact ih (i + 1) (by omega)
      exact key cs (j0 + 1) (by omega)
  | c :: cs, j0, j + 1, h => by
    simp only [List.getElem?_cons_succ] at h
    simp only [gFs, List.set_cons_succ]
    rw [gFs_setJ cs (j0 + 1) j h, show j0 + 1 + j = j0 + (j + 1) by omega]
    congr 1
    match c with
    | 0 => rfl
    | 1 => simp [gF, RJ_at, vp_updL]
    | 2 => rfl
    | r + 3 => rfl
