/-! THE JUDGEMENT: from the frame at pc, with the locals lv, the stack st and the world sk, u, the machine comes to the method's end with the answer and the world of res -/
abbrev gK : Type := Program × Launch × Env × Room × State × MethodId × Array Value × List Frame × Method × Code × va_G × (Nat → ClassId) × (Nat → Nat) × (Nat → Nat)
/-- the texts that ldc brings: whose, which entry, the text, its bytes -/
def gSt : List (String × Nat × String × List Int32) := [("CoverDesk$Tape", 69, "single joint trust plan firm person bank limit grace loan at of for term put take merge into months pay fail ", [115, 105, 110, 103, 108, 101, 32, 106, 111, 105, 110, 116, 32, 116, 114, 117, 115, 116, 32, 112, 108, 97, 110, 32, 102, 105, 114, 109, 32, 112, 101, 114, 115, 111, 110, 32, 98, 97, 110, 107, 32, 108, 105, 109, 105, 116, 32, 103, 114, 97, 99, 101, 32, 108, 111, 97, 110, 32, 97, 116, 32, 111, 102, 32, 102, 111, 114, 32, 116, 101, 114, 109, 32, 112, 117, 116, 32, 116, 97, 107, 101, 32, 109, 101, 114, 103, 101, 32, 105, 110, 116, 111, 32, 109, 111, 110, 116, 104, 115, 32, 112, 97, 121, 32, 102, 97, 105, 108, 32]), ("CoverDeskModel", 196, "person", [112, 101, 114, 115, 111, 110]), ("CoverDeskModel", 198, "bank", [98, 97, 110, 107]), ("CoverDeskModel", 200, "limit", [108, 105, 109, 105, 116]), ("CoverDeskModel", 202, "grace", [103, 114, 97, 99, 101]), ("CoverDeskModel", 204, "at", [97, 116]), ("CoverDeskModel", 206, "of", [111, 102]), ("CoverDeskModel", 208, "for", [102, 111, 114]), ("CoverDeskModel", 210, "term", [116, 101, 114, 109]), ("CoverDeskModel", 211, "loan", [108, 111, 97, 110]), ("CoverDeskModel", 182, "single", [115, 105, 110, 103, 108, 101]), ("CoverDeskModel", 188, "joint", [106, 111, 105, 110, 116]), ("CoverDeskModel", 190, "trust", [116, 114, 117, 115, 116]), ("CoverDeskModel", 192, "plan", [112, 108, 97, 110]), ("CoverDeskModel", 194, "firm", [102, 105, 114, 109]), ("CoverDeskModel", 216, "put", [112, 117, 116]), ("CoverDeskModel", 218, "take", [116, 97, 107, 101]), ("CoverDeskModel", 220, "merge", [109, 101, 114, 103, 101]), ("CoverDeskModel", 222, "into", [105, 110, 116, 111]), ("CoverDeskModel", 224, "months", [109, 111, 110, 116, 104, 115]), ("CoverDeskModel", 226, "pay", [112, 97, 121]), ("CoverDeskModel", 228, "fail", [102, 97, 105, 108])]
def gLn : List Nat := gSt.map (fun q => q.2.2.2.length)
def gBy : List (List Int32) := gSt.map (fun q => q.2.2.2)
def gStr (adK adV : Nat → Nat) (B n : Nat) (U : State) : Prop := vk_S 22 gLn gBy adK adV (gAr B n) U U.heap ∧ (∀ (i : Nat) (q : String × Nat × String × List Int32), gSt[i]? = some q → vk_R q.1 q.2.1 q.2.2.1 (adK i) U) ∧ (∀ i, adV i = adK (100 + i)) ∧ va_Z "java/lang/String" "COMPACT_STRINGS" "Z" (.int 1) (gAr B n) U U.heap ∧ va_Zq "jdk/internal/util/Preconditions" "SIOOBE_FORMATTER" "Ljava/util/function/BiFunction;" (gAr B n) U U.heap
def gPost (D : va_G) (cA : Nat → ClassId) (B : Nat) (sk : List gE) (res : Option Value × gM) : Array Value → State → Outcome → State → Prop := fun _ st oc t => (oc = .returned res.1 ∧ va_P D vwCl (gWs B cA sk res.2) t.heap) ∧ va_F (gAr B sk.length) st t
def gX : gK → Nat → List gE → ByteArray → Nat → String → Option FieldType → Nat → Nat → Prop
  | (p, _, _, R, s, m, args, _, meth, c, D, cA, adK, adV), B, sk, cc, nL, own, ret, fr, lo => CallFix p m c cc nL s args tb own ∧ va_K D vwCl (gTy cA) s ∧ meth.sig.returnType = ret ∧ meth.locks = false ∧ R.frames = fr ∧ R.locals = lo ∧ gStr adK adV B sk.length s
def gV : gK → Nat → List gE → Nat → (Option Value × gM) → Nat → List (Option Value) → List Value → gM → Prop
  | (p, l, e, R, s, m, args, below, meth, c, D, cA, adK, adV), B, sk, nL, res, pc, lv, st, u => ∀ (H : Heap) (locs : List Loc) (ls : Array Slot), va_P D vwCl (gWs B cA sk u) H → va_S (gAr B sk.length) s.heap H locs → gL ls nL lv → W p l e R s m args below meth c H locs 0 0 (MQ below (gPost D cA B sk res) args s 0 0 (gAr B sk.length)) (F0 m pc ls st)
def gAd : gK → Nat → Nat
  | (_, _, _, _, _, _, _, _, _, _, _, _, adK, _) => adK
def gRm (fr lo : Nat) : Room := { frames := fr, cells := 0, slots := 0, locals := lo }
/-- a method's contract: with these arguments in this world it answers so and leaves that world -/
def gMet (sk : List gE) (y : MethodName) (cc : ByteArray) (nL : Nat) (ret : Option FieldType) (fr lo : Nat) (As : Nat → (Nat → Nat) → List Value) (u : gM) (res : (Nat → Option Value) × gM) : Prop :=
  ∀ (l : Launch) (D : va_G) (cA adK adV : Nat → Nat) (B : Nat), Met l y (.code y cc nL ret :: tb) (gRm fr lo) (va_Pc (As B adK) (fun U => va_P D vwCl (gWs B cA sk u) U.heap ∧ va_K D vwCl (gTy cA) U ∧ gStr adK adV B sk.length U)) (gPost D cA B sk (res.1 B, res.2)) 0 0 (gAr B sk.length)
def gLv : List Value → List (Option Value)
  | [] => []
  | v :: vs => if v.category = 2 then some v :: none :: gLv vs else some v :: gLv vs
def gNn : Nat → List (Option Value) → List (Option Value)
  | 0, l => l
  | n + 1, [] => none :: gNn n []
  | n + 1, a :: l => a :: gNn n l
theorem gLv_at : ∀ (vs : List Value) (i j : Nat) (w : Value), (gLv vs)[j]? = some (some w) → (i + j, w) ∈ lv_args i vs
  | [], i, j, w, h => by simp [gLv] at h
  | v :: vs, i, j, w, h => by
    rcases lv_cat v with hv | hv
    · simp only [gLv, hv, show ¬ (1 = 2) by decide, if_false] at h
      cases j with
      | zero => simp at h; subst h; simp [lv_args]
      | succ j =>
        simp only [List.getElem?_cons_succ] at h
        have := gLv_at vs (i + 1) j w h
        rw [show i + (j + 1) = i + 1 + j by omega]
        simp only [lv_args, hv, List.mem_cons]
        exact Or.inr this
    · simp only [gLv, hv, if_true] at h
      match j with
      | 0 => simp at h; subst h; simp [lv_args]
      | 1 => simp at h
      | j + 2 =>
        simp only [List.getElem?_cons_succ] at h
        have := gLv_at vs (i + 2) j w h
        rw [show i + (j + 2) = i + 2 + j by omega]
        simp only [lv_args, hv, List.mem_cons]
        exact Or.inr this
theorem gMet.of {sk : List gE} {y : MethodName} {cc : ByteArray} {nL : Nat} {ret : Option FieldType} {fr lo : Nat} {As : Nat → (Nat → Nat) → List Value} {u : gM} {res : (Nat → Option Value) × gM} (hy : plainName y.cls = true) (hn : ∀ B adK, (lg_sl (As B adK)).length ≤ nL)
    (body : ∀ (κ : gK) (B : Nat), gX κ B sk cc nL y.cls ret fr lo → gV κ B sk nL (res.1 B, res.2) 0 (gLv (As B (gAd κ))) [] u) : gMet sk y cc nL ret fr lo As u res := by
  intro l D cA adK adV B
  refine Met.ofW (cc := cc) (maxL := nL) (ret := ret) hy rfl ?_
  intro p e s m args below meth c s₁ Bd hml hv
  obtain ⟨rfl, hP, hK, hStr⟩ := hv
  have hts := atoms_spec (ws := .code y cc nL ret :: tb) Bd.pre
  have hts2 : ∀ w ∈ tb, w.before (As B adK).toArray s = true := fun w hw => hts w (List.mem_cons_of_mem _ hw)
  have hl := lv_entry (As B adK) (n := nL) (hn B adK)
  rw [lg_entry_eq]
  generalize (lg_sl (As B adK) ++ List.replicate (nL - (lg_sl (As B adK)).length) Slot.unset).toArray = ls at hl ⊢
  have k := body (p, l, e, gRm fr lo, s, m, (As B adK).toArray, below, meth, c, D, cA, adK, adV) B ⟨⟨Bd.exec, Bd.bytes, hml, findClass_of_methodNamed Bd.named, hts2⟩, hK, Bd.returns, Bd.notSynchronized, rfl, rfl, hStr⟩
  exact k s.heap [] ls hP va_S.rf (gL_less hl (fun j w hj => by have := gLv_at (As B adK) 0 j w hj; rwa [Nat.zero_add] at this))
/-- what links a field of the class ci (of vwCl), its place j, at an entry of the class own -/
def gFL (own : String) (idx ci j : Nat) : Prop := ∃ (C : String) (T : u_T) (N : Nat), vwCl[ci]? = some (C, T, N) ∧ (∀ w ∈ u_ws C T N, w ∈ tb) ∧ j < N ∧ Cond.fieldLink own idx (T j).1 (T j).2.1 (T j).2.2.1 ∈ tb
/-- what a class is: for writing -/
def gCl (ci : Nat) : Prop := ∃ (C : String) (T : u_T) (N : Nat) (ty : Nat → FieldType), vwCl[ci]? = some (C, T, N) ∧ (∀ k, k < N → parseFieldDescriptor (T k).2.2.1 = some (ty k)) ∧ (∀ a, a < N → ∀ b, b < N → a ≠ b → (T a).2.1 ≠ (T b).2.1)
def gPL (ci j : Nat) (ty : FieldType) : Prop := ∃ (C : String) (T : u_T) (N : Nat), vwCl[ci]? = some (C, T, N) ∧ (T j).2.2.2 = false ∧ parseFieldDescriptor (T j).2.2.1 = some ty
def gCV (own : String) (idx ci n : Nat) (y : MethodName) (cc : ByteArray) (nL : Nat) (ret : Option FieldType) : Prop := ∃ (C : String) (T : u_T) (N : Nat), vwCl[ci]? = some (C, T, N) ∧ GoodIn tb (wsV own idx C y (.code y cc nL ret :: tb)) ∧ y.cls = C ∧ y.cls ≠ "java/lang/invoke/MethodHandle" ∧ y.cls ≠ "java/lang/invoke/VarHandle" ∧ (parseMethodDescriptor y.desc).map (fun d => d.parameters.length) = some n
def gCS (own : String) (idx n : Nat) (y : MethodName) (cc : ByteArray) (nL : Nat) (ret : Option FieldType) : Prop := GoodIn tb (va_wsS own idx y (.code y cc nL ret :: tb)) ∧ y.cls ≠ "java/lang/invoke/MethodHandle" ∧ y.cls ≠ "java/lang/invoke/VarHandle" ∧ (parseMethodDescriptor y.desc).map (fun d => d.parameters.length) = some n
/-- reading and writing rows -/
def aI (sk : List gE) (u : gM) (r : Nat) (i : Int32) : Option Int32 := match sk[r]? with
  | some (.inr (0, n, _)) => if i < 0 ∨ n ≤ i.toNatClampNeg then none else some (u.1 r i.toNatClampNeg)
  | _ => none
def aJ (sk : List gE) (u : gM) (r : Nat) (i : Int32) : Option Int64 := match sk[r]? with
  | some (.inr (1, n, _)) => if i < 0 ∨ n ≤ i.toNatClampNeg then none else some (u.2 r i.toNatClampNeg)
  | _ => none
def aB (sk : List gE) (u : gM) (r : Nat) (i : Int32) : Option Int32 := match sk[r]? with
  | some (.inr (2, n, _)) => if i < 0 ∨ n ≤ i.toNatClampNeg then none else some (u.1 r i.toNatClampNeg)
  | _ => none
def aR (sk : List gE) (r : Nat) (i : Int32) : Option Nat := match sk[r]? with
  | some (.inr (3, n, rs)) => if i < 0 ∨ n ≤ i.toNatClampNeg then none else (match rs[i.toNatClampNeg]? with | some (r + 3) => some r | _ => none)
  | _ => none
def aL (sk : List gE) (r : Nat) : Option Int32 := match sk[r]? with
  | some (.inr (_, n, _)) => some (Int32.ofNat n)
  | _ => none
def sI (sk : List gE) (u : gM) (r : Nat) (i v : Int32) : Option gM := match sk[r]? with
  | some (.inr (0, n, _)) => if i < 0 ∨ n ≤ i.toNatClampNeg then none else some (upI u r i.toNatClampNeg v)
  | _ => none
def sJ (sk : List gE) (u : gM) (r : Nat) (i : Int32) (v : Int64) : Option gM := match sk[r]? with
  | some (.inr (1, n, _)) => if i < 0 ∨ n ≤ i.toNatClampNeg then none else some (upJ u r i.toNatClampNeg v)
  | _ => none
def sB (sk : List gE) (u : gM) (r : Nat) (i v : Int32) : Option gM := match sk[r]? with
  | some (.inr (2, n, _)) => if i < 0 ∨ n ≤ i.toNatClampNeg then none else some (upI u r i.toNatClampNeg v.toInt8.toInt32)
  | _ => none
def cpI (sk : List gE) (u : gM) (r0 : Nat) (sp : Int32) (r1 : Nat) (dp n : Int32) : Option gM := match sk[r0]?, sk[r1]? with
  | some (.inr (0, n0, _)), some (.inr (0, n1, _)) => if sp < 0 ∨ dp < 0 ∨ n < 0 ∨ n0 < sp.toNatClampNeg + n.toNatClampNeg ∨ n1 < dp.toNatClampNeg + n.toNatClampNeg then none else some (upRI u r1 (va_cpy (u.1 r0) (u.1 r1) sp.toNatClampNeg dp.toNatClampNeg n.toNatClampNeg))
  | _, _ => none
def cpJ (sk : List gE) (u : gM) (r0 : Nat) (sp : Int32) (r1 : Nat) (dp n : Int32) : Option gM := match sk[r0]?, sk[r1]? with
  | some (.inr (1, n0, _)), some (.inr (1, n1, _)) => if sp < 0 ∨ dp < 0 ∨ n < 0 ∨ n0 < sp.toNatClampNeg + n.toNatClampNeg ∨ n1 < dp.toNatClampNeg + n.toNatClampNeg then none else some (upRJ u r1 (va_cpy (u.2 r0) (u.2 r1) sp.toNatClampNeg dp.toNatClampNeg n.toNatClampNeg))
  | _, _ => none
def bI (v : Int32) : Option Int32 := if v = 0 ∨ v = 1 then some v else none
theorem bind_of {α β : Type} {x : Option α} {f : α → Option β} {r : β} (h : x.bind f = some r) : ∃ a, x = some a ∧ f a = some r := by
  cases x with
  | none => cases h
  | some a => exact ⟨a, rfl, h⟩
theorem ite_of {α : Type} {P : Prop} {d : Decidable P} {x : Option α} {r : α} (h : (@ite _ P d x none) = some r) : P ∧ x = some r := by
  by_cases hp : P
  · rw [if_pos hp] at h; exact ⟨hp, h⟩
  · rw [if_neg hp] at h; cases h
theorem ite_no {α : Type} {P : Prop} {d : Decidable P} {x : Option α} {r : α} (h : (@ite _ P d none x) = some r) : ¬ P ∧ x = some r := by
  by_cases hp : P
  · rw [if_pos hp] at h; cases h
  · rw [if_neg hp] at h; exact ⟨hp, h⟩
theorem bI_of {v r : Int32} (h : bI v = some r) : (v = 0 ∨ v = 1) ∧ v = r := by
  unfold bI at h
  obtain ⟨h1, h2⟩ := ite_of h
  exact ⟨h1, Option.some.inj h2⟩
def gMk : List Bool → List (Option Value) → List (Option Value)
  | [], _ => []
  | _ :: bs, [] => none :: gMk bs []
  | true :: bs, a :: r => a :: gMk bs r
  | false :: bs, _ :: r => none :: gMk bs r
theorem gMk_sub : ∀ (bs : List Bool) (lv : List (Option Value)) (j : Nat) (w : Value), (gMk bs lv)[j]? = some (some w) → lv[j]? = some (some w)
  | [], _, j, w, h => by simp [gMk] at h
  | _ :: bs, [], j, w, h => by
    cases j with
    | zero => simp [gMk] at h
    | succ j => simp only [gMk, List.getElem?_cons_succ] at h; have := gMk_sub bs [] j w h; simp at this
  | true :: bs, a :: r, j, w, h => by
    cases j with
    | zero => simpa [gMk] using h
    | succ j => simp only [gMk, List.getElem?_cons_succ] at h ⊢; exact gMk_sub bs r j w h
  | false :: bs, _ :: r, j, w, h => by
    cases j with
    | zero => simp [gMk] at h
    | succ j => simp only [gMk, List.getElem?_cons_succ] at h ⊢; exact gMk_sub bs r j w h
def isO (sk : List gE) (r ci : Nat) : Bool := match sk[r]? with
  | some (.inl (c, _)) => c == ci
  | _ => false
def rf (sk : List gE) (r j : Nat) : Nat := match sk[r]? with
  | some (.inl (_, cs)) => cs.getD j 0 - 3
  | _ => 0
theorem isO_of {sk : List gE} {r ci : Nat} (h : isO sk r ci = true) : ∃ cs, sk[r]? = some (.inl (ci, cs)) := by
  unfold isO at h
  split at h
  · next c cs he => have := eq_of_beq h; subst this; exact ⟨cs, he⟩
  · cases h
/-- all objects of a class have one shape -/
def shp (sk : List gE) (ci : Nat) (f : (Nat → Nat) → List Nat) : Bool := (List.range sk.length).all (fun r => !isO sk r ci || (match sk[r]? with | some (.inl (_, cs)) => cs == f (fun j => rf sk r j + 3) | _ => false))
theorem shp_of {sk : List gE} {ci : Nat} {f : (Nat → Nat) → List Nat} (hs : shp sk ci f = true) {r : Nat} (h : isO sk r ci = true) : sk[r]? = some (.inl (ci, f (fun j => rf sk r j + 3))) := by
  obtain ⟨cs, he⟩ := isO_of h
  have hl := (List.getElem?_eq_some_iff.mp he).1
  have := List.all_eq_true.mp hs r (List.mem_range.mpr hl)
  rw [h, he] at this
  simp only [Bool.not_true, Bool.false_or] at this
  rw [he, eq_of_beq this]
def slen (i : Nat) : Option Int32 := (gSt[i]?).map (fun q => Int32.ofNat q.2.2.2.length)
def sch (i : Nat) (j : Int32) : Option Int32 := match gSt[i]? with
  | some q => if j < 0 ∨ q.2.2.2.length ≤ j.toNatClampNeg then none else some (q.2.2.2.getD j.toNatClampNeg 0)
  | none => none
/-- off the cells of S nothing is changed -/
def off (S : Nat → Prop) (u v : gM) : Prop := ∀ c : Nat, ¬ S c → v.1 c = u.1 c ∧ v.2 c = u.2 c
theorem off_upI {S : Nat → Prop} {u0 u : gM} {k j : Nat} {x : Int32} (h : S k) (h0 : off S u0 u) : off S u0 (upI u k j x) := fun c hc => ⟨by rw [upI_row]; simp only [upRI]; rw [if_neg (fun e => hc (by rw [e]; exact h))]; exact (h0 c hc).1, (h0 c hc).2⟩
theorem off_upJ {S : Nat → Prop} {u0 u : gM} {k j : Nat} {x : Int64} (h : S k) (h0 : off S u0 u) : off S u0 (upJ u k j x) := fun c hc => ⟨(h0 c hc).1, by rw [upJ_row]; simp only [upRJ]; rw [if_neg (fun e => hc (by rw [e]; exact h))]; exact (h0 c hc).2⟩
theorem off_upRI {S : Nat → Prop} {u0 u : gM} {k : Nat} {f : Nat → Int32} (h : S k) (h0 : off S u0 u) : off S u0 (upRI u k f) := fun c hc => ⟨by simp only [upRI]; rw [if_neg (fun e => hc (by rw [e]; exact h))]; exact (h0 c hc).1, (h0 c hc).2⟩
theorem off_upRJ {S : Nat → Prop} {u0 u : gM} {k : Nat} {f : Nat → Int64} (h : S k) (h0 : off S u0 u) : off S u0 (upRJ u k f) := fun c hc => ⟨(h0 c hc).1, by simp only [upRJ]; rw [if_neg (fun e => hc (by rw [e]; exact h))]; exact (h0 c hc).2⟩
def fz : Nat := 4000
def mxI (x y : Int32) : Int32 := if x < y then y else x
def mnI (x y : Int32) : Int32 := if y < x then y else x
def mxJ (x y : Int64) : Int64 := if y < x then x else y
def mnJ (x y : Int64) : Int64 := if y < x then y else x
section FLAT
variable {κ : gK} {cc : ByteArray} {nL : Nat} {own : String} {ret : Option FieldType} {fr lo B : Nat} {sk : List gE} {res : Option Value × gM} {pc : Nat} {lv : List (Option Value)} {st : List Value} {u : gM}
theorem g_iconst (X : gX κ B sk cc nL own ret fr lo) {n : Int} {v : Int32} (hdg : decode cc pc = .ok (.iconst n, 1)) (hv : Int32.ofInt n = v) (k : gV κ B sk nL res (pc + 1) lv (.int v :: st) u) : gV κ B sk nL res pc lv st u := by
  obtain ⟨p, l, e, R, s, m, args, below, meth, c, D, cA, adK, adV⟩ := κ
  obtain ⟨⟨hx, hb, hml, ho, hts⟩, hK, hr, hlk, hfr, hlo, hStr⟩ := X
  intro H locs ls hP hS hl
  exact lv_iconst hx hb hdg hv (k H locs ls hP hS hl)
theorem g_bipush (X : gX κ B sk cc nL own ret fr lo) {n : Int} {v : Int32} (hdg : decode cc pc = .ok (.bipush n, 2)) (hv : (Int8.ofInt n).toInt32 = v) (k : gV κ B sk nL res (pc + 2) lv (.int v :: st) u) : gV κ B sk nL res pc lv st u := by
  obtain ⟨p, l, e, R, s, m, args, below, meth, c, D, cA, adK, adV⟩ := κ
  obtain ⟨⟨hx, hb, hml, ho, hts⟩, hK, hr, hlk, hfr, hlo, hStr⟩ := X
  intro H locs ls hP hS hl
  exact lv_bipush hx hb hdg hv (k H locs ls hP hS hl)
theorem g_sipush (X : gX κ B sk cc nL own ret fr lo) {n : Int} {v : Int32} (hdg : decode cc pc = .ok (.sipush n, 3)) (hv : (Int16.ofInt n).toInt32 = v) (k : gV κ B sk nL res (pc + 3) lv (.int v :: st) u) : gV κ B sk nL res pc lv st u := by
  obtain ⟨p, l, e, R, s, m, args, below, meth, c, D, cA, adK, adV⟩ := κ
  obtain ⟨⟨hx, hb, hml, ho, hts⟩, hK, hr, hlk, hfr, hlo, hStr⟩ := X
  intro H locs ls hP hS hl
  exact lv_sipush hx hb hdg hv (k H locs ls hP hS hl)
theorem g_lconst (X : gX κ B sk cc nL own ret fr lo) {n : Fin 2} {v : Int64} (hdg : decode cc pc = .ok (.lconst n, 1)) (hv : Int64.ofNat (n : Nat) = v) (k : gV κ B sk nL res (pc + 1) lv (.long v :: st) u) : gV κ B sk nL res pc lv st u := by
  obtain ⟨p, l, e, R, s, m, args, below, meth, c, D, cA, adK, adV⟩ := κ
  obtain ⟨⟨hx, hb, hml, ho, hts⟩, hK, hr, hlk, hfr, hlo, hStr⟩ := X
  intro H locs ls hP hS hl
  exact lv_lconst hx hb hdg hv (k H locs ls hP hS hl)
theorem g_ldc (X : gX κ B sk cc nL own ret fr lo) {idx : Nat} {v : Int32} (hw : Cond.constant own idx v ∈ tb) (hdg : decode cc pc = .ok (.ldc idx, 2)) (k : gV κ B sk nL res (pc + 2) lv (.int v :: st) u) : gV κ B sk nL res pc lv st u := by
  obtain ⟨p, l, e, R, s, m, args, below, meth, c, D, cA, adK, adV⟩ := κ
  obtain ⟨⟨hx, hb, hml, ho, hts⟩, hK, hr, hlk, hfr, hlo, hStr⟩ := X
  intro H locs ls hP hS hl
  exact lv_ldc hx hb ho (hts _ hw) hdg (k H locs ls hP hS hl)
theorem g_ldc2 (X : gX κ B sk cc nL own ret fr lo) {idx : Nat} {v : Int64} (hw : Cond.constantLong own idx v ∈ tb) (hdg : decode cc pc = .ok (.ldc2_w idx, 3)) (k : gV κ B sk nL res (pc + 3) lv (.long v :: st) u) : gV κ B sk nL res pc lv st u := by
  obtain ⟨p, l, e, R, s, m, args, below, meth, c, D, cA, adK, adV⟩ := κ
  obtain ⟨⟨hx, hb, hml, ho, hts⟩, hK, hr, hlk, hfr, hlo, hStr⟩ := X
  intro H locs ls hP hS hl
  exact lv_ldc2 hx hb ho (hts _ hw) hdg (k H locs ls hP hS hl)
theorem g_iload_n (X : gX κ B sk cc nL own ret fr lo) {i : Fin 4} {x : Int32} (hdg : decode cc pc = .ok (.iload_n i, 1)) (hk : lv[(i : Nat)]? = some (some (.int x))) (k : gV κ B sk nL res (pc + 1) lv (.int x :: st) u) : gV κ B sk nL res pc lv st u := by
  obtain ⟨p, l, e, R, s, m, args, below, meth, c, D, cA, adK, adV⟩ := κ
  obtain ⟨⟨hx, hb, hml, ho, hts⟩, hK, hr, hlk, hfr, hlo, hStr⟩ := X
  intro H locs ls hP hS hl
  exact lv_iload_n hx hb hdg rfl (gL_at hl hk) (k H locs ls hP hS hl)
theorem g_iload (X : gX κ B sk cc nL own ret fr lo) {i : Nat} {x : Int32} (hdg : decode cc pc = .ok (.iload i, 2)) (hk : lv[i]? = some (some (.int x))) (k : gV κ B sk nL res (pc + 2) lv (.int x :: st) u) : gV κ B sk nL res pc lv st u := by
  obtain ⟨p, l, e, R, s, m, args, below, meth, c, D, cA, adK, adV⟩ := κ
  obtain ⟨⟨hx, hb, hml, ho, hts⟩, hK, hr, hlk, hfr, hlo, hStr⟩ := X
  intro H locs ls hP hS hl
  exact lv_iload hx hb hdg (gL_at hl hk) (k H locs ls hP hS hl)
theorem g_istore_n (X : gX κ B sk cc nL own ret fr lo) {i : Fin 4} {x : Int32} (lv2 : List (Option Value)) (hdg : decode cc pc = .ok (.istore_n i, 1)) (hn : (i : Nat) < nL) (hl2 : gS1 lv (i : Nat) (.int x) = lv2) (k : gV κ B sk nL res (pc + 1) lv2 st u) : gV κ B sk nL res pc lv (.int x :: st) u := by
  obtain ⟨p, l, e, R, s, m, args, below, meth, c, D, cA, adK, adV⟩ := κ
  obtain ⟨⟨hx, hb, hml, ho, hts⟩, hK, hr, hlk, hfr, hlo, hStr⟩ := X
  intro H locs ls hP hS hl
  exact lv_istore_n hx hb hdg rfl hl hn rfl (fun ls2 h2 => k H locs ls2 hP hS (gL_s1 hl2 h2))
theorem g_istore (X : gX κ B sk cc nL own ret fr lo) {i : Nat} {x : Int32} (lv2 : List (Option Value)) (hdg : decode cc pc = .ok (.istore i, 2)) (hn : i < nL) (hl2 : gS1 lv i (.int x) = lv2) (k : gV κ B sk nL res (pc + 2) lv2 st u) : gV κ B sk nL res pc lv (.int x :: st) u := by
  obtain ⟨p, l, e, R, s, m, args, below, meth, c, D, cA, adK, adV⟩ := κ
  obtain ⟨⟨hx, hb, hml, ho, hts⟩, hK, hr, hlk, hfr, hlo, hStr⟩ := X
  intro H locs ls hP hS hl
  exact lv_istore hx hb hdg hl hn rfl (fun ls2 h2 => k H locs ls2 hP hS (gL_s1 hl2 h2))
theorem g_lload_n (X : gX κ B sk cc nL own ret fr lo) {i : Fin 4} {x : Int64} (hdg : decode cc pc = .ok (.lload_n i, 1)) (hk : lv[(i : Nat)]? = some (some (.long x))) (k : gV κ B sk nL res (pc + 1) lv (.long x :: st) u) : gV κ B sk nL res pc lv st u := by
  obtain ⟨p, l, e, R, s, m, args, below, meth, c, D, cA, adK, adV⟩ := κ
  obtain ⟨⟨hx, hb, hml, ho, hts⟩, hK, hr, hlk, hfr, hlo, hStr⟩ := X
  intro H locs ls hP hS hl
  exact lv_lload_n hx hb hdg rfl (gL_at hl hk) (k H locs ls hP hS hl)
theorem g_lload (X : gX κ B sk cc nL own ret fr lo) {i : Nat} {x : Int64} (hdg : decode cc pc = .ok (.lload i, 2)) (hk : lv[i]? = some (some (.long x))) (k : gV κ B sk nL res (pc + 2) lv (.long x :: st) u) : gV κ B sk nL res pc lv st u := by
  obtain ⟨p, l, e, R, s, m, args, below, meth, c, D, cA, adK, adV⟩ := κ
  obtain ⟨⟨hx, hb, hml, ho, hts⟩, hK, hr, hlk, hfr, hlo, hStr⟩ := X
  intro H locs ls hP hS hl
  exact lv_lload hx hb hdg (gL_at hl hk) (k H locs ls hP hS hl)
theorem g_lstore_n (X : gX κ B sk cc nL own ret fr lo) {i : Fin 4} {x : Int64} (lv2 : List (Option Value)) (hdg : decode cc pc = .ok (.lstore_n i, 1)) (hn : (i : Nat) + 1 < nL) (hl2 : gS2 lv (i : Nat) (.long x) = lv2) (k : gV κ B sk nL res (pc + 1) lv2 st u) : gV κ B sk nL res pc lv (.long x :: st) u := by
  obtain ⟨p, l, e, R, s, m, args, below, meth, c, D, cA, adK, adV⟩ := κ
  obtain ⟨⟨hx, hb, hml, ho, hts⟩, hK, hr, hlk, hfr, hlo, hStr⟩ := X
  intro H locs ls hP hS hl
  exact lv_lstore_n hx hb hdg rfl hl hn rfl (fun ls2 h2 => k H locs ls2 hP hS (gL_s2 hl2 h2))
theorem g_lstore (X : gX κ B sk cc nL own ret fr lo) {i : Nat} {x : Int64} (lv2 : List (Option Value)) (hdg : decode cc pc = .ok (.lstore i, 2)) (hn : i + 1 < nL) (hl2 : gS2 lv i (.long x) = lv2) (k : gV κ B sk nL res (pc + 2) lv2 st u) : gV κ B sk nL res pc lv (.long x :: st) u := by
  obtain ⟨p, l, e, R, s, m, args, below, meth, c, D, cA, adK, adV⟩ := κ
  obtain ⟨⟨hx, hb, hml, ho, hts⟩, hK, hr, hlk, hfr, hlo, hStr⟩ := X
  intro H locs ls hP hS hl
  exact lv_lstore hx hb hdg hl hn rfl (fun ls2 h2 => k H locs ls2 hP hS (gL_s2 hl2 h2))
theorem g_aload_n (X : gX κ B sk cc nL own ret fr lo) {i : Fin 4} {x : Nat} (hdg : decode cc pc = .ok (.aload_n i, 1)) (hk : lv[(i : Nat)]? = some (some (.ref x))) (k : gV κ B sk nL res (pc + 1) lv (.ref x :: st) u) : gV κ B sk nL res pc lv st u := by
  obtain ⟨p, l, e, R, s, m, args, below, meth, c, D, cA, adK, adV⟩ := κ
  obtain ⟨⟨hx, hb, hml, ho, hts⟩, hK, hr, hlk, hfr, hlo, hStr⟩ := X
  intro H locs ls hP hS hl
  exact lv_aload_n hx hb hdg rfl (gL_at hl hk) (k H locs ls hP hS hl)
theorem g_aload (X : gX κ B sk cc nL own ret fr lo) {i : Nat} {x : Nat} (hdg : decode cc pc = .ok (.aload i, 2)) (hk : lv[i]? = some (some (.ref x))) (k : gV κ B sk nL res (pc + 2) lv (.ref x :: st) u) : gV κ B sk nL res pc lv st u := by
  obtain ⟨p, l, e, R, s, m, args, below, meth, c, D, cA, adK, adV⟩ := κ
  obtain ⟨⟨hx, hb, hml, ho, hts⟩, hK, hr, hlk, hfr, hlo, hStr⟩ := X
  intro H locs ls hP hS hl
  exact lv_aload hx hb hdg (gL_at hl hk) (k H locs ls hP hS hl)
theorem g_astore_n (X : gX κ B sk cc nL own ret fr lo) {i : Fin 4} {x : Nat} (lv2 : List (Option Value)) (hdg : decode cc pc = .ok (.astore_n i, 1)) (hn : (i : Nat) < nL) (hl2 : gS1 lv (i : Nat) (.ref x) = lv2) (k : gV κ B sk nL res (pc + 1) lv2 st u) : gV κ B sk nL res pc lv (.ref x :: st) u := by
  obtain ⟨p, l, e, R, s, m, args, below, meth, c, D, cA, adK, adV⟩ := κ
  obtain ⟨⟨hx, hb, hml, ho, hts⟩, hK, hr, hlk, hfr, hlo, hStr⟩ := X
  intro H locs ls hP hS hl
  exact lv_astore_n hx hb hdg rfl hl hn rfl (fun ls2 h2 => k H locs ls2 hP hS (gL_s1 hl2 h2))
theorem g_astore (X : gX κ B sk cc nL own ret fr lo) {i : Nat} {x : Nat} (lv2 : List (Option Value)) (hdg : decode cc pc = .ok (.astore i, 2)) (hn : i < nL) (hl2 : gS1 lv i (.ref x) = lv2) (k : gV κ B sk nL res (pc + 2) lv2 st u) : gV κ B sk nL res pc lv (.ref x :: st) u := by
  obtain ⟨p, l, e, R, s, m, args, below, meth, c, D, cA, adK, adV⟩ := κ
  obtain ⟨⟨hx, hb, hml, ho, hts⟩, hK, hr, hlk, hfr, hlo, hStr⟩ := X
  intro H locs ls hP hS hl
  exact lv_astore hx hb hdg hl hn rfl (fun ls2 h2 => k H locs ls2 hP hS (gL_s1 hl2 h2))
theorem g_iinc (X : gX κ B sk cc nL own ret fr lo) {i : Nat} {n : Int} {d x : Int32} (lv2 : List (Option Value)) (hdg : decode cc pc = .ok (.iinc i n, 3)) (hd : Int32.ofInt n = d) (hk : lv[i]? = some (some (.int x))) (hn : i < nL) (hl2 : gS1 lv i (.int (x + d)) = lv2) (k : gV κ B sk nL res (pc + 3) lv2 st u) : gV κ B sk nL res pc lv st u := by
  obtain ⟨p, l, e, R, s, m, args, below, meth, c, D, cA, adK, adV⟩ := κ
  obtain ⟨⟨hx, hb, hml, ho, hts⟩, hK, hr, hlk, hfr, hlo, hStr⟩ := X
  intro H locs ls hP hS hl
  subst hd
  obtain ⟨q, hq⟩ := List.getElem?_of_mem ((gAs_mem lv 0 i (.int x)).mpr ⟨Nat.zero_le _, hk⟩)
  exact lv_iinc hx hb hdg hl hq rfl hn rfl (fun ls2 h2 => k H locs ls2 hP hS (gL_s1 hl2 h2))
theorem g_iadd (X : gX κ B sk cc nL own ret fr lo) {x y : Int32} (hdg : decode cc pc = .ok (.iadd, 1)) (k : gV κ B sk nL res (pc + 1) lv (.int (x + y) :: st) u) : gV κ B sk nL res pc lv (.int y :: .int x :: st) u := by
  obtain ⟨p, l, e, R, s, m, args, below, meth, c, D, cA, adK, adV⟩ := κ
  obtain ⟨⟨hx, hb, hml, ho, hts⟩, hK, hr, hlk, hfr, hlo, hStr⟩ := X
  intro H locs ls hP hS hl
  exact lv_iadd hx hb hdg  (k H locs ls hP hS hl)
theorem g_isub (X : gX κ B sk cc nL own ret fr lo) {x y : Int32} (hdg : decode cc pc = .ok (.isub, 1)) (k : gV κ B sk nL res (pc + 1) lv (.int (x - y) :: st) u) : gV κ B sk nL res pc lv (.int y :: .int x :: st) u := by
  obtain ⟨p, l, e, R, s, m, args, below, meth, c, D, cA, adK, adV⟩ := κ
  obtain ⟨⟨hx, hb, hml, ho, hts⟩, hK, hr, hlk, hfr, hlo, hStr⟩ := X
  intro H locs ls hP hS hl
  exact lv_isub hx hb hdg  (k H locs ls hP hS hl)
theorem g_imul (X : gX κ B sk cc nL own ret fr lo) {x y : Int32} (hdg : decode cc pc = .ok (.imul, 1)) (k : gV κ B sk nL res (pc + 1) lv (.int (x * y) :: st) u) : gV κ B sk nL res pc lv (.int y :: .int x :: st) u := by
  obtain ⟨p, l, e, R, s, m, args, below, meth, c, D, cA, adK, adV⟩ := κ
  obtain ⟨⟨hx, hb, hml, ho, hts⟩, hK, hr, hlk, hfr, hlo, hStr⟩ := X
  intro H locs ls hP hS hl
  exact lv_imul hx hb hdg  (k H locs ls hP hS hl)
theorem g_iand (X : gX κ B sk cc nL own ret fr lo) {x y : Int32} (hdg : decode cc pc = .ok (.iand, 1)) (k : gV κ B sk nL res (pc + 1) lv (.int (x &&& y) :: st) u) : gV κ B sk nL res pc lv (.int y :: .int x :: st) u := by
  obtain ⟨p, l, e, R, s, m, args, below, meth, c, D, cA, adK, adV⟩ := κ
  obtain ⟨⟨hx, hb, hml, ho, hts⟩, hK, hr, hlk, hfr, hlo, hStr⟩ := X
  intro H locs ls hP hS hl
  exact lv_iand hx hb hdg  (k H locs ls hP hS hl)
theorem g_ior (X : gX κ B sk cc nL own ret fr lo) {x y : Int32} (hdg : decode cc pc = .ok (.ior, 1)) (k : gV κ B sk nL res (pc + 1) lv (.int (x ||| y) :: st) u) : gV κ B sk nL res pc lv (.int y :: .int x :: st) u := by
  obtain ⟨p, l, e, R, s, m, args, below, meth, c, D, cA, adK, adV⟩ := κ
  obtain ⟨⟨hx, hb, hml, ho, hts⟩, hK, hr, hlk, hfr, hlo, hStr⟩ := X
  intro H locs ls hP hS hl
  exact lv_ior hx hb hdg  (k H locs ls hP hS hl)
theorem g_ishl (X : gX κ B sk cc nL own ret fr lo) {x y : Int32} (hdg : decode cc pc = .ok (.ishl, 1)) (k : gV κ B sk nL res (pc + 1) lv (.int (x <<< (y &&& 31)) :: st) u) : gV κ B sk nL res pc lv (.int y :: .int x :: st) u := by
  obtain ⟨p, l, e, R, s, m, args, below, meth, c, D, cA, adK, adV⟩ := κ
  obtain ⟨⟨hx, hb, hml, ho, hts⟩, hK, hr, hlk, hfr, hlo, hStr⟩ := X
  intro H locs ls hP hS hl
  exact lv_ishl hx hb hdg  (k H locs ls hP hS hl)
theorem g_ishr (X : gX κ B sk cc nL own ret fr lo) {x y : Int32} (hdg : decode cc pc = .ok (.ishr, 1)) (k : gV κ B sk nL res (pc + 1) lv (.int (x >>> (y &&& 31)) :: st) u) : gV κ B sk nL res pc lv (.int y :: .int x :: st) u := by
  obtain ⟨p, l, e, R, s, m, args, below, meth, c, D, cA, adK, adV⟩ := κ
  obtain ⟨⟨hx, hb, hml, ho, hts⟩, hK, hr, hlk, hfr, hlo, hStr⟩ := X
  intro H locs ls hP hS hl
  exact lv_ishr hx hb hdg  (k H locs ls hP hS hl)
theorem g_ladd (X : gX κ B sk cc nL own ret fr lo) {x y : Int64} (hdg : decode cc pc = .ok (.ladd, 1)) (k : gV κ B sk nL res (pc + 1) lv (.long (x + y) :: st) u) : gV κ B sk nL res pc lv (.long y :: .long x :: st) u := by
  obtain ⟨p, l, e, R, s, m, args, below, meth, c, D, cA, adK, adV⟩ := κ
  obtain ⟨⟨hx, hb, hml, ho, hts⟩, hK, hr, hlk, hfr, hlo, hStr⟩ := X
  intro H locs ls hP hS hl
  exact lv_ladd hx hb hdg  (k H locs ls hP hS hl)
theorem g_lsub (X : gX κ B sk cc nL own ret fr lo) {x y : Int64} (hdg : decode cc pc = .ok (.lsub, 1)) (k : gV κ B sk nL res (pc + 1) lv (.long (x - y) :: st) u) : gV κ B sk nL res pc lv (.long y :: .long x :: st) u := by
  obtain ⟨p, l, e, R, s, m, args, below, meth, c, D, cA, adK, adV⟩ := κ
  obtain ⟨⟨hx, hb, hml, ho, hts⟩, hK, hr, hlk, hfr, hlo, hStr⟩ := X
  intro H locs ls hP hS hl
  exact lv_lsub hx hb hdg  (k H locs ls hP hS hl)
theorem g_lmul (X : gX κ B sk cc nL own ret fr lo) {x y : Int64} (hdg : decode cc pc = .ok (.lmul, 1)) (k : gV κ B sk nL res (pc + 1) lv (.long (x * y) :: st) u) : gV κ B sk nL res pc lv (.long y :: .long x :: st) u := by
  obtain ⟨p, l, e, R, s, m, args, below, meth, c, D, cA, adK, adV⟩ := κ
  obtain ⟨⟨hx, hb, hml, ho, hts⟩, hK, hr, hlk, hfr, hlo, hStr⟩ := X
  intro H locs ls hP hS hl
  exact lv_lmul hx hb hdg  (k H locs ls hP hS hl)
theorem g_lor (X : gX κ B sk cc nL own ret fr lo) {x y : Int64} (hdg : decode cc pc = .ok (.lor, 1)) (k : gV κ B sk nL res (pc + 1) lv (.long (x ||| y) :: st) u) : gV κ B sk nL res pc lv (.long y :: .long x :: st) u := by
  obtain ⟨p, l, e, R, s, m, args, below, meth, c, D, cA, adK, adV⟩ := κ
  obtain ⟨⟨hx, hb, hml, ho, hts⟩, hK, hr, hlk, hfr, hlo, hStr⟩ := X
  intro H locs ls hP hS hl
  exact lv_lor hx hb hdg  (k H locs ls hP hS hl)
theorem g_idiv (X : gX κ B sk cc nL own ret fr lo) {x y : Int32} (hne : ¬ y = 0) (hdg : decode cc pc = .ok (.idiv, 1)) (k : gV κ B sk nL res (pc + 1) lv (.int (x / y) :: st) u) : gV κ B sk nL res pc lv (.int y :: .int x :: st) u := by
  obtain ⟨p, l, e, R, s, m, args, below, meth, c, D, cA, adK, adV⟩ := κ
  obtain ⟨⟨hx, hb, hml, ho, hts⟩, hK, hr, hlk, hfr, hlo, hStr⟩ := X
  intro H locs ls hP hS hl
  exact lv_idiv hx hb hdg hne (k H locs ls hP hS hl)
theorem g_irem (X : gX κ B sk cc nL own ret fr lo) {x y : Int32} (hne : ¬ y = 0) (hdg : decode cc pc = .ok (.irem, 1)) (k : gV κ B sk nL res (pc + 1) lv (.int (x - x / y * y) :: st) u) : gV κ B sk nL res pc lv (.int y :: .int x :: st) u := by
  obtain ⟨p, l, e, R, s, m, args, below, meth, c, D, cA, adK, adV⟩ := κ
  obtain ⟨⟨hx, hb, hml, ho, hts⟩, hK, hr, hlk, hfr, hlo, hStr⟩ := X
  intro H locs ls hP hS hl
  exact lv_irem hx hb hdg hne (k H locs ls hP hS hl)
theorem g_ldiv (X : gX κ B sk cc nL own ret fr lo) {x y : Int64} (hne : ¬ y = 0) (hdg : decode cc pc = .ok (.ldiv, 1)) (k : gV κ B sk nL res (pc + 1) lv (.long (x / y) :: st) u) : gV κ B sk nL res pc lv (.long y :: .long x :: st) u := by
  obtain ⟨p, l, e, R, s, m, args, below, meth, c, D, cA, adK, adV⟩ := κ
  obtain ⟨⟨hx, hb, hml, ho, hts⟩, hK, hr, hlk, hfr, hlo, hStr⟩ := X
  intro H locs ls hP hS hl
  exact lv_ldiv hx hb hdg hne (k H locs ls hP hS hl)
theorem g_lrem (X : gX κ B sk cc nL own ret fr lo) {x y : Int64} (hne : ¬ y = 0) (hdg : decode cc pc = .ok (.lrem, 1)) (k : gV κ B sk nL res (pc + 1) lv (.long (x - x / y * y) :: st) u) : gV κ B sk nL res pc lv (.long y :: .long x :: st) u := by
  obtain ⟨p, l, e, R, s, m, args, below, meth, c, D, cA, adK, adV⟩ := κ
  obtain ⟨⟨hx, hb, hml, ho, hts⟩, hK, hr, hlk, hfr, hlo, hStr⟩ := X
  intro H locs ls hP hS hl
  exact lv_lrem hx hb hdg hne (k H locs ls hP hS hl)
theorem g_lshl (X : gX κ B sk cc nL own ret fr lo) {x : Int64} {y : Int32} (hdg : decode cc pc = .ok (.lshl, 1)) (k : gV κ B sk nL res (pc + 1) lv (.long (x <<< (y.toInt64 &&& 63)) :: st) u) : gV κ B sk nL res pc lv (.int y :: .long x :: st) u := by
  obtain ⟨p, l, e, R, s, m, args, below, meth, c, D, cA, adK, adV⟩ := κ
  obtain ⟨⟨hx, hb, hml, ho, hts⟩, hK, hr, hlk, hfr, hlo, hStr⟩ := X
  intro H locs ls hP hS hl
  exact lv_lshl hx hb hdg rfl (k H locs ls hP hS hl)
theorem g_i2l (X : gX κ B sk cc nL own ret fr lo) {x : Int32} (hdg : decode cc pc = .ok (.i2l, 1)) (k : gV κ B sk nL res (pc + 1) lv (.long x.toInt64 :: st) u) : gV κ B sk nL res pc lv (.int x :: st) u := by
  obtain ⟨p, l, e, R, s, m, args, below, meth, c, D, cA, adK, adV⟩ := κ
  obtain ⟨⟨hx, hb, hml, ho, hts⟩, hK, hr, hlk, hfr, hlo, hStr⟩ := X
  intro H locs ls hP hS hl
  exact lv_i2l hx hb hdg rfl (k H locs ls hP hS hl)
theorem g_l2i (X : gX κ B sk cc nL own ret fr lo) {x : Int64} (hdg : decode cc pc = .ok (.l2i, 1)) (k : gV κ B sk nL res (pc + 1) lv (.int x.toInt32 :: st) u) : gV κ B sk nL res pc lv (.long x :: st) u := by
  obtain ⟨p, l, e, R, s, m, args, below, meth, c, D, cA, adK, adV⟩ := κ
  obtain ⟨⟨hx, hb, hml, ho, hts⟩, hK, hr, hlk, hfr, hlo, hStr⟩ := X
  intro H locs ls hP hS hl
  exact lv_l2i hx hb hdg rfl (k H locs ls hP hS hl)
theorem g_i2b (X : gX κ B sk cc nL own ret fr lo) {x : Int32} (hdg : decode cc pc = .ok (.i2b, 1)) (k : gV κ B sk nL res (pc + 1) lv (.int x.toInt8.toInt32 :: st) u) : gV κ B sk nL res pc lv (.int x :: st) u := by
  obtain ⟨p, l, e, R, s, m, args, below, meth, c, D, cA, adK, adV⟩ := κ
  obtain ⟨⟨hx, hb, hml, ho, hts⟩, hK, hr, hlk, hfr, hlo, hStr⟩ := X
  intro H locs ls hP hS hl
  exact lv_i2b hx hb hdg rfl (k H locs ls hP hS hl)
theorem g_lcmp (X : gX κ B sk cc nL own ret fr lo) {x y : Int64} (hdg : decode cc pc = .ok (.lcmp, 1)) (k : gV κ B sk nL res (pc + 1) lv (.int (lg_cmp x y) :: st) u) : gV κ B sk nL res pc lv (.long y :: .long x :: st) u := by
  obtain ⟨p, l, e, R, s, m, args, below, meth, c, D, cA, adK, adV⟩ := κ
  obtain ⟨⟨hx, hb, hml, ho, hts⟩, hK, hr, hlk, hfr, hlo, hStr⟩ := X
  intro H locs ls hP hS hl
  exact W.lcmp hx hb hdg  (k H locs ls hP hS hl)
theorem g_dup (X : gX κ B sk cc nL own ret fr lo) {x : Value} (hc : x.category = 1) (hdg : decode cc pc = .ok (.dup, 1)) (k : gV κ B sk nL res (pc + 1) lv (x :: x :: st) u) : gV κ B sk nL res pc lv (x :: st) u := by
  obtain ⟨p, l, e, R, s, m, args, below, meth, c, D, cA, adK, adV⟩ := κ
  obtain ⟨⟨hx, hb, hml, ho, hts⟩, hK, hr, hlk, hfr, hlo, hStr⟩ := X
  intro H locs ls hP hS hl
  exact lv_dup hx hb hdg hc (k H locs ls hP hS hl)
theorem g_pop (X : gX κ B sk cc nL own ret fr lo) {x : Value} (hc : x.category = 1) (hdg : decode cc pc = .ok (.pop, 1)) (k : gV κ B sk nL res (pc + 1) lv (st) u) : gV κ B sk nL res pc lv (x :: st) u := by
  obtain ⟨p, l, e, R, s, m, args, below, meth, c, D, cA, adK, adV⟩ := κ
  obtain ⟨⟨hx, hb, hml, ho, hts⟩, hK, hr, hlk, hfr, hlo, hStr⟩ := X
  intro H locs ls hP hS hl
  exact lv_pop hx hb hdg hc (k H locs ls hP hS hl)
theorem g_dup2_11 (X : gX κ B sk cc nL own ret fr lo) {x y : Value} (hc : x.category = 1) (hd : y.category = 1) (hdg : decode cc pc = .ok (.dup2, 1)) (k : gV κ B sk nL res (pc + 1) lv (x :: y :: x :: y :: st) u) : gV κ B sk nL res pc lv (x :: y :: st) u := by
  obtain ⟨p, l, e, R, s, m, args, below, meth, c, D, cA, adK, adV⟩ := κ
  obtain ⟨⟨hx, hb, hml, ho, hts⟩, hK, hr, hlk, hfr, hlo, hStr⟩ := X
  intro H locs ls hP hS hl
  exact lv_dup2_11 hx hb hdg hc hd (k H locs ls hP hS hl)
theorem g_dup2_2 (X : gX κ B sk cc nL own ret fr lo) {x : Value} (hc : x.category = 2) (hdg : decode cc pc = .ok (.dup2, 1)) (k : gV κ B sk nL res (pc + 1) lv (x :: x :: st) u) : gV κ B sk nL res pc lv (x :: st) u := by
  obtain ⟨p, l, e, R, s, m, args, below, meth, c, D, cA, adK, adV⟩ := κ
  obtain ⟨⟨hx, hb, hml, ho, hts⟩, hK, hr, hlk, hfr, hlo, hStr⟩ := X
  intro H locs ls hP hS hl
  exact lv_dup2_2 hx hb hdg hc (k H locs ls hP hS hl)
theorem g_if_eq (X : gX κ B sk cc nL own ret fr lo) {x : Int32} {off : Int} {tgt : Nat} (hdg : decode cc pc = .ok (.ifCond .eq off, 3)) (ht : (pc : Int) + off = (tgt : Int)) (kt : x = 0 → gV κ B sk nL res tgt lv st u) (kf : ¬ (x = 0) → gV κ B sk nL res (pc + 3) lv st u) : gV κ B sk nL res pc lv (.int x :: st) u := by
  obtain ⟨p, l, e, R, s, m, args, below, meth, c, D, cA, adK, adV⟩ := κ
  obtain ⟨⟨hx, hb, hml, ho, hts⟩, hK, hr, hlk, hfr, hlo, hStr⟩ := X
  intro H locs ls hP hS hl
  exact lv_if_eq hx hb hdg ht (fun q => kt q H locs ls hP hS hl) (fun q => kf q H locs ls hP hS hl)
theorem g_icmp_eq (X : gX κ B sk cc nL own ret fr lo) {x y : Int32} {off : Int} {tgt : Nat} (hdg : decode cc pc = .ok (.if_icmp .eq off, 3)) (ht : (pc : Int) + off = (tgt : Int)) (kt : x = y → gV κ B sk nL res tgt lv st u) (kf : ¬ (x = y) → gV κ B sk nL res (pc + 3) lv st u) : gV κ B sk nL res pc lv (.int y :: .int x :: st) u := by
  obtain ⟨p, l, e, R, s, m, args, below, meth, c, D, cA, adK, adV⟩ := κ
  obtain ⟨⟨hx, hb, hml, ho, hts⟩, hK, hr, hlk, hfr, hlo, hStr⟩ := X
  intro H locs ls hP hS hl
  exact lv_icmp_eq hx hb hdg ht (fun q => kt q H locs ls hP hS hl) (fun q => kf q H locs ls hP hS hl)
theorem g_if_ne (X : gX κ B sk cc nL own ret fr lo) {x : Int32} {off : Int} {tgt : Nat} (hdg : decode cc pc = .ok (.ifCond .ne off, 3)) (ht : (pc : Int) + off = (tgt : Int)) (kt : ¬ x = 0 → gV κ B sk nL res tgt lv st u) (kf : (x = 0) → gV κ B sk nL res (pc + 3) lv st u) : gV κ B sk nL res pc lv (.int x :: st) u := by
  obtain ⟨p, l, e, R, s, m, args, below, meth, c, D, cA, adK, adV⟩ := κ
  obtain ⟨⟨hx, hb, hml, ho, hts⟩, hK, hr, hlk, hfr, hlo, hStr⟩ := X
  intro H locs ls hP hS hl
  exact lv_if_ne hx hb hdg ht (fun q => kt q H locs ls hP hS hl) (fun q => kf q H locs ls hP hS hl)
theorem g_icmp_ne (X : gX κ B sk cc nL own ret fr lo) {x y : Int32} {off : Int} {tgt : Nat} (hdg : decode cc pc = .ok (.if_icmp .ne off, 3)) (ht : (pc : Int) + off = (tgt : Int)) (kt : ¬ x = y → gV κ B sk nL res tgt lv st u) (kf : (x = y) → gV κ B sk nL res (pc + 3) lv st u) : gV κ B sk nL res pc lv (.int y :: .int x :: st) u := by
  obtain ⟨p, l, e, R, s, m, args, below, meth, c, D, cA, adK, adV⟩ := κ
  obtain ⟨⟨hx, hb, hml, ho, hts⟩, hK, hr, hlk, hfr, hlo, hStr⟩ := X
  intro H locs ls hP hS hl
  exact lv_icmp_ne hx hb hdg ht (fun q => kt q H locs ls hP hS hl) (fun q => kf q H locs ls hP hS hl)
theorem g_if_lt (X : gX κ B sk cc nL own ret fr lo) {x : Int32} {off : Int} {tgt : Nat} (hdg : decode cc pc = .ok (.ifCond .lt off, 3)) (ht : (pc : Int) + off = (tgt : Int)) (kt : x < 0 → gV κ B sk nL res tgt lv st u) (kf : ¬ (x < 0) → gV κ B sk nL res (pc + 3) lv st u) : gV κ B sk nL res pc lv (.int x :: st) u := by
  obtain ⟨p, l, e, R, s, m, args, below, meth, c, D, cA, adK, adV⟩ := κ
  obtain ⟨⟨hx, hb, hml, ho, hts⟩, hK, hr, hlk, hfr, hlo, hStr⟩ := X
  intro H locs ls hP hS hl
  exact lv_if_lt hx hb hdg ht (fun q => kt q H locs ls hP hS hl) (fun q => kf q H locs ls hP hS hl)
theorem g_icmp_lt (X : gX κ B sk cc nL own ret fr lo) {x y : Int32} {off : Int} {tgt : Nat} (hdg : decode cc pc = .ok (.if_icmp .lt off, 3)) (ht : (pc : Int) + off = (tgt : Int)) (kt : x < y → gV κ B sk nL res tgt lv st u) (kf : ¬ (x < y) → gV κ B sk nL res (pc + 3) lv st u) : gV κ B sk nL res pc lv (.int y :: .int x :: st) u := by
  obtain ⟨p, l, e, R, s, m, args, below, meth, c, D, cA, adK, adV⟩ := κ
  obtain ⟨⟨hx, hb, hml, ho, hts⟩, hK, hr, hlk, hfr, hlo, hStr⟩ := X
  intro H locs ls hP hS hl
  exact lv_icmp_lt hx hb hdg ht (fun q => kt q H locs ls hP hS hl) (fun q => kf q H locs ls hP hS hl)
theorem g_if_ge (X : gX κ B sk cc nL own ret fr lo) {x : Int32} {off : Int} {tgt : Nat} (hdg : decode cc pc = .ok (.ifCond .ge off, 3)) (ht : (pc : Int) + off = (tgt : Int)) (kt : 0 ≤ x → gV κ B sk nL res tgt lv st u) (kf : ¬ (0 ≤ x) → gV κ B sk nL res (pc + 3) lv st u) : gV κ B sk nL res pc lv (.int x :: st) u := by
  obtain ⟨p, l, e, R, s, m, args, below, meth, c, D, cA, adK, adV⟩ := κ
  obtain ⟨⟨hx, hb, hml, ho, hts⟩, hK, hr, hlk, hfr, hlo, hStr⟩ := X
  intro H locs ls hP hS hl
  exact lv_if_ge hx hb hdg ht (fun q => kt q H locs ls hP hS hl) (fun q => kf q H locs ls hP hS hl)
theorem g_icmp_ge (X : gX κ B sk cc nL own ret fr lo) {x y : Int32} {off : Int} {tgt : Nat} (hdg : decode cc pc = .ok (.if_icmp .ge off, 3)) (ht : (pc : Int) + off = (tgt : Int)) (kt : y ≤ x → gV κ B sk nL res tgt lv st u) (kf : ¬ (y ≤ x) → gV κ B sk nL res (pc + 3) lv st u) : gV κ B sk nL res pc lv (.int y :: .int x :: st) u := by
  obtain ⟨p, l, e, R, s, m, args, below, meth, c, D, cA, adK, adV⟩ := κ
  obtain ⟨⟨hx, hb, hml, ho, hts⟩, hK, hr, hlk, hfr, hlo, hStr⟩ := X
  intro H locs ls hP hS hl
  exact lv_icmp_ge hx hb hdg ht (fun q => kt q H locs ls hP hS hl) (fun q => kf q H locs ls hP hS hl)
theorem g_if_gt (X : gX κ B sk cc nL own ret fr lo) {x : Int32} {off : Int} {tgt : Nat} (hdg : decode cc pc = .ok (.ifCond .gt off, 3)) (ht : (pc : Int) + off = (tgt : Int)) (kt : 0 < x → gV κ B sk nL res tgt lv st u) (kf : ¬ (0 < x) → gV κ B sk nL res (pc + 3) lv st u) : gV κ B sk nL res pc lv (.int x :: st) u := by
  obtain ⟨p, l, e, R, s, m, args, below, meth, c, D, cA, adK, adV⟩ := κ
  obtain ⟨⟨hx, hb, hml, ho, hts⟩, hK, hr, hlk, hfr, hlo, hStr⟩ := X
  intro H locs ls hP hS hl
  exact lv_if_gt hx hb hdg ht (fun q => kt q H locs ls hP hS hl) (fun q => kf q H locs ls hP hS hl)
theorem g_icmp_gt (X : gX κ B sk cc nL own ret fr lo) {x y : Int32} {off : Int} {tgt : Nat} (hdg : decode cc pc = .ok (.if_icmp .gt off, 3)) (ht : (pc : Int) + off = (tgt : Int)) (kt : y < x → gV κ B sk nL res tgt lv st u) (kf : ¬ (y < x) → gV κ B sk nL res (pc + 3) lv st u) : gV κ B sk nL res pc lv (.int y :: .int x :: st) u := by
  obtain ⟨p, l, e, R, s, m, args, below, meth, c, D, cA, adK, adV⟩ := κ
  obtain ⟨⟨hx, hb, hml, ho, hts⟩, hK, hr, hlk, hfr, hlo, hStr⟩ := X
  intro H locs ls hP hS hl
  exact lv_icmp_gt hx hb hdg ht (fun q => kt q H locs ls hP hS hl) (fun q => kf q H locs ls hP hS hl)
theorem g_if_le (X : gX κ B sk cc nL own ret fr lo) {x : Int32} {off : Int} {tgt : Nat} (hdg : decode cc pc = .ok (.ifCond .le off, 3)) (ht : (pc : Int) + off = (tgt : Int)) (kt : x ≤ 0 → gV κ B sk nL res tgt lv st u) (kf : ¬ (x ≤ 0) → gV κ B sk nL res (pc + 3) lv st u) : gV κ B sk nL res pc lv (.int x :: st) u := by
  obtain ⟨p, l, e, R, s, m, args, below, meth, c, D, cA, adK, adV⟩ := κ
  obtain ⟨⟨hx, hb, hml, ho, hts⟩, hK, hr, hlk, hfr, hlo, hStr⟩ := X
  intro H locs ls hP hS hl
  exact lv_if_le hx hb hdg ht (fun q => kt q H locs ls hP hS hl) (fun q => kf q H locs ls hP hS hl)
theorem g_icmp_le (X : gX κ B sk cc nL own ret fr lo) {x y : Int32} {off : Int} {tgt : Nat} (hdg : decode cc pc = .ok (.if_icmp .le off, 3)) (ht : (pc : Int) + off = (tgt : Int)) (kt : x ≤ y → gV κ B sk nL res tgt lv st u) (kf : ¬ (x ≤ y) → gV κ B sk nL res (pc + 3) lv st u) : gV κ B sk nL res pc lv (.int y :: .int x :: st) u := by
  obtain ⟨p, l, e, R, s, m, args, below, meth, c, D, cA, adK, adV⟩ := κ
  obtain ⟨⟨hx, hb, hml, ho, hts⟩, hK, hr, hlk, hfr, hlo, hStr⟩ := X
  intro H locs ls hP hS hl
  exact lv_icmp_le hx hb hdg ht (fun q => kt q H locs ls hP hS hl) (fun q => kf q H locs ls hP hS hl)
theorem g_goto (X : gX κ B sk cc nL own ret fr lo) {off : Int} {tgt : Nat} (hdg : decode cc pc = .ok (.goto off, 3)) (ht : (pc : Int) + off = (tgt : Int)) (k : gV κ B sk nL res tgt lv st u) : gV κ B sk nL res pc lv st u := by
  obtain ⟨p, l, e, R, s, m, args, below, meth, c, D, cA, adK, adV⟩ := κ
  obtain ⟨⟨hx, hb, hml, ho, hts⟩, hK, hr, hlk, hfr, hlo, hStr⟩ := X
  intro H locs ls hP hS hl
  exact lv_goto hx hb hdg ht (k H locs ls hP hS hl)
theorem g_tabIn (X : gX κ B sk cc nL own ret fr lo) {dflt lo2 hi : Int} {offs : Array Int} {len : Nat} {x : Int32} {off : Int} {tgt : Nat} (v : Int32) (hxv : x = v) (hdg : decode cc pc = .ok (.tableswitch dflt lo2 hi offs, len)) (h1 : ¬ v.toInt < lo2) (h2 : ¬ hi < v.toInt) (h3 : offs[(v.toInt - lo2).toNat]? = some off) (ht : (pc : Int) + off = (tgt : Int)) (k : gV κ B sk nL res tgt lv st u) : gV κ B sk nL res pc lv (.int x :: st) u := by
  obtain ⟨p, l, e, R, s, m, args, below, meth, c, D, cA, adK, adV⟩ := κ
  obtain ⟨⟨hx, hb, hml, ho, hts⟩, hK, hr, hlk, hfr, hlo, hStr⟩ := X
  intro H locs ls hP hS hl
  subst hxv
  exact lv_tableIn hx hb hdg h1 h2 h3 ht (k H locs ls hP hS hl)
theorem g_tabOut (X : gX κ B sk cc nL own ret fr lo) {dflt lo2 hi : Int} {offs : Array Int} {len : Nat} {x : Int32} {tgt : Nat} (hdg : decode cc pc = .ok (.tableswitch dflt lo2 hi offs, len)) (h : x.toInt < lo2 ∨ hi < x.toInt) (ht : (pc : Int) + dflt = (tgt : Int)) (k : gV κ B sk nL res tgt lv st u) : gV κ B sk nL res pc lv (.int x :: st) u := by
  obtain ⟨p, l, e, R, s, m, args, below, meth, c, D, cA, adK, adV⟩ := κ
  obtain ⟨⟨hx, hb, hml, ho, hts⟩, hK, hr, hlk, hfr, hlo, hStr⟩ := X
  intro H locs ls hP hS hl
  exact lv_tableOut hx hb hdg h ht (k H locs ls hP hS hl)
theorem g_look (X : gX κ B sk cc nL own ret fr lo) {dflt : Int} {ps : Array (Int × Int)} {len : Nat} {x : Int32} {off : Int} {tgt : Nat} (hdg : decode cc pc = .ok (.lookupswitch dflt ps, len)) (hp : (ps.toList.zip (ps.toList.drop 1)).all (fun (a, next) => a.1 < next.1) = true) (h3 : Op.lookupswitch.offset ps.toList dflt x.toInt = off) (ht : (pc : Int) + off = (tgt : Int)) (k : gV κ B sk nL res tgt lv st u) : gV κ B sk nL res pc lv (.int x :: st) u := by
  obtain ⟨p, l, e, R, s, m, args, below, meth, c, D, cA, adK, adV⟩ := κ
  obtain ⟨⟨hx, hb, hml, ho, hts⟩, hK, hr, hlk, hfr, hlo, hStr⟩ := X
  intro H locs ls hP hS hl
  exact lv_lookup hx hb hdg hp h3 ht (k H locs ls hP hS hl)
theorem g_sub (lv2 : List (Option Value)) (hl2 : gLe lv2 lv) (k : gV κ B sk nL res pc lv2 st u) : gV κ B sk nL res pc lv st u := by
  obtain ⟨p, l, e, R, s, m, args, below, meth, c, D, cA, adK, adV⟩ := κ
  exact fun H locs ls hP hS hl => k H locs ls hP hS (gL_sub hl (gLe_sub lv2 lv hl2))
theorem g_mk (mk : List Bool) (lv2 : List (Option Value)) (hl2 : gMk mk lv = lv2) (k : gV κ B sk nL res pc lv2 st u) : gV κ B sk nL res pc lv st u := by
  subst hl2
  obtain ⟨p, l, e, R, s, m, args, below, meth, c, D, cA, adK, adV⟩ := κ
  exact fun H locs ls hP hS hl => k H locs ls hP hS (gL_sub hl (gMk_sub mk lv))
theorem g_at {pc2 : Nat} (h : pc = pc2) (k : gV κ B sk nL res pc2 lv st u) : gV κ B sk nL res pc lv st u := h ▸ k
theorem g_getI (X : gX κ B sk cc nL own ret fr lo) {idx ci j r : Nat} {cs : List Nat} (hf : gFL own idx ci j) (he : sk[r]? = some (.inl (ci, cs))) (hj2 : cs[j]? = some 0) (hdg : decode cc pc = .ok (.getfield idx, 3)) (k : gV κ B sk nL res (pc + 3) lv (.int (u.1 r j) :: st) u) : gV κ B sk nL res pc lv (.ref (B + r) :: st) u := by
  obtain ⟨p, l, e, R, s, m, args, below, meth, c, D, cA, adK, adV⟩ := κ
  obtain ⟨⟨hx, hb, hml, ho, hts⟩, hK, hr, hlk, hfr, hlo, hStr⟩ := X
  intro H locs ls hP hS hl
  obtain ⟨C, T, N, hc, hw, hj, hl0⟩ := hf
  exact va_get hx hb hts hw ho hK hP r (gWs_at he) hc j hj (hts _ hl0) (fun _ h9 => h9) (gFs_get hj2) hdg (k H locs ls hP hS hl)
theorem g_getJ (X : gX κ B sk cc nL own ret fr lo) {idx ci j r : Nat} {cs : List Nat} (hf : gFL own idx ci j) (he : sk[r]? = some (.inl (ci, cs))) (hj2 : cs[j]? = some 1) (hdg : decode cc pc = .ok (.getfield idx, 3)) (k : gV κ B sk nL res (pc + 3) lv (.long (u.2 r j) :: st) u) : gV κ B sk nL res pc lv (.ref (B + r) :: st) u := by
  obtain ⟨p, l, e, R, s, m, args, below, meth, c, D, cA, adK, adV⟩ := κ
  obtain ⟨⟨hx, hb, hml, ho, hts⟩, hK, hr, hlk, hfr, hlo, hStr⟩ := X
  intro H locs ls hP hS hl
  obtain ⟨C, T, N, hc, hw, hj, hl0⟩ := hf
  exact va_get hx hb hts hw ho hK hP r (gWs_at he) hc j hj (hts _ hl0) (fun _ h9 => h9) (gFs_get hj2) hdg (k H locs ls hP hS hl)
theorem g_getR (X : gX κ B sk cc nL own ret fr lo) {idx ci j r q : Nat} {cs : List Nat} (hf : gFL own idx ci j) (he : sk[r]? = some (.inl (ci, cs))) (hj2 : cs[j]? = some (q + 3)) (hdg : decode cc pc = .ok (.getfield idx, 3)) (k : gV κ B sk nL res (pc + 3) lv (.ref (B + q) :: st) u) : gV κ B sk nL res pc lv (.ref (B + r) :: st) u := by
  obtain ⟨p, l, e, R, s, m, args, below, meth, c, D, cA, adK, adV⟩ := κ
  obtain ⟨⟨hx, hb, hml, ho, hts⟩, hK, hr, hlk, hfr, hlo, hStr⟩ := X
  intro H locs ls hP hS hl
  obtain ⟨C, T, N, hc, hw, hj, hl0⟩ := hf
  exact va_get hx hb hts hw ho hK hP r (gWs_at he) hc j hj (hts _ hl0) (fun _ h9 => h9) (gFs_get hj2) hdg (k H locs ls hP hS hl)
theorem g_putI (X : gX κ B sk cc nL own ret fr lo) {idx ci j r : Nat} {cs : List Nat} {x : Int32} (hf : gFL own idx ci j) (hcl : gCl ci) (hpl : gPL ci j .int) (he : sk[r]? = some (.inl (ci, cs))) (hj2 : cs[j]? = some 0) (hdg : decode cc pc = .ok (.putfield idx, 3)) (k : gV κ B sk nL res (pc + 3) lv st (upI u r j x)) : gV κ B sk nL res pc lv (.int x :: .ref (B + r) :: st) u := by
  obtain ⟨p, l, e, R, s, m, args, below, meth, c, D, cA, adK, adV⟩ := κ
  obtain ⟨⟨hx, hb, hml, ho, hts⟩, hK, hr, hlk, hfr, hlo, hStr⟩ := X
  intro H locs ls hP hS hl
  obtain ⟨C, T, N, hc, hw, hj, hl0⟩ := hf
  obtain ⟨C2, T2, N2, ty, hc2, hty, hnm⟩ := hcl
  obtain ⟨C3, T3, N3, hc3, hfin, hpd⟩ := hpl
  rw [hc] at hc2 hc3
  cases hc2
  cases hc3
  refine va_put hx hb hts hw ty hty hnm ho hK hP gWs_D hS r (gWs_at he) hc j hj (hts _ hl0) (fun _ h9 => h9) hfin hpd rfl rfl (by rw [gFs_len]; exact (List.getElem?_eq_some_iff.mp hj2).1) hdg (fun H1 locs1 hP1 hD1 hS1 => ?_)
  have hset : (gWs B cA sk u).set r (B + r, .inr (ci, (gFs B r u 0 cs).set j (.int x))) = gWs B cA sk (upI u r j x) := by
    rw [upI_row]
    refine gWs_set he off_RI ?_
    rw [gFs_setI cs 0 j hj2, Nat.zero_add]
    rfl
  rw [hset] at hP1
  exact k H1 locs1 ls hP1 hS1 hl
theorem g_putJ (X : gX κ B sk cc nL own ret fr lo) {idx ci j r : Nat} {cs : List Nat} {x : Int64} (hf : gFL own idx ci j) (hcl : gCl ci) (hpl : gPL ci j .long) (he : sk[r]? = some (.inl (ci, cs))) (hj2 : cs[j]? = some 1) (hdg : decode cc pc = .ok (.putfield idx, 3)) (k : gV κ B sk nL res (pc + 3) lv st (upJ u r j x)) : gV κ B sk nL res pc lv (.long x :: .ref (B + r) :: st) u := by
  obtain ⟨p, l, e, R, s, m, args, below, meth, c, D, cA, adK, adV⟩ := κ
  obtain ⟨⟨hx, hb, hml, ho, hts⟩, hK, hr, hlk, hfr, hlo, hStr⟩ := X
  intro H locs ls hP hS hl
  obtain ⟨C, T, N, hc, hw, hj, hl0⟩ := hf
  obtain ⟨C2, T2, N2, ty, hc2, hty, hnm⟩ := hcl
  obtain ⟨C3, T3, N3, hc3, hfin, hpd⟩ := hpl
  rw [hc] at hc2 hc3
  cases hc2
  cases hc3
  refine va_put hx hb hts hw ty hty hnm ho hK hP gWs_D hS r (gWs_at he) hc j hj (hts _ hl0) (fun _ h9 => h9) hfin hpd rfl rfl (by rw [gFs_len]; exact (List.getElem?_eq_some_iff.mp hj2).1) hdg (fun H1 locs1 hP1 hD1 hS1 => ?_)
  have hset : (gWs B cA sk u).set r (B + r, .inr (ci, (gFs B r u 0 cs).set j (.long x))) = gWs B cA sk (upJ u r j x) := by
    rw [upJ_row]
    refine gWs_set he off_RJ ?_
    rw [gFs_setJ cs 0 j hj2, Nat.zero_add]
    rfl
  rw [hset] at hP1
  exact k H1 locs1 ls hP1 hS1 hl
theorem aI_of {r : Nat} {i v : Int32} (h : aI sk u r i = some v) : ∃ n rs, sk[r]? = some (.inr (0, n, rs)) ∧ vp_in i n ∧ v = u.1 r i.toNatClampNeg := by
  unfold aI at h
  split at h
  · next n rs he => obtain ⟨h1, h2⟩ := ite_no h; exact ⟨n, rs, he, h1, (Option.some.inj h2).symm⟩
  · cases h
theorem aJ_of {r : Nat} {i : Int32} {v : Int64} (h : aJ sk u r i = some v) : ∃ n rs, sk[r]? = some (.inr (1, n, rs)) ∧ vp_in i n ∧ v = u.2 r i.toNatClampNeg := by
  unfold aJ at h
  split at h
  · next n rs he => obtain ⟨h1, h2⟩ := ite_no h; exact ⟨n, rs, he, h1, (Option.some.inj h2).symm⟩
  · cases h
theorem aB_of {r : Nat} {i v : Int32} (h : aB sk u r i = some v) : ∃ n rs, sk[r]? = some (.inr (2, n, rs)) ∧ vp_in i n ∧ v = u.1 r i.toNatClampNeg := by
  unfold aB at h
  split at h
  · next n rs he => obtain ⟨h1, h2⟩ := ite_no h; exact ⟨n, rs, he, h1, (Option.some.inj h2).symm⟩
  · cases h
theorem aR_of {r : Nat} {i : Int32} {v : Nat} (h : aR sk r i = some v) : ∃ n rs, sk[r]? = some (.inr (3, n, rs)) ∧ vp_in i n ∧ rs[i.toNatClampNeg]? = some (v + 3) := by
  unfold aR at h
  split at h
  · next n rs he =>
    obtain ⟨h1, h2⟩ := ite_no h
    refine ⟨n, rs, he, h1, ?_⟩
    split at h2
    · next r2 hr => cases h2; exact hr
    · cases h2
  · cases h
theorem aL_of {r : Nat} {v : Int32} (h : aL sk r = some v) : ∃ t n rs, sk[r]? = some (.inr (t, n, rs)) ∧ v = Int32.ofNat n := by
  unfold aL at h
  split at h
  · next t n rs he => exact ⟨t, n, rs, he, (Option.some.inj h).symm⟩
  · cases h
theorem sI_of {r : Nat} {i v : Int32} {u2 : gM} (h : sI sk u r i v = some u2) : ∃ n rs, sk[r]? = some (.inr (0, n, rs)) ∧ vp_in i n ∧ u2 = upI u r i.toNatClampNeg v := by
  unfold sI at h
  split at h
  · next n rs he => obtain ⟨h1, h2⟩ := ite_no h; exact ⟨n, rs, he, h1, (Option.some.inj h2).symm⟩
  · cases h
theorem sJ_of {r : Nat} {i : Int32} {v : Int64} {u2 : gM} (h : sJ sk u r i v = some u2) : ∃ n rs, sk[r]? = some (.inr (1, n, rs)) ∧ vp_in i n ∧ u2 = upJ u r i.toNatClampNeg v := by
  unfold sJ at h
  split at h
  · next n rs he => obtain ⟨h1, h2⟩ := ite_no h; exact ⟨n, rs, he, h1, (Option.some.inj h2).symm⟩
  · cases h
theorem sB_of {r : Nat} {i v : Int32} {u2 : gM} (h : sB sk u r i v = some u2) : ∃ n rs, sk[r]? = some (.inr (2, n, rs)) ∧ vp_in i n ∧ u2 = upI u r i.toNatClampNeg v.toInt8.toInt32 := by
  unfold sB at h
  split at h
  · next n rs he => obtain ⟨h1, h2⟩ := ite_no h; exact ⟨n, rs, he, h1, (Option.some.inj h2).symm⟩
  · cases h
theorem cpI_of {r0 r1 : Nat} {sp dp n : Int32} {u2 : gM} (h : cpI sk u r0 sp r1 dp n = some u2) : ∃ n0 n1 rs0 rs1, sk[r0]? = some (.inr (0, n0, rs0)) ∧ sk[r1]? = some (.inr (0, n1, rs1)) ∧ (¬ sp < 0 ∧ ¬ dp < 0 ∧ ¬ n < 0 ∧ sp.toNatClampNeg + n.toNatClampNeg ≤ n0 ∧ dp.toNatClampNeg + n.toNatClampNeg ≤ n1) ∧ u2 = upRI u r1 (va_cpy (u.1 r0) (u.1 r1) sp.toNatClampNeg dp.toNatClampNeg n.toNatClampNeg) := by
  unfold cpI at h
  split at h
  · next n0 rs0 n1 rs1 h0 h1 =>
    obtain ⟨h2, h3⟩ := ite_no h
    simp only [not_or, Nat.not_lt] at h2
    exact ⟨n0, n1, rs0, rs1, h0, h1, h2, (Option.some.inj h3).symm⟩
  · cases h
theorem cpJ_of {r0 r1 : Nat} {sp dp n : Int32} {u2 : gM} (h : cpJ sk u r0 sp r1 dp n = some u2) : ∃ n0 n1 rs0 rs1, sk[r0]? = some (.inr (1, n0, rs0)) ∧ sk[r1]? = some (.inr (1, n1, rs1)) ∧ (¬ sp < 0 ∧ ¬ dp < 0 ∧ ¬ n < 0 ∧ sp.toNatClampNeg + n.toNatClampNeg ≤ n0 ∧ dp.toNatClampNeg + n.toNatClampNeg ≤ n1) ∧ u2 = upRJ u r1 (va_cpy (u.2 r0) (u.2 r1) sp.toNatClampNeg dp.toNatClampNeg n.toNatClampNeg) := by
  unfold cpJ at h
  split at h
  · next n0 rs0 n1 rs1 h0 h1 =>
    obtain ⟨h2, h3⟩ := ite_no h
    simp only [not_or, Nat.not_lt] at h2
    exact ⟨n0, n1, rs0, rs1, h0, h1, h2, (Option.some.inj h3).symm⟩
  · cases h
theorem g_iaload (X : gX κ B sk cc nL own ret fr lo) {r : Nat} {i : Int32} {v : Int32} (h : aI sk u r i = some v) (hdg : decode cc pc = .ok (.iaload, 1)) (k : gV κ B sk nL res (pc + 1) lv (.int v :: st) u) : gV κ B sk nL res pc lv (.int i :: .ref (B + r) :: st) u := by
  obtain ⟨p, l, e, R, s, m, args, below, meth, c, D, cA, adK, adV⟩ := κ
  obtain ⟨⟨hx, hb, hml, ho, hts⟩, hK, hr, hlk, hfr, hlo, hStr⟩ := X
  intro H locs ls hP hS hl
  obtain ⟨n, rs, he, hin, rfl⟩ := aI_of h
  exact va_iald hx hb hK hP r 0 (gWs_at he) rfl hin hdg (k H locs ls hP hS hl)
theorem g_laload (X : gX κ B sk cc nL own ret fr lo) {r : Nat} {i : Int32} {v : Int64} (h : aJ sk u r i = some v) (hdg : decode cc pc = .ok (.laload, 1)) (k : gV κ B sk nL res (pc + 1) lv (.long v :: st) u) : gV κ B sk nL res pc lv (.int i :: .ref (B + r) :: st) u := by
  obtain ⟨p, l, e, R, s, m, args, below, meth, c, D, cA, adK, adV⟩ := κ
  obtain ⟨⟨hx, hb, hml, ho, hts⟩, hK, hr, hlk, hfr, hlo, hStr⟩ := X
  intro H locs ls hP hS hl
  obtain ⟨n, rs, he, hin, rfl⟩ := aJ_of h
  exact va_lald hx hb hK hP r 1 (gWs_at he) rfl hin hdg (k H locs ls hP hS hl)
theorem g_baload (X : gX κ B sk cc nL own ret fr lo) {r : Nat} {i : Int32} {v : Int32} (h : aB sk u r i = some v) (hdg : decode cc pc = .ok (.baload, 1)) (k : gV κ B sk nL res (pc + 1) lv (.int v :: st) u) : gV κ B sk nL res pc lv (.int i :: .ref (B + r) :: st) u := by
  obtain ⟨p, l, e, R, s, m, args, below, meth, c, D, cA, adK, adV⟩ := κ
  obtain ⟨⟨hx, hb, hml, ho, hts⟩, hK, hr, hlk, hfr, hlo, hStr⟩ := X
  intro H locs ls hP hS hl
  obtain ⟨n, rs, he, hin, rfl⟩ := aB_of h
  exact va_bald hx hb hK hP r 2 (gWs_at he) rfl hin hdg (k H locs ls hP hS hl)
theorem g_aaload (X : gX κ B sk cc nL own ret fr lo) {r v : Nat} {i : Int32} (h : aR sk r i = some v) (hdg : decode cc pc = .ok (.aaload, 1)) (k : gV κ B sk nL res (pc + 1) lv (.ref (B + v) :: st) u) : gV κ B sk nL res pc lv (.int i :: .ref (B + r) :: st) u := by
  obtain ⟨p, l, e, R, s, m, args, below, meth, c, D, cA, adK, adV⟩ := κ
  obtain ⟨⟨hx, hb, hml, ho, hts⟩, hK, hr, hlk, hfr, hlo, hStr⟩ := X
  intro H locs ls hP hS hl
  obtain ⟨n, rs, he, hin, hv⟩ := aR_of h
  have h1 : va_rf (gQr B rs i.toNatClampNeg) = .ref (B + v) := by simp [gQr, hv, va_rf]
  refine va_aldq hx hb hK hP r 3 (gWs_at he) rfl hin hdg ?_
  rw [h1]
  exact k H locs ls hP hS hl
theorem g_alen (X : gX κ B sk cc nL own ret fr lo) {r : Nat} {v : Int32} (h : aL sk r = some v) (hdg : decode cc pc = .ok (.arraylength, 1)) (ht : ∀ t n rs, sk[r]? = some (.inr (t, n, rs)) → t < 4) (k : gV κ B sk nL res (pc + 1) lv (.int v :: st) u) : gV κ B sk nL res pc lv (.ref (B + r) :: st) u := by
  obtain ⟨p, l, e, R, s, m, args, below, meth, c, D, cA, adK, adV⟩ := κ
  obtain ⟨⟨hx, hb, hml, ho, hts⟩, hK, hr, hlk, hfr, hlo, hStr⟩ := X
  intro H locs ls hP hS hl
  obtain ⟨t, n, rs, he, rfl⟩ := aL_of h
  have ht4 := ht t n rs he
  match t, ht4, he with
  | 0, _, he => exact va_alen hx hb hK hP r 0 (gWs_at he) rfl rfl hdg (k H locs ls hP hS hl)
  | 1, _, he => exact va_alen hx hb hK hP r 1 (gWs_at he) rfl rfl hdg (k H locs ls hP hS hl)
  | 2, _, he => exact va_alen hx hb hK hP r 2 (gWs_at he) rfl rfl hdg (k H locs ls hP hS hl)
  | 3, _, he => exact va_alen hx hb hK hP r 3 (gWs_at he) rfl rfl hdg (k H locs ls hP hS hl)
theorem g_iastore (X : gX κ B sk cc nL own ret fr lo) {r : Nat} {i : Int32} {v : Int32} {u2 : gM} (h : sI sk u r i v = some u2) (hdg : decode cc pc = .ok (.iastore, 1)) (k : gV κ B sk nL res (pc + 1) lv st u2) : gV κ B sk nL res pc lv (.int v :: .int i :: .ref (B + r) :: st) u := by
  obtain ⟨p, l, e, R, s, m, args, below, meth, c, D, cA, adK, adV⟩ := κ
  obtain ⟨⟨hx, hb, hml, ho, hts⟩, hK, hr, hlk, hfr, hlo, hStr⟩ := X
  intro H locs ls hP hS hl
  obtain ⟨n, rs, he, hin, rfl⟩ := sI_of h
  refine va_iast hx hb hK hP gWs_D hS r 0 (gWs_at he) rfl hin hdg (fun H1 locs1 hP1 hD1 hS1 => k H1 locs1 ls ?_ hS1 hl)
  rw [upI_row]
  rw [gWs_set he off_RI] at hP1
  · exact hP1
  · simp [gC, gA0, upRI, upRJ, vp_nar, narrow]
theorem g_lastore (X : gX κ B sk cc nL own ret fr lo) {r : Nat} {i : Int32} {v : Int64} {u2 : gM} (h : sJ sk u r i v = some u2) (hdg : decode cc pc = .ok (.lastore, 1)) (k : gV κ B sk nL res (pc + 1) lv st u2) : gV κ B sk nL res pc lv (.long v :: .int i :: .ref (B + r) :: st) u := by
  obtain ⟨p, l, e, R, s, m, args, below, meth, c, D, cA, adK, adV⟩ := κ
  obtain ⟨⟨hx, hb, hml, ho, hts⟩, hK, hr, hlk, hfr, hlo, hStr⟩ := X
  intro H locs ls hP hS hl
  obtain ⟨n, rs, he, hin, rfl⟩ := sJ_of h
  refine va_last hx hb hK hP gWs_D hS r 1 (gWs_at he) rfl hin hdg (fun H1 locs1 hP1 hD1 hS1 => k H1 locs1 ls ?_ hS1 hl)
  rw [upJ_row]
  rw [gWs_set he off_RJ] at hP1
  · exact hP1
  · simp [gC, gA0, upRI, upRJ, vp_nar, narrow]
theorem g_bastore (X : gX κ B sk cc nL own ret fr lo) {r : Nat} {i : Int32} {v : Int32} {u2 : gM} (h : sB sk u r i v = some u2) (hdg : decode cc pc = .ok (.bastore, 1)) (k : gV κ B sk nL res (pc + 1) lv st u2) : gV κ B sk nL res pc lv (.int v :: .int i :: .ref (B + r) :: st) u := by
  obtain ⟨p, l, e, R, s, m, args, below, meth, c, D, cA, adK, adV⟩ := κ
  obtain ⟨⟨hx, hb, hml, ho, hts⟩, hK, hr, hlk, hfr, hlo, hStr⟩ := X
  intro H locs ls hP hS hl
  obtain ⟨n, rs, he, hin, rfl⟩ := sB_of h
  refine va_bast hx hb hK hP gWs_D hS r 2 (gWs_at he) rfl hin hdg (fun H1 locs1 hP1 hD1 hS1 => k H1 locs1 ls ?_ hS1 hl)
  rw [upI_row]
  rw [gWs_set he off_RI] at hP1
  · exact hP1
  · simp [gC, gA0, upRI, upRJ, vp_nar, narrow]
theorem g_copyI (X : gX κ B sk cc nL own ret fr lo) {idx r0 r1 : Nat} {sp dp n : Int32} {u2 : gM} (hw : Cond.methodLink own idx arraycopyName ∈ tb) (h : cpI sk u r0 sp r1 dp n = some u2) (hq : 1 ≤ fr ∧ (st.map fun v => v.category).sum + (nativeFrameWords "java/lang/System" "arraycopy" 5 + 11) ≤ lo) (hdg : decode cc pc = .ok (.invokestatic idx, 3)) (k : gV κ B sk nL res (pc + 3) lv st u2) : gV κ B sk nL res pc lv (.int n :: .int dp :: .ref (B + r1) :: .int sp :: .ref (B + r0) :: st) u := by
  obtain ⟨p, l, e, R, s, m, args, below, meth, c, D, cA, adK, adV⟩ := κ
  obtain ⟨⟨hx, hb, hml, ho, hts⟩, hK, hr, hlk, hfr, hlo, hStr⟩ := X
  intro H locs ls hP hS hl
  obtain ⟨n0, n1, rs0, rs1, he0, he1, ⟨q1, q2, q3, q4, q5⟩, rfl⟩ := cpI_of h
  refine va_copyi hx hb (hml.trans hl.1.symm) ho (hts _ hw) (hts _ w_acn) (hts _ w_acs) (hts _ w_aci) hK hP gWs_D hS r0 r1 0 0 (gWs_at he0) (gWs_at he1) rfl rfl (by first | rfl | decide) q1 q2 q3 q4 q5 (fun _ _ => rfl) (by rw [hfr]; exact hq.1) (by rw [hlo]; exact hq.2) hdg (fun H1 locs1 hP1 hD1 hS1 => k H1 locs1 ls ?_ hS1 hl)
  rw [gWs_set he1 off_RI] at hP1
  · exact hP1
  · simp [gC, gA0, upRI]
theorem g_copyJ (X : gX κ B sk cc nL own ret fr lo) {idx r0 r1 : Nat} {sp dp n : Int32} {u2 : gM} (hw : Cond.methodLink own idx arraycopyName ∈ tb) (h : cpJ sk u r0 sp r1 dp n = some u2) (hq : 1 ≤ fr ∧ (st.map fun v => v.category).sum + (nativeFrameWords "java/lang/System" "arraycopy" 5 + 11) ≤ lo) (hdg : decode cc pc = .ok (.invokestatic idx, 3)) (k : gV κ B sk nL res (pc + 3) lv st u2) : gV κ B sk nL res pc lv (.int n :: .int dp :: .ref (B + r1) :: .int sp :: .ref (B + r0) :: st) u := by
  obtain ⟨p, l, e, R, s, m, args, below, meth, c, D, cA, adK, adV⟩ := κ
  obtain ⟨⟨hx, hb, hml, ho, hts⟩, hK, hr, hlk, hfr, hlo, hStr⟩ := X
  intro H locs ls hP hS hl
  obtain ⟨n0, n1, rs0, rs1, he0, he1, ⟨q1, q2, q3, q4, q5⟩, rfl⟩ := cpJ_of h
  refine va_copyl hx hb (hml.trans hl.1.symm) ho (hts _ hw) (hts _ w_acn) (hts _ w_acs) (hts _ w_aci) hK hP gWs_D hS r0 r1 1 1 (gWs_at he0) (gWs_at he1) rfl rfl (by first | rfl | decide) q1 q2 q3 q4 q5 (fun _ _ => rfl) (by rw [hfr]; exact hq.1) (by rw [hlo]; exact hq.2) hdg (fun H1 locs1 hP1 hD1 hS1 => k H1 locs1 ls ?_ hS1 hl)
  rw [gWs_set he1 off_RJ] at hP1
  · exact hP1
  · simp [gC, gA0, upRJ]
theorem g_maxI (X : gX κ B sk cc nL own ret fr lo) {idx : Nat} {x y : Int32} (hw : Cond.methodLink own idx Lib.Math.max.name ∈ tb) (hq : 1 ≤ fr ∧ (st.map fun v => v.category).sum + 13 ≤ lo) (hdg : decode cc pc = .ok (.invokestatic idx, 3)) (k : gV κ B sk nL res (pc + 3) lv (.int (mxI x y) :: st) u) : gV κ B sk nL res pc lv (.int y :: .int x :: st) u := by
  obtain ⟨p, l, e, R, s, m, args, below, meth, c, D, cA, adK, adV⟩ := κ
  obtain ⟨⟨hx, hb, hml, ho, hts⟩, hK, hr, hlk, hfr, hlo, hStr⟩ := X
  intro H locs ls hP hS hl
  exact va_mmax hx hb (hml.trans hl.1.symm) ho (hts _ hw) (hts _ w_maxI_s) (hts _ w_math) (hts _ w_maxI_c) (by rw [hfr]; exact hq.1) (by rw [hlo]; exact hq.2) (Nat.zero_le _) (Nat.zero_le _) hdg (k H locs ls hP hS hl)
theorem g_minI (X : gX κ B sk cc nL own ret fr lo) {idx : Nat} {x y : Int32} (hw : Cond.methodLink own idx Lib.Math.min.name ∈ tb) (hq : 1 ≤ fr ∧ (st.map fun v => v.category).sum + 13 ≤ lo) (hdg : decode cc pc = .ok (.invokestatic idx, 3)) (k : gV κ B sk nL res (pc + 3) lv (.int (mnI x y) :: st) u) : gV κ B sk nL res pc lv (.int y :: .int x :: st) u := by
  obtain ⟨p, l, e, R, s, m, args, below, meth, c, D, cA, adK, adV⟩ := κ
  obtain ⟨⟨hx, hb, hml, ho, hts⟩, hK, hr, hlk, hfr, hlo, hStr⟩ := X
  intro H locs ls hP hS hl
  exact va_mmin hx hb (hml.trans hl.1.symm) ho (hts _ hw) (hts _ w_minI_s) (hts _ w_math) (hts _ w_minI_c) (by rw [hfr]; exact hq.1) (by rw [hlo]; exact hq.2) (Nat.zero_le _) (Nat.zero_le _) hdg (k H locs ls hP hS hl)
theorem g_maxJ (X : gX κ B sk cc nL own ret fr lo) {idx : Nat} {x y : Int64} (hw : Cond.methodLink own idx Lib.MathLoose.max_long.x ∈ tb) (hq : 1 ≤ fr ∧ (st.map fun v => v.category).sum + 15 ≤ lo) (hdg : decode cc pc = .ok (.invokestatic idx, 3)) (k : gV κ B sk nL res (pc + 3) lv (.long (mxJ x y) :: st) u) : gV κ B sk nL res pc lv (.long y :: .long x :: st) u := by
  obtain ⟨p, l, e, R, s, m, args, below, meth, c, D, cA, adK, adV⟩ := κ
  obtain ⟨⟨hx, hb, hml, ho, hts⟩, hK, hr, hlk, hfr, hlo, hStr⟩ := X
  intro H locs ls hP hS hl
  exact va_mmax_long hx hb (hml.trans hl.1.symm) ho (hts _ hw) (hts _ w_maxJ_s) (hts _ w_math) (hts _ w_maxJ_c) (by rw [hfr]; exact hq.1) (by rw [hlo]; exact hq.2) (Nat.zero_le _) (Nat.zero_le _) hdg (k H locs ls hP hS hl)
theorem g_minJ (X : gX κ B sk cc nL own ret fr lo) {idx : Nat} {x y : Int64} (hw : Cond.methodLink own idx Lib.MathLoose.min_long.x ∈ tb) (hq : 1 ≤ fr ∧ (st.map fun v => v.category).sum + 15 ≤ lo) (hdg : decode cc pc = .ok (.invokestatic idx, 3)) (k : gV κ B sk nL res (pc + 3) lv (.long (mnJ x y) :: st) u) : gV κ B sk nL res pc lv (.long y :: .long x :: st) u := by
  obtain ⟨p, l, e, R, s, m, args, below, meth, c, D, cA, adK, adV⟩ := κ
  obtain ⟨⟨hx, hb, hml, ho, hts⟩, hK, hr, hlk, hfr, hlo, hStr⟩ := X
  intro H locs ls hP hS hl
  exact va_mmin_long hx hb (hml.trans hl.1.symm) ho (hts _ hw) (hts _ w_minJ_s) (hts _ w_math) (hts _ w_minJ_c) (by rw [hfr]; exact hq.1) (by rw [hlo]; exact hq.2) (Nat.zero_le _) (Nat.zero_le _) hdg (k H locs ls hP hS hl)
theorem g_iret {v : Int32} (X : gX κ B sk cc nL own (some .int) fr lo) (hdg : decode cc pc = .ok (.ireturn, 1)) : gV κ B sk nL (some (.int v), u) pc lv [.int v] u := by
  obtain ⟨p, l, e, R, s, m, args, below, meth, c, D, cA, adK, adV⟩ := κ
  obtain ⟨⟨hx, hb, hml, ho, hts⟩, hK, hr, hlk, hfr, hlo, hStr⟩ := X
  intro H locs ls hP hS hl
  exact W.iret hx hb hr (fun t ht hW => ⟨⟨rfl, by rw [ht]; exact hP⟩, hS.F ht⟩) hS.2.2 hdg hlk
theorem g_zret {v : Int32} (X : gX κ B sk cc nL own (some .boolean) fr lo) (hv : v = 0 ∨ v = 1) (hdg : decode cc pc = .ok (.ireturn, 1)) : gV κ B sk nL (some (.int v), u) pc lv [.int v] u := by
  obtain ⟨p, l, e, R, s, m, args, below, meth, c, D, cA, adK, adV⟩ := κ
  obtain ⟨⟨hx, hb, hml, ho, hts⟩, hK, hr, hlk, hfr, hlo, hStr⟩ := X
  intro H locs ls hP hS hl
  exact W.zret hx hb hr (by rcases hv with rfl | rfl <;> decide) (fun t ht hW => ⟨⟨rfl, by rw [ht]; exact hP⟩, hS.F ht⟩) hS.2.2 hdg hlk
theorem g_lret {v : Int64} (X : gX κ B sk cc nL own (some .long) fr lo) (hdg : decode cc pc = .ok (.lreturn, 1)) : gV κ B sk nL (some (.long v), u) pc lv [.long v] u := by
  obtain ⟨p, l, e, R, s, m, args, below, meth, c, D, cA, adK, adV⟩ := κ
  obtain ⟨⟨hx, hb, hml, ho, hts⟩, hK, hr, hlk, hfr, hlo, hStr⟩ := X
  intro H locs ls hP hS hl
  exact W.lret hx hb hr (fun t ht hW => ⟨⟨rfl, by rw [ht]; exact hP⟩, hS.F ht⟩) hS.2.2 hdg hlk
theorem g_vret (X : gX κ B sk cc nL own none fr lo) (hdg : decode cc pc = .ok (.return_, 1)) : gV κ B sk nL (none, u) pc lv [] u := by
  obtain ⟨p, l, e, R, s, m, args, below, meth, c, D, cA, adK, adV⟩ := κ
  obtain ⟨⟨hx, hb, hml, ho, hts⟩, hK, hr, hlk, hfr, hlo, hStr⟩ := X
  intro H locs ls hP hS hl
  exact W.vret hx hb hr (fun t ht hW => ⟨⟨rfl, by rw [ht]; exact hP⟩, hS.F ht⟩) hS.2.2 hdg hlk
theorem g_aret {r : Nat} {rt : FieldType} (X : gX κ B sk cc nL own (some rt) fr lo) (hrt : (∃ n, rt = .object n) ∨ ∃ t, rt = .array t) (hdg : decode cc pc = .ok (.areturn, 1)) : gV κ B sk nL (some (.ref (B + r)), u) pc lv [.ref (B + r)] u := by
  obtain ⟨p, l, e, R, s, m, args, below, meth, c, D, cA, adK, adV⟩ := κ
  obtain ⟨⟨hx, hb, hml, ho, hts⟩, hK, hr, hlk, hfr, hlo, hStr⟩ := X
  intro H locs ls hP hS hl
  exact W.aret hx hb hr hrt (Or.inr ⟨_, rfl⟩) (fun t ht hW => ⟨⟨rfl, by rw [ht]; exact hP⟩, hS.F ht⟩) hS.2.2 hdg hlk
theorem g_blind {D : va_G} {cA : Nat → ClassId} {adK adV : Nat → Nat} {As : List Value} : FrameBlind (va_Pc As (fun U => va_P D vwCl (gWs B cA sk u) U.heap ∧ va_K D vwCl (gTy cA) U ∧ gStr adK adV B sk.length U)) := fun a U g mk q => by
  obtain ⟨q0, qP, qK, qS⟩ := q
  exact ⟨q0, qP, va_K.moved (u := U) (U := U.calling g mk a) (Vm.Alike.refl U.vm) qK, vk_S.moved (u := U) (U := U.calling g mk a) (Vm.Alike.refl U.vm) qS.1, fun i q hq => vk_R.same (u := U) rfl (qS.2.1 i q hq), qS.2.2.1, va_Z.moved (u := U) (U := U.calling g mk a) (Vm.Alike.refl U.vm) qS.2.2.2.1, va_Zq.moved (u := U) (U := U.calling g mk a) (Vm.Alike.refl U.vm) qS.2.2.2.2⟩
theorem g_strM {adK adV : Nat → Nat} {n : Nat} {s U : State} {H : Heap} {locs : List Loc} (h : gStr adK adV B n s) (hS : va_S (gAr B n) s.heap H locs) (hU : U.heap = H) (hW : s.WarmedH U.vm) : gStr adK adV B n U := by
  refine ⟨?_, fun i q hq => vk_R.warm hW (h.2.1 i q hq), h.2.2.1, ?_, ?_⟩
  · rw [hU]; exact vk_S.moved hW.alike (h.1.kept hS.2.1)
  · rw [hU]; exact va_Z.moved hW.alike (h.2.2.2.1.kept hS.2.1)
  · rw [hU]; exact va_Zq.moved hW.alike (h.2.2.2.2.kept hS.2.1)
theorem g_run {p : Program} {l : Launch} {e : Env} {R : Room} {s : State} {m : MethodId} {args : Array Value} {below : List Frame} {meth : Method} {c : Code} {H : Heap} {locs : List Loc} {Q : State → Prop} {ls : Array Slot} {st0 rest : List Value} {a : Array Value} {D : va_G} {cA : Nat → ClassId} {n : Nat} {ov : Option Value} {u2 : gM} {cells slots : Nat} (hn : n = sk.length) {A0 : Nat → Prop} {H0 : Heap}
    (hr : va_Run p l e R s m args below meth c H locs cells slots 0 0 (F0 m pc ls st0) rest (gPost D cA B sk (ov, u2) a) (gAr B n)) (hS : va_S A0 H0 H locs) (hA : ∀ q, gAr B sk.length q → A0 q)
    (kk : ∀ (H1 : Heap) (locs1 : List Loc), va_P D vwCl (gWs B cA sk u2) H1 → H.size ≤ H1.size → (∀ q : Nat, q < H.size → ¬ gAr B sk.length q → H1[q]? = H[q]?) → va_S A0 H0 H1 locs1 → W p l e R s m args below meth c H1 locs1 cells slots Q (F0 m (pc + 3) ls (ov.toList ++ rest))) : W p l e R s m args below meth c H locs cells slots Q (F0 m pc ls st0) := by
  subst hn
  intro T hT X
  obtain ⟨v, st₀, t, T', L, h0, X', hL, e1, e2, ⟨⟨hv, hp⟩, hz, hk⟩, st⟩ := hr T hT X
  cases hv
  rw [h0] at hz hk
  obtain ⟨t2, a1, b1⟩ := kk T'.heap (locs ++ L) (by rw [e1]; exact hp) (by rw [e1]; exact hz) (fun q h1 h2 => by rw [e1]; exact hk q h1 h2)
    ⟨Nat.le_trans hS.1 (by rw [e1]; exact hz), fun q h1 h2 => by rw [e1, hk q (Nat.lt_of_lt_of_le h1 hS.1) (fun z => h2 (hA q z))]; exact hS.2.1 q h1 h2, fun q hq => by
      rcases List.mem_append.mp hq with h | h
      · exact hS.2.2 q h
      · exact hA _ (hL q h)⟩ T' rfl X'
  exact ⟨t2, st t2 a1, b1⟩
theorem g_callV (X : gX κ B sk cc nL own ret fr lo) {y : MethodName} {cc2 : ByteArray} {nL2 fr2 lo2 n idx : Nat} {ret2 : Option FieldType} {ov : Nat → Option Value} {u2 : gM} {rest : List Value} {ci r : Nat} {cs : List Nat} (As : Nat → (Nat → Nat) → List Value) (hM : gMet sk y cc2 nL2 ret2 fr2 lo2 (fun B adK => .ref (B + r) :: As B adK) u (ov, u2)) (hw : gCV own idx ci n y cc2 nL2 ret2) (he : sk[r]? = some (.inl (ci, cs))) (hn : (As B (gAd κ)).length = n) (hst : st = (As B (gAd κ)).reverse ++ .ref (B + r) :: rest) (hc8 : (rest.map fun v => v.category).sum ≤ 8) (hq : fr2 + 1 ≤ fr ∧ 8 + (nL2 + 11) + lo2 ≤ lo) (hdg : decode cc pc = .ok (.invokevirtual idx, 3)) (k : gV κ B sk nL res (pc + 3) lv ((ov B).toList ++ rest) u2) : gV κ B sk nL res pc lv st u := by
  obtain ⟨p, l, e, R, s, m, args, below, meth, c, D, cA, adK, adV⟩ := κ
  obtain ⟨⟨hx, hb, hml, ho, hts⟩, hK, hr, hlk, hfr, hlo, hStr⟩ := X
  intro H locs ls hP hS hl
  obtain ⟨C, T, N, hc, hG, hd⟩ := hw
  refine g_run rfl (va_runV ⟨hx, hb, hml, ho, hts⟩ (hM l D cA adK adV B) (cwV n hts hG rfl rfl rfl hd ⟨by rw [hfr]; exact hq.1, by rw [hlo]; exact hq.2⟩) ⟨g_blind, va_recv hK hP hc (gWs_at he), fun U hU hW => ⟨rfl, by rw [hU]; exact hP, va_K.moved hW.alike hK, g_strM hStr hS hU hW⟩⟩ rfl hn hl.1 hst (lv_room hc8) hdg ⟨Nat.zero_le _, Nat.zero_le _⟩) hS (fun _ h => h) (fun H1 locs1 hP1 _ _ hS1 => k H1 locs1 ls hP1 hS1 hl)
theorem g_callS (X : gX κ B sk cc nL own ret fr lo) {y : MethodName} {cc2 : ByteArray} {nL2 fr2 lo2 n idx : Nat} {ret2 : Option FieldType} {ov : Nat → Option Value} {u2 : gM} {rest : List Value} (As : Nat → (Nat → Nat) → List Value) (hM : gMet sk y cc2 nL2 ret2 fr2 lo2 As u (ov, u2)) (hw : gCS own idx n y cc2 nL2 ret2) (hn : (As B (gAd κ)).length = n) (hst : st = (As B (gAd κ)).reverse ++ rest) (hc8 : (rest.map fun v => v.category).sum ≤ 8) (hq : fr2 + 1 ≤ fr ∧ 8 + (nL2 + 11) + lo2 ≤ lo) (hdg : decode cc pc = .ok (.invokestatic idx, 3)) (k : gV κ B sk nL res (pc + 3) lv ((ov B).toList ++ rest) u2) : gV κ B sk nL res pc lv st u := by
  obtain ⟨p, l, e, R, s, m, args, below, meth, c, D, cA, adK, adV⟩ := κ
  obtain ⟨⟨hx, hb, hml, ho, hts⟩, hK, hr, hlk, hfr, hlo, hStr⟩ := X
  intro H locs ls hP hS hl
  obtain ⟨hG, hd⟩ := hw
  refine g_run rfl (va_runS ⟨hx, hb, hml, ho, hts⟩ (hM l D cA adK adV B) (va_cwS n hts hG rfl rfl rfl hd ⟨by rw [hfr]; exact hq.1, by rw [hlo]; exact hq.2⟩) ⟨g_blind, fun U hU hW => ⟨rfl, by rw [hU]; exact hP, va_K.moved hW.alike hK, g_strM hStr hS hU hW⟩⟩ rfl hn hl.1 hst (lv_room hc8) hdg ⟨Nat.zero_le _, Nat.zero_le _⟩) hS (fun _ h => h) (fun H1 locs1 hP1 _ _ hS1 => k H1 locs1 ls hP1 hS1 hl)
theorem g_callVi (X : gX κ B sk cc nL own ret fr lo) {y : MethodName} {cc2 : ByteArray} {nL2 fr2 lo2 n idx : Nat} {ret2 : Option FieldType} {u2 : gM} {rest : List Value} {v : Int32} {ci r : Nat} {cs : List Nat} (As : Nat → (Nat → Nat) → List Value) (hM : gMet sk y cc2 nL2 ret2 fr2 lo2 (fun B adK => .ref (B + r) :: As B adK) u (fun _ => some (.int v), u2)) (hw : gCV own idx ci n y cc2 nL2 ret2) (he : sk[r]? = some (.inl (ci, cs))) (hn : (As B (gAd κ)).length = n) (hst : st = (As B (gAd κ)).reverse ++ .ref (B + r) :: rest) (hc8 : (rest.map fun v => v.category).sum ≤ 8) (hq : fr2 + 1 ≤ fr ∧ 8 + (nL2 + 11) + lo2 ≤ lo) (hdg : decode cc pc = .ok (.invokevirtual idx, 3)) (k : gV κ B sk nL res (pc + 3) lv (.int v :: rest) u2) : gV κ B sk nL res pc lv st u := g_callV X As hM hw he hn hst hc8 hq hdg k
theorem g_callVl (X : gX κ B sk cc nL own ret fr lo) {y : MethodName} {cc2 : ByteArray} {nL2 fr2 lo2 n idx : Nat} {ret2 : Option FieldType} {u2 : gM} {rest : List Value} {v : Int64} {ci r : Nat} {cs : List Nat} (As : Nat → (Nat → Nat) → List Value) (hM : gMet sk y cc2 nL2 ret2 fr2 lo2 (fun B adK => .ref (B + r) :: As B adK) u (fun _ => some (.long v), u2)) (hw : gCV own idx ci n y cc2 nL2 ret2) (he : sk[r]? = some (.inl (ci, cs))) (hn : (As B (gAd κ)).length = n) (hst : st = (As B (gAd κ)).reverse ++ .ref (B + r) :: rest) (hc8 : (rest.map fun v => v.category).sum ≤ 8) (hq : fr2 + 1 ≤ fr ∧ 8 + (nL2 + 11) + lo2 ≤ lo) (hdg : decode cc pc = .ok (.invokevirtual idx, 3)) (k : gV κ B sk nL res (pc + 3) lv (.long v :: rest) u2) : gV κ B sk nL res pc lv st u := g_callV X As hM hw he hn hst hc8 hq hdg k
theorem g_callVa (X : gX κ B sk cc nL own ret fr lo) {y : MethodName} {cc2 : ByteArray} {nL2 fr2 lo2 n idx : Nat} {ret2 : Option FieldType} {u2 : gM} {rest : List Value} {v : Nat} {ci r : Nat} {cs : List Nat} (As : Nat → (Nat → Nat) → List Value) (hM : gMet sk y cc2 nL2 ret2 fr2 lo2 (fun B adK => .ref (B + r) :: As B adK) u (fun B => some (.ref (B + v)), u2)) (hw : gCV own idx ci n y cc2 nL2 ret2) (he : sk[r]? = some (.inl (ci, cs))) (hn : (As B (gAd κ)).length = n) (hst : st = (As B (gAd κ)).reverse ++ .ref (B + r) :: rest) (hc8 : (rest.map fun v => v.category).sum ≤ 8) (hq : fr2 + 1 ≤ fr ∧ 8 + (nL2 + 11) + lo2 ≤ lo) (hdg : decode cc pc = .ok (.invokevirtual idx, 3)) (k : gV κ B sk nL res (pc + 3) lv (.ref (B + v) :: rest) u2) : gV κ B sk nL res pc lv st u := g_callV X As hM hw he hn hst hc8 hq hdg k
theorem g_callVv (X : gX κ B sk cc nL own ret fr lo) {y : MethodName} {cc2 : ByteArray} {nL2 fr2 lo2 n idx : Nat} {ret2 : Option FieldType} {u2 : gM} {rest : List Value}  {ci r : Nat} {cs : List Nat} (As : Nat → (Nat → Nat) → List Value) (hM : gMet sk y cc2 nL2 ret2 fr2 lo2 (fun B adK => .ref (B + r) :: As B adK) u (fun _ => none, u2)) (hw : gCV own idx ci n y cc2 nL2 ret2) (he : sk[r]? = some (.inl (ci, cs))) (hn : (As B (gAd κ)).length = n) (hst : st = (As B (gAd κ)).reverse ++ .ref (B + r) :: rest) (hc8 : (rest.map fun v => v.category).sum ≤ 8) (hq : fr2 + 1 ≤ fr ∧ 8 + (nL2 + 11) + lo2 ≤ lo) (hdg : decode cc pc = .ok (.invokevirtual idx, 3)) (k : gV κ B sk nL res (pc + 3) lv (rest) u2) : gV κ B sk nL res pc lv st u := g_callV X As hM hw he hn hst hc8 hq hdg k
theorem g_callSi (X : gX κ B sk cc nL own ret fr lo) {y : MethodName} {cc2 : ByteArray} {nL2 fr2 lo2 n idx : Nat} {ret2 : Option FieldType} {u2 : gM} {rest : List Value} {v : Int32} (As : Nat → (Nat → Nat) → List Value) (hM : gMet sk y cc2 nL2 ret2 fr2 lo2 As u (fun _ => some (.int v), u2)) (hw : gCS own idx n y cc2 nL2 ret2) (hn : (As B (gAd κ)).length = n) (hst : st = (As B (gAd κ)).reverse ++ rest) (hc8 : (rest.map fun v => v.category).sum ≤ 8) (hq : fr2 + 1 ≤ fr ∧ 8 + (nL2 + 11) + lo2 ≤ lo) (hdg : decode cc pc = .ok (.invokestatic idx, 3)) (k : gV κ B sk nL res (pc + 3) lv (.int v :: rest) u2) : gV κ B sk nL res pc lv st u := g_callS X As hM hw hn hst hc8 hq hdg k
theorem g_callSl (X : gX κ B sk cc nL own ret fr lo) {y : MethodName} {cc2 : ByteArray} {nL2 fr2 lo2 n idx : Nat} {ret2 : Option FieldType} {u2 : gM} {rest : List Value} {v : Int64} (As : Nat → (Nat → Nat) → List Value) (hM : gMet sk y cc2 nL2 ret2 fr2 lo2 As u (fun _ => some (.long v), u2)) (hw : gCS own idx n y cc2 nL2 ret2) (hn : (As B (gAd κ)).length = n) (hst : st = (As B (gAd κ)).reverse ++ rest) (hc8 : (rest.map fun v => v.category).sum ≤ 8) (hq : fr2 + 1 ≤ fr ∧ 8 + (nL2 + 11) + lo2 ≤ lo) (hdg : decode cc pc = .ok (.invokestatic idx, 3)) (k : gV κ B sk nL res (pc + 3) lv (.long v :: rest) u2) : gV κ B sk nL res pc lv st u := g_callS X As hM hw hn hst hc8 hq hdg k
theorem g_callSa (X : gX κ B sk cc nL own ret fr lo) {y : MethodName} {cc2 : ByteArray} {nL2 fr2 lo2 n idx : Nat} {ret2 : Option FieldType} {u2 : gM} {rest : List Value} {v : Nat} (As : Nat → (Nat → Nat) → List Value) (hM : gMet sk y cc2 nL2 ret2 fr2 lo2 As u (fun B => some (.ref (B + v)), u2)) (hw : gCS own idx n y cc2 nL2 ret2) (hn : (As B (gAd κ)).length = n) (hst : st = (As B (gAd κ)).reverse ++ rest) (hc8 : (rest.map fun v => v.category).sum ≤ 8) (hq : fr2 + 1 ≤ fr ∧ 8 + (nL2 + 11) + lo2 ≤ lo) (hdg : decode cc pc = .ok (.invokestatic idx, 3)) (k : gV κ B sk nL res (pc + 3) lv (.ref (B + v) :: rest) u2) : gV κ B sk nL res pc lv st u := g_callS X As hM hw hn hst hc8 hq hdg k
theorem g_callSv (X : gX κ B sk cc nL own ret fr lo) {y : MethodName} {cc2 : ByteArray} {nL2 fr2 lo2 n idx : Nat} {ret2 : Option FieldType} {u2 : gM} {rest : List Value}  (As : Nat → (Nat → Nat) → List Value) (hM : gMet sk y cc2 nL2 ret2 fr2 lo2 As u (fun _ => none, u2)) (hw : gCS own idx n y cc2 nL2 ret2) (hn : (As B (gAd κ)).length = n) (hst : st = (As B (gAd κ)).reverse ++ rest) (hc8 : (rest.map fun v => v.category).sum ≤ 8) (hq : fr2 + 1 ≤ fr ∧ 8 + (nL2 + 11) + lo2 ≤ lo) (hdg : decode cc pc = .ok (.invokestatic idx, 3)) (k : gV κ B sk nL res (pc + 3) lv (rest) u2) : gV κ B sk nL res pc lv st u := g_callS X As hM hw hn hst hc8 hq hdg k
theorem g_ldcS (X : gX κ B sk cc nL own ret fr lo) {idx i : Nat} {tx : String} {by2 : List Int32} (hq : gSt[i]? = some (own, idx, tx, by2)) (hdg : decode cc pc = .ok (.ldc idx, 2)) (k : gV κ B sk nL res (pc + 2) lv (.ref (gAd κ i) :: st) u) : gV κ B sk nL res pc lv st u := by
  obtain ⟨p, l, e, R, s, m, args, below, meth, c, D, cA, adK, adV⟩ := κ
  obtain ⟨⟨hx, hb, hml, ho, hts⟩, hK, hr, hlk, hfr, hlo, hStr⟩ := X
  intro H locs ls hP hS hl
  exact va_ldcS hx hb ho (hStr.2.1 i _ hq) hdg (k H locs ls hP hS hl)
theorem g_ldc_w (X : gX κ B sk cc nL own ret fr lo) {idx : Nat} {v : Int32} (hw : Cond.constant own idx v ∈ tb) (hdg : decode cc pc = .ok (.ldc_w idx, 3)) (k : gV κ B sk nL res (pc + 3) lv (.int v :: st) u) : gV κ B sk nL res pc lv st u := by
  obtain ⟨p, l, e, R, s, m, args, below, meth, c, D, cA, adK, adV⟩ := κ
  obtain ⟨⟨hx, hb, hml, ho, hts⟩, hK, hr, hlk, hfr, hlo, hStr⟩ := X
  intro H locs ls hP hS hl
  exact lv_ldcw hx hb ho (hts _ hw) hdg (k H locs ls hP hS hl)
theorem g_sVal (X : gX κ B sk cc nL own ret fr lo) {idx i : Nat} (hi : i < 22) (hw : Cond.fieldLink own idx "java/lang/String" "value" "[B" ∈ tb) (hdg : decode cc pc = .ok (.getfield idx, 3)) (k : gV κ B sk nL res (pc + 3) lv (.ref (gAd κ (100 + i)) :: st) u) : gV κ B sk nL res pc lv (.ref (gAd κ i) :: st) u := by
  obtain ⟨p, l, e, R, s, m, args, below, meth, c, D, cA, adK, adV⟩ := κ
  obtain ⟨⟨hx, hb, hml, ho, hts⟩, hK, hr, hlk, hfr, hlo, hStr⟩ := X
  intro H locs ls hP hS hl
  refine vk_getf hx hb (hStr.1.1 i hi).2.2.1 hS ho (hts _ hw) (fun _ h => h) hdg ?_
  rw [hStr.2.2.1 i]
  exact k H locs ls hP hS hl
theorem g_sCod (X : gX κ B sk cc nL own ret fr lo) {idx i : Nat} (hi : i < 22) (hw : Cond.fieldLink own idx "java/lang/String" "coder" "B" ∈ tb) (hdg : decode cc pc = .ok (.getfield idx, 3)) (k : gV κ B sk nL res (pc + 3) lv (.int 0 :: st) u) : gV κ B sk nL res pc lv (.ref (gAd κ i) :: st) u := by
  obtain ⟨p, l, e, R, s, m, args, below, meth, c, D, cA, adK, adV⟩ := κ
  obtain ⟨⟨hx, hb, hml, ho, hts⟩, hK, hr, hlk, hfr, hlo, hStr⟩ := X
  intro H locs ls hP hS hl
  exact vk_getf hx hb (hStr.1.1 i hi).2.1 hS ho (hts _ hw) (fun _ h => h) hdg (k H locs ls hP hS hl)
theorem g_sLen (X : gX κ B sk cc nL own ret fr lo) {i : Nat} {v : Int32} (hi : i < 22) (hv : Int32.ofNat (gLn.getD i 0) = v) (hdg : decode cc pc = .ok (.arraylength, 1)) (k : gV κ B sk nL res (pc + 1) lv (.int v :: st) u) : gV κ B sk nL res pc lv (.ref (gAd κ (100 + i)) :: st) u := by
  obtain ⟨p, l, e, R, s, m, args, below, meth, c, D, cA, adK, adV⟩ := κ
  obtain ⟨⟨hx, hb, hml, ho, hts⟩, hK, hr, hlk, hfr, hlo, hStr⟩ := X
  intro H locs ls hP hS hl
  refine va_tlen hx hb (ty := .byte) (f := fun j => .int ((gBy.getD i []).getD j 0)) (t := adK (100 + i)) ?_ hS hv hdg (k H locs ls hP hS hl)
  rw [← hStr.2.2.1 i]
  exact (hStr.1.1 i hi).2.2.2
theorem g_sByt (X : gX κ B sk cc nL own ret fr lo) {i : Nat} {j v : Int32} (hi : i < 22) (hin : vp_in j (gLn.getD i 0)) (hv : (gBy.getD i []).getD j.toNatClampNeg 0 = v) (hdg : decode cc pc = .ok (.baload, 1)) (k : gV κ B sk nL res (pc + 1) lv (.int v :: st) u) : gV κ B sk nL res pc lv (.int j :: .ref (gAd κ (100 + i)) :: st) u := by
  obtain ⟨p, l, e, R, s, m, args, below, meth, c, D, cA, adK, adV⟩ := κ
  obtain ⟨⟨hx, hb, hml, ho, hts⟩, hK, hr, hlk, hfr, hlo, hStr⟩ := X
  intro H locs ls hP hS hl
  refine va_tb hx hb (t := adK (100 + i)) (f := fun j => .int ((gBy.getD i []).getD j 0)) (N := gLn.getD i 0) ?_ hS hin (by rw [hv]) hdg (k H locs ls hP hS hl)
  rw [← hStr.2.2.1 i]
  exact (hStr.1.1 i hi).2.2.2
theorem g_sCmp (X : gX κ B sk cc nL own ret fr lo) {idx : Nat} (hw : Cond.fieldLink own idx "java/lang/String" "COMPACT_STRINGS" "Z" ∈ tb) (hdg : decode cc pc = .ok (.getstatic idx, 3)) (k : gV κ B sk nL res (pc + 3) lv (.int 1 :: st) u) : gV κ B sk nL res pc lv st u := by
  obtain ⟨p, l, e, R, s, m, args, below, meth, c, D, cA, adK, adV⟩ := κ
  obtain ⟨⟨hx, hb, hml, ho, hts⟩, hK, hr, hlk, hfr, hlo, hStr⟩ := X
  intro H locs ls hP hS hl
  exact va_gets hx hb hStr.2.2.2.1 hS ho (hts _ hw) (fun _ h => h) hdg (k H locs ls hP hS hl)
theorem g_sFmt (X : gX κ B sk cc nL own ret fr lo) {idx : Nat} (hw : Cond.fieldLink own idx "jdk/internal/util/Preconditions" "SIOOBE_FORMATTER" "Ljava/util/function/BiFunction;" ∈ tb) (hdg : decode cc pc = .ok (.getstatic idx, 3)) (k1 : gV κ B sk nL res (pc + 3) lv (.null :: st) u) (k2 : ∀ t : Nat, gV κ B sk nL res (pc + 3) lv (.ref t :: st) u) : gV κ B sk nL res pc lv st u := by
  obtain ⟨p, l, e, R, s, m, args, below, meth, c, D, cA, adK, adV⟩ := κ
  obtain ⟨⟨hx, hb, hml, ho, hts⟩, hK, hr, hlk, hfr, hlo, hStr⟩ := X
  intro H locs ls hP hS hl
  rcases hStr.2.2.2.2 with h | ⟨t, h⟩
  · exact va_gets hx hb h hS ho (hts _ hw) (fun _ h => h) hdg (k1 H locs ls hP hS hl)
  · exact va_gets hx hb h hS ho (hts _ hw) (fun _ h => h) hdg (k2 t H locs ls hP hS hl)
theorem g_i2c (X : gX κ B sk cc nL own ret fr lo) {x : Int32} (hdg : decode cc pc = .ok (.i2c, 1)) (k : gV κ B sk nL res (pc + 1) lv (.int (x.toUInt32 % 65536).toInt32 :: st) u) : gV κ B sk nL res pc lv (.int x :: st) u := by
  obtain ⟨p, l, e, R, s, m, args, below, meth, c, D, cA, adK, adV⟩ := κ
  obtain ⟨⟨hx, hb, hml, ho, hts⟩, hK, hr, hlk, hfr, hlo, hStr⟩ := X
  intro H locs ls hP hS hl
  exact lv_i2c hx hb hdg rfl (k H locs ls hP hS hl)
theorem g_nret {v : Int32} {ty : FieldType} (X : gX κ B sk cc nL own (some ty) fr lo) (hv : narrow ty (.int v) = .int v) (hdg : decode cc pc = .ok (.ireturn, 1)) : gV κ B sk nL (some (.int v), u) pc lv [.int v] u := by
  obtain ⟨p, l, e, R, s, m, args, below, meth, c, D, cA, adK, adV⟩ := κ
  obtain ⟨⟨hx, hb, hml, ho, hts⟩, hK, hr, hlk, hfr, hlo, hStr⟩ := X
  intro H locs ls hP hS hl
  exact W.zret hx hb hr hv (fun t ht hW => ⟨⟨rfl, by rw [ht]; exact hP⟩, hS.F ht⟩) hS.2.2 hdg hlk
theorem g_callVS (X : gX κ B sk cc nL own ret fr lo) {y : MethodName} {cc2 : ByteArray} {nL2 fr2 lo2 n idx : Nat} {ret2 : Option FieldType} {u2 : gM} {rest : List Value} {v : Int32} {i : Nat} (As : Nat → (Nat → Nat) → List Value) (hi : i < 22) (hM : gMet sk y cc2 nL2 ret2 fr2 lo2 (fun B adK => .ref (adK i) :: As B adK) u (fun _ => some (.int v), u2)) (hG : GoodIn tb (wsV own idx "java/lang/String" y (.code y cc2 nL2 ret2 :: tb))) (hd : y.cls = "java/lang/String" ∧ y.cls ≠ "java/lang/invoke/MethodHandle" ∧ y.cls ≠ "java/lang/invoke/VarHandle" ∧ (parseMethodDescriptor y.desc).map (fun d => d.parameters.length) = some n) (hn : (As B (gAd κ)).length = n) (hst : st = (As B (gAd κ)).reverse ++ .ref (gAd κ i) :: rest) (hc8 : (rest.map fun v => v.category).sum ≤ 8) (hq : fr2 + 1 ≤ fr ∧ 8 + (nL2 + 11) + lo2 ≤ lo) (hdg : decode cc pc = .ok (.invokevirtual idx, 3)) (k : gV κ B sk nL res (pc + 3) lv (.int v :: rest) u2) : gV κ B sk nL res pc lv st u := by
  obtain ⟨p, l, e, R, s, m, args, below, meth, c, D, cA, adK, adV⟩ := κ
  obtain ⟨⟨hx, hb, hml, ho, hts⟩, hK, hr, hlk, hfr, hlo, hStr⟩ := X
  intro H locs ls hP hS hl
  exact g_run rfl (va_runV ⟨hx, hb, hml, ho, hts⟩ (hM l D cA adK adV B) (cwV n hts hG rfl rfl rfl hd ⟨by rw [hfr]; exact hq.1, by rw [hlo]; exact hq.2⟩) ⟨g_blind, vk_recv hStr.1 hi hS, fun U hU hW => ⟨rfl, by rw [hU]; exact hP, va_K.moved hW.alike hK, g_strM hStr hS hU hW⟩⟩ rfl hn hl.1 hst (lv_room hc8) hdg ⟨Nat.zero_le _, Nat.zero_le _⟩) hS (fun _ h => h) (fun H1 locs1 hP1 _ _ hS1 => k H1 locs1 ls hP1 hS1 hl)
theorem off_sI {S : Nat → Prop} {u0 u2 : gM} {r : Nat} {i : Int32} {v : Int32} (hs : S r) (h : sI sk u r i v = some u2) (h0 : off S u0 u) : off S u0 u2 := by
  obtain ⟨n, rs, -, -, rfl⟩ := sI_of h
  exact off_upI hs h0
theorem off_sJ {S : Nat → Prop} {u0 u2 : gM} {r : Nat} {i : Int32} {v : Int64} (hs : S r) (h : sJ sk u r i v = some u2) (h0 : off S u0 u) : off S u0 u2 := by
  obtain ⟨n, rs, -, -, rfl⟩ := sJ_of h
  exact off_upJ hs h0
theorem off_sB {S : Nat → Prop} {u0 u2 : gM} {r : Nat} {i : Int32} {v : Int32} (hs : S r) (h : sB sk u r i v = some u2) (h0 : off S u0 u) : off S u0 u2 := by
  obtain ⟨n, rs, -, -, rfl⟩ := sB_of h
  exact off_upI hs h0
theorem off_cpI {S : Nat → Prop} {u0 u2 : gM} {r0 r1 : Nat} {sp dp n : Int32} (hs : S r1) (h : cpI sk u r0 sp r1 dp n = some u2) (h0 : off S u0 u) : off S u0 u2 := by
  obtain ⟨n0, n1, rs0, rs1, -, -, -, rfl⟩ := cpI_of h
  exact off_upRI hs h0
theorem off_cpJ {S : Nat → Prop} {u0 u2 : gM} {r0 r1 : Nat} {sp dp n : Int32} (hs : S r1) (h : cpJ sk u r0 sp r1 dp n = some u2) (h0 : off S u0 u) : off S u0 u2 := by
  obtain ⟨n0, n1, rs0, rs1, -, -, -, rfl⟩ := cpJ_of h
  exact off_upRJ hs h0
end FLAT
