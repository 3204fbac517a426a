/-! THE LAW AND THE CONSTRUCTORS: a judgement over any world; cells may be made -/
def gStA (adK adV : Nat → Nat) (A : Nat → Prop) (U : State) : Prop := vk_S 22 gLn gBy adK adV A U U.heap ∧ (∀ (i : Nat) (q : String × Nat × String × List Int32), gSt[i]? = some q → vk_R q.1 q.2.1 q.2.2.1 (adK i) U) ∧ (∀ i, adV i = adK (100 + i)) ∧ va_Z "java/lang/String" "COMPACT_STRINGS" "Z" (.int 1) A U U.heap ∧ va_Zq "jdk/internal/util/Preconditions" "SIOOBE_FORMATTER" "Ljava/util/function/BiFunction;" A U U.heap
theorem gStA_narrow {adK adV : Nat → Nat} {A A2 : Nat → Prop} {U : State} (h : gStA adK adV A U) (hA : ∀ q, A2 q → A q) : gStA adK adV A2 U := ⟨h.1.narrow hA, h.2.1, h.2.2.1, h.2.2.2.1.narrow hA, h.2.2.2.2.narrow hA⟩
theorem gStA_M {adK adV : Nat → Nat} {A : Nat → Prop} {s U : State} {H : Heap} {locs : List Loc} (h : gStA adK adV A s) (hS : va_S A s.heap H locs) (hU : U.heap = H) (hW : s.WarmedH U.vm) : gStA adK adV A U := by
  refine ⟨?_, fun i q hq => vk_R.warm hW (h.2.1 i q hq), h.2.2.1, ?_, ?_⟩
  · rw [hU]; exact vk_S.moved hW.alike (h.1.kept hS.2.1)
  · rw [hU]; exact va_Z.moved hW.alike (h.2.2.2.1.kept hS.2.1)
  · rw [hU]; exact va_Zq.moved hW.alike (h.2.2.2.2.kept hS.2.1)
theorem gStA_C {adK adV : Nat → Nat} {A : Nat → Prop} {U : State} {g : JFrame} {mk : MethodId} {a : Array Value} (qS : gStA adK adV A U) : gStA adK adV A (U.calling g mk a) := ⟨vk_S.moved (u := U) (U := U.calling g mk a) (Vm.Alike.refl U.vm) qS.1, fun i q hq => vk_R.same (u := U) rfl (qS.2.1 i q hq), qS.2.2.1, va_Z.moved (u := U) (U := U.calling g mk a) (Vm.Alike.refl U.vm) qS.2.2.2.1, va_Zq.moved (u := U) (U := U.calling g mk a) (Vm.Alike.refl U.vm) qS.2.2.2.2⟩
/-- the private constructors of nest mates, and the row of objects -/
def nstL : List (String × Nat × MethodName × String) := [(RX11, 11, yX9_init, "CoverDesk"), (RX11, 18, yX10_init, "CoverDesk"), (RX11, 25, yX8_init, "CoverDesk"), (RX7, 17, yX8_init, "CoverDesk"), (RX0, 11, yX10_init, "CoverDesk"), (RX1, 17, yX4_init, "CoverDesk"), (RX3, 11, yX4_init, "CoverDesk")]
def gNst (U : State) : Prop := (∀ q ∈ nstL, va_Nw (.methodLinkNest q.1 q.2.1 q.2.2.1 q.2.2.2) U) ∧ va_AO RX8 U
theorem gNst_M {s U : State} (h : gNst s) (hW : s.WarmedH U.vm) : gNst U := ⟨fun q hq => va_Nw.warmM hW (h.1 q hq), h.2.moved hW.alike⟩
theorem gNst_C {U : State} {g : JFrame} {mk : MethodId} {a : Array Value} (h : gNst U) : gNst (U.calling g mk a) := ⟨fun q hq => va_Nw.same rfl (u := U) (U := U.calling g mk a) rfl (h.1 q hq), va_AO.moved (u := U) (U := U.calling g mk a) (Vm.Alike.refl U.vm) h.2⟩
def gAb (B : Nat) : Nat → Prop := fun q => B ≤ q
theorem gWs_Db {B : Nat} {cA : Nat → ClassId} {sk : List gE} {u : gM} {A : Nat → Prop} (hA : ∀ q, B ≤ q → A q) : va_D A (gWs B cA sk u) := by
  refine ⟨gWs_D.1, fun k q hk => ?_⟩
  obtain ⟨_, -, rfl⟩ := gWs_of hk
  exact hA _ (Nat.le_add_right _ _)
def gXJ : gK → (Nat → Prop) → ByteArray → Nat → String → Option FieldType → Nat → Nat → Nat → Nat → Prop
  | (p, _, _, R, s, m, args, _, meth, c, D, cA, adK, adV), A, cc, nL, own, ret, fr, lo, mc, ms => CallFix p m c cc nL s args tb own ∧ va_K D vwCl (gTy cA) s ∧ meth.sig.returnType = ret ∧ meth.locks = false ∧ (R.frames = fr ∧ R.locals = lo ∧ R.cells = mc ∧ R.slots = ms) ∧ gStA adK adV A s ∧ gNst s
def gJ : gK → Nat → (Nat → Prop) → (State → Prop) → Nat → Nat → (va_G → (Nat → ClassId) → Heap → Prop) → Nat → List (Option Value) → List Value → Prop
  | (p, l, e, R, s, m, args, below, meth, c, D, cA, _, _), nL, A, Q, c0, w0, Wd, pc, lv, st => ∀ (H : Heap) (locs : List Loc) (ls : Array Slot), Wd D cA H → va_S A s.heap H locs → gL ls nL lv → W p l e R s m args below meth c H locs c0 w0 Q (F0 m pc ls st)
def gIn : gK → Prop
  | (_, _, _, _, _, _, _, _, meth, _, _, _, _, _) => meth.name = "<init>"
/-- one system's world alone, all that comes from B on -/
def gNd (B : Nat) (sk : List gE) (u : gM) : va_G → (Nat → ClassId) → Heap → Prop := fun D cA H => va_P D vwCl (gWs B cA sk u) H ∧ H.size = B + sk.length
section JROWS
variable {κ : gK} {cc : ByteArray} {nL : Nat} {own : String} {ret : Option FieldType} {fr lo mc ms : Nat} {A : Nat → Prop} {Q : State → Prop} {c0 w0 : Nat} {Wd : va_G → (Nat → ClassId) → Heap → Prop} {pc : Nat} {lv : List (Option Value)} {st : List Value}
theorem j_iconst (X : gXJ κ A cc nL own ret fr lo mc ms) {n : Int} {v : Int32} (hdg : decode cc pc = .ok (.iconst n, 1)) (hv : Int32.ofInt n = v) (k : gJ κ nL A Q c0 w0 Wd (pc + 1) lv (.int v :: st)) : gJ κ nL A Q c0 w0 Wd pc lv st := by
  obtain ⟨p, l, e, R, s, m, args, below, meth, c, D, cA, adK, adV⟩ := κ
  obtain ⟨⟨hx, hb, hml, ho, hts⟩, hK, hr, hlk, ⟨hfr, hlo, hmc, hms⟩, hStr, hNs⟩ := X
  intro H locs ls hP hS hl
  exact lv_iconst hx hb hdg hv (k H locs ls hP hS hl)
theorem j_bipush (X : gXJ κ A cc nL own ret fr lo mc ms) {n : Int} {v : Int32} (hdg : decode cc pc = .ok (.bipush n, 2)) (hv : (Int8.ofInt n).toInt32 = v) (k : gJ κ nL A Q c0 w0 Wd (pc + 2) lv (.int v :: st)) : gJ κ nL A Q c0 w0 Wd pc lv st := by
  obtain ⟨p, l, e, R, s, m, args, below, meth, c, D, cA, adK, adV⟩ := κ
  obtain ⟨⟨hx, hb, hml, ho, hts⟩, hK, hr, hlk, ⟨hfr, hlo, hmc, hms⟩, hStr, hNs⟩ := X
  intro H locs ls hP hS hl
  exact lv_bipush hx hb hdg hv (k H locs ls hP hS hl)
theorem j_sipush (X : gXJ κ A cc nL own ret fr lo mc ms) {n : Int} {v : Int32} (hdg : decode cc pc = .ok (.sipush n, 3)) (hv : (Int16.ofInt n).toInt32 = v) (k : gJ κ nL A Q c0 w0 Wd (pc + 3) lv (.int v :: st)) : gJ κ nL A Q c0 w0 Wd pc lv st := by
  obtain ⟨p, l, e, R, s, m, args, below, meth, c, D, cA, adK, adV⟩ := κ
  obtain ⟨⟨hx, hb, hml, ho, hts⟩, hK, hr, hlk, ⟨hfr, hlo, hmc, hms⟩, hStr, hNs⟩ := X
  intro H locs ls hP hS hl
  exact lv_sipush hx hb hdg hv (k H locs ls hP hS hl)
theorem j_ldc (X : gXJ κ A cc nL own ret fr lo mc ms) {idx : Nat} {v : Int32} (hw : Cond.constant own idx v ∈ tb) (hdg : decode cc pc = .ok (.ldc idx, 2)) (k : gJ κ nL A Q c0 w0 Wd (pc + 2) lv (.int v :: st)) : gJ κ nL A Q c0 w0 Wd pc lv st := by
  obtain ⟨p, l, e, R, s, m, args, below, meth, c, D, cA, adK, adV⟩ := κ
  obtain ⟨⟨hx, hb, hml, ho, hts⟩, hK, hr, hlk, ⟨hfr, hlo, hmc, hms⟩, hStr, hNs⟩ := X
  intro H locs ls hP hS hl
  exact lv_ldc hx hb ho (hts _ hw) hdg (k H locs ls hP hS hl)
theorem j_iload_n (X : gXJ κ A cc nL own ret fr lo mc ms) {i : Fin 4} {x : Int32} (hdg : decode cc pc = .ok (.iload_n i, 1)) (hk : lv[(i : Nat)]? = some (some (.int x))) (k : gJ κ nL A Q c0 w0 Wd (pc + 1) lv (.int x :: st)) : gJ κ nL A Q c0 w0 Wd pc lv st := by
  obtain ⟨p, l, e, R, s, m, args, below, meth, c, D, cA, adK, adV⟩ := κ
  obtain ⟨⟨hx, hb, hml, ho, hts⟩, hK, hr, hlk, ⟨hfr, hlo, hmc, hms⟩, hStr, hNs⟩ := X
  intro H locs ls hP hS hl
  exact lv_iload_n hx hb hdg rfl (gL_at hl hk) (k H locs ls hP hS hl)
theorem j_istore_n (X : gXJ κ A cc nL own ret fr lo mc ms) {i : Fin 4} {x : Int32} (lv2 : List (Option Value)) (hdg : decode cc pc = .ok (.istore_n i, 1)) (hn : (i : Nat) < nL) (hl2 : gS1 lv (i : Nat) (.int x) = lv2) (k : gJ κ nL A Q c0 w0 Wd (pc + 1) lv2 st) : gJ κ nL A Q c0 w0 Wd pc lv (.int x :: st) := by
  obtain ⟨p, l, e, R, s, m, args, below, meth, c, D, cA, adK, adV⟩ := κ
  obtain ⟨⟨hx, hb, hml, ho, hts⟩, hK, hr, hlk, ⟨hfr, hlo, hmc, hms⟩, hStr, hNs⟩ := X
  intro H locs ls hP hS hl
  exact lv_istore_n hx hb hdg rfl hl hn rfl (fun ls2 h2 => k H locs ls2 hP hS (gL_s1 hl2 h2))
theorem j_aload_n (X : gXJ κ A cc nL own ret fr lo mc ms) {i : Fin 4} {x : Nat} (hdg : decode cc pc = .ok (.aload_n i, 1)) (hk : lv[(i : Nat)]? = some (some (.ref x))) (k : gJ κ nL A Q c0 w0 Wd (pc + 1) lv (.ref x :: st)) : gJ κ nL A Q c0 w0 Wd pc lv st := by
  obtain ⟨p, l, e, R, s, m, args, below, meth, c, D, cA, adK, adV⟩ := κ
  obtain ⟨⟨hx, hb, hml, ho, hts⟩, hK, hr, hlk, ⟨hfr, hlo, hmc, hms⟩, hStr, hNs⟩ := X
  intro H locs ls hP hS hl
  exact lv_aload_n hx hb hdg rfl (gL_at hl hk) (k H locs ls hP hS hl)
theorem j_astore_n (X : gXJ κ A cc nL own ret fr lo mc ms) {i : Fin 4} {x : Nat} (lv2 : List (Option Value)) (hdg : decode cc pc = .ok (.astore_n i, 1)) (hn : (i : Nat) < nL) (hl2 : gS1 lv (i : Nat) (.ref x) = lv2) (k : gJ κ nL A Q c0 w0 Wd (pc + 1) lv2 st) : gJ κ nL A Q c0 w0 Wd pc lv (.ref x :: st) := by
  obtain ⟨p, l, e, R, s, m, args, below, meth, c, D, cA, adK, adV⟩ := κ
  obtain ⟨⟨hx, hb, hml, ho, hts⟩, hK, hr, hlk, ⟨hfr, hlo, hmc, hms⟩, hStr, hNs⟩ := X
  intro H locs ls hP hS hl
  exact lv_astore_n hx hb hdg rfl hl hn rfl (fun ls2 h2 => k H locs ls2 hP hS (gL_s1 hl2 h2))
theorem j_iinc (X : gXJ κ A cc nL own ret fr lo mc ms) {i : Nat} {n : Int} {d x : Int32} (lv2 : List (Option Value)) (hdg : decode cc pc = .ok (.iinc i n, 3)) (hd : Int32.ofInt n = d) (hk : lv[i]? = some (some (.int x))) (hn : i < nL) (hl2 : gS1 lv i (.int (x + d)) = lv2) (k : gJ κ nL A Q c0 w0 Wd (pc + 3) lv2 st) : gJ κ nL A Q c0 w0 Wd pc lv st := by
  obtain ⟨p, l, e, R, s, m, args, below, meth, c, D, cA, adK, adV⟩ := κ
  obtain ⟨⟨hx, hb, hml, ho, hts⟩, hK, hr, hlk, ⟨hfr, hlo, hmc, hms⟩, hStr, hNs⟩ := X
  intro H locs ls hP hS hl
  subst hd
  obtain ⟨q, hq⟩ := List.getElem?_of_mem ((gAs_mem lv 0 i (.int x)).mpr ⟨Nat.zero_le _, hk⟩)
  exact lv_iinc hx hb hdg hl hq rfl hn rfl (fun ls2 h2 => k H locs ls2 hP hS (gL_s1 hl2 h2))
theorem j_iadd (X : gXJ κ A cc nL own ret fr lo mc ms) {x y : Int32} (hdg : decode cc pc = .ok (.iadd, 1)) (k : gJ κ nL A Q c0 w0 Wd (pc + 1) lv (.int (x + y) :: st)) : gJ κ nL A Q c0 w0 Wd pc lv (.int y :: .int x :: st) := by
  obtain ⟨p, l, e, R, s, m, args, below, meth, c, D, cA, adK, adV⟩ := κ
  obtain ⟨⟨hx, hb, hml, ho, hts⟩, hK, hr, hlk, ⟨hfr, hlo, hmc, hms⟩, hStr, hNs⟩ := X
  intro H locs ls hP hS hl
  exact lv_iadd hx hb hdg (k H locs ls hP hS hl)
theorem j_isub (X : gXJ κ A cc nL own ret fr lo mc ms) {x y : Int32} (hdg : decode cc pc = .ok (.isub, 1)) (k : gJ κ nL A Q c0 w0 Wd (pc + 1) lv (.int (x - y) :: st)) : gJ κ nL A Q c0 w0 Wd pc lv (.int y :: .int x :: st) := by
  obtain ⟨p, l, e, R, s, m, args, below, meth, c, D, cA, adK, adV⟩ := κ
  obtain ⟨⟨hx, hb, hml, ho, hts⟩, hK, hr, hlk, ⟨hfr, hlo, hmc, hms⟩, hStr, hNs⟩ := X
  intro H locs ls hP hS hl
  exact lv_isub hx hb hdg (k H locs ls hP hS hl)
theorem j_iand (X : gXJ κ A cc nL own ret fr lo mc ms) {x y : Int32} (hdg : decode cc pc = .ok (.iand, 1)) (k : gJ κ nL A Q c0 w0 Wd (pc + 1) lv (.int (x &&& y) :: st)) : gJ κ nL A Q c0 w0 Wd pc lv (.int y :: .int x :: st) := by
  obtain ⟨p, l, e, R, s, m, args, below, meth, c, D, cA, adK, adV⟩ := κ
  obtain ⟨⟨hx, hb, hml, ho, hts⟩, hK, hr, hlk, ⟨hfr, hlo, hmc, hms⟩, hStr, hNs⟩ := X
  intro H locs ls hP hS hl
  exact lv_iand hx hb hdg (k H locs ls hP hS hl)
theorem j_lcmp (X : gXJ κ A cc nL own ret fr lo mc ms) {x y : Int64} (hdg : decode cc pc = .ok (.lcmp, 1)) (k : gJ κ nL A Q c0 w0 Wd (pc + 1) lv (.int (lg_cmp x y) :: st)) : gJ κ nL A Q c0 w0 Wd pc lv (.long y :: .long x :: st) := by
  obtain ⟨p, l, e, R, s, m, args, below, meth, c, D, cA, adK, adV⟩ := κ
  obtain ⟨⟨hx, hb, hml, ho, hts⟩, hK, hr, hlk, ⟨hfr, hlo, hmc, hms⟩, hStr, hNs⟩ := X
  intro H locs ls hP hS hl
  exact W.lcmp hx hb hdg (k H locs ls hP hS hl)
theorem j_dup (X : gXJ κ A cc nL own ret fr lo mc ms) {x : Value} (hc : x.category = 1) (hdg : decode cc pc = .ok (.dup, 1)) (k : gJ κ nL A Q c0 w0 Wd (pc + 1) lv (x :: x :: st)) : gJ κ nL A Q c0 w0 Wd pc lv (x :: st) := by
  obtain ⟨p, l, e, R, s, m, args, below, meth, c, D, cA, adK, adV⟩ := κ
  obtain ⟨⟨hx, hb, hml, ho, hts⟩, hK, hr, hlk, ⟨hfr, hlo, hmc, hms⟩, hStr, hNs⟩ := X
  intro H locs ls hP hS hl
  exact lv_dup hx hb hdg hc (k H locs ls hP hS hl)
theorem j_goto (X : gXJ κ A cc nL own ret fr lo mc ms) {off : Int} {tgt : Nat} (hdg : decode cc pc = .ok (.goto off, 3)) (ht : (pc : Int) + off = (tgt : Int)) (k : gJ κ nL A Q c0 w0 Wd tgt lv st) : gJ κ nL A Q c0 w0 Wd pc lv st := by
  obtain ⟨p, l, e, R, s, m, args, below, meth, c, D, cA, adK, adV⟩ := κ
  obtain ⟨⟨hx, hb, hml, ho, hts⟩, hK, hr, hlk, ⟨hfr, hlo, hmc, hms⟩, hStr, hNs⟩ := X
  intro H locs ls hP hS hl
  exact lv_goto hx hb hdg ht (k H locs ls hP hS hl)
theorem j_if_eq (X : gXJ κ A cc nL own ret fr lo mc ms) {x : Int32} {off : Int} {tgt : Nat} (hdg : decode cc pc = .ok (.ifCond .eq off, 3)) (ht : (pc : Int) + off = (tgt : Int)) (kt : x = 0 → gJ κ nL A Q c0 w0 Wd tgt lv st) (kf : ¬ (x = 0) → gJ κ nL A Q c0 w0 Wd (pc + 3) lv st) : gJ κ nL A Q c0 w0 Wd pc lv (.int x :: st) := by
  obtain ⟨p, l, e, R, s, m, args, below, meth, c, D, cA, adK, adV⟩ := κ
  obtain ⟨⟨hx, hb, hml, ho, hts⟩, hK, hr, hlk, ⟨hfr, hlo, hmc, hms⟩, hStr, hNs⟩ := X
  intro H locs ls hP hS hl
  exact lv_if_eq hx hb hdg ht (fun q => kt q H locs ls hP hS hl) (fun q => kf q H locs ls hP hS hl)
theorem j_if_ne (X : gXJ κ A cc nL own ret fr lo mc ms) {x : Int32} {off : Int} {tgt : Nat} (hdg : decode cc pc = .ok (.ifCond .ne off, 3)) (ht : (pc : Int) + off = (tgt : Int)) (kt : ¬ x = 0 → gJ κ nL A Q c0 w0 Wd tgt lv st) (kf : (x = 0) → gJ κ nL A Q c0 w0 Wd (pc + 3) lv st) : gJ κ nL A Q c0 w0 Wd pc lv (.int x :: st) := by
  obtain ⟨p, l, e, R, s, m, args, below, meth, c, D, cA, adK, adV⟩ := κ
  obtain ⟨⟨hx, hb, hml, ho, hts⟩, hK, hr, hlk, ⟨hfr, hlo, hmc, hms⟩, hStr, hNs⟩ := X
  intro H locs ls hP hS hl
  exact lv_if_ne hx hb hdg ht (fun q => kt q H locs ls hP hS hl) (fun q => kf q H locs ls hP hS hl)
theorem j_icmp_eq (X : gXJ κ A cc nL own ret fr lo mc ms) {x y : Int32} {off : Int} {tgt : Nat} (hdg : decode cc pc = .ok (.if_icmp .eq off, 3)) (ht : (pc : Int) + off = (tgt : Int)) (kt : x = y → gJ κ nL A Q c0 w0 Wd tgt lv st) (kf : ¬ (x = y) → gJ κ nL A Q c0 w0 Wd (pc + 3) lv st) : gJ κ nL A Q c0 w0 Wd pc lv (.int y :: .int x :: st) := by
  obtain ⟨p, l, e, R, s, m, args, below, meth, c, D, cA, adK, adV⟩ := κ
  obtain ⟨⟨hx, hb, hml, ho, hts⟩, hK, hr, hlk, ⟨hfr, hlo, hmc, hms⟩, hStr, hNs⟩ := X
  intro H locs ls hP hS hl
  exact lv_icmp_eq hx hb hdg ht (fun q => kt q H locs ls hP hS hl) (fun q => kf q H locs ls hP hS hl)
theorem j_icmp_ne (X : gXJ κ A cc nL own ret fr lo mc ms) {x y : Int32} {off : Int} {tgt : Nat} (hdg : decode cc pc = .ok (.if_icmp .ne off, 3)) (ht : (pc : Int) + off = (tgt : Int)) (kt : ¬ x = y → gJ κ nL A Q c0 w0 Wd tgt lv st) (kf : (x = y) → gJ κ nL A Q c0 w0 Wd (pc + 3) lv st) : gJ κ nL A Q c0 w0 Wd pc lv (.int y :: .int x :: st) := by
  obtain ⟨p, l, e, R, s, m, args, below, meth, c, D, cA, adK, adV⟩ := κ
  obtain ⟨⟨hx, hb, hml, ho, hts⟩, hK, hr, hlk, ⟨hfr, hlo, hmc, hms⟩, hStr, hNs⟩ := X
  intro H locs ls hP hS hl
  exact lv_icmp_ne hx hb hdg ht (fun q => kt q H locs ls hP hS hl) (fun q => kf q H locs ls hP hS hl)
theorem j_icmp_ge (X : gXJ κ A cc nL own ret fr lo mc ms) {x y : Int32} {off : Int} {tgt : Nat} (hdg : decode cc pc = .ok (.if_icmp .ge off, 3)) (ht : (pc : Int) + off = (tgt : Int)) (kt : y ≤ x → gJ κ nL A Q c0 w0 Wd tgt lv st) (kf : ¬ (y ≤ x) → gJ κ nL A Q c0 w0 Wd (pc + 3) lv st) : gJ κ nL A Q c0 w0 Wd pc lv (.int y :: .int x :: st) := by
  obtain ⟨p, l, e, R, s, m, args, below, meth, c, D, cA, adK, adV⟩ := κ
  obtain ⟨⟨hx, hb, hml, ho, hts⟩, hK, hr, hlk, ⟨hfr, hlo, hmc, hms⟩, hStr, hNs⟩ := X
  intro H locs ls hP hS hl
  exact lv_icmp_ge hx hb hdg ht (fun q => kt q H locs ls hP hS hl) (fun q => kf q H locs ls hP hS hl)
theorem j_icmp_gt (X : gXJ κ A cc nL own ret fr lo mc ms) {x y : Int32} {off : Int} {tgt : Nat} (hdg : decode cc pc = .ok (.if_icmp .gt off, 3)) (ht : (pc : Int) + off = (tgt : Int)) (kt : y < x → gJ κ nL A Q c0 w0 Wd tgt lv st) (kf : ¬ (y < x) → gJ κ nL A Q c0 w0 Wd (pc + 3) lv st) : gJ κ nL A Q c0 w0 Wd pc lv (.int y :: .int x :: st) := by
  obtain ⟨p, l, e, R, s, m, args, below, meth, c, D, cA, adK, adV⟩ := κ
  obtain ⟨⟨hx, hb, hml, ho, hts⟩, hK, hr, hlk, ⟨hfr, hlo, hmc, hms⟩, hStr, hNs⟩ := X
  intro H locs ls hP hS hl
  exact lv_icmp_gt hx hb hdg ht (fun q => kt q H locs ls hP hS hl) (fun q => kf q H locs ls hP hS hl)
theorem j_tabIn (X : gXJ κ A cc nL own ret fr lo mc ms) {dflt lo2 hi : Int} {offs : Array Int} {len : Nat} {x : Int32} {off : Int} {tgt : Nat} (v : Int32) (hxv : x = v) (hdg : decode cc pc = .ok (.tableswitch dflt lo2 hi offs, len)) (h1 : ¬ v.toInt < lo2) (h2 : ¬ hi < v.toInt) (h3 : offs[(v.toInt - lo2).toNat]? = some off) (ht : (pc : Int) + off = (tgt : Int)) (k : gJ κ nL A Q c0 w0 Wd tgt lv st) : gJ κ nL A Q c0 w0 Wd pc lv (.int x :: st) := by
  obtain ⟨p, l, e, R, s, m, args, below, meth, c, D, cA, adK, adV⟩ := κ
  obtain ⟨⟨hx, hb, hml, ho, hts⟩, hK, hr, hlk, ⟨hfr, hlo, hmc, hms⟩, hStr, hNs⟩ := X
  intro H locs ls hP hS hl
  exact lv_tableIn hx hb hdg (by rw [hxv]; exact h1) (by rw [hxv]; exact h2) (by rw [hxv]; exact h3) ht (k H locs ls hP hS hl)
theorem j_mk (mk : List Bool) (lv2 : List (Option Value)) (hl2 : gMk mk lv = lv2) (k : gJ κ nL A Q c0 w0 Wd pc lv2 st) : gJ κ nL A Q c0 w0 Wd pc lv st := by
  subst hl2
  obtain ⟨p, l, e, R, s, m, args, below, meth, c, D, cA, adK, adV⟩ := κ
  exact fun H locs ls hP hS hl => k H locs ls hP hS (gL_sub hl (gMk_sub mk lv))
theorem j_wide {c1 w1 : Nat} (h1 : c0 ≤ c1) (h2 : w0 ≤ w1) (k : gJ κ nL A Q c1 w1 Wd pc lv st) : gJ κ nL A Q c0 w0 Wd pc lv st := by
  obtain ⟨p, l, e, R, s, m, args, below, meth, c, D, cA, adK, adV⟩ := κ
  exact fun H locs ls hP hS hl => W.widen h1 h2 (k H locs ls hP hS hl)
theorem j_wd {Wd2 : va_G → (Nat → ClassId) → Heap → Prop} (h : ∀ D cA H, Wd D cA H → Wd2 D cA H) (k : gJ κ nL A Q c0 w0 Wd2 pc lv st) : gJ κ nL A Q c0 w0 Wd pc lv st := by
  obtain ⟨p, l, e, R, s, m, args, below, meth, c, D, cA, adK, adV⟩ := κ
  exact fun H locs ls hP hS hl => k H locs ls (h _ _ _ hP) hS hl
end JROWS
