/-! fields, rows, calls and the end, in the world of one system that grows -/
def gQn : gK → Nat → Nat → Nat → List gE → (gM → Prop) → State → Prop
  | (_, _, _, _, s, _, args, below, _, _, D, cA, _, _), B, mc, ms, sk2, Ψ => MQ below (va_Qv Ψ (fun u' t => va_P D vwCl (gWs B cA sk2 u') t.heap) (gAb B)) args s mc ms (gAb B)
/-- a constructor's contract: pre is all that was there, the object itself is the last cell; behind it tl stands in its place -/
def gNw (y : MethodName) (cc : ByteArray) (nL fr lo mc ms ci : Nat) (ds : List Nat) (As : Nat → List Value) (tl : Nat → List gE) (Φ : Nat → gM → Prop) (pre : List gE) : Prop :=
  ∀ (l : Launch) (D : va_G) (cA adK adV : Nat → Nat) (B : Nat) (u : gM), gZ pre.length u → Met l y (.code y cc nL none :: tb) { frames := fr, cells := mc, slots := ms, locals := lo } (va_Pc (.ref (B + pre.length) :: As B) (fun U => va_P D vwCl (gWs B cA (pre ++ [.inl (ci, ds)]) u) U.heap ∧ U.heap.size = B + (pre.length + 1) ∧ va_K D vwCl (gTy cA) U ∧ gStA adK adV (gAb B) U ∧ gNst U)) (va_Qv (fun u' : gM => off (fun c => pre.length ≤ c) u u' ∧ gZ (pre.length + (tl pre.length).length) u' ∧ Φ pre.length u') (fun u' t => va_P D vwCl (gWs B cA (pre ++ tl pre.length) u') t.heap) (gAb B)) mc ms (gAb B)
theorem gNw.of {y : MethodName} {cc : ByteArray} {nL fr lo mc ms ci : Nat} {ds : List Nat} {As : Nat → List Value} {tl : Nat → List gE} {Φ : Nat → gM → Prop} {pre : List gE} (hy : plainName y.cls = true) (hn : ∀ B, (lg_sl (.ref (B + pre.length) :: As B)).length ≤ nL) (hnm : y.name = "<init>")
    (body : ∀ (κ : gK) (B : Nat) (u : gM), gXJ κ (gAb B) cc nL y.cls none fr lo mc ms → gIn κ → gSz (B + (pre.length + 1)) κ → gZ pre.length u → gJ κ nL (gAb B) (gQn κ B mc ms (pre ++ tl pre.length) (fun u' : gM => off (fun c => pre.length ≤ c) u u' ∧ gZ (pre.length + (tl pre.length).length) u' ∧ Φ pre.length u')) 0 0 (gWd B (pre ++ [.inl (ci, ds)]) u) 0 (gLv (.ref (B + pre.length) :: As B)) []) : gNw y cc nL fr lo mc ms ci ds As tl Φ pre := by
  intro l D cA adK adV B u hz
  refine Met.ofW (cc := cc) (maxL := nL) (ret := none) hy rfl ?_
  intro p e s m args below meth c s₁ Bd hml hv
  obtain ⟨rfl, hP, hsz, hK, hStr, hNs⟩ := hv
  have hts := atoms_spec (ws := .code y cc nL none :: tb) Bd.pre
  have hts2 : ∀ w ∈ tb, w.before (.ref (B + pre.length) :: As B).toArray s = true := fun w hw => hts w (List.mem_cons_of_mem _ hw)
  have hl := lv_entry (.ref (B + pre.length) :: As B) (n := nL) (hn B)
  rw [lg_entry_eq]
  generalize (lg_sl (.ref (B + pre.length) :: As B) ++ List.replicate (nL - (lg_sl (.ref (B + pre.length) :: As B)).length) Slot.unset).toArray = ls at hl ⊢
  have k := body (p, l, e, { frames := fr, cells := mc, slots := ms, locals := lo }, s, m, (.ref (B + pre.length) :: As B).toArray, below, meth, c, D, cA, adK, adV) B u ⟨⟨Bd.exec, Bd.bytes, hml, findClass_of_methodNamed Bd.named, hts2⟩, hK, Bd.returns, Bd.notSynchronized, ⟨rfl, rfl, rfl, rfl⟩, hStr, hNs⟩ ((name_of_methodNamed Bd.named Bd.method).1.trans hnm) hsz hz
  exact k s.heap [] ls hP va_S.rf (gL_less hl (fun j w hj => by have := gLv_at (.ref (B + pre.length) :: As B) 0 j w hj; rwa [Nat.zero_add] at this))
def gCI (own : String) (idx n : Nat) (y : MethodName) (cc : ByteArray) (nL : Nat) : Prop := Cond.code y cc nL none ∈ tb ∧ Cond.initialized y.cls ∈ tb ∧ Cond.instanceMethod y ∈ tb ∧ y.name = "<init>" ∧ (y.cls ≠ "java/lang/invoke/MethodHandle" ∧ y.cls ≠ "java/lang/invoke/VarHandle" ∧ (parseMethodDescriptor y.desc).map (fun d => d.parameters.length) = some n) ∧ (Cond.methodLink own idx y ∈ tb ∨ ∃ host, (own, idx, y, host) ∈ nstL)
theorem n_blind {B : Nat} {D : va_G} {cA : Nat → ClassId} {adK adV : Nat → Nat} {As : List Value} {sk : List gE} {u : gM} {z : Nat} : FrameBlind (va_Pc As (fun U => va_P D vwCl (gWs B cA sk u) U.heap ∧ U.heap.size = z ∧ va_K D vwCl (gTy cA) U ∧ gStA adK adV (gAb B) U ∧ gNst U)) := fun a U g mk q => by
  obtain ⟨q0, qP, qz, qK, qS, qN⟩ := q
  exact ⟨q0, qP, qz, va_K.moved (u := U) (U := U.calling g mk a) (Vm.Alike.refl U.vm) qK, gStA_C qS, gNst_C qN⟩
section JC
variable {κ : gK} {cc : ByteArray} {nL : Nat} {own : String} {ret : Option FieldType} {fr lo mc ms B h0 z n : Nat} {Q : State → Prop} {c0 w0 : Nat} {pc : Nat} {lv : List (Option Value)} {st : List Value} {u : gM} {pre tl tl' : List gE}
theorem j_putF (X : gXJ κ (gAb B) cc nL own ret fr lo mc ms) (hI : gIn κ) {idx ci j i x : Nat} {cs : List Nat} {ty : FieldType} (hf : gFL own idx ci j) (hcl : gCl ci) (hpf : gPF own ci j ty) (hi : tl[i]? = some (.inl (ci, cs))) (hj2 : j < cs.length) (htl : tl.set i (.inl (ci, cs.set j (x + 3))) = tl') (hdg : decode cc pc = .ok (.putfield idx, 3)) (k : gJ κ nL (gAb B) Q c0 w0 (gWd B (pre ++ tl') u) (pc + 3) lv st) : gJ κ nL (gAb B) Q c0 w0 (gWd B (pre ++ tl) u) pc lv (.ref (B + x) :: .ref (B + (pre.length + i)) :: st) := by
  obtain ⟨p, l, e, R, s, m, args, below, meth, c, D, cA, adK, adV⟩ := κ
  obtain ⟨⟨hx, hb, hml, ho, hts⟩, hK, hr, hlk, ⟨hfr, hlo, hmc, hms⟩, hStr, hNs⟩ := X
  intro H locs ls hP hS hl
  have hP : va_P D vwCl (gWs B cA (pre ++ tl) u) H := hP
  obtain ⟨C, T, N, hc, hw, hj, hl0⟩ := hf
  obtain ⟨C2, T2, N2, ty2, hc2, hty, hnm⟩ := hcl
  obtain ⟨C3, T3, N3, hc3, hfin, hdc, hpd, hn1, hn2⟩ := hpf
  rw [hc] at hc2 hc3
  cases hc2
  cases hc3
  have he : (pre ++ tl)[pre.length + i]? = some (.inl (ci, cs)) := by rw [ap_at]; exact hi
  refine va_putF hx hb hts hw ty2 hty hnm ho hK hP (gWs_Db (fun _ h => h)) hS (pre.length + i) (gWs_at he) hc j hj (hts _ hl0) (fun _ h9 => h9) hfin hI hdc hpd (hn1 _) (hn2 _) (by rw [gFs_len]; exact hj2) hdg (fun H1 locs1 hP1 hD1 hS1 => ?_)
  rw [gFs_setR] at hP1
  have h2 := gWs_setE (B := B) (cA := cA) (u := u) (e := .inl (ci, cs.set j (x + 3))) (List.getElem?_eq_some_iff.mp he).1
  have h3 : va_P D vwCl (gWs B cA (pre ++ tl') u) H1 := by
    rw [← htl, ← ap_set, ← h2]
    exact hP1
  exact k H1 locs1 ls h3 hS1 hl
theorem j_putI (X : gXJ κ (gAb B) cc nL own ret fr lo mc ms) {idx ci j i : Nat} {cs : List Nat} {x : Int32} (hf : gFL own idx ci j) (hcl : gCl ci) (hpl : gPL ci j .int) (hi : tl[i]? = some (.inl (ci, cs))) (hj2 : cs[j]? = some 0) (hdg : decode cc pc = .ok (.putfield idx, 3)) (k : gJ κ nL (gAb B) Q c0 w0 (gWd B (pre ++ tl) (upI u (pre.length + i) j x)) (pc + 3) lv st) : gJ κ nL (gAb B) Q c0 w0 (gWd B (pre ++ tl) u) pc lv (.int x :: .ref (B + (pre.length + i)) :: st) := by
  obtain ⟨p, l, e, R, s, m, args, below, meth, c, D, cA, adK, adV⟩ := κ
  obtain ⟨⟨hx, hb, hml, ho, hts⟩, hK, hr, hlk, ⟨hfr, hlo, hmc, hms⟩, hStr, hNs⟩ := X
  intro H locs ls hP hS hl
  have hP : va_P D vwCl (gWs B cA (pre ++ tl) u) H := hP
  obtain ⟨C, T, N, hc, hw, hj, hl0⟩ := hf
  obtain ⟨C2, T2, N2, ty, hc2, hty, hnm⟩ := hcl
  obtain ⟨C3, T3, N3, hc3, hfin, hpd⟩ := hpl
  rw [hc] at hc2 hc3
  cases hc2
  cases hc3
  have he : (pre ++ tl)[pre.length + i]? = some (.inl (ci, cs)) := by rw [ap_at]; exact hi
  refine va_put hx hb hts hw ty hty hnm ho hK hP (gWs_Db (fun _ h => h)) hS (pre.length + i) (gWs_at he) hc j hj (hts _ hl0) (fun _ h9 => h9) hfin hpd rfl rfl (by rw [gFs_len]; exact (List.getElem?_eq_some_iff.mp hj2).1) hdg (fun H1 locs1 hP1 hD1 hS1 => ?_)
  have hset : (gWs B cA (pre ++ tl) u).set (pre.length + i) (B + (pre.length + i), .inr (ci, (gFs B (pre.length + i) u 0 cs).set j (.int x))) = gWs B cA (pre ++ tl) (upI u (pre.length + i) j x) := by
    rw [upI_row]
    refine gWs_set he off_RI ?_
    rw [gFs_setI cs 0 j hj2, Nat.zero_add]
    rfl
  rw [hset] at hP1
  exact k H1 locs1 ls hP1 hS1 hl
theorem j_getR (X : gXJ κ (gAb B) cc nL own ret fr lo mc ms) {idx ci j i q : Nat} {cs : List Nat} (hf : gFL own idx ci j) (hi : tl[i]? = some (.inl (ci, cs))) (hj2 : cs[j]? = some (q + 3)) (hdg : decode cc pc = .ok (.getfield idx, 3)) (k : gJ κ nL (gAb B) Q c0 w0 (gWd B (pre ++ tl) u) (pc + 3) lv (.ref (B + q) :: st)) : gJ κ nL (gAb B) Q c0 w0 (gWd B (pre ++ tl) u) pc lv (.ref (B + (pre.length + i)) :: st) := by
  obtain ⟨p, l, e, R, s, m, args, below, meth, c, D, cA, adK, adV⟩ := κ
  obtain ⟨⟨hx, hb, hml, ho, hts⟩, hK, hr, hlk, ⟨hfr, hlo, hmc, hms⟩, hStr, hNs⟩ := X
  intro H locs ls hP hS hl
  obtain ⟨C, T, N, hc, hw, hj, hl0⟩ := hf
  have he : (pre ++ tl)[pre.length + i]? = some (.inl (ci, cs)) := by rw [ap_at]; exact hi
  exact va_get hx hb hts hw ho hK (show va_P D vwCl (gWs B cA (pre ++ tl) u) H from hP) (pre.length + i) (gWs_at he) hc j hj (hts _ hl0) (fun _ h9 => h9) (gFs_get hj2) hdg (k H locs ls hP hS hl)
theorem j_iast (X : gXJ κ (gAb B) cc nL own ret fr lo mc ms) {i N : Nat} {x v : Int32} (hi : tl[i]? = some (.inr (0, N, []))) (hin : vp_in x N) (hdg : decode cc pc = .ok (.iastore, 1)) (k : gJ κ nL (gAb B) Q c0 w0 (gWd B (pre ++ tl) (upI u (pre.length + i) x.toNatClampNeg v)) (pc + 1) lv st) : gJ κ nL (gAb B) Q c0 w0 (gWd B (pre ++ tl) u) pc lv (.int v :: .int x :: .ref (B + (pre.length + i)) :: st) := by
  obtain ⟨p, l, e, R, s, m, args, below, meth, c, D, cA, adK, adV⟩ := κ
  obtain ⟨⟨hx, hb, hml, ho, hts⟩, hK, hr, hlk, ⟨hfr, hlo, hmc, hms⟩, hStr, hNs⟩ := X
  intro H locs ls hP hS hl
  have he : (pre ++ tl)[pre.length + i]? = some (.inr (0, N, [])) := by rw [ap_at]; exact hi
  refine va_iast hx hb hK (show va_P D vwCl (gWs B cA (pre ++ tl) u) H from hP) (gWs_Db (fun _ h => h)) hS (pre.length + i) 0 (gWs_at he) rfl hin hdg (fun H1 locs1 hP1 hD1 hS1 => k H1 locs1 ls ?_ hS1 hl)
  show va_P D vwCl (gWs B cA (pre ++ tl) _) H1
  rw [upI_row]
  rw [gWs_set he off_RI] at hP1
  · exact hP1
  · simp [gC, gA0, upRI, upRJ, vp_nar, narrow]
theorem j_astq (X : gXJ κ (gAb B) cc nL own ret fr lo mc ms) {i N q : Nat} {rs : List Nat} {cs : List Nat} {x : Int32} (hi : tl[i]? = some (.inr (3, N, rs))) (hq : tl[q]? = some (.inl (8, cs))) (hrs : rs.length = N) (hin : vp_in x N) (htl : tl.set i (.inr (3, N, rs.set x.toNatClampNeg (pre.length + q + 3))) = tl') (hdg : decode cc pc = .ok (.aastore, 1)) (k : gJ κ nL (gAb B) Q c0 w0 (gWd B (pre ++ tl') u) (pc + 1) lv st) : gJ κ nL (gAb B) Q c0 w0 (gWd B (pre ++ tl) u) pc lv (.ref (B + (pre.length + q)) :: .int x :: .ref (B + (pre.length + i)) :: st) := by
  obtain ⟨p, l, e, R, s, m, args, below, meth, c, D, cA, adK, adV⟩ := κ
  obtain ⟨⟨hx, hb, hml, ho, hts⟩, hK, hr, hlk, ⟨hfr, hlo, hmc, hms⟩, hStr, hNs⟩ := X
  intro H locs ls hP hS hl
  have he : (pre ++ tl)[pre.length + i]? = some (.inr (3, N, rs)) := by rw [ap_at]; exact hi
  have heq : (pre ++ tl)[pre.length + q]? = some (.inl (8, cs)) := by rw [ap_at]; exact hq
  have hlt : x.toNatClampNeg < N := Nat.not_le.mp fun q => hin (Or.inr q)
  refine va_astq hx hb hK (show va_P D vwCl (gWs B cA (pre ++ tl) u) H from hP) (gWs_Db (fun _ h => h)) hS (pre.length + i) 3 (pre.length + q) 8 (gWs_at he) rfl (gWs_at heq) rfl hin hdg (fun H1 locs1 hP1 hD1 hS1 => k H1 locs1 ls ?_ hS1 hl)
  show va_P D vwCl (gWs B cA (pre ++ tl') u) H1
  have h2 := gWs_setE (B := B) (cA := cA) (u := u) (e := .inr (3, N, rs.set x.toNatClampNeg (pre.length + q + 3))) (List.getElem?_eq_some_iff.mp he).1
  rw [← htl, ← ap_set, ← h2]
  have h3 : va_up (gQr B rs) x.toNatClampNeg (some (B + (pre.length + q))) = gQr B (rs.set x.toNatClampNeg (pre.length + q + 3)) := by
    funext j
    unfold va_up gQr
    by_cases hj : j = x.toNatClampNeg
    · subst hj
      rw [List.getElem?_set_self (by rw [hrs]; exact hlt)]
      simp
    · rw [List.getElem?_set_ne (Ne.symm hj)]
      simp [hj]
  have h4 : gC B cA u (pre.length + i) (.inr (3, N, rs.set x.toNatClampNeg (pre.length + q + 3))) = .inl (cA 3, N, .inr (.inr (.inr (.inr (va_up (gQr B rs) x.toNatClampNeg (some (B + (pre.length + q)))))))) := by
    rw [h3]
    rfl
  rw [h4]
  exact hP1
theorem j_alen (X : gXJ κ (gAb B) cc nL own ret fr lo mc ms) {i N : Nat} {rs : List Nat} {v : Int32} (hi : tl[i]? = some (.inr (3, N, rs))) (hv : Int32.ofNat N = v) (hdg : decode cc pc = .ok (.arraylength, 1)) (k : gJ κ nL (gAb B) Q c0 w0 (gWd B (pre ++ tl) u) (pc + 1) lv (.int v :: st)) : gJ κ nL (gAb B) Q c0 w0 (gWd B (pre ++ tl) u) pc lv (.ref (B + (pre.length + i)) :: st) := by
  obtain ⟨p, l, e, R, s, m, args, below, meth, c, D, cA, adK, adV⟩ := κ
  obtain ⟨⟨hx, hb, hml, ho, hts⟩, hK, hr, hlk, ⟨hfr, hlo, hmc, hms⟩, hStr, hNs⟩ := X
  intro H locs ls hP hS hl
  have he : (pre ++ tl)[pre.length + i]? = some (.inr (3, N, rs)) := by rw [ap_at]; exact hi
  exact va_alen hx hb hK (show va_P D vwCl (gWs B cA (pre ++ tl) u) H from hP) (pre.length + i) 3 (gWs_at he) rfl hv hdg (k H locs ls hP hS hl)
theorem j_objInit {A : Nat → Prop} {Wd : va_G → (Nat → ClassId) → Heap → Prop} (X : gXJ κ A cc nL own ret fr lo mc ms) {idx x : Nat} (hw1 : Cond.methodLink own idx objectInit ∈ tb) (hw2 : Cond.instanceMethod objectInit ∈ tb) (hw3 : Cond.code objectInit ⟨#[0xb1]⟩ 1 none ∈ tb) (hfr1 : 1 ≤ fr) (hlo1 : (st.map fun v => v.category).sum + 12 ≤ lo) (hdg : decode cc pc = .ok (.invokespecial idx, 3)) (k : gJ κ nL A Q c0 w0 Wd (pc + 3) lv st) : gJ κ nL A Q c0 w0 Wd pc lv (.ref x :: st) := by
  obtain ⟨p, l, e, R, s, m, args, below, meth, c, D, cA, adK, adV⟩ := κ
  obtain ⟨⟨hx, hb, hml, ho, hts⟩, hK, hr, hlk, ⟨hfr, hlo, hmc, hms⟩, hStr, hNs⟩ := X
  intro H locs ls hP hS hl
  exact W.objInit hx hb ho (hts _ hw1) (hts _ hw2) (hts _ hw3) rfl (hl.1.trans hml.symm) rfl hdg (by rw [hfr]; exact hfr1) (by rw [hlo]; simpa [JFrame.monitorRoom] using hlo1) (k H locs ls hP hS hl)
theorem j_vret (X : gXJ κ (gAb B) cc nL own none fr lo mc ms) {sk : List gE} {Ψ : gM → Prop} (h : Ψ u) (hdg : decode cc pc = .ok (.return_, 1)) : gJ κ nL (gAb B) (gQn κ B mc ms sk Ψ) mc ms (gWd B sk u) pc lv [] := by
  obtain ⟨p, l, e, R, s, m, args, below, meth, c, D, cA, adK, adV⟩ := κ
  obtain ⟨⟨hx, hb, hml, ho, hts⟩, hK, hr, hlk, ⟨hfr, hlo, hmc, hms⟩, hStr, hNs⟩ := X
  intro H locs ls hP hS hl
  have hP : va_P D vwCl (gWs B cA sk u) H := hP
  exact W.vret hx hb hr (fun t ht hW => ⟨⟨u, rfl, h, by show va_P D vwCl (gWs B cA sk u) t.heap; rw [ht]; exact hP⟩, hS.F ht⟩) hS.2.2 hdg hlk
theorem j_callM (X : gXJ κ (gAb B) cc nL own ret fr lo mc ms) {sk : List gE} {y : MethodName} {cc2 : ByteArray} {nL2 fr2 lo2 n idx : Nat} {ret2 : Option FieldType} {ov : Nat → Option Value} {u2 : gM} {rest : List Value} {ci r : Nat} {cs : List Nat} (As : Nat → (Nat → Nat) → List Value) (hM : gMet sk y cc2 nL2 ret2 fr2 lo2 (fun B adK => .ref (B + r) :: As B adK) u (ov, u2)) (hw : gCV own idx ci n y cc2 nL2 ret2) (he : sk[r]? = some (.inl (ci, cs))) (hn : (As B (gAd κ)).length = n) (hst : st = (As B (gAd κ)).reverse ++ .ref (B + r) :: rest) (hc8 : (rest.map fun v => v.category).sum ≤ 8) (hq : fr2 + 1 ≤ fr ∧ 8 + (nL2 + 11) + lo2 ≤ lo) (hcw : c0 ≤ mc ∧ w0 ≤ ms) (hdg : decode cc pc = .ok (.invokevirtual idx, 3)) (k : gJ κ nL (gAb B) Q c0 w0 (gWd B sk u2) (pc + 3) lv ((ov B).toList ++ rest)) : gJ κ nL (gAb B) Q c0 w0 (gWd B sk u) pc lv st := by
  obtain ⟨p, l, e, R, s, m, args, below, meth, c, D, cA, adK, adV⟩ := κ
  obtain ⟨⟨hx, hb, hml, ho, hts⟩, hK, hr, hlk, ⟨hfr, hlo, hmc, hms⟩, hStr, hNs⟩ := X
  intro H locs ls hP hS hl
  have hP : va_P D vwCl (gWs B cA sk u) H := hP
  obtain ⟨C, T, N, hc, hG, hd⟩ := hw
  refine g_run rfl (va_runV ⟨hx, hb, hml, ho, hts⟩ (hM l D cA adK adV B) (cwV n hts hG rfl rfl rfl hd ⟨by rw [hfr]; exact hq.1, by rw [hlo]; exact hq.2⟩) ⟨g_blind, va_recv hK hP hc (gWs_at he), fun U hU hW => ⟨rfl, by rw [hU]; exact hP, va_K.moved hW.alike hK, gStA_narrow (gStA_M hStr hS hU hW) (fun q h => h.1)⟩⟩ rfl hn hl.1 hst (lv_room hc8) hdg ⟨by rw [hmc]; exact hcw.1, by rw [hms]; exact hcw.2⟩) hS (fun _ h => h.1) (fun H1 locs1 hP1 _ _ hS1 => k H1 locs1 ls hP1 hS1 hl)
theorem j_callI (X : gXJ κ (gAb B) cc nL own ret fr lo mc ms) (hsz : gSz h0 κ) {y : MethodName} {cc2 : ByteArray} {nL2 fr2 lo2 mc2 ms2 ci na idx : Nat} {ds : List Nat} {As : Nat → List Value} {tlC : Nat → List gE} {Φ : Nat → gM → Prop} {tl0 : List gE} {rest : List Value} (hM : gNw y cc2 nL2 fr2 lo2 mc2 ms2 ci ds As tlC Φ (pre ++ tl0)) (hw : gCI own idx na y cc2 nL2) (hz : gZ z u) (hzn : z ≤ pre.length + n) (hln : tl0.length = n) (hh : h0 + c0 = B + (pre.length + (n + 1))) (htl0 : tl0 ++ [.inl (ci, ds)] = tl) (htl : tl0 ++ tlC (pre.length + n) = tl') (hn : (As B).length = na) (hst : st = (As B).reverse ++ .ref (B + (pre.length + n)) :: rest) (hc8 : (rest.map fun v => v.category).sum ≤ 8) (hq : fr2 + 1 ≤ fr ∧ 8 + (nL2 + 11) + lo2 ≤ lo) (hcw : c0 + mc2 ≤ mc ∧ w0 + ms2 ≤ ms) (hdg : decode cc pc = .ok (.invokespecial idx, 3)) (k : ∀ u' : gM, off (fun c => pre.length + n ≤ c) u u' → gZ (pre.length + n + (tlC (pre.length + n)).length) u' → Φ (pre.length + n) u' → gJ κ nL (gAb B) Q (c0 + mc2) (w0 + ms2) (gWd B (pre ++ tl') u') (pc + 3) lv rest) : gJ κ nL (gAb B) Q c0 w0 (gWd B (pre ++ tl) u) pc lv st := by
  obtain ⟨p, l, e, R, s, m, args, below, meth, c, D, cA, adK, adV⟩ := κ
  obtain ⟨⟨hx, hb, hml, ho, hts⟩, hK, hr, hlk, ⟨hfr, hlo, hmc, hms⟩, hStr, hNs⟩ := X
  intro H locs ls hP hS hl
  have hP : va_P D vwCl (gWs B cA (pre ++ tl) u) H := hP
  have hsz : s.heap.size = h0 := hsz
  have hlp : (pre ++ tl0).length = pre.length + n := by rw [List.length_append, hln]
  have hll : (pre ++ tl).length = pre.length + (n + 1) := by rw [List.length_append, ← htl0, List.length_append, hln]; rfl
  refine W.size (fun hsz2 => ?_)
  have hHs : H.size = B + (pre.length + (n + 1)) := by
    have h1 := gWs_lt hP (by intro q; rw [q] at hll; simp at hll)
    rw [hll] at h1
    omega
  have hM2 := hM l D cA adK adV B u (by rw [hlp]; exact hz.mono hzn)
  rw [hlp] at hM2
  rw [List.append_assoc, htl0, List.append_assoc, htl] at hM2
  obtain ⟨hwc, hwi, hwm, hnm, hd, hlnk⟩ := hw
  have hp : PreS s H (va_Pc (.ref (B + (pre.length + n)) :: As B) (fun U => va_P D vwCl (gWs B cA (pre ++ tl) u) U.heap ∧ U.heap.size = B + (pre.length + n + 1) ∧ va_K D vwCl (gTy cA) U ∧ gStA adK adV (gAb B) U ∧ gNst U)) (.ref (B + (pre.length + n)) :: As B) := ⟨n_blind, fun U hU hW => ⟨rfl, by rw [hU]; exact hP, by rw [hU]; exact hHs, va_K.moved hW.alike hK, gStA_M hStr hS hU hW, gNst_M hNs hW⟩⟩
  have hrm : (fr2 + 1 ≤ R.frames ∧ 8 + (nL2 + 11) + lo2 ≤ R.locals) := ⟨by rw [hfr]; exact hq.1, by rw [hlo]; exact hq.2⟩
  have hrc : c0 + mc2 ≤ R.cells ∧ w0 + ms2 ≤ R.slots := ⟨by rw [hmc]; exact hcw.1, by rw [hms]; exact hcw.2⟩
  have hrun : va_Run p l e R s m args below meth c H locs c0 w0 mc2 ms2 (F0 m pc ls st) rest (va_Qv (fun u' : gM => off (fun c => pre.length + n ≤ c) u u' ∧ gZ (pre.length + n + (tlC (pre.length + n)).length) u' ∧ Φ (pre.length + n) u') (fun u' t => va_P D vwCl (gWs B cA (pre ++ tl') u') t.heap) (gAb B) (Value.ref (B + (pre.length + n)) :: As B).toArray) (gAb B) := by
    rcases hlnk with hlk1 | ⟨host, hlk1⟩
    · exact va_runI ⟨hx, hb, hml, ho, hts⟩ hM2 (cwI na hts (gi_c hwc) rfl rfl rfl (hts _ hwi) (hts _ hlk1) (hts _ hwm) hnm hd hrm) hp rfl hn hl.1 hst (lv_room hc8) hdg hrc
    · exact va_runIN ⟨hx, hb, hml, ho, hts⟩ hM2 ⟨va_cnB na hts (gi_c hwc) rfl rfl rfl (hNs.1 _ hlk1) (hts _ hwi) hd hrm, hnm, hts _ hwm⟩ hp rfl hn hl.1 hst (lv_room hc8) hdg hrc
  exact va_callv hrun hS (fun q _ h => h) (fun q h => h) (fun u' t H1 locs1 ht hvm hψ hB hz1 hk1 hS1 => k u' hψ.1 hψ.2.1 hψ.2.2 H1 locs1 ls (by rw [← ht]; exact hB) hS1 hl)
end JC
