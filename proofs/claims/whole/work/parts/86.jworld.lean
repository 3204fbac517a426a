/-! rows that make cells, and that write finals -/
def gZ (n : Nat) (u : gM) : Prop := ∀ c, n ≤ c → u.1 c = (fun _ => 0) ∧ u.2 c = (fun _ => 0)
theorem gZ.mono {n k : Nat} {u : gM} (h : gZ n u) (hk : n ≤ k) : gZ k u := fun c hc => h c (Nat.le_trans hk hc)
theorem gZ.upI {n k j : Nat} {x : Int32} {u : gM} (h : gZ n u) (hk : k < n) : gZ n (upI u k j x) := fun c hc => ⟨by
  have : c ≠ k := by omega
  show (fun i => if c = k then _ else u.1 c i) = _
  rw [← (h c hc).1]
  funext i
  rw [if_neg this], (h c hc).2⟩
theorem gZ.off {n : Nat} {S : Nat → Prop} {u v : gM} (h : gZ n u) (ho : off S u v) (hS : ∀ c, S c → c < n) : gZ n v := fun c hc => by
  have : ¬ S c := fun z => by have := hS c z; omega
  rw [(ho c this).1, (ho c this).2]
  exact h c hc
def gDv : Nat → Value
  | 0 => .int 0
  | 1 => .long 0
  | _ => .null
def gNe (own : String) (idx ci N : Nat) (ds : List Nat) : Prop := ∃ (C : String) (T : u_T) (ty : Nat → FieldType), vwCl[ci]? = some (C, T, N) ∧ (∀ w ∈ u_ws C T N, w ∈ tb) ∧ (∀ k, k < N → parseFieldDescriptor (T k).2.2.1 = some (ty k)) ∧ Cond.classLink own idx C ∈ tb ∧ Cond.instantiable C N ∈ tb ∧ Cond.initialized C ∈ tb ∧ ds.map gDv = (List.range N).map (fun j => defaultValue (ty j)) ∧ ∀ c ∈ ds, c ≤ 2
def gPF (own : String) (ci j : Nat) (ty : FieldType) : Prop := ∃ (C : String) (T : u_T) (N : Nat), vwCl[ci]? = some (C, T, N) ∧ (T j).2.2.2 = true ∧ (T j).1 = own ∧ parseFieldDescriptor (T j).2.2.1 = some ty ∧ (∀ x, narrow ty (.ref x) = .ref x) ∧ ∀ x, fits ty (.ref x) = true
theorem gFs_dv {B k : Nat} {u : gM} (h1 : u.1 k = fun _ => 0) (h2 : u.2 k = fun _ => 0) : ∀ (cs : List Nat) (j : Nat), (∀ c ∈ cs, c ≤ 2) → gFs B k u j cs = cs.map gDv
  | [], _, _ => rfl
  | c :: cs, j, h => by
    simp only [gFs, List.map_cons]
    rw [gFs_dv h1 h2 cs (j + 1) (fun x hx => h x (List.mem_cons_of_mem _ hx))]
    congr 1
    have := h c List.mem_cons_self
    rcases (show c = 0 ∨ c = 1 ∨ c = 2 by omega) with rfl | rfl | rfl
    · simp [gF, h1, gDv]
    · simp [gF, h2, gDv]
    · rfl
theorem gFs_setR {B k : Nat} {u : gM} {x : Nat} : ∀ (cs : List Nat) (j0 j : Nat), (gFs B k u j0 cs).set j (.ref (B + x)) = gFs B k u j0 (cs.set j (x + 3))
  | [], _, _ => rfl
  | _ :: _, _, 0 => rfl
  | c :: cs, j0, j + 1 => by
    simp only [gFs, List.set_cons_succ]
    rw [gFs_setR cs (j0 + 1) j]
theorem gWs_setE {B k : Nat} {cA : Nat → ClassId} {sk : List gE} {u : gM} {e : gE} (hk : k < sk.length) : (gWs B cA sk u).set k (B + k, gC B cA u k e) = gWs B cA (sk.set k e) u := by
  apply List.ext_getElem?
  intro i
  have hl : (gWs B cA sk u).length = sk.length := by
    apply Nat.le_antisymm
    · refine Nat.le_of_not_lt fun h => ?_
      have := gWs_all (B := B) (cA := cA) (sk := sk) (u := u) (k := sk.length)
      rw [List.getElem?_eq_none (Nat.le_refl _), List.getElem?_eq_getElem h] at this
      cases this
    · refine Nat.le_of_not_lt fun h => ?_
      have := gWs_all (B := B) (cA := cA) (sk := sk) (u := u) (k := (gWs B cA sk u).length)
      rw [List.getElem?_eq_none (Nat.le_refl _), List.getElem?_eq_getElem h] at this
      cases this
  by_cases hi : i = k
  · subst hi
    rw [List.getElem?_set_self (by rw [hl]; exact hk), gWs_all, List.getElem?_set_self hk]
    rfl
  · rw [List.getElem?_set_ne (Ne.symm hi), gWs_all, gWs_all, List.getElem?_set_ne (Ne.symm hi)]
theorem gWf_app (B : Nat) (cA : Nat → ClassId) (u : gM) (e : gE) : ∀ (sk : List gE) (k : Nat), gWf B cA u k (sk ++ [e]) = gWf B cA u k sk ++ [(B + (k + sk.length), gC B cA u (k + sk.length) e)]
  | [], _ => rfl
  | a :: sk, k => by
    simp only [List.cons_append, gWf]
    rw [gWf_app B cA u e sk (k + 1), List.length_cons, show k + 1 + sk.length = k + (sk.length + 1) by omega]
theorem gWs_app {B : Nat} {cA : Nat → ClassId} {u : gM} {e : gE} {sk : List gE} : gWs B cA (sk ++ [e]) u = gWs B cA sk u ++ [(B + sk.length, gC B cA u sk.length e)] := by
  unfold gWs
  rw [gWf_app, Nat.zero_add]
theorem gWs_lt {D : va_G} {B : Nat} {cA : Nat → ClassId} {u : gM} {sk : List gE} {H : Heap} (hP : va_P D vwCl (gWs B cA sk u) H) (h : sk ≠ []) : B + sk.length ≤ H.size := by
  have h0 : 0 < sk.length := List.length_pos_iff.mpr h
  have h1 : sk.length - 1 < sk.length := by omega
  have := (hP (sk.length - 1) _ (gWs_at (List.getElem?_eq_getElem h1))).lt
  have h2 : B + (sk.length - 1) < H.size := this
  omega
theorem W.size {p : Program} {l : Launch} {e : Env} {R : Room} {s : State} {m : MethodId} {args : Array Value} {below : List Frame} {meth : Method} {c : Code} {H : Heap} {locs : List Loc} {cells slots : Nat} {Q : State → Prop} {g : JFrame} (k : H.size ≤ s.heap.size + cells → W p l e R s m args below meth c H locs cells slots Q g) : W p l e R s m args below meth c H locs cells slots Q g := fun T hT X => k (by rw [← hT]; exact X.heapSize) T hT X
theorem ap_at {pre tl : List gE} {i : Nat} : (pre ++ tl)[pre.length + i]? = tl[i]? := by rw [List.getElem?_append_right (Nat.le_add_right _ _), Nat.add_sub_cancel_left]
theorem ap_set {pre tl : List gE} {i : Nat} {e : gE} : (pre ++ tl).set (pre.length + i) e = pre ++ tl.set i e := by rw [List.set_append_right _ _ (Nat.le_add_right _ _), Nat.add_sub_cancel_left]
/-- one system's world alone, from B on -/
def gWd (B : Nat) (sk : List gE) (u : gM) : va_G → (Nat → ClassId) → Heap → Prop := fun D cA H => va_P D vwCl (gWs B cA sk u) H
def gSz (h : Nat) : gK → Prop
  | (_, _, _, _, s, _, _, _, _, _, _, _, _, _) => s.heap.size = h
theorem va_PS {D : va_G} {B n : Nat} {cA : Nat → ClassId} {sk : List gE} {u : gM} {e : gE} {H H1 : Heap} (hP : va_P D vwCl (gWs B cA sk u) H) (hn : sk.length = n) (o1 : ∀ q, q < H.size → H1[q]? = H[q]?) (h : va_at D vwCl (B + n, gC B cA u n e) H1) : va_P D vwCl (gWs B cA (sk ++ [e]) u) H1 := by
  rw [gWs_app, hn]
  refine (hP.kept (fun k x hx => o1 x.1 ((hP k x hx).lt))).app (fun k x hx => ?_)
  have hz : k < 1 := (List.getElem?_eq_some_iff.mp hx).1
  rw [show k = 0 by omega] at hx
  cases hx
  exact h
section JW
variable {κ : gK} {cc : ByteArray} {nL : Nat} {own : String} {ret : Option FieldType} {fr lo mc ms B h0 z n : Nat} {Q : State → Prop} {c0 w0 : Nat} {pc : Nat} {lv : List (Option Value)} {st : List Value} {u : gM} {pre tl tl' : List gE}
theorem j_new (X : gXJ κ (gAb B) cc nL own ret fr lo mc ms) (hsz : gSz h0 κ) {idx ci N : Nat} {ds : List Nat} (hn : gNe own idx ci N ds) (hz : gZ z u) (hzn : z ≤ pre.length + n) (hln : tl.length = n) (hne : 0 < n) (hh : h0 + c0 = B + (pre.length + n)) (htl : tl ++ [.inl (ci, ds)] = tl') (hc : c0 + 1 ≤ mc) (hw : w0 + N ≤ ms) (hdg : decode cc pc = .ok (.new idx, 3)) (k : gJ κ nL (gAb B) Q (c0 + 1) (w0 + N) (gWd B (pre ++ tl') u) (pc + 3) lv (.ref (B + (pre.length + n)) :: st)) : gJ κ nL (gAb B) Q c0 w0 (gWd B (pre ++ tl) u) pc lv st := by
  obtain ⟨p, l, e, R, s, m, args, below, meth, c, D, cA, adK, adV⟩ := κ
  obtain ⟨⟨hx, hb, hml, ho, hts⟩, hK, hr, hlk, ⟨hfr, hlo, hmc, hms⟩, hStr, hNs⟩ := X
  intro H locs ls hP hS hl
  obtain ⟨C, T, ty, hcl, hws, hty, hk1, hk2, hk3, hds, hd2⟩ := hn
  have hKn := hK.1 ci _ hcl
  have hsz : s.heap.size = h0 := hsz
  have hll : (pre ++ tl).length = pre.length + n := by rw [List.length_append, hln]
  refine W.size (fun hsz2 => ?_)
  have hHs : H.size = B + (pre.length + n) := by
    have h1 := gWs_lt (show va_P D vwCl (gWs B cA (pre ++ tl) u) H from hP) (by intro q; rw [q] at hll; simp at hll; omega)
    rw [hll] at h1
    omega
  refine W.newcK hx hb ho (hts _ hk1) (hts _ hk2) (hts _ hk3) rfl hdg (by rw [hmc]; exact hc) (by rw [hms]; exact hw) hKn.2.1 hHs fun H1 kC hkC e1 z1 o1 => ?_
  have hzz := hz (pre.length + n) hzn
  refine k H1 locs ls ?_ ⟨Nat.le_trans hS.1 (by omega), fun x g1 g2 => (o1 x (by have := hS.1; omega)).trans (hS.2.1 x g1 g2), hS.2.2⟩ hl
  show va_P D vwCl (gWs B cA (pre ++ tl') u) H1
  rw [← htl, ← List.append_assoc]
  refine va_PS (show va_P D vwCl (gWs B cA (pre ++ tl) u) H from hP) hll (fun q hq => o1 q (by omega)) ?_
  refine ⟨_, hcl, (u_born ty hts hws hKn hkC e1 hty).to (fun j hj => ?_)⟩
  have hj : j < N := hj
  show defaultValue (ty j) = vp_V (gFs B (pre.length + n) u 0 ds) j
  rw [gFs_dv hzz.1 hzz.2 ds 0 hd2, hds]
  unfold vp_V
  rw [List.getD_eq_getElem?_getD, List.getElem?_map, List.getElem?_range hj]
  rfl
theorem j_newa (X : gXJ κ (gAb B) cc nL own ret fr lo mc ms) (hsz : gSz h0 κ) {atype : ArrayType} {t N : Nat} {x : Int32} (harr : Cond.arrayClass (newarray.typeOf atype) ∈ tb) (hat : (t = 0 ∧ atype = .int) ∨ (t = 1 ∧ atype = .long) ∨ (t = 2 ∧ atype = .byte)) (hN : x.toNatClampNeg = N) (hx0 : ¬ x < 0) (hb8 : N * 8 ≤ 536870912) (hz : gZ z u) (hzn : z ≤ pre.length + n) (hln : tl.length = n) (hne : 0 < n) (hh : h0 + c0 = B + (pre.length + n)) (htl : tl ++ [.inr (t, N, [])] = tl') (hc : c0 + 1 ≤ mc) (hw : w0 + N ≤ ms) (hdg : decode cc pc = .ok (.newarray atype, 2)) (k : gJ κ nL (gAb B) Q (c0 + 1) (w0 + N) (gWd B (pre ++ tl') u) (pc + 2) lv (.ref (B + (pre.length + n)) :: st)) : gJ κ nL (gAb B) Q c0 w0 (gWd B (pre ++ tl) u) pc lv (.int x :: st) := by
  obtain ⟨p, l, e, R, s, m, args, below, meth, c, D, cA, adK, adV⟩ := κ
  obtain ⟨⟨hx, hb, hml, ho, hts⟩, hK, hr, hlk, ⟨hfr, hlo, hmc, hms⟩, hStr, hNs⟩ := X
  intro H locs ls hP hS hl
  have hsz : s.heap.size = h0 := hsz
  have hll : (pre ++ tl).length = pre.length + n := by rw [List.length_append, hln]
  refine W.size (fun hsz2 => ?_)
  have hHs : H.size = B + (pre.length + n) := by
    have h1 := gWs_lt (show va_P D vwCl (gWs B cA (pre ++ tl) u) H from hP) (by intro q; rw [q] at hll; simp at hll; omega)
    rw [hll] at h1
    omega
  have hbt : N * componentBytes (newarray.typeOf atype) ≤ 536870912 := by
    refine Nat.le_trans (Nat.mul_le_mul_left N ?_) hb8
    rcases hat with ⟨-, rfl⟩ | ⟨-, rfl⟩ | ⟨-, rfl⟩ <;> decide
  refine va_newaK hx hb (hts _ harr) rfl hdg rfl hx0 hN hbt (by rw [hmc]; exact hc) (by rw [hms]; exact hw) hHs fun H1 cA2 e1 z1 o1 _ hNm => ?_
  have hzz := hz (pre.length + n) hzn
  refine k H1 locs ls ?_ ⟨Nat.le_trans hS.1 (by omega), fun x g1 g2 => (o1 x (by have := hS.1; omega)).trans (hS.2.1 x g1 g2), hS.2.2⟩ hl
  show va_P D vwCl (gWs B cA (pre ++ tl') u) H1
  rw [← htl, ← List.append_assoc]
  refine va_PS (show va_P D vwCl (gWs B cA (pre ++ tl) u) H from hP) hll (fun q hq => o1 q (by omega)) ?_
  show H1[B + (pre.length + n)]? = some (vp_cell (cA t) (N, gA0 B (pre.length + n) u [] t))
  rw [e1]
  rcases hat with ⟨rfl, rfl⟩ | ⟨rfl, rfl⟩ | ⟨rfl, rfl⟩
  · have hc2 : cA2 = cA 0 := Option.some.inj (hNm.symm.trans (hK.2 0 _ rfl).2)
    simp only [gA0, hzz.1, vp_cell_i, hc2]
    rfl
  · have hc2 : cA2 = cA 1 := Option.some.inj (hNm.symm.trans (hK.2 1 _ rfl).2)
    simp only [gA0, hzz.2, vp_cell_l, hc2]
    rfl
  · have hc2 : cA2 = cA 2 := Option.some.inj (hNm.symm.trans (hK.2 2 _ rfl).2)
    simp only [gA0, hzz.1, vp_cell_i, hc2]
    rfl
theorem j_newq (X : gXJ κ (gAb B) cc nL own ret fr lo mc ms) (hsz : gSz h0 κ) {idx N : Nat} {x : Int32} (hcl : Cond.classLink own idx RX8 ∈ tb) (hN : x.toNatClampNeg = N) (hx0 : ¬ x < 0) (hb8 : N * 4 ≤ 536870912) (hln : tl.length = n) (hne : 0 < n) (hh : h0 + c0 = B + (pre.length + n)) (htl : tl ++ [.inr (3, N, List.replicate N 2)] = tl') (hc : c0 + 1 ≤ mc) (hw : w0 + N ≤ ms) (hdg : decode cc pc = .ok (.anewarray idx, 3)) (k : gJ κ nL (gAb B) Q (c0 + 1) (w0 + N) (gWd B (pre ++ tl') u) (pc + 3) lv (.ref (B + (pre.length + n)) :: st)) : gJ κ nL (gAb B) Q c0 w0 (gWd B (pre ++ tl) u) pc lv (.int x :: st) := by
  obtain ⟨p, l, e, R, s, m, args, below, meth, c, D, cA, adK, adV⟩ := κ
  obtain ⟨⟨hx, hb, hml, ho, hts⟩, hK, hr, hlk, ⟨hfr, hlo, hmc, hms⟩, hStr, hNs⟩ := X
  subst hN
  intro H locs ls hP hS hl
  have hsz : s.heap.size = h0 := hsz
  have hll : (pre ++ tl).length = pre.length + n := by rw [List.length_append, hln]
  refine W.size (fun hsz2 => ?_)
  have hHs : H.size = B + (pre.length + n) := by
    have h1 := gWs_lt (show va_P D vwCl (gWs B cA (pre ++ tl) u) H from hP) (by intro q; rw [q] at hll; simp at hll; omega)
    rw [hll] at h1
    omega
  refine W.anew hx hb ho (hts _ hcl) (va_AO.use hNs.2) rfl hdg rfl hx0 hb8 (by rw [hmc]; exact hc) (by rw [hms]; exact hw) fun cA2 kA comp f1 f2 f3 f4 => ?_
  generalize hH1 : H.push ({ cls := cA2, slots := Array.replicate x.toNatClampNeg .null, vm := .none } : Cell) = H1
  have z1 : H1.size = H.size + 1 := by rw [← hH1, Array.size_push]
  have e1 : H1[H.size]? = some (arrV cA2 x.toNatClampNeg (fun _ => .null)) := by rw [← hH1, Array.getElem?_push_size, ← arrV_new]
  have o1 : ∀ q : Nat, q < H.size → H1[q]? = H[q]? := fun q hq => by rw [← hH1, Array.getElem?_push, if_neg (Nat.ne_of_lt hq)]
  have hc2 : cA2 = cA 3 := by
    obtain ⟨_, _, _, _, _, q⟩ := (hK.2 3 _ rfl).2
    exact Option.some.inj (f1.symm.trans q)
  have hg : W p l e R s m args below meth c H1 locs (c0 + 1) (w0 + x.toNatClampNeg) Q (F0 m (pc + 3) ls (.ref H.size :: st)) := by
    rw [hHs]
    refine k H1 locs ls ?_ ⟨Nat.le_trans hS.1 (by omega), fun x g1 g2 => (o1 x (by have := hS.1; omega)).trans (hS.2.1 x g1 g2), hS.2.2⟩ hl
    show va_P D vwCl (gWs B cA (pre ++ tl') u) H1
    rw [← htl, ← List.append_assoc]
    refine va_PS (show va_P D vwCl (gWs B cA (pre ++ tl) u) H from hP) hll (fun q hq => o1 q hq) ?_
    show H1[B + (pre.length + n)]? = some (vp_cell (cA 3) (x.toNatClampNeg, gA0 B (pre.length + n) u (List.replicate x.toNatClampNeg 2) 3))
    rw [← hHs, e1, ← hc2]
    show _ = some (vp_cell cA2 (x.toNatClampNeg, .inr (.inr (.inr (.inr (gQr B (List.replicate x.toNatClampNeg 2)))))))
    rw [vp_cell_q]
    congr 2
    funext j
    unfold gQr
    by_cases hj : j < x.toNatClampNeg
    · simp [List.getElem?_replicate, hj, va_rf]
    · simp [List.getElem?_replicate, hj, va_rf]
  exact hg
end JW
