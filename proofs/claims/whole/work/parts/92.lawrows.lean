/-! THE LAW'S ROWS: both worlds, the class's from B on, the model's behind it -/
def gW2 (B : Nat) (u v : gM) : va_G → (Nat → ClassId) → Heap → Prop := fun D cA H => va_P D vwCl (gWs B cA skC u) H ∧ va_P D vwCl (gWs (B + 162) cA skM v) H
def gScr (b L : Nat) (xs : Nat → Int32) (A : Nat → Prop) : gK → Prop
  | (_, _, _, _, s, _, _, _, _, _, _, _, _, _) => va_X b L xs s s.heap ∧ b < s.heap.size ∧ ¬ A b
section LR
variable {κ : gK} {cc : ByteArray} {nL : Nat} {own : String} {ret : Option FieldType} {fr lo mc ms B b L : Nat} {Q : State → Prop} {c0 w0 : Nat} {pc : Nat} {lv : List (Option Value)} {st : List Value} {u v : gM} {xs : Nat → Int32}
theorem j_sld {A : Nat → Prop} {Wd : va_G → (Nat → ClassId) → Heap → Prop} (X : gXJ κ A cc nL own ret fr lo mc ms) (hsc : gScr b L xs A κ) {x : Int32} {k : Nat} (hx0 : x = nI k) (hk : k < L) (hL : L ≤ 3072) (hdg : decode cc pc = .ok (.iaload, 1)) (k1 : gJ κ nL A Q c0 w0 Wd (pc + 1) lv (.int (xs k) :: st)) : gJ κ nL A Q c0 w0 Wd pc lv (.int x :: .ref b :: st) := by
  obtain ⟨p, l, e, R, s, m, args, below, meth, c, D, cA, adK, adV⟩ := κ
  obtain ⟨⟨hx, hb, hml, ho, hts⟩, hK, hr, hlk, ⟨hfr, hlo, hmc, hms⟩, hStr, hNs⟩ := X
  intro H locs ls hP hS hl
  have hin : vp_in x L := by rw [hx0]; exact vp_in_nI hk (by omega)
  have hv : x.toNatClampNeg = k := by rw [hx0]; exact nI_clamp (by omega)
  refine va_sld hx hb hsc.1 hsc.2.1 hsc.2.2 hS hin hdg ?_
  rw [hv]
  exact k1 H locs ls hP hS hl
theorem j_slen {A : Nat → Prop} {Wd : va_G → (Nat → ClassId) → Heap → Prop} (X : gXJ κ A cc nL own ret fr lo mc ms) (hsc : gScr b L xs A κ) (hdg : decode cc pc = .ok (.arraylength, 1)) (k1 : gJ κ nL A Q c0 w0 Wd (pc + 1) lv (.int (nI L) :: st)) : gJ κ nL A Q c0 w0 Wd pc lv (.ref b :: st) := by
  obtain ⟨p, l, e, R, s, m, args, below, meth, c, D, cA, adK, adV⟩ := κ
  obtain ⟨⟨hx, hb, hml, ho, hts⟩, hK, hr, hlk, ⟨hfr, hlo, hmc, hms⟩, hStr, hNs⟩ := X
  intro H locs ls hP hS hl
  exact va_slen hx hb hsc.1 hsc.2.1 hsc.2.2 hS hdg (k1 H locs ls hP hS hl)
theorem j_arg {A : Nat → Prop} {Wd : va_G → (Nat → ClassId) → Heap → Prop} (X : gXJ κ A cc nL own ret fr lo mc ms) (hsc : gScr b L xs A κ) {i k : Nat} {n : Int} {x1 x2 : Nat} (hlv : lv = [some (.ref b), some (.ref x1), some (.ref x2), some (.int (nI i))]) (hik : i + k < L) (hL : L ≤ 3072) (hn : Int32.ofInt n = nI k) (d0 : decode cc pc = .ok (.aload_n 0, 1)) (d1 : decode cc (pc + 1) = .ok (.iload_n 3, 1)) (d2 : decode cc (pc + 2) = .ok (.iconst n, 1)) (d3 : decode cc (pc + 3) = .ok (.iadd, 1)) (d4 : decode cc (pc + 4) = .ok (.iaload, 1)) (k1 : gJ κ nL A Q c0 w0 Wd (pc + 5) lv (.int (xs (i + k)) :: st)) : gJ κ nL A Q c0 w0 Wd pc lv st := by
  refine j_aload_n X (x := b) d0 (by rw [hlv]; rfl) ?_
  refine j_iload_n X (x := nI i) d1 (by rw [hlv]; rfl) ?_
  refine j_iconst X d2 hn ?_
  refine j_iadd X d3 ?_
  exact j_sld X hsc (nI_add i k) hik hL d4 k1
theorem gWs_keep {D : va_G} {B2 n : Nat} {cA : Nat → ClassId} {sk : List gE} {w : gM} {H H1 : Heap} {A : Nat → Prop} (hP : va_P D vwCl (gWs B2 cA sk w) H) (hA : ∀ q, B2 ≤ q → q < B2 + sk.length → ¬ A q) (hk : ∀ q : Nat, q < H.size → ¬ A q → H1[q]? = H[q]?) : va_P D vwCl (gWs B2 cA sk w) H1 := by
  refine hP.kept (fun k x hx => hk x.1 ((hP k x hx).lt) ?_)
  obtain ⟨e, h1, rfl⟩ := gWs_of hx
  have := (List.getElem?_eq_some_iff.mp h1).1
  exact hA _ (Nat.le_add_right _ _) (Nat.add_lt_add_left this _)
theorem skC_n : skC.length = 162 := by decide +kernel
theorem skM_n : skM.length = 31 := by decide +kernel
theorem j_call1 (X : gXJ κ (gAb B) cc nL own ret fr lo mc ms) {y : MethodName} {cc2 : ByteArray} {nL2 fr2 lo2 n idx : Nat} {ret2 : Option FieldType} {ov : Nat → Option Value} {u2 : gM} {rest : List Value} (As : List Value) (hM : gMet skC y cc2 nL2 ret2 fr2 lo2 (fun B _ => .ref (B + 0) :: As) u (ov, u2)) (hw : gCV own idx 11 n y cc2 nL2 ret2) (hn : As.length = n) (hst : st = As.reverse ++ .ref B :: rest) (hc8 : (rest.map fun v => v.category).sum ≤ 8) (hq : fr2 + 1 ≤ fr ∧ 8 + (nL2 + 11) + lo2 ≤ lo) (hcw : c0 ≤ mc ∧ w0 ≤ ms) (hdg : decode cc pc = .ok (.invokevirtual idx, 3)) (k : gJ κ nL (gAb B) Q c0 w0 (gW2 B u2 v) (pc + 3) lv ((ov B).toList ++ rest)) : gJ κ nL (gAb B) Q c0 w0 (gW2 B u v) pc lv st := by
  obtain ⟨p, l, e, R, s, m, args, below, meth, c, D, cA, adK, adV⟩ := κ
  obtain ⟨⟨hx, hb, hml, ho, hts⟩, hK, hr, hlk, ⟨hfr, hlo, hmc, hms⟩, hStr, hNs⟩ := X
  intro H locs ls hP hS hl
  obtain ⟨hP1, hP2⟩ := hP
  obtain ⟨C, T, N, hc, hG, hd⟩ := hw
  refine g_run rfl (va_runV (As := As) (rest := rest) ⟨hx, hb, hml, ho, hts⟩ (hM l D cA adK adV B) (cwV n hts hG rfl rfl rfl hd ⟨by rw [hfr]; exact hq.1, by rw [hlo]; exact hq.2⟩) ⟨g_blind, va_recv hK hP1 hc (gWs_at cC_0), fun U hU hW => ⟨rfl, by rw [hU]; exact hP1, va_K.moved hW.alike hK, gStA_narrow (gStA_M hStr hS hU hW) (fun q h => h.1)⟩⟩ rfl hn hl.1 hst (lv_room hc8) hdg ⟨by rw [hmc]; exact hcw.1, by rw [hms]; exact hcw.2⟩) hS (fun _ h => h.1) (fun H1 locs1 hq1 _ hk1 hS1 => k H1 locs1 ls ⟨hq1, gWs_keep (n := 0) hP2 (fun q h1 h2 h3 => by have := h3.2; rw [skC_n] at this; omega) hk1⟩ hS1 hl)
theorem j_call2 (X : gXJ κ (gAb B) cc nL own ret fr lo mc ms) {y : MethodName} {cc2 : ByteArray} {nL2 fr2 lo2 n idx : Nat} {ret2 : Option FieldType} {ov : Nat → Option Value} {v2 : gM} {rest : List Value} (As : List Value) (hM : gMet skM y cc2 nL2 ret2 fr2 lo2 (fun B _ => .ref (B + 0) :: As) v (ov, v2)) (hw : gCV own idx 12 n y cc2 nL2 ret2) (hn : As.length = n) (hst : st = As.reverse ++ .ref (B + 162) :: rest) (hc8 : (rest.map fun v => v.category).sum ≤ 8) (hq : fr2 + 1 ≤ fr ∧ 8 + (nL2 + 11) + lo2 ≤ lo) (hcw : c0 ≤ mc ∧ w0 ≤ ms) (hdg : decode cc pc = .ok (.invokevirtual idx, 3)) (k : gJ κ nL (gAb B) Q c0 w0 (gW2 B u v2) (pc + 3) lv ((ov (B + 162)).toList ++ rest)) : gJ κ nL (gAb B) Q c0 w0 (gW2 B u v) pc lv st := by
  obtain ⟨p, l, e, R, s, m, args, below, meth, c, D, cA, adK, adV⟩ := κ
  obtain ⟨⟨hx, hb, hml, ho, hts⟩, hK, hr, hlk, ⟨hfr, hlo, hmc, hms⟩, hStr, hNs⟩ := X
  intro H locs ls hP hS hl
  obtain ⟨hP1, hP2⟩ := hP
  obtain ⟨C, T, N, hc, hG, hd⟩ := hw
  refine g_run rfl (va_runV (As := As) (rest := rest) ⟨hx, hb, hml, ho, hts⟩ (hM l D cA adK adV (B + 162)) (cwV n hts hG rfl rfl rfl hd ⟨by rw [hfr]; exact hq.1, by rw [hlo]; exact hq.2⟩) ⟨g_blind, va_recv hK hP2 hc (gWs_at cM_0), fun U hU hW => ⟨rfl, by rw [hU]; exact hP2, va_K.moved hW.alike hK, gStA_narrow (gStA_M hStr hS hU hW) (fun q h => by have := h.1; show B ≤ q; omega)⟩⟩ rfl hn hl.1 hst (lv_room hc8) hdg ⟨by rw [hmc]; exact hcw.1, by rw [hms]; exact hcw.2⟩) hS (fun q h => by have := h.1; show B ≤ q; omega) (fun H1 locs1 hq1 _ hk1 hS1 => k H1 locs1 ls ⟨gWs_keep (n := 0) hP1 (fun q h1 h2 h3 => by have := h3.1; rw [skC_n] at h2; omega) hk1, hq1⟩ hS1 hl)
end LR
