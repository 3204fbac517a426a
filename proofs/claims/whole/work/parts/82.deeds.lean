/-! DEEDS, read -/
def mcd (j : Nat) : Nat := if j ≤ 16 then j - 14 else j - 15
def DK (n mc a b : Nat) (u u1 v v1 : gM) : Prop := (u1.1 132 0 = u.1 132 0) ∧ (u1.1 132 6 = nI a) ∧ (u1.1 132 7 = nI b) ∧ (∀ c, 133 ≤ c → c ≤ 135 → u1.1 c = u.1 c) ∧ (v1.1 0 43 = v.1 0 43) ∧ (∀ i, i < 3 * n → v1.1 27 i = v.1 27 i) ∧ (v1.1 27 (3 * n) = nI mc) ∧ (v1.1 27 (3 * n + 1) = nI a) ∧ (v1.1 27 (3 * n + 2) = nI b)
theorem DK.c0 {n mc a b : Nat} {u u1 v v1 : gM} (h : DK n mc a b u u1 v v1) : u1.1 132 0 = u.1 132 0 := h.1
theorem DK.c6 {n mc a b : Nat} {u u1 v v1 : gM} (h : DK n mc a b u u1 v v1) : u1.1 132 6 = nI a := h.2.1
theorem DK.c7 {n mc a b : Nat} {u u1 v v1 : gM} (h : DK n mc a b u u1 v v1) : u1.1 132 7 = nI b := h.2.2.1
theorem DK.cr {n mc a b : Nat} {u u1 v v1 : gM} (h : DK n mc a b u u1 v v1) : ∀ c, 133 ≤ c → c ≤ 135 → u1.1 c = u.1 c := h.2.2.2.1
theorem DK.m0 {n mc a b : Nat} {u u1 v v1 : gM} (h : DK n mc a b u u1 v v1) : v1.1 0 43 = v.1 0 43 := h.2.2.2.2.1
theorem DK.ml {n mc a b : Nat} {u u1 v v1 : gM} (h : DK n mc a b u u1 v v1) : ∀ i, i < 3 * n → v1.1 27 i = v.1 27 i := h.2.2.2.2.2.1
theorem DK.m1 {n mc a b : Nat} {u u1 v v1 : gM} (h : DK n mc a b u u1 v v1) : v1.1 27 (3 * n) = nI mc := h.2.2.2.2.2.2.1
theorem DK.m2 {n mc a b : Nat} {u u1 v v1 : gM} (h : DK n mc a b u u1 v v1) : v1.1 27 (3 * n + 1) = nI a := h.2.2.2.2.2.2.2.1
theorem DK.m3 {n mc a b : Nat} {u u1 v v1 : gM} (h : DK n mc a b u u1 v v1) : v1.1 27 (3 * n + 2) = nI b := h.2.2.2.2.2.2.2.2
def DRd (u0 v0 : gM) (T : gT) (s : tpT) (p0 n j : Nat) (x y : Option (Int32 × gM)) (u v : gM) : Prop :=
  (∃ u1 v1, x = some (nI 0, u1) ∧ y = some (nI 0, v1) ∧ BF u0 v0 u1 v1) ∨
  (∃ t' a b u1 v1, x = some (nI 1, u1) ∧ y = X12_readDeed_b323 1 v1 ∧ p0 + 5 ≤ t'.2.1 ∧ PB u0 v0 T s t' u1 v1 ∧ a ≤ 100000000 ∧ b ≤ 100000000 ∧ DK n (mcd j) a b u u1 v v1)
section DD
variable {u0 v0 u v u1 v1 : gM} {s : tpT} {t t1 : tkT} {T : gT} {n : Nat}
/-- what the model lays ahead of a DEED's own -/
theorem m_pre {mc : Nat} (hmc : mc < 6) (hS : TS s) (hn : n < 119) (h : PB u0 v0 T s t u v) (h43 : v.1 0 43 = nI n) : ∃ u1 v1, X9_step u = some u1 ∧ X12_next (upI (upI v 27 (3 * n) (nI mc)) 27 (3 * n + 2) (nI 0)) = some v1 ∧ PB u0 v0 T s (nx s t) u1 v1 ∧ o1 u u1 ∧ v1.1 0 43 = nI n ∧ (∀ i, i < 3 * n → v1.1 27 i = v.1 27 i) ∧ v1.1 27 (3 * n) = nI mc ∧ v1.1 27 (3 * n + 2) = nI 0 ∧ X12_readDeed_b79 (nI mc) v = (if (nI mc : Int32) = 2 then ((X12_readBank v1).bind fun w155 => ((X12_lays 1 w155.1 w155.2).bind fun w158 => (if w158.1 = 0 then (X12_readDeed_b189 w158.2)
      else ((X12_takes 18 w158.2).bind fun w167 => (if w167.1 = 0 then (X12_readDeed_b189 w167.2)
        else ((X12_readBank w167.2).bind fun w176 => ((X12_lays 2 w176.1 w176.2).bind fun w179 => (if w179.1 = 0 then (X12_readDeed_b189 w179.2)
          else (X12_readDeed_b190 1 w179.2)))))))))
    else (if (nI mc : Int32) = 3 then ((X12_readNumber 0 100000000 v1).bind fun w201 => ((X12_lays 1 w201.1 w201.2).bind fun w204 => (X12_readDeed_b323 w204.1 w204.2)))
    else (if (nI mc : Int32) = 4 then ((X12_readNumber 0 100000000 v1).bind fun w218 => ((X12_lays 1 w218.1 w218.2).bind fun w221 => (if w221.1 = 0 then (X12_readDeed_b247 w221.2)
      else ((X12_readNumber 0 100000000 w221.2).bind fun w234 => ((X12_lays 2 w234.1 w234.2).bind fun w237 => (if w237.1 = 0 then (X12_readDeed_b247 w237.2)
        else (X12_readDeed_b248 1 w237.2)))))))
    else (if (nI mc : Int32) = 5 then ((X12_readBank v1).bind fun w255 => ((X12_lays 1 w255.1 w255.2).bind fun w258 => (if w258.1 = 0 then (X12_readDeed_b284 w258.2)
      else ((X12_readNumber 0 100000000 w258.2).bind fun w271 => ((X12_lays 2 w271.1 w271.2).bind fun w274 => (if w274.1 = 0 then (X12_readDeed_b284 w274.2)
        else (X12_readDeed_b285 1 w274.2)))))))
    else ((X12_readNumber 0 100000000 v1).bind fun w296 => ((X12_lays 2 w296.1 w296.2).bind fun w299 => (if w299.1 = 0 then (X12_readDeed_b321 w299.2)
    else ((X12_readHere w299.2).bind fun w308 => ((X12_lays 1 w308.1 w308.2).bind fun w311 => (if w311.1 = 0 then (X12_readDeed_b321 w311.2)
      else (X12_readDeed_b322 1 w311.2)))))))))))  := by
  have h' := (h.m27 (i := 3 * n) (x := nI mc)).m27 (i := 3 * n + 2) (x := nI 0)
  obtain ⟨u1, v1, e1, e2, h1, oc, om⟩ := p_step hS h'
  refine ⟨u1, v1, e1, e2, h1, oc, ?_, fun i hi => ?_, ?_, ?_, ?_⟩
  · rw [om.i 43 (by omega), upI_k (by omega), upI_k (by omega)]; exact h43
  · rw [(om.o 27 (by omega)).1, upI_j (by omega), upI_j (by omega)]
  · rw [(om.o 27 (by omega)).1, upI_j (by omega), upI_at]
  · rw [(om.o 27 (by omega)).1, upI_at]
  · unfold X12_readDeed_b79
    rw [if_neg (show ¬ nI mc = -1 from (nI_m1 (show mc < 2 ^ 31 by omega)).mp), h43, show (3 * nI n : Int32) = nI (3 * n) by rw [nI_lit, pk_mul], bnd (sM27 (show 3 * n < 360 by omega)), upI_k (show 0 ≠ 27 by omega), h43, show (3 * nI n + 2 : Int32) = nI (3 * n + 2) by rw [nI_lit, nI_lit, pk_mul, nI_add], bnd (show sI skM (upI v 27 (3 * n) (nI mc)) 27 (nI (3 * n + 2)) 0 = some (upI (upI v 27 (3 * n) (nI mc)) 27 (3 * n + 2) (nI 0)) from sM27 (show 3 * n + 2 < 360 by omega)), bnd e2]
theorem R_put {j : Nat} (hj : j = 14 ∨ j = 15) (hS : TS s) (hV : VT T) (hn : n < 119) (h : PB u0 v0 T s t u v) (h43 : v.1 0 43 = nI n) (hl : t.2.1 + 3 ≤ t.2.2) : DRd u0 v0 T s t.2.1 n j (X2_readDeed (nI j) u) (X12_readDeed_b79 (nI (mcd j)) v) u v := by
  have hna := hV.na
  have hmc : mcd j < 2 := by rcases hj with rfl | rfl <;> decide
  obtain ⟨u1, v1, e1, e2, h1, oc1, k43, kl, k0, k2, eM⟩ := m_pre (mc := mcd j) (by omega) hS hn h h43
  have eC : X2_readDeed (nI j) u = ((X2_readCoinsOfAccount u).bind fun w45 => ((bI w45.1).bind fun v48 => some (v48, w45.2))) := by
    unfold X2_readDeed X2_readDeed_b44
    rcases hj with rfl | rfl
    · rw [if_pos (by decide)]
    · rw [if_neg (by decide), if_pos (by decide)]
  rw [eC, eM, if_neg (show ¬ (nI (mcd j) : Int32) = 2 by rw [nI_lit, nI_eq (by omega) (by omega)]; omega), if_neg (show ¬ (nI (mcd j) : Int32) = 3 by rw [nI_lit, nI_eq (by omega) (by omega)]; omega), if_neg (show ¬ (nI (mcd j) : Int32) = 4 by rw [nI_lit, nI_eq (by omega) (by omega)]; omega), if_neg (show ¬ (nI (mcd j) : Int32) = 5 by rw [nI_lit, nI_eq (by omega) (by omega)]; omega)]
  unfold X2_readCoinsOfAccount X2_readCoinsOfAccount_b51 X12_readDeed_b321 X12_readDeed_b322 DRd
  rw [bnd e1]
  rcases p_num hS h1 with ⟨u2, v2, c2, d2, hF⟩ | ⟨g1, g2, u2, v2, c2, d2, h2, n1, n2, oc2, om2⟩
  · refine Or.inl ⟨u2, v2, ?_, ?_, hF⟩
    · rw [bnd c2, if_pos z00]; rfl
    · rw [bnd d2, bnd m_lays0, if_pos z00]; rfl
  rw [bnd c2, if_neg n10, n1]
  dsimp only
  have q43 : v2.1 0 43 = nI n := by rw [om2.i 43 (by omega)]; exact k43
  rw [bnd d2, bnd (show X12_lays 2 (nI 1) v2 = some (nI 1, upI v2 27 (3 * n + 2) (nI (tnu s.2 (nx s t)))) from m_lays1 (k := 2) hn (by omega) q43 n2), if_neg n10]
  dsimp only
  generalize hN : tnu s.2 (nx s t) = N at *
  have h2a := h2.cI (c := 132) (i := 7) (x := nI N) (by omega)
  have hq := q_an TOk_3 hV h2a.rc (w := tnm s.2 (nx s (nx s t))) (nm62 (tnm_lt h2.V))
  have h2b := (h2a.cI (c := 132) (i := 6) (x := oI (anS T (tnm s.2 (nx s (nx s t))))) (by omega)).m27 (i := 3 * n + 2) (x := nI N)
  rw [h2a.c.tk.n, bnd hq, upI_at]
  rcases p_here hS hV h2b with ⟨u3, v3, c3, d3, hF⟩ | ⟨p, u3, v3, f3, g3, c3, d3, h3, n3, oc3, om3⟩
  · refine Or.inl ⟨u3, v3, ?_, ?_, hF⟩
    · rw [bnd c3]; rfl
    · rw [bnd d3, bnd m_lays0, if_pos z00]; rfl
  have r43 : v3.1 0 43 = nI n := by rw [om3.i 43 (by omega), upI_k (by omega)]; exact q43
  have hp := anS_lt f3
  refine Or.inr ⟨nx s (nx s (nx s t)), p, N, u3, upI v3 27 (3 * n + 1) (nI p), ?_, ?_, ?_, h3.m27, by omega, g2, ?_⟩
  · rw [bnd c3]; rfl
  · rw [bnd d3, bnd (show X12_lays 1 (nI 1) v3 = some (nI 1, upI v3 27 (3 * n + 1) (nI p)) from m_lays1 (k := 1) hn (by omega) r43 n3), if_neg n10]
  · have a1 := (nx_V h.V).2; have a2 := (nx_V h1.V).2; have a3 := (nx_V h2.V).2
    omega
  · refine ⟨?_, ?_, ?_, fun c c1 c2 => ?_, ?_, fun i hi => ?_, ?_, ?_, ?_⟩
    · rw [(oc3 132 (by omega)).1, upI_j (by omega), upI_j (by omega), (oc2 132 (by omega)).1, (oc1 132 (by omega)).1]
    · rw [(oc3 132 (by omega)).1, upI_at, f3]; rfl
    · rw [(oc3 132 (by omega)).1, upI_j (by omega), upI_at]
    · rw [(oc3 c (by omega)).1, upI_k (by omega), upI_k (by omega), (oc2 c (by omega)).1, (oc1 c (by omega)).1]
    · rw [upI_k (by omega), r43, h43]
    · rw [upI_j (by omega), (om3.o 27 (by omega)).1, upI_j (by omega), (om2.o 27 (by omega)).1]; exact kl i hi
    · rw [upI_j (by omega), (om3.o 27 (by omega)).1, upI_j (by omega), (om2.o 27 (by omega)).1]; exact k0
    · rw [upI_at]
    · rw [upI_j (by omega), (om3.o 27 (by omega)).1, upI_at]
theorem R_merge (hS : TS s) (hV : VT T) (hn : n < 119) (h : PB u0 v0 T s t u v) (h43 : v.1 0 43 = nI n) (hl : t.2.1 + 5 ≤ t.2.2) : DRd u0 v0 T s t.2.1 n 16 (X2_readDeed (nI 16) u) (X12_readDeed_b79 (nI 2) v) u v := by
  have hnb := hV.nb
  obtain ⟨u1, v1, e1, e2, h1, oc1, k43, kl, k0, k2, eM⟩ := m_pre (mc := 2) (by omega) hS hn h h43
  have eC : X2_readDeed (nI 16) u = ((X2_readMerger u).bind fun w50 => ((bI w50.1).bind fun v53 => some (v53, w50.2))) := by
    unfold X2_readDeed
    rw [if_neg (by decide), if_neg (by decide), if_pos (by decide)]
  rw [eC, eM, if_pos (show (nI 2 : Int32) = 2 from rfl)]
  unfold X2_readMerger X2_readMerger_b51 X12_readDeed_b189 X12_readDeed_b190 DRd
  have hq := q_bn TOk_3 hV h1.rc (w := tnm s.2 (nx s t)) (nm62 (tnm_lt h1.V))
  rw [bnd e1, h1.c.tk.n, bnd hq, upI_at]
  have h1a := h1.cI (c := 132) (i := 6) (x := oI (bnS T (tnm s.2 (nx s t)))) (by omega)
  rcases p_bank hS hV h1a with ⟨u2, v2, c2, d2, hF⟩ | ⟨a, u2, v2, f2, g2, c2, d2, h2, n2, oc2, om2⟩
  · refine Or.inl ⟨u2, v2, ?_, ?_, hF⟩
    · rw [bnd c2, if_pos z00]; rfl
    · rw [bnd d2, bnd m_lays0, if_pos z00]; rfl
  have q43 : v2.1 0 43 = nI n := by rw [om2.i 43 (by omega)]; exact k43
  rw [bnd c2, if_neg n10, bnd d2, bnd (show X12_lays 1 (nI 1) v2 = some (nI 1, upI v2 27 (3 * n + 1) (nI a)) from m_lays1 (k := 1) hn (by omega) q43 n2), if_neg n10]
  dsimp only
  have h2a := h2.m27 (i := 3 * n + 1) (x := nI a)
  rcases p_word (i := 18) (j := 17) (by omega) (by omega) (by omega) rfl hS h2a with ⟨u3, v3, c3, d3, hF⟩ | ⟨g3, u3, v3, c3, d3, h3, oc3, om3⟩
  · refine Or.inl ⟨u3, v3, ?_, ?_, hF⟩
    · rw [bnd (show X9_passWord 17 u2 = some (nI 0, u3) from c3), if_pos z00]; rfl
    · rw [bnd d3, if_pos z00]; rfl
  rw [bnd (show X9_passWord 17 u2 = some (nI 1, u3) from c3), if_neg n10, bnd d3, if_neg n10]
  dsimp only
  have hq3 := q_bn TOk_3 hV h3.rc (w := tnm s.2 (nx s (nx s (nx s t)))) (nm62 (tnm_lt h3.V))
  rw [h3.c.tk.n, bnd hq3, upI_at]
  have h3a := h3.cI (c := 132) (i := 7) (x := oI (bnS T (tnm s.2 (nx s (nx s (nx s t)))))) (by omega)
  rcases p_bank hS hV h3a with ⟨u4, v4, c4, d4, hF⟩ | ⟨b, u4, v4, f4, g4, c4, d4, h4, n4, oc4, om4⟩
  · refine Or.inl ⟨u4, v4, ?_, ?_, hF⟩
    · rw [bnd c4]; rfl
    · rw [bnd d4, bnd m_lays0, if_pos z00]; rfl
  have r43 : v4.1 0 43 = nI n := by rw [om4.i 43 (by omega), om3.i 43 (by omega), upI_k (by omega)]; exact q43
  have ha := bnS_lt f2
  have hb := bnS_lt f4
  refine Or.inr ⟨nx s (nx s (nx s (nx s t))), a, b, u4, upI v4 27 (3 * n + 2) (nI b), ?_, ?_, ?_, h4.m27, by omega, by omega, ?_⟩
  · rw [bnd c4]; rfl
  · rw [bnd d4, bnd (show X12_lays 2 (nI 1) v4 = some (nI 1, upI v4 27 (3 * n + 2) (nI b)) from m_lays1 (k := 2) hn (by omega) r43 n4), if_neg n10]
  · have a1 := (nx_V h.V).2; have a2 := (nx_V h1.V).2; have a3 := (nx_V h2.V).2; have a4 := (nx_V h3.V).2
    have b1 := h1.V.l; have b2 := h2.V.l; have b3 := h3.V.l
    omega
  · refine ⟨?_, ?_, ?_, fun c c1 c2 => ?_, ?_, fun i hi => ?_, ?_, ?_, ?_⟩
    · rw [(oc4 132 (by omega)).1, upI_j (by omega), (oc3 132 (by omega)).1, (oc2 132 (by omega)).1, upI_j (by omega), (oc1 132 (by omega)).1]
    · rw [(oc4 132 (by omega)).1, upI_j (by omega), (oc3 132 (by omega)).1, (oc2 132 (by omega)).1, upI_at, f2]; rfl
    · rw [(oc4 132 (by omega)).1, upI_at, f4]; rfl
    · rw [(oc4 c (by omega)).1, upI_k (by omega), (oc3 c (by omega)).1, (oc2 c (by omega)).1, upI_k (by omega), (oc1 c (by omega)).1]
    · rw [upI_k (by omega), r43, h43]
    · rw [upI_j (by omega), (om4.o 27 (by omega)).1, (om3.o 27 (by omega)).1, upI_j (by omega), (om2.o 27 (by omega)).1]; exact kl i hi
    · rw [upI_j (by omega), (om4.o 27 (by omega)).1, (om3.o 27 (by omega)).1, upI_j (by omega), (om2.o 27 (by omega)).1]; exact k0
    · rw [upI_j (by omega), (om4.o 27 (by omega)).1, (om3.o 27 (by omega)).1, upI_at]
    · rw [upI_at]
theorem R_months (hS : TS s) (hV : VT T) (hn : n < 119) (h : PB u0 v0 T s t u v) (h43 : v.1 0 43 = nI n) (hl : t.2.1 + 6 ≤ t.2.2) : DRd u0 v0 T s t.2.1 n 18 (X2_readDeed (nI 18) u) (X12_readDeed_b79 (nI 3) v) u v := by
  obtain ⟨u1, v1, e1, e2, h1, oc1, k43, kl, k0, k2, eM⟩ := m_pre (mc := 3) (by omega) hS hn h h43
  have eC : X2_readDeed (nI 18) u = ((X2_readMonths u).bind fun w50 => ((bI w50.1).bind fun v53 => some (v53, w50.2))) := by
    unfold X2_readDeed
    rw [if_neg (by decide), if_neg (by decide), if_neg (by decide), if_neg (by decide), if_pos (by decide)]
  rw [eC, eM, if_neg (by decide), if_pos (show (nI 3 : Int32) = 3 from rfl)]
  unfold X2_readMonths DRd
  rw [bnd e1]
  rcases p_num hS h1 with ⟨u2, v2, c2, d2, hF⟩ | ⟨g1, g2, u2, v2, c2, d2, h2, n1, n2, oc2, om2⟩
  · refine Or.inl ⟨u2, v2, ?_, ?_, hF⟩
    · rw [bnd c2, if_pos z00]; rfl
    · rw [bnd d2, bnd m_lays0]
      unfold X12_readDeed_b323
      rw [if_pos z00]; rfl
  have q43 : v2.1 0 43 = nI n := by rw [om2.i 43 (by omega)]; exact k43
  rw [bnd c2, if_neg n10, n1, bnd d2, bnd (show X12_lays 1 (nI 1) v2 = some (nI 1, upI v2 27 (3 * n + 1) (nI (tnu s.2 (nx s t)))) from m_lays1 (k := 1) hn (by omega) q43 n2)]
  dsimp only
  refine Or.inr ⟨nx s (nx s t), tnu s.2 (nx s t), 0, upI (upI u2 132 6 (nI (tnu s.2 (nx s t)))) 132 7 0, upI v2 27 (3 * n + 1) (nI (tnu s.2 (nx s t))), rfl, rfl, ?_, ((h2.cI (by omega)).cI (by omega)).m27, g2, by omega, ?_⟩
  · have a1 := (nx_V h.V).2; have a2 := (nx_V h1.V).2
    omega
  · refine ⟨?_, ?_, ?_, fun c c1 c2 => ?_, ?_, fun i hi => ?_, ?_, ?_, ?_⟩
    · rw [upI_j (by omega), upI_j (by omega), (oc2 132 (by omega)).1, (oc1 132 (by omega)).1]
    · rw [upI_j (by omega), upI_at]
    · rw [upI_at]; rfl
    · rw [upI_k (by omega), upI_k (by omega), (oc2 c (by omega)).1, (oc1 c (by omega)).1]
    · rw [upI_k (by omega), q43, h43]
    · rw [upI_j (by omega), (om2.o 27 (by omega)).1]; exact kl i hi
    · rw [upI_j (by omega), (om2.o 27 (by omega)).1]; exact k0
    · rw [upI_at]
    · rw [upI_j (by omega), (om2.o 27 (by omega)).1]; exact k2
theorem R_pay (hS : TS s) (hV : VT T) (hn : n < 119) (h : PB u0 v0 T s t u v) (h43 : v.1 0 43 = nI n) (hl : t.2.1 + 3 ≤ t.2.2) : DRd u0 v0 T s t.2.1 n 19 (X2_readDeed (nI 19) u) (X12_readDeed_b79 (nI 4) v) u v := by
  obtain ⟨u1, v1, e1, e2, h1, oc1, k43, kl, k0, k2, eM⟩ := m_pre (mc := 4) (by omega) hS hn h h43
  have eC : X2_readDeed (nI 19) u = ((X2_readPayment u).bind fun w50 => ((bI w50.1).bind fun v53 => some (v53, w50.2))) := by
    unfold X2_readDeed
    rw [if_neg (by decide), if_neg (by decide), if_neg (by decide), if_neg (by decide), if_neg (by decide), if_pos (by decide)]
  rw [eC, eM, if_neg (by decide), if_neg (by decide), if_pos (show (nI 4 : Int32) = 4 from rfl)]
  unfold X2_readPayment X12_readDeed_b247 X12_readDeed_b248 DRd
  rw [bnd e1]
  rcases p_num hS h1 with ⟨u2, v2, c2, d2, hF⟩ | ⟨g1, g2, u2, v2, c2, d2, h2, n1, n2, oc2, om2⟩
  · refine Or.inl ⟨u2, v2, ?_, ?_, hF⟩
    · rw [bnd c2, if_pos z00]; rfl
    · rw [bnd d2, bnd m_lays0, if_pos z00]; rfl
  have q43 : v2.1 0 43 = nI n := by rw [om2.i 43 (by omega)]; exact k43
  rw [bnd c2, if_neg n10, n1, bnd d2, bnd (show X12_lays 1 (nI 1) v2 = some (nI 1, upI v2 27 (3 * n + 1) (nI (tnu s.2 (nx s t)))) from m_lays1 (k := 1) hn (by omega) q43 n2), if_neg n10]
  dsimp only
  generalize hN : tnu s.2 (nx s t) = N at *
  have h2a := (h2.cI (c := 132) (i := 6) (x := nI N) (by omega)).m27 (i := 3 * n + 1) (x := nI N)
  rcases p_num hS h2a with ⟨u3, v3, c3, d3, hF⟩ | ⟨g3, g4, u3, v3, c3, d3, h3, n3, n4, oc3, om3⟩
  · refine Or.inl ⟨u3, v3, ?_, ?_, hF⟩
    · rw [bnd c3, if_pos z00]; rfl
    · rw [bnd d3, bnd m_lays0, if_pos z00]; rfl
  have r43 : v3.1 0 43 = nI n := by rw [om3.i 43 (by omega), upI_k (by omega)]; exact q43
  rw [bnd c3, if_neg n10, n3, bnd d3, bnd (show X12_lays 2 (nI 1) v3 = some (nI 1, upI v3 27 (3 * n + 2) (nI (tnu s.2 (nx s (nx s t))))) from m_lays1 (k := 2) hn (by omega) r43 n4), if_neg n10]
  dsimp only
  refine Or.inr ⟨nx s (nx s (nx s t)), N, tnu s.2 (nx s (nx s t)), upI u3 132 7 (nI (tnu s.2 (nx s (nx s t)))), upI v3 27 (3 * n + 2) (nI (tnu s.2 (nx s (nx s t)))), rfl, rfl, ?_, (h3.cI (by omega)).m27, g2, g4, ?_⟩
  · have a1 := (nx_V h.V).2; have a2 := (nx_V h1.V).2; have a3 := (nx_V h2.V).2
    omega
  · refine ⟨?_, ?_, ?_, fun c c1 c2 => ?_, ?_, fun i hi => ?_, ?_, ?_, ?_⟩
    · rw [upI_j (by omega), (oc3 132 (by omega)).1, upI_j (by omega), (oc2 132 (by omega)).1, (oc1 132 (by omega)).1]
    · rw [upI_j (by omega), (oc3 132 (by omega)).1, upI_at]
    · rw [upI_at]
    · rw [upI_k (by omega), (oc3 c (by omega)).1, upI_k (by omega), (oc2 c (by omega)).1, (oc1 c (by omega)).1]
    · rw [upI_k (by omega), r43, h43]
    · rw [upI_j (by omega), (om3.o 27 (by omega)).1, upI_j (by omega), (om2.o 27 (by omega)).1]; exact kl i hi
    · rw [upI_j (by omega), (om3.o 27 (by omega)).1, upI_j (by omega), (om2.o 27 (by omega)).1]; exact k0
    · rw [upI_j (by omega), (om3.o 27 (by omega)).1, upI_at]
    · rw [upI_at]
theorem R_fail (hS : TS s) (hV : VT T) (hn : n < 119) (h : PB u0 v0 T s t u v) (h43 : v.1 0 43 = nI n) (hl : t.2.1 + 4 ≤ t.2.2) : DRd u0 v0 T s t.2.1 n 20 (X2_readDeed (nI 20) u) (X12_readDeed_b79 (nI 5) v) u v := by
  have hnb := hV.nb
  obtain ⟨u1, v1, e1, e2, h1, oc1, k43, kl, k0, k2, eM⟩ := m_pre (mc := 5) (by omega) hS hn h h43
  have eC : X2_readDeed (nI 20) u = ((X2_readFailing u).bind fun w50 => ((bI w50.1).bind fun v53 => some (v53, w50.2))) := by
    unfold X2_readDeed
    rw [if_neg (by decide), if_neg (by decide), if_neg (by decide), if_neg (by decide), if_neg (by decide), if_neg (by decide), if_pos (by decide)]
  rw [eC, eM, if_neg (by decide), if_neg (by decide), if_neg (by decide), if_pos (show (nI 5 : Int32) = 5 from rfl)]
  unfold X2_readFailing X2_readFailing_b52 X12_readDeed_b284 X12_readDeed_b285 DRd
  have hq := q_bn TOk_3 hV h1.rc (w := tnm s.2 (nx s t)) (nm62 (tnm_lt h1.V))
  rw [bnd e1, h1.c.tk.n, bnd hq, upI_at]
  have h1a := h1.cI (c := 132) (i := 6) (x := oI (bnS T (tnm s.2 (nx s t)))) (by omega)
  rcases p_bank hS hV h1a with ⟨u2, v2, c2, d2, hF⟩ | ⟨a, u2, v2, f2, g2, c2, d2, h2, n2, oc2, om2⟩
  · refine Or.inl ⟨u2, v2, ?_, ?_, hF⟩
    · rw [bnd c2, if_pos z00]; rfl
    · rw [bnd d2, bnd m_lays0, if_pos z00]; rfl
  have q43 : v2.1 0 43 = nI n := by rw [om2.i 43 (by omega)]; exact k43
  rw [bnd c2, if_neg n10, bnd d2, bnd (show X12_lays 1 (nI 1) v2 = some (nI 1, upI v2 27 (3 * n + 1) (nI a)) from m_lays1 (k := 1) hn (by omega) q43 n2), if_neg n10]
  dsimp only
  have h2a := h2.m27 (i := 3 * n + 1) (x := nI a)
  rcases p_num hS h2a with ⟨u3, v3, c3, d3, hF⟩ | ⟨g3, g4, u3, v3, c3, d3, h3, n3, n4, oc3, om3⟩
  · refine Or.inl ⟨u3, v3, ?_, ?_, hF⟩
    · rw [bnd c3, if_pos z00]; rfl
    · rw [bnd d3, bnd m_lays0, if_pos z00]; rfl
  have r43 : v3.1 0 43 = nI n := by rw [om3.i 43 (by omega), upI_k (by omega)]; exact q43
  rw [bnd c3, if_neg n10, n3, bnd d3, bnd (show X12_lays 2 (nI 1) v3 = some (nI 1, upI v3 27 (3 * n + 2) (nI (tnu s.2 (nx s (nx s t))))) from m_lays1 (k := 2) hn (by omega) r43 n4), if_neg n10]
  dsimp only
  have ha := bnS_lt f2
  refine Or.inr ⟨nx s (nx s (nx s t)), a, tnu s.2 (nx s (nx s t)), upI u3 132 7 (nI (tnu s.2 (nx s (nx s t)))), upI v3 27 (3 * n + 2) (nI (tnu s.2 (nx s (nx s t)))), rfl, rfl, ?_, (h3.cI (by omega)).m27, by omega, g4, ?_⟩
  · have a1 := (nx_V h.V).2; have a2 := (nx_V h1.V).2; have a3 := (nx_V h2.V).2
    omega
  · refine ⟨?_, ?_, ?_, fun c c1 c2 => ?_, ?_, fun i hi => ?_, ?_, ?_, ?_⟩
    · rw [upI_j (by omega), (oc3 132 (by omega)).1, (oc2 132 (by omega)).1, upI_j (by omega), (oc1 132 (by omega)).1]
    · rw [upI_j (by omega), (oc3 132 (by omega)).1, (oc2 132 (by omega)).1, upI_at, f2]; rfl
    · rw [upI_at]
    · rw [upI_k (by omega), (oc3 c (by omega)).1, (oc2 c (by omega)).1, upI_k (by omega), (oc1 c (by omega)).1]
    · rw [upI_k (by omega), r43, h43]
    · rw [upI_j (by omega), (om3.o 27 (by omega)).1, upI_j (by omega), (om2.o 27 (by omega)).1]; exact kl i hi
    · rw [upI_j (by omega), (om3.o 27 (by omega)).1, upI_j (by omega), (om2.o 27 (by omega)).1]; exact k0
    · rw [upI_j (by omega), (om3.o 27 (by omega)).1, upI_at]
    · rw [upI_at]
end DD
