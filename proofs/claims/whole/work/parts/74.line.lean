/-! LINES: an ACCOUNT, from its begin; any LINE -/
section LA
variable {u0 v0 u v u1 v1 : gM} {s : tpT} {t t1 : tkT} {D : gT} {kd : Nat}
def mosO (kd : Nat) : Nat := if kd = 1 then 4 else if kd = 2 then 2 else 1
theorem mosO_le : mosO kd ≤ 4 ∧ 1 ≤ mosO kd := by
  unfold mosO
  repeat' split
  all_goals omega
theorem b_account (hS : TS s) (h : BS u0 v0 s t D u v) (hkd : kd < 5) (hkw : tkw s.2 t = some kd) :
    (∃ u1 v1, X0_readAccount (nI kd) u = some (nI 0, u1) ∧ X12_readAccount v = some (nI 0, v1) ∧ BF u0 v0 u1 v1) ∨
    (∃ t' D' u1 v1, X0_readAccount (nI kd) u = some (nI 1, u1) ∧ X12_readAccount v = some (nI 1, v1) ∧ t.2.2 ≤ t'.2.1 ∧ BS u0 v0 s t' D' u1 v1) := by
  have hV := h.d.t
  have hna := hV.na
  have hk0 := m_kindHere h.V hS.l h.m.tk
  have hkk : tkd s.2 t = some kd := by
    unfold tkd
    rw [hkw]
    exact if_pos hkd
  rw [hkk] at hk0
  obtain ⟨u1, v1, e1, e2, h1, oc1, om1⟩ := b_step hS h
  have hq := q_taken TOk_117 hV h1.rc (w := tnm s.2 (nx s t)) (nm62 (tnm_lt h1.V))
  have a1 : X0_readAccount (nI kd) u = X0_readAccount_b46 (nI kd) (nI (D 0 2)) (lN (tnm s.2 (nx s t))) (b2 (takB D (tnm s.2 (nx s t)) = true)) (b2 (decide (D 0 2 = 24) = true)) u1 := by
    unfold X0_readAccount
    rw [bnd e1, h1.c.tk.n, bnd hq, h1.rc.na]
    by_cases z : D 0 2 < 24
    · rw [if_pos (show nI (D 0 2) < 24 by rw [nI_lit, nI_ltI (by omega) (by omega)]; exact z), b2_f (P := decide (D 0 2 = 24) = true) (fun y => by have := of_decide_eq_true y; omega)]
      rfl
    · rw [if_neg (show ¬ nI (D 0 2) < 24 by rw [nI_lit, nI_ltI (by omega) (by omega)]; exact z), b2_t (P := decide (D 0 2 = 24) = true) (decide_eq_true (by omega))]
      rfl
  rw [a1]
  unfold X0_readAccount_b46 X0_readAccount_b64 X0_readAccount_b115 X0_readAccount_b152 X12_readAccount X12_readAccount_b87 X12_readAccount_b116 X12_readAccount_b140
  rw [bnd hk0, bnd e2, show oI (some kd) = nI kd from rfl]
  rcases b_new (r := 4) (wh := 2) (mo := 24) hS h1 rfl (by omega) with ⟨u2, v2, c2, d2, hF⟩ | ⟨g1, ha, u2, v2, c2, d2, h2, hv4, oc2⟩
  · refine Or.inl ⟨u2, v2, ?_, ?_, hF⟩
    · rw [bnd c2, if_pos z00]; rfl
    · rw [bnd (show X12_readNew 4 2 24 v1 = some (nI 0, v2) from d2), if_pos z00]; rfl
  rw [bnd c2, if_neg n10, bnd (show X12_readNew 4 2 24 v1 = some (nI 1, v2) from d2), if_neg n10]
  dsimp only
  have f5 : FRI D 5 (24 + D 0 2) := ⟨by omega, by omega, by omega, by omega, by omega⟩
  have f6 : FRI D 6 (24 + D 0 2) := ⟨by omega, by omega, by omega, by omega, by omega⟩
  have f7 : FRI D 7 (24 + D 0 2) := ⟨by omega, by omega, by omega, by omega, by omega⟩
  have f9 : FRI D 9 (24 + D 0 2) := ⟨by omega, by omega, by omega, by omega, by omega⟩
  have f12 : FRI D 12 (24 + D 0 2) := ⟨by omega, by omega, by omega, by omega, by omega⟩
  have f125 : FCI D 125 (D 0 2) := ⟨by omega, by omega, by omega, by omega⟩
  have f126 : FCI D 126 (D 0 2) := ⟨by omega, by omega, by omega, by omega⟩
  have h2' := (((h2.mI (x := nI kd) f5).mI (x := 0) f7).mI (x := 0) f9).mI (x := 0) f12
  have eA : aI skM v2 1 8 = some (nI (D 0 2)) := m_many1 (k := 2) (by omega) h2.rm.na
  have hlt : 24 + D 0 2 < 48 := by omega
  rw [bnd eA, show (24 + nI (D 0 2) : Int32) = nI (24 + D 0 2) by rw [nI_lit, nI_add], bnd (sM5 hlt), bnd (sM7 hlt), bnd (sM9 hlt), bnd (sM12 hlt)]
  generalize hw2 : upI (upI (upI (upI v2 5 (24 + D 0 2) (nI kd)) 7 (24 + D 0 2) 0) 9 (24 + D 0 2) 0) 12 (24 + D 0 2) 0 = v2' at h2'
  have k5 : v2'.1 5 (24 + D 0 2) = nI kd := by rw [← hw2, upI_k (by omega), upI_k (by omega), upI_k (by omega), upI_at]
  have k7 : v2'.1 7 (24 + D 0 2) = nI 0 := by rw [← hw2, upI_k (by omega), upI_k (by omega), upI_at]; rfl
  have k9 : v2'.1 9 (24 + D 0 2) = nI 0 := by rw [← hw2, upI_k (by omega), upI_at]; rfl
  have k12 : v2'.1 12 (24 + D 0 2) = nI 0 := by rw [← hw2, upI_at]; rfl
  have k4 : v2'.2 4 (24 + D 0 2) = lN (cv (tnm s.2 (nx s t))) := by rw [← hw2, upI_2, upI_2, upI_2, upI_2]; exact hv4
  rcases b_word (i := 5) (j := 10) (by omega) (by omega) (by omega) rfl hS h2' with ⟨u3, v3, c3, d3, hF⟩ | ⟨u3, v3, c3, d3, h3, oc3, om3⟩
  · refine Or.inl ⟨u3, v3, ?_, ?_, hF⟩
    · rw [bnd (show X9_passWord 10 u2 = some (nI 0, u3) from c3), if_pos z00]; rfl
    · rw [bnd d3, if_pos z00]; rfl
  have hq3 := q_bn TOk_117 hV h3.rc (w := tnm s.2 (nx s (nx s (nx s t)))) (nm62 (tnm_lt h3.V))
  have hp3 := m_bn (d := 1) (by omega) hV h3.rm (w := tnm s.2 (nx s (nx s (nx s t)))) (tnm_lt h3.V)
  have hnb := hV.nb
  rw [bnd (show X9_passWord 10 u2 = some (nI 1, u3) from c3), if_neg n10, bnd d3, if_neg n10]
  dsimp only
  rw [h3.c.tk.n, bnd hq3]
  rcases b_of (r := 3) (wh := 1) (mo := 6) (f := bnS D (tnm s.2 (nx s (nx s (nx s t))))) hS h3 (by omega) (fun n hn => by have := bnS_lt hn; omega) (m_many1 (k := 1) (by omega) h3.rm.nb) hp3 with ⟨u4, v4, c4, d4, hF⟩ | ⟨hb, u4, v4, f4, g4, c4, d4, h4, n4, oc4, om4⟩
  · refine Or.inl ⟨u4, v4, ?_, ?_, hF⟩
    · rw [bnd c4, if_pos z00]; rfl
    · rw [bnd (show X12_readOf 3 1 6 v3 = some (nI 0, v4) from d4), if_pos z00]; rfl
  have hhb := bnS_lt f4
  have h4' := h4.mI (x := nI hb) f6
  rw [bnd c4, if_neg n10, bnd (show X12_readOf 3 1 6 v3 = some (nI 1, v4) from d4), if_neg n10]
  dsimp only
  rw [n4, bnd (sM6 hlt)]
  rcases b_word (i := 6) (j := 11) (by omega) (by omega) (by omega) rfl hS h4' with ⟨u5, v5, c5, d5, hF⟩ | ⟨u5, v5, c5, d5, h5, oc5, om5⟩
  · refine Or.inl ⟨u5, v5, ?_, ?_, hF⟩
    · rw [bnd (show X9_passWord 11 u4 = some (nI 0, u5) from c5), if_pos z00]; rfl
    · rw [bnd d5, if_pos z00]; rfl
  rw [bnd (show X9_passWord 11 u4 = some (nI 1, u5) from c5), if_neg n10, bnd d5, if_neg n10]
  dsimp only
  have c5' : ∀ c, c ≠ 0 → c ≠ 6 → v5.1 c = v2'.1 c ∧ v5.2 c = v2'.2 c := fun c a b => by
    rw [(om5.o c a).1, (om5.o c a).2, upI_k b, upI_2, (om4.o c a).1, (om4.o c a).2]
    exact om3.o c a
  have j6 : v5.1 6 (24 + D 0 2) = nI hb := by rw [(om5.o 6 (by omega)).1, upI_at]
  have hB5 := h5.cI (x := 0) f125
  have hO5 : OWn D 0 (fun _ => 0) (upI u5 125 (D 0 2) 0) v5 := ⟨upI_at, fun j hj => absurd hj (Nat.not_lt_zero _), by rw [(c5' 7 (by omega) (by omega)).1]; exact k7, fun j hj => absurd hj (Nat.not_lt_zero _), fun j hj => absurd hj (Nat.not_lt_zero _), fun i j hi _ _ => absurd hi (Nat.not_lt_zero _)⟩
  have hmo := mosO_le (kd := kd)
  have eO : X0_readOwners (nI (D 0 2)) (nI kd) u5 = X0_readOwners_l33 fz (nI (D 0 2)) (nI (mosO kd)) (nI 0) (upI u5 125 (D 0 2) 0) := by
    unfold X0_readOwners X0_readOwners_b19
    rcases (show kd = 0 ∨ kd = 1 ∨ kd = 2 ∨ kd = 3 ∨ kd = 4 by omega) with rfl | rfl | rfl | rfl | rfl
    · rw [if_neg (by decide), if_neg (by decide), bnd (sC125 ha)]; rfl
    · rw [if_pos (by decide), bnd (sC125 ha)]; rfl
    · rw [if_neg (by decide), if_pos (by decide), bnd (sC125 ha)]; rfl
    · rw [if_neg (by decide), if_neg (by decide), bnd (sC125 ha)]; rfl
    · rw [if_neg (by decide), if_neg (by decide), bnd (sC125 ha)]; rfl
  have eP : X12_readOwners (nI (24 + D 0 2)) v5 = X12_readOwners_l30 fz (nI (24 + D 0 2)) (nI (mosO kd)) v5 := by
    unfold X12_readOwners X12_readOwners_b29
    rw [bnd (aM5 hlt), (c5' 5 (by omega) (by omega)).1, k5]
    rcases (show kd = 0 ∨ kd = 1 ∨ kd = 2 ∨ kd = 3 ∨ kd = 4 by omega) with rfl | rfl | rfl | rfl | rfl
    · rw [if_neg (by decide), bnd (aM5 hlt), (c5' 5 (by omega) (by omega)).1, k5, if_neg (by decide)]; rfl
    · rw [if_pos (by decide)]; rfl
    · rw [if_neg (by decide), bnd (aM5 hlt), (c5' 5 (by omega) (by omega)).1, k5, if_pos (by decide)]; rfl
    · rw [if_neg (by decide), bnd (aM5 hlt), (c5' 5 (by omega) (by omega)).1, k5, if_neg (by decide)]; rfl
    · rw [if_neg (by decide), bnd (aM5 hlt), (c5' 5 (by omega) (by omega)).1, k5, if_neg (by decide)]; rfl
  rw [eO, eP]
  rcases b_owners (most := mosO kd) hS hmo.1 hmo.2 ha fz 0 (fun _ => 0) (nx s (nx s (nx s (nx s (nx s t))))) _ v5 (Nat.zero_le _) (fz_lt (by omega)) (Or.inl rfl) hB5 hO5 with ⟨u6, v6, c6, d6, hF⟩ | ⟨t6, m, O, u6, v6, c6, d6, hm1, hm2, tt6, h6, hO6, q6, r6⟩
  · refine Or.inl ⟨u6, v6, ?_, ?_, hF⟩
    · rw [bnd c6, if_pos z00]; rfl
    · rw [bnd d6, if_pos z00]; rfl
  rw [bnd c6, if_neg n10, bnd d6, if_neg n10]
  dsimp only
  have c6' : ∀ c, c ≠ 0 → c ≠ 6 → c ≠ 7 → c ≠ 8 → v6.1 c = v2'.1 c ∧ v6.2 c = v2'.2 c := fun c a b d e => ⟨(r6 c a d e).1.trans (c5' c a b).1, (r6 c a d e).2.trans (c5' c a b).2⟩
  have i6 : v6.1 6 (24 + D 0 2) = nI hb := by rw [(r6 6 (by omega) (by omega) (by omega)).1]; exact j6
  have h7 := h6.cI (x := 0) f126
  have hO7 : OWn D m O (upI u6 126 (D 0 2) 0) v6 := hO6.mv rfl rfl rfl rfl
  have hH7 : HRn D 0 (fun _ => 0) (upI u6 126 (D 0 2) 0) v6 := ⟨upI_at, fun j hj => absurd hj (Nat.not_lt_zero _), by rw [(c6' 9 (by omega) (by omega) (by omega) (by omega)).1]; exact k9, fun j hj => absurd hj (Nat.not_lt_zero _), fun j hj => absurd hj (Nat.not_lt_zero _)⟩
  have tt : t.2.2 ≤ t6.2.1 := by
    have a1 := (nx_V h.V).2; have a2 := (nx_V h1.V).2; have a3 := (nx_V h2.V).2; have a4 := (nx_V h3.V).2; have a5 := (nx_V h4.V).2
    have b1 := h1.V.l; have b2 := h2.V.l; have b3 := h3.V.l; have b4 := h4.V.l; have b5 := h5.V.l
    omega
  rw [bnd (sC126 ha)]
  by_cases hk2 : kd = 2
  · rw [if_pos (show nI kd = 2 by rw [hk2]; rfl), if_pos (show nI kd = 2 by rw [hk2]; rfl)]
    rcases b_word (i := 7) (j := 12) (by omega) (by omega) (by omega) rfl hS h7 with ⟨u8, v8, c8, d8, hF⟩ | ⟨u8, v8, c8, d8, h8, oc8, om8⟩
    · refine Or.inl ⟨u8, v8, ?_, ?_, hF⟩
      · rw [bnd (show X9_passWord 12 (upI u6 126 (D 0 2) 0) = some (nI 0, u8) from c8), if_pos z00]; rfl
      · rw [bnd d8, if_pos z00]; rfl
    rw [bnd (show X9_passWord 12 (upI u6 126 (D 0 2) 0) = some (nI 1, u8) from c8), if_neg n10, bnd d8, if_neg n10]
    dsimp only
    rcases b_heirs hS ha fz 0 (fun _ => 0) (nx s t6) u8 v8 (Nat.zero_le _) (fz_lt (by omega)) (Or.inl rfl) h8 (hH7.o oc8 om8) with ⟨u9, v9, c9, d9, hF⟩ | ⟨t9, hm, H, u9, v9, c9, d9, hm6, tt9, h9, hH9, q9, r9⟩
    · refine Or.inl ⟨u9, v9, ?_, ?_, hF⟩
      · rw [bnd (show X0_readHeirs (nI (D 0 2)) u8 = some (nI 0, u9) from c9), if_pos z00]; rfl
      · rw [bnd (show X12_readHeirs (nI (24 + D 0 2)) v8 = some (nI 0, v9) from d9), if_pos z00]; rfl
    rw [bnd (show X0_readHeirs (nI (D 0 2)) u8 = some (nI 1, u9) from c9), if_neg n10, bnd (show X12_readHeirs (nI (24 + D 0 2)) v8 = some (nI 1, v9) from d9), if_neg n10]
    dsimp only
    have hO9 : OWn D m O u9 v9 := (hO7.o oc8 om8).mv (q9 125 (by omega) (by omega) (by omega)).1 (q9 127 (by omega) (by omega) (by omega)).1 (r9 7 (by omega) (by omega) (by omega)).1 (r9 8 (by omega) (by omega) (by omega)).1
    have c9' : ∀ c, c ≠ 0 → c ≠ 9 → c ≠ 10 → v9.1 c = v6.1 c ∧ v9.2 c = v6.2 c := fun c a b d => ⟨(r9 c a b d).1.trans (om8.o c a).1, (r9 c a b d).2.trans (om8.o c a).2⟩
    have key := b_tail (kd := kd) (hb := hb) (w := tnm s.2 (nx s t)) hS h9 ha (by omega) hhb ⟨hm1, by omega⟩ hm6 hO9 hH9 (tnm_lt h1.V) (by rw [(c9' 5 (by omega) (by omega) (by omega)).1, (c6' 5 (by omega) (by omega) (by omega) (by omega)).1]; exact k5) (by rw [(c9' 6 (by omega) (by omega) (by omega)).1]; exact i6) (by rw [(c9' 12 (by omega) (by omega) (by omega)).1, (c6' 12 (by omega) (by omega) (by omega) (by omega)).1]; exact k12) (by rw [(c9' 4 (by omega) (by omega) (by omega)).2, (c6' 4 (by omega) (by omega) (by omega) (by omega)).2]; exact k4)
    rw [f4]
    rcases key with hF | ⟨t', D', u10, v10, c10, d10, tt10, h10⟩
    · exact Or.inl hF
    · refine Or.inr ⟨t', D', u10, v10, c10, d10, ?_, h10⟩
      have b6 := h6.V.l; have b7 := (nx_V h6.V).2; have b8 := h8.V.l; have b9 := h9.V.l
      omega
  · rw [if_neg (show ¬ nI kd = 2 by rw [nI_lit, nI_eq (by omega) (by omega)]; exact hk2), if_neg (show ¬ nI kd = 2 by rw [nI_lit, nI_eq (by omega) (by omega)]; exact hk2)]
    have key := b_tail (kd := kd) (hb := hb) (w := tnm s.2 (nx s t)) hS h7 ha (by omega) hhb ⟨hm1, by omega⟩ (Nat.zero_le 6) hO7 hH7 (tnm_lt h1.V) (by rw [(c6' 5 (by omega) (by omega) (by omega) (by omega)).1]; exact k5) i6 (by rw [(c6' 12 (by omega) (by omega) (by omega) (by omega)).1]; exact k12) (by rw [(c6' 4 (by omega) (by omega) (by omega) (by omega)).2]; exact k4)
    rw [f4]
    rcases key with hF | ⟨t', D', u10, v10, c10, d10, tt10, h10⟩
    · exact Or.inl hF
    · refine Or.inr ⟨t', D', u10, v10, c10, d10, ?_, h10⟩
      have b6 := h6.V.l
      omega
theorem L_account (hS : TS s) (h : BS u0 v0 s t D u v) (hkd : kd < 5) (hkw : tkw s.2 t = some kd) : BLn u0 v0 s t.2.2 (X0_readAccount (nI kd) u) v := by
  have no : ∀ i, i < 22 → 1 ≤ i → jd i ≠ kd → X12_isWord v i = some (nI 0) := fun i a b hne => by
    rw [m_isWord a b h.V hS.l h.m.tk, hkw, b2_f]
    exact fun z => hne (Option.some.inj z).symm
  have hk0 := m_kindHere h.V hS.l h.m.tk
  have hkk : tkd s.2 t = some kd := by
    unfold tkd
    rw [hkw]
    exact if_pos hkd
  rw [hkk] at hk0
  unfold BLn X12_readLine
  rw [bnd (no 1 (by omega) (by omega) (by show 5 ≠ kd; omega)), if_pos z00, bnd (no 2 (by omega) (by omega) (by show 6 ≠ kd; omega)), if_pos z00, bnd (no 3 (by omega) (by omega) (by show 7 ≠ kd; omega)), if_pos z00, bnd (no 4 (by omega) (by omega) (by show 8 ≠ kd; omega)), if_pos z00, bnd (no 9 (by omega) (by omega) (by show 9 ≠ kd; omega)), if_pos z00, bnd hk0, if_neg (show ¬ oI (some kd) = -1 from (nI_m1 (show kd < 2 ^ 31 by omega)).mp)]
  rcases b_account hS h hkd hkw with ⟨u1, v1, c1, d1, hF⟩ | ⟨t', D', u1, v1, c1, d1, tt, hB⟩
  · refine Or.inl ⟨u1, v1, c1, ?_, hF⟩
    rw [bnd d1, if_pos z00]; rfl
  · refine Or.inr ⟨t', D', u1, v1, c1, ?_, tt, hB⟩
    rw [bnd d1, if_neg n10]
/-- a LINE that begins so can't stand -/
theorem L_none (hS : TS s) (h : BS u0 v0 s t D u v) (hkw : ∀ j, j ≤ 9 → tkw s.2 t ≠ some j) : BLn u0 v0 s t.2.2 (X9_refuse 1 u) v := by
  have no : ∀ i, i < 22 → 1 ≤ i → jd i ≤ 9 → X12_isWord v i = some (nI 0) := fun i a b hne => by
    rw [m_isWord a b h.V hS.l h.m.tk, b2_f]
    exact hkw _ hne
  have hk0 := m_kindHere h.V hS.l h.m.tk
  have hkk : tkd s.2 t = none := by
    unfold tkd
    cases hk : tkw s.2 t with
    | none => rfl
    | some j =>
      have : ¬ j < 5 := fun z => hkw j (by omega) hk
      exact if_neg this
  rw [hkk] at hk0
  obtain ⟨u1, e1, f1, o1⟩ := c_refuse (k := 1) h.c
  obtain ⟨v1, e2, f2, o2⟩ := m_ref (k := 1) h.m
  refine Or.inl ⟨u1, v1, e1, ?_, h.no hS (by omega) f1 o1 f2 o2⟩
  unfold X12_readLine
  rw [bnd (no 1 (by omega) (by omega) (by decide)), if_pos z00, bnd (no 2 (by omega) (by omega) (by decide)), if_pos z00, bnd (no 3 (by omega) (by omega) (by decide)), if_pos z00, bnd (no 4 (by omega) (by omega) (by decide)), if_pos z00, bnd (no 9 (by omega) (by omega) (by decide)), if_pos z00, bnd hk0, if_pos (show oI none = -1 from rfl)]
  exact e2
end LA
