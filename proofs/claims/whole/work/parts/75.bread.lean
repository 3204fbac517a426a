/-! a BOOK, LINE by LINE -/
def bY (v : gM) : Option (Int32 × gM) := ((X12_isRead v).bind fun w87 => (if w87.1 = 0 then some ((-1), w87.2) else (X12_book_l97 fz 0 w87.2)))
def bE (t : tkT) : Int32 := if t.1 = 0 then 0 else 1
section BR
variable {u0 v0 u v u1 v1 : gM} {s : tpT} {t t1 : tkT} {D : gT}
theorem b_line {x : Option (Int32 × gM)} {k25 : Int32 → Int32 → gM → Option (Int32 × gM)} {i p0 : Nat} (hS : TS s) (h : BLn u0 v0 s p0 x v) :
    (∃ u1 v1, (x.bind fun w => X0_read_b172 k25 w.1 (nI i) w.2) = k25 0 (nI (i + 1)) u1 ∧ X12_readLine v = some (nI 0, v1) ∧ BF u0 v0 u1 v1) ∨
    (∃ t' D' u1 v1, (x.bind fun w => X0_read_b172 k25 w.1 (nI i) w.2) = k25 1 (nI (i + 1)) u1 ∧ X12_readLine v = some (nI 1, v1) ∧ p0 < t'.2.1 ∧ BS u0 v0 s t' D' u1 v1) := by
  unfold X0_read_b172 X0_read_b190 X0_read_b191
  rcases h with ⟨u1, v1, e1, e2, hF⟩ | ⟨t', D', u1, v1, e1, e2, g, hB⟩
  · refine Or.inl ⟨u1, v1, ?_, e2, hF⟩
    rw [bnd e1, if_pos z00, nI_s]
  · rcases b_semi hS hB with ⟨u2, v2, c2, d2, hF⟩ | ⟨g0, u2, v2, c2, d2, hB2⟩
    · refine Or.inl ⟨u2, v2, ?_, ?_, hF⟩
      · rw [bnd e1, if_neg n10, bnd c2, if_pos z00, nI_s]
      · rw [e2]
        unfold X12_readLine_b207
        rw [bnd d2]
        rfl
    · refine Or.inr ⟨nx s t', D', u2, v2, ?_, ?_, ?_, hB2⟩
      · rw [bnd e1, if_neg n10, bnd c2, if_neg n10, nI_s]
      · rw [e2]
        unfold X12_readLine_b207
        rw [bnd d2]
        rfl
      · have := (nx_V hB.V).2
        have := hB.V.g g0
        omega
theorem b_disp {k25 : Int32 → Int32 → gM → Option (Int32 × gM)} {i : Nat} (hS : TS s) (h : BS u0 v0 s t D u v) (hi : i < 700) (h0 : t.1 ≠ 0) :
    ∃ x, X0_read_b25 k25 1 (nI i) u = (x.bind fun w => X0_read_b172 k25 w.1 (nI i) w.2) ∧ BLn u0 v0 s t.2.2 x v := by
  have z1 : ¬ (700 : Int32) ≤ nI i := by rw [nI_lit, nI_leI (by omega) (by omega)]; omega
  have z2 : ¬ (1 : Int32) = 0 := by decide
  have z3 : ¬ u.1 1 3 = 0 := fun z => h0 (srt_0.mp ((h.c.tk.s_iff (k := 0) (by omega)).mp z))
  have hw := h.c.tk.w
  unfold X0_read_b25 X0_read_b108
  rw [if_neg z1, if_neg z2, if_neg z3, hw]
  by_cases hj : ∃ j, j ≤ 9 ∧ tkw s.2 t = some j
  · obtain ⟨j, hj9, hk⟩ := hj
    rw [hk]
    rcases (show j = 0 ∨ j = 1 ∨ j = 2 ∨ j = 3 ∨ j = 4 ∨ j = 5 ∨ j = 6 ∨ j = 7 ∨ j = 8 ∨ j = 9 by omega) with rfl | rfl | rfl | rfl | rfl | rfl | rfl | rfl | rfl | rfl
    · exact ⟨X0_readAccount (nI 0) u, by rw [if_pos (by decide)]; rfl, L_account hS h (by omega) hk⟩
    · exact ⟨X0_readAccount (nI 1) u, by rw [if_neg (by decide), if_pos (by decide)]; rfl, L_account hS h (by omega) hk⟩
    · exact ⟨X0_readAccount (nI 2) u, by rw [if_neg (by decide), if_neg (by decide), if_pos (by decide)]; rfl, L_account hS h (by omega) hk⟩
    · exact ⟨X0_readAccount (nI 3) u, by rw [if_neg (by decide), if_neg (by decide), if_neg (by decide), if_pos (by decide)]; rfl, L_account hS h (by omega) hk⟩
    · exact ⟨X0_readAccount (nI 4) u, by rw [if_neg (by decide), if_neg (by decide), if_neg (by decide), if_neg (by decide), if_pos (by decide)]; rfl, L_account hS h (by omega) hk⟩
    · exact ⟨X0_readPerson u, by rw [if_neg (by decide), if_neg (by decide), if_neg (by decide), if_neg (by decide), if_neg (by decide), if_pos (by decide)], L_person hS h hk⟩
    · exact ⟨X0_readBank u, by rw [if_neg (by decide), if_neg (by decide), if_neg (by decide), if_neg (by decide), if_neg (by decide), if_neg (by decide), if_pos (by decide)], L_bank hS h hk⟩
    · exact ⟨X0_readLimit u, by rw [if_neg (by decide), if_neg (by decide), if_neg (by decide), if_neg (by decide), if_neg (by decide), if_neg (by decide), if_neg (by decide), if_pos (by decide)], L_limit hS h hk⟩
    · exact ⟨X0_readGrace u, by rw [if_neg (by decide), if_neg (by decide), if_neg (by decide), if_neg (by decide), if_neg (by decide), if_neg (by decide), if_neg (by decide), if_neg (by decide), if_pos (by decide)], L_grace hS h hk⟩
    · exact ⟨X0_readLoan u, by rw [if_neg (by decide), if_neg (by decide), if_neg (by decide), if_neg (by decide), if_neg (by decide), if_neg (by decide), if_neg (by decide), if_neg (by decide), if_neg (by decide), if_pos (by decide)], L_loan hS h hk⟩
  · have hno : ∀ j, j ≤ 9 → tkw s.2 t ≠ some j := fun j hj9 z => hj ⟨j, hj9, z⟩
    have hne : ∀ j, j ≤ 9 → ¬ oI (tkw s.2 t) = nI j := fun j hj9 z => hno j hj9 ((oI_nI (fun n hn => by have := tkw_lt hn; omega) (show j < 2 ^ 31 by omega)).mp z)
    refine ⟨X9_refuse 1 u, ?_, L_none hS h hno⟩
    rw [if_neg (show ¬ oI (tkw s.2 t) = 0 from hne 0 (by omega)), if_neg (show ¬ oI (tkw s.2 t) = 1 from hne 1 (by omega)), if_neg (show ¬ oI (tkw s.2 t) = 2 from hne 2 (by omega)), if_neg (show ¬ oI (tkw s.2 t) = 3 from hne 3 (by omega)), if_neg (show ¬ oI (tkw s.2 t) = 4 from hne 4 (by omega)), if_neg (show ¬ oI (tkw s.2 t) = 5 from hne 5 (by omega)), if_neg (show ¬ oI (tkw s.2 t) = 6 from hne 6 (by omega)), if_neg (show ¬ oI (tkw s.2 t) = 7 from hne 7 (by omega)), if_neg (show ¬ oI (tkw s.2 t) = 8 from hne 8 (by omega)), if_neg (show ¬ oI (tkw s.2 t) = 9 from hne 9 (by omega))]
theorem b_read (hS : TS s) : ∀ (f i : Nat) (t : tkT) (D : gT) (u v : gM), i ≤ t.2.1 → 702 ≤ f + i → BS u0 v0 s t D u v →
    (∃ u1 v1, X0_read_l25 f 1 (nI i) u = some (nI 0, u1) ∧ X12_book_l59 f (bE t) v = bY v1 ∧ BF u0 v0 u1 v1) ∨
    (∃ t' D' u1 v1, X0_read_l25 f 1 (nI i) u = some (nI 1, u1) ∧ X12_book_l59 f (bE t) v = bY v1 ∧ BS u0 v0 s t' D' u1 v1) := by
  intro f
  induction f with
  | zero =>
    intro i t D u v h1 h2 h
    have := h.V.l; have := h.V.m; have := hS.l
    omega
  | succ f ih =>
    intro i t D u v h1 h2 h
    have hl := h.V.l; have hm := h.V.m; have hsl := hS.l
    obtain ⟨f', rfl⟩ : ∃ f', f = f' + 1 := ⟨f - 1, by omega⟩
    by_cases h0 : t.1 = 0
    · refine Or.inr ⟨t, D, u, v, ?_, ?_, h⟩
      · show X0_read_b25 (X0_read_l25 (f' + 1)) 1 (nI i) u = _
        unfold X0_read_b25 X0_read_b198
        by_cases hz : (700 : Int32) ≤ nI i
        · rw [if_pos hz]; rfl
        · rw [if_neg hz, if_neg (by decide), if_pos (show u.1 1 3 = 0 from (h.c.tk.s_iff (k := 0) (by omega)).mpr (srt_0.mpr h0))]; rfl
      · show X12_book_b59 (X12_book_l59 (f' + 1)) (bE t) v = _
        unfold X12_book_b59
        rw [if_pos (show bE t = 0 from if_pos h0)]
        rfl
    · have hg := h.V.g h0
      have hi : i < 700 := by omega
      obtain ⟨x, ex, hx⟩ := b_disp (k25 := X0_read_l25 (f' + 1)) hS h hi h0
      have eC : X0_read_l25 (f' + 1 + 1) 1 (nI i) u = (x.bind fun w => X0_read_b172 (X0_read_l25 (f' + 1)) w.1 (nI i) w.2) := ex
      have eM : X12_book_l59 (f' + 1 + 1) (bE t) v = ((X12_readLine v).bind fun w64 => (if w64.1 = 0 then (X12_book_b81 (X12_book_l59 (f' + 1)) w64.2) else (if (w64.2.1 0 25) = 0 then (X12_book_b81 (X12_book_l59 (f' + 1)) w64.2) else (X12_book_b82 (X12_book_l59 (f' + 1)) 1 w64.2)))) := by
        show X12_book_b59 (X12_book_l59 (f' + 1)) (bE t) v = _
        unfold X12_book_b59
        rw [if_neg (show ¬ bE t = 0 by unfold bE; rw [if_neg h0]; decide)]
      rcases b_line (k25 := X0_read_l25 (f' + 1)) (i := i) hS hx with ⟨u1, v1, e1, e2, hF⟩ | ⟨t', D', u1, v1, e1, e2, g, hB⟩
      · refine Or.inl ⟨u1, v1, ?_, ?_, hF⟩
        · rw [eC, e1]
          show X0_read_b25 (X0_read_l25 f') 0 (nI (i + 1)) u1 = _
          unfold X0_read_b25 X0_read_b198
          by_cases hz : (700 : Int32) ≤ nI (i + 1)
          · rw [if_pos hz]; rfl
          · rw [if_neg hz, if_pos rfl]; rfl
        · rw [eM, bnd e2, if_pos z00]
          show X12_book_b59 (X12_book_l59 f') 0 v1 = _
          unfold X12_book_b59
          rw [if_pos rfl]
          rfl
      · have e3 : X12_book_l59 (f' + 1 + 1) (bE t) v = X12_book_l59 (f' + 1) (bE t') v1 := by
          rw [eM, bnd e2, if_neg n10]
          dsimp only
          rw [hB.m.tk.s]
          by_cases z : t'.1 = 0
          · rw [if_pos (show nI t'.1 = 0 by rw [z]; rfl)]
            unfold X12_book_b81 X12_book_b82 bE
            rw [if_pos z]
          · rw [if_neg (show ¬ nI t'.1 = 0 by have := hB.V.s; rw [nI_lit, nI_eq (by omega) (by omega)]; exact z)]
            unfold X12_book_b82 bE
            rw [if_neg z]
        rw [eC, e1, e3]
        exact ih (i + 1) t' D' u1 v1 (by omega) (by omega) hB
end BR
