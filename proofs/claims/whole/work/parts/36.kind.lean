/-! another KIND: asKind, bestKind -/
section KD
variable {T : gT} {N : gN} {P : List gN} {S : gS} {u v : gM}
def TK (T : gT) (a k : Nat) : gT := fun r i => if r = 1 ∧ i = a then k else T r i
theorem TK_r {r i a k : Nat} (h : r ≠ 1) : TK T a k r i = T r i := if_neg (fun z => h z.1)
theorem TK_f {r a k : Nat} (h : r ≠ 1) : TK T a k r = T r := funext fun _ => TK_r h
theorem TK_1 {i a k : Nat} : TK T a k 1 i = if i = a then k else T 1 i := by
  unfold TK
  by_cases h : i = a
  · rw [if_pos ⟨rfl, h⟩, if_pos h]
  · rw [if_neg (fun z => h z.2), if_neg h]
theorem TK_id {a : Nat} : TK T a (T 1 a) = T := by
  funext r i
  by_cases h : r = 1
  · subst h
    rw [TK_1]
    by_cases h : i = a
    · rw [if_pos h, h]
    · rw [if_neg h]
  · exact TK_r h
theorem TK_V {a k : Nat} (hV : VT T) (hk : k ≤ 4) : VT (TK T a k) := by
  have e : ∀ r, r ≠ 1 → TK T a k r = T r := fun r h => TK_f h
  unfold VT at *
  rw [e 0 (by omega), e 2 (by omega), e 3 (by omega), e 4 (by omega), e 5 (by omega), e 6 (by omega), e 7 (by omega), e 8 (by omega), e 9 (by omega), e 10 (by omega), e 11 (by omega), e 12 (by omega), e 13 (by omega), e 14 (by omega)]
  refine ⟨hV.1, hV.2.1, hV.2.2.1, hV.2.2.2.1, hV.2.2.2.2.1, hV.2.2.2.2.2.1, fun i hi => ?_, hV.2.2.2.2.2.2.2⟩
  rw [TK_1]
  split
  · exact hk
  · exact hV.2.2.2.2.2.2.1 i hi
theorem TK_N {a k : Nat} (h : VN T N) : VN (TK T a k) N := by
  unfold VN at *
  rw [TK_f (r := 0) (by omega)]
  exact h
theorem TK_RN {a k s : Nat} (h : RN s T N u) : RN s (TK T a k) N u := by
  unfold RN at *
  rw [TK_f (r := 0) (by omega)]
  exact h
theorem TK_RNm {a k : Nat} {f : Nat → Int32} (h : RNm f T N) : RNm f (TK T a k) N := by
  unfold RNm at *
  rw [TK_f (r := 0) (by omega)]
  exact h
theorem TK_RTm {a k d : Nat} (h : RTm d T u) : RTm d (TK T a k) u := by
  have e : ∀ r, r ≠ 1 → TK T a k r = T r := fun r h => TK_f h
  unfold RTm at *
  rw [e 0 (by omega), e 2 (by omega), e 3 (by omega), e 4 (by omega), e 5 (by omega), e 6 (by omega), e 7 (by omega), e 8 (by omega), e 9 (by omega), e 10 (by omega), e 11 (by omega), e 12 (by omega), e 13 (by omega), e 14 (by omega)]
  exact h
theorem TK_RT {a k : Nat} (h : RT 3 T u) : RT 3 (TK T a k) (upI u 7 a (nI k)) := by
  have e : ∀ r, r ≠ 1 → TK T a k r = T r := fun r h => TK_f h
  have hk := h.kd
  unfold RT at *
  simp only [Nat.reduceAdd] at *
  rw [e 0 (by omega), e 2 (by omega), e 3 (by omega), e 4 (by omega), e 5 (by omega), e 6 (by omega), e 7 (by omega), e 8 (by omega), e 9 (by omega), e 10 (by omega), e 11 (by omega), e 12 (by omega), e 13 (by omega), e 14 (by omega)]
  rw [upI_2, upI_k (show 3 ≠ 7 by omega), upI_k (show 8 ≠ 7 by omega), upI_k (show 9 ≠ 7 by omega), upI_k (show 10 ≠ 7 by omega), upI_k (show 11 ≠ 7 by omega), upI_k (show 12 ≠ 7 by omega), upI_k (show 13 ≠ 7 by omega), upI_k (show 15 ≠ 7 by omega), upI_k (show 16 ≠ 7 by omega), upI_k (show 17 ≠ 7 by omega)]
  refine ⟨h.1, h.2.1, h.2.2.1, h.2.2.2.1, h.2.2.2.2.1, h.2.2.2.2.2.1, h.2.2.2.2.2.2.1, h.2.2.2.2.2.2.2.1, h.2.2.2.2.2.2.2.2.1, fun i hi => ?_, h.2.2.2.2.2.2.2.2.2.2⟩
  rw [TK_1]
  by_cases z : i = a
  · subst z; rw [upI_at, if_pos rfl]
  · rw [upI_j z, if_neg z]; exact hk i hi
theorem q_asK {a k : Nat} (hV : VT T) (hVN : VN T N) (hT : RT 3 T u) (hN : RN 18 T N u) (ha : a < T 0 2) (hk : k ≤ 4) : ∃ u', X11_insuredAsKind (nI a) (nI k) u = some (lN (iallS (TK T a k) N none), u') ∧ off sX u u' := by
  have hna := hV.na
  have hmo := hVN.mo
  have hkd := hT.kd a ha
  simp only [Nat.reduceAdd] at hkd
  have hN1 : RN 18 T N (upI u 7 a (nI k)) := hN.mv (fun c h1 _ => ⟨upI_k (by omega), by rw [upI_2]⟩)
  obtain ⟨u1, e1, o1, i1, _⟩ := q_insure (m := N.1 0 0) (TK_V hV hk) (TK_N hVN) (by omega) (TK_RT (a := a) (k := k) hT) (TK_RN hN1)
  have o1' := sJX o1
  have r7 := (o1' 7 (by intro z; have z1 : 137 ≤ 7 := z; omega)).1
  have ou : off sX u (upI u1 7 a (nI (T 1 a))) := by
    intro c hc
    by_cases z : c = 7
    · subst z
      refine ⟨?_, by rw [upI_2, (o1' 7 hc).2, upI_2]⟩
      funext i
      by_cases z : i = a
      · subst z; rw [upI_at, hkd]
      · rw [upI_j z, r7, upI_j z]
    · exact ⟨by rw [upI_k z, (o1' c hc).1, upI_k z], by rw [upI_2, (o1' c hc).2, upI_2]⟩
  have hT2 := RT_sX hT ou
  have e3 := q_iall (g := fun a' k' => insS (TK T a k) N (N.1 0 0) a' k') hV hT2 (fun a' k' ha' hk' => by
    have ha2 : a' < TK T a k 0 2 := by rw [TK_r (by omega)]; exact ha'
    have hk2 : k' < TK T a k 5 a' := by rw [TK_r (by omega)]; exact hk'
    refine ⟨?_, insS_b (TK_V hV hk) (TK_N hVN) ha2 hk2⟩
    rw [upI_k (by omega)]
    exact i1 a' k' ha2 hk2)
  have e4 : sumN (fun a' => sumN (fun k' => insS (TK T a k) N (N.1 0 0) a' k') (T 5 a')) (T 0 2) = iallS (TK T a k) N none := by
    rw [← iall_sum (TK_V hV hk) (TK_N hVN) rfl]
    unfold iacS
    rw [TK_f (r := 0) (by omega), TK_f (r := 5) (by omega)]
  rw [e4] at e3
  refine ⟨upI u1 7 a (nI (T 1 a)), ?_, ou⟩
  unfold X11_insuredAsKind
  have m1 : (upI u 7 a (nI k)).1 18 0 = nI (N.1 0 0) := hN1.mo
  simp (disch := omega) only [aC7, sC7, hkd, m1, e1, e3, Option.bind_some]
/-- the model may change in what only insuredAs looks at -/
theorem RM.mv2 (h : RM T N P S v) {v' : gM} (e : ∀ c, 1 ≤ c → c ≤ 19 → c ≠ 18 → v'.1 c = v.1 c ∧ v'.2 c = v.2 c) (e0 : ∀ i, i ≠ 33 → v'.1 0 i = v.1 0 i) : RM T N P S v' := by
  refine ⟨h.t.mv (fun c h1 h2 => e c h1 (by omega) (by omega)), ?_, ?_, ?_, ?_, ?_, ?_, ?_, ?_, ?_, ?_, ?_⟩
  · have := h.k
    unfold RKm at *
    rw [(e 5 (by omega) (by omega) (by omega)).1]; exact this
  · rw [(e 16 (by omega) (by omega) (by omega)).1]; exact h.n
  · rw [e0 17 (by omega)]; exact h.pc
  · rw [(e 17 (by omega) (by omega) (by omega)).1]; exact h.pr
  · rw [e0 20 (by omega)]; exact h.tl
  · rw [(e 19 (by omega) (by omega) (by omega)).1]; exact h.tp
  · rw [e0 21 (by omega)]; exact h.fa
  · rw [e0 22 (by omega)]; exact h.fp
  · rw [e0 32 (by omega)]; exact h.oa
  · rw [e0 34 (by omega)]; exact h.mh
  · rw [e0 44 (by omega)]; exact h.dt
theorem m_asK {a k : Nat} (hV : VT T) (hVN : VN T N) (h : RM T N P S v) (ha : a < T 0 2) (hk : k ≤ 4) : ∃ v', X12_insuredAs (nI a) (nI k) v = some (lN (iallS (TK T a k) N none), v') ∧ RM T N P S v' := by
  have hna := hV.na
  have hM : MV (TK T a k) N none (upI (upI v 0 32 (nI a)) 0 33 (nI k)) := by
    have ec : ∀ c, 1 ≤ c → (upI (upI v 0 32 (nI a)) 0 33 (nI k)).1 c = v.1 c := fun c hc => by rw [upI_k (by omega), upI_k (by omega)]
    refine ⟨TK_RTm (h.t.mv (fun c h1 _ => ⟨ec c h1, by rw [upI_2, upI_2]⟩)), ?_, ?_, ?_⟩
    · rw [ec 16 (by omega)]; exact TK_RNm h.n
    · intro a' ha'
      have ha2 : a' < T 0 2 := by rw [TK_r (by omega)] at ha'; exact ha'
      have hk' := h.k a' ha2
      rw [Nat.mul_zero, Nat.zero_add] at hk'
      rw [upI_at, upI_j (show 32 ≠ 33 by omega), upI_at, ec 5 (by omega), TK_1, hk']
      by_cases z : a' = a
      · rw [if_pos z, z, if_pos rfl]
      · rw [if_neg z, if_neg (by rw [nI_eq (by omega) (by omega)]; exact z)]
    · rw [upI_j (show 34 ≠ 33 by omega), upI_j (show 34 ≠ 32 by omega)]; exact h.mh
  obtain ⟨v1, e1, o1⟩ := m_insuredAll (TK_V hV hk) (TK_N hVN) hM (fun _ => hn0)
  have o1' : ∀ c, c ≤ 19 → v1.1 c = (upI (upI v 0 32 (nI a)) 0 33 (nI k)).1 c ∧ v1.2 c = (upI (upI v 0 32 (nI a)) 0 33 (nI k)).2 c := fun c hc => o1 c (by intro z; have z1 : c = 20 := z; omega)
  refine ⟨upI v1 0 32 (-nI 1), ?_, h.mv2 (fun c h1 h2 _ => ⟨by rw [upI_k (by omega), (o1' c h2).1, upI_k (by omega), upI_k (by omega)], by rw [upI_2, (o1' c h2).2, upI_2, upI_2]⟩) (fun i hi => ?_)⟩
  · unfold X12_insuredAs
    rw [e1]
    rfl
  · by_cases z : i = 32
    · subst z; rw [upI_at]; exact h.oa.symm
    · rw [upI_j z, (o1' 0 (by omega)).1, upI_j hi, upI_j z]
end KD
