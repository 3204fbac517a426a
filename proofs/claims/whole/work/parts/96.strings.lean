/-! THE TEXTS -/
def eoff : List Nat := [9, 122, 133, 143, 155, 168, 179, 191, 205, 221, 238, 258, 278, 299, 320, 342, 364, 388, 414, 440, 469, 496]
def tmS (i : Nat) : Term := .string (gSt.getD i ("", 0, "", [])).1 (gSt.getD i ("", 0, "", [])).2.1
def FLt : List Jvm.Cond := flatC (Jvm.Cond.and given_1 narrow_1)
theorem fs_ex : ∀ i, i < 22 → FLt[eoff.getD i 0]? = some (Cond.exactly (tmS i) "java/lang/String") := by decide +kernel
theorem fs_co : ∀ i, i < 22 → FLt[eoff.getD i 0 + 1]? = some (Cond.eq (.field (tmS i) "java/lang/String" "coder" "B") (.int 0)) := by decide +kernel
theorem fs_ar : ∀ i, i < 22 → FLt[eoff.getD i 0 + 2]? = some (Cond.arrayOf (.field (tmS i) "java/lang/String" "value" "[B") .byte) := by decide +kernel
theorem fs_le : ∀ i, i < 22 → FLt[eoff.getD i 0 + 3]? = some (Cond.eq (.length (.field (tmS i) "java/lang/String" "value" "[B")) (.int (Int32.ofNat (gLn.getD i 0)))) := by decide +kernel
theorem fs_el : ∀ i, i < 22 → ∀ j, j < gLn.getD i 0 → FLt[eoff.getD i 0 + 4 + j]? = some (Cond.eq (.elem (.field (tmS i) "java/lang/String" "value" "[B") (.int (Int32.ofNat j))) (.int ((gBy.getD i []).getD j 0))) := by decide +kernel
theorem fs_ne : ∀ j, j < 22 → ∀ i, i < j → FLt[eoff.getD j 0 + 4 + gLn.getD j 0 + i]? = some (Cond.not (Cond.eq (tmS i) (tmS j))) := by decide +kernel
theorem fs_n : ∀ i, i < 22 → gLn.getD i 0 < 2 ^ 31 := by decide +kernel
theorem fs_cs : FLt[4]? = some (Cond.eq (.static "java/lang/String" "COMPACT_STRINGS" "Z") (.int 1)) := by decide +kernel
theorem fs_fm : FLt[5]? = some (Cond.isRef (.static "jdk/internal/util/Preconditions" "SIOOBE_FORMATTER" "Ljava/util/function/BiFunction;")) := by decide +kernel
theorem str_in : ∀ w ∈ gSt.map (fun q => Cond.stringRef q.1 q.2.1 q.2.2.1), w ∈ lw_tbl := by
  show ∀ w ∈ [Cond.stringRef "CoverDesk$Tape" 69 "single joint trust plan firm person bank limit grace loan at of for term put take merge into months pay fail ", Cond.stringRef "CoverDeskModel" 196 "person", Cond.stringRef "CoverDeskModel" 198 "bank", Cond.stringRef "CoverDeskModel" 200 "limit", Cond.stringRef "CoverDeskModel" 202 "grace", Cond.stringRef "CoverDeskModel" 204 "at", Cond.stringRef "CoverDeskModel" 206 "of", Cond.stringRef "CoverDeskModel" 208 "for", Cond.stringRef "CoverDeskModel" 210 "term", Cond.stringRef "CoverDeskModel" 211 "loan", Cond.stringRef "CoverDeskModel" 182 "single", Cond.stringRef "CoverDeskModel" 188 "joint", Cond.stringRef "CoverDeskModel" 190 "trust", Cond.stringRef "CoverDeskModel" 192 "plan", Cond.stringRef "CoverDeskModel" 194 "firm", Cond.stringRef "CoverDeskModel" 216 "put", Cond.stringRef "CoverDeskModel" 218 "take", Cond.stringRef "CoverDeskModel" 220 "merge", Cond.stringRef "CoverDeskModel" 222 "into", Cond.stringRef "CoverDeskModel" 224 "months", Cond.stringRef "CoverDeskModel" 226 "pay", Cond.stringRef "CoverDeskModel" 228 "fail"], w ∈ lw_tbl
  exact List.forall_mem_cons.mpr ⟨jt_3 _ (List.mem_of_getElem? (i := 105) (by decide +kernel)), List.forall_mem_cons.mpr ⟨jt_6 _ (List.mem_of_getElem? (i := 210) (by decide +kernel)), List.forall_mem_cons.mpr ⟨jt_6 _ (List.mem_of_getElem? (i := 232) (by decide +kernel)), List.forall_mem_cons.mpr ⟨jt_6 _ (List.mem_of_getElem? (i := 233) (by decide +kernel)), List.forall_mem_cons.mpr ⟨jt_6 _ (List.mem_of_getElem? (i := 234) (by decide +kernel)), List.forall_mem_cons.mpr ⟨jt_6 _ (List.mem_of_getElem? (i := 235) (by decide +kernel)), List.forall_mem_cons.mpr ⟨jt_6 _ (List.mem_of_getElem? (i := 236) (by decide +kernel)), List.forall_mem_cons.mpr ⟨jt_6 _ (List.mem_of_getElem? (i := 237) (by decide +kernel)), List.forall_mem_cons.mpr ⟨jt_6 _ (List.mem_of_getElem? (i := 238) (by decide +kernel)), List.forall_mem_cons.mpr ⟨jt_6 _ (List.mem_of_getElem? (i := 239) (by decide +kernel)), List.forall_mem_cons.mpr ⟨jt_7 _ (List.mem_of_getElem? (i := 4) (by decide +kernel)), List.forall_mem_cons.mpr ⟨jt_7 _ (List.mem_of_getElem? (i := 5) (by decide +kernel)), List.forall_mem_cons.mpr ⟨jt_7 _ (List.mem_of_getElem? (i := 6) (by decide +kernel)), List.forall_mem_cons.mpr ⟨jt_7 _ (List.mem_of_getElem? (i := 7) (by decide +kernel)), List.forall_mem_cons.mpr ⟨jt_7 _ (List.mem_of_getElem? (i := 8) (by decide +kernel)), List.forall_mem_cons.mpr ⟨jt_7 _ (List.mem_of_getElem? (i := 9) (by decide +kernel)), List.forall_mem_cons.mpr ⟨jt_7 _ (List.mem_of_getElem? (i := 10) (by decide +kernel)), List.forall_mem_cons.mpr ⟨jt_7 _ (List.mem_of_getElem? (i := 11) (by decide +kernel)), List.forall_mem_cons.mpr ⟨jt_7 _ (List.mem_of_getElem? (i := 12) (by decide +kernel)), List.forall_mem_cons.mpr ⟨jt_7 _ (List.mem_of_getElem? (i := 13) (by decide +kernel)), List.forall_mem_cons.mpr ⟨jt_7 _ (List.mem_of_getElem? (i := 14) (by decide +kernel)), List.forall_mem_cons.mpr ⟨jt_7 _ (List.mem_of_getElem? (i := 15) (by decide +kernel)), fun _ h => absurd h List.not_mem_nil⟩⟩⟩⟩⟩⟩⟩⟩⟩⟩⟩⟩⟩⟩⟩⟩⟩⟩⟩⟩⟩⟩
theorem lw_S {args : Array Value} {s : State} {A : Nat → Prop} (hgv : (Jvm.Cond.and given_1 narrow_1).before args s = true) (hts : ∀ w ∈ lw_tbl, w.before args s = true) (hA : ∀ a : Nat, a < s.heap.size → ¬ A a) : ∃ adK adV : Nat → Nat, gStA adK adV A s := by
  have hf := flat_of_before _ hgv
  have fg : ∀ {k : Nat} {c : Jvm.Cond}, FLt[k]? = some c → c.before args s = true := fun h => hf _ (List.mem_of_getElem? (show (flatC (Jvm.Cond.and given_1 narrow_1))[_]? = some _ from h))
  obtain ⟨aK, aV, hS, hE⟩ := vk_Sof (args := args) (s := s) (N := 22) (tm := tmS) (len := gLn) (byt := gBy) (A := A) fs_n (fun i hi => fg (fs_ex i hi)) (fun i hi => fg (fs_co i hi)) (fun i hi => fg (fs_ar i hi)) (fun i hi => fg (fs_le i hi)) (fun i hi j hj => fg (fs_el i hi j hj)) (fun i j hi hj hij => by
    rcases Nat.lt_or_gt_of_ne hij with h | h
    · exact Or.inl (fg (fs_ne j hj i h))
    · exact Or.inr (fg (fs_ne i hi j h))) hA
  have e : ∀ i, i < 22 → (if i < 100 then aK i else aV (i - 100)) = aK i := fun i hi => if_pos (by omega)
  refine ⟨fun i => if i < 100 then aK i else aV (i - 100), aV, ⟨fun i hi => ?_, fun i j hi hj h => ?_⟩, fun i q hq => ?_, fun i => ?_, ?_, ?_⟩
  · show va_O "java/lang/String" (if i < 100 then aK i else aV (i - 100)) A s s.heap ∧ va_OF "java/lang/String" "coder" "B" (.int 0) (if i < 100 then aK i else aV (i - 100)) A s s.heap ∧ va_OF "java/lang/String" "value" "[B" (.ref (aV i)) (if i < 100 then aK i else aV (i - 100)) A s s.heap ∧ _
    rw [e i hi]
    exact hS.1 i hi
  · refine hS.2 i j hi hj ?_
    rw [← e i hi, ← e j hj]
    exact h
  · have hi := (gSt_i hq).1
    show vk_R q.1 q.2.1 q.2.2.1 (if i < 100 then aK i else aV (i - 100)) s
    rw [e i hi]
    have ht : tmS i = .string q.1 q.2.1 := by
      unfold tmS
      rw [List.getD_eq_getElem?_getD, hq]
      rfl
    have hE2 := hE i hi
    rw [ht] at hE2
    exact vk_R.of (A := args) (hts _ (str_in _ (List.mem_map.mpr ⟨q, List.mem_of_getElem? hq, rfl⟩))) hE2
  · show aV i = if 100 + i < 100 then aK (100 + i) else aV (100 + i - 100)
    rw [if_neg (by omega), Nat.add_sub_cancel_left]
  · exact va_Zof (args := args) (hts _ (jt_3 _ (List.mem_of_getElem? (i := 115) (by decide +kernel)))) (hts _ (jt_1 _ (List.mem_of_getElem? (i := 16) (by decide +kernel)))) (va_eqt (fg fs_cs)) hA
  · exact va_Zqof (args := args) (hts _ (jt_3 _ (List.mem_of_getElem? (i := 131) (by decide +kernel)))) (hts _ (jt_1 _ (List.mem_of_getElem? (i := 18) (by decide +kernel)))) (fg fs_fm) hA
