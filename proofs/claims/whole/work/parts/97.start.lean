/-! THE CLAIM OUT OF ONE WALK OF THE LAW'S BODY. Your part is whole_start (and what it stands on); all else here is the same for every law, but numbers. -/
def R_law : String := "CoverDeskLaw"
def lw_P (b : Addr) (xs : List Int32) (args : Array Value) (s : State) : Prop := args = #[.ref b] ∧ s.IntsAt b xs ∧ xs.length ≤ 3072 ∧ (Jvm.Cond.and given_1 narrow_1).before args s = true
def lw_Q (_ : Array Value) (s : State) (o : Outcome) (t : State) : Prop := o = .returned (some (.int 1)) ∧ Framed s o t [] 600000 7302250
def lw_Z (below : List Frame) (a : Array Value) (s : State) : State → Prop := fun t => ∃ o, t.status = .running ∧ Ended t below o ∧ lw_Q a s o t
/-- the law's own end, with 1 on the stack, nothing written that was there before, its room as the claim has it -/
theorem lw_ret {p : Program} {l : Launch} {e : Env} {s : State} {m : MethodId} {below : List Frame} {meth : Method} {c : Code} {b : Nat} (hx : p.tables.exec = Jvm.exec) (hb : c.code = code) (hr : meth.sig.returnType = ret) (hlocks : meth.locks = false) {pc : Nat} {H : Heap} {ls : Array Slot} (hdg : decode code pc = .ok (.ireturn, 1)) : W p l e room_1 s m #[Value.ref b] below meth c H [] 600000 7302250 (lw_Z below #[Value.ref b] s) (F0 m pc ls [.int 1]) := by
  intro T hT X
  obtain ⟨fs, hret, hrun, hended, hW, hframe⟩ := X.leave (v := some (.int 1)) (hlocks := hlocks) (fun h => by rw [hr] at h; cases h)
  have hmeth' : T.vm.method? m = some meth := X.method'
  refine ⟨T.setFrames fs, ?_, .returned (some (.int 1)), hrun, hended, rfl, ⟨_, rfl⟩, hW, hframe⟩
  jvm_step X.here [X.here.top, hx, hb, hdg, hmeth', hr, ret, narrow_b1]
  (try refine ⟨rfl, ?_⟩); (try refine ⟨rfl, ?_⟩)
  first | (intro acts; rw [hret _ acts rfl rfl rfl]) | rw [hret _ _ rfl rfl rfl]
  exact Steps.refl _
/-- what holds at the law's entry: the machine, the code, the tables' words (any of lw_tbl by 'hts w (by decide +kernel)'), the script of L ints xs at the cell b, what the Statement gives of the start (any of its parts by flat_of_before) -/
def lw_At (p : Program) (s : State) (m : MethodId) (meth : Method) (c : Code) (b L : Nat) (xs : Nat → Int32) : Prop :=
  p.tables.exec = Jvm.exec ∧ c.code = code ∧ meth.sig.returnType = ret ∧ c.maxLocals = 4 ∧ s.vm.findClass R_law = some m.cls ∧ (∀ w ∈ lw_tbl, w.before #[Value.ref b] s = true) ∧ va_X b L xs s s.heap ∧ b < s.heap.size ∧ meth.locks = false ∧ (Jvm.Cond.and given_1 narrow_1).before #[Value.ref b] s = true
theorem m_1_0 : Cond.classLink RL 7 RX11 ∈ tb := it_1 _ (List.mem_of_getElem? (i := 0) rfl)
theorem m_1_3 : Cond.classLink RL 10 RX12 ∈ tb := it_1 _ (List.mem_of_getElem? (i := 3) rfl)
theorem m_1_6 : Cond.methodLink RL 9 yX11_init ∈ tb := it_1 _ (List.mem_of_getElem? (i := 6) rfl)
theorem m_1_7 : Cond.instanceMethod yX11_init ∈ tb := it_1 _ (List.mem_of_getElem? (i := 7) rfl)
theorem m_1_8 : Cond.code yX11_init cX11_init 1 none ∈ tb := it_1 _ (List.mem_of_getElem? (i := 8) rfl)
theorem m_8_18 : Cond.methodLink RL 12 yX12_init ∈ tb := it_8 _ (List.mem_of_getElem? (i := 18) rfl)
theorem m_8_19 : Cond.instanceMethod yX12_init ∈ tb := it_8 _ (List.mem_of_getElem? (i := 19) rfl)
theorem m_8_20 : Cond.code yX12_init cX12_init 1 none ∈ tb := it_8 _ (List.mem_of_getElem? (i := 20) rfl)
theorem ne_L_7 : gNe RL 7 11 11 [2, 2, 2, 2, 2, 2, 2, 2, 2, 2, 0] := ⟨RX11, TX11, tyX11, rfl, inlX11, tyX11_ok, m_1_0, m_1_1, m_1_2, rfl, by decide⟩
theorem ne_L_10 : gNe RL 10 12 48 [2, 2, 2, 2, 2, 2, 2, 2, 2, 2, 2, 2, 2, 2, 2, 2, 2, 0, 2, 2, 0, 0, 0, 0, 0, 0, 0, 0, 1, 1, 0, 0, 0, 0, 0, 2, 2, 2, 2, 2, 2, 2, 2, 0, 0, 2, 2, 2] := ⟨RX12, TX12, tyX12, rfl, inlX12, tyX12_ok, m_1_3, m_1_4, m_1_5, rfl, by decide⟩
theorem ci_L_9 : gCI RL 9 0 yX11_init cX11_init 1 := ⟨m_1_8, m_1_2, m_1_7, rfl, ⟨by decide +kernel, by decide +kernel, by decide +kernel⟩, Or.inl m_1_6⟩
theorem ci_L_12 : gCI RL 12 0 yX12_init cX12_init 1 := ⟨m_8_20, m_1_5, m_8_19, rfl, ⟨by decide +kernel, by decide +kernel, by decide +kernel⟩, Or.inl m_8_18⟩
theorem dL_law_0 : decode code 0 = .ok (.new 7, 3) := by decide +kernel
theorem dL_law_3 : decode code 3 = .ok (.dup, 1) := by decide +kernel
theorem dL_law_4 : decode code 4 = .ok (.invokespecial 9, 3) := by decide +kernel
theorem dL_law_7 : decode code 7 = .ok (.astore_n 1, 1) := by decide +kernel
theorem dL_law_8 : decode code 8 = .ok (.new 10, 3) := by decide +kernel
theorem dL_law_11 : decode code 11 = .ok (.dup, 1) := by decide +kernel
theorem dL_law_12 : decode code 12 = .ok (.invokespecial 12, 3) := by decide +kernel
theorem dL_law_15 : decode code 15 = .ok (.astore_n 2, 1) := by decide +kernel
theorem dL_law_16 : decode code 16 = .ok (.iconst 0, 1) := by decide +kernel
theorem dL_law_17 : decode code 17 = .ok (.istore_n 3, 1) := by decide +kernel
def z0 : gM := (fun _ _ => 0, fun _ _ => 0)
theorem gZ_z0 (n : Nat) : gZ n z0 := fun _ _ => ⟨rfl, rfl⟩
theorem born1 {s : State} {args : Array Value} {D : va_G} {cA : Nat → ClassId} {B2 : Nat} {H1 : Heap} {own : String} {idx ci N : Nat} {ds : List Nat} {kC : Class} (hts : ∀ w ∈ tb, w.before args s = true) (hK : va_K D vwCl (gTy cA) s) (hn : gNe own idx ci N ds) (hkC : s.vm.classes[D.1 ci]? = some kC) (e1 : H1[B2]? = some (blank (D.1 ci) kC)) : va_P D vwCl (gWs B2 cA [.inl (ci, ds)] z0) H1 := by
  obtain ⟨C, T, ty, hcl, hws, hty, hk1, hk2, hk3, hds, hd2⟩ := hn
  have hKn := hK.1 ci _ hcl
  intro k q hq
  obtain ⟨e, he, rfl⟩ := gWs_of hq
  have hz : k < 1 := (List.getElem?_eq_some_iff.mp he).1
  obtain rfl : k = 0 := by omega
  cases he
  refine ⟨_, hcl, (u_born ty hts hws hKn hkC e1 hty).to (fun j hj => ?_)⟩
  have hj : j < N := hj
  show defaultValue (ty j) = vp_V (gFs B2 0 z0 0 ds) j
  rw [gFs_dv (u := z0) (k := 0) rfl rfl ds 0 hd2, hds]
  unfold vp_V
  rw [List.getD_eq_getElem?_getD, List.getElem?_map, List.getElem?_range hj]
  rfl
theorem RR_T0 {u v : gM} (h1 : RC T0 (N0 T0) [] S0 u) (h2 : RM T0 (N0 T0) [] S0 v) : RR T0 (N0 T0) [] S0 u v := ⟨DV_T0, h1, h2⟩
set_option maxHeartbeats 1000000 in
/-- YOUR PART: from the entry, for every script of at most 3072 ints, the law comes to its end with true ('hflags': the launch's flags, for a law that throws: no stack traces) -/
theorem whole_start {p : Program} {e : Env} {s : State} {m : MethodId} {below : List Frame} {meth : Method} {c : Code} (l : Launch) (hflags : l.flags = flags0) {b L : Nat} {xs : Nat → Int32} (hL : L ≤ 3072) (C0 : lw_At p s m meth c b L xs) : W p l e room_1 s m #[Value.ref b] below meth c s.heap [] 0 0 (lw_Z below #[Value.ref b] s) (entryFrame m ([Value.ref b] : List Value).toArray 4) := by
  obtain ⟨hx, hb, hr, hml, hown, hts, hX, hbl, hlocks, hgv⟩ := C0
  have htb : ∀ w ∈ tb, w.before #[Value.ref b] s = true := fun w hw => hts w (tb_in w hw)
  have hNs : gNst s := lw_N hts
  obtain ⟨D, cA, hK⟩ := lw_K htb hNs.2
  obtain ⟨adK, adV, hStr⟩ := lw_S (A := gAb s.heap.size) hgv hts (fun a h1 h2 => absurd h1 (Nat.not_lt.mpr h2))
  have X : gXJ (p, l, e, room_1, s, m, #[.ref b], below, meth, c, D, cA, adK, adV) (gAb s.heap.size) code 4 RL ret 16 600 600000 7302250 := ⟨⟨hx, hb, hml, hown, htb⟩, hK, hr, hlocks, ⟨rfl, rfl, rfl, rfl⟩, hStr, hNs⟩
  have hsc : gScr b L xs (gAb s.heap.size) (p, l, e, room_1, s, m, #[.ref b], below, meth, c, D, cA, adK, adV) := ⟨hX, hbl, Nat.not_le.mpr hbl⟩
  obtain ⟨B, hB⟩ : ∃ B, B = s.heap.size := ⟨_, rfl⟩
  rw [← hB] at X hsc hStr
  have kend : ∀ (Wd : va_G → (Nat → ClassId) → Heap → Prop) (lv : List (Option Value)), gJ (p, l, e, room_1, s, m, #[.ref b], below, meth, c, D, cA, adK, adV) 4 (gAb B) (lw_Z below #[Value.ref b] s) 193 13216 Wd 1168 lv [] := fun Wd lv => by
    refine j_iconst X (v := 1) dL_law_1168 (by decide) ?_
    intro H locs ls _ hS hl
    refine va_forget (fun q hq => by rw [← hB]; exact hS.2.2 q hq) ?_
    refine W.widen (k := 600000) (n := 7302250) (Nat.le_of_ble_eq_true rfl) (Nat.le_of_ble_eq_true rfl) ?_
    exact lw_ret hx hb hr hlocks dL_law_1169
  -- behind the second constructor: the loop
  have k2 : ∀ (u v : gM), RC T0 (N0 T0) [] S0 u → RM T0 (N0 T0) [] S0 v → gJ (p, l, e, room_1, s, m, #[.ref b], below, meth, c, D, cA, adK, adV) 4 (gAb B) (lw_Z below #[Value.ref b] s) 193 13216 (gW2 B u v) 15 [some (.ref b), some (.ref B), none, none] [.ref (B + 162)] := fun u v h1 h2 => by
    refine j_astore_n X [some (.ref b), some (.ref B), some (.ref (B + 162)), none] dL_law_15 (by decide) rfl ?_
    refine j_iconst X (v := nI 0) dL_law_16 (by decide) ?_
    refine j_istore_n X [some (.ref b), some (.ref B), some (.ref (B + 162)), some (.int (nI 0))] dL_law_17 (by decide) rfl ?_
    exact law_loop X hsc hL ⟨Nat.le_of_ble_eq_true rfl, Nat.le_of_ble_eq_true rfl⟩ kend (L + 7) 0 T0 (N0 T0) [] S0 u v (Nat.zero_le _) (by omega) (RR_T0 h1 h2)
  -- behind the first constructor: the second
  have k1 : ∀ (u : gM), RC T0 (N0 T0) [] S0 u → gJ (p, l, e, room_1, s, m, #[.ref b], below, meth, c, D, cA, adK, adV) 4 (gAb B) (lw_Z below #[Value.ref b] s) 162 6931 (fun D cA H => va_P D vwCl (gWs B cA skC u) H) 7 [some (.ref b), none, none, none] [.ref B] := fun u h1 => by
    refine j_astore_n X [some (.ref b), some (.ref B), none, none] dL_law_7 (by decide) rfl ?_
    intro H locs ls hC hS hl
    have hC : va_P D vwCl (gWs B cA skC u) H := hC
    refine W.size (fun hsz => ?_)
    have hHs : H.size = B + 162 := by
      have := gWs_lt hC (by decide)
      rw [skC_n] at this
      omega
    obtain ⟨C, T, ty, hcl, hws, hty, hk1, hk2, hk3, hds, hd2⟩ := ne_L_10
    cases hcl
    refine W.newcK hx hb hown (htb _ hk1) (htb _ hk2) (htb _ hk3) rfl dL_law_8 (Nat.le_of_ble_eq_true rfl) (Nat.le_of_ble_eq_true rfl) (hK.1 12 _ rfl).2.1 hHs fun H1 kC hkC e1 z1 o1 => ?_
    have hM1 := born1 htb hK ne_L_10 hkC e1
    have hC1 : va_P D vwCl (gWs B cA skC u) H1 := hC.kept (fun k x hx => o1 x.1 (by have := (hC k x hx).lt; omega))
    have hS1 : va_S (gAb B) s.heap H1 locs := ⟨Nat.le_trans hS.1 (by omega), fun q g1 g2 => (o1 q (by have := hS.1; omega)).trans (hS.2.1 q g1 g2), hS.2.2⟩
    refine lv_dup hx hb dL_law_11 rfl ?_
    have hp : PreS s H1 (va_Pc (.ref (B + 162 + ([] : List gE).length) :: []) (fun U => va_P D vwCl (gWs (B + 162) cA ([] ++ [.inl (12, [2, 2, 2, 2, 2, 2, 2, 2, 2, 2, 2, 2, 2, 2, 2, 2, 2, 0, 2, 2, 0, 0, 0, 0, 0, 0, 0, 0, 1, 1, 0, 0, 0, 0, 0, 2, 2, 2, 2, 2, 2, 2, 2, 0, 0, 2, 2, 2])]) z0) U.heap ∧ U.heap.size = B + 162 + (([] : List gE).length + 1) ∧ va_K D vwCl (gTy cA) U ∧ gStA adK adV (gAb (B + 162)) U ∧ gNst U)) (.ref (B + 162) :: []) := ⟨n_blind, fun U hU hW => ⟨rfl, by rw [hU]; exact hM1, by rw [hU]; exact z1, va_K.moved hW.alike hK, gStA_narrow (gStA_M hStr hS1 hU hW) (fun q h => Nat.le_trans (Nat.le_add_right _ _) h), gNst_M hNs hW⟩⟩
    obtain ⟨hwc, hwi, hwm, hnm, hd, hlnk⟩ := ci_L_12
    have hlk1 : Cond.methodLink RL 12 yX12_init ∈ tb := m_8_18
    refine va_callv (va_runI (As := []) (rest := [.ref (B + 162)]) ⟨hx, hb, hml, hown, htb⟩ (n_X12 [] rfl l D cA adK adV (B + 162) z0 (gZ_z0 _)) (cwI 0 htb (gi_c hwc) rfl rfl rfl (htb _ hwi) (htb _ hlk1) (htb _ hwm) hnm hd ⟨Nat.le_of_ble_eq_true rfl, Nat.le_of_ble_eq_true rfl⟩) hp rfl rfl hl.1 rfl (lv_room (Nat.le_of_ble_eq_true rfl)) dL_law_12 ⟨Nat.le_of_ble_eq_true rfl, Nat.le_of_ble_eq_true rfl⟩) hS1 (fun q _ h => Nat.le_trans (Nat.le_add_right _ _) h) (fun q h => Nat.le_trans (Nat.le_add_right _ _) h) (fun v t H2 locs2 ht hvm hψ hBw hz2 hk2 hS2 => ?_)
    have hM2 : va_P D vwCl (gWs (B + 162) cA skM v) H2 := by
      rw [← ht]
      exact hBw
    exact k2 u v h1 hψ.2.2 H2 locs2 ls ⟨gWs_keep (n := 0) hC1 (fun q q1 q2 q3 => by rw [skC_n] at q2; exact absurd q3 (Nat.not_le.mpr q2)) hk2, hM2⟩ hS2 hl
  -- the entry
  have hl := lv_entry ([.ref b]) (n := 4) (Nat.le_of_ble_eq_true rfl)
  rw [lg_entry_eq]
  generalize (lg_sl ([.ref b]) ++ List.replicate (4 - (lg_sl ([.ref b])).length) Slot.unset).toArray = ls at hl ⊢
  have hl : gL ls 4 [some (.ref b), none, none, none] := gL_sub (gL_less hl (fun j w hj => by have := gLv_at [.ref b] 0 j w hj; rwa [Nat.zero_add] at this)) (gMk_sub [true, true, true, true] (gLv [.ref b]))
  obtain ⟨C, T, ty, hcl, hws, hty, hk1, hk2, hk3, hds, hd2⟩ := ne_L_7
  cases hcl
  refine W.newcK hx hb hown (htb _ hk1) (htb _ hk2) (htb _ hk3) rfl dL_law_0 (Nat.le_of_ble_eq_true rfl) (Nat.le_of_ble_eq_true rfl) (hK.1 11 _ rfl).2.1 hB.symm fun H1 kC hkC e1 z1 o1 => ?_
  have hM1 := born1 htb hK ne_L_7 hkC e1
  have hS1 : va_S (gAb B) s.heap H1 [] := ⟨by omega, fun q g1 g2 => o1 q (by omega), fun _ h => absurd h List.not_mem_nil⟩
  refine lv_dup hx hb dL_law_3 rfl ?_
  have hp : PreS s H1 (va_Pc (.ref (B + ([] : List gE).length) :: []) (fun U => va_P D vwCl (gWs B cA ([] ++ [.inl (11, [2, 2, 2, 2, 2, 2, 2, 2, 2, 2, 0])]) z0) U.heap ∧ U.heap.size = B + (([] : List gE).length + 1) ∧ va_K D vwCl (gTy cA) U ∧ gStA adK adV (gAb B) U ∧ gNst U)) (.ref B :: []) := ⟨n_blind, fun U hU hW => ⟨rfl, by rw [hU]; exact hM1, by rw [hU]; exact z1, va_K.moved hW.alike hK, gStA_M hStr hS1 hU hW, gNst_M hNs hW⟩⟩
  obtain ⟨hwc, hwi, hwm, hnm, hd, hlnk⟩ := ci_L_9
  have hlk1 : Cond.methodLink RL 9 yX11_init ∈ tb := m_1_6
  refine va_callv (va_runI (As := []) (rest := [.ref B]) ⟨hx, hb, hml, hown, htb⟩ (n_X11 [] rfl l D cA adK adV B z0 (gZ_z0 _)) (cwI 0 htb (gi_c hwc) rfl rfl rfl (htb _ hwi) (htb _ hlk1) (htb _ hwm) hnm hd ⟨Nat.le_of_ble_eq_true rfl, Nat.le_of_ble_eq_true rfl⟩) hp rfl rfl hl.1 rfl (lv_room (Nat.le_of_ble_eq_true rfl)) dL_law_4 ⟨Nat.le_of_ble_eq_true rfl, Nat.le_of_ble_eq_true rfl⟩) hS1 (fun q _ h => h) (fun q h => h) (fun u t H2 locs2 ht hvm hψ hBw hz2 hk2 hS2 => ?_)
  have hC2 : va_P D vwCl (gWs B cA skC u) H2 := by
    rw [← ht]
    exact hBw
  exact k1 u hψ.2.2 H2 locs2 ls hC2 hS2 hl
