/-! CoverDeskModel.see(I)I -/
theorem dX12_see_0 : decode cX12_see 0 = .ok (.iload_n 1, 1) := by decide +kernel
theorem dX12_see_1 : decode cX12_see 1 = .ok (.aload_n 0, 1) := by decide +kernel
theorem dX12_see_2 : decode cX12_see 2 = .ok (.getfield 118, 3) := by decide +kernel
theorem dX12_see_5 : decode cX12_see 5 = .ok (.if_icmp .ge 12, 3) := by decide +kernel
theorem dX12_see_8 : decode cX12_see 8 = .ok (.aload_n 0, 1) := by decide +kernel
theorem dX12_see_9 : decode cX12_see 9 = .ok (.getfield 65, 3) := by decide +kernel
theorem dX12_see_12 : decode cX12_see 12 = .ok (.iload_n 1, 1) := by decide +kernel
theorem dX12_see_13 : decode cX12_see 13 = .ok (.iaload, 1) := by decide +kernel
theorem dX12_see_14 : decode cX12_see 14 = .ok (.goto 4, 3) := by decide +kernel
theorem dX12_see_17 : decode cX12_see 17 = .ok (.iconst (-1), 1) := by decide +kernel
theorem dX12_see_18 : decode cX12_see 18 = .ok (.ireturn, 1) := by decide +kernel
def X12_see_b18 (u : gM)  (s0 : Int32) : Option Int32 :=
some s0
def X12_see (u : gM)  (x1 : Int32) : Option Int32 :=
(if (u.1 0 20) ≤ x1 then (X12_see_b18 u (-1))
  else ((aI skM u 19 x1).bind fun v13 => (X12_see_b18 u v13)))
set_option maxRecDepth 20000 in
theorem v_X12_see_b18 {κ : gK} {B : Nat} {u : gM} (X : gX κ B skM cX12_see 2 RX12 (some .int) 0 0)   {s0 : Int32} {w : Int32} (hM : X12_see_b18 u s0 = some w) : gV κ B skM 2 ((some (.int w)), u) 18 [none, none] [.int s0] u := by
  unfold X12_see_b18 at hM
  cases hM
  exact g_iret X dX12_see_18
set_option maxRecDepth 20000 in
theorem v_X12_see {κ : gK} {B : Nat} {u : gM} (X : gX κ B skM cX12_see 2 RX12 (some .int) 0 0)   {x1 : Int32} {w : Int32} (hM : X12_see u x1 = some w) : gV κ B skM 2 ((some (.int w)), u) 0 [some (.ref (B + 0)), some (.int x1)] [] u := by
  unfold X12_see at hM
  refine g_iload_n X dX12_see_0 rfl ?_
  refine g_aload_n X dX12_see_1 rfl ?_
  refine g_getI X fX12_118 cM_0 rfl dX12_see_2 ?_
  refine g_icmp_ge (tgt := 17) X dX12_see_5 (by decide) (fun c5 => ?_) (fun c5 => ?_)
  · rw [if_pos c5] at hM
    refine g_iconst X (v := (-1)) dX12_see_17 (by decide) ?_
    refine g_mk [false, false] [none, none] rfl ?_
    exact v_X12_see_b18 X  hM
  · rw [if_neg c5] at hM
    refine g_aload_n X dX12_see_8 rfl ?_
    refine g_getR X fX12_65 cM_0 rfl dX12_see_9 ?_
    refine g_iload_n X dX12_see_12 rfl ?_
    obtain ⟨v13, e13, hM⟩ := bind_of hM
    refine g_iaload X e13 dX12_see_13 ?_
    refine g_goto (tgt := 18) X dX12_see_14 (by decide) ?_
    refine g_mk [false, false] [none, none] rfl ?_
    exact v_X12_see_b18 X  hM
theorem s_X12_see {x1 : Int32} {u : gM} {w : Int32} (hM : X12_see u x1 = some w) : gMet skM yX12_see cX12_see 2 (some .int) 0 0 (fun B adK => [.ref (B + 0), .int x1]) u ((fun _ => some (.int w)), u) := by
  refine gMet.of (by decide) (fun _ _ => Nat.le_of_ble_eq_true rfl) (fun κ B X => ?_)
  have X : gX κ B skM cX12_see 2 RX12 (some .int) 0 0 := X
  refine g_mk [true, true] [some (.ref (B + 0)), some (.int x1)] rfl ?_
  exact v_X12_see X  hM

/-! CoverDeskModel.next()V -/
theorem dX12_next_0 : decode cX12_next 0 = .ok (.aload_n 0, 1) := by decide +kernel
theorem dX12_next_1 : decode cX12_next 1 = .ok (.aload_n 0, 1) := by decide +kernel
theorem dX12_next_2 : decode cX12_next 2 = .ok (.getfield 129, 3) := by decide +kernel
theorem dX12_next_5 : decode cX12_next 5 = .ok (.invokevirtual 132, 3) := by decide +kernel
theorem dX12_next_8 : decode cX12_next 8 = .ok (.bipush 32, 2) := by decide +kernel
theorem dX12_next_10 : decode cX12_next 10 = .ok (.if_icmp .eq 16, 3) := by decide +kernel
theorem dX12_next_13 : decode cX12_next 13 = .ok (.aload_n 0, 1) := by decide +kernel
theorem dX12_next_14 : decode cX12_next 14 = .ok (.aload_n 0, 1) := by decide +kernel
theorem dX12_next_15 : decode cX12_next 15 = .ok (.getfield 129, 3) := by decide +kernel
theorem dX12_next_18 : decode cX12_next 18 = .ok (.invokevirtual 132, 3) := by decide +kernel
theorem dX12_next_21 : decode cX12_next 21 = .ok (.bipush 10, 2) := by decide +kernel
theorem dX12_next_23 : decode cX12_next 23 = .ok (.if_icmp .ne 16, 3) := by decide +kernel
theorem dX12_next_26 : decode cX12_next 26 = .ok (.aload_n 0, 1) := by decide +kernel
theorem dX12_next_27 : decode cX12_next 27 = .ok (.dup, 1) := by decide +kernel
theorem dX12_next_28 : decode cX12_next 28 = .ok (.getfield 129, 3) := by decide +kernel
theorem dX12_next_31 : decode cX12_next 31 = .ok (.iconst 1, 1) := by decide +kernel
theorem dX12_next_32 : decode cX12_next 32 = .ok (.iadd, 1) := by decide +kernel
theorem dX12_next_33 : decode cX12_next 33 = .ok (.putfield 129, 3) := by decide +kernel
theorem dX12_next_36 : decode cX12_next 36 = .ok (.goto (-36), 3) := by decide +kernel
theorem dX12_next_39 : decode cX12_next 39 = .ok (.aload_n 0, 1) := by decide +kernel
theorem dX12_next_40 : decode cX12_next 40 = .ok (.aload_n 0, 1) := by decide +kernel
theorem dX12_next_41 : decode cX12_next 41 = .ok (.getfield 129, 3) := by decide +kernel
theorem dX12_next_44 : decode cX12_next 44 = .ok (.putfield 136, 3) := by decide +kernel
theorem dX12_next_47 : decode cX12_next 47 = .ok (.aload_n 0, 1) := by decide +kernel
theorem dX12_next_48 : decode cX12_next 48 = .ok (.aload_n 0, 1) := by decide +kernel
theorem dX12_next_49 : decode cX12_next 49 = .ok (.getfield 129, 3) := by decide +kernel
theorem dX12_next_52 : decode cX12_next 52 = .ok (.invokevirtual 132, 3) := by decide +kernel
theorem dX12_next_55 : decode cX12_next 55 = .ok (.istore_n 1, 1) := by decide +kernel
theorem dX12_next_56 : decode cX12_next 56 = .ok (.aload_n 0, 1) := by decide +kernel
theorem dX12_next_57 : decode cX12_next 57 = .ok (.lconst 0, 1) := by decide +kernel
theorem dX12_next_58 : decode cX12_next 58 = .ok (.putfield 139, 3) := by decide +kernel
theorem dX12_next_61 : decode cX12_next 61 = .ok (.aload_n 0, 1) := by decide +kernel
theorem dX12_next_62 : decode cX12_next 62 = .ok (.lconst 0, 1) := by decide +kernel
theorem dX12_next_63 : decode cX12_next 63 = .ok (.putfield 143, 3) := by decide +kernel
theorem dX12_next_66 : decode cX12_next 66 = .ok (.aload_n 0, 1) := by decide +kernel
theorem dX12_next_67 : decode cX12_next 67 = .ok (.iconst 0, 1) := by decide +kernel
theorem dX12_next_68 : decode cX12_next 68 = .ok (.putfield 146, 3) := by decide +kernel
theorem dX12_next_71 : decode cX12_next 71 = .ok (.iload_n 1, 1) := by decide +kernel
theorem dX12_next_72 : decode cX12_next 72 = .ok (.iconst (-1), 1) := by decide +kernel
theorem dX12_next_73 : decode cX12_next 73 = .ok (.if_icmp .ne 11, 3) := by decide +kernel
theorem dX12_next_76 : decode cX12_next 76 = .ok (.aload_n 0, 1) := by decide +kernel
theorem dX12_next_77 : decode cX12_next 77 = .ok (.iconst 0, 1) := by decide +kernel
theorem dX12_next_78 : decode cX12_next 78 = .ok (.putfield 149, 3) := by decide +kernel
theorem dX12_next_81 : decode cX12_next 81 = .ok (.goto 206, 3) := by decide +kernel
theorem dX12_next_84 : decode cX12_next 84 = .ok (.iload_n 1, 1) := by decide +kernel
theorem dX12_next_85 : decode cX12_next 85 = .ok (.i2l, 1) := by decide +kernel
theorem dX12_next_86 : decode cX12_next 86 = .ok (.ldc2_w 152, 3) := by decide +kernel
theorem dX12_next_89 : decode cX12_next 89 = .ok (.ldc2_w 154, 3) := by decide +kernel
theorem dX12_next_92 : decode cX12_next 92 = .ok (.invokestatic 125, 3) := by decide +kernel
theorem dX12_next_95 : decode cX12_next 95 = .ok (.ifCond .eq 79, 3) := by decide +kernel
theorem dX12_next_98 : decode cX12_next 98 = .ok (.aload_n 0, 1) := by decide +kernel
theorem dX12_next_99 : decode cX12_next 99 = .ok (.iconst 1, 1) := by decide +kernel
theorem dX12_next_100 : decode cX12_next 100 = .ok (.putfield 149, 3) := by decide +kernel
theorem dX12_next_103 : decode cX12_next 103 = .ok (.aload_n 0, 1) := by decide +kernel
theorem dX12_next_104 : decode cX12_next 104 = .ok (.aload_n 0, 1) := by decide +kernel
theorem dX12_next_105 : decode cX12_next 105 = .ok (.getfield 129, 3) := by decide +kernel
theorem dX12_next_108 : decode cX12_next 108 = .ok (.invokevirtual 132, 3) := by decide +kernel
theorem dX12_next_111 : decode cX12_next 111 = .ok (.i2l, 1) := by decide +kernel
theorem dX12_next_112 : decode cX12_next 112 = .ok (.ldc2_w 152, 3) := by decide +kernel
theorem dX12_next_115 : decode cX12_next 115 = .ok (.ldc2_w 154, 3) := by decide +kernel
theorem dX12_next_118 : decode cX12_next 118 = .ok (.invokestatic 125, 3) := by decide +kernel
theorem dX12_next_121 : decode cX12_next 121 = .ok (.ifCond .eq 166, 3) := by decide +kernel
theorem dX12_next_124 : decode cX12_next 124 = .ok (.aload_n 0, 1) := by decide +kernel
theorem dX12_next_125 : decode cX12_next 125 = .ok (.getfield 129, 3) := by decide +kernel
theorem dX12_next_128 : decode cX12_next 128 = .ok (.aload_n 0, 1) := by decide +kernel
theorem dX12_next_129 : decode cX12_next 129 = .ok (.getfield 136, 3) := by decide +kernel
theorem dX12_next_132 : decode cX12_next 132 = .ok (.isub, 1) := by decide +kernel
theorem dX12_next_133 : decode cX12_next 133 = .ok (.bipush 8, 2) := by decide +kernel
theorem dX12_next_135 : decode cX12_next 135 = .ok (.if_icmp .ge 26, 3) := by decide +kernel
theorem dX12_next_138 : decode cX12_next 138 = .ok (.aload_n 0, 1) := by decide +kernel
theorem dX12_next_139 : decode cX12_next 139 = .ok (.aload_n 0, 1) := by decide +kernel
theorem dX12_next_140 : decode cX12_next 140 = .ok (.getfield 139, 3) := by decide +kernel
theorem dX12_next_143 : decode cX12_next 143 = .ok (.iconst 5, 1) := by decide +kernel
theorem dX12_next_144 : decode cX12_next 144 = .ok (.lshl, 1) := by decide +kernel
theorem dX12_next_145 : decode cX12_next 145 = .ok (.aload_n 0, 1) := by decide +kernel
theorem dX12_next_146 : decode cX12_next 146 = .ok (.aload_n 0, 1) := by decide +kernel
theorem dX12_next_147 : decode cX12_next 147 = .ok (.getfield 129, 3) := by decide +kernel
theorem dX12_next_150 : decode cX12_next 150 = .ok (.invokevirtual 132, 3) := by decide +kernel
theorem dX12_next_153 : decode cX12_next 153 = .ok (.bipush 96, 2) := by decide +kernel
theorem dX12_next_155 : decode cX12_next 155 = .ok (.isub, 1) := by decide +kernel
theorem dX12_next_156 : decode cX12_next 156 = .ok (.i2l, 1) := by decide +kernel
theorem dX12_next_157 : decode cX12_next 157 = .ok (.lor, 1) := by decide +kernel
theorem dX12_next_158 : decode cX12_next 158 = .ok (.putfield 139, 3) := by decide +kernel
theorem dX12_next_161 : decode cX12_next 161 = .ok (.aload_n 0, 1) := by decide +kernel
theorem dX12_next_162 : decode cX12_next 162 = .ok (.dup, 1) := by decide +kernel
theorem dX12_next_163 : decode cX12_next 163 = .ok (.getfield 129, 3) := by decide +kernel
theorem dX12_next_166 : decode cX12_next 166 = .ok (.iconst 1, 1) := by decide +kernel
theorem dX12_next_167 : decode cX12_next 167 = .ok (.iadd, 1) := by decide +kernel
theorem dX12_next_168 : decode cX12_next 168 = .ok (.putfield 129, 3) := by decide +kernel
theorem dX12_next_171 : decode cX12_next 171 = .ok (.goto (-68), 3) := by decide +kernel
theorem dX12_next_174 : decode cX12_next 174 = .ok (.iload_n 1, 1) := by decide +kernel
theorem dX12_next_175 : decode cX12_next 175 = .ok (.i2l, 1) := by decide +kernel
theorem dX12_next_176 : decode cX12_next 176 = .ok (.ldc2_w 156, 3) := by decide +kernel
theorem dX12_next_179 : decode cX12_next 179 = .ok (.ldc2_w 158, 3) := by decide +kernel
theorem dX12_next_182 : decode cX12_next 182 = .ok (.invokestatic 125, 3) := by decide +kernel
theorem dX12_next_185 : decode cX12_next 185 = .ok (.ifCond .eq 82, 3) := by decide +kernel
theorem dX12_next_188 : decode cX12_next 188 = .ok (.aload_n 0, 1) := by decide +kernel
theorem dX12_next_189 : decode cX12_next 189 = .ok (.iconst 2, 1) := by decide +kernel
theorem dX12_next_190 : decode cX12_next 190 = .ok (.putfield 149, 3) := by decide +kernel
theorem dX12_next_193 : decode cX12_next 193 = .ok (.aload_n 0, 1) := by decide +kernel
theorem dX12_next_194 : decode cX12_next 194 = .ok (.aload_n 0, 1) := by decide +kernel
theorem dX12_next_195 : decode cX12_next 195 = .ok (.getfield 129, 3) := by decide +kernel
theorem dX12_next_198 : decode cX12_next 198 = .ok (.invokevirtual 132, 3) := by decide +kernel
theorem dX12_next_201 : decode cX12_next 201 = .ok (.i2l, 1) := by decide +kernel
theorem dX12_next_202 : decode cX12_next 202 = .ok (.ldc2_w 156, 3) := by decide +kernel
theorem dX12_next_205 : decode cX12_next 205 = .ok (.ldc2_w 158, 3) := by decide +kernel
theorem dX12_next_208 : decode cX12_next 208 = .ok (.invokestatic 125, 3) := by decide +kernel
theorem dX12_next_211 : decode cX12_next 211 = .ok (.ifCond .eq 76, 3) := by decide +kernel
theorem dX12_next_214 : decode cX12_next 214 = .ok (.aload_n 0, 1) := by decide +kernel
theorem dX12_next_215 : decode cX12_next 215 = .ok (.getfield 129, 3) := by decide +kernel
theorem dX12_next_218 : decode cX12_next 218 = .ok (.aload_n 0, 1) := by decide +kernel
theorem dX12_next_219 : decode cX12_next 219 = .ok (.getfield 136, 3) := by decide +kernel
theorem dX12_next_222 : decode cX12_next 222 = .ok (.isub, 1) := by decide +kernel
theorem dX12_next_223 : decode cX12_next 223 = .ok (.bipush 9, 2) := by decide +kernel
theorem dX12_next_225 : decode cX12_next 225 = .ok (.if_icmp .ge 29, 3) := by decide +kernel
theorem dX12_next_228 : decode cX12_next 228 = .ok (.aload_n 0, 1) := by decide +kernel
theorem dX12_next_229 : decode cX12_next 229 = .ok (.ldc2_w 160, 3) := by decide +kernel
theorem dX12_next_232 : decode cX12_next 232 = .ok (.aload_n 0, 1) := by decide +kernel
theorem dX12_next_233 : decode cX12_next 233 = .ok (.getfield 143, 3) := by decide +kernel
theorem dX12_next_236 : decode cX12_next 236 = .ok (.lmul, 1) := by decide +kernel
theorem dX12_next_237 : decode cX12_next 237 = .ok (.aload_n 0, 1) := by decide +kernel
theorem dX12_next_238 : decode cX12_next 238 = .ok (.aload_n 0, 1) := by decide +kernel
theorem dX12_next_239 : decode cX12_next 239 = .ok (.getfield 129, 3) := by decide +kernel
theorem dX12_next_242 : decode cX12_next 242 = .ok (.invokevirtual 132, 3) := by decide +kernel
theorem dX12_next_245 : decode cX12_next 245 = .ok (.i2l, 1) := by decide +kernel
theorem dX12_next_246 : decode cX12_next 246 = .ok (.ladd, 1) := by decide +kernel
theorem dX12_next_247 : decode cX12_next 247 = .ok (.ldc2_w 156, 3) := by decide +kernel
theorem dX12_next_250 : decode cX12_next 250 = .ok (.lsub, 1) := by decide +kernel
theorem dX12_next_251 : decode cX12_next 251 = .ok (.putfield 143, 3) := by decide +kernel
theorem dX12_next_254 : decode cX12_next 254 = .ok (.aload_n 0, 1) := by decide +kernel
theorem dX12_next_255 : decode cX12_next 255 = .ok (.dup, 1) := by decide +kernel
theorem dX12_next_256 : decode cX12_next 256 = .ok (.getfield 129, 3) := by decide +kernel
theorem dX12_next_259 : decode cX12_next 259 = .ok (.iconst 1, 1) := by decide +kernel
theorem dX12_next_260 : decode cX12_next 260 = .ok (.iadd, 1) := by decide +kernel
theorem dX12_next_261 : decode cX12_next 261 = .ok (.putfield 129, 3) := by decide +kernel
theorem dX12_next_264 : decode cX12_next 264 = .ok (.goto (-71), 3) := by decide +kernel
theorem dX12_next_267 : decode cX12_next 267 = .ok (.aload_n 0, 1) := by decide +kernel
theorem dX12_next_268 : decode cX12_next 268 = .ok (.iconst 3, 1) := by decide +kernel
theorem dX12_next_269 : decode cX12_next 269 = .ok (.putfield 149, 3) := by decide +kernel
theorem dX12_next_272 : decode cX12_next 272 = .ok (.aload_n 0, 1) := by decide +kernel
theorem dX12_next_273 : decode cX12_next 273 = .ok (.iload_n 1, 1) := by decide +kernel
theorem dX12_next_274 : decode cX12_next 274 = .ok (.putfield 146, 3) := by decide +kernel
theorem dX12_next_277 : decode cX12_next 277 = .ok (.aload_n 0, 1) := by decide +kernel
theorem dX12_next_278 : decode cX12_next 278 = .ok (.dup, 1) := by decide +kernel
theorem dX12_next_279 : decode cX12_next 279 = .ok (.getfield 129, 3) := by decide +kernel
theorem dX12_next_282 : decode cX12_next 282 = .ok (.iconst 1, 1) := by decide +kernel
theorem dX12_next_283 : decode cX12_next 283 = .ok (.iadd, 1) := by decide +kernel
theorem dX12_next_284 : decode cX12_next 284 = .ok (.putfield 129, 3) := by decide +kernel
theorem dX12_next_287 : decode cX12_next 287 = .ok (.return_, 1) := by decide +kernel
def X12_next_b26 (k0 : gM → Option gM)  (u : gM) : Option gM :=
(k0 (upI u 0 27 ((u.1 0 27) + 1)))
def X12_next_b287   (u : gM) : Option gM :=
some u
def X12_next_b254 (k193 : gM → Option gM)  (u : gM) : Option gM :=
(k193 (upI u 0 27 ((u.1 0 27) + 1)))
def X12_next_b193 (k193 : gM → Option gM)  (u : gM) : Option gM :=
((X12_see u (u.1 0 27)).bind fun w198 => ((X12_isIn u w198.toInt64 48 57).bind fun w208 => (if w208 = 0 then (X12_next_b287 u)
  else (if 9 ≤ ((u.1 0 27) - (u.1 0 26)) then (X12_next_b254 k193 u)
    else ((X12_see u (u.1 0 27)).bind fun w242 => (X12_next_b254 k193 (upJ u 0 29 (((10 * (u.2 0 29)) + w242.toInt64) - 48))))))))
def X12_next_l193  : Nat → gM → Option gM
  | 0, _ => none
  | n + 1, u => X12_next_b193  (X12_next_l193  n) u
def X12_next_b161 (k103 : gM → Option gM)  (u : gM) : Option gM :=
(k103 (upI u 0 27 ((u.1 0 27) + 1)))
def X12_next_b103 (k103 : gM → Option gM)  (u : gM) : Option gM :=
((X12_see u (u.1 0 27)).bind fun w108 => ((X12_isIn u w108.toInt64 97 122).bind fun w118 => (if w118 = 0 then (X12_next_b287 u)
  else (if 8 ≤ ((u.1 0 27) - (u.1 0 26)) then (X12_next_b161 k103 u)
    else ((X12_see u (u.1 0 27)).bind fun w150 => (X12_next_b161 k103 (upJ u 0 28 (((u.2 0 28) <<< ((5 : Int32).toInt64 &&& 63)) ||| (w150 - 96).toInt64))))))))
def X12_next_l103  : Nat → gM → Option gM
  | 0, _ => none
  | n + 1, u => X12_next_b103  (X12_next_l103  n) u
def X12_next_b66  (x1 : Int32) (u : gM) : Option gM :=
(if x1 = (-1) then (X12_next_b287 (upI (upI u 0 30 0) 0 25 0))
  else ((X12_isIn (upI u 0 30 0) x1.toInt64 97 122).bind fun w92 => (if w92 = 0 then ((X12_isIn (upI u 0 30 0) x1.toInt64 48 57).bind fun w182 => (if w182 = 0 then (X12_next_b287 (upI (upI (upI (upI u 0 30 0) 0 25 3) 0 30 x1) 0 27 (((upI (upI (upI u 0 30 0) 0 25 3) 0 30 x1).1 0 27) + 1)))
      else (X12_next_l193 fz (upI (upI u 0 30 0) 0 25 2))))
    else (X12_next_l103 fz (upI (upI u 0 30 0) 0 25 1)))))
def X12_next_b0 (k0 : gM → Option gM)  (u : gM) : Option gM :=
((X12_see u (u.1 0 27)).bind fun w5 => (if w5 = 32 then (X12_next_b26 k0 u)
  else ((X12_see u (u.1 0 27)).bind fun w18 => (if w18 = 10 then (X12_next_b26 k0 u)
    else ((X12_see (upI u 0 26 (u.1 0 27)) ((upI u 0 26 (u.1 0 27)).1 0 27)).bind fun w52 => (X12_next_b66 w52 (upJ (upJ (upI u 0 26 (u.1 0 27)) 0 28 0) 0 29 0)))))))
def X12_next_l0  : Nat → gM → Option gM
  | 0, _ => none
  | n + 1, u => X12_next_b0  (X12_next_l0  n) u
def X12_next  (u : gM) : Option gM := X12_next_l0 fz u
set_option maxRecDepth 20000 in
theorem v_X12_next_b26 {κ : gK} {B : Nat} {u : gM} (X : gX κ B skM cX12_next 2 RX12 none 1 25) {k0 : gM → Option gM} (ih0 : ∀  (u : gM) (w : gM), k0 u = some w → gV κ B skM 2 ((none), w) 0 [some (.ref (B + 0)), none] [] u)  {w : gM} (hM : X12_next_b26 k0 u = some w) : gV κ B skM 2 ((none), w) 26 [some (.ref (B + 0)), none] [] u := by
  unfold X12_next_b26 at hM
  refine g_aload_n X dX12_next_26 rfl ?_
  refine g_dup X rfl dX12_next_27 ?_
  refine g_getI X fX12_129 cM_0 rfl dX12_next_28 ?_
  refine g_iconst X (v := 1) dX12_next_31 (by decide) ?_
  refine g_iadd X dX12_next_32 ?_
  refine g_putI X fX12_129 gc_X12 gp_X12_27 cM_0 rfl dX12_next_33 ?_
  refine g_goto (tgt := 0) X dX12_next_36 (by decide) ?_
  refine g_mk [true, false] [some (.ref (B + 0)), none] rfl ?_
  exact ih0 (upI u 0 27 ((u.1 0 27) + 1)) _ hM
set_option maxRecDepth 20000 in
theorem v_X12_next_b287 {κ : gK} {B : Nat} {u : gM} (X : gX κ B skM cX12_next 2 RX12 none 1 25)    {w : gM} (hM : X12_next_b287 u = some w) : gV κ B skM 2 ((none), w) 287 [none, none] [] u := by
  unfold X12_next_b287 at hM
  cases hM
  exact g_vret X dX12_next_287
set_option maxRecDepth 20000 in
theorem v_X12_next_b254 {κ : gK} {B : Nat} {u : gM} (X : gX κ B skM cX12_next 2 RX12 none 1 25) {k193 : gM → Option gM} (ih193 : ∀  (u : gM) (w : gM), k193 u = some w → gV κ B skM 2 ((none), w) 193 [some (.ref (B + 0)), none] [] u)  {w : gM} (hM : X12_next_b254 k193 u = some w) : gV κ B skM 2 ((none), w) 254 [some (.ref (B + 0)), none] [] u := by
  unfold X12_next_b254 at hM
  refine g_aload_n X dX12_next_254 rfl ?_
  refine g_dup X rfl dX12_next_255 ?_
  refine g_getI X fX12_129 cM_0 rfl dX12_next_256 ?_
  refine g_iconst X (v := 1) dX12_next_259 (by decide) ?_
  refine g_iadd X dX12_next_260 ?_
  refine g_putI X fX12_129 gc_X12 gp_X12_27 cM_0 rfl dX12_next_261 ?_
  refine g_goto (tgt := 193) X dX12_next_264 (by decide) ?_
  refine g_mk [true, false] [some (.ref (B + 0)), none] rfl ?_
  exact ih193 (upI u 0 27 ((u.1 0 27) + 1)) _ hM
set_option maxRecDepth 20000 in
theorem v_X12_next_b193 {κ : gK} {B : Nat} {u : gM} (X : gX κ B skM cX12_next 2 RX12 none 1 25) {k193 : gM → Option gM} (ih193 : ∀  (u : gM) (w : gM), k193 u = some w → gV κ B skM 2 ((none), w) 193 [some (.ref (B + 0)), none] [] u)  {w : gM} (hM : X12_next_b193 k193 u = some w) : gV κ B skM 2 ((none), w) 193 [some (.ref (B + 0)), none] [] u := by
  unfold X12_next_b193 at hM
  refine g_aload_n X dX12_next_193 rfl ?_
  refine g_aload_n X dX12_next_194 rfl ?_
  refine g_getI X fX12_129 cM_0 rfl dX12_next_195 ?_
  obtain ⟨w198, e198, hM⟩ := bind_of hM
  refine g_callVi X (fun B adK => [.int (u.1 0 27)]) (s_X12_see e198) cvX12_132 cM_0 rfl rfl (Nat.le_of_ble_eq_true rfl) ⟨by decide, by decide⟩ dX12_next_198 ?_
  refine g_i2l X dX12_next_201 ?_
  refine g_ldc2 (v := 48) X m_22_23 dX12_next_202 ?_
  refine g_ldc2 (v := 57) X m_23_0 dX12_next_205 ?_
  obtain ⟨w208, e208, hM⟩ := bind_of hM
  refine g_callSi X (fun B adK => [.long w198.toInt64, .long 48, .long 57]) (s_X12_isIn e208) cvX12_125 rfl rfl (Nat.le_of_ble_eq_true rfl) ⟨by decide, by decide⟩ dX12_next_208 ?_
  refine g_if_eq (tgt := 287) X dX12_next_211 (by decide) (fun c211 => ?_) (fun c211 => ?_)
  · rw [if_pos c211] at hM
    refine g_mk [false, false] [none, none] rfl ?_
    exact v_X12_next_b287 X  hM
  · rw [if_neg c211] at hM
    refine g_aload_n X dX12_next_214 rfl ?_
    refine g_getI X fX12_129 cM_0 rfl dX12_next_215 ?_
    refine g_aload_n X dX12_next_218 rfl ?_
    refine g_getI X fX12_136 cM_0 rfl dX12_next_219 ?_
    refine g_isub X dX12_next_222 ?_
    refine g_bipush X (v := 9) dX12_next_223 (by decide) ?_
    refine g_icmp_ge (tgt := 254) X dX12_next_225 (by decide) (fun c225 => ?_) (fun c225 => ?_)
    · rw [if_pos c225] at hM
      refine g_mk [true, false] [some (.ref (B + 0)), none] rfl ?_
      exact v_X12_next_b254 X ih193 hM
    · rw [if_neg c225] at hM
      refine g_aload_n X dX12_next_228 rfl ?_
      refine g_ldc2 (v := 10) X m_23_1 dX12_next_229 ?_
      refine g_aload_n X dX12_next_232 rfl ?_
      refine g_getJ X fX12_143 cM_0 rfl dX12_next_233 ?_
      refine g_lmul X dX12_next_236 ?_
      refine g_aload_n X dX12_next_237 rfl ?_
      refine g_aload_n X dX12_next_238 rfl ?_
      refine g_getI X fX12_129 cM_0 rfl dX12_next_239 ?_
      obtain ⟨w242, e242, hM⟩ := bind_of hM
      refine g_callVi X (fun B adK => [.int (u.1 0 27)]) (s_X12_see e242) cvX12_132 cM_0 rfl rfl (Nat.le_of_ble_eq_true rfl) ⟨by decide, by decide⟩ dX12_next_242 ?_
      refine g_i2l X dX12_next_245 ?_
      refine g_ladd X dX12_next_246 ?_
      refine g_ldc2 (v := 48) X m_22_23 dX12_next_247 ?_
      refine g_lsub X dX12_next_250 ?_
      refine g_putJ X fX12_143 gc_X12 gp_X12_29 cM_0 rfl dX12_next_251 ?_
      refine g_mk [true, false] [some (.ref (B + 0)), none] rfl ?_
      exact v_X12_next_b254 X ih193 hM
theorem v_X12_next_l193 {κ : gK} {B : Nat} (X : gX κ B skM cX12_next 2 RX12 none 1 25)   : ∀ (n : Nat)  {u : gM} {w : gM} (hM : X12_next_l193  n u = some w), gV κ B skM 2 ((none), w) 193 [some (.ref (B + 0)), none] [] u := by
  intro n
  induction n with
  | zero => intro u w hM; exact nomatch (show (none : Option gM) = some w from hM)
  | succ n ihn => intro u w hM; exact v_X12_next_b193 X  (fun u w h => ihn h) hM
set_option maxRecDepth 20000 in
theorem v_X12_next_b161 {κ : gK} {B : Nat} {u : gM} (X : gX κ B skM cX12_next 2 RX12 none 1 25) {k103 : gM → Option gM} (ih103 : ∀  (u : gM) (w : gM), k103 u = some w → gV κ B skM 2 ((none), w) 103 [some (.ref (B + 0)), none] [] u)  {w : gM} (hM : X12_next_b161 k103 u = some w) : gV κ B skM 2 ((none), w) 161 [some (.ref (B + 0)), none] [] u := by
  unfold X12_next_b161 at hM
  refine g_aload_n X dX12_next_161 rfl ?_
  refine g_dup X rfl dX12_next_162 ?_
  refine g_getI X fX12_129 cM_0 rfl dX12_next_163 ?_
  refine g_iconst X (v := 1) dX12_next_166 (by decide) ?_
  refine g_iadd X dX12_next_167 ?_
  refine g_putI X fX12_129 gc_X12 gp_X12_27 cM_0 rfl dX12_next_168 ?_
  refine g_goto (tgt := 103) X dX12_next_171 (by decide) ?_
  refine g_mk [true, false] [some (.ref (B + 0)), none] rfl ?_
  exact ih103 (upI u 0 27 ((u.1 0 27) + 1)) _ hM
set_option maxRecDepth 20000 in
theorem v_X12_next_b103 {κ : gK} {B : Nat} {u : gM} (X : gX κ B skM cX12_next 2 RX12 none 1 25) {k103 : gM → Option gM} (ih103 : ∀  (u : gM) (w : gM), k103 u = some w → gV κ B skM 2 ((none), w) 103 [some (.ref (B + 0)), none] [] u)  {w : gM} (hM : X12_next_b103 k103 u = some w) : gV κ B skM 2 ((none), w) 103 [some (.ref (B + 0)), none] [] u := by
  unfold X12_next_b103 at hM
  refine g_aload_n X dX12_next_103 rfl ?_
  refine g_aload_n X dX12_next_104 rfl ?_
  refine g_getI X fX12_129 cM_0 rfl dX12_next_105 ?_
  obtain ⟨w108, e108, hM⟩ := bind_of hM
  refine g_callVi X (fun B adK => [.int (u.1 0 27)]) (s_X12_see e108) cvX12_132 cM_0 rfl rfl (Nat.le_of_ble_eq_true rfl) ⟨by decide, by decide⟩ dX12_next_108 ?_
  refine g_i2l X dX12_next_111 ?_
  refine g_ldc2 (v := 97) X m_22_21 dX12_next_112 ?_
  refine g_ldc2 (v := 122) X m_22_22 dX12_next_115 ?_
  obtain ⟨w118, e118, hM⟩ := bind_of hM
  refine g_callSi X (fun B adK => [.long w108.toInt64, .long 97, .long 122]) (s_X12_isIn e118) cvX12_125 rfl rfl (Nat.le_of_ble_eq_true rfl) ⟨by decide, by decide⟩ dX12_next_118 ?_
  refine g_if_eq (tgt := 287) X dX12_next_121 (by decide) (fun c121 => ?_) (fun c121 => ?_)
  · rw [if_pos c121] at hM
    refine g_mk [false, false] [none, none] rfl ?_
    exact v_X12_next_b287 X  hM
  · rw [if_neg c121] at hM
    refine g_aload_n X dX12_next_124 rfl ?_
    refine g_getI X fX12_129 cM_0 rfl dX12_next_125 ?_
    refine g_aload_n X dX12_next_128 rfl ?_
    refine g_getI X fX12_136 cM_0 rfl dX12_next_129 ?_
    refine g_isub X dX12_next_132 ?_
    refine g_bipush X (v := 8) dX12_next_133 (by decide) ?_
    refine g_icmp_ge (tgt := 161) X dX12_next_135 (by decide) (fun c135 => ?_) (fun c135 => ?_)
    · rw [if_pos c135] at hM
      refine g_mk [true, false] [some (.ref (B + 0)), none] rfl ?_
      exact v_X12_next_b161 X ih103 hM
    · rw [if_neg c135] at hM
      refine g_aload_n X dX12_next_138 rfl ?_
      refine g_aload_n X dX12_next_139 rfl ?_
      refine g_getJ X fX12_139 cM_0 rfl dX12_next_140 ?_
      refine g_iconst X (v := 5) dX12_next_143 (by decide) ?_
      refine g_lshl X dX12_next_144 ?_
      refine g_aload_n X dX12_next_145 rfl ?_
      refine g_aload_n X dX12_next_146 rfl ?_
      refine g_getI X fX12_129 cM_0 rfl dX12_next_147 ?_
      obtain ⟨w150, e150, hM⟩ := bind_of hM
      refine g_callVi X (fun B adK => [.int (u.1 0 27)]) (s_X12_see e150) cvX12_132 cM_0 rfl rfl (Nat.le_of_ble_eq_true rfl) ⟨by decide, by decide⟩ dX12_next_150 ?_
      refine g_bipush X (v := 96) dX12_next_153 (by decide) ?_
      refine g_isub X dX12_next_155 ?_
      refine g_i2l X dX12_next_156 ?_
      refine g_lor X dX12_next_157 ?_
      refine g_putJ X fX12_139 gc_X12 gp_X12_28 cM_0 rfl dX12_next_158 ?_
      refine g_mk [true, false] [some (.ref (B + 0)), none] rfl ?_
      exact v_X12_next_b161 X ih103 hM
theorem v_X12_next_l103 {κ : gK} {B : Nat} (X : gX κ B skM cX12_next 2 RX12 none 1 25)   : ∀ (n : Nat)  {u : gM} {w : gM} (hM : X12_next_l103  n u = some w), gV κ B skM 2 ((none), w) 103 [some (.ref (B + 0)), none] [] u := by
  intro n
  induction n with
  | zero => intro u w hM; exact nomatch (show (none : Option gM) = some w from hM)
  | succ n ihn => intro u w hM; exact v_X12_next_b103 X  (fun u w h => ihn h) hM
set_option maxRecDepth 20000 in
theorem v_X12_next_b66 {κ : gK} {B : Nat} {u : gM} (X : gX κ B skM cX12_next 2 RX12 none 1 25)   {x1 : Int32} {w : gM} (hM : X12_next_b66 x1 u = some w) : gV κ B skM 2 ((none), w) 66 [some (.ref (B + 0)), some (.int x1)] [] u := by
  unfold X12_next_b66 at hM
  refine g_aload_n X dX12_next_66 rfl ?_
  refine g_iconst X (v := 0) dX12_next_67 (by decide) ?_
  refine g_putI X fX12_146 gc_X12 gp_X12_30 cM_0 rfl dX12_next_68 ?_
  refine g_iload_n X dX12_next_71 rfl ?_
  refine g_iconst X (v := (-1)) dX12_next_72 (by decide) ?_
  refine g_icmp_ne (tgt := 84) X dX12_next_73 (by decide) (fun c73 => ?_) (fun c73 => ?_)
  · rw [if_neg c73] at hM
    refine g_iload_n X dX12_next_84 rfl ?_
    refine g_i2l X dX12_next_85 ?_
    refine g_ldc2 (v := 97) X m_22_21 dX12_next_86 ?_
    refine g_ldc2 (v := 122) X m_22_22 dX12_next_89 ?_
    obtain ⟨w92, e92, hM⟩ := bind_of hM
    refine g_callSi X (fun B adK => [.long x1.toInt64, .long 97, .long 122]) (s_X12_isIn e92) cvX12_125 rfl rfl (Nat.le_of_ble_eq_true rfl) ⟨by decide, by decide⟩ dX12_next_92 ?_
    refine g_if_eq (tgt := 174) X dX12_next_95 (by decide) (fun c95 => ?_) (fun c95 => ?_)
    · rw [if_pos c95] at hM
      refine g_iload_n X dX12_next_174 rfl ?_
      refine g_i2l X dX12_next_175 ?_
      refine g_ldc2 (v := 48) X m_22_23 dX12_next_176 ?_
      refine g_ldc2 (v := 57) X m_23_0 dX12_next_179 ?_
      obtain ⟨w182, e182, hM⟩ := bind_of hM
      refine g_callSi X (fun B adK => [.long x1.toInt64, .long 48, .long 57]) (s_X12_isIn e182) cvX12_125 rfl rfl (Nat.le_of_ble_eq_true rfl) ⟨by decide, by decide⟩ dX12_next_182 ?_
      refine g_if_eq (tgt := 267) X dX12_next_185 (by decide) (fun c185 => ?_) (fun c185 => ?_)
      · rw [if_pos c185] at hM
        refine g_aload_n X dX12_next_267 rfl ?_
        refine g_iconst X (v := 3) dX12_next_268 (by decide) ?_
        refine g_putI X fX12_149 gc_X12 gp_X12_25 cM_0 rfl dX12_next_269 ?_
        refine g_aload_n X dX12_next_272 rfl ?_
        refine g_iload_n X dX12_next_273 rfl ?_
        refine g_putI X fX12_146 gc_X12 gp_X12_30 cM_0 rfl dX12_next_274 ?_
        refine g_aload_n X dX12_next_277 rfl ?_
        refine g_dup X rfl dX12_next_278 ?_
        refine g_getI X fX12_129 cM_0 rfl dX12_next_279 ?_
        refine g_iconst X (v := 1) dX12_next_282 (by decide) ?_
        refine g_iadd X dX12_next_283 ?_
        refine g_putI X fX12_129 gc_X12 gp_X12_27 cM_0 rfl dX12_next_284 ?_
        refine g_mk [false, false] [none, none] rfl ?_
        exact v_X12_next_b287 X  hM
      · rw [if_neg c185] at hM
        refine g_aload_n X dX12_next_188 rfl ?_
        refine g_iconst X (v := 2) dX12_next_189 (by decide) ?_
        refine g_putI X fX12_149 gc_X12 gp_X12_25 cM_0 rfl dX12_next_190 ?_
        refine g_mk [true, false] [some (.ref (B + 0)), none] rfl ?_
        exact v_X12_next_l193 X  fz hM
    · rw [if_neg c95] at hM
      refine g_aload_n X dX12_next_98 rfl ?_
      refine g_iconst X (v := 1) dX12_next_99 (by decide) ?_
      refine g_putI X fX12_149 gc_X12 gp_X12_25 cM_0 rfl dX12_next_100 ?_
      refine g_mk [true, false] [some (.ref (B + 0)), none] rfl ?_
      exact v_X12_next_l103 X  fz hM
  · rw [if_pos c73] at hM
    refine g_aload_n X dX12_next_76 rfl ?_
    refine g_iconst X (v := 0) dX12_next_77 (by decide) ?_
    refine g_putI X fX12_149 gc_X12 gp_X12_25 cM_0 rfl dX12_next_78 ?_
    refine g_goto (tgt := 287) X dX12_next_81 (by decide) ?_
    refine g_mk [false, false] [none, none] rfl ?_
    exact v_X12_next_b287 X  hM
set_option maxRecDepth 20000 in
theorem v_X12_next_b0 {κ : gK} {B : Nat} {u : gM} (X : gX κ B skM cX12_next 2 RX12 none 1 25) {k0 : gM → Option gM} (ih0 : ∀  (u : gM) (w : gM), k0 u = some w → gV κ B skM 2 ((none), w) 0 [some (.ref (B + 0)), none] [] u)  {w : gM} (hM : X12_next_b0 k0 u = some w) : gV κ B skM 2 ((none), w) 0 [some (.ref (B + 0)), none] [] u := by
  unfold X12_next_b0 at hM
  refine g_aload_n X dX12_next_0 rfl ?_
  refine g_aload_n X dX12_next_1 rfl ?_
  refine g_getI X fX12_129 cM_0 rfl dX12_next_2 ?_
  obtain ⟨w5, e5, hM⟩ := bind_of hM
  refine g_callVi X (fun B adK => [.int (u.1 0 27)]) (s_X12_see e5) cvX12_132 cM_0 rfl rfl (Nat.le_of_ble_eq_true rfl) ⟨by decide, by decide⟩ dX12_next_5 ?_
  refine g_bipush X (v := 32) dX12_next_8 (by decide) ?_
  refine g_icmp_eq (tgt := 26) X dX12_next_10 (by decide) (fun c10 => ?_) (fun c10 => ?_)
  · rw [if_pos c10] at hM
    refine g_mk [true, false] [some (.ref (B + 0)), none] rfl ?_
    exact v_X12_next_b26 X ih0 hM
  · rw [if_neg c10] at hM
    refine g_aload_n X dX12_next_13 rfl ?_
    refine g_aload_n X dX12_next_14 rfl ?_
    refine g_getI X fX12_129 cM_0 rfl dX12_next_15 ?_
    obtain ⟨w18, e18, hM⟩ := bind_of hM
    refine g_callVi X (fun B adK => [.int (u.1 0 27)]) (s_X12_see e18) cvX12_132 cM_0 rfl rfl (Nat.le_of_ble_eq_true rfl) ⟨by decide, by decide⟩ dX12_next_18 ?_
    refine g_bipush X (v := 10) dX12_next_21 (by decide) ?_
    refine g_icmp_ne (tgt := 39) X dX12_next_23 (by decide) (fun c23 => ?_) (fun c23 => ?_)
    · rw [if_neg c23] at hM
      refine g_aload_n X dX12_next_39 rfl ?_
      refine g_aload_n X dX12_next_40 rfl ?_
      refine g_getI X fX12_129 cM_0 rfl dX12_next_41 ?_
      refine g_putI X fX12_136 gc_X12 gp_X12_26 cM_0 rfl dX12_next_44 ?_
      refine g_aload_n X dX12_next_47 rfl ?_
      refine g_aload_n X dX12_next_48 rfl ?_
      refine g_getI X fX12_129 cM_0 rfl dX12_next_49 ?_
      obtain ⟨w52, e52, hM⟩ := bind_of hM
      refine g_callVi X (fun B adK => [.int ((upI u 0 26 (u.1 0 27)).1 0 27)]) (s_X12_see e52) cvX12_132 cM_0 rfl rfl (Nat.le_of_ble_eq_true rfl) ⟨by decide, by decide⟩ dX12_next_52 ?_
      refine g_istore_n X [some (.ref (B + 0)), some (.int w52)] dX12_next_55 (by decide) rfl ?_
      refine g_aload_n X dX12_next_56 rfl ?_
      refine g_lconst (v := 0) X dX12_next_57 (by decide) ?_
      refine g_putJ X fX12_139 gc_X12 gp_X12_28 cM_0 rfl dX12_next_58 ?_
      refine g_aload_n X dX12_next_61 rfl ?_
      refine g_lconst (v := 0) X dX12_next_62 (by decide) ?_
      refine g_putJ X fX12_143 gc_X12 gp_X12_29 cM_0 rfl dX12_next_63 ?_
      refine g_mk [true, true] [some (.ref (B + 0)), some (.int w52)] rfl ?_
      exact v_X12_next_b66 X  hM
    · rw [if_pos c23] at hM
      refine g_mk [true, false] [some (.ref (B + 0)), none] rfl ?_
      exact v_X12_next_b26 X ih0 hM
theorem v_X12_next_l0 {κ : gK} {B : Nat} (X : gX κ B skM cX12_next 2 RX12 none 1 25)   : ∀ (n : Nat)  {u : gM} {w : gM} (hM : X12_next_l0  n u = some w), gV κ B skM 2 ((none), w) 0 [some (.ref (B + 0)), none] [] u := by
  intro n
  induction n with
  | zero => intro u w hM; exact nomatch (show (none : Option gM) = some w from hM)
  | succ n ihn => intro u w hM; exact v_X12_next_b0 X  (fun u w h => ihn h) hM
theorem s_X12_next  {u : gM} {w : gM} (hM : X12_next u = some w) : gMet skM yX12_next cX12_next 2 none 1 25 (fun B adK => [.ref (B + 0)]) u ((fun _ => none), w) := by
  refine gMet.of (by decide) (fun _ _ => Nat.le_of_ble_eq_true rfl) (fun κ B X => ?_)
  have X : gX κ B skM cX12_next 2 RX12 none 1 25 := X
  refine g_mk [true, false] [some (.ref (B + 0)), none] rfl ?_
  exact v_X12_next_l0 X fz hM
theorem fr_X12_next_b26 {S : Nat → Prop} {u0 u : gM}  (hs0 : S 0) {k0 : gM → Option gM} (ik0 : ∀  (u : gM) (w : gM), S 0 → off S u0 u → k0  u = some w → off S u0 w) {w : gM} (hM : X12_next_b26 k0 u = some w) (h0 : off S u0 u) : off S u0 w := by
  unfold X12_next_b26 at hM
  have h0 := off_upI (u := u) (k := 0) (j := 27) (x := ((u.1 0 27) + 1)) hs0 h0
  exact ik0 _ _ hs0 h0 hM
theorem fr_X12_next_b287 {S : Nat → Prop} {u0 u : gM}     {w : gM} (hM : X12_next_b287 u = some w) (h0 : off S u0 u) : off S u0 w := by
  unfold X12_next_b287 at hM
  cases hM
  exact h0
theorem fr_X12_next_b254 {S : Nat → Prop} {u0 u : gM}  (hs0 : S 0) {k193 : gM → Option gM} (ik193 : ∀  (u : gM) (w : gM), S 0 → off S u0 u → k193  u = some w → off S u0 w) {w : gM} (hM : X12_next_b254 k193 u = some w) (h0 : off S u0 u) : off S u0 w := by
  unfold X12_next_b254 at hM
  have h0 := off_upI (u := u) (k := 0) (j := 27) (x := ((u.1 0 27) + 1)) hs0 h0
  exact ik193 _ _ hs0 h0 hM
theorem fr_X12_next_b193 {S : Nat → Prop} {u0 u : gM}  (hs0 : S 0) {k193 : gM → Option gM} (ik193 : ∀  (u : gM) (w : gM), S 0 → off S u0 u → k193  u = some w → off S u0 w) {w : gM} (hM : X12_next_b193 k193 u = some w) (h0 : off S u0 u) : off S u0 w := by
  unfold X12_next_b193 at hM
  obtain ⟨w198, e198, hM⟩ := bind_of hM
  obtain ⟨w208, e208, hM⟩ := bind_of hM
  by_cases c211 : w208 = 0
  · rw [if_pos c211] at hM
    exact fr_X12_next_b287   hM h0
  · rw [if_neg c211] at hM
    by_cases c225 : 9 ≤ ((u.1 0 27) - (u.1 0 26))
    · rw [if_pos c225] at hM
      exact fr_X12_next_b254 hs0 ik193 hM h0
    · rw [if_neg c225] at hM
      obtain ⟨w242, e242, hM⟩ := bind_of hM
      have h0 := off_upJ (u := u) (k := 0) (j := 29) (x := (((10 * (u.2 0 29)) + w242.toInt64) - 48)) hs0 h0
      exact fr_X12_next_b254 hs0 ik193 hM h0
theorem fr_X12_next_l193 {S : Nat → Prop} {u0 : gM}   : ∀ (n : Nat)  (hs0 : S 0) {u : gM} {w : gM} (h0 : off S u0 u) (hM : X12_next_l193  n u = some w), off S u0 w := by
  intro n
  induction n with
  | zero => intro hs0 u w h0 hM; exact nomatch (show (none : Option gM) = some w from hM)
  | succ n ihn => intro hs0 u w h0 hM; exact fr_X12_next_b193 hs0  (fun _ _ hs0 h0 h => ihn hs0 h0 h) hM h0
theorem fr_X12_next_b161 {S : Nat → Prop} {u0 u : gM}  (hs0 : S 0) {k103 : gM → Option gM} (ik103 : ∀  (u : gM) (w : gM), S 0 → off S u0 u → k103  u = some w → off S u0 w) {w : gM} (hM : X12_next_b161 k103 u = some w) (h0 : off S u0 u) : off S u0 w := by
  unfold X12_next_b161 at hM
  have h0 := off_upI (u := u) (k := 0) (j := 27) (x := ((u.1 0 27) + 1)) hs0 h0
  exact ik103 _ _ hs0 h0 hM
theorem fr_X12_next_b103 {S : Nat → Prop} {u0 u : gM}  (hs0 : S 0) {k103 : gM → Option gM} (ik103 : ∀  (u : gM) (w : gM), S 0 → off S u0 u → k103  u = some w → off S u0 w) {w : gM} (hM : X12_next_b103 k103 u = some w) (h0 : off S u0 u) : off S u0 w := by
  unfold X12_next_b103 at hM
  obtain ⟨w108, e108, hM⟩ := bind_of hM
  obtain ⟨w118, e118, hM⟩ := bind_of hM
  by_cases c121 : w118 = 0
  · rw [if_pos c121] at hM
    exact fr_X12_next_b287   hM h0
  · rw [if_neg c121] at hM
    by_cases c135 : 8 ≤ ((u.1 0 27) - (u.1 0 26))
    · rw [if_pos c135] at hM
      exact fr_X12_next_b161 hs0 ik103 hM h0
    · rw [if_neg c135] at hM
      obtain ⟨w150, e150, hM⟩ := bind_of hM
      have h0 := off_upJ (u := u) (k := 0) (j := 28) (x := (((u.2 0 28) <<< ((5 : Int32).toInt64 &&& 63)) ||| (w150 - 96).toInt64)) hs0 h0
      exact fr_X12_next_b161 hs0 ik103 hM h0
theorem fr_X12_next_l103 {S : Nat → Prop} {u0 : gM}   : ∀ (n : Nat)  (hs0 : S 0) {u : gM} {w : gM} (h0 : off S u0 u) (hM : X12_next_l103  n u = some w), off S u0 w := by
  intro n
  induction n with
  | zero => intro hs0 u w h0 hM; exact nomatch (show (none : Option gM) = some w from hM)
  | succ n ihn => intro hs0 u w h0 hM; exact fr_X12_next_b103 hs0  (fun _ _ hs0 h0 h => ihn hs0 h0 h) hM h0
theorem fr_X12_next_b66 {S : Nat → Prop} {u0 u : gM} {x1 : Int32} (hs0 : S 0)   {w : gM} (hM : X12_next_b66 x1 u = some w) (h0 : off S u0 u) : off S u0 w := by
  unfold X12_next_b66 at hM
  have h0 := off_upI (u := u) (k := 0) (j := 30) (x := 0) hs0 h0
  by_cases c73 : x1 = (-1)
  · rw [if_pos c73] at hM
    have h0 := off_upI (u := (upI u 0 30 0)) (k := 0) (j := 25) (x := 0) hs0 h0
    exact fr_X12_next_b287   hM h0
  · rw [if_neg c73] at hM
    obtain ⟨w92, e92, hM⟩ := bind_of hM
    by_cases c95 : w92 = 0
    · rw [if_pos c95] at hM
      obtain ⟨w182, e182, hM⟩ := bind_of hM
      by_cases c185 : w182 = 0
      · rw [if_pos c185] at hM
        have h0 := off_upI (u := (upI u 0 30 0)) (k := 0) (j := 25) (x := 3) hs0 h0
        have h0 := off_upI (u := (upI (upI u 0 30 0) 0 25 3)) (k := 0) (j := 30) (x := x1) hs0 h0
        have h0 := off_upI (u := (upI (upI (upI u 0 30 0) 0 25 3) 0 30 x1)) (k := 0) (j := 27) (x := (((upI (upI (upI u 0 30 0) 0 25 3) 0 30 x1).1 0 27) + 1)) hs0 h0
        exact fr_X12_next_b287   hM h0
      · rw [if_neg c185] at hM
        have h0 := off_upI (u := (upI u 0 30 0)) (k := 0) (j := 25) (x := 2) hs0 h0
        exact fr_X12_next_l193  fz hs0 h0 hM
    · rw [if_neg c95] at hM
      have h0 := off_upI (u := (upI u 0 30 0)) (k := 0) (j := 25) (x := 1) hs0 h0
      exact fr_X12_next_l103  fz hs0 h0 hM
theorem fr_X12_next_b0 {S : Nat → Prop} {u0 u : gM}  (hs0 : S 0) {k0 : gM → Option gM} (ik0 : ∀  (u : gM) (w : gM), S 0 → off S u0 u → k0  u = some w → off S u0 w) {w : gM} (hM : X12_next_b0 k0 u = some w) (h0 : off S u0 u) : off S u0 w := by
  unfold X12_next_b0 at hM
  obtain ⟨w5, e5, hM⟩ := bind_of hM
  by_cases c10 : w5 = 32
  · rw [if_pos c10] at hM
    exact fr_X12_next_b26 hs0 ik0 hM h0
  · rw [if_neg c10] at hM
    obtain ⟨w18, e18, hM⟩ := bind_of hM
    by_cases c23 : w18 = 10
    · rw [if_pos c23] at hM
      exact fr_X12_next_b26 hs0 ik0 hM h0
    · rw [if_neg c23] at hM
      have h0 := off_upI (u := u) (k := 0) (j := 26) (x := (u.1 0 27)) hs0 h0
      obtain ⟨w52, e52, hM⟩ := bind_of hM
      have h0 := off_upJ (u := (upI u 0 26 (u.1 0 27))) (k := 0) (j := 28) (x := 0) hs0 h0
      have h0 := off_upJ (u := (upJ (upI u 0 26 (u.1 0 27)) 0 28 0)) (k := 0) (j := 29) (x := 0) hs0 h0
      exact fr_X12_next_b66 hs0  hM h0
theorem fr_X12_next_l0 {S : Nat → Prop} {u0 : gM}   : ∀ (n : Nat)  (hs0 : S 0) {u : gM} {w : gM} (h0 : off S u0 u) (hM : X12_next_l0  n u = some w), off S u0 w := by
  intro n
  induction n with
  | zero => intro hs0 u w h0 hM; exact nomatch (show (none : Option gM) = some w from hM)
  | succ n ihn => intro hs0 u w h0 hM; exact fr_X12_next_b0 hs0  (fun _ _ hs0 h0 h => ihn hs0 h0 h) hM h0
theorem fr_X12_next {S : Nat → Prop} {u0 u : gM}  (hs0 : S 0) {w : gM} (hM : X12_next u = some w) (h0 : off S u0 u) : off S u0 w := fr_X12_next_l0 fz hs0 h0 hM
/-! CoverDeskModel.begins()V -/
theorem dX12_begins_0 : decode cX12_begins 0 = .ok (.aload_n 0, 1) := by decide +kernel
theorem dX12_begins_1 : decode cX12_begins 1 = .ok (.iconst 0, 1) := by decide +kernel
theorem dX12_begins_2 : decode cX12_begins 2 = .ok (.putfield 129, 3) := by decide +kernel
theorem dX12_begins_5 : decode cX12_begins 5 = .ok (.aload_n 0, 1) := by decide +kernel
theorem dX12_begins_6 : decode cX12_begins 6 = .ok (.iconst 0, 1) := by decide +kernel
theorem dX12_begins_7 : decode cX12_begins 7 = .ok (.putfield 162, 3) := by decide +kernel
theorem dX12_begins_10 : decode cX12_begins 10 = .ok (.aload_n 0, 1) := by decide +kernel
theorem dX12_begins_11 : decode cX12_begins 11 = .ok (.iconst (-1), 1) := by decide +kernel
theorem dX12_begins_12 : decode cX12_begins 12 = .ok (.putfield 165, 3) := by decide +kernel
theorem dX12_begins_15 : decode cX12_begins 15 = .ok (.aload_n 0, 1) := by decide +kernel
theorem dX12_begins_16 : decode cX12_begins 16 = .ok (.invokevirtual 238, 3) := by decide +kernel
theorem dX12_begins_19 : decode cX12_begins 19 = .ok (.return_, 1) := by decide +kernel
def X12_begins   (u : gM) : Option gM :=
((X12_next (upI (upI (upI u 0 27 0) 0 23 0) 0 24 (-1))).bind fun w16 => some w16)
set_option maxRecDepth 20000 in
theorem v_X12_begins {κ : gK} {B : Nat} {u : gM} (X : gX κ B skM cX12_begins 1 RX12 none 2 46)    {w : gM} (hM : X12_begins u = some w) : gV κ B skM 1 ((none), w) 0 [some (.ref (B + 0))] [] u := by
  unfold X12_begins at hM
  refine g_aload_n X dX12_begins_0 rfl ?_
  refine g_iconst X (v := 0) dX12_begins_1 (by decide) ?_
  refine g_putI X fX12_129 gc_X12 gp_X12_27 cM_0 rfl dX12_begins_2 ?_
  refine g_aload_n X dX12_begins_5 rfl ?_
  refine g_iconst X (v := 0) dX12_begins_6 (by decide) ?_
  refine g_putI X fX12_162 gc_X12 gp_X12_23 cM_0 rfl dX12_begins_7 ?_
  refine g_aload_n X dX12_begins_10 rfl ?_
  refine g_iconst X (v := (-1)) dX12_begins_11 (by decide) ?_
  refine g_putI X fX12_165 gc_X12 gp_X12_24 cM_0 rfl dX12_begins_12 ?_
  refine g_aload_n X dX12_begins_15 rfl ?_
  obtain ⟨w16, e16, hM⟩ := bind_of hM
  refine g_callVv X (fun B adK => []) (s_X12_next e16) cvX12_238 cM_0 rfl rfl (Nat.le_of_ble_eq_true rfl) ⟨by decide, by decide⟩ dX12_begins_16 ?_
  cases hM
  exact g_vret X dX12_begins_19
theorem s_X12_begins  {u : gM} {w : gM} (hM : X12_begins u = some w) : gMet skM yX12_begins cX12_begins 1 none 2 46 (fun B adK => [.ref (B + 0)]) u ((fun _ => none), w) := by
  refine gMet.of (by decide) (fun _ _ => Nat.le_of_ble_eq_true rfl) (fun κ B X => ?_)
  have X : gX κ B skM cX12_begins 1 RX12 none 2 46 := X
  refine g_mk [true] [some (.ref (B + 0))] rfl ?_
  exact v_X12_begins X  hM
theorem fr_X12_begins {S : Nat → Prop} {u0 u : gM}  (hs0 : S 0)   {w : gM} (hM : X12_begins u = some w) (h0 : off S u0 u) : off S u0 w := by
  unfold X12_begins at hM
  have h0 := off_upI (u := u) (k := 0) (j := 27) (x := 0) hs0 h0
  have h0 := off_upI (u := (upI u 0 27 0)) (k := 0) (j := 23) (x := 0) hs0 h0
  have h0 := off_upI (u := (upI (upI u 0 27 0) 0 23 0)) (k := 0) (j := 24) (x := (-1)) hs0 h0
  obtain ⟨w16, e16, hM⟩ := bind_of hM
  have h0 := fr_X12_next hs0 e16 h0
  cases hM
  exact h0
/-! CoverDeskModel.bestKind(I)I -/
theorem dX12_bestKind_0 : decode cX12_bestKind 0 = .ok (.aload_n 0, 1) := by decide +kernel
theorem dX12_bestKind_1 : decode cX12_bestKind 1 = .ok (.iload_n 1, 1) := by decide +kernel
theorem dX12_bestKind_2 : decode cX12_bestKind 2 = .ok (.invokevirtual 362, 3) := by decide +kernel
theorem dX12_bestKind_5 : decode cX12_bestKind 5 = .ok (.ifCond .eq 15, 3) := by decide +kernel
theorem dX12_bestKind_8 : decode cX12_bestKind 8 = .ok (.aload_n 0, 1) := by decide +kernel
theorem dX12_bestKind_9 : decode cX12_bestKind 9 = .ok (.getfield 23, 3) := by decide +kernel
theorem dX12_bestKind_12 : decode cX12_bestKind 12 = .ok (.iload_n 1, 1) := by decide +kernel
theorem dX12_bestKind_13 : decode cX12_bestKind 13 = .ok (.iaload, 1) := by decide +kernel
theorem dX12_bestKind_14 : decode cX12_bestKind 14 = .ok (.invokestatic 472, 3) := by decide +kernel
theorem dX12_bestKind_17 : decode cX12_bestKind 17 = .ok (.ifCond .ne 5, 3) := by decide +kernel
theorem dX12_bestKind_20 : decode cX12_bestKind 20 = .ok (.iconst (-1), 1) := by decide +kernel
theorem dX12_bestKind_21 : decode cX12_bestKind 21 = .ok (.ireturn, 1) := by decide +kernel
theorem dX12_bestKind_22 : decode cX12_bestKind 22 = .ok (.aload_n 0, 1) := by decide +kernel
theorem dX12_bestKind_23 : decode cX12_bestKind 23 = .ok (.getfield 23, 3) := by decide +kernel
theorem dX12_bestKind_26 : decode cX12_bestKind 26 = .ok (.iload_n 1, 1) := by decide +kernel
theorem dX12_bestKind_27 : decode cX12_bestKind 27 = .ok (.iaload, 1) := by decide +kernel
theorem dX12_bestKind_28 : decode cX12_bestKind 28 = .ok (.istore_n 2, 1) := by decide +kernel
theorem dX12_bestKind_29 : decode cX12_bestKind 29 = .ok (.aload_n 0, 1) := by decide +kernel
theorem dX12_bestKind_30 : decode cX12_bestKind 30 = .ok (.invokevirtual 468, 3) := by decide +kernel
theorem dX12_bestKind_33 : decode cX12_bestKind 33 = .ok (.lstore_n 3, 1) := by decide +kernel
theorem dX12_bestKind_34 : decode cX12_bestKind 34 = .ok (.iconst 0, 1) := by decide +kernel
theorem dX12_bestKind_35 : decode cX12_bestKind 35 = .ok (.istore 5, 2) := by decide +kernel
theorem dX12_bestKind_37 : decode cX12_bestKind 37 = .ok (.iload 5, 2) := by decide +kernel
theorem dX12_bestKind_39 : decode cX12_bestKind 39 = .ok (.iconst 5, 1) := by decide +kernel
theorem dX12_bestKind_40 : decode cX12_bestKind 40 = .ok (.if_icmp .ge 45, 3) := by decide +kernel
theorem dX12_bestKind_43 : decode cX12_bestKind 43 = .ok (.iload 5, 2) := by decide +kernel
theorem dX12_bestKind_45 : decode cX12_bestKind 45 = .ok (.invokestatic 472, 3) := by decide +kernel
theorem dX12_bestKind_48 : decode cX12_bestKind 48 = .ok (.ifCond .ne 6, 3) := by decide +kernel
theorem dX12_bestKind_51 : decode cX12_bestKind 51 = .ok (.goto 28, 3) := by decide +kernel
theorem dX12_bestKind_54 : decode cX12_bestKind 54 = .ok (.aload_n 0, 1) := by decide +kernel
theorem dX12_bestKind_55 : decode cX12_bestKind 55 = .ok (.iload_n 1, 1) := by decide +kernel
theorem dX12_bestKind_56 : decode cX12_bestKind 56 = .ok (.iload 5, 2) := by decide +kernel
theorem dX12_bestKind_58 : decode cX12_bestKind 58 = .ok (.invokevirtual 475, 3) := by decide +kernel
theorem dX12_bestKind_61 : decode cX12_bestKind 61 = .ok (.lstore 6, 2) := by decide +kernel
theorem dX12_bestKind_63 : decode cX12_bestKind 63 = .ok (.lload 6, 2) := by decide +kernel
theorem dX12_bestKind_65 : decode cX12_bestKind 65 = .ok (.lload_n 3, 1) := by decide +kernel
theorem dX12_bestKind_66 : decode cX12_bestKind 66 = .ok (.lcmp, 1) := by decide +kernel
theorem dX12_bestKind_67 : decode cX12_bestKind 67 = .ok (.ifCond .gt 6, 3) := by decide +kernel
theorem dX12_bestKind_70 : decode cX12_bestKind 70 = .ok (.goto 9, 3) := by decide +kernel
theorem dX12_bestKind_73 : decode cX12_bestKind 73 = .ok (.iload 5, 2) := by decide +kernel
theorem dX12_bestKind_75 : decode cX12_bestKind 75 = .ok (.istore_n 2, 1) := by decide +kernel
theorem dX12_bestKind_76 : decode cX12_bestKind 76 = .ok (.lload 6, 2) := by decide +kernel
theorem dX12_bestKind_78 : decode cX12_bestKind 78 = .ok (.lstore_n 3, 1) := by decide +kernel
theorem dX12_bestKind_79 : decode cX12_bestKind 79 = .ok (.iinc 5 1, 3) := by decide +kernel
theorem dX12_bestKind_82 : decode cX12_bestKind 82 = .ok (.goto (-45), 3) := by decide +kernel
theorem dX12_bestKind_85 : decode cX12_bestKind 85 = .ok (.iload_n 2, 1) := by decide +kernel
theorem dX12_bestKind_86 : decode cX12_bestKind 86 = .ok (.ireturn, 1) := by decide +kernel
def X12_bestKind_b20   (u : gM) : Option (Int32 × gM) :=
some ((-1), u)
def X12_bestKind_b79 (k37 : Int32 → Int32 → Int64 → Int32 → gM → Option (Int32 × gM)) (x1 : Int32) (x2 : Int32) (x3 : Int64) (x5 : Int32) (u : gM) : Option (Int32 × gM) :=
(k37 x1 x2 x3 (x5 + 1) u)
def X12_bestKind_b37 (k37 : Int32 → Int32 → Int64 → Int32 → gM → Option (Int32 × gM)) (x1 : Int32) (x2 : Int32) (x3 : Int64) (x5 : Int32) (u : gM) : Option (Int32 × gM) :=
(if 5 ≤ x5 then some (x2, u)
  else ((X12_isPlain u x5).bind fun w45 => (if w45 = 0 then (X12_bestKind_b79 k37 x1 x2 x3 x5 u)
    else ((X12_insuredAs x1 x5 u).bind fun w58 => (if 0 < (lg_cmp w58.1 x3) then (X12_bestKind_b79 k37 x1 x5 w58.1 x5 w58.2)
      else (X12_bestKind_b79 k37 x1 x2 x3 x5 w58.2))))))
def X12_bestKind_l37  : Nat → Int32 → Int32 → Int64 → Int32 → gM → Option (Int32 × gM)
  | 0, _, _, _, _, _ => none
  | n + 1, x1, x2, x3, x5, u => X12_bestKind_b37  (X12_bestKind_l37  n) x1 x2 x3 x5 u
def X12_bestKind  (x1 : Int32) (u : gM) : Option (Int32 × gM) :=
((X12_isAccount u x1).bind fun w2 => (if w2 = 0 then (X12_bestKind_b20 u)
  else ((aI skM u 5 x1).bind fun v13 => ((X12_isPlain u v13).bind fun w14 => (if w14 = 0 then (X12_bestKind_b20 u)
    else ((aI skM u 5 x1).bind fun v27 => ((X12_insuredAll u).bind fun w30 => (X12_bestKind_l37 fz x1 v27 w30.1 0 w30.2))))))))
set_option maxRecDepth 20000 in
theorem v_X12_bestKind_b20 {κ : gK} {B : Nat} {u : gM} (X : gX κ B skM cX12_bestKind 8 RX12 (some .int) 8 201)    {w : (Int32 × gM)} (hM : X12_bestKind_b20 u = some w) : gV κ B skM 8 ((some (.int w.1)), w.2) 20 [none, none, none, none, none, none, none, none] [] u := by
  unfold X12_bestKind_b20 at hM
  refine g_iconst X (v := (-1)) dX12_bestKind_20 (by decide) ?_
  cases hM
  exact g_iret X dX12_bestKind_21
set_option maxRecDepth 20000 in
theorem v_X12_bestKind_b79 {κ : gK} {B : Nat} {u : gM} (X : gX κ B skM cX12_bestKind 8 RX12 (some .int) 8 201) {k37 : Int32 → Int32 → Int64 → Int32 → gM → Option (Int32 × gM)} (ih37 : ∀ (x1 : Int32) (x2 : Int32) (x3 : Int64) (x5 : Int32) (u : gM) (w : (Int32 × gM)), k37 x1 x2 x3 x5 u = some w → gV κ B skM 8 ((some (.int w.1)), w.2) 37 [some (.ref (B + 0)), some (.int x1), some (.int x2), some (.long x3), none, some (.int x5), none, none] [] u) {x1 : Int32} {x2 : Int32} {x3 : Int64} {x5 : Int32} {w : (Int32 × gM)} (hM : X12_bestKind_b79 k37 x1 x2 x3 x5 u = some w) : gV κ B skM 8 ((some (.int w.1)), w.2) 79 [some (.ref (B + 0)), some (.int x1), some (.int x2), some (.long x3), none, some (.int x5), none, none] [] u := by
  unfold X12_bestKind_b79 at hM
  refine g_iinc (d := 1) X [some (.ref (B + 0)), some (.int x1), some (.int x2), some (.long x3), none, some (.int (x5 + 1)), none, none] dX12_bestKind_79 (by decide) rfl (by decide) rfl ?_
  refine g_goto (tgt := 37) X dX12_bestKind_82 (by decide) ?_
  refine g_mk [true, true, true, true, false, true, false, false] [some (.ref (B + 0)), some (.int x1), some (.int x2), some (.long x3), none, some (.int (x5 + 1)), none, none] rfl ?_
  exact ih37 x1 x2 x3 (x5 + 1) u _ hM
set_option maxRecDepth 20000 in
theorem v_X12_bestKind_b37 {κ : gK} {B : Nat} {u : gM} (X : gX κ B skM cX12_bestKind 8 RX12 (some .int) 8 201) {k37 : Int32 → Int32 → Int64 → Int32 → gM → Option (Int32 × gM)} (ih37 : ∀ (x1 : Int32) (x2 : Int32) (x3 : Int64) (x5 : Int32) (u : gM) (w : (Int32 × gM)), k37 x1 x2 x3 x5 u = some w → gV κ B skM 8 ((some (.int w.1)), w.2) 37 [some (.ref (B + 0)), some (.int x1), some (.int x2), some (.long x3), none, some (.int x5), none, none] [] u) {x1 : Int32} {x2 : Int32} {x3 : Int64} {x5 : Int32} {w : (Int32 × gM)} (hM : X12_bestKind_b37 k37 x1 x2 x3 x5 u = some w) : gV κ B skM 8 ((some (.int w.1)), w.2) 37 [some (.ref (B + 0)), some (.int x1), some (.int x2), some (.long x3), none, some (.int x5), none, none] [] u := by
  unfold X12_bestKind_b37 at hM
  refine g_iload X dX12_bestKind_37 rfl ?_
  refine g_iconst X (v := 5) dX12_bestKind_39 (by decide) ?_
  refine g_icmp_ge (tgt := 85) X dX12_bestKind_40 (by decide) (fun c40 => ?_) (fun c40 => ?_)
  · rw [if_pos c40] at hM
    refine g_iload_n X dX12_bestKind_85 rfl ?_
    cases hM
    exact g_iret X dX12_bestKind_86
  · rw [if_neg c40] at hM
    refine g_iload X dX12_bestKind_43 rfl ?_
    obtain ⟨w45, e45, hM⟩ := bind_of hM
    refine g_callSi X (fun B adK => [.int x5]) (s_X12_isPlain e45) cvX12_472 rfl rfl (Nat.le_of_ble_eq_true rfl) ⟨by decide, by decide⟩ dX12_bestKind_45 ?_
    refine g_if_ne (tgt := 54) X dX12_bestKind_48 (by decide) (fun c48 => ?_) (fun c48 => ?_)
    · rw [if_neg c48] at hM
      refine g_aload_n X dX12_bestKind_54 rfl ?_
      refine g_iload_n X dX12_bestKind_55 rfl ?_
      refine g_iload X dX12_bestKind_56 rfl ?_
      obtain ⟨w58, e58, hM⟩ := bind_of hM
      refine g_callVl X (fun B adK => [.int x1, .int x5]) (s_X12_insuredAs e58) cvX12_475 cM_0 rfl rfl (Nat.le_of_ble_eq_true rfl) ⟨by decide, by decide⟩ dX12_bestKind_58 ?_
      refine g_lstore X [some (.ref (B + 0)), some (.int x1), some (.int x2), some (.long x3), none, some (.int x5), some (.long w58.1), none] dX12_bestKind_61 (by decide) rfl ?_
      refine g_lload X dX12_bestKind_63 rfl ?_
      refine g_lload_n X dX12_bestKind_65 rfl ?_
      refine g_lcmp X dX12_bestKind_66 ?_
      refine g_if_gt (tgt := 73) X dX12_bestKind_67 (by decide) (fun c67 => ?_) (fun c67 => ?_)
      · rw [if_pos c67] at hM
        refine g_iload X dX12_bestKind_73 rfl ?_
        refine g_istore_n X [some (.ref (B + 0)), some (.int x1), some (.int x5), some (.long x3), none, some (.int x5), some (.long w58.1), none] dX12_bestKind_75 (by decide) rfl ?_
        refine g_lload X dX12_bestKind_76 rfl ?_
        refine g_lstore_n X [some (.ref (B + 0)), some (.int x1), some (.int x5), some (.long w58.1), none, some (.int x5), some (.long w58.1), none] dX12_bestKind_78 (by decide) rfl ?_
        refine g_mk [true, true, true, true, false, true, false, false] [some (.ref (B + 0)), some (.int x1), some (.int x5), some (.long w58.1), none, some (.int x5), none, none] rfl ?_
        exact v_X12_bestKind_b79 X ih37 hM
      · rw [if_neg c67] at hM
        refine g_goto (tgt := 79) X dX12_bestKind_70 (by decide) ?_
        refine g_mk [true, true, true, true, false, true, false, false] [some (.ref (B + 0)), some (.int x1), some (.int x2), some (.long x3), none, some (.int x5), none, none] rfl ?_
        exact v_X12_bestKind_b79 X ih37 hM
    · rw [if_pos c48] at hM
      refine g_goto (tgt := 79) X dX12_bestKind_51 (by decide) ?_
      refine g_mk [true, true, true, true, false, true, false, false] [some (.ref (B + 0)), some (.int x1), some (.int x2), some (.long x3), none, some (.int x5), none, none] rfl ?_
      exact v_X12_bestKind_b79 X ih37 hM
theorem v_X12_bestKind_l37 {κ : gK} {B : Nat} (X : gX κ B skM cX12_bestKind 8 RX12 (some .int) 8 201)   : ∀ (n : Nat) {x1 : Int32} {x2 : Int32} {x3 : Int64} {x5 : Int32} {u : gM} {w : (Int32 × gM)} (hM : X12_bestKind_l37  n x1 x2 x3 x5 u = some w), gV κ B skM 8 ((some (.int w.1)), w.2) 37 [some (.ref (B + 0)), some (.int x1), some (.int x2), some (.long x3), none, some (.int x5), none, none] [] u := by
  intro n
  induction n with
  | zero => intro x1 x2 x3 x5 u w hM; exact nomatch (show (none : Option (Int32 × gM)) = some w from hM)
  | succ n ihn => intro x1 x2 x3 x5 u w hM; exact v_X12_bestKind_b37 X  (fun x1 x2 x3 x5 u w h => ihn h) hM
set_option maxRecDepth 20000 in
theorem v_X12_bestKind {κ : gK} {B : Nat} {u : gM} (X : gX κ B skM cX12_bestKind 8 RX12 (some .int) 8 201)   {x1 : Int32} {w : (Int32 × gM)} (hM : X12_bestKind x1 u = some w) : gV κ B skM 8 ((some (.int w.1)), w.2) 0 [some (.ref (B + 0)), some (.int x1), none, none, none, none, none, none] [] u := by
  unfold X12_bestKind at hM
  refine g_aload_n X dX12_bestKind_0 rfl ?_
  refine g_iload_n X dX12_bestKind_1 rfl ?_
  obtain ⟨w2, e2, hM⟩ := bind_of hM
  refine g_callVi X (fun B adK => [.int x1]) (s_X12_isAccount e2) cvX12_362 cM_0 rfl rfl (Nat.le_of_ble_eq_true rfl) ⟨by decide, by decide⟩ dX12_bestKind_2 ?_
  refine g_if_eq (tgt := 20) X dX12_bestKind_5 (by decide) (fun c5 => ?_) (fun c5 => ?_)
  · rw [if_pos c5] at hM
    refine g_mk [false, false, false, false, false, false, false, false] [none, none, none, none, none, none, none, none] rfl ?_
    exact v_X12_bestKind_b20 X  hM
  · rw [if_neg c5] at hM
    refine g_aload_n X dX12_bestKind_8 rfl ?_
    refine g_getR X fX12_23 cM_0 rfl dX12_bestKind_9 ?_
    refine g_iload_n X dX12_bestKind_12 rfl ?_
    obtain ⟨v13, e13, hM⟩ := bind_of hM
    refine g_iaload X e13 dX12_bestKind_13 ?_
    obtain ⟨w14, e14, hM⟩ := bind_of hM
    refine g_callSi X (fun B adK => [.int v13]) (s_X12_isPlain e14) cvX12_472 rfl rfl (Nat.le_of_ble_eq_true rfl) ⟨by decide, by decide⟩ dX12_bestKind_14 ?_
    refine g_if_ne (tgt := 22) X dX12_bestKind_17 (by decide) (fun c17 => ?_) (fun c17 => ?_)
    · rw [if_neg c17] at hM
      refine g_aload_n X dX12_bestKind_22 rfl ?_
      refine g_getR X fX12_23 cM_0 rfl dX12_bestKind_23 ?_
      refine g_iload_n X dX12_bestKind_26 rfl ?_
      obtain ⟨v27, e27, hM⟩ := bind_of hM
      refine g_iaload X e27 dX12_bestKind_27 ?_
      refine g_istore_n X [some (.ref (B + 0)), some (.int x1), some (.int v27), none, none, none, none, none] dX12_bestKind_28 (by decide) rfl ?_
      refine g_aload_n X dX12_bestKind_29 rfl ?_
      obtain ⟨w30, e30, hM⟩ := bind_of hM
      refine g_callVl X (fun B adK => []) (s_X12_insuredAll e30) cvX12_468 cM_0 rfl rfl (Nat.le_of_ble_eq_true rfl) ⟨by decide, by decide⟩ dX12_bestKind_30 ?_
      refine g_lstore_n X [some (.ref (B + 0)), some (.int x1), some (.int v27), some (.long w30.1), none, none, none, none] dX12_bestKind_33 (by decide) rfl ?_
      refine g_iconst X (v := 0) dX12_bestKind_34 (by decide) ?_
      refine g_istore X [some (.ref (B + 0)), some (.int x1), some (.int v27), some (.long w30.1), none, some (.int 0), none, none] dX12_bestKind_35 (by decide) rfl ?_
      refine g_mk [true, true, true, true, false, true, false, false] [some (.ref (B + 0)), some (.int x1), some (.int v27), some (.long w30.1), none, some (.int 0), none, none] rfl ?_
      exact v_X12_bestKind_l37 X  fz hM
    · rw [if_pos c17] at hM
      refine g_mk [false, false, false, false, false, false, false, false] [none, none, none, none, none, none, none, none] rfl ?_
      exact v_X12_bestKind_b20 X  hM
theorem s_X12_bestKind {x1 : Int32} {u : gM} {w : (Int32 × gM)} (hM : X12_bestKind x1 u = some w) : gMet skM yX12_bestKind cX12_bestKind 8 (some .int) 8 201 (fun B adK => [.ref (B + 0), .int x1]) u ((fun _ => some (.int w.1)), w.2) := by
  refine gMet.of (by decide) (fun _ _ => Nat.le_of_ble_eq_true rfl) (fun κ B X => ?_)
  have X : gX κ B skM cX12_bestKind 8 RX12 (some .int) 8 201 := X
  refine g_mk [true, true, false, false, false, false, false, false] [some (.ref (B + 0)), some (.int x1), none, none, none, none, none, none] rfl ?_
  exact v_X12_bestKind X  hM
theorem fr_X12_bestKind_b20 {S : Nat → Prop} {u0 u : gM}     {w : (Int32 × gM)} (hM : X12_bestKind_b20 u = some w) (h0 : off S u0 u) : off S u0 w.2 := by
  unfold X12_bestKind_b20 at hM
  cases hM
  exact h0
theorem fr_X12_bestKind_b79 {S : Nat → Prop} {u0 u : gM} {x1 : Int32} {x2 : Int32} {x3 : Int64} {x5 : Int32} (hs0 : S 0) (hs1 : S 20) {k37 : Int32 → Int32 → Int64 → Int32 → gM → Option (Int32 × gM)} (ik37 : ∀ (x1 : Int32) (x2 : Int32) (x3 : Int64) (x5 : Int32) (u : gM) (w : (Int32 × gM)), S 0 → S 20 → off S u0 u → k37 x1 x2 x3 x5 u = some w → off S u0 w.2) {w : (Int32 × gM)} (hM : X12_bestKind_b79 k37 x1 x2 x3 x5 u = some w) (h0 : off S u0 u) : off S u0 w.2 := by
  unfold X12_bestKind_b79 at hM
  exact ik37 _ _ _ _ _ _ hs0 hs1 h0 hM
theorem fr_X12_bestKind_b37 {S : Nat → Prop} {u0 u : gM} {x1 : Int32} {x2 : Int32} {x3 : Int64} {x5 : Int32} (hs0 : S 0) (hs1 : S 20) {k37 : Int32 → Int32 → Int64 → Int32 → gM → Option (Int32 × gM)} (ik37 : ∀ (x1 : Int32) (x2 : Int32) (x3 : Int64) (x5 : Int32) (u : gM) (w : (Int32 × gM)), S 0 → S 20 → off S u0 u → k37 x1 x2 x3 x5 u = some w → off S u0 w.2) {w : (Int32 × gM)} (hM : X12_bestKind_b37 k37 x1 x2 x3 x5 u = some w) (h0 : off S u0 u) : off S u0 w.2 := by
  unfold X12_bestKind_b37 at hM
  by_cases c40 : 5 ≤ x5
  · rw [if_pos c40] at hM
    cases hM
    exact h0
  · rw [if_neg c40] at hM
    obtain ⟨w45, e45, hM⟩ := bind_of hM
    by_cases c48 : w45 = 0
    · rw [if_pos c48] at hM
      exact fr_X12_bestKind_b79 hs0 hs1 ik37 hM h0
    · rw [if_neg c48] at hM
      obtain ⟨w58, e58, hM⟩ := bind_of hM
      have h0 := fr_X12_insuredAs hs0 hs1 e58 h0
      by_cases c67 : 0 < (lg_cmp w58.1 x3)
      · rw [if_pos c67] at hM
        exact fr_X12_bestKind_b79 hs0 hs1 ik37 hM h0
      · rw [if_neg c67] at hM
        exact fr_X12_bestKind_b79 hs0 hs1 ik37 hM h0
theorem fr_X12_bestKind_l37 {S : Nat → Prop} {u0 : gM}   : ∀ (n : Nat) {x1 : Int32} {x2 : Int32} {x3 : Int64} {x5 : Int32} (hs0 : S 0) (hs1 : S 20) {u : gM} {w : (Int32 × gM)} (h0 : off S u0 u) (hM : X12_bestKind_l37  n x1 x2 x3 x5 u = some w), off S u0 w.2 := by
  intro n
  induction n with
  | zero => intro x1 x2 x3 x5 hs0 hs1 u w h0 hM; exact nomatch (show (none : Option (Int32 × gM)) = some w from hM)
  | succ n ihn => intro x1 x2 x3 x5 hs0 hs1 u w h0 hM; exact fr_X12_bestKind_b37 hs0 hs1  (fun x1 x2 x3 x5 _ _ hs0 hs1 h0 h => ihn hs0 hs1 h0 h) hM h0
theorem fr_X12_bestKind {S : Nat → Prop} {u0 u : gM} {x1 : Int32} (hs0 : S 0) (hs1 : S 20)   {w : (Int32 × gM)} (hM : X12_bestKind x1 u = some w) (h0 : off S u0 u) : off S u0 w.2 := by
  unfold X12_bestKind at hM
  obtain ⟨w2, e2, hM⟩ := bind_of hM
  by_cases c5 : w2 = 0
  · rw [if_pos c5] at hM
    exact fr_X12_bestKind_b20   hM h0
  · rw [if_neg c5] at hM
    obtain ⟨v13, e13, hM⟩ := bind_of hM
    obtain ⟨w14, e14, hM⟩ := bind_of hM
    by_cases c17 : w14 = 0
    · rw [if_pos c17] at hM
      exact fr_X12_bestKind_b20   hM h0
    · rw [if_neg c17] at hM
      obtain ⟨v27, e27, hM⟩ := bind_of hM
      obtain ⟨w30, e30, hM⟩ := bind_of hM
      have h0 := fr_X12_insuredAll hs1 e30 h0
      exact fr_X12_bestKind_l37  fz hs0 hs1 h0 hM
/-! CoverDeskModel.packed(Ljava/lang/String;)J -/
theorem dX12_packed_0 : decode cX12_packed 0 = .ok (.lconst 0, 1) := by decide +kernel
theorem dX12_packed_1 : decode cX12_packed 1 = .ok (.lstore_n 1, 1) := by decide +kernel
theorem dX12_packed_2 : decode cX12_packed 2 = .ok (.iconst 0, 1) := by decide +kernel
theorem dX12_packed_3 : decode cX12_packed 3 = .ok (.istore_n 3, 1) := by decide +kernel
theorem dX12_packed_4 : decode cX12_packed 4 = .ok (.iload_n 3, 1) := by decide +kernel
theorem dX12_packed_5 : decode cX12_packed 5 = .ok (.aload_n 0, 1) := by decide +kernel
theorem dX12_packed_6 : decode cX12_packed 6 = .ok (.invokevirtual 168, 3) := by decide +kernel
theorem dX12_packed_9 : decode cX12_packed 9 = .ok (.if_icmp .ge 23, 3) := by decide +kernel
theorem dX12_packed_12 : decode cX12_packed 12 = .ok (.lload_n 1, 1) := by decide +kernel
theorem dX12_packed_13 : decode cX12_packed 13 = .ok (.iconst 5, 1) := by decide +kernel
theorem dX12_packed_14 : decode cX12_packed 14 = .ok (.lshl, 1) := by decide +kernel
theorem dX12_packed_15 : decode cX12_packed 15 = .ok (.aload_n 0, 1) := by decide +kernel
theorem dX12_packed_16 : decode cX12_packed 16 = .ok (.iload_n 3, 1) := by decide +kernel
theorem dX12_packed_17 : decode cX12_packed 17 = .ok (.invokevirtual 174, 3) := by decide +kernel
theorem dX12_packed_20 : decode cX12_packed 20 = .ok (.bipush 96, 2) := by decide +kernel
theorem dX12_packed_22 : decode cX12_packed 22 = .ok (.isub, 1) := by decide +kernel
theorem dX12_packed_23 : decode cX12_packed 23 = .ok (.i2l, 1) := by decide +kernel
theorem dX12_packed_24 : decode cX12_packed 24 = .ok (.lor, 1) := by decide +kernel
theorem dX12_packed_25 : decode cX12_packed 25 = .ok (.lstore_n 1, 1) := by decide +kernel
theorem dX12_packed_26 : decode cX12_packed 26 = .ok (.iinc 3 1, 3) := by decide +kernel
theorem dX12_packed_29 : decode cX12_packed 29 = .ok (.goto (-25), 3) := by decide +kernel
theorem dX12_packed_32 : decode cX12_packed 32 = .ok (.lload_n 1, 1) := by decide +kernel
theorem dX12_packed_33 : decode cX12_packed 33 = .ok (.lreturn, 1) := by decide +kernel
def X12_packed_b4 (u : gM) (k4 : Nat → Int64 → Int32 → Option Int64) (x0 : Nat) (x1 : Int64) (x3 : Int32) : Option Int64 :=
((slen x0).bind fun v6 => (if v6 ≤ x3 then some x1
  else ((sch x0 x3).bind fun v17 => (k4 x0 ((x1 <<< ((5 : Int32).toInt64 &&& 63)) ||| (v17 - 96).toInt64) (x3 + 1)))))
def X12_packed_l4 (u : gM)  : Nat → Nat → Int64 → Int32 → Option Int64
  | 0, _, _, _ => none
  | n + 1, x0, x1, x3 => X12_packed_b4 u  (X12_packed_l4 u  n) x0 x1 x3
def X12_packed (u : gM)  (x0 : Nat) : Option Int64 :=
(X12_packed_l4 u fz x0 0 0)
set_option maxRecDepth 20000 in
theorem v_X12_packed_b4 {κ : gK} {B : Nat} {u : gM} (X : gX κ B skM cX12_packed 4 RX12 (some .long) 4 100) {k4 : Nat → Int64 → Int32 → Option Int64} (ih4 : ∀ (x0 : Nat) (x1 : Int64) (x3 : Int32) (w : Int64), k4 x0 x1 x3 = some w → gV κ B skM 4 ((some (.long w)), u) 4 [some (.ref (gAd κ x0)), some (.long x1), none, some (.int x3)] [] u) {x0 : Nat} {x1 : Int64} {x3 : Int32} {w : Int64} (hM : X12_packed_b4 u k4 x0 x1 x3 = some w) : gV κ B skM 4 ((some (.long w)), u) 4 [some (.ref (gAd κ x0)), some (.long x1), none, some (.int x3)] [] u := by
  unfold X12_packed_b4 at hM
  refine g_iload_n X dX12_packed_4 rfl ?_
  refine g_aload_n X dX12_packed_5 rfl ?_
  obtain ⟨v6, e6, hM⟩ := bind_of hM
  refine g_strL X m_23_17 e6 (Nat.le_of_ble_eq_true rfl) ⟨by decide, by decide⟩ dX12_packed_6 ?_
  refine g_icmp_ge (tgt := 32) X dX12_packed_9 (by decide) (fun c9 => ?_) (fun c9 => ?_)
  · rw [if_pos c9] at hM
    refine g_lload_n X dX12_packed_32 rfl ?_
    cases hM
    exact g_lret X dX12_packed_33
  · rw [if_neg c9] at hM
    refine g_lload_n X dX12_packed_12 rfl ?_
    refine g_iconst X (v := 5) dX12_packed_13 (by decide) ?_
    refine g_lshl X dX12_packed_14 ?_
    refine g_aload_n X dX12_packed_15 rfl ?_
    refine g_iload_n X dX12_packed_16 rfl ?_
    obtain ⟨v17, e17, hM⟩ := bind_of hM
    refine g_strC X m_23_21 e17 (Nat.le_of_ble_eq_true rfl) ⟨by decide, by decide⟩ dX12_packed_17 ?_
    refine g_bipush X (v := 96) dX12_packed_20 (by decide) ?_
    refine g_isub X dX12_packed_22 ?_
    refine g_i2l X dX12_packed_23 ?_
    refine g_lor X dX12_packed_24 ?_
    refine g_lstore_n X [some (.ref (gAd κ x0)), some (.long ((x1 <<< ((5 : Int32).toInt64 &&& 63)) ||| (v17 - 96).toInt64)), none, some (.int x3)] dX12_packed_25 (by decide) rfl ?_
    refine g_iinc (d := 1) X [some (.ref (gAd κ x0)), some (.long ((x1 <<< ((5 : Int32).toInt64 &&& 63)) ||| (v17 - 96).toInt64)), none, some (.int (x3 + 1))] dX12_packed_26 (by decide) rfl (by decide) rfl ?_
    refine g_goto (tgt := 4) X dX12_packed_29 (by decide) ?_
    refine g_mk [true, true, false, true] [some (.ref (gAd κ x0)), some (.long ((x1 <<< ((5 : Int32).toInt64 &&& 63)) ||| (v17 - 96).toInt64)), none, some (.int (x3 + 1))] rfl ?_
    exact ih4 x0 ((x1 <<< ((5 : Int32).toInt64 &&& 63)) ||| (v17 - 96).toInt64) (x3 + 1) _ hM
theorem v_X12_packed_l4 {κ : gK} {B : Nat} {u : gM} (X : gX κ B skM cX12_packed 4 RX12 (some .long) 4 100)   : ∀ (n : Nat) {x0 : Nat} {x1 : Int64} {x3 : Int32} {w : Int64} (hM : X12_packed_l4 u  n x0 x1 x3 = some w), gV κ B skM 4 ((some (.long w)), u) 4 [some (.ref (gAd κ x0)), some (.long x1), none, some (.int x3)] [] u := by
  intro n
  induction n with
  | zero => intro x0 x1 x3 w hM; exact nomatch (show (none : Option Int64) = some w from hM)
  | succ n ihn => intro x0 x1 x3 w hM; exact v_X12_packed_b4 X  (fun x0 x1 x3 w h => ihn h) hM
set_option maxRecDepth 20000 in
theorem v_X12_packed {κ : gK} {B : Nat} {u : gM} (X : gX κ B skM cX12_packed 4 RX12 (some .long) 4 100)   {x0 : Nat} {w : Int64} (hM : X12_packed u x0 = some w) : gV κ B skM 4 ((some (.long w)), u) 0 [some (.ref (gAd κ x0)), none, none, none] [] u := by
  unfold X12_packed at hM
  refine g_lconst (v := 0) X dX12_packed_0 (by decide) ?_
  refine g_lstore_n X [some (.ref (gAd κ x0)), some (.long 0), none, none] dX12_packed_1 (by decide) rfl ?_
  refine g_iconst X (v := 0) dX12_packed_2 (by decide) ?_
  refine g_istore_n X [some (.ref (gAd κ x0)), some (.long 0), none, some (.int 0)] dX12_packed_3 (by decide) rfl ?_
  refine g_mk [true, true, false, true] [some (.ref (gAd κ x0)), some (.long 0), none, some (.int 0)] rfl ?_
  exact v_X12_packed_l4 X  fz hM
theorem s_X12_packed {x0 : Nat} {u : gM} {w : Int64} (hM : X12_packed u x0 = some w) : gMet skM yX12_packed cX12_packed 4 (some .long) 4 100 (fun B adK => [.ref (adK x0)]) u ((fun _ => some (.long w)), u) := by
  refine gMet.of (by decide) (fun _ _ => Nat.le_of_ble_eq_true rfl) (fun κ B X => ?_)
  have X : gX κ B skM cX12_packed 4 RX12 (some .long) 4 100 := X
  refine g_mk [true, false, false, false] [some (.ref (gAd κ x0)), none, none, none] rfl ?_
  exact v_X12_packed X  hM

/-! CoverDeskModel.isWord(Ljava/lang/String;)Z -/
theorem dX12_isWord_0 : decode cX12_isWord 0 = .ok (.aload_n 0, 1) := by decide +kernel
theorem dX12_isWord_1 : decode cX12_isWord 1 = .ok (.getfield 149, 3) := by decide +kernel
theorem dX12_isWord_4 : decode cX12_isWord 4 = .ok (.iconst 1, 1) := by decide +kernel
theorem dX12_isWord_5 : decode cX12_isWord 5 = .ok (.if_icmp .ne 35, 3) := by decide +kernel
theorem dX12_isWord_8 : decode cX12_isWord 8 = .ok (.aload_n 0, 1) := by decide +kernel
theorem dX12_isWord_9 : decode cX12_isWord 9 = .ok (.getfield 129, 3) := by decide +kernel
theorem dX12_isWord_12 : decode cX12_isWord 12 = .ok (.aload_n 0, 1) := by decide +kernel
theorem dX12_isWord_13 : decode cX12_isWord 13 = .ok (.getfield 136, 3) := by decide +kernel
theorem dX12_isWord_16 : decode cX12_isWord 16 = .ok (.isub, 1) := by decide +kernel
theorem dX12_isWord_17 : decode cX12_isWord 17 = .ok (.aload_n 1, 1) := by decide +kernel
theorem dX12_isWord_18 : decode cX12_isWord 18 = .ok (.invokevirtual 168, 3) := by decide +kernel
theorem dX12_isWord_21 : decode cX12_isWord 21 = .ok (.if_icmp .ne 19, 3) := by decide +kernel
theorem dX12_isWord_24 : decode cX12_isWord 24 = .ok (.aload_n 0, 1) := by decide +kernel
theorem dX12_isWord_25 : decode cX12_isWord 25 = .ok (.getfield 139, 3) := by decide +kernel
theorem dX12_isWord_28 : decode cX12_isWord 28 = .ok (.aload_n 1, 1) := by decide +kernel
theorem dX12_isWord_29 : decode cX12_isWord 29 = .ok (.invokestatic 178, 3) := by decide +kernel
theorem dX12_isWord_32 : decode cX12_isWord 32 = .ok (.lcmp, 1) := by decide +kernel
theorem dX12_isWord_33 : decode cX12_isWord 33 = .ok (.ifCond .ne 7, 3) := by decide +kernel
theorem dX12_isWord_36 : decode cX12_isWord 36 = .ok (.iconst 1, 1) := by decide +kernel
theorem dX12_isWord_37 : decode cX12_isWord 37 = .ok (.goto 4, 3) := by decide +kernel
theorem dX12_isWord_40 : decode cX12_isWord 40 = .ok (.iconst 0, 1) := by decide +kernel
theorem dX12_isWord_41 : decode cX12_isWord 41 = .ok (.ireturn, 1) := by decide +kernel
def X12_isWord_b41 (u : gM)  (s0 : Int32) : Option Int32 :=
bI s0
def X12_isWord_b40 (u : gM)   : Option Int32 :=
(X12_isWord_b41 u 0)
def X12_isWord (u : gM)  (x1 : Nat) : Option Int32 :=
(if (u.1 0 25) = 1 then ((slen x1).bind fun v18 => (if ((u.1 0 27) - (u.1 0 26)) = v18 then ((X12_packed u x1).bind fun w29 => (if (lg_cmp (u.2 0 28) w29) = 0 then (X12_isWord_b41 u 1)
      else (X12_isWord_b40 u)))
    else (X12_isWord_b40 u)))
  else (X12_isWord_b40 u))
set_option maxRecDepth 20000 in
theorem v_X12_isWord_b41 {κ : gK} {B : Nat} {u : gM} (X : gX κ B skM cX12_isWord 2 RX12 (some .boolean) 5 123)   {s0 : Int32} {w : Int32} (hM : X12_isWord_b41 u s0 = some w) : gV κ B skM 2 ((some (.int w)), u) 41 [none, none] [.int s0] u := by
  unfold X12_isWord_b41 at hM
  obtain ⟨hv, rfl⟩ := bI_of hM
  exact g_zret X hv dX12_isWord_41
set_option maxRecDepth 20000 in
theorem v_X12_isWord_b40 {κ : gK} {B : Nat} {u : gM} (X : gX κ B skM cX12_isWord 2 RX12 (some .boolean) 5 123)    {w : Int32} (hM : X12_isWord_b40 u = some w) : gV κ B skM 2 ((some (.int w)), u) 40 [none, none] [] u := by
  unfold X12_isWord_b40 at hM
  refine g_iconst X (v := 0) dX12_isWord_40 (by decide) ?_
  refine g_mk [false, false] [none, none] rfl ?_
  exact v_X12_isWord_b41 X  hM
set_option maxRecDepth 20000 in
theorem v_X12_isWord {κ : gK} {B : Nat} {u : gM} (X : gX κ B skM cX12_isWord 2 RX12 (some .boolean) 5 123)   {x1 : Nat} {w : Int32} (hM : X12_isWord u x1 = some w) : gV κ B skM 2 ((some (.int w)), u) 0 [some (.ref (B + 0)), some (.ref (gAd κ x1))] [] u := by
  unfold X12_isWord at hM
  refine g_aload_n X dX12_isWord_0 rfl ?_
  refine g_getI X fX12_149 cM_0 rfl dX12_isWord_1 ?_
  refine g_iconst X (v := 1) dX12_isWord_4 (by decide) ?_
  refine g_icmp_ne (tgt := 40) X dX12_isWord_5 (by decide) (fun c5 => ?_) (fun c5 => ?_)
  · rw [if_neg c5] at hM
    refine g_mk [false, false] [none, none] rfl ?_
    exact v_X12_isWord_b40 X  hM
  · rw [if_pos c5] at hM
    refine g_aload_n X dX12_isWord_8 rfl ?_
    refine g_getI X fX12_129 cM_0 rfl dX12_isWord_9 ?_
    refine g_aload_n X dX12_isWord_12 rfl ?_
    refine g_getI X fX12_136 cM_0 rfl dX12_isWord_13 ?_
    refine g_isub X dX12_isWord_16 ?_
    refine g_aload_n X dX12_isWord_17 rfl ?_
    obtain ⟨v18, e18, hM⟩ := bind_of hM
    refine g_strL X m_23_17 e18 (Nat.le_of_ble_eq_true rfl) ⟨by decide, by decide⟩ dX12_isWord_18 ?_
    refine g_icmp_ne (tgt := 40) X dX12_isWord_21 (by decide) (fun c21 => ?_) (fun c21 => ?_)
    · rw [if_neg c21] at hM
      refine g_mk [false, false] [none, none] rfl ?_
      exact v_X12_isWord_b40 X  hM
    · rw [if_pos c21] at hM
      refine g_aload_n X dX12_isWord_24 rfl ?_
      refine g_getJ X fX12_139 cM_0 rfl dX12_isWord_25 ?_
      refine g_aload_n X dX12_isWord_28 rfl ?_
      obtain ⟨w29, e29, hM⟩ := bind_of hM
      refine g_callSl X (fun B adK => [.ref (adK x1)]) (s_X12_packed e29) cvX12_178 rfl rfl (Nat.le_of_ble_eq_true rfl) ⟨by decide, by decide⟩ dX12_isWord_29 ?_
      refine g_lcmp X dX12_isWord_32 ?_
      refine g_if_ne (tgt := 40) X dX12_isWord_33 (by decide) (fun c33 => ?_) (fun c33 => ?_)
      · rw [if_neg c33] at hM
        refine g_mk [false, false] [none, none] rfl ?_
        exact v_X12_isWord_b40 X  hM
      · rw [if_pos c33] at hM
        refine g_iconst X (v := 1) dX12_isWord_36 (by decide) ?_
        refine g_goto (tgt := 41) X dX12_isWord_37 (by decide) ?_
        refine g_mk [false, false] [none, none] rfl ?_
        exact v_X12_isWord_b41 X  hM
theorem s_X12_isWord {x1 : Nat} {u : gM} {w : Int32} (hM : X12_isWord u x1 = some w) : gMet skM yX12_isWord cX12_isWord 2 (some .boolean) 5 123 (fun B adK => [.ref (B + 0), .ref (adK x1)]) u ((fun _ => some (.int w)), u) := by
  refine gMet.of (by decide) (fun _ _ => Nat.le_of_ble_eq_true rfl) (fun κ B X => ?_)
  have X : gX κ B skM cX12_isWord 2 RX12 (some .boolean) 5 123 := X
  refine g_mk [true, true] [some (.ref (B + 0)), some (.ref (gAd κ x1))] rfl ?_
  exact v_X12_isWord X  hM

/-! CoverDeskModel.kindHere()I -/
theorem dX12_kindHere_0 : decode cX12_kindHere 0 = .ok (.aload_n 0, 1) := by decide +kernel
theorem dX12_kindHere_1 : decode cX12_kindHere 1 = .ok (.ldc 182, 2) := by decide +kernel
theorem dX12_kindHere_3 : decode cX12_kindHere 3 = .ok (.invokevirtual 184, 3) := by decide +kernel
theorem dX12_kindHere_6 : decode cX12_kindHere 6 = .ok (.ifCond .eq 7, 3) := by decide +kernel
theorem dX12_kindHere_9 : decode cX12_kindHere 9 = .ok (.iconst 0, 1) := by decide +kernel
theorem dX12_kindHere_10 : decode cX12_kindHere 10 = .ok (.goto 56, 3) := by decide +kernel
theorem dX12_kindHere_13 : decode cX12_kindHere 13 = .ok (.aload_n 0, 1) := by decide +kernel
theorem dX12_kindHere_14 : decode cX12_kindHere 14 = .ok (.ldc 188, 2) := by decide +kernel
theorem dX12_kindHere_16 : decode cX12_kindHere 16 = .ok (.invokevirtual 184, 3) := by decide +kernel
theorem dX12_kindHere_19 : decode cX12_kindHere 19 = .ok (.ifCond .eq 7, 3) := by decide +kernel
theorem dX12_kindHere_22 : decode cX12_kindHere 22 = .ok (.iconst 1, 1) := by decide +kernel
theorem dX12_kindHere_23 : decode cX12_kindHere 23 = .ok (.goto 43, 3) := by decide +kernel
theorem dX12_kindHere_26 : decode cX12_kindHere 26 = .ok (.aload_n 0, 1) := by decide +kernel
theorem dX12_kindHere_27 : decode cX12_kindHere 27 = .ok (.ldc 190, 2) := by decide +kernel
theorem dX12_kindHere_29 : decode cX12_kindHere 29 = .ok (.invokevirtual 184, 3) := by decide +kernel
theorem dX12_kindHere_32 : decode cX12_kindHere 32 = .ok (.ifCond .eq 7, 3) := by decide +kernel
theorem dX12_kindHere_35 : decode cX12_kindHere 35 = .ok (.iconst 2, 1) := by decide +kernel
theorem dX12_kindHere_36 : decode cX12_kindHere 36 = .ok (.goto 30, 3) := by decide +kernel
theorem dX12_kindHere_39 : decode cX12_kindHere 39 = .ok (.aload_n 0, 1) := by decide +kernel
theorem dX12_kindHere_40 : decode cX12_kindHere 40 = .ok (.ldc 192, 2) := by decide +kernel
theorem dX12_kindHere_42 : decode cX12_kindHere 42 = .ok (.invokevirtual 184, 3) := by decide +kernel
theorem dX12_kindHere_45 : decode cX12_kindHere 45 = .ok (.ifCond .eq 7, 3) := by decide +kernel
theorem dX12_kindHere_48 : decode cX12_kindHere 48 = .ok (.iconst 3, 1) := by decide +kernel
theorem dX12_kindHere_49 : decode cX12_kindHere 49 = .ok (.goto 17, 3) := by decide +kernel
theorem dX12_kindHere_52 : decode cX12_kindHere 52 = .ok (.aload_n 0, 1) := by decide +kernel
theorem dX12_kindHere_53 : decode cX12_kindHere 53 = .ok (.ldc 194, 2) := by decide +kernel
theorem dX12_kindHere_55 : decode cX12_kindHere 55 = .ok (.invokevirtual 184, 3) := by decide +kernel
theorem dX12_kindHere_58 : decode cX12_kindHere 58 = .ok (.ifCond .eq 7, 3) := by decide +kernel
theorem dX12_kindHere_61 : decode cX12_kindHere 61 = .ok (.iconst 4, 1) := by decide +kernel
theorem dX12_kindHere_62 : decode cX12_kindHere 62 = .ok (.goto 4, 3) := by decide +kernel
theorem dX12_kindHere_65 : decode cX12_kindHere 65 = .ok (.iconst (-1), 1) := by decide +kernel
theorem dX12_kindHere_66 : decode cX12_kindHere 66 = .ok (.ireturn, 1) := by decide +kernel
def X12_kindHere_b66 (u : gM)  (s0 : Int32) : Option Int32 :=
some s0
def X12_kindHere (u : gM)   : Option Int32 :=
((X12_isWord u 10).bind fun w3 => (if w3 = 0 then ((X12_isWord u 11).bind fun w16 => (if w16 = 0 then ((X12_isWord u 12).bind fun w29 => (if w29 = 0 then ((X12_isWord u 13).bind fun w42 => (if w42 = 0 then ((X12_isWord u 14).bind fun w55 => (if w55 = 0 then (X12_kindHere_b66 u (-1))
          else (X12_kindHere_b66 u 4)))
        else (X12_kindHere_b66 u 3)))
      else (X12_kindHere_b66 u 2)))
    else (X12_kindHere_b66 u 1)))
  else (X12_kindHere_b66 u 0)))
set_option maxRecDepth 20000 in
theorem v_X12_kindHere_b66 {κ : gK} {B : Nat} {u : gM} (X : gX κ B skM cX12_kindHere 1 RX12 (some .int) 6 144)   {s0 : Int32} {w : Int32} (hM : X12_kindHere_b66 u s0 = some w) : gV κ B skM 1 ((some (.int w)), u) 66 [none] [.int s0] u := by
  unfold X12_kindHere_b66 at hM
  cases hM
  exact g_iret X dX12_kindHere_66
set_option maxRecDepth 20000 in
theorem v_X12_kindHere {κ : gK} {B : Nat} {u : gM} (X : gX κ B skM cX12_kindHere 1 RX12 (some .int) 6 144)    {w : Int32} (hM : X12_kindHere u = some w) : gV κ B skM 1 ((some (.int w)), u) 0 [some (.ref (B + 0))] [] u := by
  unfold X12_kindHere at hM
  refine g_aload_n X dX12_kindHere_0 rfl ?_
  refine g_ldcS (i := 10) X rfl dX12_kindHere_1 ?_
  obtain ⟨w3, e3, hM⟩ := bind_of hM
  refine g_callVi X (fun B adK => [.ref (adK 10)]) (s_X12_isWord e3) cvX12_184 cM_0 rfl rfl (Nat.le_of_ble_eq_true rfl) ⟨by decide, by decide⟩ dX12_kindHere_3 ?_
  refine g_if_eq (tgt := 13) X dX12_kindHere_6 (by decide) (fun c6 => ?_) (fun c6 => ?_)
  · rw [if_pos c6] at hM
    refine g_aload_n X dX12_kindHere_13 rfl ?_
    refine g_ldcS (i := 11) X rfl dX12_kindHere_14 ?_
    obtain ⟨w16, e16, hM⟩ := bind_of hM
    refine g_callVi X (fun B adK => [.ref (adK 11)]) (s_X12_isWord e16) cvX12_184 cM_0 rfl rfl (Nat.le_of_ble_eq_true rfl) ⟨by decide, by decide⟩ dX12_kindHere_16 ?_
    refine g_if_eq (tgt := 26) X dX12_kindHere_19 (by decide) (fun c19 => ?_) (fun c19 => ?_)
    · rw [if_pos c19] at hM
      refine g_aload_n X dX12_kindHere_26 rfl ?_
      refine g_ldcS (i := 12) X rfl dX12_kindHere_27 ?_
      obtain ⟨w29, e29, hM⟩ := bind_of hM
      refine g_callVi X (fun B adK => [.ref (adK 12)]) (s_X12_isWord e29) cvX12_184 cM_0 rfl rfl (Nat.le_of_ble_eq_true rfl) ⟨by decide, by decide⟩ dX12_kindHere_29 ?_
      refine g_if_eq (tgt := 39) X dX12_kindHere_32 (by decide) (fun c32 => ?_) (fun c32 => ?_)
      · rw [if_pos c32] at hM
        refine g_aload_n X dX12_kindHere_39 rfl ?_
        refine g_ldcS (i := 13) X rfl dX12_kindHere_40 ?_
        obtain ⟨w42, e42, hM⟩ := bind_of hM
        refine g_callVi X (fun B adK => [.ref (adK 13)]) (s_X12_isWord e42) cvX12_184 cM_0 rfl rfl (Nat.le_of_ble_eq_true rfl) ⟨by decide, by decide⟩ dX12_kindHere_42 ?_
        refine g_if_eq (tgt := 52) X dX12_kindHere_45 (by decide) (fun c45 => ?_) (fun c45 => ?_)
        · rw [if_pos c45] at hM
          refine g_aload_n X dX12_kindHere_52 rfl ?_
          refine g_ldcS (i := 14) X rfl dX12_kindHere_53 ?_
          obtain ⟨w55, e55, hM⟩ := bind_of hM
          refine g_callVi X (fun B adK => [.ref (adK 14)]) (s_X12_isWord e55) cvX12_184 cM_0 rfl rfl (Nat.le_of_ble_eq_true rfl) ⟨by decide, by decide⟩ dX12_kindHere_55 ?_
          refine g_if_eq (tgt := 65) X dX12_kindHere_58 (by decide) (fun c58 => ?_) (fun c58 => ?_)
          · rw [if_pos c58] at hM
            refine g_iconst X (v := (-1)) dX12_kindHere_65 (by decide) ?_
            refine g_mk [false] [none] rfl ?_
            exact v_X12_kindHere_b66 X  hM
          · rw [if_neg c58] at hM
            refine g_iconst X (v := 4) dX12_kindHere_61 (by decide) ?_
            refine g_goto (tgt := 66) X dX12_kindHere_62 (by decide) ?_
            refine g_mk [false] [none] rfl ?_
            exact v_X12_kindHere_b66 X  hM
        · rw [if_neg c45] at hM
          refine g_iconst X (v := 3) dX12_kindHere_48 (by decide) ?_
          refine g_goto (tgt := 66) X dX12_kindHere_49 (by decide) ?_
          refine g_mk [false] [none] rfl ?_
          exact v_X12_kindHere_b66 X  hM
      · rw [if_neg c32] at hM
        refine g_iconst X (v := 2) dX12_kindHere_35 (by decide) ?_
        refine g_goto (tgt := 66) X dX12_kindHere_36 (by decide) ?_
        refine g_mk [false] [none] rfl ?_
        exact v_X12_kindHere_b66 X  hM
    · rw [if_neg c19] at hM
      refine g_iconst X (v := 1) dX12_kindHere_22 (by decide) ?_
      refine g_goto (tgt := 66) X dX12_kindHere_23 (by decide) ?_
      refine g_mk [false] [none] rfl ?_
      exact v_X12_kindHere_b66 X  hM
  · rw [if_neg c6] at hM
    refine g_iconst X (v := 0) dX12_kindHere_9 (by decide) ?_
    refine g_goto (tgt := 66) X dX12_kindHere_10 (by decide) ?_
    refine g_mk [false] [none] rfl ?_
    exact v_X12_kindHere_b66 X  hM
theorem s_X12_kindHere  {u : gM} {w : Int32} (hM : X12_kindHere u = some w) : gMet skM yX12_kindHere cX12_kindHere 1 (some .int) 6 144 (fun B adK => [.ref (B + 0)]) u ((fun _ => some (.int w)), u) := by
  refine gMet.of (by decide) (fun _ _ => Nat.le_of_ble_eq_true rfl) (fun κ B X => ?_)
  have X : gX κ B skM cX12_kindHere 1 RX12 (some .int) 6 144 := X
  refine g_mk [true] [some (.ref (B + 0))] rfl ?_
  exact v_X12_kindHere X  hM

/-! CoverDeskModel.isOwn()Z -/
theorem dX12_isOwn_0 : decode cX12_isOwn 0 = .ok (.aload_n 0, 1) := by decide +kernel
theorem dX12_isOwn_1 : decode cX12_isOwn 1 = .ok (.ldc 196, 2) := by decide +kernel
theorem dX12_isOwn_3 : decode cX12_isOwn 3 = .ok (.invokevirtual 184, 3) := by decide +kernel
theorem dX12_isOwn_6 : decode cX12_isOwn 6 = .ok (.ifCond .ne 146, 3) := by decide +kernel
theorem dX12_isOwn_9 : decode cX12_isOwn 9 = .ok (.aload_n 0, 1) := by decide +kernel
theorem dX12_isOwn_10 : decode cX12_isOwn 10 = .ok (.ldc 198, 2) := by decide +kernel
theorem dX12_isOwn_12 : decode cX12_isOwn 12 = .ok (.invokevirtual 184, 3) := by decide +kernel
theorem dX12_isOwn_15 : decode cX12_isOwn 15 = .ok (.ifCond .ne 137, 3) := by decide +kernel
theorem dX12_isOwn_18 : decode cX12_isOwn 18 = .ok (.aload_n 0, 1) := by decide +kernel
theorem dX12_isOwn_19 : decode cX12_isOwn 19 = .ok (.ldc 200, 2) := by decide +kernel
theorem dX12_isOwn_21 : decode cX12_isOwn 21 = .ok (.invokevirtual 184, 3) := by decide +kernel
theorem dX12_isOwn_24 : decode cX12_isOwn 24 = .ok (.ifCond .ne 128, 3) := by decide +kernel
theorem dX12_isOwn_27 : decode cX12_isOwn 27 = .ok (.aload_n 0, 1) := by decide +kernel
theorem dX12_isOwn_28 : decode cX12_isOwn 28 = .ok (.ldc 202, 2) := by decide +kernel
theorem dX12_isOwn_30 : decode cX12_isOwn 30 = .ok (.invokevirtual 184, 3) := by decide +kernel
theorem dX12_isOwn_33 : decode cX12_isOwn 33 = .ok (.ifCond .ne 119, 3) := by decide +kernel
theorem dX12_isOwn_36 : decode cX12_isOwn 36 = .ok (.aload_n 0, 1) := by decide +kernel
theorem dX12_isOwn_37 : decode cX12_isOwn 37 = .ok (.ldc 204, 2) := by decide +kernel
theorem dX12_isOwn_39 : decode cX12_isOwn 39 = .ok (.invokevirtual 184, 3) := by decide +kernel
theorem dX12_isOwn_42 : decode cX12_isOwn 42 = .ok (.ifCond .ne 110, 3) := by decide +kernel
theorem dX12_isOwn_45 : decode cX12_isOwn 45 = .ok (.aload_n 0, 1) := by decide +kernel
theorem dX12_isOwn_46 : decode cX12_isOwn 46 = .ok (.ldc 206, 2) := by decide +kernel
theorem dX12_isOwn_48 : decode cX12_isOwn 48 = .ok (.invokevirtual 184, 3) := by decide +kernel
theorem dX12_isOwn_51 : decode cX12_isOwn 51 = .ok (.ifCond .ne 101, 3) := by decide +kernel
theorem dX12_isOwn_54 : decode cX12_isOwn 54 = .ok (.aload_n 0, 1) := by decide +kernel
theorem dX12_isOwn_55 : decode cX12_isOwn 55 = .ok (.ldc 208, 2) := by decide +kernel
theorem dX12_isOwn_57 : decode cX12_isOwn 57 = .ok (.invokevirtual 184, 3) := by decide +kernel
theorem dX12_isOwn_60 : decode cX12_isOwn 60 = .ok (.ifCond .ne 92, 3) := by decide +kernel
theorem dX12_isOwn_63 : decode cX12_isOwn 63 = .ok (.aload_n 0, 1) := by decide +kernel
theorem dX12_isOwn_64 : decode cX12_isOwn 64 = .ok (.ldc 210, 2) := by decide +kernel
theorem dX12_isOwn_66 : decode cX12_isOwn 66 = .ok (.invokevirtual 184, 3) := by decide +kernel
theorem dX12_isOwn_69 : decode cX12_isOwn 69 = .ok (.ifCond .ne 83, 3) := by decide +kernel
theorem dX12_isOwn_72 : decode cX12_isOwn 72 = .ok (.aload_n 0, 1) := by decide +kernel
theorem dX12_isOwn_73 : decode cX12_isOwn 73 = .ok (.ldc 211, 2) := by decide +kernel
theorem dX12_isOwn_75 : decode cX12_isOwn 75 = .ok (.invokevirtual 184, 3) := by decide +kernel
theorem dX12_isOwn_78 : decode cX12_isOwn 78 = .ok (.ifCond .ne 74, 3) := by decide +kernel
theorem dX12_isOwn_81 : decode cX12_isOwn 81 = .ok (.aload_n 0, 1) := by decide +kernel
theorem dX12_isOwn_82 : decode cX12_isOwn 82 = .ok (.invokevirtual 213, 3) := by decide +kernel
theorem dX12_isOwn_85 : decode cX12_isOwn 85 = .ok (.iconst (-1), 1) := by decide +kernel
theorem dX12_isOwn_86 : decode cX12_isOwn 86 = .ok (.if_icmp .ne 66, 3) := by decide +kernel
theorem dX12_isOwn_89 : decode cX12_isOwn 89 = .ok (.aload_n 0, 1) := by decide +kernel
theorem dX12_isOwn_90 : decode cX12_isOwn 90 = .ok (.ldc 216, 2) := by decide +kernel
theorem dX12_isOwn_92 : decode cX12_isOwn 92 = .ok (.invokevirtual 184, 3) := by decide +kernel
theorem dX12_isOwn_95 : decode cX12_isOwn 95 = .ok (.ifCond .ne 57, 3) := by decide +kernel
theorem dX12_isOwn_98 : decode cX12_isOwn 98 = .ok (.aload_n 0, 1) := by decide +kernel
theorem dX12_isOwn_99 : decode cX12_isOwn 99 = .ok (.ldc 218, 2) := by decide +kernel
theorem dX12_isOwn_101 : decode cX12_isOwn 101 = .ok (.invokevirtual 184, 3) := by decide +kernel
theorem dX12_isOwn_104 : decode cX12_isOwn 104 = .ok (.ifCond .ne 48, 3) := by decide +kernel
theorem dX12_isOwn_107 : decode cX12_isOwn 107 = .ok (.aload_n 0, 1) := by decide +kernel
theorem dX12_isOwn_108 : decode cX12_isOwn 108 = .ok (.ldc 220, 2) := by decide +kernel
theorem dX12_isOwn_110 : decode cX12_isOwn 110 = .ok (.invokevirtual 184, 3) := by decide +kernel
theorem dX12_isOwn_113 : decode cX12_isOwn 113 = .ok (.ifCond .ne 39, 3) := by decide +kernel
theorem dX12_isOwn_116 : decode cX12_isOwn 116 = .ok (.aload_n 0, 1) := by decide +kernel
theorem dX12_isOwn_117 : decode cX12_isOwn 117 = .ok (.ldc 222, 2) := by decide +kernel
theorem dX12_isOwn_119 : decode cX12_isOwn 119 = .ok (.invokevirtual 184, 3) := by decide +kernel
theorem dX12_isOwn_122 : decode cX12_isOwn 122 = .ok (.ifCond .ne 30, 3) := by decide +kernel
theorem dX12_isOwn_125 : decode cX12_isOwn 125 = .ok (.aload_n 0, 1) := by decide +kernel
theorem dX12_isOwn_126 : decode cX12_isOwn 126 = .ok (.ldc 224, 2) := by decide +kernel
theorem dX12_isOwn_128 : decode cX12_isOwn 128 = .ok (.invokevirtual 184, 3) := by decide +kernel
theorem dX12_isOwn_131 : decode cX12_isOwn 131 = .ok (.ifCond .ne 21, 3) := by decide +kernel
theorem dX12_isOwn_134 : decode cX12_isOwn 134 = .ok (.aload_n 0, 1) := by decide +kernel
theorem dX12_isOwn_135 : decode cX12_isOwn 135 = .ok (.ldc 226, 2) := by decide +kernel
theorem dX12_isOwn_137 : decode cX12_isOwn 137 = .ok (.invokevirtual 184, 3) := by decide +kernel
theorem dX12_isOwn_140 : decode cX12_isOwn 140 = .ok (.ifCond .ne 12, 3) := by decide +kernel
theorem dX12_isOwn_143 : decode cX12_isOwn 143 = .ok (.aload_n 0, 1) := by decide +kernel
theorem dX12_isOwn_144 : decode cX12_isOwn 144 = .ok (.ldc 228, 2) := by decide +kernel
theorem dX12_isOwn_146 : decode cX12_isOwn 146 = .ok (.invokevirtual 184, 3) := by decide +kernel
theorem dX12_isOwn_149 : decode cX12_isOwn 149 = .ok (.ifCond .eq 7, 3) := by decide +kernel
theorem dX12_isOwn_152 : decode cX12_isOwn 152 = .ok (.iconst 1, 1) := by decide +kernel
theorem dX12_isOwn_153 : decode cX12_isOwn 153 = .ok (.goto 4, 3) := by decide +kernel
theorem dX12_isOwn_156 : decode cX12_isOwn 156 = .ok (.iconst 0, 1) := by decide +kernel
theorem dX12_isOwn_157 : decode cX12_isOwn 157 = .ok (.ireturn, 1) := by decide +kernel
def X12_isOwn_b157 (u : gM)  (s0 : Int32) : Option Int32 :=
bI s0
def X12_isOwn_b152 (u : gM)   : Option Int32 :=
(X12_isOwn_b157 u 1)
def X12_isOwn (u : gM)   : Option Int32 :=
((X12_isWord u 1).bind fun w3 => (if w3 = 0 then ((X12_isWord u 2).bind fun w12 => (if w12 = 0 then ((X12_isWord u 3).bind fun w21 => (if w21 = 0 then ((X12_isWord u 4).bind fun w30 => (if w30 = 0 then ((X12_isWord u 5).bind fun w39 => (if w39 = 0 then ((X12_isWord u 6).bind fun w48 => (if w48 = 0 then ((X12_isWord u 7).bind fun w57 => (if w57 = 0 then ((X12_isWord u 8).bind fun w66 => (if w66 = 0 then ((X12_isWord u 9).bind fun w75 => (if w75 = 0 then ((X12_kindHere u).bind fun w82 => (if w82 = (-1) then ((X12_isWord u 15).bind fun w92 => (if w92 = 0 then ((X12_isWord u 16).bind fun w101 => (if w101 = 0 then ((X12_isWord u 17).bind fun w110 => (if w110 = 0 then ((X12_isWord u 18).bind fun w119 => (if w119 = 0 then ((X12_isWord u 19).bind fun w128 => (if w128 = 0 then ((X12_isWord u 20).bind fun w137 => (if w137 = 0 then ((X12_isWord u 21).bind fun w146 => (if w146 = 0 then (X12_isOwn_b157 u 0)
                                  else (X12_isOwn_b152 u)))
                                else (X12_isOwn_b152 u)))
                              else (X12_isOwn_b152 u)))
                            else (X12_isOwn_b152 u)))
                          else (X12_isOwn_b152 u)))
                        else (X12_isOwn_b152 u)))
                      else (X12_isOwn_b152 u)))
                    else (X12_isOwn_b152 u)))
                  else (X12_isOwn_b152 u)))
                else (X12_isOwn_b152 u)))
              else (X12_isOwn_b152 u)))
            else (X12_isOwn_b152 u)))
          else (X12_isOwn_b152 u)))
        else (X12_isOwn_b152 u)))
      else (X12_isOwn_b152 u)))
    else (X12_isOwn_b152 u)))
  else (X12_isOwn_b152 u)))
set_option maxRecDepth 20000 in
theorem v_X12_isOwn_b157 {κ : gK} {B : Nat} {u : gM} (X : gX κ B skM cX12_isOwn 1 RX12 (some .boolean) 7 164)   {s0 : Int32} {w : Int32} (hM : X12_isOwn_b157 u s0 = some w) : gV κ B skM 1 ((some (.int w)), u) 157 [none] [.int s0] u := by
  unfold X12_isOwn_b157 at hM
  obtain ⟨hv, rfl⟩ := bI_of hM
  exact g_zret X hv dX12_isOwn_157
set_option maxRecDepth 20000 in
theorem v_X12_isOwn_b152 {κ : gK} {B : Nat} {u : gM} (X : gX κ B skM cX12_isOwn 1 RX12 (some .boolean) 7 164)    {w : Int32} (hM : X12_isOwn_b152 u = some w) : gV κ B skM 1 ((some (.int w)), u) 152 [none] [] u := by
  unfold X12_isOwn_b152 at hM
  refine g_iconst X (v := 1) dX12_isOwn_152 (by decide) ?_
  refine g_goto (tgt := 157) X dX12_isOwn_153 (by decide) ?_
  refine g_mk [false] [none] rfl ?_
  exact v_X12_isOwn_b157 X  hM
set_option maxRecDepth 20000 in
theorem v_X12_isOwn {κ : gK} {B : Nat} {u : gM} (X : gX κ B skM cX12_isOwn 1 RX12 (some .boolean) 7 164)    {w : Int32} (hM : X12_isOwn u = some w) : gV κ B skM 1 ((some (.int w)), u) 0 [some (.ref (B + 0))] [] u := by
  unfold X12_isOwn at hM
  refine g_aload_n X dX12_isOwn_0 rfl ?_
  refine g_ldcS (i := 1) X rfl dX12_isOwn_1 ?_
  obtain ⟨w3, e3, hM⟩ := bind_of hM
  refine g_callVi X (fun B adK => [.ref (adK 1)]) (s_X12_isWord e3) cvX12_184 cM_0 rfl rfl (Nat.le_of_ble_eq_true rfl) ⟨by decide, by decide⟩ dX12_isOwn_3 ?_
  refine g_if_ne (tgt := 152) X dX12_isOwn_6 (by decide) (fun c6 => ?_) (fun c6 => ?_)
  · rw [if_neg c6] at hM
    refine g_mk [false] [none] rfl ?_
    exact v_X12_isOwn_b152 X  hM
  · rw [if_pos c6] at hM
    refine g_aload_n X dX12_isOwn_9 rfl ?_
    refine g_ldcS (i := 2) X rfl dX12_isOwn_10 ?_
    obtain ⟨w12, e12, hM⟩ := bind_of hM
    refine g_callVi X (fun B adK => [.ref (adK 2)]) (s_X12_isWord e12) cvX12_184 cM_0 rfl rfl (Nat.le_of_ble_eq_true rfl) ⟨by decide, by decide⟩ dX12_isOwn_12 ?_
    refine g_if_ne (tgt := 152) X dX12_isOwn_15 (by decide) (fun c15 => ?_) (fun c15 => ?_)
    · rw [if_neg c15] at hM
      refine g_mk [false] [none] rfl ?_
      exact v_X12_isOwn_b152 X  hM
    · rw [if_pos c15] at hM
      refine g_aload_n X dX12_isOwn_18 rfl ?_
      refine g_ldcS (i := 3) X rfl dX12_isOwn_19 ?_
      obtain ⟨w21, e21, hM⟩ := bind_of hM
      refine g_callVi X (fun B adK => [.ref (adK 3)]) (s_X12_isWord e21) cvX12_184 cM_0 rfl rfl (Nat.le_of_ble_eq_true rfl) ⟨by decide, by decide⟩ dX12_isOwn_21 ?_
      refine g_if_ne (tgt := 152) X dX12_isOwn_24 (by decide) (fun c24 => ?_) (fun c24 => ?_)
      · rw [if_neg c24] at hM
        refine g_mk [false] [none] rfl ?_
        exact v_X12_isOwn_b152 X  hM
      · rw [if_pos c24] at hM
        refine g_aload_n X dX12_isOwn_27 rfl ?_
        refine g_ldcS (i := 4) X rfl dX12_isOwn_28 ?_
        obtain ⟨w30, e30, hM⟩ := bind_of hM
        refine g_callVi X (fun B adK => [.ref (adK 4)]) (s_X12_isWord e30) cvX12_184 cM_0 rfl rfl (Nat.le_of_ble_eq_true rfl) ⟨by decide, by decide⟩ dX12_isOwn_30 ?_
        refine g_if_ne (tgt := 152) X dX12_isOwn_33 (by decide) (fun c33 => ?_) (fun c33 => ?_)
        · rw [if_neg c33] at hM
          refine g_mk [false] [none] rfl ?_
          exact v_X12_isOwn_b152 X  hM
        · rw [if_pos c33] at hM
          refine g_aload_n X dX12_isOwn_36 rfl ?_
          refine g_ldcS (i := 5) X rfl dX12_isOwn_37 ?_
          obtain ⟨w39, e39, hM⟩ := bind_of hM
          refine g_callVi X (fun B adK => [.ref (adK 5)]) (s_X12_isWord e39) cvX12_184 cM_0 rfl rfl (Nat.le_of_ble_eq_true rfl) ⟨by decide, by decide⟩ dX12_isOwn_39 ?_
          refine g_if_ne (tgt := 152) X dX12_isOwn_42 (by decide) (fun c42 => ?_) (fun c42 => ?_)
          · rw [if_neg c42] at hM
            refine g_mk [false] [none] rfl ?_
            exact v_X12_isOwn_b152 X  hM
          · rw [if_pos c42] at hM
            refine g_aload_n X dX12_isOwn_45 rfl ?_
            refine g_ldcS (i := 6) X rfl dX12_isOwn_46 ?_
            obtain ⟨w48, e48, hM⟩ := bind_of hM
            refine g_callVi X (fun B adK => [.ref (adK 6)]) (s_X12_isWord e48) cvX12_184 cM_0 rfl rfl (Nat.le_of_ble_eq_true rfl) ⟨by decide, by decide⟩ dX12_isOwn_48 ?_
            refine g_if_ne (tgt := 152) X dX12_isOwn_51 (by decide) (fun c51 => ?_) (fun c51 => ?_)
            · rw [if_neg c51] at hM
              refine g_mk [false] [none] rfl ?_
              exact v_X12_isOwn_b152 X  hM
            · rw [if_pos c51] at hM
              refine g_aload_n X dX12_isOwn_54 rfl ?_
              refine g_ldcS (i := 7) X rfl dX12_isOwn_55 ?_
              obtain ⟨w57, e57, hM⟩ := bind_of hM
              refine g_callVi X (fun B adK => [.ref (adK 7)]) (s_X12_isWord e57) cvX12_184 cM_0 rfl rfl (Nat.le_of_ble_eq_true rfl) ⟨by decide, by decide⟩ dX12_isOwn_57 ?_
              refine g_if_ne (tgt := 152) X dX12_isOwn_60 (by decide) (fun c60 => ?_) (fun c60 => ?_)
              · rw [if_neg c60] at hM
                refine g_mk [false] [none] rfl ?_
                exact v_X12_isOwn_b152 X  hM
              · rw [if_pos c60] at hM
                refine g_aload_n X dX12_isOwn_63 rfl ?_
                refine g_ldcS (i := 8) X rfl dX12_isOwn_64 ?_
                obtain ⟨w66, e66, hM⟩ := bind_of hM
                refine g_callVi X (fun B adK => [.ref (adK 8)]) (s_X12_isWord e66) cvX12_184 cM_0 rfl rfl (Nat.le_of_ble_eq_true rfl) ⟨by decide, by decide⟩ dX12_isOwn_66 ?_
                refine g_if_ne (tgt := 152) X dX12_isOwn_69 (by decide) (fun c69 => ?_) (fun c69 => ?_)
                · rw [if_neg c69] at hM
                  refine g_mk [false] [none] rfl ?_
                  exact v_X12_isOwn_b152 X  hM
                · rw [if_pos c69] at hM
                  refine g_aload_n X dX12_isOwn_72 rfl ?_
                  refine g_ldcS (i := 9) X rfl dX12_isOwn_73 ?_
                  obtain ⟨w75, e75, hM⟩ := bind_of hM
                  refine g_callVi X (fun B adK => [.ref (adK 9)]) (s_X12_isWord e75) cvX12_184 cM_0 rfl rfl (Nat.le_of_ble_eq_true rfl) ⟨by decide, by decide⟩ dX12_isOwn_75 ?_
                  refine g_if_ne (tgt := 152) X dX12_isOwn_78 (by decide) (fun c78 => ?_) (fun c78 => ?_)
                  · rw [if_neg c78] at hM
                    refine g_mk [false] [none] rfl ?_
                    exact v_X12_isOwn_b152 X  hM
                  · rw [if_pos c78] at hM
                    refine g_aload_n X dX12_isOwn_81 rfl ?_
                    obtain ⟨w82, e82, hM⟩ := bind_of hM
                    refine g_callVi X (fun B adK => []) (s_X12_kindHere e82) cvX12_213 cM_0 rfl rfl (Nat.le_of_ble_eq_true rfl) ⟨by decide, by decide⟩ dX12_isOwn_82 ?_
                    refine g_iconst X (v := (-1)) dX12_isOwn_85 (by decide) ?_
                    refine g_icmp_ne (tgt := 152) X dX12_isOwn_86 (by decide) (fun c86 => ?_) (fun c86 => ?_)
                    · rw [if_neg c86] at hM
                      refine g_mk [false] [none] rfl ?_
                      exact v_X12_isOwn_b152 X  hM
                    · rw [if_pos c86] at hM
                      refine g_aload_n X dX12_isOwn_89 rfl ?_
                      refine g_ldcS (i := 15) X rfl dX12_isOwn_90 ?_
                      obtain ⟨w92, e92, hM⟩ := bind_of hM
                      refine g_callVi X (fun B adK => [.ref (adK 15)]) (s_X12_isWord e92) cvX12_184 cM_0 rfl rfl (Nat.le_of_ble_eq_true rfl) ⟨by decide, by decide⟩ dX12_isOwn_92 ?_
                      refine g_if_ne (tgt := 152) X dX12_isOwn_95 (by decide) (fun c95 => ?_) (fun c95 => ?_)
                      · rw [if_neg c95] at hM
                        refine g_mk [false] [none] rfl ?_
                        exact v_X12_isOwn_b152 X  hM
                      · rw [if_pos c95] at hM
                        refine g_aload_n X dX12_isOwn_98 rfl ?_
                        refine g_ldcS (i := 16) X rfl dX12_isOwn_99 ?_
                        obtain ⟨w101, e101, hM⟩ := bind_of hM
                        refine g_callVi X (fun B adK => [.ref (adK 16)]) (s_X12_isWord e101) cvX12_184 cM_0 rfl rfl (Nat.le_of_ble_eq_true rfl) ⟨by decide, by decide⟩ dX12_isOwn_101 ?_
                        refine g_if_ne (tgt := 152) X dX12_isOwn_104 (by decide) (fun c104 => ?_) (fun c104 => ?_)
                        · rw [if_neg c104] at hM
                          refine g_mk [false] [none] rfl ?_
                          exact v_X12_isOwn_b152 X  hM
                        · rw [if_pos c104] at hM
                          refine g_aload_n X dX12_isOwn_107 rfl ?_
                          refine g_ldcS (i := 17) X rfl dX12_isOwn_108 ?_
                          obtain ⟨w110, e110, hM⟩ := bind_of hM
                          refine g_callVi X (fun B adK => [.ref (adK 17)]) (s_X12_isWord e110) cvX12_184 cM_0 rfl rfl (Nat.le_of_ble_eq_true rfl) ⟨by decide, by decide⟩ dX12_isOwn_110 ?_
                          refine g_if_ne (tgt := 152) X dX12_isOwn_113 (by decide) (fun c113 => ?_) (fun c113 => ?_)
                          · rw [if_neg c113] at hM
                            refine g_mk [false] [none] rfl ?_
                            exact v_X12_isOwn_b152 X  hM
                          · rw [if_pos c113] at hM
                            refine g_aload_n X dX12_isOwn_116 rfl ?_
                            refine g_ldcS (i := 18) X rfl dX12_isOwn_117 ?_
                            obtain ⟨w119, e119, hM⟩ := bind_of hM
                            refine g_callVi X (fun B adK => [.ref (adK 18)]) (s_X12_isWord e119) cvX12_184 cM_0 rfl rfl (Nat.le_of_ble_eq_true rfl) ⟨by decide, by decide⟩ dX12_isOwn_119 ?_
                            refine g_if_ne (tgt := 152) X dX12_isOwn_122 (by decide) (fun c122 => ?_) (fun c122 => ?_)
                            · rw [if_neg c122] at hM
                              refine g_mk [false] [none] rfl ?_
                              exact v_X12_isOwn_b152 X  hM
                            · rw [if_pos c122] at hM
                              refine g_aload_n X dX12_isOwn_125 rfl ?_
                              refine g_ldcS (i := 19) X rfl dX12_isOwn_126 ?_
                              obtain ⟨w128, e128, hM⟩ := bind_of hM
                              refine g_callVi X (fun B adK => [.ref (adK 19)]) (s_X12_isWord e128) cvX12_184 cM_0 rfl rfl (Nat.le_of_ble_eq_true rfl) ⟨by decide, by decide⟩ dX12_isOwn_128 ?_
                              refine g_if_ne (tgt := 152) X dX12_isOwn_131 (by decide) (fun c131 => ?_) (fun c131 => ?_)
                              · rw [if_neg c131] at hM
                                refine g_mk [false] [none] rfl ?_
                                exact v_X12_isOwn_b152 X  hM
                              · rw [if_pos c131] at hM
                                refine g_aload_n X dX12_isOwn_134 rfl ?_
                                refine g_ldcS (i := 20) X rfl dX12_isOwn_135 ?_
                                obtain ⟨w137, e137, hM⟩ := bind_of hM
                                refine g_callVi X (fun B adK => [.ref (adK 20)]) (s_X12_isWord e137) cvX12_184 cM_0 rfl rfl (Nat.le_of_ble_eq_true rfl) ⟨by decide, by decide⟩ dX12_isOwn_137 ?_
                                refine g_if_ne (tgt := 152) X dX12_isOwn_140 (by decide) (fun c140 => ?_) (fun c140 => ?_)
                                · rw [if_neg c140] at hM
                                  refine g_mk [false] [none] rfl ?_
                                  exact v_X12_isOwn_b152 X  hM
                                · rw [if_pos c140] at hM
                                  refine g_aload_n X dX12_isOwn_143 rfl ?_
                                  refine g_ldcS (i := 21) X rfl dX12_isOwn_144 ?_
                                  obtain ⟨w146, e146, hM⟩ := bind_of hM
                                  refine g_callVi X (fun B adK => [.ref (adK 21)]) (s_X12_isWord e146) cvX12_184 cM_0 rfl rfl (Nat.le_of_ble_eq_true rfl) ⟨by decide, by decide⟩ dX12_isOwn_146 ?_
                                  refine g_if_eq (tgt := 156) X dX12_isOwn_149 (by decide) (fun c149 => ?_) (fun c149 => ?_)
                                  · rw [if_pos c149] at hM
                                    refine g_iconst X (v := 0) dX12_isOwn_156 (by decide) ?_
                                    refine g_mk [false] [none] rfl ?_
                                    exact v_X12_isOwn_b157 X  hM
                                  · rw [if_neg c149] at hM
                                    refine g_mk [false] [none] rfl ?_
                                    exact v_X12_isOwn_b152 X  hM
theorem s_X12_isOwn  {u : gM} {w : Int32} (hM : X12_isOwn u = some w) : gMet skM yX12_isOwn cX12_isOwn 1 (some .boolean) 7 164 (fun B adK => [.ref (B + 0)]) u ((fun _ => some (.int w)), u) := by
  refine gMet.of (by decide) (fun _ _ => Nat.le_of_ble_eq_true rfl) (fun κ B X => ?_)
  have X : gX κ B skM cX12_isOwn 1 RX12 (some .boolean) 7 164 := X
  refine g_mk [true] [some (.ref (B + 0))] rfl ?_
  exact v_X12_isOwn X  hM

/-! CoverDeskModel.isName()Z -/
theorem dX12_isName_0 : decode cX12_isName 0 = .ok (.aload_n 0, 1) := by decide +kernel
theorem dX12_isName_1 : decode cX12_isName 1 = .ok (.getfield 149, 3) := by decide +kernel
theorem dX12_isName_4 : decode cX12_isName 4 = .ok (.iconst 1, 1) := by decide +kernel
theorem dX12_isName_5 : decode cX12_isName 5 = .ok (.if_icmp .ne 28, 3) := by decide +kernel
theorem dX12_isName_8 : decode cX12_isName 8 = .ok (.aload_n 0, 1) := by decide +kernel
theorem dX12_isName_9 : decode cX12_isName 9 = .ok (.getfield 129, 3) := by decide +kernel
theorem dX12_isName_12 : decode cX12_isName 12 = .ok (.aload_n 0, 1) := by decide +kernel
theorem dX12_isName_13 : decode cX12_isName 13 = .ok (.getfield 136, 3) := by decide +kernel
theorem dX12_isName_16 : decode cX12_isName 16 = .ok (.isub, 1) := by decide +kernel
theorem dX12_isName_17 : decode cX12_isName 17 = .ok (.bipush 8, 2) := by decide +kernel
theorem dX12_isName_19 : decode cX12_isName 19 = .ok (.if_icmp .gt 14, 3) := by decide +kernel
theorem dX12_isName_22 : decode cX12_isName 22 = .ok (.aload_n 0, 1) := by decide +kernel
theorem dX12_isName_23 : decode cX12_isName 23 = .ok (.invokevirtual 230, 3) := by decide +kernel
theorem dX12_isName_26 : decode cX12_isName 26 = .ok (.ifCond .ne 7, 3) := by decide +kernel
theorem dX12_isName_29 : decode cX12_isName 29 = .ok (.iconst 1, 1) := by decide +kernel
theorem dX12_isName_30 : decode cX12_isName 30 = .ok (.goto 4, 3) := by decide +kernel
theorem dX12_isName_33 : decode cX12_isName 33 = .ok (.iconst 0, 1) := by decide +kernel
theorem dX12_isName_34 : decode cX12_isName 34 = .ok (.ireturn, 1) := by decide +kernel
def X12_isName_b34 (u : gM)  (s0 : Int32) : Option Int32 :=
bI s0
def X12_isName_b33 (u : gM)   : Option Int32 :=
(X12_isName_b34 u 0)
def X12_isName (u : gM)   : Option Int32 :=
(if (u.1 0 25) = 1 then (if 8 < ((u.1 0 27) - (u.1 0 26)) then (X12_isName_b33 u)
    else ((X12_isOwn u).bind fun w23 => (if w23 = 0 then (X12_isName_b34 u 1)
      else (X12_isName_b33 u))))
  else (X12_isName_b33 u))
set_option maxRecDepth 20000 in
theorem v_X12_isName_b34 {κ : gK} {B : Nat} {u : gM} (X : gX κ B skM cX12_isName 1 RX12 (some .boolean) 8 184)   {s0 : Int32} {w : Int32} (hM : X12_isName_b34 u s0 = some w) : gV κ B skM 1 ((some (.int w)), u) 34 [none] [.int s0] u := by
  unfold X12_isName_b34 at hM
  obtain ⟨hv, rfl⟩ := bI_of hM
  exact g_zret X hv dX12_isName_34
set_option maxRecDepth 20000 in
theorem v_X12_isName_b33 {κ : gK} {B : Nat} {u : gM} (X : gX κ B skM cX12_isName 1 RX12 (some .boolean) 8 184)    {w : Int32} (hM : X12_isName_b33 u = some w) : gV κ B skM 1 ((some (.int w)), u) 33 [none] [] u := by
  unfold X12_isName_b33 at hM
  refine g_iconst X (v := 0) dX12_isName_33 (by decide) ?_
  refine g_mk [false] [none] rfl ?_
  exact v_X12_isName_b34 X  hM
set_option maxRecDepth 20000 in
theorem v_X12_isName {κ : gK} {B : Nat} {u : gM} (X : gX κ B skM cX12_isName 1 RX12 (some .boolean) 8 184)    {w : Int32} (hM : X12_isName u = some w) : gV κ B skM 1 ((some (.int w)), u) 0 [some (.ref (B + 0))] [] u := by
  unfold X12_isName at hM
  refine g_aload_n X dX12_isName_0 rfl ?_
  refine g_getI X fX12_149 cM_0 rfl dX12_isName_1 ?_
  refine g_iconst X (v := 1) dX12_isName_4 (by decide) ?_
  refine g_icmp_ne (tgt := 33) X dX12_isName_5 (by decide) (fun c5 => ?_) (fun c5 => ?_)
  · rw [if_neg c5] at hM
    refine g_mk [false] [none] rfl ?_
    exact v_X12_isName_b33 X  hM
  · rw [if_pos c5] at hM
    refine g_aload_n X dX12_isName_8 rfl ?_
    refine g_getI X fX12_129 cM_0 rfl dX12_isName_9 ?_
    refine g_aload_n X dX12_isName_12 rfl ?_
    refine g_getI X fX12_136 cM_0 rfl dX12_isName_13 ?_
    refine g_isub X dX12_isName_16 ?_
    refine g_bipush X (v := 8) dX12_isName_17 (by decide) ?_
    refine g_icmp_gt (tgt := 33) X dX12_isName_19 (by decide) (fun c19 => ?_) (fun c19 => ?_)
    · rw [if_pos c19] at hM
      refine g_mk [false] [none] rfl ?_
      exact v_X12_isName_b33 X  hM
    · rw [if_neg c19] at hM
      refine g_aload_n X dX12_isName_22 rfl ?_
      obtain ⟨w23, e23, hM⟩ := bind_of hM
      refine g_callVi X (fun B adK => []) (s_X12_isOwn e23) cvX12_230 cM_0 rfl rfl (Nat.le_of_ble_eq_true rfl) ⟨by decide, by decide⟩ dX12_isName_23 ?_
      refine g_if_ne (tgt := 33) X dX12_isName_26 (by decide) (fun c26 => ?_) (fun c26 => ?_)
      · rw [if_neg c26] at hM
        refine g_mk [false] [none] rfl ?_
        exact v_X12_isName_b33 X  hM
      · rw [if_pos c26] at hM
        refine g_iconst X (v := 1) dX12_isName_29 (by decide) ?_
        refine g_goto (tgt := 34) X dX12_isName_30 (by decide) ?_
        refine g_mk [false] [none] rfl ?_
        exact v_X12_isName_b34 X  hM
theorem s_X12_isName  {u : gM} {w : Int32} (hM : X12_isName u = some w) : gMet skM yX12_isName cX12_isName 1 (some .boolean) 8 184 (fun B adK => [.ref (B + 0)]) u ((fun _ => some (.int w)), u) := by
  refine gMet.of (by decide) (fun _ _ => Nat.le_of_ble_eq_true rfl) (fun κ B X => ?_)
  have X : gX κ B skM cX12_isName 1 RX12 (some .boolean) 8 184 := X
  refine g_mk [true] [some (.ref (B + 0))] rfl ?_
  exact v_X12_isName X  hM

/-! CoverDeskModel.fails(I)Z -/
theorem dX12_fails_0 : decode cX12_fails 0 = .ok (.aload_n 0, 1) := by decide +kernel
theorem dX12_fails_1 : decode cX12_fails 1 = .ok (.getfield 162, 3) := by decide +kernel
theorem dX12_fails_4 : decode cX12_fails 4 = .ok (.ifCond .ne 16, 3) := by decide +kernel
theorem dX12_fails_7 : decode cX12_fails 7 = .ok (.aload_n 0, 1) := by decide +kernel
theorem dX12_fails_8 : decode cX12_fails 8 = .ok (.iload_n 1, 1) := by decide +kernel
theorem dX12_fails_9 : decode cX12_fails 9 = .ok (.putfield 162, 3) := by decide +kernel
theorem dX12_fails_12 : decode cX12_fails 12 = .ok (.aload_n 0, 1) := by decide +kernel
theorem dX12_fails_13 : decode cX12_fails 13 = .ok (.aload_n 0, 1) := by decide +kernel
theorem dX12_fails_14 : decode cX12_fails 14 = .ok (.getfield 136, 3) := by decide +kernel
theorem dX12_fails_17 : decode cX12_fails 17 = .ok (.putfield 165, 3) := by decide +kernel
theorem dX12_fails_20 : decode cX12_fails 20 = .ok (.iconst 0, 1) := by decide +kernel
theorem dX12_fails_21 : decode cX12_fails 21 = .ok (.ireturn, 1) := by decide +kernel
def X12_fails_b20   (u : gM) : Option (Int32 × gM) :=
some (0, u)
def X12_fails  (x1 : Int32) (u : gM) : Option (Int32 × gM) :=
(if (u.1 0 23) = 0 then (X12_fails_b20 (upI (upI u 0 23 x1) 0 24 ((upI u 0 23 x1).1 0 26)))
  else (X12_fails_b20 u))
set_option maxRecDepth 20000 in
theorem v_X12_fails_b20 {κ : gK} {B : Nat} {u : gM} (X : gX κ B skM cX12_fails 2 RX12 (some .boolean) 0 0)    {w : (Int32 × gM)} (hM : X12_fails_b20 u = some w) : gV κ B skM 2 ((some (.int w.1)), w.2) 20 [none, none] [] u := by
  unfold X12_fails_b20 at hM
  refine g_iconst X (v := 0) dX12_fails_20 (by decide) ?_
  cases hM
  exact g_zret X (Or.inl rfl) dX12_fails_21
set_option maxRecDepth 20000 in
theorem v_X12_fails {κ : gK} {B : Nat} {u : gM} (X : gX κ B skM cX12_fails 2 RX12 (some .boolean) 0 0)   {x1 : Int32} {w : (Int32 × gM)} (hM : X12_fails x1 u = some w) : gV κ B skM 2 ((some (.int w.1)), w.2) 0 [some (.ref (B + 0)), some (.int x1)] [] u := by
  unfold X12_fails at hM
  refine g_aload_n X dX12_fails_0 rfl ?_
  refine g_getI X fX12_162 cM_0 rfl dX12_fails_1 ?_
  refine g_if_ne (tgt := 20) X dX12_fails_4 (by decide) (fun c4 => ?_) (fun c4 => ?_)
  · rw [if_neg c4] at hM
    refine g_mk [false, false] [none, none] rfl ?_
    exact v_X12_fails_b20 X  hM
  · rw [if_pos c4] at hM
    refine g_aload_n X dX12_fails_7 rfl ?_
    refine g_iload_n X dX12_fails_8 rfl ?_
    refine g_putI X fX12_162 gc_X12 gp_X12_23 cM_0 rfl dX12_fails_9 ?_
    refine g_aload_n X dX12_fails_12 rfl ?_
    refine g_aload_n X dX12_fails_13 rfl ?_
    refine g_getI X fX12_136 cM_0 rfl dX12_fails_14 ?_
    refine g_putI X fX12_165 gc_X12 gp_X12_24 cM_0 rfl dX12_fails_17 ?_
    refine g_mk [false, false] [none, none] rfl ?_
    exact v_X12_fails_b20 X  hM
theorem s_X12_fails {x1 : Int32} {u : gM} {w : (Int32 × gM)} (hM : X12_fails x1 u = some w) : gMet skM yX12_fails cX12_fails 2 (some .boolean) 0 0 (fun B adK => [.ref (B + 0), .int x1]) u ((fun _ => some (.int w.1)), w.2) := by
  refine gMet.of (by decide) (fun _ _ => Nat.le_of_ble_eq_true rfl) (fun κ B X => ?_)
  have X : gX κ B skM cX12_fails 2 RX12 (some .boolean) 0 0 := X
  refine g_mk [true, true] [some (.ref (B + 0)), some (.int x1)] rfl ?_
  exact v_X12_fails X  hM
theorem fr_X12_fails_b20 {S : Nat → Prop} {u0 u : gM}     {w : (Int32 × gM)} (hM : X12_fails_b20 u = some w) (h0 : off S u0 u) : off S u0 w.2 := by
  unfold X12_fails_b20 at hM
  cases hM
  exact h0
theorem fr_X12_fails {S : Nat → Prop} {u0 u : gM} {x1 : Int32} (hs0 : S 0)   {w : (Int32 × gM)} (hM : X12_fails x1 u = some w) (h0 : off S u0 u) : off S u0 w.2 := by
  unfold X12_fails at hM
  by_cases c4 : (u.1 0 23) = 0
  · rw [if_pos c4] at hM
    have h0 := off_upI (u := u) (k := 0) (j := 23) (x := x1) hs0 h0
    have h0 := off_upI (u := (upI u 0 23 x1)) (k := 0) (j := 24) (x := ((upI u 0 23 x1).1 0 26)) hs0 h0
    exact fr_X12_fails_b20   hM h0
  · rw [if_neg c4] at hM
    exact fr_X12_fails_b20   hM h0
/-! CoverDeskModel.isThere()Z -/
theorem dX12_isThere_0 : decode cX12_isThere 0 = .ok (.aload_n 0, 1) := by decide +kernel
theorem dX12_isThere_1 : decode cX12_isThere 1 = .ok (.getfield 13, 3) := by decide +kernel
theorem dX12_isThere_4 : decode cX12_isThere 4 = .ok (.bipush 10, 2) := by decide +kernel
theorem dX12_isThere_6 : decode cX12_isThere 6 = .ok (.aload_n 0, 1) := by decide +kernel
theorem dX12_isThere_7 : decode cX12_isThere 7 = .ok (.getfield 7, 3) := by decide +kernel
theorem dX12_isThere_10 : decode cX12_isThere 10 = .ok (.bipush 6, 2) := by decide +kernel
theorem dX12_isThere_12 : decode cX12_isThere 12 = .ok (.iaload, 1) := by decide +kernel
theorem dX12_isThere_13 : decode cX12_isThere 13 = .ok (.aload_n 0, 1) := by decide +kernel
theorem dX12_isThere_14 : decode cX12_isThere 14 = .ok (.getfield 139, 3) := by decide +kernel
theorem dX12_isThere_17 : decode cX12_isThere 17 = .ok (.invokestatic 244, 3) := by decide +kernel
theorem dX12_isThere_20 : decode cX12_isThere 20 = .ok (.iconst (-1), 1) := by decide +kernel
theorem dX12_isThere_21 : decode cX12_isThere 21 = .ok (.if_icmp .ne 51, 3) := by decide +kernel
theorem dX12_isThere_24 : decode cX12_isThere 24 = .ok (.aload_n 0, 1) := by decide +kernel
theorem dX12_isThere_25 : decode cX12_isThere 25 = .ok (.getfield 17, 3) := by decide +kernel
theorem dX12_isThere_28 : decode cX12_isThere 28 = .ok (.bipush 6, 2) := by decide +kernel
theorem dX12_isThere_30 : decode cX12_isThere 30 = .ok (.aload_n 0, 1) := by decide +kernel
theorem dX12_isThere_31 : decode cX12_isThere 31 = .ok (.getfield 7, 3) := by decide +kernel
theorem dX12_isThere_34 : decode cX12_isThere 34 = .ok (.bipush 7, 2) := by decide +kernel
theorem dX12_isThere_36 : decode cX12_isThere 36 = .ok (.iaload, 1) := by decide +kernel
theorem dX12_isThere_37 : decode cX12_isThere 37 = .ok (.aload_n 0, 1) := by decide +kernel
theorem dX12_isThere_38 : decode cX12_isThere 38 = .ok (.getfield 139, 3) := by decide +kernel
theorem dX12_isThere_41 : decode cX12_isThere 41 = .ok (.invokestatic 244, 3) := by decide +kernel
theorem dX12_isThere_44 : decode cX12_isThere 44 = .ok (.iconst (-1), 1) := by decide +kernel
theorem dX12_isThere_45 : decode cX12_isThere 45 = .ok (.if_icmp .ne 27, 3) := by decide +kernel
theorem dX12_isThere_48 : decode cX12_isThere 48 = .ok (.aload_n 0, 1) := by decide +kernel
theorem dX12_isThere_49 : decode cX12_isThere 49 = .ok (.getfield 20, 3) := by decide +kernel
theorem dX12_isThere_52 : decode cX12_isThere 52 = .ok (.bipush 24, 2) := by decide +kernel
theorem dX12_isThere_54 : decode cX12_isThere 54 = .ok (.aload_n 0, 1) := by decide +kernel
theorem dX12_isThere_55 : decode cX12_isThere 55 = .ok (.getfield 7, 3) := by decide +kernel
theorem dX12_isThere_58 : decode cX12_isThere 58 = .ok (.bipush 8, 2) := by decide +kernel
theorem dX12_isThere_60 : decode cX12_isThere 60 = .ok (.iaload, 1) := by decide +kernel
theorem dX12_isThere_61 : decode cX12_isThere 61 = .ok (.aload_n 0, 1) := by decide +kernel
theorem dX12_isThere_62 : decode cX12_isThere 62 = .ok (.getfield 139, 3) := by decide +kernel
theorem dX12_isThere_65 : decode cX12_isThere 65 = .ok (.invokestatic 244, 3) := by decide +kernel
theorem dX12_isThere_68 : decode cX12_isThere 68 = .ok (.iconst (-1), 1) := by decide +kernel
theorem dX12_isThere_69 : decode cX12_isThere 69 = .ok (.if_icmp .eq 7, 3) := by decide +kernel
theorem dX12_isThere_72 : decode cX12_isThere 72 = .ok (.iconst 1, 1) := by decide +kernel
theorem dX12_isThere_73 : decode cX12_isThere 73 = .ok (.goto 4, 3) := by decide +kernel
theorem dX12_isThere_76 : decode cX12_isThere 76 = .ok (.iconst 0, 1) := by decide +kernel
theorem dX12_isThere_77 : decode cX12_isThere 77 = .ok (.ireturn, 1) := by decide +kernel
def X12_isThere_b77 (u : gM)  (s0 : Int32) : Option Int32 :=
bI s0
def X12_isThere_b72 (u : gM)   : Option Int32 :=
(X12_isThere_b77 u 1)
def X12_isThere (u : gM)   : Option Int32 :=
((aI skM u 1 6).bind fun v12 => ((X12_placeIn u 2 10 v12 (u.2 0 28)).bind fun w17 => (if w17 = (-1) then ((aI skM u 1 7).bind fun v36 => ((X12_placeIn u 3 6 v36 (u.2 0 28)).bind fun w41 => (if w41 = (-1) then ((aI skM u 1 8).bind fun v60 => ((X12_placeIn u 4 24 v60 (u.2 0 28)).bind fun w65 => (if w65 = (-1) then (X12_isThere_b77 u 0)
      else (X12_isThere_b72 u))))
    else (X12_isThere_b72 u))))
  else (X12_isThere_b72 u))))
set_option maxRecDepth 20000 in
theorem v_X12_isThere_b77 {κ : gK} {B : Nat} {u : gM} (X : gX κ B skM cX12_isThere 1 RX12 (some .boolean) 1 25)   {s0 : Int32} {w : Int32} (hM : X12_isThere_b77 u s0 = some w) : gV κ B skM 1 ((some (.int w)), u) 77 [none] [.int s0] u := by
  unfold X12_isThere_b77 at hM
  obtain ⟨hv, rfl⟩ := bI_of hM
  exact g_zret X hv dX12_isThere_77
set_option maxRecDepth 20000 in
theorem v_X12_isThere_b72 {κ : gK} {B : Nat} {u : gM} (X : gX κ B skM cX12_isThere 1 RX12 (some .boolean) 1 25)    {w : Int32} (hM : X12_isThere_b72 u = some w) : gV κ B skM 1 ((some (.int w)), u) 72 [none] [] u := by
  unfold X12_isThere_b72 at hM
  refine g_iconst X (v := 1) dX12_isThere_72 (by decide) ?_
  refine g_goto (tgt := 77) X dX12_isThere_73 (by decide) ?_
  refine g_mk [false] [none] rfl ?_
  exact v_X12_isThere_b77 X  hM
set_option maxRecDepth 20000 in
theorem v_X12_isThere {κ : gK} {B : Nat} {u : gM} (X : gX κ B skM cX12_isThere 1 RX12 (some .boolean) 1 25)    {w : Int32} (hM : X12_isThere u = some w) : gV κ B skM 1 ((some (.int w)), u) 0 [some (.ref (B + 0))] [] u := by
  unfold X12_isThere at hM
  refine g_aload_n X dX12_isThere_0 rfl ?_
  refine g_getR X fX12_13 cM_0 rfl dX12_isThere_1 ?_
  refine g_bipush X (v := 10) dX12_isThere_4 (by decide) ?_
  refine g_aload_n X dX12_isThere_6 rfl ?_
  refine g_getR X fX12_7 cM_0 rfl dX12_isThere_7 ?_
  refine g_bipush X (v := 6) dX12_isThere_10 (by decide) ?_
  obtain ⟨v12, e12, hM⟩ := bind_of hM
  refine g_iaload X e12 dX12_isThere_12 ?_
  refine g_aload_n X dX12_isThere_13 rfl ?_
  refine g_getJ X fX12_139 cM_0 rfl dX12_isThere_14 ?_
  obtain ⟨w17, e17, hM⟩ := bind_of hM
  refine g_callSi X (fun B adK => [.ref (B + 2), .int 10, .int v12, .long (u.2 0 28)]) (s_X12_placeIn e17) cvX12_244 rfl rfl (Nat.le_of_ble_eq_true rfl) ⟨by decide, by decide⟩ dX12_isThere_17 ?_
  refine g_iconst X (v := (-1)) dX12_isThere_20 (by decide) ?_
  refine g_icmp_ne (tgt := 72) X dX12_isThere_21 (by decide) (fun c21 => ?_) (fun c21 => ?_)
  · rw [if_neg c21] at hM
    refine g_mk [false] [none] rfl ?_
    exact v_X12_isThere_b72 X  hM
  · rw [if_pos c21] at hM
    refine g_aload_n X dX12_isThere_24 rfl ?_
    refine g_getR X fX12_17 cM_0 rfl dX12_isThere_25 ?_
    refine g_bipush X (v := 6) dX12_isThere_28 (by decide) ?_
    refine g_aload_n X dX12_isThere_30 rfl ?_
    refine g_getR X fX12_7 cM_0 rfl dX12_isThere_31 ?_
    refine g_bipush X (v := 7) dX12_isThere_34 (by decide) ?_
    obtain ⟨v36, e36, hM⟩ := bind_of hM
    refine g_iaload X e36 dX12_isThere_36 ?_
    refine g_aload_n X dX12_isThere_37 rfl ?_
    refine g_getJ X fX12_139 cM_0 rfl dX12_isThere_38 ?_
    obtain ⟨w41, e41, hM⟩ := bind_of hM
    refine g_callSi X (fun B adK => [.ref (B + 3), .int 6, .int v36, .long (u.2 0 28)]) (s_X12_placeIn e41) cvX12_244 rfl rfl (Nat.le_of_ble_eq_true rfl) ⟨by decide, by decide⟩ dX12_isThere_41 ?_
    refine g_iconst X (v := (-1)) dX12_isThere_44 (by decide) ?_
    refine g_icmp_ne (tgt := 72) X dX12_isThere_45 (by decide) (fun c45 => ?_) (fun c45 => ?_)
    · rw [if_neg c45] at hM
      refine g_mk [false] [none] rfl ?_
      exact v_X12_isThere_b72 X  hM
    · rw [if_pos c45] at hM
      refine g_aload_n X dX12_isThere_48 rfl ?_
      refine g_getR X fX12_20 cM_0 rfl dX12_isThere_49 ?_
      refine g_bipush X (v := 24) dX12_isThere_52 (by decide) ?_
      refine g_aload_n X dX12_isThere_54 rfl ?_
      refine g_getR X fX12_7 cM_0 rfl dX12_isThere_55 ?_
      refine g_bipush X (v := 8) dX12_isThere_58 (by decide) ?_
      obtain ⟨v60, e60, hM⟩ := bind_of hM
      refine g_iaload X e60 dX12_isThere_60 ?_
      refine g_aload_n X dX12_isThere_61 rfl ?_
      refine g_getJ X fX12_139 cM_0 rfl dX12_isThere_62 ?_
      obtain ⟨w65, e65, hM⟩ := bind_of hM
      refine g_callSi X (fun B adK => [.ref (B + 4), .int 24, .int v60, .long (u.2 0 28)]) (s_X12_placeIn e65) cvX12_244 rfl rfl (Nat.le_of_ble_eq_true rfl) ⟨by decide, by decide⟩ dX12_isThere_65 ?_
      refine g_iconst X (v := (-1)) dX12_isThere_68 (by decide) ?_
      refine g_icmp_eq (tgt := 76) X dX12_isThere_69 (by decide) (fun c69 => ?_) (fun c69 => ?_)
      · rw [if_pos c69] at hM
        refine g_iconst X (v := 0) dX12_isThere_76 (by decide) ?_
        refine g_mk [false] [none] rfl ?_
        exact v_X12_isThere_b77 X  hM
      · rw [if_neg c69] at hM
        refine g_mk [false] [none] rfl ?_
        exact v_X12_isThere_b72 X  hM
theorem s_X12_isThere  {u : gM} {w : Int32} (hM : X12_isThere u = some w) : gMet skM yX12_isThere cX12_isThere 1 (some .boolean) 1 25 (fun B adK => [.ref (B + 0)]) u ((fun _ => some (.int w)), u) := by
  refine gMet.of (by decide) (fun _ _ => Nat.le_of_ble_eq_true rfl) (fun κ B X => ?_)
  have X : gX κ B skM cX12_isThere 1 RX12 (some .boolean) 1 25 := X
  refine g_mk [true] [some (.ref (B + 0))] rfl ?_
  exact v_X12_isThere X  hM

/-! CoverDeskModel.readNew([JII)Z -/
theorem dX12_readNew_0 : decode cX12_readNew 0 = .ok (.aload_n 0, 1) := by decide +kernel
theorem dX12_readNew_1 : decode cX12_readNew 1 = .ok (.invokevirtual 248, 3) := by decide +kernel
theorem dX12_readNew_4 : decode cX12_readNew 4 = .ok (.ifCond .ne 9, 3) := by decide +kernel
theorem dX12_readNew_7 : decode cX12_readNew 7 = .ok (.aload_n 0, 1) := by decide +kernel
theorem dX12_readNew_8 : decode cX12_readNew 8 = .ok (.iconst 1, 1) := by decide +kernel
theorem dX12_readNew_9 : decode cX12_readNew 9 = .ok (.invokevirtual 234, 3) := by decide +kernel
theorem dX12_readNew_12 : decode cX12_readNew 12 = .ok (.ireturn, 1) := by decide +kernel
theorem dX12_readNew_13 : decode cX12_readNew 13 = .ok (.aload_n 0, 1) := by decide +kernel
theorem dX12_readNew_14 : decode cX12_readNew 14 = .ok (.invokevirtual 251, 3) := by decide +kernel
theorem dX12_readNew_17 : decode cX12_readNew 17 = .ok (.ifCond .eq 9, 3) := by decide +kernel
theorem dX12_readNew_20 : decode cX12_readNew 20 = .ok (.aload_n 0, 1) := by decide +kernel
theorem dX12_readNew_21 : decode cX12_readNew 21 = .ok (.iconst 2, 1) := by decide +kernel
theorem dX12_readNew_22 : decode cX12_readNew 22 = .ok (.invokevirtual 234, 3) := by decide +kernel
theorem dX12_readNew_25 : decode cX12_readNew 25 = .ok (.ireturn, 1) := by decide +kernel
theorem dX12_readNew_26 : decode cX12_readNew 26 = .ok (.aload_n 0, 1) := by decide +kernel
theorem dX12_readNew_27 : decode cX12_readNew 27 = .ok (.getfield 7, 3) := by decide +kernel
theorem dX12_readNew_30 : decode cX12_readNew 30 = .ok (.bipush 6, 2) := by decide +kernel
theorem dX12_readNew_32 : decode cX12_readNew 32 = .ok (.iload_n 2, 1) := by decide +kernel
theorem dX12_readNew_33 : decode cX12_readNew 33 = .ok (.iadd, 1) := by decide +kernel
theorem dX12_readNew_34 : decode cX12_readNew 34 = .ok (.iaload, 1) := by decide +kernel
theorem dX12_readNew_35 : decode cX12_readNew 35 = .ok (.iload_n 3, 1) := by decide +kernel
theorem dX12_readNew_36 : decode cX12_readNew 36 = .ok (.if_icmp .ne 9, 3) := by decide +kernel
theorem dX12_readNew_39 : decode cX12_readNew 39 = .ok (.aload_n 0, 1) := by decide +kernel
theorem dX12_readNew_40 : decode cX12_readNew 40 = .ok (.iconst 5, 1) := by decide +kernel
theorem dX12_readNew_41 : decode cX12_readNew 41 = .ok (.invokevirtual 234, 3) := by decide +kernel
theorem dX12_readNew_44 : decode cX12_readNew 44 = .ok (.ireturn, 1) := by decide +kernel
theorem dX12_readNew_45 : decode cX12_readNew 45 = .ok (.aload_n 1, 1) := by decide +kernel
theorem dX12_readNew_46 : decode cX12_readNew 46 = .ok (.iload_n 3, 1) := by decide +kernel
theorem dX12_readNew_47 : decode cX12_readNew 47 = .ok (.aload_n 0, 1) := by decide +kernel
theorem dX12_readNew_48 : decode cX12_readNew 48 = .ok (.getfield 7, 3) := by decide +kernel
theorem dX12_readNew_51 : decode cX12_readNew 51 = .ok (.bipush 6, 2) := by decide +kernel
theorem dX12_readNew_53 : decode cX12_readNew 53 = .ok (.iload_n 2, 1) := by decide +kernel
theorem dX12_readNew_54 : decode cX12_readNew 54 = .ok (.iadd, 1) := by decide +kernel
theorem dX12_readNew_55 : decode cX12_readNew 55 = .ok (.iaload, 1) := by decide +kernel
theorem dX12_readNew_56 : decode cX12_readNew 56 = .ok (.iadd, 1) := by decide +kernel
theorem dX12_readNew_57 : decode cX12_readNew 57 = .ok (.aload_n 0, 1) := by decide +kernel
theorem dX12_readNew_58 : decode cX12_readNew 58 = .ok (.getfield 139, 3) := by decide +kernel
theorem dX12_readNew_61 : decode cX12_readNew 61 = .ok (.lastore, 1) := by decide +kernel
theorem dX12_readNew_62 : decode cX12_readNew 62 = .ok (.aload_n 0, 1) := by decide +kernel
theorem dX12_readNew_63 : decode cX12_readNew 63 = .ok (.invokevirtual 238, 3) := by decide +kernel
theorem dX12_readNew_66 : decode cX12_readNew 66 = .ok (.iconst 1, 1) := by decide +kernel
theorem dX12_readNew_67 : decode cX12_readNew 67 = .ok (.ireturn, 1) := by decide +kernel
def X12_readNew  (x1 : Nat) (x2 : Int32) (x3 : Int32) (u : gM) : Option (Int32 × gM) :=
((X12_isName u).bind fun w1 => (if w1 = 0 then ((X12_fails 1 u).bind fun w9 => ((bI w9.1).bind fun v12 => some (v12, w9.2)))
  else ((X12_isThere u).bind fun w14 => (if w14 = 0 then ((aI skM u 1 (6 + x2)).bind fun v34 => (if v34 = x3 then ((X12_fails 5 u).bind fun w41 => ((bI w41.1).bind fun v44 => some (v44, w41.2)))
      else ((aI skM u 1 (6 + x2)).bind fun v55 => ((sJ skM u x1 (x3 + v55) (u.2 0 28)).bind fun u61 => ((X12_next u61).bind fun w63 => some (1, w63))))))
    else ((X12_fails 2 u).bind fun w22 => ((bI w22.1).bind fun v25 => some (v25, w22.2)))))))
set_option maxRecDepth 20000 in
theorem v_X12_readNew {κ : gK} {B : Nat} {u : gM} (X : gX κ B skM cX12_readNew 4 RX12 (some .boolean) 9 204)   {x1 : Nat} {x2 : Int32} {x3 : Int32} {w : (Int32 × gM)} (hM : X12_readNew x1 x2 x3 u = some w) : gV κ B skM 4 ((some (.int w.1)), w.2) 0 [some (.ref (B + 0)), some (.ref (B + x1)), some (.int x2), some (.int x3)] [] u := by
  unfold X12_readNew at hM
  refine g_aload_n X dX12_readNew_0 rfl ?_
  obtain ⟨w1, e1, hM⟩ := bind_of hM
  refine g_callVi X (fun B adK => []) (s_X12_isName e1) cvX12_248 cM_0 rfl rfl (Nat.le_of_ble_eq_true rfl) ⟨by decide, by decide⟩ dX12_readNew_1 ?_
  refine g_if_ne (tgt := 13) X dX12_readNew_4 (by decide) (fun c4 => ?_) (fun c4 => ?_)
  · rw [if_neg c4] at hM
    refine g_aload_n X dX12_readNew_13 rfl ?_
    obtain ⟨w14, e14, hM⟩ := bind_of hM
    refine g_callVi X (fun B adK => []) (s_X12_isThere e14) cvX12_251 cM_0 rfl rfl (Nat.le_of_ble_eq_true rfl) ⟨by decide, by decide⟩ dX12_readNew_14 ?_
    refine g_if_eq (tgt := 26) X dX12_readNew_17 (by decide) (fun c17 => ?_) (fun c17 => ?_)
    · rw [if_pos c17] at hM
      refine g_aload_n X dX12_readNew_26 rfl ?_
      refine g_getR X fX12_7 cM_0 rfl dX12_readNew_27 ?_
      refine g_bipush X (v := 6) dX12_readNew_30 (by decide) ?_
      refine g_iload_n X dX12_readNew_32 rfl ?_
      refine g_iadd X dX12_readNew_33 ?_
      obtain ⟨v34, e34, hM⟩ := bind_of hM
      refine g_iaload X e34 dX12_readNew_34 ?_
      refine g_iload_n X dX12_readNew_35 rfl ?_
      refine g_icmp_ne (tgt := 45) X dX12_readNew_36 (by decide) (fun c36 => ?_) (fun c36 => ?_)
      · rw [if_neg c36] at hM
        refine g_aload_n X dX12_readNew_45 rfl ?_
        refine g_iload_n X dX12_readNew_46 rfl ?_
        refine g_aload_n X dX12_readNew_47 rfl ?_
        refine g_getR X fX12_7 cM_0 rfl dX12_readNew_48 ?_
        refine g_bipush X (v := 6) dX12_readNew_51 (by decide) ?_
        refine g_iload_n X dX12_readNew_53 rfl ?_
        refine g_iadd X dX12_readNew_54 ?_
        obtain ⟨v55, e55, hM⟩ := bind_of hM
        refine g_iaload X e55 dX12_readNew_55 ?_
        refine g_iadd X dX12_readNew_56 ?_
        refine g_aload_n X dX12_readNew_57 rfl ?_
        refine g_getJ X fX12_139 cM_0 rfl dX12_readNew_58 ?_
        obtain ⟨u61, e61, hM⟩ := bind_of hM
        refine g_lastore X e61 dX12_readNew_61 ?_
        refine g_aload_n X dX12_readNew_62 rfl ?_
        obtain ⟨w63, e63, hM⟩ := bind_of hM
        refine g_callVv X (fun B adK => []) (s_X12_next e63) cvX12_238 cM_0 rfl rfl (Nat.le_of_ble_eq_true rfl) ⟨by decide, by decide⟩ dX12_readNew_63 ?_
        refine g_iconst X (v := 1) dX12_readNew_66 (by decide) ?_
        cases hM
        exact g_zret X (Or.inr rfl) dX12_readNew_67
      · rw [if_pos c36] at hM
        refine g_aload_n X dX12_readNew_39 rfl ?_
        refine g_iconst X (v := 5) dX12_readNew_40 (by decide) ?_
        obtain ⟨w41, e41, hM⟩ := bind_of hM
        refine g_callVi X (fun B adK => [.int 5]) (s_X12_fails e41) cvX12_234 cM_0 rfl rfl (Nat.le_of_ble_eq_true rfl) ⟨by decide, by decide⟩ dX12_readNew_41 ?_
        obtain ⟨v44, e44, hM⟩ := bind_of hM
        obtain ⟨hv, rfl⟩ := bI_of e44
        cases hM
        exact g_zret X hv dX12_readNew_44
    · rw [if_neg c17] at hM
      refine g_aload_n X dX12_readNew_20 rfl ?_
      refine g_iconst X (v := 2) dX12_readNew_21 (by decide) ?_
      obtain ⟨w22, e22, hM⟩ := bind_of hM
      refine g_callVi X (fun B adK => [.int 2]) (s_X12_fails e22) cvX12_234 cM_0 rfl rfl (Nat.le_of_ble_eq_true rfl) ⟨by decide, by decide⟩ dX12_readNew_22 ?_
      obtain ⟨v25, e25, hM⟩ := bind_of hM
      obtain ⟨hv, rfl⟩ := bI_of e25
      cases hM
      exact g_zret X hv dX12_readNew_25
  · rw [if_pos c4] at hM
    refine g_aload_n X dX12_readNew_7 rfl ?_
    refine g_iconst X (v := 1) dX12_readNew_8 (by decide) ?_
    obtain ⟨w9, e9, hM⟩ := bind_of hM
    refine g_callVi X (fun B adK => [.int 1]) (s_X12_fails e9) cvX12_234 cM_0 rfl rfl (Nat.le_of_ble_eq_true rfl) ⟨by decide, by decide⟩ dX12_readNew_9 ?_
    obtain ⟨v12, e12, hM⟩ := bind_of hM
    obtain ⟨hv, rfl⟩ := bI_of e12
    cases hM
    exact g_zret X hv dX12_readNew_12
theorem s_X12_readNew {x1 : Nat} {x2 : Int32} {x3 : Int32} {u : gM} {w : (Int32 × gM)} (hM : X12_readNew x1 x2 x3 u = some w) : gMet skM yX12_readNew cX12_readNew 4 (some .boolean) 9 204 (fun B adK => [.ref (B + 0), .ref (B + x1), .int x2, .int x3]) u ((fun _ => some (.int w.1)), w.2) := by
  refine gMet.of (by decide) (fun _ _ => Nat.le_of_ble_eq_true rfl) (fun κ B X => ?_)
  have X : gX κ B skM cX12_readNew 4 RX12 (some .boolean) 9 204 := X
  refine g_mk [true, true, true, true] [some (.ref (B + 0)), some (.ref (B + x1)), some (.int x2), some (.int x3)] rfl ?_
  exact v_X12_readNew X  hM
theorem fr_X12_readNew {S : Nat → Prop} {u0 u : gM} {x1 : Nat} {x2 : Int32} {x3 : Int32} (hs0 : S 0) (hs1 : S x1)   {w : (Int32 × gM)} (hM : X12_readNew x1 x2 x3 u = some w) (h0 : off S u0 u) : off S u0 w.2 := by
  unfold X12_readNew at hM
  obtain ⟨w1, e1, hM⟩ := bind_of hM
  by_cases c4 : w1 = 0
  · rw [if_pos c4] at hM
    obtain ⟨w9, e9, hM⟩ := bind_of hM
    have h0 := fr_X12_fails hs0 e9 h0
    obtain ⟨v12, e12, hM⟩ := bind_of hM
    cases hM
    exact h0
  · rw [if_neg c4] at hM
    obtain ⟨w14, e14, hM⟩ := bind_of hM
    by_cases c17 : w14 = 0
    · rw [if_pos c17] at hM
      obtain ⟨v34, e34, hM⟩ := bind_of hM
      by_cases c36 : v34 = x3
      · rw [if_pos c36] at hM
        obtain ⟨w41, e41, hM⟩ := bind_of hM
        have h0 := fr_X12_fails hs0 e41 h0
        obtain ⟨v44, e44, hM⟩ := bind_of hM
        cases hM
        exact h0
      · rw [if_neg c36] at hM
        obtain ⟨v55, e55, hM⟩ := bind_of hM
        obtain ⟨u61, e61, hM⟩ := bind_of hM
        have h0 := off_sJ hs1 e61 h0
        obtain ⟨w63, e63, hM⟩ := bind_of hM
        have h0 := fr_X12_next hs0 e63 h0
        cases hM
        exact h0
    · rw [if_neg c17] at hM
      obtain ⟨w22, e22, hM⟩ := bind_of hM
      have h0 := fr_X12_fails hs0 e22 h0
      obtain ⟨v25, e25, hM⟩ := bind_of hM
      cases hM
      exact h0
/-! CoverDeskModel.readNumber(JJ)Z -/
theorem dX12_readNumber_0 : decode cX12_readNumber 0 = .ok (.aload_n 0, 1) := by decide +kernel
theorem dX12_readNumber_1 : decode cX12_readNumber 1 = .ok (.getfield 149, 3) := by decide +kernel
theorem dX12_readNumber_4 : decode cX12_readNumber 4 = .ok (.iconst 2, 1) := by decide +kernel
theorem dX12_readNumber_5 : decode cX12_readNumber 5 = .ok (.if_icmp .ne 17, 3) := by decide +kernel
theorem dX12_readNumber_8 : decode cX12_readNumber 8 = .ok (.aload_n 0, 1) := by decide +kernel
theorem dX12_readNumber_9 : decode cX12_readNumber 9 = .ok (.getfield 129, 3) := by decide +kernel
theorem dX12_readNumber_12 : decode cX12_readNumber 12 = .ok (.aload_n 0, 1) := by decide +kernel
theorem dX12_readNumber_13 : decode cX12_readNumber 13 = .ok (.getfield 136, 3) := by decide +kernel
theorem dX12_readNumber_16 : decode cX12_readNumber 16 = .ok (.isub, 1) := by decide +kernel
theorem dX12_readNumber_17 : decode cX12_readNumber 17 = .ok (.bipush 9, 2) := by decide +kernel
theorem dX12_readNumber_19 : decode cX12_readNumber 19 = .ok (.if_icmp .le 9, 3) := by decide +kernel
theorem dX12_readNumber_22 : decode cX12_readNumber 22 = .ok (.aload_n 0, 1) := by decide +kernel
theorem dX12_readNumber_23 : decode cX12_readNumber 23 = .ok (.iconst 1, 1) := by decide +kernel
theorem dX12_readNumber_24 : decode cX12_readNumber 24 = .ok (.invokevirtual 234, 3) := by decide +kernel
theorem dX12_readNumber_27 : decode cX12_readNumber 27 = .ok (.ireturn, 1) := by decide +kernel
theorem dX12_readNumber_28 : decode cX12_readNumber 28 = .ok (.aload_n 0, 1) := by decide +kernel
theorem dX12_readNumber_29 : decode cX12_readNumber 29 = .ok (.getfield 143, 3) := by decide +kernel
theorem dX12_readNumber_32 : decode cX12_readNumber 32 = .ok (.lload_n 1, 1) := by decide +kernel
theorem dX12_readNumber_33 : decode cX12_readNumber 33 = .ok (.lload_n 3, 1) := by decide +kernel
theorem dX12_readNumber_34 : decode cX12_readNumber 34 = .ok (.invokestatic 125, 3) := by decide +kernel
theorem dX12_readNumber_37 : decode cX12_readNumber 37 = .ok (.ifCond .ne 9, 3) := by decide +kernel
theorem dX12_readNumber_40 : decode cX12_readNumber 40 = .ok (.aload_n 0, 1) := by decide +kernel
theorem dX12_readNumber_41 : decode cX12_readNumber 41 = .ok (.iconst 4, 1) := by decide +kernel
theorem dX12_readNumber_42 : decode cX12_readNumber 42 = .ok (.invokevirtual 234, 3) := by decide +kernel
theorem dX12_readNumber_45 : decode cX12_readNumber 45 = .ok (.ireturn, 1) := by decide +kernel
theorem dX12_readNumber_46 : decode cX12_readNumber 46 = .ok (.aload_n 0, 1) := by decide +kernel
theorem dX12_readNumber_47 : decode cX12_readNumber 47 = .ok (.aload_n 0, 1) := by decide +kernel
theorem dX12_readNumber_48 : decode cX12_readNumber 48 = .ok (.getfield 143, 3) := by decide +kernel
theorem dX12_readNumber_51 : decode cX12_readNumber 51 = .ok (.l2i, 1) := by decide +kernel
theorem dX12_readNumber_52 : decode cX12_readNumber 52 = .ok (.putfield 241, 3) := by decide +kernel
theorem dX12_readNumber_55 : decode cX12_readNumber 55 = .ok (.aload_n 0, 1) := by decide +kernel
theorem dX12_readNumber_56 : decode cX12_readNumber 56 = .ok (.invokevirtual 238, 3) := by decide +kernel
theorem dX12_readNumber_59 : decode cX12_readNumber 59 = .ok (.iconst 1, 1) := by decide +kernel
theorem dX12_readNumber_60 : decode cX12_readNumber 60 = .ok (.ireturn, 1) := by decide +kernel
def X12_readNumber_b22   (u : gM) : Option (Int32 × gM) :=
((X12_fails 1 u).bind fun w24 => ((bI w24.1).bind fun v27 => some (v27, w24.2)))
def X12_readNumber  (x1 : Int64) (x3 : Int64) (u : gM) : Option (Int32 × gM) :=
(if (u.1 0 25) = 2 then (if ((u.1 0 27) - (u.1 0 26)) ≤ 9 then ((X12_isIn u (u.2 0 29) x1 x3).bind fun w34 => (if w34 = 0 then ((X12_fails 4 u).bind fun w42 => ((bI w42.1).bind fun v45 => some (v45, w42.2)))
      else ((X12_next (upI u 0 31 (u.2 0 29).toInt32)).bind fun w56 => some (1, w56))))
    else (X12_readNumber_b22 u))
  else (X12_readNumber_b22 u))
set_option maxRecDepth 20000 in
theorem v_X12_readNumber_b22 {κ : gK} {B : Nat} {u : gM} (X : gX κ B skM cX12_readNumber 5 RX12 (some .boolean) 2 46)    {w : (Int32 × gM)} (hM : X12_readNumber_b22 u = some w) : gV κ B skM 5 ((some (.int w.1)), w.2) 22 [some (.ref (B + 0)), none, none, none, none] [] u := by
  unfold X12_readNumber_b22 at hM
  refine g_aload_n X dX12_readNumber_22 rfl ?_
  refine g_iconst X (v := 1) dX12_readNumber_23 (by decide) ?_
  obtain ⟨w24, e24, hM⟩ := bind_of hM
  refine g_callVi X (fun B adK => [.int 1]) (s_X12_fails e24) cvX12_234 cM_0 rfl rfl (Nat.le_of_ble_eq_true rfl) ⟨by decide, by decide⟩ dX12_readNumber_24 ?_
  obtain ⟨v27, e27, hM⟩ := bind_of hM
  obtain ⟨hv, rfl⟩ := bI_of e27
  cases hM
  exact g_zret X hv dX12_readNumber_27
set_option maxRecDepth 20000 in
theorem v_X12_readNumber {κ : gK} {B : Nat} {u : gM} (X : gX κ B skM cX12_readNumber 5 RX12 (some .boolean) 2 46)   {x1 : Int64} {x3 : Int64} {w : (Int32 × gM)} (hM : X12_readNumber x1 x3 u = some w) : gV κ B skM 5 ((some (.int w.1)), w.2) 0 [some (.ref (B + 0)), some (.long x1), none, some (.long x3), none] [] u := by
  unfold X12_readNumber at hM
  refine g_aload_n X dX12_readNumber_0 rfl ?_
  refine g_getI X fX12_149 cM_0 rfl dX12_readNumber_1 ?_
  refine g_iconst X (v := 2) dX12_readNumber_4 (by decide) ?_
  refine g_icmp_ne (tgt := 22) X dX12_readNumber_5 (by decide) (fun c5 => ?_) (fun c5 => ?_)
  · rw [if_neg c5] at hM
    refine g_mk [true, false, false, false, false] [some (.ref (B + 0)), none, none, none, none] rfl ?_
    exact v_X12_readNumber_b22 X  hM
  · rw [if_pos c5] at hM
    refine g_aload_n X dX12_readNumber_8 rfl ?_
    refine g_getI X fX12_129 cM_0 rfl dX12_readNumber_9 ?_
    refine g_aload_n X dX12_readNumber_12 rfl ?_
    refine g_getI X fX12_136 cM_0 rfl dX12_readNumber_13 ?_
    refine g_isub X dX12_readNumber_16 ?_
    refine g_bipush X (v := 9) dX12_readNumber_17 (by decide) ?_
    refine g_icmp_le (tgt := 28) X dX12_readNumber_19 (by decide) (fun c19 => ?_) (fun c19 => ?_)
    · rw [if_pos c19] at hM
      refine g_aload_n X dX12_readNumber_28 rfl ?_
      refine g_getJ X fX12_143 cM_0 rfl dX12_readNumber_29 ?_
      refine g_lload_n X dX12_readNumber_32 rfl ?_
      refine g_lload_n X dX12_readNumber_33 rfl ?_
      obtain ⟨w34, e34, hM⟩ := bind_of hM
      refine g_callSi X (fun B adK => [.long (u.2 0 29), .long x1, .long x3]) (s_X12_isIn e34) cvX12_125 rfl rfl (Nat.le_of_ble_eq_true rfl) ⟨by decide, by decide⟩ dX12_readNumber_34 ?_
      refine g_if_ne (tgt := 46) X dX12_readNumber_37 (by decide) (fun c37 => ?_) (fun c37 => ?_)
      · rw [if_neg c37] at hM
        refine g_aload_n X dX12_readNumber_46 rfl ?_
        refine g_aload_n X dX12_readNumber_47 rfl ?_
        refine g_getJ X fX12_143 cM_0 rfl dX12_readNumber_48 ?_
        refine g_l2i X dX12_readNumber_51 ?_
        refine g_putI X fX12_241 gc_X12 gp_X12_31 cM_0 rfl dX12_readNumber_52 ?_
        refine g_aload_n X dX12_readNumber_55 rfl ?_
        obtain ⟨w56, e56, hM⟩ := bind_of hM
        refine g_callVv X (fun B adK => []) (s_X12_next e56) cvX12_238 cM_0 rfl rfl (Nat.le_of_ble_eq_true rfl) ⟨by decide, by decide⟩ dX12_readNumber_56 ?_
        refine g_iconst X (v := 1) dX12_readNumber_59 (by decide) ?_
        cases hM
        exact g_zret X (Or.inr rfl) dX12_readNumber_60
      · rw [if_pos c37] at hM
        refine g_aload_n X dX12_readNumber_40 rfl ?_
        refine g_iconst X (v := 4) dX12_readNumber_41 (by decide) ?_
        obtain ⟨w42, e42, hM⟩ := bind_of hM
        refine g_callVi X (fun B adK => [.int 4]) (s_X12_fails e42) cvX12_234 cM_0 rfl rfl (Nat.le_of_ble_eq_true rfl) ⟨by decide, by decide⟩ dX12_readNumber_42 ?_
        obtain ⟨v45, e45, hM⟩ := bind_of hM
        obtain ⟨hv, rfl⟩ := bI_of e45
        cases hM
        exact g_zret X hv dX12_readNumber_45
    · rw [if_neg c19] at hM
      refine g_mk [true, false, false, false, false] [some (.ref (B + 0)), none, none, none, none] rfl ?_
      exact v_X12_readNumber_b22 X  hM
theorem s_X12_readNumber {x1 : Int64} {x3 : Int64} {u : gM} {w : (Int32 × gM)} (hM : X12_readNumber x1 x3 u = some w) : gMet skM yX12_readNumber cX12_readNumber 5 (some .boolean) 2 46 (fun B adK => [.ref (B + 0), .long x1, .long x3]) u ((fun _ => some (.int w.1)), w.2) := by
  refine gMet.of (by decide) (fun _ _ => Nat.le_of_ble_eq_true rfl) (fun κ B X => ?_)
  have X : gX κ B skM cX12_readNumber 5 RX12 (some .boolean) 2 46 := X
  refine g_mk [true, true, false, true, false] [some (.ref (B + 0)), some (.long x1), none, some (.long x3), none] rfl ?_
  exact v_X12_readNumber X  hM
theorem fr_X12_readNumber_b22 {S : Nat → Prop} {u0 u : gM}  (hs0 : S 0)   {w : (Int32 × gM)} (hM : X12_readNumber_b22 u = some w) (h0 : off S u0 u) : off S u0 w.2 := by
  unfold X12_readNumber_b22 at hM
  obtain ⟨w24, e24, hM⟩ := bind_of hM
  have h0 := fr_X12_fails hs0 e24 h0
  obtain ⟨v27, e27, hM⟩ := bind_of hM
  cases hM
  exact h0
theorem fr_X12_readNumber {S : Nat → Prop} {u0 u : gM} {x1 : Int64} {x3 : Int64} (hs0 : S 0)   {w : (Int32 × gM)} (hM : X12_readNumber x1 x3 u = some w) (h0 : off S u0 u) : off S u0 w.2 := by
  unfold X12_readNumber at hM
  by_cases c5 : (u.1 0 25) = 2
  · rw [if_pos c5] at hM
    by_cases c19 : ((u.1 0 27) - (u.1 0 26)) ≤ 9
    · rw [if_pos c19] at hM
      obtain ⟨w34, e34, hM⟩ := bind_of hM
      by_cases c37 : w34 = 0
      · rw [if_pos c37] at hM
        obtain ⟨w42, e42, hM⟩ := bind_of hM
        have h0 := fr_X12_fails hs0 e42 h0
        obtain ⟨v45, e45, hM⟩ := bind_of hM
        cases hM
        exact h0
      · rw [if_neg c37] at hM
        have h0 := off_upI (u := u) (k := 0) (j := 31) (x := (u.2 0 29).toInt32) hs0 h0
        obtain ⟨w56, e56, hM⟩ := bind_of hM
        have h0 := fr_X12_next hs0 e56 h0
        cases hM
        exact h0
    · rw [if_neg c19] at hM
      exact fr_X12_readNumber_b22 hs0  hM h0
  · rw [if_neg c5] at hM
    exact fr_X12_readNumber_b22 hs0  hM h0
/-! CoverDeskModel.readOf([JII)Z -/
theorem dX12_readOf_0 : decode cX12_readOf 0 = .ok (.aload_n 0, 1) := by decide +kernel
theorem dX12_readOf_1 : decode cX12_readOf 1 = .ok (.invokevirtual 248, 3) := by decide +kernel
theorem dX12_readOf_4 : decode cX12_readOf 4 = .ok (.ifCond .ne 9, 3) := by decide +kernel
theorem dX12_readOf_7 : decode cX12_readOf 7 = .ok (.aload_n 0, 1) := by decide +kernel
theorem dX12_readOf_8 : decode cX12_readOf 8 = .ok (.iconst 1, 1) := by decide +kernel
theorem dX12_readOf_9 : decode cX12_readOf 9 = .ok (.invokevirtual 234, 3) := by decide +kernel
theorem dX12_readOf_12 : decode cX12_readOf 12 = .ok (.ireturn, 1) := by decide +kernel
theorem dX12_readOf_13 : decode cX12_readOf 13 = .ok (.aload_n 0, 1) := by decide +kernel
theorem dX12_readOf_14 : decode cX12_readOf 14 = .ok (.aload_n 1, 1) := by decide +kernel
theorem dX12_readOf_15 : decode cX12_readOf 15 = .ok (.iload_n 3, 1) := by decide +kernel
theorem dX12_readOf_16 : decode cX12_readOf 16 = .ok (.aload_n 0, 1) := by decide +kernel
theorem dX12_readOf_17 : decode cX12_readOf 17 = .ok (.getfield 7, 3) := by decide +kernel
theorem dX12_readOf_20 : decode cX12_readOf 20 = .ok (.bipush 6, 2) := by decide +kernel
theorem dX12_readOf_22 : decode cX12_readOf 22 = .ok (.iload_n 2, 1) := by decide +kernel
theorem dX12_readOf_23 : decode cX12_readOf 23 = .ok (.iadd, 1) := by decide +kernel
theorem dX12_readOf_24 : decode cX12_readOf 24 = .ok (.iaload, 1) := by decide +kernel
theorem dX12_readOf_25 : decode cX12_readOf 25 = .ok (.aload_n 0, 1) := by decide +kernel
theorem dX12_readOf_26 : decode cX12_readOf 26 = .ok (.getfield 139, 3) := by decide +kernel
theorem dX12_readOf_29 : decode cX12_readOf 29 = .ok (.invokestatic 244, 3) := by decide +kernel
theorem dX12_readOf_32 : decode cX12_readOf 32 = .ok (.putfield 241, 3) := by decide +kernel
theorem dX12_readOf_35 : decode cX12_readOf 35 = .ok (.aload_n 0, 1) := by decide +kernel
theorem dX12_readOf_36 : decode cX12_readOf 36 = .ok (.getfield 241, 3) := by decide +kernel
theorem dX12_readOf_39 : decode cX12_readOf 39 = .ok (.iconst (-1), 1) := by decide +kernel
theorem dX12_readOf_40 : decode cX12_readOf 40 = .ok (.if_icmp .ne 9, 3) := by decide +kernel
theorem dX12_readOf_43 : decode cX12_readOf 43 = .ok (.aload_n 0, 1) := by decide +kernel
theorem dX12_readOf_44 : decode cX12_readOf 44 = .ok (.iconst 3, 1) := by decide +kernel
theorem dX12_readOf_45 : decode cX12_readOf 45 = .ok (.invokevirtual 234, 3) := by decide +kernel
theorem dX12_readOf_48 : decode cX12_readOf 48 = .ok (.ireturn, 1) := by decide +kernel
theorem dX12_readOf_49 : decode cX12_readOf 49 = .ok (.aload_n 0, 1) := by decide +kernel
theorem dX12_readOf_50 : decode cX12_readOf 50 = .ok (.invokevirtual 238, 3) := by decide +kernel
theorem dX12_readOf_53 : decode cX12_readOf 53 = .ok (.iconst 1, 1) := by decide +kernel
theorem dX12_readOf_54 : decode cX12_readOf 54 = .ok (.ireturn, 1) := by decide +kernel
def X12_readOf  (x1 : Nat) (x2 : Int32) (x3 : Int32) (u : gM) : Option (Int32 × gM) :=
((X12_isName u).bind fun w1 => (if w1 = 0 then ((X12_fails 1 u).bind fun w9 => ((bI w9.1).bind fun v12 => some (v12, w9.2)))
  else ((aI skM u 1 (6 + x2)).bind fun v24 => ((X12_placeIn u x1 x3 v24 (u.2 0 28)).bind fun w29 => (if ((upI u 0 31 w29).1 0 31) = (-1) then ((X12_fails 3 (upI u 0 31 w29)).bind fun w45 => ((bI w45.1).bind fun v48 => some (v48, w45.2)))
    else ((X12_next (upI u 0 31 w29)).bind fun w50 => some (1, w50)))))))
set_option maxRecDepth 20000 in
theorem v_X12_readOf {κ : gK} {B : Nat} {u : gM} (X : gX κ B skM cX12_readOf 4 RX12 (some .boolean) 9 204)   {x1 : Nat} {x2 : Int32} {x3 : Int32} {w : (Int32 × gM)} (hM : X12_readOf x1 x2 x3 u = some w) : gV κ B skM 4 ((some (.int w.1)), w.2) 0 [some (.ref (B + 0)), some (.ref (B + x1)), some (.int x2), some (.int x3)] [] u := by
  unfold X12_readOf at hM
  refine g_aload_n X dX12_readOf_0 rfl ?_
  obtain ⟨w1, e1, hM⟩ := bind_of hM
  refine g_callVi X (fun B adK => []) (s_X12_isName e1) cvX12_248 cM_0 rfl rfl (Nat.le_of_ble_eq_true rfl) ⟨by decide, by decide⟩ dX12_readOf_1 ?_
  refine g_if_ne (tgt := 13) X dX12_readOf_4 (by decide) (fun c4 => ?_) (fun c4 => ?_)
  · rw [if_neg c4] at hM
    refine g_aload_n X dX12_readOf_13 rfl ?_
    refine g_aload_n X dX12_readOf_14 rfl ?_
    refine g_iload_n X dX12_readOf_15 rfl ?_
    refine g_aload_n X dX12_readOf_16 rfl ?_
    refine g_getR X fX12_7 cM_0 rfl dX12_readOf_17 ?_
    refine g_bipush X (v := 6) dX12_readOf_20 (by decide) ?_
    refine g_iload_n X dX12_readOf_22 rfl ?_
    refine g_iadd X dX12_readOf_23 ?_
    obtain ⟨v24, e24, hM⟩ := bind_of hM
    refine g_iaload X e24 dX12_readOf_24 ?_
    refine g_aload_n X dX12_readOf_25 rfl ?_
    refine g_getJ X fX12_139 cM_0 rfl dX12_readOf_26 ?_
    obtain ⟨w29, e29, hM⟩ := bind_of hM
    refine g_callSi X (fun B adK => [.ref (B + x1), .int x3, .int v24, .long (u.2 0 28)]) (s_X12_placeIn e29) cvX12_244 rfl rfl (Nat.le_of_ble_eq_true rfl) ⟨by decide, by decide⟩ dX12_readOf_29 ?_
    refine g_putI X fX12_241 gc_X12 gp_X12_31 cM_0 rfl dX12_readOf_32 ?_
    refine g_aload_n X dX12_readOf_35 rfl ?_
    refine g_getI X fX12_241 cM_0 rfl dX12_readOf_36 ?_
    refine g_iconst X (v := (-1)) dX12_readOf_39 (by decide) ?_
    refine g_icmp_ne (tgt := 49) X dX12_readOf_40 (by decide) (fun c40 => ?_) (fun c40 => ?_)
    · rw [if_neg c40] at hM
      refine g_aload_n X dX12_readOf_49 rfl ?_
      obtain ⟨w50, e50, hM⟩ := bind_of hM
      refine g_callVv X (fun B adK => []) (s_X12_next e50) cvX12_238 cM_0 rfl rfl (Nat.le_of_ble_eq_true rfl) ⟨by decide, by decide⟩ dX12_readOf_50 ?_
      refine g_iconst X (v := 1) dX12_readOf_53 (by decide) ?_
      cases hM
      exact g_zret X (Or.inr rfl) dX12_readOf_54
    · rw [if_pos c40] at hM
      refine g_aload_n X dX12_readOf_43 rfl ?_
      refine g_iconst X (v := 3) dX12_readOf_44 (by decide) ?_
      obtain ⟨w45, e45, hM⟩ := bind_of hM
      refine g_callVi X (fun B adK => [.int 3]) (s_X12_fails e45) cvX12_234 cM_0 rfl rfl (Nat.le_of_ble_eq_true rfl) ⟨by decide, by decide⟩ dX12_readOf_45 ?_
      obtain ⟨v48, e48, hM⟩ := bind_of hM
      obtain ⟨hv, rfl⟩ := bI_of e48
      cases hM
      exact g_zret X hv dX12_readOf_48
  · rw [if_pos c4] at hM
    refine g_aload_n X dX12_readOf_7 rfl ?_
    refine g_iconst X (v := 1) dX12_readOf_8 (by decide) ?_
    obtain ⟨w9, e9, hM⟩ := bind_of hM
    refine g_callVi X (fun B adK => [.int 1]) (s_X12_fails e9) cvX12_234 cM_0 rfl rfl (Nat.le_of_ble_eq_true rfl) ⟨by decide, by decide⟩ dX12_readOf_9 ?_
    obtain ⟨v12, e12, hM⟩ := bind_of hM
    obtain ⟨hv, rfl⟩ := bI_of e12
    cases hM
    exact g_zret X hv dX12_readOf_12
theorem s_X12_readOf {x1 : Nat} {x2 : Int32} {x3 : Int32} {u : gM} {w : (Int32 × gM)} (hM : X12_readOf x1 x2 x3 u = some w) : gMet skM yX12_readOf cX12_readOf 4 (some .boolean) 9 204 (fun B adK => [.ref (B + 0), .ref (B + x1), .int x2, .int x3]) u ((fun _ => some (.int w.1)), w.2) := by
  refine gMet.of (by decide) (fun _ _ => Nat.le_of_ble_eq_true rfl) (fun κ B X => ?_)
  have X : gX κ B skM cX12_readOf 4 RX12 (some .boolean) 9 204 := X
  refine g_mk [true, true, true, true] [some (.ref (B + 0)), some (.ref (B + x1)), some (.int x2), some (.int x3)] rfl ?_
  exact v_X12_readOf X  hM
theorem fr_X12_readOf {S : Nat → Prop} {u0 u : gM} {x1 : Nat} {x2 : Int32} {x3 : Int32} (hs0 : S 0)   {w : (Int32 × gM)} (hM : X12_readOf x1 x2 x3 u = some w) (h0 : off S u0 u) : off S u0 w.2 := by
  unfold X12_readOf at hM
  obtain ⟨w1, e1, hM⟩ := bind_of hM
  by_cases c4 : w1 = 0
  · rw [if_pos c4] at hM
    obtain ⟨w9, e9, hM⟩ := bind_of hM
    have h0 := fr_X12_fails hs0 e9 h0
    obtain ⟨v12, e12, hM⟩ := bind_of hM
    cases hM
    exact h0
  · rw [if_neg c4] at hM
    obtain ⟨v24, e24, hM⟩ := bind_of hM
    obtain ⟨w29, e29, hM⟩ := bind_of hM
    have h0 := off_upI (u := u) (k := 0) (j := 31) (x := w29) hs0 h0
    by_cases c40 : ((upI u 0 31 w29).1 0 31) = (-1)
    · rw [if_pos c40] at hM
      obtain ⟨w45, e45, hM⟩ := bind_of hM
      have h0 := fr_X12_fails hs0 e45 h0
      obtain ⟨v48, e48, hM⟩ := bind_of hM
      cases hM
      exact h0
    · rw [if_neg c40] at hM
      obtain ⟨w50, e50, hM⟩ := bind_of hM
      have h0 := fr_X12_next hs0 e50 h0
      cases hM
      exact h0
/-! CoverDeskModel.takes(Ljava/lang/String;)Z -/
theorem dX12_takes_0 : decode cX12_takes 0 = .ok (.aload_n 0, 1) := by decide +kernel
theorem dX12_takes_1 : decode cX12_takes 1 = .ok (.aload_n 1, 1) := by decide +kernel
theorem dX12_takes_2 : decode cX12_takes 2 = .ok (.invokevirtual 184, 3) := by decide +kernel
theorem dX12_takes_5 : decode cX12_takes 5 = .ok (.ifCond .ne 9, 3) := by decide +kernel
theorem dX12_takes_8 : decode cX12_takes 8 = .ok (.aload_n 0, 1) := by decide +kernel
theorem dX12_takes_9 : decode cX12_takes 9 = .ok (.iconst 1, 1) := by decide +kernel
theorem dX12_takes_10 : decode cX12_takes 10 = .ok (.invokevirtual 234, 3) := by decide +kernel
theorem dX12_takes_13 : decode cX12_takes 13 = .ok (.ireturn, 1) := by decide +kernel
theorem dX12_takes_14 : decode cX12_takes 14 = .ok (.aload_n 0, 1) := by decide +kernel
theorem dX12_takes_15 : decode cX12_takes 15 = .ok (.invokevirtual 238, 3) := by decide +kernel
theorem dX12_takes_18 : decode cX12_takes 18 = .ok (.iconst 1, 1) := by decide +kernel
theorem dX12_takes_19 : decode cX12_takes 19 = .ok (.ireturn, 1) := by decide +kernel
def X12_takes  (x1 : Nat) (u : gM) : Option (Int32 × gM) :=
((X12_isWord u x1).bind fun w2 => (if w2 = 0 then ((X12_fails 1 u).bind fun w10 => ((bI w10.1).bind fun v13 => some (v13, w10.2)))
  else ((X12_next u).bind fun w15 => some (1, w15))))
set_option maxRecDepth 20000 in
theorem v_X12_takes {κ : gK} {B : Nat} {u : gM} (X : gX κ B skM cX12_takes 2 RX12 (some .boolean) 6 144)   {x1 : Nat} {w : (Int32 × gM)} (hM : X12_takes x1 u = some w) : gV κ B skM 2 ((some (.int w.1)), w.2) 0 [some (.ref (B + 0)), some (.ref (gAd κ x1))] [] u := by
  unfold X12_takes at hM
  refine g_aload_n X dX12_takes_0 rfl ?_
  refine g_aload_n X dX12_takes_1 rfl ?_
  obtain ⟨w2, e2, hM⟩ := bind_of hM
  refine g_callVi X (fun B adK => [.ref (adK x1)]) (s_X12_isWord e2) cvX12_184 cM_0 rfl rfl (Nat.le_of_ble_eq_true rfl) ⟨by decide, by decide⟩ dX12_takes_2 ?_
  refine g_if_ne (tgt := 14) X dX12_takes_5 (by decide) (fun c5 => ?_) (fun c5 => ?_)
  · rw [if_neg c5] at hM
    refine g_aload_n X dX12_takes_14 rfl ?_
    obtain ⟨w15, e15, hM⟩ := bind_of hM
    refine g_callVv X (fun B adK => []) (s_X12_next e15) cvX12_238 cM_0 rfl rfl (Nat.le_of_ble_eq_true rfl) ⟨by decide, by decide⟩ dX12_takes_15 ?_
    refine g_iconst X (v := 1) dX12_takes_18 (by decide) ?_
    cases hM
    exact g_zret X (Or.inr rfl) dX12_takes_19
  · rw [if_pos c5] at hM
    refine g_aload_n X dX12_takes_8 rfl ?_
    refine g_iconst X (v := 1) dX12_takes_9 (by decide) ?_
    obtain ⟨w10, e10, hM⟩ := bind_of hM
    refine g_callVi X (fun B adK => [.int 1]) (s_X12_fails e10) cvX12_234 cM_0 rfl rfl (Nat.le_of_ble_eq_true rfl) ⟨by decide, by decide⟩ dX12_takes_10 ?_
    obtain ⟨v13, e13, hM⟩ := bind_of hM
    obtain ⟨hv, rfl⟩ := bI_of e13
    cases hM
    exact g_zret X hv dX12_takes_13
theorem s_X12_takes {x1 : Nat} {u : gM} {w : (Int32 × gM)} (hM : X12_takes x1 u = some w) : gMet skM yX12_takes cX12_takes 2 (some .boolean) 6 144 (fun B adK => [.ref (B + 0), .ref (adK x1)]) u ((fun _ => some (.int w.1)), w.2) := by
  refine gMet.of (by decide) (fun _ _ => Nat.le_of_ble_eq_true rfl) (fun κ B X => ?_)
  have X : gX κ B skM cX12_takes 2 RX12 (some .boolean) 6 144 := X
  refine g_mk [true, true] [some (.ref (B + 0)), some (.ref (gAd κ x1))] rfl ?_
  exact v_X12_takes X  hM
theorem fr_X12_takes {S : Nat → Prop} {u0 u : gM} {x1 : Nat} (hs0 : S 0)   {w : (Int32 × gM)} (hM : X12_takes x1 u = some w) (h0 : off S u0 u) : off S u0 w.2 := by
  unfold X12_takes at hM
  obtain ⟨w2, e2, hM⟩ := bind_of hM
  by_cases c5 : w2 = 0
  · rw [if_pos c5] at hM
    obtain ⟨w10, e10, hM⟩ := bind_of hM
    have h0 := fr_X12_fails hs0 e10 h0
    obtain ⟨v13, e13, hM⟩ := bind_of hM
    cases hM
    exact h0
  · rw [if_neg c5] at hM
    obtain ⟨w15, e15, hM⟩ := bind_of hM
    have h0 := fr_X12_next hs0 e15 h0
    cases hM
    exact h0
/-! CoverDeskModel.readLoan()Z -/
theorem dX12_readLoan_0 : decode cX12_readLoan 0 = .ok (.bipush 10, 2) := by decide +kernel
theorem dX12_readLoan_2 : decode cX12_readLoan 2 = .ok (.aload_n 0, 1) := by decide +kernel
theorem dX12_readLoan_3 : decode cX12_readLoan 3 = .ok (.getfield 7, 3) := by decide +kernel
theorem dX12_readLoan_6 : decode cX12_readLoan 6 = .ok (.bipush 9, 2) := by decide +kernel
theorem dX12_readLoan_8 : decode cX12_readLoan 8 = .ok (.iaload, 1) := by decide +kernel
theorem dX12_readLoan_9 : decode cX12_readLoan 9 = .ok (.iadd, 1) := by decide +kernel
theorem dX12_readLoan_10 : decode cX12_readLoan 10 = .ok (.istore_n 1, 1) := by decide +kernel
theorem dX12_readLoan_11 : decode cX12_readLoan 11 = .ok (.iload_n 1, 1) := by decide +kernel
theorem dX12_readLoan_12 : decode cX12_readLoan 12 = .ok (.bipush 20, 2) := by decide +kernel
theorem dX12_readLoan_14 : decode cX12_readLoan 14 = .ok (.if_icmp .ne 9, 3) := by decide +kernel
theorem dX12_readLoan_17 : decode cX12_readLoan 17 = .ok (.aload_n 0, 1) := by decide +kernel
theorem dX12_readLoan_18 : decode cX12_readLoan 18 = .ok (.iconst 5, 1) := by decide +kernel
theorem dX12_readLoan_19 : decode cX12_readLoan 19 = .ok (.invokevirtual 234, 3) := by decide +kernel
theorem dX12_readLoan_22 : decode cX12_readLoan 22 = .ok (.ireturn, 1) := by decide +kernel
theorem dX12_readLoan_23 : decode cX12_readLoan 23 = .ok (.aload_n 0, 1) := by decide +kernel
theorem dX12_readLoan_24 : decode cX12_readLoan 24 = .ok (.invokevirtual 238, 3) := by decide +kernel
theorem dX12_readLoan_27 : decode cX12_readLoan 27 = .ok (.aload_n 0, 1) := by decide +kernel
theorem dX12_readLoan_28 : decode cX12_readLoan 28 = .ok (.aload_n 0, 1) := by decide +kernel
theorem dX12_readLoan_29 : decode cX12_readLoan 29 = .ok (.getfield 13, 3) := by decide +kernel
theorem dX12_readLoan_32 : decode cX12_readLoan 32 = .ok (.iconst 0, 1) := by decide +kernel
theorem dX12_readLoan_33 : decode cX12_readLoan 33 = .ok (.bipush 10, 2) := by decide +kernel
theorem dX12_readLoan_35 : decode cX12_readLoan 35 = .ok (.invokevirtual 275, 3) := by decide +kernel
theorem dX12_readLoan_38 : decode cX12_readLoan 38 = .ok (.ifCond .ne 5, 3) := by decide +kernel
theorem dX12_readLoan_41 : decode cX12_readLoan 41 = .ok (.iconst 0, 1) := by decide +kernel
theorem dX12_readLoan_42 : decode cX12_readLoan 42 = .ok (.ireturn, 1) := by decide +kernel
theorem dX12_readLoan_43 : decode cX12_readLoan 43 = .ok (.aload_n 0, 1) := by decide +kernel
theorem dX12_readLoan_44 : decode cX12_readLoan 44 = .ok (.getfield 47, 3) := by decide +kernel
theorem dX12_readLoan_47 : decode cX12_readLoan 47 = .ok (.iload_n 1, 1) := by decide +kernel
theorem dX12_readLoan_48 : decode cX12_readLoan 48 = .ok (.aload_n 0, 1) := by decide +kernel
theorem dX12_readLoan_49 : decode cX12_readLoan 49 = .ok (.getfield 241, 3) := by decide +kernel
theorem dX12_readLoan_52 : decode cX12_readLoan 52 = .ok (.iastore, 1) := by decide +kernel
theorem dX12_readLoan_53 : decode cX12_readLoan 53 = .ok (.aload_n 0, 1) := by decide +kernel
theorem dX12_readLoan_54 : decode cX12_readLoan 54 = .ok (.ldc 204, 2) := by decide +kernel
theorem dX12_readLoan_56 : decode cX12_readLoan 56 = .ok (.invokevirtual 278, 3) := by decide +kernel
theorem dX12_readLoan_59 : decode cX12_readLoan 59 = .ok (.ifCond .eq 17, 3) := by decide +kernel
theorem dX12_readLoan_62 : decode cX12_readLoan 62 = .ok (.aload_n 0, 1) := by decide +kernel
theorem dX12_readLoan_63 : decode cX12_readLoan 63 = .ok (.aload_n 0, 1) := by decide +kernel
theorem dX12_readLoan_64 : decode cX12_readLoan 64 = .ok (.getfield 17, 3) := by decide +kernel
theorem dX12_readLoan_67 : decode cX12_readLoan 67 = .ok (.iconst 1, 1) := by decide +kernel
theorem dX12_readLoan_68 : decode cX12_readLoan 68 = .ok (.bipush 6, 2) := by decide +kernel
theorem dX12_readLoan_70 : decode cX12_readLoan 70 = .ok (.invokevirtual 275, 3) := by decide +kernel
theorem dX12_readLoan_73 : decode cX12_readLoan 73 = .ok (.ifCond .ne 5, 3) := by decide +kernel
theorem dX12_readLoan_76 : decode cX12_readLoan 76 = .ok (.iconst 0, 1) := by decide +kernel
theorem dX12_readLoan_77 : decode cX12_readLoan 77 = .ok (.ireturn, 1) := by decide +kernel
theorem dX12_readLoan_78 : decode cX12_readLoan 78 = .ok (.aload_n 0, 1) := by decide +kernel
theorem dX12_readLoan_79 : decode cX12_readLoan 79 = .ok (.getfield 50, 3) := by decide +kernel
theorem dX12_readLoan_82 : decode cX12_readLoan 82 = .ok (.iload_n 1, 1) := by decide +kernel
theorem dX12_readLoan_83 : decode cX12_readLoan 83 = .ok (.aload_n 0, 1) := by decide +kernel
theorem dX12_readLoan_84 : decode cX12_readLoan 84 = .ok (.getfield 241, 3) := by decide +kernel
theorem dX12_readLoan_87 : decode cX12_readLoan 87 = .ok (.iastore, 1) := by decide +kernel
theorem dX12_readLoan_88 : decode cX12_readLoan 88 = .ok (.aload_n 0, 1) := by decide +kernel
theorem dX12_readLoan_89 : decode cX12_readLoan 89 = .ok (.lconst 0, 1) := by decide +kernel
theorem dX12_readLoan_90 : decode cX12_readLoan 90 = .ok (.ldc2_w 258, 3) := by decide +kernel
theorem dX12_readLoan_93 : decode cX12_readLoan 93 = .ok (.invokevirtual 260, 3) := by decide +kernel
theorem dX12_readLoan_96 : decode cX12_readLoan 96 = .ok (.ifCond .ne 5, 3) := by decide +kernel
theorem dX12_readLoan_99 : decode cX12_readLoan 99 = .ok (.iconst 0, 1) := by decide +kernel
theorem dX12_readLoan_100 : decode cX12_readLoan 100 = .ok (.ireturn, 1) := by decide +kernel
theorem dX12_readLoan_101 : decode cX12_readLoan 101 = .ok (.aload_n 0, 1) := by decide +kernel
theorem dX12_readLoan_102 : decode cX12_readLoan 102 = .ok (.getfield 53, 3) := by decide +kernel
theorem dX12_readLoan_105 : decode cX12_readLoan 105 = .ok (.iload_n 1, 1) := by decide +kernel
theorem dX12_readLoan_106 : decode cX12_readLoan 106 = .ok (.aload_n 0, 1) := by decide +kernel
theorem dX12_readLoan_107 : decode cX12_readLoan 107 = .ok (.getfield 241, 3) := by decide +kernel
theorem dX12_readLoan_110 : decode cX12_readLoan 110 = .ok (.iastore, 1) := by decide +kernel
theorem dX12_readLoan_111 : decode cX12_readLoan 111 = .ok (.aload_n 0, 1) := by decide +kernel
theorem dX12_readLoan_112 : decode cX12_readLoan 112 = .ok (.getfield 7, 3) := by decide +kernel
theorem dX12_readLoan_115 : decode cX12_readLoan 115 = .ok (.bipush 9, 2) := by decide +kernel
theorem dX12_readLoan_117 : decode cX12_readLoan 117 = .ok (.dup2, 1) := by decide +kernel
theorem dX12_readLoan_118 : decode cX12_readLoan 118 = .ok (.iaload, 1) := by decide +kernel
theorem dX12_readLoan_119 : decode cX12_readLoan 119 = .ok (.iconst 1, 1) := by decide +kernel
theorem dX12_readLoan_120 : decode cX12_readLoan 120 = .ok (.iadd, 1) := by decide +kernel
theorem dX12_readLoan_121 : decode cX12_readLoan 121 = .ok (.iastore, 1) := by decide +kernel
theorem dX12_readLoan_122 : decode cX12_readLoan 122 = .ok (.iconst 1, 1) := by decide +kernel
theorem dX12_readLoan_123 : decode cX12_readLoan 123 = .ok (.ireturn, 1) := by decide +kernel
def X12_readLoan_b76   (u : gM) : Option (Int32 × gM) :=
some (0, u)
def X12_readLoan   (u : gM) : Option (Int32 × gM) :=
((aI skM u 1 9).bind fun v8 => (if (10 + v8) = 20 then ((X12_fails 5 u).bind fun w19 => ((bI w19.1).bind fun v22 => some (v22, w19.2)))
  else ((X12_next u).bind fun w24 => ((X12_readOf 2 0 10 w24).bind fun w35 => (if w35.1 = 0 then some (0, w35.2)
    else ((sI skM w35.2 13 (10 + v8) (w35.2.1 0 31)).bind fun u52 => ((X12_takes 5 u52).bind fun w56 => (if w56.1 = 0 then (X12_readLoan_b76 w56.2)
      else ((X12_readOf 3 1 6 w56.2).bind fun w70 => (if w70.1 = 0 then (X12_readLoan_b76 w70.2)
        else ((sI skM w70.2 14 (10 + v8) (w70.2.1 0 31)).bind fun u87 => ((X12_readNumber 0 100000000 u87).bind fun w93 => (if w93.1 = 0 then some (0, w93.2)
          else ((sI skM w93.2 15 (10 + v8) (w93.2.1 0 31)).bind fun u110 => ((aI skM u110 1 9).bind fun v118 => ((sI skM u110 1 9 (v118 + 1)).bind fun u121 => some (1, u121)))))))))))))))))
set_option maxRecDepth 20000 in
theorem v_X12_readLoan_b76 {κ : gK} {B : Nat} {u : gM} (X : gX κ B skM cX12_readLoan 2 RX12 (some .boolean) 10 227)    {w : (Int32 × gM)} (hM : X12_readLoan_b76 u = some w) : gV κ B skM 2 ((some (.int w.1)), w.2) 76 [none, none] [] u := by
  unfold X12_readLoan_b76 at hM
  refine g_iconst X (v := 0) dX12_readLoan_76 (by decide) ?_
  cases hM
  exact g_zret X (Or.inl rfl) dX12_readLoan_77
set_option maxRecDepth 20000 in
theorem v_X12_readLoan {κ : gK} {B : Nat} {u : gM} (X : gX κ B skM cX12_readLoan 2 RX12 (some .boolean) 10 227)    {w : (Int32 × gM)} (hM : X12_readLoan u = some w) : gV κ B skM 2 ((some (.int w.1)), w.2) 0 [some (.ref (B + 0)), none] [] u := by
  unfold X12_readLoan at hM
  refine g_bipush X (v := 10) dX12_readLoan_0 (by decide) ?_
  refine g_aload_n X dX12_readLoan_2 rfl ?_
  refine g_getR X fX12_7 cM_0 rfl dX12_readLoan_3 ?_
  refine g_bipush X (v := 9) dX12_readLoan_6 (by decide) ?_
  obtain ⟨v8, e8, hM⟩ := bind_of hM
  refine g_iaload X e8 dX12_readLoan_8 ?_
  refine g_iadd X dX12_readLoan_9 ?_
  refine g_istore_n X [some (.ref (B + 0)), some (.int (10 + v8))] dX12_readLoan_10 (by decide) rfl ?_
  refine g_iload_n X dX12_readLoan_11 rfl ?_
  refine g_bipush X (v := 20) dX12_readLoan_12 (by decide) ?_
  refine g_icmp_ne (tgt := 23) X dX12_readLoan_14 (by decide) (fun c14 => ?_) (fun c14 => ?_)
  · rw [if_neg c14] at hM
    refine g_aload_n X dX12_readLoan_23 rfl ?_
    obtain ⟨w24, e24, hM⟩ := bind_of hM
    refine g_callVv X (fun B adK => []) (s_X12_next e24) cvX12_238 cM_0 rfl rfl (Nat.le_of_ble_eq_true rfl) ⟨by decide, by decide⟩ dX12_readLoan_24 ?_
    refine g_aload_n X dX12_readLoan_27 rfl ?_
    refine g_aload_n X dX12_readLoan_28 rfl ?_
    refine g_getR X fX12_13 cM_0 rfl dX12_readLoan_29 ?_
    refine g_iconst X (v := 0) dX12_readLoan_32 (by decide) ?_
    refine g_bipush X (v := 10) dX12_readLoan_33 (by decide) ?_
    obtain ⟨w35, e35, hM⟩ := bind_of hM
    refine g_callVi X (fun B adK => [.ref (B + 2), .int 0, .int 10]) (s_X12_readOf e35) cvX12_275 cM_0 rfl rfl (Nat.le_of_ble_eq_true rfl) ⟨by decide, by decide⟩ dX12_readLoan_35 ?_
    refine g_if_ne (tgt := 43) X dX12_readLoan_38 (by decide) (fun c38 => ?_) (fun c38 => ?_)
    · rw [if_neg c38] at hM
      refine g_aload_n X dX12_readLoan_43 rfl ?_
      refine g_getR X fX12_47 cM_0 rfl dX12_readLoan_44 ?_
      refine g_iload_n X dX12_readLoan_47 rfl ?_
      refine g_aload_n X dX12_readLoan_48 rfl ?_
      refine g_getI X fX12_241 cM_0 rfl dX12_readLoan_49 ?_
      obtain ⟨u52, e52, hM⟩ := bind_of hM
      refine g_iastore X e52 dX12_readLoan_52 ?_
      refine g_aload_n X dX12_readLoan_53 rfl ?_
      refine g_ldcS (i := 5) X rfl dX12_readLoan_54 ?_
      obtain ⟨w56, e56, hM⟩ := bind_of hM
      refine g_callVi X (fun B adK => [.ref (adK 5)]) (s_X12_takes e56) cvX12_278 cM_0 rfl rfl (Nat.le_of_ble_eq_true rfl) ⟨by decide, by decide⟩ dX12_readLoan_56 ?_
      refine g_if_eq (tgt := 76) X dX12_readLoan_59 (by decide) (fun c59 => ?_) (fun c59 => ?_)
      · rw [if_pos c59] at hM
        refine g_mk [false, false] [none, none] rfl ?_
        exact v_X12_readLoan_b76 X  hM
      · rw [if_neg c59] at hM
        refine g_aload_n X dX12_readLoan_62 rfl ?_
        refine g_aload_n X dX12_readLoan_63 rfl ?_
        refine g_getR X fX12_17 cM_0 rfl dX12_readLoan_64 ?_
        refine g_iconst X (v := 1) dX12_readLoan_67 (by decide) ?_
        refine g_bipush X (v := 6) dX12_readLoan_68 (by decide) ?_
        obtain ⟨w70, e70, hM⟩ := bind_of hM
        refine g_callVi X (fun B adK => [.ref (B + 3), .int 1, .int 6]) (s_X12_readOf e70) cvX12_275 cM_0 rfl rfl (Nat.le_of_ble_eq_true rfl) ⟨by decide, by decide⟩ dX12_readLoan_70 ?_
        refine g_if_ne (tgt := 78) X dX12_readLoan_73 (by decide) (fun c73 => ?_) (fun c73 => ?_)
        · rw [if_neg c73] at hM
          refine g_aload_n X dX12_readLoan_78 rfl ?_
          refine g_getR X fX12_50 cM_0 rfl dX12_readLoan_79 ?_
          refine g_iload_n X dX12_readLoan_82 rfl ?_
          refine g_aload_n X dX12_readLoan_83 rfl ?_
          refine g_getI X fX12_241 cM_0 rfl dX12_readLoan_84 ?_
          obtain ⟨u87, e87, hM⟩ := bind_of hM
          refine g_iastore X e87 dX12_readLoan_87 ?_
          refine g_aload_n X dX12_readLoan_88 rfl ?_
          refine g_lconst (v := 0) X dX12_readLoan_89 (by decide) ?_
          refine g_ldc2 (v := 100000000) X m_23_10 dX12_readLoan_90 ?_
          obtain ⟨w93, e93, hM⟩ := bind_of hM
          refine g_callVi X (fun B adK => [.long 0, .long 100000000]) (s_X12_readNumber e93) cvX12_260 cM_0 rfl rfl (Nat.le_of_ble_eq_true rfl) ⟨by decide, by decide⟩ dX12_readLoan_93 ?_
          refine g_if_ne (tgt := 101) X dX12_readLoan_96 (by decide) (fun c96 => ?_) (fun c96 => ?_)
          · rw [if_neg c96] at hM
            refine g_aload_n X dX12_readLoan_101 rfl ?_
            refine g_getR X fX12_53 cM_0 rfl dX12_readLoan_102 ?_
            refine g_iload_n X dX12_readLoan_105 rfl ?_
            refine g_aload_n X dX12_readLoan_106 rfl ?_
            refine g_getI X fX12_241 cM_0 rfl dX12_readLoan_107 ?_
            obtain ⟨u110, e110, hM⟩ := bind_of hM
            refine g_iastore X e110 dX12_readLoan_110 ?_
            refine g_aload_n X dX12_readLoan_111 rfl ?_
            refine g_getR X fX12_7 cM_0 rfl dX12_readLoan_112 ?_
            refine g_bipush X (v := 9) dX12_readLoan_115 (by decide) ?_
            refine g_dup2_11 X rfl rfl dX12_readLoan_117 ?_
            obtain ⟨v118, e118, hM⟩ := bind_of hM
            refine g_iaload X e118 dX12_readLoan_118 ?_
            refine g_iconst X (v := 1) dX12_readLoan_119 (by decide) ?_
            refine g_iadd X dX12_readLoan_120 ?_
            obtain ⟨u121, e121, hM⟩ := bind_of hM
            refine g_iastore X e121 dX12_readLoan_121 ?_
            refine g_iconst X (v := 1) dX12_readLoan_122 (by decide) ?_
            cases hM
            exact g_zret X (Or.inr rfl) dX12_readLoan_123
          · rw [if_pos c96] at hM
            refine g_iconst X (v := 0) dX12_readLoan_99 (by decide) ?_
            cases hM
            exact g_zret X (Or.inl rfl) dX12_readLoan_100
        · rw [if_pos c73] at hM
          refine g_mk [false, false] [none, none] rfl ?_
          exact v_X12_readLoan_b76 X  hM
    · rw [if_pos c38] at hM
      refine g_iconst X (v := 0) dX12_readLoan_41 (by decide) ?_
      cases hM
      exact g_zret X (Or.inl rfl) dX12_readLoan_42
  · rw [if_pos c14] at hM
    refine g_aload_n X dX12_readLoan_17 rfl ?_
    refine g_iconst X (v := 5) dX12_readLoan_18 (by decide) ?_
    obtain ⟨w19, e19, hM⟩ := bind_of hM
    refine g_callVi X (fun B adK => [.int 5]) (s_X12_fails e19) cvX12_234 cM_0 rfl rfl (Nat.le_of_ble_eq_true rfl) ⟨by decide, by decide⟩ dX12_readLoan_19 ?_
    obtain ⟨v22, e22, hM⟩ := bind_of hM
    obtain ⟨hv, rfl⟩ := bI_of e22
    cases hM
    exact g_zret X hv dX12_readLoan_22
theorem s_X12_readLoan  {u : gM} {w : (Int32 × gM)} (hM : X12_readLoan u = some w) : gMet skM yX12_readLoan cX12_readLoan 2 (some .boolean) 10 227 (fun B adK => [.ref (B + 0)]) u ((fun _ => some (.int w.1)), w.2) := by
  refine gMet.of (by decide) (fun _ _ => Nat.le_of_ble_eq_true rfl) (fun κ B X => ?_)
  have X : gX κ B skM cX12_readLoan 2 RX12 (some .boolean) 10 227 := X
  refine g_mk [true, false] [some (.ref (B + 0)), none] rfl ?_
  exact v_X12_readLoan X  hM
theorem fr_X12_readLoan_b76 {S : Nat → Prop} {u0 u : gM}     {w : (Int32 × gM)} (hM : X12_readLoan_b76 u = some w) (h0 : off S u0 u) : off S u0 w.2 := by
  unfold X12_readLoan_b76 at hM
  cases hM
  exact h0
theorem fr_X12_readLoan {S : Nat → Prop} {u0 u : gM}  (hs0 : S 0) (hs1 : S 1) (hs2 : S 13) (hs3 : S 14) (hs4 : S 15)   {w : (Int32 × gM)} (hM : X12_readLoan u = some w) (h0 : off S u0 u) : off S u0 w.2 := by
  unfold X12_readLoan at hM
  obtain ⟨v8, e8, hM⟩ := bind_of hM
  by_cases c14 : (10 + v8) = 20
  · rw [if_pos c14] at hM
    obtain ⟨w19, e19, hM⟩ := bind_of hM
    have h0 := fr_X12_fails hs0 e19 h0
    obtain ⟨v22, e22, hM⟩ := bind_of hM
    cases hM
    exact h0
  · rw [if_neg c14] at hM
    obtain ⟨w24, e24, hM⟩ := bind_of hM
    have h0 := fr_X12_next hs0 e24 h0
    obtain ⟨w35, e35, hM⟩ := bind_of hM
    have h0 := fr_X12_readOf hs0 e35 h0
    by_cases c38 : w35.1 = 0
    · rw [if_pos c38] at hM
      cases hM
      exact h0
    · rw [if_neg c38] at hM
      obtain ⟨u52, e52, hM⟩ := bind_of hM
      have h0 := off_sI hs2 e52 h0
      obtain ⟨w56, e56, hM⟩ := bind_of hM
      have h0 := fr_X12_takes hs0 e56 h0
      by_cases c59 : w56.1 = 0
      · rw [if_pos c59] at hM
        exact fr_X12_readLoan_b76   hM h0
      · rw [if_neg c59] at hM
        obtain ⟨w70, e70, hM⟩ := bind_of hM
        have h0 := fr_X12_readOf hs0 e70 h0
        by_cases c73 : w70.1 = 0
        · rw [if_pos c73] at hM
          exact fr_X12_readLoan_b76   hM h0
        · rw [if_neg c73] at hM
          obtain ⟨u87, e87, hM⟩ := bind_of hM
          have h0 := off_sI hs3 e87 h0
          obtain ⟨w93, e93, hM⟩ := bind_of hM
          have h0 := fr_X12_readNumber hs0 e93 h0
          by_cases c96 : w93.1 = 0
          · rw [if_pos c96] at hM
            cases hM
            exact h0
          · rw [if_neg c96] at hM
            obtain ⟨u110, e110, hM⟩ := bind_of hM
            have h0 := off_sI hs4 e110 h0
            obtain ⟨v118, e118, hM⟩ := bind_of hM
            obtain ⟨u121, e121, hM⟩ := bind_of hM
            have h0 := off_sI hs1 e121 h0
            cases hM
            exact h0
/-! CoverDeskModel.readOwners(I)Z -/
theorem dX12_readOwners_0 : decode cX12_readOwners 0 = .ok (.aload_n 0, 1) := by decide +kernel
theorem dX12_readOwners_1 : decode cX12_readOwners 1 = .ok (.getfield 23, 3) := by decide +kernel
theorem dX12_readOwners_4 : decode cX12_readOwners 4 = .ok (.iload_n 1, 1) := by decide +kernel
theorem dX12_readOwners_5 : decode cX12_readOwners 5 = .ok (.iaload, 1) := by decide +kernel
theorem dX12_readOwners_6 : decode cX12_readOwners 6 = .ok (.iconst 1, 1) := by decide +kernel
theorem dX12_readOwners_7 : decode cX12_readOwners 7 = .ok (.if_icmp .ne 7, 3) := by decide +kernel
theorem dX12_readOwners_10 : decode cX12_readOwners 10 = .ok (.iconst 4, 1) := by decide +kernel
theorem dX12_readOwners_11 : decode cX12_readOwners 11 = .ok (.goto 18, 3) := by decide +kernel
theorem dX12_readOwners_14 : decode cX12_readOwners 14 = .ok (.aload_n 0, 1) := by decide +kernel
theorem dX12_readOwners_15 : decode cX12_readOwners 15 = .ok (.getfield 23, 3) := by decide +kernel
theorem dX12_readOwners_18 : decode cX12_readOwners 18 = .ok (.iload_n 1, 1) := by decide +kernel
theorem dX12_readOwners_19 : decode cX12_readOwners 19 = .ok (.iaload, 1) := by decide +kernel
theorem dX12_readOwners_20 : decode cX12_readOwners 20 = .ok (.iconst 2, 1) := by decide +kernel
theorem dX12_readOwners_21 : decode cX12_readOwners 21 = .ok (.if_icmp .ne 7, 3) := by decide +kernel
theorem dX12_readOwners_24 : decode cX12_readOwners 24 = .ok (.iconst 2, 1) := by decide +kernel
theorem dX12_readOwners_25 : decode cX12_readOwners 25 = .ok (.goto 4, 3) := by decide +kernel
theorem dX12_readOwners_28 : decode cX12_readOwners 28 = .ok (.iconst 1, 1) := by decide +kernel
theorem dX12_readOwners_29 : decode cX12_readOwners 29 = .ok (.istore_n 2, 1) := by decide +kernel
theorem dX12_readOwners_30 : decode cX12_readOwners 30 = .ok (.aload_n 0, 1) := by decide +kernel
theorem dX12_readOwners_31 : decode cX12_readOwners 31 = .ok (.invokevirtual 248, 3) := by decide +kernel
theorem dX12_readOwners_34 : decode cX12_readOwners 34 = .ok (.ifCond .ne 9, 3) := by decide +kernel
theorem dX12_readOwners_37 : decode cX12_readOwners 37 = .ok (.aload_n 0, 1) := by decide +kernel
theorem dX12_readOwners_38 : decode cX12_readOwners 38 = .ok (.iconst 1, 1) := by decide +kernel
theorem dX12_readOwners_39 : decode cX12_readOwners 39 = .ok (.invokevirtual 234, 3) := by decide +kernel
theorem dX12_readOwners_42 : decode cX12_readOwners 42 = .ok (.ireturn, 1) := by decide +kernel
theorem dX12_readOwners_43 : decode cX12_readOwners 43 = .ok (.aload_n 0, 1) := by decide +kernel
theorem dX12_readOwners_44 : decode cX12_readOwners 44 = .ok (.getfield 13, 3) := by decide +kernel
theorem dX12_readOwners_47 : decode cX12_readOwners 47 = .ok (.bipush 10, 2) := by decide +kernel
theorem dX12_readOwners_49 : decode cX12_readOwners 49 = .ok (.aload_n 0, 1) := by decide +kernel
theorem dX12_readOwners_50 : decode cX12_readOwners 50 = .ok (.getfield 7, 3) := by decide +kernel
theorem dX12_readOwners_53 : decode cX12_readOwners 53 = .ok (.bipush 6, 2) := by decide +kernel
theorem dX12_readOwners_55 : decode cX12_readOwners 55 = .ok (.iaload, 1) := by decide +kernel
theorem dX12_readOwners_56 : decode cX12_readOwners 56 = .ok (.aload_n 0, 1) := by decide +kernel
theorem dX12_readOwners_57 : decode cX12_readOwners 57 = .ok (.getfield 139, 3) := by decide +kernel
theorem dX12_readOwners_60 : decode cX12_readOwners 60 = .ok (.invokestatic 244, 3) := by decide +kernel
theorem dX12_readOwners_63 : decode cX12_readOwners 63 = .ok (.istore_n 3, 1) := by decide +kernel
theorem dX12_readOwners_64 : decode cX12_readOwners 64 = .ok (.iload_n 3, 1) := by decide +kernel
theorem dX12_readOwners_65 : decode cX12_readOwners 65 = .ok (.iconst (-1), 1) := by decide +kernel
theorem dX12_readOwners_66 : decode cX12_readOwners 66 = .ok (.if_icmp .ne 9, 3) := by decide +kernel
theorem dX12_readOwners_69 : decode cX12_readOwners 69 = .ok (.aload_n 0, 1) := by decide +kernel
theorem dX12_readOwners_70 : decode cX12_readOwners 70 = .ok (.iconst 3, 1) := by decide +kernel
theorem dX12_readOwners_71 : decode cX12_readOwners 71 = .ok (.invokevirtual 234, 3) := by decide +kernel
theorem dX12_readOwners_74 : decode cX12_readOwners 74 = .ok (.ireturn, 1) := by decide +kernel
theorem dX12_readOwners_75 : decode cX12_readOwners 75 = .ok (.iconst 0, 1) := by decide +kernel
theorem dX12_readOwners_76 : decode cX12_readOwners 76 = .ok (.istore 4, 2) := by decide +kernel
theorem dX12_readOwners_78 : decode cX12_readOwners 78 = .ok (.iload 4, 2) := by decide +kernel
theorem dX12_readOwners_80 : decode cX12_readOwners 80 = .ok (.aload_n 0, 1) := by decide +kernel
theorem dX12_readOwners_81 : decode cX12_readOwners 81 = .ok (.getfield 29, 3) := by decide +kernel
theorem dX12_readOwners_84 : decode cX12_readOwners 84 = .ok (.iload_n 1, 1) := by decide +kernel
theorem dX12_readOwners_85 : decode cX12_readOwners 85 = .ok (.iaload, 1) := by decide +kernel
theorem dX12_readOwners_86 : decode cX12_readOwners 86 = .ok (.if_icmp .ge 30, 3) := by decide +kernel
theorem dX12_readOwners_89 : decode cX12_readOwners 89 = .ok (.aload_n 0, 1) := by decide +kernel
theorem dX12_readOwners_90 : decode cX12_readOwners 90 = .ok (.getfield 32, 3) := by decide +kernel
theorem dX12_readOwners_93 : decode cX12_readOwners 93 = .ok (.iconst 4, 1) := by decide +kernel
theorem dX12_readOwners_94 : decode cX12_readOwners 94 = .ok (.iload_n 1, 1) := by decide +kernel
theorem dX12_readOwners_95 : decode cX12_readOwners 95 = .ok (.imul, 1) := by decide +kernel
theorem dX12_readOwners_96 : decode cX12_readOwners 96 = .ok (.iload 4, 2) := by decide +kernel
theorem dX12_readOwners_98 : decode cX12_readOwners 98 = .ok (.iadd, 1) := by decide +kernel
theorem dX12_readOwners_99 : decode cX12_readOwners 99 = .ok (.iaload, 1) := by decide +kernel
theorem dX12_readOwners_100 : decode cX12_readOwners 100 = .ok (.iload_n 3, 1) := by decide +kernel
theorem dX12_readOwners_101 : decode cX12_readOwners 101 = .ok (.if_icmp .ne 9, 3) := by decide +kernel
theorem dX12_readOwners_104 : decode cX12_readOwners 104 = .ok (.aload_n 0, 1) := by decide +kernel
theorem dX12_readOwners_105 : decode cX12_readOwners 105 = .ok (.iconst 3, 1) := by decide +kernel
theorem dX12_readOwners_106 : decode cX12_readOwners 106 = .ok (.invokevirtual 234, 3) := by decide +kernel
theorem dX12_readOwners_109 : decode cX12_readOwners 109 = .ok (.ireturn, 1) := by decide +kernel
theorem dX12_readOwners_110 : decode cX12_readOwners 110 = .ok (.iinc 4 1, 3) := by decide +kernel
theorem dX12_readOwners_113 : decode cX12_readOwners 113 = .ok (.goto (-35), 3) := by decide +kernel
theorem dX12_readOwners_116 : decode cX12_readOwners 116 = .ok (.aload_n 0, 1) := by decide +kernel
theorem dX12_readOwners_117 : decode cX12_readOwners 117 = .ok (.getfield 29, 3) := by decide +kernel
theorem dX12_readOwners_120 : decode cX12_readOwners 120 = .ok (.iload_n 1, 1) := by decide +kernel
theorem dX12_readOwners_121 : decode cX12_readOwners 121 = .ok (.iaload, 1) := by decide +kernel
theorem dX12_readOwners_122 : decode cX12_readOwners 122 = .ok (.iload_n 2, 1) := by decide +kernel
theorem dX12_readOwners_123 : decode cX12_readOwners 123 = .ok (.if_icmp .ne 9, 3) := by decide +kernel
theorem dX12_readOwners_126 : decode cX12_readOwners 126 = .ok (.aload_n 0, 1) := by decide +kernel
theorem dX12_readOwners_127 : decode cX12_readOwners 127 = .ok (.iconst 5, 1) := by decide +kernel
theorem dX12_readOwners_128 : decode cX12_readOwners 128 = .ok (.invokevirtual 234, 3) := by decide +kernel
theorem dX12_readOwners_131 : decode cX12_readOwners 131 = .ok (.ireturn, 1) := by decide +kernel
theorem dX12_readOwners_132 : decode cX12_readOwners 132 = .ok (.aload_n 0, 1) := by decide +kernel
theorem dX12_readOwners_133 : decode cX12_readOwners 133 = .ok (.getfield 32, 3) := by decide +kernel
theorem dX12_readOwners_136 : decode cX12_readOwners 136 = .ok (.iconst 4, 1) := by decide +kernel
theorem dX12_readOwners_137 : decode cX12_readOwners 137 = .ok (.iload_n 1, 1) := by decide +kernel
theorem dX12_readOwners_138 : decode cX12_readOwners 138 = .ok (.imul, 1) := by decide +kernel
theorem dX12_readOwners_139 : decode cX12_readOwners 139 = .ok (.aload_n 0, 1) := by decide +kernel
theorem dX12_readOwners_140 : decode cX12_readOwners 140 = .ok (.getfield 29, 3) := by decide +kernel
theorem dX12_readOwners_143 : decode cX12_readOwners 143 = .ok (.iload_n 1, 1) := by decide +kernel
theorem dX12_readOwners_144 : decode cX12_readOwners 144 = .ok (.iaload, 1) := by decide +kernel
theorem dX12_readOwners_145 : decode cX12_readOwners 145 = .ok (.iadd, 1) := by decide +kernel
theorem dX12_readOwners_146 : decode cX12_readOwners 146 = .ok (.iload_n 3, 1) := by decide +kernel
theorem dX12_readOwners_147 : decode cX12_readOwners 147 = .ok (.iastore, 1) := by decide +kernel
theorem dX12_readOwners_148 : decode cX12_readOwners 148 = .ok (.aload_n 0, 1) := by decide +kernel
theorem dX12_readOwners_149 : decode cX12_readOwners 149 = .ok (.getfield 29, 3) := by decide +kernel
theorem dX12_readOwners_152 : decode cX12_readOwners 152 = .ok (.iload_n 1, 1) := by decide +kernel
theorem dX12_readOwners_153 : decode cX12_readOwners 153 = .ok (.dup2, 1) := by decide +kernel
theorem dX12_readOwners_154 : decode cX12_readOwners 154 = .ok (.iaload, 1) := by decide +kernel
theorem dX12_readOwners_155 : decode cX12_readOwners 155 = .ok (.iconst 1, 1) := by decide +kernel
theorem dX12_readOwners_156 : decode cX12_readOwners 156 = .ok (.iadd, 1) := by decide +kernel
theorem dX12_readOwners_157 : decode cX12_readOwners 157 = .ok (.iastore, 1) := by decide +kernel
theorem dX12_readOwners_158 : decode cX12_readOwners 158 = .ok (.aload_n 0, 1) := by decide +kernel
theorem dX12_readOwners_159 : decode cX12_readOwners 159 = .ok (.invokevirtual 238, 3) := by decide +kernel
theorem dX12_readOwners_162 : decode cX12_readOwners 162 = .ok (.aload_n 0, 1) := by decide +kernel
theorem dX12_readOwners_163 : decode cX12_readOwners 163 = .ok (.invokevirtual 248, 3) := by decide +kernel
theorem dX12_readOwners_166 : decode cX12_readOwners 166 = .ok (.ifCond .ne (-136), 3) := by decide +kernel
theorem dX12_readOwners_169 : decode cX12_readOwners 169 = .ok (.iconst 1, 1) := by decide +kernel
theorem dX12_readOwners_170 : decode cX12_readOwners 170 = .ok (.ireturn, 1) := by decide +kernel
def X12_readOwners_b78 (k30 : Int32 → Int32 → gM → Option (Int32 × gM)) (k78 : Int32 → Int32 → Int32 → Int32 → gM → Option (Int32 × gM)) (x1 : Int32) (x2 : Int32) (x3 : Int32) (x4 : Int32) (u : gM) : Option (Int32 × gM) :=
((aI skM u 7 x1).bind fun v85 => (if v85 ≤ x4 then ((aI skM u 7 x1).bind fun v121 => (if v121 = x2 then ((X12_fails 5 u).bind fun w128 => ((bI w128.1).bind fun v131 => some (v131, w128.2)))
    else ((aI skM u 7 x1).bind fun v144 => ((sI skM u 8 ((4 * x1) + v144) x3).bind fun u147 => ((aI skM u147 7 x1).bind fun v154 => ((sI skM u147 7 x1 (v154 + 1)).bind fun u157 => ((X12_next u157).bind fun w159 => ((X12_isName w159).bind fun w163 => (if w163 = 0 then some (1, w159)
      else (k30 x1 x2 w159))))))))))
  else ((aI skM u 8 ((4 * x1) + x4)).bind fun v99 => (if v99 = x3 then ((X12_fails 3 u).bind fun w106 => ((bI w106.1).bind fun v109 => some (v109, w106.2)))
    else (k78 x1 x2 x3 (x4 + 1) u)))))
def X12_readOwners_l78 (k30 : Int32 → Int32 → gM → Option (Int32 × gM)) : Nat → Int32 → Int32 → Int32 → Int32 → gM → Option (Int32 × gM)
  | 0, _, _, _, _, _ => none
  | n + 1, x1, x2, x3, x4, u => X12_readOwners_b78 k30 (X12_readOwners_l78 k30 n) x1 x2 x3 x4 u
def X12_readOwners_b30 (k30 : Int32 → Int32 → gM → Option (Int32 × gM)) (x1 : Int32) (x2 : Int32) (u : gM) : Option (Int32 × gM) :=
((X12_isName u).bind fun w31 => (if w31 = 0 then ((X12_fails 1 u).bind fun w39 => ((bI w39.1).bind fun v42 => some (v42, w39.2)))
  else ((aI skM u 1 6).bind fun v55 => ((X12_placeIn u 2 10 v55 (u.2 0 28)).bind fun w60 => (if w60 = (-1) then ((X12_fails 3 u).bind fun w71 => ((bI w71.1).bind fun v74 => some (v74, w71.2)))
    else (X12_readOwners_l78 k30 fz x1 x2 w60 0 u))))))
def X12_readOwners_l30  : Nat → Int32 → Int32 → gM → Option (Int32 × gM)
  | 0, _, _, _ => none
  | n + 1, x1, x2, u => X12_readOwners_b30  (X12_readOwners_l30  n) x1 x2 u
def X12_readOwners_b29  (x1 : Int32) (s0 : Int32) (u : gM) : Option (Int32 × gM) :=
(X12_readOwners_l30 fz x1 s0 u)
def X12_readOwners  (x1 : Int32) (u : gM) : Option (Int32 × gM) :=
((aI skM u 5 x1).bind fun v5 => (if v5 = 1 then (X12_readOwners_b29 x1 4 u)
  else ((aI skM u 5 x1).bind fun v19 => (if v19 = 2 then (X12_readOwners_b29 x1 2 u)
    else (X12_readOwners_b29 x1 1 u)))))
set_option maxRecDepth 20000 in
theorem v_X12_readOwners_b78 {κ : gK} {B : Nat} {u : gM} (X : gX κ B skM cX12_readOwners 5 RX12 (some .boolean) 9 204) {k30 : Int32 → Int32 → gM → Option (Int32 × gM)} {k78 : Int32 → Int32 → Int32 → Int32 → gM → Option (Int32 × gM)} (ih30 : ∀ (x1 : Int32) (x2 : Int32) (u : gM) (w : (Int32 × gM)), k30 x1 x2 u = some w → gV κ B skM 5 ((some (.int w.1)), w.2) 30 [some (.ref (B + 0)), some (.int x1), some (.int x2), none, none] [] u) (ih78 : ∀ (x1 : Int32) (x2 : Int32) (x3 : Int32) (x4 : Int32) (u : gM) (w : (Int32 × gM)), k78 x1 x2 x3 x4 u = some w → gV κ B skM 5 ((some (.int w.1)), w.2) 78 [some (.ref (B + 0)), some (.int x1), some (.int x2), some (.int x3), some (.int x4)] [] u) {x1 : Int32} {x2 : Int32} {x3 : Int32} {x4 : Int32} {w : (Int32 × gM)} (hM : X12_readOwners_b78 k30 k78 x1 x2 x3 x4 u = some w) : gV κ B skM 5 ((some (.int w.1)), w.2) 78 [some (.ref (B + 0)), some (.int x1), some (.int x2), some (.int x3), some (.int x4)] [] u := by
  unfold X12_readOwners_b78 at hM
  refine g_iload X dX12_readOwners_78 rfl ?_
  refine g_aload_n X dX12_readOwners_80 rfl ?_
  refine g_getR X fX12_29 cM_0 rfl dX12_readOwners_81 ?_
  refine g_iload_n X dX12_readOwners_84 rfl ?_
  obtain ⟨v85, e85, hM⟩ := bind_of hM
  refine g_iaload X e85 dX12_readOwners_85 ?_
  refine g_icmp_ge (tgt := 116) X dX12_readOwners_86 (by decide) (fun c86 => ?_) (fun c86 => ?_)
  · rw [if_pos c86] at hM
    refine g_aload_n X dX12_readOwners_116 rfl ?_
    refine g_getR X fX12_29 cM_0 rfl dX12_readOwners_117 ?_
    refine g_iload_n X dX12_readOwners_120 rfl ?_
    obtain ⟨v121, e121, hM⟩ := bind_of hM
    refine g_iaload X e121 dX12_readOwners_121 ?_
    refine g_iload_n X dX12_readOwners_122 rfl ?_
    refine g_icmp_ne (tgt := 132) X dX12_readOwners_123 (by decide) (fun c123 => ?_) (fun c123 => ?_)
    · rw [if_neg c123] at hM
      refine g_aload_n X dX12_readOwners_132 rfl ?_
      refine g_getR X fX12_32 cM_0 rfl dX12_readOwners_133 ?_
      refine g_iconst X (v := 4) dX12_readOwners_136 (by decide) ?_
      refine g_iload_n X dX12_readOwners_137 rfl ?_
      refine g_imul X dX12_readOwners_138 ?_
      refine g_aload_n X dX12_readOwners_139 rfl ?_
      refine g_getR X fX12_29 cM_0 rfl dX12_readOwners_140 ?_
      refine g_iload_n X dX12_readOwners_143 rfl ?_
      obtain ⟨v144, e144, hM⟩ := bind_of hM
      refine g_iaload X e144 dX12_readOwners_144 ?_
      refine g_iadd X dX12_readOwners_145 ?_
      refine g_iload_n X dX12_readOwners_146 rfl ?_
      obtain ⟨u147, e147, hM⟩ := bind_of hM
      refine g_iastore X e147 dX12_readOwners_147 ?_
      refine g_aload_n X dX12_readOwners_148 rfl ?_
      refine g_getR X fX12_29 cM_0 rfl dX12_readOwners_149 ?_
      refine g_iload_n X dX12_readOwners_152 rfl ?_
      refine g_dup2_11 X rfl rfl dX12_readOwners_153 ?_
      obtain ⟨v154, e154, hM⟩ := bind_of hM
      refine g_iaload X e154 dX12_readOwners_154 ?_
      refine g_iconst X (v := 1) dX12_readOwners_155 (by decide) ?_
      refine g_iadd X dX12_readOwners_156 ?_
      obtain ⟨u157, e157, hM⟩ := bind_of hM
      refine g_iastore X e157 dX12_readOwners_157 ?_
      refine g_aload_n X dX12_readOwners_158 rfl ?_
      obtain ⟨w159, e159, hM⟩ := bind_of hM
      refine g_callVv X (fun B adK => []) (s_X12_next e159) cvX12_238 cM_0 rfl rfl (Nat.le_of_ble_eq_true rfl) ⟨by decide, by decide⟩ dX12_readOwners_159 ?_
      refine g_aload_n X dX12_readOwners_162 rfl ?_
      obtain ⟨w163, e163, hM⟩ := bind_of hM
      refine g_callVi X (fun B adK => []) (s_X12_isName e163) cvX12_248 cM_0 rfl rfl (Nat.le_of_ble_eq_true rfl) ⟨by decide, by decide⟩ dX12_readOwners_163 ?_
      refine g_if_ne (tgt := 30) X dX12_readOwners_166 (by decide) (fun c166 => ?_) (fun c166 => ?_)
      · rw [if_neg c166] at hM
        refine g_mk [true, true, true, false, false] [some (.ref (B + 0)), some (.int x1), some (.int x2), none, none] rfl ?_
        exact ih30 x1 x2 w159 _ hM
      · rw [if_pos c166] at hM
        refine g_iconst X (v := 1) dX12_readOwners_169 (by decide) ?_
        cases hM
        exact g_zret X (Or.inr rfl) dX12_readOwners_170
    · rw [if_pos c123] at hM
      refine g_aload_n X dX12_readOwners_126 rfl ?_
      refine g_iconst X (v := 5) dX12_readOwners_127 (by decide) ?_
      obtain ⟨w128, e128, hM⟩ := bind_of hM
      refine g_callVi X (fun B adK => [.int 5]) (s_X12_fails e128) cvX12_234 cM_0 rfl rfl (Nat.le_of_ble_eq_true rfl) ⟨by decide, by decide⟩ dX12_readOwners_128 ?_
      obtain ⟨v131, e131, hM⟩ := bind_of hM
      obtain ⟨hv, rfl⟩ := bI_of e131
      cases hM
      exact g_zret X hv dX12_readOwners_131
  · rw [if_neg c86] at hM
    refine g_aload_n X dX12_readOwners_89 rfl ?_
    refine g_getR X fX12_32 cM_0 rfl dX12_readOwners_90 ?_
    refine g_iconst X (v := 4) dX12_readOwners_93 (by decide) ?_
    refine g_iload_n X dX12_readOwners_94 rfl ?_
    refine g_imul X dX12_readOwners_95 ?_
    refine g_iload X dX12_readOwners_96 rfl ?_
    refine g_iadd X dX12_readOwners_98 ?_
    obtain ⟨v99, e99, hM⟩ := bind_of hM
    refine g_iaload X e99 dX12_readOwners_99 ?_
    refine g_iload_n X dX12_readOwners_100 rfl ?_
    refine g_icmp_ne (tgt := 110) X dX12_readOwners_101 (by decide) (fun c101 => ?_) (fun c101 => ?_)
    · rw [if_neg c101] at hM
      refine g_iinc (d := 1) X [some (.ref (B + 0)), some (.int x1), some (.int x2), some (.int x3), some (.int (x4 + 1))] dX12_readOwners_110 (by decide) rfl (by decide) rfl ?_
      refine g_goto (tgt := 78) X dX12_readOwners_113 (by decide) ?_
      refine g_mk [true, true, true, true, true] [some (.ref (B + 0)), some (.int x1), some (.int x2), some (.int x3), some (.int (x4 + 1))] rfl ?_
      exact ih78 x1 x2 x3 (x4 + 1) u _ hM
    · rw [if_pos c101] at hM
      refine g_aload_n X dX12_readOwners_104 rfl ?_
      refine g_iconst X (v := 3) dX12_readOwners_105 (by decide) ?_
      obtain ⟨w106, e106, hM⟩ := bind_of hM
      refine g_callVi X (fun B adK => [.int 3]) (s_X12_fails e106) cvX12_234 cM_0 rfl rfl (Nat.le_of_ble_eq_true rfl) ⟨by decide, by decide⟩ dX12_readOwners_106 ?_
      obtain ⟨v109, e109, hM⟩ := bind_of hM
      obtain ⟨hv, rfl⟩ := bI_of e109
      cases hM
      exact g_zret X hv dX12_readOwners_109
theorem v_X12_readOwners_l78 {κ : gK} {B : Nat} (X : gX κ B skM cX12_readOwners 5 RX12 (some .boolean) 9 204) {k30 : Int32 → Int32 → gM → Option (Int32 × gM)} (ih30 : ∀ (x1 : Int32) (x2 : Int32) (u : gM) (w : (Int32 × gM)), k30 x1 x2 u = some w → gV κ B skM 5 ((some (.int w.1)), w.2) 30 [some (.ref (B + 0)), some (.int x1), some (.int x2), none, none] [] u) : ∀ (n : Nat) {x1 : Int32} {x2 : Int32} {x3 : Int32} {x4 : Int32} {u : gM} {w : (Int32 × gM)} (hM : X12_readOwners_l78 k30 n x1 x2 x3 x4 u = some w), gV κ B skM 5 ((some (.int w.1)), w.2) 78 [some (.ref (B + 0)), some (.int x1), some (.int x2), some (.int x3), some (.int x4)] [] u := by
  intro n
  induction n with
  | zero => intro x1 x2 x3 x4 u w hM; exact nomatch (show (none : Option (Int32 × gM)) = some w from hM)
  | succ n ihn => intro x1 x2 x3 x4 u w hM; exact v_X12_readOwners_b78 X ih30 (fun x1 x2 x3 x4 u w h => ihn h) hM
set_option maxRecDepth 20000 in
theorem v_X12_readOwners_b30 {κ : gK} {B : Nat} {u : gM} (X : gX κ B skM cX12_readOwners 5 RX12 (some .boolean) 9 204) {k30 : Int32 → Int32 → gM → Option (Int32 × gM)} (ih30 : ∀ (x1 : Int32) (x2 : Int32) (u : gM) (w : (Int32 × gM)), k30 x1 x2 u = some w → gV κ B skM 5 ((some (.int w.1)), w.2) 30 [some (.ref (B + 0)), some (.int x1), some (.int x2), none, none] [] u) {x1 : Int32} {x2 : Int32} {w : (Int32 × gM)} (hM : X12_readOwners_b30 k30 x1 x2 u = some w) : gV κ B skM 5 ((some (.int w.1)), w.2) 30 [some (.ref (B + 0)), some (.int x1), some (.int x2), none, none] [] u := by
  unfold X12_readOwners_b30 at hM
  refine g_aload_n X dX12_readOwners_30 rfl ?_
  obtain ⟨w31, e31, hM⟩ := bind_of hM
  refine g_callVi X (fun B adK => []) (s_X12_isName e31) cvX12_248 cM_0 rfl rfl (Nat.le_of_ble_eq_true rfl) ⟨by decide, by decide⟩ dX12_readOwners_31 ?_
  refine g_if_ne (tgt := 43) X dX12_readOwners_34 (by decide) (fun c34 => ?_) (fun c34 => ?_)
  · rw [if_neg c34] at hM
    refine g_aload_n X dX12_readOwners_43 rfl ?_
    refine g_getR X fX12_13 cM_0 rfl dX12_readOwners_44 ?_
    refine g_bipush X (v := 10) dX12_readOwners_47 (by decide) ?_
    refine g_aload_n X dX12_readOwners_49 rfl ?_
    refine g_getR X fX12_7 cM_0 rfl dX12_readOwners_50 ?_
    refine g_bipush X (v := 6) dX12_readOwners_53 (by decide) ?_
    obtain ⟨v55, e55, hM⟩ := bind_of hM
    refine g_iaload X e55 dX12_readOwners_55 ?_
    refine g_aload_n X dX12_readOwners_56 rfl ?_
    refine g_getJ X fX12_139 cM_0 rfl dX12_readOwners_57 ?_
    obtain ⟨w60, e60, hM⟩ := bind_of hM
    refine g_callSi X (fun B adK => [.ref (B + 2), .int 10, .int v55, .long (u.2 0 28)]) (s_X12_placeIn e60) cvX12_244 rfl rfl (Nat.le_of_ble_eq_true rfl) ⟨by decide, by decide⟩ dX12_readOwners_60 ?_
    refine g_istore_n X [some (.ref (B + 0)), some (.int x1), some (.int x2), some (.int w60), none] dX12_readOwners_63 (by decide) rfl ?_
    refine g_iload_n X dX12_readOwners_64 rfl ?_
    refine g_iconst X (v := (-1)) dX12_readOwners_65 (by decide) ?_
    refine g_icmp_ne (tgt := 75) X dX12_readOwners_66 (by decide) (fun c66 => ?_) (fun c66 => ?_)
    · rw [if_neg c66] at hM
      refine g_iconst X (v := 0) dX12_readOwners_75 (by decide) ?_
      refine g_istore X [some (.ref (B + 0)), some (.int x1), some (.int x2), some (.int w60), some (.int 0)] dX12_readOwners_76 (by decide) rfl ?_
      refine g_mk [true, true, true, true, true] [some (.ref (B + 0)), some (.int x1), some (.int x2), some (.int w60), some (.int 0)] rfl ?_
      exact v_X12_readOwners_l78 X ih30 fz hM
    · rw [if_pos c66] at hM
      refine g_aload_n X dX12_readOwners_69 rfl ?_
      refine g_iconst X (v := 3) dX12_readOwners_70 (by decide) ?_
      obtain ⟨w71, e71, hM⟩ := bind_of hM
      refine g_callVi X (fun B adK => [.int 3]) (s_X12_fails e71) cvX12_234 cM_0 rfl rfl (Nat.le_of_ble_eq_true rfl) ⟨by decide, by decide⟩ dX12_readOwners_71 ?_
      obtain ⟨v74, e74, hM⟩ := bind_of hM
      obtain ⟨hv, rfl⟩ := bI_of e74
      cases hM
      exact g_zret X hv dX12_readOwners_74
  · rw [if_pos c34] at hM
    refine g_aload_n X dX12_readOwners_37 rfl ?_
    refine g_iconst X (v := 1) dX12_readOwners_38 (by decide) ?_
    obtain ⟨w39, e39, hM⟩ := bind_of hM
    refine g_callVi X (fun B adK => [.int 1]) (s_X12_fails e39) cvX12_234 cM_0 rfl rfl (Nat.le_of_ble_eq_true rfl) ⟨by decide, by decide⟩ dX12_readOwners_39 ?_
    obtain ⟨v42, e42, hM⟩ := bind_of hM
    obtain ⟨hv, rfl⟩ := bI_of e42
    cases hM
    exact g_zret X hv dX12_readOwners_42
theorem v_X12_readOwners_l30 {κ : gK} {B : Nat} (X : gX κ B skM cX12_readOwners 5 RX12 (some .boolean) 9 204)   : ∀ (n : Nat) {x1 : Int32} {x2 : Int32} {u : gM} {w : (Int32 × gM)} (hM : X12_readOwners_l30  n x1 x2 u = some w), gV κ B skM 5 ((some (.int w.1)), w.2) 30 [some (.ref (B + 0)), some (.int x1), some (.int x2), none, none] [] u := by
  intro n
  induction n with
  | zero => intro x1 x2 u w hM; exact nomatch (show (none : Option (Int32 × gM)) = some w from hM)
  | succ n ihn => intro x1 x2 u w hM; exact v_X12_readOwners_b30 X  (fun x1 x2 u w h => ihn h) hM
set_option maxRecDepth 20000 in
theorem v_X12_readOwners_b29 {κ : gK} {B : Nat} {u : gM} (X : gX κ B skM cX12_readOwners 5 RX12 (some .boolean) 9 204)   {x1 : Int32} {s0 : Int32} {w : (Int32 × gM)} (hM : X12_readOwners_b29 x1 s0 u = some w) : gV κ B skM 5 ((some (.int w.1)), w.2) 29 [some (.ref (B + 0)), some (.int x1), none, none, none] [.int s0] u := by
  unfold X12_readOwners_b29 at hM
  refine g_istore_n X [some (.ref (B + 0)), some (.int x1), some (.int s0), none, none] dX12_readOwners_29 (by decide) rfl ?_
  refine g_mk [true, true, true, false, false] [some (.ref (B + 0)), some (.int x1), some (.int s0), none, none] rfl ?_
  exact v_X12_readOwners_l30 X  fz hM
set_option maxRecDepth 20000 in
theorem v_X12_readOwners {κ : gK} {B : Nat} {u : gM} (X : gX κ B skM cX12_readOwners 5 RX12 (some .boolean) 9 204)   {x1 : Int32} {w : (Int32 × gM)} (hM : X12_readOwners x1 u = some w) : gV κ B skM 5 ((some (.int w.1)), w.2) 0 [some (.ref (B + 0)), some (.int x1), none, none, none] [] u := by
  unfold X12_readOwners at hM
  refine g_aload_n X dX12_readOwners_0 rfl ?_
  refine g_getR X fX12_23 cM_0 rfl dX12_readOwners_1 ?_
  refine g_iload_n X dX12_readOwners_4 rfl ?_
  obtain ⟨v5, e5, hM⟩ := bind_of hM
  refine g_iaload X e5 dX12_readOwners_5 ?_
  refine g_iconst X (v := 1) dX12_readOwners_6 (by decide) ?_
  refine g_icmp_ne (tgt := 14) X dX12_readOwners_7 (by decide) (fun c7 => ?_) (fun c7 => ?_)
  · rw [if_neg c7] at hM
    refine g_aload_n X dX12_readOwners_14 rfl ?_
    refine g_getR X fX12_23 cM_0 rfl dX12_readOwners_15 ?_
    refine g_iload_n X dX12_readOwners_18 rfl ?_
    obtain ⟨v19, e19, hM⟩ := bind_of hM
    refine g_iaload X e19 dX12_readOwners_19 ?_
    refine g_iconst X (v := 2) dX12_readOwners_20 (by decide) ?_
    refine g_icmp_ne (tgt := 28) X dX12_readOwners_21 (by decide) (fun c21 => ?_) (fun c21 => ?_)
    · rw [if_neg c21] at hM
      refine g_iconst X (v := 1) dX12_readOwners_28 (by decide) ?_
      refine g_mk [true, true, false, false, false] [some (.ref (B + 0)), some (.int x1), none, none, none] rfl ?_
      exact v_X12_readOwners_b29 X  hM
    · rw [if_pos c21] at hM
      refine g_iconst X (v := 2) dX12_readOwners_24 (by decide) ?_
      refine g_goto (tgt := 29) X dX12_readOwners_25 (by decide) ?_
      refine g_mk [true, true, false, false, false] [some (.ref (B + 0)), some (.int x1), none, none, none] rfl ?_
      exact v_X12_readOwners_b29 X  hM
  · rw [if_pos c7] at hM
    refine g_iconst X (v := 4) dX12_readOwners_10 (by decide) ?_
    refine g_goto (tgt := 29) X dX12_readOwners_11 (by decide) ?_
    refine g_mk [true, true, false, false, false] [some (.ref (B + 0)), some (.int x1), none, none, none] rfl ?_
    exact v_X12_readOwners_b29 X  hM
theorem s_X12_readOwners {x1 : Int32} {u : gM} {w : (Int32 × gM)} (hM : X12_readOwners x1 u = some w) : gMet skM yX12_readOwners cX12_readOwners 5 (some .boolean) 9 204 (fun B adK => [.ref (B + 0), .int x1]) u ((fun _ => some (.int w.1)), w.2) := by
  refine gMet.of (by decide) (fun _ _ => Nat.le_of_ble_eq_true rfl) (fun κ B X => ?_)
  have X : gX κ B skM cX12_readOwners 5 RX12 (some .boolean) 9 204 := X
  refine g_mk [true, true, false, false, false] [some (.ref (B + 0)), some (.int x1), none, none, none] rfl ?_
  exact v_X12_readOwners X  hM
theorem fr_X12_readOwners_b78 {S : Nat → Prop} {u0 u : gM} {x1 : Int32} {x2 : Int32} {x3 : Int32} {x4 : Int32} (hs0 : S 0) (hs1 : S 7) (hs2 : S 8) {k30 : Int32 → Int32 → gM → Option (Int32 × gM)} {k78 : Int32 → Int32 → Int32 → Int32 → gM → Option (Int32 × gM)} (ik30 : ∀ (x1 : Int32) (x2 : Int32) (u : gM) (w : (Int32 × gM)), S 0 → S 7 → S 8 → off S u0 u → k30 x1 x2 u = some w → off S u0 w.2) (ik78 : ∀ (x1 : Int32) (x2 : Int32) (x3 : Int32) (x4 : Int32) (u : gM) (w : (Int32 × gM)), S 0 → S 7 → S 8 → off S u0 u → k78 x1 x2 x3 x4 u = some w → off S u0 w.2) {w : (Int32 × gM)} (hM : X12_readOwners_b78 k30 k78 x1 x2 x3 x4 u = some w) (h0 : off S u0 u) : off S u0 w.2 := by
  unfold X12_readOwners_b78 at hM
  obtain ⟨v85, e85, hM⟩ := bind_of hM
  by_cases c86 : v85 ≤ x4
  · rw [if_pos c86] at hM
    obtain ⟨v121, e121, hM⟩ := bind_of hM
    by_cases c123 : v121 = x2
    · rw [if_pos c123] at hM
      obtain ⟨w128, e128, hM⟩ := bind_of hM
      have h0 := fr_X12_fails hs0 e128 h0
      obtain ⟨v131, e131, hM⟩ := bind_of hM
      cases hM
      exact h0
    · rw [if_neg c123] at hM
      obtain ⟨v144, e144, hM⟩ := bind_of hM
      obtain ⟨u147, e147, hM⟩ := bind_of hM
      have h0 := off_sI hs2 e147 h0
      obtain ⟨v154, e154, hM⟩ := bind_of hM
      obtain ⟨u157, e157, hM⟩ := bind_of hM
      have h0 := off_sI hs1 e157 h0
      obtain ⟨w159, e159, hM⟩ := bind_of hM
      have h0 := fr_X12_next hs0 e159 h0
      obtain ⟨w163, e163, hM⟩ := bind_of hM
      by_cases c166 : w163 = 0
      · rw [if_pos c166] at hM
        cases hM
        exact h0
      · rw [if_neg c166] at hM
        exact ik30 _ _ _ _ hs0 hs1 hs2 h0 hM
  · rw [if_neg c86] at hM
    obtain ⟨v99, e99, hM⟩ := bind_of hM
    by_cases c101 : v99 = x3
    · rw [if_pos c101] at hM
      obtain ⟨w106, e106, hM⟩ := bind_of hM
      have h0 := fr_X12_fails hs0 e106 h0
      obtain ⟨v109, e109, hM⟩ := bind_of hM
      cases hM
      exact h0
    · rw [if_neg c101] at hM
      exact ik78 _ _ _ _ _ _ hs0 hs1 hs2 h0 hM
theorem fr_X12_readOwners_l78 {S : Nat → Prop} {u0 : gM} {k30 : Int32 → Int32 → gM → Option (Int32 × gM)} (ik30 : ∀ (x1 : Int32) (x2 : Int32) (u : gM) (w : (Int32 × gM)), S 0 → S 7 → S 8 → off S u0 u → k30 x1 x2 u = some w → off S u0 w.2) : ∀ (n : Nat) {x1 : Int32} {x2 : Int32} {x3 : Int32} {x4 : Int32} (hs0 : S 0) (hs1 : S 7) (hs2 : S 8) {u : gM} {w : (Int32 × gM)} (h0 : off S u0 u) (hM : X12_readOwners_l78 k30 n x1 x2 x3 x4 u = some w), off S u0 w.2 := by
  intro n
  induction n with
  | zero => intro x1 x2 x3 x4 hs0 hs1 hs2 u w h0 hM; exact nomatch (show (none : Option (Int32 × gM)) = some w from hM)
  | succ n ihn => intro x1 x2 x3 x4 hs0 hs1 hs2 u w h0 hM; exact fr_X12_readOwners_b78 hs0 hs1 hs2 ik30 (fun x1 x2 x3 x4 _ _ hs0 hs1 hs2 h0 h => ihn hs0 hs1 hs2 h0 h) hM h0
theorem fr_X12_readOwners_b30 {S : Nat → Prop} {u0 u : gM} {x1 : Int32} {x2 : Int32} (hs0 : S 0) (hs1 : S 7) (hs2 : S 8) {k30 : Int32 → Int32 → gM → Option (Int32 × gM)} (ik30 : ∀ (x1 : Int32) (x2 : Int32) (u : gM) (w : (Int32 × gM)), S 0 → S 7 → S 8 → off S u0 u → k30 x1 x2 u = some w → off S u0 w.2) {w : (Int32 × gM)} (hM : X12_readOwners_b30 k30 x1 x2 u = some w) (h0 : off S u0 u) : off S u0 w.2 := by
  unfold X12_readOwners_b30 at hM
  obtain ⟨w31, e31, hM⟩ := bind_of hM
  by_cases c34 : w31 = 0
  · rw [if_pos c34] at hM
    obtain ⟨w39, e39, hM⟩ := bind_of hM
    have h0 := fr_X12_fails hs0 e39 h0
    obtain ⟨v42, e42, hM⟩ := bind_of hM
    cases hM
    exact h0
  · rw [if_neg c34] at hM
    obtain ⟨v55, e55, hM⟩ := bind_of hM
    obtain ⟨w60, e60, hM⟩ := bind_of hM
    by_cases c66 : w60 = (-1)
    · rw [if_pos c66] at hM
      obtain ⟨w71, e71, hM⟩ := bind_of hM
      have h0 := fr_X12_fails hs0 e71 h0
      obtain ⟨v74, e74, hM⟩ := bind_of hM
      cases hM
      exact h0
    · rw [if_neg c66] at hM
      exact fr_X12_readOwners_l78 ik30 fz hs0 hs1 hs2 h0 hM
theorem fr_X12_readOwners_l30 {S : Nat → Prop} {u0 : gM}   : ∀ (n : Nat) {x1 : Int32} {x2 : Int32} (hs0 : S 0) (hs1 : S 7) (hs2 : S 8) {u : gM} {w : (Int32 × gM)} (h0 : off S u0 u) (hM : X12_readOwners_l30  n x1 x2 u = some w), off S u0 w.2 := by
  intro n
  induction n with
  | zero => intro x1 x2 hs0 hs1 hs2 u w h0 hM; exact nomatch (show (none : Option (Int32 × gM)) = some w from hM)
  | succ n ihn => intro x1 x2 hs0 hs1 hs2 u w h0 hM; exact fr_X12_readOwners_b30 hs0 hs1 hs2  (fun x1 x2 _ _ hs0 hs1 hs2 h0 h => ihn hs0 hs1 hs2 h0 h) hM h0
theorem fr_X12_readOwners_b29 {S : Nat → Prop} {u0 u : gM} {x1 : Int32} {s0 : Int32} (hs0 : S 0) (hs1 : S 7) (hs2 : S 8)   {w : (Int32 × gM)} (hM : X12_readOwners_b29 x1 s0 u = some w) (h0 : off S u0 u) : off S u0 w.2 := by
  unfold X12_readOwners_b29 at hM
  exact fr_X12_readOwners_l30  fz hs0 hs1 hs2 h0 hM
theorem fr_X12_readOwners {S : Nat → Prop} {u0 u : gM} {x1 : Int32} (hs0 : S 0) (hs1 : S 7) (hs2 : S 8)   {w : (Int32 × gM)} (hM : X12_readOwners x1 u = some w) (h0 : off S u0 u) : off S u0 w.2 := by
  unfold X12_readOwners at hM
  obtain ⟨v5, e5, hM⟩ := bind_of hM
  by_cases c7 : v5 = 1
  · rw [if_pos c7] at hM
    exact fr_X12_readOwners_b29 hs0 hs1 hs2  hM h0
  · rw [if_neg c7] at hM
    obtain ⟨v19, e19, hM⟩ := bind_of hM
    by_cases c21 : v19 = 2
    · rw [if_pos c21] at hM
      exact fr_X12_readOwners_b29 hs0 hs1 hs2  hM h0
    · rw [if_neg c21] at hM
      exact fr_X12_readOwners_b29 hs0 hs1 hs2  hM h0
/-! CoverDeskModel.readHeirs(I)Z -/
theorem dX12_readHeirs_0 : decode cX12_readHeirs 0 = .ok (.aload_n 0, 1) := by decide +kernel
theorem dX12_readHeirs_1 : decode cX12_readHeirs 1 = .ok (.invokevirtual 248, 3) := by decide +kernel
theorem dX12_readHeirs_4 : decode cX12_readHeirs 4 = .ok (.ifCond .ne 9, 3) := by decide +kernel
theorem dX12_readHeirs_7 : decode cX12_readHeirs 7 = .ok (.aload_n 0, 1) := by decide +kernel
theorem dX12_readHeirs_8 : decode cX12_readHeirs 8 = .ok (.iconst 1, 1) := by decide +kernel
theorem dX12_readHeirs_9 : decode cX12_readHeirs 9 = .ok (.invokevirtual 234, 3) := by decide +kernel
theorem dX12_readHeirs_12 : decode cX12_readHeirs 12 = .ok (.ireturn, 1) := by decide +kernel
theorem dX12_readHeirs_13 : decode cX12_readHeirs 13 = .ok (.aload_n 0, 1) := by decide +kernel
theorem dX12_readHeirs_14 : decode cX12_readHeirs 14 = .ok (.getfield 38, 3) := by decide +kernel
theorem dX12_readHeirs_17 : decode cX12_readHeirs 17 = .ok (.bipush 6, 2) := by decide +kernel
theorem dX12_readHeirs_19 : decode cX12_readHeirs 19 = .ok (.iload_n 1, 1) := by decide +kernel
theorem dX12_readHeirs_20 : decode cX12_readHeirs 20 = .ok (.imul, 1) := by decide +kernel
theorem dX12_readHeirs_21 : decode cX12_readHeirs 21 = .ok (.aload_n 0, 1) := by decide +kernel
theorem dX12_readHeirs_22 : decode cX12_readHeirs 22 = .ok (.getfield 35, 3) := by decide +kernel
theorem dX12_readHeirs_25 : decode cX12_readHeirs 25 = .ok (.iload_n 1, 1) := by decide +kernel
theorem dX12_readHeirs_26 : decode cX12_readHeirs 26 = .ok (.iaload, 1) := by decide +kernel
theorem dX12_readHeirs_27 : decode cX12_readHeirs 27 = .ok (.aload_n 0, 1) := by decide +kernel
theorem dX12_readHeirs_28 : decode cX12_readHeirs 28 = .ok (.getfield 139, 3) := by decide +kernel
theorem dX12_readHeirs_31 : decode cX12_readHeirs 31 = .ok (.invokestatic 244, 3) := by decide +kernel
theorem dX12_readHeirs_34 : decode cX12_readHeirs 34 = .ok (.iconst (-1), 1) := by decide +kernel
theorem dX12_readHeirs_35 : decode cX12_readHeirs 35 = .ok (.if_icmp .eq 9, 3) := by decide +kernel
theorem dX12_readHeirs_38 : decode cX12_readHeirs 38 = .ok (.aload_n 0, 1) := by decide +kernel
theorem dX12_readHeirs_39 : decode cX12_readHeirs 39 = .ok (.iconst 3, 1) := by decide +kernel
theorem dX12_readHeirs_40 : decode cX12_readHeirs 40 = .ok (.invokevirtual 234, 3) := by decide +kernel
theorem dX12_readHeirs_43 : decode cX12_readHeirs 43 = .ok (.ireturn, 1) := by decide +kernel
theorem dX12_readHeirs_44 : decode cX12_readHeirs 44 = .ok (.aload_n 0, 1) := by decide +kernel
theorem dX12_readHeirs_45 : decode cX12_readHeirs 45 = .ok (.getfield 35, 3) := by decide +kernel
theorem dX12_readHeirs_48 : decode cX12_readHeirs 48 = .ok (.iload_n 1, 1) := by decide +kernel
theorem dX12_readHeirs_49 : decode cX12_readHeirs 49 = .ok (.iaload, 1) := by decide +kernel
theorem dX12_readHeirs_50 : decode cX12_readHeirs 50 = .ok (.bipush 6, 2) := by decide +kernel
theorem dX12_readHeirs_52 : decode cX12_readHeirs 52 = .ok (.if_icmp .ne 9, 3) := by decide +kernel
theorem dX12_readHeirs_55 : decode cX12_readHeirs 55 = .ok (.aload_n 0, 1) := by decide +kernel
theorem dX12_readHeirs_56 : decode cX12_readHeirs 56 = .ok (.iconst 5, 1) := by decide +kernel
theorem dX12_readHeirs_57 : decode cX12_readHeirs 57 = .ok (.invokevirtual 234, 3) := by decide +kernel
theorem dX12_readHeirs_60 : decode cX12_readHeirs 60 = .ok (.ireturn, 1) := by decide +kernel
theorem dX12_readHeirs_61 : decode cX12_readHeirs 61 = .ok (.aload_n 0, 1) := by decide +kernel
theorem dX12_readHeirs_62 : decode cX12_readHeirs 62 = .ok (.getfield 38, 3) := by decide +kernel
theorem dX12_readHeirs_65 : decode cX12_readHeirs 65 = .ok (.bipush 6, 2) := by decide +kernel
theorem dX12_readHeirs_67 : decode cX12_readHeirs 67 = .ok (.iload_n 1, 1) := by decide +kernel
theorem dX12_readHeirs_68 : decode cX12_readHeirs 68 = .ok (.imul, 1) := by decide +kernel
theorem dX12_readHeirs_69 : decode cX12_readHeirs 69 = .ok (.aload_n 0, 1) := by decide +kernel
theorem dX12_readHeirs_70 : decode cX12_readHeirs 70 = .ok (.getfield 35, 3) := by decide +kernel
theorem dX12_readHeirs_73 : decode cX12_readHeirs 73 = .ok (.iload_n 1, 1) := by decide +kernel
theorem dX12_readHeirs_74 : decode cX12_readHeirs 74 = .ok (.iaload, 1) := by decide +kernel
theorem dX12_readHeirs_75 : decode cX12_readHeirs 75 = .ok (.iadd, 1) := by decide +kernel
theorem dX12_readHeirs_76 : decode cX12_readHeirs 76 = .ok (.aload_n 0, 1) := by decide +kernel
theorem dX12_readHeirs_77 : decode cX12_readHeirs 77 = .ok (.getfield 139, 3) := by decide +kernel
theorem dX12_readHeirs_80 : decode cX12_readHeirs 80 = .ok (.lastore, 1) := by decide +kernel
theorem dX12_readHeirs_81 : decode cX12_readHeirs 81 = .ok (.aload_n 0, 1) := by decide +kernel
theorem dX12_readHeirs_82 : decode cX12_readHeirs 82 = .ok (.getfield 35, 3) := by decide +kernel
theorem dX12_readHeirs_85 : decode cX12_readHeirs 85 = .ok (.iload_n 1, 1) := by decide +kernel
theorem dX12_readHeirs_86 : decode cX12_readHeirs 86 = .ok (.dup2, 1) := by decide +kernel
theorem dX12_readHeirs_87 : decode cX12_readHeirs 87 = .ok (.iaload, 1) := by decide +kernel
theorem dX12_readHeirs_88 : decode cX12_readHeirs 88 = .ok (.iconst 1, 1) := by decide +kernel
theorem dX12_readHeirs_89 : decode cX12_readHeirs 89 = .ok (.iadd, 1) := by decide +kernel
theorem dX12_readHeirs_90 : decode cX12_readHeirs 90 = .ok (.iastore, 1) := by decide +kernel
theorem dX12_readHeirs_91 : decode cX12_readHeirs 91 = .ok (.aload_n 0, 1) := by decide +kernel
theorem dX12_readHeirs_92 : decode cX12_readHeirs 92 = .ok (.invokevirtual 238, 3) := by decide +kernel
theorem dX12_readHeirs_95 : decode cX12_readHeirs 95 = .ok (.aload_n 0, 1) := by decide +kernel
theorem dX12_readHeirs_96 : decode cX12_readHeirs 96 = .ok (.invokevirtual 248, 3) := by decide +kernel
theorem dX12_readHeirs_99 : decode cX12_readHeirs 99 = .ok (.ifCond .ne (-99), 3) := by decide +kernel
theorem dX12_readHeirs_102 : decode cX12_readHeirs 102 = .ok (.iconst 1, 1) := by decide +kernel
theorem dX12_readHeirs_103 : decode cX12_readHeirs 103 = .ok (.ireturn, 1) := by decide +kernel
def X12_readHeirs_b0 (k0 : Int32 → gM → Option (Int32 × gM)) (x1 : Int32) (u : gM) : Option (Int32 × gM) :=
((X12_isName u).bind fun w1 => (if w1 = 0 then ((X12_fails 1 u).bind fun w9 => ((bI w9.1).bind fun v12 => some (v12, w9.2)))
  else ((aI skM u 9 x1).bind fun v26 => ((X12_placeIn u 10 (6 * x1) v26 (u.2 0 28)).bind fun w31 => (if w31 = (-1) then ((aI skM u 9 x1).bind fun v49 => (if v49 = 6 then ((X12_fails 5 u).bind fun w57 => ((bI w57.1).bind fun v60 => some (v60, w57.2)))
      else ((aI skM u 9 x1).bind fun v74 => ((sJ skM u 10 ((6 * x1) + v74) (u.2 0 28)).bind fun u80 => ((aI skM u80 9 x1).bind fun v87 => ((sI skM u80 9 x1 (v87 + 1)).bind fun u90 => ((X12_next u90).bind fun w92 => ((X12_isName w92).bind fun w96 => (if w96 = 0 then some (1, w92)
        else (k0 x1 w92))))))))))
    else ((X12_fails 3 u).bind fun w40 => ((bI w40.1).bind fun v43 => some (v43, w40.2))))))))
def X12_readHeirs_l0  : Nat → Int32 → gM → Option (Int32 × gM)
  | 0, _, _ => none
  | n + 1, x1, u => X12_readHeirs_b0  (X12_readHeirs_l0  n) x1 u
def X12_readHeirs (x1 : Int32) (u : gM) : Option (Int32 × gM) := X12_readHeirs_l0 fz x1 u
set_option maxRecDepth 20000 in
theorem v_X12_readHeirs_b0 {κ : gK} {B : Nat} {u : gM} (X : gX κ B skM cX12_readHeirs 2 RX12 (some .boolean) 9 204) {k0 : Int32 → gM → Option (Int32 × gM)} (ih0 : ∀ (x1 : Int32) (u : gM) (w : (Int32 × gM)), k0 x1 u = some w → gV κ B skM 2 ((some (.int w.1)), w.2) 0 [some (.ref (B + 0)), some (.int x1)] [] u) {x1 : Int32} {w : (Int32 × gM)} (hM : X12_readHeirs_b0 k0 x1 u = some w) : gV κ B skM 2 ((some (.int w.1)), w.2) 0 [some (.ref (B + 0)), some (.int x1)] [] u := by
  unfold X12_readHeirs_b0 at hM
  refine g_aload_n X dX12_readHeirs_0 rfl ?_
  obtain ⟨w1, e1, hM⟩ := bind_of hM
  refine g_callVi X (fun B adK => []) (s_X12_isName e1) cvX12_248 cM_0 rfl rfl (Nat.le_of_ble_eq_true rfl) ⟨by decide, by decide⟩ dX12_readHeirs_1 ?_
  refine g_if_ne (tgt := 13) X dX12_readHeirs_4 (by decide) (fun c4 => ?_) (fun c4 => ?_)
  · rw [if_neg c4] at hM
    refine g_aload_n X dX12_readHeirs_13 rfl ?_
    refine g_getR X fX12_38 cM_0 rfl dX12_readHeirs_14 ?_
    refine g_bipush X (v := 6) dX12_readHeirs_17 (by decide) ?_
    refine g_iload_n X dX12_readHeirs_19 rfl ?_
    refine g_imul X dX12_readHeirs_20 ?_
    refine g_aload_n X dX12_readHeirs_21 rfl ?_
    refine g_getR X fX12_35 cM_0 rfl dX12_readHeirs_22 ?_
    refine g_iload_n X dX12_readHeirs_25 rfl ?_
    obtain ⟨v26, e26, hM⟩ := bind_of hM
    refine g_iaload X e26 dX12_readHeirs_26 ?_
    refine g_aload_n X dX12_readHeirs_27 rfl ?_
    refine g_getJ X fX12_139 cM_0 rfl dX12_readHeirs_28 ?_
    obtain ⟨w31, e31, hM⟩ := bind_of hM
    refine g_callSi X (fun B adK => [.ref (B + 10), .int (6 * x1), .int v26, .long (u.2 0 28)]) (s_X12_placeIn e31) cvX12_244 rfl rfl (Nat.le_of_ble_eq_true rfl) ⟨by decide, by decide⟩ dX12_readHeirs_31 ?_
    refine g_iconst X (v := (-1)) dX12_readHeirs_34 (by decide) ?_
    refine g_icmp_eq (tgt := 44) X dX12_readHeirs_35 (by decide) (fun c35 => ?_) (fun c35 => ?_)
    · rw [if_pos c35] at hM
      refine g_aload_n X dX12_readHeirs_44 rfl ?_
      refine g_getR X fX12_35 cM_0 rfl dX12_readHeirs_45 ?_
      refine g_iload_n X dX12_readHeirs_48 rfl ?_
      obtain ⟨v49, e49, hM⟩ := bind_of hM
      refine g_iaload X e49 dX12_readHeirs_49 ?_
      refine g_bipush X (v := 6) dX12_readHeirs_50 (by decide) ?_
      refine g_icmp_ne (tgt := 61) X dX12_readHeirs_52 (by decide) (fun c52 => ?_) (fun c52 => ?_)
      · rw [if_neg c52] at hM
        refine g_aload_n X dX12_readHeirs_61 rfl ?_
        refine g_getR X fX12_38 cM_0 rfl dX12_readHeirs_62 ?_
        refine g_bipush X (v := 6) dX12_readHeirs_65 (by decide) ?_
        refine g_iload_n X dX12_readHeirs_67 rfl ?_
        refine g_imul X dX12_readHeirs_68 ?_
        refine g_aload_n X dX12_readHeirs_69 rfl ?_
        refine g_getR X fX12_35 cM_0 rfl dX12_readHeirs_70 ?_
        refine g_iload_n X dX12_readHeirs_73 rfl ?_
        obtain ⟨v74, e74, hM⟩ := bind_of hM
        refine g_iaload X e74 dX12_readHeirs_74 ?_
        refine g_iadd X dX12_readHeirs_75 ?_
        refine g_aload_n X dX12_readHeirs_76 rfl ?_
        refine g_getJ X fX12_139 cM_0 rfl dX12_readHeirs_77 ?_
        obtain ⟨u80, e80, hM⟩ := bind_of hM
        refine g_lastore X e80 dX12_readHeirs_80 ?_
        refine g_aload_n X dX12_readHeirs_81 rfl ?_
        refine g_getR X fX12_35 cM_0 rfl dX12_readHeirs_82 ?_
        refine g_iload_n X dX12_readHeirs_85 rfl ?_
        refine g_dup2_11 X rfl rfl dX12_readHeirs_86 ?_
        obtain ⟨v87, e87, hM⟩ := bind_of hM
        refine g_iaload X e87 dX12_readHeirs_87 ?_
        refine g_iconst X (v := 1) dX12_readHeirs_88 (by decide) ?_
        refine g_iadd X dX12_readHeirs_89 ?_
        obtain ⟨u90, e90, hM⟩ := bind_of hM
        refine g_iastore X e90 dX12_readHeirs_90 ?_
        refine g_aload_n X dX12_readHeirs_91 rfl ?_
        obtain ⟨w92, e92, hM⟩ := bind_of hM
        refine g_callVv X (fun B adK => []) (s_X12_next e92) cvX12_238 cM_0 rfl rfl (Nat.le_of_ble_eq_true rfl) ⟨by decide, by decide⟩ dX12_readHeirs_92 ?_
        refine g_aload_n X dX12_readHeirs_95 rfl ?_
        obtain ⟨w96, e96, hM⟩ := bind_of hM
        refine g_callVi X (fun B adK => []) (s_X12_isName e96) cvX12_248 cM_0 rfl rfl (Nat.le_of_ble_eq_true rfl) ⟨by decide, by decide⟩ dX12_readHeirs_96 ?_
        refine g_if_ne (tgt := 0) X dX12_readHeirs_99 (by decide) (fun c99 => ?_) (fun c99 => ?_)
        · rw [if_neg c99] at hM
          refine g_mk [true, true] [some (.ref (B + 0)), some (.int x1)] rfl ?_
          exact ih0 x1 w92 _ hM
        · rw [if_pos c99] at hM
          refine g_iconst X (v := 1) dX12_readHeirs_102 (by decide) ?_
          cases hM
          exact g_zret X (Or.inr rfl) dX12_readHeirs_103
      · rw [if_pos c52] at hM
        refine g_aload_n X dX12_readHeirs_55 rfl ?_
        refine g_iconst X (v := 5) dX12_readHeirs_56 (by decide) ?_
        obtain ⟨w57, e57, hM⟩ := bind_of hM
        refine g_callVi X (fun B adK => [.int 5]) (s_X12_fails e57) cvX12_234 cM_0 rfl rfl (Nat.le_of_ble_eq_true rfl) ⟨by decide, by decide⟩ dX12_readHeirs_57 ?_
        obtain ⟨v60, e60, hM⟩ := bind_of hM
        obtain ⟨hv, rfl⟩ := bI_of e60
        cases hM
        exact g_zret X hv dX12_readHeirs_60
    · rw [if_neg c35] at hM
      refine g_aload_n X dX12_readHeirs_38 rfl ?_
      refine g_iconst X (v := 3) dX12_readHeirs_39 (by decide) ?_
      obtain ⟨w40, e40, hM⟩ := bind_of hM
      refine g_callVi X (fun B adK => [.int 3]) (s_X12_fails e40) cvX12_234 cM_0 rfl rfl (Nat.le_of_ble_eq_true rfl) ⟨by decide, by decide⟩ dX12_readHeirs_40 ?_
      obtain ⟨v43, e43, hM⟩ := bind_of hM
      obtain ⟨hv, rfl⟩ := bI_of e43
      cases hM
      exact g_zret X hv dX12_readHeirs_43
  · rw [if_pos c4] at hM
    refine g_aload_n X dX12_readHeirs_7 rfl ?_
    refine g_iconst X (v := 1) dX12_readHeirs_8 (by decide) ?_
    obtain ⟨w9, e9, hM⟩ := bind_of hM
    refine g_callVi X (fun B adK => [.int 1]) (s_X12_fails e9) cvX12_234 cM_0 rfl rfl (Nat.le_of_ble_eq_true rfl) ⟨by decide, by decide⟩ dX12_readHeirs_9 ?_
    obtain ⟨v12, e12, hM⟩ := bind_of hM
    obtain ⟨hv, rfl⟩ := bI_of e12
    cases hM
    exact g_zret X hv dX12_readHeirs_12
theorem v_X12_readHeirs_l0 {κ : gK} {B : Nat} (X : gX κ B skM cX12_readHeirs 2 RX12 (some .boolean) 9 204)   : ∀ (n : Nat) {x1 : Int32} {u : gM} {w : (Int32 × gM)} (hM : X12_readHeirs_l0  n x1 u = some w), gV κ B skM 2 ((some (.int w.1)), w.2) 0 [some (.ref (B + 0)), some (.int x1)] [] u := by
  intro n
  induction n with
  | zero => intro x1 u w hM; exact nomatch (show (none : Option (Int32 × gM)) = some w from hM)
  | succ n ihn => intro x1 u w hM; exact v_X12_readHeirs_b0 X  (fun x1 u w h => ihn h) hM
theorem s_X12_readHeirs {x1 : Int32} {u : gM} {w : (Int32 × gM)} (hM : X12_readHeirs x1 u = some w) : gMet skM yX12_readHeirs cX12_readHeirs 2 (some .boolean) 9 204 (fun B adK => [.ref (B + 0), .int x1]) u ((fun _ => some (.int w.1)), w.2) := by
  refine gMet.of (by decide) (fun _ _ => Nat.le_of_ble_eq_true rfl) (fun κ B X => ?_)
  have X : gX κ B skM cX12_readHeirs 2 RX12 (some .boolean) 9 204 := X
  refine g_mk [true, true] [some (.ref (B + 0)), some (.int x1)] rfl ?_
  exact v_X12_readHeirs_l0 X fz hM
theorem fr_X12_readHeirs_b0 {S : Nat → Prop} {u0 u : gM} {x1 : Int32} (hs0 : S 0) (hs1 : S 10) (hs2 : S 9) {k0 : Int32 → gM → Option (Int32 × gM)} (ik0 : ∀ (x1 : Int32) (u : gM) (w : (Int32 × gM)), S 0 → S 10 → S 9 → off S u0 u → k0 x1 u = some w → off S u0 w.2) {w : (Int32 × gM)} (hM : X12_readHeirs_b0 k0 x1 u = some w) (h0 : off S u0 u) : off S u0 w.2 := by
  unfold X12_readHeirs_b0 at hM
  obtain ⟨w1, e1, hM⟩ := bind_of hM
  by_cases c4 : w1 = 0
  · rw [if_pos c4] at hM
    obtain ⟨w9, e9, hM⟩ := bind_of hM
    have h0 := fr_X12_fails hs0 e9 h0
    obtain ⟨v12, e12, hM⟩ := bind_of hM
    cases hM
    exact h0
  · rw [if_neg c4] at hM
    obtain ⟨v26, e26, hM⟩ := bind_of hM
    obtain ⟨w31, e31, hM⟩ := bind_of hM
    by_cases c35 : w31 = (-1)
    · rw [if_pos c35] at hM
      obtain ⟨v49, e49, hM⟩ := bind_of hM
      by_cases c52 : v49 = 6
      · rw [if_pos c52] at hM
        obtain ⟨w57, e57, hM⟩ := bind_of hM
        have h0 := fr_X12_fails hs0 e57 h0
        obtain ⟨v60, e60, hM⟩ := bind_of hM
        cases hM
        exact h0
      · rw [if_neg c52] at hM
        obtain ⟨v74, e74, hM⟩ := bind_of hM
        obtain ⟨u80, e80, hM⟩ := bind_of hM
        have h0 := off_sJ hs1 e80 h0
        obtain ⟨v87, e87, hM⟩ := bind_of hM
        obtain ⟨u90, e90, hM⟩ := bind_of hM
        have h0 := off_sI hs2 e90 h0
        obtain ⟨w92, e92, hM⟩ := bind_of hM
        have h0 := fr_X12_next hs0 e92 h0
        obtain ⟨w96, e96, hM⟩ := bind_of hM
        by_cases c99 : w96 = 0
        · rw [if_pos c99] at hM
          cases hM
          exact h0
        · rw [if_neg c99] at hM
          exact ik0 _ _ _ hs0 hs1 hs2 h0 hM
    · rw [if_neg c35] at hM
      obtain ⟨w40, e40, hM⟩ := bind_of hM
      have h0 := fr_X12_fails hs0 e40 h0
      obtain ⟨v43, e43, hM⟩ := bind_of hM
      cases hM
      exact h0
theorem fr_X12_readHeirs_l0 {S : Nat → Prop} {u0 : gM}   : ∀ (n : Nat) {x1 : Int32} (hs0 : S 0) (hs1 : S 10) (hs2 : S 9) {u : gM} {w : (Int32 × gM)} (h0 : off S u0 u) (hM : X12_readHeirs_l0  n x1 u = some w), off S u0 w.2 := by
  intro n
  induction n with
  | zero => intro x1 hs0 hs1 hs2 u w h0 hM; exact nomatch (show (none : Option (Int32 × gM)) = some w from hM)
  | succ n ihn => intro x1 hs0 hs1 hs2 u w h0 hM; exact fr_X12_readHeirs_b0 hs0 hs1 hs2  (fun x1 _ _ hs0 hs1 hs2 h0 h => ihn hs0 hs1 hs2 h0 h) hM h0
theorem fr_X12_readHeirs {S : Nat → Prop} {u0 u : gM} {x1 : Int32} (hs0 : S 0) (hs1 : S 10) (hs2 : S 9) {w : (Int32 × gM)} (hM : X12_readHeirs x1 u = some w) (h0 : off S u0 u) : off S u0 w.2 := fr_X12_readHeirs_l0 fz hs0 hs1 hs2 h0 hM
/-! CoverDeskModel.readAccount()Z -/
theorem dX12_readAccount_0 : decode cX12_readAccount 0 = .ok (.aload_n 0, 1) := by decide +kernel
theorem dX12_readAccount_1 : decode cX12_readAccount 1 = .ok (.invokevirtual 213, 3) := by decide +kernel
theorem dX12_readAccount_4 : decode cX12_readAccount 4 = .ok (.istore_n 1, 1) := by decide +kernel
theorem dX12_readAccount_5 : decode cX12_readAccount 5 = .ok (.aload_n 0, 1) := by decide +kernel
theorem dX12_readAccount_6 : decode cX12_readAccount 6 = .ok (.invokevirtual 238, 3) := by decide +kernel
theorem dX12_readAccount_9 : decode cX12_readAccount 9 = .ok (.aload_n 0, 1) := by decide +kernel
theorem dX12_readAccount_10 : decode cX12_readAccount 10 = .ok (.aload_n 0, 1) := by decide +kernel
theorem dX12_readAccount_11 : decode cX12_readAccount 11 = .ok (.getfield 20, 3) := by decide +kernel
theorem dX12_readAccount_14 : decode cX12_readAccount 14 = .ok (.iconst 2, 1) := by decide +kernel
theorem dX12_readAccount_15 : decode cX12_readAccount 15 = .ok (.bipush 24, 2) := by decide +kernel
theorem dX12_readAccount_17 : decode cX12_readAccount 17 = .ok (.invokevirtual 254, 3) := by decide +kernel
theorem dX12_readAccount_20 : decode cX12_readAccount 20 = .ok (.ifCond .ne 5, 3) := by decide +kernel
theorem dX12_readAccount_23 : decode cX12_readAccount 23 = .ok (.iconst 0, 1) := by decide +kernel
theorem dX12_readAccount_24 : decode cX12_readAccount 24 = .ok (.ireturn, 1) := by decide +kernel
theorem dX12_readAccount_25 : decode cX12_readAccount 25 = .ok (.bipush 24, 2) := by decide +kernel
theorem dX12_readAccount_27 : decode cX12_readAccount 27 = .ok (.aload_n 0, 1) := by decide +kernel
theorem dX12_readAccount_28 : decode cX12_readAccount 28 = .ok (.getfield 7, 3) := by decide +kernel
theorem dX12_readAccount_31 : decode cX12_readAccount 31 = .ok (.bipush 8, 2) := by decide +kernel
theorem dX12_readAccount_33 : decode cX12_readAccount 33 = .ok (.iaload, 1) := by decide +kernel
theorem dX12_readAccount_34 : decode cX12_readAccount 34 = .ok (.iadd, 1) := by decide +kernel
theorem dX12_readAccount_35 : decode cX12_readAccount 35 = .ok (.istore_n 2, 1) := by decide +kernel
theorem dX12_readAccount_36 : decode cX12_readAccount 36 = .ok (.aload_n 0, 1) := by decide +kernel
theorem dX12_readAccount_37 : decode cX12_readAccount 37 = .ok (.getfield 23, 3) := by decide +kernel
theorem dX12_readAccount_40 : decode cX12_readAccount 40 = .ok (.iload_n 2, 1) := by decide +kernel
theorem dX12_readAccount_41 : decode cX12_readAccount 41 = .ok (.iload_n 1, 1) := by decide +kernel
theorem dX12_readAccount_42 : decode cX12_readAccount 42 = .ok (.iastore, 1) := by decide +kernel
theorem dX12_readAccount_43 : decode cX12_readAccount 43 = .ok (.aload_n 0, 1) := by decide +kernel
theorem dX12_readAccount_44 : decode cX12_readAccount 44 = .ok (.getfield 29, 3) := by decide +kernel
theorem dX12_readAccount_47 : decode cX12_readAccount 47 = .ok (.iload_n 2, 1) := by decide +kernel
theorem dX12_readAccount_48 : decode cX12_readAccount 48 = .ok (.iconst 0, 1) := by decide +kernel
theorem dX12_readAccount_49 : decode cX12_readAccount 49 = .ok (.iastore, 1) := by decide +kernel
theorem dX12_readAccount_50 : decode cX12_readAccount 50 = .ok (.aload_n 0, 1) := by decide +kernel
theorem dX12_readAccount_51 : decode cX12_readAccount 51 = .ok (.getfield 35, 3) := by decide +kernel
theorem dX12_readAccount_54 : decode cX12_readAccount 54 = .ok (.iload_n 2, 1) := by decide +kernel
theorem dX12_readAccount_55 : decode cX12_readAccount 55 = .ok (.iconst 0, 1) := by decide +kernel
theorem dX12_readAccount_56 : decode cX12_readAccount 56 = .ok (.iastore, 1) := by decide +kernel
theorem dX12_readAccount_57 : decode cX12_readAccount 57 = .ok (.aload_n 0, 1) := by decide +kernel
theorem dX12_readAccount_58 : decode cX12_readAccount 58 = .ok (.getfield 44, 3) := by decide +kernel
theorem dX12_readAccount_61 : decode cX12_readAccount 61 = .ok (.iload_n 2, 1) := by decide +kernel
theorem dX12_readAccount_62 : decode cX12_readAccount 62 = .ok (.iconst 0, 1) := by decide +kernel
theorem dX12_readAccount_63 : decode cX12_readAccount 63 = .ok (.iastore, 1) := by decide +kernel
theorem dX12_readAccount_64 : decode cX12_readAccount 64 = .ok (.aload_n 0, 1) := by decide +kernel
theorem dX12_readAccount_65 : decode cX12_readAccount 65 = .ok (.ldc 204, 2) := by decide +kernel
theorem dX12_readAccount_67 : decode cX12_readAccount 67 = .ok (.invokevirtual 278, 3) := by decide +kernel
theorem dX12_readAccount_70 : decode cX12_readAccount 70 = .ok (.ifCond .eq 17, 3) := by decide +kernel
theorem dX12_readAccount_73 : decode cX12_readAccount 73 = .ok (.aload_n 0, 1) := by decide +kernel
theorem dX12_readAccount_74 : decode cX12_readAccount 74 = .ok (.aload_n 0, 1) := by decide +kernel
theorem dX12_readAccount_75 : decode cX12_readAccount 75 = .ok (.getfield 17, 3) := by decide +kernel
theorem dX12_readAccount_78 : decode cX12_readAccount 78 = .ok (.iconst 1, 1) := by decide +kernel
theorem dX12_readAccount_79 : decode cX12_readAccount 79 = .ok (.bipush 6, 2) := by decide +kernel
theorem dX12_readAccount_81 : decode cX12_readAccount 81 = .ok (.invokevirtual 275, 3) := by decide +kernel
theorem dX12_readAccount_84 : decode cX12_readAccount 84 = .ok (.ifCond .ne 5, 3) := by decide +kernel
theorem dX12_readAccount_87 : decode cX12_readAccount 87 = .ok (.iconst 0, 1) := by decide +kernel
theorem dX12_readAccount_88 : decode cX12_readAccount 88 = .ok (.ireturn, 1) := by decide +kernel
theorem dX12_readAccount_89 : decode cX12_readAccount 89 = .ok (.aload_n 0, 1) := by decide +kernel
theorem dX12_readAccount_90 : decode cX12_readAccount 90 = .ok (.getfield 26, 3) := by decide +kernel
theorem dX12_readAccount_93 : decode cX12_readAccount 93 = .ok (.iload_n 2, 1) := by decide +kernel
theorem dX12_readAccount_94 : decode cX12_readAccount 94 = .ok (.aload_n 0, 1) := by decide +kernel
theorem dX12_readAccount_95 : decode cX12_readAccount 95 = .ok (.getfield 241, 3) := by decide +kernel
theorem dX12_readAccount_98 : decode cX12_readAccount 98 = .ok (.iastore, 1) := by decide +kernel
theorem dX12_readAccount_99 : decode cX12_readAccount 99 = .ok (.aload_n 0, 1) := by decide +kernel
theorem dX12_readAccount_100 : decode cX12_readAccount 100 = .ok (.ldc 206, 2) := by decide +kernel
theorem dX12_readAccount_102 : decode cX12_readAccount 102 = .ok (.invokevirtual 278, 3) := by decide +kernel
theorem dX12_readAccount_105 : decode cX12_readAccount 105 = .ok (.ifCond .eq 11, 3) := by decide +kernel
theorem dX12_readAccount_108 : decode cX12_readAccount 108 = .ok (.aload_n 0, 1) := by decide +kernel
theorem dX12_readAccount_109 : decode cX12_readAccount 109 = .ok (.iload_n 2, 1) := by decide +kernel
theorem dX12_readAccount_110 : decode cX12_readAccount 110 = .ok (.invokevirtual 281, 3) := by decide +kernel
theorem dX12_readAccount_113 : decode cX12_readAccount 113 = .ok (.ifCond .ne 5, 3) := by decide +kernel
theorem dX12_readAccount_116 : decode cX12_readAccount 116 = .ok (.iconst 0, 1) := by decide +kernel
theorem dX12_readAccount_117 : decode cX12_readAccount 117 = .ok (.ireturn, 1) := by decide +kernel
theorem dX12_readAccount_118 : decode cX12_readAccount 118 = .ok (.iload_n 1, 1) := by decide +kernel
theorem dX12_readAccount_119 : decode cX12_readAccount 119 = .ok (.iconst 2, 1) := by decide +kernel
theorem dX12_readAccount_120 : decode cX12_readAccount 120 = .ok (.if_icmp .ne 22, 3) := by decide +kernel
theorem dX12_readAccount_123 : decode cX12_readAccount 123 = .ok (.aload_n 0, 1) := by decide +kernel
theorem dX12_readAccount_124 : decode cX12_readAccount 124 = .ok (.ldc 208, 2) := by decide +kernel
theorem dX12_readAccount_126 : decode cX12_readAccount 126 = .ok (.invokevirtual 278, 3) := by decide +kernel
theorem dX12_readAccount_129 : decode cX12_readAccount 129 = .ok (.ifCond .eq 11, 3) := by decide +kernel
theorem dX12_readAccount_132 : decode cX12_readAccount 132 = .ok (.aload_n 0, 1) := by decide +kernel
theorem dX12_readAccount_133 : decode cX12_readAccount 133 = .ok (.iload_n 2, 1) := by decide +kernel
theorem dX12_readAccount_134 : decode cX12_readAccount 134 = .ok (.invokevirtual 284, 3) := by decide +kernel
theorem dX12_readAccount_137 : decode cX12_readAccount 137 = .ok (.ifCond .ne 5, 3) := by decide +kernel
theorem dX12_readAccount_140 : decode cX12_readAccount 140 = .ok (.iconst 0, 1) := by decide +kernel
theorem dX12_readAccount_141 : decode cX12_readAccount 141 = .ok (.ireturn, 1) := by decide +kernel
theorem dX12_readAccount_142 : decode cX12_readAccount 142 = .ok (.aload_n 0, 1) := by decide +kernel
theorem dX12_readAccount_143 : decode cX12_readAccount 143 = .ok (.getfield 149, 3) := by decide +kernel
theorem dX12_readAccount_146 : decode cX12_readAccount 146 = .ok (.iconst 2, 1) := by decide +kernel
theorem dX12_readAccount_147 : decode cX12_readAccount 147 = .ok (.if_icmp .ne 50, 3) := by decide +kernel
theorem dX12_readAccount_150 : decode cX12_readAccount 150 = .ok (.aload_n 0, 1) := by decide +kernel
theorem dX12_readAccount_151 : decode cX12_readAccount 151 = .ok (.getfield 129, 3) := by decide +kernel
theorem dX12_readAccount_154 : decode cX12_readAccount 154 = .ok (.aload_n 0, 1) := by decide +kernel
theorem dX12_readAccount_155 : decode cX12_readAccount 155 = .ok (.getfield 136, 3) := by decide +kernel
theorem dX12_readAccount_158 : decode cX12_readAccount 158 = .ok (.isub, 1) := by decide +kernel
theorem dX12_readAccount_159 : decode cX12_readAccount 159 = .ok (.bipush 9, 2) := by decide +kernel
theorem dX12_readAccount_161 : decode cX12_readAccount 161 = .ok (.if_icmp .gt 36, 3) := by decide +kernel
theorem dX12_readAccount_164 : decode cX12_readAccount 164 = .ok (.aload_n 0, 1) := by decide +kernel
theorem dX12_readAccount_165 : decode cX12_readAccount 165 = .ok (.getfield 143, 3) := by decide +kernel
theorem dX12_readAccount_168 : decode cX12_readAccount 168 = .ok (.ldc2_w 258, 3) := by decide +kernel
theorem dX12_readAccount_171 : decode cX12_readAccount 171 = .ok (.lcmp, 1) := by decide +kernel
theorem dX12_readAccount_172 : decode cX12_readAccount 172 = .ok (.ifCond .gt 25, 3) := by decide +kernel
theorem dX12_readAccount_175 : decode cX12_readAccount 175 = .ok (.iload_n 1, 1) := by decide +kernel
theorem dX12_readAccount_176 : decode cX12_readAccount 176 = .ok (.iconst 1, 1) := by decide +kernel
theorem dX12_readAccount_177 : decode cX12_readAccount 177 = .ok (.if_icmp .ne 20, 3) := by decide +kernel
theorem dX12_readAccount_180 : decode cX12_readAccount 180 = .ok (.aload_n 0, 1) := by decide +kernel
theorem dX12_readAccount_181 : decode cX12_readAccount 181 = .ok (.getfield 29, 3) := by decide +kernel
theorem dX12_readAccount_184 : decode cX12_readAccount 184 = .ok (.iload_n 2, 1) := by decide +kernel
theorem dX12_readAccount_185 : decode cX12_readAccount 185 = .ok (.iaload, 1) := by decide +kernel
theorem dX12_readAccount_186 : decode cX12_readAccount 186 = .ok (.iconst 2, 1) := by decide +kernel
theorem dX12_readAccount_187 : decode cX12_readAccount 187 = .ok (.if_icmp .ge 10, 3) := by decide +kernel
theorem dX12_readAccount_190 : decode cX12_readAccount 190 = .ok (.aload_n 0, 1) := by decide +kernel
theorem dX12_readAccount_191 : decode cX12_readAccount 191 = .ok (.bipush 6, 2) := by decide +kernel
theorem dX12_readAccount_193 : decode cX12_readAccount 193 = .ok (.invokevirtual 234, 3) := by decide +kernel
theorem dX12_readAccount_196 : decode cX12_readAccount 196 = .ok (.ireturn, 1) := by decide +kernel
theorem dX12_readAccount_197 : decode cX12_readAccount 197 = .ok (.aload_n 0, 1) := by decide +kernel
theorem dX12_readAccount_198 : decode cX12_readAccount 198 = .ok (.lconst 0, 1) := by decide +kernel
theorem dX12_readAccount_199 : decode cX12_readAccount 199 = .ok (.ldc2_w 258, 3) := by decide +kernel
theorem dX12_readAccount_202 : decode cX12_readAccount 202 = .ok (.invokevirtual 260, 3) := by decide +kernel
theorem dX12_readAccount_205 : decode cX12_readAccount 205 = .ok (.ifCond .ne 5, 3) := by decide +kernel
theorem dX12_readAccount_208 : decode cX12_readAccount 208 = .ok (.iconst 0, 1) := by decide +kernel
theorem dX12_readAccount_209 : decode cX12_readAccount 209 = .ok (.ireturn, 1) := by decide +kernel
theorem dX12_readAccount_210 : decode cX12_readAccount 210 = .ok (.aload_n 0, 1) := by decide +kernel
theorem dX12_readAccount_211 : decode cX12_readAccount 211 = .ok (.getfield 41, 3) := by decide +kernel
theorem dX12_readAccount_214 : decode cX12_readAccount 214 = .ok (.iload_n 2, 1) := by decide +kernel
theorem dX12_readAccount_215 : decode cX12_readAccount 215 = .ok (.aload_n 0, 1) := by decide +kernel
theorem dX12_readAccount_216 : decode cX12_readAccount 216 = .ok (.getfield 241, 3) := by decide +kernel
theorem dX12_readAccount_219 : decode cX12_readAccount 219 = .ok (.iastore, 1) := by decide +kernel
theorem dX12_readAccount_220 : decode cX12_readAccount 220 = .ok (.aload_n 0, 1) := by decide +kernel
theorem dX12_readAccount_221 : decode cX12_readAccount 221 = .ok (.ldc 210, 2) := by decide +kernel
theorem dX12_readAccount_223 : decode cX12_readAccount 223 = .ok (.invokevirtual 184, 3) := by decide +kernel
theorem dX12_readAccount_226 : decode cX12_readAccount 226 = .ok (.ifCond .eq 30, 3) := by decide +kernel
theorem dX12_readAccount_229 : decode cX12_readAccount 229 = .ok (.aload_n 0, 1) := by decide +kernel
theorem dX12_readAccount_230 : decode cX12_readAccount 230 = .ok (.invokevirtual 238, 3) := by decide +kernel
theorem dX12_readAccount_233 : decode cX12_readAccount 233 = .ok (.aload_n 0, 1) := by decide +kernel
theorem dX12_readAccount_234 : decode cX12_readAccount 234 = .ok (.lconst 1, 1) := by decide +kernel
theorem dX12_readAccount_235 : decode cX12_readAccount 235 = .ok (.ldc2_w 264, 3) := by decide +kernel
theorem dX12_readAccount_238 : decode cX12_readAccount 238 = .ok (.invokevirtual 260, 3) := by decide +kernel
theorem dX12_readAccount_241 : decode cX12_readAccount 241 = .ok (.ifCond .ne 5, 3) := by decide +kernel
theorem dX12_readAccount_244 : decode cX12_readAccount 244 = .ok (.iconst 0, 1) := by decide +kernel
theorem dX12_readAccount_245 : decode cX12_readAccount 245 = .ok (.ireturn, 1) := by decide +kernel
theorem dX12_readAccount_246 : decode cX12_readAccount 246 = .ok (.aload_n 0, 1) := by decide +kernel
theorem dX12_readAccount_247 : decode cX12_readAccount 247 = .ok (.getfield 44, 3) := by decide +kernel
theorem dX12_readAccount_250 : decode cX12_readAccount 250 = .ok (.iload_n 2, 1) := by decide +kernel
theorem dX12_readAccount_251 : decode cX12_readAccount 251 = .ok (.aload_n 0, 1) := by decide +kernel
theorem dX12_readAccount_252 : decode cX12_readAccount 252 = .ok (.getfield 241, 3) := by decide +kernel
theorem dX12_readAccount_255 : decode cX12_readAccount 255 = .ok (.iastore, 1) := by decide +kernel
theorem dX12_readAccount_256 : decode cX12_readAccount 256 = .ok (.aload_n 0, 1) := by decide +kernel
theorem dX12_readAccount_257 : decode cX12_readAccount 257 = .ok (.getfield 7, 3) := by decide +kernel
theorem dX12_readAccount_260 : decode cX12_readAccount 260 = .ok (.bipush 8, 2) := by decide +kernel
theorem dX12_readAccount_262 : decode cX12_readAccount 262 = .ok (.dup2, 1) := by decide +kernel
theorem dX12_readAccount_263 : decode cX12_readAccount 263 = .ok (.iaload, 1) := by decide +kernel
theorem dX12_readAccount_264 : decode cX12_readAccount 264 = .ok (.iconst 1, 1) := by decide +kernel
theorem dX12_readAccount_265 : decode cX12_readAccount 265 = .ok (.iadd, 1) := by decide +kernel
theorem dX12_readAccount_266 : decode cX12_readAccount 266 = .ok (.iastore, 1) := by decide +kernel
theorem dX12_readAccount_267 : decode cX12_readAccount 267 = .ok (.iconst 1, 1) := by decide +kernel
theorem dX12_readAccount_268 : decode cX12_readAccount 268 = .ok (.ireturn, 1) := by decide +kernel
def X12_readAccount_b87   (u : gM) : Option (Int32 × gM) :=
some (0, u)
def X12_readAccount_b116   (u : gM) : Option (Int32 × gM) :=
some (0, u)
def X12_readAccount_b256   (u : gM) : Option (Int32 × gM) :=
((aI skM u 1 8).bind fun v263 => ((sI skM u 1 8 (v263 + 1)).bind fun u266 => some (1, u266)))
def X12_readAccount_b197  (x2 : Int32) (u : gM) : Option (Int32 × gM) :=
((X12_readNumber 0 100000000 u).bind fun w202 => (if w202.1 = 0 then some (0, w202.2)
  else ((sI skM w202.2 11 x2 (w202.2.1 0 31)).bind fun u219 => ((X12_isWord u219 8).bind fun w223 => (if w223 = 0 then (X12_readAccount_b256 u219)
    else ((X12_next u219).bind fun w230 => ((X12_readNumber 1 60 w230).bind fun w238 => (if w238.1 = 0 then some (0, w238.2)
      else ((sI skM w238.2 12 x2 (w238.2.1 0 31)).bind fun u255 => (X12_readAccount_b256 u255))))))))))
def X12_readAccount_b142  (x1 : Int32) (x2 : Int32) (u : gM) : Option (Int32 × gM) :=
(if (u.1 0 25) = 2 then (if 9 < ((u.1 0 27) - (u.1 0 26)) then (X12_readAccount_b197 x2 u)
    else (if 0 < (lg_cmp (u.2 0 29) 100000000) then (X12_readAccount_b197 x2 u)
      else (if x1 = 1 then ((aI skM u 7 x2).bind fun v185 => (if 2 ≤ v185 then (X12_readAccount_b197 x2 u)
          else ((X12_fails 6 u).bind fun w193 => ((bI w193.1).bind fun v196 => some (v196, w193.2)))))
        else (X12_readAccount_b197 x2 u))))
  else (X12_readAccount_b197 x2 u))
def X12_readAccount_b140   (u : gM) : Option (Int32 × gM) :=
some (0, u)
def X12_readAccount   (u : gM) : Option (Int32 × gM) :=
((X12_kindHere u).bind fun w1 => ((X12_next u).bind fun w6 => ((X12_readNew 4 2 24 w6).bind fun w17 => (if w17.1 = 0 then some (0, w17.2)
  else ((aI skM w17.2 1 8).bind fun v33 => ((sI skM w17.2 5 (24 + v33) w1).bind fun u42 => ((sI skM u42 7 (24 + v33) 0).bind fun u49 => ((sI skM u49 9 (24 + v33) 0).bind fun u56 => ((sI skM u56 12 (24 + v33) 0).bind fun u63 => ((X12_takes 5 u63).bind fun w67 => (if w67.1 = 0 then (X12_readAccount_b87 w67.2)
    else ((X12_readOf 3 1 6 w67.2).bind fun w81 => (if w81.1 = 0 then (X12_readAccount_b87 w81.2)
      else ((sI skM w81.2 6 (24 + v33) (w81.2.1 0 31)).bind fun u98 => ((X12_takes 6 u98).bind fun w102 => (if w102.1 = 0 then (X12_readAccount_b116 w102.2)
        else ((X12_readOwners (24 + v33) w102.2).bind fun w110 => (if w110.1 = 0 then (X12_readAccount_b116 w110.2)
          else (if w1 = 2 then ((X12_takes 7 w110.2).bind fun w126 => (if w126.1 = 0 then (X12_readAccount_b140 w126.2)
              else ((X12_readHeirs (24 + v33) w126.2).bind fun w134 => (if w134.1 = 0 then (X12_readAccount_b140 w134.2)
                else (X12_readAccount_b142 w1 (24 + v33) w134.2)))))
            else (X12_readAccount_b142 w1 (24 + v33) w110.2))))))))))))))))))))
set_option maxRecDepth 20000 in
theorem v_X12_readAccount_b87 {κ : gK} {B : Nat} {u : gM} (X : gX κ B skM cX12_readAccount 3 RX12 (some .boolean) 10 228)    {w : (Int32 × gM)} (hM : X12_readAccount_b87 u = some w) : gV κ B skM 3 ((some (.int w.1)), w.2) 87 [none, none, none] [] u := by
  unfold X12_readAccount_b87 at hM
  refine g_iconst X (v := 0) dX12_readAccount_87 (by decide) ?_
  cases hM
  exact g_zret X (Or.inl rfl) dX12_readAccount_88
set_option maxRecDepth 20000 in
theorem v_X12_readAccount_b116 {κ : gK} {B : Nat} {u : gM} (X : gX κ B skM cX12_readAccount 3 RX12 (some .boolean) 10 228)    {w : (Int32 × gM)} (hM : X12_readAccount_b116 u = some w) : gV κ B skM 3 ((some (.int w.1)), w.2) 116 [none, none, none] [] u := by
  unfold X12_readAccount_b116 at hM
  refine g_iconst X (v := 0) dX12_readAccount_116 (by decide) ?_
  cases hM
  exact g_zret X (Or.inl rfl) dX12_readAccount_117
set_option maxRecDepth 20000 in
theorem v_X12_readAccount_b256 {κ : gK} {B : Nat} {u : gM} (X : gX κ B skM cX12_readAccount 3 RX12 (some .boolean) 10 228)    {w : (Int32 × gM)} (hM : X12_readAccount_b256 u = some w) : gV κ B skM 3 ((some (.int w.1)), w.2) 256 [some (.ref (B + 0)), none, none] [] u := by
  unfold X12_readAccount_b256 at hM
  refine g_aload_n X dX12_readAccount_256 rfl ?_
  refine g_getR X fX12_7 cM_0 rfl dX12_readAccount_257 ?_
  refine g_bipush X (v := 8) dX12_readAccount_260 (by decide) ?_
  refine g_dup2_11 X rfl rfl dX12_readAccount_262 ?_
  obtain ⟨v263, e263, hM⟩ := bind_of hM
  refine g_iaload X e263 dX12_readAccount_263 ?_
  refine g_iconst X (v := 1) dX12_readAccount_264 (by decide) ?_
  refine g_iadd X dX12_readAccount_265 ?_
  obtain ⟨u266, e266, hM⟩ := bind_of hM
  refine g_iastore X e266 dX12_readAccount_266 ?_
  refine g_iconst X (v := 1) dX12_readAccount_267 (by decide) ?_
  cases hM
  exact g_zret X (Or.inr rfl) dX12_readAccount_268
set_option maxRecDepth 20000 in
theorem v_X12_readAccount_b197 {κ : gK} {B : Nat} {u : gM} (X : gX κ B skM cX12_readAccount 3 RX12 (some .boolean) 10 228)   {x2 : Int32} {w : (Int32 × gM)} (hM : X12_readAccount_b197 x2 u = some w) : gV κ B skM 3 ((some (.int w.1)), w.2) 197 [some (.ref (B + 0)), none, some (.int x2)] [] u := by
  unfold X12_readAccount_b197 at hM
  refine g_aload_n X dX12_readAccount_197 rfl ?_
  refine g_lconst (v := 0) X dX12_readAccount_198 (by decide) ?_
  refine g_ldc2 (v := 100000000) X m_23_10 dX12_readAccount_199 ?_
  obtain ⟨w202, e202, hM⟩ := bind_of hM
  refine g_callVi X (fun B adK => [.long 0, .long 100000000]) (s_X12_readNumber e202) cvX12_260 cM_0 rfl rfl (Nat.le_of_ble_eq_true rfl) ⟨by decide, by decide⟩ dX12_readAccount_202 ?_
  refine g_if_ne (tgt := 210) X dX12_readAccount_205 (by decide) (fun c205 => ?_) (fun c205 => ?_)
  · rw [if_neg c205] at hM
    refine g_aload_n X dX12_readAccount_210 rfl ?_
    refine g_getR X fX12_41 cM_0 rfl dX12_readAccount_211 ?_
    refine g_iload_n X dX12_readAccount_214 rfl ?_
    refine g_aload_n X dX12_readAccount_215 rfl ?_
    refine g_getI X fX12_241 cM_0 rfl dX12_readAccount_216 ?_
    obtain ⟨u219, e219, hM⟩ := bind_of hM
    refine g_iastore X e219 dX12_readAccount_219 ?_
    refine g_aload_n X dX12_readAccount_220 rfl ?_
    refine g_ldcS (i := 8) X rfl dX12_readAccount_221 ?_
    obtain ⟨w223, e223, hM⟩ := bind_of hM
    refine g_callVi X (fun B adK => [.ref (adK 8)]) (s_X12_isWord e223) cvX12_184 cM_0 rfl rfl (Nat.le_of_ble_eq_true rfl) ⟨by decide, by decide⟩ dX12_readAccount_223 ?_
    refine g_if_eq (tgt := 256) X dX12_readAccount_226 (by decide) (fun c226 => ?_) (fun c226 => ?_)
    · rw [if_pos c226] at hM
      refine g_mk [true, false, false] [some (.ref (B + 0)), none, none] rfl ?_
      exact v_X12_readAccount_b256 X  hM
    · rw [if_neg c226] at hM
      refine g_aload_n X dX12_readAccount_229 rfl ?_
      obtain ⟨w230, e230, hM⟩ := bind_of hM
      refine g_callVv X (fun B adK => []) (s_X12_next e230) cvX12_238 cM_0 rfl rfl (Nat.le_of_ble_eq_true rfl) ⟨by decide, by decide⟩ dX12_readAccount_230 ?_
      refine g_aload_n X dX12_readAccount_233 rfl ?_
      refine g_lconst (v := 1) X dX12_readAccount_234 (by decide) ?_
      refine g_ldc2 (v := 60) X m_23_12 dX12_readAccount_235 ?_
      obtain ⟨w238, e238, hM⟩ := bind_of hM
      refine g_callVi X (fun B adK => [.long 1, .long 60]) (s_X12_readNumber e238) cvX12_260 cM_0 rfl rfl (Nat.le_of_ble_eq_true rfl) ⟨by decide, by decide⟩ dX12_readAccount_238 ?_
      refine g_if_ne (tgt := 246) X dX12_readAccount_241 (by decide) (fun c241 => ?_) (fun c241 => ?_)
      · rw [if_neg c241] at hM
        refine g_aload_n X dX12_readAccount_246 rfl ?_
        refine g_getR X fX12_44 cM_0 rfl dX12_readAccount_247 ?_
        refine g_iload_n X dX12_readAccount_250 rfl ?_
        refine g_aload_n X dX12_readAccount_251 rfl ?_
        refine g_getI X fX12_241 cM_0 rfl dX12_readAccount_252 ?_
        obtain ⟨u255, e255, hM⟩ := bind_of hM
        refine g_iastore X e255 dX12_readAccount_255 ?_
        refine g_mk [true, false, false] [some (.ref (B + 0)), none, none] rfl ?_
        exact v_X12_readAccount_b256 X  hM
      · rw [if_pos c241] at hM
        refine g_iconst X (v := 0) dX12_readAccount_244 (by decide) ?_
        cases hM
        exact g_zret X (Or.inl rfl) dX12_readAccount_245
  · rw [if_pos c205] at hM
    refine g_iconst X (v := 0) dX12_readAccount_208 (by decide) ?_
    cases hM
    exact g_zret X (Or.inl rfl) dX12_readAccount_209
set_option maxRecDepth 20000 in
theorem v_X12_readAccount_b142 {κ : gK} {B : Nat} {u : gM} (X : gX κ B skM cX12_readAccount 3 RX12 (some .boolean) 10 228)   {x1 : Int32} {x2 : Int32} {w : (Int32 × gM)} (hM : X12_readAccount_b142 x1 x2 u = some w) : gV κ B skM 3 ((some (.int w.1)), w.2) 142 [some (.ref (B + 0)), some (.int x1), some (.int x2)] [] u := by
  unfold X12_readAccount_b142 at hM
  refine g_aload_n X dX12_readAccount_142 rfl ?_
  refine g_getI X fX12_149 cM_0 rfl dX12_readAccount_143 ?_
  refine g_iconst X (v := 2) dX12_readAccount_146 (by decide) ?_
  refine g_icmp_ne (tgt := 197) X dX12_readAccount_147 (by decide) (fun c147 => ?_) (fun c147 => ?_)
  · rw [if_neg c147] at hM
    refine g_mk [true, false, true] [some (.ref (B + 0)), none, some (.int x2)] rfl ?_
    exact v_X12_readAccount_b197 X  hM
  · rw [if_pos c147] at hM
    refine g_aload_n X dX12_readAccount_150 rfl ?_
    refine g_getI X fX12_129 cM_0 rfl dX12_readAccount_151 ?_
    refine g_aload_n X dX12_readAccount_154 rfl ?_
    refine g_getI X fX12_136 cM_0 rfl dX12_readAccount_155 ?_
    refine g_isub X dX12_readAccount_158 ?_
    refine g_bipush X (v := 9) dX12_readAccount_159 (by decide) ?_
    refine g_icmp_gt (tgt := 197) X dX12_readAccount_161 (by decide) (fun c161 => ?_) (fun c161 => ?_)
    · rw [if_pos c161] at hM
      refine g_mk [true, false, true] [some (.ref (B + 0)), none, some (.int x2)] rfl ?_
      exact v_X12_readAccount_b197 X  hM
    · rw [if_neg c161] at hM
      refine g_aload_n X dX12_readAccount_164 rfl ?_
      refine g_getJ X fX12_143 cM_0 rfl dX12_readAccount_165 ?_
      refine g_ldc2 (v := 100000000) X m_23_10 dX12_readAccount_168 ?_
      refine g_lcmp X dX12_readAccount_171 ?_
      refine g_if_gt (tgt := 197) X dX12_readAccount_172 (by decide) (fun c172 => ?_) (fun c172 => ?_)
      · rw [if_pos c172] at hM
        refine g_mk [true, false, true] [some (.ref (B + 0)), none, some (.int x2)] rfl ?_
        exact v_X12_readAccount_b197 X  hM
      · rw [if_neg c172] at hM
        refine g_iload_n X dX12_readAccount_175 rfl ?_
        refine g_iconst X (v := 1) dX12_readAccount_176 (by decide) ?_
        refine g_icmp_ne (tgt := 197) X dX12_readAccount_177 (by decide) (fun c177 => ?_) (fun c177 => ?_)
        · rw [if_neg c177] at hM
          refine g_mk [true, false, true] [some (.ref (B + 0)), none, some (.int x2)] rfl ?_
          exact v_X12_readAccount_b197 X  hM
        · rw [if_pos c177] at hM
          refine g_aload_n X dX12_readAccount_180 rfl ?_
          refine g_getR X fX12_29 cM_0 rfl dX12_readAccount_181 ?_
          refine g_iload_n X dX12_readAccount_184 rfl ?_
          obtain ⟨v185, e185, hM⟩ := bind_of hM
          refine g_iaload X e185 dX12_readAccount_185 ?_
          refine g_iconst X (v := 2) dX12_readAccount_186 (by decide) ?_
          refine g_icmp_ge (tgt := 197) X dX12_readAccount_187 (by decide) (fun c187 => ?_) (fun c187 => ?_)
          · rw [if_pos c187] at hM
            refine g_mk [true, false, true] [some (.ref (B + 0)), none, some (.int x2)] rfl ?_
            exact v_X12_readAccount_b197 X  hM
          · rw [if_neg c187] at hM
            refine g_aload_n X dX12_readAccount_190 rfl ?_
            refine g_bipush X (v := 6) dX12_readAccount_191 (by decide) ?_
            obtain ⟨w193, e193, hM⟩ := bind_of hM
            refine g_callVi X (fun B adK => [.int 6]) (s_X12_fails e193) cvX12_234 cM_0 rfl rfl (Nat.le_of_ble_eq_true rfl) ⟨by decide, by decide⟩ dX12_readAccount_193 ?_
            obtain ⟨v196, e196, hM⟩ := bind_of hM
            obtain ⟨hv, rfl⟩ := bI_of e196
            cases hM
            exact g_zret X hv dX12_readAccount_196
set_option maxRecDepth 20000 in
theorem v_X12_readAccount_b140 {κ : gK} {B : Nat} {u : gM} (X : gX κ B skM cX12_readAccount 3 RX12 (some .boolean) 10 228)    {w : (Int32 × gM)} (hM : X12_readAccount_b140 u = some w) : gV κ B skM 3 ((some (.int w.1)), w.2) 140 [none, none, none] [] u := by
  unfold X12_readAccount_b140 at hM
  refine g_iconst X (v := 0) dX12_readAccount_140 (by decide) ?_
  cases hM
  exact g_zret X (Or.inl rfl) dX12_readAccount_141
set_option maxRecDepth 20000 in
theorem v_X12_readAccount {κ : gK} {B : Nat} {u : gM} (X : gX κ B skM cX12_readAccount 3 RX12 (some .boolean) 10 228)    {w : (Int32 × gM)} (hM : X12_readAccount u = some w) : gV κ B skM 3 ((some (.int w.1)), w.2) 0 [some (.ref (B + 0)), none, none] [] u := by
  unfold X12_readAccount at hM
  refine g_aload_n X dX12_readAccount_0 rfl ?_
  obtain ⟨w1, e1, hM⟩ := bind_of hM
  refine g_callVi X (fun B adK => []) (s_X12_kindHere e1) cvX12_213 cM_0 rfl rfl (Nat.le_of_ble_eq_true rfl) ⟨by decide, by decide⟩ dX12_readAccount_1 ?_
  refine g_istore_n X [some (.ref (B + 0)), some (.int w1), none] dX12_readAccount_4 (by decide) rfl ?_
  refine g_aload_n X dX12_readAccount_5 rfl ?_
  obtain ⟨w6, e6, hM⟩ := bind_of hM
  refine g_callVv X (fun B adK => []) (s_X12_next e6) cvX12_238 cM_0 rfl rfl (Nat.le_of_ble_eq_true rfl) ⟨by decide, by decide⟩ dX12_readAccount_6 ?_
  refine g_aload_n X dX12_readAccount_9 rfl ?_
  refine g_aload_n X dX12_readAccount_10 rfl ?_
  refine g_getR X fX12_20 cM_0 rfl dX12_readAccount_11 ?_
  refine g_iconst X (v := 2) dX12_readAccount_14 (by decide) ?_
  refine g_bipush X (v := 24) dX12_readAccount_15 (by decide) ?_
  obtain ⟨w17, e17, hM⟩ := bind_of hM
  refine g_callVi X (fun B adK => [.ref (B + 4), .int 2, .int 24]) (s_X12_readNew e17) cvX12_254 cM_0 rfl rfl (Nat.le_of_ble_eq_true rfl) ⟨by decide, by decide⟩ dX12_readAccount_17 ?_
  refine g_if_ne (tgt := 25) X dX12_readAccount_20 (by decide) (fun c20 => ?_) (fun c20 => ?_)
  · rw [if_neg c20] at hM
    refine g_bipush X (v := 24) dX12_readAccount_25 (by decide) ?_
    refine g_aload_n X dX12_readAccount_27 rfl ?_
    refine g_getR X fX12_7 cM_0 rfl dX12_readAccount_28 ?_
    refine g_bipush X (v := 8) dX12_readAccount_31 (by decide) ?_
    obtain ⟨v33, e33, hM⟩ := bind_of hM
    refine g_iaload X e33 dX12_readAccount_33 ?_
    refine g_iadd X dX12_readAccount_34 ?_
    refine g_istore_n X [some (.ref (B + 0)), some (.int w1), some (.int (24 + v33))] dX12_readAccount_35 (by decide) rfl ?_
    refine g_aload_n X dX12_readAccount_36 rfl ?_
    refine g_getR X fX12_23 cM_0 rfl dX12_readAccount_37 ?_
    refine g_iload_n X dX12_readAccount_40 rfl ?_
    refine g_iload_n X dX12_readAccount_41 rfl ?_
    obtain ⟨u42, e42, hM⟩ := bind_of hM
    refine g_iastore X e42 dX12_readAccount_42 ?_
    refine g_aload_n X dX12_readAccount_43 rfl ?_
    refine g_getR X fX12_29 cM_0 rfl dX12_readAccount_44 ?_
    refine g_iload_n X dX12_readAccount_47 rfl ?_
    refine g_iconst X (v := 0) dX12_readAccount_48 (by decide) ?_
    obtain ⟨u49, e49, hM⟩ := bind_of hM
    refine g_iastore X e49 dX12_readAccount_49 ?_
    refine g_aload_n X dX12_readAccount_50 rfl ?_
    refine g_getR X fX12_35 cM_0 rfl dX12_readAccount_51 ?_
    refine g_iload_n X dX12_readAccount_54 rfl ?_
    refine g_iconst X (v := 0) dX12_readAccount_55 (by decide) ?_
    obtain ⟨u56, e56, hM⟩ := bind_of hM
    refine g_iastore X e56 dX12_readAccount_56 ?_
    refine g_aload_n X dX12_readAccount_57 rfl ?_
    refine g_getR X fX12_44 cM_0 rfl dX12_readAccount_58 ?_
    refine g_iload_n X dX12_readAccount_61 rfl ?_
    refine g_iconst X (v := 0) dX12_readAccount_62 (by decide) ?_
    obtain ⟨u63, e63, hM⟩ := bind_of hM
    refine g_iastore X e63 dX12_readAccount_63 ?_
    refine g_aload_n X dX12_readAccount_64 rfl ?_
    refine g_ldcS (i := 5) X rfl dX12_readAccount_65 ?_
    obtain ⟨w67, e67, hM⟩ := bind_of hM
    refine g_callVi X (fun B adK => [.ref (adK 5)]) (s_X12_takes e67) cvX12_278 cM_0 rfl rfl (Nat.le_of_ble_eq_true rfl) ⟨by decide, by decide⟩ dX12_readAccount_67 ?_
    refine g_if_eq (tgt := 87) X dX12_readAccount_70 (by decide) (fun c70 => ?_) (fun c70 => ?_)
    · rw [if_pos c70] at hM
      refine g_mk [false, false, false] [none, none, none] rfl ?_
      exact v_X12_readAccount_b87 X  hM
    · rw [if_neg c70] at hM
      refine g_aload_n X dX12_readAccount_73 rfl ?_
      refine g_aload_n X dX12_readAccount_74 rfl ?_
      refine g_getR X fX12_17 cM_0 rfl dX12_readAccount_75 ?_
      refine g_iconst X (v := 1) dX12_readAccount_78 (by decide) ?_
      refine g_bipush X (v := 6) dX12_readAccount_79 (by decide) ?_
      obtain ⟨w81, e81, hM⟩ := bind_of hM
      refine g_callVi X (fun B adK => [.ref (B + 3), .int 1, .int 6]) (s_X12_readOf e81) cvX12_275 cM_0 rfl rfl (Nat.le_of_ble_eq_true rfl) ⟨by decide, by decide⟩ dX12_readAccount_81 ?_
      refine g_if_ne (tgt := 89) X dX12_readAccount_84 (by decide) (fun c84 => ?_) (fun c84 => ?_)
      · rw [if_neg c84] at hM
        refine g_aload_n X dX12_readAccount_89 rfl ?_
        refine g_getR X fX12_26 cM_0 rfl dX12_readAccount_90 ?_
        refine g_iload_n X dX12_readAccount_93 rfl ?_
        refine g_aload_n X dX12_readAccount_94 rfl ?_
        refine g_getI X fX12_241 cM_0 rfl dX12_readAccount_95 ?_
        obtain ⟨u98, e98, hM⟩ := bind_of hM
        refine g_iastore X e98 dX12_readAccount_98 ?_
        refine g_aload_n X dX12_readAccount_99 rfl ?_
        refine g_ldcS (i := 6) X rfl dX12_readAccount_100 ?_
        obtain ⟨w102, e102, hM⟩ := bind_of hM
        refine g_callVi X (fun B adK => [.ref (adK 6)]) (s_X12_takes e102) cvX12_278 cM_0 rfl rfl (Nat.le_of_ble_eq_true rfl) ⟨by decide, by decide⟩ dX12_readAccount_102 ?_
        refine g_if_eq (tgt := 116) X dX12_readAccount_105 (by decide) (fun c105 => ?_) (fun c105 => ?_)
        · rw [if_pos c105] at hM
          refine g_mk [false, false, false] [none, none, none] rfl ?_
          exact v_X12_readAccount_b116 X  hM
        · rw [if_neg c105] at hM
          refine g_aload_n X dX12_readAccount_108 rfl ?_
          refine g_iload_n X dX12_readAccount_109 rfl ?_
          obtain ⟨w110, e110, hM⟩ := bind_of hM
          refine g_callVi X (fun B adK => [.int (24 + v33)]) (s_X12_readOwners e110) cvX12_281 cM_0 rfl rfl (Nat.le_of_ble_eq_true rfl) ⟨by decide, by decide⟩ dX12_readAccount_110 ?_
          refine g_if_ne (tgt := 118) X dX12_readAccount_113 (by decide) (fun c113 => ?_) (fun c113 => ?_)
          · rw [if_neg c113] at hM
            refine g_iload_n X dX12_readAccount_118 rfl ?_
            refine g_iconst X (v := 2) dX12_readAccount_119 (by decide) ?_
            refine g_icmp_ne (tgt := 142) X dX12_readAccount_120 (by decide) (fun c120 => ?_) (fun c120 => ?_)
            · rw [if_neg c120] at hM
              refine g_mk [true, true, true] [some (.ref (B + 0)), some (.int w1), some (.int (24 + v33))] rfl ?_
              exact v_X12_readAccount_b142 X  hM
            · rw [if_pos c120] at hM
              refine g_aload_n X dX12_readAccount_123 rfl ?_
              refine g_ldcS (i := 7) X rfl dX12_readAccount_124 ?_
              obtain ⟨w126, e126, hM⟩ := bind_of hM
              refine g_callVi X (fun B adK => [.ref (adK 7)]) (s_X12_takes e126) cvX12_278 cM_0 rfl rfl (Nat.le_of_ble_eq_true rfl) ⟨by decide, by decide⟩ dX12_readAccount_126 ?_
              refine g_if_eq (tgt := 140) X dX12_readAccount_129 (by decide) (fun c129 => ?_) (fun c129 => ?_)
              · rw [if_pos c129] at hM
                refine g_mk [false, false, false] [none, none, none] rfl ?_
                exact v_X12_readAccount_b140 X  hM
              · rw [if_neg c129] at hM
                refine g_aload_n X dX12_readAccount_132 rfl ?_
                refine g_iload_n X dX12_readAccount_133 rfl ?_
                obtain ⟨w134, e134, hM⟩ := bind_of hM
                refine g_callVi X (fun B adK => [.int (24 + v33)]) (s_X12_readHeirs e134) cvX12_284 cM_0 rfl rfl (Nat.le_of_ble_eq_true rfl) ⟨by decide, by decide⟩ dX12_readAccount_134 ?_
                refine g_if_ne (tgt := 142) X dX12_readAccount_137 (by decide) (fun c137 => ?_) (fun c137 => ?_)
                · rw [if_neg c137] at hM
                  refine g_mk [true, true, true] [some (.ref (B + 0)), some (.int w1), some (.int (24 + v33))] rfl ?_
                  exact v_X12_readAccount_b142 X  hM
                · rw [if_pos c137] at hM
                  refine g_mk [false, false, false] [none, none, none] rfl ?_
                  exact v_X12_readAccount_b140 X  hM
          · rw [if_pos c113] at hM
            refine g_mk [false, false, false] [none, none, none] rfl ?_
            exact v_X12_readAccount_b116 X  hM
      · rw [if_pos c84] at hM
        refine g_mk [false, false, false] [none, none, none] rfl ?_
        exact v_X12_readAccount_b87 X  hM
  · rw [if_pos c20] at hM
    refine g_iconst X (v := 0) dX12_readAccount_23 (by decide) ?_
    cases hM
    exact g_zret X (Or.inl rfl) dX12_readAccount_24
theorem s_X12_readAccount  {u : gM} {w : (Int32 × gM)} (hM : X12_readAccount u = some w) : gMet skM yX12_readAccount cX12_readAccount 3 (some .boolean) 10 228 (fun B adK => [.ref (B + 0)]) u ((fun _ => some (.int w.1)), w.2) := by
  refine gMet.of (by decide) (fun _ _ => Nat.le_of_ble_eq_true rfl) (fun κ B X => ?_)
  have X : gX κ B skM cX12_readAccount 3 RX12 (some .boolean) 10 228 := X
  refine g_mk [true, false, false] [some (.ref (B + 0)), none, none] rfl ?_
  exact v_X12_readAccount X  hM
theorem fr_X12_readAccount_b87 {S : Nat → Prop} {u0 u : gM}     {w : (Int32 × gM)} (hM : X12_readAccount_b87 u = some w) (h0 : off S u0 u) : off S u0 w.2 := by
  unfold X12_readAccount_b87 at hM
  cases hM
  exact h0
theorem fr_X12_readAccount_b116 {S : Nat → Prop} {u0 u : gM}     {w : (Int32 × gM)} (hM : X12_readAccount_b116 u = some w) (h0 : off S u0 u) : off S u0 w.2 := by
  unfold X12_readAccount_b116 at hM
  cases hM
  exact h0
theorem fr_X12_readAccount_b256 {S : Nat → Prop} {u0 u : gM}  (hs0 : S 1)   {w : (Int32 × gM)} (hM : X12_readAccount_b256 u = some w) (h0 : off S u0 u) : off S u0 w.2 := by
  unfold X12_readAccount_b256 at hM
  obtain ⟨v263, e263, hM⟩ := bind_of hM
  obtain ⟨u266, e266, hM⟩ := bind_of hM
  have h0 := off_sI hs0 e266 h0
  cases hM
  exact h0
theorem fr_X12_readAccount_b197 {S : Nat → Prop} {u0 u : gM} {x2 : Int32} (hs0 : S 0) (hs1 : S 1) (hs2 : S 11) (hs3 : S 12)   {w : (Int32 × gM)} (hM : X12_readAccount_b197 x2 u = some w) (h0 : off S u0 u) : off S u0 w.2 := by
  unfold X12_readAccount_b197 at hM
  obtain ⟨w202, e202, hM⟩ := bind_of hM
  have h0 := fr_X12_readNumber hs0 e202 h0
  by_cases c205 : w202.1 = 0
  · rw [if_pos c205] at hM
    cases hM
    exact h0
  · rw [if_neg c205] at hM
    obtain ⟨u219, e219, hM⟩ := bind_of hM
    have h0 := off_sI hs2 e219 h0
    obtain ⟨w223, e223, hM⟩ := bind_of hM
    by_cases c226 : w223 = 0
    · rw [if_pos c226] at hM
      exact fr_X12_readAccount_b256 hs1  hM h0
    · rw [if_neg c226] at hM
      obtain ⟨w230, e230, hM⟩ := bind_of hM
      have h0 := fr_X12_next hs0 e230 h0
      obtain ⟨w238, e238, hM⟩ := bind_of hM
      have h0 := fr_X12_readNumber hs0 e238 h0
      by_cases c241 : w238.1 = 0
      · rw [if_pos c241] at hM
        cases hM
        exact h0
      · rw [if_neg c241] at hM
        obtain ⟨u255, e255, hM⟩ := bind_of hM
        have h0 := off_sI hs3 e255 h0
        exact fr_X12_readAccount_b256 hs1  hM h0
theorem fr_X12_readAccount_b142 {S : Nat → Prop} {u0 u : gM} {x1 : Int32} {x2 : Int32} (hs0 : S 0) (hs1 : S 1) (hs2 : S 11) (hs3 : S 12)   {w : (Int32 × gM)} (hM : X12_readAccount_b142 x1 x2 u = some w) (h0 : off S u0 u) : off S u0 w.2 := by
  unfold X12_readAccount_b142 at hM
  by_cases c147 : (u.1 0 25) = 2
  · rw [if_pos c147] at hM
    by_cases c161 : 9 < ((u.1 0 27) - (u.1 0 26))
    · rw [if_pos c161] at hM
      exact fr_X12_readAccount_b197 hs0 hs1 hs2 hs3  hM h0
    · rw [if_neg c161] at hM
      by_cases c172 : 0 < (lg_cmp (u.2 0 29) 100000000)
      · rw [if_pos c172] at hM
        exact fr_X12_readAccount_b197 hs0 hs1 hs2 hs3  hM h0
      · rw [if_neg c172] at hM
        by_cases c177 : x1 = 1
        · rw [if_pos c177] at hM
          obtain ⟨v185, e185, hM⟩ := bind_of hM
          by_cases c187 : 2 ≤ v185
          · rw [if_pos c187] at hM
            exact fr_X12_readAccount_b197 hs0 hs1 hs2 hs3  hM h0
          · rw [if_neg c187] at hM
            obtain ⟨w193, e193, hM⟩ := bind_of hM
            have h0 := fr_X12_fails hs0 e193 h0
            obtain ⟨v196, e196, hM⟩ := bind_of hM
            cases hM
            exact h0
        · rw [if_neg c177] at hM
          exact fr_X12_readAccount_b197 hs0 hs1 hs2 hs3  hM h0
  · rw [if_neg c147] at hM
    exact fr_X12_readAccount_b197 hs0 hs1 hs2 hs3  hM h0
theorem fr_X12_readAccount_b140 {S : Nat → Prop} {u0 u : gM}     {w : (Int32 × gM)} (hM : X12_readAccount_b140 u = some w) (h0 : off S u0 u) : off S u0 w.2 := by
  unfold X12_readAccount_b140 at hM
  cases hM
  exact h0
theorem fr_X12_readAccount {S : Nat → Prop} {u0 u : gM}  (hs0 : S 0) (hs1 : S 1) (hs2 : S 10) (hs3 : S 11) (hs4 : S 12) (hs5 : S 4) (hs6 : S 5) (hs7 : S 6) (hs8 : S 7) (hs9 : S 8) (hs10 : S 9)   {w : (Int32 × gM)} (hM : X12_readAccount u = some w) (h0 : off S u0 u) : off S u0 w.2 := by
  unfold X12_readAccount at hM
  obtain ⟨w1, e1, hM⟩ := bind_of hM
  obtain ⟨w6, e6, hM⟩ := bind_of hM
  have h0 := fr_X12_next hs0 e6 h0
  obtain ⟨w17, e17, hM⟩ := bind_of hM
  have h0 := fr_X12_readNew hs0 hs5 e17 h0
  by_cases c20 : w17.1 = 0
  · rw [if_pos c20] at hM
    cases hM
    exact h0
  · rw [if_neg c20] at hM
    obtain ⟨v33, e33, hM⟩ := bind_of hM
    obtain ⟨u42, e42, hM⟩ := bind_of hM
    have h0 := off_sI hs6 e42 h0
    obtain ⟨u49, e49, hM⟩ := bind_of hM
    have h0 := off_sI hs8 e49 h0
    obtain ⟨u56, e56, hM⟩ := bind_of hM
    have h0 := off_sI hs10 e56 h0
    obtain ⟨u63, e63, hM⟩ := bind_of hM
    have h0 := off_sI hs4 e63 h0
    obtain ⟨w67, e67, hM⟩ := bind_of hM
    have h0 := fr_X12_takes hs0 e67 h0
    by_cases c70 : w67.1 = 0
    · rw [if_pos c70] at hM
      exact fr_X12_readAccount_b87   hM h0
    · rw [if_neg c70] at hM
      obtain ⟨w81, e81, hM⟩ := bind_of hM
      have h0 := fr_X12_readOf hs0 e81 h0
      by_cases c84 : w81.1 = 0
      · rw [if_pos c84] at hM
        exact fr_X12_readAccount_b87   hM h0
      · rw [if_neg c84] at hM
        obtain ⟨u98, e98, hM⟩ := bind_of hM
        have h0 := off_sI hs7 e98 h0
        obtain ⟨w102, e102, hM⟩ := bind_of hM
        have h0 := fr_X12_takes hs0 e102 h0
        by_cases c105 : w102.1 = 0
        · rw [if_pos c105] at hM
          exact fr_X12_readAccount_b116   hM h0
        · rw [if_neg c105] at hM
          obtain ⟨w110, e110, hM⟩ := bind_of hM
          have h0 := fr_X12_readOwners hs0 hs8 hs9 e110 h0
          by_cases c113 : w110.1 = 0
          · rw [if_pos c113] at hM
            exact fr_X12_readAccount_b116   hM h0
          · rw [if_neg c113] at hM
            by_cases c120 : w1 = 2
            · rw [if_pos c120] at hM
              obtain ⟨w126, e126, hM⟩ := bind_of hM
              have h0 := fr_X12_takes hs0 e126 h0
              by_cases c129 : w126.1 = 0
              · rw [if_pos c129] at hM
                exact fr_X12_readAccount_b140   hM h0
              · rw [if_neg c129] at hM
                obtain ⟨w134, e134, hM⟩ := bind_of hM
                have h0 := fr_X12_readHeirs hs0 hs2 hs10 e134 h0
                by_cases c137 : w134.1 = 0
                · rw [if_pos c137] at hM
                  exact fr_X12_readAccount_b140   hM h0
                · rw [if_neg c137] at hM
                  exact fr_X12_readAccount_b142 hs0 hs1 hs3 hs4  hM h0
            · rw [if_neg c120] at hM
              exact fr_X12_readAccount_b142 hs0 hs1 hs3 hs4  hM h0
