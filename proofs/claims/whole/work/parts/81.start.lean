/-! THE CLAIM OUT OF ONE WALK OF THE LAW'S BODY. Your part is whole_start (and what it stands on); all else here is the same for every law, but numbers. -/
def R_law : String := "SourceTokensLaw"
def lw_P (b : Addr) (xs : List Int32) (args : Array Value) (s : State) : Prop := args = #[.ref b] ∧ s.IntsAt b xs ∧ xs.length ≤ 3072 ∧ (Jvm.Cond.and given_1 narrow_1).before args s = true
def lw_Q (_ : Array Value) (s : State) (o : Outcome) (t : State) : Prop := o = .returned (some (.int 1)) ∧ Framed s o t [] 601024 7293033
def lw_Z (below : List Frame) (a : Array Value) (s : State) : State → Prop := fun t => ∃ o, t.status = .running ∧ Ended t below o ∧ lw_Q a s o t
/-- the law's own end, with 1 on the stack, nothing written that was there before, its room as the claim has it -/
theorem lw_ret {p : Program} {l : Launch} {e : Env} {s : State} {m : MethodId} {below : List Frame} {meth : Method} {c : Code} {b : Nat} (hx : p.tables.exec = Jvm.exec) (hb : c.code = code) (hr : meth.sig.returnType = ret) (hlocks : meth.locks = false) {pc : Nat} {H : Heap} {ls : Array Slot} (hdg : decode code pc = .ok (.ireturn, 1)) : W p l e room_1 s m #[Value.ref b] below meth c H [] 601024 7293033 (lw_Z below #[Value.ref b] s) (F0 m pc ls [.int 1]) := by
  intro T hT X
  obtain ⟨fs, hret, hrun, hended, hW, hframe⟩ := X.leave (v := some (.int 1)) (hlocks := hlocks) (fun h => by rw [hr] at h; cases h)
  have hmeth' : T.vm.method? m = some meth := X.method'
  refine ⟨T.setFrames fs, ?_, .returned (some (.int 1)), hrun, hended, rfl, ⟨_, rfl⟩, hW, hframe⟩
  jvm_step X.here [X.here.top, hx, hb, hdg, hmeth', hr, ret, narrow_b1]
  (try refine ⟨rfl, ?_⟩); (try refine ⟨rfl, ?_⟩)
  first | (intro acts; rw [hret _ acts rfl rfl rfl]) | rw [hret _ _ rfl rfl rfl]
  exact Steps.refl _
/-- what holds at the law's entry: the machine, the code, the tables' words (any of lw_tbl by 'hts w (by decide +kernel)'), the script of L ints xs at the cell b, what the Statement gives of the start (any of its parts by flat_of_before) -/
def lw_At (p : Program) (s : State) (m : MethodId) (meth : Method) (c : Code) (b L : Nat) (xs : Nat → Int32) : Prop :=
  p.tables.exec = Jvm.exec ∧ c.code = code ∧ meth.sig.returnType = ret ∧ c.maxLocals = 8 ∧ s.vm.findClass R_law = some m.cls ∧ (∀ w ∈ lw_tbl, w.before #[Value.ref b] s = true) ∧ va_X b L xs s s.heap ∧ b < s.heap.size ∧ meth.locks = false ∧ (Jvm.Cond.and given_1 narrow_1).before #[Value.ref b] s = true
/-! What the Statement gives of the start: the classes, the array classes, the constants. -/
def zl_tm (i : Nat) : Term := (zs_str.map (fun q => Term.string q.1 q.2.1)).getD i (.arg 0)
def zl_F : List Cond := flatC (Jvm.Cond.and given_1 narrow_1)
def zl_b (i : Nat) : Nat := [65, 198, 224, 242, 274, 315, 449, 613].getD i 0
def zl_p (i : Nat) : Nat := [61, 194, 220, 238, 270, 311, 445, 609].getD i 0
def zl_q (i j : Nat) : Nat := ([[0, 219, 236, 267, 307, 440, 603, 621], [0, 0, 237, 268, 308, 441, 604, 622], [0, 0, 0, 269, 309, 442, 605, 623], [0, 0, 0, 0, 310, 443, 606, 624], [0, 0, 0, 0, 0, 444, 607, 625], [0, 0, 0, 0, 0, 0, 608, 626], [0, 0, 0, 0, 0, 0, 0, 627]].getD i []).getD j 0
set_option maxRecDepth 100000 in
theorem zl_el : ∀ i : Nat, i < 8 → ∀ j : Nat, j < zs_len.getD i 0 → zl_F[zl_b i + j]? = some (Cond.eq (.elem (.field (zl_tm i) "java/lang/String" "value" "[B") (.int (Int32.ofNat j))) (.int ((zs_byt.getD i []).getD j 0))) := by decide +kernel
set_option maxRecDepth 100000 in
theorem zl_st : ∀ i : Nat, i < 8 → zl_F[zl_p i]? = some (Cond.exactly (zl_tm i) "java/lang/String") ∧ zl_F[zl_p i + 1]? = some (Cond.eq (.field (zl_tm i) "java/lang/String" "coder" "B") (.int 0)) ∧ zl_F[zl_p i + 2]? = some (Cond.arrayOf (.field (zl_tm i) "java/lang/String" "value" "[B") .byte) ∧ zl_F[zl_p i + 3]? = some (Cond.eq (.length (.field (zl_tm i) "java/lang/String" "value" "[B")) (.int (Int32.ofNat (zs_len.getD i 0)))) := by decide +kernel
set_option maxRecDepth 100000 in
theorem zl_ne : ∀ i : Nat, i < 8 → ∀ j : Nat, j < 8 → i < j → zl_F[zl_q i j]? = some (Cond.not (Cond.eq (zl_tm i) (zl_tm j))) := by decide +kernel
set_option maxRecDepth 100000 in
theorem zl_wa : ∀ j : Nat, j < 26 → zl_F[7 + j]? = some (Cond.eq (.elem (.static "SourceTokens$Scanner" "WORD_AT" "[I") (.int (Int32.ofNat j))) (.int (zs_wat.getD j 0))) := by decide +kernel
set_option maxRecDepth 100000 in
theorem zl_me : ∀ j : Nat, j < 8 → zl_F[43 + j]? = some (Cond.eq (.elem (.static "SourceTokensModel" "MEANT" "[I") (.int (Int32.ofNat j))) (.int (zs_mea.getD j 0))) := by decide +kernel
set_option maxRecDepth 100000 in
theorem zl_mi : zl_F[5]? = some (Cond.arrayOf (.static "SourceTokens$Scanner" "WORD_AT" "[I") .int) ∧ zl_F[6]? = some (Cond.eq (.length (.static "SourceTokens$Scanner" "WORD_AT" "[I")) (.int 26)) ∧ zl_F[41]? = some (Cond.arrayOf (.static "SourceTokensModel" "MEANT" "[I") .int) ∧ zl_F[42]? = some (Cond.eq (.length (.static "SourceTokensModel" "MEANT" "[I")) (.int 8)) ∧ zl_F[33]? = some (Cond.eq (.static "java/lang/String" "COMPACT_STRINGS" "Z") (.int 1)) ∧ zl_F[34]? = some (Cond.isRef (.static "jdk/internal/util/Preconditions" "SIOOBE_FORMATTER" "Ljava/util/function/BiFunction;")) ∧ zl_F[38]? = some (Cond.isRef (.static "java/lang/Throwable" "UNASSIGNED_STACK" "[Ljava/lang/StackTraceElement;")) ∧ zl_F[39]? = some (Cond.isRef (.static "java/lang/Throwable" "SUPPRESSED_SENTINEL" "Ljava/util/List;")) := by decide +kernel
set_option maxRecDepth 100000 in
theorem zl_ws : lw_tbl[471]? = some (.laysStatic "java/lang/String" "COMPACT_STRINGS" "Z") ∧ lw_tbl[70]? = some (.initialized "java/lang/String") ∧ lw_tbl[487]? = some (.laysStatic "jdk/internal/util/Preconditions" "SIOOBE_FORMATTER" "Ljava/util/function/BiFunction;") ∧ lw_tbl[72]? = some (.initialized "jdk/internal/util/Preconditions") ∧ lw_tbl[707]? = some (.laysStatic "java/lang/Throwable" "UNASSIGNED_STACK" "[Ljava/lang/StackTraceElement;") ∧ lw_tbl[75]? = some (.initialized "java/lang/Throwable") ∧ lw_tbl[709]? = some (.laysStatic "java/lang/Throwable" "SUPPRESSED_SENTINEL" "Ljava/util/List;") ∧ lw_tbl[456]? = some (.laysStatic "SourceTokens$Scanner" "WORD_AT" "[I") ∧ lw_tbl[63]? = some (.initialized "SourceTokens$Scanner") ∧ lw_tbl[1081]? = some (.laysStatic "SourceTokensModel" "MEANT" "[I") ∧ lw_tbl[67]? = some (.initialized "SourceTokensModel") := by decide +kernel
def zl_n (i : Nat) : Nat := [89, 120, 126, 416, 431, 438, 544, 563, 573, 583, 609, 616, 782].getD i 0
set_option maxRecDepth 100000 in
theorem zl_nest : ∀ i : Nat, i < 13 → lw_tbl[zl_n i]? = za_nest[i]? := by decide +kernel
set_option maxRecDepth 100000 in
theorem zl_xB : ∀ i : Nat, i < 4 → lw_tbl[682 + 2 * i]? = zx_B[i]? := by decide +kernel
def zl_s (i : Nat) : Nat := [461, 719, 759, 771, 790, 1007, 1026, 1079].getD i 0
set_option maxRecDepth 100000 in
theorem zl_strs : ∀ i : Nat, i < 8 → lw_tbl[zl_s i]? = (zs_str.map fun q => Cond.stringRef q.1 q.2.1 q.2.2)[i]? := by decide +kernel
theorem zl_arr {s : State} {args : Array Value} {ty : FieldType} (h : (Cond.arrayClass ty).before args s = true) (hty : ∀ C : String, ty ≠ .object C) : ∃ cA : ClassId, ArrOfT s cA ty ∧ va_RA s cA ty := by
  obtain ⟨cA, kA, comp, h1, h2, h3⟩ := Cond.arrayClass_spec h
  refine ⟨cA, fun n z => ⟨fun k h => (by cases h), kA, h2, comp, h3⟩, ?_⟩
  cases ty with
  | object C => exact absurd rfl (hty C)
  | _ => exact h1
theorem zl_start {p : Program} {s : State} {m : MethodId} {meth : Method} {c : Code} {b L : Nat} {xs : Nat → Int32} (C0 : lw_At p s m meth c b L xs) : ∃ (g : za_G) (E : za_E), za_H p s m #[Value.ref b] c cL_law 8 RL g E (fun q : Nat => s.heap.size ≤ q) ∧ zx_env (fun q : Nat => s.heap.size ≤ q) s s.heap := by
  obtain ⟨hx, hb, hr, hml, hown, hts, hX, hbl, hlocks, hgv⟩ := C0
  have hw : ∀ w ∈ wT, w.before #[Value.ref b] s = true := fun w h => hts w (List.mem_filter.mp h).1
  have hA0 : ∀ a : Nat, a < s.heap.size → ¬ (fun q : Nat => s.heap.size ≤ q) a := fun a h => Nat.not_le.mpr h
  have hF : ∀ w ∈ zl_F, w.before #[Value.ref b] s = true := flat_of_before _ hgv
  have hf : ∀ (k : Nat) (w : Cond), zl_F[k]? = some w → w.before #[Value.ref b] s = true := fun k w h => hF w (List.mem_of_getElem? h)
  have ht : ∀ (k : Nat) (w : Cond), lw_tbl[k]? = some w → w.before #[Value.ref b] s = true := fun k w h => hts w (List.mem_of_getElem? h)
  -- classes
  obtain ⟨c0, i0, k0⟩ := u_known (C := RX0) (T := TX0) (N := 2) (n := 2) hw iX0 (hw _ w_125)
  obtain ⟨c1, i1, k1⟩ := u_known (C := RX1) (T := TX1) (N := 3) (n := 3) hw iX1 (hw _ w_250)
  obtain ⟨c2, i2, k2⟩ := u_known (C := RX2) (T := TX2) (N := 5) (n := 5) hw iX2 (hw _ w_142)
  obtain ⟨c3, i3, k3⟩ := u_known (C := RX3) (T := TX3) (N := 2) (n := 2) hw iX3 (hw _ w_193)
  obtain ⟨c4, i4, k4⟩ := u_known (C := RX4) (T := TX4) (N := 3) (n := 3) hw iX4 (hw _ w_206)
  obtain ⟨c5, i5, k5⟩ := u_known (C := RX5) (T := TX5) (N := 9) (n := 9) hw iX5 (hw _ w_187)
  obtain ⟨c6, i6, k6⟩ := u_known (C := RX7) (T := TX7) (N := 6) (n := 6) hw iX7 (hw _ w_88)
  obtain ⟨c7, i7, k7⟩ := u_known (C := RX8) (T := TX8) (N := 4) (n := 4) hw iX8 (hw _ w_119)
  obtain ⟨c8, i8, k8⟩ := u_known (C := RX9) (T := TX9) (N := 4) (n := 4) hw iX9 (hw _ w_80)
  obtain ⟨c9, i9, k9⟩ := u_known (C := RX10) (T := TX10) (N := 44) (n := 44) hw iX10 (hw _ w_805)
  obtain ⟨aB, b1, b2⟩ := zl_arr (hw _ w_117) (fun _ h => by cases h)
  obtain ⟨aI, b3, b4⟩ := zl_arr (hw _ w_140) (fun _ h => by cases h)
  obtain ⟨aJ, b5, b6⟩ := zl_arr (hw _ w_265) (fun _ h => by cases h)
  obtain ⟨aZ, b7, b8⟩ := zl_arr (hw _ w_944) (fun _ h => by cases h)
  -- String constants
  obtain ⟨adK, adV, hS, hev⟩ := vk_Sof (args := #[Value.ref b]) (s := s) (N := 8) (tm := zl_tm) (len := zs_len) (byt := zs_byt) (A := fun q : Nat => s.heap.size ≤ q) (by decide) (fun i hi => hf _ _ (zl_st i hi).1) (fun i hi => hf _ _ (zl_st i hi).2.1) (fun i hi => hf _ _ (zl_st i hi).2.2.1) (fun i hi => hf _ _ (zl_st i hi).2.2.2) (fun i hi j hj => hf _ _ (zl_el i hi j hj)) (fun i j hi hj hij => by
    rcases Nat.lt_or_gt_of_ne hij with h | h
    · exact Or.inl (hf _ _ (zl_ne i hi j hj h))
    · exact Or.inr (hf _ _ (zl_ne j hj i hi h))) hA0
  -- static tables
  obtain ⟨m1, m2, m3, m4, m5, m6, m7, m8⟩ := zl_mi
  obtain ⟨t1, t2, t3, t4, t5, t6, t7, t8, t9, t10, t11⟩ := zl_ws
  obtain ⟨qw, w1, w2⟩ := va_Tof (args := #[Value.ref b]) (s := s) (tm := .static "SourceTokens$Scanner" "WORD_AT" "[I") (ty := .int) (N := 26) (f := fun j => .int (zs_wat.getD j 0)) (A := fun q : Nat => s.heap.size ≤ q) (by decide) (hf _ _ m1) (va_eqt (hf _ _ m2)) (fun j hj => va_eqt (hf _ _ (zl_wa j hj))) hA0
  obtain ⟨qm, w3, w4⟩ := va_Tof (args := #[Value.ref b]) (s := s) (tm := .static "SourceTokensModel" "MEANT" "[I") (ty := .int) (N := 8) (f := fun j => .int (zs_mea.getD j 0)) (A := fun q : Nat => s.heap.size ≤ q) (by decide) (hf _ _ m3) (va_eqt (hf _ _ m4)) (fun j hj => va_eqt (hf _ _ (zl_me j hj))) hA0
  have z1 := vx_Zqof (A := fun q : Nat => s.heap.size ≤ q) (ht _ _ t5) (ht _ _ t6) (hf _ _ m7) hA0
  have z2 := vx_Zqof (A := fun q : Nat => s.heap.size ≤ q) (ht _ _ t7) (ht _ _ t6) (hf _ _ m8) hA0
  refine ⟨((fun k => if k = 0 then c0 else if k = 1 then c1 else if k = 2 then c2 else if k = 3 then c3 else if k = 4 then c4 else if k = 5 then c5 else if k = 6 then c6 else if k = 7 then c7 else if k = 8 then c8 else c9, fun k => if k = 0 then i0 else if k = 1 then i1 else if k = 2 then i2 else if k = 3 then i3 else if k = 4 then i4 else if k = 5 then i5 else if k = 6 then i6 else if k = 7 then i7 else if k = 8 then i8 else i9), aB, aI, aJ, aZ), (adK, adV, fun k => if k = 0 then qw else qm), ⟨hx, hb, hml, hown, hw, ⟨?_, ?_⟩, fun _ h => h, ?_⟩, ⟨?_, z1.2, z2.2⟩⟩
  · intro k q hq
    match k, hq with
    | 0, hq => cases hq; exact k0
    | 1, hq => cases hq; exact k1
    | 2, hq => cases hq; exact k2
    | 3, hq => cases hq; exact k3
    | 4, hq => cases hq; exact k4
    | 5, hq => cases hq; exact k5
    | 6, hq => cases hq; exact k6
    | 7, hq => cases hq; exact k7
    | 8, hq => cases hq; exact k8
    | 9, hq => cases hq; exact k9
    | k + 10, hq => simp [vwCl] at hq
  · intro k q hq
    match k, hq with
    | 0, hq => cases hq; exact ⟨b1, b2⟩
    | 1, hq => cases hq; exact ⟨b3, b4⟩
    | 2, hq => cases hq; exact ⟨b5, b6⟩
    | 3, hq => cases hq; exact ⟨b7, b8⟩
    | k + 4, hq => simp [za_ty] at hq
  · refine ⟨fun w hz => ?_, hS, fun i q hq => ?_, va_Zof (ht _ _ t1) (ht _ _ t2) (va_eqt (hf _ _ m5)) hA0, va_Zqof (ht _ _ t3) (ht _ _ t4) (hf _ _ m6) hA0, z1.1, z2.1, va_Zof (ht _ _ t8) (ht _ _ t9) w1 hA0, w2, va_Zof (ht _ _ t10) (ht _ _ t11) w3 hA0, w4⟩
    · obtain ⟨i, hi, e⟩ := List.getElem_of_mem hz
      have e2 : za_nest[i]? = some w := by rw [List.getElem?_eq_getElem hi, e]
      exact va_Nw.of ((show ∀ w ∈ za_nest, w.onTables = true by decide +kernel) w hz) (ht _ _ ((zl_nest i hi).trans e2))
    · have hi : i < 8 := (List.getElem?_eq_some_iff.mp hq).1
      have e1 : (zs_str.map fun q => Cond.stringRef q.1 q.2.1 q.2.2)[i]? = some (Cond.stringRef q.1 q.2.1 q.2.2) := by rw [List.getElem?_map, hq]; rfl
      refine vk_R.of (A := #[Value.ref b]) (ht _ _ ((zl_strs i hi).trans e1)) ?_
      have e3 : zl_tm i = Term.string q.1 q.2.1 := by
        unfold zl_tm
        rw [List.getD_eq_getElem?_getD, List.getElem?_map, hq]
        rfl
      rw [← e3]
      exact hev i hi
  · intro w hz
    obtain ⟨i, hi, e⟩ := List.getElem_of_mem hz
    have e2 : zx_B[i]? = some w := by rw [List.getElem?_eq_getElem hi, e]
    exact va_Nw.of ((show ∀ w ∈ zx_B, w.onTables = true by decide +kernel) w hz) (ht _ _ ((zl_xB i hi).trans e2))
