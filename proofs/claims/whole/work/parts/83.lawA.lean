/-! The law's loop: each kind of call. -/
abbrev zl_w (g : za_G) (o d : Nat → Nat) (N : zc_N) (h : Nat) (ad : Nat → Nat) (M : zm_M) (ob : Nat) (f : Nat → Int64) : va_W := zc_ws g o d N ++ (zm_ws g h ad M ++ [zy_o g ob f])
/-- before a turn of the loop: j calls made -/
def zl_ok (g : za_G) (o : Nat → Nat) (h : Nat) (ad : Nat → Nat) (ob : Nat) (s : State) (j : Nat) (d : Nat → Nat) (N : zc_N) (M : zm_M) (f : Nat → Int64) (H : Heap) (locs : List Loc) (cells slots : Nat) : Prop :=
  zl_R N M j ∧ cells ≤ 40 + zc_L N + j ∧ slots ≤ 350300 + 2 * zc_L N + 6 * j ∧ va_P g.1 vwCl (zl_w g o d N h ad M ob f) H ∧ va_D (fun q : Nat => s.heap.size ≤ q) (zl_w g o d N h ad M ob f) ∧ va_S (fun q : Nat => s.heap.size ≤ q) s.heap H locs
theorem zl_cw1 : Cond.codeWith yL_token cL_token 5 (some .int) [(0, 10, 13, 13)] ∈ wT := wT_at 673 (by decide +kernel) (by decide +kernel)
theorem zl_cw2 : Cond.codeWith yL_byteOf cL_byteOf 5 (some .int) [(0, 10, 13, 13)] ∈ wT := wT_at 748 (by decide +kernel) (by decide +kernel)
theorem zl_cw3 : Cond.codeWith yL_number cL_number 4 (some .int) [(0, 8, 11, 13)] ∈ wT := wT_at 762 (by decide +kernel) (by decide +kernel)
theorem zl_cw4 : Cond.codeWith yL_fits cL_fits 5 (some .int) [(0, 17, 20, 13)] ∈ wT := wT_at 785 (by decide +kernel) (by decide +kernel)
section
variable {p : Program} {l : Launch} {e : Env} {R : Room} {s : State} {m : MethodId} {args : Array Value} {below : List Frame} {meth : Method} {c : Code} {H : Heap} {locs : List Loc} {cells slots mc ms : Nat} {Q : State → Prop} {cc c1 : ByteArray} {pc nL n d k index : Nat} {ls : Array Slot} {st0 rest : List Value} {g : za_G} {E : za_E} {A : Nat → Prop} {ws wc : va_W} {own : String} {y : MethodName} {ret : Option FieldType} {As : List Value} {Qc : (Nat → Prop) → Array Value → State → Outcome → State → Prop}
theorem zl_runSW {hh : List (Nat × Nat × Nat × Nat)} (C : za_H p s m args c cc nL own g E A) (hX : zx_env A s s.heap) (hP : va_P g.1 vwCl ws H) (hD : va_D A ws) (hS : va_S A s.heap H locs) (isC : List Nat) (h1 : isC.filterMap (fun i => ws[i]?) = wc) (h2 : va_nd isC = true) (h3 : isC.map (fun i => ws[i]?) = wc.map some)
    (hM : zy_Met l g E y c1 n ret hh d mc ms As wc Qc) (hl : Cond.methodLink own index y ∈ wT) (hcw : Cond.codeWith y c1 n ret hh ∈ wT) (hini : Cond.initialized y.cls ∈ wT) (hstt : Cond.static y ∈ wT) (hyy : y.cls ≠ "java/lang/invoke/MethodHandle" ∧ y.cls ≠ "java/lang/invoke/VarHandle" ∧ (parseMethodDescriptor y.desc).map (fun d => d.parameters.length) = some k) (hn : As.length = k) (hsize : ls.size = nL) (hst : st0 = As.reverse ++ rest) (hr : (rest.map fun v => v.category).sum ≤ 8) (hdg : decode cc pc = .ok (.invokestatic index, 3)) (hR : d + 1 ≤ R.frames ∧ 8 + (n + 11) + 32 * d ≤ R.locals) (hf : cells + mc ≤ R.cells ∧ slots + ms ≤ R.slots) :
    va_Run p l e R s m args below meth c H locs cells slots mc ms (F0 m pc ls st0) rest (Qc (va_A wc H.size) As.toArray) (va_A wc H.size) := by
  subst hst
  obtain ⟨hx, hb, hml, hown, hts, hK, hA, hE⟩ := id C
  refine vx_runSW (Ts := wT) (hh := hh) (bytes := c1) (maxL := n) (ret := ret) (n := k) ⟨hx, hb, hml, hown, hts⟩ (hM H.size) ⟨⟨rfl, rfl, hR.1, hR.2, pay_in hts (fun w hw => ⟨(wT_c hcw wT_s) w hw, wT_good w ((wT_c hcw wT_s) w hw)⟩), List.mem_cons_self⟩, hts _ hcw, hts _ hini, ⟨hyy.1, hyy.2.1⟩, fun sig h => ?_, hts _ hl, hts _ hstt⟩ ⟨zx_blind, fun U hU hW => zx_pre C hX hP hD hS isC h1 h2 h3 U hU hW⟩ rfl hn hsize rfl (lv_room hr) hdg hf
  have h2 := hyy.2.2
  rw [h] at h2
  exact (Option.some.inj h2).symm
end
section
variable {p : Program} {l : Launch} {e : Env} {s : State} {m : MethodId} {below : List Frame} {meth : Method} {c : Code} {g : za_G} {E : za_E} {o d ad : Nat → Nat} {h ob b L j : Nat} {xs : Nat → Int32} {N : zc_N} {M : zm_M} {f : Nat → Int64} {H : Heap} {locs : List Loc} {cells slots : Nat} {ls : Array Slot}
theorem zl_in {L j : Nat} (h : 6 * j + 6 ≤ L) (hL : L ≤ 3072) {k : Nat} (hk : k < 6) {x : Int32} (hx : x = nI k) : vp_in (nI (6 * j) + x) L := by
  rw [hx, nI_add]
  exact vp_in_nI (by omega) (by omega)

set_option maxHeartbeats 4000000 in
set_option maxRecDepth 100000 in
theorem zl_c0 (C : za_H p s m #[Value.ref b] c cL_law 8 RL g E (fun q : Nat => s.heap.size ≤ q)) (hX : zx_env (fun q : Nat => s.heap.size ≤ q) s s.heap) (hl0 : l.stackTraces = false) (hXs : va_X b L xs s s.heap) (hbl : b < s.heap.size) (hj : 6 * j + 6 ≤ L) (hL : L ≤ 3072) (hok : zl_ok g o h ad ob s j d N M f H locs cells slots) (hl : lv_has ls 8 [(0, .ref b), (1, .ref (o 8)), (2, .ref h), (3, .ref ob), (4, .int (nI (6 * j)))])
    (kk : ∀ (d : Nat → Nat) (N : zc_N) (M : zm_M) (f : Nat → Int64) (H : Heap) (locs : List Loc) (cells slots : Nat) (ls : Array Slot), zl_ok g o h ad ob s (j + 1) d N M f H locs cells slots → lv_has ls 8 [(0, .ref b), (1, .ref (o 8)), (2, .ref h), (3, .ref ob), (4, .int (nI (6 * j)))] → W p l e room_1 s m #[Value.ref b] below meth c H locs cells slots (lw_Z below #[Value.ref b] s) (F0 m 541 ls [])) :
    W p l e room_1 s m #[Value.ref b] below meth c H locs cells slots (lw_Z below #[Value.ref b] s) (F0 m 100 ls []) := by
  obtain ⟨hx, hb, hml, hown, hts, hK, hA, hE⟩ := id C
  have hbA : ¬ (fun q : Nat => s.heap.size ≤ q) b := Nat.not_le.mpr hbl
  obtain ⟨hR9, hcl, hsl, hP, hD, hS⟩ := hok
  obtain ⟨⟨n, t, k, hR, hn⟩, hd⟩ := id hR9
  have hI := hR.1
  have hLe := zc_L_le hI
  refine lv_aload_n hx hb dL_law_100 rfl (lv_at hl 1 rfl) ?_
  refine lv_aload_n hx hb dL_law_101 rfl (lv_at hl 0 rfl) ?_
  refine lv_iload hx hb dL_law_102 (lv_at hl 4 rfl) ?_
  refine lv_iconst (v := 1) hx hb dL_law_104 (by decide) ?_
  refine lv_iadd hx hb dL_law_105 ?_
  refine va_sld hx hb hXs hbl hbA hS (zl_in hj hL (k := 1) (by decide) rfl) dL_law_106 ?_
  refine lv_aload_n hx hb dL_law_107 rfl (lv_at hl 0 rfl) ?_
  refine lv_iload hx hb dL_law_108 (lv_at hl 4 rfl) ?_
  refine lv_iconst (v := 2) hx hb dL_law_110 (by decide) ?_
  refine lv_iadd hx hb dL_law_111 ?_
  refine va_sld hx hb hXs hbl hbA hS (zl_in hj hL (k := 2) (by decide) rfl) dL_law_112 ?_
  refine lv_aload_n hx hb dL_law_113 rfl (lv_at hl 0 rfl) ?_
  refine lv_iload hx hb dL_law_114 (lv_at hl 4 rfl) ?_
  refine lv_iconst (v := 3) hx hb dL_law_116 (by decide) ?_
  refine lv_iadd hx hb dL_law_117 ?_
  refine va_sld hx hb hXs hbl hbA hS (zl_in hj hL (k := 3) (by decide) rfl) dL_law_118 ?_
  refine lv_aload_n hx hb dL_law_119 rfl (lv_at hl 0 rfl) ?_
  refine lv_iload hx hb dL_law_120 (lv_at hl 4 rfl) ?_
  refine lv_iconst (v := 4) hx hb dL_law_122 (by decide) ?_
  refine lv_iadd hx hb dL_law_123 ?_
  refine va_sld hx hb hXs hbl hbA hS (zl_in hj hL (k := 4) (by decide) rfl) dL_law_124 ?_
  refine lv_aload_n hx hb dL_law_125 rfl (lv_at hl 0 rfl) ?_
  refine lv_iload hx hb dL_law_126 (lv_at hl 4 rfl) ?_
  refine lv_iconst (v := 5) hx hb dL_law_128 (by decide) ?_
  refine lv_iadd hx hb dL_law_129 ?_
  refine va_sld hx hb hXs hbl hbA hS (zl_in hj hL (k := 5) (by decide) rfl) dL_law_130 ?_
  refine za_ci (wc := zc_ws g o d N) (wr := zm_ws g h ad M ++ [zy_o g ob f]) C hP hD hS [0, 1, 2, 3, 4, 5, 6, 7, 8, 9, 10, 11, 12, 13, 14, 15, 16] [17, 18, 19, 20, 21, 22, 23, 24, 25, 26, 27, 28, 29, 30, 31, 32, 33, 34, 35] rfl rfl (by decide) (by decide) (zb_runV C hP hD hS [0, 1, 2, 3, 4, 5, 6, 7, 8, 9, 10, 11, 12, 13, 14, 15, 16] rfl (by decide) rfl (kX9_feed l g E o d N (xs (nI (6 * j) + 1).toNatClampNeg) (xs (nI (6 * j) + 2).toNatClampNeg) (xs (nI (6 * j) + 3).toNatClampNeg) (xs (nI (6 * j) + 4).toNatClampNeg) (xs (nI (6 * j) + 5).toNatClampNeg) hI) w_279 mX9_feed 8 rfl rfl rfl rfl hl.1 rfl (Nat.le_of_ble_eq_true rfl) dL_law_131 ⟨Nat.le_of_ble_eq_true rfl, Nat.le_of_ble_eq_true rfl⟩ ⟨by show cells + (360448 - zc_L N) ≤ 601024; omega, by show slots + (720896 - 2 * zc_L N) ≤ 7293033; omega⟩) (fun r1 u1 H locs hr1 hP hD hS => ?_)
  obtain ⟨N1, d1⟩ := u1
  obtain ⟨hr1, hu1⟩ := hr1
  have hu1 : N1 = zc_feed N (xs (nI (6 * j) + 1).toNatClampNeg) (xs (nI (6 * j) + 2).toNatClampNeg) (xs (nI (6 * j) + 3).toNatClampNeg) (xs (nI (6 * j) + 4).toNatClampNeg) (xs (nI (6 * j) + 5).toNatClampNeg) := hu1
  have hg := zl_feed (N := N) (xs (nI (6 * j) + 1).toNatClampNeg) (xs (nI (6 * j) + 2).toNatClampNeg) (xs (nI (6 * j) + 3).toNatClampNeg) (xs (nI (6 * j) + 4).toNatClampNeg) (xs (nI (6 * j) + 5).toNatClampNeg)
  have hI1 : zc_I N1 := by rw [hu1]; exact zi_feed hI (xs (nI (6 * j) + 1).toNatClampNeg) (xs (nI (6 * j) + 2).toNatClampNeg) (xs (nI (6 * j) + 3).toNatClampNeg) (xs (nI (6 * j) + 4).toNatClampNeg) (xs (nI (6 * j) + 5).toNatClampNeg)
  have hLe1 := zc_L_le hI1
  rw [← hu1] at hg
  rw [← hu1]
  refine lv_aload_n hx hb dL_law_134 rfl (lv_at hl 2 rfl) ?_
  refine lv_aload_n hx hb dL_law_135 rfl (lv_at hl 0 rfl) ?_
  refine lv_iload hx hb dL_law_136 (lv_at hl 4 rfl) ?_
  refine lv_iconst (v := 1) hx hb dL_law_138 (by decide) ?_
  refine lv_iadd hx hb dL_law_139 ?_
  refine va_sld hx hb hXs hbl hbA hS (zl_in hj hL (k := 1) (by decide) rfl) dL_law_140 ?_
  refine lv_aload_n hx hb dL_law_141 rfl (lv_at hl 0 rfl) ?_
  refine lv_iload hx hb dL_law_142 (lv_at hl 4 rfl) ?_
  refine lv_iconst (v := 2) hx hb dL_law_144 (by decide) ?_
  refine lv_iadd hx hb dL_law_145 ?_
  refine va_sld hx hb hXs hbl hbA hS (zl_in hj hL (k := 2) (by decide) rfl) dL_law_146 ?_
  refine lv_aload_n hx hb dL_law_147 rfl (lv_at hl 0 rfl) ?_
  refine lv_iload hx hb dL_law_148 (lv_at hl 4 rfl) ?_
  refine lv_iconst (v := 3) hx hb dL_law_150 (by decide) ?_
  refine lv_iadd hx hb dL_law_151 ?_
  refine va_sld hx hb hXs hbl hbA hS (zl_in hj hL (k := 3) (by decide) rfl) dL_law_152 ?_
  refine lv_aload_n hx hb dL_law_153 rfl (lv_at hl 0 rfl) ?_
  refine lv_iload hx hb dL_law_154 (lv_at hl 4 rfl) ?_
  refine lv_iconst (v := 4) hx hb dL_law_156 (by decide) ?_
  refine lv_iadd hx hb dL_law_157 ?_
  refine va_sld hx hb hXs hbl hbA hS (zl_in hj hL (k := 4) (by decide) rfl) dL_law_158 ?_
  refine lv_aload_n hx hb dL_law_159 rfl (lv_at hl 0 rfl) ?_
  refine lv_iload hx hb dL_law_160 (lv_at hl 4 rfl) ?_
  refine lv_iconst (v := 5) hx hb dL_law_162 (by decide) ?_
  refine lv_iadd hx hb dL_law_163 ?_
  refine va_sld hx hb hXs hbl hbA hS (zl_in hj hL (k := 5) (by decide) rfl) dL_law_164 ?_
  refine za_ci (wc := zm_ws g h ad M) (wr := [zy_o g ob f] ++ zc_ws g o d1 (N1)) C hP hD hS [0, 1, 2, 3, 4, 5, 6, 7, 8, 9, 10, 11, 12, 13, 14, 15, 16, 17] [18, 19, 20, 21, 22, 23, 24, 25, 26, 27, 28, 29, 30, 31, 32, 33, 34, 35] rfl rfl (by decide) (by decide) (za_runV C hP hD hS [0, 1, 2, 3, 4, 5, 6, 7, 8, 9, 10, 11, 12, 13, 14, 15, 16, 17] rfl (by decide) rfl (kX10_feed l g E h ad M (xs (nI (6 * j) + 1).toNatClampNeg) (xs (nI (6 * j) + 2).toNatClampNeg) (xs (nI (6 * j) + 3).toNatClampNeg) (xs (nI (6 * j) + 4).toNatClampNeg) (xs (nI (6 * j) + 5).toNatClampNeg) n hR.2.1.2.1 (by omega)) w_949 mX10_feed 0 rfl rfl rfl rfl hl.1 rfl (Nat.le_of_ble_eq_true rfl) dL_law_165 ⟨Nat.le_of_ble_eq_true rfl, Nat.le_of_ble_eq_true rfl⟩ ⟨by show (cells + (zc_L N1 - zc_L N)) + 0 ≤ 601024; omega, by show (slots + 2 * (zc_L N1 - zc_L N)) + 0 ≤ 7293033; omega⟩) (fun r2 u2 H locs hr2 hP hD hS => ?_)
  obtain ⟨hr2, rfl⟩ := hr2
  obtain ⟨q1, q2⟩ := zp_feed hR (by omega) (xs (nI (6 * j) + 1).toNatClampNeg) (xs (nI (6 * j) + 2).toNatClampNeg) (xs (nI (6 * j) + 3).toNatClampNeg) (xs (nI (6 * j) + 4).toNatClampNeg) (xs (nI (6 * j) + 5).toNatClampNeg)
  refine lv_icmp_eq (tgt := 541) hx hb dL_law_168 (by decide) (fun _ => ?_) (fun ce => absurd (by rw [hr1, hr2, q1]) ce)
  exact kk d1 (N1) (zm_feed M (xs (nI (6 * j) + 1).toNatClampNeg) (xs (nI (6 * j) + 2).toNatClampNeg) (xs (nI (6 * j) + 3).toNatClampNeg) (xs (nI (6 * j) + 4).toNatClampNeg) (xs (nI (6 * j) + 5).toNatClampNeg)) f H locs _ _ ls ⟨⟨⟨n + 20, t, k, by rw [hu1]; exact q2, by omega⟩, by rw [hu1]; exact zh.feed.hd hd⟩, by omega, by omega, hP.sub (ws' := zl_w g o d1 (N1) h ad (zm_feed M (xs (nI (6 * j) + 1).toNatClampNeg) (xs (nI (6 * j) + 2).toNatClampNeg) (xs (nI (6 * j) + 3).toNatClampNeg) (xs (nI (6 * j) + 4).toNatClampNeg) (xs (nI (6 * j) + 5).toNatClampNeg)) ob f) [1, 2, 3, 4, 5, 6, 7, 8, 9, 10, 11, 12, 13, 14, 15, 16, 17, 18, 19, 20, 21, 22, 23, 24, 25, 26, 27, 28, 29, 30, 31, 32, 33, 34, 35, 0] rfl, hD.sub (ws' := zl_w g o d1 (N1) h ad (zm_feed M (xs (nI (6 * j) + 1).toNatClampNeg) (xs (nI (6 * j) + 2).toNatClampNeg) (xs (nI (6 * j) + 3).toNatClampNeg) (xs (nI (6 * j) + 4).toNatClampNeg) (xs (nI (6 * j) + 5).toNatClampNeg)) ob f) [1, 2, 3, 4, 5, 6, 7, 8, 9, 10, 11, 12, 13, 14, 15, 16, 17, 18, 19, 20, 21, 22, 23, 24, 25, 26, 27, 28, 29, 30, 31, 32, 33, 34, 35, 0] (by decide) rfl, hS⟩ hl
set_option maxHeartbeats 4000000 in
set_option maxRecDepth 100000 in
theorem zl_c1 (C : za_H p s m #[Value.ref b] c cL_law 8 RL g E (fun q : Nat => s.heap.size ≤ q)) (hX : zx_env (fun q : Nat => s.heap.size ≤ q) s s.heap) (hl0 : l.stackTraces = false) (hXs : va_X b L xs s s.heap) (hbl : b < s.heap.size) (hj : 6 * j + 6 ≤ L) (hL : L ≤ 3072) (hok : zl_ok g o h ad ob s j d N M f H locs cells slots) (hl : lv_has ls 8 [(0, .ref b), (1, .ref (o 8)), (2, .ref h), (3, .ref ob), (4, .int (nI (6 * j)))])
    (kk : ∀ (d : Nat → Nat) (N : zc_N) (M : zm_M) (f : Nat → Int64) (H : Heap) (locs : List Loc) (cells slots : Nat) (ls : Array Slot), zl_ok g o h ad ob s (j + 1) d N M f H locs cells slots → lv_has ls 8 [(0, .ref b), (1, .ref (o 8)), (2, .ref h), (3, .ref ob), (4, .int (nI (6 * j)))] → W p l e room_1 s m #[Value.ref b] below meth c H locs cells slots (lw_Z below #[Value.ref b] s) (F0 m 541 ls [])) :
    W p l e room_1 s m #[Value.ref b] below meth c H locs cells slots (lw_Z below #[Value.ref b] s) (F0 m 173 ls []) := by
  obtain ⟨hx, hb, hml, hown, hts, hK, hA, hE⟩ := id C
  have hbA : ¬ (fun q : Nat => s.heap.size ≤ q) b := Nat.not_le.mpr hbl
  obtain ⟨hR9, hcl, hsl, hP, hD, hS⟩ := hok
  obtain ⟨⟨n, t, k, hR, hn⟩, hd⟩ := id hR9
  have hI := hR.1
  have hLe := zc_L_le hI
  refine lv_aload_n hx hb dL_law_173 rfl (lv_at hl 1 rfl) ?_
  refine lv_aload_n hx hb dL_law_174 rfl (lv_at hl 0 rfl) ?_
  refine lv_iload hx hb dL_law_175 (lv_at hl 4 rfl) ?_
  refine lv_iconst (v := 1) hx hb dL_law_177 (by decide) ?_
  refine lv_iadd hx hb dL_law_178 ?_
  refine va_sld hx hb hXs hbl hbA hS (zl_in hj hL (k := 1) (by decide) rfl) dL_law_179 ?_
  refine za_ci (wc := zc_ws g o d N) (wr := zm_ws g h ad M ++ [zy_o g ob f]) C hP hD hS [0, 1, 2, 3, 4, 5, 6, 7, 8, 9, 10, 11, 12, 13, 14, 15, 16] [17, 18, 19, 20, 21, 22, 23, 24, 25, 26, 27, 28, 29, 30, 31, 32, 33, 34, 35] rfl rfl (by decide) (by decide) (za_runV C hP hD hS [0, 1, 2, 3, 4, 5, 6, 7, 8, 9, 10, 11, 12, 13, 14, 15, 16] rfl (by decide) rfl (kX9_end l g E o d N (xs (nI (6 * j) + 1).toNatClampNeg) hI) w_308 mX9_end 8 rfl rfl rfl rfl hl.1 rfl (Nat.le_of_ble_eq_true rfl) dL_law_180 ⟨Nat.le_of_ble_eq_true rfl, Nat.le_of_ble_eq_true rfl⟩ ⟨by show cells + 0 ≤ 601024; omega, by show slots + 0 ≤ 7293033; omega⟩) (fun r1 u1 H locs hr1 hP hD hS => ?_)
  obtain ⟨hr1, rfl⟩ := hr1
  refine lv_aload_n hx hb dL_law_183 rfl (lv_at hl 2 rfl) ?_
  refine lv_aload_n hx hb dL_law_184 rfl (lv_at hl 0 rfl) ?_
  refine lv_iload hx hb dL_law_185 (lv_at hl 4 rfl) ?_
  refine lv_iconst (v := 1) hx hb dL_law_187 (by decide) ?_
  refine lv_iadd hx hb dL_law_188 ?_
  refine va_sld hx hb hXs hbl hbA hS (zl_in hj hL (k := 1) (by decide) rfl) dL_law_189 ?_
  refine za_ci (wc := zm_ws g h ad M) (wr := [zy_o g ob f] ++ zc_ws g o d (zc_cutTo N (xs (nI (6 * j) + 1).toNatClampNeg))) C hP hD hS [0, 1, 2, 3, 4, 5, 6, 7, 8, 9, 10, 11, 12, 13, 14, 15, 16, 17] [18, 19, 20, 21, 22, 23, 24, 25, 26, 27, 28, 29, 30, 31, 32, 33, 34, 35] rfl rfl (by decide) (by decide) (za_runV C hP hD hS [0, 1, 2, 3, 4, 5, 6, 7, 8, 9, 10, 11, 12, 13, 14, 15, 16, 17] rfl (by decide) rfl (kX10_end l g E h ad M (xs (nI (6 * j) + 1).toNatClampNeg)) w_953 mX10_end 0 rfl rfl rfl rfl hl.1 rfl (Nat.le_of_ble_eq_true rfl) dL_law_190 ⟨Nat.le_of_ble_eq_true rfl, Nat.le_of_ble_eq_true rfl⟩ ⟨by show (cells + 0) + 0 ≤ 601024; omega, by show (slots + 0) + 0 ≤ 7293033; omega⟩) (fun r2 u2 H locs hr2 hP hD hS => ?_)
  obtain ⟨hr2, rfl⟩ := hr2
  obtain ⟨q1, n', q2, q3⟩ := zp_end hR (by omega) (xs (nI (6 * j) + 1).toNatClampNeg)
  refine lv_icmp_eq (tgt := 541) hx hb dL_law_193 (by decide) (fun _ => ?_) (fun ce => absurd (by rw [hr1, hr2, q1]) ce)
  exact kk d (zc_cutTo N (xs (nI (6 * j) + 1).toNatClampNeg)) (zm_end M (xs (nI (6 * j) + 1).toNatClampNeg)) f H locs _ _ ls ⟨⟨⟨n', t, k, q3, by omega⟩, zh.cut.hd hd⟩, by rw [zL_cutTo]; omega, by rw [zL_cutTo]; omega, hP.sub (ws' := zl_w g o d (zc_cutTo N (xs (nI (6 * j) + 1).toNatClampNeg)) h ad (zm_end M (xs (nI (6 * j) + 1).toNatClampNeg)) ob f) [1, 2, 3, 4, 5, 6, 7, 8, 9, 10, 11, 12, 13, 14, 15, 16, 17, 18, 19, 20, 21, 22, 23, 24, 25, 26, 27, 28, 29, 30, 31, 32, 33, 34, 35, 0] rfl, hD.sub (ws' := zl_w g o d (zc_cutTo N (xs (nI (6 * j) + 1).toNatClampNeg)) h ad (zm_end M (xs (nI (6 * j) + 1).toNatClampNeg)) ob f) [1, 2, 3, 4, 5, 6, 7, 8, 9, 10, 11, 12, 13, 14, 15, 16, 17, 18, 19, 20, 21, 22, 23, 24, 25, 26, 27, 28, 29, 30, 31, 32, 33, 34, 35, 0] (by decide) rfl, hS⟩ hl
set_option maxHeartbeats 4000000 in
set_option maxRecDepth 100000 in
theorem zl_c2 (C : za_H p s m #[Value.ref b] c cL_law 8 RL g E (fun q : Nat => s.heap.size ≤ q)) (hX : zx_env (fun q : Nat => s.heap.size ≤ q) s s.heap) (hl0 : l.stackTraces = false) (hXs : va_X b L xs s s.heap) (hbl : b < s.heap.size) (hj : 6 * j + 6 ≤ L) (hL : L ≤ 3072) (hok : zl_ok g o h ad ob s j d N M f H locs cells slots) (hl : lv_has ls 8 [(0, .ref b), (1, .ref (o 8)), (2, .ref h), (3, .ref ob), (4, .int (nI (6 * j)))])
    (kk : ∀ (d : Nat → Nat) (N : zc_N) (M : zm_M) (f : Nat → Int64) (H : Heap) (locs : List Loc) (cells slots : Nat) (ls : Array Slot), zl_ok g o h ad ob s (j + 1) d N M f H locs cells slots → lv_has ls 8 [(0, .ref b), (1, .ref (o 8)), (2, .ref h), (3, .ref ob), (4, .int (nI (6 * j)))] → W p l e room_1 s m #[Value.ref b] below meth c H locs cells slots (lw_Z below #[Value.ref b] s) (F0 m 541 ls [])) :
    W p l e room_1 s m #[Value.ref b] below meth c H locs cells slots (lw_Z below #[Value.ref b] s) (F0 m 198 ls []) := by
  obtain ⟨hx, hb, hml, hown, hts, hK, hA, hE⟩ := id C
  have hbA : ¬ (fun q : Nat => s.heap.size ≤ q) b := Nat.not_le.mpr hbl
  obtain ⟨hR9, hcl, hsl, hP, hD, hS⟩ := hok
  obtain ⟨⟨n, t, k, hR, hn⟩, hd⟩ := id hR9
  have hI := hR.1
  have hLe := zc_L_le hI
  refine lv_aload_n hx hb dL_law_198 rfl (lv_at hl 1 rfl) ?_
  refine za_ci (wc := zc_ws g o d N) (wr := zm_ws g h ad M ++ [zy_o g ob f]) C hP hD hS [0, 1, 2, 3, 4, 5, 6, 7, 8, 9, 10, 11, 12, 13, 14, 15, 16] [17, 18, 19, 20, 21, 22, 23, 24, 25, 26, 27, 28, 29, 30, 31, 32, 33, 34, 35] rfl rfl (by decide) (by decide) (za_runV C hP hD hS [0, 1, 2, 3, 4, 5, 6, 7, 8, 9, 10, 11, 12, 13, 14, 15, 16] rfl (by decide) rfl (kX9_size l g E o d N hI) w_316 mX9_size 8 rfl rfl rfl rfl hl.1 rfl (Nat.le_of_ble_eq_true rfl) dL_law_199 ⟨Nat.le_of_ble_eq_true rfl, Nat.le_of_ble_eq_true rfl⟩ ⟨by show cells + 0 ≤ 601024; omega, by show slots + 0 ≤ 7293033; omega⟩) (fun r1 u1 H locs hr1 hP hD hS => ?_)
  refine lv_aload_n hx hb dL_law_202 rfl (lv_at hl 2 rfl) ?_
  refine za_ci (wc := zm_ws g h ad M) (wr := [zy_o g ob f] ++ zc_ws g o d (N)) C hP hD hS [0, 1, 2, 3, 4, 5, 6, 7, 8, 9, 10, 11, 12, 13, 14, 15, 16, 17] [18, 19, 20, 21, 22, 23, 24, 25, 26, 27, 28, 29, 30, 31, 32, 33, 34, 35] rfl rfl (by decide) (by decide) (za_runV C hP hD hS [0, 1, 2, 3, 4, 5, 6, 7, 8, 9, 10, 11, 12, 13, 14, 15, 16, 17] rfl (by decide) rfl (kX10_size l g E h ad M) w_957 mX10_size 0 rfl rfl rfl rfl hl.1 rfl (Nat.le_of_ble_eq_true rfl) dL_law_203 ⟨Nat.le_of_ble_eq_true rfl, Nat.le_of_ble_eq_true rfl⟩ ⟨by show (cells + 0) + 0 ≤ 601024; omega, by show (slots + 0) + 0 ≤ 7293033; omega⟩) (fun r2 u2 H locs hr2 hP hD hS => ?_)
  obtain ⟨hr2, rfl⟩ := hr2
  refine lv_icmp_eq (tgt := 541) hx hb dL_law_206 (by decide) (fun _ => ?_) (fun ce => absurd (by rw [hr1, hr2, zp_size hR]) ce)
  exact kk d (N) (zm_0 M) f H locs _ _ ls ⟨hR9.same 0, by omega, by omega, hP.sub (ws' := zl_w g o d (N) h ad (zm_0 M) ob f) [1, 2, 3, 4, 5, 6, 7, 8, 9, 10, 11, 12, 13, 14, 15, 16, 17, 18, 19, 20, 21, 22, 23, 24, 25, 26, 27, 28, 29, 30, 31, 32, 33, 34, 35, 0] rfl, hD.sub (ws' := zl_w g o d (N) h ad (zm_0 M) ob f) [1, 2, 3, 4, 5, 6, 7, 8, 9, 10, 11, 12, 13, 14, 15, 16, 17, 18, 19, 20, 21, 22, 23, 24, 25, 26, 27, 28, 29, 30, 31, 32, 33, 34, 35, 0] (by decide) rfl, hS⟩ hl
set_option maxHeartbeats 4000000 in
set_option maxRecDepth 100000 in
theorem zl_c4 (C : za_H p s m #[Value.ref b] c cL_law 8 RL g E (fun q : Nat => s.heap.size ≤ q)) (hX : zx_env (fun q : Nat => s.heap.size ≤ q) s s.heap) (hl0 : l.stackTraces = false) (hXs : va_X b L xs s s.heap) (hbl : b < s.heap.size) (hj : 6 * j + 6 ≤ L) (hL : L ≤ 3072) (hok : zl_ok g o h ad ob s j d N M f H locs cells slots) (hl : lv_has ls 8 [(0, .ref b), (1, .ref (o 8)), (2, .ref h), (3, .ref ob), (4, .int (nI (6 * j)))])
    (kk : ∀ (d : Nat → Nat) (N : zc_N) (M : zm_M) (f : Nat → Int64) (H : Heap) (locs : List Loc) (cells slots : Nat) (ls : Array Slot), zl_ok g o h ad ob s (j + 1) d N M f H locs cells slots → lv_has ls 8 [(0, .ref b), (1, .ref (o 8)), (2, .ref h), (3, .ref ob), (4, .int (nI (6 * j)))] → W p l e room_1 s m #[Value.ref b] below meth c H locs cells slots (lw_Z below #[Value.ref b] s) (F0 m 541 ls [])) :
    W p l e room_1 s m #[Value.ref b] below meth c H locs cells slots (lw_Z below #[Value.ref b] s) (F0 m 224 ls []) := by
  obtain ⟨hx, hb, hml, hown, hts, hK, hA, hE⟩ := id C
  have hbA : ¬ (fun q : Nat => s.heap.size ≤ q) b := Nat.not_le.mpr hbl
  obtain ⟨hR9, hcl, hsl, hP, hD, hS⟩ := hok
  obtain ⟨⟨n, t, k, hR, hn⟩, hd⟩ := id hR9
  have hI := hR.1
  have hLe := zc_L_le hI
  refine lv_aload_n hx hb dL_law_224 rfl (lv_at hl 1 rfl) ?_
  refine za_ci (wc := zc_ws g o d N) (wr := zm_ws g h ad M ++ [zy_o g ob f]) C hP hD hS [0, 1, 2, 3, 4, 5, 6, 7, 8, 9, 10, 11, 12, 13, 14, 15, 16] [17, 18, 19, 20, 21, 22, 23, 24, 25, 26, 27, 28, 29, 30, 31, 32, 33, 34, 35] rfl rfl (by decide) (by decide) (za_runV C hP hD hS [0, 1, 2, 3, 4, 5, 6, 7, 8, 9, 10, 11, 12, 13, 14, 15, 16] rfl (by decide) rfl (kX9_count l g E o d N hI) w_658 mX9_count 8 rfl rfl rfl rfl hl.1 rfl (Nat.le_of_ble_eq_true rfl) dL_law_225 ⟨Nat.le_of_ble_eq_true rfl, Nat.le_of_ble_eq_true rfl⟩ ⟨by show cells + 0 ≤ 601024; omega, by show slots + 0 ≤ 7293033; omega⟩) (fun r1 u1 H locs hr1 hP hD hS => ?_)
  refine lv_aload_n hx hb dL_law_228 rfl (lv_at hl 2 rfl) ?_
  refine za_ci (wc := zm_ws g h ad M) (wr := [zy_o g ob f] ++ zc_ws g o d (N)) C hP hD hS [0, 1, 2, 3, 4, 5, 6, 7, 8, 9, 10, 11, 12, 13, 14, 15, 16, 17] [18, 19, 20, 21, 22, 23, 24, 25, 26, 27, 28, 29, 30, 31, 32, 33, 34, 35] rfl rfl (by decide) (by decide) (za_runV C hP hD hS [0, 1, 2, 3, 4, 5, 6, 7, 8, 9, 10, 11, 12, 13, 14, 15, 16, 17] rfl (by decide) rfl (kX10_count l g E h ad M) w_1098 mX10_count 0 rfl rfl rfl rfl hl.1 rfl (Nat.le_of_ble_eq_true rfl) dL_law_229 ⟨Nat.le_of_ble_eq_true rfl, Nat.le_of_ble_eq_true rfl⟩ ⟨by show (cells + 0) + 0 ≤ 601024; omega, by show (slots + 0) + 0 ≤ 7293033; omega⟩) (fun r2 u2 H locs hr2 hP hD hS => ?_)
  obtain ⟨hr2, rfl⟩ := hr2
  refine lv_icmp_eq (tgt := 541) hx hb dL_law_232 (by decide) (fun _ => ?_) (fun ce => absurd (by rw [hr1, hr2, zp_count hR]) ce)
  exact kk d (N) (zm_0 M) f H locs _ _ ls ⟨hR9.same 0, by omega, by omega, hP.sub (ws' := zl_w g o d (N) h ad (zm_0 M) ob f) [1, 2, 3, 4, 5, 6, 7, 8, 9, 10, 11, 12, 13, 14, 15, 16, 17, 18, 19, 20, 21, 22, 23, 24, 25, 26, 27, 28, 29, 30, 31, 32, 33, 34, 35, 0] rfl, hD.sub (ws' := zl_w g o d (N) h ad (zm_0 M) ob f) [1, 2, 3, 4, 5, 6, 7, 8, 9, 10, 11, 12, 13, 14, 15, 16, 17, 18, 19, 20, 21, 22, 23, 24, 25, 26, 27, 28, 29, 30, 31, 32, 33, 34, 35, 0] (by decide) rfl, hS⟩ hl
set_option maxHeartbeats 4000000 in
set_option maxRecDepth 100000 in
theorem zl_c9 (C : za_H p s m #[Value.ref b] c cL_law 8 RL g E (fun q : Nat => s.heap.size ≤ q)) (hX : zx_env (fun q : Nat => s.heap.size ≤ q) s s.heap) (hl0 : l.stackTraces = false) (hXs : va_X b L xs s s.heap) (hbl : b < s.heap.size) (hj : 6 * j + 6 ≤ L) (hL : L ≤ 3072) (hok : zl_ok g o h ad ob s j d N M f H locs cells slots) (hl : lv_has ls 8 [(0, .ref b), (1, .ref (o 8)), (2, .ref h), (3, .ref ob), (4, .int (nI (6 * j)))])
    (kk : ∀ (d : Nat → Nat) (N : zc_N) (M : zm_M) (f : Nat → Int64) (H : Heap) (locs : List Loc) (cells slots : Nat) (ls : Array Slot), zl_ok g o h ad ob s (j + 1) d N M f H locs cells slots → lv_has ls 8 [(0, .ref b), (1, .ref (o 8)), (2, .ref h), (3, .ref ob), (4, .int (nI (6 * j)))] → W p l e room_1 s m #[Value.ref b] below meth c H locs cells slots (lw_Z below #[Value.ref b] s) (F0 m 541 ls [])) :
    W p l e room_1 s m #[Value.ref b] below meth c H locs cells slots (lw_Z below #[Value.ref b] s) (F0 m 503 ls []) := by
  obtain ⟨hx, hb, hml, hown, hts, hK, hA, hE⟩ := id C
  have hbA : ¬ (fun q : Nat => s.heap.size ≤ q) b := Nat.not_le.mpr hbl
  obtain ⟨hR9, hcl, hsl, hP, hD, hS⟩ := hok
  obtain ⟨⟨n, t, k, hR, hn⟩, hd⟩ := id hR9
  have hI := hR.1
  have hLe := zc_L_le hI
  refine lv_aload_n hx hb dL_law_503 rfl (lv_at hl 1 rfl) ?_
  refine za_ci (wc := zc_ws g o d N) (wr := zm_ws g h ad M ++ [zy_o g ob f]) C hP hD hS [0, 1, 2, 3, 4, 5, 6, 7, 8, 9, 10, 11, 12, 13, 14, 15, 16] [17, 18, 19, 20, 21, 22, 23, 24, 25, 26, 27, 28, 29, 30, 31, 32, 33, 34, 35] rfl rfl (by decide) (by decide) (za_runV C hP hD hS [0, 1, 2, 3, 4, 5, 6, 7, 8, 9, 10, 11, 12, 13, 14, 15, 16] rfl (by decide) rfl (kX9_names l g E o d N hI) w_662 mX9_names 8 rfl rfl rfl rfl hl.1 rfl (Nat.le_of_ble_eq_true rfl) dL_law_504 ⟨Nat.le_of_ble_eq_true rfl, Nat.le_of_ble_eq_true rfl⟩ ⟨by show cells + 0 ≤ 601024; omega, by show slots + 0 ≤ 7293033; omega⟩) (fun r1 u1 H locs hr1 hP hD hS => ?_)
  refine lv_aload_n hx hb dL_law_507 rfl (lv_at hl 2 rfl) ?_
  refine za_ci (wc := zm_ws g h ad M) (wr := [zy_o g ob f] ++ zc_ws g o d (N)) C hP hD hS [0, 1, 2, 3, 4, 5, 6, 7, 8, 9, 10, 11, 12, 13, 14, 15, 16, 17] [18, 19, 20, 21, 22, 23, 24, 25, 26, 27, 28, 29, 30, 31, 32, 33, 34, 35] rfl rfl (by decide) (by decide) (za_runV C hP hD hS [0, 1, 2, 3, 4, 5, 6, 7, 8, 9, 10, 11, 12, 13, 14, 15, 16, 17] rfl (by decide) rfl (kX10_names l g E h ad M) w_1102 mX10_names 0 rfl rfl rfl rfl hl.1 rfl (Nat.le_of_ble_eq_true rfl) dL_law_508 ⟨Nat.le_of_ble_eq_true rfl, Nat.le_of_ble_eq_true rfl⟩ ⟨by show (cells + 0) + 0 ≤ 601024; omega, by show (slots + 0) + 0 ≤ 7293033; omega⟩) (fun r2 u2 H locs hr2 hP hD hS => ?_)
  obtain ⟨hr2, rfl⟩ := hr2
  refine lv_icmp_eq (tgt := 541) hx hb dL_law_511 (by decide) (fun _ => ?_) (fun ce => absurd (by rw [hr1, hr2, zp_names hR]) ce)
  exact kk d (N) (zm_0 M) f H locs _ _ ls ⟨hR9.same 0, by omega, by omega, hP.sub (ws' := zl_w g o d (N) h ad (zm_0 M) ob f) [1, 2, 3, 4, 5, 6, 7, 8, 9, 10, 11, 12, 13, 14, 15, 16, 17, 18, 19, 20, 21, 22, 23, 24, 25, 26, 27, 28, 29, 30, 31, 32, 33, 34, 35, 0] rfl, hD.sub (ws' := zl_w g o d (N) h ad (zm_0 M) ob f) [1, 2, 3, 4, 5, 6, 7, 8, 9, 10, 11, 12, 13, 14, 15, 16, 17, 18, 19, 20, 21, 22, 23, 24, 25, 26, 27, 28, 29, 30, 31, 32, 33, 34, 35, 0] (by decide) rfl, hS⟩ hl
set_option maxHeartbeats 4000000 in
set_option maxRecDepth 100000 in
theorem zl_c3 (C : za_H p s m #[Value.ref b] c cL_law 8 RL g E (fun q : Nat => s.heap.size ≤ q)) (hX : zx_env (fun q : Nat => s.heap.size ≤ q) s s.heap) (hl0 : l.stackTraces = false) (hXs : va_X b L xs s s.heap) (hbl : b < s.heap.size) (hj : 6 * j + 6 ≤ L) (hL : L ≤ 3072) (hok : zl_ok g o h ad ob s j d N M f H locs cells slots) (hl : lv_has ls 8 [(0, .ref b), (1, .ref (o 8)), (2, .ref h), (3, .ref ob), (4, .int (nI (6 * j)))])
    (kk : ∀ (d : Nat → Nat) (N : zc_N) (M : zm_M) (f : Nat → Int64) (H : Heap) (locs : List Loc) (cells slots : Nat) (ls : Array Slot), zl_ok g o h ad ob s (j + 1) d N M f H locs cells slots → lv_has ls 8 [(0, .ref b), (1, .ref (o 8)), (2, .ref h), (3, .ref ob), (4, .int (nI (6 * j)))] → W p l e room_1 s m #[Value.ref b] below meth c H locs cells slots (lw_Z below #[Value.ref b] s) (F0 m 541 ls [])) :
    W p l e room_1 s m #[Value.ref b] below meth c H locs cells slots (lw_Z below #[Value.ref b] s) (F0 m 211 ls []) := by
  obtain ⟨hx, hb, hml, hown, hts, hK, hA, hE⟩ := id C
  have hbA : ¬ (fun q : Nat => s.heap.size ≤ q) b := Nat.not_le.mpr hbl
  obtain ⟨hR9, hcl, hsl, hP, hD, hS⟩ := hok
  obtain ⟨⟨n, t, k, hR, hn⟩, hd⟩ := id hR9
  have hI := hR.1
  have hLe := zc_L_le hI
  refine lv_aload_n hx hb dL_law_211 rfl (lv_at hl 1 rfl) ?_
  obtain ⟨n9, F, q1, q2, ⟨t9, k9, q3, q4⟩, q5⟩ := zp_scan hR (by omega) hd
  refine za_ci (wc := zc_ws g o d N) (wr := zm_ws g h ad M ++ [zy_o g ob f]) C hP hD hS [0, 1, 2, 3, 4, 5, 6, 7, 8, 9, 10, 11, 12, 13, 14, 15, 16] [17, 18, 19, 20, 21, 22, 23, 24, 25, 26, 27, 28, 29, 30, 31, 32, 33, 34, 35] rfl rfl (by decide) (by decide) (zb_runV C hP hD hS [0, 1, 2, 3, 4, 5, 6, 7, 8, 9, 10, 11, 12, 13, 14, 15, 16] rfl (by decide) rfl (kX9_scan l g E o d N hI) w_320 mX9_scan 8 rfl rfl rfl rfl hl.1 rfl (Nat.le_of_ble_eq_true rfl) dL_law_212 ⟨Nat.le_of_ble_eq_true rfl, Nat.le_of_ble_eq_true rfl⟩ ⟨by show cells + (360448 - zc_L N) ≤ 601024; omega, by show slots + (720896 - 2 * zc_L N) ≤ 7293033; omega⟩) (fun r1 u1 H locs hr1 hP hD hS => ?_)
  obtain ⟨N1, d1⟩ := u1
  obtain ⟨hr1, hu1⟩ := hr1
  have hu1 : N1 = zc_scan N := hu1
  have hg := zl_scan hI
  have hI1 : zc_I N1 := by rw [hu1]; exact zi_scan hI
  have hLe1 := zc_L_le hI1
  rw [← hu1] at hg q4 q5
  rw [← hu1]
  refine lv_aload_n hx hb dL_law_215 rfl (lv_at hl 2 rfl) ?_
  refine za_ci (wc := zm_ws g h ad M) (wr := [zy_o g ob f] ++ zc_ws g o d1 (N1)) C hP hD hS [0, 1, 2, 3, 4, 5, 6, 7, 8, 9, 10, 11, 12, 13, 14, 15, 16, 17] [18, 19, 20, 21, 22, 23, 24, 25, 26, 27, 28, 29, 30, 31, 32, 33, 34, 35] rfl rfl (by decide) (by decide) (za_runV C hP hD hS [0, 1, 2, 3, 4, 5, 6, 7, 8, 9, 10, 11, 12, 13, 14, 15, 16, 17] rfl (by decide) rfl (kX10_scan l g E h ad M n9 F q1) w_961 mX10_scan 0 rfl rfl rfl rfl hl.1 rfl (Nat.le_of_ble_eq_true rfl) dL_law_216 ⟨Nat.le_of_ble_eq_true rfl, Nat.le_of_ble_eq_true rfl⟩ ⟨by show (cells + (zc_L N1 - zc_L N)) + 0 ≤ 601024; omega, by show (slots + 2 * (zc_L N1 - zc_L N)) + 0 ≤ 7293033; omega⟩) (fun r2 u2 H locs hr2 hP hD hS => ?_)
  obtain ⟨hr2, rfl⟩ := hr2
  refine lv_icmp_eq (tgt := 541) hx hb dL_law_219 (by decide) (fun _ => ?_) (fun ce => absurd (by rw [hr1, hr2, q2]) ce)
  exact kk d1 (N1) (zm_scanE F) f H locs _ _ ls ⟨⟨⟨0, t9, k9, q4, by omega⟩, q5⟩, by omega, by omega, hP.sub (ws' := zl_w g o d1 (N1) h ad (zm_scanE F) ob f) [1, 2, 3, 4, 5, 6, 7, 8, 9, 10, 11, 12, 13, 14, 15, 16, 17, 18, 19, 20, 21, 22, 23, 24, 25, 26, 27, 28, 29, 30, 31, 32, 33, 34, 35, 0] rfl, hD.sub (ws' := zl_w g o d1 (N1) h ad (zm_scanE F) ob f) [1, 2, 3, 4, 5, 6, 7, 8, 9, 10, 11, 12, 13, 14, 15, 16, 17, 18, 19, 20, 21, 22, 23, 24, 25, 26, 27, 28, 29, 30, 31, 32, 33, 34, 35, 0] (by decide) rfl, hS⟩ hl
set_option maxHeartbeats 4000000 in
set_option maxRecDepth 100000 in
theorem zl_c10 (C : za_H p s m #[Value.ref b] c cL_law 8 RL g E (fun q : Nat => s.heap.size ≤ q)) (hX : zx_env (fun q : Nat => s.heap.size ≤ q) s s.heap) (hl0 : l.stackTraces = false) (hXs : va_X b L xs s s.heap) (hbl : b < s.heap.size) (hj : 6 * j + 6 ≤ L) (hL : L ≤ 3072) (hok : zl_ok g o h ad ob s j d N M f H locs cells slots) (hl : lv_has ls 8 [(0, .ref b), (1, .ref (o 8)), (2, .ref h), (3, .ref ob), (4, .int (nI (6 * j)))])
    (kk : ∀ (d : Nat → Nat) (N : zc_N) (M : zm_M) (f : Nat → Int64) (H : Heap) (locs : List Loc) (cells slots : Nat) (ls : Array Slot), zl_ok g o h ad ob s (j + 1) d N M f H locs cells slots → lv_has ls 8 [(0, .ref b), (1, .ref (o 8)), (2, .ref h), (3, .ref ob), (4, .int (nI (6 * j)))] → W p l e room_1 s m #[Value.ref b] below meth c H locs cells slots (lw_Z below #[Value.ref b] s) (F0 m 541 ls [])) :
    W p l e room_1 s m #[Value.ref b] below meth c H locs cells slots (lw_Z below #[Value.ref b] s) (F0 m 516 ls []) := by
  obtain ⟨hx, hb, hml, hown, hts, hK, hA, hE⟩ := id C
  have hbA : ¬ (fun q : Nat => s.heap.size ≤ q) b := Nat.not_le.mpr hbl
  obtain ⟨hR9, hcl, hsl, hP, hD, hS⟩ := hok
  obtain ⟨⟨n, t, k, hR, hn⟩, hd⟩ := id hR9
  have hI := hR.1
  have hLe := zc_L_le hI
  refine lv_aload_n hx hb dL_law_516 rfl (lv_at hl 1 rfl) ?_
  refine lv_aload_n hx hb dL_law_517 rfl (lv_at hl 0 rfl) ?_
  refine lv_iload hx hb dL_law_518 (lv_at hl 4 rfl) ?_
  refine lv_iconst (v := 1) hx hb dL_law_520 (by decide) ?_
  refine lv_iadd hx hb dL_law_521 ?_
  refine va_sld hx hb hXs hbl hbA hS (zl_in hj hL (k := 1) (by decide) rfl) dL_law_522 ?_
  refine za_ci (wc := zc_ws g o d N) (wr := zm_ws g h ad M ++ [zy_o g ob f]) C hP hD hS [0, 1, 2, 3, 4, 5, 6, 7, 8, 9, 10, 11, 12, 13, 14, 15, 16] [17, 18, 19, 20, 21, 22, 23, 24, 25, 26, 27, 28, 29, 30, 31, 32, 33, 34, 35] rfl rfl (by decide) (by decide) (za_runV C hP hD hS [0, 1, 2, 3, 4, 5, 6, 7, 8, 9, 10, 11, 12, 13, 14, 15, 16] rfl (by decide) rfl (kX9_firstOf l g E o d N (xs (nI (6 * j) + 1).toNatClampNeg) hI) w_666 mX9_firstOf 8 rfl rfl rfl rfl hl.1 rfl (Nat.le_of_ble_eq_true rfl) dL_law_523 ⟨Nat.le_of_ble_eq_true rfl, Nat.le_of_ble_eq_true rfl⟩ ⟨by show cells + 0 ≤ 601024; omega, by show slots + 0 ≤ 7293033; omega⟩) (fun r1 u1 H locs hr1 hP hD hS => ?_)
  refine lv_aload_n hx hb dL_law_526 rfl (lv_at hl 2 rfl) ?_
  refine lv_aload_n hx hb dL_law_527 rfl (lv_at hl 0 rfl) ?_
  refine lv_iload hx hb dL_law_528 (lv_at hl 4 rfl) ?_
  refine lv_iconst (v := 1) hx hb dL_law_530 (by decide) ?_
  refine lv_iadd hx hb dL_law_531 ?_
  refine va_sld hx hb hXs hbl hbA hS (zl_in hj hL (k := 1) (by decide) rfl) dL_law_532 ?_
  refine za_ci (wc := zm_ws g h ad M) (wr := [zy_o g ob f] ++ zc_ws g o d (N)) C hP hD hS [0, 1, 2, 3, 4, 5, 6, 7, 8, 9, 10, 11, 12, 13, 14, 15, 16, 17] [18, 19, 20, 21, 22, 23, 24, 25, 26, 27, 28, 29, 30, 31, 32, 33, 34, 35] rfl rfl (by decide) (by decide) (za_runV C hP hD hS [0, 1, 2, 3, 4, 5, 6, 7, 8, 9, 10, 11, 12, 13, 14, 15, 16, 17] rfl (by decide) rfl (kX10_firstOf l g E h ad M (xs (nI (6 * j) + 1).toNatClampNeg) (fun z1 z2 => by obtain ⟨z, z3, z4⟩ := nI_of z1; rw [z4]; rw [z4, hR.2.2.2.2.1] at z2; have z5 := z_lit z3 (by have := hR.2.2.2.2.2.1; have := hR.2.2.1.2.2.1; omega) z2; exact vp_in_nI (by have := hR.2.2.2.2.2.1; have := hR.2.2.1.2.2.1; omega) (by omega))) w_1106 mX10_firstOf 0 rfl rfl rfl rfl hl.1 rfl (Nat.le_of_ble_eq_true rfl) dL_law_533 ⟨Nat.le_of_ble_eq_true rfl, Nat.le_of_ble_eq_true rfl⟩ ⟨by show (cells + 0) + 0 ≤ 601024; omega, by show (slots + 0) + 0 ≤ 7293033; omega⟩) (fun r2 u2 H locs hr2 hP hD hS => ?_)
  obtain ⟨hr2, rfl⟩ := hr2
  refine lv_icmp_eq (tgt := 541) hx hb dL_law_536 (by decide) (fun _ => ?_) (fun ce => absurd (by rw [hr1, hr2, zp_firstOf hR]) ce)
  exact kk d (N) (zm_0 M) f H locs _ _ ls ⟨hR9.same 0, by omega, by omega, hP.sub (ws' := zl_w g o d (N) h ad (zm_0 M) ob f) [1, 2, 3, 4, 5, 6, 7, 8, 9, 10, 11, 12, 13, 14, 15, 16, 17, 18, 19, 20, 21, 22, 23, 24, 25, 26, 27, 28, 29, 30, 31, 32, 33, 34, 35, 0] rfl, hD.sub (ws' := zl_w g o d (N) h ad (zm_0 M) ob f) [1, 2, 3, 4, 5, 6, 7, 8, 9, 10, 11, 12, 13, 14, 15, 16, 17, 18, 19, 20, 21, 22, 23, 24, 25, 26, 27, 28, 29, 30, 31, 32, 33, 34, 35, 0] (by decide) rfl, hS⟩ hl
end
