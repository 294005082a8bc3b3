theorem zx_blind {g : za_G} {E : za_E} {sz : Nat} {ws : va_W} {av : List Value} : FrameBlind (zx_P g E sz ws av) := fun a U fr mk q => by
  obtain ⟨q0, ⟨q1, qP, qK, qD, qE⟩, qX⟩ := q
  exact ⟨q0, ⟨q1, qP, va_K.moved (u := U) (U := U.calling fr mk a) (Vm.Alike.refl U.vm) qK, qD, za_env.same (u := U) (U := U.calling fr mk a) rfl qE⟩, zx_env.same (u := U) (U := U.calling fr mk a) rfl qX⟩
section
variable {p : Program} {l : Launch} {e : Env} {R : Room} {s : State} {m : MethodId} {args : Array Value} {below : List Frame} {meth : Method} {c : Code} {H : Heap} {locs : List Loc} {cells slots mc ms : Nat} {Q : State → Prop} {cc c1 : ByteArray} {pc nL n d k index : Nat} {ls : Array Slot} {st0 rest : List Value} {g : za_G} {E : za_E} {A : Nat → Prop} {ws wc wr wx : va_W} {own : String} {y : MethodName} {ret : Option FieldType} {b : Nat} {As : List Value} {Qc : (Nat → Prop) → Array Value → State → Outcome → State → Prop} {XC : (Nat → Prop) → String → State → State → Prop} {S : Type} {a : Array Value} {px : Prop}
theorem zx_pre {av : List Value} (C : za_H p s m args c cc nL own g E A) (hX : zx_env A s s.heap) (hP : va_P g.1 vwCl ws H) (hD : va_D A ws) (hS : va_S A s.heap H locs) (isC : List Nat) (h1 : isC.filterMap (fun i => ws[i]?) = wc) (h2 : va_nd isC = true) (h3 : isC.map (fun i => ws[i]?) = wc.map some) (U : State) (hU : U.heap = H) (hW : s.WarmedH U.vm) : zx_P g E H.size wc av av.toArray U := by
  have h := za_pre (av := av) C hP hD hS isC h1 h2 h3 U hU hW
  refine ⟨h.1, h.2, ?_⟩
  rw [hU]
  exact ((hX.warm hW).kept hS.2.1).narrow (va_free hD hS C.2.2.2.2.2.2.1 isC h3)
theorem zx_runV (C : za_H p s m args c cc nL own g E A) (hX : zx_env A s s.heap) (hP : va_P g.1 vwCl ws H) (hD : va_D A ws) (hS : va_S A s.heap H locs) (isC : List Nat) (h1 : isC.filterMap (fun i => ws[i]?) = wc) (h2 : va_nd isC = true) (h3 : isC.map (fun i => ws[i]?) = wc.map some)
    (hM : zx_Met l g E y c1 n ret d mc ms (.ref b :: As) wc Qc XC) (hl : Cond.methodLink own index y ∈ wT) (hy : za_MV y c1 n ret k) (q0 : Nat) {ci : Nat} {fs : List Value} {cl : vw_C} (he : ws[q0]? = some (b, .inr (ci, fs))) (hc : vwCl[ci]? = some cl) (hcl : cl.1 = y.cls) (hn : As.length = k) (hsize : ls.size = nL) (hst : st0 = As.reverse ++ .ref b :: rest) (hr : (rest.map fun v => v.category).sum ≤ 8) (hdg : decode cc pc = .ok (.invokevirtual index, 3)) (hR : d + 1 ≤ R.frames ∧ 8 + (n + 11) + 32 * d ≤ R.locals) (hf : cells + mc ≤ R.cells ∧ slots + ms ≤ R.slots) :
    vx_Run p l e R s m args below meth c H locs cells slots mc ms (F0 m pc ls st0) rest (Qc (va_A wc H.size) (Value.ref b :: As).toArray) (XC (va_A wc H.size)) (va_A wc H.size) := by
  subst hst
  obtain ⟨hx, hb, hml, hown, hts, hK, hA, hE⟩ := id C
  obtain ⟨y1, y2, y3, y4, y5, y6, y7⟩ := hy
  have hcw : CallW R s args own y.cls index y c1 n ret (Cond.code y c1 n ret :: wT) (za_R d mc ms) mc ms k :=
    ⟨callB_of (Ts := wT) k hts (fun w hw => ⟨(wT_c y4 wT_s) w hw, wT_good w ((wT_c y4 wT_s) w hw)⟩) rfl rfl rfl (hts _ y3) (hts _ hl) ⟨y5, y6, y7⟩ hR, hts _ y1, hts _ y2⟩
  obtain ⟨cell, r1, r2, r3⟩ := va_recv hK hP hc he
  exact vx_runV (Ts := wT) ⟨hx, hb, hml, hown, hts⟩ (hM H.size) hcw ⟨zx_blind, ⟨cell, r1, r2, by rw [← hcl]; exact r3⟩, fun U hU hW => zx_pre C hX hP hD hS isC h1 h2 h3 U hU hW⟩ rfl hn hsize rfl (lv_room hr) hdg hf
theorem zx_ci {post : Int32 → S → Prop} {ws' : S → va_W} (C : za_H p s m args c cc nL own g E A) (hP : va_P g.1 vwCl ws H) (hD : va_D A ws) (hS : va_S A s.heap H locs) (isC isR : List Nat) (h3 : isC.map (fun i => ws[i]?) = wc.map some) (h4 : isR.map (fun i => ws[i]?) = wr.map some) (h5 : va_nd isR = true) (h6 : ∀ i ∈ isR, i ∉ isC)
    (hr : vx_Run p l e R s m args below meth c H locs cells slots mc ms (F0 m pc ls st0) rest (za_qi g post ws' (va_A wc H.size) a) (zx_q g px wx (va_A wc H.size)) (va_A wc H.size))
    (kx : ∀ (q9 : Addr) (ce : Cell) (H1 : Heap) (locs1 : List Loc), px → va_P g.1 vwCl (wr ++ wx) H1 → va_D A (wr ++ wx) → va_S A s.heap H1 locs1 → H1[q9]? = some ce → ce.vm = .none → s.vm.findClass "java/util/NoSuchElementException" = some ce.cls → vx_W p l e R s m args below meth c H1 locs1 (cells + mc) (slots + ms) Q (F0 m pc ls rest) q9)
    (kk : ∀ (r : Int32) (u : S) (H1 : Heap) (locs1 : List Loc), post r u → va_P g.1 vwCl (wr ++ ws' u) H1 → va_D A (wr ++ ws' u) → va_S A s.heap H1 locs1 → W p l e R s m args below meth c H1 locs1 (cells + mc) (slots + ms) Q (F0 m (pc + 3) ls (.int r :: rest))) : W p l e R s m args below meth c H locs cells slots Q (F0 m pc ls st0) := by
  obtain ⟨hx, hb, hml, hown, hts, hK, hA, hE⟩ := C
  have hF := va_free hD hS hA isC h3
  refine vx_calli hr hS (fun q _ h => hF q h) hF (fun q _ h => hF q h) (fun E9 ce q9 u t H1 locs1 ht hvm hw hB hz hk hS1 hce hcv hcl => ?_) (fun r u t H1 locs1 ht hvm hw hB hz hk hS1 => ?_)
  · obtain ⟨rfl, hP1, hK1, hD1⟩ := hB
    rw [ht] at hP1
    obtain ⟨hP2, hD2⟩ := va_join hP hD isC isR h3 h4 h5 h6 hk hF hP1 hD1
    exact kx q9 ce H1 locs1 hw hP2 hD2 hS1 hce hcv hcl
  · obtain ⟨hP1, hK1, hD1⟩ := hB
    rw [ht] at hP1
    obtain ⟨hP2, hD2⟩ := va_join hP hD isC isR h3 h4 h5 h6 hk hF hP1 hD1
    exact kk r u H1 locs1 hw hP2 hD2 hS1
theorem zx_cl {post : Int64 → S → Prop} {ws' : S → va_W} (C : za_H p s m args c cc nL own g E A) (hP : va_P g.1 vwCl ws H) (hD : va_D A ws) (hS : va_S A s.heap H locs) (isC isR : List Nat) (h3 : isC.map (fun i => ws[i]?) = wc.map some) (h4 : isR.map (fun i => ws[i]?) = wr.map some) (h5 : va_nd isR = true) (h6 : ∀ i ∈ isR, i ∉ isC)
    (hr : vx_Run p l e R s m args below meth c H locs cells slots mc ms (F0 m pc ls st0) rest (za_ql g post ws' (va_A wc H.size) a) (zx_q g px wx (va_A wc H.size)) (va_A wc H.size))
    (kx : ∀ (q9 : Addr) (ce : Cell) (H1 : Heap) (locs1 : List Loc), px → va_P g.1 vwCl (wr ++ wx) H1 → va_D A (wr ++ wx) → va_S A s.heap H1 locs1 → H1[q9]? = some ce → ce.vm = .none → s.vm.findClass "java/util/NoSuchElementException" = some ce.cls → vx_W p l e R s m args below meth c H1 locs1 (cells + mc) (slots + ms) Q (F0 m pc ls rest) q9)
    (kk : ∀ (r : Int64) (u : S) (H1 : Heap) (locs1 : List Loc), post r u → va_P g.1 vwCl (wr ++ ws' u) H1 → va_D A (wr ++ ws' u) → va_S A s.heap H1 locs1 → W p l e R s m args below meth c H1 locs1 (cells + mc) (slots + ms) Q (F0 m (pc + 3) ls (.long r :: rest))) : W p l e R s m args below meth c H locs cells slots Q (F0 m pc ls st0) := by
  obtain ⟨hx, hb, hml, hown, hts, hK, hA, hE⟩ := C
  have hF := va_free hD hS hA isC h3
  refine vx_calll hr hS (fun q _ h => hF q h) hF (fun q _ h => hF q h) (fun E9 ce q9 u t H1 locs1 ht hvm hw hB hz hk hS1 hce hcv hcl => ?_) (fun r u t H1 locs1 ht hvm hw hB hz hk hS1 => ?_)
  · obtain ⟨rfl, hP1, hK1, hD1⟩ := hB
    rw [ht] at hP1
    obtain ⟨hP2, hD2⟩ := va_join hP hD isC isR h3 h4 h5 h6 hk hF hP1 hD1
    exact kx q9 ce H1 locs1 hw hP2 hD2 hS1 hce hcv hcl
  · obtain ⟨hP1, hK1, hD1⟩ := hB
    rw [ht] at hP1
    obtain ⟨hP2, hD2⟩ := va_join hP hD isC isR h3 h4 h5 h6 hk hF hP1 hD1
    exact kk r u H1 locs1 hw hP2 hD2 hS1
end
/-- a helper of the law, with a table of its own -/
abbrev zy_Met (l : Launch) (g : za_G) (E : za_E) (y : MethodName) (c : ByteArray) (n : Nat) (ret : Option FieldType) (hh : List (Nat × Nat × Nat × Nat)) (d mc ms : Nat) (av : List Value) (ws : va_W) (Qc : (Nat → Prop) → Array Value → State → Outcome → State → Prop) : Prop :=
  ∀ sz : Nat, Met l y (.codeWith y c n ret hh :: wT) (za_R d mc ms) (zx_P g E sz ws av) (Qc (va_A ws sz)) mc ms (va_A ws sz)
theorem zy_begin {l : Launch} {g : za_G} {E : za_E} {y : MethodName} {cc : ByteArray} {n : Nat} {ret : Option FieldType} {hh : List (Nat × Nat × Nat × Nat)} {d mc ms : Nat} {av : List Value} {ws : va_W} {Qc : (Nat → Prop) → Array Value → State → Outcome → State → Prop} (hy : plainName y.cls = true) (hn : (lg_sl av).length ≤ n) (own : String) (ho : y.cls = own)
    (body : ∀ (p : Program) (e : Env) (s : State) (m : MethodId) (args : Array Value) (below : List Frame) (meth : Method) (c : Code) (A : Nat → Prop) (ls : Array Slot) (Q : State → Prop) (H : Heap) (locs : List Loc), za_H p s m args c cc n own g E A → zx_env A s s.heap → c.exceptionTable.toList = tableOf hh → Q = MQ below (Qc A) args s mc ms A → meth.sig.returnType = ret → meth.locks = false → va_S A s.heap H locs → va_P g.1 vwCl ws H → va_D A ws → lv_has ls n (lv_args 0 av) →
      W p l e (za_R d mc ms) s m args below meth c H locs 0 0 Q (F0 m 0 ls [])) : zy_Met l g E y cc n ret hh d mc ms av ws Qc := by
  subst ho
  intro sz
  refine va_MetW (cc := cc) (maxL := n) (ret := ret) (hh := hh) hy rfl ?_
  intro p e s m args below meth c s₁ B hml hv
  obtain ⟨rfl, ⟨hsz, hP, hK, hD0, hE⟩, hX⟩ := hv
  have hts := atoms_spec (ws := .codeWith y cc n ret hh :: wT) B.pre
  have ht := vx_table (x := y) B (hts _ List.mem_cons_self)
  subst hsz
  rw [lg_entry_eq]
  exact body p e s m _ below meth c (va_A ws s.heap.size) _ _ _ _ ⟨B.exec, B.bytes, hml, findClass_of_methodNamed B.named, fun w h => hts w (List.mem_cons_of_mem _ h), hK, fun q h => Or.inr h, hE⟩ hX ht rfl B.returns B.notSynchronized va_S.rf hP (hD0.self (sz := s.heap.size)) (lv_entry av hn)
abbrev zy_o (g : za_G) (b : Nat) (f : Nat → Int64) : Nat × va_E := (b, .inl (g.2.2.2.1, 1, .inr (.inl f)))
set_option maxHeartbeats 4000000 in
set_option maxRecDepth 100000 in
theorem kL_token (l : Launch) (hl0 : l.stackTraces = false) (g : za_G) (E : za_E) (o d : Nat → Nat) (N : zc_N) (b : Nat) (f : Nat → Int64) (k w : Int32) (hI : zc_I N) : zy_Met l g E yL_token cL_token 5 (some .int) [(0, 10, 13, 13)] 7 1 6 [.ref (o 8), .int k, .int w, .ref b] (zc_ws g o d N ++ [zy_o g b f]) (za_qi g (fun r (u : zc_N × (Nat → Int64)) => (zx_tok N k w ∧ r = 1 ∧ u = (N, f)) ∨ ((¬ zx_tok N k w) ∧ r = 0 ∧ u = (N, vp_updL f (0 : Int32).toNatClampNeg ((zk_fact N k w).toInt64)))) (fun u => zc_ws g o d u.1 ++ [zy_o g b u.2])) := by
  refine zy_begin (by decide) (Nat.le_of_ble_eq_true rfl) RL rfl ?_
  intro p e s m args below meth co A ls Q H locs C hX ht hQ hr hlocks hS hP hD hl
  obtain ⟨hx, hb, hml, hown, hts, hK, hA, hE⟩ := id C
  have hl : lv_has ls 5 [(0, .ref (o 8)), (1, .int k), (2, .int w), (3, .ref b)] := hl
  refine lv_aload_n hx hb dL_token_0 rfl (lv_at hl 3 rfl) ?_
  refine lv_iconst (v := 0) hx hb dL_token_1 (by decide) ?_
  refine lv_aload_n hx hb dL_token_2 rfl (lv_at hl 0 rfl) ?_
  refine lv_iload_n hx hb dL_token_3 rfl (lv_at hl 1 rfl) ?_
  refine lv_iload_n hx hb dL_token_4 rfl (lv_at hl 2 rfl) ?_
  refine zx_ci (wc := zc_ws g o d N) (wr := [zy_o g b f]) C hP hD hS [0, 1, 2, 3, 4, 5, 6, 7, 8, 9, 10, 11, 12, 13, 14, 15, 16] [17] rfl rfl (by decide) (by decide) (zx_runV C hX hP hD hS [0, 1, 2, 3, 4, 5, 6, 7, 8, 9, 10, 11, 12, 13, 14, 15, 16] rfl (by decide) rfl (kX9_token l hl0 g E o d N k w hI) w_675 mX9_token 8 rfl rfl rfl rfl hl.1 rfl (Nat.le_of_ble_eq_true rfl) dL_token_5 ⟨Nat.le_of_ble_eq_true rfl, Nat.le_of_ble_eq_true rfl⟩ ⟨Nat.le_of_ble_eq_true rfl, Nat.le_of_ble_eq_true rfl⟩) (fun q9 ce H locs hpx hP hD hS hce hcv hcl => ?_) (fun r1 _ H locs hr1 hP hD hS => ?_)
  · refine vx_catch (own := RL) (name := "java/util/NoSuchElementException") hown [] ⟨0, 10, 13, 13⟩ [] ht (fun z hz => nomatch hz) (by decide) (by decide) (hts _ w_674) (va_Nw.use rfl (hX.1 _ (List.mem_cons_self))) hce hcv hcl ?_
    refine lv_astore (lv' := [(4, .ref q9), (0, .ref (o 8)), (1, .int k), (2, .int w), (3, .ref b)]) hx hb dL_token_13 hl (by decide) rfl (fun ls hl => ?_)
    refine lv_iconst (v := 1) hx hb dL_token_15 (by decide) ?_
    exact za_ri hQ hx hb hr hlocks hK hP hD hS rfl (N, f) (Or.inl ⟨hpx, rfl, rfl⟩) [1, 2, 3, 4, 5, 6, 7, 8, 9, 10, 11, 12, 13, 14, 15, 16, 17, 0] rfl (by decide) rfl (Nat.le_of_ble_eq_true rfl) (Nat.le_of_ble_eq_true rfl) dL_token_16
  · obtain ⟨hok, hr1⟩ := hr1
    have hP : va_P g.1 vwCl (zy_o g b f :: zc_ws g o d (N)) H := hP
    have hD : va_D A (zy_o g b f :: zc_ws g o d (N)) := hD
    subst hr1
    refine lv_i2l (v := (zk_fact N k w).toInt64) hx hb dL_token_8 rfl ?_
    refine va_last (f := f) hx hb hK hP hD hS 0 2 rfl rfl (vp_in_nI (n := 0) (by decide) (by decide)) dL_token_9 (fun H locs hP hD hS => ?_)
    refine lv_goto (tgt := 17) hx hb dL_token_10 (by decide) ?_
    refine lv_iconst (v := 0) hx hb dL_token_17 (by decide) ?_
    exact za_ri hQ hx hb hr hlocks hK hP hD hS rfl (N, vp_updL f (0 : Int32).toNatClampNeg ((zk_fact N k w).toInt64)) (Or.inr ⟨hok, rfl, rfl⟩) [1, 2, 3, 4, 5, 6, 7, 8, 9, 10, 11, 12, 13, 14, 15, 16, 17, 0] rfl (by decide) rfl (Nat.le_of_ble_eq_true rfl) (Nat.le_of_ble_eq_true rfl) dL_token_18
set_option maxHeartbeats 4000000 in
set_option maxRecDepth 100000 in
theorem kL_byteOf (l : Launch) (hl0 : l.stackTraces = false) (g : za_G) (E : za_E) (o d : Nat → Nat) (N : zc_N) (b : Nat) (f : Nat → Int64) (k i : Int32) (hI : zc_I N) : zy_Met l g E yL_byteOf cL_byteOf 5 (some .int) [(0, 10, 13, 13)] 7 1 6 [.ref (o 8), .int k, .int i, .ref b] (zc_ws g o d N ++ [zy_o g b f]) (za_qi g (fun r (u : zc_N × (Nat → Int64)) => (zx_byt N k i ∧ r = 1 ∧ u = (N, f)) ∨ ((¬ zx_byt N k i) ∧ r = 0 ∧ u = (N, vp_updL f (0 : Int32).toNatClampNeg ((zk_byteOf N k i).toInt64)))) (fun u => zc_ws g o d u.1 ++ [zy_o g b u.2])) := by
  refine zy_begin (by decide) (Nat.le_of_ble_eq_true rfl) RL rfl ?_
  intro p e s m args below meth co A ls Q H locs C hX ht hQ hr hlocks hS hP hD hl
  obtain ⟨hx, hb, hml, hown, hts, hK, hA, hE⟩ := id C
  have hl : lv_has ls 5 [(0, .ref (o 8)), (1, .int k), (2, .int i), (3, .ref b)] := hl
  refine lv_aload_n hx hb dL_byteOf_0 rfl (lv_at hl 3 rfl) ?_
  refine lv_iconst (v := 0) hx hb dL_byteOf_1 (by decide) ?_
  refine lv_aload_n hx hb dL_byteOf_2 rfl (lv_at hl 0 rfl) ?_
  refine lv_iload_n hx hb dL_byteOf_3 rfl (lv_at hl 1 rfl) ?_
  refine lv_iload_n hx hb dL_byteOf_4 rfl (lv_at hl 2 rfl) ?_
  refine zx_ci (wc := zc_ws g o d N) (wr := [zy_o g b f]) C hP hD hS [0, 1, 2, 3, 4, 5, 6, 7, 8, 9, 10, 11, 12, 13, 14, 15, 16] [17] rfl rfl (by decide) (by decide) (zx_runV C hX hP hD hS [0, 1, 2, 3, 4, 5, 6, 7, 8, 9, 10, 11, 12, 13, 14, 15, 16] rfl (by decide) rfl (kX9_byteOf l hl0 g E o d N k i hI) w_749 mX9_byteOf 8 rfl rfl rfl rfl hl.1 rfl (Nat.le_of_ble_eq_true rfl) dL_byteOf_5 ⟨Nat.le_of_ble_eq_true rfl, Nat.le_of_ble_eq_true rfl⟩ ⟨Nat.le_of_ble_eq_true rfl, Nat.le_of_ble_eq_true rfl⟩) (fun q9 ce H locs hpx hP hD hS hce hcv hcl => ?_) (fun r1 _ H locs hr1 hP hD hS => ?_)
  · refine vx_catch (own := RL) (name := "java/util/NoSuchElementException") hown [] ⟨0, 10, 13, 13⟩ [] ht (fun z hz => nomatch hz) (by decide) (by decide) (hts _ w_674) (va_Nw.use rfl (hX.1 _ (List.mem_cons_self))) hce hcv hcl ?_
    refine lv_astore (lv' := [(4, .ref q9), (0, .ref (o 8)), (1, .int k), (2, .int i), (3, .ref b)]) hx hb dL_byteOf_13 hl (by decide) rfl (fun ls hl => ?_)
    refine lv_iconst (v := 1) hx hb dL_byteOf_15 (by decide) ?_
    exact za_ri hQ hx hb hr hlocks hK hP hD hS rfl (N, f) (Or.inl ⟨hpx, rfl, rfl⟩) [1, 2, 3, 4, 5, 6, 7, 8, 9, 10, 11, 12, 13, 14, 15, 16, 17, 0] rfl (by decide) rfl (Nat.le_of_ble_eq_true rfl) (Nat.le_of_ble_eq_true rfl) dL_byteOf_16
  · obtain ⟨hok, hr1⟩ := hr1
    have hP : va_P g.1 vwCl (zy_o g b f :: zc_ws g o d (N)) H := hP
    have hD : va_D A (zy_o g b f :: zc_ws g o d (N)) := hD
    subst hr1
    refine lv_i2l (v := (zk_byteOf N k i).toInt64) hx hb dL_byteOf_8 rfl ?_
    refine va_last (f := f) hx hb hK hP hD hS 0 2 rfl rfl (vp_in_nI (n := 0) (by decide) (by decide)) dL_byteOf_9 (fun H locs hP hD hS => ?_)
    refine lv_goto (tgt := 17) hx hb dL_byteOf_10 (by decide) ?_
    refine lv_iconst (v := 0) hx hb dL_byteOf_17 (by decide) ?_
    exact za_ri hQ hx hb hr hlocks hK hP hD hS rfl (N, vp_updL f (0 : Int32).toNatClampNeg ((zk_byteOf N k i).toInt64)) (Or.inr ⟨hok, rfl, rfl⟩) [1, 2, 3, 4, 5, 6, 7, 8, 9, 10, 11, 12, 13, 14, 15, 16, 17, 0] rfl (by decide) rfl (Nat.le_of_ble_eq_true rfl) (Nat.le_of_ble_eq_true rfl) dL_byteOf_18
set_option maxHeartbeats 4000000 in
set_option maxRecDepth 100000 in
theorem kL_number (l : Launch) (hl0 : l.stackTraces = false) (g : za_G) (E : za_E) (o d : Nat → Nat) (N : zc_N) (b : Nat) (f : Nat → Int64) (k : Int32) (hI : zc_I N) : zy_Met l g E yL_number cL_number 4 (some .int) [(0, 8, 11, 13)] 7 1 6 [.ref (o 8), .int k, .ref b] (zc_ws g o d N ++ [zy_o g b f]) (za_qi g (fun r (u : zc_N × (Nat → Int64)) => (zx_num N k ∧ r = 1 ∧ u = (N, f)) ∨ ((¬ zx_num N k) ∧ r = 0 ∧ u = (N, vp_updL f (0 : Int32).toNatClampNeg (zk_num N k)))) (fun u => zc_ws g o d u.1 ++ [zy_o g b u.2])) := by
  refine zy_begin (by decide) (Nat.le_of_ble_eq_true rfl) RL rfl ?_
  intro p e s m args below meth co A ls Q H locs C hX ht hQ hr hlocks hS hP hD hl
  obtain ⟨hx, hb, hml, hown, hts, hK, hA, hE⟩ := id C
  have hl : lv_has ls 4 [(0, .ref (o 8)), (1, .int k), (2, .ref b)] := hl
  refine lv_aload_n hx hb dL_number_0 rfl (lv_at hl 2 rfl) ?_
  refine lv_iconst (v := 0) hx hb dL_number_1 (by decide) ?_
  refine lv_aload_n hx hb dL_number_2 rfl (lv_at hl 0 rfl) ?_
  refine lv_iload_n hx hb dL_number_3 rfl (lv_at hl 1 rfl) ?_
  refine zx_cl (wc := zc_ws g o d N) (wr := [zy_o g b f]) C hP hD hS [0, 1, 2, 3, 4, 5, 6, 7, 8, 9, 10, 11, 12, 13, 14, 15, 16] [17] rfl rfl (by decide) (by decide) (zx_runV C hX hP hD hS [0, 1, 2, 3, 4, 5, 6, 7, 8, 9, 10, 11, 12, 13, 14, 15, 16] rfl (by decide) rfl (kX9_number l hl0 g E o d N k hI) w_763 mX9_number 8 rfl rfl rfl rfl hl.1 rfl (Nat.le_of_ble_eq_true rfl) dL_number_4 ⟨Nat.le_of_ble_eq_true rfl, Nat.le_of_ble_eq_true rfl⟩ ⟨Nat.le_of_ble_eq_true rfl, Nat.le_of_ble_eq_true rfl⟩) (fun q9 ce H locs hpx hP hD hS hce hcv hcl => ?_) (fun r1 _ H locs hr1 hP hD hS => ?_)
  · refine vx_catch (own := RL) (name := "java/util/NoSuchElementException") hown [] ⟨0, 8, 11, 13⟩ [] ht (fun z hz => nomatch hz) (by decide) (by decide) (hts _ w_674) (va_Nw.use rfl (hX.1 _ (List.mem_cons_self))) hce hcv hcl ?_
    refine lv_astore_n (lv' := [(3, .ref q9), (0, .ref (o 8)), (1, .int k), (2, .ref b)]) hx hb dL_number_11 rfl hl (by decide) rfl (fun ls hl => ?_)
    refine lv_iconst (v := 1) hx hb dL_number_12 (by decide) ?_
    exact za_ri hQ hx hb hr hlocks hK hP hD hS rfl (N, f) (Or.inl ⟨hpx, rfl, rfl⟩) [1, 2, 3, 4, 5, 6, 7, 8, 9, 10, 11, 12, 13, 14, 15, 16, 17, 0] rfl (by decide) rfl (Nat.le_of_ble_eq_true rfl) (Nat.le_of_ble_eq_true rfl) dL_number_13
  · obtain ⟨hok, hr1⟩ := hr1
    have hP : va_P g.1 vwCl (zy_o g b f :: zc_ws g o d (N)) H := hP
    have hD : va_D A (zy_o g b f :: zc_ws g o d (N)) := hD
    subst hr1
    refine va_last (f := f) hx hb hK hP hD hS 0 2 rfl rfl (vp_in_nI (n := 0) (by decide) (by decide)) dL_number_7 (fun H locs hP hD hS => ?_)
    refine lv_goto (tgt := 14) hx hb dL_number_8 (by decide) ?_
    refine lv_iconst (v := 0) hx hb dL_number_14 (by decide) ?_
    exact za_ri hQ hx hb hr hlocks hK hP hD hS rfl (N, vp_updL f (0 : Int32).toNatClampNeg (zk_num N k)) (Or.inr ⟨hok, rfl, rfl⟩) [1, 2, 3, 4, 5, 6, 7, 8, 9, 10, 11, 12, 13, 14, 15, 16, 17, 0] rfl (by decide) rfl (Nat.le_of_ble_eq_true rfl) (Nat.le_of_ble_eq_true rfl) dL_number_15
set_option maxHeartbeats 4000000 in
set_option maxRecDepth 100000 in
theorem kL_fits (l : Launch) (hl0 : l.stackTraces = false) (g : za_G) (E : za_E) (o d : Nat → Nat) (N : zc_N) (b : Nat) (f : Nat → Int64) (k w : Int32) (hI : zc_I N) : zy_Met l g E yL_fits cL_fits 5 (some .int) [(0, 17, 20, 13)] 7 1 6 [.ref (o 8), .int k, .int w, .ref b] (zc_ws g o d N ++ [zy_o g b f]) (za_qi g (fun r (u : zc_N × (Nat → Int64)) => (zx_fit N k w ∧ r = 1 ∧ u = (N, f)) ∨ ((¬ zx_fit N k w) ∧ r = 0 ∧ u = (zc_below N k, vp_updL f (0 : Int32).toNatClampNeg ((if zk_below N k w.toNatClampNeg = 0 then (0 : Int64) else 1))))) (fun u => zc_ws g o d u.1 ++ [zy_o g b u.2])) := by
  refine zy_begin (by decide) (Nat.le_of_ble_eq_true rfl) RL rfl ?_
  intro p e s m args below meth co A ls Q H locs C hX ht hQ hr hlocks hS hP hD hl
  obtain ⟨hx, hb, hml, hown, hts, hK, hA, hE⟩ := id C
  have hl : lv_has ls 5 [(0, .ref (o 8)), (1, .int k), (2, .int w), (3, .ref b)] := hl
  refine lv_aload_n hx hb dL_fits_0 rfl (lv_at hl 3 rfl) ?_
  refine lv_iconst (v := 0) hx hb dL_fits_1 (by decide) ?_
  refine lv_aload_n hx hb dL_fits_2 rfl (lv_at hl 0 rfl) ?_
  refine lv_iload_n hx hb dL_fits_3 rfl (lv_at hl 1 rfl) ?_
  refine lv_iload_n hx hb dL_fits_4 rfl (lv_at hl 2 rfl) ?_
  refine zx_ci (wc := zc_ws g o d N) (wr := [zy_o g b f]) C hP hD hS [0, 1, 2, 3, 4, 5, 6, 7, 8, 9, 10, 11, 12, 13, 14, 15, 16] [17] rfl rfl (by decide) (by decide) (zx_runV C hX hP hD hS [0, 1, 2, 3, 4, 5, 6, 7, 8, 9, 10, 11, 12, 13, 14, 15, 16] rfl (by decide) rfl (kX9_fits l hl0 g E o d N k w hI) w_786 mX9_fits 8 rfl rfl rfl rfl hl.1 rfl (Nat.le_of_ble_eq_true rfl) dL_fits_5 ⟨Nat.le_of_ble_eq_true rfl, Nat.le_of_ble_eq_true rfl⟩ ⟨Nat.le_of_ble_eq_true rfl, Nat.le_of_ble_eq_true rfl⟩) (fun q9 ce H locs hpx hP hD hS hce hcv hcl => ?_) (fun r1 N1 H locs hr1 hP hD hS => ?_)
  · refine vx_catch (own := RL) (name := "java/util/NoSuchElementException") hown [] ⟨0, 17, 20, 13⟩ [] ht (fun z hz => nomatch hz) (by decide) (by decide) (hts _ w_674) (va_Nw.use rfl (hX.1 _ (List.mem_cons_self))) hce hcv hcl ?_
    refine lv_astore (lv' := [(4, .ref q9), (0, .ref (o 8)), (1, .int k), (2, .int w), (3, .ref b)]) hx hb dL_fits_20 hl (by decide) rfl (fun ls hl => ?_)
    refine lv_iconst (v := 1) hx hb dL_fits_22 (by decide) ?_
    exact za_ri hQ hx hb hr hlocks hK hP hD hS rfl (N, f) (Or.inl ⟨hpx, rfl, rfl⟩) [1, 2, 3, 4, 5, 6, 7, 8, 9, 10, 11, 12, 13, 14, 15, 16, 17, 0] rfl (by decide) rfl (Nat.le_of_ble_eq_true rfl) (Nat.le_of_ble_eq_true rfl) dL_fits_23
  · obtain ⟨hok, hr1, hN1⟩ := hr1
    have hP : va_P g.1 vwCl (zy_o g b f :: zc_ws g o d (N1)) H := hP
    have hD : va_D A (zy_o g b f :: zc_ws g o d (N1)) := hD
    refine lv_if_eq (tgt := 15) hx hb dL_fits_8 (by decide) (fun c_8 => ?_) (fun c_8 => ?_)
    · have e9 : (if zk_below N k w.toNatClampNeg = 0 then (0 : Int64) else 1) = 0 := by rw [if_pos (by rw [← hr1]; exact c_8)]
      refine lv_lconst (v := (if zk_below N k w.toNatClampNeg = 0 then (0 : Int64) else 1)) hx hb dL_fits_15 (by rw [e9]; decide) ?_
      refine va_last (f := f) hx hb hK hP hD hS 0 2 rfl rfl (vp_in_nI (n := 0) (by decide) (by decide)) dL_fits_16 (fun H locs hP hD hS => ?_)
      refine lv_goto (tgt := 24) hx hb dL_fits_17 (by decide) ?_
      refine lv_iconst (v := 0) hx hb dL_fits_24 (by decide) ?_
      exact za_ri hQ hx hb hr hlocks hK hP hD hS rfl (N1, vp_updL f (0 : Int32).toNatClampNeg ((if zk_below N k w.toNatClampNeg = 0 then (0 : Int64) else 1))) (Or.inr ⟨hok, rfl, by rw [hN1]⟩) [1, 2, 3, 4, 5, 6, 7, 8, 9, 10, 11, 12, 13, 14, 15, 16, 17, 0] rfl (by decide) rfl (Nat.le_of_ble_eq_true rfl) (Nat.le_of_ble_eq_true rfl) dL_fits_25
    · have e9 : (if zk_below N k w.toNatClampNeg = 0 then (0 : Int64) else 1) = 1 := by rw [if_neg (by rw [← hr1]; exact c_8)]
      refine lv_lconst (v := (if zk_below N k w.toNatClampNeg = 0 then (0 : Int64) else 1)) hx hb dL_fits_11 (by rw [e9]; decide) ?_
      refine lv_goto (tgt := 16) hx hb dL_fits_12 (by decide) ?_
      refine va_last (f := f) hx hb hK hP hD hS 0 2 rfl rfl (vp_in_nI (n := 0) (by decide) (by decide)) dL_fits_16 (fun H locs hP hD hS => ?_)
      refine lv_goto (tgt := 24) hx hb dL_fits_17 (by decide) ?_
      refine lv_iconst (v := 0) hx hb dL_fits_24 (by decide) ?_
      exact za_ri hQ hx hb hr hlocks hK hP hD hS rfl (N1, vp_updL f (0 : Int32).toNatClampNeg ((if zk_below N k w.toNatClampNeg = 0 then (0 : Int64) else 1))) (Or.inr ⟨hok, rfl, by rw [hN1]⟩) [1, 2, 3, 4, 5, 6, 7, 8, 9, 10, 11, 12, 13, 14, 15, 16, 17, 0] rfl (by decide) rfl (Nat.le_of_ble_eq_true rfl) (Nat.le_of_ble_eq_true rfl) dL_fits_25
