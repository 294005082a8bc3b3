/-! Rows made; calls that want more room than they use. -/
section
variable {p : Program} {l : Launch} {e : Env} {R : Room} {s : State} {m : MethodId} {args : Array Value} {below : List Frame} {meth : Method} {c : Code} {H : Heap} {locs : List Loc} {cells slots : Nat} {Q : State → Prop} {cc : ByteArray} {pc : Nat} {ls : Array Slot} {rest : List Value} {g : za_G} {A : Nat → Prop} {ws : va_W}
theorem za_newa (hx : p.tables.exec = Jvm.exec) (hb : c.code = cc) {atype : ArrayType} (harr : (Cond.arrayClass (newarray.typeOf atype)).before args s = true) {ty : FieldType} (hty : newarray.typeOf atype = ty) (hK : va_K g.1 vwCl (za_ty g) s) (t0 : Nat) {cA : ClassId} (ht : (za_ty g)[t0]? = some (cA, ty)) (hP : va_P g.1 vwCl ws H) (hD : va_D A ws) (hS : va_S A s.heap H locs) (hA : ∀ q, s.heap.size ≤ q → A q)
    {n : Int32} {N' : Nat} {a0 : vp_A} (ha : ∀ cB : ClassId, vp_cell cB a0 = arrV cB N' (fun _ => defaultValue ty)) (hn : ¬ n < 0) (hN : n.toNatClampNeg = N') (hbytes : N' * componentBytes ty ≤ 536870912) (hcells : cells + 1 ≤ R.cells) (hslots : slots + N' ≤ R.slots) (hdg : decode cc pc = .ok (.newarray atype, 2))
    (kk : ∀ (q : Nat) (H1 : Heap), va_P g.1 vwCl (ws ++ [(q, .inl (cA, a0))]) H1 → va_D A (ws ++ [(q, .inl (cA, a0))]) → va_S A s.heap H1 locs →
      W p l e R s m args below meth c H1 locs (cells + 1) (slots + N') Q (F0 m (pc + 2) ls (.ref q :: rest))) : W p l e R s m args below meth c H locs cells slots Q (F0 m pc ls (.int n :: rest)) := by
  refine va_newa hx hb harr hty hK hP hD hS hA ha hn hN hbytes hcells hslots hdg (fun q cB H1 hK2 hP1 hD1 hS1 => ?_)
  have h1 := (hK2.2 4 (cB, ty) rfl).2
  have h2 := (hK.2 t0 _ ht).2
  have hcb : cB = cA := by
    subst hty
    cases atype <;> exact Option.some.inj (h1.symm.trans h2)
  subst hcb
  exact kk q H1 hP1 hD1 hS1
end
/-- a call's start: room rc rs, of which it may use less -/
def zb_Pre (R : Room) (rc rs : Nat) (Pc : Array Value → State → Prop) : Pt → Array Value → Prop := fun B a => B.cells + rc ≤ R.cells ∧ B.slots + rs ≤ R.slots ∧ Pc a B.U
theorem zb_back {l : Launch} {R : Room} {p : Program} {e : Env} {below : List Frame} {s : State} {sargs : Array Value} {y : MethodName} {len W : Nat} {ws : List Cond} {rm : Room} {Pc : Array Value → State → Prop} {Qc : Array Value → State → Outcome → State → Prop} {mc ms : Nat} {free : Addr → Prop} {bytes : ByteArray} {maxL : Nat} {ret : Option FieldType}
    (hM : Met l y ws rm Pc Qc mc ms free) (hblind : FrameBlind Pc) (hframes : rm.frames + 1 ≤ R.frames) (hlocals : W + (maxL + 11) + rm.locals ≤ R.locals)
    (hws : ∀ w ∈ ws, ∀ a' U, s.WarmedH U.vm → w.before a' U = true) (hcode : Cond.code y bytes maxL ret ∈ ws) (hinit : ∀ a' U, s.WarmedH U.vm → (Cond.initialized y.cls).before a' U = true) :
    Back l R p e below s sargs y len W (zb_Pre R rm.cells rm.slots Pc) (PostOf Qc mc ms free) := by
  refine Back.of_free (S := headSpec ws rm) (P := Pc) (K := fun _ _ _ _ _ => True) (Q := fun a st o t => Qc a st o t ∧ ∃ L, FrameEnd st o t L mc ms ∧ ∀ q ∈ L, free q.base) (bytes := bytes) (maxL := maxL) (ret := ret)
    (E := fun a st o t L k n => k = mc ∧ n = ms ∧ ∀ q ∈ L, free q.base) hM hframes hlocals ?_ ?_ (fun _ _ _ _ _ _ _ _ _ => trivial) ?_ ?_
  · intro m meth c B a X hp
    exact ⟨atoms_intro fun w hw => hws w hw _ _ X.warmed, hws _ hcode _ _ X.warmed, hinit _ _ X.warmed, hp.1, hp.2.1⟩
  · intro m meth c B a g mk X hp
    exact hblind _ _ _ _ hp.2.2
  · intro a st o t ⟨hq, L, hF, hL⟩
    exact ⟨L, mc, ms, hF, rfl, rfl, hL⟩
  · intro m meth c B a g mk v t L k n X hp hq hF ⟨e1, e2, hL⟩
    subst e1; subst e2
    exact ⟨g, mk, t, L, rfl, rfl, hq.1, rfl, hL, rfl, rfl⟩
/-- a method that wants room rc rs and uses mc ms -/
abbrev zb_Met (l : Launch) (g : za_G) (E : za_E) (y : MethodName) (c : ByteArray) (n : Nat) (ret : Option FieldType) (d rc rs mc ms : Nat) (av : List Value) (ws : va_W) (Qc : (Nat → Prop) → Array Value → State → Outcome → State → Prop) : Prop :=
  ∀ sz : Nat, Met l y (.code y c n ret :: wT) (za_R d rc rs) (za_P g E sz ws av) (Qc (va_A ws sz)) mc ms (va_A ws sz)
def zb_Ci (l : Launch) (g : za_G) (E : za_E) (y : MethodName) (c : ByteArray) (n : Nat) (ret : Option FieldType) (d rc rs mc ms : Nat) (av : List Value) (ws : va_W) {S : Type} (post : Int32 → S → Prop) (ws' : S → va_W) : Prop := zb_Met l g E y c n ret d rc rs mc ms av ws (za_qi g post ws')
def zb_Cv (l : Launch) (g : za_G) (E : za_E) (y : MethodName) (c : ByteArray) (n : Nat) (d rc rs mc ms : Nat) (av : List Value) (ws : va_W) {S : Type} (post : S → Prop) (ws' : S → va_W) : Prop := zb_Met l g E y c n none d rc rs mc ms av ws (za_qv g post ws')
theorem zb_begin {l : Launch} {g : za_G} {E : za_E} {y : MethodName} {cc : ByteArray} {n : Nat} {ret : Option FieldType} {d rc rs mc ms : Nat} {av : List Value} {ws : va_W} {Qc : (Nat → Prop) → Array Value → State → Outcome → State → Prop} (hy : plainName y.cls = true) (hn : (lg_sl av).length ≤ n) (own : String) (ho : y.cls = own)
    (body : ∀ (p : Program) (e : Env) (s : State) (m : MethodId) (args : Array Value) (below : List Frame) (meth : Method) (c : Code) (A : Nat → Prop) (ls : Array Slot) (Q : State → Prop) (H : Heap) (locs : List Loc), za_H p s m args c cc n own g E A → Q = MQ below (Qc A) args s mc ms A → meth.sig.returnType = ret → meth.locks = false → meth.name = y.name → va_S A s.heap H locs → va_P g.1 vwCl ws H → va_D A ws → lv_has ls n (lv_args 0 av) →
      W p l e (za_R d rc rs) s m args below meth c H locs 0 0 Q (F0 m 0 ls [])) : zb_Met l g E y cc n ret d rc rs mc ms av ws Qc := by
  subst ho
  intro sz
  refine Met.ofW (cc := cc) (maxL := n) (ret := ret) hy rfl ?_
  intro p e s m args below meth c s₁ B hml hv
  obtain ⟨rfl, hsz, hP, hK, hD0, hE⟩ := hv
  have hts := atoms_spec (ws := .code y cc n ret :: wT) B.pre
  subst hsz
  rw [lg_entry_eq]
  exact body p e s m _ below meth c (va_A ws s.heap.size) _ _ _ _ ⟨B.exec, B.bytes, hml, findClass_of_methodNamed B.named, fun w h => hts w (List.mem_cons_of_mem _ h), hK, fun q h => Or.inr h, hE⟩ rfl B.returns B.notSynchronized (name_of_methodNamed B.named B.method).1 va_S.rf hP (hD0.self (sz := s.heap.size)) (lv_entry av hn)
section
variable {p : Program} {l : Launch} {e : Env} {R : Room} {s : State} {m : MethodId} {args : Array Value} {below : List Frame} {meth : Method} {c : Code} {H : Heap} {locs : List Loc} {cells slots mc ms rc rs : Nat} {Q : State → Prop} {cc c1 : ByteArray} {pc nL n d k index : Nat} {ls : Array Slot} {st0 rest : List Value} {g : za_G} {E : za_E} {A : Nat → Prop} {ws wc : va_W} {own : String} {y : MethodName} {ret : Option FieldType} {b : Nat} {As : List Value} {Qc : (Nat → Prop) → Array Value → State → Outcome → State → Prop}
theorem zb_runV (C : za_H p s m args c cc nL own g E A) (hP : va_P g.1 vwCl ws H) (hD : va_D A ws) (hS : va_S A s.heap H locs) (isC : List Nat) (h1 : isC.filterMap (fun i => ws[i]?) = wc) (h2 : va_nd isC = true) (h3 : isC.map (fun i => ws[i]?) = wc.map some)
    (hM : zb_Met l g E y c1 n ret d rc rs mc ms (.ref b :: As) wc Qc) (hl : Cond.methodLink own index y ∈ wT) (hy : za_MV y c1 n ret k) (q0 : Nat) {ci : Nat} {fs : List Value} {cl : vw_C} (he : ws[q0]? = some (b, .inr (ci, fs))) (hc : vwCl[ci]? = some cl) (hcl : cl.1 = y.cls) (hn : As.length = k) (hsize : ls.size = nL) (hst : st0 = As.reverse ++ .ref b :: rest) (hr : (rest.map fun v => v.category).sum ≤ 8) (hdg : decode cc pc = .ok (.invokevirtual index, 3)) (hR : d + 1 ≤ R.frames ∧ 8 + (n + 11) + 32 * d ≤ R.locals) (hf : cells + rc ≤ R.cells ∧ slots + rs ≤ R.slots) :
    va_Run p l e R s m args below meth c H locs cells slots mc ms (F0 m pc ls st0) rest (Qc (va_A wc H.size) (Value.ref b :: As).toArray) (va_A wc H.size) := by
  subst hst
  obtain ⟨hx, hb, hml, hown, hts, hK, hA, hE⟩ := id C
  obtain ⟨y1, y2, y3, y4, y5, y6, y7⟩ := hy
  have hcw : CallB R s args own index y c1 n ret (Cond.code y c1 n ret :: wT) (za_R d rc rs) rc rs k :=
    callB_of (Ts := wT) k hts (fun w hw => ⟨(wT_c y4 wT_s) w hw, wT_good w ((wT_c y4 wT_s) w hw)⟩) rfl rfl rfl (hts _ y3) (hts _ hl) ⟨y5, y6, y7⟩ hR
  obtain ⟨cell, r1, r2, r3⟩ := va_recv hK hP hc he
  obtain ⟨-, -, hfr, hlo, hws, hcd, hcode, hini, hyy, hlen, hlk⟩ := hcw
  have hB : Back l R p e below s args y 3 8 (zb_Pre R rc rs (za_P g E H.size wc (.ref b :: As))) (PostOf (Qc (va_A wc H.size)) mc ms (va_A wc H.size)) :=
    zb_back (bytes := c1) (maxL := n) (ret := ret) (hM H.size) za_blind hfr hlo hws hcd (fun a' U hW => word_at hW (Or.inl (by first | rfl | simp [Cond.onTables, Cond.keeps, Cond.steady])) hini)
  intro T hT X
  obtain ⟨v, vm₁, ⟨U', l2, c2, s2⟩, hW₁, X', ⟨g', mk, t, L, e1, e2, hq, h4, hL, h5, h6⟩, st⟩ := callV X hx (C := y.cls) (bytes := c1) (maxL := n) (ret := ret) hown hlk (hts _ y1) (hts _ y2) hcode hyy hB (by rw [hT]; exact r1) r2 (by rw [← hcl]; exact r3) rfl (hsize.trans hml.symm) (argsL := As) (rest := rest) (fun sig h => hn.trans (hlen sig h)) rfl (lv_room hr) (by rw [hb]; exact hdg)
    (fun vm₁ hW₁ => ⟨hf.1, hf.2, za_pre C hP hD hS isC h1 h2 h3 (T.setVm vm₁) hT hW₁⟩)
  dsimp only [Pt.U, Pt.locs, Pt.cells, Pt.slots] at X' e1 e2 h4 h5 h6 st
  subst h4; subst h5; subst h6
  exact ⟨v, (T.setVm vm₁).calling g' mk (Value.ref b :: As).toArray, t, U', L, hT, X', hL, e1, e2, hq, st⟩
end
theorem z_injC {a b : Nat} (ha : a < 2 ^ 31) (hb : b < 2 ^ 31) (h : nI a = nI b) : a = b := by
  have h1 := congrArg Int32.toNatClampNeg h
  rwa [nI_clamp ha, nI_clamp hb] at h1
