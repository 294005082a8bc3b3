/-! What all methods share: the environment (g: classes and array classes; E: what never changes), a method's contract (za_Ci, za_Cv, za_Cl, za_Cr: int, nothing, long, a reference), its beginning, its end, a call. -/
abbrev za_G : Type := va_G × ClassId × ClassId × ClassId × ClassId
abbrev za_ty (g : za_G) : List (ClassId × FieldType) := [(g.2.1, .byte), (g.2.2.1, .int), (g.2.2.2.1, .long), (g.2.2.2.2, .boolean)]
/-- addresses of what never changes: String constants and their bytes, static tables -/
abbrev za_E : Type := (Nat → Nat) × (Nat → Nat) × (Nat → Nat)
abbrev za_nest : List Cond := [.methodLinkNest RX9 9 yX7_init RX9, .methodLinkNest RX9 18 yX8_init RX9, .methodLinkNest RX8 21 yX0_init RX9, .methodLinkNest RX7 49 yX9_holdsCode RX9, .methodLinkNest RX5 104 yX9_isLetter RX9, .methodLinkNest RX5 155 yX9_isNamePart RX9, .methodLinkNest RX5 111 yX9_isDigit RX9, .methodLinkNest RX3 71 yX9_digitOf RX9, .methodLinkNest RX3 60 yX9_isDigit RX9, .methodLinkNest RX3 38 yX9_isNamePart RX9, .methodLinkNest RX4 65 yX9_digitOf RX9, .methodLinkNest RX4 70 yX9_holdsCode RX9, .methodLinkNest RX1 36 yX9_digitOf RX9]
def za_isN : Cond → Bool
  | .methodLinkNest _ _ _ _ => true
  | _ => false
abbrev zs_str : List (String × Nat × String) := [(RX5, 213, "breakcasechanconstcontinuedefaultdeferelsefallthroughforfuncgogotoifimportinterfacemappackagerangereturnselectstructswitchtypevar"), (RX9, 82, "no such token or what"), (RX9, 94, "no such byte"), (RX9, 100, "neither an INT nor a RUNE"), (RX9, 106, "no INT, or no such number of bits"), (RX10, 170, "+ - * / % & | ^ << >> &^ += -= *= /= %= &= |= ^= <<= >>= &^= && || <- ++ -- == < > = ! ~ != <= >= := ... ( ) [ ] { } , ; . : "), (RX10, 113, "break case chan const continue default defer else fallthrough for func go goto if import interface map package range return select struct switch type var "), (RX10, 215, "abfnrtv\\")]
abbrev zs_len : List Nat := [129, 21, 12, 25, 33, 125, 154, 8]
abbrev zs_byt : List (List Int32) := [[98, 114, 101, 97, 107, 99, 97, 115, 101, 99, 104, 97, 110, 99, 111, 110, 115, 116, 99, 111, 110, 116, 105, 110, 117, 101, 100, 101, 102, 97, 117, 108, 116, 100, 101, 102, 101, 114, 101, 108, 115, 101, 102, 97, 108, 108, 116, 104, 114, 111, 117, 103, 104, 102, 111, 114, 102, 117, 110, 99, 103, 111, 103, 111, 116, 111, 105, 102, 105, 109, 112, 111, 114, 116, 105, 110, 116, 101, 114, 102, 97, 99, 101, 109, 97, 112, 112, 97, 99, 107, 97, 103, 101, 114, 97, 110, 103, 101, 114, 101, 116, 117, 114, 110, 115, 101, 108, 101, 99, 116, 115, 116, 114, 117, 99, 116, 115, 119, 105, 116, 99, 104, 116, 121, 112, 101, 118, 97, 114], [110, 111, 32, 115, 117, 99, 104, 32, 116, 111, 107, 101, 110, 32, 111, 114, 32, 119, 104, 97, 116], [110, 111, 32, 115, 117, 99, 104, 32, 98, 121, 116, 101], [110, 101, 105, 116, 104, 101, 114, 32, 97, 110, 32, 73, 78, 84, 32, 110, 111, 114, 32, 97, 32, 82, 85, 78, 69], [110, 111, 32, 73, 78, 84, 44, 32, 111, 114, 32, 110, 111, 32, 115, 117, 99, 104, 32, 110, 117, 109, 98, 101, 114, 32, 111, 102, 32, 98, 105, 116, 115], [43, 32, 45, 32, 42, 32, 47, 32, 37, 32, 38, 32, 124, 32, 94, 32, 60, 60, 32, 62, 62, 32, 38, 94, 32, 43, 61, 32, 45, 61, 32, 42, 61, 32, 47, 61, 32, 37, 61, 32, 38, 61, 32, 124, 61, 32, 94, 61, 32, 60, 60, 61, 32, 62, 62, 61, 32, 38, 94, 61, 32, 38, 38, 32, 124, 124, 32, 60, 45, 32, 43, 43, 32, 45, 45, 32, 61, 61, 32, 60, 32, 62, 32, 61, 32, 33, 32, 126, 32, 33, 61, 32, 60, 61, 32, 62, 61, 32, 58, 61, 32, 46, 46, 46, 32, 40, 32, 41, 32, 91, 32, 93, 32, 123, 32, 125, 32, 44, 32, 59, 32, 46, 32, 58, 32], [98, 114, 101, 97, 107, 32, 99, 97, 115, 101, 32, 99, 104, 97, 110, 32, 99, 111, 110, 115, 116, 32, 99, 111, 110, 116, 105, 110, 117, 101, 32, 100, 101, 102, 97, 117, 108, 116, 32, 100, 101, 102, 101, 114, 32, 101, 108, 115, 101, 32, 102, 97, 108, 108, 116, 104, 114, 111, 117, 103, 104, 32, 102, 111, 114, 32, 102, 117, 110, 99, 32, 103, 111, 32, 103, 111, 116, 111, 32, 105, 102, 32, 105, 109, 112, 111, 114, 116, 32, 105, 110, 116, 101, 114, 102, 97, 99, 101, 32, 109, 97, 112, 32, 112, 97, 99, 107, 97, 103, 101, 32, 114, 97, 110, 103, 101, 32, 114, 101, 116, 117, 114, 110, 32, 115, 101, 108, 101, 99, 116, 32, 115, 116, 114, 117, 99, 116, 32, 115, 119, 105, 116, 99, 104, 32, 116, 121, 112, 101, 32, 118, 97, 114, 32], [97, 98, 102, 110, 114, 116, 118, 92]]
abbrev zs_wat : List Int32 := [0, 5, 9, 13, 18, 26, 33, 38, 42, 53, 56, 60, 62, 66, 68, 74, 83, 86, 93, 98, 104, 110, 116, 122, 126, 129]
abbrev zs_mea : List Int32 := [7, 8, 12, 10, 13, 9, 11, 92]
/-- what holds beside a method's cells: links of nest mates, String constants, statics that nobody writes -/
def za_env (E : za_E) (A : Nat → Prop) (U : State) (H : Heap) : Prop :=
  (∀ w ∈ za_nest, va_Nw w U) ∧ vk_S 8 zs_len zs_byt E.1 E.2.1 A U H ∧ (∀ (i : Nat) (q : String × Nat × String), zs_str[i]? = some q → vk_R q.1 q.2.1 q.2.2 (E.1 i) U) ∧
  va_Z "java/lang/String" "COMPACT_STRINGS" "Z" (.int 1) A U H ∧ va_Zq "jdk/internal/util/Preconditions" "SIOOBE_FORMATTER" "Ljava/util/function/BiFunction;" A U H ∧
  va_Zq "java/lang/Throwable" "UNASSIGNED_STACK" "[Ljava/lang/StackTraceElement;" A U H ∧ va_Zq "java/lang/Throwable" "SUPPRESSED_SENTINEL" "Ljava/util/List;" A U H ∧
  va_Z "SourceTokens$Scanner" "WORD_AT" "[I" (.ref (E.2.2 0)) A U H ∧ va_T .int (E.2.2 0) 26 (fun j => .int (zs_wat.getD j 0)) A U H ∧
  va_Z "SourceTokensModel" "MEANT" "[I" (.ref (E.2.2 1)) A U H ∧ va_T .int (E.2.2 1) 8 (fun j => .int (zs_mea.getD j 0)) A U H
theorem za_env.warm {E : za_E} {A : Nat → Prop} {s U : State} {H : Heap} (hW : s.WarmedH U.vm) (h : za_env E A s H) : za_env E A U H := by
  obtain ⟨h1, h2, h3, h4, h5, h6, h7, h8, h9, h10, h11⟩ := h
  refine ⟨fun w hw => ?_, vk_S.moved hW.alike h2, fun i q hq => vk_R.warm hW (h3 i q hq), va_Z.moved hW.alike h4, va_Zq.moved hW.alike h5, va_Zq.moved hW.alike h6, va_Zq.moved hW.alike h7, va_Z.moved hW.alike h8, va_T.moved hW.alike h9, va_Z.moved hW.alike h10, va_T.moved hW.alike h11⟩
  have hz := h1 w hw
  have hn : za_isN w = true := (show ∀ w ∈ za_nest, za_isN w = true by decide +kernel) w hw
  cases w <;> first | exact va_Nw.warmM hW hz | (exact Bool.noConfusion hn)
theorem za_env.same {E : za_E} {A : Nat → Prop} {u U : State} {H : Heap} (hv : u.vm = U.vm) (h : za_env E A u H) : za_env E A U H := by
  have ha : u.vm.Alike U.vm := by rw [hv]; exact Vm.Alike.refl _
  obtain ⟨h1, h2, h3, h4, h5, h6, h7, h8, h9, h10, h11⟩ := h
  refine ⟨fun w hw => ?_, vk_S.moved ha h2, fun i q hq => vk_R.same hv.symm (h3 i q hq), va_Z.moved ha h4, va_Zq.moved ha h5, va_Zq.moved ha h6, va_Zq.moved ha h7, va_Z.moved ha h8, va_T.moved ha h9, va_Z.moved ha h10, va_T.moved ha h11⟩
  exact va_Nw.same ((show ∀ w ∈ za_nest, w.onTables = true by decide +kernel) w hw) hv (h1 w hw)
theorem za_env.kept {E : za_E} {A : Nat → Prop} {U : State} {H H1 : Heap} (h : za_env E A U H) (hq : ∀ a : Nat, a < H.size → ¬ A a → H1[a]? = H[a]?) : za_env E A U H1 := by
  obtain ⟨h1, h2, h3, h4, h5, h6, h7, h8, h9, h10, h11⟩ := h
  exact ⟨h1, h2.kept hq, h3, h4.kept hq, h5.kept hq, h6.kept hq, h7.kept hq, h8.kept hq, h9.kept hq, h10.kept hq, h11.kept hq⟩
theorem za_env.narrow {E : za_E} {A B : Nat → Prop} {U : State} {H : Heap} (h : za_env E A U H) (hAB : ∀ q, B q → A q) : za_env E B U H := by
  obtain ⟨h1, h2, h3, h4, h5, h6, h7, h8, h9, h10, h11⟩ := h
  exact ⟨h1, h2.narrow hAB, h3, h4.narrow hAB, h5.narrow hAB, h6.narrow hAB, h7.narrow hAB, h8.narrow hAB, h9.narrow hAB, h10.narrow hAB, h11.narrow hAB⟩
/-- the world behind a method -/
abbrev za_W (g : za_G) (A : Nat → Prop) (ws : va_W) (t : State) : Prop := va_P g.1 vwCl ws t.heap ∧ va_K g.1 vwCl (za_ty g) t ∧ va_D A ws
/-- a contract's start -/
def za_P (g : za_G) (E : za_E) (sz : Nat) (ws : va_W) (av : List Value) : Array Value → State → Prop := va_Pc av (fun U => U.heap.size = sz ∧ va_P g.1 vwCl ws U.heap ∧ va_K g.1 vwCl (za_ty g) U ∧ va_D (fun _ => True) ws ∧ za_env E (va_A ws sz) U U.heap)
abbrev za_R (d mc ms : Nat) : Room := { frames := d, cells := mc, slots := ms, locals := 32 * d }
abbrev za_Met (l : Launch) (g : za_G) (E : za_E) (y : MethodName) (c : ByteArray) (n : Nat) (ret : Option FieldType) (d mc ms : Nat) (av : List Value) (ws : va_W) (Qc : (Nat → Prop) → Array Value → State → Outcome → State → Prop) : Prop :=
  ∀ sz : Nat, Met l y (.code y c n ret :: wT) (za_R d mc ms) (za_P g E sz ws av) (Qc (va_A ws sz)) mc ms (va_A ws sz)
abbrev za_qi (g : za_G) {S : Type} (post : Int32 → S → Prop) (ws' : S → va_W) (A : Nat → Prop) : Array Value → State → Outcome → State → Prop := va_Qi post (fun u t => za_W g A (ws' u) t) A
abbrev za_qv (g : za_G) {S : Type} (post : S → Prop) (ws' : S → va_W) (A : Nat → Prop) : Array Value → State → Outcome → State → Prop := va_Qv post (fun u t => za_W g A (ws' u) t) A
abbrev za_ql (g : za_G) {S : Type} (post : Int64 → S → Prop) (ws' : S → va_W) (A : Nat → Prop) : Array Value → State → Outcome → State → Prop := va_Ql post (fun u t => za_W g A (ws' u) t) A
abbrev za_qr (g : za_G) {S : Type} (post : S → Prop) (ws' : S → Nat → va_W) (A : Nat → Prop) : Array Value → State → Outcome → State → Prop := va_Qr post (fun u a t => za_W g A (ws' u a) t) A
/-- y answers an int (or a boolean): from the cells ws to the cells ws' u -/
def za_Ci (l : Launch) (g : za_G) (E : za_E) (y : MethodName) (c : ByteArray) (n : Nat) (ret : Option FieldType) (d mc ms : Nat) (av : List Value) (ws : va_W) {S : Type} (post : Int32 → S → Prop) (ws' : S → va_W) : Prop := za_Met l g E y c n ret d mc ms av ws (za_qi g post ws')
def za_Cv (l : Launch) (g : za_G) (E : za_E) (y : MethodName) (c : ByteArray) (n : Nat) (d mc ms : Nat) (av : List Value) (ws : va_W) {S : Type} (post : S → Prop) (ws' : S → va_W) : Prop := za_Met l g E y c n none d mc ms av ws (za_qv g post ws')
def za_Cl (l : Launch) (g : za_G) (E : za_E) (y : MethodName) (c : ByteArray) (n : Nat) (d mc ms : Nat) (av : List Value) (ws : va_W) {S : Type} (post : Int64 → S → Prop) (ws' : S → va_W) : Prop := za_Met l g E y c n (some .long) d mc ms av ws (za_ql g post ws')
def za_Cr (l : Launch) (g : za_G) (E : za_E) (y : MethodName) (c : ByteArray) (n : Nat) (ret : Option FieldType) (d mc ms : Nat) (av : List Value) (ws : va_W) {S : Type} (post : S → Prop) (ws' : S → Nat → va_W) : Prop := za_Met l g E y c n ret d mc ms av ws (za_qr g post ws')
/-- what a method has at hand -/
abbrev za_H (p : Program) (s : State) (m : MethodId) (args : Array Value) (c : Code) (cc : ByteArray) (nL : Nat) (own : String) (g : za_G) (E : za_E) (A : Nat → Prop) : Prop :=
  p.tables.exec = Jvm.exec ∧ c.code = cc ∧ c.maxLocals = nL ∧ s.vm.findClass own = some m.cls ∧ (∀ w ∈ wT, w.before args s = true) ∧ va_K g.1 vwCl (za_ty g) s ∧ (∀ q : Nat, s.heap.size ≤ q → A q) ∧ za_env E A s s.heap
theorem za_begin {l : Launch} {g : za_G} {E : za_E} {y : MethodName} {cc : ByteArray} {n : Nat} {ret : Option FieldType} {d mc ms : Nat} {av : List Value} {ws : va_W} {Qc : (Nat → Prop) → Array Value → State → Outcome → State → Prop} (hy : plainName y.cls = true) (hn : (lg_sl av).length ≤ n) (own : String) (ho : y.cls = own)
    (body : ∀ (p : Program) (e : Env) (s : State) (m : MethodId) (args : Array Value) (below : List Frame) (meth : Method) (c : Code) (A : Nat → Prop) (ls : Array Slot) (Q : State → Prop) (H : Heap) (locs : List Loc), za_H p s m args c cc n own g E A → Q = MQ below (Qc A) args s mc ms A → meth.sig.returnType = ret → meth.locks = false → meth.name = y.name → va_S A s.heap H locs → va_P g.1 vwCl ws H → va_D A ws → lv_has ls n (lv_args 0 av) →
      W p l e (za_R d mc ms) s m args below meth c H locs 0 0 Q (F0 m 0 ls [])) : za_Met l g E y cc n ret d mc ms av ws Qc := by
  subst ho
  intro sz
  refine Met.ofW (cc := cc) (maxL := n) (ret := ret) hy rfl ?_
  intro p e s m args below meth c s₁ B hml hv
  obtain ⟨rfl, hsz, hP, hK, hD0, hE⟩ := hv
  have hts := atoms_spec (ws := .code y cc n ret :: wT) B.pre
  subst hsz
  rw [lg_entry_eq]
  exact body p e s m _ below meth c (va_A ws s.heap.size) _ _ _ _ ⟨B.exec, B.bytes, hml, findClass_of_methodNamed B.named, fun w h => hts w (List.mem_cons_of_mem _ h), hK, fun q h => Or.inr h, hE⟩ rfl B.returns B.notSynchronized (name_of_methodNamed B.named B.method).1 va_S.rf hP (hD0.self (sz := s.heap.size)) (lv_entry av hn)
section
variable {p : Program} {l : Launch} {e : Env} {R : Room} {s : State} {m : MethodId} {args : Array Value} {below : List Frame} {meth : Method} {c : Code} {H : Heap} {locs : List Loc} {cells slots mc ms : Nat} {Q : State → Prop} {cc : ByteArray} {pc : Nat} {ls : Array Slot} {g : za_G} {A : Nat → Prop} {ws : va_W}
/-- another text of the top -/
theorem za_top {x v : Int32} {rest : List Value} (h : x = v) (k : W p l e R s m args below meth c H locs cells slots Q (F0 m pc ls (.int v :: rest))) : W p l e R s m args below meth c H locs cells slots Q (F0 m pc ls (.int x :: rest)) := h ▸ k
/-- the end: an int -/
theorem za_ri {S : Type} {post : Int32 → S → Prop} {ws' : S → va_W} {v : Int32} {ty : FieldType} (hQ : Q = MQ below (za_qi g post ws' A) args s mc ms A) (hx : p.tables.exec = Jvm.exec) (hb : c.code = cc) (hr : meth.sig.returnType = some ty) (hlocks : meth.locks = false) (hK : va_K g.1 vwCl (za_ty g) s) (hP : va_P g.1 vwCl ws H) (hD : va_D A ws) (hS : va_S A s.heap H locs) (hn : narrow ty (.int v) = .int v)
    (u : S) (hpost : post v u) (is : List Nat) (hi1 : is.filterMap (fun i => ws[i]?) = ws' u) (hi2 : va_nd is = true) (hi3 : is.map (fun i => ws[i]?) = (ws' u).map some) (h1 : cells ≤ mc) (h2 : slots ≤ ms) (hdg : decode cc pc = .ok (.ireturn, 1)) :
    W p l e R s m args below meth c H locs cells slots Q (F0 m pc ls [.int v]) :=
  hQ ▸ W.widen h1 h2 (W.zret hx hb hr hn (fun t ht hW => ⟨⟨v, u, rfl, hpost, by rw [ht]; exact hP.sub is hi1, va_K.moved hW.alike hK, hD.sub is hi2 hi3⟩, hS.F ht⟩) hS.2.2 hdg hlocks)
theorem za_rv {S : Type} {post : S → Prop} {ws' : S → va_W} (hQ : Q = MQ below (za_qv g post ws' A) args s mc ms A) (hx : p.tables.exec = Jvm.exec) (hb : c.code = cc) (hr : meth.sig.returnType = none) (hlocks : meth.locks = false) (hK : va_K g.1 vwCl (za_ty g) s) (hP : va_P g.1 vwCl ws H) (hD : va_D A ws) (hS : va_S A s.heap H locs)
    (u : S) (hpost : post u) (is : List Nat) (hi1 : is.filterMap (fun i => ws[i]?) = ws' u) (hi2 : va_nd is = true) (hi3 : is.map (fun i => ws[i]?) = (ws' u).map some) (h1 : cells ≤ mc) (h2 : slots ≤ ms) (hdg : decode cc pc = .ok (.return_, 1)) :
    W p l e R s m args below meth c H locs cells slots Q (F0 m pc ls []) :=
  hQ ▸ W.widen h1 h2 (W.vret hx hb hr (fun t ht hW => ⟨⟨u, rfl, hpost, by rw [ht]; exact hP.sub is hi1, va_K.moved hW.alike hK, hD.sub is hi2 hi3⟩, hS.F ht⟩) hS.2.2 hdg hlocks)
theorem za_rl {S : Type} {post : Int64 → S → Prop} {ws' : S → va_W} {v : Int64} (hQ : Q = MQ below (za_ql g post ws' A) args s mc ms A) (hx : p.tables.exec = Jvm.exec) (hb : c.code = cc) (hr : meth.sig.returnType = some .long) (hlocks : meth.locks = false) (hK : va_K g.1 vwCl (za_ty g) s) (hP : va_P g.1 vwCl ws H) (hD : va_D A ws) (hS : va_S A s.heap H locs)
    (u : S) (hpost : post v u) (is : List Nat) (hi1 : is.filterMap (fun i => ws[i]?) = ws' u) (hi2 : va_nd is = true) (hi3 : is.map (fun i => ws[i]?) = (ws' u).map some) (h1 : cells ≤ mc) (h2 : slots ≤ ms) (hdg : decode cc pc = .ok (.lreturn, 1)) :
    W p l e R s m args below meth c H locs cells slots Q (F0 m pc ls [.long v]) :=
  hQ ▸ W.widen h1 h2 (W.lret hx hb hr (fun t ht hW => ⟨⟨v, u, rfl, hpost, by rw [ht]; exact hP.sub is hi1, va_K.moved hW.alike hK, hD.sub is hi2 hi3⟩, hS.F ht⟩) hS.2.2 hdg hlocks)
theorem za_rr {S : Type} {post : S → Prop} {ws' : S → Nat → va_W} {a : Nat} {ty : FieldType} (hQ : Q = MQ below (za_qr g post ws' A) args s mc ms A) (hx : p.tables.exec = Jvm.exec) (hb : c.code = cc) (hr : meth.sig.returnType = some ty) (hrt : (∃ n, ty = .object n) ∨ ∃ t, ty = .array t) (hlocks : meth.locks = false) (hK : va_K g.1 vwCl (za_ty g) s) (hP : va_P g.1 vwCl ws H) (hD : va_D A ws) (hS : va_S A s.heap H locs)
    (u : S) (hpost : post u) (is : List Nat) (hi1 : is.filterMap (fun i => ws[i]?) = ws' u a) (hi2 : va_nd is = true) (hi3 : is.map (fun i => ws[i]?) = (ws' u a).map some) (h1 : cells ≤ mc) (h2 : slots ≤ ms) (hdg : decode cc pc = .ok (.areturn, 1)) :
    W p l e R s m args below meth c H locs cells slots Q (F0 m pc ls [.ref a]) :=
  hQ ▸ W.widen h1 h2 (W.aret hx hb hr hrt (Or.inr ⟨a, rfl⟩) (fun t ht hW => ⟨⟨u, a, rfl, hpost, by rw [ht]; exact hP.sub is hi1, va_K.moved hW.alike hK, hD.sub is hi2 hi3⟩, hS.F ht⟩) hS.2.2 hdg hlocks)
end
/-- what a call of y needs of the tables: called on an object of class C; static -/
def za_MV (y : MethodName) (c : ByteArray) (n : Nat) (ret : Option FieldType) (k : Nat) : Prop := Cond.instanceMethod y ∈ wT ∧ Cond.selects y.cls y y ∈ wT ∧ Cond.initialized y.cls ∈ wT ∧ Cond.code y c n ret ∈ wT ∧ y.cls ≠ "java/lang/invoke/MethodHandle" ∧ y.cls ≠ "java/lang/invoke/VarHandle" ∧ (parseMethodDescriptor y.desc).map (fun d => d.parameters.length) = some k
def za_MI (y : MethodName) (c : ByteArray) (n : Nat) (k : Nat) : Prop := Cond.instanceMethod y ∈ wT ∧ Cond.initialized y.cls ∈ wT ∧ Cond.code y c n none ∈ wT ∧ y.name = "<init>" ∧ y.cls ≠ "java/lang/invoke/MethodHandle" ∧ y.cls ≠ "java/lang/invoke/VarHandle" ∧ (parseMethodDescriptor y.desc).map (fun d => d.parameters.length) = some k
def za_MS (y : MethodName) (c : ByteArray) (n : Nat) (ret : Option FieldType) (k : Nat) : Prop := Cond.static y ∈ wT ∧ Cond.initialized y.cls ∈ wT ∧ Cond.code y c n ret ∈ wT ∧ y.cls ≠ "java/lang/invoke/MethodHandle" ∧ y.cls ≠ "java/lang/invoke/VarHandle" ∧ (parseMethodDescriptor y.desc).map (fun d => d.parameters.length) = some k
theorem za_blind {g : za_G} {E : za_E} {sz : Nat} {ws : va_W} {av : List Value} : FrameBlind (za_P g E sz ws av) := fun a U fr mk q => by
  obtain ⟨q0, q1, qP, qK, qD, qE⟩ := q
  exact ⟨q0, q1, qP, va_K.moved (u := U) (U := U.calling fr mk a) (Vm.Alike.refl U.vm) qK, qD, za_env.same (u := U) (U := U.calling fr mk a) rfl qE⟩
section
variable {p : Program} {l : Launch} {e : Env} {R : Room} {s : State} {m : MethodId} {args : Array Value} {below : List Frame} {meth : Method} {c : Code} {H : Heap} {locs : List Loc} {cells slots mc ms : Nat} {Q : State → Prop} {cc c1 : ByteArray} {pc nL n k d index : Nat} {ls : Array Slot} {st0 rest As : List Value} {g : za_G} {E : za_E} {A : Nat → Prop} {ws wc : va_W} {own : String} {y : MethodName} {ret : Option FieldType} {b : Nat} {av : List Value} {Qc : (Nat → Prop) → Array Value → State → Outcome → State → Prop}
theorem za_pre (C : za_H p s m args c cc nL own g E A) (hP : va_P g.1 vwCl ws H) (hD : va_D A ws) (hS : va_S A s.heap H locs) (isC : List Nat) (h1 : isC.filterMap (fun i => ws[i]?) = wc) (h2 : va_nd isC = true) (h3 : isC.map (fun i => ws[i]?) = wc.map some) (U : State) (hU : U.heap = H) (hW : s.WarmedH U.vm) : za_P g E H.size wc av av.toArray U := by
  obtain ⟨hx, hb, hml, hown, hts, hK, hA, hE⟩ := C
  refine ⟨rfl, by rw [hU], by rw [hU]; exact hP.sub isC h1, va_K.moved hW.alike hK, (hD.sub isC h2 h3).weaken (fun _ _ _ _ => trivial), ?_⟩
  rw [hU]
  exact ((hE.warm hW).kept hS.2.1).narrow (va_free hD hS hA isC h3)
theorem za_runV (C : za_H p s m args c cc nL own g E A) (hP : va_P g.1 vwCl ws H) (hD : va_D A ws) (hS : va_S A s.heap H locs) (isC : List Nat) (h1 : isC.filterMap (fun i => ws[i]?) = wc) (h2 : va_nd isC = true) (h3 : isC.map (fun i => ws[i]?) = wc.map some)
    (hM : za_Met l g E y c1 n ret d mc ms (.ref b :: As) wc Qc) (hl : Cond.methodLink own index y ∈ wT) (hy : za_MV y c1 n ret k) (q0 : Nat) {ci : Nat} {fs : List Value} {cl : vw_C} (he : ws[q0]? = some (b, .inr (ci, fs))) (hc : vwCl[ci]? = some cl) (hcl : cl.1 = y.cls) (hn : As.length = k) (hsize : ls.size = nL) (hst : st0 = As.reverse ++ .ref b :: rest) (hr : (rest.map fun v => v.category).sum ≤ 8) (hdg : decode cc pc = .ok (.invokevirtual index, 3)) (hR : d + 1 ≤ R.frames ∧ 8 + (n + 11) + 32 * d ≤ R.locals) (hf : cells + mc ≤ R.cells ∧ slots + ms ≤ R.slots) :
    va_Run p l e R s m args below meth c H locs cells slots mc ms (F0 m pc ls st0) rest (Qc (va_A wc H.size) (Value.ref b :: As).toArray) (va_A wc H.size) := by
  subst hst
  obtain ⟨hx, hb, hml, hown, hts, hK, hA, hE⟩ := id C
  obtain ⟨y1, y2, y3, y4, y5, y6, y7⟩ := hy
  have hG : GoodIn (Cond.tt :: wT) (Cond.code y c1 n ret :: wT) := wT_G (wT_c y4 wT_s)
  have hts' : ∀ w ∈ wT, w.before args s = true := hts
  have hcw : CallW R s args own y.cls index y c1 n ret (Cond.code y c1 n ret :: wT) (za_R d mc ms) mc ms k :=
    ⟨callB_of (Ts := wT) k hts (fun w hw => ⟨(wT_c y4 wT_s) w hw, wT_good w ((wT_c y4 wT_s) w hw)⟩) rfl rfl rfl (hts _ y3) (hts _ hl) ⟨y5, y6, y7⟩ hR, hts _ y1, hts _ y2⟩
  obtain ⟨cell, r1, r2, r3⟩ := va_recv hK hP hc he
  exact va_runV (Ts := wT) ⟨hx, hb, hml, hown, hts⟩ (hM H.size) hcw ⟨za_blind, ⟨cell, r1, r2, by rw [← hcl]; exact r3⟩, fun U hU hW => za_pre C hP hD hS isC h1 h2 h3 U hU hW⟩ rfl hn hsize rfl (lv_room hr) hdg hf
/-- a call on a String constant -/
theorem za_runVK (C : za_H p s m args c cc nL own g E A) (hP : va_P g.1 vwCl ws H) (hD : va_D A ws) (hS : va_S A s.heap H locs) (isC : List Nat) (h1 : isC.filterMap (fun i => ws[i]?) = wc) (h2 : va_nd isC = true) (h3 : isC.map (fun i => ws[i]?) = wc.map some)
    (hM : za_Met l g E y c1 n ret d mc ms (.ref b :: As) wc Qc) (hl : Cond.methodLink own index y ∈ wT) (hy : za_MV y c1 n ret k) (i0 : Nat) (hi0 : i0 < 8) (hbi : E.1 i0 = b) (hcl : y.cls = "java/lang/String") (hn : As.length = k) (hsize : ls.size = nL) (hst : st0 = As.reverse ++ .ref b :: rest) (hr : (rest.map fun v => v.category).sum ≤ 8) (hdg : decode cc pc = .ok (.invokevirtual index, 3)) (hR : d + 1 ≤ R.frames ∧ 8 + (n + 11) + 32 * d ≤ R.locals) (hf : cells + mc ≤ R.cells ∧ slots + ms ≤ R.slots) :
    va_Run p l e R s m args below meth c H locs cells slots mc ms (F0 m pc ls st0) rest (Qc (va_A wc H.size) (Value.ref b :: As).toArray) (va_A wc H.size) := by
  subst hst
  obtain ⟨hx, hb, hml, hown, hts, hK, hA, hE⟩ := id C
  obtain ⟨y1, y2, y3, y4, y5, y6, y7⟩ := hy
  have hG : GoodIn (Cond.tt :: wT) (Cond.code y c1 n ret :: wT) := wT_G (wT_c y4 wT_s)
  have hts' : ∀ w ∈ wT, w.before args s = true := hts
  have hcw : CallW R s args own y.cls index y c1 n ret (Cond.code y c1 n ret :: wT) (za_R d mc ms) mc ms k :=
    ⟨callB_of (Ts := wT) k hts (fun w hw => ⟨(wT_c y4 wT_s) w hw, wT_good w ((wT_c y4 wT_s) w hw)⟩) rfl rfl rfl (hts _ y3) (hts _ hl) ⟨y5, y6, y7⟩ hR, hts _ y1, hts _ y2⟩
  obtain ⟨cell, r1, r2, r3⟩ := vk_recv (i := i0) hE.2.1 hi0 hS
  rw [hbi] at r1
  exact va_runV (Ts := wT) ⟨hx, hb, hml, hown, hts⟩ (hM H.size) hcw ⟨za_blind, ⟨cell, r1, r2, by rw [hcl]; exact r3⟩, fun U hU hW => za_pre C hP hD hS isC h1 h2 h3 U hU hW⟩ rfl hn hsize rfl (lv_room hr) hdg hf
theorem za_runI (C : za_H p s m args c cc nL own g E A) (hP : va_P g.1 vwCl ws H) (hD : va_D A ws) (hS : va_S A s.heap H locs) (isC : List Nat) (h1 : isC.filterMap (fun i => ws[i]?) = wc) (h2 : va_nd isC = true) (h3 : isC.map (fun i => ws[i]?) = wc.map some)
    (hM : za_Met l g E y c1 n none d mc ms (.ref b :: As) wc Qc) (hl : Cond.methodLink own index y ∈ wT) (hy : za_MI y c1 n k) (hn : As.length = k) (hsize : ls.size = nL) (hst : st0 = As.reverse ++ .ref b :: rest) (hr : (rest.map fun v => v.category).sum ≤ 8) (hdg : decode cc pc = .ok (.invokespecial index, 3)) (hR : d + 1 ≤ R.frames ∧ 8 + (n + 11) + 32 * d ≤ R.locals) (hf : cells + mc ≤ R.cells ∧ slots + ms ≤ R.slots) :
    va_Run p l e R s m args below meth c H locs cells slots mc ms (F0 m pc ls st0) rest (Qc (va_A wc H.size) (Value.ref b :: As).toArray) (va_A wc H.size) := by
  subst hst
  obtain ⟨hx, hb, hml, hown, hts, hK, hA, hE⟩ := id C
  obtain ⟨y1, y3, y4, y0, y5, y6, y7⟩ := hy
  have hcw : CallB R s args own index y c1 n none (Cond.code y c1 n none :: wT) (za_R d mc ms) mc ms k ∧ y.name = "<init>" ∧ (Cond.instanceMethod y).before args s = true :=
    ⟨callB_of (Ts := wT) k hts (fun w hw => ⟨(wT_c y4 wT_s) w hw, wT_good w ((wT_c y4 wT_s) w hw)⟩) rfl rfl rfl (hts _ y3) (hts _ hl) ⟨y5, y6, y7⟩ hR, y0, hts _ y1⟩
  exact va_runI (Ts := wT) ⟨hx, hb, hml, hown, hts⟩ (hM H.size) hcw ⟨za_blind, fun U hU hW => za_pre C hP hD hS isC h1 h2 h3 U hU hW⟩ rfl hn hsize rfl (lv_room hr) hdg hf
theorem za_runIN (C : za_H p s m args c cc nL own g E A) (hP : va_P g.1 vwCl ws H) (hD : va_D A ws) (hS : va_S A s.heap H locs) (isC : List Nat) (h1 : isC.filterMap (fun i => ws[i]?) = wc) (h2 : va_nd isC = true) (h3 : isC.map (fun i => ws[i]?) = wc.map some)
    (hM : za_Met l g E y c1 n none d mc ms (.ref b :: As) wc Qc) {host : String} (hl : Cond.methodLinkNest own index y host ∈ za_nest) (hy : za_MI y c1 n k) (hn : As.length = k) (hsize : ls.size = nL) (hst : st0 = As.reverse ++ .ref b :: rest) (hr : (rest.map fun v => v.category).sum ≤ 8) (hdg : decode cc pc = .ok (.invokespecial index, 3)) (hR : d + 1 ≤ R.frames ∧ 8 + (n + 11) + 32 * d ≤ R.locals) (hf : cells + mc ≤ R.cells ∧ slots + ms ≤ R.slots) :
    va_Run p l e R s m args below meth c H locs cells slots mc ms (F0 m pc ls st0) rest (Qc (va_A wc H.size) (Value.ref b :: As).toArray) (va_A wc H.size) := by
  subst hst
  obtain ⟨hx, hb, hml, hown, hts, hK, hA, hE⟩ := id C
  obtain ⟨y1, y3, y4, y0, y5, y6, y7⟩ := hy
  exact va_runIN (Ts := wT) ⟨hx, hb, hml, hown, hts⟩ (hM H.size) ⟨va_cnB (Ts := wT) (ws := Cond.code y c1 n none :: wT) (rm := za_R d mc ms) k hts (fun w hw => ⟨(wT_c y4 wT_s) w hw, wT_good w ((wT_c y4 wT_s) w hw)⟩) rfl rfl rfl (hE.1 _ hl) (hts _ y3) ⟨y5, y6, y7⟩ hR, y0, hts _ y1⟩ ⟨za_blind, fun U hU hW => za_pre C hP hD hS isC h1 h2 h3 U hU hW⟩ rfl hn hsize rfl (lv_room hr) hdg hf
theorem za_runS (C : za_H p s m args c cc nL own g E A) (hP : va_P g.1 vwCl ws H) (hD : va_D A ws) (hS : va_S A s.heap H locs) (isC : List Nat) (h1 : isC.filterMap (fun i => ws[i]?) = wc) (h2 : va_nd isC = true) (h3 : isC.map (fun i => ws[i]?) = wc.map some)
    (hM : za_Met l g E y c1 n ret d mc ms As wc Qc) (hl : Cond.methodLink own index y ∈ wT) (hy : za_MS y c1 n ret k) (hn : As.length = k) (hsize : ls.size = nL) (hst : st0 = As.reverse ++ rest) (hr : (rest.map fun v => v.category).sum ≤ 8) (hdg : decode cc pc = .ok (.invokestatic index, 3)) (hR : d + 1 ≤ R.frames ∧ 8 + (n + 11) + 32 * d ≤ R.locals) (hf : cells + mc ≤ R.cells ∧ slots + ms ≤ R.slots) :
    va_Run p l e R s m args below meth c H locs cells slots mc ms (F0 m pc ls st0) rest (Qc (va_A wc H.size) As.toArray) (va_A wc H.size) := by
  subst hst
  obtain ⟨hx, hb, hml, hown, hts, hK, hA, hE⟩ := id C
  obtain ⟨y1, y3, y4, y5, y6, y7⟩ := hy
  exact va_runS (Ts := wT) ⟨hx, hb, hml, hown, hts⟩ (hM H.size) ⟨callB_of (Ts := wT) (ws := Cond.code y c1 n ret :: wT) (rm := za_R d mc ms) k hts (fun w hw => ⟨(wT_c y4 wT_s) w hw, wT_good w ((wT_c y4 wT_s) w hw)⟩) rfl rfl rfl (hts _ y3) (hts _ hl) ⟨y5, y6, y7⟩ hR, hts _ y1⟩ ⟨za_blind, fun U hU hW => za_pre C hP hD hS isC h1 h2 h3 U hU hW⟩ rfl hn hsize rfl (lv_room hr) hdg hf
theorem za_runSN (C : za_H p s m args c cc nL own g E A) (hP : va_P g.1 vwCl ws H) (hD : va_D A ws) (hS : va_S A s.heap H locs) (isC : List Nat) (h1 : isC.filterMap (fun i => ws[i]?) = wc) (h2 : va_nd isC = true) (h3 : isC.map (fun i => ws[i]?) = wc.map some)
    (hM : za_Met l g E y c1 n ret d mc ms As wc Qc) {host : String} (hl : Cond.methodLinkNest own index y host ∈ za_nest) (hy : za_MS y c1 n ret k) (hn : As.length = k) (hsize : ls.size = nL) (hst : st0 = As.reverse ++ rest) (hr : (rest.map fun v => v.category).sum ≤ 8) (hdg : decode cc pc = .ok (.invokestatic index, 3)) (hR : d + 1 ≤ R.frames ∧ 8 + (n + 11) + 32 * d ≤ R.locals) (hf : cells + mc ≤ R.cells ∧ slots + ms ≤ R.slots) :
    va_Run p l e R s m args below meth c H locs cells slots mc ms (F0 m pc ls st0) rest (Qc (va_A wc H.size) As.toArray) (va_A wc H.size) := by
  subst hst
  obtain ⟨hx, hb, hml, hown, hts, hK, hA, hE⟩ := id C
  obtain ⟨y1, y3, y4, y5, y6, y7⟩ := hy
  exact va_runSN (Ts := wT) ⟨hx, hb, hml, hown, hts⟩ (hM H.size) ⟨va_cnB (Ts := wT) (ws := Cond.code y c1 n ret :: wT) (rm := za_R d mc ms) k hts (fun w hw => ⟨(wT_c y4 wT_s) w hw, wT_good w ((wT_c y4 wT_s) w hw)⟩) rfl rfl rfl (hE.1 _ hl) (hts _ y3) ⟨y5, y6, y7⟩ hR, hts _ y1, trivial⟩ ⟨za_blind, fun U hU hW => za_pre C hP hD hS isC h1 h2 h3 U hU hW⟩ rfl hn hsize rfl (lv_room hr) hdg hf
end
section
variable {p : Program} {l : Launch} {e : Env} {R : Room} {s : State} {m : MethodId} {args : Array Value} {below : List Frame} {meth : Method} {c : Code} {H : Heap} {locs : List Loc} {cells slots mc ms : Nat} {Q : State → Prop} {cc : ByteArray} {pc nL : Nat} {ls : Array Slot} {st0 rest : List Value} {g : za_G} {E : za_E} {A : Nat → Prop} {ws wc wr : va_W} {own : String} {a : Array Value} {S : Type}
/-- behind a call: what came back, beside the rest -/
theorem za_ci {post : Int32 → S → Prop} {ws' : S → va_W} (C : za_H p s m args c cc nL own g E A) (hP : va_P g.1 vwCl ws H) (hD : va_D A ws) (hS : va_S A s.heap H locs) (isC isR : List Nat) (h3 : isC.map (fun i => ws[i]?) = wc.map some) (h4 : isR.map (fun i => ws[i]?) = wr.map some) (h5 : va_nd isR = true) (h6 : ∀ i ∈ isR, i ∉ isC)
    (hr : va_Run p l e R s m args below meth c H locs cells slots mc ms (F0 m pc ls st0) rest (za_qi g post ws' (va_A wc H.size) a) (va_A wc H.size))
    (kk : ∀ (r : Int32) (u : S) (H1 : Heap) (locs1 : List Loc), post r u → va_P g.1 vwCl (wr ++ ws' u) H1 → va_D A (wr ++ ws' u) → va_S A s.heap H1 locs1 → W p l e R s m args below meth c H1 locs1 (cells + mc) (slots + ms) Q (F0 m (pc + 3) ls (.int r :: rest))) : W p l e R s m args below meth c H locs cells slots Q (F0 m pc ls st0) := by
  obtain ⟨hx, hb, hml, hown, hts, hK, hA, hE⟩ := C
  have hF := va_free hD hS hA isC h3
  refine va_calli hr hS (fun q _ h => hF q h) hF (fun r u t H1 locs1 ht hvm hw hB hz hk hS1 => ?_)
  obtain ⟨hP1, hK1, hD1⟩ := hB
  rw [ht] at hP1
  obtain ⟨hP2, hD2⟩ := va_join hP hD isC isR h3 h4 h5 h6 hk hF hP1 hD1
  exact kk r u H1 locs1 hw hP2 hD2 hS1
theorem za_cl {post : Int64 → S → Prop} {ws' : S → va_W} (C : za_H p s m args c cc nL own g E A) (hP : va_P g.1 vwCl ws H) (hD : va_D A ws) (hS : va_S A s.heap H locs) (isC isR : List Nat) (h3 : isC.map (fun i => ws[i]?) = wc.map some) (h4 : isR.map (fun i => ws[i]?) = wr.map some) (h5 : va_nd isR = true) (h6 : ∀ i ∈ isR, i ∉ isC)
    (hr : va_Run p l e R s m args below meth c H locs cells slots mc ms (F0 m pc ls st0) rest (za_ql g post ws' (va_A wc H.size) a) (va_A wc H.size))
    (kk : ∀ (r : Int64) (u : S) (H1 : Heap) (locs1 : List Loc), post r u → va_P g.1 vwCl (wr ++ ws' u) H1 → va_D A (wr ++ ws' u) → va_S A s.heap H1 locs1 → W p l e R s m args below meth c H1 locs1 (cells + mc) (slots + ms) Q (F0 m (pc + 3) ls (.long r :: rest))) : W p l e R s m args below meth c H locs cells slots Q (F0 m pc ls st0) := by
  obtain ⟨hx, hb, hml, hown, hts, hK, hA, hE⟩ := C
  have hF := va_free hD hS hA isC h3
  refine va_calll hr hS (fun q _ h => hF q h) hF (fun r u t H1 locs1 ht hvm hw hB hz hk hS1 => ?_)
  obtain ⟨hP1, hK1, hD1⟩ := hB
  rw [ht] at hP1
  obtain ⟨hP2, hD2⟩ := va_join hP hD isC isR h3 h4 h5 h6 hk hF hP1 hD1
  exact kk r u H1 locs1 hw hP2 hD2 hS1
theorem za_cv {post : S → Prop} {ws' : S → va_W} (C : za_H p s m args c cc nL own g E A) (hP : va_P g.1 vwCl ws H) (hD : va_D A ws) (hS : va_S A s.heap H locs) (isC isR : List Nat) (h3 : isC.map (fun i => ws[i]?) = wc.map some) (h4 : isR.map (fun i => ws[i]?) = wr.map some) (h5 : va_nd isR = true) (h6 : ∀ i ∈ isR, i ∉ isC)
    (hr : va_Run p l e R s m args below meth c H locs cells slots mc ms (F0 m pc ls st0) rest (za_qv g post ws' (va_A wc H.size) a) (va_A wc H.size))
    (kk : ∀ (u : S) (H1 : Heap) (locs1 : List Loc), post u → va_P g.1 vwCl (wr ++ ws' u) H1 → va_D A (wr ++ ws' u) → va_S A s.heap H1 locs1 → W p l e R s m args below meth c H1 locs1 (cells + mc) (slots + ms) Q (F0 m (pc + 3) ls rest)) : W p l e R s m args below meth c H locs cells slots Q (F0 m pc ls st0) := by
  obtain ⟨hx, hb, hml, hown, hts, hK, hA, hE⟩ := C
  have hF := va_free hD hS hA isC h3
  refine va_callv hr hS (fun q _ h => hF q h) hF (fun u t H1 locs1 ht hvm hw hB hz hk hS1 => ?_)
  obtain ⟨hP1, hK1, hD1⟩ := hB
  rw [ht] at hP1
  obtain ⟨hP2, hD2⟩ := va_join hP hD isC isR h3 h4 h5 h6 hk hF hP1 hD1
  exact kk u H1 locs1 hw hP2 hD2 hS1
theorem za_cr {post : S → Prop} {ws' : S → Nat → va_W} (C : za_H p s m args c cc nL own g E A) (hP : va_P g.1 vwCl ws H) (hD : va_D A ws) (hS : va_S A s.heap H locs) (isC isR : List Nat) (h3 : isC.map (fun i => ws[i]?) = wc.map some) (h4 : isR.map (fun i => ws[i]?) = wr.map some) (h5 : va_nd isR = true) (h6 : ∀ i ∈ isR, i ∉ isC)
    (hr : va_Run p l e R s m args below meth c H locs cells slots mc ms (F0 m pc ls st0) rest (za_qr g post ws' (va_A wc H.size) a) (va_A wc H.size))
    (kk : ∀ (u : S) (ra : Nat) (H1 : Heap) (locs1 : List Loc), post u → va_P g.1 vwCl (wr ++ ws' u ra) H1 → va_D A (wr ++ ws' u ra) → va_S A s.heap H1 locs1 → W p l e R s m args below meth c H1 locs1 (cells + mc) (slots + ms) Q (F0 m (pc + 3) ls (.ref ra :: rest))) : W p l e R s m args below meth c H locs cells slots Q (F0 m pc ls st0) := by
  obtain ⟨hx, hb, hml, hown, hts, hK, hA, hE⟩ := C
  have hF := va_free hD hS hA isC h3
  refine va_callr hr hS (fun q _ h => hF q h) hF (fun u ra t H1 locs1 ht hvm hw hB hz hk hS1 => ?_)
  obtain ⟨hP1, hK1, hD1⟩ := hB
  rw [ht] at hP1
  obtain ⟨hP2, hD2⟩ := va_join hP hD isC isR h3 h4 h5 h6 hk hF hP1 hD1
  exact kk u ra H1 locs1 hw hP2 hD2 hS1
end
