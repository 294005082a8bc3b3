/-! The reference: its object (44 fields, those that hold arrays named by ad) and its arrays as one state M: the numbers by their slots, the arrays by the slot that holds them, the row of longs. -/
abbrev zm_M : Type := (Nat → Int32) × (Nat → Nat → Int32) × (Nat → Int64)
abbrev zm_s (M : zm_M) (k : Nat) (v : Int32) : zm_M := (upd M.1 k v, M.2)
abbrev zm_a (M : zm_M) (a : Nat) (i : Int32) (v : Int32) : zm_M := (M.1, (fun b => if b = a then upd (M.2.1 a) i.toNatClampNeg v else M.2.1 b), M.2.2)
abbrev zm_v (M : zm_M) (i : Int32) (v : Int64) : zm_M := (M.1, M.2.1, vp_updL M.2.2 i.toNatClampNeg v)
abbrev zm_fs (ad : Nat → Nat) (f : Nat → Int32) : List Value := [.int (f 0), .ref (ad 1), .int (f 2), .int (f 3), .ref (ad 4), .ref (ad 5), .ref (ad 6), .ref (ad 7), .ref (ad 8), .ref (ad 9), .ref (ad 10), .ref (ad 11), .ref (ad 12), .ref (ad 13), .ref (ad 14), .int (f 15), .ref (ad 16), .int (f 17), .ref (ad 18), .ref (ad 19), .ref (ad 20), .int (f 21), .int (f 22), .int (f 23), .int (f 24), .int (f 25), .int (f 26), .int (f 27), .int (f 28), .int (f 29), .int (f 30), .int (f 31), .int (f 32), .int (f 33), .int (f 34), .int (f 35), .int (f 36), .int (f 37), .int (f 38), .int (f 39), .int (f 40), .int (f 41), .int (f 42), .ref (ad 43)]
abbrev zm_ws (g : za_G) (h : Nat) (ad : Nat → Nat) (M : zm_M) : va_W := [(h, .inr (9, zm_fs ad M.1)), (ad 1, .inl (g.2.1, 65536, .inl (M.2.1 1))), (ad 4, .inl (g.2.2.1, 16384, .inl (M.2.1 4))), (ad 5, .inl (g.2.2.1, 16384, .inl (M.2.1 5))), (ad 6, .inl (g.2.2.1, 16384, .inl (M.2.1 6))), (ad 7, .inl (g.2.2.1, 16384, .inl (M.2.1 7))), (ad 8, .inl (g.2.2.1, 16384, .inl (M.2.1 8))), (ad 9, .inl (g.2.2.2.2, 16384, .inl (M.2.1 9))), (ad 10, .inl (g.2.2.1, 16384, .inl (M.2.1 10))), (ad 11, .inl (g.2.2.1, 16384, .inl (M.2.1 11))), (ad 12, .inl (g.2.2.1, 16384, .inl (M.2.1 12))), (ad 13, .inl (g.2.2.1, 16384, .inl (M.2.1 13))), (ad 14, .inl (g.2.2.2.1, 16384, .inr (.inl M.2.2))), (ad 16, .inl (g.2.1, 65536, .inl (M.2.1 16))), (ad 18, .inl (g.2.2.1, 16384, .inl (M.2.1 18))), (ad 19, .inl (g.2.2.1, 16384, .inl (M.2.1 19))), (ad 20, .inl (g.2.2.1, 4096, .inl (M.2.1 20))), (ad 43, .inl (g.2.2.1, 160, .inl (M.2.1 43)))]
section
variable {p : Program} {l : Launch} {e : Env} {R : Room} {s : State} {m : MethodId} {args : Array Value} {below : List Frame} {meth : Method} {c : Code} {H : Heap} {locs : List Loc} {Q : State → Prop} {cc : ByteArray} {pc : Nat} {ls : Array Slot} {g : za_G} {A : Nat → Prop} {h : Nat} {ad : Nat → Nat} {M M1 M2 : zm_M}
theorem zm_rv (hQ : Q = MQ below (za_qv g (fun u : zm_M => u = M2) (fun u => zm_ws g h ad u) A) args s 0 0 A) (hx : p.tables.exec = Jvm.exec) (hb : c.code = cc) (hr : meth.sig.returnType = none) (hlocks : meth.locks = false) (hK : va_K g.1 vwCl (za_ty g) s) (hP : va_P g.1 vwCl (zm_ws g h ad M1) H) (hD : va_D A (zm_ws g h ad M1)) (hS : va_S A s.heap H locs) (e1 : M1 = M2) (hdg : decode cc pc = .ok (.return_, 1)) :
    W p l e R s m args below meth c H locs 0 0 Q (F0 m pc ls []) :=
  za_rv hQ hx hb hr hlocks hK hP hD hS M1 e1 [0, 1, 2, 3, 4, 5, 6, 7, 8, 9, 10, 11, 12, 13, 14, 15, 16, 17] rfl (by decide) rfl (Nat.le_refl _) (Nat.le_refl _) hdg
theorem zm_riw {v v2 : Int32} {ty : FieldType} (hQ : Q = MQ below (za_qi g (fun r (u : zm_M) => r = v2 ∧ u = M2) (fun u => zm_ws g h ad u) A) args s 0 0 A) (hx : p.tables.exec = Jvm.exec) (hb : c.code = cc) (hr : meth.sig.returnType = some ty) (hlocks : meth.locks = false) (hK : va_K g.1 vwCl (za_ty g) s) (hP : va_P g.1 vwCl (zm_ws g h ad M1) H) (hD : va_D A (zm_ws g h ad M1)) (hS : va_S A s.heap H locs) (hn : narrow ty (.int v) = .int v) (e0 : v = v2) (e1 : M1 = M2) (hdg : decode cc pc = .ok (.ireturn, 1)) :
    W p l e R s m args below meth c H locs 0 0 Q (F0 m pc ls [.int v]) :=
  za_ri hQ hx hb hr hlocks hK hP hD hS hn M1 ⟨e0, e1⟩ [0, 1, 2, 3, 4, 5, 6, 7, 8, 9, 10, 11, 12, 13, 14, 15, 16, 17] rfl (by decide) rfl (Nat.le_refl _) (Nat.le_refl _) hdg
theorem zm_ri {v v2 : Int32} {ty : FieldType} (hQ : Q = MQ below (za_qi g (fun r (_ : Unit) => r = v2) (fun _ => zm_ws g h ad M) A) args s 0 0 A) (hx : p.tables.exec = Jvm.exec) (hb : c.code = cc) (hr : meth.sig.returnType = some ty) (hlocks : meth.locks = false) (hK : va_K g.1 vwCl (za_ty g) s) (hP : va_P g.1 vwCl (zm_ws g h ad M) H) (hD : va_D A (zm_ws g h ad M)) (hS : va_S A s.heap H locs) (hn : narrow ty (.int v) = .int v) (e0 : v = v2) (hdg : decode cc pc = .ok (.ireturn, 1)) :
    W p l e R s m args below meth c H locs 0 0 Q (F0 m pc ls [.int v]) :=
  za_ri hQ hx hb hr hlocks hK hP hD hS hn () e0 [0, 1, 2, 3, 4, 5, 6, 7, 8, 9, 10, 11, 12, 13, 14, 15, 16, 17] rfl (by decide) rfl (Nat.le_refl _) (Nat.le_refl _) hdg
theorem zm_rlw {v v2 : Int64} (hQ : Q = MQ below (za_ql g (fun r (u : zm_M) => r = v2 ∧ u = M2) (fun u => zm_ws g h ad u) A) args s 0 0 A) (hx : p.tables.exec = Jvm.exec) (hb : c.code = cc) (hr : meth.sig.returnType = some .long) (hlocks : meth.locks = false) (hK : va_K g.1 vwCl (za_ty g) s) (hP : va_P g.1 vwCl (zm_ws g h ad M1) H) (hD : va_D A (zm_ws g h ad M1)) (hS : va_S A s.heap H locs) (e0 : v = v2) (e1 : M1 = M2) (hdg : decode cc pc = .ok (.lreturn, 1)) :
    W p l e R s m args below meth c H locs 0 0 Q (F0 m pc ls [.long v]) :=
  za_rl hQ hx hb hr hlocks hK hP hD hS M1 ⟨e0, e1⟩ [0, 1, 2, 3, 4, 5, 6, 7, 8, 9, 10, 11, 12, 13, 14, 15, 16, 17] rfl (by decide) rfl (Nat.le_refl _) (Nat.le_refl _) hdg
/-- a static method over numbers alone -/
theorem zm_rn {v v2 : Int32} {ty : FieldType} (hQ : Q = MQ below (za_qi g (fun r (_ : Unit) => r = v2) (fun _ => []) A) args s 0 0 A) (hx : p.tables.exec = Jvm.exec) (hb : c.code = cc) (hr : meth.sig.returnType = some ty) (hlocks : meth.locks = false) (hK : va_K g.1 vwCl (za_ty g) s) (hP : va_P g.1 vwCl [] H) (hD : va_D A []) (hS : va_S A s.heap H locs) (hn : narrow ty (.int v) = .int v) (e0 : v = v2) (hdg : decode cc pc = .ok (.ireturn, 1)) :
    W p l e R s m args below meth c H locs 0 0 Q (F0 m pc ls [.int v]) :=
  za_ri hQ hx hb hr hlocks hK hP hD hS hn () e0 [] rfl rfl rfl (Nat.le_refl _) (Nat.le_refl _) hdg
end
-- what its methods answer and do: the same, over M
def zr_digit (c : Int32) : Int32 := if c < 48 ∨ 57 < c then 0 else 1
def zr_letter (c : Int32) : Int32 := if (¬ c < 97 ∧ ¬ 122 < c) ∨ (¬ c < 65 ∧ ¬ 90 < c) ∨ c = 95 then 1 else 0
def zr_worth (c : Int32) : Int32 := if zr_digit c = 0 then (if ¬ c < 97 ∧ ¬ 102 < c then c - 97 + 10 else if ¬ c < 65 ∧ ¬ 70 < c then c - 65 + 10 else 99) else c - 48
def zr_byteAt (M : zm_M) (i : Int32) : Int32 := M.2.1 1 i.toNatClampNeg &&& 255
def zm_error (M : zm_M) : zm_M := if M.1 30 < 0 then zm_s M 30 (M.1 27) else M
def zm_begin (M : zm_M) (what : Int32) : zm_M := zm_s (zm_s (zm_s (zm_s M 21 what) 23 (M.1 27)) 24 (M.1 28)) 25 (M.1 27 - M.1 29 + 1)
def zr_room (M : zm_M) : Int32 := if M.1 3 < 16384 then 1 else 0
def zm_room (M : zm_M) (p : Int32) : zm_M := if M.1 3 < 16384 then M else if M.1 30 < 0 ∨ p < M.1 30 then zm_s M 30 p else M
def zm_keep (M : zm_M) (b : Int32) : zm_M := zm_s (zm_a M 16 (M.1 15) (vp_nar .byte b.toInt8.toInt32)) 15 (M.1 15 + 1)
def zm_opens (M : zm_M) (q what : Int32) : zm_M := let M1 := zm_begin M what; zm_s (zm_s (zm_s (zm_s (zm_s (zm_s (zm_s M1 32 q) 33 0) 36 0) 39 0) 41 0) 38 0) 42 (M1.1 15)
