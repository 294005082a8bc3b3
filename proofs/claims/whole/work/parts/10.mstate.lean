/-! The reference: its object (44 fields, those that hold arrays named by ad) and its arrays as one state M: the numbers by their slots, the arrays by the slot that holds them, the row of longs. -/
abbrev zm_M : Type := (Nat → Int32) × (Nat → Nat → Int32) × (Nat → Int64)
abbrev zm_s (M : zm_M) (k : Nat) (v : Int32) : zm_M := (upd M.1 k v, M.2)
abbrev zm_a (M : zm_M) (a : Nat) (i : Int32) (v : Int32) : zm_M := (M.1, (fun b => if b = a then upd (M.2.1 a) i.toNatClampNeg v else M.2.1 b), M.2.2)
abbrev zm_v (M : zm_M) (i : Int32) (v : Int64) : zm_M := (M.1, M.2.1, vp_updL M.2.2 i.toNatClampNeg v)
abbrev zm_fs (ad : Nat → Nat) (f : Nat → Int32) : List Value := [.int (f 0), .ref (ad 1), .int (f 2), .int (f 3), .ref (ad 4), .ref (ad 5), .ref (ad 6), .ref (ad 7), .ref (ad 8), .ref (ad 9), .ref (ad 10), .ref (ad 11), .ref (ad 12), .ref (ad 13), .ref (ad 14), .int (f 15), .ref (ad 16), .int (f 17), .ref (ad 18), .ref (ad 19), .ref (ad 20), .int (f 21), .int (f 22), .int (f 23), .int (f 24), .int (f 25), .int (f 26), .int (f 27), .int (f 28), .int (f 29), .int (f 30), .int (f 31), .int (f 32), .int (f 33), .int (f 34), .int (f 35), .int (f 36), .int (f 37), .int (f 38), .int (f 39), .int (f 40), .int (f 41), .int (f 42), .ref (ad 43)]
abbrev zm_ws (g : za_G) (h : Nat) (ad : Nat → Nat) (M : zm_M) : va_W := [(h, .inr (9, zm_fs ad M.1)), (ad 1, .inl (g.2.1, 65536, .inl (M.2.1 1))), (ad 4, .inl (g.2.2.1, 16384, .inl (M.2.1 4))), (ad 5, .inl (g.2.2.1, 16384, .inl (M.2.1 5))), (ad 6, .inl (g.2.2.1, 16384, .inl (M.2.1 6))), (ad 7, .inl (g.2.2.1, 16384, .inl (M.2.1 7))), (ad 8, .inl (g.2.2.1, 16384, .inl (M.2.1 8))), (ad 9, .inl (g.2.2.2.2, 16384, .inl (M.2.1 9))), (ad 10, .inl (g.2.2.1, 16384, .inl (M.2.1 10))), (ad 11, .inl (g.2.2.1, 16384, .inl (M.2.1 11))), (ad 12, .inl (g.2.2.1, 16384, .inl (M.2.1 12))), (ad 13, .inl (g.2.2.1, 16384, .inl (M.2.1 13))), (ad 14, .inl (g.2.2.2.1, 16384, .inr (.inl M.2.2))), (ad 16, .inl (g.2.1, 65536, .inl (M.2.1 16))), (ad 18, .inl (g.2.2.1, 16384, .inl (M.2.1 18))), (ad 19, .inl (g.2.2.1, 16384, .inl (M.2.1 19))), (ad 20, .inl (g.2.2.1, 4096, .inl (M.2.1 20))), (ad 43, .inl (g.2.2.1, 160, .inl (M.2.1 43)))]
theorem zq_upd (f : Nat → Int32) (k : Nat) (v : Int32) (j : Nat) : upd f k v j = if j = k then v else f j := rfl
section
variable {p : Program} {l : Launch} {e : Env} {R : Room} {s : State} {m : MethodId} {args : Array Value} {below : List Frame} {meth : Method} {c : Code} {H : Heap} {locs : List Loc} {Q : State → Prop} {cc : ByteArray} {pc : Nat} {ls : Array Slot} {g : za_G} {A : Nat → Prop} {h : Nat} {ad : Nat → Nat} {M M1 M2 : zm_M}
theorem zm_rv (hQ : Q = MQ below (za_qv g (fun u : zm_M => u = M2) (fun u => zm_ws g h ad u) A) args s 0 0 A) (hx : p.tables.exec = Jvm.exec) (hb : c.code = cc) (hr : meth.sig.returnType = none) (hlocks : meth.locks = false) (hK : va_K g.1 vwCl (za_ty g) s) (hP : va_P g.1 vwCl (zm_ws g h ad M1) H) (hD : va_D A (zm_ws g h ad M1)) (hS : va_S A s.heap H locs) (e1 : M1 = M2) (hdg : decode cc pc = .ok (.return_, 1)) :
    W p l e R s m args below meth c H locs 0 0 Q (F0 m pc ls []) :=
  za_rv hQ hx hb hr hlocks hK hP hD hS M1 e1 [0, 1, 2, 3, 4, 5, 6, 7, 8, 9, 10, 11, 12, 13, 14, 15, 16, 17] rfl (by decide) rfl (Nat.le_refl _) (Nat.le_refl _) hdg
theorem zm_riw {v v2 : Int32} {ty : FieldType} (hQ : Q = MQ below (za_qi g (fun r (u : zm_M) => r = v2 ∧ u = M2) (fun u => zm_ws g h ad u) A) args s 0 0 A) (hx : p.tables.exec = Jvm.exec) (hb : c.code = cc) (hr : meth.sig.returnType = some ty) (hlocks : meth.locks = false) (hK : va_K g.1 vwCl (za_ty g) s) (hP : va_P g.1 vwCl (zm_ws g h ad M1) H) (hD : va_D A (zm_ws g h ad M1)) (hS : va_S A s.heap H locs) (hn : narrow ty (.int v) = .int v) (e0 : v = v2) (e1 : M1 = M2) (hdg : decode cc pc = .ok (.ireturn, 1)) :
    W p l e R s m args below meth c H locs 0 0 Q (F0 m pc ls [.int v]) :=
  za_ri hQ hx hb hr hlocks hK hP hD hS hn M1 ⟨e0, e1⟩ [0, 1, 2, 3, 4, 5, 6, 7, 8, 9, 10, 11, 12, 13, 14, 15, 16, 17] rfl (by decide) rfl (Nat.le_refl _) (Nat.le_refl _) hdg
theorem zm_ri {v v2 : Int32} {ty : FieldType} (hQ : Q = MQ below (za_qi g (fun r (_ : Unit) => r = v2) (fun _ => zm_ws g h ad M) A) args s 0 0 A) (hx : p.tables.exec = Jvm.exec) (hb : c.code = cc) (hr : meth.sig.returnType = some ty) (hlocks : meth.locks = false) (hK : va_K g.1 vwCl (za_ty g) s) (hP : va_P g.1 vwCl (zm_ws g h ad M) H) (hD : va_D A (zm_ws g h ad M)) (hS : va_S A s.heap H locs) (hn : narrow ty (.int v) = .int v) (e0 : v = v2) (hdg : decode cc pc = .ok (.ireturn, 1)) :
    W p l e R s m args below meth c H locs 0 0 Q (F0 m pc ls [.int v]) :=
  za_ri hQ hx hb hr hlocks hK hP hD hS hn () e0 [0, 1, 2, 3, 4, 5, 6, 7, 8, 9, 10, 11, 12, 13, 14, 15, 16, 17] rfl (by decide) rfl (Nat.le_refl _) (Nat.le_refl _) hdg
theorem zm_rlw {v v2 : Int64} (hQ : Q = MQ below (za_ql g (fun r (u : zm_M) => r = v2 ∧ u = M2) (fun u => zm_ws g h ad u) A) args s 0 0 A) (hx : p.tables.exec = Jvm.exec) (hb : c.code = cc) (hr : meth.sig.returnType = some .long) (hlocks : meth.locks = false) (hK : va_K g.1 vwCl (za_ty g) s) (hP : va_P g.1 vwCl (zm_ws g h ad M1) H) (hD : va_D A (zm_ws g h ad M1)) (hS : va_S A s.heap H locs) (e0 : v = v2) (e1 : M1 = M2) (hdg : decode cc pc = .ok (.lreturn, 1)) :
    W p l e R s m args below meth c H locs 0 0 Q (F0 m pc ls [.long v]) :=
  za_rl hQ hx hb hr hlocks hK hP hD hS M1 ⟨e0, e1⟩ [0, 1, 2, 3, 4, 5, 6, 7, 8, 9, 10, 11, 12, 13, 14, 15, 16, 17] rfl (by decide) rfl (Nat.le_refl _) (Nat.le_refl _) hdg
/-- a static method over numbers alone -/
theorem zm_rn {v v2 : Int32} {ty : FieldType} (hQ : Q = MQ below (za_qi g (fun r (_ : Unit) => r = v2) (fun _ => []) A) args s 0 0 A) (hx : p.tables.exec = Jvm.exec) (hb : c.code = cc) (hr : meth.sig.returnType = some ty) (hlocks : meth.locks = false) (hK : va_K g.1 vwCl (za_ty g) s) (hP : va_P g.1 vwCl [] H) (hD : va_D A []) (hS : va_S A s.heap H locs) (hn : narrow ty (.int v) = .int v) (e0 : v = v2) (hdg : decode cc pc = .ok (.ireturn, 1)) :
    W p l e R s m args below meth c H locs 0 0 Q (F0 m pc ls [.int v]) :=
  za_ri hQ hx hb hr hlocks hK hP hD hS hn () e0 [] rfl rfl rfl (Nat.le_refl _) (Nat.le_refl _) hdg
end
-- what its methods answer and do: the same, over M
def zr_digit (c : Int32) : Int32 := if c < 48 ∨ 57 < c then 0 else 1
def zr_letter (c : Int32) : Int32 := if (¬ c < 97 ∧ ¬ 122 < c) ∨ (¬ c < 65 ∧ ¬ 90 < c) ∨ c = 95 then 1 else 0
def zr_worth (c : Int32) : Int32 := if zr_digit c = 0 then (if ¬ c < 97 ∧ ¬ 102 < c then c - 97 + 10 else if ¬ c < 65 ∧ ¬ 70 < c then c - 65 + 10 else 99) else c - 48
def zr_byteAt (M : zm_M) (i : Int32) : Int32 := M.2.1 1 i.toNatClampNeg &&& 255
def zm_error (M : zm_M) : zm_M := if M.1 30 < 0 then zm_s M 30 (M.1 27) else M
def zm_begin (M : zm_M) (what : Int32) : zm_M := zm_s (zm_s (zm_s (zm_s M 21 what) 23 (M.1 27)) 24 (M.1 28)) 25 (M.1 27 - M.1 29 + 1)
def zr_room (M : zm_M) : Int32 := if M.1 3 < 16384 then 1 else 0
def zm_room (M : zm_M) (p : Int32) : zm_M := if M.1 3 < 16384 then M else if M.1 30 < 0 ∨ p < M.1 30 then zm_s M 30 p else M
def zm_keep (M : zm_M) (b : Int32) : zm_M := zm_s (zm_a M 16 (M.1 15) (vp_nar .byte b.toInt8.toInt32)) 15 (M.1 15 + 1)
def zm_opens (M : zm_M) (q what : Int32) : zm_M := let M1 := zm_begin M what; zm_s (zm_s (zm_s (zm_s (zm_s (zm_s (zm_s M1 32 q) 33 0) 36 0) 39 0) 41 0) 38 0) 42 (M1.1 15)
def zm_token (M : zm_M) (k n q : Int32) : zm_M := let M1 := zm_room M (M.1 23); if zr_room M = 0 then M1 else zm_s (zm_v (zm_a (zm_a (zm_a (zm_a (zm_a (zm_a (zm_a (zm_a (zm_a (zm_a M1 4 (M1.1 3) k) 5 (M1.1 3) (M1.1 23)) 6 (M1.1 3) (M1.1 24)) 7 (M1.1 3) (M1.1 25)) 8 (M1.1 3) n) 9 (M1.1 3) (vp_nar .boolean q)) 10 (M1.1 3) (-1)) 11 (M1.1 3) 0) 12 (M1.1 3) (M1.1 15)) 13 (M1.1 3) 0) (M1.1 3) 0) 3 (M1.1 3 + 1)
def zr_asks (k : Int32) : Int32 := if (¬ k < 1 ∧ ¬ 5 < k) ∨ k = 10 ∨ k = 14 ∨ k = 18 ∨ k = 29 ∨ k = 65 ∨ k = 66 ∨ k = 79 ∨ k = 81 ∨ k = 83 then 1 else 0
def zr_last (M : zm_M) : Int32 := if M.1 3 = 0 then 0 else M.2.1 4 (M.1 3 - 1).toNatClampNeg
def zm_semicolon (M : zm_M) : zm_M := if zr_asks (zr_last M) = 0 then M else zm_token M 85 0 1
/-- words or signs of a list, found by their bytes f, n of them -/
abbrev zw_words : List (List Int32) := [[98, 114, 101, 97, 107], [99, 97, 115, 101], [99, 104, 97, 110], [99, 111, 110, 115, 116], [99, 111, 110, 116, 105, 110, 117, 101], [100, 101, 102, 97, 117, 108, 116], [100, 101, 102, 101, 114], [101, 108, 115, 101], [102, 97, 108, 108, 116, 104, 114, 111, 117, 103, 104], [102, 111, 114], [102, 117, 110, 99], [103, 111], [103, 111, 116, 111], [105, 102], [105, 109, 112, 111, 114, 116], [105, 110, 116, 101, 114, 102, 97, 99, 101], [109, 97, 112], [112, 97, 99, 107, 97, 103, 101], [114, 97, 110, 103, 101], [114, 101, 116, 117, 114, 110], [115, 101, 108, 101, 99, 116], [115, 116, 114, 117, 99, 116], [115, 119, 105, 116, 99, 104], [116, 121, 112, 101], [118, 97, 114]]
abbrev zw_signs : List (List Int32) := [[43], [45], [42], [47], [37], [38], [124], [94], [60, 60], [62, 62], [38, 94], [43, 61], [45, 61], [42, 61], [47, 61], [37, 61], [38, 61], [124, 61], [94, 61], [60, 60, 61], [62, 62, 61], [38, 94, 61], [38, 38], [124, 124], [60, 45], [43, 43], [45, 45], [61, 61], [60], [62], [61], [33], [126], [33, 61], [60, 61], [62, 61], [58, 61], [46, 46, 46], [40], [41], [91], [93], [123], [125], [44], [59], [46], [58]]
def zw_find : List (List Int32) → (Nat → Int32) → Int32 → Int32 → Int32
  | [], _, _, _ => -1
  | w :: L, f, n, i => if nI w.length = n ∧ ∀ j, j < w.length → w.getD j 0 = f j then i else zw_find L f n (i + 1)
def zr_signOf (M : zm_M) (q n last : Int32) : Int32 := zw_find zw_signs (fun j => if nI j < n then zr_byteAt M (q + nI j) else last) (if last = -1 then n else n + 1) 0
def zr_wordOf (M : zm_M) : Int32 := zw_find zw_words (fun j => zr_byteAt M (M.1 23 + nI j)) (M.1 27 - M.1 23) 0
def zr_blank (x : Int32) : Int32 := if x = 32 ∨ x = 9 ∨ x = 13 then 1 else 0
def zm_gap (M : zm_M) (x : Int32) : zm_M :=
  if ¬ M.1 30 < 0 then M else if ¬ zr_blank x = 0 then M else
  let M1 := zm_begin M 0
  if x = 10 ∨ x = -1 then zm_semicolon M1 else
  let M2 := zm_s M1 26 0
  if x = 47 then zm_s M2 21 17 else
  let M3 := zm_room M2 (M2.1 27)
  if zr_room M2 = 0 then M3 else
  if ¬ zr_letter x = 0 then zm_s M3 21 1 else
  if x = 48 then zm_s M3 21 2 else
  if ¬ zr_digit x = 0 then zm_s M3 21 5 else
  if x = 46 then zm_s M3 21 12 else
  if x = 34 ∨ x = 39 then zm_opens M3 x 15 else
  if x = 96 then zm_opens M3 x 16 else
  if 0 < x ∧ x < 128 ∧ ¬ zr_signOf M3 (M3.1 27) 0 x < 0 then zm_s M3 21 14 else zm_error M3
def zm_sign (M : zm_M) (x : Int32) : zm_M :=
  if ¬ x = -1 ∧ ¬ zr_signOf M (M.1 23) (M.1 27 - M.1 23) x < 0 then M else
  let M1 := zm_token M (40 + zr_signOf M (M.1 23) (M.1 27 - M.1 23) (-1)) (M.1 27 - M.1 23) 0
  zm_gap (zm_s M1 21 0) x
def zm_dotsA (M : zm_M) (x : Int32) : zm_M :=
  if ¬ zr_digit x = 0 then zm_s (zm_s M 21 7) 26 0 else if x = 46 then zm_s M 21 13 else
  let M1 := zm_token M 86 1 0
  zm_gap (zm_s M1 21 0) x
def zm_dots (M : zm_M) (x : Int32) : zm_M :=
  if M.1 21 = 12 then zm_dotsA M x else
  if x = 46 then (let M1 := zm_token (zm_s M 27 (M.1 27 + 1)) 77 3 0; let M2 := zm_s M1 27 (M1.1 27 - 1); zm_s M2 21 0) else
  let M1 := zm_token M 86 1 0
  zm_dotsA (zm_s (zm_s (zm_s M1 23 (M1.1 23 + 1)) 25 (M1.1 25 + 1)) 21 12) x
/-- n bytes f 0 .. are kept -/
def zm_keeps (M : zm_M) (f : Nat → Int32) : Nat → zm_M
  | 0 => M
  | n + 1 => zm_keep (zm_keeps M f n) (f n)
def zr_same (M : zm_M) (t : Int32) : Int32 := if M.2.1 8 t.toNatClampNeg = M.1 27 - M.1 23 ∧ ∀ j, j < (M.2.1 8 t.toNatClampNeg).toNatClampNeg → zr_byteAt M (M.2.1 5 t.toNatClampNeg + nI j) = zr_byteAt M (M.1 23 + nI j) then 1 else 0
/-- along the chain of names of one hash -/
def zr_chain (M : zm_M) : Nat → Int32 → Int32
  | 0, n => n
  | k + 1, n => if ¬ n < 0 ∧ zr_same M (M.2.1 18 n.toNatClampNeg) = 0 then zr_chain M k (M.2.1 19 n.toNatClampNeg) else n
def zr_hash (M : zm_M) : Int32 := let v := zr_byteAt M (M.1 23) * 37 + zr_byteAt M (M.1 27 - 1) * 11 + zr_byteAt M ((M.1 23 + M.1 27) / 2) * 101 + M.1 27 - M.1 23; v - v / 4096 * 4096
def zr_F : Nat := 16385
def zm_numbered (M : zm_M) : zm_M :=
  let h := zr_hash M
  let n := zr_chain M zr_F (M.2.1 20 h.toNatClampNeg)
  if n < 0 then
    let M1 := zm_s (zm_a (zm_a (zm_a M 18 (M.1 17) (M.1 3 - 1)) 19 (M.1 17) (M.2.1 20 h.toNatClampNeg)) 20 h (M.1 17)) 17 (M.1 17 + 1)
    zm_a M1 10 (M.1 3 - 1) (M.1 17)
  else zm_a M 10 (M.1 3 - 1) n
def zr_wk (w : Int32) : Int32 := if w < 0 then 1 else 10 + w
def zm_name (M : zm_M) : zm_M :=
  let w := zr_wordOf M
  let M1 := zm_token M (zr_wk w) (M.1 27 - M.1 23) 0
  if ¬ M1.1 30 < 0 then M1 else
  let M2 := zm_keeps M1 (fun j => zr_byteAt M1 (M1.1 23 + nI j)) (M1.1 27 - M1.1 23).toNatClampNeg
  let M3 := zm_a M2 13 (M2.1 3 - 1) (M2.1 27 - M2.1 23)
  if ¬ w < 0 then M3 else zm_numbered M3
def zm_named (M : zm_M) (x : Int32) : zm_M := let M1 := zm_name M; zm_gap (zm_s M1 21 0) x
def zr_digitsFrom (M : zm_M) (t : Int32) : Int32 :=
  if (¬ M.2.1 11 t.toNatClampNeg = 10 ∧ 1 < M.2.1 13 t.toNatClampNeg ∧ 9 < zr_worth (M.2.1 16 (M.2.1 12 t.toNatClampNeg + 1).toNatClampNeg)) ∨ M.2.1 11 t.toNatClampNeg = 2 then M.2.1 12 t.toNatClampNeg + 2 else M.2.1 12 t.toNatClampNeg
/-- the bytes of a number, without its _ -/
def zm_keepN (M : zm_M) (f : Nat → Int32) : Nat → zm_M
  | 0 => M
  | n + 1 => let M1 := zm_keepN M f n; if f n = 95 then M1 else zm_keep M1 (f n)
/-- the value of token t, digit by digit from place k of the pool on -/
def zm_value (M : zm_M) (t k : Int32) : Nat → zm_M
  | 0 => M
  | n + 1 => let M1 := zm_value M t k n; zm_v M1 t (M1.2.2 t.toNatClampNeg * (M1.1 22).toInt64 + (zr_worth (M1.2.1 16 (k + nI n).toNatClampNeg)).toInt64)
def zr_nk (q : Int32) : Int32 := if q = 0 then 3 else 2
def zr_nb (q r : Int32) : Int32 := if q = 0 then 0 else r
def zm_number (M : zm_M) (q : Int32) : zm_M :=
  let M1 := zm_token M (zr_nk q) (M.1 27 - M.1 23) 0
  if ¬ M1.1 30 < 0 then M1 else
  let t := M1.1 3 - 1
  let M2 := zm_a M1 11 t (zr_nb q (M1.1 22))
  let M3 := zm_keepN M2 (fun j => zr_byteAt M2 (M2.1 23 + nI j)) (M2.1 27 - M2.1 23).toNatClampNeg
  let M4 := zm_a M3 13 t (M3.1 15 - M3.2.1 12 t.toNatClampNeg)
  if q = 0 then M4 else zm_value M4 t (zr_digitsFrom M4 t) (M4.1 15 - zr_digitsFrom M4 t).toNatClampNeg
def zr_here (M : zm_M) : Int32 := if M.1 27 < M.1 2 then zr_byteAt M (M.1 27) else -1
def zm_ends (M : zm_M) (q : Int32) : zm_M := let M1 := zm_s (zm_number M q) 21 0; zm_gap M1 (zr_here M1)
def zr_mo (x : Int32) : Int32 := if ¬ x < 194 ∧ x < 224 then 1 else if ¬ x < 224 ∧ x < 240 then 2 else if ¬ x < 240 ∧ x < 245 then 3 else 0
def zr_lo (x : Int32) : Int32 := if x = 224 then 160 else if x = 240 then 144 else 128
def zr_hi (x : Int32) : Int32 := if x = 237 then 159 else if x = 244 then 143 else 191
def zr_mask (k : Int32) : Int32 := if k = 1 then 31 else if k = 2 then 15 else 7
def zm_charK (M : zm_M) (x : Int32) : zm_M := if M.1 32 = 0 ∨ (M.1 32 = 96 ∧ x = 13) then M else zm_keep M x
def zm_character (M : zm_M) (x : Int32) : zm_M :=
  if x < 128 then zm_charK (zm_s (zm_s M 38 x) 41 1) x else
  let M4 := zm_s (zm_s (zm_s (zm_s (zm_s M 38 x) 33 (zr_mo x)) 34 (zr_lo x)) 35 (zr_hi x)) 38 (x &&& zr_mask (zr_mo x))
  if zr_mo x = 0 then zm_error M4 else zm_charK M4 x
def zr_short (x : Int32) : Int32 := if x = 97 then 0 else if x = 98 then 1 else if x = 102 then 2 else if x = 110 then 3 else if x = 114 then 4 else if x = 116 then 5 else if x = 118 then 6 else if x = 92 then 7 else 8
def zr_sv (x : Int32) : Int32 := if zr_short x < 8 then zs_mea.getD (zr_short x).toNatClampNeg 0 else x
def zr_dg (x : Int32) : Int32 := if x = 120 then 2 else if x = 117 then 4 else 8
def zr_ib (x : Int32) : Int32 := if x = 120 then 1 else 0
def zm_escape (M : zm_M) (x : Int32) : zm_M :=
  let M0 := zm_s (zm_s M 39 0) 38 0
  if zr_short x < 8 ∨ x = M0.1 32 then
    let M1 := zm_s M0 38 (zr_sv x)
    zm_s (zm_keep M1 (M1.1 38)) 41 1
  else if ¬ x < 48 ∧ ¬ 51 < x then zm_s (zm_s (zm_s (zm_s M0 36 2) 37 8) 38 (x - 48)) 40 1
  else if x = 120 ∨ x = 117 ∨ x = 85 then zm_s (zm_s (zm_s M0 36 (zr_dg x)) 37 16) 40 (zr_ib x)
  else zm_error M0
/-- v with n digits of base 16 behind it, all 0 or all 15 -/
def zr_least (v : Int64) : Nat → Int64
  | 0 => v
  | n + 1 => zr_least v n * 16
def zr_most (v : Int64) : Nat → Int64
  | 0 => v
  | n + 1 => zr_most v n * 16 + 15
def zr_un (x : Int32) : Int32 := if x < 2048 then 1 else if x < 65536 then 2 else 3
def zr_uf (n : Int32) : Int32 := if n = 1 then 192 else if n = 2 then 224 else 240
/-- a code as UTF-8: n bytes behind the first one -/
def zm_utf (M : zm_M) (n : Int32) : Nat → zm_M
  | 0 => zm_keep M (zr_uf n ||| (M.1 38 >>> ((6 * n) &&& 31)))
  | j + 1 => let M1 := zm_utf M n j; zm_keep M1 (128 ||| ((M1.1 38 >>> ((6 * (n - nI (j + 1))) &&& 31)) &&& 63))
def zm_number2 (M : zm_M) (x : Int32) : zm_M :=
  if ¬ zr_worth x < M.1 37 then zm_error M else
  let M1 := zm_s M 36 (M.1 36 - 1)
  let v := (M1.1 38).toInt64 * (M1.1 37).toInt64 + (zr_worth x).toInt64
  let lo := zr_least v (M1.1 36).toNatClampNeg
  let hi := zr_most v (M1.1 36).toNatClampNeg
  if M1.1 40 = 0 ∧ (0 < lg_cmp lo 1114111 ∨ (¬ lg_cmp lo 55296 < 0 ∧ ¬ 0 < lg_cmp hi 57343)) then zm_error M1 else
  let M2 := zm_s M1 38 v.toInt32
  if 0 < M2.1 36 then M2 else
  let M3 := zm_s M2 41 1
  if ¬ M3.1 40 = 0 ∨ M3.1 38 < 128 then zm_keep M3 (M3.1 38) else
  zm_utf M3 (zr_un (M3.1 38)) (zr_un (M3.1 38)).toNatClampNeg
def zr_q4 (q : Int32) : Int32 := if q = 39 then 4 else 5
def zr_sl (x : Int32) : Int32 := if x = 47 then 18 else 19
def zr_cm (x : Int32) : Int32 := if x = 42 then 20 else 19
def zm_close (M : zm_M) : zm_M :=
  if M.1 32 = 39 ∧ M.1 41 = 0 then zm_error M else
  let M2 := zm_token (zm_s M 15 (M.1 42)) (zr_q4 (M.1 32)) (M.1 27 + 1 - M.1 23) 0
  if ¬ M2.1 30 < 0 then M2 else
  if M2.1 32 = 39 then zm_s (zm_v M2 (M2.1 3 - 1) (M2.1 38).toInt64) 21 0 else
  zm_s (zm_a (zm_s M2 15 (M.1 15)) 13 (M2.1 3 - 1) (M.1 15 - M.1 42)) 21 0
def zm_slash (M : zm_M) (x : Int32) : zm_M :=
  if x = 47 ∨ x = 42 then
    let M1 := zm_opens M 0 (zr_sl x)
    let M2 := zm_s (zm_s (zm_s (zm_s M1 23 (M.1 23)) 24 (M.1 24)) 25 (M.1 25)) 31 0
    if x = 47 then zm_semicolon M2 else M2
  else
    let M1 := zm_room M (M.1 23)
    if zr_room M = 0 then M1 else zm_sign (zm_s M1 21 14) x
def zm_quoted (M : zm_M) (x : Int32) : zm_M :=
  if 0 < M.1 33 then
    if x < M.1 34 ∨ M.1 35 < x then zm_error M else
    let M1 := zm_s (zm_s (zm_s (zm_s M 38 ((M.1 38 <<< ((6 : Int32) &&& 31)) ||| (x &&& 63))) 34 128) 35 191) 33 (M.1 33 - 1)
    let M2 := if M1.1 32 = 0 then M1 else zm_keep M1 x
    if M2.1 33 = 0 then zm_s M2 41 1 else M2
  else if 0 < M.1 36 then zm_number2 M x
  else if ¬ M.1 39 = 0 then zm_escape M x
  else if x = M.1 32 then zm_close M
  else if x = -1 ∨ x = 0 ∨ ((x = 10 ∨ (M.1 32 = 39 ∧ ¬ M.1 41 = 0)) ∧ ¬ M.1 32 = 96 ∧ ¬ M.1 32 = 0) then zm_error M
  else if x = 92 ∧ ¬ M.1 32 = 96 ∧ ¬ M.1 32 = 0 then zm_s M 39 1
  else zm_character M x
def zm_comment (M : zm_M) (x : Int32) : zm_M :=
  if M.1 21 = 18 ∧ (x = 10 ∨ x = -1) ∧ M.1 33 = 0 then zm_gap (zm_s M 21 0) x else
  if M.1 21 = 20 ∧ x = 47 then zm_s M 21 0 else
  let M1 := if x = 10 ∧ M.1 33 = 0 ∧ M.1 31 = 0 then zm_semicolon (zm_s M 31 1) else M
  let M2 := zm_s M1 32 0
  if x = 0 then zm_error M2 else
  let M3 := zm_quoted M2 x
  if M3.1 21 = 18 then M3 else zm_s M3 21 (zr_cm x)
def zm_T (M : zm_M) : Prop := ¬ M.1 3 < 0 ∧ ¬ 16384 < M.1 3
/-- n bytes more fit into the pool -/
def zm_K (M : zm_M) (n : Nat) : Prop := ∃ u : Nat, M.1 15 = nI u ∧ u + n ≤ 65536
/-- in a name or a number: where it stands, and that its bytes fit into the pool -/
def zm_B (M : zm_M) : Prop := ∃ a b u : Nat, M.1 27 = nI a ∧ M.1 23 = nI b ∧ M.1 15 = nI u ∧ b ≤ a ∧ a ≤ 60000 ∧ u ≤ b
/-- the chains of names: every place of them lies in its row, every name's bytes in the text -/
def zm_N (M : zm_M) : Prop := (∃ n : Nat, M.1 17 = nI n ∧ n ≤ 16383) ∧ (∀ j : Nat, j < 4096 → M.2.1 20 j < M.1 17) ∧ (∀ j : Nat, nI j < M.1 17 → j < 16384 → M.2.1 19 j < nI j ∧ (∃ t : Nat, M.2.1 18 j = nI t ∧ t < 16384 ∧ nI t < M.1 3 ∧ ∃ q w : Nat, M.2.1 5 t = nI q ∧ M.2.1 8 t = nI w ∧ q + w ≤ 65535))
def zr_e (x : Int32) : Int32 := if x = 101 ∨ x = 69 then 1 else 0
def zr_radix (x : Int32) : Int32 := if x = 98 ∨ x = 66 then 2 else if x = 111 ∨ x = 79 then 8 else if x = 120 ∨ x = 88 then 16 else 0
def zr_st1 (q x : Int32) : Int32 := if q = 3 ∧ 55 < x then 4 else if q = 8 ∨ q = 9 then 10 else q
def zr_st2 (q x : Int32) : Int32 := if q = 2 ∨ q = 3 then (if 55 < x then 4 else 3) else if q = 6 then 7 else q
def zr_st3 (q : Int32) : Int32 := if q = 2 then 3 else q
def zr_st4 (q : Int32) : Int32 := if q = 3 then 8 else 10
def zr_st5 (q : Int32) : Int32 := if q = 2 ∨ q = 3 ∨ q = 5 then 1 else 0
def zm_numeral (M : zm_M) (x : Int32) : zm_M :=
  if M.1 21 = 11 then
    if zr_worth x < M.1 22 then zm_s M 26 0
    else if x = 95 ∧ ¬ (¬ M.1 26 = 0 ∧ zr_byteAt M (M.1 27 - 1) = 95) then zm_s M 26 1
    else if ¬ M.1 26 = 0 ∨ ¬ zr_letter x = 0 ∨ ¬ zr_digit x = 0 then zm_error M
    else zm_ends M 1
  else if ¬ M.1 26 = 0 then
    if ¬ zr_digit x = 0 then zm_s (zm_s M 26 0) 21 (zr_st1 (M.1 21) x)
    else if M.1 21 = 8 ∧ (x = 43 ∨ x = 45) then zm_s M 21 9
    else zm_error M
  else if M.1 21 = 2 ∧ zr_digit x = 0 ∧ ¬ x = 95 ∧ ¬ zr_letter x = 0 ∧ zr_e x = 0 then
    let M1 := zm_s M 22 (zr_radix x)
    let M2 := if zr_radix x = 0 then zm_error M1 else M1
    zm_s (zm_s M2 21 11) 26 1
  else if ¬ zr_digit x = 0 then zm_s M 21 (zr_st2 (M.1 21) x)
  else if x = 95 ∧ ¬ M.1 21 = 6 then zm_s (zm_s M 21 (zr_st3 (M.1 21))) 26 1
  else if x = 46 ∧ (M.1 21 = 2 ∨ M.1 21 = 3 ∨ M.1 21 = 4 ∨ M.1 21 = 5) then zm_s M 21 6
  else if ¬ zr_e x = 0 ∧ ¬ M.1 21 = 10 then zm_s (zm_s M 21 8) 26 1
  else if ¬ zr_letter x = 0 ∨ M.1 21 = 4 then zm_error M
  else zm_ends (zm_s M 22 (zr_st4 (M.1 21))) (zr_st5 (M.1 21))
def zm_step (M : zm_M) (x : Int32) : zm_M :=
  if M.1 21 = 0 then zm_gap M x
  else if M.1 21 = 1 ∧ (¬ zr_letter x = 0 ∨ ¬ zr_digit x = 0) then M
  else if M.1 21 = 1 then zm_named M x
  else if ¬ M.1 21 < 2 ∧ ¬ 11 < M.1 21 then zm_numeral M x
  else if M.1 21 = 12 ∨ M.1 21 = 13 then zm_dots M x
  else if M.1 21 = 14 then zm_sign M x
  else if M.1 21 = 15 ∨ M.1 21 = 16 then zm_quoted M x
  else if M.1 21 = 17 then zm_slash M x
  else zm_comment M x
-- the calls of its face
def zm_0 (M : zm_M) : zm_M := zm_s M 0 0
def zm_fail (M : zm_M) : zm_M := zm_s M 0 1
def zr_tok (M : zm_M) (k w : Int32) : Int32 :=
  if k < 0 ∨ ¬ k < M.1 3 ∨ w < 0 ∨ 8 < w then 0
  else if w < 4 then (if w = 0 then M.2.1 4 k.toNatClampNeg else if w = 1 then M.2.1 5 k.toNatClampNeg else if w = 2 then M.2.1 6 k.toNatClampNeg else M.2.1 7 k.toNatClampNeg)
  else if w < 7 then (if w = 4 then M.2.1 8 k.toNatClampNeg else if w = 5 then (if M.2.1 9 k.toNatClampNeg = 0 then 0 else 1) else M.2.1 10 k.toNatClampNeg)
  else if w = 7 then M.2.1 11 k.toNatClampNeg else M.2.1 13 k.toNatClampNeg
def zm_tok (M : zm_M) (k w : Int32) : zm_M := if k < 0 ∨ ¬ k < M.1 3 ∨ w < 0 ∨ 8 < w then zm_fail (zm_0 M) else zm_0 M
def zr_byteOf (M : zm_M) (k i : Int32) : Int32 := if k < 0 ∨ ¬ k < M.1 3 ∨ i < 0 ∨ ¬ i < M.2.1 13 k.toNatClampNeg then 0 else M.2.1 16 (M.2.1 12 k.toNatClampNeg + i).toNatClampNeg &&& 255
def zm_byteOf (M : zm_M) (k i : Int32) : zm_M := if k < 0 ∨ ¬ k < M.1 3 ∨ i < 0 ∨ ¬ i < M.2.1 13 k.toNatClampNeg then zm_fail (zm_0 M) else zm_0 M
def zr_num (M : zm_M) (k : Int32) : Int64 := if k < 0 ∨ ¬ k < M.1 3 ∨ (¬ M.2.1 4 k.toNatClampNeg = 2 ∧ ¬ M.2.1 4 k.toNatClampNeg = 4) then 0 else M.2.2 k.toNatClampNeg
def zm_num (M : zm_M) (k : Int32) : zm_M := if k < 0 ∨ ¬ k < M.1 3 ∨ (¬ M.2.1 4 k.toNatClampNeg = 2 ∧ ¬ M.2.1 4 k.toNatClampNeg = 4) then zm_fail (zm_0 M) else zm_0 M
def zr_firstOf (M : zm_M) (n : Int32) : Int32 := if n < 0 ∨ ¬ n < M.1 17 then -1 else M.2.1 18 n.toNatClampNeg
def zr_end (M : zm_M) (n : Int32) : Int32 := if n < 0 ∨ M.1 2 < n then 0 else 1
def zm_end (M : zm_M) (n : Int32) : zm_M := if n < 0 ∨ M.1 2 < n then zm_0 M else zm_s (zm_0 M) 2 n
