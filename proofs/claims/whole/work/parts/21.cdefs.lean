/-! What the class's methods answer (zk_) and do (zc_), over N. -/
-- Text
def zk_here (N : zc_N) : Int32 := if ¬ N.1 62 < 0 ∧ N.1 62 < N.1 61 then N.2.1 60 (N.1 62).toNatClampNeg &&& 255 else -1
def zk_next (N : zc_N) : Int32 := if ¬ N.1 62 + 1 < 0 ∧ N.1 62 + 1 < N.1 61 then N.2.1 60 (N.1 62 + 1).toNatClampNeg &&& 255 else -1
def zc_step (N : zc_N) : zc_N := if ¬ N.1 62 < 0 ∧ N.1 62 < N.1 61 ∧ N.2.1 60 (N.1 62).toNatClampNeg = 10 then zc_s (zc_s (zc_s N 63 (N.1 63 + 1)) 64 (N.1 62 + 1)) 62 (N.1 62 + 1) else zc_s N 62 (N.1 62 + 1)
def zc_refuse (N : zc_N) : zc_N := zc_s N 65 1
def zc_refuseAt (N : zc_N) (q : Int32) : zc_N := zc_s (zc_s N 62 q) 65 1
def zc_rewind (N : zc_N) : zc_N := zc_s (zc_s (zc_s (zc_s N 62 0) 63 1) 64 0) 65 0
def zk_cutTo (N : zc_N) (n : Int32) : Int32 := if n < 0 ∨ N.1 61 < n then 0 else 1
def zc_cutTo (N : zc_N) (n : Int32) : zc_N := if n < 0 ∨ N.1 61 < n then N else zc_s N 61 n
def zc_makeRoom (N : zc_N) (q : Int32) : zc_N := if 65536 < N.1 61 + q then N else if nI (N.2.2.2 60) < N.1 61 + q then zc_g N 60 (2 * N.2.2.2 60) else N
def zk_makeRoom (N : zc_N) (q : Int32) : Int32 := if 65536 < N.1 61 + q then 0 else if nI ((zc_makeRoom N q).2.2.2 60) < N.1 61 + q then 0 else 1
def zk_byte (v k : Int32) : Int32 := vp_nar .byte ((v.toUInt32 >>> (k.toUInt32 &&& Int32.toUInt32 31)).toInt32).toInt8.toInt32
def zc_put (N : zc_N) (v : Int32) : zc_N := zc_s (zc_a N 60 (N.1 61) v) 61 (N.1 61 + 1)
def zc_four (N : zc_N) (v : Int32) : zc_N :=
  if N.1 61 < nI (N.2.2.2 60) then
    if N.1 61 + 1 < nI (N.2.2.2 60) then
      if N.1 61 + 1 + 1 < nI (N.2.2.2 60) then
        if N.1 61 + 1 + 1 + 1 < nI (N.2.2.2 60) then zc_put (zc_put (zc_put (zc_put N (zk_byte v 24)) (zk_byte v 16)) (zk_byte v 8)) (zk_byte v 0)
        else zc_put (zc_put (zc_put N (zk_byte v 24)) (zk_byte v 16)) (zk_byte v 8)
      else zc_put (zc_put N (zk_byte v 24)) (zk_byte v 16)
    else zc_put N (zk_byte v 24)
  else N
def zk_holds (lo hi : Int64) : Int32 := if 0 < lg_cmp lo 1114111 then 0 else if ¬ lg_cmp lo 55296 < 0 ∧ ¬ 0 < lg_cmp hi 57343 then 0 else 1
def zk_left (x : Int32) : Int32 := if ¬ x < 240 then 3 else if ¬ x < 224 then 2 else 1
def zk_least (k : Int32) : Int32 := if k = 3 then 65536 else if k = 2 then 2048 else 128
/-- the bytes behind the first one of a character: k of them, the code so far -/
def zk_low (c k : Int32) : Int32 := c <<< ((6 * (k - 1)) &&& 31)
def zk_high (c k : Int32) : Int32 := zk_low c k + ((1 : Int32) <<< ((6 * (k - 1)) &&& 31)) - 1
def zk_code (N : zc_N) (c : Int32) : Int32 := (c <<< ((6 : Int32) &&& 31)) ||| (zk_here N &&& 63)
abbrev zk_bad (N : zc_N) (q c k : Int32) : Prop := ¬ zk_here N &&& 192 = 128 ∨ zk_high (zk_code N c) k < q ∨ zk_holds (zk_low (zk_code N c) k).toInt64 (zk_high (zk_code N c) k).toInt64 = 0
def zk_more (q : Int32) : Nat → zc_N → Int32 → Int32
  | 0, _, c => c
  | k + 1, N, c => if zk_bad N q c (nI (k + 1)) then -1 else zk_more q k (zc_step N) (zk_code N c)
def zc_more (q : Int32) : Nat → zc_N → Int32 → zc_N
  | 0, N, _ => N
  | k + 1, N, c => if zk_bad N q c (nI (k + 1)) then zc_refuse N else zc_more q k (zc_step N) (zk_code N c)
def zk_char (N : zc_N) : Int32 :=
  if zk_here N < 128 then (if 0 < zk_here N then zk_here N else -1)
  else if zk_here N < 194 ∨ 244 < zk_here N then -1
  else zk_more (zk_least (zk_left (zk_here N))) (zk_left (zk_here N)).toNatClampNeg (zc_step N) (zk_here N &&& ((63 : Int32) >>> (zk_left (zk_here N) &&& 31)))
def zc_char (N : zc_N) : zc_N :=
  if zk_here N < 128 then (if 0 < zk_here N then zc_step N else zc_refuse N)
  else if zk_here N < 194 ∨ 244 < zk_here N then zc_refuse N
  else zc_more (zk_least (zk_left (zk_here N))) (zk_left (zk_here N)).toNatClampNeg (zc_step N) (zk_here N &&& ((63 : Int32) >>> (zk_left (zk_here N) &&& 31)))
-- signs of the text
def zk_isDigit (x : Int32) : Int32 := if x < 48 ∨ 57 < x then 0 else 1
def zk_isLetter (x : Int32) : Int32 := if (¬ x < 97 ∧ ¬ 122 < x) ∨ (¬ x < 65 ∧ ¬ 90 < x) ∨ x = 95 then 1 else 0
def zk_isPart (x : Int32) : Int32 := if ¬ zk_isLetter x = 0 ∨ ¬ zk_isDigit x = 0 then 1 else 0
def zk_worth (x : Int32) : Int32 := if ¬ x < 48 ∧ ¬ 57 < x then x - 48 else if ¬ x < 97 ∧ ¬ 102 < x then x - 97 + 10 else if ¬ x < 65 ∧ ¬ 70 < x then x - 65 + 10 else -1
def zk_digitOf (x b : Int32) : Int32 := if zk_worth x < b then zk_worth x else -1
-- ByteRow
def zc_append (N : zc_N) (v : Int32) : zc_N :=
  let N1 := if ¬ N.1 1 < nI (N.2.2.2 0) ∧ nI (N.2.2.2 0) < 65536 then zc_g N 0 (2 * N.2.2.2 0) else N
  if N1.1 1 < nI (N1.2.2.2 0) then zc_s (zc_a N1 0 (N1.1 1) (vp_nar .byte v.toInt8.toInt32)) 1 (N1.1 1 + 1) else N1
def zc_appendCode (N : zc_N) (c : Int32) : zc_N :=
  if c < 128 then zc_append N c else
  if c < 2048 then zc_append (zc_append N (192 ||| (c >>> ((6 : Int32) &&& 31)))) (128 ||| (c &&& 63)) else
  if c < 65536 then zc_append (zc_append (zc_append N (224 ||| (c >>> ((12 : Int32) &&& 31)))) (128 ||| ((c >>> ((6 : Int32) &&& 31)) &&& 63))) (128 ||| (c &&& 63)) else
  zc_append (zc_append (zc_append (zc_append N (240 ||| (c >>> ((18 : Int32) &&& 31)))) (128 ||| ((c >>> ((12 : Int32) &&& 31)) &&& 63))) (128 ||| ((c >>> ((6 : Int32) &&& 31)) &&& 63))) (128 ||| (c &&& 63))
def zk_byteAt (N : zc_N) (q : Int32) : Int32 := if ¬ q < 0 ∧ q < N.1 1 then N.2.1 0 q.toNatClampNeg &&& 255 else -1
def zk_equal (N : zc_N) (a b n : Int32) : Int32 := if ∀ i, i < n.toNatClampNeg → zk_byteAt N (a + nI i) = zk_byteAt N (b + nI i) then 1 else 0
-- Tokens
def zk_isFull (N : zc_N) : Int32 := if N.1 71 < 16384 then 0 else 1
def zc_tell (N : zc_N) (w v : Int32) : zc_N := if ¬ (N.1 71 - 1) * 11 + w < 0 ∧ (N.1 71 - 1) * 11 + w < nI (N.2.2.2 70) then zc_a N 70 ((N.1 71 - 1) * 11 + w) v else N
def zc_zero (N : zc_N) : zc_N := zc_tell (zc_tell (zc_tell (zc_tell (zc_tell (zc_tell (zc_tell (zc_tell (zc_tell (zc_tell (zc_tell N 0 0) 1 0) 2 0) 3 0) 4 0) 5 0) 6 0) 7 0) 8 0) 9 0) 10 0
def zc_more70 (N : zc_N) : zc_N := if nI (N.2.2.2 70) < (N.1 71 + 1) * 11 then zc_g N 70 (2 * N.2.2.2 70) else N
def zc_add (N : zc_N) (k : Int32) : zc_N :=
  let N1 := zc_more70 N
  zc_tell (zc_tell (zc_zero (zc_s N1 71 (N1.1 71 + 1))) 0 k) 6 (-1)
def zk_has (N : zc_N) (k : Int32) : Int32 := if k < 0 ∨ ¬ k < N.1 71 then 0 else 1
def zk_fact (N : zc_N) (k w : Int32) : Int32 := if ¬ zk_has N k = 0 ∧ ¬ w < 0 ∧ w < 11 then N.2.1 70 (k * 11 + w).toNatClampNeg else -1
def zk_byteOf (N : zc_N) (k i : Int32) : Int32 := if ¬ i < 0 ∧ i < zk_fact N k 8 then zk_byteAt N (zk_fact N k 9 + i) else -1
-- Names
def zk_first (N : zc_N) (n : Int32) : Int32 := if ¬ n < 0 ∧ n < N.1 24 ∧ n < nI (N.2.2.2 23) then N.2.1 23 n.toNatClampNeg else -1
def zc_fill (N : zc_N) : zc_N := (N.1, (fun b => if b = 20 then (fun k => if k < 512 then -1 else N.2.1 20 k) else N.2.1 b), N.2.2)
def zc_clearN (N : zc_N) : zc_N := if 0 < N.1 24 then zc_s (zc_fill N) 24 0 else zc_s N 24 0
def zc_clear (N : zc_N) : zc_N := zc_clearN (zc_s (zc_s N 71 0) 1 0)
def zc_grow3 (N : zc_N) : zc_N := if N.1 24 < nI (N.2.2.2 23) then N else zc_g (zc_g (zc_g N 21 (2 * N.2.2.2 23)) 22 (2 * N.2.2.2 23)) 23 (2 * N.2.2.2 23)
def zc_named (N : zc_N) (k hs : Int32) : zc_N :=
  let h := hs &&& 511
  zc_s (zc_a (zc_a (zc_a (zc_a N 23 (N.1 24) k) 22 (N.1 24) hs) 21 (N.1 24) (N.2.1 20 h.toNatClampNeg)) 20 h (N.1 24)) 24 (N.1 24 + 1)
abbrev zk_noroom (N : zc_N) : Prop := ¬ N.1 24 < nI (N.2.2.2 23) ∨ ¬ N.1 24 < nI (N.2.2.2 22) ∨ ¬ N.1 24 < nI (N.2.2.2 21)
def zc_addN (N : zc_N) (k hs : Int32) : zc_N := if zk_noroom (zc_grow3 N) then zc_grow3 N else zc_named (zc_grow3 N) k hs
def zk_addN (N : zc_N) : Int32 := if zk_noroom (zc_grow3 N) then -1 else N.1 24 + 1 - 1
abbrev zk_hit (N : zc_N) (fr ln hs n : Int32) : Prop := N.2.1 22 n.toNatClampNeg = hs ∧ zk_fact N (zk_first N n) 8 = ln ∧ ¬ zk_equal N (zk_fact N (zk_first N n) 9) fr ln = 0
def zk_find (N : zc_N) (fr ln hs : Int32) : Nat → Int32 → Int32
  | 0, _ => -1
  | k + 1, n => if ¬ n < 0 ∧ n < nI (N.2.2.2 22) ∧ n < nI (N.2.2.2 21) then (if zk_hit N fr ln hs n then n else zk_find N fr ln hs k (N.2.1 21 n.toNatClampNeg)) else -1
def zk_found (N : zc_N) (k hs : Int32) : Int32 := zk_find N (zk_fact N k 9) (zk_fact N k 8) hs (N.1 24).toNatClampNeg (N.2.1 20 (hs &&& 511).toNatClampNeg)
def zk_number (N : zc_N) (k hs : Int32) : Int32 := if zk_found N k hs < 0 then zk_addN N else zk_found N k hs
def zc_number (N : zc_N) (k hs : Int32) : zc_N := if zk_found N k hs < 0 then zc_addN N k hs else N
-- Scanner
def zc_mark (N : zc_N) : zc_N := zc_s (zc_s (zc_s (zc_s N 54 (N.1 62)) 55 (N.1 63)) 56 (N.1 62 - N.1 64 + 1)) 57 (N.1 1)
def zk_ends (k : Int32) : Int32 := if k = 1 ∨ k = 2 ∨ k = 3 ∨ k = 4 ∨ k = 5 ∨ k = 10 ∨ k = 14 ∨ k = 18 ∨ k = 29 ∨ k = 65 ∨ k = 66 ∨ k = 79 ∨ k = 81 ∨ k = 83 then 1 else 0
def zc_from1 (N : zc_N) (n : Int32) : zc_N := zc_tell (zc_tell (zc_tell (zc_tell (zc_tell N 1 (N.1 54)) 2 (N.1 55)) 3 (N.1 56)) 4 n) 9 (N.1 57)
def zc_from2 (N : zc_N) (k : Int32) : zc_N := zc_s (zc_tell N 8 (N.1 1 - N.1 57)) 58 (zk_ends k)
def zc_from (N : zc_N) (k n : Int32) : zc_N := zc_from2 (zc_from1 (zc_add N k) n) k
def zc_endLine (N : zc_N) : zc_N := if N.1 58 = 0 then N else if zk_isFull N = 0 then zc_tell (zc_from N 85 0) 5 1 else zc_refuseAt N (N.1 54)
def zk_endLine (N : zc_N) : Int32 := if N.1 58 = 0 then 1 else if zk_isFull N = 0 then 1 else 0
def zc_putT (N : zc_N) (k : Int32) : zc_N := zc_from N k (N.1 62 - N.1 54)
def zc_begin (N : zc_N) : zc_N := zc_s (zc_rewind (zc_clear N)) 58 0
def zk_goes (N : zc_N) : Int32 := if N.1 65 = 0 ∧ ¬ zk_here N = -1 then 1 else 0
/-- what holds of N between any two calls: lengths, what is used of the rows, bytes that are bytes -/
def zc_I (N : zc_N) : Prop := ((∃ a : Nat, a ≤ 8 ∧ N.2.2.2 60 = 256 * 2 ^ a) ∧ (∃ a : Nat, a ≤ 8 ∧ N.2.2.2 0 = 256 * 2 ^ a) ∧ (∃ a : Nat, a ≤ 8 ∧ N.2.2.2 70 = 704 * 2 ^ a) ∧ (∃ a : Nat, a ≤ 9 ∧ N.2.2.2 21 = 32 * 2 ^ a ∧ N.2.2.2 22 = 32 * 2 ^ a ∧ N.2.2.2 23 = 32 * 2 ^ a)) ∧ (∃ z : Nat, N.1 61 = nI z ∧ z ≤ N.2.2.2 60) ∧ (∃ t : Nat, N.1 71 = nI t ∧ t * 11 ≤ N.2.2.2 70 ∧ t ≤ 16384) ∧ (∃ u : Nat, N.1 1 = nI u ∧ u ≤ N.2.2.2 0) ∧ (∃ k t : Nat, N.1 24 = nI k ∧ N.1 71 = nI t ∧ k ≤ t ∧ t ≤ 16384 ∧ k ≤ N.2.2.2 23) ∧ (∃ v : Nat, N.1 12 = nI v ∧ v ≤ 16) ∧ (∀ i : Nat, fits .byte (.int (N.2.1 0 i)) = true) ∧ (∀ i : Nat, fits .byte (.int (N.2.1 60 i)) = true)
theorem z_pw {a b : Nat} (h : a ≤ b) : 2 ^ a ≤ 2 ^ b := Nat.pow_le_pow_right (by decide) h
theorem zc_L_le {N : zc_N} (h : zc_I N) : zc_L N ≤ 360448 := by
  obtain ⟨⟨⟨a, a1, a2⟩, ⟨b, b1, b2⟩, ⟨c, c1, c2⟩, ⟨d, d1, d2, d3, d4⟩⟩, -⟩ := h
  have ha := z_pw a1
  have hb := z_pw b1
  have hc := z_pw c1
  have hd := z_pw d1
  have e8 : (2 : Nat) ^ 8 = 256 := rfl
  have e9 : (2 : Nat) ^ 9 = 512 := rfl
  unfold zc_L
  rw [a2, b2, c2, d2, d3, d4]
  omega
/-- what is used of a row lies in it -/
theorem zk_in {x : Int32} {u n : Nat} (h0 : ¬ x < 0) (h : x < nI u) (hu : u ≤ n) (hn : n ≤ 400000) : vp_in x n := by
  obtain ⟨j, hj, rfl⟩ := nI_of h0
  have h1 : j < u := (nI_ltI hj (by omega)).mp h
  exact vp_in_nI (by omega) (by omega)
theorem zc_len {N : zc_N} (h : zc_I N) (a : Nat) (ha : a = 0 ∨ a = 21 ∨ a = 22 ∨ a = 23 ∨ a = 60 ∨ a = 70) : 1 ≤ N.2.2.2 a ∧ N.2.2.2 a ≤ 200000 := by
  obtain ⟨⟨⟨a9, a1, a2⟩, ⟨b, b1, b2⟩, ⟨c, c1, c2⟩, ⟨d, d1, d2, d3, d4⟩⟩, -⟩ := h
  have ha1 := z_pw a1
  have hb := z_pw b1
  have hc := z_pw c1
  have hd := z_pw d1
  have e8 : (2 : Nat) ^ 8 = 256 := rfl
  have e9 : (2 : Nat) ^ 9 = 512 := rfl
  have p1 := Nat.two_pow_pos a9
  have p2 := Nat.two_pow_pos b
  have p3 := Nat.two_pow_pos c
  have p4 := Nat.two_pow_pos d
  rcases ha with rfl | rfl | rfl | rfl | rfl | rfl
  · rw [b2]; omega
  · rw [d2]; omega
  · rw [d3]; omega
  · rw [d4]; omega
  · rw [a2]; omega
  · rw [c2]; omega
