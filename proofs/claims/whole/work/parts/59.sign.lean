/-! Signs: both tables. -/
abbrev zw_P1 : List (Int32 × Int32) := [(43, 0), (45, 1), (42, 2), (47, 3), (37, 4), (38, 5), (124, 6), (94, 7), (60, 28), (62, 29), (61, 30), (33, 31), (126, 32), (40, 38), (41, 39), (91, 40), (93, 41), (123, 42), (125, 43), (44, 44), (59, 45), (46, 46), (58, 47)]
abbrev zw_P2 : List (Int32 × Int32) := [(60, 60), (62, 62), (38, 94), (43, 61), (45, 61), (42, 61), (47, 61), (37, 61), (38, 61), (124, 61), (94, 61), (38, 38), (124, 124), (60, 45), (43, 43), (45, 45), (61, 61), (33, 61), (60, 61), (62, 61), (58, 61)]
abbrev zw_P3 : List (Int32 × Int32 × Int32) := [(60, 60, 61), (62, 62, 61), (38, 94, 61), (46, 46, 46)]
def zw_f1 (x : Int32) : Nat → Int32 := fun _ => x
def zw_f2 (x y : Int32) : Nat → Int32 := fun j => if j = 0 then x else y
def zw_f3 (x y z : Int32) : Nat → Int32 := fun j => if j = 0 then x else if j = 1 then y else z
def zw_s2 (x y : Int32) : Int32 := zw_find zw_signs (zw_f2 x y) (nI 2) 0
def zw_s3 (x y z : Int32) : Int32 := zw_find zw_signs (zw_f3 x y z) (nI 3) 0
def zw_s1 (x : Int32) : Int32 := zw_find zw_signs (zw_f1 x) (nI 1) 0
theorem zw_find_no {f : Nat → Int32} {m : Nat} : ∀ (L : List (List Int32)) (i : Int32), (∀ w ∈ L, w.length < 100) → m < 100 → (∀ w ∈ L, w.length = m → ¬ ∀ j, j < w.length → w.getD j 0 = f j) → zw_find L f (nI m) i = -1 := by
  intro L
  induction L with
  | nil => intro i _ _ _; rfl
  | cons w L ih =>
    intro i hL hm hn
    show (if nI w.length = nI m ∧ ∀ j, j < w.length → w.getD j 0 = f j then i else zw_find L f (nI m) (i + 1)) = -1
    have hw := hL w (List.mem_cons_self ..)
    rw [if_neg]
    · exact ih _ (fun x hx => hL x (List.mem_cons_of_mem _ hx)) hm fun x hx => hn x (List.mem_cons_of_mem _ hx)
    · rintro ⟨h1, h2⟩
      exact hn w (List.mem_cons_self ..) (z_injC (by omega) (by omega) h1) h2
theorem zw_s2_no {x y : Int32} (h : (x, y) ∉ zw_P2) : zw_s2 x y = -1 := by
  refine zw_find_no zw_signs 0 (by decide) (by decide) fun w hw hl h2 => h ?_
  have e0 : w.getD 0 0 = x := h2 0 (by omega)
  have e1 : w.getD 1 0 = y := h2 1 (by omega)
  have : ∀ w ∈ zw_signs, w.length = 2 → (w.getD 0 0, w.getD 1 0) ∈ zw_P2 := by decide +kernel
  rw [← e0, ← e1]
  exact this w hw hl
theorem zw_s3_no {x y z : Int32} (h : (x, y, z) ∉ zw_P3) : zw_s3 x y z = -1 := by
  refine zw_find_no zw_signs 0 (by decide) (by decide) fun w hw hl h2 => h ?_
  have e0 : w.getD 0 0 = x := h2 0 (by omega)
  have e1 : w.getD 1 0 = y := h2 1 (by omega)
  have e2 : w.getD 2 0 = z := h2 2 (by omega)
  have : ∀ w ∈ zw_signs, w.length = 3 → (w.getD 0 0, w.getD 1 0, w.getD 2 0) ∈ zw_P3 := by decide +kernel
  rw [← e0, ← e1, ← e2]
  exact this w hw hl
theorem zw_s4_no {f : Nat → Int32} : zw_find zw_signs f (nI 4) 0 = -1 := by
  refine zw_find_no zw_signs 0 (by decide) (by decide) fun w hw hl h2 => ?_
  have : ∀ w ∈ zw_signs, ¬ w.length = 4 := by decide +kernel
  exact this w hw hl
theorem zw_one : ∀ v : Nat, v < 256 → (zk_one (nI v) = -1 ∧ zw_s1 (nI v) = -1) ∨ (¬ zk_one (nI v) = -1 ∧ v < 128 ∧ 0 < v ∧ ¬ zw_s1 (nI v) < 0 ∧ zk_one (nI v) = 40 + zw_s1 (nI v) ∧ ¬ zk_one (nI v) = 2 ∧ ¬ zk_one (nI v) = 4) := by decide +kernel
theorem zw_two : ∀ p ∈ zw_P2, ¬ zw_s2 p.1 p.2 < 0 ∧ zk_two ((p.1 <<< ((8 : Int32) &&& 31)) ||| (p.2 &&& 255)) = 40 + zw_s2 p.1 p.2 ∧ ¬ 40 + zw_s2 p.1 p.2 = -1 ∧ ¬ 40 + zw_s2 p.1 p.2 = 2 ∧ ¬ 40 + zw_s2 p.1 p.2 = 4 := by decide +kernel
theorem zw_three : ∀ p ∈ zw_P3, ¬ zw_s3 p.1 p.2.1 p.2.2 < 0 ∧ zk_three ((((p.1 <<< ((8 : Int32) &&& 31)) ||| (p.2.1 &&& 255)) <<< ((8 : Int32) &&& 31)) ||| (p.2.2 &&& 255)) = 40 + zw_s3 p.1 p.2.1 p.2.2 ∧ ¬ 40 + zw_s3 p.1 p.2.1 p.2.2 = -1 ∧ ¬ 40 + zw_s3 p.1 p.2.1 p.2.2 = 2 ∧ ¬ 40 + zw_s3 p.1 p.2.1 p.2.2 = 4 ∧ (p.1 = 46 ∨ (p.1, p.2.1) ∈ zw_P2) := by decide +kernel
theorem zk_two_no {m : Nat} (hm : m < 65536) (h : ¬ zk_two (nI m) = -1) : m ∈ [8509, 9533, 9766, 9789, 9822, 10813, 11051, 11069, 11565, 11581, 12093, 14909, 15405, 15420, 15421, 15677, 15933, 15934, 24125, 31805, 31868] := by
  have key : ∀ c : Nat, c < 65536 → nI m = nI c → m = c := fun c hc e => z_injC (by omega) (by omega) e
  apply Decidable.byContradiction
  intro hn
  apply h
  simp only [List.mem_cons, not_or, List.not_mem_nil] at hn
  obtain ⟨h1, h2, h3, h4, h5, h6, h7, h8, h9, h10, h11, h12, h13, h14, h15, h16, h17, h18, h19, h20, h21, -⟩ := hn
  unfold zk_two
  rw [if_neg (show ¬ nI m = 8509 from fun e => h1 (key 8509 (by decide) e)), if_neg (show ¬ nI m = 9533 from fun e => h2 (key 9533 (by decide) e)), if_neg (show ¬ nI m = 9766 from fun e => h3 (key 9766 (by decide) e)), if_neg (show ¬ nI m = 9789 from fun e => h4 (key 9789 (by decide) e)), if_neg (show ¬ nI m = 9822 from fun e => h5 (key 9822 (by decide) e)), if_neg (show ¬ nI m = 10813 from fun e => h6 (key 10813 (by decide) e)), if_neg (show ¬ nI m = 11051 from fun e => h7 (key 11051 (by decide) e)), if_neg (show ¬ nI m = 11069 from fun e => h8 (key 11069 (by decide) e)), if_neg (show ¬ nI m = 11565 from fun e => h9 (key 11565 (by decide) e)), if_neg (show ¬ nI m = 11581 from fun e => h10 (key 11581 (by decide) e)), if_neg (show ¬ nI m = 12093 from fun e => h11 (key 12093 (by decide) e)), if_neg (show ¬ nI m = 14909 from fun e => h12 (key 14909 (by decide) e)), if_neg (show ¬ nI m = 15405 from fun e => h13 (key 15405 (by decide) e)), if_neg (show ¬ nI m = 15420 from fun e => h14 (key 15420 (by decide) e)), if_neg (show ¬ nI m = 15421 from fun e => h15 (key 15421 (by decide) e)), if_neg (show ¬ nI m = 15677 from fun e => h16 (key 15677 (by decide) e)), if_neg (show ¬ nI m = 15933 from fun e => h17 (key 15933 (by decide) e)), if_neg (show ¬ nI m = 15934 from fun e => h18 (key 15934 (by decide) e)), if_neg (show ¬ nI m = 24125 from fun e => h19 (key 24125 (by decide) e)), if_neg (show ¬ nI m = 31805 from fun e => h20 (key 31805 (by decide) e)), if_neg (show ¬ nI m = 31868 from fun e => h21 (key 31868 (by decide) e))]
theorem zk_three_no {m : Nat} (hm : m < 16777216) (h : ¬ zk_three (nI m) = -1) : m ∈ [2514493, 3026478, 3947581, 4079165] := by
  have key : ∀ c : Nat, c < 16777216 → nI m = nI c → m = c := fun c hc e => z_injC (by omega) (by omega) e
  apply Decidable.byContradiction
  intro hn
  apply h
  simp only [List.mem_cons, not_or, List.not_mem_nil] at hn
  obtain ⟨h1, h2, h3, h4, -⟩ := hn
  unfold zk_three
  rw [if_neg (show ¬ nI m = 2514493 from fun e => h1 (key 2514493 (by decide) e)), if_neg (show ¬ nI m = 3026478 from fun e => h2 (key 3026478 (by decide) e)), if_neg (show ¬ nI m = 3947581 from fun e => h3 (key 3947581 (by decide) e)), if_neg (show ¬ nI m = 4079165 from fun e => h4 (key 4079165 (by decide) e))]
/-- a byte behind others -/
theorem zq_or8 (m w : Nat) (hm : m < 65536) (hw : w < 256) : (nI m <<< ((8 : Int32) &&& 31)) ||| (nI w &&& 255) = nI (m * 256 + w) := by
  have e1 : nI m <<< ((8 : Int32) &&& 31) = nI (m * 2 ^ 8) := pk_shlN _ 8 (by decide) (by omega)
  have e2 : nI w &&& 255 = nI w := by
    rw [pk_andN (by omega) 8 (by decide), Nat.mod_eq_of_lt (by omega)]
  rw [e1, e2]
  apply Int32.toBitVec_inj.mp
  rw [Int32.toBitVec_or]
  apply BitVec.eq_of_toNat_eq
  rw [BitVec.toNat_or]
  have t1 : (nI (m * 2 ^ 8)).toBitVec.toNat = m * 2 ^ 8 := pk_tn (by omega)
  have t2 : (nI w).toBitVec.toNat = w := pk_tn (by omega)
  have t3 : (nI (m * 256 + w)).toBitVec.toNat = m * 256 + w := pk_tn (by omega)
  rw [t1, t2, t3]
  have := Nat.two_pow_add_eq_or_of_lt (i := 8) (b := w) (by omega) m
  rw [Nat.mul_comm m (2 ^ 8), ← this]
theorem zq_m1_255 : (-1 : Int32) &&& 255 = nI 255 := by decide
theorem zk_two_at {v w : Nat} (hv : v < 256) (hw : w < 256) (y : Int32) (hy : y &&& 255 = nI w) (hy2 : y = nI w ∨ y = -1) (h : (nI v, y) ∉ zw_P2) : zk_two ((nI v <<< ((8 : Int32) &&& 31)) ||| (y &&& 255)) = -1 := by
  have e0 : nI w &&& 255 = nI w := by rw [pk_andN (by omega) 8 (by decide), Nat.mod_eq_of_lt (by omega)]
  have e1 : (nI v <<< ((8 : Int32) &&& 31)) ||| (y &&& 255) = nI (v * 256 + w) := by
    rw [hy, ← e0]
    exact zq_or8 v w (by omega) hw
  rw [e1]
  apply Decidable.byContradiction
  intro c
  have hmem := zk_two_no (by omega) c
  rcases hy2 with e | e
  · have : ∀ m ∈ [8509, 9533, 9766, 9789, 9822, 10813, 11051, 11069, 11565, 11581, 12093, 14909, 15405, 15420, 15421, 15677, 15933, 15934, 24125, 31805, 31868], (nI (m / 256), nI (m % 256)) ∈ zw_P2 := by decide +kernel
    have q := this _ hmem
    rw [show (v * 256 + w) / 256 = v from by omega, show (v * 256 + w) % 256 = w from by omega] at q
    rw [e] at h
    exact h q
  · have hw2 : w = 255 := by
      rw [e, zq_m1_255] at hy
      exact (z_injC (by omega) (by omega) hy).symm
    have : ∀ m ∈ [8509, 9533, 9766, 9789, 9822, 10813, 11051, 11069, 11565, 11581, 12093, 14909, 15405, 15420, 15421, 15677, 15933, 15934, 24125, 31805, 31868], ¬ m % 256 = 255 := by decide +kernel
    exact this _ hmem (by omega)
theorem zk_three_at {v w r : Nat} (hv : v < 256) (hw : w < 256) (hr : r < 256) (y z : Int32) (hy : y &&& 255 = nI w) (hz : z &&& 255 = nI r) (hy2 : y = nI w ∨ y = -1) (hz2 : z = nI r ∨ z = -1) (h : (nI v, y, z) ∉ zw_P3) : zk_three ((((nI v <<< ((8 : Int32) &&& 31)) ||| (y &&& 255)) <<< ((8 : Int32) &&& 31)) ||| (z &&& 255)) = -1 := by
  have e0 : ∀ w : Nat, w < 256 → nI w &&& 255 = nI w := fun w hw => by rw [pk_andN (by omega) 8 (by decide), Nat.mod_eq_of_lt (by omega)]
  have e1 : (nI v <<< ((8 : Int32) &&& 31)) ||| (y &&& 255) = nI (v * 256 + w) := by
    rw [hy, ← e0 w hw]
    exact zq_or8 v w (by omega) hw
  have e2 : (nI (v * 256 + w) <<< ((8 : Int32) &&& 31)) ||| (z &&& 255) = nI ((v * 256 + w) * 256 + r) := by
    rw [hz, ← e0 r hr]
    exact zq_or8 _ r (by omega) hr
  rw [e1, e2]
  apply Decidable.byContradiction
  intro c
  have hmem := zk_three_no (by omega) c
  have a1 : ∀ m ∈ [2514493, 3026478, 3947581, 4079165], (nI (m / 65536), nI (m / 256 % 256), nI (m % 256)) ∈ zw_P3 ∧ ¬ m % 256 = 255 ∧ ¬ m / 256 % 256 = 255 := by decide +kernel
  obtain ⟨q1, q2, q3⟩ := a1 _ hmem
  rw [show ((v * 256 + w) * 256 + r) / 65536 = v from by omega, show ((v * 256 + w) * 256 + r) / 256 % 256 = w from by omega, show ((v * 256 + w) * 256 + r) % 256 = r from by omega] at q1
  rw [show ((v * 256 + w) * 256 + r) % 256 = r from by omega] at q2
  rw [show ((v * 256 + w) * 256 + r) / 256 % 256 = w from by omega] at q3
  rcases hy2 with e | e
  · rcases hz2 with e' | e'
    · rw [e, e'] at h
      exact h q1
    · rw [e', zq_m1_255] at hz
      exact q2 (z_injC (by omega) (by omega) hz).symm
  · rw [e, zq_m1_255] at hy
    exact q3 (z_injC (by omega) (by omega) hy).symm
theorem zq_x255 {T : Nat → Int32} {n i : Nat} (hT : zq_T T n) : ∃ w : Nat, w < 256 ∧ zq_x T n i &&& 255 = nI w ∧ (zq_x T n i = nI w ∨ zq_x T n i = -1) := by
  rcases Nat.lt_or_ge i n with q | q
  · obtain ⟨v, v1, -, v3⟩ := zq_xv hT q
    exact ⟨v, v1, by rw [v3, pk_andN (by omega) 8 (by decide), Nat.mod_eq_of_lt (by omega)], Or.inl v3⟩
  · exact ⟨255, by decide, by rw [zq_xe q]; decide, Or.inr (zq_xe q)⟩
