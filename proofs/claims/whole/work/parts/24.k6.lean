-- runes and strings
def zk_plain (x : Int32) : Int32 := if x = 97 then 7 else if x = 98 then 8 else if x = 102 then 12 else if x = 110 then 10 else if x = 114 then 13 else if x = 116 then 9 else if x = 118 then 11 else if x = 92 then 92 else -1
def zk_plainQ (x q : Int32) : Int32 := if x = q then q else zk_plain x
def zk_bytes (b : Int32) : Nat → zc_N → Int32 → Int32
  | 0, _, v => v
  | k + 1, N, v => if zk_digitOf (zk_here N) b = -1 then -1 else zk_bytes b k (zc_step N) (v * b + zk_digitOf (zk_here N) b)
def zc_bytes (b : Int32) : Nat → zc_N → zc_N
  | 0, N => N
  | k + 1, N => if zk_digitOf (zk_here N) b = -1 then zc_refuse N else zc_bytes b k (zc_step N)
theorem zk_bytes_s {b v : Int32} {k j : Nat} {N : zc_N} (h : k = j + 1) : zk_bytes b k N v = if zk_digitOf (zk_here N) b = -1 then -1 else zk_bytes b j (zc_step N) (v * b + zk_digitOf (zk_here N) b) := by
  subst h
  rfl
theorem zc_bytes_s {b : Int32} {k j : Nat} {N : zc_N} (h : k = j + 1) : zc_bytes b k N = if zk_digitOf (zk_here N) b = -1 then zc_refuse N else zc_bytes b j (zc_step N) := by
  subst h
  rfl
def zk_byteV (N : zc_N) (b : Int32) (n : Nat) : Int32 := zk_bytes b n (zc_s N 42 1) 0
def zc_byteV (N : zc_N) (b : Int32) (n : Nat) : zc_N := zc_bytes b n (zc_s N 42 1)
theorem zi_42 {X : zc_N} {v : Int32} (hI : zc_I X) : zc_I (zc_s X 42 v) := hI
theorem zL_42 {X : zc_N} {v : Int32} : zc_L (zc_s X 42 v) = zc_L X := rfl
theorem zi_bytes (b : Int32) : ∀ (k : Nat) {N : zc_N}, zc_I N → zc_I (zc_bytes b k N) := by
  intro k
  induction k with
  | zero => intro N h; exact h
  | succ k ih =>
    intro N h
    rw [zc_bytes_s rfl]
    split
    · exact zi_refuse h
    · exact ih (zi_step h)
theorem zL_bytes (b : Int32) : ∀ (k : Nat) {N : zc_N}, zc_L (zc_bytes b k N) = zc_L N := by
  intro k
  induction k with
  | zero => intro N; rfl
  | succ k ih =>
    intro N
    rw [zc_bytes_s rfl]
    split
    · rfl
    · rw [ih, zL_step]
theorem zi_byteV {N : zc_N} (hI : zc_I N) (b : Int32) (n : Nat) : zc_I (zc_byteV N b n) := zi_bytes b n (zi_42 hI)
theorem zL_byteV {N : zc_N} {b : Int32} {n : Nat} : zc_L (zc_byteV N b n) = zc_L N := by
  unfold zc_byteV
  rw [zL_bytes, zL_42]
def zk_cv (N : zc_N) (v : Int64) : Int64 := v * 16 + (zk_digitOf (zk_here N) 16).toInt64
def zk_clo (v : Int64) (k : Nat) : Int64 := v <<< ((4 * nI k).toInt64 &&& 63)
def zk_chi (v : Int64) (k : Nat) : Int64 := zk_clo v k + ((1 : Int64) <<< ((4 * nI k).toInt64 &&& 63)) - 1
abbrev zk_cbad (N : zc_N) (v : Int64) (k : Nat) : Prop := zk_digitOf (zk_here N) 16 = -1 ∨ zk_holds (zk_clo (zk_cv N v) k) (zk_chi (zk_cv N v) k) = 0
def zk_codes : Nat → zc_N → Int64 → Int32
  | 0, _, v => v.toInt32
  | k + 1, N, v => if zk_cbad N v k then -1 else zk_codes k (zc_step N) (zk_cv N v)
def zc_codes : Nat → zc_N → Int64 → zc_N
  | 0, N, _ => N
  | k + 1, N, v => if zk_cbad N v k then zc_refuse N else zc_codes k (zc_step N) (zk_cv N v)
theorem zk_codes_s {k j : Nat} {N : zc_N} {v : Int64} (h : k = j + 1) : zk_codes k N v = if zk_cbad N v j then -1 else zk_codes j (zc_step N) (zk_cv N v) := by
  subst h
  rfl
theorem zc_codes_s {k j : Nat} {N : zc_N} {v : Int64} (h : k = j + 1) : zc_codes k N v = if zk_cbad N v j then zc_refuse N else zc_codes j (zc_step N) (zk_cv N v) := by
  subst h
  rfl
theorem zi_codes : ∀ (k : Nat) {N : zc_N} (v : Int64), zc_I N → zc_I (zc_codes k N v) := by
  intro k
  induction k with
  | zero => intro N v h; exact h
  | succ k ih =>
    intro N v h
    rw [zc_codes_s rfl]
    split
    · exact zi_refuse h
    · exact ih _ (zi_step h)
theorem zL_codes : ∀ (k : Nat) {N : zc_N} (v : Int64), zc_L (zc_codes k N v) = zc_L N := by
  intro k
  induction k with
  | zero => intro N v; rfl
  | succ k ih =>
    intro N v
    rw [zc_codes_s rfl]
    split
    · rfl
    · rw [ih, zL_step]
def zk_ud (x : Int32) : Nat := if x = 117 then 4 else 8
def zk_esc (N : zc_N) (q : Int32) : Int32 :=
  if ¬ zk_plainQ (zk_here N) q = -1 then zk_plainQ (zk_here N) q else
  if ¬ zk_here N < 48 ∧ ¬ 51 < zk_here N then zk_byteV N 8 3 else
  if ¬ zk_here N = 120 ∧ ¬ zk_here N = 117 ∧ ¬ zk_here N = 85 then -1 else
  if zk_here N = 120 then zk_byteV (zc_step N) 16 2 else zk_codes (zk_ud (zk_here N)) (zc_step N) 0
def zc_esc (N : zc_N) (q : Int32) : zc_N :=
  if ¬ zk_plainQ (zk_here N) q = -1 then zc_step N else
  if ¬ zk_here N < 48 ∧ ¬ 51 < zk_here N then zc_byteV N 8 3 else
  if ¬ zk_here N = 120 ∧ ¬ zk_here N = 117 ∧ ¬ zk_here N = 85 then zc_refuse N else
  if zk_here N = 120 then zc_byteV (zc_step N) 16 2 else zc_codes (zk_ud (zk_here N)) (zc_step N) 0
theorem zi_esc {N : zc_N} (hI : zc_I N) (q : Int32) : zc_I (zc_esc N q) := by
  unfold zc_esc
  split
  · exact zi_step hI
  · split
    · exact zi_byteV hI _ _
    · split
      · exact zi_refuse hI
      · split
        · exact zi_byteV (zi_step hI) _ _
        · exact zi_codes _ _ (zi_step hI)
theorem zL_esc {N : zc_N} {q : Int32} : zc_L (zc_esc N q) = zc_L N := by
  unfold zc_esc
  split
  · exact zL_step
  · split
    · exact zL_byteV
    · split
      · rfl
      · split
        · rw [zL_byteV, zL_step]
        · rw [zL_codes, zL_step]
def zk_rchar (N : zc_N) (q : Int32) : Int32 :=
  if zk_here N = 92 then zk_esc (zc_step (zc_s N 42 0)) q else if zk_here N = q ∨ zk_here N = 10 then -1 else zk_char (zc_s N 42 0)
def zc_rchar (N : zc_N) (q : Int32) : zc_N :=
  if zk_here N = 92 then zc_esc (zc_step (zc_s N 42 0)) q else if zk_here N = q ∨ zk_here N = 10 then zc_refuse (zc_s N 42 0) else zc_char (zc_s N 42 0)
theorem zi_rchar {N : zc_N} (hI : zc_I N) (q : Int32) : zc_I (zc_rchar N q) := by
  unfold zc_rchar
  split
  · exact zi_esc (zi_step (zi_42 hI)) _
  · split
    · exact zi_refuse (zi_42 hI)
    · exact zi_char (zi_42 hI)
theorem zL_rchar {N : zc_N} {q : Int32} : zc_L (zc_rchar N q) = zc_L N := by
  unfold zc_rchar
  split
  · rw [zL_esc, zL_step, zL_42]
  · split
    · rfl
    · rw [zL_char, zL_42]
def zk_rune (N : zc_N) : Int32 :=
  if zk_rchar (zc_step N) 39 = -1 then -1 else if zk_here (zc_rchar (zc_step N) 39) = 39 then zk_rchar (zc_step N) 39 else -1
def zc_rune (N : zc_N) : zc_N :=
  if zk_rchar (zc_step N) 39 = -1 then zc_rchar (zc_step N) 39 else if zk_here (zc_rchar (zc_step N) 39) = 39 then zc_step (zc_rchar (zc_step N) 39) else zc_refuse (zc_rchar (zc_step N) 39)
theorem zi_rune {N : zc_N} (hI : zc_I N) : zc_I (zc_rune N) := by
  unfold zc_rune
  split
  · exact zi_rchar (zi_step hI) _
  · split
    · exact zi_step (zi_rchar (zi_step hI) _)
    · exact zi_refuse (zi_rchar (zi_step hI) _)
theorem zL_rune {N : zc_N} : zc_L (zc_rune N) = zc_L N := by
  unfold zc_rune
  split
  · rw [zL_rchar, zL_step]
  · split
    · rw [zL_step, zL_rchar, zL_step]
    · rw [zL_refuse, zL_rchar, zL_step]
/-- a string's character kept -/
def zc_kept (N : zc_N) : zc_N := if (zc_rchar N 34).1 42 = 0 then zc_appendCode (zc_rchar N 34) (zk_rchar N 34) else zc_append (zc_rchar N 34) (zk_rchar N 34)
def zk_str : Nat → zc_N → Int32
  | 0, _ => 1
  | k + 1, N => if zk_here N = 34 then 1 else if zk_rchar N 34 = -1 then 0 else zk_str k (zc_kept N)
def zc_str : Nat → zc_N → zc_N
  | 0, N => zc_step N
  | k + 1, N => if zk_here N = 34 then zc_step N else if zk_rchar N 34 = -1 then zc_rchar N 34 else zc_str k (zc_kept N)
theorem zk_str_s {k j : Nat} {N : zc_N} (h : k = j + 1) : zk_str k N = if zk_here N = 34 then 1 else if zk_rchar N 34 = -1 then 0 else zk_str j (zc_kept N) := by
  subst h
  rfl
theorem zc_str_s {k j : Nat} {N : zc_N} (h : k = j + 1) : zc_str k N = if zk_here N = 34 then zc_step N else if zk_rchar N 34 = -1 then zc_rchar N 34 else zc_str j (zc_kept N) := by
  subst h
  rfl
theorem zi_kept {N : zc_N} (hI : zc_I N) : zc_I (zc_kept N) := by
  unfold zc_kept
  split
  · exact zi_appendCode (zi_rchar hI _) _
  · exact zi_append (zi_rchar hI _) _
theorem zl_kept {N : zc_N} : zc_L N ≤ zc_L (zc_kept N) := by
  unfold zc_kept
  split
  · exact Nat.le_trans (Nat.le_of_eq zL_rchar.symm) (zl_appendCode _)
  · exact Nat.le_trans (Nat.le_of_eq zL_rchar.symm) (zl_append _)
theorem zi_str : ∀ (k : Nat) {N : zc_N}, zc_I N → zc_I (zc_str k N) := by
  intro k
  induction k with
  | zero => intro N h; exact zi_step h
  | succ k ih =>
    intro N h
    rw [zc_str_s rfl]
    split
    · exact zi_step h
    · split
      · exact zi_rchar h _
      · exact ih (zi_kept h)
theorem zl_str : ∀ (k : Nat) {N : zc_N}, zc_L N ≤ zc_L (zc_str k N) := by
  intro k
  induction k with
  | zero => intro N; exact Nat.le_of_eq zL_step.symm
  | succ k ih =>
    intro N
    rw [zc_str_s rfl]
    split
    · exact Nat.le_of_eq zL_step.symm
    · split
      · exact Nat.le_of_eq zL_rchar.symm
      · exact Nat.le_trans zl_kept ih
/-- a character of a raw string kept -/
def zc_keptR (N : zc_N) : zc_N := if zk_char N = 13 then zc_char N else zc_appendCode (zc_char N) (zk_char N)
def zk_raw : Nat → zc_N → Int32
  | 0, _ => 1
  | k + 1, N => if zk_here N = 96 then 1 else if zk_char N = -1 then 0 else zk_raw k (zc_keptR N)
def zc_raw : Nat → zc_N → zc_N
  | 0, N => zc_step N
  | k + 1, N => if zk_here N = 96 then zc_step N else if zk_char N = -1 then zc_char N else zc_raw k (zc_keptR N)
theorem zk_raw_s {k j : Nat} {N : zc_N} (h : k = j + 1) : zk_raw k N = if zk_here N = 96 then 1 else if zk_char N = -1 then 0 else zk_raw j (zc_keptR N) := by
  subst h
  rfl
theorem zc_raw_s {k j : Nat} {N : zc_N} (h : k = j + 1) : zc_raw k N = if zk_here N = 96 then zc_step N else if zk_char N = -1 then zc_char N else zc_raw j (zc_keptR N) := by
  subst h
  rfl
theorem zi_keptR {N : zc_N} (hI : zc_I N) : zc_I (zc_keptR N) := by
  unfold zc_keptR
  split
  · exact zi_char hI
  · exact zi_appendCode (zi_char hI) _
theorem zl_keptR {N : zc_N} : zc_L N ≤ zc_L (zc_keptR N) := by
  unfold zc_keptR
  split
  · exact Nat.le_of_eq zL_char.symm
  · exact Nat.le_trans (Nat.le_of_eq zL_char.symm) (zl_appendCode _)
theorem zi_raw : ∀ (k : Nat) {N : zc_N}, zc_I N → zc_I (zc_raw k N) := by
  intro k
  induction k with
  | zero => intro N h; exact zi_step h
  | succ k ih =>
    intro N h
    rw [zc_raw_s rfl]
    split
    · exact zi_step h
    · split
      · exact zi_char h
      · exact ih (zi_keptR h)
theorem zl_raw : ∀ (k : Nat) {N : zc_N}, zc_L N ≤ zc_L (zc_raw k N) := by
  intro k
  induction k with
  | zero => intro N; exact Nat.le_of_eq zL_step.symm
  | succ k ih =>
    intro N
    rw [zc_raw_s rfl]
    split
    · exact Nat.le_of_eq zL_step.symm
    · split
      · exact Nat.le_of_eq zL_char.symm
      · exact Nat.le_trans zl_keptR ih
set_option maxHeartbeats 4000000 in
set_option maxRecDepth 100000 in
theorem kX4_plainEscape (l : Launch) (g : za_G) (E : za_E) (x : Int32) : za_Ci l g E yX4_plainEscape cX4_plainEscape 1 ((some .int)) 0 0 0 [.int x] [] (fun r (_ : Unit) => r = zk_plain x) (fun _ => []) := by
  refine za_begin (by decide) (Nat.le_of_ble_eq_true rfl) RX4 rfl ?_
  intro p e s m args below meth co A ls Q H locs C hQ hr hlocks hnm hS hP hD hl
  obtain ⟨hx, hb, hml, hown, hts, hK, hA, hE⟩ := id C
  have hl : lv_has ls 1 [(0, .int x)] := hl
  refine lv_iload_n hx hb dX4_plainEscape_0 rfl (lv_at hl 0 rfl) ?_
  by_cases c_1_92 : x = 92
  · refine lv_tableIn (off := 144) (tgt := 145) hx hb dX4_plainEscape_1 (by rw [c_1_92]; decide) (by rw [c_1_92]; decide) (by rw [c_1_92]; rfl) (by decide) ?_
    refine lv_bipush (v := 92) hx hb dX4_plainEscape_145 (by decide) ?_
    exact zm_rn hQ hx hb hr hlocks hK hP hD hS rfl (by unfold zk_plain; rw [c_1_92]; decide) dX4_plainEscape_147
  by_cases c_1_97 : x = 97
  · refine lv_tableIn (off := 123) (tgt := 124) hx hb dX4_plainEscape_1 (by rw [c_1_97]; decide) (by rw [c_1_97]; decide) (by rw [c_1_97]; rfl) (by decide) ?_
    refine lv_bipush (v := 7) hx hb dX4_plainEscape_124 (by decide) ?_
    exact zm_rn hQ hx hb hr hlocks hK hP hD hS rfl (by unfold zk_plain; rw [c_1_97]; decide) dX4_plainEscape_126
  by_cases c_1_98 : x = 98
  · refine lv_tableIn (off := 126) (tgt := 127) hx hb dX4_plainEscape_1 (by rw [c_1_98]; decide) (by rw [c_1_98]; decide) (by rw [c_1_98]; rfl) (by decide) ?_
    refine lv_bipush (v := 8) hx hb dX4_plainEscape_127 (by decide) ?_
    exact zm_rn hQ hx hb hr hlocks hK hP hD hS rfl (by unfold zk_plain; rw [c_1_98]; decide) dX4_plainEscape_129
  by_cases c_1_102 : x = 102
  · refine lv_tableIn (off := 129) (tgt := 130) hx hb dX4_plainEscape_1 (by rw [c_1_102]; decide) (by rw [c_1_102]; decide) (by rw [c_1_102]; rfl) (by decide) ?_
    refine lv_bipush (v := 12) hx hb dX4_plainEscape_130 (by decide) ?_
    exact zm_rn hQ hx hb hr hlocks hK hP hD hS rfl (by unfold zk_plain; rw [c_1_102]; decide) dX4_plainEscape_132
  by_cases c_1_110 : x = 110
  · refine lv_tableIn (off := 132) (tgt := 133) hx hb dX4_plainEscape_1 (by rw [c_1_110]; decide) (by rw [c_1_110]; decide) (by rw [c_1_110]; rfl) (by decide) ?_
    refine lv_bipush (v := 10) hx hb dX4_plainEscape_133 (by decide) ?_
    exact zm_rn hQ hx hb hr hlocks hK hP hD hS rfl (by unfold zk_plain; rw [c_1_110]; decide) dX4_plainEscape_135
  by_cases c_1_114 : x = 114
  · refine lv_tableIn (off := 135) (tgt := 136) hx hb dX4_plainEscape_1 (by rw [c_1_114]; decide) (by rw [c_1_114]; decide) (by rw [c_1_114]; rfl) (by decide) ?_
    refine lv_bipush (v := 13) hx hb dX4_plainEscape_136 (by decide) ?_
    exact zm_rn hQ hx hb hr hlocks hK hP hD hS rfl (by unfold zk_plain; rw [c_1_114]; decide) dX4_plainEscape_138
  by_cases c_1_116 : x = 116
  · refine lv_tableIn (off := 138) (tgt := 139) hx hb dX4_plainEscape_1 (by rw [c_1_116]; decide) (by rw [c_1_116]; decide) (by rw [c_1_116]; rfl) (by decide) ?_
    refine lv_bipush (v := 9) hx hb dX4_plainEscape_139 (by decide) ?_
    exact zm_rn hQ hx hb hr hlocks hK hP hD hS rfl (by unfold zk_plain; rw [c_1_116]; decide) dX4_plainEscape_141
  by_cases c_1_118 : x = 118
  · refine lv_tableIn (off := 141) (tgt := 142) hx hb dX4_plainEscape_1 (by rw [c_1_118]; decide) (by rw [c_1_118]; decide) (by rw [c_1_118]; rfl) (by decide) ?_
    refine lv_bipush (v := 11) hx hb dX4_plainEscape_142 (by decide) ?_
    exact zm_rn hQ hx hb hr hlocks hK hP hD hS rfl (by unfold zk_plain; rw [c_1_118]; decide) dX4_plainEscape_144
  have J_d1 : W p l e (za_R 0 0 0) s m args below meth co H locs 0 0 Q (F0 m 148 ls []) := by
    refine lv_iconst (v := (-1)) hx hb dX4_plainEscape_148 (by decide) ?_
    exact zm_rn hQ hx hb hr hlocks hK hP hD hS rfl (by simp [zk_plain, c_1_92, c_1_97, c_1_98, c_1_102, c_1_110, c_1_114, c_1_116, c_1_118]) dX4_plainEscape_149
  by_cases c_lo : x.toInt < 92
  · exact lv_tableOut (tgt := 148) hx hb dX4_plainEscape_1 (Or.inl c_lo) (by decide) J_d1
  by_cases c_hi : 118 < x.toInt
  · exact lv_tableOut (tgt := 148) hx hb dX4_plainEscape_1 (Or.inr c_hi) (by decide) J_d1
  refine lv_tableIn (off := 147) (tgt := 148) hx hb dX4_plainEscape_1 c_lo c_hi (z_tab [144, 147, 147, 147, 147, 123, 126, 147, 147, 147, 129, 147, 147, 147, 147, 147, 147, 147, 132, 147, 147, 147, 135, 147, 138, 147, 141] (x.toInt - 92).toNat [0, 5, 6, 10, 18, 22, 24, 26] (by decide) (show _ < 27 by omega) (by intro h9; simp only [List.mem_cons, List.not_mem_nil, or_false] at h9; rcases h9 with h9 | h9 | h9 | h9 | h9 | h9 | h9 | h9; exact c_1_92 (z_toI (n := 92) (by omega) (by decide)); exact c_1_97 (z_toI (n := 97) (by omega) (by decide)); exact c_1_98 (z_toI (n := 98) (by omega) (by decide)); exact c_1_102 (z_toI (n := 102) (by omega) (by decide)); exact c_1_110 (z_toI (n := 110) (by omega) (by decide)); exact c_1_114 (z_toI (n := 114) (by omega) (by decide)); exact c_1_116 (z_toI (n := 116) (by omega) (by decide)); exact c_1_118 (z_toI (n := 118) (by omega) (by decide)))) (by decide) J_d1
set_option maxHeartbeats 4000000 in
set_option maxRecDepth 100000 in
theorem kL_byteV (l : Launch) (g : za_G) (E : za_E) (o d : Nat → Nat) (N : zc_N) (b : Int32) (n : Nat) (hn9 : n ≤ 100) {p : Program} {e : Env} {s : State} {m : MethodId} {args : Array Value} {below : List Frame} {meth : Method} {co : Code} {A : Nat → Prop} {Q : State → Prop} (C : za_H p s m args co cX4_readByte 6 RX4 g E A) (hQ : Q = MQ below (za_qi g (fun r (u : zc_N) => r = zk_byteV N b n ∧ u = zc_byteV N b n) (fun u => zc_ws g o d u) A) args s 0 0 A) (hr : meth.sig.returnType = (some .int)) (hlocks : meth.locks = false)  : ∀ (n_ : Nat) (k : Nat) (X : zc_N) (v : Int32), (k ≤ n) → (zk_byteV N b n = zk_bytes b k X v ∧ zc_byteV N b n = zc_bytes b k X) → k < n_ → ∀ (H : Heap) (locs : List Loc) (ls : Array Slot), va_S A s.heap H locs → va_P g.1 vwCl (zc_ws g o d X) H → va_D A (zc_ws g o d X) → zc_I X → lv_has ls 6 [(0, .ref (o 4)), (1, .int b), (2, .int (nI n)), (3, .int v), (4, .int (nI (n - k)))] → W p l e (za_R 2 0 0) s m args below meth co H locs 0 0 Q (F0 m 10 ls []) := by
  obtain ⟨hx, hb, hml, hown, hts, hK, hA, hE⟩ := id C
  intro n_
  induction n_ with
  | zero => intro k X v hkn hres hm; exact absurd hm (Nat.not_lt_zero _)
  | succ n_ ih =>
    intro k X v hkn hres hm H locs ls hS hP hD hI hl
    refine lv_iload hx hb dX4_readByte_10 (lv_at hl 4 rfl) ?_
    refine lv_iload_n hx hb dX4_readByte_12 rfl (lv_at hl 2 rfl) ?_
    refine za_icmp_ge (tgt := 63) hx hb dX4_readByte_13 (by decide) (fun c_13 => ?_) (fun c_13 => ?_)
    · have hk0 : k = 0 := by
        cases k with
        | zero => rfl
        | succ kk => exact absurd (nI_lt (show n - (kk + 1) < n by omega) (by omega)) c_13
      refine lv_iload_n hx hb dX4_readByte_63 rfl (lv_at hl 3 rfl) ?_
      exact zc_riw hQ hx hb hr hlocks hK hP hD hS rfl (by rw [hres.1, hk0]; rfl) (by rw [hres.2, hk0]; rfl) (Nat.le_refl _) (Nat.le_refl _) dX4_readByte_64
    · obtain ⟨kk, hk1⟩ : ∃ kk, k = kk + 1 := by
        cases k with
        | zero => exact absurd c_13 (by rw [Nat.sub_zero]; exact fun h9 => Int32.lt_irrefl h9)
        | succ kk => exact ⟨kk, rfl⟩
      refine lv_aload_n hx hb dX4_readByte_16 rfl (lv_at hl 0 rfl) ?_
      refine va_get (ci := 4) (v := .ref (o 6)) hx hb hts iX4 hown hK hP 4 rfl rfl 0 (by decide) (hts _ w_211) (fun _ h9 => h9) rfl dX4_readByte_17 ?_
      refine za_ci (wc := zc_ws g o d X) (wr := []) C hP hD hS [0, 1, 2, 3, 4, 5, 6, 7, 8, 9, 10, 11, 12, 13, 14, 15, 16] [] rfl rfl (by decide) (by decide) (za_runV C hP hD hS [0, 1, 2, 3, 4, 5, 6, 7, 8, 9, 10, 11, 12, 13, 14, 15, 16] rfl (by decide) rfl (kX7_here l g E o d X  hI ) w_597 mX7_here 6 rfl rfl rfl rfl hl.1 rfl (Nat.le_of_ble_eq_true rfl) dX4_readByte_20 ⟨Nat.le_of_ble_eq_true rfl, Nat.le_of_ble_eq_true rfl⟩ ⟨Nat.le_refl _, Nat.le_refl _⟩) (fun r1 _ H locs hr1 hP hD hS => ?_)
      subst hr1
      have hP : va_P g.1 vwCl (zc_ws g o d X) H := hP
      have hD : va_D A (zc_ws g o d X) := hD
      refine lv_iload_n hx hb dX4_readByte_23 rfl (lv_at hl 1 rfl) ?_
      refine za_ci (wc := []) (wr := zc_ws g o d X) C hP hD hS [] [0, 1, 2, 3, 4, 5, 6, 7, 8, 9, 10, 11, 12, 13, 14, 15, 16] rfl rfl (by decide) (by decide) (za_runSN C hP hD hS [] rfl (by decide) rfl (kX9_digitOf l g E (zk_here X) b ) zn_X4_65 mX9_digitOf rfl hl.1 rfl (Nat.le_of_ble_eq_true rfl) dX4_readByte_24 ⟨Nat.le_of_ble_eq_true rfl, Nat.le_of_ble_eq_true rfl⟩ ⟨Nat.le_refl _, Nat.le_refl _⟩) (fun r2 _ H locs hr2 hP hD hS => ?_)
      subst hr2
      have hP : va_P g.1 vwCl (zc_ws g o d X) H := hP
      have hD : va_D A (zc_ws g o d X) := hD
      refine lv_istore (lv' := [(5, .int (zk_digitOf (zk_here X) b)), (0, .ref (o 4)), (1, .int b), (2, .int (nI n)), (3, .int v), (4, .int (nI (n - k)))]) hx hb dX4_readByte_27 hl (by decide) rfl (fun ls hl => ?_)
      refine lv_iload hx hb dX4_readByte_29 (lv_at hl 0 rfl) ?_
      refine lv_iconst (v := (-1)) hx hb dX4_readByte_31 (by decide) ?_
      refine lv_icmp_ne (tgt := 43) hx hb dX4_readByte_32 (by decide) (fun c_32 => ?_) (fun c_32 => ?_)
      · refine lv_iload_n hx hb dX4_readByte_43 rfl (lv_at hl 4 rfl) ?_
        refine lv_iload_n hx hb dX4_readByte_44 rfl (lv_at hl 2 rfl) ?_
        refine lv_imul hx hb dX4_readByte_45 ?_
        refine lv_iload hx hb dX4_readByte_46 (lv_at hl 0 rfl) ?_
        refine lv_iadd hx hb dX4_readByte_48 ?_
        refine lv_istore_n (lv' := [(3, .int ((v * b) + (zk_digitOf (zk_here X) b))), (5, .int (zk_digitOf (zk_here X) b)), (0, .ref (o 4)), (1, .int b), (2, .int (nI n)), (4, .int (nI (n - k)))]) hx hb dX4_readByte_49 rfl hl (by decide) rfl (fun ls hl => ?_)
        refine lv_aload_n hx hb dX4_readByte_50 rfl (lv_at hl 2 rfl) ?_
        refine va_get (ci := 4) (v := .ref (o 6)) hx hb hts iX4 hown hK hP 4 rfl rfl 0 (by decide) (hts _ w_211) (fun _ h9 => h9) rfl dX4_readByte_51 ?_
        refine za_cv (wc := zc_ws g o d X) (wr := []) C hP hD hS [0, 1, 2, 3, 4, 5, 6, 7, 8, 9, 10, 11, 12, 13, 14, 15, 16] [] rfl rfl (by decide) (by decide) (za_runV C hP hD hS [0, 1, 2, 3, 4, 5, 6, 7, 8, 9, 10, 11, 12, 13, 14, 15, 16] rfl (by decide) rfl (kX7_step l g E o d X  hI ) w_592 mX7_step 6 rfl rfl rfl rfl hl.1 rfl (Nat.le_of_ble_eq_true rfl) dX4_readByte_54 ⟨Nat.le_of_ble_eq_true rfl, Nat.le_of_ble_eq_true rfl⟩ ⟨Nat.le_refl _, Nat.le_refl _⟩) (fun N3 H locs hN3 hP hD hS => ?_)
        have hI : zc_I N3 := by rw [hN3]; exact zi_step hI
        have hP : va_P g.1 vwCl (zc_ws g o d N3) H := hP
        have hD : va_D A (zc_ws g o d N3) := hD
        refine lv_iinc (v := nI (n - kk)) (lv' := [(4, .int (nI (n - kk))), (3, .int ((v * b) + (zk_digitOf (zk_here X) b))), (5, .int (zk_digitOf (zk_here X) b)), (0, .ref (o 4)), (1, .int b), (2, .int (nI n))]) hx hb dX4_readByte_57 hl (k := 5) rfl ((nI_1 _).trans (congrArg nI (by omega))) (by decide) rfl (fun ls hl => ?_)
        refine lv_goto (tgt := 10) hx hb dX4_readByte_60 (by decide) ?_
        exact ih kk N3 (v * b + zk_digitOf (zk_here X) b) (by omega) (⟨by rw [hres.1, zk_bytes_s hk1, if_neg c_32, hN3], by rw [hres.2, zc_bytes_s hk1, if_neg c_32, hN3]⟩) (by omega) H locs ls hS hP hD hI (lv_sub hl [3, 4, 5, 1, 0] rfl)
      · refine lv_aload_n hx hb dX4_readByte_35 rfl (lv_at hl 1 rfl) ?_
        refine va_get (ci := 4) (v := .ref (o 6)) hx hb hts iX4 hown hK hP 4 rfl rfl 0 (by decide) (hts _ w_211) (fun _ h9 => h9) rfl dX4_readByte_36 ?_
        refine za_ci (wc := zc_ws g o d X) (wr := []) C hP hD hS [0, 1, 2, 3, 4, 5, 6, 7, 8, 9, 10, 11, 12, 13, 14, 15, 16] [] rfl rfl (by decide) (by decide) (za_runV C hP hD hS [0, 1, 2, 3, 4, 5, 6, 7, 8, 9, 10, 11, 12, 13, 14, 15, 16] rfl (by decide) rfl (kX7_refuse l g E o d X  hI ) w_610 mX7_refuse 6 rfl rfl rfl rfl hl.1 rfl (Nat.le_of_ble_eq_true rfl) dX4_readByte_39 ⟨Nat.le_of_ble_eq_true rfl, Nat.le_of_ble_eq_true rfl⟩ ⟨Nat.le_refl _, Nat.le_refl _⟩) (fun r4 N4 H locs hN4 hP hD hS => ?_)
        obtain ⟨hr4, hN4⟩ := hN4
        have hI : zc_I N4 := by rw [hN4]; exact zi_refuse hI
        have hP : va_P g.1 vwCl (zc_ws g o d N4) H := hP
        have hD : va_D A (zc_ws g o d N4) := hD
        exact zc_riw hQ hx hb hr hlocks hK hP hD hS rfl (by rw [hr4, hres.1, zk_bytes_s hk1, if_pos c_32]) (by rw [hN4, hres.2, zc_bytes_s hk1, if_pos c_32]) (Nat.le_refl _) (Nat.le_refl _) dX4_readByte_42
set_option maxHeartbeats 4000000 in
set_option maxRecDepth 100000 in
theorem kX4_readByte (l : Launch) (g : za_G) (E : za_E) (o d : Nat → Nat) (N : zc_N) (b : Int32) (n : Nat) (hI : zc_I N) (hn9 : n ≤ 100) : za_Ci l g E yX4_readByte cX4_readByte 6 ((some .int)) 2 0 0 [.ref (o 4), .int b, .int (nI n)] (zc_ws g o d N) (fun r (u : zc_N) => r = zk_byteV N b n ∧ u = zc_byteV N b n) (fun u => zc_ws g o d u) := by
  refine za_begin (by decide) (Nat.le_of_ble_eq_true rfl) RX4 rfl ?_
  intro p e s m args below meth co A ls Q H locs C hQ hr hlocks hnm hS hP hD hl
  obtain ⟨hx, hb, hml, hown, hts, hK, hA, hE⟩ := id C
  have hl : lv_has ls 6 [(0, .ref (o 4)), (1, .int b), (2, .int (nI n))] := hl
  refine lv_aload_n hx hb dX4_readByte_0 rfl (lv_at hl 0 rfl) ?_
  refine lv_iconst (v := 1) hx hb dX4_readByte_1 (by decide) ?_
  refine va_put (ci := 4) (fs := zc_f4 o d N.1) (v := .int 1) hx hb hts iX4 tyX4 tyX4_ok nmX4 hown hK hP hD hS 4 rfl rfl 2 (by decide) (hts _ w_213) (fun _ h9 => h9) rfl (tyX4_ok 2 (by decide)) rfl rfl (Nat.le_of_ble_eq_true rfl) dX4_readByte_2 (fun H locs hP hD hS => ?_)
  have hP := zc_pf42 (X := N) hP
  have hD := zc_df42 (X := N) hD
  have hI : zc_I (zc_s N 42 1) := hI
  refine lv_iconst (v := 0) hx hb dX4_readByte_5 (by decide) ?_
  refine lv_istore_n (lv' := [(3, .int 0), (0, .ref (o 4)), (1, .int b), (2, .int (nI n))]) hx hb dX4_readByte_6 rfl hl (by decide) rfl (fun ls hl => ?_)
  refine lv_iconst (v := 0) hx hb dX4_readByte_7 (by decide) ?_
  refine lv_istore (lv' := [(4, .int 0), (3, .int 0), (0, .ref (o 4)), (1, .int b), (2, .int (nI n))]) hx hb dX4_readByte_8 hl (by decide) rfl (fun ls hl => ?_)
  have hl : lv_has ls 6 [(4, .int (nI (n - n))), (3, .int 0), (0, .ref (o 4)), (1, .int b), (2, .int (nI n))] := by rw [Nat.sub_self]; exact hl
  exact kL_byteV l g E o d N b n hn9 C hQ hr hlocks _ n (zc_s N 42 1) 0 (Nat.le_refl _) ⟨rfl, rfl⟩ (Nat.lt_succ_self _) H locs ls hS hP hD hI (lv_sub hl [2, 3, 4, 1, 0] rfl)
set_option maxHeartbeats 4000000 in
set_option maxRecDepth 100000 in
theorem kL_code (l : Launch) (g : za_G) (E : za_E) (o d : Nat → Nat) (N : zc_N) (n : Nat)  {p : Program} {e : Env} {s : State} {m : MethodId} {args : Array Value} {below : List Frame} {meth : Method} {co : Code} {A : Nat → Prop} {Q : State → Prop} (C : za_H p s m args co cX4_readCode 10 RX4 g E A) (hQ : Q = MQ below (za_qi g (fun r (u : zc_N) => r = zk_codes n N 0 ∧ u = zc_codes n N 0) (fun u => zc_ws g o d u) A) args s 0 0 A) (hr : meth.sig.returnType = (some .int)) (hlocks : meth.locks = false)  : ∀ (n_ : Nat) (k : Nat) (X : zc_N) (v : Int64), (k ≤ 8) → (zk_codes n N 0 = zk_codes k X v ∧ zc_codes n N 0 = zc_codes k X v) → k < n_ → ∀ (H : Heap) (locs : List Loc) (ls : Array Slot), va_S A s.heap H locs → va_P g.1 vwCl (zc_ws g o d X) H → va_D A (zc_ws g o d X) → zc_I X → lv_has ls 10 [(0, .ref (o 4)), (2, .long v), (4, .int (nI k - 1))] → W p l e (za_R 2 0 0) s m args below meth co H locs 0 0 Q (F0 m 7 ls []) := by
  obtain ⟨hx, hb, hml, hown, hts, hK, hA, hE⟩ := id C
  intro n_
  induction n_ with
  | zero => intro k X v hk8 hres hm; exact absurd hm (Nat.not_lt_zero _)
  | succ n_ ih =>
    intro k X v hk8 hres hm H locs ls hS hP hD hI hl
    refine lv_iload hx hb dX4_readCode_7 (lv_at hl 2 rfl) ?_
    refine lv_if_lt (tgt := 94) hx hb dX4_readCode_9 (by decide) (fun c_9 => ?_) (fun c_9 => ?_)
    · have hk0 : k = 0 := by
        cases k with
        | zero => rfl
        | succ kk => rw [nI_pred] at c_9; exact absurd c_9 (nI_pos (by omega))
      refine lv_lload_n hx hb dX4_readCode_94 rfl (lv_at hl 1 rfl) ?_
      refine lv_l2i (v := v.toInt32) hx hb dX4_readCode_95 rfl ?_
      exact zc_riw hQ hx hb hr hlocks hK hP hD hS rfl (by rw [hres.1, hk0]; rfl) (by rw [hres.2, hk0]; rfl) (Nat.le_refl _) (Nat.le_refl _) dX4_readCode_96
    · obtain ⟨kk, hk1⟩ : ∃ kk, k = kk + 1 := by
        cases k with
        | zero => exact absurd (show nI 0 - 1 < 0 by decide) c_9
        | succ kk => exact ⟨kk, rfl⟩
      have hl : lv_has ls 10 [(0, .ref (o 4)), (2, .long v), (4, .int (nI kk))] := by rw [hk1, nI_pred] at hl; exact hl
      refine lv_aload_n hx hb dX4_readCode_12 rfl (lv_at hl 0 rfl) ?_
      refine va_get (ci := 4) (v := .ref (o 6)) hx hb hts iX4 hown hK hP 4 rfl rfl 0 (by decide) (hts _ w_211) (fun _ h9 => h9) rfl dX4_readCode_13 ?_
      refine za_ci (wc := zc_ws g o d X) (wr := []) C hP hD hS [0, 1, 2, 3, 4, 5, 6, 7, 8, 9, 10, 11, 12, 13, 14, 15, 16] [] rfl rfl (by decide) (by decide) (za_runV C hP hD hS [0, 1, 2, 3, 4, 5, 6, 7, 8, 9, 10, 11, 12, 13, 14, 15, 16] rfl (by decide) rfl (kX7_here l g E o d X  hI ) w_597 mX7_here 6 rfl rfl rfl rfl hl.1 rfl (Nat.le_of_ble_eq_true rfl) dX4_readCode_16 ⟨Nat.le_of_ble_eq_true rfl, Nat.le_of_ble_eq_true rfl⟩ ⟨Nat.le_refl _, Nat.le_refl _⟩) (fun r1 _ H locs hr1 hP hD hS => ?_)
      subst hr1
      have hP : va_P g.1 vwCl (zc_ws g o d X) H := hP
      have hD : va_D A (zc_ws g o d X) := hD
      refine lv_bipush (v := 16) hx hb dX4_readCode_19 (by decide) ?_
      refine za_ci (wc := []) (wr := zc_ws g o d X) C hP hD hS [] [0, 1, 2, 3, 4, 5, 6, 7, 8, 9, 10, 11, 12, 13, 14, 15, 16] rfl rfl (by decide) (by decide) (za_runSN C hP hD hS [] rfl (by decide) rfl (kX9_digitOf l g E (zk_here X) 16 ) zn_X4_65 mX9_digitOf rfl hl.1 rfl (Nat.le_of_ble_eq_true rfl) dX4_readCode_21 ⟨Nat.le_of_ble_eq_true rfl, Nat.le_of_ble_eq_true rfl⟩ ⟨Nat.le_refl _, Nat.le_refl _⟩) (fun r2 _ H locs hr2 hP hD hS => ?_)
      subst hr2
      have hP : va_P g.1 vwCl (zc_ws g o d X) H := hP
      have hD : va_D A (zc_ws g o d X) := hD
      refine lv_istore (lv' := [(5, .int (zk_digitOf (zk_here X) 16)), (0, .ref (o 4)), (2, .long v), (4, .int (nI kk))]) hx hb dX4_readCode_24 hl (by decide) rfl (fun ls hl => ?_)
      refine lv_lload_n hx hb dX4_readCode_26 rfl (lv_at hl 2 rfl) ?_
      refine lv_ldc2 (v := 16) hx hb hown (hts _ w_615) dX4_readCode_27 ?_
      refine lv_lmul hx hb dX4_readCode_30 ?_
      refine lv_iload hx hb dX4_readCode_31 (lv_at hl 0 rfl) ?_
      refine lv_i2l (v := (zk_digitOf (zk_here X) 16).toInt64) hx hb dX4_readCode_33 rfl ?_
      refine lv_ladd hx hb dX4_readCode_34 ?_
      refine lv_lstore_n (lv' := [(2, .long ((v * 16) + ((zk_digitOf (zk_here X) 16).toInt64))), (5, .int (zk_digitOf (zk_here X) 16)), (0, .ref (o 4)), (4, .int (nI kk))]) hx hb dX4_readCode_35 rfl hl (by decide) rfl (fun ls hl => ?_)
      refine lv_lload_n hx hb dX4_readCode_36 rfl (lv_at hl 0 rfl) ?_
      refine lv_iconst (v := 4) hx hb dX4_readCode_37 (by decide) ?_
      refine lv_iload hx hb dX4_readCode_38 (lv_at hl 3 rfl) ?_
      refine lv_imul hx hb dX4_readCode_40 ?_
      refine lv_lshl (v := ((v * 16) + ((zk_digitOf (zk_here X) 16).toInt64)) <<< ((4 * (nI kk)).toInt64 &&& 63)) hx hb dX4_readCode_41 rfl ?_
      refine lv_lstore (lv' := [(6, .long (((v * 16) + ((zk_digitOf (zk_here X) 16).toInt64)) <<< ((4 * (nI kk)).toInt64 &&& 63))), (2, .long ((v * 16) + ((zk_digitOf (zk_here X) 16).toInt64))), (5, .int (zk_digitOf (zk_here X) 16)), (0, .ref (o 4)), (4, .int (nI kk))]) hx hb dX4_readCode_42 hl (by decide) rfl (fun ls hl => ?_)
      refine lv_lload hx hb dX4_readCode_44 (lv_at hl 0 rfl) ?_
      refine lv_lconst (v := 1) hx hb dX4_readCode_46 (by decide) ?_
      refine lv_iconst (v := 4) hx hb dX4_readCode_47 (by decide) ?_
      refine lv_iload hx hb dX4_readCode_48 (lv_at hl 4 rfl) ?_
      refine lv_imul hx hb dX4_readCode_50 ?_
      refine lv_lshl (v := (1 : Int64) <<< ((4 * (nI kk)).toInt64 &&& 63)) hx hb dX4_readCode_51 rfl ?_
      refine lv_ladd hx hb dX4_readCode_52 ?_
      refine lv_lconst (v := 1) hx hb dX4_readCode_53 (by decide) ?_
      refine lv_lsub hx hb dX4_readCode_54 ?_
      refine lv_lstore (lv' := [(8, .long (((((v * 16) + ((zk_digitOf (zk_here X) 16).toInt64)) <<< ((4 * (nI kk)).toInt64 &&& 63)) + ((1 : Int64) <<< ((4 * (nI kk)).toInt64 &&& 63))) - 1)), (6, .long (((v * 16) + ((zk_digitOf (zk_here X) 16).toInt64)) <<< ((4 * (nI kk)).toInt64 &&& 63))), (2, .long ((v * 16) + ((zk_digitOf (zk_here X) 16).toInt64))), (5, .int (zk_digitOf (zk_here X) 16)), (0, .ref (o 4)), (4, .int (nI kk))]) hx hb dX4_readCode_55 hl (by decide) rfl (fun ls hl => ?_)
      refine lv_iload hx hb dX4_readCode_57 (lv_at hl 3 rfl) ?_
      refine lv_iconst (v := (-1)) hx hb dX4_readCode_59 (by decide) ?_
      refine lv_icmp_eq (tgt := 73) hx hb dX4_readCode_60 (by decide) (fun c_60 => ?_) (fun c_60 => ?_)
      · refine lv_aload_n hx hb dX4_readCode_73 rfl (lv_at hl 4 rfl) ?_
        refine va_get (ci := 4) (v := .ref (o 6)) hx hb hts iX4 hown hK hP 4 rfl rfl 0 (by decide) (hts _ w_211) (fun _ h9 => h9) rfl dX4_readCode_74 ?_
        refine za_ci (wc := zc_ws g o d X) (wr := []) C hP hD hS [0, 1, 2, 3, 4, 5, 6, 7, 8, 9, 10, 11, 12, 13, 14, 15, 16] [] rfl rfl (by decide) (by decide) (za_runV C hP hD hS [0, 1, 2, 3, 4, 5, 6, 7, 8, 9, 10, 11, 12, 13, 14, 15, 16] rfl (by decide) rfl (kX7_refuse l g E o d X  hI ) w_610 mX7_refuse 6 rfl rfl rfl rfl hl.1 rfl (Nat.le_of_ble_eq_true rfl) dX4_readCode_77 ⟨Nat.le_of_ble_eq_true rfl, Nat.le_of_ble_eq_true rfl⟩ ⟨Nat.le_refl _, Nat.le_refl _⟩) (fun r3 N3 H locs hN3 hP hD hS => ?_)
        obtain ⟨hr3, hN3⟩ := hN3
        have hI : zc_I N3 := by rw [hN3]; exact zi_refuse hI
        have hP : va_P g.1 vwCl (zc_ws g o d N3) H := hP
        have hD : va_D A (zc_ws g o d N3) := hD
        exact zc_riw hQ hx hb hr hlocks hK hP hD hS rfl (by rw [hr3, hres.1, zk_codes_s hk1, if_pos (show zk_cbad X v kk from Or.inl c_60)]) (by rw [hN3, hres.2, zc_codes_s hk1, if_pos (show zk_cbad X v kk from Or.inl c_60)]) (Nat.le_refl _) (Nat.le_refl _) dX4_readCode_80
      · refine lv_lload hx hb dX4_readCode_63 (lv_at hl 1 rfl) ?_
        refine lv_lload hx hb dX4_readCode_65 (lv_at hl 0 rfl) ?_
        refine za_ci (wc := []) (wr := zc_ws g o d X) C hP hD hS [] [0, 1, 2, 3, 4, 5, 6, 7, 8, 9, 10, 11, 12, 13, 14, 15, 16] rfl rfl (by decide) (by decide) (za_runSN C hP hD hS [] rfl (by decide) rfl (kX9_holdsCode l g E (((v * 16) + ((zk_digitOf (zk_here X) 16).toInt64)) <<< ((4 * (nI kk)).toInt64 &&& 63)) (((((v * 16) + ((zk_digitOf (zk_here X) 16).toInt64)) <<< ((4 * (nI kk)).toInt64 &&& 63)) + ((1 : Int64) <<< ((4 * (nI kk)).toInt64 &&& 63))) - 1) ) zn_X4_70 mX9_holdsCode rfl hl.1 rfl (Nat.le_of_ble_eq_true rfl) dX4_readCode_67 ⟨Nat.le_of_ble_eq_true rfl, Nat.le_of_ble_eq_true rfl⟩ ⟨Nat.le_refl _, Nat.le_refl _⟩) (fun r4 _ H locs hr4 hP hD hS => ?_)
        subst hr4
        have hP : va_P g.1 vwCl (zc_ws g o d X) H := hP
        have hD : va_D A (zc_ws g o d X) := hD
        refine lv_if_ne (tgt := 81) hx hb dX4_readCode_70 (by decide) (fun c_70 => ?_) (fun c_70 => ?_)
        · refine lv_aload_n hx hb dX4_readCode_81 rfl (lv_at hl 4 rfl) ?_
          refine va_get (ci := 4) (v := .ref (o 6)) hx hb hts iX4 hown hK hP 4 rfl rfl 0 (by decide) (hts _ w_211) (fun _ h9 => h9) rfl dX4_readCode_82 ?_
          refine za_cv (wc := zc_ws g o d X) (wr := []) C hP hD hS [0, 1, 2, 3, 4, 5, 6, 7, 8, 9, 10, 11, 12, 13, 14, 15, 16] [] rfl rfl (by decide) (by decide) (za_runV C hP hD hS [0, 1, 2, 3, 4, 5, 6, 7, 8, 9, 10, 11, 12, 13, 14, 15, 16] rfl (by decide) rfl (kX7_step l g E o d X  hI ) w_592 mX7_step 6 rfl rfl rfl rfl hl.1 rfl (Nat.le_of_ble_eq_true rfl) dX4_readCode_85 ⟨Nat.le_of_ble_eq_true rfl, Nat.le_of_ble_eq_true rfl⟩ ⟨Nat.le_refl _, Nat.le_refl _⟩) (fun N5 H locs hN5 hP hD hS => ?_)
          have hI : zc_I N5 := by rw [hN5]; exact zi_step hI
          have hP : va_P g.1 vwCl (zc_ws g o d N5) H := hP
          have hD : va_D A (zc_ws g o d N5) := hD
          refine lv_iinc (v := nI kk - 1) (lv' := [(4, .int (nI kk - 1)), (8, .long (((((v * 16) + ((zk_digitOf (zk_here X) 16).toInt64)) <<< ((4 * (nI kk)).toInt64 &&& 63)) + ((1 : Int64) <<< ((4 * (nI kk)).toInt64 &&& 63))) - 1)), (6, .long (((v * 16) + ((zk_digitOf (zk_here X) 16).toInt64)) <<< ((4 * (nI kk)).toInt64 &&& 63))), (2, .long ((v * 16) + ((zk_digitOf (zk_here X) 16).toInt64))), (5, .int (zk_digitOf (zk_here X) 16)), (0, .ref (o 4))]) hx hb dX4_readCode_88 hl (k := 5) rfl (by rw [Int32.sub_eq_add_neg]; rfl) (by decide) rfl (fun ls hl => ?_)
          refine lv_goto (tgt := 7) hx hb dX4_readCode_91 (by decide) ?_
          exact ih kk N5 (zk_cv X v) (by omega) (⟨by rw [hres.1, zk_codes_s hk1, if_neg (show ¬ zk_cbad X v kk from fun h9 => by rcases h9 with h9 | h9; exact c_60 h9; exact c_70 h9), hN5], by rw [hres.2, zc_codes_s hk1, if_neg (show ¬ zk_cbad X v kk from fun h9 => by rcases h9 with h9 | h9; exact c_60 h9; exact c_70 h9), hN5]⟩) (by omega) H locs ls hS hP hD hI (lv_sub hl [5, 3, 0] rfl)
        · refine lv_aload_n hx hb dX4_readCode_73 rfl (lv_at hl 4 rfl) ?_
          refine va_get (ci := 4) (v := .ref (o 6)) hx hb hts iX4 hown hK hP 4 rfl rfl 0 (by decide) (hts _ w_211) (fun _ h9 => h9) rfl dX4_readCode_74 ?_
          refine za_ci (wc := zc_ws g o d X) (wr := []) C hP hD hS [0, 1, 2, 3, 4, 5, 6, 7, 8, 9, 10, 11, 12, 13, 14, 15, 16] [] rfl rfl (by decide) (by decide) (za_runV C hP hD hS [0, 1, 2, 3, 4, 5, 6, 7, 8, 9, 10, 11, 12, 13, 14, 15, 16] rfl (by decide) rfl (kX7_refuse l g E o d X  hI ) w_610 mX7_refuse 6 rfl rfl rfl rfl hl.1 rfl (Nat.le_of_ble_eq_true rfl) dX4_readCode_77 ⟨Nat.le_of_ble_eq_true rfl, Nat.le_of_ble_eq_true rfl⟩ ⟨Nat.le_refl _, Nat.le_refl _⟩) (fun r6 N6 H locs hN6 hP hD hS => ?_)
          obtain ⟨hr6, hN6⟩ := hN6
          have hI : zc_I N6 := by rw [hN6]; exact zi_refuse hI
          have hP : va_P g.1 vwCl (zc_ws g o d N6) H := hP
          have hD : va_D A (zc_ws g o d N6) := hD
          exact zc_riw hQ hx hb hr hlocks hK hP hD hS rfl (by rw [hr6, hres.1, zk_codes_s hk1, if_pos (show zk_cbad X v kk from Or.inr c_70)]) (by rw [hN6, hres.2, zc_codes_s hk1, if_pos (show zk_cbad X v kk from Or.inr c_70)]) (Nat.le_refl _) (Nat.le_refl _) dX4_readCode_80
set_option maxHeartbeats 4000000 in
set_option maxRecDepth 100000 in
theorem kX4_readCode (l : Launch) (g : za_G) (E : za_E) (o d : Nat → Nat) (N : zc_N) (n : Nat) (hI : zc_I N) (hn9 : n ≤ 8) : za_Ci l g E yX4_readCode cX4_readCode 10 ((some .int)) 2 0 0 [.ref (o 4), .int (nI n)] (zc_ws g o d N) (fun r (u : zc_N) => r = zk_codes n N 0 ∧ u = zc_codes n N 0) (fun u => zc_ws g o d u) := by
  refine za_begin (by decide) (Nat.le_of_ble_eq_true rfl) RX4 rfl ?_
  intro p e s m args below meth co A ls Q H locs C hQ hr hlocks hnm hS hP hD hl
  obtain ⟨hx, hb, hml, hown, hts, hK, hA, hE⟩ := id C
  have hl : lv_has ls 10 [(0, .ref (o 4)), (1, .int (nI n))] := hl
  refine lv_lconst (v := 0) hx hb dX4_readCode_0 (by decide) ?_
  refine lv_lstore_n (lv' := [(2, .long 0), (0, .ref (o 4)), (1, .int (nI n))]) hx hb dX4_readCode_1 rfl hl (by decide) rfl (fun ls hl => ?_)
  refine lv_iload_n hx hb dX4_readCode_2 rfl (lv_at hl 2 rfl) ?_
  refine lv_iconst (v := 1) hx hb dX4_readCode_3 (by decide) ?_
  refine lv_isub hx hb dX4_readCode_4 ?_
  refine lv_istore (lv' := [(4, .int ((nI n) - 1)), (2, .long 0), (0, .ref (o 4)), (1, .int (nI n))]) hx hb dX4_readCode_5 hl (by decide) rfl (fun ls hl => ?_)
  exact kL_code l g E o d N n C hQ hr hlocks _ n N 0 hn9 ⟨rfl, rfl⟩ (Nat.lt_succ_self _) H locs ls hS hP hD hI (lv_sub hl [2, 1, 0] rfl)
set_option maxHeartbeats 4000000 in
set_option maxRecDepth 100000 in
theorem kX4_readEscaped (l : Launch) (g : za_G) (E : za_E) (o d : Nat → Nat) (N : zc_N) (q : Int32) (hI : zc_I N) : za_Ci l g E yX4_readEscaped cX4_readEscaped 4 ((some .int)) 3 0 0 [.ref (o 4), .int q] (zc_ws g o d N) (fun r (u : zc_N) => r = zk_esc N q ∧ u = zc_esc N q) (fun u => zc_ws g o d u) := by
  refine za_begin (by decide) (Nat.le_of_ble_eq_true rfl) RX4 rfl ?_
  intro p e s m args below meth co A ls Q H locs C hQ hr hlocks hnm hS hP hD hl
  obtain ⟨hx, hb, hml, hown, hts, hK, hA, hE⟩ := id C
  have hl : lv_has ls 4 [(0, .ref (o 4)), (1, .int q)] := hl
  refine lv_aload_n hx hb dX4_readEscaped_0 rfl (lv_at hl 0 rfl) ?_
  refine va_get (ci := 4) (v := .ref (o 6)) hx hb hts iX4 hown hK hP 4 rfl rfl 0 (by decide) (hts _ w_211) (fun _ h9 => h9) rfl dX4_readEscaped_1 ?_
  refine za_ci (wc := zc_ws g o d N) (wr := []) C hP hD hS [0, 1, 2, 3, 4, 5, 6, 7, 8, 9, 10, 11, 12, 13, 14, 15, 16] [] rfl rfl (by decide) (by decide) (za_runV C hP hD hS [0, 1, 2, 3, 4, 5, 6, 7, 8, 9, 10, 11, 12, 13, 14, 15, 16] rfl (by decide) rfl (kX7_here l g E o d N  hI ) w_597 mX7_here 6 rfl rfl rfl rfl hl.1 rfl (Nat.le_of_ble_eq_true rfl) dX4_readEscaped_4 ⟨Nat.le_of_ble_eq_true rfl, Nat.le_of_ble_eq_true rfl⟩ ⟨Nat.le_refl _, Nat.le_refl _⟩) (fun r1 _ H locs hr1 hP hD hS => ?_)
  subst hr1
  have hP : va_P g.1 vwCl (zc_ws g o d N) H := hP
  have hD : va_D A (zc_ws g o d N) := hD
  refine lv_istore_n (lv' := [(2, .int (zk_here N)), (0, .ref (o 4)), (1, .int q)]) hx hb dX4_readEscaped_7 rfl hl (by decide) rfl (fun ls hl => ?_)
  have J_21 : ∀ (v9 : Int32) (H : Heap) (locs : List Loc), va_P g.1 vwCl (zc_ws g o d N) H → va_S A s.heap H locs → v9 = (zk_plainQ (zk_here N) q) → W p l e (za_R 3 0 0) s m args below meth co H locs 0 0 Q (F0 m 21 ls (.int v9 :: [])) := by
    intro v_21 H locs hP hS hv_21
    refine lv_istore_n (lv' := [(3, .int v_21), (2, .int (zk_here N)), (0, .ref (o 4)), (1, .int q)]) hx hb dX4_readEscaped_21 rfl hl (by decide) rfl (fun ls hl => ?_)
    refine lv_iload_n hx hb dX4_readEscaped_22 rfl (lv_at hl 0 rfl) ?_
    refine lv_iconst (v := (-1)) hx hb dX4_readEscaped_23 (by decide) ?_
    refine lv_icmp_eq (tgt := 36) hx hb dX4_readEscaped_24 (by decide) (fun c_24 => ?_) (fun c_24 => ?_)
    · refine lv_iload_n hx hb dX4_readEscaped_36 rfl (lv_at hl 1 rfl) ?_
      refine lv_bipush (v := 48) hx hb dX4_readEscaped_37 (by decide) ?_
      refine lv_icmp_lt (tgt := 56) hx hb dX4_readEscaped_39 (by decide) (fun c_39 => ?_) (fun c_39 => ?_)
      · refine lv_iload_n hx hb dX4_readEscaped_56 rfl (lv_at hl 1 rfl) ?_
        refine lv_bipush (v := 120) hx hb dX4_readEscaped_57 (by decide) ?_
        refine lv_icmp_eq (tgt := 82) hx hb dX4_readEscaped_59 (by decide) (fun c_59 => ?_) (fun c_59 => ?_)
        · refine lv_aload_n hx hb dX4_readEscaped_82 rfl (lv_at hl 2 rfl) ?_
          refine va_get (ci := 4) (v := .ref (o 6)) hx hb hts iX4 hown hK hP 4 rfl rfl 0 (by decide) (hts _ w_211) (fun _ h9 => h9) rfl dX4_readEscaped_83 ?_
          refine za_cv (wc := zc_ws g o d N) (wr := []) C hP hD hS [0, 1, 2, 3, 4, 5, 6, 7, 8, 9, 10, 11, 12, 13, 14, 15, 16] [] rfl rfl (by decide) (by decide) (za_runV C hP hD hS [0, 1, 2, 3, 4, 5, 6, 7, 8, 9, 10, 11, 12, 13, 14, 15, 16] rfl (by decide) rfl (kX7_step l g E o d N  hI ) w_592 mX7_step 6 rfl rfl rfl rfl hl.1 rfl (Nat.le_of_ble_eq_true rfl) dX4_readEscaped_86 ⟨Nat.le_of_ble_eq_true rfl, Nat.le_of_ble_eq_true rfl⟩ ⟨Nat.le_refl _, Nat.le_refl _⟩) (fun N2 H locs hN2 hP hD hS => ?_)
          have hI : zc_I N2 := by rw [hN2]; exact zi_step hI
          have hP : va_P g.1 vwCl (zc_ws g o d N2) H := hP
          have hD : va_D A (zc_ws g o d N2) := hD
          refine lv_iload_n hx hb dX4_readEscaped_89 rfl (lv_at hl 1 rfl) ?_
          refine lv_bipush (v := 120) hx hb dX4_readEscaped_90 (by decide) ?_
          refine lv_icmp_ne (tgt := 105) hx hb dX4_readEscaped_92 (by decide) (fun c_92 => ?_) (fun c_92 => ?_)
          · exact absurd c_59 c_92
          · refine lv_aload_n hx hb dX4_readEscaped_95 rfl (lv_at hl 2 rfl) ?_
            refine lv_bipush (v := 16) hx hb dX4_readEscaped_96 (by decide) ?_
            refine lv_iconst (v := 2) hx hb dX4_readEscaped_98 (by decide) ?_
            refine za_ci (wc := zc_ws g o d N2) (wr := []) C hP hD hS [0, 1, 2, 3, 4, 5, 6, 7, 8, 9, 10, 11, 12, 13, 14, 15, 16] [] rfl rfl (by decide) (by decide) (za_runV C hP hD hS [0, 1, 2, 3, 4, 5, 6, 7, 8, 9, 10, 11, 12, 13, 14, 15, 16] rfl (by decide) rfl (kX4_readByte l g E o d N2 16 2 hI (by decide)) w_605 mX4_readByte 4 rfl rfl rfl rfl hl.1 rfl (Nat.le_of_ble_eq_true rfl) dX4_readEscaped_99 ⟨Nat.le_of_ble_eq_true rfl, Nat.le_of_ble_eq_true rfl⟩ ⟨Nat.le_refl _, Nat.le_refl _⟩) (fun r3 N3 H locs hN3 hP hD hS => ?_)
            obtain ⟨hr3, hN3⟩ := hN3
            have hI : zc_I N3 := by rw [hN3]; exact zi_byteV hI _ _
            have hP : va_P g.1 vwCl (zc_ws g o d N3) H := hP
            have hD : va_D A (zc_ws g o d N3) := hD
            refine lv_goto (tgt := 121) hx hb dX4_readEscaped_102 (by decide) ?_
            exact zc_riw hQ hx hb hr hlocks hK hP hD hS rfl (by unfold zk_esc; rw [← hv_21, if_neg (fun h9 => h9 c_24), if_neg (fun h9 => h9.1 c_39), if_neg (fun h9 => h9.1 c_59), if_pos c_92, ← hN2]; exact hr3) (by unfold zc_esc; rw [← hv_21, if_neg (fun h9 => h9 c_24), if_neg (fun h9 => h9.1 c_39), if_neg (fun h9 => h9.1 c_59), if_pos c_92, ← hN2]; exact hN3) (Nat.le_refl _) (Nat.le_refl _) dX4_readEscaped_121
        · refine lv_iload_n hx hb dX4_readEscaped_62 rfl (lv_at hl 1 rfl) ?_
          refine lv_bipush (v := 117) hx hb dX4_readEscaped_63 (by decide) ?_
          refine lv_icmp_eq (tgt := 82) hx hb dX4_readEscaped_65 (by decide) (fun c_65 => ?_) (fun c_65 => ?_)
          · refine lv_aload_n hx hb dX4_readEscaped_82 rfl (lv_at hl 2 rfl) ?_
            refine va_get (ci := 4) (v := .ref (o 6)) hx hb hts iX4 hown hK hP 4 rfl rfl 0 (by decide) (hts _ w_211) (fun _ h9 => h9) rfl dX4_readEscaped_83 ?_
            refine za_cv (wc := zc_ws g o d N) (wr := []) C hP hD hS [0, 1, 2, 3, 4, 5, 6, 7, 8, 9, 10, 11, 12, 13, 14, 15, 16] [] rfl rfl (by decide) (by decide) (za_runV C hP hD hS [0, 1, 2, 3, 4, 5, 6, 7, 8, 9, 10, 11, 12, 13, 14, 15, 16] rfl (by decide) rfl (kX7_step l g E o d N  hI ) w_592 mX7_step 6 rfl rfl rfl rfl hl.1 rfl (Nat.le_of_ble_eq_true rfl) dX4_readEscaped_86 ⟨Nat.le_of_ble_eq_true rfl, Nat.le_of_ble_eq_true rfl⟩ ⟨Nat.le_refl _, Nat.le_refl _⟩) (fun N4 H locs hN4 hP hD hS => ?_)
            have hI : zc_I N4 := by rw [hN4]; exact zi_step hI
            have hP : va_P g.1 vwCl (zc_ws g o d N4) H := hP
            have hD : va_D A (zc_ws g o d N4) := hD
            refine lv_iload_n hx hb dX4_readEscaped_89 rfl (lv_at hl 1 rfl) ?_
            refine lv_bipush (v := 120) hx hb dX4_readEscaped_90 (by decide) ?_
            refine lv_icmp_ne (tgt := 105) hx hb dX4_readEscaped_92 (by decide) (fun c_92 => ?_) (fun c_92 => ?_)
            · refine lv_aload_n hx hb dX4_readEscaped_105 rfl (lv_at hl 2 rfl) ?_
              have J_118 : ∀ v9 : Int32, v9 = (nI (zk_ud (zk_here N))) → W p l e (za_R 3 0 0) s m args below meth co H locs 0 0 Q (F0 m 118 ls (.int v9 :: [.ref (o 4)])) := by
                intro v_118 hv_118
                refine za_top (v := nI (zk_ud (zk_here N))) (hv_118) ?_
                refine za_ci (wc := zc_ws g o d N4) (wr := []) C hP hD hS [0, 1, 2, 3, 4, 5, 6, 7, 8, 9, 10, 11, 12, 13, 14, 15, 16] [] rfl rfl (by decide) (by decide) (za_runV C hP hD hS [0, 1, 2, 3, 4, 5, 6, 7, 8, 9, 10, 11, 12, 13, 14, 15, 16] rfl (by decide) rfl (kX4_readCode l g E o d N4 (zk_ud (zk_here N)) hI (by unfold zk_ud; split <;> decide)) w_611 mX4_readCode 4 rfl rfl rfl rfl hl.1 rfl (Nat.le_of_ble_eq_true rfl) dX4_readEscaped_118 ⟨Nat.le_of_ble_eq_true rfl, Nat.le_of_ble_eq_true rfl⟩ ⟨Nat.le_refl _, Nat.le_refl _⟩) (fun r5 N5 H locs hN5 hP hD hS => ?_)
                obtain ⟨hr5, hN5⟩ := hN5
                have hI : zc_I N5 := by rw [hN5]; exact zi_codes _ _ hI
                have hP : va_P g.1 vwCl (zc_ws g o d N5) H := hP
                have hD : va_D A (zc_ws g o d N5) := hD
                exact zc_riw hQ hx hb hr hlocks hK hP hD hS rfl (by unfold zk_esc; rw [← hv_21, if_neg (fun h9 => h9 c_24), if_neg (fun h9 => h9.1 c_39), if_neg (fun h9 => h9.2.1 c_65), if_neg c_92, ← hN4]; exact hr5) (by unfold zc_esc; rw [← hv_21, if_neg (fun h9 => h9 c_24), if_neg (fun h9 => h9.1 c_39), if_neg (fun h9 => h9.2.1 c_65), if_neg c_92, ← hN4]; exact hN5) (Nat.le_refl _) (Nat.le_refl _) dX4_readEscaped_121
              refine lv_iload_n hx hb dX4_readEscaped_106 rfl (lv_at hl 1 rfl) ?_
              refine lv_bipush (v := 117) hx hb dX4_readEscaped_107 (by decide) ?_
              refine lv_icmp_ne (tgt := 116) hx hb dX4_readEscaped_109 (by decide) (fun c_109 => ?_) (fun c_109 => ?_)
              · exact absurd c_65 c_109
              · refine lv_iconst (v := 4) hx hb dX4_readEscaped_112 (by decide) ?_
                refine lv_goto (tgt := 118) hx hb dX4_readEscaped_113 (by decide) ?_
                exact J_118 4 (by unfold zk_ud; first | (rw [if_pos c_109]; rfl) | (rw [if_neg c_109]; rfl))
            · exact absurd c_92 c_59
          · refine lv_iload_n hx hb dX4_readEscaped_68 rfl (lv_at hl 1 rfl) ?_
            refine lv_bipush (v := 85) hx hb dX4_readEscaped_69 (by decide) ?_
            refine lv_icmp_eq (tgt := 82) hx hb dX4_readEscaped_71 (by decide) (fun c_71 => ?_) (fun c_71 => ?_)
            · refine lv_aload_n hx hb dX4_readEscaped_82 rfl (lv_at hl 2 rfl) ?_
              refine va_get (ci := 4) (v := .ref (o 6)) hx hb hts iX4 hown hK hP 4 rfl rfl 0 (by decide) (hts _ w_211) (fun _ h9 => h9) rfl dX4_readEscaped_83 ?_
              refine za_cv (wc := zc_ws g o d N) (wr := []) C hP hD hS [0, 1, 2, 3, 4, 5, 6, 7, 8, 9, 10, 11, 12, 13, 14, 15, 16] [] rfl rfl (by decide) (by decide) (za_runV C hP hD hS [0, 1, 2, 3, 4, 5, 6, 7, 8, 9, 10, 11, 12, 13, 14, 15, 16] rfl (by decide) rfl (kX7_step l g E o d N  hI ) w_592 mX7_step 6 rfl rfl rfl rfl hl.1 rfl (Nat.le_of_ble_eq_true rfl) dX4_readEscaped_86 ⟨Nat.le_of_ble_eq_true rfl, Nat.le_of_ble_eq_true rfl⟩ ⟨Nat.le_refl _, Nat.le_refl _⟩) (fun N6 H locs hN6 hP hD hS => ?_)
              have hI : zc_I N6 := by rw [hN6]; exact zi_step hI
              have hP : va_P g.1 vwCl (zc_ws g o d N6) H := hP
              have hD : va_D A (zc_ws g o d N6) := hD
              refine lv_iload_n hx hb dX4_readEscaped_89 rfl (lv_at hl 1 rfl) ?_
              refine lv_bipush (v := 120) hx hb dX4_readEscaped_90 (by decide) ?_
              refine lv_icmp_ne (tgt := 105) hx hb dX4_readEscaped_92 (by decide) (fun c_92 => ?_) (fun c_92 => ?_)
              · refine lv_aload_n hx hb dX4_readEscaped_105 rfl (lv_at hl 2 rfl) ?_
                have J_118 : ∀ v9 : Int32, v9 = (nI (zk_ud (zk_here N))) → W p l e (za_R 3 0 0) s m args below meth co H locs 0 0 Q (F0 m 118 ls (.int v9 :: [.ref (o 4)])) := by
                  intro v_118 hv_118
                  refine za_top (v := nI (zk_ud (zk_here N))) (hv_118) ?_
                  refine za_ci (wc := zc_ws g o d N6) (wr := []) C hP hD hS [0, 1, 2, 3, 4, 5, 6, 7, 8, 9, 10, 11, 12, 13, 14, 15, 16] [] rfl rfl (by decide) (by decide) (za_runV C hP hD hS [0, 1, 2, 3, 4, 5, 6, 7, 8, 9, 10, 11, 12, 13, 14, 15, 16] rfl (by decide) rfl (kX4_readCode l g E o d N6 (zk_ud (zk_here N)) hI (by unfold zk_ud; split <;> decide)) w_611 mX4_readCode 4 rfl rfl rfl rfl hl.1 rfl (Nat.le_of_ble_eq_true rfl) dX4_readEscaped_118 ⟨Nat.le_of_ble_eq_true rfl, Nat.le_of_ble_eq_true rfl⟩ ⟨Nat.le_refl _, Nat.le_refl _⟩) (fun r7 N7 H locs hN7 hP hD hS => ?_)
                  obtain ⟨hr7, hN7⟩ := hN7
                  have hI : zc_I N7 := by rw [hN7]; exact zi_codes _ _ hI
                  have hP : va_P g.1 vwCl (zc_ws g o d N7) H := hP
                  have hD : va_D A (zc_ws g o d N7) := hD
                  exact zc_riw hQ hx hb hr hlocks hK hP hD hS rfl (by unfold zk_esc; rw [← hv_21, if_neg (fun h9 => h9 c_24), if_neg (fun h9 => h9.1 c_39), if_neg (fun h9 => h9.2.2 c_71), if_neg c_92, ← hN6]; exact hr7) (by unfold zc_esc; rw [← hv_21, if_neg (fun h9 => h9 c_24), if_neg (fun h9 => h9.1 c_39), if_neg (fun h9 => h9.2.2 c_71), if_neg c_92, ← hN6]; exact hN7) (Nat.le_refl _) (Nat.le_refl _) dX4_readEscaped_121
                refine lv_iload_n hx hb dX4_readEscaped_106 rfl (lv_at hl 1 rfl) ?_
                refine lv_bipush (v := 117) hx hb dX4_readEscaped_107 (by decide) ?_
                refine lv_icmp_ne (tgt := 116) hx hb dX4_readEscaped_109 (by decide) (fun c_109 => ?_) (fun c_109 => ?_)
                · refine lv_bipush (v := 8) hx hb dX4_readEscaped_116 (by decide) ?_
                  exact J_118 8 (by unfold zk_ud; first | (rw [if_pos c_109]; rfl) | (rw [if_neg c_109]; rfl))
                · exact absurd c_109 c_65
              · exact absurd c_92 c_59
            · refine lv_aload_n hx hb dX4_readEscaped_74 rfl (lv_at hl 2 rfl) ?_
              refine va_get (ci := 4) (v := .ref (o 6)) hx hb hts iX4 hown hK hP 4 rfl rfl 0 (by decide) (hts _ w_211) (fun _ h9 => h9) rfl dX4_readEscaped_75 ?_
              refine za_ci (wc := zc_ws g o d N) (wr := []) C hP hD hS [0, 1, 2, 3, 4, 5, 6, 7, 8, 9, 10, 11, 12, 13, 14, 15, 16] [] rfl rfl (by decide) (by decide) (za_runV C hP hD hS [0, 1, 2, 3, 4, 5, 6, 7, 8, 9, 10, 11, 12, 13, 14, 15, 16] rfl (by decide) rfl (kX7_refuse l g E o d N  hI ) w_610 mX7_refuse 6 rfl rfl rfl rfl hl.1 rfl (Nat.le_of_ble_eq_true rfl) dX4_readEscaped_78 ⟨Nat.le_of_ble_eq_true rfl, Nat.le_of_ble_eq_true rfl⟩ ⟨Nat.le_refl _, Nat.le_refl _⟩) (fun r8 N8 H locs hN8 hP hD hS => ?_)
              obtain ⟨hr8, hN8⟩ := hN8
              have hI : zc_I N8 := by rw [hN8]; exact zi_refuse hI
              have hP : va_P g.1 vwCl (zc_ws g o d N8) H := hP
              have hD : va_D A (zc_ws g o d N8) := hD
              exact zc_riw hQ hx hb hr hlocks hK hP hD hS rfl (by unfold zk_esc; rw [← hv_21, if_neg (fun h9 => h9 c_24), if_neg (fun h9 => h9.1 c_39), if_pos ⟨c_59, c_65, c_71⟩]; exact hr8) (by unfold zc_esc; rw [← hv_21, if_neg (fun h9 => h9 c_24), if_neg (fun h9 => h9.1 c_39), if_pos ⟨c_59, c_65, c_71⟩]; exact hN8) (Nat.le_refl _) (Nat.le_refl _) dX4_readEscaped_81
      · refine lv_iload_n hx hb dX4_readEscaped_42 rfl (lv_at hl 1 rfl) ?_
        refine lv_bipush (v := 51) hx hb dX4_readEscaped_43 (by decide) ?_
        refine lv_icmp_gt (tgt := 56) hx hb dX4_readEscaped_45 (by decide) (fun c_45 => ?_) (fun c_45 => ?_)
        · refine lv_iload_n hx hb dX4_readEscaped_56 rfl (lv_at hl 1 rfl) ?_
          refine lv_bipush (v := 120) hx hb dX4_readEscaped_57 (by decide) ?_
          refine lv_icmp_eq (tgt := 82) hx hb dX4_readEscaped_59 (by decide) (fun c_59 => ?_) (fun c_59 => ?_)
          · refine lv_aload_n hx hb dX4_readEscaped_82 rfl (lv_at hl 2 rfl) ?_
            refine va_get (ci := 4) (v := .ref (o 6)) hx hb hts iX4 hown hK hP 4 rfl rfl 0 (by decide) (hts _ w_211) (fun _ h9 => h9) rfl dX4_readEscaped_83 ?_
            refine za_cv (wc := zc_ws g o d N) (wr := []) C hP hD hS [0, 1, 2, 3, 4, 5, 6, 7, 8, 9, 10, 11, 12, 13, 14, 15, 16] [] rfl rfl (by decide) (by decide) (za_runV C hP hD hS [0, 1, 2, 3, 4, 5, 6, 7, 8, 9, 10, 11, 12, 13, 14, 15, 16] rfl (by decide) rfl (kX7_step l g E o d N  hI ) w_592 mX7_step 6 rfl rfl rfl rfl hl.1 rfl (Nat.le_of_ble_eq_true rfl) dX4_readEscaped_86 ⟨Nat.le_of_ble_eq_true rfl, Nat.le_of_ble_eq_true rfl⟩ ⟨Nat.le_refl _, Nat.le_refl _⟩) (fun N9 H locs hN9 hP hD hS => ?_)
            have hI : zc_I N9 := by rw [hN9]; exact zi_step hI
            have hP : va_P g.1 vwCl (zc_ws g o d N9) H := hP
            have hD : va_D A (zc_ws g o d N9) := hD
            refine lv_iload_n hx hb dX4_readEscaped_89 rfl (lv_at hl 1 rfl) ?_
            refine lv_bipush (v := 120) hx hb dX4_readEscaped_90 (by decide) ?_
            refine lv_icmp_ne (tgt := 105) hx hb dX4_readEscaped_92 (by decide) (fun c_92 => ?_) (fun c_92 => ?_)
            · exact absurd c_59 c_92
            · refine lv_aload_n hx hb dX4_readEscaped_95 rfl (lv_at hl 2 rfl) ?_
              refine lv_bipush (v := 16) hx hb dX4_readEscaped_96 (by decide) ?_
              refine lv_iconst (v := 2) hx hb dX4_readEscaped_98 (by decide) ?_
              refine za_ci (wc := zc_ws g o d N9) (wr := []) C hP hD hS [0, 1, 2, 3, 4, 5, 6, 7, 8, 9, 10, 11, 12, 13, 14, 15, 16] [] rfl rfl (by decide) (by decide) (za_runV C hP hD hS [0, 1, 2, 3, 4, 5, 6, 7, 8, 9, 10, 11, 12, 13, 14, 15, 16] rfl (by decide) rfl (kX4_readByte l g E o d N9 16 2 hI (by decide)) w_605 mX4_readByte 4 rfl rfl rfl rfl hl.1 rfl (Nat.le_of_ble_eq_true rfl) dX4_readEscaped_99 ⟨Nat.le_of_ble_eq_true rfl, Nat.le_of_ble_eq_true rfl⟩ ⟨Nat.le_refl _, Nat.le_refl _⟩) (fun r10 N10 H locs hN10 hP hD hS => ?_)
              obtain ⟨hr10, hN10⟩ := hN10
              have hI : zc_I N10 := by rw [hN10]; exact zi_byteV hI _ _
              have hP : va_P g.1 vwCl (zc_ws g o d N10) H := hP
              have hD : va_D A (zc_ws g o d N10) := hD
              refine lv_goto (tgt := 121) hx hb dX4_readEscaped_102 (by decide) ?_
              exact zc_riw hQ hx hb hr hlocks hK hP hD hS rfl (by unfold zk_esc; rw [← hv_21, if_neg (fun h9 => h9 c_24), if_neg (fun h9 => h9.2 c_45), if_neg (fun h9 => h9.1 c_59), if_pos c_92, ← hN9]; exact hr10) (by unfold zc_esc; rw [← hv_21, if_neg (fun h9 => h9 c_24), if_neg (fun h9 => h9.2 c_45), if_neg (fun h9 => h9.1 c_59), if_pos c_92, ← hN9]; exact hN10) (Nat.le_refl _) (Nat.le_refl _) dX4_readEscaped_121
          · refine lv_iload_n hx hb dX4_readEscaped_62 rfl (lv_at hl 1 rfl) ?_
            refine lv_bipush (v := 117) hx hb dX4_readEscaped_63 (by decide) ?_
            refine lv_icmp_eq (tgt := 82) hx hb dX4_readEscaped_65 (by decide) (fun c_65 => ?_) (fun c_65 => ?_)
            · refine lv_aload_n hx hb dX4_readEscaped_82 rfl (lv_at hl 2 rfl) ?_
              refine va_get (ci := 4) (v := .ref (o 6)) hx hb hts iX4 hown hK hP 4 rfl rfl 0 (by decide) (hts _ w_211) (fun _ h9 => h9) rfl dX4_readEscaped_83 ?_
              refine za_cv (wc := zc_ws g o d N) (wr := []) C hP hD hS [0, 1, 2, 3, 4, 5, 6, 7, 8, 9, 10, 11, 12, 13, 14, 15, 16] [] rfl rfl (by decide) (by decide) (za_runV C hP hD hS [0, 1, 2, 3, 4, 5, 6, 7, 8, 9, 10, 11, 12, 13, 14, 15, 16] rfl (by decide) rfl (kX7_step l g E o d N  hI ) w_592 mX7_step 6 rfl rfl rfl rfl hl.1 rfl (Nat.le_of_ble_eq_true rfl) dX4_readEscaped_86 ⟨Nat.le_of_ble_eq_true rfl, Nat.le_of_ble_eq_true rfl⟩ ⟨Nat.le_refl _, Nat.le_refl _⟩) (fun N11 H locs hN11 hP hD hS => ?_)
              have hI : zc_I N11 := by rw [hN11]; exact zi_step hI
              have hP : va_P g.1 vwCl (zc_ws g o d N11) H := hP
              have hD : va_D A (zc_ws g o d N11) := hD
              refine lv_iload_n hx hb dX4_readEscaped_89 rfl (lv_at hl 1 rfl) ?_
              refine lv_bipush (v := 120) hx hb dX4_readEscaped_90 (by decide) ?_
              refine lv_icmp_ne (tgt := 105) hx hb dX4_readEscaped_92 (by decide) (fun c_92 => ?_) (fun c_92 => ?_)
              · refine lv_aload_n hx hb dX4_readEscaped_105 rfl (lv_at hl 2 rfl) ?_
                have J_118 : ∀ v9 : Int32, v9 = (nI (zk_ud (zk_here N))) → W p l e (za_R 3 0 0) s m args below meth co H locs 0 0 Q (F0 m 118 ls (.int v9 :: [.ref (o 4)])) := by
                  intro v_118 hv_118
                  refine za_top (v := nI (zk_ud (zk_here N))) (hv_118) ?_
                  refine za_ci (wc := zc_ws g o d N11) (wr := []) C hP hD hS [0, 1, 2, 3, 4, 5, 6, 7, 8, 9, 10, 11, 12, 13, 14, 15, 16] [] rfl rfl (by decide) (by decide) (za_runV C hP hD hS [0, 1, 2, 3, 4, 5, 6, 7, 8, 9, 10, 11, 12, 13, 14, 15, 16] rfl (by decide) rfl (kX4_readCode l g E o d N11 (zk_ud (zk_here N)) hI (by unfold zk_ud; split <;> decide)) w_611 mX4_readCode 4 rfl rfl rfl rfl hl.1 rfl (Nat.le_of_ble_eq_true rfl) dX4_readEscaped_118 ⟨Nat.le_of_ble_eq_true rfl, Nat.le_of_ble_eq_true rfl⟩ ⟨Nat.le_refl _, Nat.le_refl _⟩) (fun r12 N12 H locs hN12 hP hD hS => ?_)
                  obtain ⟨hr12, hN12⟩ := hN12
                  have hI : zc_I N12 := by rw [hN12]; exact zi_codes _ _ hI
                  have hP : va_P g.1 vwCl (zc_ws g o d N12) H := hP
                  have hD : va_D A (zc_ws g o d N12) := hD
                  exact zc_riw hQ hx hb hr hlocks hK hP hD hS rfl (by unfold zk_esc; rw [← hv_21, if_neg (fun h9 => h9 c_24), if_neg (fun h9 => h9.2 c_45), if_neg (fun h9 => h9.2.1 c_65), if_neg c_92, ← hN11]; exact hr12) (by unfold zc_esc; rw [← hv_21, if_neg (fun h9 => h9 c_24), if_neg (fun h9 => h9.2 c_45), if_neg (fun h9 => h9.2.1 c_65), if_neg c_92, ← hN11]; exact hN12) (Nat.le_refl _) (Nat.le_refl _) dX4_readEscaped_121
                refine lv_iload_n hx hb dX4_readEscaped_106 rfl (lv_at hl 1 rfl) ?_
                refine lv_bipush (v := 117) hx hb dX4_readEscaped_107 (by decide) ?_
                refine lv_icmp_ne (tgt := 116) hx hb dX4_readEscaped_109 (by decide) (fun c_109 => ?_) (fun c_109 => ?_)
                · exact absurd c_65 c_109
                · refine lv_iconst (v := 4) hx hb dX4_readEscaped_112 (by decide) ?_
                  refine lv_goto (tgt := 118) hx hb dX4_readEscaped_113 (by decide) ?_
                  exact J_118 4 (by unfold zk_ud; first | (rw [if_pos c_109]; rfl) | (rw [if_neg c_109]; rfl))
              · exact absurd c_92 c_59
            · refine lv_iload_n hx hb dX4_readEscaped_68 rfl (lv_at hl 1 rfl) ?_
              refine lv_bipush (v := 85) hx hb dX4_readEscaped_69 (by decide) ?_
              refine lv_icmp_eq (tgt := 82) hx hb dX4_readEscaped_71 (by decide) (fun c_71 => ?_) (fun c_71 => ?_)
              · refine lv_aload_n hx hb dX4_readEscaped_82 rfl (lv_at hl 2 rfl) ?_
                refine va_get (ci := 4) (v := .ref (o 6)) hx hb hts iX4 hown hK hP 4 rfl rfl 0 (by decide) (hts _ w_211) (fun _ h9 => h9) rfl dX4_readEscaped_83 ?_
                refine za_cv (wc := zc_ws g o d N) (wr := []) C hP hD hS [0, 1, 2, 3, 4, 5, 6, 7, 8, 9, 10, 11, 12, 13, 14, 15, 16] [] rfl rfl (by decide) (by decide) (za_runV C hP hD hS [0, 1, 2, 3, 4, 5, 6, 7, 8, 9, 10, 11, 12, 13, 14, 15, 16] rfl (by decide) rfl (kX7_step l g E o d N  hI ) w_592 mX7_step 6 rfl rfl rfl rfl hl.1 rfl (Nat.le_of_ble_eq_true rfl) dX4_readEscaped_86 ⟨Nat.le_of_ble_eq_true rfl, Nat.le_of_ble_eq_true rfl⟩ ⟨Nat.le_refl _, Nat.le_refl _⟩) (fun N13 H locs hN13 hP hD hS => ?_)
                have hI : zc_I N13 := by rw [hN13]; exact zi_step hI
                have hP : va_P g.1 vwCl (zc_ws g o d N13) H := hP
                have hD : va_D A (zc_ws g o d N13) := hD
                refine lv_iload_n hx hb dX4_readEscaped_89 rfl (lv_at hl 1 rfl) ?_
                refine lv_bipush (v := 120) hx hb dX4_readEscaped_90 (by decide) ?_
                refine lv_icmp_ne (tgt := 105) hx hb dX4_readEscaped_92 (by decide) (fun c_92 => ?_) (fun c_92 => ?_)
                · refine lv_aload_n hx hb dX4_readEscaped_105 rfl (lv_at hl 2 rfl) ?_
                  have J_118 : ∀ v9 : Int32, v9 = (nI (zk_ud (zk_here N))) → W p l e (za_R 3 0 0) s m args below meth co H locs 0 0 Q (F0 m 118 ls (.int v9 :: [.ref (o 4)])) := by
                    intro v_118 hv_118
                    refine za_top (v := nI (zk_ud (zk_here N))) (hv_118) ?_
                    refine za_ci (wc := zc_ws g o d N13) (wr := []) C hP hD hS [0, 1, 2, 3, 4, 5, 6, 7, 8, 9, 10, 11, 12, 13, 14, 15, 16] [] rfl rfl (by decide) (by decide) (za_runV C hP hD hS [0, 1, 2, 3, 4, 5, 6, 7, 8, 9, 10, 11, 12, 13, 14, 15, 16] rfl (by decide) rfl (kX4_readCode l g E o d N13 (zk_ud (zk_here N)) hI (by unfold zk_ud; split <;> decide)) w_611 mX4_readCode 4 rfl rfl rfl rfl hl.1 rfl (Nat.le_of_ble_eq_true rfl) dX4_readEscaped_118 ⟨Nat.le_of_ble_eq_true rfl, Nat.le_of_ble_eq_true rfl⟩ ⟨Nat.le_refl _, Nat.le_refl _⟩) (fun r14 N14 H locs hN14 hP hD hS => ?_)
                    obtain ⟨hr14, hN14⟩ := hN14
                    have hI : zc_I N14 := by rw [hN14]; exact zi_codes _ _ hI
                    have hP : va_P g.1 vwCl (zc_ws g o d N14) H := hP
                    have hD : va_D A (zc_ws g o d N14) := hD
                    exact zc_riw hQ hx hb hr hlocks hK hP hD hS rfl (by unfold zk_esc; rw [← hv_21, if_neg (fun h9 => h9 c_24), if_neg (fun h9 => h9.2 c_45), if_neg (fun h9 => h9.2.2 c_71), if_neg c_92, ← hN13]; exact hr14) (by unfold zc_esc; rw [← hv_21, if_neg (fun h9 => h9 c_24), if_neg (fun h9 => h9.2 c_45), if_neg (fun h9 => h9.2.2 c_71), if_neg c_92, ← hN13]; exact hN14) (Nat.le_refl _) (Nat.le_refl _) dX4_readEscaped_121
                  refine lv_iload_n hx hb dX4_readEscaped_106 rfl (lv_at hl 1 rfl) ?_
                  refine lv_bipush (v := 117) hx hb dX4_readEscaped_107 (by decide) ?_
                  refine lv_icmp_ne (tgt := 116) hx hb dX4_readEscaped_109 (by decide) (fun c_109 => ?_) (fun c_109 => ?_)
                  · refine lv_bipush (v := 8) hx hb dX4_readEscaped_116 (by decide) ?_
                    exact J_118 8 (by unfold zk_ud; first | (rw [if_pos c_109]; rfl) | (rw [if_neg c_109]; rfl))
                  · exact absurd c_109 c_65
                · exact absurd c_92 c_59
              · refine lv_aload_n hx hb dX4_readEscaped_74 rfl (lv_at hl 2 rfl) ?_
                refine va_get (ci := 4) (v := .ref (o 6)) hx hb hts iX4 hown hK hP 4 rfl rfl 0 (by decide) (hts _ w_211) (fun _ h9 => h9) rfl dX4_readEscaped_75 ?_
                refine za_ci (wc := zc_ws g o d N) (wr := []) C hP hD hS [0, 1, 2, 3, 4, 5, 6, 7, 8, 9, 10, 11, 12, 13, 14, 15, 16] [] rfl rfl (by decide) (by decide) (za_runV C hP hD hS [0, 1, 2, 3, 4, 5, 6, 7, 8, 9, 10, 11, 12, 13, 14, 15, 16] rfl (by decide) rfl (kX7_refuse l g E o d N  hI ) w_610 mX7_refuse 6 rfl rfl rfl rfl hl.1 rfl (Nat.le_of_ble_eq_true rfl) dX4_readEscaped_78 ⟨Nat.le_of_ble_eq_true rfl, Nat.le_of_ble_eq_true rfl⟩ ⟨Nat.le_refl _, Nat.le_refl _⟩) (fun r15 N15 H locs hN15 hP hD hS => ?_)
                obtain ⟨hr15, hN15⟩ := hN15
                have hI : zc_I N15 := by rw [hN15]; exact zi_refuse hI
                have hP : va_P g.1 vwCl (zc_ws g o d N15) H := hP
                have hD : va_D A (zc_ws g o d N15) := hD
                exact zc_riw hQ hx hb hr hlocks hK hP hD hS rfl (by unfold zk_esc; rw [← hv_21, if_neg (fun h9 => h9 c_24), if_neg (fun h9 => h9.2 c_45), if_pos ⟨c_59, c_65, c_71⟩]; exact hr15) (by unfold zc_esc; rw [← hv_21, if_neg (fun h9 => h9 c_24), if_neg (fun h9 => h9.2 c_45), if_pos ⟨c_59, c_65, c_71⟩]; exact hN15) (Nat.le_refl _) (Nat.le_refl _) dX4_readEscaped_81
        · refine lv_aload_n hx hb dX4_readEscaped_48 rfl (lv_at hl 2 rfl) ?_
          refine lv_bipush (v := 8) hx hb dX4_readEscaped_49 (by decide) ?_
          refine lv_iconst (v := 3) hx hb dX4_readEscaped_51 (by decide) ?_
          refine za_ci (wc := zc_ws g o d N) (wr := []) C hP hD hS [0, 1, 2, 3, 4, 5, 6, 7, 8, 9, 10, 11, 12, 13, 14, 15, 16] [] rfl rfl (by decide) (by decide) (za_runV C hP hD hS [0, 1, 2, 3, 4, 5, 6, 7, 8, 9, 10, 11, 12, 13, 14, 15, 16] rfl (by decide) rfl (kX4_readByte l g E o d N 8 3 hI (by decide)) w_605 mX4_readByte 4 rfl rfl rfl rfl hl.1 rfl (Nat.le_of_ble_eq_true rfl) dX4_readEscaped_52 ⟨Nat.le_of_ble_eq_true rfl, Nat.le_of_ble_eq_true rfl⟩ ⟨Nat.le_refl _, Nat.le_refl _⟩) (fun r16 N16 H locs hN16 hP hD hS => ?_)
          obtain ⟨hr16, hN16⟩ := hN16
          have hI : zc_I N16 := by rw [hN16]; exact zi_byteV hI _ _
          have hP : va_P g.1 vwCl (zc_ws g o d N16) H := hP
          have hD : va_D A (zc_ws g o d N16) := hD
          exact zc_riw hQ hx hb hr hlocks hK hP hD hS rfl (by unfold zk_esc; rw [← hv_21, if_neg (fun h9 => h9 c_24), if_pos ⟨c_39, c_45⟩]; exact hr16) (by unfold zc_esc; rw [← hv_21, if_neg (fun h9 => h9 c_24), if_pos ⟨c_39, c_45⟩]; exact hN16) (Nat.le_refl _) (Nat.le_refl _) dX4_readEscaped_55
    · refine lv_aload_n hx hb dX4_readEscaped_27 rfl (lv_at hl 2 rfl) ?_
      refine va_get (ci := 4) (v := .ref (o 6)) hx hb hts iX4 hown hK hP 4 rfl rfl 0 (by decide) (hts _ w_211) (fun _ h9 => h9) rfl dX4_readEscaped_28 ?_
      refine za_cv (wc := zc_ws g o d N) (wr := []) C hP hD hS [0, 1, 2, 3, 4, 5, 6, 7, 8, 9, 10, 11, 12, 13, 14, 15, 16] [] rfl rfl (by decide) (by decide) (za_runV C hP hD hS [0, 1, 2, 3, 4, 5, 6, 7, 8, 9, 10, 11, 12, 13, 14, 15, 16] rfl (by decide) rfl (kX7_step l g E o d N  hI ) w_592 mX7_step 6 rfl rfl rfl rfl hl.1 rfl (Nat.le_of_ble_eq_true rfl) dX4_readEscaped_31 ⟨Nat.le_of_ble_eq_true rfl, Nat.le_of_ble_eq_true rfl⟩ ⟨Nat.le_refl _, Nat.le_refl _⟩) (fun N17 H locs hN17 hP hD hS => ?_)
      have hI : zc_I N17 := by rw [hN17]; exact zi_step hI
      have hP : va_P g.1 vwCl (zc_ws g o d N17) H := hP
      have hD : va_D A (zc_ws g o d N17) := hD
      refine lv_iload_n hx hb dX4_readEscaped_34 rfl (lv_at hl 0 rfl) ?_
      exact zc_riw hQ hx hb hr hlocks hK hP hD hS rfl (by unfold zk_esc; rw [← hv_21, if_pos c_24]) (by unfold zc_esc; rw [← hv_21, if_pos c_24]; exact hN17) (Nat.le_refl _) (Nat.le_refl _) dX4_readEscaped_35
  refine lv_iload_n hx hb dX4_readEscaped_8 rfl (lv_at hl 0 rfl) ?_
  refine lv_iload_n hx hb dX4_readEscaped_9 rfl (lv_at hl 2 rfl) ?_
  refine lv_icmp_ne (tgt := 17) hx hb dX4_readEscaped_10 (by decide) (fun c_10 => ?_) (fun c_10 => ?_)
  · refine lv_iload_n hx hb dX4_readEscaped_17 rfl (lv_at hl 0 rfl) ?_
    refine za_ci (wc := []) (wr := zc_ws g o d N) C hP hD hS [] [0, 1, 2, 3, 4, 5, 6, 7, 8, 9, 10, 11, 12, 13, 14, 15, 16] rfl rfl (by decide) (by decide) (za_runS C hP hD hS [] rfl (by decide) rfl (kX4_plainEscape l g E (zk_here N) ) w_602 mX4_plainEscape rfl hl.1 rfl (Nat.le_of_ble_eq_true rfl) dX4_readEscaped_18 ⟨Nat.le_of_ble_eq_true rfl, Nat.le_of_ble_eq_true rfl⟩ ⟨Nat.le_refl _, Nat.le_refl _⟩) (fun r18 _ H locs hr18 hP hD hS => ?_)
    subst hr18
    have hP : va_P g.1 vwCl (zc_ws g o d N) H := hP
    have hD : va_D A (zc_ws g o d N) := hD
    exact J_21 (zk_plain (zk_here N)) H locs hP hS (by unfold zk_plainQ; first | rw [if_pos c_10] | rw [if_neg c_10])
  · refine lv_iload_n hx hb dX4_readEscaped_13 rfl (lv_at hl 2 rfl) ?_
    refine lv_goto (tgt := 21) hx hb dX4_readEscaped_14 (by decide) ?_
    exact J_21 q H locs hP hS (by unfold zk_plainQ; first | rw [if_pos c_10] | rw [if_neg c_10])
set_option maxHeartbeats 4000000 in
set_option maxRecDepth 100000 in
theorem kX4_readCharacter (l : Launch) (g : za_G) (E : za_E) (o d : Nat → Nat) (N : zc_N) (q : Int32) (hI : zc_I N) : za_Ci l g E yX4_readCharacter cX4_readCharacter 3 ((some .int)) 4 0 0 [.ref (o 4), .int q] (zc_ws g o d N) (fun r (u : zc_N) => r = zk_rchar N q ∧ u = zc_rchar N q) (fun u => zc_ws g o d u) := by
  refine za_begin (by decide) (Nat.le_of_ble_eq_true rfl) RX4 rfl ?_
  intro p e s m args below meth co A ls Q H locs C hQ hr hlocks hnm hS hP hD hl
  obtain ⟨hx, hb, hml, hown, hts, hK, hA, hE⟩ := id C
  have hl : lv_has ls 3 [(0, .ref (o 4)), (1, .int q)] := hl
  refine lv_aload_n hx hb dX4_readCharacter_0 rfl (lv_at hl 0 rfl) ?_
  refine lv_iconst (v := 0) hx hb dX4_readCharacter_1 (by decide) ?_
  refine va_put (ci := 4) (fs := zc_f4 o d N.1) (v := .int 0) hx hb hts iX4 tyX4 tyX4_ok nmX4 hown hK hP hD hS 4 rfl rfl 2 (by decide) (hts _ w_213) (fun _ h9 => h9) rfl (tyX4_ok 2 (by decide)) rfl rfl (Nat.le_of_ble_eq_true rfl) dX4_readCharacter_2 (fun H locs hP hD hS => ?_)
  have hP := zc_pf42 (X := N) hP
  have hD := zc_df42 (X := N) hD
  have hI : zc_I (zc_s N 42 0) := hI
  refine lv_aload_n hx hb dX4_readCharacter_5 rfl (lv_at hl 0 rfl) ?_
  refine va_get (ci := 4) (v := .ref (o 6)) hx hb hts iX4 hown hK hP 4 rfl rfl 0 (by decide) (hts _ w_211) (fun _ h9 => h9) rfl dX4_readCharacter_6 ?_
  refine za_ci (wc := zc_ws g o d (zc_s N 42 0)) (wr := []) C hP hD hS [0, 1, 2, 3, 4, 5, 6, 7, 8, 9, 10, 11, 12, 13, 14, 15, 16] [] rfl rfl (by decide) (by decide) (za_runV C hP hD hS [0, 1, 2, 3, 4, 5, 6, 7, 8, 9, 10, 11, 12, 13, 14, 15, 16] rfl (by decide) rfl (kX7_here l g E o d (zc_s N 42 0)  hI ) w_597 mX7_here 6 rfl rfl rfl rfl hl.1 rfl (Nat.le_of_ble_eq_true rfl) dX4_readCharacter_9 ⟨Nat.le_of_ble_eq_true rfl, Nat.le_of_ble_eq_true rfl⟩ ⟨Nat.le_refl _, Nat.le_refl _⟩) (fun r1 _ H locs hr1 hP hD hS => ?_)
  subst hr1
  have hP : va_P g.1 vwCl (zc_ws g o d (zc_s N 42 0)) H := hP
  have hD : va_D A (zc_ws g o d (zc_s N 42 0)) := hD
  refine lv_istore_n (lv' := [(2, .int (zk_here (zc_s N 42 0))), (0, .ref (o 4)), (1, .int q)]) hx hb dX4_readCharacter_12 rfl hl (by decide) rfl (fun ls hl => ?_)
  refine lv_iload_n hx hb dX4_readCharacter_13 rfl (lv_at hl 0 rfl) ?_
  refine lv_bipush (v := 92) hx hb dX4_readCharacter_14 (by decide) ?_
  refine lv_icmp_ne (tgt := 32) hx hb dX4_readCharacter_16 (by decide) (fun c_16 => ?_) (fun c_16 => ?_)
  · refine lv_iload_n hx hb dX4_readCharacter_32 rfl (lv_at hl 0 rfl) ?_
    refine lv_iload_n hx hb dX4_readCharacter_33 rfl (lv_at hl 2 rfl) ?_
    refine lv_icmp_eq (tgt := 43) hx hb dX4_readCharacter_34 (by decide) (fun c_34 => ?_) (fun c_34 => ?_)
    · refine lv_aload_n hx hb dX4_readCharacter_43 rfl (lv_at hl 1 rfl) ?_
      refine va_get (ci := 4) (v := .ref (o 6)) hx hb hts iX4 hown hK hP 4 rfl rfl 0 (by decide) (hts _ w_211) (fun _ h9 => h9) rfl dX4_readCharacter_44 ?_
      refine za_ci (wc := zc_ws g o d (zc_s N 42 0)) (wr := []) C hP hD hS [0, 1, 2, 3, 4, 5, 6, 7, 8, 9, 10, 11, 12, 13, 14, 15, 16] [] rfl rfl (by decide) (by decide) (za_runV C hP hD hS [0, 1, 2, 3, 4, 5, 6, 7, 8, 9, 10, 11, 12, 13, 14, 15, 16] rfl (by decide) rfl (kX7_refuse l g E o d (zc_s N 42 0)  hI ) w_610 mX7_refuse 6 rfl rfl rfl rfl hl.1 rfl (Nat.le_of_ble_eq_true rfl) dX4_readCharacter_47 ⟨Nat.le_of_ble_eq_true rfl, Nat.le_of_ble_eq_true rfl⟩ ⟨Nat.le_refl _, Nat.le_refl _⟩) (fun r2 N2 H locs hN2 hP hD hS => ?_)
      obtain ⟨hr2, hN2⟩ := hN2
      have hI : zc_I N2 := by rw [hN2]; exact zi_refuse hI
      have hP : va_P g.1 vwCl (zc_ws g o d N2) H := hP
      have hD : va_D A (zc_ws g o d N2) := hD
      refine lv_goto (tgt := 60) hx hb dX4_readCharacter_50 (by decide) ?_
      exact zc_riw hQ hx hb hr hlocks hK hP hD hS rfl (by unfold zk_rchar; rw [if_neg (show ¬ zk_here N = 92 from c_16), if_pos (Or.inl (show zk_here N = q from c_34))]; exact hr2) (by unfold zc_rchar; rw [if_neg (show ¬ zk_here N = 92 from c_16), if_pos (Or.inl (show zk_here N = q from c_34))]; exact hN2) (Nat.le_refl _) (Nat.le_refl _) dX4_readCharacter_60
    · refine lv_iload_n hx hb dX4_readCharacter_37 rfl (lv_at hl 0 rfl) ?_
      refine lv_bipush (v := 10) hx hb dX4_readCharacter_38 (by decide) ?_
      refine lv_icmp_ne (tgt := 53) hx hb dX4_readCharacter_40 (by decide) (fun c_40 => ?_) (fun c_40 => ?_)
      · refine lv_aload_n hx hb dX4_readCharacter_53 rfl (lv_at hl 1 rfl) ?_
        refine va_get (ci := 4) (v := .ref (o 6)) hx hb hts iX4 hown hK hP 4 rfl rfl 0 (by decide) (hts _ w_211) (fun _ h9 => h9) rfl dX4_readCharacter_54 ?_
        refine za_ci (wc := zc_ws g o d (zc_s N 42 0)) (wr := []) C hP hD hS [0, 1, 2, 3, 4, 5, 6, 7, 8, 9, 10, 11, 12, 13, 14, 15, 16] [] rfl rfl (by decide) (by decide) (za_runV C hP hD hS [0, 1, 2, 3, 4, 5, 6, 7, 8, 9, 10, 11, 12, 13, 14, 15, 16] rfl (by decide) rfl (kX7_character l g E o d (zc_s N 42 0)  hI ) w_617 mX7_character 6 rfl rfl rfl rfl hl.1 rfl (Nat.le_of_ble_eq_true rfl) dX4_readCharacter_57 ⟨Nat.le_of_ble_eq_true rfl, Nat.le_of_ble_eq_true rfl⟩ ⟨Nat.le_refl _, Nat.le_refl _⟩) (fun r3 N3 H locs hN3 hP hD hS => ?_)
        obtain ⟨hr3, hN3⟩ := hN3
        have hI : zc_I N3 := by rw [hN3]; exact zi_char hI
        have hP : va_P g.1 vwCl (zc_ws g o d N3) H := hP
        have hD : va_D A (zc_ws g o d N3) := hD
        exact zc_riw hQ hx hb hr hlocks hK hP hD hS rfl (by unfold zk_rchar; rw [if_neg (show ¬ zk_here N = 92 from c_16), if_neg (show ¬ (zk_here N = q ∨ zk_here N = 10) from fun h9 => by rcases h9 with h9 | h9; exact c_34 h9; exact c_40 h9)]; exact hr3) (by unfold zc_rchar; rw [if_neg (show ¬ zk_here N = 92 from c_16), if_neg (show ¬ (zk_here N = q ∨ zk_here N = 10) from fun h9 => by rcases h9 with h9 | h9; exact c_34 h9; exact c_40 h9)]; exact hN3) (Nat.le_refl _) (Nat.le_refl _) dX4_readCharacter_60
      · refine lv_aload_n hx hb dX4_readCharacter_43 rfl (lv_at hl 1 rfl) ?_
        refine va_get (ci := 4) (v := .ref (o 6)) hx hb hts iX4 hown hK hP 4 rfl rfl 0 (by decide) (hts _ w_211) (fun _ h9 => h9) rfl dX4_readCharacter_44 ?_
        refine za_ci (wc := zc_ws g o d (zc_s N 42 0)) (wr := []) C hP hD hS [0, 1, 2, 3, 4, 5, 6, 7, 8, 9, 10, 11, 12, 13, 14, 15, 16] [] rfl rfl (by decide) (by decide) (za_runV C hP hD hS [0, 1, 2, 3, 4, 5, 6, 7, 8, 9, 10, 11, 12, 13, 14, 15, 16] rfl (by decide) rfl (kX7_refuse l g E o d (zc_s N 42 0)  hI ) w_610 mX7_refuse 6 rfl rfl rfl rfl hl.1 rfl (Nat.le_of_ble_eq_true rfl) dX4_readCharacter_47 ⟨Nat.le_of_ble_eq_true rfl, Nat.le_of_ble_eq_true rfl⟩ ⟨Nat.le_refl _, Nat.le_refl _⟩) (fun r4 N4 H locs hN4 hP hD hS => ?_)
        obtain ⟨hr4, hN4⟩ := hN4
        have hI : zc_I N4 := by rw [hN4]; exact zi_refuse hI
        have hP : va_P g.1 vwCl (zc_ws g o d N4) H := hP
        have hD : va_D A (zc_ws g o d N4) := hD
        refine lv_goto (tgt := 60) hx hb dX4_readCharacter_50 (by decide) ?_
        exact zc_riw hQ hx hb hr hlocks hK hP hD hS rfl (by unfold zk_rchar; rw [if_neg (show ¬ zk_here N = 92 from c_16), if_pos (Or.inr (show zk_here N = 10 from c_40))]; exact hr4) (by unfold zc_rchar; rw [if_neg (show ¬ zk_here N = 92 from c_16), if_pos (Or.inr (show zk_here N = 10 from c_40))]; exact hN4) (Nat.le_refl _) (Nat.le_refl _) dX4_readCharacter_60
  · refine lv_aload_n hx hb dX4_readCharacter_19 rfl (lv_at hl 1 rfl) ?_
    refine va_get (ci := 4) (v := .ref (o 6)) hx hb hts iX4 hown hK hP 4 rfl rfl 0 (by decide) (hts _ w_211) (fun _ h9 => h9) rfl dX4_readCharacter_20 ?_
    refine za_cv (wc := zc_ws g o d (zc_s N 42 0)) (wr := []) C hP hD hS [0, 1, 2, 3, 4, 5, 6, 7, 8, 9, 10, 11, 12, 13, 14, 15, 16] [] rfl rfl (by decide) (by decide) (za_runV C hP hD hS [0, 1, 2, 3, 4, 5, 6, 7, 8, 9, 10, 11, 12, 13, 14, 15, 16] rfl (by decide) rfl (kX7_step l g E o d (zc_s N 42 0)  hI ) w_592 mX7_step 6 rfl rfl rfl rfl hl.1 rfl (Nat.le_of_ble_eq_true rfl) dX4_readCharacter_23 ⟨Nat.le_of_ble_eq_true rfl, Nat.le_of_ble_eq_true rfl⟩ ⟨Nat.le_refl _, Nat.le_refl _⟩) (fun N5 H locs hN5 hP hD hS => ?_)
    have hI : zc_I N5 := by rw [hN5]; exact zi_step hI
    have hP : va_P g.1 vwCl (zc_ws g o d N5) H := hP
    have hD : va_D A (zc_ws g o d N5) := hD
    refine lv_aload_n hx hb dX4_readCharacter_26 rfl (lv_at hl 1 rfl) ?_
    refine lv_iload_n hx hb dX4_readCharacter_27 rfl (lv_at hl 2 rfl) ?_
    refine za_ci (wc := zc_ws g o d N5) (wr := []) C hP hD hS [0, 1, 2, 3, 4, 5, 6, 7, 8, 9, 10, 11, 12, 13, 14, 15, 16] [] rfl rfl (by decide) (by decide) (za_runV C hP hD hS [0, 1, 2, 3, 4, 5, 6, 7, 8, 9, 10, 11, 12, 13, 14, 15, 16] rfl (by decide) rfl (kX4_readEscaped l g E o d N5 q hI ) w_598 mX4_readEscaped 4 rfl rfl rfl rfl hl.1 rfl (Nat.le_of_ble_eq_true rfl) dX4_readCharacter_28 ⟨Nat.le_of_ble_eq_true rfl, Nat.le_of_ble_eq_true rfl⟩ ⟨Nat.le_refl _, Nat.le_refl _⟩) (fun r6 N6 H locs hN6 hP hD hS => ?_)
    obtain ⟨hr6, hN6⟩ := hN6
    have hI : zc_I N6 := by rw [hN6]; exact zi_esc hI _
    have hP : va_P g.1 vwCl (zc_ws g o d N6) H := hP
    have hD : va_D A (zc_ws g o d N6) := hD
    exact zc_riw hQ hx hb hr hlocks hK hP hD hS rfl (by unfold zk_rchar; rw [if_pos (show zk_here N = 92 from c_16), ← hN5]; exact hr6) (by unfold zc_rchar; rw [if_pos (show zk_here N = 92 from c_16), ← hN5]; exact hN6) (Nat.le_refl _) (Nat.le_refl _) dX4_readCharacter_31
set_option maxHeartbeats 4000000 in
set_option maxRecDepth 100000 in
theorem kX4_readRune (l : Launch) (g : za_G) (E : za_E) (o d : Nat → Nat) (N : zc_N)  (hI : zc_I N) : za_Ci l g E yX4_readRune cX4_readRune 2 ((some .int)) 5 0 0 [.ref (o 4)] (zc_ws g o d N) (fun r (u : zc_N) => r = zk_rune N ∧ u = zc_rune N) (fun u => zc_ws g o d u) := by
  refine za_begin (by decide) (Nat.le_of_ble_eq_true rfl) RX4 rfl ?_
  intro p e s m args below meth co A ls Q H locs C hQ hr hlocks hnm hS hP hD hl
  obtain ⟨hx, hb, hml, hown, hts, hK, hA, hE⟩ := id C
  have hl : lv_has ls 2 [(0, .ref (o 4))] := hl
  refine lv_aload_n hx hb dX4_readRune_0 rfl (lv_at hl 0 rfl) ?_
  refine va_get (ci := 4) (v := .ref (o 6)) hx hb hts iX4 hown hK hP 4 rfl rfl 0 (by decide) (hts _ w_211) (fun _ h9 => h9) rfl dX4_readRune_1 ?_
  refine za_cv (wc := zc_ws g o d N) (wr := []) C hP hD hS [0, 1, 2, 3, 4, 5, 6, 7, 8, 9, 10, 11, 12, 13, 14, 15, 16] [] rfl rfl (by decide) (by decide) (za_runV C hP hD hS [0, 1, 2, 3, 4, 5, 6, 7, 8, 9, 10, 11, 12, 13, 14, 15, 16] rfl (by decide) rfl (kX7_step l g E o d N  hI ) w_592 mX7_step 6 rfl rfl rfl rfl hl.1 rfl (Nat.le_of_ble_eq_true rfl) dX4_readRune_4 ⟨Nat.le_of_ble_eq_true rfl, Nat.le_of_ble_eq_true rfl⟩ ⟨Nat.le_refl _, Nat.le_refl _⟩) (fun N1 H locs hN1 hP hD hS => ?_)
  have hI : zc_I N1 := by rw [hN1]; exact zi_step hI
  have hP : va_P g.1 vwCl (zc_ws g o d N1) H := hP
  have hD : va_D A (zc_ws g o d N1) := hD
  refine lv_aload_n hx hb dX4_readRune_7 rfl (lv_at hl 0 rfl) ?_
  refine lv_bipush (v := 39) hx hb dX4_readRune_8 (by decide) ?_
  refine za_ci (wc := zc_ws g o d N1) (wr := []) C hP hD hS [0, 1, 2, 3, 4, 5, 6, 7, 8, 9, 10, 11, 12, 13, 14, 15, 16] [] rfl rfl (by decide) (by decide) (za_runV C hP hD hS [0, 1, 2, 3, 4, 5, 6, 7, 8, 9, 10, 11, 12, 13, 14, 15, 16] rfl (by decide) rfl (kX4_readCharacter l g E o d N1 39 hI ) w_593 mX4_readCharacter 4 rfl rfl rfl rfl hl.1 rfl (Nat.le_of_ble_eq_true rfl) dX4_readRune_10 ⟨Nat.le_of_ble_eq_true rfl, Nat.le_of_ble_eq_true rfl⟩ ⟨Nat.le_refl _, Nat.le_refl _⟩) (fun r2 N2 H locs hN2 hP hD hS => ?_)
  obtain ⟨hr2, hN2⟩ := hN2
  have hI : zc_I N2 := by rw [hN2]; exact zi_rchar hI _
  have hP : va_P g.1 vwCl (zc_ws g o d N2) H := hP
  have hD : va_D A (zc_ws g o d N2) := hD
  refine lv_istore_n (lv' := [(1, .int r2), (0, .ref (o 4))]) hx hb dX4_readRune_13 rfl hl (by decide) rfl (fun ls hl => ?_)
  refine lv_iload_n hx hb dX4_readRune_14 rfl (lv_at hl 0 rfl) ?_
  refine lv_iconst (v := (-1)) hx hb dX4_readRune_15 (by decide) ?_
  refine lv_icmp_ne (tgt := 21) hx hb dX4_readRune_16 (by decide) (fun c_16 => ?_) (fun c_16 => ?_)
  · refine lv_aload_n hx hb dX4_readRune_21 rfl (lv_at hl 1 rfl) ?_
    refine va_get (ci := 4) (v := .ref (o 6)) hx hb hts iX4 hown hK hP 4 rfl rfl 0 (by decide) (hts _ w_211) (fun _ h9 => h9) rfl dX4_readRune_22 ?_
    refine za_ci (wc := zc_ws g o d N2) (wr := []) C hP hD hS [0, 1, 2, 3, 4, 5, 6, 7, 8, 9, 10, 11, 12, 13, 14, 15, 16] [] rfl rfl (by decide) (by decide) (za_runV C hP hD hS [0, 1, 2, 3, 4, 5, 6, 7, 8, 9, 10, 11, 12, 13, 14, 15, 16] rfl (by decide) rfl (kX7_here l g E o d N2  hI ) w_597 mX7_here 6 rfl rfl rfl rfl hl.1 rfl (Nat.le_of_ble_eq_true rfl) dX4_readRune_25 ⟨Nat.le_of_ble_eq_true rfl, Nat.le_of_ble_eq_true rfl⟩ ⟨Nat.le_refl _, Nat.le_refl _⟩) (fun r3 _ H locs hr3 hP hD hS => ?_)
    subst hr3
    have hP : va_P g.1 vwCl (zc_ws g o d N2) H := hP
    have hD : va_D A (zc_ws g o d N2) := hD
    refine lv_bipush (v := 39) hx hb dX4_readRune_28 (by decide) ?_
    refine lv_icmp_eq (tgt := 41) hx hb dX4_readRune_30 (by decide) (fun c_30 => ?_) (fun c_30 => ?_)
    · refine lv_aload_n hx hb dX4_readRune_41 rfl (lv_at hl 1 rfl) ?_
      refine va_get (ci := 4) (v := .ref (o 6)) hx hb hts iX4 hown hK hP 4 rfl rfl 0 (by decide) (hts _ w_211) (fun _ h9 => h9) rfl dX4_readRune_42 ?_
      refine za_cv (wc := zc_ws g o d N2) (wr := []) C hP hD hS [0, 1, 2, 3, 4, 5, 6, 7, 8, 9, 10, 11, 12, 13, 14, 15, 16] [] rfl rfl (by decide) (by decide) (za_runV C hP hD hS [0, 1, 2, 3, 4, 5, 6, 7, 8, 9, 10, 11, 12, 13, 14, 15, 16] rfl (by decide) rfl (kX7_step l g E o d N2  hI ) w_592 mX7_step 6 rfl rfl rfl rfl hl.1 rfl (Nat.le_of_ble_eq_true rfl) dX4_readRune_45 ⟨Nat.le_of_ble_eq_true rfl, Nat.le_of_ble_eq_true rfl⟩ ⟨Nat.le_refl _, Nat.le_refl _⟩) (fun N4 H locs hN4 hP hD hS => ?_)
      have hI : zc_I N4 := by rw [hN4]; exact zi_step hI
      have hP : va_P g.1 vwCl (zc_ws g o d N4) H := hP
      have hD : va_D A (zc_ws g o d N4) := hD
      refine lv_iload_n hx hb dX4_readRune_48 rfl (lv_at hl 0 rfl) ?_
      exact zc_riw hQ hx hb hr hlocks hK hP hD hS rfl (by unfold zk_rune; rw [← hN1, ← hr2, if_neg c_16, ← hN2, if_pos c_30]) (by unfold zc_rune; rw [← hN1, ← hr2, if_neg c_16, ← hN2, if_pos c_30]; exact hN4) (Nat.le_refl _) (Nat.le_refl _) dX4_readRune_49
    · refine lv_aload_n hx hb dX4_readRune_33 rfl (lv_at hl 1 rfl) ?_
      refine va_get (ci := 4) (v := .ref (o 6)) hx hb hts iX4 hown hK hP 4 rfl rfl 0 (by decide) (hts _ w_211) (fun _ h9 => h9) rfl dX4_readRune_34 ?_
      refine za_ci (wc := zc_ws g o d N2) (wr := []) C hP hD hS [0, 1, 2, 3, 4, 5, 6, 7, 8, 9, 10, 11, 12, 13, 14, 15, 16] [] rfl rfl (by decide) (by decide) (za_runV C hP hD hS [0, 1, 2, 3, 4, 5, 6, 7, 8, 9, 10, 11, 12, 13, 14, 15, 16] rfl (by decide) rfl (kX7_refuse l g E o d N2  hI ) w_610 mX7_refuse 6 rfl rfl rfl rfl hl.1 rfl (Nat.le_of_ble_eq_true rfl) dX4_readRune_37 ⟨Nat.le_of_ble_eq_true rfl, Nat.le_of_ble_eq_true rfl⟩ ⟨Nat.le_refl _, Nat.le_refl _⟩) (fun r5 N5 H locs hN5 hP hD hS => ?_)
      obtain ⟨hr5, hN5⟩ := hN5
      have hI : zc_I N5 := by rw [hN5]; exact zi_refuse hI
      have hP : va_P g.1 vwCl (zc_ws g o d N5) H := hP
      have hD : va_D A (zc_ws g o d N5) := hD
      exact zc_riw hQ hx hb hr hlocks hK hP hD hS rfl (by unfold zk_rune; rw [← hN1, ← hr2, if_neg c_16, ← hN2, if_neg c_30]; exact hr5) (by unfold zc_rune; rw [← hN1, ← hr2, if_neg c_16, ← hN2, if_neg c_30]; exact hN5) (Nat.le_refl _) (Nat.le_refl _) dX4_readRune_40
  · refine lv_iconst (v := (-1)) hx hb dX4_readRune_19 (by decide) ?_
    exact zc_riw hQ hx hb hr hlocks hK hP hD hS rfl (by unfold zk_rune; rw [← hN1, ← hr2, if_pos c_16]) (by unfold zc_rune; rw [← hN1, ← hr2, if_pos c_16]; exact hN2) (Nat.le_refl _) (Nat.le_refl _) dX4_readRune_20
set_option maxHeartbeats 4000000 in
set_option maxRecDepth 100000 in
theorem kL_str (l : Launch) (g : za_G) (E : za_E) (o d : Nat → Nat) (N : zc_N)   {p : Program} {e : Env} {s : State} {m : MethodId} {args : Array Value} {below : List Frame} {meth : Method} {co : Code} {A : Nat → Prop} {Q : State → Prop} (C : za_H p s m args co cX4_readString 3 RX4 g E A) (hQ : Q = MQ below (za_qi g (fun r (u : zc_N × (Nat → Nat)) => r = zk_str zk_F (zc_step N) ∧ u.1 = zc_str zk_F (zc_step N)) (fun u => zc_ws g o u.2 u.1) A) args s (zc_L (zc_str zk_F (zc_step N)) - zc_L N) (2 * (zc_L (zc_str zk_F (zc_step N)) - zc_L N)) A) (hr : meth.sig.returnType = (some .boolean)) (hlocks : meth.locks = false)  : ∀ (n_ : Nat) (k : Nat) (X : zc_N), (k ≤ 65536) → (zk_str zk_F (zc_step N) = zk_str k X ∧ zc_str zk_F (zc_step N) = zc_str k X) → k < n_ → ∀ (d1 : Nat → Nat) (cells slots : Nat) (H : Heap) (locs : List Loc) (ls : Array Slot), va_S A s.heap H locs → va_P g.1 vwCl (zc_ws g o d1 X) H → va_D A (zc_ws g o d1 X) → zb_c N X cells slots → zc_I X → lv_has ls 3 [(0, .ref (o 4)), (1, .int (nI (65536 - k)))] → W p l e (za_R 5 (zc_rc N) (zc_rs N)) s m args below meth co H locs cells slots Q (F0 m 9 ls []) := by
  obtain ⟨hx, hb, hml, hown, hts, hK, hA, hE⟩ := id C
  intro n_
  induction n_ with
  | zero => intro k X hk6 hres hm; exact absurd hm (Nat.not_lt_zero _)
  | succ n_ ih =>
    intro k X hk6 hres hm d1 cells slots H locs ls hS hP hD hc hI hl
    refine lv_iload_n hx hb dX4_readString_9 rfl (lv_at hl 1 rfl) ?_
    refine lv_ldc (v := 65536) hx hb hown (hts _ w_626) dX4_readString_10 ?_
    refine za_icmp_ge (tgt := 73) hx hb dX4_readString_12 (by decide) (fun c_12 => ?_) (fun c_12 => ?_)
    · have hk0 : k = 0 := by
        cases k with
        | zero => rfl
        | succ kk => exact absurd (nI_lt (show 65536 - (kk + 1) < 65536 by omega) (by decide)) c_12
      refine lv_aload_n hx hb dX4_readString_73 rfl (lv_at hl 0 rfl) ?_
      refine va_get (ci := 4) (v := .ref (o 6)) hx hb hts iX4 hown hK hP 4 rfl rfl 0 (by decide) (hts _ w_211) (fun _ h9 => h9) rfl dX4_readString_74 ?_
      refine za_cv (wc := zc_ws g o d1 X) (wr := []) C hP hD hS [0, 1, 2, 3, 4, 5, 6, 7, 8, 9, 10, 11, 12, 13, 14, 15, 16] [] rfl rfl (by decide) (by decide) (za_runV C hP hD hS [0, 1, 2, 3, 4, 5, 6, 7, 8, 9, 10, 11, 12, 13, 14, 15, 16] rfl (by decide) rfl (kX7_step l g E o d1 X  hI ) w_592 mX7_step 6 rfl rfl rfl rfl hl.1 rfl (Nat.le_of_ble_eq_true rfl) dX4_readString_77 ⟨Nat.le_of_ble_eq_true rfl, Nat.le_of_ble_eq_true rfl⟩ (hc.le0 (zc_L_le hI))) (fun N1 H locs hN1 hP hD hS => ?_)
      have hI : zc_I N1 := by rw [hN1]; exact zi_step hI
      have hc : zb_c N N1 cells slots := by rw [hN1]; exact hc.eq zL_step
      have hP : va_P g.1 vwCl (zc_ws g o d1 N1) H := hP
      have hD : va_D A (zc_ws g o d1 N1) := hD
      refine lv_iconst (v := 1) hx hb dX4_readString_80 (by decide) ?_
      exact zc_rig hQ hx hb hr hlocks hK hP hD hS hc rfl (by rw [hres.1, hk0]; rfl) (by rw [hres.2, hk0]; exact hN1) dX4_readString_81
    · obtain ⟨kk, hk1⟩ : ∃ kk, k = kk + 1 := by
        cases k with
        | zero => exact absurd c_12 (by decide)
        | succ kk => exact ⟨kk, rfl⟩
      refine lv_aload_n hx hb dX4_readString_15 rfl (lv_at hl 0 rfl) ?_
      refine va_get (ci := 4) (v := .ref (o 6)) hx hb hts iX4 hown hK hP 4 rfl rfl 0 (by decide) (hts _ w_211) (fun _ h9 => h9) rfl dX4_readString_16 ?_
      refine za_ci (wc := zc_ws g o d1 X) (wr := []) C hP hD hS [0, 1, 2, 3, 4, 5, 6, 7, 8, 9, 10, 11, 12, 13, 14, 15, 16] [] rfl rfl (by decide) (by decide) (za_runV C hP hD hS [0, 1, 2, 3, 4, 5, 6, 7, 8, 9, 10, 11, 12, 13, 14, 15, 16] rfl (by decide) rfl (kX7_here l g E o d1 X  hI ) w_597 mX7_here 6 rfl rfl rfl rfl hl.1 rfl (Nat.le_of_ble_eq_true rfl) dX4_readString_19 ⟨Nat.le_of_ble_eq_true rfl, Nat.le_of_ble_eq_true rfl⟩ (hc.le0 (zc_L_le hI))) (fun r2 _ H locs hr2 hP hD hS => ?_)
      subst hr2
      have hP : va_P g.1 vwCl (zc_ws g o d1 X) H := hP
      have hD : va_D A (zc_ws g o d1 X) := hD
      refine lv_bipush (v := 34) hx hb dX4_readString_22 (by decide) ?_
      refine lv_icmp_eq (tgt := 73) hx hb dX4_readString_24 (by decide) (fun c_24 => ?_) (fun c_24 => ?_)
      · refine lv_aload_n hx hb dX4_readString_73 rfl (lv_at hl 0 rfl) ?_
        refine va_get (ci := 4) (v := .ref (o 6)) hx hb hts iX4 hown hK hP 4 rfl rfl 0 (by decide) (hts _ w_211) (fun _ h9 => h9) rfl dX4_readString_74 ?_
        refine za_cv (wc := zc_ws g o d1 X) (wr := []) C hP hD hS [0, 1, 2, 3, 4, 5, 6, 7, 8, 9, 10, 11, 12, 13, 14, 15, 16] [] rfl rfl (by decide) (by decide) (za_runV C hP hD hS [0, 1, 2, 3, 4, 5, 6, 7, 8, 9, 10, 11, 12, 13, 14, 15, 16] rfl (by decide) rfl (kX7_step l g E o d1 X  hI ) w_592 mX7_step 6 rfl rfl rfl rfl hl.1 rfl (Nat.le_of_ble_eq_true rfl) dX4_readString_77 ⟨Nat.le_of_ble_eq_true rfl, Nat.le_of_ble_eq_true rfl⟩ (hc.le0 (zc_L_le hI))) (fun N3 H locs hN3 hP hD hS => ?_)
        have hI : zc_I N3 := by rw [hN3]; exact zi_step hI
        have hc : zb_c N N3 cells slots := by rw [hN3]; exact hc.eq zL_step
        have hP : va_P g.1 vwCl (zc_ws g o d1 N3) H := hP
        have hD : va_D A (zc_ws g o d1 N3) := hD
        refine lv_iconst (v := 1) hx hb dX4_readString_80 (by decide) ?_
        exact zc_rig hQ hx hb hr hlocks hK hP hD hS hc rfl (by rw [hres.1, zk_str_s hk1, if_pos c_24]) (by rw [hres.2, zc_str_s hk1, if_pos c_24]; exact hN3) dX4_readString_81
      · refine lv_aload_n hx hb dX4_readString_27 rfl (lv_at hl 0 rfl) ?_
        refine lv_bipush (v := 34) hx hb dX4_readString_28 (by decide) ?_
        refine za_ci (wc := zc_ws g o d1 X) (wr := []) C hP hD hS [0, 1, 2, 3, 4, 5, 6, 7, 8, 9, 10, 11, 12, 13, 14, 15, 16] [] rfl rfl (by decide) (by decide) (za_runV C hP hD hS [0, 1, 2, 3, 4, 5, 6, 7, 8, 9, 10, 11, 12, 13, 14, 15, 16] rfl (by decide) rfl (kX4_readCharacter l g E o d1 X 34 hI ) w_593 mX4_readCharacter 4 rfl rfl rfl rfl hl.1 rfl (Nat.le_of_ble_eq_true rfl) dX4_readString_30 ⟨Nat.le_of_ble_eq_true rfl, Nat.le_of_ble_eq_true rfl⟩ (hc.le0 (zc_L_le hI))) (fun r4 N4 H locs hN4 hP hD hS => ?_)
        obtain ⟨hr4, hN4⟩ := hN4
        have hI : zc_I N4 := by rw [hN4]; exact zi_rchar hI _
        have hc : zb_c N N4 cells slots := by rw [hN4]; exact hc.eq zL_rchar
        have hP : va_P g.1 vwCl (zc_ws g o d1 N4) H := hP
        have hD : va_D A (zc_ws g o d1 N4) := hD
        refine lv_istore_n (lv' := [(2, .int r4), (0, .ref (o 4)), (1, .int (nI (65536 - k)))]) hx hb dX4_readString_33 rfl hl (by decide) rfl (fun ls hl => ?_)
        refine lv_iload_n hx hb dX4_readString_34 rfl (lv_at hl 0 rfl) ?_
        refine lv_iconst (v := (-1)) hx hb dX4_readString_35 (by decide) ?_
        refine lv_icmp_ne (tgt := 41) hx hb dX4_readString_36 (by decide) (fun c_36 => ?_) (fun c_36 => ?_)
        · refine lv_aload_n hx hb dX4_readString_41 rfl (lv_at hl 1 rfl) ?_
          refine va_get (ci := 4) (v := .int (N4.1 42)) hx hb hts iX4 hown hK hP 4 rfl rfl 2 (by decide) (hts _ w_213) (fun _ h9 => h9) rfl dX4_readString_42 ?_
          refine lv_if_eq (tgt := 59) hx hb dX4_readString_45 (by decide) (fun c_45 => ?_) (fun c_45 => ?_)
          · refine lv_aload_n hx hb dX4_readString_59 rfl (lv_at hl 1 rfl) ?_
            refine va_get (ci := 4) (v := .ref (o 0)) hx hb hts iX4 hown hK hP 4 rfl rfl 1 (by decide) (hts _ w_212) (fun _ h9 => h9) rfl dX4_readString_60 ?_
            refine lv_iload_n hx hb dX4_readString_63 rfl (lv_at hl 0 rfl) ?_
            refine zc_callv C hP hD hS hc (zl_appendCode _) (zb_runV C hP hD hS [0, 1, 2, 3, 4, 5, 6, 7, 8, 9, 10, 11, 12, 13, 14, 15, 16] rfl (by decide) rfl (kX0_appendCode l g E o d1 N4 r4 hI ) w_628 mX0_appendCode 0 rfl rfl rfl rfl hl.1 rfl (Nat.le_of_ble_eq_true rfl) dX4_readString_64 ⟨Nat.le_of_ble_eq_true rfl, Nat.le_of_ble_eq_true rfl⟩ (hc.room (zc_L_le hI))) (fun N5 d5 H locs cells slots hN5 hc hP hD hS => ?_)
            have hI : zc_I N5 := by rw [hN5]; exact zi_appendCode hI _
            refine lv_iinc (v := nI (65536 - kk)) (lv' := [(1, .int (nI (65536 - kk))), (2, .int r4), (0, .ref (o 4))]) hx hb dX4_readString_67 hl (k := 2) rfl ((nI_1 _).trans (congrArg nI (by omega))) (by decide) rfl (fun ls hl => ?_)
            refine lv_goto (tgt := 9) hx hb dX4_readString_70 (by decide) ?_
            exact ih kk N5 (by omega) (⟨by rw [hres.1, zk_str_s hk1, if_neg c_24, ← hr4, if_neg c_36, show zc_kept X = N5 from (show N5 = zc_kept X from (by unfold zc_kept; rw [← hN4, ← hr4, if_pos c_45]; exact hN5)).symm], by rw [hres.2, zc_str_s hk1, if_neg c_24, ← hr4, if_neg c_36, show zc_kept X = N5 from (show N5 = zc_kept X from (by unfold zc_kept; rw [← hN4, ← hr4, if_pos c_45]; exact hN5)).symm]⟩) (by omega) d5 cells slots H locs ls hS hP hD hc hI (lv_sub hl [2, 0] rfl)
          · refine lv_aload_n hx hb dX4_readString_48 rfl (lv_at hl 1 rfl) ?_
            refine va_get (ci := 4) (v := .ref (o 0)) hx hb hts iX4 hown hK hP 4 rfl rfl 1 (by decide) (hts _ w_212) (fun _ h9 => h9) rfl dX4_readString_49 ?_
            refine lv_iload_n hx hb dX4_readString_52 rfl (lv_at hl 0 rfl) ?_
            refine zc_callv C hP hD hS hc (zl_append _) (zb_runV C hP hD hS [0, 1, 2, 3, 4, 5, 6, 7, 8, 9, 10, 11, 12, 13, 14, 15, 16] rfl (by decide) rfl (kX0_append l g E o d1 N4 r4 hI ) w_627 mX0_append 0 rfl rfl rfl rfl hl.1 rfl (Nat.le_of_ble_eq_true rfl) dX4_readString_53 ⟨Nat.le_of_ble_eq_true rfl, Nat.le_of_ble_eq_true rfl⟩ (hc.room (zc_L_le hI))) (fun N6 d6 H locs cells slots hN6 hc hP hD hS => ?_)
            have hI : zc_I N6 := by rw [hN6]; exact zi_append hI _
            refine lv_goto (tgt := 67) hx hb dX4_readString_56 (by decide) ?_
            refine lv_iinc (v := nI (65536 - kk)) (lv' := [(1, .int (nI (65536 - kk))), (2, .int r4), (0, .ref (o 4))]) hx hb dX4_readString_67 hl (k := 2) rfl ((nI_1 _).trans (congrArg nI (by omega))) (by decide) rfl (fun ls hl => ?_)
            refine lv_goto (tgt := 9) hx hb dX4_readString_70 (by decide) ?_
            exact ih kk N6 (by omega) (⟨by rw [hres.1, zk_str_s hk1, if_neg c_24, ← hr4, if_neg c_36, show zc_kept X = N6 from (show N6 = zc_kept X from (by unfold zc_kept; rw [← hN4, ← hr4, if_neg c_45]; exact hN6)).symm], by rw [hres.2, zc_str_s hk1, if_neg c_24, ← hr4, if_neg c_36, show zc_kept X = N6 from (show N6 = zc_kept X from (by unfold zc_kept; rw [← hN4, ← hr4, if_neg c_45]; exact hN6)).symm]⟩) (by omega) d6 cells slots H locs ls hS hP hD hc hI (lv_sub hl [2, 0] rfl)
        · refine lv_iconst (v := 0) hx hb dX4_readString_39 (by decide) ?_
          exact zc_rig hQ hx hb hr hlocks hK hP hD hS hc rfl (by rw [hres.1, zk_str_s hk1, if_neg c_24, ← hr4, if_pos c_36]) (by rw [hres.2, zc_str_s hk1, if_neg c_24, ← hr4, if_pos c_36]; exact hN4) dX4_readString_40
set_option maxHeartbeats 4000000 in
set_option maxRecDepth 100000 in
theorem kX4_readString (l : Launch) (g : za_G) (E : za_E) (o d : Nat → Nat) (N : zc_N)  (hI : zc_I N) : zb_Ci l g E yX4_readString cX4_readString 3 ((some .boolean)) 5 (zc_rc N) (zc_rs N) (zc_L (zc_str zk_F (zc_step N)) - zc_L N) (2 * (zc_L (zc_str zk_F (zc_step N)) - zc_L N)) [.ref (o 4)] (zc_ws g o d N) (fun r (u : zc_N × (Nat → Nat)) => r = zk_str zk_F (zc_step N) ∧ u.1 = zc_str zk_F (zc_step N)) (fun u => zc_ws g o u.2 u.1) := by
  refine zb_begin (by decide) (Nat.le_of_ble_eq_true rfl) RX4 rfl ?_
  intro p e s m args below meth co A ls Q H locs C hQ hr hlocks hnm hS hP hD hl
  obtain ⟨hx, hb, hml, hown, hts, hK, hA, hE⟩ := id C
  have hl : lv_has ls 3 [(0, .ref (o 4))] := hl
  have hc : zb_c N N 0 0 := zb_c.rf
  revert hc
  refine (fun (z9 : ∀ cells slots : Nat, zb_c N N cells slots → W p l e (za_R 5 (zc_rc N) (zc_rs N)) s m args below meth co H locs cells slots Q (F0 m 0 ls [])) hc => z9 0 0 hc) (fun cells slots hc => ?_)
  refine lv_aload_n hx hb dX4_readString_0 rfl (lv_at hl 0 rfl) ?_
  refine va_get (ci := 4) (v := .ref (o 6)) hx hb hts iX4 hown hK hP 4 rfl rfl 0 (by decide) (hts _ w_211) (fun _ h9 => h9) rfl dX4_readString_1 ?_
  refine za_cv (wc := zc_ws g o d N) (wr := []) C hP hD hS [0, 1, 2, 3, 4, 5, 6, 7, 8, 9, 10, 11, 12, 13, 14, 15, 16] [] rfl rfl (by decide) (by decide) (za_runV C hP hD hS [0, 1, 2, 3, 4, 5, 6, 7, 8, 9, 10, 11, 12, 13, 14, 15, 16] rfl (by decide) rfl (kX7_step l g E o d N  hI ) w_592 mX7_step 6 rfl rfl rfl rfl hl.1 rfl (Nat.le_of_ble_eq_true rfl) dX4_readString_4 ⟨Nat.le_of_ble_eq_true rfl, Nat.le_of_ble_eq_true rfl⟩ (hc.le0 (zc_L_le hI))) (fun N1 H locs hN1 hP hD hS => ?_)
  have hI : zc_I N1 := by rw [hN1]; exact zi_step hI
  have hc : zb_c N N1 cells slots := by rw [hN1]; exact hc.eq zL_step
  have hP : va_P g.1 vwCl (zc_ws g o d N1) H := hP
  have hD : va_D A (zc_ws g o d N1) := hD
  refine lv_iconst (v := 0) hx hb dX4_readString_7 (by decide) ?_
  refine lv_istore_n (lv' := [(1, .int 0), (0, .ref (o 4))]) hx hb dX4_readString_8 rfl hl (by decide) rfl (fun ls hl => ?_)
  exact kL_str l g E o d N C hQ hr hlocks _ 65536 N1 (Nat.le_refl _) ⟨by rw [hN1]; rfl, by rw [hN1]; rfl⟩ (Nat.lt_succ_self _) d cells slots H locs ls hS hP hD hc hI (lv_sub hl [1, 0] rfl)
set_option maxHeartbeats 4000000 in
set_option maxRecDepth 100000 in
theorem kL_raw (l : Launch) (g : za_G) (E : za_E) (o d : Nat → Nat) (N : zc_N)   {p : Program} {e : Env} {s : State} {m : MethodId} {args : Array Value} {below : List Frame} {meth : Method} {co : Code} {A : Nat → Prop} {Q : State → Prop} (C : za_H p s m args co cX4_readRaw 3 RX4 g E A) (hQ : Q = MQ below (za_qi g (fun r (u : zc_N × (Nat → Nat)) => r = zk_raw zk_F (zc_step N) ∧ u.1 = zc_raw zk_F (zc_step N)) (fun u => zc_ws g o u.2 u.1) A) args s (zc_L (zc_raw zk_F (zc_step N)) - zc_L N) (2 * (zc_L (zc_raw zk_F (zc_step N)) - zc_L N)) A) (hr : meth.sig.returnType = (some .boolean)) (hlocks : meth.locks = false)  : ∀ (n_ : Nat) (k : Nat) (X : zc_N), (k ≤ 65536) → (zk_raw zk_F (zc_step N) = zk_raw k X ∧ zc_raw zk_F (zc_step N) = zc_raw k X) → k < n_ → ∀ (d1 : Nat → Nat) (cells slots : Nat) (H : Heap) (locs : List Loc) (ls : Array Slot), va_S A s.heap H locs → va_P g.1 vwCl (zc_ws g o d1 X) H → va_D A (zc_ws g o d1 X) → zb_c N X cells slots → zc_I X → lv_has ls 3 [(0, .ref (o 4)), (1, .int (nI (65536 - k)))] → W p l e (za_R 4 (zc_rc N) (zc_rs N)) s m args below meth co H locs cells slots Q (F0 m 9 ls []) := by
  obtain ⟨hx, hb, hml, hown, hts, hK, hA, hE⟩ := id C
  intro n_
  induction n_ with
  | zero => intro k X hk6 hres hm; exact absurd hm (Nat.not_lt_zero _)
  | succ n_ ih =>
    intro k X hk6 hres hm d1 cells slots H locs ls hS hP hD hc hI hl
    refine lv_iload_n hx hb dX4_readRaw_9 rfl (lv_at hl 1 rfl) ?_
    refine lv_ldc (v := 65536) hx hb hown (hts _ w_626) dX4_readRaw_10 ?_
    refine za_icmp_ge (tgt := 62) hx hb dX4_readRaw_12 (by decide) (fun c_12 => ?_) (fun c_12 => ?_)
    · have hk0 : k = 0 := by
        cases k with
        | zero => rfl
        | succ kk => exact absurd (nI_lt (show 65536 - (kk + 1) < 65536 by omega) (by decide)) c_12
      refine lv_aload_n hx hb dX4_readRaw_62 rfl (lv_at hl 0 rfl) ?_
      refine va_get (ci := 4) (v := .ref (o 6)) hx hb hts iX4 hown hK hP 4 rfl rfl 0 (by decide) (hts _ w_211) (fun _ h9 => h9) rfl dX4_readRaw_63 ?_
      refine za_cv (wc := zc_ws g o d1 X) (wr := []) C hP hD hS [0, 1, 2, 3, 4, 5, 6, 7, 8, 9, 10, 11, 12, 13, 14, 15, 16] [] rfl rfl (by decide) (by decide) (za_runV C hP hD hS [0, 1, 2, 3, 4, 5, 6, 7, 8, 9, 10, 11, 12, 13, 14, 15, 16] rfl (by decide) rfl (kX7_step l g E o d1 X  hI ) w_592 mX7_step 6 rfl rfl rfl rfl hl.1 rfl (Nat.le_of_ble_eq_true rfl) dX4_readRaw_66 ⟨Nat.le_of_ble_eq_true rfl, Nat.le_of_ble_eq_true rfl⟩ (hc.le0 (zc_L_le hI))) (fun N1 H locs hN1 hP hD hS => ?_)
      have hI : zc_I N1 := by rw [hN1]; exact zi_step hI
      have hc : zb_c N N1 cells slots := by rw [hN1]; exact hc.eq zL_step
      have hP : va_P g.1 vwCl (zc_ws g o d1 N1) H := hP
      have hD : va_D A (zc_ws g o d1 N1) := hD
      refine lv_iconst (v := 1) hx hb dX4_readRaw_69 (by decide) ?_
      exact zc_rig hQ hx hb hr hlocks hK hP hD hS hc rfl (by rw [hres.1, hk0]; rfl) (by rw [hres.2, hk0]; exact hN1) dX4_readRaw_70
    · obtain ⟨kk, hk1⟩ : ∃ kk, k = kk + 1 := by
        cases k with
        | zero => exact absurd c_12 (by decide)
        | succ kk => exact ⟨kk, rfl⟩
      refine lv_aload_n hx hb dX4_readRaw_15 rfl (lv_at hl 0 rfl) ?_
      refine va_get (ci := 4) (v := .ref (o 6)) hx hb hts iX4 hown hK hP 4 rfl rfl 0 (by decide) (hts _ w_211) (fun _ h9 => h9) rfl dX4_readRaw_16 ?_
      refine za_ci (wc := zc_ws g o d1 X) (wr := []) C hP hD hS [0, 1, 2, 3, 4, 5, 6, 7, 8, 9, 10, 11, 12, 13, 14, 15, 16] [] rfl rfl (by decide) (by decide) (za_runV C hP hD hS [0, 1, 2, 3, 4, 5, 6, 7, 8, 9, 10, 11, 12, 13, 14, 15, 16] rfl (by decide) rfl (kX7_here l g E o d1 X  hI ) w_597 mX7_here 6 rfl rfl rfl rfl hl.1 rfl (Nat.le_of_ble_eq_true rfl) dX4_readRaw_19 ⟨Nat.le_of_ble_eq_true rfl, Nat.le_of_ble_eq_true rfl⟩ (hc.le0 (zc_L_le hI))) (fun r2 _ H locs hr2 hP hD hS => ?_)
      subst hr2
      have hP : va_P g.1 vwCl (zc_ws g o d1 X) H := hP
      have hD : va_D A (zc_ws g o d1 X) := hD
      refine lv_bipush (v := 96) hx hb dX4_readRaw_22 (by decide) ?_
      refine lv_icmp_eq (tgt := 62) hx hb dX4_readRaw_24 (by decide) (fun c_24 => ?_) (fun c_24 => ?_)
      · refine lv_aload_n hx hb dX4_readRaw_62 rfl (lv_at hl 0 rfl) ?_
        refine va_get (ci := 4) (v := .ref (o 6)) hx hb hts iX4 hown hK hP 4 rfl rfl 0 (by decide) (hts _ w_211) (fun _ h9 => h9) rfl dX4_readRaw_63 ?_
        refine za_cv (wc := zc_ws g o d1 X) (wr := []) C hP hD hS [0, 1, 2, 3, 4, 5, 6, 7, 8, 9, 10, 11, 12, 13, 14, 15, 16] [] rfl rfl (by decide) (by decide) (za_runV C hP hD hS [0, 1, 2, 3, 4, 5, 6, 7, 8, 9, 10, 11, 12, 13, 14, 15, 16] rfl (by decide) rfl (kX7_step l g E o d1 X  hI ) w_592 mX7_step 6 rfl rfl rfl rfl hl.1 rfl (Nat.le_of_ble_eq_true rfl) dX4_readRaw_66 ⟨Nat.le_of_ble_eq_true rfl, Nat.le_of_ble_eq_true rfl⟩ (hc.le0 (zc_L_le hI))) (fun N3 H locs hN3 hP hD hS => ?_)
        have hI : zc_I N3 := by rw [hN3]; exact zi_step hI
        have hc : zb_c N N3 cells slots := by rw [hN3]; exact hc.eq zL_step
        have hP : va_P g.1 vwCl (zc_ws g o d1 N3) H := hP
        have hD : va_D A (zc_ws g o d1 N3) := hD
        refine lv_iconst (v := 1) hx hb dX4_readRaw_69 (by decide) ?_
        exact zc_rig hQ hx hb hr hlocks hK hP hD hS hc rfl (by rw [hres.1, zk_raw_s hk1, if_pos c_24]) (by rw [hres.2, zc_raw_s hk1, if_pos c_24]; exact hN3) dX4_readRaw_70
      · refine lv_aload_n hx hb dX4_readRaw_27 rfl (lv_at hl 0 rfl) ?_
        refine va_get (ci := 4) (v := .ref (o 6)) hx hb hts iX4 hown hK hP 4 rfl rfl 0 (by decide) (hts _ w_211) (fun _ h9 => h9) rfl dX4_readRaw_28 ?_
        refine za_ci (wc := zc_ws g o d1 X) (wr := []) C hP hD hS [0, 1, 2, 3, 4, 5, 6, 7, 8, 9, 10, 11, 12, 13, 14, 15, 16] [] rfl rfl (by decide) (by decide) (za_runV C hP hD hS [0, 1, 2, 3, 4, 5, 6, 7, 8, 9, 10, 11, 12, 13, 14, 15, 16] rfl (by decide) rfl (kX7_character l g E o d1 X  hI ) w_617 mX7_character 6 rfl rfl rfl rfl hl.1 rfl (Nat.le_of_ble_eq_true rfl) dX4_readRaw_31 ⟨Nat.le_of_ble_eq_true rfl, Nat.le_of_ble_eq_true rfl⟩ (hc.le0 (zc_L_le hI))) (fun r4 N4 H locs hN4 hP hD hS => ?_)
        obtain ⟨hr4, hN4⟩ := hN4
        have hI : zc_I N4 := by rw [hN4]; exact zi_char hI
        have hc : zb_c N N4 cells slots := by rw [hN4]; exact hc.eq zL_char
        have hP : va_P g.1 vwCl (zc_ws g o d1 N4) H := hP
        have hD : va_D A (zc_ws g o d1 N4) := hD
        refine lv_istore_n (lv' := [(2, .int r4), (0, .ref (o 4)), (1, .int (nI (65536 - k)))]) hx hb dX4_readRaw_34 rfl hl (by decide) rfl (fun ls hl => ?_)
        refine lv_iload_n hx hb dX4_readRaw_35 rfl (lv_at hl 0 rfl) ?_
        refine lv_iconst (v := (-1)) hx hb dX4_readRaw_36 (by decide) ?_
        refine lv_icmp_ne (tgt := 42) hx hb dX4_readRaw_37 (by decide) (fun c_37 => ?_) (fun c_37 => ?_)
        · refine lv_iload_n hx hb dX4_readRaw_42 rfl (lv_at hl 0 rfl) ?_
          refine lv_bipush (v := 13) hx hb dX4_readRaw_43 (by decide) ?_
          refine lv_icmp_eq (tgt := 56) hx hb dX4_readRaw_45 (by decide) (fun c_45 => ?_) (fun c_45 => ?_)
          · refine lv_iinc (v := nI (65536 - kk)) (lv' := [(1, .int (nI (65536 - kk))), (2, .int r4), (0, .ref (o 4))]) hx hb dX4_readRaw_56 hl (k := 2) rfl ((nI_1 _).trans (congrArg nI (by omega))) (by decide) rfl (fun ls hl => ?_)
            refine lv_goto (tgt := 9) hx hb dX4_readRaw_59 (by decide) ?_
            exact ih kk N4 (by omega) (⟨by rw [hres.1, zk_raw_s hk1, if_neg c_24, ← hr4, if_neg c_37, show zc_keptR X = N4 from (show N4 = zc_keptR X from (by unfold zc_keptR; rw [← hr4, if_pos c_45]; exact hN4)).symm], by rw [hres.2, zc_raw_s hk1, if_neg c_24, ← hr4, if_neg c_37, show zc_keptR X = N4 from (show N4 = zc_keptR X from (by unfold zc_keptR; rw [← hr4, if_pos c_45]; exact hN4)).symm]⟩) (by omega) d1 cells slots H locs ls hS hP hD hc hI (lv_sub hl [2, 0] rfl)
          · refine lv_aload_n hx hb dX4_readRaw_48 rfl (lv_at hl 1 rfl) ?_
            refine va_get (ci := 4) (v := .ref (o 0)) hx hb hts iX4 hown hK hP 4 rfl rfl 1 (by decide) (hts _ w_212) (fun _ h9 => h9) rfl dX4_readRaw_49 ?_
            refine lv_iload_n hx hb dX4_readRaw_52 rfl (lv_at hl 0 rfl) ?_
            refine zc_callv C hP hD hS hc (zl_appendCode _) (zb_runV C hP hD hS [0, 1, 2, 3, 4, 5, 6, 7, 8, 9, 10, 11, 12, 13, 14, 15, 16] rfl (by decide) rfl (kX0_appendCode l g E o d1 N4 r4 hI ) w_628 mX0_appendCode 0 rfl rfl rfl rfl hl.1 rfl (Nat.le_of_ble_eq_true rfl) dX4_readRaw_53 ⟨Nat.le_of_ble_eq_true rfl, Nat.le_of_ble_eq_true rfl⟩ (hc.room (zc_L_le hI))) (fun N5 d5 H locs cells slots hN5 hc hP hD hS => ?_)
            have hI : zc_I N5 := by rw [hN5]; exact zi_appendCode hI _
            refine lv_iinc (v := nI (65536 - kk)) (lv' := [(1, .int (nI (65536 - kk))), (2, .int r4), (0, .ref (o 4))]) hx hb dX4_readRaw_56 hl (k := 2) rfl ((nI_1 _).trans (congrArg nI (by omega))) (by decide) rfl (fun ls hl => ?_)
            refine lv_goto (tgt := 9) hx hb dX4_readRaw_59 (by decide) ?_
            exact ih kk N5 (by omega) (⟨by rw [hres.1, zk_raw_s hk1, if_neg c_24, ← hr4, if_neg c_37, show zc_keptR X = N5 from (show N5 = zc_keptR X from (by unfold zc_keptR; rw [← hr4, if_neg c_45, ← hN4]; exact hN5)).symm], by rw [hres.2, zc_raw_s hk1, if_neg c_24, ← hr4, if_neg c_37, show zc_keptR X = N5 from (show N5 = zc_keptR X from (by unfold zc_keptR; rw [← hr4, if_neg c_45, ← hN4]; exact hN5)).symm]⟩) (by omega) d5 cells slots H locs ls hS hP hD hc hI (lv_sub hl [2, 0] rfl)
        · refine lv_iconst (v := 0) hx hb dX4_readRaw_40 (by decide) ?_
          exact zc_rig hQ hx hb hr hlocks hK hP hD hS hc rfl (by rw [hres.1, zk_raw_s hk1, if_neg c_24, ← hr4, if_pos c_37]) (by rw [hres.2, zc_raw_s hk1, if_neg c_24, ← hr4, if_pos c_37]; exact hN4) dX4_readRaw_41
set_option maxHeartbeats 4000000 in
set_option maxRecDepth 100000 in
theorem kX4_readRaw (l : Launch) (g : za_G) (E : za_E) (o d : Nat → Nat) (N : zc_N)  (hI : zc_I N) : zb_Ci l g E yX4_readRaw cX4_readRaw 3 ((some .boolean)) 4 (zc_rc N) (zc_rs N) (zc_L (zc_raw zk_F (zc_step N)) - zc_L N) (2 * (zc_L (zc_raw zk_F (zc_step N)) - zc_L N)) [.ref (o 4)] (zc_ws g o d N) (fun r (u : zc_N × (Nat → Nat)) => r = zk_raw zk_F (zc_step N) ∧ u.1 = zc_raw zk_F (zc_step N)) (fun u => zc_ws g o u.2 u.1) := by
  refine zb_begin (by decide) (Nat.le_of_ble_eq_true rfl) RX4 rfl ?_
  intro p e s m args below meth co A ls Q H locs C hQ hr hlocks hnm hS hP hD hl
  obtain ⟨hx, hb, hml, hown, hts, hK, hA, hE⟩ := id C
  have hl : lv_has ls 3 [(0, .ref (o 4))] := hl
  have hc : zb_c N N 0 0 := zb_c.rf
  revert hc
  refine (fun (z9 : ∀ cells slots : Nat, zb_c N N cells slots → W p l e (za_R 4 (zc_rc N) (zc_rs N)) s m args below meth co H locs cells slots Q (F0 m 0 ls [])) hc => z9 0 0 hc) (fun cells slots hc => ?_)
  refine lv_aload_n hx hb dX4_readRaw_0 rfl (lv_at hl 0 rfl) ?_
  refine va_get (ci := 4) (v := .ref (o 6)) hx hb hts iX4 hown hK hP 4 rfl rfl 0 (by decide) (hts _ w_211) (fun _ h9 => h9) rfl dX4_readRaw_1 ?_
  refine za_cv (wc := zc_ws g o d N) (wr := []) C hP hD hS [0, 1, 2, 3, 4, 5, 6, 7, 8, 9, 10, 11, 12, 13, 14, 15, 16] [] rfl rfl (by decide) (by decide) (za_runV C hP hD hS [0, 1, 2, 3, 4, 5, 6, 7, 8, 9, 10, 11, 12, 13, 14, 15, 16] rfl (by decide) rfl (kX7_step l g E o d N  hI ) w_592 mX7_step 6 rfl rfl rfl rfl hl.1 rfl (Nat.le_of_ble_eq_true rfl) dX4_readRaw_4 ⟨Nat.le_of_ble_eq_true rfl, Nat.le_of_ble_eq_true rfl⟩ (hc.le0 (zc_L_le hI))) (fun N1 H locs hN1 hP hD hS => ?_)
  have hI : zc_I N1 := by rw [hN1]; exact zi_step hI
  have hc : zb_c N N1 cells slots := by rw [hN1]; exact hc.eq zL_step
  have hP : va_P g.1 vwCl (zc_ws g o d N1) H := hP
  have hD : va_D A (zc_ws g o d N1) := hD
  refine lv_iconst (v := 0) hx hb dX4_readRaw_7 (by decide) ?_
  refine lv_istore_n (lv' := [(1, .int 0), (0, .ref (o 4))]) hx hb dX4_readRaw_8 rfl hl (by decide) rfl (fun ls hl => ?_)
  exact kL_raw l g E o d N C hQ hr hlocks _ 65536 N1 (Nat.le_refl _) ⟨by rw [hN1]; rfl, by rw [hN1]; rfl⟩ (Nat.lt_succ_self _) d cells slots H locs ls hS hP hD hc hI (lv_sub hl [1, 0] rfl)
