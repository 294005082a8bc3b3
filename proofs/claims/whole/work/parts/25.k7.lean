/-- what reading leaves as it was: all but the place in the text, the bytes kept and isByte -/
def zc_Fr (N X : zc_N) : Prop := (∀ k : Nat, k ≠ 1 → k ≠ 42 → k ≠ 62 → k ≠ 63 → k ≠ 64 → k ≠ 65 → X.1 k = N.1 k) ∧ (∀ a : Nat, a ≠ 0 → X.2.1 a = N.2.1 a) ∧ X.2.2.1 = N.2.2.1 ∧ (∀ a : Nat, a ≠ 0 → X.2.2.2 a = N.2.2.2 a)
theorem zc_Fr.rf {N : zc_N} : zc_Fr N N := ⟨fun _ _ _ _ _ _ _ => rfl, fun _ _ => rfl, rfl, fun _ _ => rfl⟩
theorem zc_Fr.tr {N X Y : zc_N} (h : zc_Fr N X) (h2 : zc_Fr X Y) : zc_Fr N Y := ⟨fun k a b c d e f => (h2.1 k a b c d e f).trans (h.1 k a b c d e f), fun a ha => (h2.2.1 a ha).trans (h.2.1 a ha), h2.2.2.1.trans h.2.2.1, fun a ha => (h2.2.2.2 a ha).trans (h.2.2.2 a ha)⟩
theorem zc_Fr.s {N : zc_N} {j : Nat} {v : Int32} (hj : j = 1 ∨ j = 42 ∨ j = 62 ∨ j = 63 ∨ j = 64 ∨ j = 65) : zc_Fr N (zc_s N j v) := by
  refine ⟨fun k a b c d e f => ?_, fun _ _ => rfl, rfl, fun _ _ => rfl⟩
  show upd N.1 j v k = N.1 k
  rw [zq_upd, if_neg (by omega)]
theorem zc_Fr.a {N : zc_N} {i v : Int32} : zc_Fr N (zc_a N 0 i v) := by
  refine ⟨fun _ _ _ _ _ _ _ => rfl, fun a ha => ?_, rfl, fun _ _ => rfl⟩
  show (if a = 0 then _ else N.2.1 a) = N.2.1 a
  rw [if_neg ha]
theorem zc_Fr.g {N : zc_N} {n : Nat} : zc_Fr N (zc_g N 0 n) := by
  refine ⟨fun _ _ _ _ _ _ _ => rfl, fun a ha => ?_, rfl, fun a ha => ?_⟩
  · show (if a = 0 then _ else N.2.1 a) = N.2.1 a
    rw [if_neg ha]
  · show (if a = 0 then _ else N.2.2.2 a) = N.2.2.2 a
    rw [if_neg ha]
theorem zf_step {N : zc_N} : zc_Fr N (zc_step N) := by
  unfold zc_step
  split
  · exact ((zc_Fr.s (by omega)).tr (zc_Fr.s (by omega))).tr (zc_Fr.s (by omega))
  · exact zc_Fr.s (by omega)
theorem zf_refuse {N : zc_N} : zc_Fr N (zc_refuse N) := zc_Fr.s (by omega)
theorem zf_refuseAt {N : zc_N} {q : Int32} : zc_Fr N (zc_refuseAt N q) := (zc_Fr.s (by omega)).tr (zc_Fr.s (by omega))
theorem zf_append {N : zc_N} {v : Int32} : zc_Fr N (zc_append N v) := by
  unfold zc_append
  dsimp only
  split
  · split
    · exact (zc_Fr.g.tr zc_Fr.a).tr (zc_Fr.s (by omega))
    · exact zc_Fr.g
  · split
    · exact zc_Fr.a.tr (zc_Fr.s (by omega))
    · exact zc_Fr.rf
theorem zf_appendCode {N : zc_N} {c : Int32} : zc_Fr N (zc_appendCode N c) := by
  unfold zc_appendCode
  split
  · exact zf_append
  · split
    · exact zf_append.tr zf_append
    · split
      · exact (zf_append.tr zf_append).tr zf_append
      · exact ((zf_append.tr zf_append).tr zf_append).tr zf_append
theorem zf_keepB {N : zc_N} : zc_Fr N (zc_keepB N) := zf_append.tr zf_step
theorem zf_digits (b : Int32) : ∀ (k : Nat) {N : zc_N}, zc_Fr N (zc_digits b k N) := by
  intro k
  induction k with
  | zero => intro N; exact zc_Fr.rf
  | succ k ih =>
    intro N
    rw [zc_digits_s rfl]
    split
    · exact zf_refuse
    · split
      · exact (zf_keepB.tr zf_step).tr ih
      · split
        · exact zf_keepB
        · exact zf_keepB.tr ih
theorem zf_bar {N : zc_N} : zc_Fr N (zc_bar N) := by
  unfold zc_bar
  split
  · exact zf_step
  · exact zc_Fr.rf
theorem zf_withL {N : zc_N} {b : Int32} : zc_Fr N (zc_withL N b) := ((zf_keepB.tr zf_keepB).tr zf_bar).tr (zf_digits b _)
theorem zf_octal {N : zc_N} {q n : Int32} : zc_Fr N (zc_octal N q n) := by
  unfold zc_octal
  split
  · exact zc_Fr.rf
  · split
    · exact zc_Fr.rf
    · exact zf_refuse
theorem zf_dec1 {N : zc_N} : zc_Fr N (zc_dec1 N) := by
  unfold zc_dec1
  split
  · exact zc_Fr.rf
  · exact zf_digits _ _
theorem zf_dec2 {N : zc_N} : zc_Fr N (zc_dec2 N) := by
  unfold zc_dec2
  split
  · split
    · exact zf_keepB
    · exact zf_keepB.tr (zf_digits _ _)
  · exact zc_Fr.rf
theorem zf_sgn {N : zc_N} : zc_Fr N (zc_sgn N) := by
  unfold zc_sgn
  split
  · exact zf_keepB
  · exact zc_Fr.rf
theorem zf_dec3 {N : zc_N} : zc_Fr N (zc_dec3 N) := by
  unfold zc_dec3
  split
  · exact (zf_keepB.tr zf_sgn).tr (zf_digits _ _)
  · exact zc_Fr.rf
theorem zf_dec {N : zc_N} : zc_Fr N (zc_dec N) := by
  unfold zc_dec
  dsimp only
  split
  · exact zf_dec1
  · split
    · exact zf_dec1.tr zf_dec2
    · split
      · exact (zf_dec1.tr zf_dec2).tr zf_dec3
      · split
        · exact (zf_dec1.tr zf_dec2).tr zf_dec3
        · exact ((zf_dec1.tr zf_dec2).tr zf_dec3).tr zf_octal
theorem zf_num0 {N : zc_N} : zc_Fr N (zc_num0 N) := by
  unfold zc_num0
  split
  · exact zf_dec
  · exact zf_withL
theorem zf_readNumber {N : zc_N} : zc_Fr N (zc_readNumber N) := by
  unfold zc_readNumber
  split
  · exact zf_num0.tr zf_refuse
  · exact zf_num0
theorem zf_more (q : Int32) : ∀ (k : Nat) {X : zc_N} (c : Int32), zc_Fr X (zc_more q k X c) := by
  intro k
  induction k with
  | zero => intro X c; exact zc_Fr.rf
  | succ k ih =>
    intro X c
    rw [zc_more_s rfl]
    split
    · exact zf_refuse
    · exact zf_step.tr (ih _)
theorem zf_char {N : zc_N} : zc_Fr N (zc_char N) := by
  unfold zc_char
  split
  · split
    · exact zf_step
    · exact zf_refuse
  · split
    · exact zf_refuse
    · exact zf_step.tr (zf_more _ _ _)
theorem zf_bytes (b : Int32) : ∀ (k : Nat) {N : zc_N}, zc_Fr N (zc_bytes b k N) := by
  intro k
  induction k with
  | zero => intro N; exact zc_Fr.rf
  | succ k ih =>
    intro N
    rw [zc_bytes_s rfl]
    split
    · exact zf_refuse
    · exact zf_step.tr ih
theorem zf_byteV {N : zc_N} {b : Int32} {n : Nat} : zc_Fr N (zc_byteV N b n) := (zc_Fr.s (by omega)).tr (zf_bytes b n)
theorem zf_codes : ∀ (k : Nat) {N : zc_N} (v : Int64), zc_Fr N (zc_codes k N v) := by
  intro k
  induction k with
  | zero => intro N v; exact zc_Fr.rf
  | succ k ih =>
    intro N v
    rw [zc_codes_s rfl]
    split
    · exact zf_refuse
    · exact zf_step.tr (ih _)
theorem zf_esc {N : zc_N} {q : Int32} : zc_Fr N (zc_esc N q) := by
  unfold zc_esc
  split
  · exact zf_step
  · split
    · exact zf_byteV
    · split
      · exact zf_refuse
      · split
        · exact zf_step.tr zf_byteV
        · exact zf_step.tr (zf_codes _ _)
theorem zf_rchar {N : zc_N} {q : Int32} : zc_Fr N (zc_rchar N q) := by
  unfold zc_rchar
  split
  · exact ((zc_Fr.s (by omega)).tr zf_step).tr zf_esc
  · split
    · exact (zc_Fr.s (by omega)).tr zf_refuse
    · exact (zc_Fr.s (by omega)).tr zf_char
theorem zf_rune {N : zc_N} : zc_Fr N (zc_rune N) := by
  unfold zc_rune
  split
  · exact zf_step.tr zf_rchar
  · split
    · exact (zf_step.tr zf_rchar).tr zf_step
    · exact (zf_step.tr zf_rchar).tr zf_refuse
theorem zf_kept {N : zc_N} : zc_Fr N (zc_kept N) := by
  unfold zc_kept
  split
  · exact zf_rchar.tr zf_appendCode
  · exact zf_rchar.tr zf_append
theorem zf_str : ∀ (k : Nat) {N : zc_N}, zc_Fr N (zc_str k N) := by
  intro k
  induction k with
  | zero => intro N; exact zf_step
  | succ k ih =>
    intro N
    rw [zc_str_s rfl]
    split
    · exact zf_step
    · split
      · exact zf_rchar
      · exact zf_kept.tr ih
theorem zf_keptR {N : zc_N} : zc_Fr N (zc_keptR N) := by
  unfold zc_keptR
  split
  · exact zf_char
  · exact zf_char.tr zf_appendCode
theorem zf_raw : ∀ (k : Nat) {N : zc_N}, zc_Fr N (zc_raw k N) := by
  intro k
  induction k with
  | zero => intro N; exact zf_step
  | succ k ih =>
    intro N
    rw [zc_raw_s rfl]
    split
    · exact zf_step
    · split
      · exact zf_char
      · exact zf_keptR.tr ih
theorem zf_71 {N X : zc_N} (h : zc_Fr N X) (hf : N.1 71 < 16384) : X.1 71 < 16384 := by
  rw [h.1 71 (by decide) (by decide) (by decide) (by decide) (by decide) (by decide)]
  exact hf
-- a name
def zc_name : Nat → zc_N → zc_N
  | 0, N => N
  | k + 1, N => if zk_isPart (zk_here N) = 0 then N else zc_name k (zc_keepB N)
def zk_hash : Nat → zc_N → Int32 → Int32
  | 0, _, h => h
  | k + 1, N, h => if zk_isPart (zk_here N) = 0 then h else zk_hash k (zc_keepB N) (h * 31 + zk_here N)
theorem zc_name_s {k j : Nat} {N : zc_N} (h : k = j + 1) : zc_name k N = if zk_isPart (zk_here N) = 0 then N else zc_name j (zc_keepB N) := by
  subst h
  rfl
theorem zk_hash_s {k j : Nat} {N : zc_N} {v : Int32} (h : k = j + 1) : zk_hash k N v = if zk_isPart (zk_here N) = 0 then v else zk_hash j (zc_keepB N) (v * 31 + zk_here N) := by
  subst h
  rfl
theorem zi_name : ∀ (k : Nat) {N : zc_N}, zc_I N → zc_I (zc_name k N) := by
  intro k
  induction k with
  | zero => intro N h; exact h
  | succ k ih =>
    intro N h
    rw [zc_name_s rfl]
    split
    · exact h
    · exact ih (zi_keepB h)
theorem zl_name : ∀ (k : Nat) {N : zc_N}, zc_L N ≤ zc_L (zc_name k N) := by
  intro k
  induction k with
  | zero => intro N; exact Nat.le_refl _
  | succ k ih =>
    intro N
    rw [zc_name_s rfl]
    split
    · exact Nat.le_refl _
    · exact Nat.le_trans zl_keepB ih
theorem zf_name : ∀ (k : Nat) {N : zc_N}, zc_Fr N (zc_name k N) := by
  intro k
  induction k with
  | zero => intro N; exact zc_Fr.rf
  | succ k ih =>
    intro N
    rw [zc_name_s rfl]
    split
    · exact zc_Fr.rf
    · exact zf_keepB.tr ih
theorem zc_more70_1 {N : zc_N} : (zc_more70 N).1 = N.1 := by
  unfold zc_more70
  split <;> rfl
theorem zc_zero_1 {N : zc_N} : (zc_zero N).1 = N.1 := by
  unfold zc_zero
  rw [zc_tell_1, zc_tell_1, zc_tell_1, zc_tell_1, zc_tell_1, zc_tell_1, zc_tell_1, zc_tell_1, zc_tell_1, zc_tell_1, zc_tell_1]
theorem zc_add_1 {N : zc_N} {k : Int32} : (zc_add N k).1 = upd N.1 71 (N.1 71 + 1) := by
  unfold zc_add
  dsimp only
  rw [zc_tell_1, zc_tell_1, zc_zero_1]
  show upd (zc_more70 N).1 71 ((zc_more70 N).1 71 + 1) = _
  rw [zc_more70_1]
theorem zc_from_1 {N : zc_N} {k n : Int32} : (zc_from N k n).1 = upd (upd N.1 71 (N.1 71 + 1)) 58 (zk_ends k) := by
  unfold zc_from zc_from2 zc_from1
  show upd (zc_tell _ _ _).1 58 (zk_ends k) = _
  rw [zc_tell_1, zc_tell_1, zc_tell_1, zc_tell_1, zc_tell_1, zc_tell_1, zc_add_1]
theorem zc_K_put {N : zc_N} (hI : zc_I N) (hf : N.1 71 < 16384) (k : Int32) : zc_K (zc_putT N k) := by
  obtain ⟨k9, t, k1, k2, k3, k4, k5⟩ := hI.2.2.2.2.1
  rw [k2] at hf
  have ht : t < 16384 := z_lit (by omega) (by decide) hf
  refine ⟨k9, t + 1, ?_, ?_, by omega, by omega⟩
  · unfold zc_putT
    rw [zc_from_1]
    exact k1
  · unfold zc_putT
    rw [zc_from_1]
    show N.1 71 + 1 = nI (t + 1)
    rw [k2, nI_1]
/-- a name's token, told its number -/
def zc_numbered (Y : zc_N) (h : Int32) : zc_N := zc_tell (zc_number Y (Y.1 71 - 1) h) 6 (zk_number Y (Y.1 71 - 1) h)
def zc_readName (N : zc_N) : zc_N := if zk_wordKind (zc_name zk_F N) = -1 then zc_numbered (zc_putT (zc_name zk_F N) 1) (zk_hash zk_F N 0) else zc_putT (zc_name zk_F N) (zk_wordKind (zc_name zk_F N))
theorem zi_readName {N : zc_N} (hI : zc_I N) (hf : N.1 71 < 16384) : zc_I (zc_readName N) := by
  have h1 := zi_name zk_F hI
  have h2 := zf_71 (zf_name zk_F) hf
  unfold zc_readName zc_numbered
  split
  · exact zi_tell (zi_number (zi_putT h1 h2 _) (zc_K_put h1 h2 _) _ _) _ _
  · exact zi_putT h1 h2 _
theorem zl_readName {N : zc_N} (hI : zc_I N) (hf : N.1 71 < 16384) : zc_L N ≤ zc_L (zc_readName N) := by
  have h1 := zi_name zk_F hI
  have h2 := zf_71 (zf_name zk_F) hf
  unfold zc_readName zc_numbered
  split
  · rw [zL_tell]
    exact Nat.le_trans (zl_name _) (Nat.le_trans (zl_putT _) (zl_number (zi_putT h1 h2 _) _ _))
  · exact Nat.le_trans (zl_name _) (zl_putT _)
def zk_ni (b : Int32) : Int32 := if b = 0 then 3 else 2
def zc_putNumber (N : zc_N) (b : Int32) : zc_N := if b = -1 then N else zc_tell (zc_putT N (zk_ni b)) 7 b
def zc_putRune (N : zc_N) (v : Int32) : zc_N := if v = -1 then N else zc_tell (zc_putT N 4) 10 v
def zc_putString (N : zc_N) (z : Int32) : zc_N := if z = 0 then N else zc_putT N 5
theorem zi_putNumber {N : zc_N} (hI : zc_I N) (hf : N.1 71 < 16384) (b : Int32) : zc_I (zc_putNumber N b) := by
  unfold zc_putNumber
  split
  · exact hI
  · exact zi_tell (zi_putT hI hf _) _ _
theorem zl_putNumber {N : zc_N} (b : Int32) : zc_L N ≤ zc_L (zc_putNumber N b) := by
  unfold zc_putNumber
  split
  · exact Nat.le_refl _
  · rw [zL_tell]
    exact zl_putT _
theorem zi_putRune {N : zc_N} (hI : zc_I N) (hf : N.1 71 < 16384) (v : Int32) : zc_I (zc_putRune N v) := by
  unfold zc_putRune
  split
  · exact hI
  · exact zi_tell (zi_putT hI hf _) _ _
theorem zl_putRune {N : zc_N} (v : Int32) : zc_L N ≤ zc_L (zc_putRune N v) := by
  unfold zc_putRune
  split
  · exact Nat.le_refl _
  · rw [zL_tell]
    exact zl_putT _
theorem zi_putString {N : zc_N} (hI : zc_I N) (hf : N.1 71 < 16384) (v : Int32) : zc_I (zc_putString N v) := by
  unfold zc_putString
  split
  · exact hI
  · exact zi_putT hI hf _
theorem zl_putString {N : zc_N} (v : Int32) : zc_L N ≤ zc_L (zc_putString N v) := by
  unfold zc_putString
  split
  · exact Nat.le_refl _
  · exact zl_putT _
-- signs
def zk_one (x : Int32) : Int32 := if x = 33 then 71 else if x = 37 then 44 else if x = 38 then 45 else if x = 40 then 78 else if x = 41 then 79 else if x = 42 then 42 else if x = 43 then 40 else if x = 44 then 84 else if x = 45 then 41 else if x = 46 then 86 else if x = 47 then 43 else if x = 58 then 87 else if x = 59 then 85 else if x = 60 then 68 else if x = 61 then 70 else if x = 62 then 69 else if x = 91 then 80 else if x = 93 then 81 else if x = 94 then 47 else if x = 123 then 82 else if x = 124 then 46 else if x = 125 then 83 else if x = 126 then 72 else -1
def zk_two (x : Int32) : Int32 := if x = 8509 then 73 else if x = 9533 then 55 else if x = 9766 then 62 else if x = 9789 then 56 else if x = 9822 then 50 else if x = 10813 then 53 else if x = 11051 then 65 else if x = 11069 then 51 else if x = 11565 then 66 else if x = 11581 then 52 else if x = 12093 then 54 else if x = 14909 then 76 else if x = 15405 then 64 else if x = 15420 then 48 else if x = 15421 then 74 else if x = 15677 then 67 else if x = 15933 then 75 else if x = 15934 then 49 else if x = 24125 then 58 else if x = 31805 then 57 else if x = 31868 then 63 else -1
def zk_three (x : Int32) : Int32 := if x = 2514493 then 61 else if x = 3026478 then 77 else if x = 3947581 then 59 else if x = 4079165 then 60 else -1
def zk_2 (N : zc_N) (x : Int32) : Int32 := (x <<< ((8 : Int32) &&& 31)) ||| (zk_here N &&& 255)
def zk_3 (N : zc_N) (x : Int32) : Int32 := (zk_2 N x <<< ((8 : Int32) &&& 31)) ||| (zk_next N &&& 255)
def zc_sign2 (X : zc_N) (x : Int32) : zc_N := if zk_three (zk_3 X x) = -1 then (if zk_two (zk_2 X x) = -1 then zc_putT X (zk_one x) else zc_putT (zc_step X) (zk_two (zk_2 X x))) else zc_putT (zc_step (zc_step X)) (zk_three (zk_3 X x))
def zc_readSign (N : zc_N) (x : Int32) : zc_N := if zk_one x = -1 then zc_refuse N else zc_sign2 (zc_step N) x
theorem zi_readSign {N : zc_N} (hI : zc_I N) (hf : N.1 71 < 16384) (x : Int32) : zc_I (zc_readSign N x) := by
  unfold zc_readSign zc_sign2
  split
  · exact zi_refuse hI
  · split
    · split
      · exact zi_putT (zi_step hI) (zf_71 zf_step hf) _
      · exact zi_putT (zi_step (zi_step hI)) (zf_71 (zf_step.tr zf_step) hf) _
    · exact zi_putT (zi_step (zi_step (zi_step hI))) (zf_71 ((zf_step.tr zf_step).tr zf_step) hf) _
theorem zl_readSign {N : zc_N} (x : Int32) : zc_L N ≤ zc_L (zc_readSign N x) := by
  have h1 : zc_L N = zc_L (zc_step N) := zL_step.symm
  unfold zc_readSign zc_sign2
  split
  · exact Nat.le_refl _
  · split
    · split
      · rw [h1]; exact zl_putT _
      · rw [h1, ← zL_step (N := zc_step N)]; exact zl_putT _
    · rw [h1, ← zL_step (N := zc_step N), ← zL_step (N := zc_step (zc_step N))]; exact zl_putT _
abbrev zk_isNum (N : zc_N) : Prop := ¬ zk_isDigit (zk_here N) = 0 ∨ (zk_here N = 46 ∧ ¬ zk_isDigit (zk_next N) = 0)
def zc_readToken (N : zc_N) : zc_N :=
  if ¬ zk_isFull N = 0 then zc_refuse N else
  if ¬ zk_isLetter (zk_here N) = 0 then zc_readName N else
  if zk_isNum N then zc_putNumber (zc_readNumber N) (zk_readNumber N) else
  if zk_here N = 39 then zc_putRune (zc_rune N) (zk_rune N) else
  if zk_here N = 34 then zc_putString (zc_str zk_F (zc_step N)) (zk_str zk_F (zc_step N)) else
  if zk_here N = 96 then zc_putString (zc_raw zk_F (zc_step N)) (zk_raw zk_F (zc_step N)) else
  zc_readSign N (zk_here N)
theorem zi_readToken {N : zc_N} (hI : zc_I N) : zc_I (zc_readToken N) := by
  unfold zc_readToken
  split
  · exact zi_refuse hI
  · rename_i h
    have hf := z_full (Decidable.not_not.mp h)
    split
    · exact zi_readName hI hf
    · split
      · exact zi_putNumber (zi_readNumber hI) (zf_71 zf_readNumber hf) _
      · split
        · exact zi_putRune (zi_rune hI) (zf_71 zf_rune hf) _
        · split
          · exact zi_putString (zi_str _ (zi_step hI)) (zf_71 (zf_step.tr (zf_str _)) hf) _
          · split
            · exact zi_putString (zi_raw _ (zi_step hI)) (zf_71 (zf_step.tr (zf_raw _)) hf) _
            · exact zi_readSign hI hf _
theorem zl_readToken {N : zc_N} (hI : zc_I N) : zc_L N ≤ zc_L (zc_readToken N) := by
  unfold zc_readToken
  split
  · exact Nat.le_refl _
  · rename_i h
    have hf := z_full (Decidable.not_not.mp h)
    split
    · exact zl_readName hI hf
    · split
      · exact Nat.le_trans zl_readNumber (zl_putNumber _)
      · split
        · exact Nat.le_trans (Nat.le_of_eq zL_rune.symm) (zl_putRune _)
        · split
          · exact Nat.le_trans (Nat.le_trans (Nat.le_of_eq zL_step.symm) (zl_str _)) (zl_putString _)
          · split
            · exact Nat.le_trans (Nat.le_trans (Nat.le_of_eq zL_step.symm) (zl_raw _)) (zl_putString _)
            · exact zl_readSign _
-- comments
def zc_line : Nat → zc_N → zc_N
  | 0, N => N
  | k + 1, N => if zk_here N = 10 ∨ zk_here N = -1 then N else if zk_char N = -1 then zc_char N else zc_line k (zc_char N)
theorem zc_line_s {k j : Nat} {N : zc_N} (h : k = j + 1) : zc_line k N = if zk_here N = 10 ∨ zk_here N = -1 then N else if zk_char N = -1 then zc_char N else zc_line j (zc_char N) := by
  subst h
  rfl
def zc_lineG (k : Nat) (N : zc_N) (g : Int32) : zc_N := if g = 0 then N else zc_line k N
def zc_lineC (N : zc_N) : zc_N := zc_lineG zk_F (zc_endLine N) (zk_endLine N)
theorem zi_line : ∀ (k : Nat) {N : zc_N}, zc_I N → zc_I (zc_line k N) := by
  intro k
  induction k with
  | zero => intro N h; exact h
  | succ k ih =>
    intro N h
    rw [zc_line_s rfl]
    split
    · exact h
    · split
      · exact zi_char h
      · exact ih (zi_char h)
theorem zL_line : ∀ (k : Nat) {N : zc_N}, zc_L (zc_line k N) = zc_L N := by
  intro k
  induction k with
  | zero => intro N; rfl
  | succ k ih =>
    intro N
    rw [zc_line_s rfl]
    split
    · rfl
    · split
      · exact zL_char
      · rw [ih, zL_char]
theorem zi_lineC {N : zc_N} (hI : zc_I N) : zc_I (zc_lineC N) := by
  unfold zc_lineC zc_lineG
  split
  · exact zi_endLine hI
  · exact zi_line _ (zi_endLine hI)
theorem zl_lineC {N : zc_N} : zc_L N ≤ zc_L (zc_lineC N) := by
  unfold zc_lineC zc_lineG
  split
  · exact zl_endLine
  · rw [zL_line]
    exact zl_endLine
def zc_lf (N : zc_N) : zc_N := if zk_here N = 10 then zc_endLine N else N
def zc_long : Nat → zc_N → zc_N
  | 0, N => N
  | k + 1, N => if zk_here N = 42 ∧ zk_next N = 47 then zc_step (zc_step N) else if zk_here N = 10 ∧ zk_endLine N = 0 then zc_endLine N else if zk_char (zc_lf N) = -1 then zc_char (zc_lf N) else zc_long k (zc_char (zc_lf N))
theorem zc_long_s {k j : Nat} {N : zc_N} (h : k = j + 1) : zc_long k N = if zk_here N = 42 ∧ zk_next N = 47 then zc_step (zc_step N) else if zk_here N = 10 ∧ zk_endLine N = 0 then zc_endLine N else if zk_char (zc_lf N) = -1 then zc_char (zc_lf N) else zc_long j (zc_char (zc_lf N)) := by
  subst h
  rfl
theorem zi_lf {N : zc_N} (hI : zc_I N) : zc_I (zc_lf N) := by
  unfold zc_lf
  split
  · exact zi_endLine hI
  · exact hI
theorem zl_lf {N : zc_N} : zc_L N ≤ zc_L (zc_lf N) := by
  unfold zc_lf
  split
  · exact zl_endLine
  · exact Nat.le_refl _
theorem zi_long : ∀ (k : Nat) {N : zc_N}, zc_I N → zc_I (zc_long k N) := by
  intro k
  induction k with
  | zero => intro N h; exact h
  | succ k ih =>
    intro N h
    rw [zc_long_s rfl]
    split
    · exact zi_step (zi_step h)
    · split
      · exact zi_endLine h
      · split
        · exact zi_char (zi_lf h)
        · exact ih (zi_char (zi_lf h))
theorem zl_long : ∀ (k : Nat) {N : zc_N}, zc_L N ≤ zc_L (zc_long k N) := by
  intro k
  induction k with
  | zero => intro N; exact Nat.le_refl _
  | succ k ih =>
    intro N
    rw [zc_long_s rfl]
    split
    · rw [zL_step, zL_step]; exact Nat.le_refl _
    · split
      · exact zl_endLine
      · split
        · rw [zL_char]; exact zl_lf
        · refine Nat.le_trans ?_ ih
          rw [zL_char]
          exact zl_lf
def zc_longC (N : zc_N) : zc_N := zc_long zk_F (zc_step (zc_step N))
theorem zi_longC {N : zc_N} (hI : zc_I N) : zc_I (zc_longC N) := zi_long _ (zi_step (zi_step hI))
theorem zl_longC {N : zc_N} : zc_L N ≤ zc_L (zc_longC N) := by
  refine Nat.le_trans ?_ (zl_long _)
  rw [zL_step, zL_step]
  exact Nat.le_refl _
-- between tokens
def zk_pass (N : zc_N) : Int32 := if zk_here N = 10 ∨ (zk_here N = 32 ∨ zk_here N = 9 ∨ zk_here N = 13) ∨ (zk_here N = 47 ∧ (zk_next N = 47 ∨ zk_next N = 42)) then 1 else 0
def zc_newl (X : zc_N) : zc_N := if zk_endLine X = 0 then zc_endLine X else zc_step (zc_endLine X)
def zc_pass (N : zc_N) : zc_N :=
  if zk_here N = 10 then zc_newl (zc_mark N) else
  if zk_here N = 32 ∨ zk_here N = 9 ∨ zk_here N = 13 then zc_step (zc_mark N) else
  if zk_here N = 47 ∧ zk_next N = 47 then zc_lineC (zc_mark N) else
  if zk_here N = 47 ∧ zk_next N = 42 then zc_longC (zc_mark N) else zc_mark N
theorem zi_newl {N : zc_N} (hI : zc_I N) : zc_I (zc_newl N) := by
  unfold zc_newl
  split
  · exact zi_endLine hI
  · exact zi_step (zi_endLine hI)
theorem zl_newl {N : zc_N} : zc_L N ≤ zc_L (zc_newl N) := by
  unfold zc_newl
  split
  · exact zl_endLine
  · rw [zL_step]; exact zl_endLine
theorem zi_pass {N : zc_N} (hI : zc_I N) : zc_I (zc_pass N) := by
  unfold zc_pass
  split
  · exact zi_newl (zi_mark hI)
  · split
    · exact zi_step (zi_mark hI)
    · split
      · exact zi_lineC (zi_mark hI)
      · split
        · exact zi_longC (zi_mark hI)
        · exact zi_mark hI
theorem zl_pass {N : zc_N} : zc_L N ≤ zc_L (zc_pass N) := by
  unfold zc_pass
  split
  · exact Nat.le_trans (Nat.le_of_eq zL_mark.symm) zl_newl
  · split
    · rw [zL_step]; exact Nat.le_refl _
    · split
      · exact Nat.le_trans (Nat.le_of_eq zL_mark.symm) zl_lineC
      · split
        · exact Nat.le_trans (Nat.le_of_eq zL_mark.symm) zl_longC
        · exact Nat.le_refl _
-- the end
def zc_fin1 (N : zc_N) : zc_N := if N.1 65 = 0 then zc_endLine (zc_mark N) else N
def zc_finish (N : zc_N) : zc_N := if (zc_fin1 N).1 65 = 0 then zc_fin1 N else zc_clear (zc_fin1 N)
def zk_finish (N : zc_N) : Int32 := if (zc_fin1 N).1 65 = 0 then (zc_fin1 N).1 71 else -1 - (zc_fin1 N).1 62
theorem zi_fin1 {N : zc_N} (hI : zc_I N) : zc_I (zc_fin1 N) := by
  unfold zc_fin1
  split
  · exact zi_endLine (zi_mark hI)
  · exact hI
theorem zl_fin1 {N : zc_N} : zc_L N ≤ zc_L (zc_fin1 N) := by
  unfold zc_fin1
  split
  · exact Nat.le_trans (Nat.le_of_eq zL_mark.symm) zl_endLine
  · exact Nat.le_refl _
theorem zi_finish {N : zc_N} (hI : zc_I N) : zc_I (zc_finish N) := by
  unfold zc_finish
  split
  · exact zi_fin1 hI
  · exact zi_clear (zi_fin1 hI)
theorem zl_finish {N : zc_N} : zc_L N ≤ zc_L (zc_finish N) := by
  unfold zc_finish
  split
  · exact zl_fin1
  · rw [zL_clear]; exact zl_fin1
theorem zc_clear_62 {N : zc_N} : (zc_clear N).1 62 = N.1 62 := by
  unfold zc_clear zc_clearN
  split <;> rfl
def zc_scanL : Nat → zc_N → zc_N
  | 0, N => N
  | k + 1, N => if zk_goes N = 0 then N else if zk_pass N = 0 then zc_scanL k (zc_readToken (zc_pass N)) else zc_scanL k (zc_pass N)
theorem zc_scanL_s {k j : Nat} {N : zc_N} (h : k = j + 1) : zc_scanL k N = if zk_goes N = 0 then N else if zk_pass N = 0 then zc_scanL j (zc_readToken (zc_pass N)) else zc_scanL j (zc_pass N) := by
  subst h
  rfl
theorem zi_scanL : ∀ (k : Nat) {N : zc_N}, zc_I N → zc_I (zc_scanL k N) := by
  intro k
  induction k with
  | zero => intro N h; exact h
  | succ k ih =>
    intro N h
    rw [zc_scanL_s rfl]
    split
    · exact h
    · split
      · exact ih (zi_readToken (zi_pass h))
      · exact ih (zi_pass h)
theorem zl_scanL : ∀ (k : Nat) {N : zc_N}, zc_I N → zc_L N ≤ zc_L (zc_scanL k N) := by
  intro k
  induction k with
  | zero => intro N h; exact Nat.le_refl _
  | succ k ih =>
    intro N h
    rw [zc_scanL_s rfl]
    split
    · exact Nat.le_refl _
    · split
      · exact Nat.le_trans (Nat.le_trans zl_pass (zl_readToken (zi_pass h))) (ih (zi_readToken (zi_pass h)))
      · exact Nat.le_trans zl_pass (ih (zi_pass h))
def zc_scan (N : zc_N) : zc_N := zc_cutTo (zc_finish (zc_scanL zk_F (zc_begin N))) 0
def zk_scan (N : zc_N) : Int32 := zk_finish (zc_scanL zk_F (zc_begin N))
theorem zL_cutTo {N : zc_N} {n : Int32} : zc_L (zc_cutTo N n) = zc_L N := by
  unfold zc_cutTo
  split <;> rfl
theorem zi_scan {N : zc_N} (hI : zc_I N) : zc_I (zc_scan N) := zi_cutTo (zi_finish (zi_scanL _ (zi_begin hI))) _
theorem zl_scan {N : zc_N} (hI : zc_I N) : zc_L N ≤ zc_L (zc_scan N) := by
  unfold zc_scan
  rw [zL_cutTo]
  exact Nat.le_trans (Nat.le_of_eq zL_begin.symm) (Nat.le_trans (zl_scanL _ (zi_begin hI)) zl_finish)
set_option maxHeartbeats 4000000 in
set_option maxRecDepth 100000 in
theorem kX6_kindOfOne (l : Launch) (g : za_G) (E : za_E) (x : Int32) : za_Ci l g E yX6_kindOfOne cX6_kindOfOne 1 ((some .int)) 0 0 0 [.int x] [] (fun r (_ : Unit) => r = zk_one x) (fun _ => []) := by
  refine za_begin (by decide) (Nat.le_of_ble_eq_true rfl) RX6 rfl ?_
  intro p e s m args below meth co A ls Q H locs C hQ hr hlocks hnm hS hP hD hl
  obtain ⟨hx, hb, hml, hown, hts, hK, hA, hE⟩ := id C
  have hl : lv_has ls 1 [(0, .int x)] := hl
  refine lv_iload_n hx hb dX6_kindOfOne_0 rfl (lv_at hl 0 rfl) ?_
  by_cases c_1_33 : x = 33
  · refine lv_tableIn (off := 424) (tgt := 425) hx hb dX6_kindOfOne_1 (by rw [c_1_33]; decide) (by rw [c_1_33]; decide) (by rw [c_1_33]; rfl) (by decide) ?_
    refine lv_bipush (v := 71) hx hb dX6_kindOfOne_425 (by decide) ?_
    exact zm_rn hQ hx hb hr hlocks hK hP hD hS rfl (by unfold zk_one; rw [c_1_33]; decide) dX6_kindOfOne_427
  by_cases c_1_37 : x = 37
  · refine lv_tableIn (off := 403) (tgt := 404) hx hb dX6_kindOfOne_1 (by rw [c_1_37]; decide) (by rw [c_1_37]; decide) (by rw [c_1_37]; rfl) (by decide) ?_
    refine lv_bipush (v := 44) hx hb dX6_kindOfOne_404 (by decide) ?_
    exact zm_rn hQ hx hb hr hlocks hK hP hD hS rfl (by unfold zk_one; rw [c_1_37]; decide) dX6_kindOfOne_406
  by_cases c_1_38 : x = 38
  · refine lv_tableIn (off := 406) (tgt := 407) hx hb dX6_kindOfOne_1 (by rw [c_1_38]; decide) (by rw [c_1_38]; decide) (by rw [c_1_38]; rfl) (by decide) ?_
    refine lv_bipush (v := 45) hx hb dX6_kindOfOne_407 (by decide) ?_
    exact zm_rn hQ hx hb hr hlocks hK hP hD hS rfl (by unfold zk_one; rw [c_1_38]; decide) dX6_kindOfOne_409
  by_cases c_1_40 : x = 40
  · refine lv_tableIn (off := 430) (tgt := 431) hx hb dX6_kindOfOne_1 (by rw [c_1_40]; decide) (by rw [c_1_40]; decide) (by rw [c_1_40]; rfl) (by decide) ?_
    refine lv_bipush (v := 78) hx hb dX6_kindOfOne_431 (by decide) ?_
    exact zm_rn hQ hx hb hr hlocks hK hP hD hS rfl (by unfold zk_one; rw [c_1_40]; decide) dX6_kindOfOne_433
  by_cases c_1_41 : x = 41
  · refine lv_tableIn (off := 433) (tgt := 434) hx hb dX6_kindOfOne_1 (by rw [c_1_41]; decide) (by rw [c_1_41]; decide) (by rw [c_1_41]; rfl) (by decide) ?_
    refine lv_bipush (v := 79) hx hb dX6_kindOfOne_434 (by decide) ?_
    exact zm_rn hQ hx hb hr hlocks hK hP hD hS rfl (by unfold zk_one; rw [c_1_41]; decide) dX6_kindOfOne_436
  by_cases c_1_42 : x = 42
  · refine lv_tableIn (off := 397) (tgt := 398) hx hb dX6_kindOfOne_1 (by rw [c_1_42]; decide) (by rw [c_1_42]; decide) (by rw [c_1_42]; rfl) (by decide) ?_
    refine lv_bipush (v := 42) hx hb dX6_kindOfOne_398 (by decide) ?_
    exact zm_rn hQ hx hb hr hlocks hK hP hD hS rfl (by unfold zk_one; rw [c_1_42]; decide) dX6_kindOfOne_400
  by_cases c_1_43 : x = 43
  · refine lv_tableIn (off := 391) (tgt := 392) hx hb dX6_kindOfOne_1 (by rw [c_1_43]; decide) (by rw [c_1_43]; decide) (by rw [c_1_43]; rfl) (by decide) ?_
    refine lv_bipush (v := 40) hx hb dX6_kindOfOne_392 (by decide) ?_
    exact zm_rn hQ hx hb hr hlocks hK hP hD hS rfl (by unfold zk_one; rw [c_1_43]; decide) dX6_kindOfOne_394
  by_cases c_1_44 : x = 44
  · refine lv_tableIn (off := 448) (tgt := 449) hx hb dX6_kindOfOne_1 (by rw [c_1_44]; decide) (by rw [c_1_44]; decide) (by rw [c_1_44]; rfl) (by decide) ?_
    refine lv_bipush (v := 84) hx hb dX6_kindOfOne_449 (by decide) ?_
    exact zm_rn hQ hx hb hr hlocks hK hP hD hS rfl (by unfold zk_one; rw [c_1_44]; decide) dX6_kindOfOne_451
  by_cases c_1_45 : x = 45
  · refine lv_tableIn (off := 394) (tgt := 395) hx hb dX6_kindOfOne_1 (by rw [c_1_45]; decide) (by rw [c_1_45]; decide) (by rw [c_1_45]; rfl) (by decide) ?_
    refine lv_bipush (v := 41) hx hb dX6_kindOfOne_395 (by decide) ?_
    exact zm_rn hQ hx hb hr hlocks hK hP hD hS rfl (by unfold zk_one; rw [c_1_45]; decide) dX6_kindOfOne_397
  by_cases c_1_46 : x = 46
  · refine lv_tableIn (off := 454) (tgt := 455) hx hb dX6_kindOfOne_1 (by rw [c_1_46]; decide) (by rw [c_1_46]; decide) (by rw [c_1_46]; rfl) (by decide) ?_
    refine lv_bipush (v := 86) hx hb dX6_kindOfOne_455 (by decide) ?_
    exact zm_rn hQ hx hb hr hlocks hK hP hD hS rfl (by unfold zk_one; rw [c_1_46]; decide) dX6_kindOfOne_457
  by_cases c_1_47 : x = 47
  · refine lv_tableIn (off := 400) (tgt := 401) hx hb dX6_kindOfOne_1 (by rw [c_1_47]; decide) (by rw [c_1_47]; decide) (by rw [c_1_47]; rfl) (by decide) ?_
    refine lv_bipush (v := 43) hx hb dX6_kindOfOne_401 (by decide) ?_
    exact zm_rn hQ hx hb hr hlocks hK hP hD hS rfl (by unfold zk_one; rw [c_1_47]; decide) dX6_kindOfOne_403
  by_cases c_1_58 : x = 58
  · refine lv_tableIn (off := 457) (tgt := 458) hx hb dX6_kindOfOne_1 (by rw [c_1_58]; decide) (by rw [c_1_58]; decide) (by rw [c_1_58]; rfl) (by decide) ?_
    refine lv_bipush (v := 87) hx hb dX6_kindOfOne_458 (by decide) ?_
    exact zm_rn hQ hx hb hr hlocks hK hP hD hS rfl (by unfold zk_one; rw [c_1_58]; decide) dX6_kindOfOne_460
  by_cases c_1_59 : x = 59
  · refine lv_tableIn (off := 451) (tgt := 452) hx hb dX6_kindOfOne_1 (by rw [c_1_59]; decide) (by rw [c_1_59]; decide) (by rw [c_1_59]; rfl) (by decide) ?_
    refine lv_bipush (v := 85) hx hb dX6_kindOfOne_452 (by decide) ?_
    exact zm_rn hQ hx hb hr hlocks hK hP hD hS rfl (by unfold zk_one; rw [c_1_59]; decide) dX6_kindOfOne_454
  by_cases c_1_60 : x = 60
  · refine lv_tableIn (off := 415) (tgt := 416) hx hb dX6_kindOfOne_1 (by rw [c_1_60]; decide) (by rw [c_1_60]; decide) (by rw [c_1_60]; rfl) (by decide) ?_
    refine lv_bipush (v := 68) hx hb dX6_kindOfOne_416 (by decide) ?_
    exact zm_rn hQ hx hb hr hlocks hK hP hD hS rfl (by unfold zk_one; rw [c_1_60]; decide) dX6_kindOfOne_418
  by_cases c_1_61 : x = 61
  · refine lv_tableIn (off := 421) (tgt := 422) hx hb dX6_kindOfOne_1 (by rw [c_1_61]; decide) (by rw [c_1_61]; decide) (by rw [c_1_61]; rfl) (by decide) ?_
    refine lv_bipush (v := 70) hx hb dX6_kindOfOne_422 (by decide) ?_
    exact zm_rn hQ hx hb hr hlocks hK hP hD hS rfl (by unfold zk_one; rw [c_1_61]; decide) dX6_kindOfOne_424
  by_cases c_1_62 : x = 62
  · refine lv_tableIn (off := 418) (tgt := 419) hx hb dX6_kindOfOne_1 (by rw [c_1_62]; decide) (by rw [c_1_62]; decide) (by rw [c_1_62]; rfl) (by decide) ?_
    refine lv_bipush (v := 69) hx hb dX6_kindOfOne_419 (by decide) ?_
    exact zm_rn hQ hx hb hr hlocks hK hP hD hS rfl (by unfold zk_one; rw [c_1_62]; decide) dX6_kindOfOne_421
  by_cases c_1_91 : x = 91
  · refine lv_tableIn (off := 436) (tgt := 437) hx hb dX6_kindOfOne_1 (by rw [c_1_91]; decide) (by rw [c_1_91]; decide) (by rw [c_1_91]; rfl) (by decide) ?_
    refine lv_bipush (v := 80) hx hb dX6_kindOfOne_437 (by decide) ?_
    exact zm_rn hQ hx hb hr hlocks hK hP hD hS rfl (by unfold zk_one; rw [c_1_91]; decide) dX6_kindOfOne_439
  by_cases c_1_93 : x = 93
  · refine lv_tableIn (off := 439) (tgt := 440) hx hb dX6_kindOfOne_1 (by rw [c_1_93]; decide) (by rw [c_1_93]; decide) (by rw [c_1_93]; rfl) (by decide) ?_
    refine lv_bipush (v := 81) hx hb dX6_kindOfOne_440 (by decide) ?_
    exact zm_rn hQ hx hb hr hlocks hK hP hD hS rfl (by unfold zk_one; rw [c_1_93]; decide) dX6_kindOfOne_442
  by_cases c_1_94 : x = 94
  · refine lv_tableIn (off := 412) (tgt := 413) hx hb dX6_kindOfOne_1 (by rw [c_1_94]; decide) (by rw [c_1_94]; decide) (by rw [c_1_94]; rfl) (by decide) ?_
    refine lv_bipush (v := 47) hx hb dX6_kindOfOne_413 (by decide) ?_
    exact zm_rn hQ hx hb hr hlocks hK hP hD hS rfl (by unfold zk_one; rw [c_1_94]; decide) dX6_kindOfOne_415
  by_cases c_1_123 : x = 123
  · refine lv_tableIn (off := 442) (tgt := 443) hx hb dX6_kindOfOne_1 (by rw [c_1_123]; decide) (by rw [c_1_123]; decide) (by rw [c_1_123]; rfl) (by decide) ?_
    refine lv_bipush (v := 82) hx hb dX6_kindOfOne_443 (by decide) ?_
    exact zm_rn hQ hx hb hr hlocks hK hP hD hS rfl (by unfold zk_one; rw [c_1_123]; decide) dX6_kindOfOne_445
  by_cases c_1_124 : x = 124
  · refine lv_tableIn (off := 409) (tgt := 410) hx hb dX6_kindOfOne_1 (by rw [c_1_124]; decide) (by rw [c_1_124]; decide) (by rw [c_1_124]; rfl) (by decide) ?_
    refine lv_bipush (v := 46) hx hb dX6_kindOfOne_410 (by decide) ?_
    exact zm_rn hQ hx hb hr hlocks hK hP hD hS rfl (by unfold zk_one; rw [c_1_124]; decide) dX6_kindOfOne_412
  by_cases c_1_125 : x = 125
  · refine lv_tableIn (off := 445) (tgt := 446) hx hb dX6_kindOfOne_1 (by rw [c_1_125]; decide) (by rw [c_1_125]; decide) (by rw [c_1_125]; rfl) (by decide) ?_
    refine lv_bipush (v := 83) hx hb dX6_kindOfOne_446 (by decide) ?_
    exact zm_rn hQ hx hb hr hlocks hK hP hD hS rfl (by unfold zk_one; rw [c_1_125]; decide) dX6_kindOfOne_448
  by_cases c_1_126 : x = 126
  · refine lv_tableIn (off := 427) (tgt := 428) hx hb dX6_kindOfOne_1 (by rw [c_1_126]; decide) (by rw [c_1_126]; decide) (by rw [c_1_126]; rfl) (by decide) ?_
    refine lv_bipush (v := 72) hx hb dX6_kindOfOne_428 (by decide) ?_
    exact zm_rn hQ hx hb hr hlocks hK hP hD hS rfl (by unfold zk_one; rw [c_1_126]; decide) dX6_kindOfOne_430
  have J_d1 : W p l e (za_R 0 0 0) s m args below meth co H locs 0 0 Q (F0 m 461 ls []) := by
    refine lv_iconst (v := (-1)) hx hb dX6_kindOfOne_461 (by decide) ?_
    exact zm_rn hQ hx hb hr hlocks hK hP hD hS rfl (by simp [zk_one, c_1_33, c_1_37, c_1_38, c_1_40, c_1_41, c_1_42, c_1_43, c_1_44, c_1_45, c_1_46, c_1_47, c_1_58, c_1_59, c_1_60, c_1_61, c_1_62, c_1_91, c_1_93, c_1_94, c_1_123, c_1_124, c_1_125, c_1_126]) dX6_kindOfOne_462
  by_cases c_lo : x.toInt < 33
  · exact lv_tableOut (tgt := 461) hx hb dX6_kindOfOne_1 (Or.inl c_lo) (by decide) J_d1
  by_cases c_hi : 126 < x.toInt
  · exact lv_tableOut (tgt := 461) hx hb dX6_kindOfOne_1 (Or.inr c_hi) (by decide) J_d1
  refine lv_tableIn (off := 460) (tgt := 461) hx hb dX6_kindOfOne_1 c_lo c_hi (z_tab [424, 460, 460, 460, 403, 406, 460, 430, 433, 397, 391, 448, 394, 454, 400, 460, 460, 460, 460, 460, 460, 460, 460, 460, 460, 457, 451, 415, 421, 418, 460, 460, 460, 460, 460, 460, 460, 460, 460, 460, 460, 460, 460, 460, 460, 460, 460, 460, 460, 460, 460, 460, 460, 460, 460, 460, 460, 460, 436, 460, 439, 412, 460, 460, 460, 460, 460, 460, 460, 460, 460, 460, 460, 460, 460, 460, 460, 460, 460, 460, 460, 460, 460, 460, 460, 460, 460, 460, 460, 460, 442, 409, 445, 427] (x.toInt - 33).toNat [0, 4, 5, 7, 8, 9, 10, 11, 12, 13, 14, 25, 26, 27, 28, 29, 58, 60, 61, 90, 91, 92, 93] (by decide) (show _ < 94 by omega) (by intro h9; simp only [List.mem_cons, List.not_mem_nil, or_false] at h9; rcases h9 with h9 | h9 | h9 | h9 | h9 | h9 | h9 | h9 | h9 | h9 | h9 | h9 | h9 | h9 | h9 | h9 | h9 | h9 | h9 | h9 | h9 | h9 | h9; exact c_1_33 (z_toI (n := 33) (by omega) (by decide)); exact c_1_37 (z_toI (n := 37) (by omega) (by decide)); exact c_1_38 (z_toI (n := 38) (by omega) (by decide)); exact c_1_40 (z_toI (n := 40) (by omega) (by decide)); exact c_1_41 (z_toI (n := 41) (by omega) (by decide)); exact c_1_42 (z_toI (n := 42) (by omega) (by decide)); exact c_1_43 (z_toI (n := 43) (by omega) (by decide)); exact c_1_44 (z_toI (n := 44) (by omega) (by decide)); exact c_1_45 (z_toI (n := 45) (by omega) (by decide)); exact c_1_46 (z_toI (n := 46) (by omega) (by decide)); exact c_1_47 (z_toI (n := 47) (by omega) (by decide)); exact c_1_58 (z_toI (n := 58) (by omega) (by decide)); exact c_1_59 (z_toI (n := 59) (by omega) (by decide)); exact c_1_60 (z_toI (n := 60) (by omega) (by decide)); exact c_1_61 (z_toI (n := 61) (by omega) (by decide)); exact c_1_62 (z_toI (n := 62) (by omega) (by decide)); exact c_1_91 (z_toI (n := 91) (by omega) (by decide)); exact c_1_93 (z_toI (n := 93) (by omega) (by decide)); exact c_1_94 (z_toI (n := 94) (by omega) (by decide)); exact c_1_123 (z_toI (n := 123) (by omega) (by decide)); exact c_1_124 (z_toI (n := 124) (by omega) (by decide)); exact c_1_125 (z_toI (n := 125) (by omega) (by decide)); exact c_1_126 (z_toI (n := 126) (by omega) (by decide)))) (by decide) J_d1
set_option maxHeartbeats 4000000 in
set_option maxRecDepth 100000 in
theorem kX6_kindOfTwo (l : Launch) (g : za_G) (E : za_E) (x : Int32) : za_Ci l g E yX6_kindOfTwo cX6_kindOfTwo 1 ((some .int)) 0 0 0 [.int x] [] (fun r (_ : Unit) => r = zk_two x) (fun _ => []) := by
  refine za_begin (by decide) (Nat.le_of_ble_eq_true rfl) RX6 rfl ?_
  intro p e s m args below meth co A ls Q H locs C hQ hr hlocks hnm hS hP hD hl
  obtain ⟨hx, hb, hml, hown, hts, hK, hA, hE⟩ := id C
  have hl : lv_has ls 1 [(0, .int x)] := hl
  refine lv_iload_n hx hb dX6_kindOfTwo_0 rfl (lv_at hl 0 rfl) ?_
  by_cases c_1_8509 : x = 8509
  · refine lv_lookup (off := 230) (tgt := 231) hx hb dX6_kindOfTwo_1 (by decide) (by rw [c_1_8509]; decide) (by decide) ?_
    refine lv_bipush (v := 73) hx hb dX6_kindOfTwo_231 (by decide) ?_
    exact zm_rn hQ hx hb hr hlocks hK hP hD hS rfl (by unfold zk_two; rw [c_1_8509]; decide) dX6_kindOfTwo_233
  by_cases c_1_9533 : x = 9533
  · refine lv_lookup (off := 200) (tgt := 201) hx hb dX6_kindOfTwo_1 (by decide) (by rw [c_1_9533]; decide) (by decide) ?_
    refine lv_bipush (v := 55) hx hb dX6_kindOfTwo_201 (by decide) ?_
    exact zm_rn hQ hx hb hr hlocks hK hP hD hS rfl (by unfold zk_two; rw [c_1_9533]; decide) dX6_kindOfTwo_203
  by_cases c_1_9766 : x = 9766
  · refine lv_lookup (off := 212) (tgt := 213) hx hb dX6_kindOfTwo_1 (by decide) (by rw [c_1_9766]; decide) (by decide) ?_
    refine lv_bipush (v := 62) hx hb dX6_kindOfTwo_213 (by decide) ?_
    exact zm_rn hQ hx hb hr hlocks hK hP hD hS rfl (by unfold zk_two; rw [c_1_9766]; decide) dX6_kindOfTwo_215
  by_cases c_1_9789 : x = 9789
  · refine lv_lookup (off := 203) (tgt := 204) hx hb dX6_kindOfTwo_1 (by decide) (by rw [c_1_9789]; decide) (by decide) ?_
    refine lv_bipush (v := 56) hx hb dX6_kindOfTwo_204 (by decide) ?_
    exact zm_rn hQ hx hb hr hlocks hK hP hD hS rfl (by unfold zk_two; rw [c_1_9789]; decide) dX6_kindOfTwo_206
  by_cases c_1_9822 : x = 9822
  · refine lv_lookup (off := 185) (tgt := 186) hx hb dX6_kindOfTwo_1 (by decide) (by rw [c_1_9822]; decide) (by decide) ?_
    refine lv_bipush (v := 50) hx hb dX6_kindOfTwo_186 (by decide) ?_
    exact zm_rn hQ hx hb hr hlocks hK hP hD hS rfl (by unfold zk_two; rw [c_1_9822]; decide) dX6_kindOfTwo_188
  by_cases c_1_10813 : x = 10813
  · refine lv_lookup (off := 194) (tgt := 195) hx hb dX6_kindOfTwo_1 (by decide) (by rw [c_1_10813]; decide) (by decide) ?_
    refine lv_bipush (v := 53) hx hb dX6_kindOfTwo_195 (by decide) ?_
    exact zm_rn hQ hx hb hr hlocks hK hP hD hS rfl (by unfold zk_two; rw [c_1_10813]; decide) dX6_kindOfTwo_197
  by_cases c_1_11051 : x = 11051
  · refine lv_lookup (off := 221) (tgt := 222) hx hb dX6_kindOfTwo_1 (by decide) (by rw [c_1_11051]; decide) (by decide) ?_
    refine lv_bipush (v := 65) hx hb dX6_kindOfTwo_222 (by decide) ?_
    exact zm_rn hQ hx hb hr hlocks hK hP hD hS rfl (by unfold zk_two; rw [c_1_11051]; decide) dX6_kindOfTwo_224
  by_cases c_1_11069 : x = 11069
  · refine lv_lookup (off := 188) (tgt := 189) hx hb dX6_kindOfTwo_1 (by decide) (by rw [c_1_11069]; decide) (by decide) ?_
    refine lv_bipush (v := 51) hx hb dX6_kindOfTwo_189 (by decide) ?_
    exact zm_rn hQ hx hb hr hlocks hK hP hD hS rfl (by unfold zk_two; rw [c_1_11069]; decide) dX6_kindOfTwo_191
  by_cases c_1_11565 : x = 11565
  · refine lv_lookup (off := 224) (tgt := 225) hx hb dX6_kindOfTwo_1 (by decide) (by rw [c_1_11565]; decide) (by decide) ?_
    refine lv_bipush (v := 66) hx hb dX6_kindOfTwo_225 (by decide) ?_
    exact zm_rn hQ hx hb hr hlocks hK hP hD hS rfl (by unfold zk_two; rw [c_1_11565]; decide) dX6_kindOfTwo_227
  by_cases c_1_11581 : x = 11581
  · refine lv_lookup (off := 191) (tgt := 192) hx hb dX6_kindOfTwo_1 (by decide) (by rw [c_1_11581]; decide) (by decide) ?_
    refine lv_bipush (v := 52) hx hb dX6_kindOfTwo_192 (by decide) ?_
    exact zm_rn hQ hx hb hr hlocks hK hP hD hS rfl (by unfold zk_two; rw [c_1_11581]; decide) dX6_kindOfTwo_194
  by_cases c_1_12093 : x = 12093
  · refine lv_lookup (off := 197) (tgt := 198) hx hb dX6_kindOfTwo_1 (by decide) (by rw [c_1_12093]; decide) (by decide) ?_
    refine lv_bipush (v := 54) hx hb dX6_kindOfTwo_198 (by decide) ?_
    exact zm_rn hQ hx hb hr hlocks hK hP hD hS rfl (by unfold zk_two; rw [c_1_12093]; decide) dX6_kindOfTwo_200
  by_cases c_1_14909 : x = 14909
  · refine lv_lookup (off := 239) (tgt := 240) hx hb dX6_kindOfTwo_1 (by decide) (by rw [c_1_14909]; decide) (by decide) ?_
    refine lv_bipush (v := 76) hx hb dX6_kindOfTwo_240 (by decide) ?_
    exact zm_rn hQ hx hb hr hlocks hK hP hD hS rfl (by unfold zk_two; rw [c_1_14909]; decide) dX6_kindOfTwo_242
  by_cases c_1_15405 : x = 15405
  · refine lv_lookup (off := 218) (tgt := 219) hx hb dX6_kindOfTwo_1 (by decide) (by rw [c_1_15405]; decide) (by decide) ?_
    refine lv_bipush (v := 64) hx hb dX6_kindOfTwo_219 (by decide) ?_
    exact zm_rn hQ hx hb hr hlocks hK hP hD hS rfl (by unfold zk_two; rw [c_1_15405]; decide) dX6_kindOfTwo_221
  by_cases c_1_15420 : x = 15420
  · refine lv_lookup (off := 179) (tgt := 180) hx hb dX6_kindOfTwo_1 (by decide) (by rw [c_1_15420]; decide) (by decide) ?_
    refine lv_bipush (v := 48) hx hb dX6_kindOfTwo_180 (by decide) ?_
    exact zm_rn hQ hx hb hr hlocks hK hP hD hS rfl (by unfold zk_two; rw [c_1_15420]; decide) dX6_kindOfTwo_182
  by_cases c_1_15421 : x = 15421
  · refine lv_lookup (off := 233) (tgt := 234) hx hb dX6_kindOfTwo_1 (by decide) (by rw [c_1_15421]; decide) (by decide) ?_
    refine lv_bipush (v := 74) hx hb dX6_kindOfTwo_234 (by decide) ?_
    exact zm_rn hQ hx hb hr hlocks hK hP hD hS rfl (by unfold zk_two; rw [c_1_15421]; decide) dX6_kindOfTwo_236
  by_cases c_1_15677 : x = 15677
  · refine lv_lookup (off := 227) (tgt := 228) hx hb dX6_kindOfTwo_1 (by decide) (by rw [c_1_15677]; decide) (by decide) ?_
    refine lv_bipush (v := 67) hx hb dX6_kindOfTwo_228 (by decide) ?_
    exact zm_rn hQ hx hb hr hlocks hK hP hD hS rfl (by unfold zk_two; rw [c_1_15677]; decide) dX6_kindOfTwo_230
  by_cases c_1_15933 : x = 15933
  · refine lv_lookup (off := 236) (tgt := 237) hx hb dX6_kindOfTwo_1 (by decide) (by rw [c_1_15933]; decide) (by decide) ?_
    refine lv_bipush (v := 75) hx hb dX6_kindOfTwo_237 (by decide) ?_
    exact zm_rn hQ hx hb hr hlocks hK hP hD hS rfl (by unfold zk_two; rw [c_1_15933]; decide) dX6_kindOfTwo_239
  by_cases c_1_15934 : x = 15934
  · refine lv_lookup (off := 182) (tgt := 183) hx hb dX6_kindOfTwo_1 (by decide) (by rw [c_1_15934]; decide) (by decide) ?_
    refine lv_bipush (v := 49) hx hb dX6_kindOfTwo_183 (by decide) ?_
    exact zm_rn hQ hx hb hr hlocks hK hP hD hS rfl (by unfold zk_two; rw [c_1_15934]; decide) dX6_kindOfTwo_185
  by_cases c_1_24125 : x = 24125
  · refine lv_lookup (off := 209) (tgt := 210) hx hb dX6_kindOfTwo_1 (by decide) (by rw [c_1_24125]; decide) (by decide) ?_
    refine lv_bipush (v := 58) hx hb dX6_kindOfTwo_210 (by decide) ?_
    exact zm_rn hQ hx hb hr hlocks hK hP hD hS rfl (by unfold zk_two; rw [c_1_24125]; decide) dX6_kindOfTwo_212
  by_cases c_1_31805 : x = 31805
  · refine lv_lookup (off := 206) (tgt := 207) hx hb dX6_kindOfTwo_1 (by decide) (by rw [c_1_31805]; decide) (by decide) ?_
    refine lv_bipush (v := 57) hx hb dX6_kindOfTwo_207 (by decide) ?_
    exact zm_rn hQ hx hb hr hlocks hK hP hD hS rfl (by unfold zk_two; rw [c_1_31805]; decide) dX6_kindOfTwo_209
  by_cases c_1_31868 : x = 31868
  · refine lv_lookup (off := 215) (tgt := 216) hx hb dX6_kindOfTwo_1 (by decide) (by rw [c_1_31868]; decide) (by decide) ?_
    refine lv_bipush (v := 63) hx hb dX6_kindOfTwo_216 (by decide) ?_
    exact zm_rn hQ hx hb hr hlocks hK hP hD hS rfl (by unfold zk_two; rw [c_1_31868]; decide) dX6_kindOfTwo_218
  refine lv_lookup (off := 242) (tgt := 243) hx hb dX6_kindOfTwo_1 (by decide) (by rw [lv_osw c_1_8509 (by decide)]; rw [lv_osw c_1_9533 (by decide)]; rw [lv_osw c_1_9766 (by decide)]; rw [lv_osw c_1_9789 (by decide)]; rw [lv_osw c_1_9822 (by decide)]; rw [lv_osw c_1_10813 (by decide)]; rw [lv_osw c_1_11051 (by decide)]; rw [lv_osw c_1_11069 (by decide)]; rw [lv_osw c_1_11565 (by decide)]; rw [lv_osw c_1_11581 (by decide)]; rw [lv_osw c_1_12093 (by decide)]; rw [lv_osw c_1_14909 (by decide)]; rw [lv_osw c_1_15405 (by decide)]; rw [lv_osw c_1_15420 (by decide)]; rw [lv_osw c_1_15421 (by decide)]; rw [lv_osw c_1_15677 (by decide)]; rw [lv_osw c_1_15933 (by decide)]; rw [lv_osw c_1_15934 (by decide)]; rw [lv_osw c_1_24125 (by decide)]; rw [lv_osw c_1_31805 (by decide)]; rw [lv_osw c_1_31868 (by decide)]; rfl) (by decide) ?_
  refine lv_iconst (v := (-1)) hx hb dX6_kindOfTwo_243 (by decide) ?_
  exact zm_rn hQ hx hb hr hlocks hK hP hD hS rfl (by simp [zk_two, c_1_8509, c_1_9533, c_1_9766, c_1_9789, c_1_9822, c_1_10813, c_1_11051, c_1_11069, c_1_11565, c_1_11581, c_1_12093, c_1_14909, c_1_15405, c_1_15420, c_1_15421, c_1_15677, c_1_15933, c_1_15934, c_1_24125, c_1_31805, c_1_31868]) dX6_kindOfTwo_244
set_option maxHeartbeats 4000000 in
set_option maxRecDepth 100000 in
theorem kX6_kindOfThree (l : Launch) (g : za_G) (E : za_E) (x : Int32) : za_Ci l g E yX6_kindOfThree cX6_kindOfThree 1 ((some .int)) 0 0 0 [.int x] [] (fun r (_ : Unit) => r = zk_three x) (fun _ => []) := by
  refine za_begin (by decide) (Nat.le_of_ble_eq_true rfl) RX6 rfl ?_
  intro p e s m args below meth co A ls Q H locs C hQ hr hlocks hnm hS hP hD hl
  obtain ⟨hx, hb, hml, hown, hts, hK, hA, hE⟩ := id C
  have hl : lv_has ls 1 [(0, .int x)] := hl
  refine lv_iload_n hx hb dX6_kindOfThree_0 rfl (lv_at hl 0 rfl) ?_
  by_cases c_1_2514493 : x = 2514493
  · refine lv_lookup (off := 49) (tgt := 50) hx hb dX6_kindOfThree_1 (by decide) (by rw [c_1_2514493]; decide) (by decide) ?_
    refine lv_bipush (v := 61) hx hb dX6_kindOfThree_50 (by decide) ?_
    exact zm_rn hQ hx hb hr hlocks hK hP hD hS rfl (by unfold zk_three; rw [c_1_2514493]; decide) dX6_kindOfThree_52
  by_cases c_1_3026478 : x = 3026478
  · refine lv_lookup (off := 52) (tgt := 53) hx hb dX6_kindOfThree_1 (by decide) (by rw [c_1_3026478]; decide) (by decide) ?_
    refine lv_bipush (v := 77) hx hb dX6_kindOfThree_53 (by decide) ?_
    exact zm_rn hQ hx hb hr hlocks hK hP hD hS rfl (by unfold zk_three; rw [c_1_3026478]; decide) dX6_kindOfThree_55
  by_cases c_1_3947581 : x = 3947581
  · refine lv_lookup (off := 43) (tgt := 44) hx hb dX6_kindOfThree_1 (by decide) (by rw [c_1_3947581]; decide) (by decide) ?_
    refine lv_bipush (v := 59) hx hb dX6_kindOfThree_44 (by decide) ?_
    exact zm_rn hQ hx hb hr hlocks hK hP hD hS rfl (by unfold zk_three; rw [c_1_3947581]; decide) dX6_kindOfThree_46
  by_cases c_1_4079165 : x = 4079165
  · refine lv_lookup (off := 46) (tgt := 47) hx hb dX6_kindOfThree_1 (by decide) (by rw [c_1_4079165]; decide) (by decide) ?_
    refine lv_bipush (v := 60) hx hb dX6_kindOfThree_47 (by decide) ?_
    exact zm_rn hQ hx hb hr hlocks hK hP hD hS rfl (by unfold zk_three; rw [c_1_4079165]; decide) dX6_kindOfThree_49
  refine lv_lookup (off := 55) (tgt := 56) hx hb dX6_kindOfThree_1 (by decide) (by rw [lv_osw c_1_2514493 (by decide)]; rw [lv_osw c_1_3026478 (by decide)]; rw [lv_osw c_1_3947581 (by decide)]; rw [lv_osw c_1_4079165 (by decide)]; rfl) (by decide) ?_
  refine lv_iconst (v := (-1)) hx hb dX6_kindOfThree_56 (by decide) ?_
  exact zm_rn hQ hx hb hr hlocks hK hP hD hS rfl (by simp [zk_three, c_1_2514493, c_1_3026478, c_1_3947581, c_1_4079165]) dX6_kindOfThree_57
set_option maxHeartbeats 4000000 in
set_option maxRecDepth 100000 in
theorem kL_name_ (l : Launch) (g : za_G) (E : za_E) (o d : Nat → Nat) (N : zc_N) (hI0 : zc_I N) (hfu : N.1 71 < 16384) {p : Program} {e : Env} {s : State} {m : MethodId} {args : Array Value} {below : List Frame} {meth : Method} {co : Code} {A : Nat → Prop} {Q : State → Prop} (C : za_H p s m args co cX5_readName 4 RX5 g E A) (hQ : Q = MQ below (za_qv g (fun u : zc_N × (Nat → Nat) => u.1 = zc_readName N) (fun u => zc_ws g o u.2 u.1) A) args s (zc_L (zc_readName N) - zc_L N) (2 * (zc_L (zc_readName N) - zc_L N)) A) (hr : meth.sig.returnType = none) (hlocks : meth.locks = false)  : ∀ (n_ : Nat) (k : Nat) (X : zc_N) (v : Int32), (k ≤ 65536) → (zc_name zk_F N = zc_name k X ∧ zk_hash zk_F N 0 = zk_hash k X v) → k < n_ → ∀ (d1 : Nat → Nat) (cells slots : Nat) (H : Heap) (locs : List Loc) (ls : Array Slot), va_S A s.heap H locs → va_P g.1 vwCl (zc_ws g o d1 X) H → va_D A (zc_ws g o d1 X) → zb_c N X cells slots → zc_I X → lv_has ls 4 [(0, .ref (o 5)), (1, .int v), (2, .int (nI (65536 - k)))] → W p l e (za_R 6 (zc_rc N) (zc_rs N)) s m args below meth co H locs cells slots Q (F0 m 4 ls []) := by
  obtain ⟨hx, hb, hml, hown, hts, hK, hA, hE⟩ := id C
  intro n_
  induction n_ with
  | zero => intro k X v hk6 hres hm; exact absurd hm (Nat.not_lt_zero _)
  | succ n_ ih =>
    intro k X v hk6 hres hm d1 cells slots H locs ls hS hP hD hc hI hl
    refine lv_iload_n hx hb dX5_readName_4 rfl (lv_at hl 2 rfl) ?_
    refine lv_ldc (v := 65536) hx hb hown (hts _ w_406) dX5_readName_5 ?_
    refine za_icmp_ge (tgt := 62) hx hb dX5_readName_7 (by decide) (fun c_7 => ?_) (fun c_7 => ?_)
    · have hk0 : k = 0 := by
        cases k with
        | zero => rfl
        | succ kk => exact absurd (nI_lt (show 65536 - (kk + 1) < 65536 by omega) (by decide)) c_7
      have e1 : zc_name zk_F N = X := by rw [hres.1, hk0]; rfl
      have e2 : zk_hash zk_F N 0 = v := by rw [hres.2, hk0]; rfl
      have hf7 : X.1 71 < 16384 := by rw [← e1]; exact zf_71 (zf_name _) hfu
      refine lv_aload_n hx hb dX5_readName_62 rfl (lv_at hl 0 rfl) ?_
      refine za_ci (wc := zc_ws g o d1 X) (wr := []) C hP hD hS [0, 1, 2, 3, 4, 5, 6, 7, 8, 9, 10, 11, 12, 13, 14, 15, 16] [] rfl rfl (by decide) (by decide) (za_runV C hP hD hS [0, 1, 2, 3, 4, 5, 6, 7, 8, 9, 10, 11, 12, 13, 14, 15, 16] rfl (by decide) rfl (kX5_wordKind l g E o d1 X  hI ) w_451 mX5_wordKind 5 rfl rfl rfl rfl hl.1 rfl (Nat.le_of_ble_eq_true rfl) dX5_readName_63 ⟨Nat.le_of_ble_eq_true rfl, Nat.le_of_ble_eq_true rfl⟩ (hc.le0 (zc_L_le hI))) (fun r1 _ H locs hr1 hP hD hS => ?_)
      subst hr1
      have hP : va_P g.1 vwCl (zc_ws g o d1 X) H := hP
      have hD : va_D A (zc_ws g o d1 X) := hD
      refine lv_istore_n (lv' := [(2, .int (zk_wordKind X)), (0, .ref (o 5)), (1, .int v)]) hx hb dX5_readName_66 rfl hl (by decide) rfl (fun ls hl => ?_)
      refine lv_iload_n hx hb dX5_readName_67 rfl (lv_at hl 0 rfl) ?_
      refine lv_iconst (v := (-1)) hx hb dX5_readName_68 (by decide) ?_
      refine lv_icmp_eq (tgt := 78) hx hb dX5_readName_69 (by decide) (fun c_69 => ?_) (fun c_69 => ?_)
      · refine lv_aload_n hx hb dX5_readName_78 rfl (lv_at hl 1 rfl) ?_
        refine lv_iconst (v := 1) hx hb dX5_readName_79 (by decide) ?_
        refine zc_callv C hP hD hS hc (zl_putT _) (zb_runV C hP hD hS [0, 1, 2, 3, 4, 5, 6, 7, 8, 9, 10, 11, 12, 13, 14, 15, 16] rfl (by decide) rfl (kX5_put l g E o d1 X 1 hI hf7) w_514 mX5_put 5 rfl rfl rfl rfl hl.1 rfl (Nat.le_of_ble_eq_true rfl) dX5_readName_80 ⟨Nat.le_of_ble_eq_true rfl, Nat.le_of_ble_eq_true rfl⟩ (hc.room (zc_L_le hI))) (fun N2 d2 H locs cells slots hN2 hc hP hD hS => ?_)
        have hI : zc_I N2 := by rw [hN2]; exact zi_putT hI hf7 _
        refine lv_aload_n hx hb dX5_readName_83 rfl (lv_at hl 1 rfl) ?_
        refine va_get (ci := 5) (v := .ref (o 7)) hx hb hts iX5 hown hK hP 5 rfl rfl 1 (by decide) (hts _ w_222) (fun _ h9 => h9) rfl dX5_readName_84 ?_
        refine lv_bipush (v := 6) hx hb dX5_readName_87 (by decide) ?_
        refine lv_aload_n hx hb dX5_readName_89 rfl (lv_at hl 1 rfl) ?_
        refine va_get (ci := 5) (v := .ref (o 7)) hx hb hts iX5 hown hK hP 5 rfl rfl 1 (by decide) (hts _ w_222) (fun _ h9 => h9) rfl dX5_readName_90 ?_
        refine va_get (ci := 7) (v := .ref (o 2)) hx hb hts iX8 hown hK hP 7 rfl rfl 3 (by decide) (hts _ w_175) (fun _ h9 => h9) rfl dX5_readName_93 ?_
        refine lv_aload_n hx hb dX5_readName_96 rfl (lv_at hl 1 rfl) ?_
        refine va_get (ci := 5) (v := .ref (o 7)) hx hb hts iX5 hown hK hP 5 rfl rfl 1 (by decide) (hts _ w_222) (fun _ h9 => h9) rfl dX5_readName_97 ?_
        refine lv_aload_n hx hb dX5_readName_100 rfl (lv_at hl 1 rfl) ?_
        refine va_get (ci := 5) (v := .ref (o 7)) hx hb hts iX5 hown hK hP 5 rfl rfl 1 (by decide) (hts _ w_222) (fun _ h9 => h9) rfl dX5_readName_101 ?_
        refine va_get (ci := 7) (v := .int (N2.1 71)) hx hb hts iX8 hown hK hP 7 rfl rfl 1 (by decide) (hts _ w_169) (fun _ h9 => h9) rfl dX5_readName_104 ?_
        refine lv_iconst (v := 1) hx hb dX5_readName_107 (by decide) ?_
        refine lv_isub hx hb dX5_readName_108 ?_
        refine lv_iload_n hx hb dX5_readName_109 rfl (lv_at hl 2 rfl) ?_
        refine zc_calli C hP hD hS hc (zl_number hI _ _) (zb_runV C hP hD hS [0, 1, 2, 3, 4, 5, 6, 7, 8, 9, 10, 11, 12, 13, 14, 15, 16] rfl (by decide) rfl (kX2_numberOf l g E o d2 N2 ((N2.1 71) - 1) v hI (by rw [hN2]; exact zc_K_put (by rw [← e1]; exact zi_name _ hI0) hf7 _)) w_518 mX2_numberOf 2 rfl rfl rfl rfl hl.1 rfl (Nat.le_of_ble_eq_true rfl) dX5_readName_110 ⟨Nat.le_of_ble_eq_true rfl, Nat.le_of_ble_eq_true rfl⟩ (hc.room (zc_L_le hI))) (fun r3 N3 d3 H locs cells slots hr3 hN3 hc hP hD hS => ?_)
        have hI : zc_I N3 := by rw [hN3]; exact zi_number hI (by rw [hN2]; exact zc_K_put (by rw [← e1]; exact zi_name _ hI0) hf7 _) _ _
        refine za_cv (wc := zc_ws g o d3 N3) (wr := []) C hP hD hS [0, 1, 2, 3, 4, 5, 6, 7, 8, 9, 10, 11, 12, 13, 14, 15, 16] [] rfl rfl (by decide) (by decide) (za_runV C hP hD hS [0, 1, 2, 3, 4, 5, 6, 7, 8, 9, 10, 11, 12, 13, 14, 15, 16] rfl (by decide) rfl (kX8_tellLast l g E o d3 N3 6 r3 hI ) w_389 mX8_tellLast 7 rfl rfl rfl rfl hl.1 rfl (Nat.le_of_ble_eq_true rfl) dX5_readName_113 ⟨Nat.le_of_ble_eq_true rfl, Nat.le_of_ble_eq_true rfl⟩ (hc.le0 (zc_L_le hI))) (fun N4 H locs hN4 hP hD hS => ?_)
        have hI : zc_I N4 := by rw [hN4]; exact zi_tell hI _ _
        have hc : zb_c N N4 cells slots := by rw [hN4]; exact hc.eq zL_tell
        have hP : va_P g.1 vwCl (zc_ws g o d3 N4) H := hP
        have hD : va_D A (zc_ws g o d3 N4) := hD
        exact zc_rvg hQ hx hb hr hlocks hK hP hD hS hc (by unfold zc_readName zc_numbered; rw [e1, e2, if_pos c_69, ← hN2, ← hN3, ← hr3]; exact hN4) dX5_readName_116
      · refine lv_aload_n hx hb dX5_readName_72 rfl (lv_at hl 1 rfl) ?_
        refine lv_iload_n hx hb dX5_readName_73 rfl (lv_at hl 0 rfl) ?_
        refine zc_callv C hP hD hS hc (zl_putT _) (zb_runV C hP hD hS [0, 1, 2, 3, 4, 5, 6, 7, 8, 9, 10, 11, 12, 13, 14, 15, 16] rfl (by decide) rfl (kX5_put l g E o d1 X (zk_wordKind X) hI hf7) w_514 mX5_put 5 rfl rfl rfl rfl hl.1 rfl (Nat.le_of_ble_eq_true rfl) dX5_readName_74 ⟨Nat.le_of_ble_eq_true rfl, Nat.le_of_ble_eq_true rfl⟩ (hc.room (zc_L_le hI))) (fun N5 d5 H locs cells slots hN5 hc hP hD hS => ?_)
        have hI : zc_I N5 := by rw [hN5]; exact zi_putT hI hf7 _
        exact zc_rvg hQ hx hb hr hlocks hK hP hD hS hc (by unfold zc_readName; rw [e1, if_neg c_69]; exact hN5) dX5_readName_77
    · obtain ⟨kk, hk1⟩ : ∃ kk, k = kk + 1 := by
        cases k with
        | zero => exact absurd c_7 (by decide)
        | succ kk => exact ⟨kk, rfl⟩
      refine lv_aload_n hx hb dX5_readName_10 rfl (lv_at hl 0 rfl) ?_
      refine va_get (ci := 5) (v := .ref (o 6)) hx hb hts iX5 hown hK hP 5 rfl rfl 0 (by decide) (hts _ w_221) (fun _ h9 => h9) rfl dX5_readName_11 ?_
      refine za_ci (wc := zc_ws g o d1 X) (wr := []) C hP hD hS [0, 1, 2, 3, 4, 5, 6, 7, 8, 9, 10, 11, 12, 13, 14, 15, 16] [] rfl rfl (by decide) (by decide) (za_runV C hP hD hS [0, 1, 2, 3, 4, 5, 6, 7, 8, 9, 10, 11, 12, 13, 14, 15, 16] rfl (by decide) rfl (kX7_here l g E o d1 X  hI ) w_345 mX7_here 6 rfl rfl rfl rfl hl.1 rfl (Nat.le_of_ble_eq_true rfl) dX5_readName_14 ⟨Nat.le_of_ble_eq_true rfl, Nat.le_of_ble_eq_true rfl⟩ (hc.le0 (zc_L_le hI))) (fun r6 _ H locs hr6 hP hD hS => ?_)
      subst hr6
      have hP : va_P g.1 vwCl (zc_ws g o d1 X) H := hP
      have hD : va_D A (zc_ws g o d1 X) := hD
      refine za_ci (wc := []) (wr := zc_ws g o d1 X) C hP hD hS [] [0, 1, 2, 3, 4, 5, 6, 7, 8, 9, 10, 11, 12, 13, 14, 15, 16] rfl rfl (by decide) (by decide) (za_runSN C hP hD hS [] rfl (by decide) rfl (kX9_isNamePart l g E (zk_here X) ) zn_X5_155 mX9_isNamePart rfl hl.1 rfl (Nat.le_of_ble_eq_true rfl) dX5_readName_17 ⟨Nat.le_of_ble_eq_true rfl, Nat.le_of_ble_eq_true rfl⟩ (hc.le0 (zc_L_le hI))) (fun r7 _ H locs hr7 hP hD hS => ?_)
      subst hr7
      have hP : va_P g.1 vwCl (zc_ws g o d1 X) H := hP
      have hD : va_D A (zc_ws g o d1 X) := hD
      refine lv_if_eq (tgt := 62) hx hb dX5_readName_20 (by decide) (fun c_20 => ?_) (fun c_20 => ?_)
      · have e1 : zc_name zk_F N = X := by rw [hres.1, zc_name_s hk1, if_pos c_20]
        have e2 : zk_hash zk_F N 0 = v := by rw [hres.2, zk_hash_s hk1, if_pos c_20]
        have hf7 : X.1 71 < 16384 := by rw [← e1]; exact zf_71 (zf_name _) hfu
        refine lv_aload_n hx hb dX5_readName_62 rfl (lv_at hl 0 rfl) ?_
        refine za_ci (wc := zc_ws g o d1 X) (wr := []) C hP hD hS [0, 1, 2, 3, 4, 5, 6, 7, 8, 9, 10, 11, 12, 13, 14, 15, 16] [] rfl rfl (by decide) (by decide) (za_runV C hP hD hS [0, 1, 2, 3, 4, 5, 6, 7, 8, 9, 10, 11, 12, 13, 14, 15, 16] rfl (by decide) rfl (kX5_wordKind l g E o d1 X  hI ) w_451 mX5_wordKind 5 rfl rfl rfl rfl hl.1 rfl (Nat.le_of_ble_eq_true rfl) dX5_readName_63 ⟨Nat.le_of_ble_eq_true rfl, Nat.le_of_ble_eq_true rfl⟩ (hc.le0 (zc_L_le hI))) (fun r8 _ H locs hr8 hP hD hS => ?_)
        subst hr8
        have hP : va_P g.1 vwCl (zc_ws g o d1 X) H := hP
        have hD : va_D A (zc_ws g o d1 X) := hD
        refine lv_istore_n (lv' := [(2, .int (zk_wordKind X)), (0, .ref (o 5)), (1, .int v)]) hx hb dX5_readName_66 rfl hl (by decide) rfl (fun ls hl => ?_)
        refine lv_iload_n hx hb dX5_readName_67 rfl (lv_at hl 0 rfl) ?_
        refine lv_iconst (v := (-1)) hx hb dX5_readName_68 (by decide) ?_
        refine lv_icmp_eq (tgt := 78) hx hb dX5_readName_69 (by decide) (fun c_69 => ?_) (fun c_69 => ?_)
        · refine lv_aload_n hx hb dX5_readName_78 rfl (lv_at hl 1 rfl) ?_
          refine lv_iconst (v := 1) hx hb dX5_readName_79 (by decide) ?_
          refine zc_callv C hP hD hS hc (zl_putT _) (zb_runV C hP hD hS [0, 1, 2, 3, 4, 5, 6, 7, 8, 9, 10, 11, 12, 13, 14, 15, 16] rfl (by decide) rfl (kX5_put l g E o d1 X 1 hI hf7) w_514 mX5_put 5 rfl rfl rfl rfl hl.1 rfl (Nat.le_of_ble_eq_true rfl) dX5_readName_80 ⟨Nat.le_of_ble_eq_true rfl, Nat.le_of_ble_eq_true rfl⟩ (hc.room (zc_L_le hI))) (fun N9 d9 H locs cells slots hN9 hc hP hD hS => ?_)
          have hI : zc_I N9 := by rw [hN9]; exact zi_putT hI hf7 _
          refine lv_aload_n hx hb dX5_readName_83 rfl (lv_at hl 1 rfl) ?_
          refine va_get (ci := 5) (v := .ref (o 7)) hx hb hts iX5 hown hK hP 5 rfl rfl 1 (by decide) (hts _ w_222) (fun _ h9 => h9) rfl dX5_readName_84 ?_
          refine lv_bipush (v := 6) hx hb dX5_readName_87 (by decide) ?_
          refine lv_aload_n hx hb dX5_readName_89 rfl (lv_at hl 1 rfl) ?_
          refine va_get (ci := 5) (v := .ref (o 7)) hx hb hts iX5 hown hK hP 5 rfl rfl 1 (by decide) (hts _ w_222) (fun _ h9 => h9) rfl dX5_readName_90 ?_
          refine va_get (ci := 7) (v := .ref (o 2)) hx hb hts iX8 hown hK hP 7 rfl rfl 3 (by decide) (hts _ w_175) (fun _ h9 => h9) rfl dX5_readName_93 ?_
          refine lv_aload_n hx hb dX5_readName_96 rfl (lv_at hl 1 rfl) ?_
          refine va_get (ci := 5) (v := .ref (o 7)) hx hb hts iX5 hown hK hP 5 rfl rfl 1 (by decide) (hts _ w_222) (fun _ h9 => h9) rfl dX5_readName_97 ?_
          refine lv_aload_n hx hb dX5_readName_100 rfl (lv_at hl 1 rfl) ?_
          refine va_get (ci := 5) (v := .ref (o 7)) hx hb hts iX5 hown hK hP 5 rfl rfl 1 (by decide) (hts _ w_222) (fun _ h9 => h9) rfl dX5_readName_101 ?_
          refine va_get (ci := 7) (v := .int (N9.1 71)) hx hb hts iX8 hown hK hP 7 rfl rfl 1 (by decide) (hts _ w_169) (fun _ h9 => h9) rfl dX5_readName_104 ?_
          refine lv_iconst (v := 1) hx hb dX5_readName_107 (by decide) ?_
          refine lv_isub hx hb dX5_readName_108 ?_
          refine lv_iload_n hx hb dX5_readName_109 rfl (lv_at hl 2 rfl) ?_
          refine zc_calli C hP hD hS hc (zl_number hI _ _) (zb_runV C hP hD hS [0, 1, 2, 3, 4, 5, 6, 7, 8, 9, 10, 11, 12, 13, 14, 15, 16] rfl (by decide) rfl (kX2_numberOf l g E o d9 N9 ((N9.1 71) - 1) v hI (by rw [hN9]; exact zc_K_put (by rw [← e1]; exact zi_name _ hI0) hf7 _)) w_518 mX2_numberOf 2 rfl rfl rfl rfl hl.1 rfl (Nat.le_of_ble_eq_true rfl) dX5_readName_110 ⟨Nat.le_of_ble_eq_true rfl, Nat.le_of_ble_eq_true rfl⟩ (hc.room (zc_L_le hI))) (fun r10 N10 d10 H locs cells slots hr10 hN10 hc hP hD hS => ?_)
          have hI : zc_I N10 := by rw [hN10]; exact zi_number hI (by rw [hN9]; exact zc_K_put (by rw [← e1]; exact zi_name _ hI0) hf7 _) _ _
          refine za_cv (wc := zc_ws g o d10 N10) (wr := []) C hP hD hS [0, 1, 2, 3, 4, 5, 6, 7, 8, 9, 10, 11, 12, 13, 14, 15, 16] [] rfl rfl (by decide) (by decide) (za_runV C hP hD hS [0, 1, 2, 3, 4, 5, 6, 7, 8, 9, 10, 11, 12, 13, 14, 15, 16] rfl (by decide) rfl (kX8_tellLast l g E o d10 N10 6 r10 hI ) w_389 mX8_tellLast 7 rfl rfl rfl rfl hl.1 rfl (Nat.le_of_ble_eq_true rfl) dX5_readName_113 ⟨Nat.le_of_ble_eq_true rfl, Nat.le_of_ble_eq_true rfl⟩ (hc.le0 (zc_L_le hI))) (fun N11 H locs hN11 hP hD hS => ?_)
          have hI : zc_I N11 := by rw [hN11]; exact zi_tell hI _ _
          have hc : zb_c N N11 cells slots := by rw [hN11]; exact hc.eq zL_tell
          have hP : va_P g.1 vwCl (zc_ws g o d10 N11) H := hP
          have hD : va_D A (zc_ws g o d10 N11) := hD
          exact zc_rvg hQ hx hb hr hlocks hK hP hD hS hc (by unfold zc_readName zc_numbered; rw [e1, e2, if_pos c_69, ← hN9, ← hN10, ← hr10]; exact hN11) dX5_readName_116
        · refine lv_aload_n hx hb dX5_readName_72 rfl (lv_at hl 1 rfl) ?_
          refine lv_iload_n hx hb dX5_readName_73 rfl (lv_at hl 0 rfl) ?_
          refine zc_callv C hP hD hS hc (zl_putT _) (zb_runV C hP hD hS [0, 1, 2, 3, 4, 5, 6, 7, 8, 9, 10, 11, 12, 13, 14, 15, 16] rfl (by decide) rfl (kX5_put l g E o d1 X (zk_wordKind X) hI hf7) w_514 mX5_put 5 rfl rfl rfl rfl hl.1 rfl (Nat.le_of_ble_eq_true rfl) dX5_readName_74 ⟨Nat.le_of_ble_eq_true rfl, Nat.le_of_ble_eq_true rfl⟩ (hc.room (zc_L_le hI))) (fun N12 d12 H locs cells slots hN12 hc hP hD hS => ?_)
          have hI : zc_I N12 := by rw [hN12]; exact zi_putT hI hf7 _
          exact zc_rvg hQ hx hb hr hlocks hK hP hD hS hc (by unfold zc_readName; rw [e1, if_neg c_69]; exact hN12) dX5_readName_77
      · refine lv_aload_n hx hb dX5_readName_23 rfl (lv_at hl 0 rfl) ?_
        refine va_get (ci := 5) (v := .ref (o 6)) hx hb hts iX5 hown hK hP 5 rfl rfl 0 (by decide) (hts _ w_221) (fun _ h9 => h9) rfl dX5_readName_24 ?_
        refine za_ci (wc := zc_ws g o d1 X) (wr := []) C hP hD hS [0, 1, 2, 3, 4, 5, 6, 7, 8, 9, 10, 11, 12, 13, 14, 15, 16] [] rfl rfl (by decide) (by decide) (za_runV C hP hD hS [0, 1, 2, 3, 4, 5, 6, 7, 8, 9, 10, 11, 12, 13, 14, 15, 16] rfl (by decide) rfl (kX7_here l g E o d1 X  hI ) w_345 mX7_here 6 rfl rfl rfl rfl hl.1 rfl (Nat.le_of_ble_eq_true rfl) dX5_readName_27 ⟨Nat.le_of_ble_eq_true rfl, Nat.le_of_ble_eq_true rfl⟩ (hc.le0 (zc_L_le hI))) (fun r13 _ H locs hr13 hP hD hS => ?_)
        subst hr13
        have hP : va_P g.1 vwCl (zc_ws g o d1 X) H := hP
        have hD : va_D A (zc_ws g o d1 X) := hD
        refine lv_istore_n (lv' := [(3, .int (zk_here X)), (0, .ref (o 5)), (1, .int v), (2, .int (nI (65536 - k)))]) hx hb dX5_readName_30 rfl hl (by decide) rfl (fun ls hl => ?_)
        refine lv_iload_n hx hb dX5_readName_31 rfl (lv_at hl 2 rfl) ?_
        refine lv_bipush (v := 31) hx hb dX5_readName_32 (by decide) ?_
        refine lv_imul hx hb dX5_readName_34 ?_
        refine lv_iload_n hx hb dX5_readName_35 rfl (lv_at hl 0 rfl) ?_
        refine lv_iadd hx hb dX5_readName_36 ?_
        refine lv_istore_n (lv' := [(1, .int ((v * 31) + (zk_here X))), (3, .int (zk_here X)), (0, .ref (o 5)), (2, .int (nI (65536 - k)))]) hx hb dX5_readName_37 rfl hl (by decide) rfl (fun ls hl => ?_)
        refine lv_aload_n hx hb dX5_readName_38 rfl (lv_at hl 2 rfl) ?_
        refine va_get (ci := 5) (v := .ref (o 7)) hx hb hts iX5 hown hK hP 5 rfl rfl 1 (by decide) (hts _ w_222) (fun _ h9 => h9) rfl dX5_readName_39 ?_
        refine va_get (ci := 7) (v := .ref (o 0)) hx hb hts iX8 hown hK hP 7 rfl rfl 2 (by decide) (hts _ w_172) (fun _ h9 => h9) rfl dX5_readName_42 ?_
        refine lv_iload_n hx hb dX5_readName_45 rfl (lv_at hl 1 rfl) ?_
        refine zc_callv C hP hD hS hc (zl_append _) (zb_runV C hP hD hS [0, 1, 2, 3, 4, 5, 6, 7, 8, 9, 10, 11, 12, 13, 14, 15, 16] rfl (by decide) rfl (kX0_append l g E o d1 X (zk_here X) hI ) w_445 mX0_append 0 rfl rfl rfl rfl hl.1 rfl (Nat.le_of_ble_eq_true rfl) dX5_readName_46 ⟨Nat.le_of_ble_eq_true rfl, Nat.le_of_ble_eq_true rfl⟩ (hc.room (zc_L_le hI))) (fun N14 d14 H locs cells slots hN14 hc hP hD hS => ?_)
        have hI : zc_I N14 := by rw [hN14]; exact zi_append hI _
        refine lv_aload_n hx hb dX5_readName_49 rfl (lv_at hl 2 rfl) ?_
        refine va_get (ci := 5) (v := .ref (o 6)) hx hb hts iX5 hown hK hP 5 rfl rfl 0 (by decide) (hts _ w_221) (fun _ h9 => h9) rfl dX5_readName_50 ?_
        refine za_cv (wc := zc_ws g o d14 N14) (wr := []) C hP hD hS [0, 1, 2, 3, 4, 5, 6, 7, 8, 9, 10, 11, 12, 13, 14, 15, 16] [] rfl rfl (by decide) (by decide) (za_runV C hP hD hS [0, 1, 2, 3, 4, 5, 6, 7, 8, 9, 10, 11, 12, 13, 14, 15, 16] rfl (by decide) rfl (kX7_step l g E o d14 N14  hI ) w_393 mX7_step 6 rfl rfl rfl rfl hl.1 rfl (Nat.le_of_ble_eq_true rfl) dX5_readName_53 ⟨Nat.le_of_ble_eq_true rfl, Nat.le_of_ble_eq_true rfl⟩ (hc.le0 (zc_L_le hI))) (fun N15 H locs hN15 hP hD hS => ?_)
        have hI : zc_I N15 := by rw [hN15]; exact zi_step hI
        have hc : zb_c N N15 cells slots := by rw [hN15]; exact hc.eq zL_step
        have hP : va_P g.1 vwCl (zc_ws g o d14 N15) H := hP
        have hD : va_D A (zc_ws g o d14 N15) := hD
        refine lv_iinc (v := nI (65536 - kk)) (lv' := [(2, .int (nI (65536 - kk))), (1, .int ((v * 31) + (zk_here X))), (3, .int (zk_here X)), (0, .ref (o 5))]) hx hb dX5_readName_56 hl (k := 3) rfl ((nI_1 _).trans (congrArg nI (by omega))) (by decide) rfl (fun ls hl => ?_)
        refine lv_goto (tgt := 4) hx hb dX5_readName_59 (by decide) ?_
        exact ih kk N15 (v * 31 + zk_here X) (by omega) (⟨by rw [hres.1, zc_name_s hk1, if_neg c_20, ← (show N15 = zc_keepB X by unfold zc_keepB; rw [← hN14]; exact hN15)], by rw [hres.2, zk_hash_s hk1, if_neg c_20, ← (show N15 = zc_keepB X by unfold zc_keepB; rw [← hN14]; exact hN15)]⟩) (by omega) d14 cells slots H locs ls hS hP hD hc hI (lv_sub hl [3, 1, 0] rfl)
set_option maxHeartbeats 4000000 in
set_option maxRecDepth 100000 in
theorem kX5_readName (l : Launch) (g : za_G) (E : za_E) (o d : Nat → Nat) (N : zc_N)  (hI : zc_I N) (hfu : N.1 71 < 16384) : zb_Cv l g E yX5_readName cX5_readName 4 6 (zc_rc N) (zc_rs N) (zc_L (zc_readName N) - zc_L N) (2 * (zc_L (zc_readName N) - zc_L N)) [.ref (o 5)] (zc_ws g o d N) (fun u : zc_N × (Nat → Nat) => u.1 = zc_readName N) (fun u => zc_ws g o u.2 u.1) := by
  refine zb_begin (by decide) (Nat.le_of_ble_eq_true rfl) RX5 rfl ?_
  intro p e s m args below meth co A ls Q H locs C hQ hr hlocks hnm hS hP hD hl
  obtain ⟨hx, hb, hml, hown, hts, hK, hA, hE⟩ := id C
  have hl : lv_has ls 4 [(0, .ref (o 5))] := hl
  have hc : zb_c N N 0 0 := zb_c.rf
  revert hc
  refine (fun (z9 : ∀ cells slots : Nat, zb_c N N cells slots → W p l e (za_R 6 (zc_rc N) (zc_rs N)) s m args below meth co H locs cells slots Q (F0 m 0 ls [])) hc => z9 0 0 hc) (fun cells slots hc => ?_)
  refine lv_iconst (v := 0) hx hb dX5_readName_0 (by decide) ?_
  refine lv_istore_n (lv' := [(1, .int 0), (0, .ref (o 5))]) hx hb dX5_readName_1 rfl hl (by decide) rfl (fun ls hl => ?_)
  refine lv_iconst (v := 0) hx hb dX5_readName_2 (by decide) ?_
  refine lv_istore_n (lv' := [(2, .int 0), (1, .int 0), (0, .ref (o 5))]) hx hb dX5_readName_3 rfl hl (by decide) rfl (fun ls hl => ?_)
  exact kL_name_ l g E o d N hI hfu C hQ hr hlocks _ 65536 N 0 (Nat.le_refl _) ⟨rfl, rfl⟩ (Nat.lt_succ_self _) d cells slots H locs ls hS hP hD hc hI (lv_sub hl [2, 1, 0] rfl)
set_option maxHeartbeats 4000000 in
set_option maxRecDepth 100000 in
theorem kX5_putNumber (l : Launch) (g : za_G) (E : za_E) (o d : Nat → Nat) (N : zc_N) (b : Int32) (hI : zc_I N) (hfu : N.1 71 < 16384) : zb_Cv l g E yX5_putNumber cX5_putNumber 2 6 (zc_rc N) (zc_rs N) (zc_L (zc_putNumber N b) - zc_L N) (2 * (zc_L (zc_putNumber N b) - zc_L N)) [.ref (o 5), .int b] (zc_ws g o d N) (fun u : zc_N × (Nat → Nat) => u.1 = zc_putNumber N b) (fun u => zc_ws g o u.2 u.1) := by
  refine zb_begin (by decide) (Nat.le_of_ble_eq_true rfl) RX5 rfl ?_
  intro p e s m args below meth co A ls Q H locs C hQ hr hlocks hnm hS hP hD hl
  obtain ⟨hx, hb, hml, hown, hts, hK, hA, hE⟩ := id C
  have hl : lv_has ls 2 [(0, .ref (o 5)), (1, .int b)] := hl
  have hc : zb_c N N 0 0 := zb_c.rf
  revert hc
  refine (fun (z9 : ∀ cells slots : Nat, zb_c N N cells slots → W p l e (za_R 6 (zc_rc N) (zc_rs N)) s m args below meth co H locs cells slots Q (F0 m 0 ls [])) hc => z9 0 0 hc) (fun cells slots hc => ?_)
  refine lv_iload_n hx hb dX5_putNumber_0 rfl (lv_at hl 1 rfl) ?_
  refine lv_iconst (v := (-1)) hx hb dX5_putNumber_1 (by decide) ?_
  refine lv_icmp_eq (tgt := 28) hx hb dX5_putNumber_2 (by decide) (fun c_2 => ?_) (fun c_2 => ?_)
  · exact zc_rvg hQ hx hb hr hlocks hK hP hD hS hc (by unfold zc_putNumber; rw [if_pos c_2]) dX5_putNumber_28
  · refine lv_aload_n hx hb dX5_putNumber_5 rfl (lv_at hl 0 rfl) ?_
    have J_15 : ∀ v9 : Int32, v9 = (zk_ni b) → W p l e (za_R 6 (zc_rc N) (zc_rs N)) s m args below meth co H locs cells slots Q (F0 m 15 ls (.int v9 :: [.ref (o 5)])) := by
      intro v_15 hv_15
      refine za_top (v := zk_ni b) (hv_15) ?_
      refine zc_callv C hP hD hS hc (zl_putT _) (zb_runV C hP hD hS [0, 1, 2, 3, 4, 5, 6, 7, 8, 9, 10, 11, 12, 13, 14, 15, 16] rfl (by decide) rfl (kX5_put l g E o d N (zk_ni b) hI hfu) w_514 mX5_put 5 rfl rfl rfl rfl hl.1 rfl (Nat.le_of_ble_eq_true rfl) dX5_putNumber_15 ⟨Nat.le_of_ble_eq_true rfl, Nat.le_of_ble_eq_true rfl⟩ (hc.room (zc_L_le hI))) (fun N1 d1 H locs cells slots hN1 hc hP hD hS => ?_)
      have hI : zc_I N1 := by rw [hN1]; exact zi_putT hI hfu _
      refine lv_aload_n hx hb dX5_putNumber_18 rfl (lv_at hl 0 rfl) ?_
      refine va_get (ci := 5) (v := .ref (o 7)) hx hb hts iX5 hown hK hP 5 rfl rfl 1 (by decide) (hts _ w_222) (fun _ h9 => h9) rfl dX5_putNumber_19 ?_
      refine lv_bipush (v := 7) hx hb dX5_putNumber_22 (by decide) ?_
      refine lv_iload_n hx hb dX5_putNumber_24 rfl (lv_at hl 1 rfl) ?_
      refine za_cv (wc := zc_ws g o d1 N1) (wr := []) C hP hD hS [0, 1, 2, 3, 4, 5, 6, 7, 8, 9, 10, 11, 12, 13, 14, 15, 16] [] rfl rfl (by decide) (by decide) (za_runV C hP hD hS [0, 1, 2, 3, 4, 5, 6, 7, 8, 9, 10, 11, 12, 13, 14, 15, 16] rfl (by decide) rfl (kX8_tellLast l g E o d1 N1 7 b hI ) w_389 mX8_tellLast 7 rfl rfl rfl rfl hl.1 rfl (Nat.le_of_ble_eq_true rfl) dX5_putNumber_25 ⟨Nat.le_of_ble_eq_true rfl, Nat.le_of_ble_eq_true rfl⟩ (hc.le0 (zc_L_le hI))) (fun N2 H locs hN2 hP hD hS => ?_)
      have hI : zc_I N2 := by rw [hN2]; exact zi_tell hI _ _
      have hc : zb_c N N2 cells slots := by rw [hN2]; exact hc.eq zL_tell
      have hP : va_P g.1 vwCl (zc_ws g o d1 N2) H := hP
      have hD : va_D A (zc_ws g o d1 N2) := hD
      exact zc_rvg hQ hx hb hr hlocks hK hP hD hS hc (by unfold zc_putNumber; rw [if_neg c_2, ← hN1]; exact hN2) dX5_putNumber_28
    refine lv_iload_n hx hb dX5_putNumber_6 rfl (lv_at hl 1 rfl) ?_
    refine lv_if_ne (tgt := 14) hx hb dX5_putNumber_7 (by decide) (fun c_7 => ?_) (fun c_7 => ?_)
    · refine lv_iconst (v := 2) hx hb dX5_putNumber_14 (by decide) ?_
      exact J_15 2 (by unfold zk_ni; first | rw [if_pos c_7] | rw [if_neg c_7])
    · refine lv_iconst (v := 3) hx hb dX5_putNumber_10 (by decide) ?_
      refine lv_goto (tgt := 15) hx hb dX5_putNumber_11 (by decide) ?_
      exact J_15 3 (by unfold zk_ni; first | rw [if_pos c_7] | rw [if_neg c_7])
set_option maxHeartbeats 4000000 in
set_option maxRecDepth 100000 in
theorem kX5_putRune (l : Launch) (g : za_G) (E : za_E) (o d : Nat → Nat) (N : zc_N) (v : Int32) (hI : zc_I N) (hfu : N.1 71 < 16384) : zb_Cv l g E yX5_putRune cX5_putRune 2 6 (zc_rc N) (zc_rs N) (zc_L (zc_putRune N v) - zc_L N) (2 * (zc_L (zc_putRune N v) - zc_L N)) [.ref (o 5), .int v] (zc_ws g o d N) (fun u : zc_N × (Nat → Nat) => u.1 = zc_putRune N v) (fun u => zc_ws g o u.2 u.1) := by
  refine zb_begin (by decide) (Nat.le_of_ble_eq_true rfl) RX5 rfl ?_
  intro p e s m args below meth co A ls Q H locs C hQ hr hlocks hnm hS hP hD hl
  obtain ⟨hx, hb, hml, hown, hts, hK, hA, hE⟩ := id C
  have hl : lv_has ls 2 [(0, .ref (o 5)), (1, .int v)] := hl
  have hc : zb_c N N 0 0 := zb_c.rf
  revert hc
  refine (fun (z9 : ∀ cells slots : Nat, zb_c N N cells slots → W p l e (za_R 6 (zc_rc N) (zc_rs N)) s m args below meth co H locs cells slots Q (F0 m 0 ls [])) hc => z9 0 0 hc) (fun cells slots hc => ?_)
  refine lv_iload_n hx hb dX5_putRune_0 rfl (lv_at hl 1 rfl) ?_
  refine lv_iconst (v := (-1)) hx hb dX5_putRune_1 (by decide) ?_
  refine lv_icmp_eq (tgt := 20) hx hb dX5_putRune_2 (by decide) (fun c_2 => ?_) (fun c_2 => ?_)
  · exact zc_rvg hQ hx hb hr hlocks hK hP hD hS hc (by unfold zc_putRune; rw [if_pos c_2]) dX5_putRune_20
  · refine lv_aload_n hx hb dX5_putRune_5 rfl (lv_at hl 0 rfl) ?_
    refine lv_iconst (v := 4) hx hb dX5_putRune_6 (by decide) ?_
    refine zc_callv C hP hD hS hc (zl_putT _) (zb_runV C hP hD hS [0, 1, 2, 3, 4, 5, 6, 7, 8, 9, 10, 11, 12, 13, 14, 15, 16] rfl (by decide) rfl (kX5_put l g E o d N 4 hI hfu) w_514 mX5_put 5 rfl rfl rfl rfl hl.1 rfl (Nat.le_of_ble_eq_true rfl) dX5_putRune_7 ⟨Nat.le_of_ble_eq_true rfl, Nat.le_of_ble_eq_true rfl⟩ (hc.room (zc_L_le hI))) (fun N1 d1 H locs cells slots hN1 hc hP hD hS => ?_)
    have hI : zc_I N1 := by rw [hN1]; exact zi_putT hI hfu _
    refine lv_aload_n hx hb dX5_putRune_10 rfl (lv_at hl 0 rfl) ?_
    refine va_get (ci := 5) (v := .ref (o 7)) hx hb hts iX5 hown hK hP 5 rfl rfl 1 (by decide) (hts _ w_222) (fun _ h9 => h9) rfl dX5_putRune_11 ?_
    refine lv_bipush (v := 10) hx hb dX5_putRune_14 (by decide) ?_
    refine lv_iload_n hx hb dX5_putRune_16 rfl (lv_at hl 1 rfl) ?_
    refine za_cv (wc := zc_ws g o d1 N1) (wr := []) C hP hD hS [0, 1, 2, 3, 4, 5, 6, 7, 8, 9, 10, 11, 12, 13, 14, 15, 16] [] rfl rfl (by decide) (by decide) (za_runV C hP hD hS [0, 1, 2, 3, 4, 5, 6, 7, 8, 9, 10, 11, 12, 13, 14, 15, 16] rfl (by decide) rfl (kX8_tellLast l g E o d1 N1 10 v hI ) w_389 mX8_tellLast 7 rfl rfl rfl rfl hl.1 rfl (Nat.le_of_ble_eq_true rfl) dX5_putRune_17 ⟨Nat.le_of_ble_eq_true rfl, Nat.le_of_ble_eq_true rfl⟩ (hc.le0 (zc_L_le hI))) (fun N2 H locs hN2 hP hD hS => ?_)
    have hI : zc_I N2 := by rw [hN2]; exact zi_tell hI _ _
    have hc : zb_c N N2 cells slots := by rw [hN2]; exact hc.eq zL_tell
    have hP : va_P g.1 vwCl (zc_ws g o d1 N2) H := hP
    have hD : va_D A (zc_ws g o d1 N2) := hD
    exact zc_rvg hQ hx hb hr hlocks hK hP hD hS hc (by unfold zc_putRune; rw [if_neg c_2, ← hN1]; exact hN2) dX5_putRune_20
set_option maxHeartbeats 4000000 in
set_option maxRecDepth 100000 in
theorem kX5_putString (l : Launch) (g : za_G) (E : za_E) (o d : Nat → Nat) (N : zc_N) (v : Int32) (hI : zc_I N) (hfu : N.1 71 < 16384) : zb_Cv l g E yX5_putString cX5_putString 2 6 (zc_rc N) (zc_rs N) (zc_L (zc_putString N v) - zc_L N) (2 * (zc_L (zc_putString N v) - zc_L N)) [.ref (o 5), .int v] (zc_ws g o d N) (fun u : zc_N × (Nat → Nat) => u.1 = zc_putString N v) (fun u => zc_ws g o u.2 u.1) := by
  refine zb_begin (by decide) (Nat.le_of_ble_eq_true rfl) RX5 rfl ?_
  intro p e s m args below meth co A ls Q H locs C hQ hr hlocks hnm hS hP hD hl
  obtain ⟨hx, hb, hml, hown, hts, hK, hA, hE⟩ := id C
  have hl : lv_has ls 2 [(0, .ref (o 5)), (1, .int v)] := hl
  have hc : zb_c N N 0 0 := zb_c.rf
  revert hc
  refine (fun (z9 : ∀ cells slots : Nat, zb_c N N cells slots → W p l e (za_R 6 (zc_rc N) (zc_rs N)) s m args below meth co H locs cells slots Q (F0 m 0 ls [])) hc => z9 0 0 hc) (fun cells slots hc => ?_)
  refine lv_iload_n hx hb dX5_putString_0 rfl (lv_at hl 1 rfl) ?_
  refine lv_if_eq (tgt := 9) hx hb dX5_putString_1 (by decide) (fun c_1 => ?_) (fun c_1 => ?_)
  · exact zc_rvg hQ hx hb hr hlocks hK hP hD hS hc (by unfold zc_putString; rw [if_pos c_1]) dX5_putString_9
  · refine lv_aload_n hx hb dX5_putString_4 rfl (lv_at hl 0 rfl) ?_
    refine lv_iconst (v := 5) hx hb dX5_putString_5 (by decide) ?_
    refine zc_callv C hP hD hS hc (zl_putT _) (zb_runV C hP hD hS [0, 1, 2, 3, 4, 5, 6, 7, 8, 9, 10, 11, 12, 13, 14, 15, 16] rfl (by decide) rfl (kX5_put l g E o d N 5 hI hfu) w_514 mX5_put 5 rfl rfl rfl rfl hl.1 rfl (Nat.le_of_ble_eq_true rfl) dX5_putString_6 ⟨Nat.le_of_ble_eq_true rfl, Nat.le_of_ble_eq_true rfl⟩ (hc.room (zc_L_le hI))) (fun N1 d1 H locs cells slots hN1 hc hP hD hS => ?_)
    have hI : zc_I N1 := by rw [hN1]; exact zi_putT hI hfu _
    exact zc_rvg hQ hx hb hr hlocks hK hP hD hS hc (by unfold zc_putString; rw [if_neg c_1]; exact hN1) dX5_putString_9
set_option maxHeartbeats 4000000 in
set_option maxRecDepth 100000 in
theorem kX5_readSign (l : Launch) (g : za_G) (E : za_E) (o d : Nat → Nat) (N : zc_N) (x : Int32) (hI : zc_I N) (hfu : N.1 71 < 16384) : zb_Cv l g E yX5_readSign cX5_readSign 5 6 (zc_rc N) (zc_rs N) (zc_L (zc_readSign N x) - zc_L N) (2 * (zc_L (zc_readSign N x) - zc_L N)) [.ref (o 5), .int x] (zc_ws g o d N) (fun u : zc_N × (Nat → Nat) => u.1 = zc_readSign N x) (fun u => zc_ws g o u.2 u.1) := by
  refine zb_begin (by decide) (Nat.le_of_ble_eq_true rfl) RX5 rfl ?_
  intro p e s m args below meth co A ls Q H locs C hQ hr hlocks hnm hS hP hD hl
  obtain ⟨hx, hb, hml, hown, hts, hK, hA, hE⟩ := id C
  have hl : lv_has ls 5 [(0, .ref (o 5)), (1, .int x)] := hl
  have hc : zb_c N N 0 0 := zb_c.rf
  revert hc
  refine (fun (z9 : ∀ cells slots : Nat, zb_c N N cells slots → W p l e (za_R 6 (zc_rc N) (zc_rs N)) s m args below meth co H locs cells slots Q (F0 m 0 ls [])) hc => z9 0 0 hc) (fun cells slots hc => ?_)
  refine lv_iload_n hx hb dX5_readSign_0 rfl (lv_at hl 1 rfl) ?_
  refine za_ci (wc := []) (wr := zc_ws g o d N) C hP hD hS [] [0, 1, 2, 3, 4, 5, 6, 7, 8, 9, 10, 11, 12, 13, 14, 15, 16] rfl rfl (by decide) (by decide) (za_runS C hP hD hS [] rfl (by decide) rfl (kX6_kindOfOne l g E x ) w_645 mX6_kindOfOne rfl hl.1 rfl (Nat.le_of_ble_eq_true rfl) dX5_readSign_1 ⟨Nat.le_of_ble_eq_true rfl, Nat.le_of_ble_eq_true rfl⟩ (hc.le0 (zc_L_le hI))) (fun r1 _ H locs hr1 hP hD hS => ?_)
  subst hr1
  have hP : va_P g.1 vwCl (zc_ws g o d N) H := hP
  have hD : va_D A (zc_ws g o d N) := hD
  refine lv_istore_n (lv' := [(2, .int (zk_one x)), (0, .ref (o 5)), (1, .int x)]) hx hb dX5_readSign_4 rfl hl (by decide) rfl (fun ls hl => ?_)
  refine lv_iload_n hx hb dX5_readSign_5 rfl (lv_at hl 0 rfl) ?_
  refine lv_iconst (v := (-1)) hx hb dX5_readSign_6 (by decide) ?_
  refine lv_icmp_ne (tgt := 19) hx hb dX5_readSign_7 (by decide) (fun c_7 => ?_) (fun c_7 => ?_)
  · refine lv_aload_n hx hb dX5_readSign_19 rfl (lv_at hl 1 rfl) ?_
    refine va_get (ci := 5) (v := .ref (o 6)) hx hb hts iX5 hown hK hP 5 rfl rfl 0 (by decide) (hts _ w_221) (fun _ h9 => h9) rfl dX5_readSign_20 ?_
    refine za_cv (wc := zc_ws g o d N) (wr := []) C hP hD hS [0, 1, 2, 3, 4, 5, 6, 7, 8, 9, 10, 11, 12, 13, 14, 15, 16] [] rfl rfl (by decide) (by decide) (za_runV C hP hD hS [0, 1, 2, 3, 4, 5, 6, 7, 8, 9, 10, 11, 12, 13, 14, 15, 16] rfl (by decide) rfl (kX7_step l g E o d N  hI ) w_393 mX7_step 6 rfl rfl rfl rfl hl.1 rfl (Nat.le_of_ble_eq_true rfl) dX5_readSign_23 ⟨Nat.le_of_ble_eq_true rfl, Nat.le_of_ble_eq_true rfl⟩ (hc.le0 (zc_L_le hI))) (fun N2 H locs hN2 hP hD hS => ?_)
    have hI : zc_I N2 := by rw [hN2]; exact zi_step hI
    have hc : zb_c N N2 cells slots := by rw [hN2]; exact hc.eq zL_step
    have hP : va_P g.1 vwCl (zc_ws g o d N2) H := hP
    have hD : va_D A (zc_ws g o d N2) := hD
    refine lv_iload_n hx hb dX5_readSign_26 rfl (lv_at hl 2 rfl) ?_
    refine lv_bipush (v := 8) hx hb dX5_readSign_27 (by decide) ?_
    refine lv_ishl hx hb dX5_readSign_29 ?_
    refine lv_aload_n hx hb dX5_readSign_30 rfl (lv_at hl 1 rfl) ?_
    refine va_get (ci := 5) (v := .ref (o 6)) hx hb hts iX5 hown hK hP 5 rfl rfl 0 (by decide) (hts _ w_221) (fun _ h9 => h9) rfl dX5_readSign_31 ?_
    refine za_ci (wc := zc_ws g o d N2) (wr := []) C hP hD hS [0, 1, 2, 3, 4, 5, 6, 7, 8, 9, 10, 11, 12, 13, 14, 15, 16] [] rfl rfl (by decide) (by decide) (za_runV C hP hD hS [0, 1, 2, 3, 4, 5, 6, 7, 8, 9, 10, 11, 12, 13, 14, 15, 16] rfl (by decide) rfl (kX7_here l g E o d N2  hI ) w_345 mX7_here 6 rfl rfl rfl rfl hl.1 rfl (Nat.le_of_ble_eq_true rfl) dX5_readSign_34 ⟨Nat.le_of_ble_eq_true rfl, Nat.le_of_ble_eq_true rfl⟩ (hc.le0 (zc_L_le hI))) (fun r3 _ H locs hr3 hP hD hS => ?_)
    subst hr3
    have hP : va_P g.1 vwCl (zc_ws g o d N2) H := hP
    have hD : va_D A (zc_ws g o d N2) := hD
    refine lv_sipush (v := 255) hx hb dX5_readSign_37 (by decide) ?_
    refine lv_iand hx hb dX5_readSign_40 ?_
    refine lv_ior hx hb dX5_readSign_41 ?_
    refine lv_istore_n (lv' := [(3, .int ((x <<< ((8 : Int32) &&& 31)) ||| ((zk_here N2) &&& 255))), (2, .int (zk_one x)), (0, .ref (o 5)), (1, .int x)]) hx hb dX5_readSign_42 rfl hl (by decide) rfl (fun ls hl => ?_)
    refine lv_iload_n hx hb dX5_readSign_43 rfl (lv_at hl 0 rfl) ?_
    refine lv_bipush (v := 8) hx hb dX5_readSign_44 (by decide) ?_
    refine lv_ishl hx hb dX5_readSign_46 ?_
    refine lv_aload_n hx hb dX5_readSign_47 rfl (lv_at hl 2 rfl) ?_
    refine va_get (ci := 5) (v := .ref (o 6)) hx hb hts iX5 hown hK hP 5 rfl rfl 0 (by decide) (hts _ w_221) (fun _ h9 => h9) rfl dX5_readSign_48 ?_
    refine za_ci (wc := zc_ws g o d N2) (wr := []) C hP hD hS [0, 1, 2, 3, 4, 5, 6, 7, 8, 9, 10, 11, 12, 13, 14, 15, 16] [] rfl rfl (by decide) (by decide) (za_runV C hP hD hS [0, 1, 2, 3, 4, 5, 6, 7, 8, 9, 10, 11, 12, 13, 14, 15, 16] rfl (by decide) rfl (kX7_next l g E o d N2  hI ) w_398 mX7_next 6 rfl rfl rfl rfl hl.1 rfl (Nat.le_of_ble_eq_true rfl) dX5_readSign_51 ⟨Nat.le_of_ble_eq_true rfl, Nat.le_of_ble_eq_true rfl⟩ (hc.le0 (zc_L_le hI))) (fun r4 _ H locs hr4 hP hD hS => ?_)
    subst hr4
    have hP : va_P g.1 vwCl (zc_ws g o d N2) H := hP
    have hD : va_D A (zc_ws g o d N2) := hD
    refine lv_sipush (v := 255) hx hb dX5_readSign_54 (by decide) ?_
    refine lv_iand hx hb dX5_readSign_57 ?_
    refine lv_ior hx hb dX5_readSign_58 ?_
    refine lv_istore (lv' := [(4, .int ((((x <<< ((8 : Int32) &&& 31)) ||| ((zk_here N2) &&& 255)) <<< ((8 : Int32) &&& 31)) ||| ((zk_next N2) &&& 255))), (3, .int ((x <<< ((8 : Int32) &&& 31)) ||| ((zk_here N2) &&& 255))), (2, .int (zk_one x)), (0, .ref (o 5)), (1, .int x)]) hx hb dX5_readSign_59 hl (by decide) rfl (fun ls hl => ?_)
    refine lv_iload hx hb dX5_readSign_61 (lv_at hl 0 rfl) ?_
    refine za_ci (wc := []) (wr := zc_ws g o d N2) C hP hD hS [] [0, 1, 2, 3, 4, 5, 6, 7, 8, 9, 10, 11, 12, 13, 14, 15, 16] rfl rfl (by decide) (by decide) (za_runS C hP hD hS [] rfl (by decide) rfl (kX6_kindOfThree l g E ((((x <<< ((8 : Int32) &&& 31)) ||| ((zk_here N2) &&& 255)) <<< ((8 : Int32) &&& 31)) ||| ((zk_next N2) &&& 255)) ) w_648 mX6_kindOfThree rfl hl.1 rfl (Nat.le_of_ble_eq_true rfl) dX5_readSign_63 ⟨Nat.le_of_ble_eq_true rfl, Nat.le_of_ble_eq_true rfl⟩ (hc.le0 (zc_L_le hI))) (fun r5 _ H locs hr5 hP hD hS => ?_)
    subst hr5
    have hP : va_P g.1 vwCl (zc_ws g o d N2) H := hP
    have hD : va_D A (zc_ws g o d N2) := hD
    refine lv_iconst (v := (-1)) hx hb dX5_readSign_66 (by decide) ?_
    refine lv_icmp_eq (tgt := 93) hx hb dX5_readSign_67 (by decide) (fun c_67 => ?_) (fun c_67 => ?_)
    · refine lv_iload_n hx hb dX5_readSign_93 rfl (lv_at hl 1 rfl) ?_
      refine za_ci (wc := []) (wr := zc_ws g o d N2) C hP hD hS [] [0, 1, 2, 3, 4, 5, 6, 7, 8, 9, 10, 11, 12, 13, 14, 15, 16] rfl rfl (by decide) (by decide) (za_runS C hP hD hS [] rfl (by decide) rfl (kX6_kindOfTwo l g E ((x <<< ((8 : Int32) &&& 31)) ||| ((zk_here N2) &&& 255)) ) w_651 mX6_kindOfTwo rfl hl.1 rfl (Nat.le_of_ble_eq_true rfl) dX5_readSign_94 ⟨Nat.le_of_ble_eq_true rfl, Nat.le_of_ble_eq_true rfl⟩ (hc.le0 (zc_L_le hI))) (fun r6 _ H locs hr6 hP hD hS => ?_)
      subst hr6
      have hP : va_P g.1 vwCl (zc_ws g o d N2) H := hP
      have hD : va_D A (zc_ws g o d N2) := hD
      refine lv_iconst (v := (-1)) hx hb dX5_readSign_97 (by decide) ?_
      refine lv_icmp_eq (tgt := 113) hx hb dX5_readSign_98 (by decide) (fun c_98 => ?_) (fun c_98 => ?_)
      · refine lv_aload_n hx hb dX5_readSign_113 rfl (lv_at hl 3 rfl) ?_
        refine lv_iload_n hx hb dX5_readSign_114 rfl (lv_at hl 2 rfl) ?_
        refine zc_callv C hP hD hS hc (zl_putT _) (zb_runV C hP hD hS [0, 1, 2, 3, 4, 5, 6, 7, 8, 9, 10, 11, 12, 13, 14, 15, 16] rfl (by decide) rfl (kX5_put l g E o d N2 (zk_one x) hI (zf_71 (show zc_Fr N N2 by rw [hN2]; exact zf_step) hfu)) w_514 mX5_put 5 rfl rfl rfl rfl hl.1 rfl (Nat.le_of_ble_eq_true rfl) dX5_readSign_115 ⟨Nat.le_of_ble_eq_true rfl, Nat.le_of_ble_eq_true rfl⟩ (hc.room (zc_L_le hI))) (fun N7 d7 H locs cells slots hN7 hc hP hD hS => ?_)
        have hI : zc_I N7 := by rw [hN7]; exact zi_putT hI (zf_71 (show zc_Fr N N2 by rw [hN2]; exact zf_step) hfu) _
        exact zc_rvg hQ hx hb hr hlocks hK hP hD hS hc (by unfold zc_readSign; rw [if_neg c_7, ← hN2]; unfold zc_sign2; rw [if_pos (show zk_three (zk_3 N2 x) = -1 from c_67), if_pos (show zk_two (zk_2 N2 x) = -1 from c_98)]; exact hN7) dX5_readSign_118
      · refine lv_iload_n hx hb dX5_readSign_101 rfl (lv_at hl 1 rfl) ?_
        refine za_ci (wc := []) (wr := zc_ws g o d N2) C hP hD hS [] [0, 1, 2, 3, 4, 5, 6, 7, 8, 9, 10, 11, 12, 13, 14, 15, 16] rfl rfl (by decide) (by decide) (za_runS C hP hD hS [] rfl (by decide) rfl (kX6_kindOfTwo l g E ((x <<< ((8 : Int32) &&& 31)) ||| ((zk_here N2) &&& 255)) ) w_651 mX6_kindOfTwo rfl hl.1 rfl (Nat.le_of_ble_eq_true rfl) dX5_readSign_102 ⟨Nat.le_of_ble_eq_true rfl, Nat.le_of_ble_eq_true rfl⟩ (hc.le0 (zc_L_le hI))) (fun r8 _ H locs hr8 hP hD hS => ?_)
        subst hr8
        have hP : va_P g.1 vwCl (zc_ws g o d N2) H := hP
        have hD : va_D A (zc_ws g o d N2) := hD
        refine lv_istore_n (lv' := [(2, .int (zk_two ((x <<< ((8 : Int32) &&& 31)) ||| ((zk_here N2) &&& 255)))), (4, .int ((((x <<< ((8 : Int32) &&& 31)) ||| ((zk_here N2) &&& 255)) <<< ((8 : Int32) &&& 31)) ||| ((zk_next N2) &&& 255))), (3, .int ((x <<< ((8 : Int32) &&& 31)) ||| ((zk_here N2) &&& 255))), (0, .ref (o 5)), (1, .int x)]) hx hb dX5_readSign_105 rfl hl (by decide) rfl (fun ls hl => ?_)
        refine lv_aload_n hx hb dX5_readSign_106 rfl (lv_at hl 3 rfl) ?_
        refine va_get (ci := 5) (v := .ref (o 6)) hx hb hts iX5 hown hK hP 5 rfl rfl 0 (by decide) (hts _ w_221) (fun _ h9 => h9) rfl dX5_readSign_107 ?_
        refine za_cv (wc := zc_ws g o d N2) (wr := []) C hP hD hS [0, 1, 2, 3, 4, 5, 6, 7, 8, 9, 10, 11, 12, 13, 14, 15, 16] [] rfl rfl (by decide) (by decide) (za_runV C hP hD hS [0, 1, 2, 3, 4, 5, 6, 7, 8, 9, 10, 11, 12, 13, 14, 15, 16] rfl (by decide) rfl (kX7_step l g E o d N2  hI ) w_393 mX7_step 6 rfl rfl rfl rfl hl.1 rfl (Nat.le_of_ble_eq_true rfl) dX5_readSign_110 ⟨Nat.le_of_ble_eq_true rfl, Nat.le_of_ble_eq_true rfl⟩ (hc.le0 (zc_L_le hI))) (fun N9 H locs hN9 hP hD hS => ?_)
        have hI : zc_I N9 := by rw [hN9]; exact zi_step hI
        have hc : zb_c N N9 cells slots := by rw [hN9]; exact hc.eq zL_step
        have hP : va_P g.1 vwCl (zc_ws g o d N9) H := hP
        have hD : va_D A (zc_ws g o d N9) := hD
        refine lv_aload_n hx hb dX5_readSign_113 rfl (lv_at hl 3 rfl) ?_
        refine lv_iload_n hx hb dX5_readSign_114 rfl (lv_at hl 0 rfl) ?_
        refine zc_callv C hP hD hS hc (zl_putT _) (zb_runV C hP hD hS [0, 1, 2, 3, 4, 5, 6, 7, 8, 9, 10, 11, 12, 13, 14, 15, 16] rfl (by decide) rfl (kX5_put l g E o d N9 (zk_two ((x <<< ((8 : Int32) &&& 31)) ||| ((zk_here N2) &&& 255))) hI (zf_71 (show zc_Fr N N9 by rw [hN9, hN2]; exact zf_step.tr zf_step) hfu)) w_514 mX5_put 5 rfl rfl rfl rfl hl.1 rfl (Nat.le_of_ble_eq_true rfl) dX5_readSign_115 ⟨Nat.le_of_ble_eq_true rfl, Nat.le_of_ble_eq_true rfl⟩ (hc.room (zc_L_le hI))) (fun N10 d10 H locs cells slots hN10 hc hP hD hS => ?_)
        have hI : zc_I N10 := by rw [hN10]; exact zi_putT hI (zf_71 (show zc_Fr N N9 by rw [hN9, hN2]; exact zf_step.tr zf_step) hfu) _
        exact zc_rvg hQ hx hb hr hlocks hK hP hD hS hc (by unfold zc_readSign; rw [if_neg c_7, ← hN2]; unfold zc_sign2; rw [if_pos (show zk_three (zk_3 N2 x) = -1 from c_67), if_neg (show ¬ zk_two (zk_2 N2 x) = -1 from c_98), ← hN9]; exact hN10) dX5_readSign_118
    · refine lv_iload hx hb dX5_readSign_70 (lv_at hl 0 rfl) ?_
      refine za_ci (wc := []) (wr := zc_ws g o d N2) C hP hD hS [] [0, 1, 2, 3, 4, 5, 6, 7, 8, 9, 10, 11, 12, 13, 14, 15, 16] rfl rfl (by decide) (by decide) (za_runS C hP hD hS [] rfl (by decide) rfl (kX6_kindOfThree l g E ((((x <<< ((8 : Int32) &&& 31)) ||| ((zk_here N2) &&& 255)) <<< ((8 : Int32) &&& 31)) ||| ((zk_next N2) &&& 255)) ) w_648 mX6_kindOfThree rfl hl.1 rfl (Nat.le_of_ble_eq_true rfl) dX5_readSign_72 ⟨Nat.le_of_ble_eq_true rfl, Nat.le_of_ble_eq_true rfl⟩ (hc.le0 (zc_L_le hI))) (fun r11 _ H locs hr11 hP hD hS => ?_)
      subst hr11
      have hP : va_P g.1 vwCl (zc_ws g o d N2) H := hP
      have hD : va_D A (zc_ws g o d N2) := hD
      refine lv_istore_n (lv' := [(2, .int (zk_three ((((x <<< ((8 : Int32) &&& 31)) ||| ((zk_here N2) &&& 255)) <<< ((8 : Int32) &&& 31)) ||| ((zk_next N2) &&& 255)))), (4, .int ((((x <<< ((8 : Int32) &&& 31)) ||| ((zk_here N2) &&& 255)) <<< ((8 : Int32) &&& 31)) ||| ((zk_next N2) &&& 255))), (3, .int ((x <<< ((8 : Int32) &&& 31)) ||| ((zk_here N2) &&& 255))), (0, .ref (o 5)), (1, .int x)]) hx hb dX5_readSign_75 rfl hl (by decide) rfl (fun ls hl => ?_)
      refine lv_aload_n hx hb dX5_readSign_76 rfl (lv_at hl 3 rfl) ?_
      refine va_get (ci := 5) (v := .ref (o 6)) hx hb hts iX5 hown hK hP 5 rfl rfl 0 (by decide) (hts _ w_221) (fun _ h9 => h9) rfl dX5_readSign_77 ?_
      refine za_cv (wc := zc_ws g o d N2) (wr := []) C hP hD hS [0, 1, 2, 3, 4, 5, 6, 7, 8, 9, 10, 11, 12, 13, 14, 15, 16] [] rfl rfl (by decide) (by decide) (za_runV C hP hD hS [0, 1, 2, 3, 4, 5, 6, 7, 8, 9, 10, 11, 12, 13, 14, 15, 16] rfl (by decide) rfl (kX7_step l g E o d N2  hI ) w_393 mX7_step 6 rfl rfl rfl rfl hl.1 rfl (Nat.le_of_ble_eq_true rfl) dX5_readSign_80 ⟨Nat.le_of_ble_eq_true rfl, Nat.le_of_ble_eq_true rfl⟩ (hc.le0 (zc_L_le hI))) (fun N12 H locs hN12 hP hD hS => ?_)
      have hI : zc_I N12 := by rw [hN12]; exact zi_step hI
      have hc : zb_c N N12 cells slots := by rw [hN12]; exact hc.eq zL_step
      have hP : va_P g.1 vwCl (zc_ws g o d N12) H := hP
      have hD : va_D A (zc_ws g o d N12) := hD
      refine lv_aload_n hx hb dX5_readSign_83 rfl (lv_at hl 3 rfl) ?_
      refine va_get (ci := 5) (v := .ref (o 6)) hx hb hts iX5 hown hK hP 5 rfl rfl 0 (by decide) (hts _ w_221) (fun _ h9 => h9) rfl dX5_readSign_84 ?_
      refine za_cv (wc := zc_ws g o d N12) (wr := []) C hP hD hS [0, 1, 2, 3, 4, 5, 6, 7, 8, 9, 10, 11, 12, 13, 14, 15, 16] [] rfl rfl (by decide) (by decide) (za_runV C hP hD hS [0, 1, 2, 3, 4, 5, 6, 7, 8, 9, 10, 11, 12, 13, 14, 15, 16] rfl (by decide) rfl (kX7_step l g E o d N12  hI ) w_393 mX7_step 6 rfl rfl rfl rfl hl.1 rfl (Nat.le_of_ble_eq_true rfl) dX5_readSign_87 ⟨Nat.le_of_ble_eq_true rfl, Nat.le_of_ble_eq_true rfl⟩ (hc.le0 (zc_L_le hI))) (fun N13 H locs hN13 hP hD hS => ?_)
      have hI : zc_I N13 := by rw [hN13]; exact zi_step hI
      have hc : zb_c N N13 cells slots := by rw [hN13]; exact hc.eq zL_step
      have hP : va_P g.1 vwCl (zc_ws g o d N13) H := hP
      have hD : va_D A (zc_ws g o d N13) := hD
      refine lv_goto (tgt := 113) hx hb dX5_readSign_90 (by decide) ?_
      refine lv_aload_n hx hb dX5_readSign_113 rfl (lv_at hl 3 rfl) ?_
      refine lv_iload_n hx hb dX5_readSign_114 rfl (lv_at hl 0 rfl) ?_
      refine zc_callv C hP hD hS hc (zl_putT _) (zb_runV C hP hD hS [0, 1, 2, 3, 4, 5, 6, 7, 8, 9, 10, 11, 12, 13, 14, 15, 16] rfl (by decide) rfl (kX5_put l g E o d N13 (zk_three ((((x <<< ((8 : Int32) &&& 31)) ||| ((zk_here N2) &&& 255)) <<< ((8 : Int32) &&& 31)) ||| ((zk_next N2) &&& 255))) hI (zf_71 (show zc_Fr N N13 by rw [hN13, hN12, hN2]; exact (zf_step.tr zf_step).tr zf_step) hfu)) w_514 mX5_put 5 rfl rfl rfl rfl hl.1 rfl (Nat.le_of_ble_eq_true rfl) dX5_readSign_115 ⟨Nat.le_of_ble_eq_true rfl, Nat.le_of_ble_eq_true rfl⟩ (hc.room (zc_L_le hI))) (fun N14 d14 H locs cells slots hN14 hc hP hD hS => ?_)
      have hI : zc_I N14 := by rw [hN14]; exact zi_putT hI (zf_71 (show zc_Fr N N13 by rw [hN13, hN12, hN2]; exact (zf_step.tr zf_step).tr zf_step) hfu) _
      exact zc_rvg hQ hx hb hr hlocks hK hP hD hS hc (by unfold zc_readSign; rw [if_neg c_7, ← hN2]; unfold zc_sign2; rw [if_neg (show ¬ zk_three (zk_3 N2 x) = -1 from c_67), ← hN12, ← hN13]; exact hN14) dX5_readSign_118
  · refine lv_aload_n hx hb dX5_readSign_10 rfl (lv_at hl 1 rfl) ?_
    refine va_get (ci := 5) (v := .ref (o 6)) hx hb hts iX5 hown hK hP 5 rfl rfl 0 (by decide) (hts _ w_221) (fun _ h9 => h9) rfl dX5_readSign_11 ?_
    refine za_ci (wc := zc_ws g o d N) (wr := []) C hP hD hS [0, 1, 2, 3, 4, 5, 6, 7, 8, 9, 10, 11, 12, 13, 14, 15, 16] [] rfl rfl (by decide) (by decide) (za_runV C hP hD hS [0, 1, 2, 3, 4, 5, 6, 7, 8, 9, 10, 11, 12, 13, 14, 15, 16] rfl (by decide) rfl (kX7_refuse l g E o d N  hI ) w_430 mX7_refuse 6 rfl rfl rfl rfl hl.1 rfl (Nat.le_of_ble_eq_true rfl) dX5_readSign_14 ⟨Nat.le_of_ble_eq_true rfl, Nat.le_of_ble_eq_true rfl⟩ (hc.le0 (zc_L_le hI))) (fun r15 N15 H locs hN15 hP hD hS => ?_)
    obtain ⟨hr15, hN15⟩ := hN15
    have hI : zc_I N15 := by rw [hN15]; exact zi_refuse hI
    have hc : zb_c N N15 cells slots := by rw [hN15]; exact hc.eq zL_refuse
    have hP : va_P g.1 vwCl (zc_ws g o d N15) H := hP
    have hD : va_D A (zc_ws g o d N15) := hD
    refine lv_pop hx hb dX5_readSign_17 rfl ?_
    exact zc_rvg hQ hx hb hr hlocks hK hP hD hS hc (by unfold zc_readSign; rw [if_pos c_7]; exact hN15) dX5_readSign_18
set_option maxHeartbeats 4000000 in
set_option maxRecDepth 100000 in
theorem kX5_readToken (l : Launch) (g : za_G) (E : za_E) (o d : Nat → Nat) (N : zc_N)  (hI : zc_I N) : zb_Cv l g E yX5_readToken cX5_readToken 2 7 (zc_rc N) (zc_rs N) (zc_L (zc_readToken N) - zc_L N) (2 * (zc_L (zc_readToken N) - zc_L N)) [.ref (o 5)] (zc_ws g o d N) (fun u : zc_N × (Nat → Nat) => u.1 = zc_readToken N) (fun u => zc_ws g o u.2 u.1) := by
  refine zb_begin (by decide) (Nat.le_of_ble_eq_true rfl) RX5 rfl ?_
  intro p e s m args below meth co A ls Q H locs C hQ hr hlocks hnm hS hP hD hl
  obtain ⟨hx, hb, hml, hown, hts, hK, hA, hE⟩ := id C
  have hl : lv_has ls 2 [(0, .ref (o 5))] := hl
  have hc : zb_c N N 0 0 := zb_c.rf
  revert hc
  refine (fun (z9 : ∀ cells slots : Nat, zb_c N N cells slots → W p l e (za_R 7 (zc_rc N) (zc_rs N)) s m args below meth co H locs cells slots Q (F0 m 0 ls [])) hc => z9 0 0 hc) (fun cells slots hc => ?_)
  refine lv_aload_n hx hb dX5_readToken_0 rfl (lv_at hl 0 rfl) ?_
  refine va_get (ci := 5) (v := .ref (o 6)) hx hb hts iX5 hown hK hP 5 rfl rfl 0 (by decide) (hts _ w_221) (fun _ h9 => h9) rfl dX5_readToken_1 ?_
  refine za_ci (wc := zc_ws g o d N) (wr := []) C hP hD hS [0, 1, 2, 3, 4, 5, 6, 7, 8, 9, 10, 11, 12, 13, 14, 15, 16] [] rfl rfl (by decide) (by decide) (za_runV C hP hD hS [0, 1, 2, 3, 4, 5, 6, 7, 8, 9, 10, 11, 12, 13, 14, 15, 16] rfl (by decide) rfl (kX7_here l g E o d N  hI ) w_345 mX7_here 6 rfl rfl rfl rfl hl.1 rfl (Nat.le_of_ble_eq_true rfl) dX5_readToken_4 ⟨Nat.le_of_ble_eq_true rfl, Nat.le_of_ble_eq_true rfl⟩ (hc.le0 (zc_L_le hI))) (fun r1 _ H locs hr1 hP hD hS => ?_)
  subst hr1
  have hP : va_P g.1 vwCl (zc_ws g o d N) H := hP
  have hD : va_D A (zc_ws g o d N) := hD
  refine lv_istore_n (lv' := [(1, .int (zk_here N)), (0, .ref (o 5))]) hx hb dX5_readToken_7 rfl hl (by decide) rfl (fun ls hl => ?_)
  refine lv_aload_n hx hb dX5_readToken_8 rfl (lv_at hl 1 rfl) ?_
  refine va_get (ci := 5) (v := .ref (o 7)) hx hb hts iX5 hown hK hP 5 rfl rfl 1 (by decide) (hts _ w_222) (fun _ h9 => h9) rfl dX5_readToken_9 ?_
  refine za_ci (wc := zc_ws g o d N) (wr := []) C hP hD hS [0, 1, 2, 3, 4, 5, 6, 7, 8, 9, 10, 11, 12, 13, 14, 15, 16] [] rfl rfl (by decide) (by decide) (za_runV C hP hD hS [0, 1, 2, 3, 4, 5, 6, 7, 8, 9, 10, 11, 12, 13, 14, 15, 16] rfl (by decide) rfl (kX8_isFull l g E o d N  hI ) w_361 mX8_isFull 7 rfl rfl rfl rfl hl.1 rfl (Nat.le_of_ble_eq_true rfl) dX5_readToken_12 ⟨Nat.le_of_ble_eq_true rfl, Nat.le_of_ble_eq_true rfl⟩ (hc.le0 (zc_L_le hI))) (fun r2 _ H locs hr2 hP hD hS => ?_)
  subst hr2
  have hP : va_P g.1 vwCl (zc_ws g o d N) H := hP
  have hD : va_D A (zc_ws g o d N) := hD
  refine lv_if_eq (tgt := 29) hx hb dX5_readToken_15 (by decide) (fun c_15 => ?_) (fun c_15 => ?_)
  · refine lv_iload_n hx hb dX5_readToken_29 rfl (lv_at hl 0 rfl) ?_
    refine za_ci (wc := []) (wr := zc_ws g o d N) C hP hD hS [] [0, 1, 2, 3, 4, 5, 6, 7, 8, 9, 10, 11, 12, 13, 14, 15, 16] rfl rfl (by decide) (by decide) (za_runSN C hP hD hS [] rfl (by decide) rfl (kX9_isLetter l g E (zk_here N) ) zn_X5_104 mX9_isLetter rfl hl.1 rfl (Nat.le_of_ble_eq_true rfl) dX5_readToken_30 ⟨Nat.le_of_ble_eq_true rfl, Nat.le_of_ble_eq_true rfl⟩ (hc.le0 (zc_L_le hI))) (fun r3 _ H locs hr3 hP hD hS => ?_)
    subst hr3
    have hP : va_P g.1 vwCl (zc_ws g o d N) H := hP
    have hD : va_D A (zc_ws g o d N) := hD
    refine lv_if_eq (tgt := 43) hx hb dX5_readToken_33 (by decide) (fun c_33 => ?_) (fun c_33 => ?_)
    · refine lv_iload_n hx hb dX5_readToken_43 rfl (lv_at hl 0 rfl) ?_
      refine za_ci (wc := []) (wr := zc_ws g o d N) C hP hD hS [] [0, 1, 2, 3, 4, 5, 6, 7, 8, 9, 10, 11, 12, 13, 14, 15, 16] rfl rfl (by decide) (by decide) (za_runSN C hP hD hS [] rfl (by decide) rfl (kX9_isDigit l g E (zk_here N) ) zn_X5_111 mX9_isDigit rfl hl.1 rfl (Nat.le_of_ble_eq_true rfl) dX5_readToken_44 ⟨Nat.le_of_ble_eq_true rfl, Nat.le_of_ble_eq_true rfl⟩ (hc.le0 (zc_L_le hI))) (fun r4 _ H locs hr4 hP hD hS => ?_)
      subst hr4
      have hP : va_P g.1 vwCl (zc_ws g o d N) H := hP
      have hD : va_D A (zc_ws g o d N) := hD
      refine lv_if_ne (tgt := 69) hx hb dX5_readToken_47 (by decide) (fun c_47 => ?_) (fun c_47 => ?_)
      · refine lv_aload_n hx hb dX5_readToken_69 rfl (lv_at hl 1 rfl) ?_
        refine lv_aload_n hx hb dX5_readToken_70 rfl (lv_at hl 1 rfl) ?_
        refine va_get (ci := 5) (v := .ref (o 3)) hx hb hts iX5 hown hK hP 5 rfl rfl 2 (by decide) (hts _ w_223) (fun _ h9 => h9) rfl dX5_readToken_71 ?_
        refine zc_calli C hP hD hS hc (zl_readNumber) (zb_runV C hP hD hS [0, 1, 2, 3, 4, 5, 6, 7, 8, 9, 10, 11, 12, 13, 14, 15, 16] rfl (by decide) rfl (kX3_readNumber l g E o d N  hI ) w_545 mX3_readNumber 3 rfl rfl rfl rfl hl.1 rfl (Nat.le_of_ble_eq_true rfl) dX5_readToken_74 ⟨Nat.le_of_ble_eq_true rfl, Nat.le_of_ble_eq_true rfl⟩ (hc.room (zc_L_le hI))) (fun r5 N5 d5 H locs cells slots hr5 hN5 hc hP hD hS => ?_)
        have hI : zc_I N5 := by rw [hN5]; exact zi_readNumber hI
        refine zc_callv C hP hD hS hc (zl_putNumber _) (zb_runV C hP hD hS [0, 1, 2, 3, 4, 5, 6, 7, 8, 9, 10, 11, 12, 13, 14, 15, 16] rfl (by decide) rfl (kX5_putNumber l g E o d5 N5 r5 hI (by rw [hN5]; exact zf_71 (zf_readNumber) (z_full c_15))) w_584 mX5_putNumber 5 rfl rfl rfl rfl hl.1 rfl (Nat.le_of_ble_eq_true rfl) dX5_readToken_77 ⟨Nat.le_of_ble_eq_true rfl, Nat.le_of_ble_eq_true rfl⟩ (hc.room (zc_L_le hI))) (fun N6 d6 H locs cells slots hN6 hc hP hD hS => ?_)
        have hI : zc_I N6 := by rw [hN6]; exact zi_putNumber hI (by rw [hN5]; exact zf_71 (zf_readNumber) (z_full c_15)) _
        refine lv_goto (tgt := 148) hx hb dX5_readToken_80 (by decide) ?_
        exact zc_rvg hQ hx hb hr hlocks hK hP hD hS hc (by unfold zc_readToken; rw [if_neg (fun h9 => h9 c_15), if_neg (fun h9 => h9 c_33), if_pos (show zk_isNum N from Or.inl c_47), ← hN5, ← hr5]; exact hN6) dX5_readToken_148
      · refine lv_iload_n hx hb dX5_readToken_50 rfl (lv_at hl 0 rfl) ?_
        refine lv_bipush (v := 46) hx hb dX5_readToken_51 (by decide) ?_
        refine lv_icmp_ne (tgt := 83) hx hb dX5_readToken_53 (by decide) (fun c_53 => ?_) (fun c_53 => ?_)
        · refine lv_iload_n hx hb dX5_readToken_83 rfl (lv_at hl 0 rfl) ?_
          refine lv_bipush (v := 39) hx hb dX5_readToken_84 (by decide) ?_
          refine lv_icmp_ne (tgt := 103) hx hb dX5_readToken_86 (by decide) (fun c_86 => ?_) (fun c_86 => ?_)
          · refine lv_iload_n hx hb dX5_readToken_103 rfl (lv_at hl 0 rfl) ?_
            refine lv_bipush (v := 34) hx hb dX5_readToken_104 (by decide) ?_
            refine lv_icmp_ne (tgt := 123) hx hb dX5_readToken_106 (by decide) (fun c_106 => ?_) (fun c_106 => ?_)
            · refine lv_iload_n hx hb dX5_readToken_123 rfl (lv_at hl 0 rfl) ?_
              refine lv_bipush (v := 96) hx hb dX5_readToken_124 (by decide) ?_
              refine lv_icmp_ne (tgt := 143) hx hb dX5_readToken_126 (by decide) (fun c_126 => ?_) (fun c_126 => ?_)
              · refine lv_aload_n hx hb dX5_readToken_143 rfl (lv_at hl 1 rfl) ?_
                refine lv_iload_n hx hb dX5_readToken_144 rfl (lv_at hl 0 rfl) ?_
                refine zc_callv C hP hD hS hc (zl_readSign _) (zb_runV C hP hD hS [0, 1, 2, 3, 4, 5, 6, 7, 8, 9, 10, 11, 12, 13, 14, 15, 16] rfl (by decide) rfl (kX5_readSign l g E o d N (zk_here N) hI (z_full c_15)) w_641 mX5_readSign 5 rfl rfl rfl rfl hl.1 rfl (Nat.le_of_ble_eq_true rfl) dX5_readToken_145 ⟨Nat.le_of_ble_eq_true rfl, Nat.le_of_ble_eq_true rfl⟩ (hc.room (zc_L_le hI))) (fun N7 d7 H locs cells slots hN7 hc hP hD hS => ?_)
                have hI : zc_I N7 := by rw [hN7]; exact zi_readSign hI (z_full c_15) _
                exact zc_rvg hQ hx hb hr hlocks hK hP hD hS hc (by unfold zc_readToken; rw [if_neg (fun h9 => h9 c_15), if_neg (fun h9 => h9 c_33), if_neg (show ¬ zk_isNum N from fun h9 => by rcases h9 with h9 | h9; exact h9 c_47; exact c_53 h9.1), if_neg c_86, if_neg c_106, if_neg c_126]; exact hN7) dX5_readToken_148
              · refine lv_aload_n hx hb dX5_readToken_129 rfl (lv_at hl 1 rfl) ?_
                refine lv_aload_n hx hb dX5_readToken_130 rfl (lv_at hl 1 rfl) ?_
                refine va_get (ci := 5) (v := .ref (o 4)) hx hb hts iX5 hown hK hP 5 rfl rfl 3 (by decide) (hts _ w_224) (fun _ h9 => h9) rfl dX5_readToken_131 ?_
                refine zc_calli C hP hD hS hc (Nat.le_trans (Nat.le_of_eq zL_step.symm) (zl_raw _)) (zb_runV C hP hD hS [0, 1, 2, 3, 4, 5, 6, 7, 8, 9, 10, 11, 12, 13, 14, 15, 16] rfl (by decide) rfl (kX4_readRaw l g E o d N  hI ) w_637 mX4_readRaw 4 rfl rfl rfl rfl hl.1 rfl (Nat.le_of_ble_eq_true rfl) dX5_readToken_134 ⟨Nat.le_of_ble_eq_true rfl, Nat.le_of_ble_eq_true rfl⟩ (hc.room (zc_L_le hI))) (fun r8 N8 d8 H locs cells slots hr8 hN8 hc hP hD hS => ?_)
                have hI : zc_I N8 := by rw [hN8]; exact zi_raw _ (zi_step hI)
                refine zc_callv C hP hD hS hc (zl_putString _) (zb_runV C hP hD hS [0, 1, 2, 3, 4, 5, 6, 7, 8, 9, 10, 11, 12, 13, 14, 15, 16] rfl (by decide) rfl (kX5_putString l g E o d8 N8 r8 hI (by rw [hN8]; exact zf_71 (zf_step.tr (zf_raw _)) (z_full c_15))) w_633 mX5_putString 5 rfl rfl rfl rfl hl.1 rfl (Nat.le_of_ble_eq_true rfl) dX5_readToken_137 ⟨Nat.le_of_ble_eq_true rfl, Nat.le_of_ble_eq_true rfl⟩ (hc.room (zc_L_le hI))) (fun N9 d9 H locs cells slots hN9 hc hP hD hS => ?_)
                have hI : zc_I N9 := by rw [hN9]; exact zi_putString hI (by rw [hN8]; exact zf_71 (zf_step.tr (zf_raw _)) (z_full c_15)) _
                refine lv_goto (tgt := 148) hx hb dX5_readToken_140 (by decide) ?_
                exact zc_rvg hQ hx hb hr hlocks hK hP hD hS hc (by unfold zc_readToken; rw [if_neg (fun h9 => h9 c_15), if_neg (fun h9 => h9 c_33), if_neg (show ¬ zk_isNum N from fun h9 => by rcases h9 with h9 | h9; exact h9 c_47; exact c_53 h9.1), if_neg c_86, if_neg c_106, if_pos c_126, ← hN8, ← hr8]; exact hN9) dX5_readToken_148
            · refine lv_aload_n hx hb dX5_readToken_109 rfl (lv_at hl 1 rfl) ?_
              refine lv_aload_n hx hb dX5_readToken_110 rfl (lv_at hl 1 rfl) ?_
              refine va_get (ci := 5) (v := .ref (o 4)) hx hb hts iX5 hown hK hP 5 rfl rfl 3 (by decide) (hts _ w_224) (fun _ h9 => h9) rfl dX5_readToken_111 ?_
              refine zc_calli C hP hD hS hc (Nat.le_trans (Nat.le_of_eq zL_step.symm) (zl_str _)) (zb_runV C hP hD hS [0, 1, 2, 3, 4, 5, 6, 7, 8, 9, 10, 11, 12, 13, 14, 15, 16] rfl (by decide) rfl (kX4_readString l g E o d N  hI ) w_622 mX4_readString 4 rfl rfl rfl rfl hl.1 rfl (Nat.le_of_ble_eq_true rfl) dX5_readToken_114 ⟨Nat.le_of_ble_eq_true rfl, Nat.le_of_ble_eq_true rfl⟩ (hc.room (zc_L_le hI))) (fun r10 N10 d10 H locs cells slots hr10 hN10 hc hP hD hS => ?_)
              have hI : zc_I N10 := by rw [hN10]; exact zi_str _ (zi_step hI)
              refine zc_callv C hP hD hS hc (zl_putString _) (zb_runV C hP hD hS [0, 1, 2, 3, 4, 5, 6, 7, 8, 9, 10, 11, 12, 13, 14, 15, 16] rfl (by decide) rfl (kX5_putString l g E o d10 N10 r10 hI (by rw [hN10]; exact zf_71 (zf_step.tr (zf_str _)) (z_full c_15))) w_633 mX5_putString 5 rfl rfl rfl rfl hl.1 rfl (Nat.le_of_ble_eq_true rfl) dX5_readToken_117 ⟨Nat.le_of_ble_eq_true rfl, Nat.le_of_ble_eq_true rfl⟩ (hc.room (zc_L_le hI))) (fun N11 d11 H locs cells slots hN11 hc hP hD hS => ?_)
              have hI : zc_I N11 := by rw [hN11]; exact zi_putString hI (by rw [hN10]; exact zf_71 (zf_step.tr (zf_str _)) (z_full c_15)) _
              refine lv_goto (tgt := 148) hx hb dX5_readToken_120 (by decide) ?_
              exact zc_rvg hQ hx hb hr hlocks hK hP hD hS hc (by unfold zc_readToken; rw [if_neg (fun h9 => h9 c_15), if_neg (fun h9 => h9 c_33), if_neg (show ¬ zk_isNum N from fun h9 => by rcases h9 with h9 | h9; exact h9 c_47; exact c_53 h9.1), if_neg c_86, if_pos c_106, ← hN10, ← hr10]; exact hN11) dX5_readToken_148
          · refine lv_aload_n hx hb dX5_readToken_89 rfl (lv_at hl 1 rfl) ?_
            refine lv_aload_n hx hb dX5_readToken_90 rfl (lv_at hl 1 rfl) ?_
            refine va_get (ci := 5) (v := .ref (o 4)) hx hb hts iX5 hown hK hP 5 rfl rfl 3 (by decide) (hts _ w_224) (fun _ h9 => h9) rfl dX5_readToken_91 ?_
            refine za_ci (wc := zc_ws g o d N) (wr := []) C hP hD hS [0, 1, 2, 3, 4, 5, 6, 7, 8, 9, 10, 11, 12, 13, 14, 15, 16] [] rfl rfl (by decide) (by decide) (za_runV C hP hD hS [0, 1, 2, 3, 4, 5, 6, 7, 8, 9, 10, 11, 12, 13, 14, 15, 16] rfl (by decide) rfl (kX4_readRune l g E o d N  hI ) w_588 mX4_readRune 4 rfl rfl rfl rfl hl.1 rfl (Nat.le_of_ble_eq_true rfl) dX5_readToken_94 ⟨Nat.le_of_ble_eq_true rfl, Nat.le_of_ble_eq_true rfl⟩ (hc.le0 (zc_L_le hI))) (fun r12 N12 H locs hN12 hP hD hS => ?_)
            obtain ⟨hr12, hN12⟩ := hN12
            have hI : zc_I N12 := by rw [hN12]; exact zi_rune hI
            have hc : zb_c N N12 cells slots := by rw [hN12]; exact hc.eq zL_rune
            have hP : va_P g.1 vwCl (zc_ws g o d N12) H := hP
            have hD : va_D A (zc_ws g o d N12) := hD
            refine zc_callv C hP hD hS hc (zl_putRune _) (zb_runV C hP hD hS [0, 1, 2, 3, 4, 5, 6, 7, 8, 9, 10, 11, 12, 13, 14, 15, 16] rfl (by decide) rfl (kX5_putRune l g E o d N12 r12 hI (by rw [hN12]; exact zf_71 (zf_rune) (z_full c_15))) w_618 mX5_putRune 5 rfl rfl rfl rfl hl.1 rfl (Nat.le_of_ble_eq_true rfl) dX5_readToken_97 ⟨Nat.le_of_ble_eq_true rfl, Nat.le_of_ble_eq_true rfl⟩ (hc.room (zc_L_le hI))) (fun N13 d13 H locs cells slots hN13 hc hP hD hS => ?_)
            have hI : zc_I N13 := by rw [hN13]; exact zi_putRune hI (by rw [hN12]; exact zf_71 (zf_rune) (z_full c_15)) _
            refine lv_goto (tgt := 148) hx hb dX5_readToken_100 (by decide) ?_
            exact zc_rvg hQ hx hb hr hlocks hK hP hD hS hc (by unfold zc_readToken; rw [if_neg (fun h9 => h9 c_15), if_neg (fun h9 => h9 c_33), if_neg (show ¬ zk_isNum N from fun h9 => by rcases h9 with h9 | h9; exact h9 c_47; exact c_53 h9.1), if_pos c_86, ← hN12, ← hr12]; exact hN13) dX5_readToken_148
        · refine lv_aload_n hx hb dX5_readToken_56 rfl (lv_at hl 1 rfl) ?_
          refine va_get (ci := 5) (v := .ref (o 6)) hx hb hts iX5 hown hK hP 5 rfl rfl 0 (by decide) (hts _ w_221) (fun _ h9 => h9) rfl dX5_readToken_57 ?_
          refine za_ci (wc := zc_ws g o d N) (wr := []) C hP hD hS [0, 1, 2, 3, 4, 5, 6, 7, 8, 9, 10, 11, 12, 13, 14, 15, 16] [] rfl rfl (by decide) (by decide) (za_runV C hP hD hS [0, 1, 2, 3, 4, 5, 6, 7, 8, 9, 10, 11, 12, 13, 14, 15, 16] rfl (by decide) rfl (kX7_next l g E o d N  hI ) w_398 mX7_next 6 rfl rfl rfl rfl hl.1 rfl (Nat.le_of_ble_eq_true rfl) dX5_readToken_60 ⟨Nat.le_of_ble_eq_true rfl, Nat.le_of_ble_eq_true rfl⟩ (hc.le0 (zc_L_le hI))) (fun r14 _ H locs hr14 hP hD hS => ?_)
          subst hr14
          have hP : va_P g.1 vwCl (zc_ws g o d N) H := hP
          have hD : va_D A (zc_ws g o d N) := hD
          refine za_ci (wc := []) (wr := zc_ws g o d N) C hP hD hS [] [0, 1, 2, 3, 4, 5, 6, 7, 8, 9, 10, 11, 12, 13, 14, 15, 16] rfl rfl (by decide) (by decide) (za_runSN C hP hD hS [] rfl (by decide) rfl (kX9_isDigit l g E (zk_next N) ) zn_X5_111 mX9_isDigit rfl hl.1 rfl (Nat.le_of_ble_eq_true rfl) dX5_readToken_63 ⟨Nat.le_of_ble_eq_true rfl, Nat.le_of_ble_eq_true rfl⟩ (hc.le0 (zc_L_le hI))) (fun r15 _ H locs hr15 hP hD hS => ?_)
          subst hr15
          have hP : va_P g.1 vwCl (zc_ws g o d N) H := hP
          have hD : va_D A (zc_ws g o d N) := hD
          refine lv_if_eq (tgt := 83) hx hb dX5_readToken_66 (by decide) (fun c_66 => ?_) (fun c_66 => ?_)
          · refine lv_iload_n hx hb dX5_readToken_83 rfl (lv_at hl 0 rfl) ?_
            refine lv_bipush (v := 39) hx hb dX5_readToken_84 (by decide) ?_
            refine lv_icmp_ne (tgt := 103) hx hb dX5_readToken_86 (by decide) (fun c_86 => ?_) (fun c_86 => ?_)
            · refine lv_iload_n hx hb dX5_readToken_103 rfl (lv_at hl 0 rfl) ?_
              refine lv_bipush (v := 34) hx hb dX5_readToken_104 (by decide) ?_
              refine lv_icmp_ne (tgt := 123) hx hb dX5_readToken_106 (by decide) (fun c_106 => ?_) (fun c_106 => ?_)
              · refine lv_iload_n hx hb dX5_readToken_123 rfl (lv_at hl 0 rfl) ?_
                refine lv_bipush (v := 96) hx hb dX5_readToken_124 (by decide) ?_
                refine lv_icmp_ne (tgt := 143) hx hb dX5_readToken_126 (by decide) (fun c_126 => ?_) (fun c_126 => ?_)
                · refine lv_aload_n hx hb dX5_readToken_143 rfl (lv_at hl 1 rfl) ?_
                  refine lv_iload_n hx hb dX5_readToken_144 rfl (lv_at hl 0 rfl) ?_
                  refine zc_callv C hP hD hS hc (zl_readSign _) (zb_runV C hP hD hS [0, 1, 2, 3, 4, 5, 6, 7, 8, 9, 10, 11, 12, 13, 14, 15, 16] rfl (by decide) rfl (kX5_readSign l g E o d N (zk_here N) hI (z_full c_15)) w_641 mX5_readSign 5 rfl rfl rfl rfl hl.1 rfl (Nat.le_of_ble_eq_true rfl) dX5_readToken_145 ⟨Nat.le_of_ble_eq_true rfl, Nat.le_of_ble_eq_true rfl⟩ (hc.room (zc_L_le hI))) (fun N16 d16 H locs cells slots hN16 hc hP hD hS => ?_)
                  have hI : zc_I N16 := by rw [hN16]; exact zi_readSign hI (z_full c_15) _
                  exact zc_rvg hQ hx hb hr hlocks hK hP hD hS hc (by unfold zc_readToken; rw [if_neg (fun h9 => h9 c_15), if_neg (fun h9 => h9 c_33), if_neg (show ¬ zk_isNum N from fun h9 => by rcases h9 with h9 | h9; exact h9 c_47; exact h9.2 c_66), if_neg c_86, if_neg c_106, if_neg c_126]; exact hN16) dX5_readToken_148
                · refine lv_aload_n hx hb dX5_readToken_129 rfl (lv_at hl 1 rfl) ?_
                  refine lv_aload_n hx hb dX5_readToken_130 rfl (lv_at hl 1 rfl) ?_
                  refine va_get (ci := 5) (v := .ref (o 4)) hx hb hts iX5 hown hK hP 5 rfl rfl 3 (by decide) (hts _ w_224) (fun _ h9 => h9) rfl dX5_readToken_131 ?_
                  refine zc_calli C hP hD hS hc (Nat.le_trans (Nat.le_of_eq zL_step.symm) (zl_raw _)) (zb_runV C hP hD hS [0, 1, 2, 3, 4, 5, 6, 7, 8, 9, 10, 11, 12, 13, 14, 15, 16] rfl (by decide) rfl (kX4_readRaw l g E o d N  hI ) w_637 mX4_readRaw 4 rfl rfl rfl rfl hl.1 rfl (Nat.le_of_ble_eq_true rfl) dX5_readToken_134 ⟨Nat.le_of_ble_eq_true rfl, Nat.le_of_ble_eq_true rfl⟩ (hc.room (zc_L_le hI))) (fun r17 N17 d17 H locs cells slots hr17 hN17 hc hP hD hS => ?_)
                  have hI : zc_I N17 := by rw [hN17]; exact zi_raw _ (zi_step hI)
                  refine zc_callv C hP hD hS hc (zl_putString _) (zb_runV C hP hD hS [0, 1, 2, 3, 4, 5, 6, 7, 8, 9, 10, 11, 12, 13, 14, 15, 16] rfl (by decide) rfl (kX5_putString l g E o d17 N17 r17 hI (by rw [hN17]; exact zf_71 (zf_step.tr (zf_raw _)) (z_full c_15))) w_633 mX5_putString 5 rfl rfl rfl rfl hl.1 rfl (Nat.le_of_ble_eq_true rfl) dX5_readToken_137 ⟨Nat.le_of_ble_eq_true rfl, Nat.le_of_ble_eq_true rfl⟩ (hc.room (zc_L_le hI))) (fun N18 d18 H locs cells slots hN18 hc hP hD hS => ?_)
                  have hI : zc_I N18 := by rw [hN18]; exact zi_putString hI (by rw [hN17]; exact zf_71 (zf_step.tr (zf_raw _)) (z_full c_15)) _
                  refine lv_goto (tgt := 148) hx hb dX5_readToken_140 (by decide) ?_
                  exact zc_rvg hQ hx hb hr hlocks hK hP hD hS hc (by unfold zc_readToken; rw [if_neg (fun h9 => h9 c_15), if_neg (fun h9 => h9 c_33), if_neg (show ¬ zk_isNum N from fun h9 => by rcases h9 with h9 | h9; exact h9 c_47; exact h9.2 c_66), if_neg c_86, if_neg c_106, if_pos c_126, ← hN17, ← hr17]; exact hN18) dX5_readToken_148
              · refine lv_aload_n hx hb dX5_readToken_109 rfl (lv_at hl 1 rfl) ?_
                refine lv_aload_n hx hb dX5_readToken_110 rfl (lv_at hl 1 rfl) ?_
                refine va_get (ci := 5) (v := .ref (o 4)) hx hb hts iX5 hown hK hP 5 rfl rfl 3 (by decide) (hts _ w_224) (fun _ h9 => h9) rfl dX5_readToken_111 ?_
                refine zc_calli C hP hD hS hc (Nat.le_trans (Nat.le_of_eq zL_step.symm) (zl_str _)) (zb_runV C hP hD hS [0, 1, 2, 3, 4, 5, 6, 7, 8, 9, 10, 11, 12, 13, 14, 15, 16] rfl (by decide) rfl (kX4_readString l g E o d N  hI ) w_622 mX4_readString 4 rfl rfl rfl rfl hl.1 rfl (Nat.le_of_ble_eq_true rfl) dX5_readToken_114 ⟨Nat.le_of_ble_eq_true rfl, Nat.le_of_ble_eq_true rfl⟩ (hc.room (zc_L_le hI))) (fun r19 N19 d19 H locs cells slots hr19 hN19 hc hP hD hS => ?_)
                have hI : zc_I N19 := by rw [hN19]; exact zi_str _ (zi_step hI)
                refine zc_callv C hP hD hS hc (zl_putString _) (zb_runV C hP hD hS [0, 1, 2, 3, 4, 5, 6, 7, 8, 9, 10, 11, 12, 13, 14, 15, 16] rfl (by decide) rfl (kX5_putString l g E o d19 N19 r19 hI (by rw [hN19]; exact zf_71 (zf_step.tr (zf_str _)) (z_full c_15))) w_633 mX5_putString 5 rfl rfl rfl rfl hl.1 rfl (Nat.le_of_ble_eq_true rfl) dX5_readToken_117 ⟨Nat.le_of_ble_eq_true rfl, Nat.le_of_ble_eq_true rfl⟩ (hc.room (zc_L_le hI))) (fun N20 d20 H locs cells slots hN20 hc hP hD hS => ?_)
                have hI : zc_I N20 := by rw [hN20]; exact zi_putString hI (by rw [hN19]; exact zf_71 (zf_step.tr (zf_str _)) (z_full c_15)) _
                refine lv_goto (tgt := 148) hx hb dX5_readToken_120 (by decide) ?_
                exact zc_rvg hQ hx hb hr hlocks hK hP hD hS hc (by unfold zc_readToken; rw [if_neg (fun h9 => h9 c_15), if_neg (fun h9 => h9 c_33), if_neg (show ¬ zk_isNum N from fun h9 => by rcases h9 with h9 | h9; exact h9 c_47; exact h9.2 c_66), if_neg c_86, if_pos c_106, ← hN19, ← hr19]; exact hN20) dX5_readToken_148
            · refine lv_aload_n hx hb dX5_readToken_89 rfl (lv_at hl 1 rfl) ?_
              refine lv_aload_n hx hb dX5_readToken_90 rfl (lv_at hl 1 rfl) ?_
              refine va_get (ci := 5) (v := .ref (o 4)) hx hb hts iX5 hown hK hP 5 rfl rfl 3 (by decide) (hts _ w_224) (fun _ h9 => h9) rfl dX5_readToken_91 ?_
              refine za_ci (wc := zc_ws g o d N) (wr := []) C hP hD hS [0, 1, 2, 3, 4, 5, 6, 7, 8, 9, 10, 11, 12, 13, 14, 15, 16] [] rfl rfl (by decide) (by decide) (za_runV C hP hD hS [0, 1, 2, 3, 4, 5, 6, 7, 8, 9, 10, 11, 12, 13, 14, 15, 16] rfl (by decide) rfl (kX4_readRune l g E o d N  hI ) w_588 mX4_readRune 4 rfl rfl rfl rfl hl.1 rfl (Nat.le_of_ble_eq_true rfl) dX5_readToken_94 ⟨Nat.le_of_ble_eq_true rfl, Nat.le_of_ble_eq_true rfl⟩ (hc.le0 (zc_L_le hI))) (fun r21 N21 H locs hN21 hP hD hS => ?_)
              obtain ⟨hr21, hN21⟩ := hN21
              have hI : zc_I N21 := by rw [hN21]; exact zi_rune hI
              have hc : zb_c N N21 cells slots := by rw [hN21]; exact hc.eq zL_rune
              have hP : va_P g.1 vwCl (zc_ws g o d N21) H := hP
              have hD : va_D A (zc_ws g o d N21) := hD
              refine zc_callv C hP hD hS hc (zl_putRune _) (zb_runV C hP hD hS [0, 1, 2, 3, 4, 5, 6, 7, 8, 9, 10, 11, 12, 13, 14, 15, 16] rfl (by decide) rfl (kX5_putRune l g E o d N21 r21 hI (by rw [hN21]; exact zf_71 (zf_rune) (z_full c_15))) w_618 mX5_putRune 5 rfl rfl rfl rfl hl.1 rfl (Nat.le_of_ble_eq_true rfl) dX5_readToken_97 ⟨Nat.le_of_ble_eq_true rfl, Nat.le_of_ble_eq_true rfl⟩ (hc.room (zc_L_le hI))) (fun N22 d22 H locs cells slots hN22 hc hP hD hS => ?_)
              have hI : zc_I N22 := by rw [hN22]; exact zi_putRune hI (by rw [hN21]; exact zf_71 (zf_rune) (z_full c_15)) _
              refine lv_goto (tgt := 148) hx hb dX5_readToken_100 (by decide) ?_
              exact zc_rvg hQ hx hb hr hlocks hK hP hD hS hc (by unfold zc_readToken; rw [if_neg (fun h9 => h9 c_15), if_neg (fun h9 => h9 c_33), if_neg (show ¬ zk_isNum N from fun h9 => by rcases h9 with h9 | h9; exact h9 c_47; exact h9.2 c_66), if_pos c_86, ← hN21, ← hr21]; exact hN22) dX5_readToken_148
          · refine lv_aload_n hx hb dX5_readToken_69 rfl (lv_at hl 1 rfl) ?_
            refine lv_aload_n hx hb dX5_readToken_70 rfl (lv_at hl 1 rfl) ?_
            refine va_get (ci := 5) (v := .ref (o 3)) hx hb hts iX5 hown hK hP 5 rfl rfl 2 (by decide) (hts _ w_223) (fun _ h9 => h9) rfl dX5_readToken_71 ?_
            refine zc_calli C hP hD hS hc (zl_readNumber) (zb_runV C hP hD hS [0, 1, 2, 3, 4, 5, 6, 7, 8, 9, 10, 11, 12, 13, 14, 15, 16] rfl (by decide) rfl (kX3_readNumber l g E o d N  hI ) w_545 mX3_readNumber 3 rfl rfl rfl rfl hl.1 rfl (Nat.le_of_ble_eq_true rfl) dX5_readToken_74 ⟨Nat.le_of_ble_eq_true rfl, Nat.le_of_ble_eq_true rfl⟩ (hc.room (zc_L_le hI))) (fun r23 N23 d23 H locs cells slots hr23 hN23 hc hP hD hS => ?_)
            have hI : zc_I N23 := by rw [hN23]; exact zi_readNumber hI
            refine zc_callv C hP hD hS hc (zl_putNumber _) (zb_runV C hP hD hS [0, 1, 2, 3, 4, 5, 6, 7, 8, 9, 10, 11, 12, 13, 14, 15, 16] rfl (by decide) rfl (kX5_putNumber l g E o d23 N23 r23 hI (by rw [hN23]; exact zf_71 (zf_readNumber) (z_full c_15))) w_584 mX5_putNumber 5 rfl rfl rfl rfl hl.1 rfl (Nat.le_of_ble_eq_true rfl) dX5_readToken_77 ⟨Nat.le_of_ble_eq_true rfl, Nat.le_of_ble_eq_true rfl⟩ (hc.room (zc_L_le hI))) (fun N24 d24 H locs cells slots hN24 hc hP hD hS => ?_)
            have hI : zc_I N24 := by rw [hN24]; exact zi_putNumber hI (by rw [hN23]; exact zf_71 (zf_readNumber) (z_full c_15)) _
            refine lv_goto (tgt := 148) hx hb dX5_readToken_80 (by decide) ?_
            exact zc_rvg hQ hx hb hr hlocks hK hP hD hS hc (by unfold zc_readToken; rw [if_neg (fun h9 => h9 c_15), if_neg (fun h9 => h9 c_33), if_pos (show zk_isNum N from Or.inr ⟨c_53, c_66⟩), ← hN23, ← hr23]; exact hN24) dX5_readToken_148
    · refine lv_aload_n hx hb dX5_readToken_36 rfl (lv_at hl 1 rfl) ?_
      refine zc_callv C hP hD hS hc (zl_readName hI (z_full c_15)) (zb_runV C hP hD hS [0, 1, 2, 3, 4, 5, 6, 7, 8, 9, 10, 11, 12, 13, 14, 15, 16] rfl (by decide) rfl (kX5_readName l g E o d N  hI (z_full c_15)) w_434 mX5_readName 5 rfl rfl rfl rfl hl.1 rfl (Nat.le_of_ble_eq_true rfl) dX5_readToken_37 ⟨Nat.le_of_ble_eq_true rfl, Nat.le_of_ble_eq_true rfl⟩ (hc.room (zc_L_le hI))) (fun N25 d25 H locs cells slots hN25 hc hP hD hS => ?_)
      have hI : zc_I N25 := by rw [hN25]; exact zi_readName hI (z_full c_15)
      refine lv_goto (tgt := 148) hx hb dX5_readToken_40 (by decide) ?_
      exact zc_rvg hQ hx hb hr hlocks hK hP hD hS hc (by unfold zc_readToken; rw [if_neg (fun h9 => h9 c_15), if_pos c_33]; exact hN25) dX5_readToken_148
  · refine lv_aload_n hx hb dX5_readToken_18 rfl (lv_at hl 1 rfl) ?_
    refine va_get (ci := 5) (v := .ref (o 6)) hx hb hts iX5 hown hK hP 5 rfl rfl 0 (by decide) (hts _ w_221) (fun _ h9 => h9) rfl dX5_readToken_19 ?_
    refine za_ci (wc := zc_ws g o d N) (wr := []) C hP hD hS [0, 1, 2, 3, 4, 5, 6, 7, 8, 9, 10, 11, 12, 13, 14, 15, 16] [] rfl rfl (by decide) (by decide) (za_runV C hP hD hS [0, 1, 2, 3, 4, 5, 6, 7, 8, 9, 10, 11, 12, 13, 14, 15, 16] rfl (by decide) rfl (kX7_refuse l g E o d N  hI ) w_430 mX7_refuse 6 rfl rfl rfl rfl hl.1 rfl (Nat.le_of_ble_eq_true rfl) dX5_readToken_22 ⟨Nat.le_of_ble_eq_true rfl, Nat.le_of_ble_eq_true rfl⟩ (hc.le0 (zc_L_le hI))) (fun r26 N26 H locs hN26 hP hD hS => ?_)
    obtain ⟨hr26, hN26⟩ := hN26
    have hI : zc_I N26 := by rw [hN26]; exact zi_refuse hI
    have hc : zb_c N N26 cells slots := by rw [hN26]; exact hc.eq zL_refuse
    have hP : va_P g.1 vwCl (zc_ws g o d N26) H := hP
    have hD : va_D A (zc_ws g o d N26) := hD
    refine lv_pop hx hb dX5_readToken_25 rfl ?_
    refine lv_goto (tgt := 148) hx hb dX5_readToken_26 (by decide) ?_
    exact zc_rvg hQ hx hb hr hlocks hK hP hD hS hc (by unfold zc_readToken; rw [if_pos c_15]; exact hN26) dX5_readToken_148
