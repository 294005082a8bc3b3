-- words of the language
def zk_isWord (N : zc_N) (f L : Nat) : Int32 := if ∀ i, i < L → zs_ch 0 (nI (f + i)) = zk_byteAt N (N.1 57 + nI i) then 1 else 0
def zk_wordAt (N : zc_N) : Int32 := zw_find zw_words (fun j => zk_byteAt N (N.1 57 + nI j)) (N.1 1 - N.1 57) 0
def zk_wordKind (N : zc_N) : Int32 := if zk_wordAt N < 0 then -1 else 10 + zk_wordAt N
def z_off (w : Nat) : Nat := (zs_wat.getD w 0).toNatClampNeg
theorem z_wd1 : ∀ w : Nat, w < 25 → zs_wat.getD (nI w + 1).toNatClampNeg 0 - zs_wat.getD (nI w).toNatClampNeg 0 = nI (zw_words.getD w []).length := by decide +kernel
theorem z_wd2 : ∀ w : Nat, w < 25 → zs_wat.getD (nI w).toNatClampNeg 0 = nI (z_off w) ∧ z_off w + (zw_words.getD w []).length ≤ 129 := by decide +kernel
theorem z_wd3 : ∀ w : Nat, w < 25 → ∀ j : Nat, j < (zw_words.getD w []).length → zs_ch 0 (nI (z_off w + j)) = (zw_words.getD w []).getD j 0 := by decide +kernel
theorem z_wd4 : ∀ w : Nat, w < 25 → zw_words.drop w = zw_words.getD w [] :: zw_words.drop (w + 1) := by decide +kernel
theorem zk_isWord_0 {N : zc_N} {w : Nat} (hw : w < 25) : zk_isWord N (z_off w) (zw_words.getD w []).length = 0 → ¬ ∀ j, j < (zw_words.getD w []).length → (zw_words.getD w []).getD j 0 = zk_byteAt N (N.1 57 + nI j) := by
  intro h h9
  unfold zk_isWord at h
  rw [if_pos (fun i hi => (z_wd3 w hw i hi).trans (h9 i hi))] at h
  exact absurd h (by decide)
theorem zk_isWord_1 {N : zc_N} {w : Nat} (hw : w < 25) : ¬ zk_isWord N (z_off w) (zw_words.getD w []).length = 0 → ∀ j, j < (zw_words.getD w []).length → (zw_words.getD w []).getD j 0 = zk_byteAt N (N.1 57 + nI j) := by
  intro h j hj
  unfold zk_isWord at h
  split at h
  · rename_i h9
    exact (z_wd3 w hw j hj).symm.trans (h9 j hj)
  · exact absurd rfl h
-- numbers
def zk_baseL (x : Int32) : Int32 := if x = 66 ∨ x = 98 then 2 else if x = 79 ∨ x = 111 then 8 else if x = 88 ∨ x = 120 then 16 else -1
def zc_keepB (N : zc_N) : zc_N := zc_step (zc_append N (zk_here N))
def zk_digits (b : Int32) : Nat → zc_N → Int32
  | 0, _ => 0
  | k + 1, N => if zk_digitOf (zk_here N) b = -1 then 0 else if zk_here (zc_keepB N) = 95 then zk_digits b k (zc_step (zc_keepB N)) else if zk_digitOf (zk_here (zc_keepB N)) b = -1 then 1 else zk_digits b k (zc_keepB N)
def zc_digits (b : Int32) : Nat → zc_N → zc_N
  | 0, N => N
  | k + 1, N => if zk_digitOf (zk_here N) b = -1 then zc_refuse N else if zk_here (zc_keepB N) = 95 then zc_digits b k (zc_step (zc_keepB N)) else if zk_digitOf (zk_here (zc_keepB N)) b = -1 then zc_keepB N else zc_digits b k (zc_keepB N)
theorem zk_digits_s {b : Int32} {k j : Nat} {N : zc_N} (h : k = j + 1) : zk_digits b k N = if zk_digitOf (zk_here N) b = -1 then 0 else if zk_here (zc_keepB N) = 95 then zk_digits b j (zc_step (zc_keepB N)) else if zk_digitOf (zk_here (zc_keepB N)) b = -1 then 1 else zk_digits b j (zc_keepB N) := by
  subst h
  rfl
theorem zc_digits_s {b : Int32} {k j : Nat} {N : zc_N} (h : k = j + 1) : zc_digits b k N = if zk_digitOf (zk_here N) b = -1 then zc_refuse N else if zk_here (zc_keepB N) = 95 then zc_digits b j (zc_step (zc_keepB N)) else if zk_digitOf (zk_here (zc_keepB N)) b = -1 then zc_keepB N else zc_digits b j (zc_keepB N) := by
  subst h
  rfl
theorem zi_keepB {N : zc_N} (hI : zc_I N) : zc_I (zc_keepB N) := zi_step (zi_append hI _)
theorem zl_keepB {N : zc_N} : zc_L N ≤ zc_L (zc_keepB N) := by
  unfold zc_keepB
  rw [zL_step]
  exact zl_append _
theorem zi_digits (b : Int32) : ∀ (k : Nat) {N : zc_N}, zc_I N → zc_I (zc_digits b k N) := by
  intro k
  induction k with
  | zero => intro N h; exact h
  | succ k ih =>
    intro N h
    rw [zc_digits_s rfl]
    split
    · exact zi_refuse h
    · split
      · exact ih (zi_step (zi_keepB h))
      · split
        · exact zi_keepB h
        · exact ih (zi_keepB h)
theorem zl_digits (b : Int32) : ∀ (k : Nat) {N : zc_N}, zc_L N ≤ zc_L (zc_digits b k N) := by
  intro k
  induction k with
  | zero => intro N; exact Nat.le_refl _
  | succ k ih =>
    intro N
    rw [zc_digits_s rfl]
    split
    · exact Nat.le_refl _
    · split
      · exact Nat.le_trans (Nat.le_trans zl_keepB (Nat.le_of_eq zL_step.symm)) ih
      · split
        · exact zl_keepB
        · exact Nat.le_trans zl_keepB ih
theorem zk_digits_01 (b : Int32) : ∀ (k : Nat) (N : zc_N), zk_digits b k N = 0 ∨ zk_digits b k N = 1 := by
  intro k
  induction k with
  | zero => intro N; exact Or.inl rfl
  | succ k ih =>
    intro N
    rw [zk_digits_s rfl]
    split
    · exact Or.inl rfl
    · split
      · exact ih _
      · split
        · exact Or.inr rfl
        · exact ih _
def zk_F : Nat := 65536
def zc_bar (N : zc_N) : zc_N := if zk_here N = 95 then zc_step N else N
def zk_withL (N : zc_N) (b : Int32) : Int32 := if zk_digits b zk_F (zc_bar (zc_keepB (zc_keepB N))) = 0 then -1 else b
def zc_withL (N : zc_N) (b : Int32) : zc_N := zc_digits b zk_F (zc_bar (zc_keepB (zc_keepB N)))
theorem zi_bar {N : zc_N} (hI : zc_I N) : zc_I (zc_bar N) := by
  unfold zc_bar
  split
  · exact zi_step hI
  · exact hI
theorem zL_bar {N : zc_N} : zc_L (zc_bar N) = zc_L N := by
  unfold zc_bar
  split
  · exact zL_step
  · rfl
theorem zi_withL {N : zc_N} (hI : zc_I N) (b : Int32) : zc_I (zc_withL N b) := zi_digits b _ (zi_bar (zi_keepB (zi_keepB hI)))
theorem zl_withL {N : zc_N} (b : Int32) : zc_L N ≤ zc_L (zc_withL N b) := Nat.le_trans (Nat.le_trans (Nat.le_trans zl_keepB zl_keepB) (Nat.le_of_eq zL_bar.symm)) (zl_digits b _)
-- a number without a letter: its digits, a point, a power
def zc_dec1 (N : zc_N) : zc_N := if zk_here N = 46 then N else zc_digits 10 zk_F N
def zk_dec1 (N : zc_N) : Int32 := if zk_here N = 46 then 1 else zk_digits 10 zk_F N
def zc_dec2 (N : zc_N) : zc_N := if zk_here N = 46 then (if zk_isDigit (zk_here (zc_keepB N)) = 0 then zc_keepB N else zc_digits 10 zk_F (zc_keepB N)) else N
def zk_dec2 (N : zc_N) : Int32 := if zk_here N = 46 then (if zk_isDigit (zk_here (zc_keepB N)) = 0 then 1 else zk_digits 10 zk_F (zc_keepB N)) else 1
def zc_sgn (N : zc_N) : zc_N := if zk_here N = 43 ∨ zk_here N = 45 then zc_keepB N else N
def zc_dec3 (N : zc_N) : zc_N := if zk_here N = 101 ∨ zk_here N = 69 then zc_digits 10 zk_F (zc_sgn (zc_keepB N)) else N
def zk_dec3 (N : zc_N) : Int32 := if zk_here N = 101 ∨ zk_here N = 69 then zk_digits 10 zk_F (zc_sgn (zc_keepB N)) else 1
/-- an 8 or a 9 among k digits from place q + j on -/
def zk_nine (N : zc_N) (q : Int32) : Nat → Nat → Int32
  | 0, _ => 0
  | k + 1, i => if 55 < zk_byteAt N (q + nI i) then 1 else zk_nine N q k (i + 1)
def zk_octal (N : zc_N) (q n : Int32) : Int32 := if n = 1 ∨ ¬ zk_byteAt N q = 48 then 10 else if zk_nine N q (n.toNatClampNeg - 1) 1 = 0 then 8 else -1
def zc_octal (N : zc_N) (q n : Int32) : zc_N := if n = 1 ∨ ¬ zk_byteAt N q = 48 then N else if zk_nine N q (n.toNatClampNeg - 1) 1 = 0 then N else zc_refuse N
theorem zk_nine_s {N : zc_N} {q : Int32} {k j i : Nat} (h : k = j + 1) : zk_nine N q k i = if 55 < zk_byteAt N (q + nI i) then 1 else zk_nine N q j (i + 1) := by
  subst h
  rfl
theorem zk_nine_z {N : zc_N} {q : Int32} {k i : Nat} (h : k = 0) : zk_nine N q k i = 0 := by
  subst h
  rfl
theorem zi_octal {N : zc_N} (hI : zc_I N) (q n : Int32) : zc_I (zc_octal N q n) := by
  unfold zc_octal
  split
  · exact hI
  · split
    · exact hI
    · exact zi_refuse hI
theorem zL_octal {N : zc_N} {q n : Int32} : zc_L (zc_octal N q n) = zc_L N := by
  unfold zc_octal
  split
  · rfl
  · split <;> rfl
/-- the base of the number read from N on; what is left of it at the first error -/
def zk_dec (N : zc_N) : Int32 :=
  let X1 := zc_dec1 N
  if zk_dec1 N = 0 then -1 else
  let X2 := zc_dec2 X1
  if zk_dec2 X1 = 0 then -1 else
  let X3 := zc_dec3 X2
  if zk_dec3 X2 = 0 then -1 else
  if X1.1 1 - N.1 1 < X3.1 1 - N.1 1 then 0 else zk_octal X3 (N.1 1) (X1.1 1 - N.1 1)
def zc_dec (N : zc_N) : zc_N :=
  let X1 := zc_dec1 N
  if zk_dec1 N = 0 then X1 else
  let X2 := zc_dec2 X1
  if zk_dec2 X1 = 0 then X2 else
  let X3 := zc_dec3 X2
  if zk_dec3 X2 = 0 then X3 else
  if X1.1 1 - N.1 1 < X3.1 1 - N.1 1 then X3 else zc_octal X3 (N.1 1) (X1.1 1 - N.1 1)
theorem zi_dec1 {N : zc_N} (hI : zc_I N) : zc_I (zc_dec1 N) := by
  unfold zc_dec1
  split
  · exact hI
  · exact zi_digits _ _ hI
theorem zi_dec2 {N : zc_N} (hI : zc_I N) : zc_I (zc_dec2 N) := by
  unfold zc_dec2
  split
  · split
    · exact zi_keepB hI
    · exact zi_digits _ _ (zi_keepB hI)
  · exact hI
theorem zi_sgn {N : zc_N} (hI : zc_I N) : zc_I (zc_sgn N) := by
  unfold zc_sgn
  split
  · exact zi_keepB hI
  · exact hI
theorem zi_dec3 {N : zc_N} (hI : zc_I N) : zc_I (zc_dec3 N) := by
  unfold zc_dec3
  split
  · exact zi_digits _ _ (zi_sgn (zi_keepB hI))
  · exact hI
theorem zl_dec1 {N : zc_N} : zc_L N ≤ zc_L (zc_dec1 N) := by
  unfold zc_dec1
  split
  · exact Nat.le_refl _
  · exact zl_digits _ _
theorem zl_dec2 {N : zc_N} : zc_L N ≤ zc_L (zc_dec2 N) := by
  unfold zc_dec2
  split
  · split
    · exact zl_keepB
    · exact Nat.le_trans zl_keepB (zl_digits _ _)
  · exact Nat.le_refl _
theorem zl_sgn {N : zc_N} : zc_L N ≤ zc_L (zc_sgn N) := by
  unfold zc_sgn
  split
  · exact zl_keepB
  · exact Nat.le_refl _
theorem zl_dec3 {N : zc_N} : zc_L N ≤ zc_L (zc_dec3 N) := by
  unfold zc_dec3
  split
  · exact Nat.le_trans (Nat.le_trans zl_keepB zl_sgn) (zl_digits _ _)
  · exact Nat.le_refl _
theorem zi_dec {N : zc_N} (hI : zc_I N) : zc_I (zc_dec N) := by
  have h1 := zi_dec1 hI
  have h2 := zi_dec2 h1
  have h3 := zi_dec3 h2
  unfold zc_dec
  dsimp only
  split
  · exact h1
  · split
    · exact h2
    · split
      · exact h3
      · split
        · exact h3
        · exact zi_octal h3 _ _
theorem zl_dec {N : zc_N} : zc_L N ≤ zc_L (zc_dec N) := by
  have h1 := zl_dec1 (N := N)
  have h2 := zl_dec2 (N := zc_dec1 N)
  have h3 := zl_dec3 (N := zc_dec2 (zc_dec1 N))
  unfold zc_dec
  dsimp only
  split
  · exact h1
  · split
    · exact Nat.le_trans h1 h2
    · split
      · exact Nat.le_trans (Nat.le_trans h1 h2) h3
      · split
        · exact Nat.le_trans (Nat.le_trans h1 h2) h3
        · rw [zL_octal]
          exact Nat.le_trans (Nat.le_trans h1 h2) h3
def zk_base0 (N : zc_N) : Int32 := if zk_here N = 48 then zk_baseL (zk_next N) else -1
def zk_num0 (N : zc_N) : Int32 := if zk_base0 N = -1 then zk_dec N else zk_withL N (zk_base0 N)
def zc_num0 (N : zc_N) : zc_N := if zk_base0 N = -1 then zc_dec N else zc_withL N (zk_base0 N)
def zk_readNumber (N : zc_N) : Int32 := if ¬ zk_num0 N = -1 ∧ ¬ zk_isPart (zk_here (zc_num0 N)) = 0 then -1 else zk_num0 N
def zc_readNumber (N : zc_N) : zc_N := if ¬ zk_num0 N = -1 ∧ ¬ zk_isPart (zk_here (zc_num0 N)) = 0 then zc_refuse (zc_num0 N) else zc_num0 N
theorem zi_num0 {N : zc_N} (hI : zc_I N) : zc_I (zc_num0 N) := by
  unfold zc_num0
  split
  · exact zi_dec hI
  · exact zi_withL hI _
theorem zl_num0 {N : zc_N} : zc_L N ≤ zc_L (zc_num0 N) := by
  unfold zc_num0
  split
  · exact zl_dec
  · exact zl_withL _
theorem zi_readNumber {N : zc_N} (hI : zc_I N) : zc_I (zc_readNumber N) := by
  unfold zc_readNumber
  split
  · exact zi_refuse (zi_num0 hI)
  · exact zi_num0 hI
theorem zl_readNumber {N : zc_N} : zc_L N ≤ zc_L (zc_readNumber N) := by
  unfold zc_readNumber
  split
  · exact zl_num0
  · exact zl_num0
set_option maxHeartbeats 4000000 in
set_option maxRecDepth 100000 in
theorem kL_isWord (l : Launch) (g : za_G) (E : za_E) (o d : Nat → Nat) (N : zc_N) (f L : Nat) (hfl : f + L ≤ 129) {p : Program} {e : Env} {s : State} {m : MethodId} {args : Array Value} {below : List Frame} {meth : Method} {co : Code} {A : Nat → Prop} {Q : State → Prop} (C : za_H p s m args co cX5_isWordAt 4 RX5 g E A) (hQ : Q = MQ below (za_qi g (fun r (_ : Unit) => r = zk_isWord N f L) (fun _ => zc_ws g o d N) A) args s 0 0 A) (hr : meth.sig.returnType = (some .boolean)) (hlocks : meth.locks = false)  : ∀ (n_ : Nat) (j : Nat), (j ≤ L) → (∀ i : Nat, i < j → zs_ch 0 (nI (f + i)) = zk_byteAt N (N.1 57 + nI i)) → L - j < n_ → ∀ (H : Heap) (locs : List Loc) (ls : Array Slot), va_S A s.heap H locs → va_P g.1 vwCl (zc_ws g o d N) H → va_D A (zc_ws g o d N) → zc_I N → lv_has ls 4 [(0, .ref (o 5)), (1, .int (nI f)), (2, .int (nI L)), (3, .int (nI j))] → W p l e (za_R 4 0 0) s m args below meth co H locs 0 0 Q (F0 m 2 ls []) := by
  obtain ⟨hx, hb, hml, hown, hts, hK, hA, hE⟩ := id C
  intro n_
  induction n_ with
  | zero => intro j hj hall hm; exact absurd hm (Nat.not_lt_zero _)
  | succ n_ ih =>
    intro j hj hall hm H locs ls hS hP hD hI hl
    refine lv_iload_n hx hb dX5_isWordAt_2 rfl (lv_at hl 3 rfl) ?_
    refine lv_iload_n hx hb dX5_isWordAt_3 rfl (lv_at hl 2 rfl) ?_
    refine za_icmp_ge (tgt := 53) hx hb dX5_isWordAt_4 (by decide) (fun c_4 => ?_) (fun c_4 => ?_)
    · refine lv_iconst (v := 1) hx hb dX5_isWordAt_53 (by decide) ?_
      exact zc_ri hQ hx hb hr hlocks hK hP hD hS rfl (by unfold zk_isWord; rw [if_pos (fun i hi => hall i (by rcases Nat.lt_or_ge j L with q | q; exact absurd (nI_lt q (by omega)) c_4; omega))]) (Nat.le_refl _) (Nat.le_refl _) dX5_isWordAt_54
    · have hlt : j < L := (nI_ltI (by omega) (by omega)).mp c_4
      refine lv_iload_n hx hb dX5_isWordAt_7 rfl (lv_at hl 1 rfl) ?_
      refine lv_iload_n hx hb dX5_isWordAt_8 rfl (lv_at hl 3 rfl) ?_
      refine lv_iadd hx hb dX5_isWordAt_9 ?_
      refine va_ldcS hx hb hown (zs_R0 hE) dX5_isWordAt_10 ?_
      refine za_ci (wc := []) (wr := zc_ws g o d N) C hP hD hS [] [0, 1, 2, 3, 4, 5, 6, 7, 8, 9, 10, 11, 12, 13, 14, 15, 16] rfl rfl (by decide) (by decide) (za_runVK C hP hD hS [] rfl (by decide) rfl (kJ0_length_8abf5 l g E 0 (by decide)) w_462 mJ0_length_8abf5 0 (by decide) rfl rfl rfl hl.1 rfl (Nat.le_of_ble_eq_true rfl) dX5_isWordAt_12 ⟨Nat.le_of_ble_eq_true rfl, Nat.le_of_ble_eq_true rfl⟩ ⟨Nat.le_refl _, Nat.le_refl _⟩) (fun r1 _ H locs hr1 hP hD hS => ?_)
      subst hr1
      have hP : va_P g.1 vwCl (zc_ws g o d N) H := hP
      have hD : va_D A (zc_ws g o d N) := hD
      refine za_icmp_ge (tgt := 53) hx hb dX5_isWordAt_15 (by decide) (fun c_15 => ?_) (fun c_15 => ?_)
      · exact absurd (show nI f + nI j < nI (zs_len.getD 0 0) by rw [nI_add]; exact nI_lt (show f + j < 129 by omega) (by decide)) c_15
      · refine va_ldcS hx hb hown (zs_R0 hE) dX5_isWordAt_18 ?_
        refine lv_iload_n hx hb dX5_isWordAt_20 rfl (lv_at hl 1 rfl) ?_
        refine lv_iload_n hx hb dX5_isWordAt_21 rfl (lv_at hl 3 rfl) ?_
        refine lv_iadd hx hb dX5_isWordAt_22 ?_
        refine za_ci (wc := []) (wr := zc_ws g o d N) C hP hD hS [] [0, 1, 2, 3, 4, 5, 6, 7, 8, 9, 10, 11, 12, 13, 14, 15, 16] rfl rfl (by decide) (by decide) (za_runVK C hP hD hS [] rfl (by decide) rfl (kJ0_charAt_5068e l g E 0 (by decide) ((nI f) + (nI j)) (by rw [nI_add]; exact vp_in_nI (show f + j < 129 by omega) (by decide))) w_472 mJ0_charAt_5068e 0 (by decide) rfl rfl rfl hl.1 rfl (Nat.le_of_ble_eq_true rfl) dX5_isWordAt_23 ⟨Nat.le_of_ble_eq_true rfl, Nat.le_of_ble_eq_true rfl⟩ ⟨Nat.le_refl _, Nat.le_refl _⟩) (fun r2 _ H locs hr2 hP hD hS => ?_)
        subst hr2
        have hP : va_P g.1 vwCl (zc_ws g o d N) H := hP
        have hD : va_D A (zc_ws g o d N) := hD
        refine lv_aload_n hx hb dX5_isWordAt_26 rfl (lv_at hl 0 rfl) ?_
        refine va_get (ci := 5) (v := .ref (o 7)) hx hb hts iX5 hown hK hP 5 rfl rfl 1 (by decide) (hts _ w_222) (fun _ h9 => h9) rfl dX5_isWordAt_27 ?_
        refine va_get (ci := 7) (v := .ref (o 0)) hx hb hts iX8 hown hK hP 7 rfl rfl 2 (by decide) (hts _ w_172) (fun _ h9 => h9) rfl dX5_isWordAt_30 ?_
        refine lv_aload_n hx hb dX5_isWordAt_33 rfl (lv_at hl 0 rfl) ?_
        refine va_get (ci := 5) (v := .int (N.1 57)) hx hb hts iX5 hown hK hP 5 rfl rfl 7 (by decide) (hts _ w_228) (fun _ h9 => h9) rfl dX5_isWordAt_34 ?_
        refine lv_iload_n hx hb dX5_isWordAt_37 rfl (lv_at hl 3 rfl) ?_
        refine lv_iadd hx hb dX5_isWordAt_38 ?_
        refine za_ci (wc := zc_ws g o d N) (wr := []) C hP hD hS [0, 1, 2, 3, 4, 5, 6, 7, 8, 9, 10, 11, 12, 13, 14, 15, 16] [] rfl rfl (by decide) (by decide) (za_runV C hP hD hS [0, 1, 2, 3, 4, 5, 6, 7, 8, 9, 10, 11, 12, 13, 14, 15, 16] rfl (by decide) rfl (kX0_byteAt l g E o d N ((N.1 57) + (nI j)) hI ) w_510 mX0_byteAt 0 rfl rfl rfl rfl hl.1 rfl (Nat.le_of_ble_eq_true rfl) dX5_isWordAt_39 ⟨Nat.le_of_ble_eq_true rfl, Nat.le_of_ble_eq_true rfl⟩ ⟨Nat.le_refl _, Nat.le_refl _⟩) (fun r3 _ H locs hr3 hP hD hS => ?_)
        subst hr3
        have hP : va_P g.1 vwCl (zc_ws g o d N) H := hP
        have hD : va_D A (zc_ws g o d N) := hD
        refine lv_icmp_eq (tgt := 47) hx hb dX5_isWordAt_42 (by decide) (fun c_42 => ?_) (fun c_42 => ?_)
        · refine lv_iinc (v := nI (j + 1)) (lv' := [(3, .int (nI (j + 1))), (0, .ref (o 5)), (1, .int (nI f)), (2, .int (nI L))]) hx hb dX5_isWordAt_47 hl (k := 3) rfl (nI_1 _) (by decide) rfl (fun ls hl => ?_)
          refine lv_goto (tgt := 2) hx hb dX5_isWordAt_50 (by decide) ?_
          exact ih (j + 1) (by omega) (fun i hi => by rcases Nat.lt_or_ge i j with q | q; exact hall i q; rw [show i = j by omega]; rw [nI_add] at c_42; exact c_42) (by omega) H locs ls hS hP hD hI (lv_sub hl [1, 2, 3, 0] rfl)
        · refine lv_iconst (v := 0) hx hb dX5_isWordAt_45 (by decide) ?_
          exact zc_ri hQ hx hb hr hlocks hK hP hD hS rfl (by unfold zk_isWord; rw [if_neg (fun h9 => c_42 (by rw [nI_add]; exact h9 j hlt))]) (Nat.le_refl _) (Nat.le_refl _) dX5_isWordAt_46
set_option maxHeartbeats 4000000 in
set_option maxRecDepth 100000 in
theorem kX5_isWordAt (l : Launch) (g : za_G) (E : za_E) (o d : Nat → Nat) (N : zc_N) (f L : Nat) (hI : zc_I N) (hfl : f + L ≤ 129) : za_Ci l g E yX5_isWordAt cX5_isWordAt 4 ((some .boolean)) 4 0 0 [.ref (o 5), .int (nI f), .int (nI L)] (zc_ws g o d N) (fun r (_ : Unit) => r = zk_isWord N f L) (fun _ => zc_ws g o d N) := by
  refine za_begin (by decide) (Nat.le_of_ble_eq_true rfl) RX5 rfl ?_
  intro p e s m args below meth co A ls Q H locs C hQ hr hlocks hnm hS hP hD hl
  obtain ⟨hx, hb, hml, hown, hts, hK, hA, hE⟩ := id C
  have hl : lv_has ls 4 [(0, .ref (o 5)), (1, .int (nI f)), (2, .int (nI L))] := hl
  refine lv_iconst (v := 0) hx hb dX5_isWordAt_0 (by decide) ?_
  refine lv_istore_n (lv' := [(3, .int 0), (0, .ref (o 5)), (1, .int (nI f)), (2, .int (nI L))]) hx hb dX5_isWordAt_1 rfl hl (by decide) rfl (fun ls hl => ?_)
  exact kL_isWord l g E o d N f L hfl C hQ hr hlocks _ 0 (Nat.zero_le _) (fun i hi => absurd hi (Nat.not_lt_zero _)) (Nat.lt_succ_self _) H locs ls hS hP hD hI (lv_sub hl [1, 2, 3, 0] rfl)
set_option maxHeartbeats 4000000 in
set_option maxRecDepth 100000 in
theorem kL_word (l : Launch) (g : za_G) (E : za_E) (o d : Nat → Nat) (N : zc_N)   {p : Program} {e : Env} {s : State} {m : MethodId} {args : Array Value} {below : List Frame} {meth : Method} {co : Code} {A : Nat → Prop} {Q : State → Prop} (C : za_H p s m args co cX5_wordKind 3 RX5 g E A) (hQ : Q = MQ below (za_qi g (fun r (_ : Unit) => r = zk_wordKind N) (fun _ => zc_ws g o d N) A) args s 0 0 A) (hr : meth.sig.returnType = (some .int)) (hlocks : meth.locks = false)  : ∀ (n_ : Nat) (w : Nat), (w ≤ 25) → (zk_wordAt N = zw_find (zw_words.drop w) (fun j => zk_byteAt N (N.1 57 + nI j)) (N.1 1 - N.1 57) (nI w)) → 25 - w < n_ → ∀ (H : Heap) (locs : List Loc) (ls : Array Slot), va_S A s.heap H locs → va_P g.1 vwCl (zc_ws g o d N) H → va_D A (zc_ws g o d N) → zc_I N → lv_has ls 3 [(0, .ref (o 5)), (1, .int (N.1 1 - N.1 57)), (2, .int (nI w))] → W p l e (za_R 5 0 0) s m args below meth co H locs 0 0 Q (F0 m 18 ls []) := by
  obtain ⟨hx, hb, hml, hown, hts, hK, hA, hE⟩ := id C
  intro n_
  induction n_ with
  | zero => intro w hw hz hm; exact absurd hm (Nat.not_lt_zero _)
  | succ n_ ih =>
    intro w hw hz hm H locs ls hS hP hD hI hl
    refine lv_iload_n hx hb dX5_wordKind_18 rfl (lv_at hl 2 rfl) ?_
    refine lv_iconst (v := 1) hx hb dX5_wordKind_19 (by decide) ?_
    refine lv_iadd hx hb dX5_wordKind_20 ?_
    refine va_gets hx hb hE.2.2.2.2.2.2.2.1 hS hown (hts _ w_455) (fun _ h9 => h9) dX5_wordKind_21 ?_
    refine va_tlen (v := 26) hx hb hE.2.2.2.2.2.2.2.2.1 hS rfl dX5_wordKind_24 ?_
    refine za_icmp_ge (tgt := 69) hx hb dX5_wordKind_25 (by decide) (fun c_25 => ?_) (fun c_25 => ?_)
    · have h25 : w = 25 := by
        rcases Nat.lt_or_ge w 25 with q | q
        · rw [nI_1] at c_25
          exact absurd (nI_lt (show w + 1 < 26 by omega) (by decide)) c_25
        · omega
      have hnf : zk_wordAt N = -1 := by
        rw [hz, h25]
        rfl
      refine lv_iconst (v := (-1)) hx hb dX5_wordKind_69 (by decide) ?_
      exact zc_ri hQ hx hb hr hlocks hK hP hD hS rfl (by unfold zk_wordKind; rw [hnf]; rfl) (Nat.le_refl _) (Nat.le_refl _) dX5_wordKind_70
    · have hlt : w < 25 := by
        rw [nI_1] at c_25
        have := (nI_ltI (a := w + 1) (b := 26) (by omega) (by decide)).mp c_25
        omega
      refine va_gets hx hb hE.2.2.2.2.2.2.2.1 hS hown (hts _ w_455) (fun _ h9 => h9) dX5_wordKind_28 ?_
      refine lv_iload_n hx hb dX5_wordKind_31 rfl (lv_at hl 2 rfl) ?_
      refine lv_iconst (v := 1) hx hb dX5_wordKind_32 (by decide) ?_
      refine lv_iadd hx hb dX5_wordKind_33 ?_
      refine va_ti hx hb hE.2.2.2.2.2.2.2.2.1 hS (by rw [nI_1]; exact vp_in_nI (show w + 1 < 26 by omega) (by decide)) rfl dX5_wordKind_34 ?_
      refine va_gets hx hb hE.2.2.2.2.2.2.2.1 hS hown (hts _ w_455) (fun _ h9 => h9) dX5_wordKind_35 ?_
      refine lv_iload_n hx hb dX5_wordKind_38 rfl (lv_at hl 2 rfl) ?_
      refine va_ti hx hb hE.2.2.2.2.2.2.2.2.1 hS (vp_in_nI (show w < 26 by omega) (by decide)) rfl dX5_wordKind_39 ?_
      refine lv_isub hx hb dX5_wordKind_40 ?_
      refine za_top (v := nI (zw_words.getD w []).length) (z_wd1 w hlt) ?_
      refine lv_iload_n hx hb dX5_wordKind_41 rfl (lv_at hl 1 rfl) ?_
      refine lv_icmp_ne (tgt := 63) hx hb dX5_wordKind_42 (by decide) (fun c_42 => ?_) (fun c_42 => ?_)
      · refine lv_iinc (v := nI (w + 1)) (lv' := [(2, .int (nI (w + 1))), (0, .ref (o 5)), (1, .int (N.1 1 - N.1 57))]) hx hb dX5_wordKind_63 hl (k := 2) rfl (nI_1 _) (by decide) rfl (fun ls hl => ?_)
        refine lv_goto (tgt := 18) hx hb dX5_wordKind_66 (by decide) ?_
        exact ih (w + 1) (by omega) (by rw [hz, z_wd4 w hlt]; show (if _ then _ else _) = _; rw [if_neg (fun h9 => c_42 h9.1), nI_1]) (by omega) H locs ls hS hP hD hI (lv_sub hl [1, 2, 0] rfl)
      · refine lv_aload_n hx hb dX5_wordKind_45 rfl (lv_at hl 0 rfl) ?_
        refine va_gets hx hb hE.2.2.2.2.2.2.2.1 hS hown (hts _ w_455) (fun _ h9 => h9) dX5_wordKind_46 ?_
        refine lv_iload_n hx hb dX5_wordKind_49 rfl (lv_at hl 2 rfl) ?_
        refine va_ti hx hb hE.2.2.2.2.2.2.2.2.1 hS (vp_in_nI (show w < 26 by omega) (by decide)) rfl dX5_wordKind_50 ?_
        refine za_top (v := nI (z_off w)) ((z_wd2 w hlt).1) ?_
        refine lv_iload_n hx hb dX5_wordKind_51 rfl (lv_at hl 1 rfl) ?_
        refine za_top (v := nI (zw_words.getD w []).length) (c_42.symm) ?_
        refine za_ci (wc := zc_ws g o d N) (wr := []) C hP hD hS [0, 1, 2, 3, 4, 5, 6, 7, 8, 9, 10, 11, 12, 13, 14, 15, 16] [] rfl rfl (by decide) (by decide) (za_runV C hP hD hS [0, 1, 2, 3, 4, 5, 6, 7, 8, 9, 10, 11, 12, 13, 14, 15, 16] rfl (by decide) rfl (kX5_isWordAt l g E o d N (z_off w) (zw_words.getD w []).length hI (z_wd2 w hlt).2) w_457 mX5_isWordAt 5 rfl rfl rfl rfl hl.1 rfl (Nat.le_of_ble_eq_true rfl) dX5_wordKind_52 ⟨Nat.le_of_ble_eq_true rfl, Nat.le_of_ble_eq_true rfl⟩ ⟨Nat.le_refl _, Nat.le_refl _⟩) (fun r1 _ H locs hr1 hP hD hS => ?_)
        subst hr1
        have hP : va_P g.1 vwCl (zc_ws g o d N) H := hP
        have hD : va_D A (zc_ws g o d N) := hD
        refine lv_if_eq (tgt := 63) hx hb dX5_wordKind_55 (by decide) (fun c_55 => ?_) (fun c_55 => ?_)
        · refine lv_iinc (v := nI (w + 1)) (lv' := [(2, .int (nI (w + 1))), (0, .ref (o 5)), (1, .int (N.1 1 - N.1 57))]) hx hb dX5_wordKind_63 hl (k := 2) rfl (nI_1 _) (by decide) rfl (fun ls hl => ?_)
          refine lv_goto (tgt := 18) hx hb dX5_wordKind_66 (by decide) ?_
          exact ih (w + 1) (by omega) (by rw [hz, z_wd4 w hlt]; show (if _ then _ else _) = _; rw [if_neg (fun h9 => zk_isWord_0 hlt c_55 h9.2), nI_1]) (by omega) H locs ls hS hP hD hI (lv_sub hl [1, 2, 0] rfl)
        · have hfd : zk_wordAt N = nI w := by
            rw [hz, z_wd4 w hlt]
            show (if _ then _ else _) = _
            rw [if_pos ⟨c_42, zk_isWord_1 hlt c_55⟩]
          refine lv_bipush (v := 10) hx hb dX5_wordKind_58 (by decide) ?_
          refine lv_iload_n hx hb dX5_wordKind_60 rfl (lv_at hl 2 rfl) ?_
          refine lv_iadd hx hb dX5_wordKind_61 ?_
          exact zc_ri hQ hx hb hr hlocks hK hP hD hS rfl (by unfold zk_wordKind; rw [hfd, if_neg (nI_pos (by omega))]) (Nat.le_refl _) (Nat.le_refl _) dX5_wordKind_62
set_option maxHeartbeats 4000000 in
set_option maxRecDepth 100000 in
theorem kX5_wordKind (l : Launch) (g : za_G) (E : za_E) (o d : Nat → Nat) (N : zc_N)  (hI : zc_I N) : za_Ci l g E yX5_wordKind cX5_wordKind 3 ((some .int)) 5 0 0 [.ref (o 5)] (zc_ws g o d N) (fun r (_ : Unit) => r = zk_wordKind N) (fun _ => zc_ws g o d N) := by
  refine za_begin (by decide) (Nat.le_of_ble_eq_true rfl) RX5 rfl ?_
  intro p e s m args below meth co A ls Q H locs C hQ hr hlocks hnm hS hP hD hl
  obtain ⟨hx, hb, hml, hown, hts, hK, hA, hE⟩ := id C
  have hl : lv_has ls 3 [(0, .ref (o 5))] := hl
  refine lv_aload_n hx hb dX5_wordKind_0 rfl (lv_at hl 0 rfl) ?_
  refine va_get (ci := 5) (v := .ref (o 7)) hx hb hts iX5 hown hK hP 5 rfl rfl 1 (by decide) (hts _ w_222) (fun _ h9 => h9) rfl dX5_wordKind_1 ?_
  refine va_get (ci := 7) (v := .ref (o 0)) hx hb hts iX8 hown hK hP 7 rfl rfl 2 (by decide) (hts _ w_172) (fun _ h9 => h9) rfl dX5_wordKind_4 ?_
  refine va_get (ci := 0) (v := .int (N.1 1)) hx hb hts iX0 hown hK hP 0 rfl rfl 1 (by decide) (hts _ w_134) (fun _ h9 => h9) rfl dX5_wordKind_7 ?_
  refine lv_aload_n hx hb dX5_wordKind_10 rfl (lv_at hl 0 rfl) ?_
  refine va_get (ci := 5) (v := .int (N.1 57)) hx hb hts iX5 hown hK hP 5 rfl rfl 7 (by decide) (hts _ w_228) (fun _ h9 => h9) rfl dX5_wordKind_11 ?_
  refine lv_isub hx hb dX5_wordKind_14 ?_
  refine lv_istore_n (lv' := [(1, .int ((N.1 1) - (N.1 57))), (0, .ref (o 5))]) hx hb dX5_wordKind_15 rfl hl (by decide) rfl (fun ls hl => ?_)
  refine lv_iconst (v := 0) hx hb dX5_wordKind_16 (by decide) ?_
  refine lv_istore_n (lv' := [(2, .int 0), (1, .int ((N.1 1) - (N.1 57))), (0, .ref (o 5))]) hx hb dX5_wordKind_17 rfl hl (by decide) rfl (fun ls hl => ?_)
  exact kL_word l g E o d N C hQ hr hlocks _ 0 (Nat.zero_le _) rfl (Nat.lt_succ_self _) H locs ls hS hP hD hI (lv_sub hl [2, 1, 0] rfl)
set_option maxHeartbeats 4000000 in
set_option maxRecDepth 100000 in
theorem kX3_baseOfLetter (l : Launch) (g : za_G) (E : za_E) (x : Int32) : za_Ci l g E yX3_baseOfLetter cX3_baseOfLetter 1 ((some .int)) 0 0 0 [.int x] [] (fun r (_ : Unit) => r = zk_baseL x) (fun _ => []) := by
  refine za_begin (by decide) (Nat.le_of_ble_eq_true rfl) RX3 rfl ?_
  intro p e s m args below meth co A ls Q H locs C hQ hr hlocks hnm hS hP hD hl
  obtain ⟨hx, hb, hml, hown, hts, hK, hA, hE⟩ := id C
  have hl : lv_has ls 1 [(0, .int x)] := hl
  refine lv_iload_n hx hb dX3_baseOfLetter_0 rfl (lv_at hl 0 rfl) ?_
  by_cases c_1_66 : x = 66
  · refine lv_lookup (off := 59) (tgt := 60) hx hb dX3_baseOfLetter_1 (by decide) (by rw [c_1_66]; decide) (by decide) ?_
    refine lv_iconst (v := 2) hx hb dX3_baseOfLetter_60 (by decide) ?_
    exact zm_rn hQ hx hb hr hlocks hK hP hD hS rfl (by unfold zk_baseL; rw [c_1_66]; decide) dX3_baseOfLetter_61
  by_cases c_1_79 : x = 79
  · refine lv_lookup (off := 61) (tgt := 62) hx hb dX3_baseOfLetter_1 (by decide) (by rw [c_1_79]; decide) (by decide) ?_
    refine lv_bipush (v := 8) hx hb dX3_baseOfLetter_62 (by decide) ?_
    exact zm_rn hQ hx hb hr hlocks hK hP hD hS rfl (by unfold zk_baseL; rw [c_1_79]; decide) dX3_baseOfLetter_64
  by_cases c_1_88 : x = 88
  · refine lv_lookup (off := 64) (tgt := 65) hx hb dX3_baseOfLetter_1 (by decide) (by rw [c_1_88]; decide) (by decide) ?_
    refine lv_bipush (v := 16) hx hb dX3_baseOfLetter_65 (by decide) ?_
    exact zm_rn hQ hx hb hr hlocks hK hP hD hS rfl (by unfold zk_baseL; rw [c_1_88]; decide) dX3_baseOfLetter_67
  by_cases c_1_98 : x = 98
  · refine lv_lookup (off := 59) (tgt := 60) hx hb dX3_baseOfLetter_1 (by decide) (by rw [c_1_98]; decide) (by decide) ?_
    refine lv_iconst (v := 2) hx hb dX3_baseOfLetter_60 (by decide) ?_
    exact zm_rn hQ hx hb hr hlocks hK hP hD hS rfl (by unfold zk_baseL; rw [c_1_98]; decide) dX3_baseOfLetter_61
  by_cases c_1_111 : x = 111
  · refine lv_lookup (off := 61) (tgt := 62) hx hb dX3_baseOfLetter_1 (by decide) (by rw [c_1_111]; decide) (by decide) ?_
    refine lv_bipush (v := 8) hx hb dX3_baseOfLetter_62 (by decide) ?_
    exact zm_rn hQ hx hb hr hlocks hK hP hD hS rfl (by unfold zk_baseL; rw [c_1_111]; decide) dX3_baseOfLetter_64
  by_cases c_1_120 : x = 120
  · refine lv_lookup (off := 64) (tgt := 65) hx hb dX3_baseOfLetter_1 (by decide) (by rw [c_1_120]; decide) (by decide) ?_
    refine lv_bipush (v := 16) hx hb dX3_baseOfLetter_65 (by decide) ?_
    exact zm_rn hQ hx hb hr hlocks hK hP hD hS rfl (by unfold zk_baseL; rw [c_1_120]; decide) dX3_baseOfLetter_67
  refine lv_lookup (off := 67) (tgt := 68) hx hb dX3_baseOfLetter_1 (by decide) (by rw [lv_osw c_1_66 (by decide)]; rw [lv_osw c_1_79 (by decide)]; rw [lv_osw c_1_88 (by decide)]; rw [lv_osw c_1_98 (by decide)]; rw [lv_osw c_1_111 (by decide)]; rw [lv_osw c_1_120 (by decide)]; rfl) (by decide) ?_
  refine lv_iconst (v := (-1)) hx hb dX3_baseOfLetter_68 (by decide) ?_
  exact zm_rn hQ hx hb hr hlocks hK hP hD hS rfl (by simp [zk_baseL, c_1_66, c_1_79, c_1_88, c_1_98, c_1_111, c_1_120]) dX3_baseOfLetter_69
set_option maxHeartbeats 4000000 in
set_option maxRecDepth 100000 in
theorem kX3_keepByte (l : Launch) (g : za_G) (E : za_E) (o d : Nat → Nat) (N : zc_N)  (hI : zc_I N) : zb_Cv l g E yX3_keepByte cX3_keepByte 1 3 (zc_rc N) (zc_rs N) (zc_L (zc_keepB N) - zc_L N) (2 * (zc_L (zc_keepB N) - zc_L N)) [.ref (o 3)] (zc_ws g o d N) (fun u : zc_N × (Nat → Nat) => u.1 = zc_keepB N) (fun u => zc_ws g o u.2 u.1) := by
  refine zb_begin (by decide) (Nat.le_of_ble_eq_true rfl) RX3 rfl ?_
  intro p e s m args below meth co A ls Q H locs C hQ hr hlocks hnm hS hP hD hl
  obtain ⟨hx, hb, hml, hown, hts, hK, hA, hE⟩ := id C
  have hl : lv_has ls 1 [(0, .ref (o 3))] := hl
  have hc : zb_c N N 0 0 := zb_c.rf
  revert hc
  refine (fun (z9 : ∀ cells slots : Nat, zb_c N N cells slots → W p l e (za_R 3 (zc_rc N) (zc_rs N)) s m args below meth co H locs cells slots Q (F0 m 0 ls [])) hc => z9 0 0 hc) (fun cells slots hc => ?_)
  refine lv_aload_n hx hb dX3_keepByte_0 rfl (lv_at hl 0 rfl) ?_
  refine va_get (ci := 3) (v := .ref (o 0)) hx hb hts iX3 hown hK hP 3 rfl rfl 1 (by decide) (hts _ w_199) (fun _ h9 => h9) rfl dX3_keepByte_1 ?_
  refine lv_aload_n hx hb dX3_keepByte_4 rfl (lv_at hl 0 rfl) ?_
  refine va_get (ci := 3) (v := .ref (o 6)) hx hb hts iX3 hown hK hP 3 rfl rfl 0 (by decide) (hts _ w_198) (fun _ h9 => h9) rfl dX3_keepByte_5 ?_
  refine za_ci (wc := zc_ws g o d N) (wr := []) C hP hD hS [0, 1, 2, 3, 4, 5, 6, 7, 8, 9, 10, 11, 12, 13, 14, 15, 16] [] rfl rfl (by decide) (by decide) (za_runV C hP hD hS [0, 1, 2, 3, 4, 5, 6, 7, 8, 9, 10, 11, 12, 13, 14, 15, 16] rfl (by decide) rfl (kX7_here l g E o d N  hI ) w_549 mX7_here 6 rfl rfl rfl rfl hl.1 rfl (Nat.le_of_ble_eq_true rfl) dX3_keepByte_8 ⟨Nat.le_of_ble_eq_true rfl, Nat.le_of_ble_eq_true rfl⟩ (hc.le0 (zc_L_le hI))) (fun r1 _ H locs hr1 hP hD hS => ?_)
  subst hr1
  have hP : va_P g.1 vwCl (zc_ws g o d N) H := hP
  have hD : va_D A (zc_ws g o d N) := hD
  refine zc_callv C hP hD hS hc (zl_append _) (zb_runV C hP hD hS [0, 1, 2, 3, 4, 5, 6, 7, 8, 9, 10, 11, 12, 13, 14, 15, 16] rfl (by decide) rfl (kX0_append l g E o d N (zk_here N) hI ) w_571 mX0_append 0 rfl rfl rfl rfl hl.1 rfl (Nat.le_of_ble_eq_true rfl) dX3_keepByte_11 ⟨Nat.le_of_ble_eq_true rfl, Nat.le_of_ble_eq_true rfl⟩ (hc.room (zc_L_le hI))) (fun N2 d2 H locs cells slots hN2 hc hP hD hS => ?_)
  have hI : zc_I N2 := by rw [hN2]; exact zi_append hI _
  refine lv_aload_n hx hb dX3_keepByte_14 rfl (lv_at hl 0 rfl) ?_
  refine va_get (ci := 3) (v := .ref (o 6)) hx hb hts iX3 hown hK hP 3 rfl rfl 0 (by decide) (hts _ w_198) (fun _ h9 => h9) rfl dX3_keepByte_15 ?_
  refine za_cv (wc := zc_ws g o d2 N2) (wr := []) C hP hD hS [0, 1, 2, 3, 4, 5, 6, 7, 8, 9, 10, 11, 12, 13, 14, 15, 16] [] rfl rfl (by decide) (by decide) (za_runV C hP hD hS [0, 1, 2, 3, 4, 5, 6, 7, 8, 9, 10, 11, 12, 13, 14, 15, 16] rfl (by decide) rfl (kX7_step l g E o d2 N2  hI ) w_572 mX7_step 6 rfl rfl rfl rfl hl.1 rfl (Nat.le_of_ble_eq_true rfl) dX3_keepByte_18 ⟨Nat.le_of_ble_eq_true rfl, Nat.le_of_ble_eq_true rfl⟩ (hc.le0 (zc_L_le hI))) (fun N3 H locs hN3 hP hD hS => ?_)
  have hI : zc_I N3 := by rw [hN3]; exact zi_step hI
  have hc : zb_c N N3 cells slots := by rw [hN3]; exact hc.eq zL_step
  have hP : va_P g.1 vwCl (zc_ws g o d2 N3) H := hP
  have hD : va_D A (zc_ws g o d2 N3) := hD
  subst hN3
  subst hN2
  exact zc_rvg hQ hx hb hr hlocks hK hP hD hS hc (by simp [zc_keepB, zq_upd]) dX3_keepByte_21
set_option maxHeartbeats 4000000 in
set_option maxRecDepth 100000 in
theorem kL_digits (l : Launch) (g : za_G) (E : za_E) (o d : Nat → Nat) (N : zc_N) (b : Int32)  {p : Program} {e : Env} {s : State} {m : MethodId} {args : Array Value} {below : List Frame} {meth : Method} {co : Code} {A : Nat → Prop} {Q : State → Prop} (C : za_H p s m args co cX3_readDigits 3 RX3 g E A) (hQ : Q = MQ below (za_qi g (fun r (u : zc_N × (Nat → Nat)) => r = zk_digits b zk_F N ∧ u.1 = zc_digits b zk_F N) (fun u => zc_ws g o u.2 u.1) A) args s (zc_L (zc_digits b zk_F N) - zc_L N) (2 * (zc_L (zc_digits b zk_F N) - zc_L N)) A) (hr : meth.sig.returnType = (some .boolean)) (hlocks : meth.locks = false)  : ∀ (n_ : Nat) (k : Nat) (X : zc_N), (k ≤ 65536) → (zk_digits b zk_F N = zk_digits b k X ∧ zc_digits b zk_F N = zc_digits b k X) → k < n_ → ∀ (d1 : Nat → Nat) (cells slots : Nat) (H : Heap) (locs : List Loc) (ls : Array Slot), va_S A s.heap H locs → va_P g.1 vwCl (zc_ws g o d1 X) H → va_D A (zc_ws g o d1 X) → zb_c N X cells slots → zc_I X → lv_has ls 3 [(0, .ref (o 3)), (1, .int b), (2, .int (nI (65536 - k)))] → W p l e (za_R 4 (zc_rc N) (zc_rs N)) s m args below meth co H locs cells slots Q (F0 m 2 ls []) := by
  obtain ⟨hx, hb, hml, hown, hts, hK, hA, hE⟩ := id C
  intro n_
  induction n_ with
  | zero => intro k X hk6 hres hm; exact absurd hm (Nat.not_lt_zero _)
  | succ n_ ih =>
    intro k X hk6 hres hm d1 cells slots H locs ls hS hP hD hc hI hl
    refine lv_iload_n hx hb dX3_readDigits_2 rfl (lv_at hl 2 rfl) ?_
    refine lv_ldc (v := 65536) hx hb hown (hts _ w_562) dX3_readDigits_3 ?_
    refine za_icmp_ge (tgt := 82) hx hb dX3_readDigits_5 (by decide) (fun c_5 => ?_) (fun c_5 => ?_)
    · have hk0 : k = 0 := by
        cases k with
        | zero => rfl
        | succ kk => exact absurd (nI_lt (show 65536 - (kk + 1) < 65536 by omega) (by decide)) c_5
      refine lv_iconst (v := 0) hx hb dX3_readDigits_82 (by decide) ?_
      exact zc_rig hQ hx hb hr hlocks hK hP hD hS hc rfl (by rw [hres.1, hk0]; rfl) (by rw [hres.2, hk0]; rfl) dX3_readDigits_83
    · obtain ⟨kk, hk1⟩ : ∃ kk, k = kk + 1 := by
        cases k with
        | zero => exact absurd c_5 (by decide)
        | succ kk => exact ⟨kk, rfl⟩
      refine lv_aload_n hx hb dX3_readDigits_8 rfl (lv_at hl 0 rfl) ?_
      refine va_get (ci := 3) (v := .ref (o 6)) hx hb hts iX3 hown hK hP 3 rfl rfl 0 (by decide) (hts _ w_198) (fun _ h9 => h9) rfl dX3_readDigits_9 ?_
      refine za_ci (wc := zc_ws g o d1 X) (wr := []) C hP hD hS [0, 1, 2, 3, 4, 5, 6, 7, 8, 9, 10, 11, 12, 13, 14, 15, 16] [] rfl rfl (by decide) (by decide) (za_runV C hP hD hS [0, 1, 2, 3, 4, 5, 6, 7, 8, 9, 10, 11, 12, 13, 14, 15, 16] rfl (by decide) rfl (kX7_here l g E o d1 X  hI ) w_549 mX7_here 6 rfl rfl rfl rfl hl.1 rfl (Nat.le_of_ble_eq_true rfl) dX3_readDigits_12 ⟨Nat.le_of_ble_eq_true rfl, Nat.le_of_ble_eq_true rfl⟩ (hc.le0 (zc_L_le hI))) (fun r1 _ H locs hr1 hP hD hS => ?_)
      subst hr1
      have hP : va_P g.1 vwCl (zc_ws g o d1 X) H := hP
      have hD : va_D A (zc_ws g o d1 X) := hD
      refine lv_iload_n hx hb dX3_readDigits_15 rfl (lv_at hl 1 rfl) ?_
      refine za_ci (wc := []) (wr := zc_ws g o d1 X) C hP hD hS [] [0, 1, 2, 3, 4, 5, 6, 7, 8, 9, 10, 11, 12, 13, 14, 15, 16] rfl rfl (by decide) (by decide) (za_runSN C hP hD hS [] rfl (by decide) rfl (kX9_digitOf l g E (zk_here X) b ) zn_X3_71 mX9_digitOf rfl hl.1 rfl (Nat.le_of_ble_eq_true rfl) dX3_readDigits_16 ⟨Nat.le_of_ble_eq_true rfl, Nat.le_of_ble_eq_true rfl⟩ (hc.le0 (zc_L_le hI))) (fun r2 _ H locs hr2 hP hD hS => ?_)
      subst hr2
      have hP : va_P g.1 vwCl (zc_ws g o d1 X) H := hP
      have hD : va_D A (zc_ws g o d1 X) := hD
      refine lv_iconst (v := (-1)) hx hb dX3_readDigits_19 (by decide) ?_
      refine lv_icmp_ne (tgt := 33) hx hb dX3_readDigits_20 (by decide) (fun c_20 => ?_) (fun c_20 => ?_)
      · refine lv_aload_n hx hb dX3_readDigits_33 rfl (lv_at hl 0 rfl) ?_
        refine zc_callv C hP hD hS hc (zl_keepB) (zb_runV C hP hD hS [0, 1, 2, 3, 4, 5, 6, 7, 8, 9, 10, 11, 12, 13, 14, 15, 16] rfl (by decide) rfl (kX3_keepByte l g E o d1 X  hI ) w_567 mX3_keepByte 3 rfl rfl rfl rfl hl.1 rfl (Nat.le_of_ble_eq_true rfl) dX3_readDigits_34 ⟨Nat.le_of_ble_eq_true rfl, Nat.le_of_ble_eq_true rfl⟩ (hc.room (zc_L_le hI))) (fun N3 d3 H locs cells slots hN3 hc hP hD hS => ?_)
        have hI : zc_I N3 := by rw [hN3]; exact zi_keepB hI
        refine lv_aload_n hx hb dX3_readDigits_37 rfl (lv_at hl 0 rfl) ?_
        refine va_get (ci := 3) (v := .ref (o 6)) hx hb hts iX3 hown hK hP 3 rfl rfl 0 (by decide) (hts _ w_198) (fun _ h9 => h9) rfl dX3_readDigits_38 ?_
        refine za_ci (wc := zc_ws g o d3 N3) (wr := []) C hP hD hS [0, 1, 2, 3, 4, 5, 6, 7, 8, 9, 10, 11, 12, 13, 14, 15, 16] [] rfl rfl (by decide) (by decide) (za_runV C hP hD hS [0, 1, 2, 3, 4, 5, 6, 7, 8, 9, 10, 11, 12, 13, 14, 15, 16] rfl (by decide) rfl (kX7_here l g E o d3 N3  hI ) w_549 mX7_here 6 rfl rfl rfl rfl hl.1 rfl (Nat.le_of_ble_eq_true rfl) dX3_readDigits_41 ⟨Nat.le_of_ble_eq_true rfl, Nat.le_of_ble_eq_true rfl⟩ (hc.le0 (zc_L_le hI))) (fun r4 _ H locs hr4 hP hD hS => ?_)
        subst hr4
        have hP : va_P g.1 vwCl (zc_ws g o d3 N3) H := hP
        have hD : va_D A (zc_ws g o d3 N3) := hD
        refine lv_bipush (v := 95) hx hb dX3_readDigits_44 (by decide) ?_
        refine lv_icmp_ne (tgt := 59) hx hb dX3_readDigits_46 (by decide) (fun c_46 => ?_) (fun c_46 => ?_)
        · refine lv_aload_n hx hb dX3_readDigits_59 rfl (lv_at hl 0 rfl) ?_
          refine va_get (ci := 3) (v := .ref (o 6)) hx hb hts iX3 hown hK hP 3 rfl rfl 0 (by decide) (hts _ w_198) (fun _ h9 => h9) rfl dX3_readDigits_60 ?_
          refine za_ci (wc := zc_ws g o d3 N3) (wr := []) C hP hD hS [0, 1, 2, 3, 4, 5, 6, 7, 8, 9, 10, 11, 12, 13, 14, 15, 16] [] rfl rfl (by decide) (by decide) (za_runV C hP hD hS [0, 1, 2, 3, 4, 5, 6, 7, 8, 9, 10, 11, 12, 13, 14, 15, 16] rfl (by decide) rfl (kX7_here l g E o d3 N3  hI ) w_549 mX7_here 6 rfl rfl rfl rfl hl.1 rfl (Nat.le_of_ble_eq_true rfl) dX3_readDigits_63 ⟨Nat.le_of_ble_eq_true rfl, Nat.le_of_ble_eq_true rfl⟩ (hc.le0 (zc_L_le hI))) (fun r5 _ H locs hr5 hP hD hS => ?_)
          subst hr5
          have hP : va_P g.1 vwCl (zc_ws g o d3 N3) H := hP
          have hD : va_D A (zc_ws g o d3 N3) := hD
          refine lv_iload_n hx hb dX3_readDigits_66 rfl (lv_at hl 1 rfl) ?_
          refine za_ci (wc := []) (wr := zc_ws g o d3 N3) C hP hD hS [] [0, 1, 2, 3, 4, 5, 6, 7, 8, 9, 10, 11, 12, 13, 14, 15, 16] rfl rfl (by decide) (by decide) (za_runSN C hP hD hS [] rfl (by decide) rfl (kX9_digitOf l g E (zk_here N3) b ) zn_X3_71 mX9_digitOf rfl hl.1 rfl (Nat.le_of_ble_eq_true rfl) dX3_readDigits_67 ⟨Nat.le_of_ble_eq_true rfl, Nat.le_of_ble_eq_true rfl⟩ (hc.le0 (zc_L_le hI))) (fun r6 _ H locs hr6 hP hD hS => ?_)
          subst hr6
          have hP : va_P g.1 vwCl (zc_ws g o d3 N3) H := hP
          have hD : va_D A (zc_ws g o d3 N3) := hD
          refine lv_iconst (v := (-1)) hx hb dX3_readDigits_70 (by decide) ?_
          refine lv_icmp_ne (tgt := 76) hx hb dX3_readDigits_71 (by decide) (fun c_71 => ?_) (fun c_71 => ?_)
          · refine lv_iinc (v := nI (65536 - kk)) (lv' := [(2, .int (nI (65536 - kk))), (0, .ref (o 3)), (1, .int b)]) hx hb dX3_readDigits_76 hl (k := 2) rfl ((nI_1 _).trans (congrArg nI (by omega))) (by decide) rfl (fun ls hl => ?_)
            refine lv_goto (tgt := 2) hx hb dX3_readDigits_79 (by decide) ?_
            exact ih kk N3 (by omega) (⟨by rw [hres.1, zk_digits_s hk1, if_neg c_20, ← hN3, if_neg c_46, if_neg c_71], by rw [hres.2, zc_digits_s hk1, if_neg c_20, ← hN3, if_neg c_46, if_neg c_71]⟩) (by omega) d3 cells slots H locs ls hS hP hD hc hI (lv_sub hl [1, 2, 0] rfl)
          · refine lv_iconst (v := 1) hx hb dX3_readDigits_74 (by decide) ?_
            exact zc_rig hQ hx hb hr hlocks hK hP hD hS hc rfl (by rw [hres.1, zk_digits_s hk1, if_neg c_20, ← hN3, if_neg c_46, if_pos c_71]) (by rw [hres.2, zc_digits_s hk1, if_neg c_20, ← hN3, if_neg c_46, if_pos c_71]) dX3_readDigits_75
        · refine lv_aload_n hx hb dX3_readDigits_49 rfl (lv_at hl 0 rfl) ?_
          refine va_get (ci := 3) (v := .ref (o 6)) hx hb hts iX3 hown hK hP 3 rfl rfl 0 (by decide) (hts _ w_198) (fun _ h9 => h9) rfl dX3_readDigits_50 ?_
          refine za_cv (wc := zc_ws g o d3 N3) (wr := []) C hP hD hS [0, 1, 2, 3, 4, 5, 6, 7, 8, 9, 10, 11, 12, 13, 14, 15, 16] [] rfl rfl (by decide) (by decide) (za_runV C hP hD hS [0, 1, 2, 3, 4, 5, 6, 7, 8, 9, 10, 11, 12, 13, 14, 15, 16] rfl (by decide) rfl (kX7_step l g E o d3 N3  hI ) w_572 mX7_step 6 rfl rfl rfl rfl hl.1 rfl (Nat.le_of_ble_eq_true rfl) dX3_readDigits_53 ⟨Nat.le_of_ble_eq_true rfl, Nat.le_of_ble_eq_true rfl⟩ (hc.le0 (zc_L_le hI))) (fun N7 H locs hN7 hP hD hS => ?_)
          have hI : zc_I N7 := by rw [hN7]; exact zi_step hI
          have hc : zb_c N N7 cells slots := by rw [hN7]; exact hc.eq zL_step
          have hP : va_P g.1 vwCl (zc_ws g o d3 N7) H := hP
          have hD : va_D A (zc_ws g o d3 N7) := hD
          refine lv_goto (tgt := 76) hx hb dX3_readDigits_56 (by decide) ?_
          refine lv_iinc (v := nI (65536 - kk)) (lv' := [(2, .int (nI (65536 - kk))), (0, .ref (o 3)), (1, .int b)]) hx hb dX3_readDigits_76 hl (k := 2) rfl ((nI_1 _).trans (congrArg nI (by omega))) (by decide) rfl (fun ls hl => ?_)
          refine lv_goto (tgt := 2) hx hb dX3_readDigits_79 (by decide) ?_
          exact ih kk N7 (by omega) (⟨by rw [hres.1, zk_digits_s hk1, if_neg c_20, ← hN3, if_pos c_46, ← hN7], by rw [hres.2, zc_digits_s hk1, if_neg c_20, ← hN3, if_pos c_46, ← hN7]⟩) (by omega) d3 cells slots H locs ls hS hP hD hc hI (lv_sub hl [1, 2, 0] rfl)
      · refine lv_aload_n hx hb dX3_readDigits_23 rfl (lv_at hl 0 rfl) ?_
        refine va_get (ci := 3) (v := .ref (o 6)) hx hb hts iX3 hown hK hP 3 rfl rfl 0 (by decide) (hts _ w_198) (fun _ h9 => h9) rfl dX3_readDigits_24 ?_
        refine za_ci (wc := zc_ws g o d1 X) (wr := []) C hP hD hS [0, 1, 2, 3, 4, 5, 6, 7, 8, 9, 10, 11, 12, 13, 14, 15, 16] [] rfl rfl (by decide) (by decide) (za_runV C hP hD hS [0, 1, 2, 3, 4, 5, 6, 7, 8, 9, 10, 11, 12, 13, 14, 15, 16] rfl (by decide) rfl (kX7_refuse l g E o d1 X  hI ) w_566 mX7_refuse 6 rfl rfl rfl rfl hl.1 rfl (Nat.le_of_ble_eq_true rfl) dX3_readDigits_27 ⟨Nat.le_of_ble_eq_true rfl, Nat.le_of_ble_eq_true rfl⟩ (hc.le0 (zc_L_le hI))) (fun r8 N8 H locs hN8 hP hD hS => ?_)
        obtain ⟨hr8, hN8⟩ := hN8
        have hI : zc_I N8 := by rw [hN8]; exact zi_refuse hI
        have hc : zb_c N N8 cells slots := by rw [hN8]; exact hc.eq zL_refuse
        have hP : va_P g.1 vwCl (zc_ws g o d1 N8) H := hP
        have hD : va_D A (zc_ws g o d1 N8) := hD
        refine lv_pop hx hb dX3_readDigits_30 rfl ?_
        refine lv_iconst (v := 0) hx hb dX3_readDigits_31 (by decide) ?_
        exact zc_rig hQ hx hb hr hlocks hK hP hD hS hc rfl (by rw [hres.1, zk_digits_s hk1, if_pos c_20]) (by rw [hN8, hres.2, zc_digits_s hk1, if_pos c_20]) dX3_readDigits_32
set_option maxHeartbeats 4000000 in
set_option maxRecDepth 100000 in
theorem kX3_readDigits (l : Launch) (g : za_G) (E : za_E) (o d : Nat → Nat) (N : zc_N) (b : Int32) (hI : zc_I N) : zb_Ci l g E yX3_readDigits cX3_readDigits 3 ((some .boolean)) 4 (zc_rc N) (zc_rs N) (zc_L (zc_digits b zk_F N) - zc_L N) (2 * (zc_L (zc_digits b zk_F N) - zc_L N)) [.ref (o 3), .int b] (zc_ws g o d N) (fun r (u : zc_N × (Nat → Nat)) => r = zk_digits b zk_F N ∧ u.1 = zc_digits b zk_F N) (fun u => zc_ws g o u.2 u.1) := by
  refine zb_begin (by decide) (Nat.le_of_ble_eq_true rfl) RX3 rfl ?_
  intro p e s m args below meth co A ls Q H locs C hQ hr hlocks hnm hS hP hD hl
  obtain ⟨hx, hb, hml, hown, hts, hK, hA, hE⟩ := id C
  have hl : lv_has ls 3 [(0, .ref (o 3)), (1, .int b)] := hl
  have hc : zb_c N N 0 0 := zb_c.rf
  revert hc
  refine (fun (z9 : ∀ cells slots : Nat, zb_c N N cells slots → W p l e (za_R 4 (zc_rc N) (zc_rs N)) s m args below meth co H locs cells slots Q (F0 m 0 ls [])) hc => z9 0 0 hc) (fun cells slots hc => ?_)
  refine lv_iconst (v := 0) hx hb dX3_readDigits_0 (by decide) ?_
  refine lv_istore_n (lv' := [(2, .int 0), (0, .ref (o 3)), (1, .int b)]) hx hb dX3_readDigits_1 rfl hl (by decide) rfl (fun ls hl => ?_)
  exact kL_digits l g E o d N b C hQ hr hlocks _ 65536 N (Nat.le_refl _) ⟨rfl, rfl⟩ (Nat.lt_succ_self _) d cells slots H locs ls hS hP hD hc hI (lv_sub hl [1, 2, 0] rfl)
set_option maxHeartbeats 4000000 in
set_option maxRecDepth 100000 in
theorem kX3_readWithLetter (l : Launch) (g : za_G) (E : za_E) (o d : Nat → Nat) (N : zc_N) (b : Int32) (hI : zc_I N) : zb_Ci l g E yX3_readWithLetter cX3_readWithLetter 2 ((some .int)) 5 (zc_rc N) (zc_rs N) (zc_L (zc_withL N b) - zc_L N) (2 * (zc_L (zc_withL N b) - zc_L N)) [.ref (o 3), .int b] (zc_ws g o d N) (fun r (u : zc_N × (Nat → Nat)) => r = zk_withL N b ∧ u.1 = zc_withL N b) (fun u => zc_ws g o u.2 u.1) := by
  refine zb_begin (by decide) (Nat.le_of_ble_eq_true rfl) RX3 rfl ?_
  intro p e s m args below meth co A ls Q H locs C hQ hr hlocks hnm hS hP hD hl
  obtain ⟨hx, hb, hml, hown, hts, hK, hA, hE⟩ := id C
  have hl : lv_has ls 2 [(0, .ref (o 3)), (1, .int b)] := hl
  have hc : zb_c N N 0 0 := zb_c.rf
  revert hc
  refine (fun (z9 : ∀ cells slots : Nat, zb_c N N cells slots → W p l e (za_R 5 (zc_rc N) (zc_rs N)) s m args below meth co H locs cells slots Q (F0 m 0 ls [])) hc => z9 0 0 hc) (fun cells slots hc => ?_)
  refine lv_aload_n hx hb dX3_readWithLetter_0 rfl (lv_at hl 0 rfl) ?_
  refine zc_callv C hP hD hS hc (zl_keepB) (zb_runV C hP hD hS [0, 1, 2, 3, 4, 5, 6, 7, 8, 9, 10, 11, 12, 13, 14, 15, 16] rfl (by decide) rfl (kX3_keepByte l g E o d N  hI ) w_567 mX3_keepByte 3 rfl rfl rfl rfl hl.1 rfl (Nat.le_of_ble_eq_true rfl) dX3_readWithLetter_1 ⟨Nat.le_of_ble_eq_true rfl, Nat.le_of_ble_eq_true rfl⟩ (hc.room (zc_L_le hI))) (fun N1 d1 H locs cells slots hN1 hc hP hD hS => ?_)
  have hI : zc_I N1 := by rw [hN1]; exact zi_keepB hI
  refine lv_aload_n hx hb dX3_readWithLetter_4 rfl (lv_at hl 0 rfl) ?_
  refine zc_callv C hP hD hS hc (zl_keepB) (zb_runV C hP hD hS [0, 1, 2, 3, 4, 5, 6, 7, 8, 9, 10, 11, 12, 13, 14, 15, 16] rfl (by decide) rfl (kX3_keepByte l g E o d1 N1  hI ) w_567 mX3_keepByte 3 rfl rfl rfl rfl hl.1 rfl (Nat.le_of_ble_eq_true rfl) dX3_readWithLetter_5 ⟨Nat.le_of_ble_eq_true rfl, Nat.le_of_ble_eq_true rfl⟩ (hc.room (zc_L_le hI))) (fun N2 d2 H locs cells slots hN2 hc hP hD hS => ?_)
  have hI : zc_I N2 := by rw [hN2]; exact zi_keepB hI
  have J_27 : ∀ (X1 : zc_N) (d_X1 : Nat → Nat) (cells slots : Nat) (H : Heap) (locs : List Loc) (ls : Array Slot), X1 = zc_bar (zc_keepB (zc_keepB N)) → zb_c N X1 cells slots → zc_I X1 → va_S A s.heap H locs → va_P g.1 vwCl (zc_ws g o d_X1 X1) H → va_D A (zc_ws g o d_X1 X1) → lv_has ls 2 [(0, .ref (o 3)), (1, .int b)] → W p l e (za_R 5 (zc_rc N) (zc_rs N)) s m args below meth co H locs cells slots Q (F0 m 27 ls []) := by
    intro X1 d_X1 cells slots H locs ls hX1 hc hI hS hP hD hl
    refine lv_aload_n hx hb dX3_readWithLetter_27 rfl (lv_at hl 0 rfl) ?_
    refine lv_iload_n hx hb dX3_readWithLetter_28 rfl (lv_at hl 1 rfl) ?_
    refine zc_calli C hP hD hS hc (zl_digits _ _) (zb_runV C hP hD hS [0, 1, 2, 3, 4, 5, 6, 7, 8, 9, 10, 11, 12, 13, 14, 15, 16] rfl (by decide) rfl (kX3_readDigits l g E o d_X1 X1 b hI ) w_558 mX3_readDigits 3 rfl rfl rfl rfl hl.1 rfl (Nat.le_of_ble_eq_true rfl) dX3_readWithLetter_29 ⟨Nat.le_of_ble_eq_true rfl, Nat.le_of_ble_eq_true rfl⟩ (hc.room (zc_L_le hI))) (fun r3 N3 d3 H locs cells slots hr3 hN3 hc hP hD hS => ?_)
    have hI : zc_I N3 := by rw [hN3]; exact zi_digits _ _ hI
    refine lv_if_eq (tgt := 39) hx hb dX3_readWithLetter_32 (by decide) (fun c_32 => ?_) (fun c_32 => ?_)
    · refine lv_iconst (v := (-1)) hx hb dX3_readWithLetter_39 (by decide) ?_
      exact zc_rig hQ hx hb hr hlocks hK hP hD hS hc rfl (by unfold zk_withL; rw [← hX1, ← hr3, if_pos c_32]) (by unfold zc_withL; rw [← hX1]; exact hN3) dX3_readWithLetter_40
    · refine lv_iload_n hx hb dX3_readWithLetter_35 rfl (lv_at hl 1 rfl) ?_
      refine lv_goto (tgt := 40) hx hb dX3_readWithLetter_36 (by decide) ?_
      exact zc_rig hQ hx hb hr hlocks hK hP hD hS hc rfl (by unfold zk_withL; rw [← hX1, ← hr3, if_neg c_32]) (by unfold zc_withL; rw [← hX1]; exact hN3) dX3_readWithLetter_40
  refine lv_aload_n hx hb dX3_readWithLetter_8 rfl (lv_at hl 0 rfl) ?_
  refine va_get (ci := 3) (v := .ref (o 6)) hx hb hts iX3 hown hK hP 3 rfl rfl 0 (by decide) (hts _ w_198) (fun _ h9 => h9) rfl dX3_readWithLetter_9 ?_
  refine za_ci (wc := zc_ws g o d2 N2) (wr := []) C hP hD hS [0, 1, 2, 3, 4, 5, 6, 7, 8, 9, 10, 11, 12, 13, 14, 15, 16] [] rfl rfl (by decide) (by decide) (za_runV C hP hD hS [0, 1, 2, 3, 4, 5, 6, 7, 8, 9, 10, 11, 12, 13, 14, 15, 16] rfl (by decide) rfl (kX7_here l g E o d2 N2  hI ) w_549 mX7_here 6 rfl rfl rfl rfl hl.1 rfl (Nat.le_of_ble_eq_true rfl) dX3_readWithLetter_12 ⟨Nat.le_of_ble_eq_true rfl, Nat.le_of_ble_eq_true rfl⟩ (hc.le0 (zc_L_le hI))) (fun r4 _ H locs hr4 hP hD hS => ?_)
  subst hr4
  have hP : va_P g.1 vwCl (zc_ws g o d2 N2) H := hP
  have hD : va_D A (zc_ws g o d2 N2) := hD
  refine lv_bipush (v := 95) hx hb dX3_readWithLetter_15 (by decide) ?_
  refine lv_icmp_ne (tgt := 27) hx hb dX3_readWithLetter_17 (by decide) (fun c_17 => ?_) (fun c_17 => ?_)
  · exact J_27 N2 d2 cells slots H locs ls (by rw [← hN1, ← hN2]; unfold zc_bar; rw [if_neg c_17]) hc hI hS hP hD (lv_sub hl [0, 1] rfl)
  · refine lv_aload_n hx hb dX3_readWithLetter_20 rfl (lv_at hl 0 rfl) ?_
    refine va_get (ci := 3) (v := .ref (o 6)) hx hb hts iX3 hown hK hP 3 rfl rfl 0 (by decide) (hts _ w_198) (fun _ h9 => h9) rfl dX3_readWithLetter_21 ?_
    refine za_cv (wc := zc_ws g o d2 N2) (wr := []) C hP hD hS [0, 1, 2, 3, 4, 5, 6, 7, 8, 9, 10, 11, 12, 13, 14, 15, 16] [] rfl rfl (by decide) (by decide) (za_runV C hP hD hS [0, 1, 2, 3, 4, 5, 6, 7, 8, 9, 10, 11, 12, 13, 14, 15, 16] rfl (by decide) rfl (kX7_step l g E o d2 N2  hI ) w_572 mX7_step 6 rfl rfl rfl rfl hl.1 rfl (Nat.le_of_ble_eq_true rfl) dX3_readWithLetter_24 ⟨Nat.le_of_ble_eq_true rfl, Nat.le_of_ble_eq_true rfl⟩ (hc.le0 (zc_L_le hI))) (fun N5 H locs hN5 hP hD hS => ?_)
    have hI : zc_I N5 := by rw [hN5]; exact zi_step hI
    have hc : zb_c N N5 cells slots := by rw [hN5]; exact hc.eq zL_step
    have hP : va_P g.1 vwCl (zc_ws g o d2 N5) H := hP
    have hD : va_D A (zc_ws g o d2 N5) := hD
    exact J_27 N5 d2 cells slots H locs ls (by rw [← hN1, ← hN2]; unfold zc_bar; rw [if_pos c_17]; exact hN5) hc hI hS hP hD (lv_sub hl [0, 1] rfl)
set_option maxHeartbeats 4000000 in
set_option maxRecDepth 100000 in
theorem kL_octal (l : Launch) (g : za_G) (E : za_E) (o d : Nat → Nat) (N : zc_N) (q n : Int32) (h0 : ¬ (n = 1 ∨ ¬ zk_byteAt N q = 48)) {p : Program} {e : Env} {s : State} {m : MethodId} {args : Array Value} {below : List Frame} {meth : Method} {co : Code} {A : Nat → Prop} {Q : State → Prop} (C : za_H p s m args co cX3_baseOfDigits 4 RX3 g E A) (hQ : Q = MQ below (za_qi g (fun r (u : zc_N) => r = zk_octal N q n ∧ u = zc_octal N q n) (fun u => zc_ws g o d u) A) args s 0 0 A) (hr : meth.sig.returnType = (some .int)) (hlocks : meth.locks = false)  : ∀ (n_ : Nat) (j : Nat), (1 ≤ j ∧ (j ≤ n.toNatClampNeg ∨ j = 1)) → (zk_nine N q (n.toNatClampNeg - 1) 1 = zk_nine N q (n.toNatClampNeg - j) j) → n.toNatClampNeg - j < n_ → ∀ (H : Heap) (locs : List Loc) (ls : Array Slot), va_S A s.heap H locs → va_P g.1 vwCl (zc_ws g o d N) H → va_D A (zc_ws g o d N) → zc_I N → lv_has ls 4 [(0, .ref (o 3)), (1, .int q), (2, .int n), (3, .int (nI j))] → W p l e (za_R 1 0 0) s m args below meth co H locs 0 0 Q (F0 m 23 ls []) := by
  obtain ⟨hx, hb, hml, hown, hts, hK, hA, hE⟩ := id C
  intro n_
  induction n_ with
  | zero => intro j hj hz hm; exact absurd hm (Nat.not_lt_zero _)
  | succ n_ ih =>
    intro j hj hz hm H locs ls hS hP hD hI hl
    have hn9 := z_clt n
    refine lv_iload_n hx hb dX3_baseOfDigits_23 rfl (lv_at hl 3 rfl) ?_
    refine lv_iload_n hx hb dX3_baseOfDigits_24 rfl (lv_at hl 2 rfl) ?_
    refine za_icmp_ge (tgt := 57) hx hb dX3_baseOfDigits_25 (by decide) (fun c_25 => ?_) (fun c_25 => ?_)
    · have h9 : zk_nine N q (n.toNatClampNeg - 1) 1 = 0 := by
        rw [hz]
        exact zk_nine_z (by rcases Nat.lt_or_ge j n.toNatClampNeg with z | z; exact absurd ((z_ltc (by omega)).mpr z) c_25; omega)
      refine lv_bipush (v := 8) hx hb dX3_baseOfDigits_57 (by decide) ?_
      exact zc_riw hQ hx hb hr hlocks hK hP hD hS rfl (by unfold zk_octal; rw [if_neg h0, if_pos h9]) (by unfold zc_octal; rw [if_neg h0, if_pos h9]) (Nat.le_refl _) (Nat.le_refl _) dX3_baseOfDigits_59
    · have hlt : j < n.toNatClampNeg := (z_ltc (by omega)).mp c_25
      refine lv_aload_n hx hb dX3_baseOfDigits_28 rfl (lv_at hl 0 rfl) ?_
      refine va_get (ci := 3) (v := .ref (o 0)) hx hb hts iX3 hown hK hP 3 rfl rfl 1 (by decide) (hts _ w_199) (fun _ h9 => h9) rfl dX3_baseOfDigits_29 ?_
      refine lv_iload_n hx hb dX3_baseOfDigits_32 rfl (lv_at hl 1 rfl) ?_
      refine lv_iload_n hx hb dX3_baseOfDigits_33 rfl (lv_at hl 3 rfl) ?_
      refine lv_iadd hx hb dX3_baseOfDigits_34 ?_
      refine za_ci (wc := zc_ws g o d N) (wr := []) C hP hD hS [0, 1, 2, 3, 4, 5, 6, 7, 8, 9, 10, 11, 12, 13, 14, 15, 16] [] rfl rfl (by decide) (by decide) (za_runV C hP hD hS [0, 1, 2, 3, 4, 5, 6, 7, 8, 9, 10, 11, 12, 13, 14, 15, 16] rfl (by decide) rfl (kX0_byteAt l g E o d N (q + (nI j)) hI ) w_578 mX0_byteAt 0 rfl rfl rfl rfl hl.1 rfl (Nat.le_of_ble_eq_true rfl) dX3_baseOfDigits_35 ⟨Nat.le_of_ble_eq_true rfl, Nat.le_of_ble_eq_true rfl⟩ ⟨Nat.le_refl _, Nat.le_refl _⟩) (fun r1 _ H locs hr1 hP hD hS => ?_)
      subst hr1
      have hP : va_P g.1 vwCl (zc_ws g o d N) H := hP
      have hD : va_D A (zc_ws g o d N) := hD
      refine lv_bipush (v := 55) hx hb dX3_baseOfDigits_38 (by decide) ?_
      refine za_icmp_le (tgt := 51) hx hb dX3_baseOfDigits_40 (by decide) (fun c_40 => ?_) (fun c_40 => ?_)
      · refine lv_iinc (v := nI (j + 1)) (lv' := [(3, .int (nI (j + 1))), (0, .ref (o 3)), (1, .int q), (2, .int n)]) hx hb dX3_baseOfDigits_51 hl (k := 3) rfl (nI_1 _) (by decide) rfl (fun ls hl => ?_)
        refine lv_goto (tgt := 23) hx hb dX3_baseOfDigits_54 (by decide) ?_
        exact ih (j + 1) (by omega) (by rw [hz, zk_nine_s (j := n.toNatClampNeg - (j + 1)) (by omega), if_neg c_40]) (by omega) H locs ls hS hP hD hI (lv_sub hl [1, 2, 3, 0] rfl)
      · have h9 : ¬ zk_nine N q (n.toNatClampNeg - 1) 1 = 0 := by
          rw [hz, zk_nine_s (j := n.toNatClampNeg - (j + 1)) (by omega), if_pos c_40]
          decide
        refine lv_aload_n hx hb dX3_baseOfDigits_43 rfl (lv_at hl 0 rfl) ?_
        refine va_get (ci := 3) (v := .ref (o 6)) hx hb hts iX3 hown hK hP 3 rfl rfl 0 (by decide) (hts _ w_198) (fun _ h9 => h9) rfl dX3_baseOfDigits_44 ?_
        refine za_ci (wc := zc_ws g o d N) (wr := []) C hP hD hS [0, 1, 2, 3, 4, 5, 6, 7, 8, 9, 10, 11, 12, 13, 14, 15, 16] [] rfl rfl (by decide) (by decide) (za_runV C hP hD hS [0, 1, 2, 3, 4, 5, 6, 7, 8, 9, 10, 11, 12, 13, 14, 15, 16] rfl (by decide) rfl (kX7_refuse l g E o d N  hI ) w_566 mX7_refuse 6 rfl rfl rfl rfl hl.1 rfl (Nat.le_of_ble_eq_true rfl) dX3_baseOfDigits_47 ⟨Nat.le_of_ble_eq_true rfl, Nat.le_of_ble_eq_true rfl⟩ ⟨Nat.le_refl _, Nat.le_refl _⟩) (fun r2 N2 H locs hN2 hP hD hS => ?_)
        obtain ⟨hr2, hN2⟩ := hN2
        have hI : zc_I N2 := by rw [hN2]; exact zi_refuse hI
        have hP : va_P g.1 vwCl (zc_ws g o d N2) H := hP
        have hD : va_D A (zc_ws g o d N2) := hD
        subst hN2
        subst hr2
        exact zc_riw hQ hx hb hr hlocks hK hP hD hS rfl (by unfold zk_octal; rw [if_neg h0, if_neg h9]) (by unfold zc_octal; rw [if_neg h0, if_neg h9]) (Nat.le_refl _) (Nat.le_refl _) dX3_baseOfDigits_50
set_option maxHeartbeats 4000000 in
set_option maxRecDepth 100000 in
theorem kX3_baseOfDigits (l : Launch) (g : za_G) (E : za_E) (o d : Nat → Nat) (N : zc_N) (q n : Int32) (hI : zc_I N) : za_Ci l g E yX3_baseOfDigits cX3_baseOfDigits 4 ((some .int)) 1 0 0 [.ref (o 3), .int q, .int n] (zc_ws g o d N) (fun r (u : zc_N) => r = zk_octal N q n ∧ u = zc_octal N q n) (fun u => zc_ws g o d u) := by
  refine za_begin (by decide) (Nat.le_of_ble_eq_true rfl) RX3 rfl ?_
  intro p e s m args below meth co A ls Q H locs C hQ hr hlocks hnm hS hP hD hl
  obtain ⟨hx, hb, hml, hown, hts, hK, hA, hE⟩ := id C
  have hl : lv_has ls 4 [(0, .ref (o 3)), (1, .int q), (2, .int n)] := hl
  refine lv_iload_n hx hb dX3_baseOfDigits_0 rfl (lv_at hl 2 rfl) ?_
  refine lv_iconst (v := 1) hx hb dX3_baseOfDigits_1 (by decide) ?_
  refine lv_icmp_eq (tgt := 18) hx hb dX3_baseOfDigits_2 (by decide) (fun c_2 => ?_) (fun c_2 => ?_)
  · refine lv_bipush (v := 10) hx hb dX3_baseOfDigits_18 (by decide) ?_
    exact zc_riw hQ hx hb hr hlocks hK hP hD hS rfl (by simp [zk_octal, zc_octal, zq_upd, eq_true c_2]) (by simp [zk_octal, zc_octal, zq_upd, eq_true c_2]) (Nat.le_refl _) (Nat.le_refl _) dX3_baseOfDigits_20
  · refine lv_aload_n hx hb dX3_baseOfDigits_5 rfl (lv_at hl 0 rfl) ?_
    refine va_get (ci := 3) (v := .ref (o 0)) hx hb hts iX3 hown hK hP 3 rfl rfl 1 (by decide) (hts _ w_199) (fun _ h9 => h9) rfl dX3_baseOfDigits_6 ?_
    refine lv_iload_n hx hb dX3_baseOfDigits_9 rfl (lv_at hl 1 rfl) ?_
    refine za_ci (wc := zc_ws g o d N) (wr := []) C hP hD hS [0, 1, 2, 3, 4, 5, 6, 7, 8, 9, 10, 11, 12, 13, 14, 15, 16] [] rfl rfl (by decide) (by decide) (za_runV C hP hD hS [0, 1, 2, 3, 4, 5, 6, 7, 8, 9, 10, 11, 12, 13, 14, 15, 16] rfl (by decide) rfl (kX0_byteAt l g E o d N q hI ) w_578 mX0_byteAt 0 rfl rfl rfl rfl hl.1 rfl (Nat.le_of_ble_eq_true rfl) dX3_baseOfDigits_10 ⟨Nat.le_of_ble_eq_true rfl, Nat.le_of_ble_eq_true rfl⟩ ⟨Nat.le_refl _, Nat.le_refl _⟩) (fun r1 _ H locs hr1 hP hD hS => ?_)
    subst hr1
    have hP : va_P g.1 vwCl (zc_ws g o d N) H := hP
    have hD : va_D A (zc_ws g o d N) := hD
    refine lv_bipush (v := 48) hx hb dX3_baseOfDigits_13 (by decide) ?_
    refine lv_icmp_eq (tgt := 21) hx hb dX3_baseOfDigits_15 (by decide) (fun c_15 => ?_) (fun c_15 => ?_)
    · refine lv_iconst (v := 1) hx hb dX3_baseOfDigits_21 (by decide) ?_
      refine lv_istore_n (lv' := [(3, .int 1), (0, .ref (o 3)), (1, .int q), (2, .int n)]) hx hb dX3_baseOfDigits_22 rfl hl (by decide) rfl (fun ls hl => ?_)
      exact kL_octal l g E o d N q n (fun h9 => by rcases h9 with h9 | h9; exact c_2 h9; exact h9 c_15) C hQ hr hlocks _ 1 (by omega) rfl (Nat.lt_succ_self _) H locs ls hS hP hD hI (lv_sub hl [1, 2, 3, 0] rfl)
    · refine lv_bipush (v := 10) hx hb dX3_baseOfDigits_18 (by decide) ?_
      exact zc_riw hQ hx hb hr hlocks hK hP hD hS rfl (by simp [zk_octal, zc_octal, zq_upd, c_2, c_15]) (by simp [zk_octal, zc_octal, zq_upd, c_2, c_15]) (Nat.le_refl _) (Nat.le_refl _) dX3_baseOfDigits_20
set_option maxHeartbeats 4000000 in
set_option maxRecDepth 100000 in
theorem kX3_readDecimal (l : Launch) (g : za_G) (E : za_E) (o d : Nat → Nat) (N : zc_N)  (hI : zc_I N) : zb_Ci l g E yX3_readDecimal cX3_readDecimal 3 ((some .int)) 5 (zc_rc N) (zc_rs N) (zc_L (zc_dec N) - zc_L N) (2 * (zc_L (zc_dec N) - zc_L N)) [.ref (o 3)] (zc_ws g o d N) (fun r (u : zc_N × (Nat → Nat)) => r = zk_dec N ∧ u.1 = zc_dec N) (fun u => zc_ws g o u.2 u.1) := by
  refine zb_begin (by decide) (Nat.le_of_ble_eq_true rfl) RX3 rfl ?_
  intro p e s m args below meth co A ls Q H locs C hQ hr hlocks hnm hS hP hD hl
  obtain ⟨hx, hb, hml, hown, hts, hK, hA, hE⟩ := id C
  have hl : lv_has ls 3 [(0, .ref (o 3))] := hl
  have hc : zb_c N N 0 0 := zb_c.rf
  revert hc
  refine (fun (z9 : ∀ cells slots : Nat, zb_c N N cells slots → W p l e (za_R 5 (zc_rc N) (zc_rs N)) s m args below meth co H locs cells slots Q (F0 m 0 ls [])) hc => z9 0 0 hc) (fun cells slots hc => ?_)
  refine lv_aload_n hx hb dX3_readDecimal_0 rfl (lv_at hl 0 rfl) ?_
  refine va_get (ci := 3) (v := .ref (o 0)) hx hb hts iX3 hown hK hP 3 rfl rfl 1 (by decide) (hts _ w_199) (fun _ h9 => h9) rfl dX3_readDecimal_1 ?_
  refine va_get (ci := 0) (v := .int (N.1 1)) hx hb hts iX0 hown hK hP 0 rfl rfl 1 (by decide) (hts _ w_133) (fun _ h9 => h9) rfl dX3_readDecimal_4 ?_
  refine lv_istore_n (lv' := [(1, .int (N.1 1)), (0, .ref (o 3))]) hx hb dX3_readDecimal_7 rfl hl (by decide) rfl (fun ls hl => ?_)
  have J_41 : ∀ (X1 : zc_N) (d_X1 : Nat → Nat) (cells slots : Nat) (H : Heap) (locs : List Loc) (ls : Array Slot), X1 = zc_dec1 N ∧ ¬ zk_dec1 N = 0 → zb_c N X1 cells slots → zc_I X1 → va_S A s.heap H locs → va_P g.1 vwCl (zc_ws g o d_X1 X1) H → va_D A (zc_ws g o d_X1 X1) → lv_has ls 3 [(0, .ref (o 3)), (1, .int (N.1 1)), (2, .int (X1.1 1 - N.1 1))] → W p l e (za_R 5 (zc_rc N) (zc_rs N)) s m args below meth co H locs cells slots Q (F0 m 41 ls []) := by
    intro X1 d_X1 cells slots H locs ls hX1 hc hI hS hP hD hl
    obtain ⟨hX1, ho1⟩ := hX1
    have J_81 : ∀ (X2 : zc_N) (d_X2 : Nat → Nat) (cells slots : Nat) (H : Heap) (locs : List Loc) (ls : Array Slot), X2 = zc_dec2 X1 ∧ ¬ zk_dec2 X1 = 0 → zb_c N X2 cells slots → zc_I X2 → va_S A s.heap H locs → va_P g.1 vwCl (zc_ws g o d_X2 X2) H → va_D A (zc_ws g o d_X2 X2) → lv_has ls 3 [(0, .ref (o 3)), (1, .int (N.1 1)), (2, .int (X1.1 1 - N.1 1))] → W p l e (za_R 5 (zc_rc N) (zc_rs N)) s m args below meth co H locs cells slots Q (F0 m 81 ls []) := by
      intro X2 d_X2 cells slots H locs ls hX2 hc hI hS hP hD hl
      obtain ⟨hX2, ho2⟩ := hX2
      have J_148 : ∀ (X3 : zc_N) (d_X3 : Nat → Nat) (cells slots : Nat) (H : Heap) (locs : List Loc) (ls : Array Slot), X3 = zc_dec3 X2 ∧ ¬ zk_dec3 X2 = 0 → zb_c N X3 cells slots → zc_I X3 → va_S A s.heap H locs → va_P g.1 vwCl (zc_ws g o d_X3 X3) H → va_D A (zc_ws g o d_X3 X3) → lv_has ls 3 [(0, .ref (o 3)), (1, .int (N.1 1)), (2, .int (X1.1 1 - N.1 1))] → W p l e (za_R 5 (zc_rc N) (zc_rs N)) s m args below meth co H locs cells slots Q (F0 m 148 ls []) := by
        intro X3 d_X3 cells slots H locs ls hX3 hc hI hS hP hD hl
        obtain ⟨hX3, ho3⟩ := hX3
        refine lv_aload_n hx hb dX3_readDecimal_148 rfl (lv_at hl 0 rfl) ?_
        refine va_get (ci := 3) (v := .ref (o 0)) hx hb hts iX3 hown hK hP 3 rfl rfl 1 (by decide) (hts _ w_199) (fun _ h9 => h9) rfl dX3_readDecimal_149 ?_
        refine va_get (ci := 0) (v := .int (X3.1 1)) hx hb hts iX0 hown hK hP 0 rfl rfl 1 (by decide) (hts _ w_133) (fun _ h9 => h9) rfl dX3_readDecimal_152 ?_
        refine lv_iload_n hx hb dX3_readDecimal_155 rfl (lv_at hl 1 rfl) ?_
        refine lv_isub hx hb dX3_readDecimal_156 ?_
        refine lv_iload_n hx hb dX3_readDecimal_157 rfl (lv_at hl 2 rfl) ?_
        refine za_icmp_le (tgt := 165) hx hb dX3_readDecimal_158 (by decide) (fun c_158 => ?_) (fun c_158 => ?_)
        · refine lv_aload_n hx hb dX3_readDecimal_165 rfl (lv_at hl 0 rfl) ?_
          refine lv_iload_n hx hb dX3_readDecimal_166 rfl (lv_at hl 1 rfl) ?_
          refine lv_iload_n hx hb dX3_readDecimal_167 rfl (lv_at hl 2 rfl) ?_
          refine za_ci (wc := zc_ws g o d_X3 X3) (wr := []) C hP hD hS [0, 1, 2, 3, 4, 5, 6, 7, 8, 9, 10, 11, 12, 13, 14, 15, 16] [] rfl rfl (by decide) (by decide) (za_runV C hP hD hS [0, 1, 2, 3, 4, 5, 6, 7, 8, 9, 10, 11, 12, 13, 14, 15, 16] rfl (by decide) rfl (kX3_baseOfDigits l g E o d_X3 X3 (N.1 1) (X1.1 1 - N.1 1) hI ) w_574 mX3_baseOfDigits 3 rfl rfl rfl rfl hl.1 rfl (Nat.le_of_ble_eq_true rfl) dX3_readDecimal_168 ⟨Nat.le_of_ble_eq_true rfl, Nat.le_of_ble_eq_true rfl⟩ (hc.le0 (zc_L_le hI))) (fun r1 N1 H locs hN1 hP hD hS => ?_)
          obtain ⟨hr1, hN1⟩ := hN1
          have hI : zc_I N1 := by rw [hN1]; exact zi_octal hI _ _
          have hc : zb_c N N1 cells slots := by rw [hN1]; exact hc.eq zL_octal
          have hP : va_P g.1 vwCl (zc_ws g o d_X3 N1) H := hP
          have hD : va_D A (zc_ws g o d_X3 N1) := hD
          exact zc_rig hQ hx hb hr hlocks hK hP hD hS hc rfl (by unfold zk_dec; dsimp only; rw [← hX1, if_neg ho1, ← hX2, if_neg ho2, ← hX3, if_neg ho3, if_neg c_158]; exact hr1) (by unfold zc_dec; dsimp only; rw [← hX1, if_neg ho1, ← hX2, if_neg ho2, ← hX3, if_neg ho3, if_neg c_158]; exact hN1) dX3_readDecimal_171
        · refine lv_iconst (v := 0) hx hb dX3_readDecimal_161 (by decide) ?_
          refine lv_goto (tgt := 171) hx hb dX3_readDecimal_162 (by decide) ?_
          exact zc_rig hQ hx hb hr hlocks hK hP hD hS hc rfl (by unfold zk_dec; dsimp only; rw [← hX1, if_neg ho1, ← hX2, if_neg ho2, ← hX3, if_neg ho3, if_pos c_158]) (by unfold zc_dec; dsimp only; rw [← hX1, if_neg ho1, ← hX2, if_neg ho2, ← hX3, if_neg ho3, if_pos c_158]) dX3_readDecimal_171
      refine lv_aload_n hx hb dX3_readDecimal_81 rfl (lv_at hl 0 rfl) ?_
      refine va_get (ci := 3) (v := .ref (o 6)) hx hb hts iX3 hown hK hP 3 rfl rfl 0 (by decide) (hts _ w_198) (fun _ h9 => h9) rfl dX3_readDecimal_82 ?_
      refine za_ci (wc := zc_ws g o d_X2 X2) (wr := []) C hP hD hS [0, 1, 2, 3, 4, 5, 6, 7, 8, 9, 10, 11, 12, 13, 14, 15, 16] [] rfl rfl (by decide) (by decide) (za_runV C hP hD hS [0, 1, 2, 3, 4, 5, 6, 7, 8, 9, 10, 11, 12, 13, 14, 15, 16] rfl (by decide) rfl (kX7_here l g E o d_X2 X2  hI ) w_549 mX7_here 6 rfl rfl rfl rfl hl.1 rfl (Nat.le_of_ble_eq_true rfl) dX3_readDecimal_85 ⟨Nat.le_of_ble_eq_true rfl, Nat.le_of_ble_eq_true rfl⟩ (hc.le0 (zc_L_le hI))) (fun r2 _ H locs hr2 hP hD hS => ?_)
      subst hr2
      have hP : va_P g.1 vwCl (zc_ws g o d_X2 X2) H := hP
      have hD : va_D A (zc_ws g o d_X2 X2) := hD
      refine lv_bipush (v := 101) hx hb dX3_readDecimal_88 (by decide) ?_
      refine lv_icmp_eq (tgt := 105) hx hb dX3_readDecimal_90 (by decide) (fun c_90 => ?_) (fun c_90 => ?_)
      · have h3e : zk_here X2 = 101 ∨ zk_here X2 = 69 := Or.inl c_90
        refine lv_aload_n hx hb dX3_readDecimal_105 rfl (lv_at hl 0 rfl) ?_
        refine zc_callv C hP hD hS hc (zl_keepB) (zb_runV C hP hD hS [0, 1, 2, 3, 4, 5, 6, 7, 8, 9, 10, 11, 12, 13, 14, 15, 16] rfl (by decide) rfl (kX3_keepByte l g E o d_X2 X2  hI ) w_567 mX3_keepByte 3 rfl rfl rfl rfl hl.1 rfl (Nat.le_of_ble_eq_true rfl) dX3_readDecimal_106 ⟨Nat.le_of_ble_eq_true rfl, Nat.le_of_ble_eq_true rfl⟩ (hc.room (zc_L_le hI))) (fun N3 d3 H locs cells slots hN3 hc hP hD hS => ?_)
        have hI : zc_I N3 := by rw [hN3]; exact zi_keepB hI
        have J_137 : ∀ (X4 : zc_N) (d_X4 : Nat → Nat) (cells slots : Nat) (H : Heap) (locs : List Loc) (ls : Array Slot), X4 = zc_sgn (zc_keepB X2) → zb_c N X4 cells slots → zc_I X4 → va_S A s.heap H locs → va_P g.1 vwCl (zc_ws g o d_X4 X4) H → va_D A (zc_ws g o d_X4 X4) → lv_has ls 3 [(0, .ref (o 3)), (1, .int (N.1 1)), (2, .int (X1.1 1 - N.1 1))] → W p l e (za_R 5 (zc_rc N) (zc_rs N)) s m args below meth co H locs cells slots Q (F0 m 137 ls []) := by
          intro X4 d_X4 cells slots H locs ls hX4 hc hI hS hP hD hl
          refine lv_aload_n hx hb dX3_readDecimal_137 rfl (lv_at hl 0 rfl) ?_
          refine lv_bipush (v := 10) hx hb dX3_readDecimal_138 (by decide) ?_
          refine zc_calli C hP hD hS hc (zl_digits _ _) (zb_runV C hP hD hS [0, 1, 2, 3, 4, 5, 6, 7, 8, 9, 10, 11, 12, 13, 14, 15, 16] rfl (by decide) rfl (kX3_readDigits l g E o d_X4 X4 10 hI ) w_558 mX3_readDigits 3 rfl rfl rfl rfl hl.1 rfl (Nat.le_of_ble_eq_true rfl) dX3_readDecimal_140 ⟨Nat.le_of_ble_eq_true rfl, Nat.le_of_ble_eq_true rfl⟩ (hc.room (zc_L_le hI))) (fun r4 N4 d4 H locs cells slots hr4 hN4 hc hP hD hS => ?_)
          have hI : zc_I N4 := by rw [hN4]; exact zi_digits _ _ hI
          refine lv_if_ne (tgt := 148) hx hb dX3_readDecimal_143 (by decide) (fun c_143 => ?_) (fun c_143 => ?_)
          · exact J_148 N4 d4 cells slots H locs ls (by exact ⟨by unfold zc_dec3; rw [if_pos h3e, ← hX4]; exact hN4, by unfold zk_dec3; rw [if_pos h3e, ← hX4, ← hr4]; exact c_143⟩) hc hI hS hP hD (lv_sub hl [0, 1, 2] rfl)
          · refine lv_iconst (v := (-1)) hx hb dX3_readDecimal_146 (by decide) ?_
            exact zc_rig hQ hx hb hr hlocks hK hP hD hS hc rfl (by unfold zk_dec; dsimp only; rw [← hX1, if_neg ho1, ← hX2, if_neg ho2, if_pos (by unfold zk_dec3; rw [if_pos h3e, ← hX4, ← hr4]; exact c_143)]) (by unfold zc_dec; dsimp only; rw [← hX1, if_neg ho1, ← hX2, if_neg ho2, if_pos (by unfold zk_dec3; rw [if_pos h3e, ← hX4, ← hr4]; exact c_143)]; unfold zc_dec3; rw [if_pos h3e, ← hX4]; exact hN4) dX3_readDecimal_147
        refine lv_aload_n hx hb dX3_readDecimal_109 rfl (lv_at hl 0 rfl) ?_
        refine va_get (ci := 3) (v := .ref (o 6)) hx hb hts iX3 hown hK hP 3 rfl rfl 0 (by decide) (hts _ w_198) (fun _ h9 => h9) rfl dX3_readDecimal_110 ?_
        refine za_ci (wc := zc_ws g o d3 N3) (wr := []) C hP hD hS [0, 1, 2, 3, 4, 5, 6, 7, 8, 9, 10, 11, 12, 13, 14, 15, 16] [] rfl rfl (by decide) (by decide) (za_runV C hP hD hS [0, 1, 2, 3, 4, 5, 6, 7, 8, 9, 10, 11, 12, 13, 14, 15, 16] rfl (by decide) rfl (kX7_here l g E o d3 N3  hI ) w_549 mX7_here 6 rfl rfl rfl rfl hl.1 rfl (Nat.le_of_ble_eq_true rfl) dX3_readDecimal_113 ⟨Nat.le_of_ble_eq_true rfl, Nat.le_of_ble_eq_true rfl⟩ (hc.le0 (zc_L_le hI))) (fun r5 _ H locs hr5 hP hD hS => ?_)
        subst hr5
        have hP : va_P g.1 vwCl (zc_ws g o d3 N3) H := hP
        have hD : va_D A (zc_ws g o d3 N3) := hD
        refine lv_bipush (v := 43) hx hb dX3_readDecimal_116 (by decide) ?_
        refine lv_icmp_eq (tgt := 133) hx hb dX3_readDecimal_118 (by decide) (fun c_118 => ?_) (fun c_118 => ?_)
        · refine lv_aload_n hx hb dX3_readDecimal_133 rfl (lv_at hl 0 rfl) ?_
          refine zc_callv C hP hD hS hc (zl_keepB) (zb_runV C hP hD hS [0, 1, 2, 3, 4, 5, 6, 7, 8, 9, 10, 11, 12, 13, 14, 15, 16] rfl (by decide) rfl (kX3_keepByte l g E o d3 N3  hI ) w_567 mX3_keepByte 3 rfl rfl rfl rfl hl.1 rfl (Nat.le_of_ble_eq_true rfl) dX3_readDecimal_134 ⟨Nat.le_of_ble_eq_true rfl, Nat.le_of_ble_eq_true rfl⟩ (hc.room (zc_L_le hI))) (fun N6 d6 H locs cells slots hN6 hc hP hD hS => ?_)
          have hI : zc_I N6 := by rw [hN6]; exact zi_keepB hI
          exact J_137 N6 d6 cells slots H locs ls (by rw [← hN3]; unfold zc_sgn; rw [if_pos (Or.inl c_118)]; exact hN6) hc hI hS hP hD (lv_sub hl [0, 1, 2] rfl)
        · refine lv_aload_n hx hb dX3_readDecimal_121 rfl (lv_at hl 0 rfl) ?_
          refine va_get (ci := 3) (v := .ref (o 6)) hx hb hts iX3 hown hK hP 3 rfl rfl 0 (by decide) (hts _ w_198) (fun _ h9 => h9) rfl dX3_readDecimal_122 ?_
          refine za_ci (wc := zc_ws g o d3 N3) (wr := []) C hP hD hS [0, 1, 2, 3, 4, 5, 6, 7, 8, 9, 10, 11, 12, 13, 14, 15, 16] [] rfl rfl (by decide) (by decide) (za_runV C hP hD hS [0, 1, 2, 3, 4, 5, 6, 7, 8, 9, 10, 11, 12, 13, 14, 15, 16] rfl (by decide) rfl (kX7_here l g E o d3 N3  hI ) w_549 mX7_here 6 rfl rfl rfl rfl hl.1 rfl (Nat.le_of_ble_eq_true rfl) dX3_readDecimal_125 ⟨Nat.le_of_ble_eq_true rfl, Nat.le_of_ble_eq_true rfl⟩ (hc.le0 (zc_L_le hI))) (fun r7 _ H locs hr7 hP hD hS => ?_)
          subst hr7
          have hP : va_P g.1 vwCl (zc_ws g o d3 N3) H := hP
          have hD : va_D A (zc_ws g o d3 N3) := hD
          refine lv_bipush (v := 45) hx hb dX3_readDecimal_128 (by decide) ?_
          refine lv_icmp_ne (tgt := 137) hx hb dX3_readDecimal_130 (by decide) (fun c_130 => ?_) (fun c_130 => ?_)
          · exact J_137 N3 d3 cells slots H locs ls (by rw [← hN3]; unfold zc_sgn; rw [if_neg (fun h9 => by rcases h9 with h9 | h9; exact c_118 h9; exact c_130 h9)]) hc hI hS hP hD (lv_sub hl [0, 1, 2] rfl)
          · refine lv_aload_n hx hb dX3_readDecimal_133 rfl (lv_at hl 0 rfl) ?_
            refine zc_callv C hP hD hS hc (zl_keepB) (zb_runV C hP hD hS [0, 1, 2, 3, 4, 5, 6, 7, 8, 9, 10, 11, 12, 13, 14, 15, 16] rfl (by decide) rfl (kX3_keepByte l g E o d3 N3  hI ) w_567 mX3_keepByte 3 rfl rfl rfl rfl hl.1 rfl (Nat.le_of_ble_eq_true rfl) dX3_readDecimal_134 ⟨Nat.le_of_ble_eq_true rfl, Nat.le_of_ble_eq_true rfl⟩ (hc.room (zc_L_le hI))) (fun N8 d8 H locs cells slots hN8 hc hP hD hS => ?_)
            have hI : zc_I N8 := by rw [hN8]; exact zi_keepB hI
            exact J_137 N8 d8 cells slots H locs ls (by rw [← hN3]; unfold zc_sgn; rw [if_pos (Or.inr c_130)]; exact hN8) hc hI hS hP hD (lv_sub hl [0, 1, 2] rfl)
      · refine lv_aload_n hx hb dX3_readDecimal_93 rfl (lv_at hl 0 rfl) ?_
        refine va_get (ci := 3) (v := .ref (o 6)) hx hb hts iX3 hown hK hP 3 rfl rfl 0 (by decide) (hts _ w_198) (fun _ h9 => h9) rfl dX3_readDecimal_94 ?_
        refine za_ci (wc := zc_ws g o d_X2 X2) (wr := []) C hP hD hS [0, 1, 2, 3, 4, 5, 6, 7, 8, 9, 10, 11, 12, 13, 14, 15, 16] [] rfl rfl (by decide) (by decide) (za_runV C hP hD hS [0, 1, 2, 3, 4, 5, 6, 7, 8, 9, 10, 11, 12, 13, 14, 15, 16] rfl (by decide) rfl (kX7_here l g E o d_X2 X2  hI ) w_549 mX7_here 6 rfl rfl rfl rfl hl.1 rfl (Nat.le_of_ble_eq_true rfl) dX3_readDecimal_97 ⟨Nat.le_of_ble_eq_true rfl, Nat.le_of_ble_eq_true rfl⟩ (hc.le0 (zc_L_le hI))) (fun r9 _ H locs hr9 hP hD hS => ?_)
        subst hr9
        have hP : va_P g.1 vwCl (zc_ws g o d_X2 X2) H := hP
        have hD : va_D A (zc_ws g o d_X2 X2) := hD
        refine lv_bipush (v := 69) hx hb dX3_readDecimal_100 (by decide) ?_
        refine lv_icmp_ne (tgt := 148) hx hb dX3_readDecimal_102 (by decide) (fun c_102 => ?_) (fun c_102 => ?_)
        · exact J_148 X2 d_X2 cells slots H locs ls (by exact ⟨by unfold zc_dec3; rw [if_neg (fun h9 => by rcases h9 with h9 | h9; exact c_90 h9; exact c_102 h9)], by unfold zk_dec3; rw [if_neg (fun h9 => by rcases h9 with h9 | h9; exact c_90 h9; exact c_102 h9)]; decide⟩) hc hI hS hP hD (lv_sub hl [0, 1, 2] rfl)
        · have h3e : zk_here X2 = 101 ∨ zk_here X2 = 69 := Or.inr c_102
          refine lv_aload_n hx hb dX3_readDecimal_105 rfl (lv_at hl 0 rfl) ?_
          refine zc_callv C hP hD hS hc (zl_keepB) (zb_runV C hP hD hS [0, 1, 2, 3, 4, 5, 6, 7, 8, 9, 10, 11, 12, 13, 14, 15, 16] rfl (by decide) rfl (kX3_keepByte l g E o d_X2 X2  hI ) w_567 mX3_keepByte 3 rfl rfl rfl rfl hl.1 rfl (Nat.le_of_ble_eq_true rfl) dX3_readDecimal_106 ⟨Nat.le_of_ble_eq_true rfl, Nat.le_of_ble_eq_true rfl⟩ (hc.room (zc_L_le hI))) (fun N10 d10 H locs cells slots hN10 hc hP hD hS => ?_)
          have hI : zc_I N10 := by rw [hN10]; exact zi_keepB hI
          have J_137 : ∀ (X4 : zc_N) (d_X4 : Nat → Nat) (cells slots : Nat) (H : Heap) (locs : List Loc) (ls : Array Slot), X4 = zc_sgn (zc_keepB X2) → zb_c N X4 cells slots → zc_I X4 → va_S A s.heap H locs → va_P g.1 vwCl (zc_ws g o d_X4 X4) H → va_D A (zc_ws g o d_X4 X4) → lv_has ls 3 [(0, .ref (o 3)), (1, .int (N.1 1)), (2, .int (X1.1 1 - N.1 1))] → W p l e (za_R 5 (zc_rc N) (zc_rs N)) s m args below meth co H locs cells slots Q (F0 m 137 ls []) := by
            intro X4 d_X4 cells slots H locs ls hX4 hc hI hS hP hD hl
            refine lv_aload_n hx hb dX3_readDecimal_137 rfl (lv_at hl 0 rfl) ?_
            refine lv_bipush (v := 10) hx hb dX3_readDecimal_138 (by decide) ?_
            refine zc_calli C hP hD hS hc (zl_digits _ _) (zb_runV C hP hD hS [0, 1, 2, 3, 4, 5, 6, 7, 8, 9, 10, 11, 12, 13, 14, 15, 16] rfl (by decide) rfl (kX3_readDigits l g E o d_X4 X4 10 hI ) w_558 mX3_readDigits 3 rfl rfl rfl rfl hl.1 rfl (Nat.le_of_ble_eq_true rfl) dX3_readDecimal_140 ⟨Nat.le_of_ble_eq_true rfl, Nat.le_of_ble_eq_true rfl⟩ (hc.room (zc_L_le hI))) (fun r11 N11 d11 H locs cells slots hr11 hN11 hc hP hD hS => ?_)
            have hI : zc_I N11 := by rw [hN11]; exact zi_digits _ _ hI
            refine lv_if_ne (tgt := 148) hx hb dX3_readDecimal_143 (by decide) (fun c_143 => ?_) (fun c_143 => ?_)
            · exact J_148 N11 d11 cells slots H locs ls (by exact ⟨by unfold zc_dec3; rw [if_pos h3e, ← hX4]; exact hN11, by unfold zk_dec3; rw [if_pos h3e, ← hX4, ← hr11]; exact c_143⟩) hc hI hS hP hD (lv_sub hl [0, 1, 2] rfl)
            · refine lv_iconst (v := (-1)) hx hb dX3_readDecimal_146 (by decide) ?_
              exact zc_rig hQ hx hb hr hlocks hK hP hD hS hc rfl (by unfold zk_dec; dsimp only; rw [← hX1, if_neg ho1, ← hX2, if_neg ho2, if_pos (by unfold zk_dec3; rw [if_pos h3e, ← hX4, ← hr11]; exact c_143)]) (by unfold zc_dec; dsimp only; rw [← hX1, if_neg ho1, ← hX2, if_neg ho2, if_pos (by unfold zk_dec3; rw [if_pos h3e, ← hX4, ← hr11]; exact c_143)]; unfold zc_dec3; rw [if_pos h3e, ← hX4]; exact hN11) dX3_readDecimal_147
          refine lv_aload_n hx hb dX3_readDecimal_109 rfl (lv_at hl 0 rfl) ?_
          refine va_get (ci := 3) (v := .ref (o 6)) hx hb hts iX3 hown hK hP 3 rfl rfl 0 (by decide) (hts _ w_198) (fun _ h9 => h9) rfl dX3_readDecimal_110 ?_
          refine za_ci (wc := zc_ws g o d10 N10) (wr := []) C hP hD hS [0, 1, 2, 3, 4, 5, 6, 7, 8, 9, 10, 11, 12, 13, 14, 15, 16] [] rfl rfl (by decide) (by decide) (za_runV C hP hD hS [0, 1, 2, 3, 4, 5, 6, 7, 8, 9, 10, 11, 12, 13, 14, 15, 16] rfl (by decide) rfl (kX7_here l g E o d10 N10  hI ) w_549 mX7_here 6 rfl rfl rfl rfl hl.1 rfl (Nat.le_of_ble_eq_true rfl) dX3_readDecimal_113 ⟨Nat.le_of_ble_eq_true rfl, Nat.le_of_ble_eq_true rfl⟩ (hc.le0 (zc_L_le hI))) (fun r12 _ H locs hr12 hP hD hS => ?_)
          subst hr12
          have hP : va_P g.1 vwCl (zc_ws g o d10 N10) H := hP
          have hD : va_D A (zc_ws g o d10 N10) := hD
          refine lv_bipush (v := 43) hx hb dX3_readDecimal_116 (by decide) ?_
          refine lv_icmp_eq (tgt := 133) hx hb dX3_readDecimal_118 (by decide) (fun c_118 => ?_) (fun c_118 => ?_)
          · refine lv_aload_n hx hb dX3_readDecimal_133 rfl (lv_at hl 0 rfl) ?_
            refine zc_callv C hP hD hS hc (zl_keepB) (zb_runV C hP hD hS [0, 1, 2, 3, 4, 5, 6, 7, 8, 9, 10, 11, 12, 13, 14, 15, 16] rfl (by decide) rfl (kX3_keepByte l g E o d10 N10  hI ) w_567 mX3_keepByte 3 rfl rfl rfl rfl hl.1 rfl (Nat.le_of_ble_eq_true rfl) dX3_readDecimal_134 ⟨Nat.le_of_ble_eq_true rfl, Nat.le_of_ble_eq_true rfl⟩ (hc.room (zc_L_le hI))) (fun N13 d13 H locs cells slots hN13 hc hP hD hS => ?_)
            have hI : zc_I N13 := by rw [hN13]; exact zi_keepB hI
            exact J_137 N13 d13 cells slots H locs ls (by rw [← hN10]; unfold zc_sgn; rw [if_pos (Or.inl c_118)]; exact hN13) hc hI hS hP hD (lv_sub hl [0, 1, 2] rfl)
          · refine lv_aload_n hx hb dX3_readDecimal_121 rfl (lv_at hl 0 rfl) ?_
            refine va_get (ci := 3) (v := .ref (o 6)) hx hb hts iX3 hown hK hP 3 rfl rfl 0 (by decide) (hts _ w_198) (fun _ h9 => h9) rfl dX3_readDecimal_122 ?_
            refine za_ci (wc := zc_ws g o d10 N10) (wr := []) C hP hD hS [0, 1, 2, 3, 4, 5, 6, 7, 8, 9, 10, 11, 12, 13, 14, 15, 16] [] rfl rfl (by decide) (by decide) (za_runV C hP hD hS [0, 1, 2, 3, 4, 5, 6, 7, 8, 9, 10, 11, 12, 13, 14, 15, 16] rfl (by decide) rfl (kX7_here l g E o d10 N10  hI ) w_549 mX7_here 6 rfl rfl rfl rfl hl.1 rfl (Nat.le_of_ble_eq_true rfl) dX3_readDecimal_125 ⟨Nat.le_of_ble_eq_true rfl, Nat.le_of_ble_eq_true rfl⟩ (hc.le0 (zc_L_le hI))) (fun r14 _ H locs hr14 hP hD hS => ?_)
            subst hr14
            have hP : va_P g.1 vwCl (zc_ws g o d10 N10) H := hP
            have hD : va_D A (zc_ws g o d10 N10) := hD
            refine lv_bipush (v := 45) hx hb dX3_readDecimal_128 (by decide) ?_
            refine lv_icmp_ne (tgt := 137) hx hb dX3_readDecimal_130 (by decide) (fun c_130 => ?_) (fun c_130 => ?_)
            · exact J_137 N10 d10 cells slots H locs ls (by rw [← hN10]; unfold zc_sgn; rw [if_neg (fun h9 => by rcases h9 with h9 | h9; exact c_118 h9; exact c_130 h9)]) hc hI hS hP hD (lv_sub hl [0, 1, 2] rfl)
            · refine lv_aload_n hx hb dX3_readDecimal_133 rfl (lv_at hl 0 rfl) ?_
              refine zc_callv C hP hD hS hc (zl_keepB) (zb_runV C hP hD hS [0, 1, 2, 3, 4, 5, 6, 7, 8, 9, 10, 11, 12, 13, 14, 15, 16] rfl (by decide) rfl (kX3_keepByte l g E o d10 N10  hI ) w_567 mX3_keepByte 3 rfl rfl rfl rfl hl.1 rfl (Nat.le_of_ble_eq_true rfl) dX3_readDecimal_134 ⟨Nat.le_of_ble_eq_true rfl, Nat.le_of_ble_eq_true rfl⟩ (hc.room (zc_L_le hI))) (fun N15 d15 H locs cells slots hN15 hc hP hD hS => ?_)
              have hI : zc_I N15 := by rw [hN15]; exact zi_keepB hI
              exact J_137 N15 d15 cells slots H locs ls (by rw [← hN10]; unfold zc_sgn; rw [if_pos (Or.inr c_130)]; exact hN15) hc hI hS hP hD (lv_sub hl [0, 1, 2] rfl)
    refine lv_aload_n hx hb dX3_readDecimal_41 rfl (lv_at hl 0 rfl) ?_
    refine va_get (ci := 3) (v := .ref (o 6)) hx hb hts iX3 hown hK hP 3 rfl rfl 0 (by decide) (hts _ w_198) (fun _ h9 => h9) rfl dX3_readDecimal_42 ?_
    refine za_ci (wc := zc_ws g o d_X1 X1) (wr := []) C hP hD hS [0, 1, 2, 3, 4, 5, 6, 7, 8, 9, 10, 11, 12, 13, 14, 15, 16] [] rfl rfl (by decide) (by decide) (za_runV C hP hD hS [0, 1, 2, 3, 4, 5, 6, 7, 8, 9, 10, 11, 12, 13, 14, 15, 16] rfl (by decide) rfl (kX7_here l g E o d_X1 X1  hI ) w_549 mX7_here 6 rfl rfl rfl rfl hl.1 rfl (Nat.le_of_ble_eq_true rfl) dX3_readDecimal_45 ⟨Nat.le_of_ble_eq_true rfl, Nat.le_of_ble_eq_true rfl⟩ (hc.le0 (zc_L_le hI))) (fun r16 _ H locs hr16 hP hD hS => ?_)
    subst hr16
    have hP : va_P g.1 vwCl (zc_ws g o d_X1 X1) H := hP
    have hD : va_D A (zc_ws g o d_X1 X1) := hD
    refine lv_bipush (v := 46) hx hb dX3_readDecimal_48 (by decide) ?_
    refine lv_icmp_ne (tgt := 81) hx hb dX3_readDecimal_50 (by decide) (fun c_50 => ?_) (fun c_50 => ?_)
    · exact J_81 X1 d_X1 cells slots H locs ls (by exact ⟨by unfold zc_dec2; rw [if_neg c_50], by unfold zk_dec2; rw [if_neg c_50]; decide⟩) hc hI hS hP hD (lv_sub hl [0, 1, 2] rfl)
    · refine lv_aload_n hx hb dX3_readDecimal_53 rfl (lv_at hl 0 rfl) ?_
      refine zc_callv C hP hD hS hc (zl_keepB) (zb_runV C hP hD hS [0, 1, 2, 3, 4, 5, 6, 7, 8, 9, 10, 11, 12, 13, 14, 15, 16] rfl (by decide) rfl (kX3_keepByte l g E o d_X1 X1  hI ) w_567 mX3_keepByte 3 rfl rfl rfl rfl hl.1 rfl (Nat.le_of_ble_eq_true rfl) dX3_readDecimal_54 ⟨Nat.le_of_ble_eq_true rfl, Nat.le_of_ble_eq_true rfl⟩ (hc.room (zc_L_le hI))) (fun N17 d17 H locs cells slots hN17 hc hP hD hS => ?_)
      have hI : zc_I N17 := by rw [hN17]; exact zi_keepB hI
      refine lv_aload_n hx hb dX3_readDecimal_57 rfl (lv_at hl 0 rfl) ?_
      refine va_get (ci := 3) (v := .ref (o 6)) hx hb hts iX3 hown hK hP 3 rfl rfl 0 (by decide) (hts _ w_198) (fun _ h9 => h9) rfl dX3_readDecimal_58 ?_
      refine za_ci (wc := zc_ws g o d17 N17) (wr := []) C hP hD hS [0, 1, 2, 3, 4, 5, 6, 7, 8, 9, 10, 11, 12, 13, 14, 15, 16] [] rfl rfl (by decide) (by decide) (za_runV C hP hD hS [0, 1, 2, 3, 4, 5, 6, 7, 8, 9, 10, 11, 12, 13, 14, 15, 16] rfl (by decide) rfl (kX7_here l g E o d17 N17  hI ) w_549 mX7_here 6 rfl rfl rfl rfl hl.1 rfl (Nat.le_of_ble_eq_true rfl) dX3_readDecimal_61 ⟨Nat.le_of_ble_eq_true rfl, Nat.le_of_ble_eq_true rfl⟩ (hc.le0 (zc_L_le hI))) (fun r18 _ H locs hr18 hP hD hS => ?_)
      subst hr18
      have hP : va_P g.1 vwCl (zc_ws g o d17 N17) H := hP
      have hD : va_D A (zc_ws g o d17 N17) := hD
      refine za_ci (wc := []) (wr := zc_ws g o d17 N17) C hP hD hS [] [0, 1, 2, 3, 4, 5, 6, 7, 8, 9, 10, 11, 12, 13, 14, 15, 16] rfl rfl (by decide) (by decide) (za_runSN C hP hD hS [] rfl (by decide) rfl (kX9_isDigit l g E (zk_here N17) ) zn_X3_60 mX9_isDigit rfl hl.1 rfl (Nat.le_of_ble_eq_true rfl) dX3_readDecimal_64 ⟨Nat.le_of_ble_eq_true rfl, Nat.le_of_ble_eq_true rfl⟩ (hc.le0 (zc_L_le hI))) (fun r19 _ H locs hr19 hP hD hS => ?_)
      subst hr19
      have hP : va_P g.1 vwCl (zc_ws g o d17 N17) H := hP
      have hD : va_D A (zc_ws g o d17 N17) := hD
      refine lv_if_eq (tgt := 81) hx hb dX3_readDecimal_67 (by decide) (fun c_67 => ?_) (fun c_67 => ?_)
      · exact J_81 N17 d17 cells slots H locs ls (by exact ⟨by unfold zc_dec2; rw [if_pos c_50, ← hN17, if_pos c_67], by unfold zk_dec2; rw [if_pos c_50, ← hN17, if_pos c_67]; decide⟩) hc hI hS hP hD (lv_sub hl [0, 1, 2] rfl)
      · refine lv_aload_n hx hb dX3_readDecimal_70 rfl (lv_at hl 0 rfl) ?_
        refine lv_bipush (v := 10) hx hb dX3_readDecimal_71 (by decide) ?_
        refine zc_calli C hP hD hS hc (zl_digits _ _) (zb_runV C hP hD hS [0, 1, 2, 3, 4, 5, 6, 7, 8, 9, 10, 11, 12, 13, 14, 15, 16] rfl (by decide) rfl (kX3_readDigits l g E o d17 N17 10 hI ) w_558 mX3_readDigits 3 rfl rfl rfl rfl hl.1 rfl (Nat.le_of_ble_eq_true rfl) dX3_readDecimal_73 ⟨Nat.le_of_ble_eq_true rfl, Nat.le_of_ble_eq_true rfl⟩ (hc.room (zc_L_le hI))) (fun r20 N20 d20 H locs cells slots hr20 hN20 hc hP hD hS => ?_)
        have hI : zc_I N20 := by rw [hN20]; exact zi_digits _ _ hI
        refine lv_if_ne (tgt := 81) hx hb dX3_readDecimal_76 (by decide) (fun c_76 => ?_) (fun c_76 => ?_)
        · exact J_81 N20 d20 cells slots H locs ls (by exact ⟨by unfold zc_dec2; rw [if_pos c_50, ← hN17, if_neg c_67]; exact hN20, by unfold zk_dec2; rw [if_pos c_50, ← hN17, if_neg c_67, ← hr20]; exact c_76⟩) hc hI hS hP hD (lv_sub hl [0, 1, 2] rfl)
        · refine lv_iconst (v := (-1)) hx hb dX3_readDecimal_79 (by decide) ?_
          exact zc_rig hQ hx hb hr hlocks hK hP hD hS hc rfl (by unfold zk_dec; dsimp only; rw [← hX1, if_neg ho1, if_pos (by unfold zk_dec2; rw [if_pos c_50, ← hN17, if_neg c_67, ← hr20]; exact c_76)]) (by unfold zc_dec; dsimp only; rw [← hX1, if_neg ho1, if_pos (by unfold zk_dec2; rw [if_pos c_50, ← hN17, if_neg c_67, ← hr20]; exact c_76)]; unfold zc_dec2; rw [if_pos c_50, ← hN17, if_neg c_67]; exact hN20) dX3_readDecimal_80
  refine lv_aload_n hx hb dX3_readDecimal_8 rfl (lv_at hl 1 rfl) ?_
  refine va_get (ci := 3) (v := .ref (o 6)) hx hb hts iX3 hown hK hP 3 rfl rfl 0 (by decide) (hts _ w_198) (fun _ h9 => h9) rfl dX3_readDecimal_9 ?_
  refine za_ci (wc := zc_ws g o d N) (wr := []) C hP hD hS [0, 1, 2, 3, 4, 5, 6, 7, 8, 9, 10, 11, 12, 13, 14, 15, 16] [] rfl rfl (by decide) (by decide) (za_runV C hP hD hS [0, 1, 2, 3, 4, 5, 6, 7, 8, 9, 10, 11, 12, 13, 14, 15, 16] rfl (by decide) rfl (kX7_here l g E o d N  hI ) w_549 mX7_here 6 rfl rfl rfl rfl hl.1 rfl (Nat.le_of_ble_eq_true rfl) dX3_readDecimal_12 ⟨Nat.le_of_ble_eq_true rfl, Nat.le_of_ble_eq_true rfl⟩ (hc.le0 (zc_L_le hI))) (fun r21 _ H locs hr21 hP hD hS => ?_)
  subst hr21
  have hP : va_P g.1 vwCl (zc_ws g o d N) H := hP
  have hD : va_D A (zc_ws g o d N) := hD
  refine lv_bipush (v := 46) hx hb dX3_readDecimal_15 (by decide) ?_
  refine lv_icmp_eq (tgt := 31) hx hb dX3_readDecimal_17 (by decide) (fun c_17 => ?_) (fun c_17 => ?_)
  · refine lv_aload_n hx hb dX3_readDecimal_31 rfl (lv_at hl 1 rfl) ?_
    refine va_get (ci := 3) (v := .ref (o 0)) hx hb hts iX3 hown hK hP 3 rfl rfl 1 (by decide) (hts _ w_199) (fun _ h9 => h9) rfl dX3_readDecimal_32 ?_
    refine va_get (ci := 0) (v := .int (N.1 1)) hx hb hts iX0 hown hK hP 0 rfl rfl 1 (by decide) (hts _ w_133) (fun _ h9 => h9) rfl dX3_readDecimal_35 ?_
    refine lv_iload_n hx hb dX3_readDecimal_38 rfl (lv_at hl 0 rfl) ?_
    refine lv_isub hx hb dX3_readDecimal_39 ?_
    refine lv_istore_n (lv' := [(2, .int ((N.1 1) - (N.1 1))), (1, .int (N.1 1)), (0, .ref (o 3))]) hx hb dX3_readDecimal_40 rfl hl (by decide) rfl (fun ls hl => ?_)
    exact J_41 N d cells slots H locs ls (by exact ⟨by unfold zc_dec1; rw [if_pos c_17], by unfold zk_dec1; rw [if_pos c_17]; decide⟩) hc hI hS hP hD (lv_sub hl [2, 1, 0] rfl)
  · refine lv_aload_n hx hb dX3_readDecimal_20 rfl (lv_at hl 1 rfl) ?_
    refine lv_bipush (v := 10) hx hb dX3_readDecimal_21 (by decide) ?_
    refine zc_calli C hP hD hS hc (zl_digits _ _) (zb_runV C hP hD hS [0, 1, 2, 3, 4, 5, 6, 7, 8, 9, 10, 11, 12, 13, 14, 15, 16] rfl (by decide) rfl (kX3_readDigits l g E o d N 10 hI ) w_558 mX3_readDigits 3 rfl rfl rfl rfl hl.1 rfl (Nat.le_of_ble_eq_true rfl) dX3_readDecimal_23 ⟨Nat.le_of_ble_eq_true rfl, Nat.le_of_ble_eq_true rfl⟩ (hc.room (zc_L_le hI))) (fun r22 N22 d22 H locs cells slots hr22 hN22 hc hP hD hS => ?_)
    have hI : zc_I N22 := by rw [hN22]; exact zi_digits _ _ hI
    refine lv_if_ne (tgt := 31) hx hb dX3_readDecimal_26 (by decide) (fun c_26 => ?_) (fun c_26 => ?_)
    · refine lv_aload_n hx hb dX3_readDecimal_31 rfl (lv_at hl 1 rfl) ?_
      refine va_get (ci := 3) (v := .ref (o 0)) hx hb hts iX3 hown hK hP 3 rfl rfl 1 (by decide) (hts _ w_199) (fun _ h9 => h9) rfl dX3_readDecimal_32 ?_
      refine va_get (ci := 0) (v := .int (N22.1 1)) hx hb hts iX0 hown hK hP 0 rfl rfl 1 (by decide) (hts _ w_133) (fun _ h9 => h9) rfl dX3_readDecimal_35 ?_
      refine lv_iload_n hx hb dX3_readDecimal_38 rfl (lv_at hl 0 rfl) ?_
      refine lv_isub hx hb dX3_readDecimal_39 ?_
      refine lv_istore_n (lv' := [(2, .int ((N22.1 1) - (N.1 1))), (1, .int (N.1 1)), (0, .ref (o 3))]) hx hb dX3_readDecimal_40 rfl hl (by decide) rfl (fun ls hl => ?_)
      exact J_41 N22 d22 cells slots H locs ls (by exact ⟨by unfold zc_dec1; rw [if_neg c_17]; exact hN22, by unfold zk_dec1; rw [if_neg c_17, ← hr22]; exact c_26⟩) hc hI hS hP hD (lv_sub hl [2, 1, 0] rfl)
    · refine lv_iconst (v := (-1)) hx hb dX3_readDecimal_29 (by decide) ?_
      exact zc_rig hQ hx hb hr hlocks hK hP hD hS hc rfl (by unfold zk_dec; dsimp only; rw [if_pos (by unfold zk_dec1; rw [if_neg c_17, ← hr22]; exact c_26)]) (by unfold zc_dec; dsimp only; rw [if_pos (by unfold zk_dec1; rw [if_neg c_17, ← hr22]; exact c_26)]; unfold zc_dec1; rw [if_neg c_17]; exact hN22) dX3_readDecimal_30
set_option maxHeartbeats 4000000 in
set_option maxRecDepth 100000 in
theorem kX3_readNumber (l : Launch) (g : za_G) (E : za_E) (o d : Nat → Nat) (N : zc_N)  (hI : zc_I N) : zb_Ci l g E yX3_readNumber cX3_readNumber 3 ((some .int)) 6 (zc_rc N) (zc_rs N) (zc_L (zc_readNumber N) - zc_L N) (2 * (zc_L (zc_readNumber N) - zc_L N)) [.ref (o 3)] (zc_ws g o d N) (fun r (u : zc_N × (Nat → Nat)) => r = zk_readNumber N ∧ u.1 = zc_readNumber N) (fun u => zc_ws g o u.2 u.1) := by
  refine zb_begin (by decide) (Nat.le_of_ble_eq_true rfl) RX3 rfl ?_
  intro p e s m args below meth co A ls Q H locs C hQ hr hlocks hnm hS hP hD hl
  obtain ⟨hx, hb, hml, hown, hts, hK, hA, hE⟩ := id C
  have hl : lv_has ls 3 [(0, .ref (o 3))] := hl
  have hc : zb_c N N 0 0 := zb_c.rf
  revert hc
  refine (fun (z9 : ∀ cells slots : Nat, zb_c N N cells slots → W p l e (za_R 6 (zc_rc N) (zc_rs N)) s m args below meth co H locs cells slots Q (F0 m 0 ls [])) hc => z9 0 0 hc) (fun cells slots hc => ?_)
  have J_26 : ∀ (v9 : Int32) (H : Heap) (locs : List Loc), va_P g.1 vwCl (zc_ws g o d N) H → va_S A s.heap H locs → v9 = (zk_base0 N) → W p l e (za_R 6 (zc_rc N) (zc_rs N)) s m args below meth co H locs cells slots Q (F0 m 26 ls (.int v9 :: [])) := by
    intro v_26 H locs hP hS hv_26
    refine lv_istore_n (lv' := [(1, .int v_26), (0, .ref (o 3))]) hx hb dX3_readNumber_26 rfl hl (by decide) rfl (fun ls hl => ?_)
    have J_44 : ∀ (X1 : zc_N) (a9 : Int32) (d_X1 : Nat → Nat) (cells slots : Nat) (H : Heap) (locs : List Loc) (ls : Array Slot), X1 = zc_num0 N → a9 = (zk_num0 N) → zb_c N X1 cells slots → zc_I X1 → va_S A s.heap H locs → va_P g.1 vwCl (zc_ws g o d_X1 X1) H → va_D A (zc_ws g o d_X1 X1) → lv_has ls 3 [(0, .ref (o 3)), (1, .int v_26)] → W p l e (za_R 6 (zc_rc N) (zc_rs N)) s m args below meth co H locs cells slots Q (F0 m 44 ls [.int a9]) := by
      intro X1 a9 d_X1 cells slots H locs ls hX1 ha9 hc hI hS hP hD hl
      refine lv_istore_n (lv' := [(2, .int a9), (0, .ref (o 3)), (1, .int v_26)]) hx hb dX3_readNumber_44 rfl hl (by decide) rfl (fun ls hl => ?_)
      refine lv_iload_n hx hb dX3_readNumber_45 rfl (lv_at hl 0 rfl) ?_
      refine lv_iconst (v := (-1)) hx hb dX3_readNumber_46 (by decide) ?_
      refine lv_icmp_eq (tgt := 73) hx hb dX3_readNumber_47 (by decide) (fun c_47 => ?_) (fun c_47 => ?_)
      · refine lv_iload_n hx hb dX3_readNumber_73 rfl (lv_at hl 0 rfl) ?_
        exact zc_rig hQ hx hb hr hlocks hK hP hD hS hc rfl (by unfold zk_readNumber; rw [← ha9, ← hX1, if_neg (fun h9 => h9.1 c_47)]) (by unfold zc_readNumber; rw [← ha9, ← hX1, if_neg (fun h9 => h9.1 c_47)]) dX3_readNumber_74
      · refine lv_aload_n hx hb dX3_readNumber_50 rfl (lv_at hl 1 rfl) ?_
        refine va_get (ci := 3) (v := .ref (o 6)) hx hb hts iX3 hown hK hP 3 rfl rfl 0 (by decide) (hts _ w_198) (fun _ h9 => h9) rfl dX3_readNumber_51 ?_
        refine za_ci (wc := zc_ws g o d_X1 X1) (wr := []) C hP hD hS [0, 1, 2, 3, 4, 5, 6, 7, 8, 9, 10, 11, 12, 13, 14, 15, 16] [] rfl rfl (by decide) (by decide) (za_runV C hP hD hS [0, 1, 2, 3, 4, 5, 6, 7, 8, 9, 10, 11, 12, 13, 14, 15, 16] rfl (by decide) rfl (kX7_here l g E o d_X1 X1  hI ) w_549 mX7_here 6 rfl rfl rfl rfl hl.1 rfl (Nat.le_of_ble_eq_true rfl) dX3_readNumber_54 ⟨Nat.le_of_ble_eq_true rfl, Nat.le_of_ble_eq_true rfl⟩ (hc.le0 (zc_L_le hI))) (fun r1 _ H locs hr1 hP hD hS => ?_)
        subst hr1
        have hP : va_P g.1 vwCl (zc_ws g o d_X1 X1) H := hP
        have hD : va_D A (zc_ws g o d_X1 X1) := hD
        refine za_ci (wc := []) (wr := zc_ws g o d_X1 X1) C hP hD hS [] [0, 1, 2, 3, 4, 5, 6, 7, 8, 9, 10, 11, 12, 13, 14, 15, 16] rfl rfl (by decide) (by decide) (za_runSN C hP hD hS [] rfl (by decide) rfl (kX9_isNamePart l g E (zk_here X1) ) zn_X3_38 mX9_isNamePart rfl hl.1 rfl (Nat.le_of_ble_eq_true rfl) dX3_readNumber_57 ⟨Nat.le_of_ble_eq_true rfl, Nat.le_of_ble_eq_true rfl⟩ (hc.le0 (zc_L_le hI))) (fun r2 _ H locs hr2 hP hD hS => ?_)
        subst hr2
        have hP : va_P g.1 vwCl (zc_ws g o d_X1 X1) H := hP
        have hD : va_D A (zc_ws g o d_X1 X1) := hD
        refine lv_if_eq (tgt := 73) hx hb dX3_readNumber_60 (by decide) (fun c_60 => ?_) (fun c_60 => ?_)
        · refine lv_iload_n hx hb dX3_readNumber_73 rfl (lv_at hl 0 rfl) ?_
          exact zc_rig hQ hx hb hr hlocks hK hP hD hS hc rfl (by unfold zk_readNumber; rw [← ha9, ← hX1, if_neg (fun h9 => h9.2 c_60)]) (by unfold zc_readNumber; rw [← ha9, ← hX1, if_neg (fun h9 => h9.2 c_60)]) dX3_readNumber_74
        · refine lv_aload_n hx hb dX3_readNumber_63 rfl (lv_at hl 1 rfl) ?_
          refine va_get (ci := 3) (v := .ref (o 6)) hx hb hts iX3 hown hK hP 3 rfl rfl 0 (by decide) (hts _ w_198) (fun _ h9 => h9) rfl dX3_readNumber_64 ?_
          refine za_ci (wc := zc_ws g o d_X1 X1) (wr := []) C hP hD hS [0, 1, 2, 3, 4, 5, 6, 7, 8, 9, 10, 11, 12, 13, 14, 15, 16] [] rfl rfl (by decide) (by decide) (za_runV C hP hD hS [0, 1, 2, 3, 4, 5, 6, 7, 8, 9, 10, 11, 12, 13, 14, 15, 16] rfl (by decide) rfl (kX7_refuse l g E o d_X1 X1  hI ) w_566 mX7_refuse 6 rfl rfl rfl rfl hl.1 rfl (Nat.le_of_ble_eq_true rfl) dX3_readNumber_67 ⟨Nat.le_of_ble_eq_true rfl, Nat.le_of_ble_eq_true rfl⟩ (hc.le0 (zc_L_le hI))) (fun r3 N3 H locs hN3 hP hD hS => ?_)
          obtain ⟨hr3, hN3⟩ := hN3
          have hI : zc_I N3 := by rw [hN3]; exact zi_refuse hI
          have hc : zb_c N N3 cells slots := by rw [hN3]; exact hc.eq zL_refuse
          have hP : va_P g.1 vwCl (zc_ws g o d_X1 N3) H := hP
          have hD : va_D A (zc_ws g o d_X1 N3) := hD
          refine lv_goto (tgt := 74) hx hb dX3_readNumber_70 (by decide) ?_
          exact zc_rig hQ hx hb hr hlocks hK hP hD hS hc rfl (by unfold zk_readNumber; rw [← ha9, ← hX1, if_pos ⟨c_47, c_60⟩]; exact hr3) (by unfold zc_readNumber; rw [← ha9, ← hX1, if_pos ⟨c_47, c_60⟩]; exact hN3) dX3_readNumber_74
    refine lv_iload_n hx hb dX3_readNumber_27 rfl (lv_at hl 0 rfl) ?_
    refine lv_iconst (v := (-1)) hx hb dX3_readNumber_28 (by decide) ?_
    refine lv_icmp_ne (tgt := 39) hx hb dX3_readNumber_29 (by decide) (fun c_29 => ?_) (fun c_29 => ?_)
    · refine lv_aload_n hx hb dX3_readNumber_39 rfl (lv_at hl 1 rfl) ?_
      refine lv_iload_n hx hb dX3_readNumber_40 rfl (lv_at hl 0 rfl) ?_
      refine zc_calli C hP hD hS hc (zl_withL _) (zb_runV C hP hD hS [0, 1, 2, 3, 4, 5, 6, 7, 8, 9, 10, 11, 12, 13, 14, 15, 16] rfl (by decide) rfl (kX3_readWithLetter l g E o d N v_26 hI ) w_579 mX3_readWithLetter 3 rfl rfl rfl rfl hl.1 rfl (Nat.le_of_ble_eq_true rfl) dX3_readNumber_41 ⟨Nat.le_of_ble_eq_true rfl, Nat.le_of_ble_eq_true rfl⟩ (hc.room (zc_L_le hI))) (fun r4 N4 d4 H locs cells slots hr4 hN4 hc hP hD hS => ?_)
      have hI : zc_I N4 := by rw [hN4]; exact zi_withL hI _
      exact J_44 N4 r4 d4 cells slots H locs ls (by unfold zc_num0; rw [← hv_26, if_neg c_29]; exact hN4) (by unfold zk_num0; rw [← hv_26, if_neg c_29]; exact hr4) hc hI hS hP hD (lv_sub hl [1, 0] rfl)
    · refine lv_aload_n hx hb dX3_readNumber_32 rfl (lv_at hl 1 rfl) ?_
      refine zc_calli C hP hD hS hc (zl_dec) (zb_runV C hP hD hS [0, 1, 2, 3, 4, 5, 6, 7, 8, 9, 10, 11, 12, 13, 14, 15, 16] rfl (by decide) rfl (kX3_readDecimal l g E o d N  hI ) w_554 mX3_readDecimal 3 rfl rfl rfl rfl hl.1 rfl (Nat.le_of_ble_eq_true rfl) dX3_readNumber_33 ⟨Nat.le_of_ble_eq_true rfl, Nat.le_of_ble_eq_true rfl⟩ (hc.room (zc_L_le hI))) (fun r5 N5 d5 H locs cells slots hr5 hN5 hc hP hD hS => ?_)
      have hI : zc_I N5 := by rw [hN5]; exact zi_dec hI
      refine lv_goto (tgt := 44) hx hb dX3_readNumber_36 (by decide) ?_
      exact J_44 N5 r5 d5 cells slots H locs ls (by unfold zc_num0; rw [← hv_26, if_pos c_29]; exact hN5) (by unfold zk_num0; rw [← hv_26, if_pos c_29]; exact hr5) hc hI hS hP hD (lv_sub hl [1, 0] rfl)
  refine lv_aload_n hx hb dX3_readNumber_0 rfl (lv_at hl 0 rfl) ?_
  refine va_get (ci := 3) (v := .ref (o 6)) hx hb hts iX3 hown hK hP 3 rfl rfl 0 (by decide) (hts _ w_198) (fun _ h9 => h9) rfl dX3_readNumber_1 ?_
  refine za_ci (wc := zc_ws g o d N) (wr := []) C hP hD hS [0, 1, 2, 3, 4, 5, 6, 7, 8, 9, 10, 11, 12, 13, 14, 15, 16] [] rfl rfl (by decide) (by decide) (za_runV C hP hD hS [0, 1, 2, 3, 4, 5, 6, 7, 8, 9, 10, 11, 12, 13, 14, 15, 16] rfl (by decide) rfl (kX7_here l g E o d N  hI ) w_549 mX7_here 6 rfl rfl rfl rfl hl.1 rfl (Nat.le_of_ble_eq_true rfl) dX3_readNumber_4 ⟨Nat.le_of_ble_eq_true rfl, Nat.le_of_ble_eq_true rfl⟩ (hc.le0 (zc_L_le hI))) (fun r6 _ H locs hr6 hP hD hS => ?_)
  subst hr6
  have hP : va_P g.1 vwCl (zc_ws g o d N) H := hP
  have hD : va_D A (zc_ws g o d N) := hD
  refine lv_bipush (v := 48) hx hb dX3_readNumber_7 (by decide) ?_
  refine lv_icmp_ne (tgt := 25) hx hb dX3_readNumber_9 (by decide) (fun c_9 => ?_) (fun c_9 => ?_)
  · refine lv_iconst (v := (-1)) hx hb dX3_readNumber_25 (by decide) ?_
    exact J_26 (-1) H locs hP hS (by simp [zk_base0, c_9])
  · refine lv_aload_n hx hb dX3_readNumber_12 rfl (lv_at hl 0 rfl) ?_
    refine va_get (ci := 3) (v := .ref (o 6)) hx hb hts iX3 hown hK hP 3 rfl rfl 0 (by decide) (hts _ w_198) (fun _ h9 => h9) rfl dX3_readNumber_13 ?_
    refine za_ci (wc := zc_ws g o d N) (wr := []) C hP hD hS [0, 1, 2, 3, 4, 5, 6, 7, 8, 9, 10, 11, 12, 13, 14, 15, 16] [] rfl rfl (by decide) (by decide) (za_runV C hP hD hS [0, 1, 2, 3, 4, 5, 6, 7, 8, 9, 10, 11, 12, 13, 14, 15, 16] rfl (by decide) rfl (kX7_next l g E o d N  hI ) w_550 mX7_next 6 rfl rfl rfl rfl hl.1 rfl (Nat.le_of_ble_eq_true rfl) dX3_readNumber_16 ⟨Nat.le_of_ble_eq_true rfl, Nat.le_of_ble_eq_true rfl⟩ (hc.le0 (zc_L_le hI))) (fun r7 _ H locs hr7 hP hD hS => ?_)
    subst hr7
    have hP : va_P g.1 vwCl (zc_ws g o d N) H := hP
    have hD : va_D A (zc_ws g o d N) := hD
    refine za_ci (wc := []) (wr := zc_ws g o d N) C hP hD hS [] [0, 1, 2, 3, 4, 5, 6, 7, 8, 9, 10, 11, 12, 13, 14, 15, 16] rfl rfl (by decide) (by decide) (za_runS C hP hD hS [] rfl (by decide) rfl (kX3_baseOfLetter l g E (zk_next N) ) w_551 mX3_baseOfLetter rfl hl.1 rfl (Nat.le_of_ble_eq_true rfl) dX3_readNumber_19 ⟨Nat.le_of_ble_eq_true rfl, Nat.le_of_ble_eq_true rfl⟩ (hc.le0 (zc_L_le hI))) (fun r8 _ H locs hr8 hP hD hS => ?_)
    subst hr8
    have hP : va_P g.1 vwCl (zc_ws g o d N) H := hP
    have hD : va_D A (zc_ws g o d N) := hD
    refine lv_goto (tgt := 26) hx hb dX3_readNumber_22 (by decide) ?_
    exact J_26 (zk_baseL (zk_next N)) H locs hP hS (by simp [zk_base0, eq_true c_9])
