def uN (x : Int64) : Nat := x.toUInt64.toNat
theorem uN_lt (x : Int64) : uN x < 18446744073709551616 := x.toUInt64.toNat_lt
theorem uN_inj {x y : Int64} (h : uN x = uN y) : x = y := congrArg UInt64.toInt64 (UInt64.toNat_inj.mp h)
theorem uN_add (x y : Int64) : uN (x + y) = (uN x + uN y) % 18446744073709551616 := by
  show (x.toUInt64 + y.toUInt64).toNat = _
  exact UInt64.toNat_add _ _
theorem uN_mul (x y : Int64) : uN (x * y) = (uN x * uN y) % 18446744073709551616 := by
  show (x.toUInt64 * y.toUInt64).toNat = _
  exact UInt64.toNat_mul _ _
theorem uN_shl (x : Int64) : uN (x <<< ((1 : Int32).toInt64 &&& 63)) = (2 * uN x) % 18446744073709551616 := by
  have h : (((1 : Int32).toInt64 &&& 63).toBitVec.smod 64).toNat = 1 := by decide
  show (x.toBitVec <<< (((1 : Int32).toInt64 &&& 63).toBitVec.smod 64).toNat).toNat = _
  rw [h, BitVec.toNat_shiftLeft, Nat.shiftLeft_eq, Nat.mul_comm]
  rfl
theorem uN_shr (x : Int64) (s : UInt64) : uN (x.toUInt64 >>> s).toInt64 = uN x / 2 ^ (s.toNat % 64) := by
  show (x.toUInt64 >>> s).toNat = _
  rw [UInt64.toNat_shiftRight, Nat.shiftRight_eq_div_pow]
  rfl
theorem uN_s32 (x : Int64) : uN (x.toUInt64 >>> ((32 : Int32).toInt64.toUInt64 &&& Int64.toUInt64 63)).toInt64 = uN x / 4294967296 := by
  have h : ((32 : Int32).toInt64.toUInt64 &&& Int64.toUInt64 63).toNat % 64 = 32 := by decide
  rw [uN_shr, h]
theorem uN_s63 (x : Int64) : uN (x.toUInt64 >>> ((63 : Int32).toInt64.toUInt64 &&& Int64.toUInt64 63)).toInt64 = uN x / 9223372036854775808 := by
  have h : ((63 : Int32).toInt64.toUInt64 &&& Int64.toUInt64 63).toNat % 64 = 63 := by decide
  rw [uN_shr, h]
theorem uN_lo (x : Int64) : uN (x &&& 4294967295) = uN x % 4294967296 := by
  show (x.toUInt64 &&& Int64.toUInt64 4294967295).toNat = _
  rw [UInt64.toNat_and]
  exact Nat.and_two_pow_sub_one_eq_mod _ 32
theorem uN_bit (x : Int64) : (x &&& 1) = 0 ↔ uN x % 2 = 0 := by
  have h : uN (x &&& 1) = uN x % 2 := by
    show (x.toUInt64 &&& Int64.toUInt64 1).toNat = _
    rw [UInt64.toNat_and]
    exact Nat.and_two_pow_sub_one_eq_mod _ 1
  rw [← h]
  exact ⟨fun z => by rw [z]; rfl, fun z => uN_inj (z.trans rfl)⟩
theorem uN_or {x y : Int64} (hy : uN y < 2) : uN ((x <<< ((1 : Int32).toInt64 &&& 63)) ||| y) = (2 * uN x) % 18446744073709551616 + uN y := by
  have h1 : uN ((x <<< ((1 : Int32).toInt64 &&& 63)) ||| y) = uN (x <<< ((1 : Int32).toInt64 &&& 63)) ||| uN y := UInt64.toNat_or _ _
  have h2 : (2 * uN x) % 18446744073709551616 = 2 ^ 1 * (uN x % 9223372036854775808) := by omega
  rw [h1, uN_shl, h2]
  exact (Nat.two_pow_add_eq_or_of_lt (i := 1) hy _).symm
theorem nat_xor {a : Nat} (h : a < 18446744073709551616) : a ^^^ 2 ^ 63 = (a + 9223372036854775808) % 18446744073709551616 := by
  have h1 : (a ^^^ 2 ^ 63) % 2 ^ 63 = a % 2 ^ 63 := by rw [Nat.xor_mod_two_pow, Nat.mod_self, Nat.xor_zero]
  have h2 : (a ^^^ 2 ^ 63) / 2 ^ 63 = (a / 2 ^ 63) ^^^ 1 := by rw [Nat.xor_div_two_pow, Nat.div_self (Nat.two_pow_pos 63)]
  have h3 : a / 2 ^ 63 = 0 ∨ a / 2 ^ 63 = 1 := by omega
  generalize a ^^^ 2 ^ 63 = t at h1 h2
  rcases h3 with h3 | h3
  · rw [h3] at h2
    have h2 : t / 2 ^ 63 = 1 := h2
    omega
  · rw [h3] at h2
    have h2 : t / 2 ^ 63 = 0 := h2
    omega
theorem uN_xor (x : Int64) : uN (x ^^^ (-9223372036854775808)) = (uN x + 9223372036854775808) % 18446744073709551616 := by
  rw [← nat_xor (uN_lt x)]
  exact UInt64.toNat_xor _ _
theorem uN_int (x : Int64) : x.toInt = if 2 * uN x < 18446744073709551616 then (uN x : Int) else (uN x : Int) - 18446744073709551616 := BitVec.toInt_eq_toNat_cond _
theorem uN_le (x y : Int64) : (x ^^^ (-9223372036854775808)) ≤ (y ^^^ (-9223372036854775808)) ↔ uN x ≤ uN y := by
  have hx := uN_lt x
  have hy := uN_lt y
  rw [Int64.le_iff_toInt_le, uN_int, uN_int, uN_xor, uN_xor]
  omega
theorem uN_sk (x : Int64) {k : Nat} (hk : k < 64) : uN (x.toUInt64 >>> ((nI k).toInt64.toUInt64 &&& Int64.toUInt64 63)).toInt64 = uN x / 2 ^ k := by
  have h : ((nI k).toInt64.toUInt64 &&& Int64.toUInt64 63).toNat % 64 = k := by
    rw [nI_l (by omega), UInt64.toNat_and]
    have e : (lN k).toUInt64.toNat = k % 2 ^ 64 := rfl
    have e2 : (Int64.toUInt64 63).toNat = 2 ^ 6 - 1 := by decide
    rw [e, e2, Nat.and_two_pow_sub_one_eq_mod]
    omega
  rw [uN_shr, h]
/-! The limbs as one number. -/
/-- m limbs from i on -/
def zl_seg (f : Nat → Int64) : Nat → Nat → Nat
  | _, 0 => 0
  | i, m + 1 => uN (f i) * 2 ^ (32 * i) + zl_seg f (i + 1) m
theorem zl_seg_eq {f g : Nat → Int64} : ∀ (m i : Nat), (∀ j : Nat, i ≤ j → j < i + m → f j = g j) → zl_seg f i m = zl_seg g i m := by
  intro m
  induction m with
  | zero => intro i h; rfl
  | succ m ih =>
    intro i h
    unfold zl_seg
    rw [h i (Nat.le_refl _) (by omega), ih (i + 1) (fun j h1 h2 => h j (by omega) (by omega))]
theorem zl_seg_add (f : Nat → Int64) : ∀ (m i k : Nat), zl_seg f i (m + k) = zl_seg f i m + zl_seg f (i + m) k := by
  intro m
  induction m with
  | zero => intro i k; rw [Nat.zero_add]; show _ = 0 + _; rw [Nat.zero_add]; rfl
  | succ m ih =>
    intro i k
    rw [show m + 1 + k = (m + k) + 1 by omega]
    show uN (f i) * 2 ^ (32 * i) + zl_seg f (i + 1) (m + k) = uN (f i) * 2 ^ (32 * i) + zl_seg f (i + 1) m + zl_seg f (i + (m + 1)) k
    rw [ih (i + 1) k, show i + 1 + m = i + (m + 1) by omega, Nat.add_assoc]
theorem z_p32 (i : Nat) : 2 ^ (32 * (i + 1)) = 4294967296 * 2 ^ (32 * i) := by
  rw [show 32 * (i + 1) = 32 + 32 * i by omega, Nat.pow_add]
theorem zl_seg_lt {f : Nat → Int64} : ∀ (m i : Nat), (∀ j : Nat, i ≤ j → j < i + m → uN (f j) < 4294967296) → zl_seg f i m + 2 ^ (32 * i) ≤ 2 ^ (32 * (i + m)) := by
  intro m
  induction m with
  | zero => intro i h; show 0 + _ ≤ _; rw [Nat.zero_add]; exact Nat.le_refl _
  | succ m ih =>
    intro i h
    have h1 := h i (Nat.le_refl _) (by omega)
    have h2 := ih (i + 1) (fun j g1 g2 => h j (by omega) (by omega))
    show uN (f i) * 2 ^ (32 * i) + zl_seg f (i + 1) m + 2 ^ (32 * i) ≤ 2 ^ (32 * (i + (m + 1)))
    rw [show i + (m + 1) = i + 1 + m by omega]
    refine Nat.le_trans ?_ h2
    rw [z_p32]
    have h3 : (uN (f i) + 1) * 2 ^ (32 * i) ≤ 4294967296 * 2 ^ (32 * i) := Nat.mul_le_mul_right _ h1
    rw [Nat.add_mul, Nat.one_mul] at h3
    omega
theorem uN_lN {n : Nat} (h : n < 2 ^ 63) : uN (lN n) = n := by
  have e : uN (lN n) = n % 2 ^ 64 := rfl
  rw [e]
  omega
theorem z_cc {N : zc_N} {β i : Nat} {c : Int64} (hi : i < 2 ^ 31) (hβ : β ≤ 16) (hc : uN c < 4294967296) (hf : uN (N.2.2.1 i) < 4294967296) : uN (zk_cc N (nI β) i c) = uN c + uN (N.2.2.1 i) * β := by
  unfold zk_cc
  rw [nI_clamp hi, nI_l (by omega), uN_add, uN_mul, uN_lN (by omega)]
  have h1 : uN (N.2.2.1 i) * β ≤ 4294967295 * 16 := Nat.mul_le_mul (by omega) hβ
  omega
theorem zl_mul {β : Nat} (hβ : β ≤ 16) : ∀ (m i : Nat) (N : zc_N) (c : Int64), i + m ≤ 16 → uN c < 4294967296 → (∀ j : Nat, i ≤ j → j < i + m → uN (N.2.2.1 j) < 4294967296) →
    (∀ j : Nat, j < i ∨ i + m ≤ j → (zc_lim (nI β) m i N c).2.2.1 j = N.2.2.1 j) ∧ (∀ j : Nat, i ≤ j → j < i + m → uN ((zc_lim (nI β) m i N c).2.2.1 j) < 4294967296) ∧ uN (zk_car (nI β) m i N c) < 4294967296 ∧
    zl_seg (zc_lim (nI β) m i N c).2.2.1 i m + uN (zk_car (nI β) m i N c) * 2 ^ (32 * (i + m)) = β * zl_seg N.2.2.1 i m + uN c * 2 ^ (32 * i) := by
  intro m
  induction m with
  | zero =>
    intro i N c _ hc _
    refine ⟨fun j _ => rfl, fun j h1 h2 => absurd h2 (by omega), hc, ?_⟩
    show 0 + uN c * 2 ^ (32 * (i + 0)) = β * 0 + uN c * 2 ^ (32 * i)
    rw [Nat.add_zero, Nat.mul_zero]
  | succ m ih =>
    intro i N c him hc hf
    have hfi := hf i (Nat.le_refl _) (by omega)
    have hcc := z_cc (N := N) (i := i) (by omega) hβ hc hfi
    have hb : uN (N.2.2.1 i) * β ≤ 4294967295 * 16 := Nat.mul_le_mul (by omega) hβ
    have hlo : uN (zk_cc N (nI β) i c &&& 4294967295) = (uN c + uN (N.2.2.1 i) * β) % 4294967296 := by rw [uN_lo, hcc]
    have hhi : uN (zk_shr (zk_cc N (nI β) i c) 32) = (uN c + uN (N.2.2.1 i) * β) / 4294967296 := by
      unfold zk_shr
      rw [uN_s32, hcc]
    have hic : (nI i).toNatClampNeg = i := nI_clamp (by omega)
    have hX : ∀ j : Nat, (zc_l N (nI i) (zk_cc N (nI β) i c &&& 4294967295)).2.2.1 j = if j = i then (zk_cc N (nI β) i c &&& 4294967295) else N.2.2.1 j := by
      intro j
      show (if j = (nI i).toNatClampNeg then _ else _) = _
      rw [hic]
    obtain ⟨g1, g2, g3, g4⟩ := ih (i + 1) (zc_l N (nI i) (zk_cc N (nI β) i c &&& 4294967295)) (zk_shr (zk_cc N (nI β) i c) 32) (by omega) (by rw [hhi]; omega) (fun j h1 h2 => by rw [hX, if_neg (by omega)]; exact hf j (by omega) (by omega))
    rw [zc_lim_s rfl, zk_car_s rfl]
    have gi : (zc_lim (nI β) m (i + 1) (zc_l N (nI i) (zk_cc N (nI β) i c &&& 4294967295)) (zk_shr (zk_cc N (nI β) i c) 32)).2.2.1 i = zk_cc N (nI β) i c &&& 4294967295 := by
      rw [g1 i (Or.inl (by omega)), hX, if_pos rfl]
    refine ⟨fun j hj => ?_, fun j h1 h2 => ?_, g3, ?_⟩
    · rw [g1 j (by omega), hX, if_neg (by omega)]
    · rcases Nat.lt_or_ge i j with q | q
      · exact g2 j (by omega) (by omega)
      · rw [show j = i by omega, gi, hlo]
        omega
    · have hs : zl_seg (zc_l N (nI i) (zk_cc N (nI β) i c &&& 4294967295)).2.2.1 (i + 1) m = zl_seg N.2.2.1 (i + 1) m := zl_seg_eq m (i + 1) (fun j h1 h2 => by rw [hX, if_neg (by omega)])
      rw [hs, hhi] at g4
      show uN ((zc_lim (nI β) m (i + 1) _ _).2.2.1 i) * 2 ^ (32 * i) + zl_seg (zc_lim (nI β) m (i + 1) _ _).2.2.1 (i + 1) m + _ * 2 ^ (32 * (i + (m + 1))) = β * (uN (N.2.2.1 i) * 2 ^ (32 * i) + zl_seg N.2.2.1 (i + 1) m) + uN c * 2 ^ (32 * i)
      rw [gi, hlo, show i + (m + 1) = i + 1 + m by omega, Nat.add_assoc, g4, z_p32]
      have e := Nat.div_add_mod (uN c + uN (N.2.2.1 i) * β) 4294967296
      generalize (uN c + uN (N.2.2.1 i) * β) / 4294967296 = hi at e ⊢
      generalize (uN c + uN (N.2.2.1 i) * β) % 4294967296 = lo at e ⊢
      generalize 2 ^ (32 * i) = T
      generalize zl_seg N.2.2.1 (i + 1) m = Z
      have e2 : (4294967296 * hi + lo) * T = (uN c + uN (N.2.2.1 i) * β) * T := by rw [e]
      rw [Nat.add_mul, Nat.add_mul] at e2
      rw [Nat.mul_add β, ← Nat.mul_assoc β, Nat.mul_comm β (uN (N.2.2.1 i)), ← Nat.mul_assoc hi, Nat.mul_comm hi 4294967296]
      omega
