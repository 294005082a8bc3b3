/-! Digits of one number, as the reference reads them. -/
theorem zv_snoc {x : Nat → Nat} {β : Nat} : ∀ (m i v : Nat), zv_fold x β (m + 1) i v = β * zv_fold x β m i v + x (i + m) := by
  intro m
  induction m with
  | zero => intro i v; rfl
  | succ m ih =>
    intro i v
    show zv_fold x β (m + 1) (i + 1) (β * v + x i) = β * zv_fold x β m (i + 1) (β * v + x i) + x (i + (m + 1))
    rw [ih (i + 1), show i + 1 + m = i + (m + 1) by omega]
theorem zv_lt {x : Nat → Nat} {β : Nat} : ∀ (m i : Nat), (∀ j : Nat, i ≤ j → j < i + m → x j < β) → zv_fold x β m i 0 < β ^ m := by
  intro m
  induction m with
  | zero => intro i _; show 0 < 1; decide
  | succ m ih =>
    intro i h
    rw [zv_snoc, Nat.pow_succ]
    have h1 := ih i (fun j a b => h j a (by omega))
    have h2 := h (i + m) (by omega) (by omega)
    have h3 : β * (zv_fold x β m i 0 + 1) ≤ β * β ^ m := Nat.mul_le_mul_left _ h1
    rw [Nat.mul_add, Nat.mul_one, Nat.mul_comm β (β ^ m)] at h3
    omega
theorem zv_base {x : Nat → Nat} {β : Nat} : ∀ (m i v : Nat), zv_fold x β m i v = v * β ^ m + zv_fold x β m i 0 := by
  intro m
  induction m with
  | zero => intro i v; show v = v * 1 + 0; omega
  | succ m ih =>
    intro i v
    show zv_fold x β m (i + 1) (β * v + x i) = v * β ^ (m + 1) + zv_fold x β m (i + 1) (β * 0 + x i)
    rw [ih (i + 1) (β * v + x i), ih (i + 1) (β * 0 + x i), Nat.mul_zero, Nat.zero_add, Nat.add_mul, Nat.pow_succ, Nat.mul_comm β v, Nat.mul_assoc, Nat.mul_comm β (β ^ m)]
    omega
theorem zv_zero {x : Nat → Nat} {β : Nat} {m i : Nat} (h : x i = 0) : zv_fold x β (m + 1) i 0 = zv_fold x β m (i + 1) 0 := by
  show zv_fold x β m (i + 1) (β * 0 + x i) = _
  rw [Nat.mul_zero, Nat.zero_add, h]
/-- the places of m digits from i on -/
theorem zv_digit {x : Nat → Nat} : ∀ (m i k : Nat), (∀ j : Nat, i ≤ j → j < i + m → x j < 10) → k < m → zv_fold x 10 m i 0 / 10 ^ k % 10 = x (i + (m - 1 - k)) := by
  intro m
  induction m with
  | zero => intro i k _ hk; exact absurd hk (Nat.not_lt_zero _)
  | succ m ih =>
    intro i k h hk
    rw [zv_snoc]
    have h2 := h (i + m) (by omega) (by omega)
    cases k with
    | zero =>
      rw [Nat.pow_zero, Nat.div_one, show i + (m + 1 - 1 - 0) = i + m by omega]
      omega
    | succ k =>
      rw [Nat.pow_succ, Nat.mul_comm (10 ^ k) 10, ← Nat.div_div_eq_div_mul, show (10 * zv_fold x 10 m i 0 + x (i + m)) / 10 = zv_fold x 10 m i 0 by omega, ih i k (fun j a b => h j a (by omega)) (by omega), show m - 1 - k = m + 1 - 1 - (k + 1) by omega]
/-- two numbers by their digits, the highest first -/
theorem zv_cmp {d q : Nat → Int32} {A C : Nat} : ∀ K : Nat, (∀ k : Nat, k < K → d k = nI (A / 10 ^ k % 10)) → (∀ k : Nat, k < K → q k = nI (C / 10 ^ k % 10)) → zr_cmp d q K = if A % 10 ^ K < C % 10 ^ K then 1 else 0 := by
  intro K
  induction K with
  | zero =>
    intro _ _
    rw [Nat.pow_zero, Nat.mod_one, Nat.mod_one]
    rfl
  | succ K ih =>
    intro h1 h2
    have hp := (Nat.pow_pos (show 0 < 10 by decide) : 0 < 10 ^ K)
    have eA : A % 10 ^ (K + 1) = A % 10 ^ K + 10 ^ K * (A / 10 ^ K % 10) := by rw [Nat.pow_succ, Nat.mod_mul]
    have eC : C % 10 ^ (K + 1) = C % 10 ^ K + 10 ^ K * (C / 10 ^ K % 10) := by rw [Nat.pow_succ, Nat.mod_mul]
    have lA := Nat.mod_lt A hp
    have lC := Nat.mod_lt C hp
    have dA : A / 10 ^ K % 10 < 10 := Nat.mod_lt _ (by decide)
    have dC : C / 10 ^ K % 10 < 10 := Nat.mod_lt _ (by decide)
    have hi := ih (fun k hk => h1 k (by omega)) (fun k hk => h2 k (by omega))
    unfold zr_cmp
    rw [h1 K (by omega), h2 K (by omega), eA, eC, hi]
    generalize A / 10 ^ K % 10 = a at *
    generalize C / 10 ^ K % 10 = c at *
    generalize A % 10 ^ K = A' at *
    generalize C % 10 ^ K = C' at *
    generalize 10 ^ K = T at *
    rcases Nat.lt_trichotomy a c with g | g | g
    · rw [if_neg (fun z => absurd (z_injC (by omega) (by omega) z) (by omega)), if_pos (nI_lt g (by omega)), if_pos]
      have := Nat.mul_le_mul_left T (show a + 1 ≤ c from g)
      rw [Nat.mul_add, Nat.mul_one] at this
      omega
    · subst g
      rw [if_pos rfl]
      by_cases g2 : A' < C'
      · rw [if_pos g2, if_pos (by omega)]
      · rw [if_neg g2, if_neg (by omega)]
    · rw [if_neg (fun z => absurd (z_injC (by omega) (by omega) z) (by omega)), if_neg (nI_nlt (by omega) (by omega)), if_neg]
      have := Nat.mul_le_mul_left T (show c + 1 ≤ a from g)
      rw [Nat.mul_add, Nat.mul_one] at this
      omega
-- one sign of a number
theorem z_worth16 {c : Int32} {x : Nat} (hx : x < 16) (h : zr_worth c = nI x) : ∃ n : Nat, n < 128 ∧ 48 ≤ n ∧ c = nI n := by
  have hw : ¬ zr_worth c = 99 := by
    rw [h]
    intro z
    have := z_injC (a := x) (b := 99) (by omega) (by decide) z
    omega
  have key : ¬ c < 48 ∧ ¬ 102 < c := by
    unfold zr_worth zr_digit at hw
    by_cases h1 : c < 48 ∨ 57 < c
    · rw [if_pos h1, if_pos rfl] at hw
      by_cases h2 : ¬ c < 97 ∧ ¬ 102 < c
      · refine ⟨fun z => h2.1 (Int32.lt_trans z (by decide)), h2.2⟩
      · rw [if_neg h2] at hw
        by_cases h3 : ¬ c < 65 ∧ ¬ 70 < c
        · refine ⟨fun z => h3.1 (Int32.lt_trans z (by decide)), fun z => h3.2 (Int32.lt_trans (by decide) z)⟩
        · rw [if_neg h3] at hw
          exact absurd rfl hw
    · refine ⟨fun z => h1 (Or.inl z), fun z => h1 (Or.inr (Int32.lt_trans (by decide) z))⟩
  obtain ⟨n, hn, rfl⟩ := nI_of (x := c) (fun z => key.1 (Int32.lt_trans z (by decide)))
  refine ⟨n, ?_, ?_, rfl⟩
  · rcases Nat.lt_or_ge n 103 with q | q
    · omega
    · exact absurd (nI_lt (show 102 < n from q) hn) key.2
  · rcases Nat.lt_or_ge n 48 with q | q
    · exact absurd (nI_lt q (by decide)) key.1
    · exact q
theorem z_chars : ∀ n : Nat, n < 128 → nI n &&& 255 = nI n ∧ (∀ x : Nat, x < 16 → zr_worth (nI n) = nI x → zk_worth (nI n) = nI x) ∧ (nI n = 48 ↔ zr_worth (nI n) = 0) ∧ (∀ x : Nat, x < 10 → zr_worth (nI n) = nI x → nI n - 48 = nI x) := by decide +kernel
theorem zv_skip {pl : Nat → Int32} {x : Nat → Nat} {q w : Nat} : ∀ (m s : Nat), s + m = w → (∀ j : Nat, s ≤ j → j < w → (pl (q + j) = 48 ↔ x j = 0)) → ∃ z : Nat, z ≤ m ∧ zr_skip pl (q + s) m = q + s + z ∧ (∀ β : Nat, zv_fold x β m s 0 = zv_fold x β (m - z) (s + z) 0) ∧ (z < m → ¬ x (s + z) = 0) := by
  intro m
  induction m with
  | zero => intro s _ _; exact ⟨0, Nat.le_refl _, rfl, fun _ => rfl, fun h => absurd h (Nat.lt_irrefl _)⟩
  | succ m ih =>
    intro s hs h
    have h0 := h s (Nat.le_refl _) (by omega)
    show ∃ z : Nat, z ≤ m + 1 ∧ (if pl (q + s) = 48 then zr_skip pl (q + s + 1) m else q + s) = q + s + z ∧ _
    by_cases hp : pl (q + s) = 48
    · obtain ⟨z, z1, z2, z3, z4⟩ := ih (s + 1) (by omega) (fun j a b => h j (by omega) b)
      refine ⟨z + 1, by omega, ?_, fun β => ?_, fun hz => ?_⟩
      · rw [if_pos hp, show q + s + 1 = q + (s + 1) by omega, z2]
        omega
      · rw [zv_zero (h0.mp hp), z3 β, show m + 1 - (z + 1) = m - z by omega, show s + 1 + z = s + (z + 1) by omega]
      · rw [show s + (z + 1) = s + 1 + z by omega]
        exact z4 (by omega)
    · refine ⟨0, Nat.zero_le _, ?_, fun β => rfl, fun _ => fun hx => hp (h0.mpr hx)⟩
      rw [if_neg hp]
      rfl
