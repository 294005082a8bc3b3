/-! Characters of several bytes: the numbers. -/
theorem z_cmpP {a b : Nat} (ha : a < 2 ^ 63) (hb : b < 2 ^ 63) : (0 < lg_cmp (lN a) (lN b) ↔ b < a) ∧ (lg_cmp (lN a) (lN b) < 0 ↔ a < b) := by
  unfold lg_cmp
  by_cases h1 : lN a > lN b
  · have := (pk_lLT hb ha).mp h1
    rw [if_pos h1]
    exact ⟨⟨fun _ => this, fun _ => by decide⟩, ⟨fun z => absurd z (by decide), fun z => absurd z (by omega)⟩⟩
  · have q : ¬ b < a := fun z => h1 ((pk_lLT hb ha).mpr z)
    rw [if_neg h1]
    by_cases h2 : lN a = lN b
    · have := (pk_lEQ ha hb).mp h2
      rw [if_pos h2]
      exact ⟨⟨fun z => absurd z (by decide), fun z => absurd z q⟩, ⟨fun z => absurd z (by decide), fun z => absurd z (by omega)⟩⟩
    · have : a ≠ b := fun z => h2 ((pk_lEQ ha hb).mpr z)
      rw [if_neg h2]
      exact ⟨⟨fun z => absurd z (by decide), fun z => absurd z q⟩, ⟨fun _ => by omega, fun _ => by decide⟩⟩
theorem zk_holds_at {a b : Nat} (ha : a < 2 ^ 63) (hb : b < 2 ^ 63) : zk_holds (lN a) (lN b) = 0 ↔ (1114111 < a ∨ (55296 ≤ a ∧ b ≤ 57343)) := by
  have e1 := (z_cmpP ha (show 1114111 < 2 ^ 63 by decide)).1
  have e2 := (z_cmpP ha (show 55296 < 2 ^ 63 by decide)).2
  have e3 := (z_cmpP hb (show 57343 < 2 ^ 63 by decide)).1
  have l1 : (1114111 : Int64) = lN 1114111 := rfl
  have l2 : (55296 : Int64) = lN 55296 := rfl
  have l3 : (57343 : Int64) = lN 57343 := rfl
  unfold zk_holds
  rw [l1, l2, l3]
  by_cases c1 : 0 < lg_cmp (lN a) (lN 1114111)
  · rw [if_pos c1]; exact ⟨fun _ => Or.inl (e1.mp c1), fun _ => rfl⟩
  · rw [if_neg c1]
    by_cases c2 : ¬ lg_cmp (lN a) (lN 55296) < 0 ∧ ¬ 0 < lg_cmp (lN b) (lN 57343)
    · rw [if_pos c2]
      refine ⟨fun _ => Or.inr ⟨?_, ?_⟩, fun _ => rfl⟩
      · exact Nat.le_of_not_lt (fun z => c2.1 (e2.mpr z))
      · exact Nat.le_of_not_lt (fun z => c2.2 (e3.mpr z))
    · rw [if_neg c2]
      refine ⟨fun z => absurd z (by decide), fun z => ?_⟩
      rcases z with z | ⟨z1, z2⟩
      · exact absurd (e1.mpr z) c1
      · exact absurd ⟨fun q => by have := e2.mp q; omega, fun q => by have := e3.mp q; omega⟩ c2
theorem zq_or {k m w : Nat} (hm : m * 2 ^ k + w < 2 ^ 31) (hw : w < 2 ^ k) : nI (m * 2 ^ k) ||| nI w = nI (m * 2 ^ k + w) := by
  apply Int32.toBitVec_inj.mp
  rw [Int32.toBitVec_or]
  apply BitVec.eq_of_toNat_eq
  rw [BitVec.toNat_or]
  have t1 : (nI (m * 2 ^ k)).toBitVec.toNat = m * 2 ^ k := pk_tn (by omega)
  have t2 : (nI w).toBitVec.toNat = w := pk_tn (by omega)
  have t3 : (nI (m * 2 ^ k + w)).toBitVec.toNat = m * 2 ^ k + w := pk_tn (by omega)
  rw [t1, t2, t3]
  have := Nat.two_pow_add_eq_or_of_lt (i := k) (b := w) hw m
  rw [Nat.mul_comm m (2 ^ k), ← this]
theorem zq_or6 {m v : Nat} (hm : m < 2 ^ 20) (hv : v < 256) : (nI m <<< ((6 : Int32) &&& 31)) ||| (nI v &&& 63) = nI (m * 64 + v % 64) := by
  have e1 : nI m <<< ((6 : Int32) &&& 31) = nI (m * 2 ^ 6) := pk_shlN _ 6 (by decide) (by omega)
  have e2 : nI v &&& 63 = nI (v % 2 ^ 6) := pk_andN (by omega) 6 (by decide)
  rw [e1, e2]
  exact zq_or (k := 6) (by omega) (by omega)
theorem zk_low_at {c j P : Nat} (hP : (j = 0 ∧ P = 1) ∨ (j = 1 ∧ P = 64) ∨ (j = 2 ∧ P = 4096)) (hc : c * P + P ≤ 2 ^ 30) : zk_low (nI c) (nI (j + 1)) = nI (c * P) ∧ zk_high (nI c) (nI (j + 1)) = nI (c * P + (P - 1)) := by
  have key : ∀ (k : Nat), P = 2 ^ k → (((6 * (nI (j + 1) - 1)) &&& 31 : Int32).toBitVec.smod 32).toNat = k → zk_low (nI c) (nI (j + 1)) = nI (c * P) ∧ zk_high (nI c) (nI (j + 1)) = nI (c * P + (P - 1)) := by
    intro k hk hs
    have e1 : zk_low (nI c) (nI (j + 1)) = nI (c * P) := by
      unfold zk_low
      rw [pk_shlN _ k hs (by rw [← hk]; omega), hk]
    have e2 : (1 : Int32) <<< ((6 * (nI (j + 1) - 1)) &&& 31) = nI P := by
      have : (1 : Int32) = nI 1 := rfl
      rw [this] at hs ⊢
      rw [pk_shlN _ k hs (by rw [← hk]; omega), ← hk, Nat.one_mul]
    refine ⟨e1, ?_⟩
    unfold zk_high
    have hp : 0 < P := by rw [hk]; exact Nat.two_pow_pos k
    obtain ⟨p, rfl⟩ : ∃ p, P = p + 1 := ⟨P - 1, by omega⟩
    rw [e1, e2, nI_add, ← Nat.add_assoc, nI_pred, Nat.add_sub_cancel]
  rcases hP with ⟨rfl, rfl⟩ | ⟨rfl, rfl⟩ | ⟨rfl, rfl⟩
  · exact key 0 (by decide) (by decide)
  · exact key 6 (by decide) (by decide)
  · exact key 12 (by decide) (by decide)
theorem z_192 : ∀ v : Nat, v < 256 → (nI v &&& 192 = 128 ↔ (128 ≤ v ∧ v < 192)) := by decide +kernel
abbrev zq_badN (q m v P : Nat) : Prop := ¬ (128 ≤ v ∧ v < 192) ∨ (m * 64 + v % 64) * P + (P - 1) < q ∨ 1114111 < (m * 64 + v % 64) * P ∨ (55296 ≤ (m * 64 + v % 64) * P ∧ (m * 64 + v % 64) * P + (P - 1) ≤ 57343)
theorem zk_bad_at {X : zc_N} {q m v j P : Nat} (hP : (j = 0 ∧ P = 1) ∨ (j = 1 ∧ P = 64) ∨ (j = 2 ∧ P = 4096)) (hv : v < 256) (hh : zk_here X = nI v) (hm : (m * 64 + 64) * P ≤ 2 ^ 30) (hm2 : m < 2 ^ 20) (hq : q < 2 ^ 31) : zk_code X (nI m) = nI (m * 64 + v % 64) ∧ (zk_bad X (nI q) (nI m) (nI (j + 1)) ↔ zq_badN q m v P) := by
  have ec : zk_code X (nI m) = nI (m * 64 + v % 64) := by
    unfold zk_code
    rw [hh]
    exact zq_or6 hm2 hv
  refine ⟨ec, ?_⟩
  unfold zk_bad zq_badN
  have hcP : (m * 64 + v % 64) * P + P ≤ 2 ^ 30 := by
    have e : (m * 64 + v % 64) * P + P = (m * 64 + v % 64 + 1) * P := by rw [Nat.add_mul (m * 64 + v % 64) 1 P, Nat.one_mul]
    rw [e]
    refine Nat.le_trans (Nat.mul_le_mul_right P ?_) hm
    omega
  generalize m * 64 + v % 64 = c at ec hcP ⊢
  obtain ⟨e1, e2⟩ := zk_low_at hP hcP
  have hp : 0 < P := by omega
  rw [hh, ec, e1, e2, nI_l (by omega), nI_l (by omega), zk_holds_at (by omega) (by omega), z_192 v hv]
  have hl : nI (c * P + (P - 1)) < nI q ↔ c * P + (P - 1) < q := nI_ltI (by omega) hq
  rw [hl]
/-- a byte's number -/
def zq_v (T : Nat → Int32) (i : Nat) : Nat := (T i &&& 255).toNatClampNeg
theorem zq_vx {T : Nat → Int32} {n i : Nat} (hT : zq_T T n) (h : i < n) : zq_v T i < 256 ∧ zq_x T n i = nI (zq_v T i) ∧ T i = zq_b (zq_v T i) := by
  obtain ⟨v, v1, v2, v3⟩ := zq_xv hT h
  have e : zq_v T i = v := by
    unfold zq_v
    rw [v2, (zq_b255 v v1).1, nI_clamp (by omega)]
  rw [e]
  exact ⟨v1, v3, v2⟩
def zq_cd (T : Nat → Int32) : Nat → Nat → Nat → Nat
  | 0, _, m => m
  | j + 1, c, m => zq_cd T j (c + 1) (m * 64 + zq_v T c % 64)
/-- j bytes of a character still to come, its code so far m, the next byte in lo .. hi -/
def zq_go (q : Nat) : Nat → Nat → Nat → Nat → Prop
  | 0, m, _, _ => m ≤ 1114111
  | j + 1, m, lo, hi => (128 ≤ lo ∧ lo ≤ 191) ∧ hi ≤ 191 ∧ (∃ P : Nat, ((j = 0 ∧ P = 1) ∨ (j = 1 ∧ P = 64) ∨ (j = 2 ∧ P = 4096)) ∧ (m * 64 + 64) * P ≤ 2 ^ 30 ∧ m < 2 ^ 20 ∧ ∀ v : Nat, v < 256 → (zq_badN q m v P ↔ (v < lo ∨ hi < v))) ∧ ∀ v : Nat, v < 256 → lo ≤ v → v ≤ hi → zq_go q j (m * 64 + v % 64) 128 191
def zq_mo (v : Nat) : Nat := if v < 224 then 1 else if v < 240 then 2 else 3
def zq_c0 (v : Nat) : Nat := if v < 224 then v - 192 else if v < 240 then v - 224 else v - 240
def zq_lo (v : Nat) : Nat := if v = 224 then 160 else if v = 240 then 144 else 128
def zq_hi (v : Nat) : Nat := if v = 237 then 159 else if v = 244 then 143 else 191
def zq_le (v : Nat) : Nat := if v < 224 then 128 else if v < 240 then 2048 else 65536
theorem zq_lead : ∀ v : Nat, v < 256 → 128 ≤ v → ((v < 194 ∨ 244 < v) ∧ zr_mo (nI v) = 0) ∨ (194 ≤ v ∧ v ≤ 244 ∧ zr_mo (nI v) = nI (zq_mo v) ∧ zk_left (nI v) = nI (zq_mo v) ∧ zr_lo (nI v) = nI (zq_lo v) ∧ zr_hi (nI v) = nI (zq_hi v) ∧ nI v &&& zr_mask (nI (zq_mo v)) = nI (zq_c0 v) ∧ nI v &&& ((63 : Int32) >>> (nI (zq_mo v) &&& 31)) = nI (zq_c0 v) ∧ zk_least (nI (zq_mo v)) = nI (zq_le v)) := by decide +kernel
theorem zq_go_0 {v : Nat} (h1 : 194 ≤ v) (h2 : v ≤ 244) : zq_go (zq_le v) (zq_mo v) (zq_c0 v) (zq_lo v) (zq_hi v) := by
  unfold zq_le zq_mo zq_c0 zq_lo zq_hi
  by_cases c1 : v < 224
  · rw [if_pos c1, if_pos c1, if_pos c1, if_neg (by omega), if_neg (by omega), if_neg (by omega), if_neg (by omega)]
    refine ⟨by omega, by omega, ⟨1, Or.inl ⟨rfl, rfl⟩, by omega, by omega, fun w hw => ?_⟩, fun w hw w1 w2 => ?_⟩
    · unfold zq_badN
      omega
    · show _ ≤ _
      omega
  · rw [if_neg c1, if_neg c1, if_neg c1]
    by_cases c2 : v < 240
    · rw [if_pos c2, if_pos c2, if_pos c2, if_neg (show ¬ v = 240 by omega), if_neg (show ¬ v = 244 by omega)]
      refine ⟨by constructor <;> split <;> omega, by split <;> omega, ⟨64, Or.inr (Or.inl ⟨rfl, rfl⟩), by omega, by omega, fun w hw => ?_⟩, fun w hw w1 w2 => ⟨by omega, by omega, ⟨1, Or.inl ⟨rfl, rfl⟩, by omega, by omega, fun z hz => ?_⟩, fun z hz z1 z2 => ?_⟩⟩
      · unfold zq_badN
        split <;> split <;> omega
      · unfold zq_badN
        revert w1 w2
        split <;> split <;> intros <;> omega
      · show _ ≤ _
        omega
    · rw [if_neg c2, if_neg c2, if_neg c2, if_neg (show ¬ v = 224 by omega), if_neg (show ¬ v = 237 by omega)]
      refine ⟨by constructor <;> split <;> omega, by split <;> omega, ⟨4096, Or.inr (Or.inr ⟨rfl, rfl⟩), by omega, by omega, fun w hw => ?_⟩, fun w hw w1 w2 => ⟨by omega, by omega, ⟨64, Or.inr (Or.inl ⟨rfl, rfl⟩), by omega, by omega, fun z hz => ?_⟩, fun z hz z1 z2 => ⟨by omega, by omega, ⟨1, Or.inl ⟨rfl, rfl⟩, by omega, by omega, fun y hy => ?_⟩, fun y hy y1 y2 => ?_⟩⟩⟩
      · unfold zq_badN
        split <;> split <;> omega
      · unfold zq_badN
        revert w1 w2
        split <;> split <;> intros <;> omega
      · unfold zq_badN
        revert w1 w2
        split <;> split <;> intros <;> omega
      · show _ ≤ _
        revert w1 w2
        split <;> split <;> intros <;> omega
