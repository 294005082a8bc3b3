/-! A character read by both, and written again. -/
def zc_apps (Z : zc_N) : List Int32 → zc_N
  | [] => Z
  | y :: l => zc_apps (zc_append Z y) l
theorem zc_apps_at : ∀ (l : List Int32) (Z : zc_N) (p : Nat), zc_I Z → Z.1 1 = nI p → p + l.length ≤ 65000 → zc_I (zc_apps Z l) ∧ (zc_apps Z l).1 1 = nI (p + l.length) ∧ (∀ i : Nat, i < p → (zc_apps Z l).2.1 0 i = Z.2.1 0 i) ∧ (∀ i : Nat, i < l.length → (zc_apps Z l).2.1 0 (p + i) = vp_nar .byte (l.getD i 0).toInt8.toInt32) ∧ (∀ j : Nat, j ≠ 1 → (zc_apps Z l).1 j = Z.1 j) ∧ (∀ r : Nat, r ≠ 0 → (zc_apps Z l).2.1 r = Z.2.1 r) := by
  intro l
  induction l with
  | nil => intro Z p hI h1 _; exact ⟨hI, h1, fun _ _ => rfl, fun i hi => absurd hi (Nat.not_lt_zero i), fun _ _ => rfl, fun _ _ => rfl⟩
  | cons y l ih =>
    intro Z p hI h1 hp
    rw [List.length_cons] at hp
    obtain ⟨a1, a2, a3, a4, a5⟩ := zc_append_at hI h1 (by omega) y
    obtain ⟨b0, b1, b2, b3, b4, b5⟩ := ih (zc_append Z y) (p + 1) (zi_append hI y) a1 (by omega)
    refine ⟨b0, ?_, fun i hi => (b2 i (by omega)).trans (a2 i hi), fun i hi => ?_, fun j hj => (b4 j hj).trans (a4 j hj), fun r hr => (b5 r hr).trans (a5 r hr)⟩
    · rw [List.length_cons, ← Nat.add_assoc, Nat.add_right_comm]; exact b1
    · rw [List.length_cons] at hi
      rcases Nat.eq_zero_or_pos i with z | z
      · subst z
        show (zc_apps (zc_append Z y) l).2.1 0 p = _
        rw [b2 p (by omega), a3]
        rfl
      · obtain ⟨k, rfl⟩ : ∃ k, i = k + 1 := ⟨i - 1, by omega⟩
        have := b3 k (by omega)
        rw [show p + 1 + k = p + (k + 1) from by omega] at this
        exact this
def zk_bts (c : Int32) : List Int32 := if c < 128 then [c] else if c < 2048 then [192 ||| (c >>> ((6 : Int32) &&& 31)), 128 ||| (c &&& 63)] else if c < 65536 then [224 ||| (c >>> ((12 : Int32) &&& 31)), 128 ||| ((c >>> ((6 : Int32) &&& 31)) &&& 63), 128 ||| (c &&& 63)] else [240 ||| (c >>> ((18 : Int32) &&& 31)), 128 ||| ((c >>> ((12 : Int32) &&& 31)) &&& 63), 128 ||| ((c >>> ((6 : Int32) &&& 31)) &&& 63), 128 ||| (c &&& 63)]
theorem zc_appendCode_at (Z : zc_N) (c : Int32) : zc_appendCode Z c = zc_apps Z (zk_bts c) := by
  unfold zc_appendCode zk_bts
  split
  · rfl
  · split
    · rfl
    · split <;> rfl
/-- the code m is d bytes, those of the text from c on -/
def zq_enc (T : Nat → Int32) (c d m : Nat) : Prop := (zk_bts (nI m)).length = d ∧ ∀ i : Nat, i < d → vp_nar .byte ((zk_bts (nI m)).getD i 0).toInt8.toInt32 = T (c + i)
theorem zq_or0 {k m w r : Nat} (hw : w < 2 ^ k) (hm : m * 2 ^ k + w < 2 ^ 31) (hr : m * 2 ^ k + w = r) {l : Int32} (hl : l = nI (m * 2 ^ k)) : l ||| nI w = nI r := by
  rw [hl, zq_or hm hw, hr]
theorem zq_enc_1 {T : Nat → Int32} {n c : Nat} (hT : zq_T T n) (hc : c < n) (h : zq_v T c < 128) : zq_enc T c 1 (zq_v T c) := by
  obtain ⟨w1, w2, w3⟩ := zq_vx hT hc
  have e : zk_bts (nI (zq_v T c)) = [nI (zq_v T c)] := by
    unfold zk_bts
    rw [if_pos (show nI (zq_v T c) < 128 from nI_lt (b := 128) h (by omega))]
  unfold zq_enc
  rw [e]
  refine ⟨rfl, fun i hi => ?_⟩
  have : i = 0 := by omega
  subst this
  show vp_nar .byte (nI (zq_v T c)).toInt8.toInt32 = T c
  rw [(zq_b255 _ w1).2.2, ← w3]
theorem zq_nlt {a b : Nat} (ha : a < 2 ^ 31) (hb : b < 2 ^ 31) (h : b ≤ a) : ¬ nI a < nI b := fun z => absurd (z_lit ha hb z) (by omega)
theorem zq_enc_N {T : Nat → Int32} {n c : Nat} (hT : zq_T T n) (h1 : 194 ≤ zq_v T c) (h2 : zq_v T c ≤ 244) (hcn : c + (1 + zq_mo (zq_v T c)) ≤ n) (hb : ∀ i : Nat, i < zq_mo (zq_v T c) → 128 ≤ zq_v T (c + 1 + i) ∧ zq_v T (c + 1 + i) < 192) (hlo : zq_lo (zq_v T c) ≤ zq_v T (c + 1)) : zq_enc T c (1 + zq_mo (zq_v T c)) (zq_cd T (zq_mo (zq_v T c)) (c + 1) (zq_c0 (zq_v T c))) := by
  have hn := hT.1
  have fin : ∀ (i y : Nat), c + i < n → zq_v T (c + i) = y → vp_nar .byte (nI y).toInt8.toInt32 = T (c + i) := by
    intro i y hi hy
    obtain ⟨w1, w2, w3⟩ := zq_vx hT hi
    rw [← hy, (zq_b255 _ w1).2.2, ← w3]
  have e63 : ∀ y : Nat, y < 2 ^ 31 → nI y &&& 63 = nI (y % 64) := fun y hy => pk_andN (by omega) 6 (by decide)
  have s6 : ∀ y : Nat, y < 2 ^ 31 → nI y >>> ((6 : Int32) &&& 31) = nI (y / 64) := fun y hy => pk_shrN hy _ 6 (by decide)
  have s12 : ∀ y : Nat, y < 2 ^ 31 → nI y >>> ((12 : Int32) &&& 31) = nI (y / 4096) := fun y hy => pk_shrN hy _ 12 (by decide)
  have s18 : ∀ y : Nat, y < 2 ^ 31 → nI y >>> ((18 : Int32) &&& 31) = nI (y / 262144) := fun y hy => pk_shrN hy _ 18 (by decide)
  have o128 : ∀ y r : Nat, y < 64 → 128 + y = r → (128 : Int32) ||| nI y = nI r := fun y r hy hr => zq_or0 (k := 6) (m := 2) hy (by omega) (by omega) rfl
  by_cases c1 : zq_v T c < 224
  · have em : zq_mo (zq_v T c) = 1 := by unfold zq_mo; rw [if_pos c1]
    have e0 : zq_c0 (zq_v T c) = zq_v T c - 192 := by unfold zq_c0; rw [if_pos c1]
    rw [em] at hb hcn ⊢
    have b0 := hb 0 (by omega)
    rw [Nat.add_zero] at b0
    rw [e0]
    show zq_enc T c 2 ((zq_v T c - 192) * 64 + zq_v T (c + 1) % 64)
    generalize hm : (zq_v T c - 192) * 64 + zq_v T (c + 1) % 64 = m
    have e : zk_bts (nI m) = [nI (zq_v T c), nI (zq_v T (c + 1))] := by
      unfold zk_bts
      rw [if_neg (show ¬ nI m < 128 from zq_nlt (b := 128) (by omega) (by omega) (by omega)), if_pos (show nI m < 2048 from nI_lt (b := 2048) (by omega) (by omega)), e63 m (by omega), s6 m (by omega), o128 (m % 64) (zq_v T (c + 1)) (by omega) (by omega), zq_or0 (l := 192) (k := 5) (m := 6) (w := m / 64) (r := zq_v T c) (by omega) (by omega) (by omega) rfl]
    unfold zq_enc
    rw [e]
    refine ⟨rfl, fun i hi => ?_⟩
    have : i = 0 ∨ i = 1 := by omega
    rcases this with rfl | rfl
    · exact fin 0 _ (by omega) rfl
    · exact fin 1 _ (by omega) rfl
  · by_cases c2 : zq_v T c < 240
    · have em : zq_mo (zq_v T c) = 2 := by unfold zq_mo; rw [if_neg c1, if_pos c2]
      have e0 : zq_c0 (zq_v T c) = zq_v T c - 224 := by unfold zq_c0; rw [if_neg c1, if_pos c2]
      rw [em] at hb hcn ⊢
      have b0 := hb 0 (by omega)
      have b1 := hb 1 (by omega)
      rw [Nat.add_zero] at b0
      rw [e0]
      have hlo' : zq_v T c = 224 → 160 ≤ zq_v T (c + 1) := fun z => by
        unfold zq_lo at hlo
        rw [if_pos z] at hlo
        exact hlo
      show zq_enc T c 3 (((zq_v T c - 224) * 64 + zq_v T (c + 1) % 64) * 64 + zq_v T (c + 1 + 1) % 64)
      generalize hm : ((zq_v T c - 224) * 64 + zq_v T (c + 1) % 64) * 64 + zq_v T (c + 1 + 1) % 64 = m
      have e : zk_bts (nI m) = [nI (zq_v T c), nI (zq_v T (c + 1)), nI (zq_v T (c + 1 + 1))] := by
        unfold zk_bts
        rw [if_neg (show ¬ nI m < 128 from zq_nlt (b := 128) (by omega) (by omega) (by omega)), if_neg (show ¬ nI m < 2048 from zq_nlt (b := 2048) (by omega) (by omega) (by omega)), if_pos (show nI m < 65536 from nI_lt (b := 65536) (by omega) (by omega)), e63 m (by omega), s6 m (by omega), s12 m (by omega), e63 (m / 64) (by omega), o128 (m % 64) (zq_v T (c + 1 + 1)) (by omega) (by omega), o128 (m / 64 % 64) (zq_v T (c + 1)) (by omega) (by omega), zq_or0 (l := 224) (k := 4) (m := 14) (w := m / 4096) (r := zq_v T c) (by omega) (by omega) (by omega) rfl]
      unfold zq_enc
      rw [e]
      refine ⟨rfl, fun i hi => ?_⟩
      have : i = 0 ∨ i = 1 ∨ i = 2 := by omega
      rcases this with rfl | rfl | rfl
      · exact fin 0 _ (by omega) rfl
      · exact fin 1 _ (by omega) rfl
      · exact fin 2 _ (by omega) rfl
    · have em : zq_mo (zq_v T c) = 3 := by unfold zq_mo; rw [if_neg c1, if_neg c2]
      have e0 : zq_c0 (zq_v T c) = zq_v T c - 240 := by unfold zq_c0; rw [if_neg c1, if_neg c2]
      rw [em] at hb hcn ⊢
      have b0 := hb 0 (by omega)
      have b1 := hb 1 (by omega)
      have b2 := hb 2 (by omega)
      rw [Nat.add_zero] at b0
      rw [e0]
      have hlo' : zq_v T c = 240 → 144 ≤ zq_v T (c + 1) := fun z => by
        unfold zq_lo at hlo
        rw [if_neg (by omega), if_pos z] at hlo
        exact hlo
      show zq_enc T c 4 ((((zq_v T c - 240) * 64 + zq_v T (c + 1) % 64) * 64 + zq_v T (c + 1 + 1) % 64) * 64 + zq_v T (c + 1 + 1 + 1) % 64)
      have b2 : 128 ≤ zq_v T (c + 1 + 1 + 1) ∧ zq_v T (c + 1 + 1 + 1) < 192 := b2
      generalize hm : (((zq_v T c - 240) * 64 + zq_v T (c + 1) % 64) * 64 + zq_v T (c + 1 + 1) % 64) * 64 + zq_v T (c + 1 + 1 + 1) % 64 = m
      have e : zk_bts (nI m) = [nI (zq_v T c), nI (zq_v T (c + 1)), nI (zq_v T (c + 1 + 1)), nI (zq_v T (c + 1 + 1 + 1))] := by
        unfold zk_bts
        rw [if_neg (show ¬ nI m < 128 from zq_nlt (b := 128) (by omega) (by omega) (by omega)), if_neg (show ¬ nI m < 2048 from zq_nlt (b := 2048) (by omega) (by omega) (by omega)), if_neg (show ¬ nI m < 65536 from zq_nlt (b := 65536) (by omega) (by omega) (by omega)), e63 m (by omega), s6 m (by omega), s12 m (by omega), s18 m (by omega), e63 (m / 64) (by omega), e63 (m / 4096) (by omega), o128 (m % 64) (zq_v T (c + 1 + 1 + 1)) (by omega) (by omega), o128 (m / 64 % 64) (zq_v T (c + 1 + 1)) (by omega) (by omega), o128 (m / 4096 % 64) (zq_v T (c + 1)) (by omega) (by omega), zq_or0 (l := 240) (k := 3) (m := 30) (w := m / 262144) (r := zq_v T c) (by omega) (by omega) (by omega) rfl]
      unfold zq_enc
      rw [e]
      refine ⟨rfl, fun i hi => ?_⟩
      have : i = 0 ∨ i = 1 ∨ i = 2 ∨ i = 3 := by omega
      rcases this with rfl | rfl | rfl | rfl
      · exact fin 0 _ (by omega) rfl
      · exact fin 1 _ (by omega) rfl
      · exact fin 2 _ (by omega) rfl
      · exact fin 3 _ (by omega) rfl
