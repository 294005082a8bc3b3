/-! Escapes, digit by digit. -/
theorem zm_utf_s {M : zm_M} {n : Int32} {j : Nat} : zm_utf M n (j + 1) = zm_keep (zm_utf M n j) (128 ||| (((zm_utf M n j).1 38 >>> ((6 * (n - nI (j + 1))) &&& 31)) &&& 63)) := rfl
theorem zm_utf_0 {M : zm_M} {n : Int32} : zm_utf M n 0 = zm_keep M (zr_uf n ||| (M.1 38 >>> ((6 * n) &&& 31))) := rfl
theorem zm_keeps_s {M : zm_M} {f : Nat → Int32} {j : Nat} : zm_keeps M f (j + 1) = zm_keep (zm_keeps M f j) (f j) := rfl
theorem zm_keeps_0 {M : zm_M} {f : Nat → Int32} : zm_keeps M f 0 = M := rfl
theorem zm_keep_38 (Z : zm_M) (y : Int32) : (zm_keep Z y).1 38 = Z.1 38 := by
  unfold zm_keep
  show upd Z.1 15 (Z.1 15 + 1) 38 = _
  rw [zq_upd, if_neg (by decide)]
theorem zm_utf_bts {M : zm_M} {m : Nat} (h38 : M.1 38 = nI m) (h1 : 128 ≤ m) (h2 : m ≤ 1114111) : zm_utf M (zr_un (nI m)) (zr_un (nI m)).toNatClampNeg = zm_keeps M (fun i => (zk_bts (nI m)).getD i 0) (zk_bts (nI m)).length := by
  have s0 : ∀ y : Int32, ((y.toBitVec.smod 32).toNat = 0) → nI m >>> y = nI m := fun y hy => by
    rw [pk_shrN (by omega) y 0 hy, Nat.pow_zero, Nat.div_one]
  have n128 : ¬ nI m < 128 := zq_nlt (b := 128) (by omega) (by omega) h1
  have t1 : (1 : Int32).toNatClampNeg = 0 + 1 := by decide
  have t2 : (2 : Int32).toNatClampNeg = 0 + 1 + 1 := by decide
  have t3 : (3 : Int32).toNatClampNeg = 0 + 1 + 1 + 1 := by decide
  have f1 : zr_uf 1 = 192 := by decide
  have f2 : zr_uf 2 = 224 := by decide
  have f3 : zr_uf 3 = 240 := by decide
  by_cases c1 : m < 2048
  · have l1 : nI m < 2048 := nI_lt (b := 2048) c1 (by omega)
    have e1 : zr_un (nI m) = 1 := by unfold zr_un; rw [if_pos l1]
    have e2 : zk_bts (nI m) = [192 ||| (nI m >>> ((6 : Int32) &&& 31)), 128 ||| (nI m &&& 63)] := by unfold zk_bts; rw [if_neg n128, if_pos l1]
    have g1 : (6 * 1 : Int32) = 6 := by decide
    rw [e1, e2, t1, zm_utf_s, zm_utf_0, zm_keep_38, h38, f1, g1, s0 ((6 * (1 - nI (0 + 1))) &&& 31) (by decide)]
    rfl
  · have l1 : ¬ nI m < 2048 := zq_nlt (b := 2048) (by omega) (by omega) (by omega)
    by_cases c2 : m < 65536
    · have l2 : nI m < 65536 := nI_lt (b := 65536) c2 (by omega)
      have e1 : zr_un (nI m) = 2 := by unfold zr_un; rw [if_neg l1, if_pos l2]
      have e2 : zk_bts (nI m) = [224 ||| (nI m >>> ((12 : Int32) &&& 31)), 128 ||| ((nI m >>> ((6 : Int32) &&& 31)) &&& 63), 128 ||| (nI m &&& 63)] := by unfold zk_bts; rw [if_neg n128, if_neg l1, if_pos l2]
      have g1 : (6 * 2 : Int32) = 12 := by decide
      have g2 : (6 * (2 - nI (0 + 1)) : Int32) = 6 := by decide
      rw [e1, e2, t2, zm_utf_s, zm_utf_s, zm_utf_0, zm_keep_38, zm_keep_38, zm_keep_38, h38, f2, g1, g2, s0 ((6 * (2 - nI (1 + 1))) &&& 31) (by decide)]
      rfl
    · have l2 : ¬ nI m < 65536 := zq_nlt (b := 65536) (by omega) (by omega) (by omega)
      have e1 : zr_un (nI m) = 3 := by unfold zr_un; rw [if_neg l1, if_neg l2]
      have e2 : zk_bts (nI m) = [240 ||| (nI m >>> ((18 : Int32) &&& 31)), 128 ||| ((nI m >>> ((12 : Int32) &&& 31)) &&& 63), 128 ||| ((nI m >>> ((6 : Int32) &&& 31)) &&& 63), 128 ||| (nI m &&& 63)] := by unfold zk_bts; rw [if_neg n128, if_neg l1, if_neg l2]
      have g1 : (6 * 3 : Int32) = 18 := by decide
      have g2 : (6 * (3 - nI (0 + 1)) : Int32) = 12 := by decide
      have g3 : (6 * (3 - nI (0 + 1 + 1)) : Int32) = 6 := by decide
      rw [e1, e2, t3, zm_utf_s, zm_utf_s, zm_utf_s, zm_utf_0, zm_keep_38, zm_keep_38, zm_keep_38, zm_keep_38, zm_keep_38, zm_keep_38, h38, f3, g1, g2, g3, s0 ((6 * (3 - nI (2 + 1))) &&& 31) (by decide)]
      rfl
theorem zk_bts_len (m : Nat) : (zk_bts (nI m)).length ≤ 4 ∧ 1 ≤ (zk_bts (nI m)).length := by
  unfold zk_bts
  split
  · exact ⟨by simp, by simp⟩
  · split
    · exact ⟨by simp, by simp⟩
    · split <;> exact ⟨by simp, by simp⟩
/-- the rest of a digit's step -/
def zm_nb (M1 : zm_M) (x : Int32) : zm_M :=
  let v := (M1.1 38).toInt64 * (M1.1 37).toInt64 + (zr_worth x).toInt64
  let lo := zr_least v (M1.1 36).toNatClampNeg
  let hi := zr_most v (M1.1 36).toNatClampNeg
  if M1.1 40 = 0 ∧ (0 < lg_cmp lo 1114111 ∨ (¬ lg_cmp lo 55296 < 0 ∧ ¬ 0 < lg_cmp hi 57343)) then zm_error M1 else
  let M2 := zm_s M1 38 v.toInt32
  if 0 < M2.1 36 then M2 else
  let M3 := zm_s M2 41 1
  if ¬ M3.1 40 = 0 ∨ M3.1 38 < 128 then zm_keep M3 (M3.1 38) else
  zm_utf M3 (zr_un (M3.1 38)) (zr_un (M3.1 38)).toNatClampNeg
theorem zm_number2_nb {M : zm_M} {x : Int32} : zm_number2 M x = if ¬ zr_worth x < M.1 37 then zm_error M else zm_nb (zm_s M 36 (M.1 36 - 1)) x := rfl
theorem zm_nb_bad {M1 : zm_M} {x : Int32} {w : Int64} {j : Nat} (hw : (M1.1 38).toInt64 * (M1.1 37).toInt64 + (zr_worth x).toInt64 = w) (hj : (M1.1 36).toNatClampNeg = j) (h : M1.1 40 = 0 ∧ (0 < lg_cmp (zr_least w j) 1114111 ∨ (¬ lg_cmp (zr_least w j) 55296 < 0 ∧ ¬ 0 < lg_cmp (zr_most w j) 57343))) : zm_nb M1 x = zm_error M1 := by
  unfold zm_nb
  dsimp only
  rw [hw, hj, if_pos h]
theorem zm_nb_ok {M1 : zm_M} {x : Int32} {w : Int64} {j : Nat} (hw : (M1.1 38).toInt64 * (M1.1 37).toInt64 + (zr_worth x).toInt64 = w) (hj : (M1.1 36).toNatClampNeg = j) (h : ¬ (M1.1 40 = 0 ∧ (0 < lg_cmp (zr_least w j) 1114111 ∨ (¬ lg_cmp (zr_least w j) 55296 < 0 ∧ ¬ 0 < lg_cmp (zr_most w j) 57343)))) {M2 : zm_M} (hM2 : zm_s M1 38 w.toInt32 = M2) : zm_nb M1 x = if 0 < M2.1 36 then M2 else if ¬ (zm_s M2 41 1).1 40 = 0 ∨ (zm_s M2 41 1).1 38 < 128 then zm_keep (zm_s M2 41 1) ((zm_s M2 41 1).1 38) else zm_utf (zm_s M2 41 1) (zr_un ((zm_s M2 41 1).1 38)) (zr_un ((zm_s M2 41 1).1 38)).toNatClampNeg := by
  unfold zm_nb
  dsimp only
  rw [hw, hj, if_neg h, ← hM2]
/-- what a digit that stands does: j digits still to come -/
theorem zm_num2_at {Y : zm_M} {x : Int32} {j b m d v : Nat} (h36 : Y.1 36 = nI (j + 1)) (hj : j < 100) (h37 : Y.1 37 = nI b) (hb : b ≤ 16) (h38 : Y.1 38 = nI m) (hm : m < 2 ^ 26) (hx : zr_worth x = nI d) (hd : d < b) (h15 : Y.1 15 = nI v) (hv : v ≤ 50000) (hok : Y.1 40 = 0 → ¬ (0 < lg_cmp (zr_least (lN (m * b + d)) j) 1114111 ∨ (¬ lg_cmp (zr_least (lN (m * b + d)) j) 55296 < 0 ∧ ¬ 0 < lg_cmp (zr_most (lN (m * b + d)) j) 57343))) (hmx : Y.1 40 = 0 → m * b + d ≤ 1114111) {l : List Int32} (hl : l = if ¬ Y.1 40 = 0 then [nI (m * b + d)] else zk_bts (nI (m * b + d))) : (zm_number2 Y x).1 36 = nI j ∧ (zm_number2 Y x).1 38 = nI (m * b + d) ∧ (∀ k : Nat, k ≠ 15 → k ≠ 36 → k ≠ 38 → k ≠ 41 → (zm_number2 Y x).1 k = Y.1 k) ∧ (0 < j → (zm_number2 Y x).1 15 = nI v ∧ (zm_number2 Y x).2 = Y.2) ∧ (j = 0 → (zm_number2 Y x).1 41 = 1 ∧ (zm_number2 Y x).1 15 = nI (v + l.length) ∧ (∀ r : Nat, r ≠ 16 → (zm_number2 Y x).2.1 r = Y.2.1 r) ∧ (∀ i : Nat, i < v → (zm_number2 Y x).2.1 16 i = Y.2.1 16 i) ∧ (∀ i : Nat, i < l.length → (zm_number2 Y x).2.1 16 (v + i) = vp_nar .byte (l.getD i 0).toInt8.toInt32) ∧ (zm_number2 Y x).2.2 = Y.2.2) := by
  have hmb : m * b ≤ 2 ^ 26 * 16 := Nat.mul_le_mul (by omega) hb
  have ev : (nI m).toInt64 * (nI b).toInt64 + (nI d).toInt64 = lN (m * b + d) := by
    rw [nI_l (by omega), nI_l (by omega), nI_l (by omega), lN_mul, lN_add]
  have e36 : Y.1 36 - 1 = nI j := by rw [h36, nI_pred]
  have hlt : zr_worth x < Y.1 37 := by rw [hx, h37]; exact nI_lt hd (by omega)
  obtain ⟨M2, eM⟩ : ∃ M2 : zm_M, M2 = zm_s (zm_s Y 36 (nI j)) 38 (nI (m * b + d)) := ⟨_, rfl⟩
  have q36 : M2.1 36 = nI j := by rw [eM]; rfl
  have q38 : M2.1 38 = nI (m * b + d) := by rw [eM]; rfl
  have qo : ∀ k : Nat, k ≠ 36 → k ≠ 38 → M2.1 k = Y.1 k := fun k a b => by
    rw [eM]
    show upd (upd Y.1 36 _) 38 _ k = _
    rw [zq_upd, if_neg b, zq_upd, if_neg a]
  have q2 : M2.2 = Y.2 := by rw [eM]
  have en : zm_number2 Y x = if 0 < M2.1 36 then M2 else if ¬ (zm_s M2 41 1).1 40 = 0 ∨ (zm_s M2 41 1).1 38 < 128 then zm_keep (zm_s M2 41 1) ((zm_s M2 41 1).1 38) else zm_utf (zm_s M2 41 1) (zr_un ((zm_s M2 41 1).1 38)) (zr_un ((zm_s M2 41 1).1 38)).toNatClampNeg := by
    rw [zm_number2_nb, if_neg (fun z => z hlt), e36]
    obtain ⟨M1, hM1⟩ : ∃ M1 : zm_M, M1 = zm_s Y 36 (nI j) := ⟨_, rfl⟩
    have r36 : M1.1 36 = nI j := by rw [hM1]; rfl
    have r37 : M1.1 37 = nI b := by rw [hM1]; exact h37
    have r38 : M1.1 38 = nI m := by rw [hM1]; exact h38
    have r40 : M1.1 40 = Y.1 40 := by rw [hM1]; rfl
    have hM2 : zm_s M1 38 (lN (m * b + d)).toInt32 = M2 := by rw [lN_i, hM1, eM]
    rw [← hM1]
    exact zm_nb_ok (by rw [r38, r37, hx, ev]) (by rw [r36, nI_clamp (by omega)]) (fun z => hok (r40.symm.trans z.1) z.2) hM2
  rw [en]
  clear en eM
  by_cases cj : 0 < j
  · have l0 : 0 < M2.1 36 := by rw [q36]; exact nI_lt (a := 0) cj (by omega)
    rw [if_pos l0]
    exact ⟨q36, q38, fun k a b c d => qo k b c, fun _ => ⟨(qo 15 (by decide) (by decide)).trans h15, q2⟩, fun z => absurd z (by omega)⟩
  · have j0 : j = 0 := by omega
    have l0 : ¬ 0 < M2.1 36 := by rw [q36, j0]; decide
    rw [if_neg l0]
    have p40 : (zm_s M2 41 1).1 40 = Y.1 40 := by
      show M2.1 40 = _
      exact qo 40 (by decide) (by decide)
    have p38 : (zm_s M2 41 1).1 38 = nI (m * b + d) := q38
    have p15 : (zm_s M2 41 1).1 15 = nI v := (qo 15 (by decide) (by decide)).trans h15
    have po : ∀ k : Nat, k ≠ 36 → k ≠ 38 → k ≠ 41 → (zm_s M2 41 1).1 k = Y.1 k := fun k a b c => by
      show upd M2.1 41 _ k = _
      rw [zq_upd, if_neg c]
      exact qo k a b
    have p36 : (zm_s M2 41 1).1 36 = nI j := q36
    have p41 : (zm_s M2 41 1).1 41 = 1 := rfl
    have p2 : (zm_s M2 41 1).2 = Y.2 := q2
    generalize zm_s M2 41 1 = M3 at p40 p38 p15 po p36 p41 p2
    have ek : (if ¬ M3.1 40 = 0 ∨ M3.1 38 < 128 then zm_keep M3 (M3.1 38) else zm_utf M3 (zr_un (M3.1 38)) (zr_un (M3.1 38)).toNatClampNeg) = zm_keeps M3 (fun i => l.getD i 0) l.length := by
      rw [p40, p38]
      by_cases z : ¬ Y.1 40 = 0
      · rw [if_pos (Or.inl z), hl, if_pos z]
        rfl
      · have z0 : Y.1 40 = 0 := Decidable.byContradiction z
        rw [hl, if_neg z]
        by_cases y : m * b + d < 128
        · have ly : nI (m * b + d) < 128 := nI_lt (b := 128) y (by omega)
          have e : zk_bts (nI (m * b + d)) = [nI (m * b + d)] := by unfold zk_bts; rw [if_pos ly]
          rw [if_pos (Or.inr ly), e]
          rfl
        · have ly : ¬ nI (m * b + d) < 128 := zq_nlt (b := 128) (by omega) (by omega) (by omega)
          rw [if_neg (fun w => by rcases w with w | w; exact z w; exact ly w)]
          exact zm_utf_bts p38 (by omega) (hmx z0)
    have hll : l.length ≤ 4 := by
      rw [hl]
      split
      · simp
      · exact (zk_bts_len _).1
    rw [ek]
    obtain ⟨k1, k2, k3, k4, k5, k6⟩ := zm_keeps_at p15 (fun i => l.getD i 0) l.length (by omega)
    refine ⟨?_, ?_, fun k a b c d => ?_, fun z => absurd z cj, fun _ => ⟨?_, k2, fun r hr => ?_, fun i hi => ?_, k4, ?_⟩⟩
    · rw [k1 36 (by decide), p36]
    · rw [k1 38 (by decide), p38]
    · rw [k1 k a, po k b c d]
    · rw [k1 41 (by decide), p41]
    · rw [k5 r hr, p2]
    · rw [k3 i hi, p2]
    · rw [k6, p2]
section
variable {T : Nat → Int32} {n : Nat} {v : Nat} {q : Int32}
/-- what an escape's end gives -/
def zq_es (T : Nat → Int32) (n : Nat) (W Z : zc_N) (Y : zm_M) (c v m : Nat) (q : Int32) (l : List Int32) : Prop := zq_ct T n Z c ∧ zc_I Z ∧ Z.2 = W.2 ∧ (∀ i : Nat, i ≠ 62 → i ≠ 63 → i ≠ 64 → Z.1 i = W.1 i) ∧ m ≤ 1114111 ∧ ∃ Y' : zm_M, zq_q T n Y' c (v + l.length) 15 q ∧ zq_fr Y Y' v ∧ Y'.1 33 = 0 ∧ Y'.1 38 = nI m ∧ Y'.1 41 = 1 ∧ (∀ i : Nat, i < l.length → Y'.2.1 16 (v + i) = vp_nar .byte (l.getD i 0).toInt8.toInt32) ∧ ∀ F : zm_M, zt Y' F → zt Y F
theorem zq_dstep (hT : zq_T T n) {W : zc_N} {Y : zm_M} {c j b m d : Nat} (hc : c < n) (hv : v ≤ 20000) (hY : zq_e T n Y c v 15 q) (h33 : Y.1 33 = 0) (h39 : Y.1 39 = 0) (h36 : Y.1 36 = nI (j + 1)) (hj : j < 8) (h37 : Y.1 37 = nI b) (hb : b ≤ 16) (h38 : Y.1 38 = nI m) (hm : m < 2 ^ 26) (hx : zr_worth (zq_x T n c) = nI d) (hd : d < b) (hok : Y.1 40 = 0 → ¬ (0 < lg_cmp (zr_least (lN (m * b + d)) j) 1114111 ∨ (¬ lg_cmp (zr_least (lN (m * b + d)) j) 55296 < 0 ∧ ¬ 0 < lg_cmp (zr_most (lN (m * b + d)) j) 57343))) (hmx : Y.1 40 = 0 → m * b + d ≤ 1114111) {l : List Int32} (hl : l = if ¬ Y.1 40 = 0 then [nI (m * b + d)] else zk_bts (nI (m * b + d))) : ∃ Z : zm_M, Z.1 33 = 0 ∧ Z.1 39 = 0 ∧ Z.1 36 = nI j ∧ Z.1 37 = nI b ∧ Z.1 38 = nI (m * b + d) ∧ Z.1 40 = Y.1 40 ∧ zq_fr Y Z v ∧ (∀ F : zm_M, zt Z F → zt Y F) ∧ (0 < j → zq_e T n Z (c + 1) v 15 q) ∧ (j = 0 → zq_e T n Z (c + 1) (v + l.length) 15 q ∧ Z.1 41 = 1 ∧ ∀ i : Nat, i < l.length → Z.2.1 16 (v + i) = vp_nar .byte (l.getD i 0).toInt8.toInt32) := by
  obtain ⟨n1, n2, n3, n4, n5⟩ := zm_num2_at (x := zq_x T n c) h36 (by omega) h37 hb h38 hm hx hd hY.2.2.1 (by omega) hok hmx hl
  have hst := zm_step_n hY h33 h36 (by omega) (zq_x T n c)
  generalize zm_number2 Y (zq_x T n c) = R at n1 n2 n3 n4 n5 hst
  have h21 : R.1 21 = 15 := (n3 21 (by decide) (by decide) (by decide) (by decide)).trans hY.2.2.2.2.1
  have hD : 0 < Y.1 36 → ∃ D : Nat, D < 100 ∧ Y.1 36 = nI (D + 1) := fun _ => ⟨j, by omega, h36⟩
  by_cases cj : 0 < j
  · obtain ⟨a1, a2⟩ := n4 cj
    obtain ⟨Z, z1, z2, z3, z4, z5⟩ := zq_go2 hT hY (Or.inl rfl) (by omega) (by omega) hD hst (v' := v) (s' := 15) ⟨fun k a b _ _ _ d => n3 k a (by omega) (by omega) (by omega), fun r _ => by rw [a2], fun i _ => by rw [a2], by rw [a2]⟩ a1 h21 (fun k hk => n3 k (by omega) (by omega) (by omega) (by omega))
    refine ⟨Z, ?_, ?_, ?_, ?_, ?_, ?_, z4, z5, fun _ => z3, fun z => absurd z (by omega)⟩
    · rw [z1 33 (by decide) (by decide) (by decide), n3 33 (by decide) (by decide) (by decide) (by decide)]; exact h33
    · rw [z1 39 (by decide) (by decide) (by decide), n3 39 (by decide) (by decide) (by decide) (by decide)]; exact h39
    · rw [z1 36 (by decide) (by decide) (by decide)]; exact n1
    · rw [z1 37 (by decide) (by decide) (by decide), n3 37 (by decide) (by decide) (by decide) (by decide)]; exact h37
    · rw [z1 38 (by decide) (by decide) (by decide)]; exact n2
    · rw [z1 40 (by decide) (by decide) (by decide), n3 40 (by decide) (by decide) (by decide) (by decide)]
  · have j0 : j = 0 := by omega
    obtain ⟨a1, a2, a3, a4, a5, a6⟩ := n5 j0
    obtain ⟨Z, z1, z2, z3, z4, z5⟩ := zq_go2 hT hY (Or.inl rfl) (by omega) (by omega) hD hst (v' := v + l.length) (s' := 15) ⟨fun k a b _ _ _ d => n3 k a (by omega) (by omega) (by omega), a3, a4, a6⟩ a2 h21 (fun k hk => n3 k (by omega) (by omega) (by omega) (by omega))
    refine ⟨Z, ?_, ?_, ?_, ?_, ?_, ?_, z4, z5, fun z => absurd z cj, fun _ => ⟨z3, ?_, fun i hi => ?_⟩⟩
    · rw [z1 33 (by decide) (by decide) (by decide), n3 33 (by decide) (by decide) (by decide) (by decide)]; exact h33
    · rw [z1 39 (by decide) (by decide) (by decide), n3 39 (by decide) (by decide) (by decide) (by decide)]; exact h39
    · rw [z1 36 (by decide) (by decide) (by decide)]; exact n1
    · rw [z1 37 (by decide) (by decide) (by decide), n3 37 (by decide) (by decide) (by decide) (by decide)]; exact h37
    · rw [z1 38 (by decide) (by decide) (by decide)]; exact n2
    · rw [z1 40 (by decide) (by decide) (by decide), n3 40 (by decide) (by decide) (by decide) (by decide)]
    · rw [z1 41 (by decide) (by decide) (by decide)]; exact a1
    · rw [z2]; exact a5 i hi
/-- a digit that can't stand -/
theorem zq_dstop (hT : zq_T T n) {Y : zm_M} {c j : Nat} (hc : c ≤ n) (hv : v ≤ 20000) (hY : zq_e T n Y c v 15 q) (h33 : Y.1 33 = 0) (h36 : Y.1 36 = nI (j + 1)) (hj : j < 8) (h : (zm_number2 Y (zq_x T n c)).1 30 = Y.1 27) : ∃ F : zm_M, F.1 30 = nI c ∧ zt Y F :=
  zq_stop2 hT hY (Or.inl rfl) hc (by omega) (fun _ => ⟨j, by omega, h36⟩) (by rw [zm_step_n hY h33 h36 (by omega)]; exact h)
theorem zq_bytesL (hT : zq_T T n) {b : Nat} (hb : b = 8 ∨ b = 16) (hv : v ≤ 20000) : ∀ (j c m : Nat) (W : zc_N) (Y : zm_M), (m + 1) * 16 ^ (j + 1) ≤ 2 ^ 20 → j < 8 → zc_I W → zq_ct T n W c → c ≤ n → zq_e T n Y c v 15 q → Y.1 33 = 0 → Y.1 39 = 0 → Y.1 36 = nI (j + 1) → Y.1 37 = nI b → Y.1 38 = nI m → ¬ Y.1 40 = 0 → (zk_bytes (nI b) (j + 1) W (nI m) = -1 ∧ zq_er n (zc_bytes (nI b) (j + 1) W) Y) ∨ (c + (j + 1) ≤ n ∧ ∃ m' : Nat, zk_bytes (nI b) (j + 1) W (nI m) = nI m' ∧ zq_es T n W (zc_bytes (nI b) (j + 1) W) Y (c + (j + 1)) v m' q [nI m']) := by
  have hn := hT.1
  intro j
  induction j with
  | zero =>
    intro c m W Y hm hj hI hct hcn hY h33 h39 h36 h37 h38 h40
    have hh : zk_here W = zq_x T n c := zk_here_at hT hct (by omega)
    rw [zk_bytes_s rfl, zc_bytes_s rfl, hh]
    rcases zq_dg_x (c := c) hT (show b = 8 ∨ b = 16 ∨ b = 2 ∨ b = 10 by omega) with ⟨d1, d2⟩ | ⟨hlt, d, d1, d2, d3, d4, d5⟩
    · rw [if_pos d1, if_pos d1]
      refine Or.inl ⟨rfl, zq_er_mk hI hct hcn (zq_dstop hT hcn hv hY h33 h36 hj ?_)⟩
      unfold zm_number2
      rw [if_pos (by rw [h37]; exact d2)]
      exact zm_error_30 hY.2.1
    · rw [if_neg d5, if_neg d5, d2]
      have hm9 : m < 2 ^ 17 := by
        have : (m + 1) * 16 ^ (0 + 1) = (m + 1) * 16 := rfl
        omega
      have hmb : m * b ≤ m * 16 := Nat.mul_le_mul_left m (by omega)
      obtain ⟨Z, z1, z2, z3, z4, z5, z6, z7, z8, -, z9⟩ := zq_dstep hT (W := W) hlt hv hY h33 h39 h36 hj h37 (by omega) h38 (by omega) d3 d1 (fun z => absurd z h40) (fun z => absurd z h40) rfl
      rw [if_pos h40] at z9
      obtain ⟨y1, y2, y3⟩ := z9 rfl
      refine Or.inr ⟨hlt, m * b + d, by show nI m * nI b + nI d = _; rw [pk_mul, nI_add], zc_step_at hT hct hlt, zi_step hI, zc_step_2, fun i a b c => zc_step_1 a b c, by omega, Z, zq_e_q y1 z3 z2, z7, z1, z5, y2, y3, z8⟩
  | succ j ih =>
    intro c m W Y hm hj hI hct hcn hY h33 h39 h36 h37 h38 h40
    have hh : zk_here W = zq_x T n c := zk_here_at hT hct (by omega)
    rw [zk_bytes_s rfl, zc_bytes_s rfl, hh]
    rcases zq_dg_x (c := c) hT (show b = 8 ∨ b = 16 ∨ b = 2 ∨ b = 10 by omega) with ⟨d1, d2⟩ | ⟨hlt, d, d1, d2, d3, d4, d5⟩
    · rw [if_pos d1, if_pos d1]
      refine Or.inl ⟨rfl, zq_er_mk hI hct hcn (zq_dstop hT hcn hv hY h33 h36 hj ?_)⟩
      unfold zm_number2
      rw [if_pos (by rw [h37]; exact d2)]
      exact zm_error_30 hY.2.1
    · rw [if_neg d5, if_neg d5, d2]
      have hp : 1 ≤ 16 ^ (j + 1) := Nat.pow_pos (by decide)
      have hm2 : (m + 1) * 16 * 16 ^ (j + 1) ≤ 2 ^ 20 := by
        rw [Nat.mul_assoc, ← Nat.pow_succ']
        exact hm
      have hm9 : (m + 1) * 16 ≤ 2 ^ 20 := Nat.le_trans (Nat.le_mul_of_pos_right _ hp) hm2
      have hmb : m * b ≤ m * 16 := Nat.mul_le_mul_left m (by omega)
      obtain ⟨Z, z1, z2, z3, z4, z5, z6, z7, z8, z9, -⟩ := zq_dstep hT (W := W) hlt hv hY h33 h39 h36 hj h37 (by omega) h38 (by omega) d3 d1 (fun z => absurd z h40) (fun z => absurd z h40) rfl
      have em : nI m * nI b + nI d = nI (m * b + d) := by rw [pk_mul, nI_add]
      rw [em]
      have hb2 : (m * b + d + 1) * 16 ^ (j + 1) ≤ 2 ^ 20 := Nat.le_trans (Nat.mul_le_mul_right _ (by omega)) hm2
      rcases ih (c + 1) (m * b + d) (zc_step W) Z hb2 (by omega) (zi_step hI) (zc_step_at hT hct hlt) hlt (z9 (by omega)) z1 z2 z3 z4 z5 (by rw [z6]; exact h40) with ⟨r1, r2⟩ | ⟨r0, m', r1, r2, r3, r4, r5, r6, Y', r7, r8, r9, r10, r11, r12, r13⟩
      · exact Or.inl ⟨r1, zq_er_back r2 z8⟩
      · have ec : c + 1 + (j + 1) = c + (j + 1 + 1) := by omega
        rw [ec] at r0 r2 r7
        refine Or.inr ⟨r0, m', r1, r2, r3, r4.trans zc_step_2, fun i a b c => (r5 i a b c).trans (zc_step_1 a b c), r6, Y', r7, z7.tr r8 (Nat.le_refl _), r9, r10, r11, r12, fun F hF => z8 F (r13 F hF)⟩
theorem zq_code1 (hT : zq_T T n) (hv : v ≤ 20000) {j c m : Nat} {W : zc_N} {Y : zm_M} (hm : m ≤ 1114111) (hj : j < 8) (hI : zc_I W) (hct : zq_ct T n W c) (hcn : c ≤ n) (hY : zq_e T n Y c v 15 q) (h33 : Y.1 33 = 0) (h39 : Y.1 39 = 0) (h36 : Y.1 36 = nI (j + 1)) (h37 : Y.1 37 = nI 16) (h38 : Y.1 38 = nI m) (h40 : Y.1 40 = 0) : (zk_cbad W (lN m) j ∧ zq_er n (zc_refuse W) Y) ∨ (¬ zk_cbad W (lN m) j ∧ c < n ∧ ∃ m' : Nat, zk_cv W (lN m) = lN m' ∧ m' ≤ 1114111 ∧ ∃ Z : zm_M, Z.1 33 = 0 ∧ Z.1 39 = 0 ∧ Z.1 36 = nI j ∧ Z.1 37 = nI 16 ∧ Z.1 38 = nI m' ∧ Z.1 40 = 0 ∧ zq_fr Y Z v ∧ (∀ F : zm_M, zt Z F → zt Y F) ∧ (0 < j → zq_e T n Z (c + 1) v 15 q) ∧ (j = 0 → zq_e T n Z (c + 1) (v + (zk_bts (nI m')).length) 15 q ∧ Z.1 41 = 1 ∧ ∀ i : Nat, i < (zk_bts (nI m')).length → Z.2.1 16 (v + i) = vp_nar .byte ((zk_bts (nI m')).getD i 0).toInt8.toInt32)) := by
  have hn := hT.1
  have hh : zk_here W = zq_x T n c := zk_here_at hT hct (by omega)
  have hcv : zk_cv W (lN m) = lN m * lN 16 + (zk_digitOf (zq_x T n c) (nI 16)).toInt64 := by
    unfold zk_cv
    rw [hh]
    rfl
  have hcb : zk_cbad W (lN m) j ↔ (zk_digitOf (zq_x T n c) (nI 16) = -1 ∨ zk_holds (zk_clo (zk_cv W (lN m)) j) (zk_chi (zk_cv W (lN m)) j) = 0) := by
    unfold zk_cbad
    rw [hh]
    exact Iff.rfl
  rcases zq_dg_x (c := c) hT (show 16 = 8 ∨ 16 = 16 ∨ 16 = 2 ∨ 16 = 10 by omega) with ⟨d1, d2⟩ | ⟨hlt, d, d1, d2, d3, d4, d5⟩
  · refine Or.inl ⟨hcb.mpr (Or.inl d1), zq_er_mk hI hct hcn (zq_dstop hT hcn hv hY h33 h36 hj ?_)⟩
    unfold zm_number2
    rw [if_pos (by rw [h37]; exact d2)]
    exact zm_error_30 hY.2.1
  · rw [d2, nI_l (by omega), lN_mul, lN_add] at hcv
    rw [hcv] at hcb
    obtain ⟨k1, k2⟩ := zk_clo_at (m := m * 16 + d) (k := j) hj (by omega)
    rw [k1, k2] at hcb
    have hp : ∀ k : Nat, k < 8 → 16 ^ k ≤ 268435456 ∧ 1 ≤ 16 ^ k := by decide +kernel
    obtain ⟨p2, p3⟩ := hp j hj
    have hbd : (m * 16 + d) * 16 ^ j ≤ 2 ^ 26 * 268435456 := Nat.mul_le_mul (by omega) p2
    have hge : m * 16 + d ≤ (m * 16 + d) * 16 ^ j := Nat.le_mul_of_pos_right _ p3
    have hor := zk_holds_or (lN ((m * 16 + d) * 16 ^ j)) (lN ((m * 16 + d) * 16 ^ j + (16 ^ j - 1)))
    have hat := zk_holds_at (a := (m * 16 + d) * 16 ^ j) (b := (m * 16 + d) * 16 ^ j + (16 ^ j - 1)) (by omega) (by omega)
    by_cases bad : zk_holds (lN ((m * 16 + d) * 16 ^ j)) (lN ((m * 16 + d) * 16 ^ j + (16 ^ j - 1))) = 0
    · refine Or.inl ⟨hcb.mpr (Or.inr bad), zq_er_mk hI hct hcn (zq_dstop hT hcn hv hY h33 h36 hj ?_)⟩
      have hw : zr_worth (zq_x T n c) < Y.1 37 := by rw [h37]; exact d4
      have ev : (nI m).toInt64 * (nI 16).toInt64 + (nI d).toInt64 = lN (m * 16 + d) := by
        rw [nI_l (by omega), nI_l (by omega), nI_l (by omega), lN_mul, lN_add]
      have e36 : Y.1 36 - 1 = nI j := by rw [h36, nI_pred]
      rw [zm_number2_nb, if_neg (fun z => z hw), e36]
      obtain ⟨M1, hM1⟩ : ∃ M1 : zm_M, M1 = zm_s Y 36 (nI j) := ⟨_, rfl⟩
      have r36 : M1.1 36 = nI j := by rw [hM1]; rfl
      have r37 : M1.1 37 = nI 16 := by rw [hM1]; exact h37
      have r38 : M1.1 38 = nI m := by rw [hM1]; exact h38
      have r40 : M1.1 40 = 0 := by rw [hM1]; exact h40
      have r30 : M1.1 30 = -1 := by rw [hM1]; exact hY.2.1
      have r27 : M1.1 27 = Y.1 27 := by rw [hM1]; rfl
      rw [← hM1, zm_nb_bad (w := lN (m * 16 + d)) (j := j) (by rw [r38, r37, d3, ev]) (by rw [r36, nI_clamp (by omega)]) ⟨r40, by rw [zr_least_at, zr_most_at]; exact hor.mp bad⟩, zm_error_30 r30, r27]
    · have hb : ¬ zk_cbad W (lN m) j := by
        intro z
        rcases hcb.mp z with z | z
        · exact d5 z
        · exact bad z
      have hmx : m * 16 + d ≤ 1114111 := Nat.le_of_not_lt (fun z => bad (hat.mpr (Or.inl (by omega))))
      obtain ⟨Z, z1, z2, z3, z4, z5, z6, z7, z8, z9, z10⟩ := zq_dstep hT (W := W) hlt hv hY h33 h39 h36 hj h37 (by omega) h38 (by omega) d3 d1 (fun _ => by rw [zr_least_at, zr_most_at]; exact fun z => bad (hor.mpr z)) (fun _ => hmx) rfl
      rw [if_neg (fun z => z h40)] at z10
      exact Or.inr ⟨hb, hlt, m * 16 + d, hcv, hmx, Z, z1, z2, z3, z4, z5, z6.trans h40, z7, z8, z9, z10⟩
theorem zq_codesL (hT : zq_T T n) (hv : v ≤ 20000) : ∀ (j c m : Nat) (W : zc_N) (Y : zm_M), m ≤ 1114111 → j < 8 → zc_I W → zq_ct T n W c → c ≤ n → zq_e T n Y c v 15 q → Y.1 33 = 0 → Y.1 39 = 0 → Y.1 36 = nI (j + 1) → Y.1 37 = nI 16 → Y.1 38 = nI m → Y.1 40 = 0 → (zk_codes (j + 1) W (lN m) = -1 ∧ zq_er n (zc_codes (j + 1) W (lN m)) Y) ∨ (c + (j + 1) ≤ n ∧ ∃ m' : Nat, zk_codes (j + 1) W (lN m) = nI m' ∧ zq_es T n W (zc_codes (j + 1) W (lN m)) Y (c + (j + 1)) v m' q (zk_bts (nI m'))) := by
  have hn := hT.1
  intro j
  induction j with
  | zero =>
    intro c m W Y hm hj hI hct hcn hY h33 h39 h36 h37 h38 h40
    rw [zk_codes_s rfl, zc_codes_s rfl]
    rcases zq_code1 hT hv hm hj hI hct hcn hY h33 h39 h36 h37 h38 h40 with ⟨b1, b2⟩ | ⟨b1, hlt, m', m1, m2, Z, z1, z2, z3, z4, z5, z6, z7, z8, -, z9⟩
    · rw [if_pos b1, if_pos b1]
      exact Or.inl ⟨rfl, b2⟩
    · rw [if_neg b1, if_neg b1, m1]
      obtain ⟨y1, y2, y3⟩ := z9 rfl
      exact Or.inr ⟨hlt, m', lN_i _, zc_step_at hT hct hlt, zi_step hI, zc_step_2, fun i a b c => zc_step_1 a b c, m2, Z, zq_e_q y1 z3 z2, z7, z1, z5, y2, y3, z8⟩
  | succ j ih =>
    intro c m W Y hm hj hI hct hcn hY h33 h39 h36 h37 h38 h40
    rw [zk_codes_s rfl, zc_codes_s rfl]
    rcases zq_code1 hT hv hm hj hI hct hcn hY h33 h39 h36 h37 h38 h40 with ⟨b1, b2⟩ | ⟨b1, hlt, m', m1, m2, Z, z1, z2, z3, z4, z5, z6, z7, z8, z9, -⟩
    · rw [if_pos b1, if_pos b1]
      exact Or.inl ⟨rfl, b2⟩
    · rw [if_neg b1, if_neg b1, m1]
      rcases ih (c + 1) m' (zc_step W) Z m2 (by omega) (zi_step hI) (zc_step_at hT hct hlt) hlt (z9 (by omega)) z1 z2 z3 z4 z5 z6 with ⟨r1, r2⟩ | ⟨r0, m'', r1, r2, r3, r4, r5, r6, Y', r7, r8, r9, r10, r11, r12, r13⟩
      · exact Or.inl ⟨r1, zq_er_back r2 z8⟩
      · have ec : c + 1 + (j + 1) = c + (j + 1 + 1) := by omega
        rw [ec] at r0 r2 r7
        exact Or.inr ⟨r0, m'', r1, r2, r3, r4.trans zc_step_2, fun i a b c => (r5 i a b c).trans (zc_step_1 a b c), r6, Y', r7, z7.tr r8 (Nat.le_refl _), r9, r10, r11, r12, fun F hF => z8 F (r13 F hF)⟩
end
