/-! Inside a token; a name. -/
def zq_mid (T : Nat → Int32) (n : Nat) (N : zc_N) (Y : zm_M) (c a t k u : Nat) (s : Int32) : Prop := zq_D T n N Y t k u ∧ zq_st T n N Y a u ∧ zq_mt T n Y c ∧ Y.1 21 = s
theorem zq_mid_s {T : Nat → Int32} {n : Nat} {N : zc_N} {Y : zm_M} {c a t k u : Nat} {s : Int32} (h : zq_mid T n N Y c a t k u s) (j : Nat) (v : Int32) (hj : j ≠ 2 ∧ j ≠ 3 ∧ j ≠ 15 ∧ j ≠ 17 ∧ j ≠ 23 ∧ j ≠ 24 ∧ j ≠ 25 ∧ j ≠ 27 ∧ j ≠ 28 ∧ j ≠ 29 ∧ j ≠ 30) : zq_mid T n N (zm_s Y j v) c a t k u (if j = 21 then v else s) := by
  obtain ⟨h1, ⟨h2, h3, h4, h5⟩, h6, h7⟩ := h
  have e : ∀ i : Nat, i ≠ j → (zm_s Y j v).1 i = Y.1 i := fun i hi => by
    show upd Y.1 j v i = _
    rw [zq_upd, if_neg hi]
  refine ⟨zq_D_frame h1 h1.1 (fun _ => rfl) (fun _ _ => rfl) rfl (fun i hi => e i (by omega)), ⟨h2, ?_, ?_, ?_⟩, zq_mt_eq h6 (fun i hi => e i (by omega)) rfl, ?_⟩
  · rw [e 23 (by omega)]; exact h3
  · rw [e 24 (by omega)]; exact h4
  · rw [e 25 (by omega)]; exact h5
  · by_cases c : j = 21
    · rw [if_pos c]
      show upd Y.1 j v 21 = v
      rw [zq_upd, if_pos c.symm]
    · rw [if_neg c, e 21 (by omega)]; exact h7
theorem zq_mid_fin {T : Nat → Int32} {n : Nat} {N : zc_N} {Y : zm_M} {c a t k u : Nat} {s : Int32} (h : zq_mid T n N Y c a t k u s) : zq_mid T n N (zm_fin Y (zq_x T n c)) (c + 1) a t k u s := by
  obtain ⟨h1, ⟨h2, h3, h4, h5⟩, h6, h7⟩ := h
  refine ⟨zq_D_fin h1 _, ⟨h2, ?_, ?_, ?_⟩, zm_fin_at h6, ?_⟩
  · rw [zm_fin_1 (by decide) (by decide) (by decide)]; exact h3
  · rw [zm_fin_1 (by decide) (by decide) (by decide)]; exact h4
  · rw [zm_fin_1 (by decide) (by decide) (by decide)]; exact h5
  · rw [zm_fin_1 (by decide) (by decide) (by decide)]; exact h7
theorem zq_mid_0 {T : Nat → Int32} {n : Nat} {N : zc_N} {M : zm_M} {a t k u : Nat} (h : zq_S T n N M a t k u) : zq_mid T n (zc_mark N) (zm_s (zm_begin M 0) 26 0) a a t k u 0 := by
  obtain ⟨g1, g2, g3, g4⟩ := zq_mark h 0
  exact zq_mid_s (j := 26) ⟨g1, g2, g4, rfl⟩ 0 (by decide)
/-- what a token begins with -/
def zm_gapT (M : zm_M) (x : Int32) : zm_M :=
  if ¬ zr_letter x = 0 then zm_s M 21 1 else
  if x = 48 then zm_s M 21 2 else
  if ¬ zr_digit x = 0 then zm_s M 21 5 else
  if x = 46 then zm_s M 21 12 else
  if x = 34 ∨ x = 39 then zm_opens M x 15 else
  if x = 96 then zm_opens M x 16 else
  if 0 < x ∧ x < 128 ∧ ¬ zr_signOf M (M.1 27) 0 x < 0 then zm_s M 21 14 else zm_error M
theorem zm_gap_tok {M : zm_M} {t : Nat} {x : Int32} (h30 : M.1 30 < 0) (h3 : M.1 3 = nI t) (ht : t < 16384) (hb : zr_blank x = 0) (h10 : ¬ x = 10) (hm : ¬ x = -1) (h47 : ¬ x = 47) : zm_gap M x = zm_gapT (zm_s (zm_begin M 0) 26 0) x := by
  have hf : (zm_s (zm_begin M 0) 26 0).1 3 < 16384 := by
    show M.1 3 < 16384
    rw [h3]
    exact nI_lt ht (by decide)
  have e1 : zr_room (zm_s (zm_begin M 0) 26 0) = 1 := by unfold zr_room; rw [if_pos hf]
  have e2 : ∀ p : Int32, zm_room (zm_s (zm_begin M 0) 26 0) p = zm_s (zm_begin M 0) 26 0 := fun p => by unfold zm_room; rw [if_pos hf]
  unfold zm_gap
  dsimp only
  rw [if_neg (fun z => z h30), if_neg (fun z => z hb), if_neg (fun z => by rcases z with z | z; exact h10 z; exact hm z), if_neg h47, e1, e2, if_neg (by decide)]
  rfl
theorem zm_gap_47 {M : zm_M} (h30 : M.1 30 < 0) : zm_gap M 47 = zm_s (zm_s (zm_begin M 0) 26 0) 21 17 := by
  unfold zm_gap
  dsimp only
  rw [if_neg (fun z => z h30), if_neg (fun z => z (by decide)), if_neg (by decide), if_pos rfl]
theorem zq_N {T : Nat → Int32} {n : Nat} (hT : zq_T T n) {N : zc_N} {M : zm_M} {t k u : Nat} (h : zq_D T n N M t k u) (ht : t ≤ 16383) : zm_N M := by
  have hn := hT.1
  obtain ⟨d1, d2, d3, ⟨⟨d4, d5, d6, d7, d8, d9⟩, d10, d11⟩, ⟨n1, n2, n3, Q, W, n4, -, -, n5, n6⟩, d12⟩ := h
  refine ⟨⟨k, n2, by omega⟩, fun j hj => ?_, fun j hj hj2 => ?_⟩
  · rw [n5 j hj, n2]
    exact (zq_last_lt _ _ k (by omega)).1
  · rw [n2] at hj
    have hjk : j < k := z_lit (by omega) (by omega) hj
    obtain ⟨f, p, f1, f2, f3, f4, f5, f6, f7, f8, f9, f10, f11, f12⟩ := n4 j hjk
    refine ⟨?_, f, f3, by omega, ?_, Q j, W j, f4, f5, by omega⟩
    · rw [n6 j hjk]
      exact (zq_last_lt _ _ j (by omega)).1
    · rw [d5]
      exact nI_lt f1 (by omega)
theorem zm_ok_1 {M : zm_M} (h : M.1 21 = 1) (hT : zm_T M) (hB : zm_B M) (hl : M.1 23 < M.1 27) (hN : zm_N M) : zm_ok M := by
  refine ⟨0, 0, hT, fun _ => ⟨hB, hl, hN⟩, ?_, ?_, ?_⟩
  · rw [h]; exact fun z => absurd (by decide) z
  · rw [h]; exact fun z => absurd z (by decide)
  · rw [h]; exact fun z => absurd z (by decide)
/-- the first byte that is no part of a name -/
theorem zq_first {T : Nat → Int32} {n : Nat} (P : Int32 → Prop) [DecidablePred P] (hP : ¬ P (-1)) : ∀ (m a : Nat), a + m = n → ∃ b : Nat, a ≤ b ∧ b ≤ n ∧ (∀ i : Nat, a ≤ i → i < b → P (zq_x T n i)) ∧ ¬ P (zq_x T n b) := by
  intro m
  induction m with
  | zero => intro a h; exact ⟨a, Nat.le_refl _, by omega, fun i x y => absurd x (by omega), by rw [zq_xe (by omega)]; exact hP⟩
  | succ m ih =>
    intro a h
    by_cases c : P (zq_x T n a)
    · obtain ⟨b, b1, b2, b3, b4⟩ := ih (a + 1) (by omega)
      refine ⟨b, by omega, b2, fun i x y => ?_, b4⟩
      rcases Nat.lt_or_ge a i with q | q
      · exact b3 i (by omega) y
      · have : i = a := by omega
        rw [this]; exact c
    · exact ⟨a, Nat.le_refl _, by omega, fun i x y => absurd x (by omega), c⟩
abbrev zq_part (x : Int32) : Prop := ¬ zk_isPart x = 0
theorem zq_part_r {x : Int32} : zq_part x ↔ (¬ zr_letter x = 0 ∨ ¬ zr_digit x = 0) := by
  unfold zq_part zk_isPart
  have e1 : zk_isLetter x = zr_letter x := rfl
  have e2 : zk_isDigit x = zr_digit x := rfl
  rw [e1, e2]
  by_cases c : ¬ zr_letter x = 0 ∨ ¬ zr_digit x = 0
  · rw [if_pos c]; exact ⟨fun _ => c, fun _ => by decide⟩
  · rw [if_neg c]; exact ⟨fun z => absurd rfl z, fun z => absurd z c⟩
/-- the class reads a name: bytes c .. b of it -/
theorem zc_name_at {T : Nat → Int32} {n : Nat} (hT : zq_T T n) {b : Nat} (hbn : b ≤ n) (hb : ¬ zq_part (zq_x T n b)) (a : Nat) : ∀ (m d c v : Nat) (N : zc_N), c + d = b → d < m → (∀ i : Nat, c ≤ i → i < b → zq_part (zq_x T n i)) → zc_I N → zq_ct T n N c → N.1 1 = nI v → v + d ≤ 60000 → a ≤ c → zq_ct T n (zc_name m N) b ∧ (zc_name m N).1 1 = nI (v + d) ∧ (∀ i : Nat, i < v → (zc_name m N).2.1 0 i = N.2.1 0 i) ∧ (∀ i : Nat, i < d → (zc_name m N).2.1 0 (v + i) = T (c + i)) ∧ (zc_name m N).1 65 = N.1 65 ∧ zk_hash m N (zq_h1 T a (c - a)) = zq_h1 T a (b - a) := by
  have hn := hT.1
  intro m
  induction m with
  | zero => intro d c v N h1 h2; omega
  | succ m ih =>
    intro d c v N h1 h2 h3 hI hc hv hvd hac
    rw [zc_name_s rfl, zk_hash_s rfl, zk_here_at hT hc (by omega)]
    by_cases q : d = 0
    · subst q
      have e : c = b := by omega
      subst e
      have e0 : zk_isPart (zq_x T n c) = 0 := Decidable.byContradiction hb
      rw [if_pos e0, if_pos e0]
      exact ⟨hc, hv, fun _ _ => rfl, fun i hi => absurd hi (by omega), rfl, rfl⟩
    · have hp := h3 c (Nat.le_refl _) (by omega)
      rw [if_neg hp, if_neg hp]
      obtain ⟨k1, k2, k3, k4⟩ := zc_keepB_at hT hI hc (by omega) hv (by omega)
      have k5 : (zc_keepB N).1 65 = N.1 65 := by
        have e1 : (zc_append N (zk_here N)).1 65 = N.1 65 := (zc_append_at hI hv (by omega) (zk_here N)).2.2.2.1 65 (by decide)
        unfold zc_keepB
        rw [zc_step_1 (by decide) (by decide) (by decide)]
        exact e1
      obtain ⟨i1, i2, i3, i4, i5, i6⟩ := ih (d - 1) (c + 1) (v + 1) (zc_keepB N) (by omega) (by omega) (fun i x y => h3 i (by omega) y) (zi_keepB hI) k1 k2 (by omega) (by omega)
      refine ⟨i1, by rw [i2]; congr 1; omega, fun i hi => (i3 i (by omega)).trans (k3 i hi), fun i hi => ?_, i5.trans k5, ?_⟩
      · rcases Nat.eq_zero_or_pos i with z | z
        · subst z
          rw [Nat.add_zero, Nat.add_zero, i3 v (by omega)]
          exact k4
        · have := i4 (i - 1) (by omega)
          rw [show v + 1 + (i - 1) = v + i from by omega, show c + 1 + (i - 1) = c + i from by omega] at this
          exact this
      · have e : zq_h1 T a (c - a) * 31 + zq_x T n c = zq_h1 T a (c + 1 - a) := by
          rw [show c + 1 - a = (c - a) + 1 from by omega]
          show _ = zq_h1 T a (c - a) * 31 + (T (a + (c - a)) &&& 255)
          rw [show a + (c - a) = c from by omega]
          unfold zq_x
          rw [if_pos (by omega)]
        rw [e]
        exact i6
/-- the reference reads on in a name -/
theorem zt_name {T : Nat → Int32} {n : Nat} (hT : zq_T T n) {N : zc_N} {a b t k u : Nat} (hbn : b ≤ n) (hua : u ≤ a) (hta : t ≤ a) : ∀ (d c : Nat) (Y : zm_M), c + d = b → a < c → (∀ i : Nat, c ≤ i → i < b → zq_part (zq_x T n i)) → zq_mid T n N Y c a t k u 1 → ∃ Y' : zm_M, zq_mid T n N Y' b a t k u 1 ∧ ∀ F : zm_M, zt Y' F → zt Y F := by
  have hn := hT.1
  intro d
  induction d with
  | zero =>
    intro c Y h1 h2 h3 h4
    have : c = b := by omega
    subst this
    exact ⟨Y, h4, fun _ h => h⟩
  | succ d ih =>
    intro c Y h1 h2 h3 h4
    have h9 := h4
    obtain ⟨hD, ⟨-, s5, s6, s7⟩, hm, h21⟩ := h9
    obtain ⟨Y', y1, y2⟩ := ih (c + 1) (zm_fin Y (zq_x T n c)) (by omega) (by omega) (fun i x y => h3 i (by omega) y) (zq_mid_fin h4)
    refine ⟨Y', y1, fun F hF => ?_⟩
    have hK := hD.2.2.2.1.1
    refine zt_step hT hm (by omega) (by rw [hD.2.2.1]; exact zq_m1) (zm_ok_1 h21 (zm_T_at hK.2.1 hD.2.2.2.1.2.1) ⟨c, a, u, hm.2.2.1, s5, hK.2.2.2.2.1, by omega, by omega, hua⟩ ?_ (zq_N hT hD (by omega))) ?_
    · rw [s5, hm.2.2.1]
      exact nI_lt h2 (by omega)
    · have e : zm_step Y (zq_x T n c) = Y := by
        unfold zm_step
        rw [h21, if_neg (by decide), if_pos ⟨rfl, zq_part_r.mp (h3 c (Nat.le_refl _) (by omega))⟩]
      rw [e]
      exact y2 F hF
theorem zw_find_congr {f g : Nat → Int32} {m : Nat} (hm : m < 2 ^ 31) (h : ∀ j : Nat, j < m → f j = g j) : ∀ (L : List (List Int32)) (i : Int32), (∀ w ∈ L, w.length < 100) → zw_find L f (nI m) i = zw_find L g (nI m) i := by
  intro L
  induction L with
  | nil => intro i _; rfl
  | cons w L ih =>
    intro i hL
    have hw : w.length < 100 := hL w (List.mem_cons_self ..)
    have e := ih (i + 1) fun x hx => hL x (List.mem_cons_of_mem _ hx)
    have q : (nI w.length = nI m ∧ ∀ j, j < w.length → w.getD j 0 = f j) ↔ (nI w.length = nI m ∧ ∀ j, j < w.length → w.getD j 0 = g j) := by
      constructor
      · rintro ⟨h1, h2⟩
        have : w.length = m := z_injC (by omega) hm h1
        exact ⟨h1, fun j hj => (h2 j hj).trans (h j (by omega))⟩
      · rintro ⟨h1, h2⟩
        have : w.length = m := z_injC (by omega) hm h1
        exact ⟨h1, fun j hj => (h2 j hj).trans (h j (by omega)).symm⟩
    show (if nI w.length = nI m ∧ ∀ j, j < w.length → w.getD j 0 = f j then i else zw_find L f (nI m) (i + 1)) = (if nI w.length = nI m ∧ ∀ j, j < w.length → w.getD j 0 = g j then i else zw_find L g (nI m) (i + 1))
    rw [e]
    by_cases c : nI w.length = nI m ∧ ∀ j, j < w.length → w.getD j 0 = f j
    · rw [if_pos c, if_pos (q.mp c)]
    · rw [if_neg c, if_neg (fun z => c (q.mpr z))]
