/-! A character of a rune or a string, read by both. -/
def zq_us (T : Nat → Int32) (n : Nat) (X Z : zc_N) (kv : Int32) (Y : zm_M) (c v : Nat) (q : Int32) : Prop := ∃ (d m : Nat) (l : List Int32) (Y' : zm_M), 1 ≤ d ∧ c + d ≤ n ∧ kv = nI m ∧ m ≤ 1114111 ∧ zq_ct T n Z (c + d) ∧ zc_I Z ∧ Z.2 = X.2 ∧ (∀ i : Nat, i ≠ 42 → i ≠ 62 → i ≠ 63 → i ≠ 64 → Z.1 i = X.1 i) ∧ l = (if Z.1 42 = 0 then zk_bts kv else [kv]) ∧ l.length ≤ d ∧ zq_q T n Y' (c + d) (v + l.length) 15 q ∧ zq_fr Y Y' v ∧ Y'.1 33 = 0 ∧ Y'.1 38 = nI m ∧ Y'.1 41 = 1 ∧ (∀ i : Nat, i < l.length → Y'.2.1 16 (v + i) = vp_nar .byte (l.getD i 0).toInt8.toInt32) ∧ ∀ F : zm_M, zt Y' F → zt Y F
theorem zq_oct_t : ∀ v : Nat, v < 256 → ¬ nI v < 48 → ¬ 51 < nI v → zk_digitOf (nI v) (nI 8) = nI (v - 48) ∧ nI v - 48 = nI (v - 48) ∧ v - 48 < 4 ∧ ¬ zk_digitOf (nI v) (nI 8) = -1 := by decide +kernel
theorem zm_esc_at {Y : zm_M} {x : Int32} : zm_escape Y x = if zr_short x < 8 ∨ x = Y.1 32 then zm_s (zm_keep (zm_s (zm_s (zm_s Y 39 0) 38 0) 38 (zr_sv x)) (zr_sv x)) 41 1 else if ¬ x < 48 ∧ ¬ 51 < x then zm_s (zm_s (zm_s (zm_s (zm_s (zm_s Y 39 0) 38 0) 36 2) 37 8) 38 (x - 48)) 40 1 else if x = 120 ∨ x = 117 ∨ x = 85 then zm_s (zm_s (zm_s (zm_s (zm_s Y 39 0) 38 0) 36 (zr_dg x)) 37 16) 40 (zr_ib x) else zm_error (zm_s (zm_s Y 39 0) 38 0) := rfl
theorem zc_s_62 {T : Nat → Int32} {n c : Nat} {X : zc_N} {w : Int32} (h : zq_ct T n X c) : zq_ct T n (zc_s X 42 w) c := zq_ct_eq h (fun j hj => by
  show upd X.1 42 w j = _
  rw [zq_upd, if_neg (by omega)]) rfl
section
variable {T : Nat → Int32} {n : Nat} {v : Nat} {q : Int32}
theorem zq_esc (hT : zq_T T n) (hq : q = 34 ∨ q = 39) {W : zc_N} {Y : zm_M} {c : Nat} (hv : v ≤ 15000) (hI : zc_I W) (hct : zq_ct T n W c) (hcn : c ≤ n) (h42 : W.1 42 = 0) (hY : zq_e T n Y c v 15 q) (h33 : Y.1 33 = 0) (h36 : Y.1 36 = 0) (h39 : Y.1 39 = 1) : (zk_esc W q = -1 ∧ zq_er n (zc_esc W q) Y) ∨ zq_us T n W (zc_esc W q) (zk_esc W q) Y c v q := by
  have hn := hT.1
  have hh : zk_here W = zq_x T n c := zk_here_at hT hct (by omega)
  have h32 : Y.1 32 = q := hY.2.2.2.1
  have hD : 0 < Y.1 36 → ∃ D : Nat, D < 100 ∧ Y.1 36 = nI (D + 1) := fun z => absurd z (by rw [h36]; decide)
  have hst : zm_step Y (zq_x T n c) = zm_escape Y (zq_x T n c) := by
    rw [zm_step_q (Or.inl hY.2.2.2.2.1)]
    unfold zm_quoted
    rw [if_neg (by rw [h33]; decide), if_neg (by rw [h36]; decide), if_pos (by rw [h39]; decide)]
  rw [zm_esc_at, h32] at hst
  have hpl : (¬ zk_plainQ (zq_x T n c) q = -1 ∧ (zr_short (zq_x T n c) < 8 ∨ zq_x T n c = q) ∧ c < n ∧ ∃ m : Nat, m < 128 ∧ zk_plainQ (zq_x T n c) q = nI m ∧ zr_sv (zq_x T n c) = nI m) ∨ (zk_plainQ (zq_x T n c) q = -1 ∧ ¬ (zr_short (zq_x T n c) < 8 ∨ zq_x T n c = q)) := by
    unfold zk_plainQ
    by_cases z : zq_x T n c = q
    · rw [if_pos z]
      refine Or.inl ⟨?_, Or.inr z, ?_, ?_⟩
      · rcases hq with y | y <;> rw [y] <;> decide
      · exact zq_lt (by rw [z]; rcases hq with y | y <;> rw [y] <;> decide)
      · rw [z]
        rcases hq with y | y
        · exact ⟨34, by decide, by rw [y]; rfl, by rw [y]; decide⟩
        · exact ⟨39, by decide, by rw [y]; rfl, by rw [y]; decide⟩
    · rw [if_neg z]
      rcases Nat.lt_or_ge c n with y | y
      · obtain ⟨w, w1, -, w3⟩ := zq_xv hT y
        rw [w3] at z ⊢
        rcases zq_plain_t w w1 with ⟨p1, p2, p3, p4, p5⟩ | ⟨p1, p2, p3⟩
        · obtain ⟨m, m1, m2⟩ := nI_of p4
          refine Or.inl ⟨p2, Or.inl p1, y, m, ?_, by rw [p3, m2], m2⟩
          rw [m2] at p5
          exact z_lit (b := 128) m1 (by omega) p5
        · exact Or.inr ⟨p2, fun h => by rcases h with h | h; exact p1 h; exact z h⟩
      · rw [zq_xe y] at z ⊢
        exact Or.inr ⟨zr_short_m.2, fun h => by rcases h with h | h; exact zr_short_m.1 h; exact z h⟩
  have h21 : Y.1 21 = 15 := hY.2.2.2.2.1
  unfold zk_esc zc_esc
  rw [hh]
  rcases hpl with ⟨p1, p2, hlt, m, m1, m2, m3⟩ | ⟨p1, p2⟩
  · -- one byte meant
    rw [if_pos p1, if_pos p1, m2]
    rw [if_pos p2, m3] at hst
    obtain ⟨k1, k2, k3, k4, k5, k6⟩ := zm_keep_at (M := zm_s (zm_s (zm_s Y 39 0) 38 0) 38 (nI m)) (u := v) hY.2.2.1 (by omega) (nI m)
    have o : ∀ k : Nat, k ≠ 38 → k ≠ 39 → (zm_s (zm_s (zm_s Y 39 0) 38 0) 38 (nI m)).1 k = Y.1 k := fun k a b => by
      show upd (upd (upd Y.1 39 0) 38 0) 38 (nI m) k = _
      rw [zq_upd, if_neg a, zq_upd, if_neg a, zq_upd, if_neg b]
    have o38 : (zm_s (zm_s (zm_s Y 39 0) 38 0) 38 (nI m)).1 38 = nI m := rfl
    have o39 : (zm_s (zm_s (zm_s Y 39 0) 38 0) 38 (nI m)).1 39 = 0 := rfl
    have o2 : (zm_s (zm_s (zm_s Y 39 0) 38 0) 38 (nI m)).2 = Y.2 := rfl
    generalize zm_s (zm_s (zm_s Y 39 0) 38 0) 38 (nI m) = M1 at hst k1 k2 k3 k4 k5 k6 o o38 o39 o2
    generalize zm_keep M1 (nI m) = M2 at hst k1 k2 k3 k4 k5 k6
    have r : ∀ k : Nat, k ≠ 41 → (zm_s M2 41 1).1 k = M2.1 k := fun k a => by
      show upd M2.1 41 1 k = _
      rw [zq_upd, if_neg a]
    have r41 : (zm_s M2 41 1).1 41 = 1 := rfl
    have r2 : (zm_s M2 41 1).2 = M2.2 := rfl
    generalize zm_s M2 41 1 = R at hst r r41 r2
    obtain ⟨Z, z1, z2, z3, z4, z5⟩ := zq_go2 hT hY (Or.inl rfl) hcn (by omega) hD hst (v' := v + 1) (s' := 15) ⟨fun k a b _ _ _ d => by rw [r k (by omega), k1 k a, o k (by omega) (by omega)], fun a ha => by rw [r2, k5 a ha, o2], fun i hi => by rw [r2, k3 i hi, o2], by rw [r2, k6, o2]⟩ (by rw [r 15 (by decide)]; exact k2) (by rw [r 21 (by decide), k1 21 (by decide), o 21 (by decide) (by decide)]; exact h21) (fun k hk => by rw [r k (by omega), k1 k (by omega), o k (by omega) (by omega)])
    have eb : zk_bts (nI m) = [nI m] := by
      unfold zk_bts
      rw [if_pos (show nI m < 128 from nI_lt (b := 128) m1 (by omega))]
    have e42 : (zc_step W).1 42 = 0 := (zc_step_1 (by decide) (by decide) (by decide)).trans h42
    refine Or.inr ⟨1, m, [nI m], Z, by omega, hlt, rfl, by omega, zc_step_at hT hct hlt, zi_step hI, zc_step_2, fun i _ a b c => zc_step_1 a b c, by rw [if_pos e42, eb], Nat.le_refl _, zq_e_q z3 ?_ ?_, z4, ?_, ?_, ?_, fun i hi => ?_, z5⟩
    · rw [z1 36 (by decide) (by decide) (by decide), r 36 (by decide), k1 36 (by decide), o 36 (by decide) (by decide)]; exact h36
    · rw [z1 39 (by decide) (by decide) (by decide), r 39 (by decide), k1 39 (by decide)]; exact o39
    · rw [z1 33 (by decide) (by decide) (by decide), r 33 (by decide), k1 33 (by decide), o 33 (by decide) (by decide)]; exact h33
    · rw [z1 38 (by decide) (by decide) (by decide), r 38 (by decide), k1 38 (by decide)]; exact o38
    · rw [z1 41 (by decide) (by decide) (by decide)]; exact r41
    · have : i = 0 := by
        have : [nI m].length = 1 := rfl
        omega
      subst this
      rw [z2, r2, Nat.add_zero, k4]
      rfl
  · have p1' : ¬ ¬ zk_plainQ (zq_x T n c) q = -1 := fun z => z p1
    rw [if_neg p1', if_neg p1']
    rw [if_neg p2] at hst
    by_cases c8 : ¬ zq_x T n c < 48 ∧ ¬ 51 < zq_x T n c
    · -- octal
      rw [if_pos c8, if_pos c8]
      rw [if_pos c8] at hst
      have hlt : c < n := zq_lt (fun z => by rw [z] at c8; exact absurd c8.1 (by decide))
      obtain ⟨w, w1, -, w3⟩ := zq_xv hT hlt
      rw [w3] at c8
      obtain ⟨t1, t2, t3, t4⟩ := zq_oct_t w w1 c8.1 c8.2
      rw [w3, t2] at hst
      have hX1 : zq_ct T n (zc_s W 42 1) c := zc_s_62 hct
      have hh1 : zk_here (zc_s W 42 1) = nI w := (zk_here_at hT hX1 (by omega)).trans w3
      have eb : zk_byteV W 8 3 = zk_bytes (nI 8) (1 + 1) (zc_step (zc_s W 42 1)) (nI (w - 48)) := by
        unfold zk_byteV
        rw [zk_bytes_s (show (3 : Nat) = 2 + 1 from rfl), hh1]
        show (if zk_digitOf (nI w) (nI 8) = -1 then -1 else zk_bytes 8 2 (zc_step (zc_s W 42 1)) (0 * 8 + zk_digitOf (nI w) (nI 8))) = _
        rw [if_neg t4, t1]
        show zk_bytes (nI 8) (1 + 1) (zc_step (zc_s W 42 1)) (0 * 8 + nI (w - 48)) = _
        have : (0 : Int32) * 8 + nI (w - 48) = nI (w - 48) := by
          rw [show (0 : Int32) * 8 = nI 0 from by decide, nI_add, Nat.zero_add]
        rw [this]
      have ec : zc_byteV W 8 3 = zc_bytes (nI 8) (1 + 1) (zc_step (zc_s W 42 1)) := by
        unfold zc_byteV
        rw [zc_bytes_s (show (3 : Nat) = 2 + 1 from rfl), hh1]
        show (if zk_digitOf (nI w) (nI 8) = -1 then zc_refuse (zc_s W 42 1) else zc_bytes 8 2 (zc_step (zc_s W 42 1))) = _
        rw [if_neg t4]
        rfl
      rw [eb, ec]
      obtain ⟨R, eR⟩ : ∃ R : zm_M, R = zm_s (zm_s (zm_s (zm_s (zm_s (zm_s Y 39 0) 38 0) 36 2) 37 8) 38 (nI (w - 48))) 40 1 := ⟨_, rfl⟩
      rw [← eR, ← w3] at hst
      have o : ∀ k : Nat, k ≠ 36 → k ≠ 37 → k ≠ 38 → k ≠ 39 → k ≠ 40 → R.1 k = Y.1 k := fun k a b d e f => by
        rw [eR]
        show upd (upd (upd (upd (upd (upd Y.1 39 _) 38 _) 36 _) 37 _) 38 _) 40 _ k = _
        rw [zq_upd, if_neg f, zq_upd, if_neg d, zq_upd, if_neg b, zq_upd, if_neg a, zq_upd, if_neg d, zq_upd, if_neg e]
      have r36 : R.1 36 = nI (1 + 1) := by rw [eR]; rfl
      have r37 : R.1 37 = nI 8 := by rw [eR]; rfl
      have r38 : R.1 38 = nI (w - 48) := by rw [eR]; rfl
      have r39 : R.1 39 = 0 := by rw [eR]; rfl
      have r40 : R.1 40 = 1 := by rw [eR]; rfl
      have r2 : R.2 = Y.2 := by rw [eR]
      clear eR
      obtain ⟨Z, z1, z2, z3, z4, z5⟩ := zq_go2 hT hY (Or.inl rfl) hcn (by omega) hD hst (v' := v) (s' := 15) ⟨fun k _ _ _ _ _ d => o k (by omega) (by omega) (by omega) (by omega) (by omega), fun a _ => by rw [r2], fun i _ => by rw [r2], by rw [r2]⟩ ((o 15 (by decide) (by decide) (by decide) (by decide) (by decide)).trans hY.2.2.1) ((o 21 (by decide) (by decide) (by decide) (by decide) (by decide)).trans h21) (fun k hk => o k (by omega) (by omega) (by omega) (by omega) (by omega))
      have g : ∀ k : Nat, k ≠ 27 → k ≠ 28 → k ≠ 29 → Z.1 k = R.1 k := z1
      rcases zq_bytesL hT (Or.inl rfl) (show v ≤ 20000 by omega) 1 (c + 1) (w - 48) (zc_step (zc_s W 42 1)) Z (by omega) (by omega) (zi_step (zi_42 hI)) (zc_step_at hT hX1 hlt) hlt z3 (by rw [g 33 (by decide) (by decide) (by decide), o 33 (by decide) (by decide) (by decide) (by decide) (by decide)]; exact h33) (by rw [g 39 (by decide) (by decide) (by decide)]; exact r39) (by rw [g 36 (by decide) (by decide) (by decide)]; exact r36) (by rw [g 37 (by decide) (by decide) (by decide)]; exact r37) (by rw [g 38 (by decide) (by decide) (by decide)]; exact r38) (by rw [g 40 (by decide) (by decide) (by decide), r40]; decide) with ⟨b1, b2⟩ | ⟨b0, m', b1, b2, b3, b4, b5, b6, Y', b7, b8, b9, b10, b11, b12, b13⟩
      · exact Or.inl ⟨b1, zq_er_back b2 z5⟩
      · have ecd : c + 1 + (1 + 1) = c + 3 := by omega
        rw [ecd] at b0 b2 b7
        have s1 : ∀ i : Nat, i ≠ 42 → i ≠ 62 → i ≠ 63 → i ≠ 64 → (zc_step (zc_s W 42 1)).1 i = W.1 i := fun i a b c d => (zc_step_1 b c d).trans (by
          show upd W.1 42 1 i = _
          rw [zq_upd, if_neg a])
        have e42 : ¬ (zc_bytes (nI 8) (1 + 1) (zc_step (zc_s W 42 1))).1 42 = 0 := by
          rw [b5 42 (by decide) (by decide) (by decide), zc_step_1 (by decide) (by decide) (by decide)]
          show ¬ (1 : Int32) = 0
          decide
        exact Or.inr ⟨3, m', [nI m'], Y', by omega, b0, b1, b6, b2, b3, b4.trans zc_step_2, fun i a b c d => (b5 i b c d).trans (s1 i a b c d), by rw [if_neg e42, b1], by simp, b7, z4.tr b8 (Nat.le_refl _), b9, b10, b11, b12, fun F hF => z5 F (b13 F hF)⟩
    · rw [if_neg c8, if_neg c8]
      rw [if_neg c8] at hst
      by_cases cx : zq_x T n c = 120 ∨ zq_x T n c = 117 ∨ zq_x T n c = 85
      · have cx' : ¬ (¬ zq_x T n c = 120 ∧ ¬ zq_x T n c = 117 ∧ ¬ zq_x T n c = 85) := fun z => by
          rcases cx with y | y | y
          · exact z.1 y
          · exact z.2.1 y
          · exact z.2.2 y
        rw [if_neg cx', if_neg cx']
        rw [if_pos cx] at hst
        have hlt : c < n := zq_lt (fun z => by rw [z] at cx; exact absurd cx (by decide))
        obtain ⟨R, eR⟩ : ∃ R : zm_M, R = zm_s (zm_s (zm_s (zm_s (zm_s Y 39 0) 38 0) 36 (zr_dg (zq_x T n c))) 37 16) 40 (zr_ib (zq_x T n c)) := ⟨_, rfl⟩
        rw [← eR] at hst
        have o : ∀ k : Nat, k ≠ 36 → k ≠ 37 → k ≠ 38 → k ≠ 39 → k ≠ 40 → R.1 k = Y.1 k := fun k a b d e f => by
          rw [eR]
          show upd (upd (upd (upd (upd Y.1 39 _) 38 _) 36 _) 37 _) 40 _ k = _
          rw [zq_upd, if_neg f, zq_upd, if_neg b, zq_upd, if_neg a, zq_upd, if_neg d, zq_upd, if_neg e]
        have r36 : R.1 36 = zr_dg (zq_x T n c) := by rw [eR]; rfl
        have r37 : R.1 37 = nI 16 := by rw [eR]; rfl
        have r38 : R.1 38 = nI 0 := by rw [eR]; rfl
        have r39 : R.1 39 = 0 := by rw [eR]; rfl
        have r40 : R.1 40 = zr_ib (zq_x T n c) := by rw [eR]; rfl
        have r2 : R.2 = Y.2 := by rw [eR]
        clear eR
        obtain ⟨Z, z1, z2, z3, z4, z5⟩ := zq_go2 hT hY (Or.inl rfl) hcn (by omega) hD hst (v' := v) (s' := 15) ⟨fun k _ _ _ _ _ d => o k (by omega) (by omega) (by omega) (by omega) (by omega), fun a _ => by rw [r2], fun i _ => by rw [r2], by rw [r2]⟩ ((o 15 (by decide) (by decide) (by decide) (by decide) (by decide)).trans hY.2.2.1) ((o 21 (by decide) (by decide) (by decide) (by decide) (by decide)).trans h21) (fun k hk => o k (by omega) (by omega) (by omega) (by omega) (by omega))
        have g33 : Z.1 33 = 0 := by rw [z1 33 (by decide) (by decide) (by decide), o 33 (by decide) (by decide) (by decide) (by decide) (by decide)]; exact h33
        have g36 : Z.1 36 = zr_dg (zq_x T n c) := by rw [z1 36 (by decide) (by decide) (by decide)]; exact r36
        have g37 : Z.1 37 = nI 16 := by rw [z1 37 (by decide) (by decide) (by decide)]; exact r37
        have g38 : Z.1 38 = nI 0 := by rw [z1 38 (by decide) (by decide) (by decide)]; exact r38
        have g39 : Z.1 39 = 0 := by rw [z1 39 (by decide) (by decide) (by decide)]; exact r39
        have g40 : Z.1 40 = zr_ib (zq_x T n c) := by rw [z1 40 (by decide) (by decide) (by decide)]; exact r40
        have hcs := zc_step_at hT hct hlt
        by_cases c120 : zq_x T n c = 120
        · rw [if_pos c120, if_pos c120]
          rw [c120] at g36 g40
          have hX1 : zq_ct T n (zc_s (zc_step W) 42 1) (c + 1) := zc_s_62 hcs
          have eb : zk_byteV (zc_step W) 16 2 = zk_bytes (nI 16) (1 + 1) (zc_s (zc_step W) 42 1) (nI 0) := rfl
          have ec : zc_byteV (zc_step W) 16 2 = zc_bytes (nI 16) (1 + 1) (zc_s (zc_step W) 42 1) := rfl
          have e2 : (zc_s (zc_step W) 42 1).2 = W.2 := by
            show (zc_step W).2 = W.2
            exact zc_step_2
          rw [eb, ec]
          rcases zq_bytesL hT (Or.inr rfl) (show v ≤ 20000 by omega) 1 (c + 1) 0 (zc_s (zc_step W) 42 1) Z (by decide) (by omega) (zi_42 (zi_step hI)) hX1 hlt z3 g33 g39 g36 g37 g38 (by rw [g40]; decide) with ⟨b1, b2⟩ | ⟨b0, m', b1, b2, b3, b4, b5, b6, Y', b7, b8, b9, b10, b11, b12, b13⟩
          · exact Or.inl ⟨b1, zq_er_back b2 z5⟩
          · have ecd : c + 1 + (1 + 1) = c + 3 := by omega
            rw [ecd] at b0 b2 b7
            have s1 : ∀ i : Nat, i ≠ 42 → i ≠ 62 → i ≠ 63 → i ≠ 64 → (zc_s (zc_step W) 42 1).1 i = W.1 i := fun i a b c d => by
              show upd (zc_step W).1 42 1 i = _
              rw [zq_upd, if_neg a]
              exact zc_step_1 b c d
            have e42 : ¬ (zc_bytes (nI 16) (1 + 1) (zc_s (zc_step W) 42 1)).1 42 = 0 := by
              rw [b5 42 (by decide) (by decide) (by decide)]
              show ¬ (1 : Int32) = 0
              decide
            exact Or.inr ⟨3, m', [nI m'], Y', by omega, b0, b1, b6, b2, b3, b4.trans e2, fun i a b c d => (b5 i b c d).trans (s1 i a b c d), by rw [if_neg e42, b1], by simp, b7, z4.tr b8 (Nat.le_refl _), b9, b10, b11, b12, fun F hF => z5 F (b13 F hF)⟩
        · rw [if_neg c120, if_neg c120]
          have e40 : Z.1 40 = 0 := by
            rw [g40]
            unfold zr_ib
            rw [if_neg c120]
          obtain ⟨j, j1, j2, j3, j4⟩ : ∃ j : Nat, j < 8 ∧ 3 ≤ j ∧ zr_dg (zq_x T n c) = nI (j + 1) ∧ zk_ud (zq_x T n c) = j + 1 := by
            rcases cx with y | y | y
            · exact absurd y c120
            · exact ⟨3, by omega, by omega, by rw [y]; decide, by rw [y]; decide⟩
            · exact ⟨7, by omega, by omega, by rw [y]; decide, by rw [y]; decide⟩
          rw [j3] at g36
          have l0 : (0 : Int64) = lN 0 := rfl
          rw [j4, l0]
          rcases zq_codesL hT (show v ≤ 20000 by omega) j (c + 1) 0 (zc_step W) Z (by omega) j1 (zi_step hI) hcs hlt z3 g33 g39 g36 g37 g38 e40 with ⟨b1, b2⟩ | ⟨b0, m', b1, b2, b3, b4, b5, b6, Y', b7, b8, b9, b10, b11, b12, b13⟩
          · exact Or.inl ⟨b1, zq_er_back b2 z5⟩
          · have ecd : c + 1 + (j + 1) = c + (j + 2) := by omega
            rw [ecd] at b0 b2 b7
            have e42 : (zc_codes (j + 1) (zc_step W) (lN 0)).1 42 = 0 := by
              rw [b5 42 (by decide) (by decide) (by decide), zc_step_1 (by decide) (by decide) (by decide)]
              exact h42
            exact Or.inr ⟨j + 2, m', zk_bts (nI m'), Y', by omega, b0, b1, b6, b2, b3, b4.trans zc_step_2, fun i a b c d => (b5 i b c d).trans (zc_step_1 b c d), by rw [if_pos e42, b1], by have := (zk_bts_len m').1; omega, b7, z4.tr b8 (Nat.le_refl _), b9, b10, b11, b12, fun F hF => z5 F (b13 F hF)⟩
      · have cx' : ¬ zq_x T n c = 120 ∧ ¬ zq_x T n c = 117 ∧ ¬ zq_x T n c = 85 := ⟨fun z => cx (Or.inl z), fun z => cx (Or.inr (Or.inl z)), fun z => cx (Or.inr (Or.inr z))⟩
        rw [if_pos cx', if_pos cx']
        rw [if_neg cx] at hst
        refine Or.inl ⟨rfl, zq_er_mk hI hct hcn (zq_stop2 hT hY (Or.inl rfl) hcn (by omega) hD ?_)⟩
        rw [hst, zm_error_30]
        · rfl
        · exact hY.2.1
/-- a character of a rune (the first) or of a string -/
theorem zq_rchar (hT : zq_T T n) (hq : q = 34 ∨ q = 39) {X : zc_N} {Y : zm_M} {c : Nat} (hv : v ≤ 14000) (hI : zc_I X) (hct : zq_ct T n X c) (hcn : c ≤ n) (hY : zq_q T n Y c v 15 q) (h33 : Y.1 33 = 0) (h34 : q = 34 → ¬ zq_x T n c = 34) (h41 : q = 39 → Y.1 41 = 0) : (zk_rchar X q = -1 ∧ zq_er n (zc_rchar X q) Y) ∨ zq_us T n X (zc_rchar X q) (zk_rchar X q) Y c v q := by
  have hn := hT.1
  have hY9 := hY
  obtain ⟨hmt, h30, h15, h36, h39, h32, h21, t, a, ht, h3, ha, h23⟩ := hY9
  have hh : zk_here X = zq_x T n c := zk_here_at hT hct (by omega)
  have hst : zm_step Y (zq_x T n c) = zm_quoted Y (zq_x T n c) := zm_step_q (Or.inl h21) _
  have hqz : ¬ q = 96 ∧ ¬ q = 0 := by rcases hq with y | y <;> rw [y] <;> decide
  have hX0 : zq_ct T n (zc_s X 42 0) c := zc_s_62 hct
  have hI0 : zc_I (zc_s X 42 0) := zi_42 hI
  have s0 : ∀ i : Nat, i ≠ 42 → (zc_s X 42 0).1 i = X.1 i := fun i a => by
    show upd X.1 42 0 i = _
    rw [zq_upd, if_neg a]
  have hquo : zm_quoted Y (zq_x T n c) = if zq_x T n c = q then zm_close Y else if zq_x T n c = -1 ∨ zq_x T n c = 0 ∨ ((zq_x T n c = 10 ∨ (q = 39 ∧ ¬ Y.1 41 = 0)) ∧ ¬ q = 96 ∧ ¬ q = 0) then zm_error Y else if zq_x T n c = 92 ∧ ¬ q = 96 ∧ ¬ q = 0 then zm_s Y 39 1 else zm_character Y (zq_x T n c) := by
    unfold zm_quoted
    rw [if_neg (by rw [h33]; decide), if_neg (by rw [h36]; decide), if_neg (fun z => z h39), h32]
  have fail : zk_rchar X q = -1 → zc_rchar X q = zc_refuse (zc_s X 42 0) → (zm_step Y (zq_x T n c)).1 30 = Y.1 27 → zk_rchar X q = -1 ∧ zq_er n (zc_rchar X q) Y := by
    intro e1 e2 e3
    rw [e2]
    exact ⟨e1, zq_er_mk hI0 hX0 hcn (zq_stop30 (Y' := Y) hT hY (Or.inl rfl) hcn (by omega) e3)⟩
  by_cases c92 : zq_x T n c = 92
  · have hlt : c < n := zq_lt (by rw [c92]; decide)
    have ek : zk_rchar X q = zk_esc (zc_step (zc_s X 42 0)) q := by unfold zk_rchar; rw [hh, if_pos c92]
    have ec : zc_rchar X q = zc_esc (zc_step (zc_s X 42 0)) q := by unfold zc_rchar; rw [hh, if_pos c92]
    rw [ek, ec]
    have e1 : zm_step Y (zq_x T n c) = zm_s Y 39 1 := by
      rw [hst, hquo, if_neg, if_neg, if_pos ⟨c92, hqz⟩]
      · rw [c92]
        rintro (z | z | z)
        · exact absurd z (by decide)
        · exact absurd z (by decide)
        · rcases z.1 with y | y
          · exact absurd y (by decide)
          · exact y.2 (h41 y.1)
      · rw [c92]
        rcases hq with y | y <;> rw [y] <;> decide
    have o : ∀ k : Nat, k ≠ 39 → (zm_s Y 39 1).1 k = Y.1 k := fun k a => by
      show upd Y.1 39 1 k = _
      rw [zq_upd, if_neg a]
    obtain ⟨Z, z1, z2, z3, z4, z5⟩ := zq_go2 hT (zq_q_e hY) (Or.inl rfl) hcn (by omega) (fun z => absurd z (by rw [h36]; decide)) e1 (v' := v) (s' := 15) ⟨fun k _ _ _ _ _ d => o k (by omega), fun _ _ => rfl, fun _ _ => rfl, rfl⟩ ((o 15 (by decide)).trans h15) ((o 21 (by decide)).trans h21) (fun k hk => o k (by omega))
    rcases zq_esc hT hq (W := zc_step (zc_s X 42 0)) (c := c + 1) (show v ≤ 15000 by omega) (zi_step hI0) (zc_step_at hT hX0 hlt) hlt (by rw [zc_step_1 (by decide) (by decide) (by decide)]; rfl) z3 (by rw [z1 33 (by decide) (by decide) (by decide), o 33 (by decide)]; exact h33) (by rw [z1 36 (by decide) (by decide) (by decide), o 36 (by decide)]; exact h36) (by rw [z1 39 (by decide) (by decide) (by decide)]; rfl) with ⟨r1, r2⟩ | ⟨d, m, l, Y', d1, d2, d3, d4, d5, d6, d7, d8, d9, d10, d11, d12, d13, d14, d15, d16, d17⟩
    · exact Or.inl ⟨r1, zq_er_back r2 z5⟩
    · have ecd : c + 1 + d = c + (d + 1) := by omega
      rw [ecd] at d2 d5 d11
      exact Or.inr ⟨d + 1, m, l, Y', by omega, d2, d3, d4, d5, d6, d7.trans zc_step_2, fun i a b c d => (d8 i a b c d).trans ((zc_step_1 b c d).trans (s0 i a)), d9, by omega, d11, z4.tr d12 (Nat.le_refl _), d13, d14, d15, d16, fun F hF => z5 F (d17 F hF)⟩
  · by_cases cq : zq_x T n c = q ∨ zq_x T n c = 10
    · refine Or.inl (fail (by unfold zk_rchar; rw [hh, if_neg c92, if_pos cq]) (by unfold zc_rchar; rw [hh, if_neg c92, if_pos cq]) ?_)
      rw [hst, hquo]
      by_cases y : zq_x T n c = q
      · rw [if_pos y]
        have q39 : q = 39 := by
          rcases hq with z | z
          · exact absurd (y.trans z) (h34 z)
          · exact z
        unfold zm_close
        rw [if_pos ⟨by rw [h32, q39], h41 q39⟩]
        exact zm_error_30 h30
      · have c10 : zq_x T n c = 10 := by rcases cq with z | z; exact absurd z y; exact z
        rw [if_neg y, if_pos (Or.inr (Or.inr ⟨Or.inl c10, hqz⟩))]
        exact zm_error_30 h30
    · have ek : zk_rchar X q = zk_char (zc_s X 42 0) := by unfold zk_rchar; rw [hh, if_neg c92, if_neg cq]
      have ec : zc_rchar X q = zc_char (zc_s X 42 0) := by unfold zc_rchar; rw [hh, if_neg c92, if_neg cq]
      have hh0 : zk_here (zc_s X 42 0) = zq_x T n c := zk_here_at hT hX0 (by omega)
      by_cases c0 : zq_x T n c = -1 ∨ zq_x T n c = 0
      · have l1 : zk_here (zc_s X 42 0) < 128 := by rw [hh0]; rcases c0 with z | z <;> rw [z] <;> decide
        have l2 : ¬ 0 < zk_here (zc_s X 42 0) := by rw [hh0]; rcases c0 with z | z <;> rw [z] <;> decide
        refine Or.inl (fail (by rw [ek]; unfold zk_char; rw [if_pos l1, if_neg l2]) (by rw [ec]; unfold zc_char; rw [if_pos l1, if_neg l2]) ?_)
        rw [hst, hquo, if_neg (fun z => cq (Or.inl z)), if_pos]
        · exact zm_error_30 h30
        · rcases c0 with z | z
          · exact Or.inl z
          · exact Or.inr (Or.inl z)
      · have hlt : c < n := zq_lt (fun z => c0 (Or.inl z))
        obtain ⟨w1, w2, w3⟩ := zq_vx hT hlt
        have hs1 : zm_step Y (zq_x T n c) = zm_s (zm_character Y (zq_x T n c)) 21 15 := by
          rw [hst, hquo, if_neg (fun z => cq (Or.inl z)), if_neg, if_neg (fun z => c92 z.1), zm_s_same (zm_character_21.trans h21)]
          rintro (z | z | z)
          · exact c0 (Or.inl z)
          · exact c0 (Or.inr z)
          · rcases z.1 with y | y
            · exact cq (Or.inr y)
            · exact y.2 (h41 y.1)
        have hpos : 0 < zq_v T c := by
          rcases Nat.eq_zero_or_pos (zq_v T c) with z | z
          · exact absurd (Or.inr (by rw [w2, z]; rfl)) c0
          · exact z
        rw [ek, ec]
        rcases zq_char hT hY h33 (Or.inl rfl) hlt (by omega) hpos hs1 (Or.inl rfl) (fun _ => Or.inl ⟨Or.inl rfl, hqz.2⟩) hI0 hX0 with r | ⟨d, m, d1, d2, d3, d4, -, d5, d6, d7, d8, d9, Y', w, y1, y2, y3, y4, y5, y6, y7, y8⟩
        · exact Or.inl r
        · have hw : w = d := by
            rw [y6, if_neg]
            rintro (z | z)
            · exact hqz.2 z
            · exact hqz.1 z.1
          subst hw
          have e42 : (zc_char (zc_s X 42 0)).1 42 = 0 := by rw [d8 42 (by decide) (by decide) (by decide)]; rfl
          have el : (zk_bts (nI m)).length = w := d9.1
          refine Or.inr ⟨w, m, zk_bts (nI m), Y', d1, d2, d3, d4, d5, d6, d7, fun i a b c d => (d8 i b c d).trans (s0 i a), by rw [if_pos e42, d3], by omega, by rw [el]; exact y1, y2, y3, y4, y5, fun i hi => ?_, y8⟩
          rw [y7 i (by omega), d9.2 i (by omega)]
end
