/-! A character, whole. -/
def zq_cr (T : Nat → Int32) (n : Nat) (X : zc_N) (Y : zm_M) (c v : Nat) (s q : Int32) : Prop := ∃ d m : Nat, 1 ≤ d ∧ c + d ≤ n ∧ zk_char X = nI m ∧ m ≤ 1114111 ∧ (m = 13 ↔ zq_x T n c = 13) ∧ zq_ct T n (zc_char X) (c + d) ∧ zc_I (zc_char X) ∧ (zc_char X).2 = X.2 ∧ (∀ i : Nat, i ≠ 62 → i ≠ 63 → i ≠ 64 → (zc_char X).1 i = X.1 i) ∧ zq_enc T c d m ∧ ∃ (Y' : zm_M) (w : Nat), zq_q T n Y' (c + d) (v + w) s q ∧ zq_fr Y Y' v ∧ Y'.1 33 = 0 ∧ Y'.1 38 = nI m ∧ Y'.1 41 = 1 ∧ w = (if q = 0 ∨ (q = 96 ∧ zq_x T n c = 13) then 0 else d) ∧ (∀ i : Nat, i < w → Y'.2.1 16 (v + i) = T (c + i)) ∧ ∀ F : zm_M, zt Y' F → zt Y F
theorem zq_nm1' (m : Nat) (h : m < 2 ^ 31) : ¬ nI m = -1 := fun z => nI_pos (n := m) h (by rw [z]; exact zq_m1)
theorem zm_charK_at {M : zm_M} {x : Int32} {v w : Nat} (h15 : M.1 15 = nI v) (hv : v ≤ 60000) (hx : x = nI w) (hw : w < 256) : (∀ k : Nat, k ≠ 15 → (zm_charK M x).1 k = M.1 k) ∧ (zm_charK M x).1 15 = nI (if M.1 32 = 0 ∨ (M.1 32 = 96 ∧ x = 13) then v else v + 1) ∧ (∀ r : Nat, r ≠ 16 → (zm_charK M x).2.1 r = M.2.1 r) ∧ (∀ i : Nat, i < v → (zm_charK M x).2.1 16 i = M.2.1 16 i) ∧ (zm_charK M x).2.2 = M.2.2 ∧ (¬ (M.1 32 = 0 ∨ (M.1 32 = 96 ∧ x = 13)) → (zm_charK M x).2.1 16 v = zq_b w) := by
  unfold zm_charK
  by_cases z : M.1 32 = 0 ∨ (M.1 32 = 96 ∧ x = 13)
  · rw [if_pos z, if_pos z]
    exact ⟨fun _ _ => rfl, h15, fun _ _ => rfl, fun _ _ => rfl, rfl, fun h => absurd z h⟩
  · rw [if_neg z, if_neg z]
    obtain ⟨k1, k2, k3, k4, k5, k6⟩ := zm_keep_at h15 (by omega) x
    exact ⟨k1, k2, k5, k3, k6, fun _ => by rw [k4, hx]; exact (zq_b255 w hw).2.2⟩
theorem zq_char {T : Nat → Int32} {n : Nat} (hT : zq_T T n) {X : zc_N} {Y : zm_M} {c v : Nat} {s s' q : Int32} (hY : zq_q T n Y c v s q) (h33 : Y.1 33 = 0) (hs : s = 15 ∨ s = 16 ∨ s = 18 ∨ s = 19 ∨ s = 20) (hc : c < n) (hv : v ≤ 15000) (hx : 0 < zq_v T c) (hst : zm_step Y (zq_x T n c) = zm_s (zm_character Y (zq_x T n c)) 21 s') (hs' : s' = 15 ∨ s' = 16 ∨ s' = 18 ∨ s' = 19 ∨ s' = 20) (hs2 : 128 ≤ zq_v T c → zq_md s' q) (hI : zc_I X) (hct : zq_ct T n X c) : (zk_char X = -1 ∧ zq_er n (zc_char X) Y) ∨ zq_cr T n X Y c v s' q := by
  have hn := hT.1
  have hY9 := hY
  obtain ⟨hmt, h30, h15, h36, h39, h32, h21, t, a, ht, h3, ha, h23⟩ := hY9
  obtain ⟨w1, w2, w3⟩ := zq_vx hT hc
  have hh : zk_here X = nI (zq_v T c) := (zk_here_at hT hct (by omega)).trans w2
  by_cases c1 : zq_v T c < 128
  · -- one byte
    have l1 : nI (zq_v T c) < 128 := nI_lt (b := 128) c1 (by omega)
    have l0 : 0 < nI (zq_v T c) := nI_lt (a := 0) hx (by omega)
    have ek : zk_char X = nI (zq_v T c) := by
      unfold zk_char
      rw [hh, if_pos l1, if_pos l0]
    have ec : zc_char X = zc_step X := by
      unfold zc_char
      rw [hh, if_pos l1, if_pos l0]
    obtain ⟨k1, k2, k3, k4, k5, k6⟩ := zm_charK_at (M := zm_s (zm_s Y 38 (zq_x T n c)) 41 1) (x := zq_x T n c) (v := v) (w := zq_v T c) h15 (by omega) w2 w1
    have em : zm_character Y (zq_x T n c) = zm_charK (zm_s (zm_s Y 38 (zq_x T n c)) 41 1) (zq_x T n c) := by
      unfold zm_character
      rw [if_pos (by rw [w2]; exact l1)]
    rw [em] at hst
    have e32 : (zm_s (zm_s Y 38 (zq_x T n c)) 41 1).1 32 = q := h32
    rw [e32] at k2 k6
    have o : ∀ k : Nat, k ≠ 38 → k ≠ 41 → (zm_s (zm_s Y 38 (zq_x T n c)) 41 1).1 k = Y.1 k := by
      intro k a b
      show upd (upd Y.1 38 _) 41 _ k = _
      rw [zq_upd, if_neg b, zq_upd, if_neg a]
    have e38 : (zm_charK (zm_s (zm_s Y 38 (zq_x T n c)) 41 1) (zq_x T n c)).1 38 = zq_x T n c := by rw [k1 38 (by decide)]; rfl
    have e41 : (zm_charK (zm_s (zm_s Y 38 (zq_x T n c)) 41 1) (zq_x T n c)).1 41 = 1 := by rw [k1 41 (by decide)]; rfl
    generalize zm_charK (zm_s (zm_s Y 38 (zq_x T n c)) 41 1) (zq_x T n c) = R at hst k1 k2 k3 k4 k5 k6 e38 e41
    have r1 : ∀ k : Nat, k ≠ 21 → (zm_s R 21 s').1 k = R.1 k := fun k hk => by
      show upd R.1 21 _ k = _
      rw [zq_upd, if_neg hk]
    obtain ⟨g1, g2, g3⟩ := zq_go1 hT hY hs (by omega) (by omega) hst (v' := v + (if q = 0 ∨ (q = 96 ∧ zq_x T n c = 13) then 0 else 1)) (s' := s') ⟨fun k a b _ _ _ d => by rw [r1 k b, k1 k a, o k (by omega) (by omega)], k3, k4, k5⟩ (by rw [r1 15 (by decide), k2]; split <;> rfl) (by rw [r1 36 (by decide), k1 36 (by decide), o 36 (by decide) (by decide)]; exact h36) (by rw [r1 39 (by decide), k1 39 (by decide), o 39 (by decide) (by decide)]; exact h39) rfl (fun k hk => by rw [r1 k (by omega), k1 k (by omega), o k (by omega) (by omega)])
    have f : ∀ k : Nat, k ≠ 21 → k ≠ 27 → k ≠ 28 → k ≠ 29 → (zm_fin (zm_s R 21 s') (zq_x T n c)).1 k = R.1 k := fun k z a b d => (zm_fin_1 a b d).trans (r1 k z)
    have f2 : (zm_fin (zm_s R 21 s') (zq_x T n c)).2 = R.2 := zm_fin_2
    refine Or.inr ⟨1, zq_v T c, Nat.le_refl _, hc, ek, by omega, ?_, by rw [ec]; exact zc_step_at hT hct hc, by rw [ec]; exact zi_step hI, by rw [ec]; exact zc_step_2, fun i a b d => by rw [ec]; exact zc_step_1 a b d, zq_enc_1 hT hc c1, _, _, g1, g2, ?_, ?_, ?_, rfl, fun i hi => ?_, g3⟩
    · rw [w2]
      exact ⟨fun z => by rw [z]; rfl, fun z => z_injC (b := 13) (by omega) (by omega) z⟩
    · rw [f 33 (by decide) (by decide) (by decide) (by decide), k1 33 (by decide), o 33 (by decide) (by decide)]; exact h33
    · rw [f 38 (by decide) (by decide) (by decide) (by decide), e38, w2]
    · rw [f 41 (by decide) (by decide) (by decide) (by decide), e41]
    · by_cases z : q = 0 ∨ (q = 96 ∧ zq_x T n c = 13)
      · rw [if_pos z] at hi
        exact absurd hi (by omega)
      · rw [if_neg z] at hi
        have : i = 0 := by omega
        subst this
        rw [f2, Nat.add_zero, Nat.add_zero, k6 z]
        exact w3.symm
  · have c1 : 128 ≤ zq_v T c := by omega
    have l1 : ¬ nI (zq_v T c) < 128 := zq_nlt (b := 128) (by omega) (by omega) c1
    rcases zq_lead _ w1 c1 with ⟨b1, b2⟩ | ⟨b1, b2, b3, b4, b5, b6, b7, b8, b9⟩
    · -- no beginning of a character
      have hb : nI (zq_v T c) < 194 ∨ 244 < nI (zq_v T c) := by
        rcases b1 with z | z
        · exact Or.inl (nI_lt (b := 194) z (by omega))
        · exact Or.inr (nI_lt (a := 244) z (by omega))
      have ek : zk_char X = -1 := by
        unfold zk_char
        rw [hh, if_neg l1, if_pos hb]
      have ec : zc_char X = zc_refuse X := by
        unfold zc_char
        rw [hh, if_neg l1, if_pos hb]
      rw [ec]
      refine Or.inl ⟨ek, zq_er_mk hI hct (by omega) (zq_stop30 (Y' := Y) hT hY hs (by omega) (by omega) ?_)⟩
      rw [hst]
      show upd (zm_character Y (zq_x T n c)).1 21 s' 30 = _
      rw [zq_upd, if_neg (by decide)]
      unfold zm_character
      rw [w2, if_neg l1]
      dsimp only
      rw [b2, if_pos rfl]
      rw [zm_error_30]
      · rfl
      · exact h30
    · have hb : ¬ (nI (zq_v T c) < 194 ∨ 244 < nI (zq_v T c)) := by
        rintro (z | z)
        · exact zq_nlt (b := 194) (by omega) (by omega) b1 z
        · exact zq_nlt (a := 244) (by omega) (by omega) b2 z
      have hmd := hs2 c1
      have hmo : zq_mo (zq_v T c) ≤ 3 ∧ 1 ≤ zq_mo (zq_v T c) := by unfold zq_mo; split; omega; split <;> omega
      have hle : zq_le (zq_v T c) < 2 ^ 31 := by unfold zq_le; split; omega; split <;> omega
      have n0 : ¬ nI (zq_mo (zq_v T c)) = 0 := fun z => absurd (z_injC (b := 0) (by omega) (by omega) z) (by omega)
      have ek : zk_char X = zk_more (nI (zq_le (zq_v T c))) (zq_mo (zq_v T c)) (zc_step X) (nI (zq_c0 (zq_v T c))) := by
        unfold zk_char
        rw [hh, if_neg l1, if_neg hb, b4, b9, b8, nI_clamp (by omega)]
      have ec : zc_char X = zc_more (nI (zq_le (zq_v T c))) (zq_mo (zq_v T c)) (zc_step X) (nI (zq_c0 (zq_v T c))) := by
        unfold zc_char
        rw [hh, if_neg l1, if_neg hb, b4, b9, b8, nI_clamp (by omega)]
      -- the reference's first byte
      obtain ⟨M4, eM⟩ : ∃ M4 : zm_M, M4 = zm_s (zm_s (zm_s (zm_s (zm_s Y 38 (nI (zq_v T c))) 33 (nI (zq_mo (zq_v T c)))) 34 (nI (zq_lo (zq_v T c)))) 35 (nI (zq_hi (zq_v T c)))) 38 (nI (zq_c0 (zq_v T c))) := ⟨_, rfl⟩
      have em : zm_character Y (zq_x T n c) = zm_charK M4 (zq_x T n c) := by
        unfold zm_character
        rw [w2, if_neg l1]
        dsimp only
        rw [b3, if_neg n0, b5, b6, b7, eM]
      have o : ∀ k : Nat, k ≠ 33 → k ≠ 34 → k ≠ 35 → k ≠ 38 → M4.1 k = Y.1 k := by
        intro k a b d e
        rw [eM]
        show upd (upd (upd (upd (upd Y.1 38 _) 33 _) 34 _) 35 _) 38 _ k = _
        rw [zq_upd, if_neg e, zq_upd, if_neg d, zq_upd, if_neg b, zq_upd, if_neg a, zq_upd, if_neg e]
      have m33 : M4.1 33 = nI (zq_mo (zq_v T c)) := by rw [eM]; rfl
      have m34 : M4.1 34 = nI (zq_lo (zq_v T c)) := by rw [eM]; rfl
      have m35 : M4.1 35 = nI (zq_hi (zq_v T c)) := by rw [eM]; rfl
      have m38 : M4.1 38 = nI (zq_c0 (zq_v T c)) := by rw [eM]; rfl
      have m2 : M4.2 = Y.2 := by rw [eM]
      rw [em] at hst
      clear eM em
      obtain ⟨k1, k2, k3, k4, k5, k6⟩ := zm_charK_at (M := M4) (x := zq_x T n c) (v := v) (w := zq_v T c) ((o 15 (by decide) (by decide) (by decide) (by decide)).trans h15) (by omega) w2 w1
      have e32 : M4.1 32 = q := (o 32 (by decide) (by decide) (by decide) (by decide)).trans h32
      have n13 : ¬ zq_x T n c = 13 := by rw [w2]; exact fun z => absurd (z_injC (b := 13) (by omega) (by omega) z) (by omega)
      have e13 : (q = 0 ∨ (q = 96 ∧ zq_x T n c = 13)) ↔ q = 0 := ⟨fun z => by rcases z with z | z; exact z; exact absurd z.2 n13, Or.inl⟩
      rw [e32] at k2 k6
      generalize zm_charK M4 (zq_x T n c) = R at hst k1 k2 k3 k4 k5 k6
      have r1 : ∀ k : Nat, k ≠ 21 → (zm_s R 21 s').1 k = R.1 k := fun k hk => by
        show upd R.1 21 _ k = _
        rw [zq_upd, if_neg hk]
      obtain ⟨g1, g2, g3⟩ := zq_go1 hT hY hs (by omega) (by omega) hst (v' := if q = 0 then v else v + 1) (s' := s') ⟨fun k a b _ _ _ d => by rw [r1 k b, k1 k a, o k (by omega) (by omega) (by omega) (by omega)], fun r hr => by show R.2.1 r = _; rw [k3 r hr, m2], fun i hi => by show R.2.1 16 i = _; rw [k4 i hi, m2], by show R.2.2 = _; rw [k5, m2]⟩ (by
          rw [r1 15 (by decide), k2]
          by_cases z : q = 0
          · rw [if_pos (Or.inl z), if_pos z]
          · rw [if_neg (fun y => z (e13.mp y)), if_neg z]) (by rw [r1 36 (by decide), k1 36 (by decide), o 36 (by decide) (by decide) (by decide) (by decide)]; exact h36) (by rw [r1 39 (by decide), k1 39 (by decide), o 39 (by decide) (by decide) (by decide) (by decide)]; exact h39) rfl (fun k hk => by rw [r1 k (by omega), k1 k (by omega), o k (by omega) (by omega) (by omega) (by omega)])
      have f : ∀ k : Nat, k ≠ 21 → k ≠ 27 → k ≠ 28 → k ≠ 29 → (zm_fin (zm_s R 21 s') (zq_x T n c)).1 k = R.1 k := fun k z a b d => (zm_fin_1 a b d).trans (r1 k z)
      have f2 : (zm_fin (zm_s R 21 s') (zq_x T n c)).2 = R.2 := zm_fin_2
      rcases zq_more hT hmd hle (zq_mo (zq_v T c)) (c + 1) (zq_c0 (zq_v T c)) (zq_lo (zq_v T c)) (zq_hi (zq_v T c)) (if q = 0 then v else v + 1) (zc_step X) (zm_fin (zm_s R 21 s') (zq_x T n c)) hmo.1 (zq_go_0 b1 b2) (zi_step hI) (zc_step_at hT hct hc) hc (by split <;> omega) g1 (by rw [f 33 (by decide) (by decide) (by decide) (by decide), k1 33 (by decide), m33]) (fun _ => ⟨by rw [f 34 (by decide) (by decide) (by decide) (by decide), k1 34 (by decide), m34], by rw [f 35 (by decide) (by decide) (by decide) (by decide), k1 35 (by decide), m35]⟩) (by rw [f 38 (by decide) (by decide) (by decide) (by decide), k1 38 (by decide), m38]) (fun z => absurd z (by omega)) with ⟨r1, r2⟩ | ⟨r1, r2, r3, r4, r5, r6, r7, r8, r9, Z, z1, z2, z3, z4, z5, z6, z7⟩
      · rw [← ek] at r1
        rw [← ec] at r2
        exact Or.inl ⟨r1, zq_er_back r2 g3⟩
      · rw [← ek] at r2
        rw [← ec] at r4 r5 r6 r7
        have hlo : zq_lo (zq_v T c) ≤ zq_v T (c + 1) := r9 (by omega)
        have hen := zq_enc_N hT b1 b2 (by omega) r8 hlo
        have ecd : c + 1 + zq_mo (zq_v T c) = c + (1 + zq_mo (zq_v T c)) := by omega
        rw [ecd] at r4 z1
        refine Or.inr ⟨1 + zq_mo (zq_v T c), _, by omega, by omega, r2, r3, ?_, r4, r5, r6.trans zc_step_2, fun i a b d => (r7 i a b d).trans (zc_step_1 a b d), hen, Z, if q = 0 then 0 else 1 + zq_mo (zq_v T c), ?_, g2.tr z2 (by split <;> omega), z3, z4, z5, ?_, fun i hi => ?_, fun F hF => g3 F (z7 F hF)⟩
        · refine ⟨fun z => ?_, fun z => absurd z n13⟩
          exfalso
          have hl := hen.1
          rw [z] at hl
          have : (zk_bts (nI 13)).length = 1 := by decide +kernel
          omega
        · have e2 : (if q = 0 then (if q = 0 then v else v + 1) else (if q = 0 then v else v + 1) + zq_mo (zq_v T c)) = v + if q = 0 then 0 else 1 + zq_mo (zq_v T c) := by
            split
            · rfl
            · omega
          rw [e2] at z1
          exact z1
        · by_cases z : q = 0
          · rw [if_pos z, if_pos (Or.inl z)]
          · rw [if_neg z, if_neg (fun y => z (e13.mp y))]
        · by_cases z : q = 0
          · rw [if_pos z] at hi
            exact absurd hi (by omega)
          · rw [if_neg z] at hi z2 z6
            rcases Nat.eq_zero_or_pos i with y | y
            · subst y
              rw [Nat.add_zero, Nat.add_zero, z2.2.2.1 v (by omega), f2, k6 (fun y => z (e13.mp y))]
              exact w3.symm
            · have := z6 z (i - 1) (by omega)
              rw [show v + 1 + (i - 1) = v + i from by omega, show c + 1 + (i - 1) = c + i from by omega] at this
              exact this
