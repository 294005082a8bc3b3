/-! The piece: a number. -/
section
variable {T : Nat → Int32} {n : Nat} {N0 : zc_N} {a t k u : Nat}
theorem zq_numBad (h : zk_num0 N0 = -1) : zc_putNumber (zc_readNumber N0) (zk_readNumber N0) = zc_num0 N0 := by
  have nA : ¬ (¬ zk_num0 N0 = -1 ∧ ¬ zk_isPart (zk_here (zc_num0 N0)) = 0) := fun z => z.1 h
  have e1 : zk_readNumber N0 = -1 := by unfold zk_readNumber; rw [if_neg nA, h]
  have e2 : zc_readNumber N0 = zc_num0 N0 := by unfold zc_readNumber; rw [if_neg nA]
  rw [e1, e2]
  unfold zc_putNumber
  rw [if_pos rfl]
theorem zq_numFin (hT : zq_T T n) {X : zc_N} {Y : zm_M} {c b : Nat} {s : Int32} (hm : zq_mid T n N0 Y c a t k u s) (hs : ¬ s < 2 ∧ ¬ 11 < s) (hX : zq_nI T n N0 X a c u) (hac : a < c) (hta : t ≤ a) (hua : u ≤ a) (hb : b < 100) (hk : zk_num0 N0 = nI b) (hcn : zc_num0 N0 = X) (herr : ¬ zk_isPart (zq_x T n c) = 0 → (zm_numeral Y (zq_x T n c)).1 30 = Y.1 27) (hok : zk_isPart (zq_x T n c) = 0 → ∃ (q : Int32) (Y2 : zm_M), zm_numeral Y (zq_x T n c) = zm_ends Y2 q ∧ zq_mid T n N0 Y2 c a t k u s ∧ ((q = 0 ∧ b = 0) ∨ (¬ q = 0 ∧ ¬ b = 0 ∧ Y2.1 22 = nI b ∧ ∃ s0 : Nat, zp_int (fun i => vp_nar .byte ((zq_nl T n a (c - a)).getD (i - u) 0).toInt8.toInt32) u (zq_nl T n a (c - a)).length s0 b))) : zq_res T n (zc_putNumber (zc_readNumber N0) (zk_readNumber N0)) Y c := by
  have hn := hT.1
  have hcl : c ≤ n := hX.2.2.2.2.2.2.2.2
  have hct := hX.2.2.1
  have hh : zk_here X = zq_x T n c := zk_here_at hT hct (by omega)
  by_cases hp : zk_isPart (zq_x T n c) = 0
  · have e1 : zk_readNumber N0 = nI b := by
      unfold zk_readNumber
      rw [hk, hcn, hh, if_neg (fun z => z.2 hp)]
    have e2 : zc_readNumber N0 = X := by
      unfold zc_readNumber
      rw [hk, hcn, hh, if_neg (fun z => z.2 hp)]
    rw [e1, e2]
    obtain ⟨q, Y2, y1, y2, y3⟩ := hok hp
    obtain ⟨g1, g2, g3, g4, g5⟩ := zq_numE hT y2 hX hac hta hua hb y3
    have hl := zq_nl_len T n a (c - a)
    have hcZ : zq_ct T n (zc_putNumber X (nI b)) c := zq_ct_eq hct (fun j hj => g2 j (by omega) (by omega)) g3
    have hmV : zq_mt T n (zm_number Y2 q) c := zq_mt_eq y2.2.2.1 (fun j hj => g4 j (by omega) (by omega)) g5
    obtain ⟨S1, S2⟩ := zq_leave hT g1 hcZ hmV hcl (by omega) (by omega)
    refine Or.inr ⟨_, c, t + 1, k, u + (zq_nl T n a (c - a)).length, Nat.le_refl _, S1, fun F hF => ?_⟩
    refine zt_step hT hm.2.2.1 hcl (by rw [hm.1.2.2.1]; exact zq_m1) (zm_ok_num hT hm hs hcl hac hua) ?_
    have hmV2 : zq_mt T n (zm_s (zm_number Y2 q) 21 0) c := S1.2.2.1
    have e : zm_step Y (zq_x T n c) = zm_gap (zm_s (zm_number Y2 q) 21 0) (zq_x T n c) := by
      rw [zm_step_num (by rw [hm.2.2.2]; exact hs), y1]
      unfold zm_ends
      dsimp only
      rw [zr_here_at hT hmV2 (by omega)]
    rw [e]
    exact S2 F hF
  · have e1 : zk_readNumber N0 = -1 := by
      unfold zk_readNumber
      rw [hk, hcn, hh, if_pos ⟨zq_nm1' b (by omega), hp⟩]
    have e2 : zc_readNumber N0 = zc_refuse X := by
      unfold zc_readNumber
      rw [hk, hcn, hh, if_pos ⟨zq_nm1' b (by omega), hp⟩]
    have e3 : zc_putNumber (zc_refuse X) (-1) = zc_refuse X := by unfold zc_putNumber; rw [if_pos rfl]
    rw [e1, e2, e3]
    exact Or.inl (zq_er_mk hX.1 hct hcl (zq_nerr hT hm hs hcl hac hua (herr hp)))
theorem zq_pl128 : ∀ v : Nat, v < 128 → vp_nar .byte (nI v).toInt8.toInt32 = nI v := fun v hv => by
  rw [(zq_b255 v (by omega)).2.2]
  unfold zq_b
  rw [if_pos hv]
theorem zq_nI_0 (hT : zq_T T n) (hI : zc_I N0) (hct : zq_ct T n N0 a) (h65 : N0.1 65 = 0) (h1 : N0.1 1 = nI u) (ha : a ≤ n) : zq_nI T n N0 N0 a a u := by
  have e : zq_nl T n a (a - a) = [] := by rw [Nat.sub_self]; rfl
  refine ⟨hI, zc_Fr.rf, hct, h65, fun _ _ => rfl, ?_, fun j hj => ?_, Nat.le_refl _, ha⟩
  · rw [e]; exact h1
  · rw [e] at hj
    exact absurd hj (Nat.not_lt_zero j)
/-- a number with the letter of its base -/
theorem zq_numR (hT : zq_T T n) (hN : zq_nI T n N0 N0 a a u) {Y : zm_M} (hm : zq_mid T n N0 Y (a + 1) a t k u 2) (h26 : Y.1 26 = 0) (ha : a < n) (hta : t ≤ a) (hua : u ≤ a) (hx : zq_x T n a = 48) (hb : ¬ zk_baseL (zq_x T n (a + 1)) = -1) : zq_res T n (zc_putNumber (zc_readNumber N0) (zk_readNumber N0)) Y (a + 1) := by
  have hn := hT.1
  have hct := hN.2.2.1
  have hh : zk_here N0 = 48 := (zk_here_at hT hct (by omega)).trans hx
  have hnx : zk_next N0 = zq_x T n (a + 1) := zk_next_at hT hct ha
  have hlt : a + 1 < n := zq_lt (fun z => by rw [z] at hb; exact absurd (by decide) hb)
  obtain ⟨v, v1, -, v3⟩ := zq_xv hT hlt
  have tab : ∀ v : Nat, v < 256 → ¬ zk_baseL (nI v) = -1 → zr_digit (nI v) = 0 ∧ ¬ nI v = 95 ∧ ¬ zr_letter (nI v) = 0 ∧ zr_e (nI v) = 0 ∧ zr_radix (nI v) = zk_baseL (nI v) ∧ ¬ zr_radix (nI v) = 0 ∧ v < 128 ∧ 57 < nI v ∧ 9 < zr_worth (nI v) := by decide +kernel
  have tab2 : ∀ v : Nat, v < 256 → ¬ zk_baseL (nI v) = -1 → zk_baseL (nI v) = nI 2 ∨ zk_baseL (nI v) = nI 8 ∨ zk_baseL (nI v) = nI 16 := by decide +kernel
  obtain ⟨w1, w2, w3, w4, w5, w6, w7, w8, w9⟩ := tab v v1 (by rw [← v3]; exact hb)
  obtain ⟨b, hb8, hbv⟩ : ∃ b : Nat, (b = 2 ∨ b = 8 ∨ b = 16) ∧ zk_baseL (nI v) = nI b := by
    rcases tab2 v v1 (by rw [← v3]; exact hb) with z | z | z
    · exact ⟨2, Or.inl rfl, z⟩
    · exact ⟨8, Or.inr (Or.inl rfl), z⟩
    · exact ⟨16, Or.inr (Or.inr rfl), z⟩
  have eb0 : zk_base0 N0 = nI b := by unfold zk_base0; rw [if_pos hh, hnx, v3, hbv]
  have nb : ¬ nI b = -1 := zq_nm1' b (by omega)
  have ek : zk_num0 N0 = zk_withL N0 (nI b) := by unfold zk_num0; rw [eb0, if_neg nb]
  have ec : zc_num0 N0 = zc_withL N0 (nI b) := by unfold zc_num0; rw [eb0, if_neg nb]
  -- the class behind the letter
  have n1 := zq_nI_keep hT hN ha (by rw [hx]; decide) (by omega)
  have n2 := zq_nI_keep hT n1 hlt (by rw [v3]; exact w2) (by omega)
  have l1 : zq_nl T n a (a + 1 - a) = [48] := by
    rw [zq_nl_s (Nat.le_refl _) (by rw [hx]; decide), Nat.sub_self, hx]
    rfl
  have l2 : zq_nl T n a (a + 1 + 1 - a) = [48, nI v] := by
    rw [zq_nl_s (by omega) (by rw [v3]; exact w2), l1, v3]
    rfl
  -- the reference behind the letter
  have hR : zm_numeral Y (zq_x T n (a + 1)) = zm_s (zm_s (zm_s Y 22 (nI b)) 21 11) 26 1 := by
    unfold zm_numeral
    rw [hm.2.2.2, if_neg (by decide), if_neg (fun z => z h26), v3, if_pos ⟨rfl, w1, w2, w3, w4⟩]
    dsimp only
    rw [if_neg w6, w5, hbv]
  have hm1 := zq_mid_s (zq_mid_s (zq_mid_s hm 22 (nI b) (by decide)) 21 11 (by decide)) 26 1 (by decide)
  rw [if_neg (by decide), if_pos rfl] at hm1
  obtain ⟨Y1, y1, y2, y3, y4⟩ := zq_nst hT hm (by decide) (by omega) (by omega) hua hR hm1
  have y2 : Y1.1 26 = 1 := y2
  have y3 : Y1.1 22 = nI b := y3
  have rl2 : zq_rl b (zq_nl T n a (a + 1 + 1 - a)) := by
    rw [l2]
    exact ⟨Nat.le_refl _, ⟨v, w7, rfl, w8, w9⟩, fun i i1 i2 => absurd i2 (by show ¬ i < 2; omega)⟩
  -- a _ behind it
  obtain ⟨c0, Y2, X2, z1, z2, z3, z4, z5⟩ : ∃ (c0 : Nat) (Y2 : zm_M) (X2 : zc_N), a + 2 ≤ c0 ∧ zc_bar (zc_keepB (zc_keepB N0)) = X2 ∧ zq_nI T n N0 X2 a c0 u ∧ zq_P1r T n N0 a t k u b c0 Y2 ∧ ∀ F : zm_M, zt Y2 F → zt Y1 F := by
    have hh2 : zk_here (zc_keepB (zc_keepB N0)) = zq_x T n (a + 1 + 1) := zk_here_at hT n2.2.2.1 (by omega)
    by_cases z : zq_x T n (a + 1 + 1) = 95
    · have hl3 : a + 1 + 1 < n := zq_lt (by rw [z]; decide)
      have eb : zc_bar (zc_keepB (zc_keepB N0)) = zc_step (zc_keepB (zc_keepB N0)) := by unfold zc_bar; rw [hh2, if_pos z]
      have h95 : ¬ zr_worth 95 < nI b := by rcases hb8 with rfl | rfl | rfl <;> decide
      have eby : zr_byteAt Y1 (Y1.1 27 - 1) = nI v := by
        rw [y1.2.2.1.2.2.1, nI_pred, zr_byteAt_at hT y1.2.2.1 (by omega), v3]
      have hR2 : zm_numeral Y1 (zq_x T n (a + 1 + 1)) = zm_s Y1 26 1 := by
        unfold zm_numeral
        rw [y1.2.2.2, if_pos rfl, if_neg (by rw [y3, z]; exact h95), if_pos ⟨z, fun q => w2 (eby.symm.trans q.2)⟩]
      have hm2 := zq_mid_s y1 26 1 (by decide)
      rw [if_neg (by decide)] at hm2
      obtain ⟨Y2, q1, q2, q3, q4⟩ := zq_nst hT y1 (by decide) (by omega) (by omega) hua hR2 hm2
      refine ⟨a + 1 + 1 + 1, Y2, _, by omega, eb, zq_nI_skip hT n2 z, ⟨q1, by omega, q3.trans y3, by rw [zq_nl_u (by omega) z]; exact rl2, Or.inl ⟨q2, fun _ => ?_⟩⟩, q4⟩
      rw [Nat.add_sub_cancel]
      exact z
    · have eb : zc_bar (zc_keepB (zc_keepB N0)) = zc_keepB (zc_keepB N0) := by unfold zc_bar; rw [hh2, if_neg z]
      exact ⟨a + 1 + 1, Y1, _, Nat.le_refl _, eb, n2, ⟨y1, Nat.le_refl _, y3, rl2, Or.inl ⟨y2, fun q => absurd q z⟩⟩, fun _ hF => hF⟩
  have hcw : zc_withL N0 (nI b) = zc_digits (nI b) zk_F X2 := by unfold zc_withL; rw [z2]
  have hkw : zk_withL N0 (nI b) = if zk_digits (nI b) zk_F X2 = 0 then -1 else nI b := by unfold zk_withL; rw [z2]
  rw [hkw] at ek
  rw [hcw] at ec
  rcases zq_runR hT hua ha (show b = 8 ∨ b = 16 ∨ b = 2 ∨ b = 10 by omega) zk_F c0 X2 Y2 (by unfold zk_F; omega) z3 z4 with ⟨r1, r2⟩ | ⟨r1, c', Y', r2, r3, ⟨p1, p2, p3, p4, p5, p6⟩, r5, r6, r7⟩
  · rw [r1, if_pos rfl] at ek
    rw [zq_numBad ek, ec]
    exact Or.inl (zq_er_back (zq_er_back r2 z5) y4)
  · rw [r1, if_neg (by decide)] at ek
    have hd : ¬ zr_worth (zq_x T n c') < Y'.1 22 := by
      rw [p4]
      rcases zq_dg_x (c := c') (b := b) hT (by omega) with ⟨-, y⟩ | ⟨-, d, -, -, -, -, y⟩
      · exact y
      · exact absurd r5 y
    refine zq_res_back (c := a + 1) (zq_numFin hT p1 (by decide) r3 (by omega) hta hua (show b < 100 by omega) ek ec (fun hp => ?_) (fun hp => ?_)) (by omega) (fun F hF => y4 F (z5 F (r7 F hF)))
    · have : ¬ zr_letter (zq_x T n c') = 0 ∨ ¬ zr_digit (zq_x T n c') = 0 := zq_part_r.mp hp
      have e : zm_numeral Y' (zq_x T n c') = zm_error Y' := by
        unfold zm_numeral
        rw [p1.2.2.2, if_pos rfl, if_neg hd, if_neg (fun z => r6 z.1), if_pos (Or.inr this)]
      rw [e]
      exact zm_error_30 p1.1.2.2.1
    · have hnp : ¬ (¬ zr_letter (zq_x T n c') = 0 ∨ ¬ zr_digit (zq_x T n c') = 0) := fun z => (zq_part_r.mpr z) hp
      refine ⟨1, Y', ?_, p1, Or.inr ⟨by decide, by omega, p4, 2, ?_⟩⟩
      · unfold zm_numeral
        rw [p1.2.2.2, if_pos rfl, if_neg hd, if_neg (fun z => r6 z.1), if_neg (fun z => by rcases z with z | z; exact z p3; exact hnp z)]
      · obtain ⟨l1, ⟨vv, vv1, vv2, vv3, vv4⟩, l3⟩ := p5
        generalize zq_nl T n a (c' - a) = L at l1 vv2 l3 p6
        refine ⟨by omega, by omega, Or.inr ⟨rfl, by omega⟩, fun _ => rfl, fun _ => ?_, fun z => absurd z (by decide), fun i i1 i2 => ?_⟩
        · show 57 < vp_nar .byte (L.getD (u + 1 - u) 0).toInt8.toInt32 ∧ 9 < zr_worth (vp_nar .byte (L.getD (u + 1 - u) 0).toInt8.toInt32)
          rw [Nat.add_sub_cancel_left, vv2, zq_pl128 vv vv1]
          exact ⟨vv3, vv4⟩
        · obtain ⟨x, x1, x2⟩ := l3 i i1 i2
          obtain ⟨ch, ch1, -, ch3⟩ := z_worth16 (show x < 16 by omega) x2
          refine ⟨x, x1, ?_⟩
          show zr_worth (vp_nar .byte (L.getD (u + i - u) 0).toInt8.toInt32) = _
          rw [Nat.add_sub_cancel_left, ch3, zq_pl128 ch ch1, ← ch3]
          exact x2
end
section
variable {T : Nat → Int32} {n : Nat} {N0 : zc_N} {a t k u : Nat}
theorem zq_keepB_1 {X : zc_N} {j : Nat} (hT : zq_T T n) (hX : zq_nI T n N0 X a j u) : X.1 1 = nI (u + (zq_nl T n a (j - a)).length) := hX.2.2.2.2.2.1
/-- an exponent, or none -/
theorem zq_dec3 (hT : zq_T T n) (hua : u ≤ a) (ha : a < n) {X : zc_N} {Y : zm_M} {c : Nat} {s : Int32} (hX : zq_nI T n N0 X a c u) (hm : zq_mid T n N0 Y c a t k u s) (hs : (¬ s < 2 ∧ ¬ 11 < s) ∧ ¬ s = 11 ∧ ¬ s = 10) (hac : a < c) (h26 : Y.1 26 = 0) : (zk_dec3 X = 0 ∧ zq_er n (zc_dec3 X) Y) ∨ (zk_dec3 X = 1 ∧ ∃ (c' : Nat) (Y' : zm_M), c ≤ c' ∧ zq_nI T n N0 (zc_dec3 X) a c' u ∧ (∀ F : zm_M, zt Y' F → zt Y F) ∧ ((c' = c ∧ Y' = Y ∧ zc_dec3 X = X ∧ ¬ (zq_x T n c = 101 ∨ zq_x T n c = 69)) ∨ (zq_P0e T n N0 a t k u c' Y' ∧ zr_digit (zq_x T n c') = 0 ∧ ¬ zq_x T n c' = 95 ∧ (zq_nl T n a (c - a)).length < (zq_nl T n a (c' - a)).length))) := by
  have hn := hT.1
  have hcl : c ≤ n := hX.2.2.2.2.2.2.2.2
  have hh : zk_here X = zq_x T n c := zk_here_at hT hX.2.2.1 (by omega)
  unfold zk_dec3 zc_dec3
  rw [hh]
  by_cases he : zq_x T n c = 101 ∨ zq_x T n c = 69
  · rw [if_pos he, if_pos he]
    have hlt : c < n := zq_lt (fun z => by rw [z] at he; exact absurd he (by decide))
    have h95 : ¬ zq_x T n c = 95 := fun z => by rw [z] at he; exact absurd he (by decide)
    have n1 := zq_nI_keep hT hX hlt h95 (by omega)
    have hlen : (zq_nl T n a (c + 1 - a)).length = (zq_nl T n a (c - a)).length + 1 := by rw [zq_nl_s (by omega) h95, List.length_append]; rfl
    have hR := zn_e hm.2.2.2 hs.2.1 hs.2.2 h26 he
    have hm1 := zq_mid_s (zq_mid_s hm 21 8 (by decide)) 26 1 (by decide)
    rw [if_pos rfl, if_neg (by decide)] at hm1
    obtain ⟨Y1, y1, y2, y3, y4⟩ := zq_nst hT hm hs.1 hcl hac hua hR hm1
    have y2 : Y1.1 26 = 1 := y2
    have hh1 : zk_here (zc_keepB X) = zq_x T n (c + 1) := zk_here_at hT n1.2.2.1 (by omega)
    obtain ⟨c2, Y2, X2, z1, z2, z3, z4, z5⟩ : ∃ (c2 : Nat) (Y2 : zm_M) (X2 : zc_N), c + 1 ≤ c2 ∧ zc_sgn (zc_keepB X) = X2 ∧ zq_nI T n N0 X2 a c2 u ∧ zq_P1e T n N0 a t k u c2 Y2 ∧ ∀ F : zm_M, zt Y2 F → zt Y1 F := by
      by_cases z : zq_x T n (c + 1) = 43 ∨ zq_x T n (c + 1) = 45
      · have hl3 : c + 1 < n := zq_lt (fun y => by rw [y] at z; exact absurd z (by decide))
        have es : zc_sgn (zc_keepB X) = zc_keepB (zc_keepB X) := by unfold zc_sgn; rw [hh1, if_pos z]
        have hR2 := zn_sgn y1.2.2.2 (by rw [y2]; decide) z
        have hm2 := zq_mid_s y1 21 9 (by decide)
        rw [if_pos rfl] at hm2
        obtain ⟨Y2, q1, q2, q3, q4⟩ := zq_nst hT y1 (by decide) (by omega) (by omega) hua hR2 hm2
        exact ⟨c + 1 + 1, Y2, _, by omega, es, zq_nI_keep hT n1 hl3 (fun y => by rw [y] at z; exact absurd z (by decide)) (by omega), ⟨9, q1, by omega, Or.inr (Or.inl ⟨Or.inl rfl, q2.trans y2⟩)⟩, q4⟩
      · have es : zc_sgn (zc_keepB X) = zc_keepB X := by unfold zc_sgn; rw [hh1, if_neg z]
        exact ⟨c + 1, Y1, _, Nat.le_refl _, es, n1, ⟨8, y1, by omega, Or.inl ⟨rfl, y2, z⟩⟩, fun _ hF => hF⟩
    rw [z2]
    rcases zq_runE hT hua ha zk_F c2 X2 Y2 (by unfold zk_F; omega) z3 z4 with ⟨r1, r2⟩ | ⟨r1, c', Y', r2, r3, r4, r5, r6, r7⟩
    · exact Or.inl ⟨r1, zq_er_back (zq_er_back r2 z5) y4⟩
    · refine Or.inr ⟨r1, c', Y', by omega, r3, fun F hF => y4 F (z5 F (r7 F hF)), Or.inr ⟨r4, (zq_d10 hT).mp r5, r6, ?_⟩⟩
      have := zq_nl_mono T n a (c + 1 - a) (c' - a) (by omega)
      omega
  · rw [if_neg he, if_neg he]
    exact Or.inr ⟨rfl, c, Y, Nat.le_refl _, hX, fun _ hF => hF, Or.inl ⟨rfl, rfl, rfl, he⟩⟩
/-- the bytes of a number in the class's pool -/
theorem zq_pool (hT : zq_T T n) {X : zc_N} {c i : Nat} (hX : zq_nI T n N0 X a c u) (hu : u ≤ 20000) (hi : i < (zq_nl T n a (c - a)).length) {v : Nat} (hv : v < 256) (hl : (zq_nl T n a (c - a)).getD i 0 = nI v) : zk_byteAt X (nI u + nI i) = nI v := by
  have hn := hT.1
  have hll := zq_nl_len T n a (c - a)
  have hcl : c ≤ n := hX.2.2.2.2.2.2.2.2
  unfold zk_byteAt
  rw [nI_add, hX.2.2.2.2.2.1, if_pos ⟨nI_pos (by omega), nI_lt (by omega) (by omega)⟩, nI_clamp (by omega), hX.2.2.2.2.2.2.1 i hi, hl, (zq_b255 v hv).2.2]
  exact (zq_b255 v hv).1
theorem zk_nine_0 {X : zc_N} {q : Int32} : ∀ (m i : Nat), (∀ j : Nat, i ≤ j → j < i + m → ¬ 55 < zk_byteAt X (q + nI j)) → zk_nine X q m i = 0 := by
  intro m
  induction m with
  | zero => intro i _; rfl
  | succ m ih =>
    intro i h
    show (if 55 < zk_byteAt X (q + nI i) then 1 else zk_nine X q m (i + 1)) = 0
    rw [if_neg (h i (Nat.le_refl _) (by omega))]
    exact ih (i + 1) (fun j x y => h j (by omega) (by omega))
theorem zk_nine_1 {X : zc_N} {q : Int32} : ∀ (m i j : Nat), i ≤ j → j < i + m → 55 < zk_byteAt X (q + nI j) → zk_nine X q m i = 1 := by
  intro m
  induction m with
  | zero => intro i j x y; exact absurd y (by omega)
  | succ m ih =>
    intro i j x y h
    show (if 55 < zk_byteAt X (q + nI i) then 1 else zk_nine X q m (i + 1)) = 1
    by_cases z : 55 < zk_byteAt X (q + nI i)
    · rw [if_pos z]
    · rw [if_neg z]
      have : i ≠ j := fun e => z (by rw [e]; exact h)
      exact ih (i + 1) j (by omega) (by omega) h
theorem zq_dig_nv : ∀ v : Nat, v < 128 → ¬ zr_digit (nI v) = 0 → zr_worth (nI v) = nI (v - 48) ∧ 48 ≤ v ∧ v ≤ 57 ∧ ¬ 57 < nI v ∧ ¬ 9 < zr_worth (nI v) ∧ (¬ 55 < nI v → v - 48 < 8) := by decide +kernel
end
