/-! The pieces: strings, raw strings, runes. -/
section
variable {T : Nat → Int32} {n : Nat}
/-- a string's loop ends at its quote, or both refuse -/
theorem zq_str (hT : zq_T T n) {N0 : zc_N} {Y0 : zm_M} {u : Nat} : ∀ (m c v : Nat) (X : zc_N) (Y : zm_M), n - c < m → zq_sI T n N0 X Y0 Y c u v 15 34 → (zk_str m X = 0 ∧ zq_er n (zc_str m X) Y) ∨ (zk_str m X = 1 ∧ ∃ (c' v' : Nat) (Z : zc_N) (Y' : zm_M), c ≤ c' ∧ zc_str m X = zc_step Z ∧ zq_sI T n N0 Z Y0 Y' c' u v' 15 34 ∧ zq_x T n c' = 34 ∧ ∀ F : zm_M, zt Y' F → zt Y F) := by
  have hn := hT.1
  intro m
  induction m with
  | zero => intro c v X Y h; exact absurd h (by omega)
  | succ m ih =>
    intro c v X Y hm h
    have h9 := h
    obtain ⟨hI, hFr, hct, h65, h1, hp0, hp1, hY, hfr, h33, huv, hvc, hcn⟩ := h9
    have hh : zk_here X = zq_x T n c := zk_here_at hT hct (by omega)
    rw [zk_str_s rfl, zc_str_s rfl, hh]
    by_cases cq : zq_x T n c = 34
    · rw [if_pos cq, if_pos cq]
      exact Or.inr ⟨rfl, c, v, X, Y, Nat.le_refl _, rfl, h, cq, fun _ hF => hF⟩
    · rw [if_neg cq, if_neg cq]
      rcases zq_rchar hT (Or.inl rfl) (show v ≤ 14000 by omega) hI hct hcn hY h33 (fun _ => cq) (fun z => absurd z (by decide)) with ⟨r1, r2⟩ | ⟨d, mm, l, Y', d1, d2, d3, d4, d5, d6, d7, d8, d9, d10, d11, d12, d13, d14, d15, d16, d17⟩
      · rw [if_pos r1, if_pos r1]
        exact Or.inl ⟨rfl, r2⟩
      · have hne : ¬ zk_rchar X 34 = -1 := by rw [d3]; exact zq_nm1' mm (by omega)
        rw [if_neg hne, if_neg hne]
        have ek : zc_kept X = zc_apps (zc_rchar X 34) l := by
          unfold zc_kept
          rw [d9]
          split
          · rw [zc_appendCode_at]
          · rfl
        have z1 : (zc_rchar X 34).1 1 = nI v := (d8 1 (by decide) (by decide) (by decide) (by decide)).trans h1
        obtain ⟨a0, a1, a2, a3, a4, a5⟩ := zc_apps_at l (zc_rchar X 34) v d6 z1 (by omega)
        have hFk : zc_Fr N0 (zc_kept X) := hFr.tr zf_kept
        rw [ek] at hFk
        rw [ek]
        have hI2 : zq_sI T n N0 (zc_apps (zc_rchar X 34) l) Y0 Y' (c + d) u (v + l.length) 15 34 := by
          refine ⟨a0, hFk, zq_ct_eq d5 (fun j hj => a4 j (by omega)) (a5 60 (by decide)), ?_, a1, fun i hi => ?_, fun i x y => ?_, d11, hfr.tr d12 huv, d13, by omega, by omega, d2⟩
          · rw [a4 65 (by decide), d8 65 (by decide) (by decide) (by decide) (by decide)]; exact h65
          · rw [a2 i (by omega), d7]; exact hp0 i hi
          · rcases Nat.lt_or_ge i v with z | z
            · rw [a2 i z, d7, hp1 i x z, d12.2.2.1 i z]
            · have e : i = v + (i - v) := by omega
              rw [e, a3 (i - v) (by omega), d16 (i - v) (by omega)]
        rcases ih (c + d) (v + l.length) _ Y' (by omega) hI2 with ⟨r1, r2⟩ | ⟨r1, c', v', Z, Y'', r2, r3, r4, r5, r6⟩
        · exact Or.inl ⟨r1, zq_er_back r2 d17⟩
        · exact Or.inr ⟨r1, c', v', Z, Y'', by omega, r3, r4, r5, fun F hF => d17 F (r6 F hF)⟩
theorem zq_raw (hT : zq_T T n) {N0 : zc_N} {Y0 : zm_M} {u : Nat} : ∀ (m c v : Nat) (X : zc_N) (Y : zm_M), n - c < m → zq_sI T n N0 X Y0 Y c u v 16 96 → (zk_raw m X = 0 ∧ zq_er n (zc_raw m X) Y) ∨ (zk_raw m X = 1 ∧ ∃ (c' v' : Nat) (Z : zc_N) (Y' : zm_M), c ≤ c' ∧ zc_raw m X = zc_step Z ∧ zq_sI T n N0 Z Y0 Y' c' u v' 16 96 ∧ zq_x T n c' = 96 ∧ ∀ F : zm_M, zt Y' F → zt Y F) := by
  have hn := hT.1
  intro m
  induction m with
  | zero => intro c v X Y h; exact absurd h (by omega)
  | succ m ih =>
    intro c v X Y hm h
    have h9 := h
    obtain ⟨hI, hFr, hct, h65, h1, hp0, hp1, hY, hfr, h33, huv, hvc, hcn⟩ := h9
    have hY9 := hY
    obtain ⟨hmt, h30, h15, h36, h39, h32, h21, t9, a9, ht9, h3, ha9, h23⟩ := hY9
    have hh : zk_here X = zq_x T n c := zk_here_at hT hct (by omega)
    rw [zk_raw_s rfl, zc_raw_s rfl, hh]
    by_cases cq : zq_x T n c = 96
    · rw [if_pos cq, if_pos cq]
      exact Or.inr ⟨rfl, c, v, X, Y, Nat.le_refl _, rfl, h, cq, fun _ hF => hF⟩
    · rw [if_neg cq, if_neg cq]
      have hquo : zm_step Y (zq_x T n c) = if zq_x T n c = -1 ∨ zq_x T n c = 0 then zm_error Y else zm_character Y (zq_x T n c) := by
        rw [zm_step_q (Or.inr h21)]
        unfold zm_quoted
        rw [if_neg (by rw [h33]; decide), if_neg (by rw [h36]; decide), if_neg (fun z => z h39), h32, if_neg cq]
        by_cases z : zq_x T n c = -1 ∨ zq_x T n c = 0
        · rw [if_pos z, if_pos (by rcases z with y | y; exact Or.inl y; exact Or.inr (Or.inl y))]
        · have z2 : ¬ (zq_x T n c = -1 ∨ zq_x T n c = 0 ∨ ((zq_x T n c = 10 ∨ ((96 : Int32) = 39 ∧ ¬ Y.1 41 = 0)) ∧ ¬ (96 : Int32) = 96 ∧ ¬ (96 : Int32) = 0)) := by
            rintro (y | y | y)
            · exact z (Or.inl y)
            · exact z (Or.inr y)
            · exact y.2.1 rfl
          have z3 : ¬ (zq_x T n c = 92 ∧ ¬ (96 : Int32) = 96 ∧ ¬ (96 : Int32) = 0) := fun y => y.2.1 rfl
          rw [if_neg z, if_neg z2, if_neg z3]
      by_cases c0 : zq_x T n c = -1 ∨ zq_x T n c = 0
      · have l1 : zk_here X < 128 := by rw [hh]; rcases c0 with z | z <;> rw [z] <;> decide
        have l2 : ¬ 0 < zk_here X := by rw [hh]; rcases c0 with z | z <;> rw [z] <;> decide
        have e1 : zk_char X = -1 := by unfold zk_char; rw [if_pos l1, if_neg l2]
        have e2 : zc_char X = zc_refuse X := by unfold zc_char; rw [if_pos l1, if_neg l2]
        rw [if_pos e1, if_pos e1, e2]
        refine Or.inl ⟨rfl, zq_er_mk hI hct hcn (zq_stop30 (Y' := Y) hT hY (Or.inr (Or.inl rfl)) hcn (by omega) ?_)⟩
        rw [hquo, if_pos c0]
        exact zm_error_30 h30
      · have hlt : c < n := zq_lt (fun z => c0 (Or.inl z))
        obtain ⟨w1, w2, w3⟩ := zq_vx hT hlt
        have hpos : 0 < zq_v T c := by
          rcases Nat.eq_zero_or_pos (zq_v T c) with z | z
          · exact absurd (Or.inr (by rw [w2, z]; rfl)) c0
          · exact z
        have hs1 : zm_step Y (zq_x T n c) = zm_s (zm_character Y (zq_x T n c)) 21 16 := by
          rw [hquo, if_neg c0, zm_s_same (zm_character_21.trans h21)]
        rcases zq_char hT hY h33 (Or.inr (Or.inl rfl)) hlt (by omega) hpos hs1 (Or.inr (Or.inl rfl)) (fun _ => Or.inl ⟨Or.inr rfl, by decide⟩) hI hct with ⟨r1, r2⟩ | ⟨d, mm, d1, d2, d3, d4, d0, d5, d6, d7, d8, d9, Y', w, y1, y2, y3, y4, y5, y6, y7, y8⟩
        · rw [if_pos r1, if_pos r1]
          exact Or.inl ⟨rfl, r2⟩
        · have hne : ¬ zk_char X = -1 := by rw [d3]; exact zq_nm1' mm (by omega)
          rw [if_neg hne, if_neg hne]
          obtain ⟨l, hl, hl2⟩ : ∃ l : List Int32, zc_keptR X = zc_apps (zc_char X) l ∧ l.length = w ∧ ∀ i : Nat, i < w → vp_nar .byte (l.getD i 0).toInt8.toInt32 = T (c + i) := by
            unfold zc_keptR
            rw [d3]
            by_cases z : zq_x T n c = 13
            · have e13 : nI mm = 13 := by rw [d0.mpr z]; rfl
              have w0 : w = 0 := by rw [y6, if_pos (Or.inr ⟨rfl, z⟩)]
              rw [if_pos e13]
              exact ⟨[], rfl, w0.symm, fun i hi => absurd hi (by omega)⟩
            · have e13 : ¬ nI mm = 13 := fun y => z (d0.mp (z_injC (b := 13) (by omega) (by omega) y))
              have w0 : w = d := by
                rw [y6, if_neg]
                rintro (y | y)
                · exact absurd y (by decide)
                · exact z y.2
              rw [if_neg e13, zc_appendCode_at, w0]
              exact ⟨zk_bts (nI mm), rfl, d9.1, d9.2⟩
          have hwd : w ≤ d := by
            rw [y6]
            split <;> omega
          have z1 : (zc_char X).1 1 = nI v := (d8 1 (by decide) (by decide) (by decide)).trans h1
          obtain ⟨a0, a1, a2, a3, a4, a5⟩ := zc_apps_at l (zc_char X) v d6 z1 (by omega)
          have hFk : zc_Fr N0 (zc_keptR X) := hFr.tr zf_keptR
          rw [hl] at hFk
          rw [hl]
          rw [hl2.1] at a1 a3
          have hI2 : zq_sI T n N0 (zc_apps (zc_char X) l) Y0 Y' (c + d) u (v + w) 16 96 := by
            refine ⟨a0, hFk, zq_ct_eq d5 (fun j hj => a4 j (by omega)) (a5 60 (by decide)), ?_, a1, fun i hi => ?_, fun i x y => ?_, y1, hfr.tr y2 huv, y3, by omega, by omega, d2⟩
            · rw [a4 65 (by decide), d8 65 (by decide) (by decide) (by decide)]; exact h65
            · rw [a2 i (by omega), d7]; exact hp0 i hi
            · rcases Nat.lt_or_ge i v with z | z
              · rw [a2 i z, d7, hp1 i x z, y2.2.2.1 i z]
              · have e : i = v + (i - v) := by omega
                rw [e, a3 (i - v) (by omega), hl2.2 (i - v) (by omega), y7 (i - v) (by omega)]
          rcases ih (c + d) (v + w) _ Y' (by omega) hI2 with ⟨r1, r2⟩ | ⟨r1, c', v', Z, Y'', r2, r3, r4, r5, r6⟩
          · exact Or.inl ⟨r1, zq_er_back r2 y8⟩
          · exact Or.inr ⟨r1, c', v', Z, Y'', by omega, r3, r4, r5, fun F hF => y8 F (r6 F hF)⟩
theorem zq_sI_0 (hT : zq_T T n) {N : zc_N} {M Y : zm_M} {a t k u : Nat} {s q : Int32} (h : zq_S T n N M a t k u) (ha : a < n) (hY : zq_q T n Y (a + 1) u s q) (hD : zq_D T n (zc_mark N) Y t k u) (h33 : Y.1 33 = 0) : zq_sI T n (zc_mark N) (zc_step (zc_mark N)) Y Y (a + 1) u u s q := by
  obtain ⟨-, -, g3, -⟩ := zq_mark h 0
  have hu := h.2.2.2.2.2.2
  refine ⟨zi_step hD.1, zf_step, zc_step_at hT g3 ha, ?_, ?_, fun i _ => by rw [zc_step_2], fun i x y => absurd x (by omega), hY, zq_fr.rf, h33, Nat.le_refl _, by omega, ha⟩
  · rw [zc_step_1 (by decide) (by decide) (by decide)]; exact hD.2.1
  · rw [zc_step_1 (by decide) (by decide) (by decide)]; exact hD.2.2.2.1.1.2.2.2.1
theorem zq_putS {Z : zc_N} : zc_putString Z 0 = Z := by unfold zc_putString; rw [if_pos rfl]
theorem zq_strP (hT : zq_T T n) {N : zc_N} {M : zm_M} {a t k u : Nat} (h : zq_S T n N M a t k u) (ha : a < n) (hx : zq_x T n a = 34) : zq_out T n (zc_putString (zc_str zk_F (zc_step (zc_mark N))) (zk_str zk_F (zc_step (zc_mark N)))) M a := by
  have hn := hT.1
  have hta := h.2.2.2.2.2.1
  obtain ⟨Y, y1, y2, y3, y4, y5, y6, y7⟩ := zm_opens_at hT h ha (s := 15) (Or.inl ⟨Or.inl hx, rfl⟩)
  rw [hx] at y1
  have hI := zq_sI_0 hT h ha y1 y2 y4
  rcases zq_str hT zk_F (a + 1) u _ Y (by unfold zk_F; omega) hI with ⟨r1, r2⟩ | ⟨r1, c', v', Z, Y', r2, r3, r4, r5, r6⟩
  · rw [r1, zq_putS]
    exact zq_res_out hT (c := a + 1) (Or.inl r2) (by omega) y7
  · rw [r1, r3]
    exact zq_res_out hT (zq_strE hT y2 y3 y6 r4 (by omega) hta (Or.inl ⟨rfl, rfl⟩) r5) (by omega) (fun F hF => y7 F (r6 F hF))
theorem zq_rawP (hT : zq_T T n) {N : zc_N} {M : zm_M} {a t k u : Nat} (h : zq_S T n N M a t k u) (ha : a < n) (hx : zq_x T n a = 96) : zq_out T n (zc_putString (zc_raw zk_F (zc_step (zc_mark N))) (zk_raw zk_F (zc_step (zc_mark N)))) M a := by
  have hn := hT.1
  have hta := h.2.2.2.2.2.1
  obtain ⟨Y, y1, y2, y3, y4, y5, y6, y7⟩ := zm_opens_at hT h ha (s := 16) (Or.inr ⟨hx, rfl⟩)
  rw [hx] at y1
  have hI := zq_sI_0 hT h ha y1 y2 y4
  rcases zq_raw hT zk_F (a + 1) u _ Y (by unfold zk_F; omega) hI with ⟨r1, r2⟩ | ⟨r1, c', v', Z, Y', r2, r3, r4, r5, r6⟩
  · rw [r1, zq_putS]
    exact zq_res_out hT (c := a + 1) (Or.inl r2) (by omega) y7
  · rw [r1, r3]
    exact zq_res_out hT (zq_strE hT y2 y3 y6 r4 (by omega) hta (Or.inr ⟨rfl, rfl⟩) r5) (by omega) (fun F hF => y7 F (r6 F hF))
/-- the end of a rune -/
theorem zq_runeE (hT : zq_T T n) {N0 X : zc_N} {Y0 Y : zm_M} {a c t k u v mm : Nat} (hD : zq_D T n N0 Y0 t k u) (hst : zq_st T n N0 Y0 a u) (h42 : Y0.1 42 = nI u) (hI : zc_I X) (hFr : zc_Fr N0 X) (hct : zq_ct T n X c) (h65 : X.1 65 = 0) (h1 : X.1 1 = nI u) (hp0 : X.2 = N0.2) (hY : zq_q T n Y c v 15 39) (hfr : zq_fr Y0 Y u) (h33 : Y.1 33 = 0) (h41 : Y.1 41 = 1) (h38 : Y.1 38 = nI mm) (hua : u ≤ a) (hvc : v ≤ c) (hac : a < c) (hta : t ≤ a) (hx : zq_x T n c = 39) : zq_res T n (zc_tell (zc_putT (zc_step X) 4) 10 (nI mm)) Y c := by
  have hn := hT.1
  have hlt : c < n := zq_lt (by rw [hx]; decide)
  have hY9 := hY
  obtain ⟨hmt, h30, h15, h36, h39, h32, h21, t9, a9, ht9, h3, ha9, h23⟩ := hY9
  obtain ⟨f1, f2, f3, f4⟩ := hfr
  have g : ∀ j : Nat, j ≠ 15 → j ≠ 21 → j ≠ 27 → j ≠ 28 → j ≠ 29 → (j < 33 ∨ 41 < j) → Y.1 j = Y0.1 j := f1
  have g3 : Y.1 3 = nI t := (g 3 (by decide) (by decide) (by decide) (by decide) (by decide) (by decide)).trans hD.2.2.2.1.1.2.1
  have g42 : Y.1 42 = nI u := (g 42 (by decide) (by decide) (by decide) (by decide) (by decide) (by decide)).trans h42
  have g23 : Y.1 23 = nI a := (g 23 (by decide) (by decide) (by decide) (by decide) (by decide) (by decide)).trans hst.2.1
  have hcs := zc_step_at hT hct hlt
  have hFs : zc_Fr N0 (zc_step X) := hFr.tr zf_step
  have s1 : ∀ j : Nat, j ≠ 62 → j ≠ 63 → j ≠ 64 → (zc_step X).1 j = X.1 j := fun j a b c => zc_step_1 a b c
  have s54 : (zc_step X).1 54 = nI a := (hFs.1 54 (by decide) (by decide) (by decide) (by decide) (by decide) (by decide)).trans hst.1.1
  have s55 : (zc_step X).1 55 = zq_ln T n a := (hFs.1 55 (by decide) (by decide) (by decide) (by decide) (by decide) (by decide)).trans hst.1.2.1
  have s56 : (zc_step X).1 56 = nI a - zq_ls T n a + 1 := (hFs.1 56 (by decide) (by decide) (by decide) (by decide) (by decide) (by decide)).trans hst.1.2.2.1
  have s57 : (zc_step X).1 57 = nI u := (hFs.1 57 (by decide) (by decide) (by decide) (by decide) (by decide) (by decide)).trans hst.1.2.2.2
  have el : (zc_step X).1 62 - (zc_step X).1 54 = nI (c + 1 - a) := by rw [hcs.2.2.1, s54, pk_sub (by omega)]
  have ep : zc_putT (zc_step X) 4 = zc_from (zc_step X) 4 (nI (c + 1 - a)) := by
    unfold zc_putT
    rw [el]
  rw [ep]
  have hK := hD.2.2.2.1.1
  obtain ⟨c1, c2, c3, c4, c5, c6, c7, c8, c9, c10⟩ := zq_from (zi_step hI) hFs hK.1 (show t < 16384 by omega) 4 (nI (c + 1 - a))
  obtain ⟨q1, q2, q3, q4⟩ := zc_row_tl 10 10 (nI mm) rfl c2 c9 c10 (by decide) c6
  have hIt : zc_I (zc_tell (zc_from (zc_step X) 4 (nI (c + 1 - a))) 10 (nI mm)) := zi_tell c1 _ _
  generalize zc_from (zc_step X) 4 (nI (c + 1 - a)) = P at c1 c2 c3 c4 c5 c6 c7 c8 c9 c10 q1 q2 q3 q4 hIt ⊢
  generalize zc_tell P 10 (nI mm) = Q at q1 q2 q3 q4 hIt ⊢
  have eL : Y.1 27 + 1 - Y.1 23 = nI (c + 1 - a) := by rw [hmt.2.2.1, nI_1, g23, pk_sub (by omega)]
  have m3 : (zm_s Y 15 (nI u)).1 3 = nI t := g3
  obtain ⟨m1, ⟨m4, m5, m6, m7, m8, m9, m10, m11, m12, m13⟩, m2, m22⟩ := zm_token_at m3 (show t < 16384 by omega) 4 (nI (c + 1 - a)) 0
  have rw1 := zm_token_row m3 (show t < 16384 by omega) 4 (nI (c + 1 - a)) 0
  have ecl : zm_close Y = zm_s (zm_v (zm_token (zm_s Y 15 (nI u)) 4 (nI (c + 1 - a)) 0) (nI t) (nI mm).toInt64) 21 0 := by
    have d1 : (zm_token (zm_s Y 15 (nI u)) 4 (nI (c + 1 - a)) 0).1 30 < 0 := by
      rw [m1, zq_upd, if_neg (by decide)]
      show Y.1 30 < 0
      rw [h30]
      exact zq_m1
    have d2 : (zm_token (zm_s Y 15 (nI u)) 4 (nI (c + 1 - a)) 0).1 32 = 39 := by
      rw [m1, zq_upd, if_neg (by decide)]
      show Y.1 32 = 39
      exact h32
    have d3 : (zm_token (zm_s Y 15 (nI u)) 4 (nI (c + 1 - a)) 0).1 3 - 1 = nI t := by rw [m1, zq_upd, if_pos rfl, nI_pred]
    have d5 : (zm_token (zm_s Y 15 (nI u)) 4 (nI (c + 1 - a)) 0).1 38 = nI mm := by
      rw [m1, zq_upd, if_neg (by decide)]
      show Y.1 38 = _
      exact h38
    have d4 : zr_q4 (Y.1 32) = 4 := by unfold zr_q4; rw [h32, if_pos rfl]
    unfold zm_close
    rw [if_neg (fun z => by have := z.2; rw [h41] at this; exact absurd this (by decide))]
    dsimp only
    rw [g42, eL, d4, if_neg (fun z => z d1), if_pos d2, d3, d5]
  obtain ⟨W, hW⟩ : ∃ W : zm_M, W = zm_token (zm_s Y 15 (nI u)) 4 (nI (c + 1 - a)) 0 := ⟨_, rfl⟩
  rw [← hW] at m1 m4 m5 m6 m7 m8 m9 m10 m11 m12 m13 m2 m22 ecl
  have rw1 : ∀ r j : Nat, 4 ≤ r → r ≤ 13 → j < t → W.2.1 r j = Y.2.1 r j := fun r j a b d => by rw [hW]; exact rw1 r j a b d
  clear hW
  obtain ⟨V, hV⟩ : ∃ V : zm_M, V = zm_s (zm_v W (nI t) (nI mm).toInt64) 21 0 := ⟨_, rfl⟩
  rw [← hV] at ecl
  have vr : ∀ r : Nat, V.2.1 r = W.2.1 r := fun r => by rw [hV]
  have v22 : V.2.2 = vp_updL W.2.2 t (nI mm).toInt64 := by
    rw [hV]
    show vp_updL W.2.2 (nI t).toNatClampNeg _ = _
    rw [nI_clamp (by omega)]
  have v21 : V.1 21 = 0 := by rw [hV]; rfl
  have vo : ∀ j : Nat, j ≠ 21 → V.1 j = W.1 j := fun j b => by
    rw [hV]
    show upd W.1 21 _ j = _
    rw [zq_upd, if_neg b]
  clear hV
  have wo : ∀ j : Nat, j ≠ 3 → j ≠ 15 → W.1 j = Y.1 j := fun j a b => by
    rw [m1, zq_upd, if_neg a]
    show upd Y.1 15 _ j = _
    rw [zq_upd, if_neg b]
  have w15 : W.1 15 = nI u := by
    rw [m1, zq_upd, if_neg (by decide)]
    rfl
  have hDV : zq_D T n Q V (t + 1) k (u + 0) := by
    refine zq_D_tok hD (show t < 16384 by omega) (by omega) hIt (by rw [q2]; exact c2) ?_ ?_ (by rw [q2]; exact c3) (fun b hb => by rw [q3 b (by omega)]; exact c4 b (by omega) (by omega)) q1 (fun i hi => ?_) (by rw [q2]; exact c7) ?_ ?_ ?_ ?_ (fun r x y j hj => ?_) (fun b hb => ?_) (fun i hi => ?_) (fun j hj => ?_) ?_ ?_ ?_ ?_ ?_ ?_ ?_ ?_ ?_ ?_ ?_ ?_ (fun i hi => absurd hi (by omega)) (fun z => absurd z (show ¬ (4 : Int32) = 2 by decide)) (fun z => ?_)
    · rw [q2, c8 1 (by decide) (by decide), s1 1 (by decide) (by decide) (by decide), h1, Nat.add_zero]
    · rw [q2, c8 65 (by decide) (by decide), s1 65 (by decide) (by decide) (by decide)]; exact h65
    · rw [q3 0 (by decide), c5, zc_step_2, hp0]
    · rw [vo 3 (by decide), m1, zq_upd, if_pos rfl]
    · rw [vo 15 (by decide), w15, Nat.add_zero]
    · rw [vo 17 (by decide), wo 17 (by decide) (by decide)]; exact g 17 (by decide) (by decide) (by decide) (by decide) (by decide) (by decide)
    · rw [vo 30 (by decide), wo 30 (by decide) (by decide)]; exact h30
    · rw [vr r, rw1 r j x y hj, f2 r (by omega)]
    · rw [vr b, m2 b (by omega)]
      exact f2 b (by omega)
    · rw [vr 16, m2 16 (by decide)]
      exact f3 i hi
    · rw [v22, m22]
      show (if j = t then _ else if j = t then _ else Y.2.2 j) = Y0.2.2 j
      rw [if_neg (by omega), if_neg (by omega), f4]
    · rw [vr 4, m4, zq_upd, if_pos rfl]; rfl
    · rw [vr 5, m5, zq_upd, if_pos rfl]
      show Y.1 23 = (zc_step X).1 54
      rw [g23, s54]
    · rw [vr 6, m6, zq_upd, if_pos rfl]
      show Y.1 24 = (zc_step X).1 55
      rw [g 24 (by decide) (by decide) (by decide) (by decide) (by decide) (by decide), s55]
      exact hst.2.2.1
    · rw [vr 7, m7, zq_upd, if_pos rfl]
      show Y.1 25 = (zc_step X).1 56
      rw [g 25 (by decide) (by decide) (by decide) (by decide) (by decide) (by decide), s56]
      exact hst.2.2.2
    · rw [vr 8, m8, zq_upd, if_pos rfl]; rfl
    · have e9 : V.2.1 9 t = vp_nar .boolean 0 := by rw [vr 9, m9, zq_upd, if_pos rfl]
      rw [e9]
      rfl
    · rw [vr 10, m10, zq_upd, if_pos rfl]; rfl
    · rw [vr 11, m11, zq_upd, if_pos rfl]; rfl
    · show (zc_step X).1 1 - (zc_step X).1 57 = _
      rw [s1 1 (by decide) (by decide) (by decide), h1, s57, pk_sub (Nat.le_refl _), Nat.sub_self]
    · rw [vr 13, m13, zq_upd, if_pos rfl]; rfl
    · exact s57
    · rw [vr 12, m12, zq_upd, if_pos rfl]; rfl
    · rw [v22]
      show (if t = t then _ else _) = _
      rw [if_pos rfl]
      rfl
  rw [Nat.add_zero] at hDV
  have hmV : zq_mt T n V c := zq_mt_eq hmt (fun j hj => by rw [vo j (by omega), wo j (by omega) (by omega)]) (by rw [vr 1, m2 1 (by decide)])
  have hcF : zq_ct T n Q (c + 1) := zq_ct_eq hcs (fun j hj => by rw [q2]; exact c8 j (by omega) (by omega)) (by rw [q3 60 (by decide), c4 60 (by decide) (by decide)]; exact (hFs.2.1 60 (by decide)).symm)
  obtain ⟨S1, S2⟩ := zq_arrive hT hDV hcF hmV hlt v21 (by omega) (by omega)
  refine Or.inr ⟨_, c + 1, t + 1, k, u, by omega, S1, fun F hF => ?_⟩
  refine zt_step hT hmt (by omega) (by rw [h30]; exact zq_m1) (zm_ok_q (D := 0) (by rw [h21]; simp) ht9 h3 ha9 h23 h15 (by omega) (by omega) (fun z => absurd z (by rw [h36]; decide))) ?_
  have es : zm_step Y (zq_x T n c) = V := by
    rw [zm_step_q (Or.inl h21)]
    unfold zm_quoted
    rw [if_neg (by rw [h33]; decide), if_neg (by rw [h36]; decide), if_neg (fun z => z h39), if_pos (by rw [h32, hx]), ecl]
  rw [es]
  exact S2 F hF
theorem zq_runeP (hT : zq_T T n) {N : zc_N} {M : zm_M} {a t k u : Nat} (h : zq_S T n N M a t k u) (ha : a < n) (hx : zq_x T n a = 39) : zq_out T n (zc_putRune (zc_rune (zc_mark N)) (zk_rune (zc_mark N))) M a := by
  have hn := hT.1
  have hta := h.2.2.2.2.2.1
  have hua := h.2.2.2.2.2.2
  obtain ⟨Y, y1, y2, y3, y4, y5, y6, y7⟩ := zm_opens_at hT h ha (s := 15) (Or.inl ⟨Or.inr hx, rfl⟩)
  rw [hx] at y1
  obtain ⟨i1, i2, i3, i4, i5, -, -, -, -, -, -, -, -⟩ := zq_sI_0 hT h ha y1 y2 y4
  have i6 : (zc_step (zc_mark N)).2 = (zc_mark N).2 := zc_step_2
  unfold zc_rune zk_rune
  generalize zc_step (zc_mark N) = X at i1 i2 i3 i4 i5 i6 ⊢
  have pm : ∀ Z : zc_N, zc_putRune Z (-1) = Z := fun Z => by unfold zc_putRune; rw [if_pos rfl]
  rcases zq_rchar hT (Or.inr rfl) (show u ≤ 14000 by omega) i1 i3 ha y1 y4 (fun z => absurd z (by decide)) (fun _ => y5) with ⟨r1, r2⟩ | ⟨d, mm, l, Y', d1, d2, d3, d4, d5, d6, d7, d8, d9, d10, d11, d12, d13, d14, d15, d16, d17⟩
  · rw [if_pos r1, if_pos r1, pm]
    exact zq_res_out hT (c := a + 1) (Or.inl r2) (by omega) y7
  · have hne : ¬ zk_rchar X 39 = -1 := by rw [d3]; exact zq_nm1' mm (by omega)
    rw [if_neg hne, if_neg hne]
    have hh : zk_here (zc_rchar X 39) = zq_x T n (a + 1 + d) := zk_here_at hT d5 (by omega)
    rw [hh]
    have hFz : zc_Fr (zc_mark N) (zc_rchar X 39) := i2.tr zf_rchar
    by_cases cq : zq_x T n (a + 1 + d) = 39
    · rw [if_pos cq, if_pos cq, d3]
      have ep : zc_putRune (zc_step (zc_rchar X 39)) (nI mm) = zc_tell (zc_putT (zc_step (zc_rchar X 39)) 4) 10 (nI mm) := by
        unfold zc_putRune
        rw [if_neg (zq_nm1' mm (by omega))]
      rw [ep]
      refine zq_res_out hT (zq_runeE hT y2 y3 y6 d6 hFz d5 ?_ ?_ (d7.trans i6) d11 d12 d13 d15 d14 hua (by omega) (by omega) hta cq) (by omega) (fun F hF => y7 F (d17 F hF))
      · rw [d8 65 (by decide) (by decide) (by decide) (by decide)]; exact i4
      · rw [d8 1 (by decide) (by decide) (by decide) (by decide)]; exact i5
    · rw [if_neg cq, if_neg cq, pm]
      refine zq_res_out hT (c := a + 1) (Or.inl (zq_er_back (zq_er_mk d6 d5 d2 ?_) d17)) (by omega) y7
      refine zq_stop30 (Y' := Y') hT d11 (Or.inl rfl) d2 (by omega) ?_
      obtain ⟨hmt, h30, h15, h36, h39, h32, h21, -⟩ := d11
      have es : zm_step Y' (zq_x T n (a + 1 + d)) = zm_error Y' := by
        rw [zm_step_q (Or.inl h21)]
        unfold zm_quoted
        rw [if_neg (by rw [d13]; decide), if_neg (by rw [h36]; decide), if_neg (fun z => z h39), h32, if_neg cq, if_pos (Or.inr (Or.inr ⟨Or.inr ⟨rfl, by rw [d15]; decide⟩, by decide, by decide⟩))]
      rw [es]
      exact zm_error_30 h30
end
