/-! The pieces: comments. -/
section
variable {T : Nat → Int32} {n : Nat}
/-- how a piece of the text ends for both, seen from inside it -/
def zq_res (T : Nat → Int32) (n : Nat) (Z : zc_N) (Y : zm_M) (c : Nat) : Prop := zq_er n Z Y ∨ ∃ (V : zm_M) (b t k u : Nat), c ≤ b ∧ zq_S T n Z V b t k u ∧ ∀ F : zm_M, zg V F → zt Y F
theorem zq_res_back {Z : zc_N} {Y Y' : zm_M} {c c' : Nat} (h : zq_res T n Z Y' c') (hc : c ≤ c') (hF : ∀ F : zm_M, zt Y' F → zt Y F) : zq_res T n Z Y c := by
  rcases h with h | ⟨V, b, t, k, u, h1, h2, h3⟩
  · exact Or.inl (zq_er_back h hF)
  · exact Or.inr ⟨V, b, t, k, u, by omega, h2, fun F f => hF F (h3 F f)⟩
theorem zq_res_out (hT : zq_T T n) {Z : zc_N} {Y M : zm_M} {a c : Nat} (h : zq_res T n Z Y c) (hc : a < c) (hF : ∀ F : zm_M, zt Y F → zg M F) : zq_out T n Z M a := by
  have hn := hT.1
  rcases h with ⟨h1, h2, e, F, h3, h4, h5, h6⟩ | ⟨V, b, t, k, u, h1, h2, h3⟩
  · exact Or.inr ⟨h1, h2, e, F, by omega, h4, h5, hF F h6⟩
  · exact Or.inl ⟨V, b, t, k, u, by omega, h2, fun F f => hF F (h3 F f)⟩
theorem zq_line (hT : zq_T T n) {a k u : Nat} (hu : u ≤ a) : ∀ (m c t : Nat) (X : zc_N) (Y : zm_M), n - c < m → zq_C T n X Y c a t k u 18 → a + 2 ≤ c → t ≤ a + 1 → zq_res T n (zc_line m X) Y c := by
  have hn := hT.1
  intro m
  induction m with
  | zero => intro c t X Y h; exact absurd h (by omega)
  | succ m ih =>
    intro c t X Y hm h hc ht
    have h9 := h
    obtain ⟨hD, hst, hct, hY, h33, hcn⟩ := h9
    have hY9 := hY
    obtain ⟨hmt, h30, h15, h36, h39, h32, h21, t9, a9, ht9, h3, ha9, h23⟩ := hY9
    have hh : zk_here X = zq_x T n c := zk_here_at hT hct (by omega)
    rw [zc_line_s rfl, hh]
    by_cases c1 : zq_x T n c = 10 ∨ zq_x T n c = -1
    · rw [if_pos c1]
      have e : ∀ j : Nat, j ≠ 21 → (zm_s Y 21 0).1 j = Y.1 j := fun j hj => by
        show upd Y.1 21 0 j = _
        rw [zq_upd, if_neg hj]
      have hm2 : zq_mt T n (zm_s Y 21 0) c := zq_mt_eq hmt (fun j hj => e j (by omega)) rfl
      refine Or.inr ⟨zm_s Y 21 0, c, t, k, u, Nat.le_refl _, ⟨zq_D_frame hD hD.1 (fun _ => rfl) (fun _ _ => rfl) rfl (fun j hj => e j (by omega)), hct, hm2, hcn, rfl, by omega, by omega⟩, fun F hF => ?_⟩
      refine zt_step hT hmt hcn (by rw [h30]; exact zq_m1) (zm_ok_q (D := 0) (by rw [h21]; simp) ht9 h3 ha9 h23 h15 (by omega) (by omega) (fun z => absurd z (by rw [h36]; decide))) ?_
      have es : zm_step Y (zq_x T n c) = zm_gap (zm_s Y 21 0) (zq_x T n c) := by
        rw [zm_step_c (Or.inl h21)]
        unfold zm_comment
        rw [if_pos ⟨h21, c1, h33⟩]
      rw [es]
      unfold zg at hF
      rw [zr_here_at hT hm2 (by omega)] at hF
      exact hF
    · rw [if_neg c1]
      rcases zq_cchar hT h (Or.inl rfl) (by omega) (fun _ => ⟨fun z => c1 (Or.inl z), fun z => c1 (Or.inr z)⟩) (fun z => absurd z (by decide)) (fun z => absurd (Or.inl z) c1) with ⟨r1, r2⟩ | ⟨r1, d, Y', d1, -, d2, -, -, -, d3⟩
      · rw [if_pos r1]
        exact Or.inl r2
      · rw [if_neg r1]
        rw [if_pos rfl] at d2
        have hlt : c < n := by have := d2.2.2.2.2.2; omega
        exact zq_res_back (ih (c + d) t (zc_char X) Y' (by omega) d2 (by omega) ht) (by omega) d3
theorem zq_lineP (hT : zq_T T n) {N : zc_N} {M : zm_M} {a t k u : Nat} (h : zq_S T n N M a t k u) (ha : a < n) (hx : zq_x T n a = 47) (hy : zq_x T n (a + 1) = 47) : zq_out T n (zc_lineC (zc_mark N)) M a := by
  have hn := hT.1
  obtain ⟨Y, y1, y2, y3, y4, y5, y6, y7⟩ := zm_slash_at hT h ha hx (Or.inl hy)
  rw [hy] at y1 y7
  rw [if_pos rfl] at y7
  have hlt : a + 1 < n := zq_lt (by rw [hy]; decide)
  obtain ⟨-, -, g3, -⟩ := zq_mark h 0
  obtain ⟨hD, hst, hmt, h21⟩ := y1
  have h21 : Y.1 21 = 18 := h21
  have hta := h.2.2.2.2.2.1
  have hua := h.2.2.2.2.2.2
  obtain ⟨e1, ⟨t', t1, t2, f1⟩, f2, f3, f4, f5, -⟩ := zq_D_semi hD hst (by omega)
  have ec : zc_lineC (zc_mark N) = zc_line zk_F (zc_endLine (zc_mark N)) := by
    unfold zc_lineC zc_lineG
    rw [e1, if_neg (by decide)]
  rw [ec]
  have hc0 : zq_ct T n (zc_endLine (zc_mark N)) a := zq_ct_eq g3 (fun j hj => f2 j (by omega) (by omega)) (f3 60 (by decide))
  have hst0 : zq_st T n (zc_endLine (zc_mark N)) (zm_semicolon Y) a u := by
    obtain ⟨⟨s1, s2, s3, s4⟩, s5, s6, s7⟩ := hst
    refine ⟨⟨?_, ?_, ?_, ?_⟩, ?_, ?_, ?_⟩
    · rw [f2 54 (by decide) (by decide)]; exact s1
    · rw [f2 55 (by decide) (by decide)]; exact s2
    · rw [f2 56 (by decide) (by decide)]; exact s3
    · rw [f2 57 (by decide) (by decide)]; exact s4
    · rw [f4 23 (by decide)]; exact s5
    · rw [f4 24 (by decide)]; exact s6
    · rw [f4 25 (by decide)]; exact s7
  have hmS : zq_mt T n (zm_semicolon Y) (a + 1) := zq_mt_eq hmt (fun j hj => f4 j (by omega)) (f5 1 (by decide))
  generalize zc_endLine (zc_mark N) = X at f1 hc0 hst0
  have s21 : (zm_semicolon Y).1 21 = 18 := (f4 21 (by decide)).trans h21
  have s31 : (zm_semicolon Y).1 31 = 0 := (f4 31 (by decide)).trans y2
  have s32 : (zm_semicolon Y).1 32 = 0 := (f4 32 (by decide)).trans y3
  have s33 : (zm_semicolon Y).1 33 = 0 := (f4 33 (by decide)).trans y4
  have s36 : (zm_semicolon Y).1 36 = 0 := (f4 36 (by decide)).trans y5
  have s39 : (zm_semicolon Y).1 39 = 0 := (f4 39 (by decide)).trans y6
  generalize zm_semicolon Y = V at f1 hst0 hmS y7 s21 s31 s32 s33 s36 s39
  have hc1 := zc_step_at hT hc0 ha
  have hc2 := zc_step_at hT hc1 hlt
  -- two steps of the class
  have two : zc_line zk_F X = zc_line 65534 (zc_step (zc_step X)) := by
    have one : ∀ (m : Nat) (Z : zc_N), zk_here Z = 47 → zc_line (m + 1) Z = zc_line m (zc_step Z) := by
      intro m Z hZ
      have e1 : zk_char Z = 47 := by unfold zk_char; rw [hZ, if_pos (by decide), if_pos (by decide)]
      have e2 : zc_char Z = zc_step Z := by unfold zc_char; rw [hZ, if_pos (by decide), if_pos (by decide)]
      rw [zc_line_s rfl, hZ, if_neg (by decide), e1, if_neg (by decide), e2]
    show zc_line (65534 + 1 + 1) X = _
    rw [one _ X ((zk_here_at hT hc0 (by omega)).trans hx), one _ (zc_step X) ((zk_here_at hT hc1 (by omega)).trans hy)]
  rw [two]
  have f : ∀ k : Nat, k ≠ 27 → k ≠ 28 → k ≠ 29 → (zm_fin V 47).1 k = V.1 k := fun k a b d => zm_fin_1 a b d
  have hmF : zq_mt T n (zm_fin V 47) (a + 1 + 1) := by rw [← hy]; exact zm_fin_at hmS
  have hDF : zq_D T n (zc_step (zc_step X)) (zm_fin V 47) t' k u := zq_D_step (zq_D_step (zq_D_fin f1 47))
  have hstF : zq_st T n (zc_step (zc_step X)) (zm_fin V 47) a u := by
    have := zq_st_step (zq_st_step hst0)
    refine ⟨this.1, ?_, ?_, ?_⟩
    · rw [f 23 (by decide) (by decide) (by decide)]; exact this.2.1
    · rw [f 24 (by decide) (by decide) (by decide)]; exact this.2.2.1
    · rw [f 25 (by decide) (by decide) (by decide)]; exact this.2.2.2
  have hK := hDF.2.2.2.1
  refine zq_res_out hT (zq_line hT hua 65534 (a + 1 + 1) t' (zc_step (zc_step X)) (zm_fin V 47) (by omega) ⟨hDF, hstF, hc2, ⟨hmF, hDF.2.2.1, hK.1.2.2.2.2.1, ?_, ?_, ?_, ?_, t', a, by omega, hK.1.2.1, by omega, hstF.2.1⟩, ?_, hlt⟩ (by omega) (by omega)) (by omega) y7
  · rw [f 36 (by decide) (by decide) (by decide)]; exact s36
  · rw [f 39 (by decide) (by decide) (by decide)]; exact s39
  · rw [f 32 (by decide) (by decide) (by decide)]; exact s32
  · rw [f 21 (by decide) (by decide) (by decide)]; exact s21
  · rw [f 33 (by decide) (by decide) (by decide)]; exact s33
theorem zq_long (hT : zq_T T n) {a k u : Nat} (hu : u ≤ a) : ∀ (m c t : Nat) (X : zc_N) (Y : zm_M) (s : Int32), n - c < m → zq_C T n X Y c a t k u s → (s = 19 ∨ (s = 20 ∧ ¬ zq_x T n c = 47)) → a + 2 ≤ c → ((Y.1 31 = 0 ∧ t ≤ a) ∨ (¬ Y.1 31 = 0 ∧ zr_asks (zr_last Y) = 0 ∧ t ≤ a + 1)) → zq_res T n (zc_long m X) Y c := by
  have hn := hT.1
  intro m
  induction m with
  | zero => intro c t X Y s h; exact absurd h (by omega)
  | succ m ih =>
    intro c t X Y s hm h hs hc h31
    have h9 := h
    obtain ⟨hD, hst, hct, hY, h33, hcn⟩ := h9
    have hY9 := hY
    obtain ⟨hmt, h30, h15, h36, h39, h32, h21, t9, a9, ht9, h3, ha9, h23⟩ := hY9
    have hh : zk_here X = zq_x T n c := zk_here_at hT hct (by omega)
    have hs3 : s = 18 ∨ s = 19 ∨ s = 20 := by rcases hs with z | z; exact Or.inr (Or.inl z); exact Or.inr (Or.inr z.1)
    have n18 : ¬ s = 18 := by rcases hs with z | z; rw [z]; decide; rw [z.1]; decide
    have hnx : zk_next X = zq_x T n (c + 1) := by
      rcases Nat.lt_or_ge c n with q | q
      · exact zk_next_at hT hct q
      · have : n = c := by omega
        exact zk_next_le hT hct (by omega)
    rw [zc_long_s rfl, hh, hnx]
    by_cases c1 : zq_x T n c = 42 ∧ zq_x T n (c + 1) = 47
    · rw [if_pos c1]
      have hlt : c < n := zq_lt (by rw [c1.1]; decide)
      have hlt2 : c + 1 < n := zq_lt (by rw [c1.2]; decide)
      have ev : zq_v T c = 42 := by
        obtain ⟨w1, w2, -⟩ := zq_vx hT hlt
        exact z_injC (b := 42) (by omega) (by omega) (w2.symm.trans c1.1)
      rcases zq_cchar hT h hs3 (by omega) (fun z => absurd z n18) (fun _ => by rw [c1.1]; decide) (fun z => by rw [c1.1] at z; exact absurd z (by decide)) with ⟨r1, r2⟩ | ⟨r1, d, Y', d1, d0, d2, e31, e3, e4, d3⟩
      · exfalso
        have : zk_char X = 42 := by unfold zk_char; rw [hh, c1.1, if_pos (by decide), if_pos (by decide)]
        rw [this] at r1
        exact absurd r1 (by decide)
      · have hd : d = 1 := by rcases d0 with z | z; omega; exact z
        subst hd
        have ecs : zc_char X = zc_step X := by unfold zc_char; rw [hh, c1.1, if_pos (by decide), if_pos (by decide)]
        rw [ecs, if_neg n18, c1.1] at d2
        have hcm : zr_cm 42 = 20 := by decide
        rw [hcm] at d2
        obtain ⟨q1, q2, q3, q4, q5, q6⟩ := d2
        obtain ⟨p1, p2, p3, p4, p5, p6, p7, t8, a8, ht8, p8, ha8, p9⟩ := q4
        have e : ∀ j : Nat, j ≠ 21 → (zm_s Y' 21 0).1 j = Y'.1 j := fun j hj => by
          show upd Y'.1 21 0 j = _
          rw [zq_upd, if_neg hj]
        have hD2 : zq_D T n (zc_step (zc_step X)) (zm_s Y' 21 0) t k u := zq_D_frame (zq_D_step q1) (zq_D_step q1).1 (fun _ => rfl) (fun _ _ => rfl) rfl (fun j hj => e j (by omega))
        have ht : t ≤ a + 1 := by rcases h31 with z | z <;> omega
        obtain ⟨S1, S2⟩ := zq_arrive hT hD2 (zc_step_at hT q3 hlt2) (zq_mt_eq p1 (fun j hj => e j (by omega)) rfl) hlt2 rfl (by omega) (by omega)
        refine Or.inr ⟨_, c + 1 + 1, t, k, u, by omega, S1, fun F hF => d3 F ?_⟩
        refine zt_step hT p1 (by omega) (by rw [p2]; exact zq_m1) (zm_ok_q (D := 0) (by rw [p7]; simp) ht8 p8 ha8 p9 p3 (by omega) (by omega) (fun z => absurd z (by rw [p4]; decide))) ?_
        have es : zm_step Y' (zq_x T n (c + 1)) = zm_s Y' 21 0 := by
          rw [zm_step_c (Or.inr (Or.inr p7))]
          unfold zm_comment
          rw [if_neg (by rw [p7]; exact fun z => absurd z.1 (by decide)), if_pos ⟨p7, c1.2⟩]
        rw [es]
        exact S2 F hF
    · rw [if_neg c1]
      -- one character more, from states that agree
      have main : ∀ (X1 : zc_N) (Y1 : zm_M) (t1 : Nat), zq_C T n X1 Y1 c a t1 k u s → (zq_x T n c = 10 → ¬ Y1.1 31 = 0) → ((Y1.1 31 = 0 ∧ t1 ≤ a) ∨ (¬ Y1.1 31 = 0 ∧ zr_asks (zr_last Y1) = 0 ∧ t1 ≤ a + 1)) → zq_res T n (if zk_char X1 = -1 then zc_char X1 else zc_long m (zc_char X1)) Y1 c := by
        intro X1 Y1 t1 h1 h10 h311
        rcases zq_cchar hT h1 hs3 (by omega) (fun z => absurd z n18) (fun z => by rcases hs with y | y; rw [y] at z; exact absurd z (by decide); exact y.2) h10 with ⟨r1, r2⟩ | ⟨r1, d, Y', d1, d0, d2, e31, e3, e4, d3⟩
        · rw [if_pos r1]
          exact Or.inl r2
        · rw [if_neg r1]
          rw [if_neg n18] at d2
          have hlt : c < n := by have := d2.2.2.2.2.2; omega
          obtain ⟨w1, w2, -⟩ := zq_vx hT hlt
          refine zq_res_back (ih (c + d) t1 (zc_char X1) Y' _ (by omega) d2 ?_ (by omega) ?_) (by omega) d3
          · unfold zr_cm
            by_cases z : zq_x T n c = 42
            · have ev : zq_v T c = 42 := z_injC (b := 42) (by omega) (by omega) (w2.symm.trans z)
              have hd : d = 1 := by rcases d0 with y | y; omega; exact y
              rw [if_pos z, hd]
              exact Or.inr ⟨rfl, fun y => c1 ⟨z, y⟩⟩
            · rw [if_neg z]
              exact Or.inl rfl
          · unfold zr_last
            rw [e31, e3, e4]
            exact h311
      by_cases c10 : zq_x T n c = 10
      · have hs58 := zq_D_semi hD hst (show t < 16384 by rcases h31 with z | z <;> omega)
        obtain ⟨e1, -⟩ := hs58
        rw [e1, if_neg (fun z => absurd z.2 (by decide))]
        have elf : zc_lf X = zc_endLine X := by unfold zc_lf; rw [hh, if_pos c10]
        rw [elf]
        rcases h31 with ⟨z31, zt1⟩ | ⟨z31, zas, zt1⟩
        · -- the first line's end
          have m31 : ∀ j : Nat, j ≠ 31 → (zm_s Y 31 1).1 j = Y.1 j := fun j hj => by
            show upd Y.1 31 1 j = _
            rw [zq_upd, if_neg hj]
          have hD1 : zq_D T n X (zm_s Y 31 1) t k u := zq_D_frame hD hD.1 (fun _ => rfl) (fun _ _ => rfl) rfl (fun j hj => m31 j (by omega))
          have hst1 : zq_st T n X (zm_s Y 31 1) a u := ⟨hst.1, hst.2⟩
          obtain ⟨-, ⟨t', t1, t2, f1⟩, f2, f3, f4, f5, f6⟩ := zq_D_semi hD1 hst1 (by omega)
          have g : ∀ j : Nat, j ≠ 3 → j ≠ 31 → (zm_semicolon (zm_s Y 31 1)).1 j = Y.1 j := fun j a b => (f4 j a).trans (m31 j b)
          have g31 : (zm_semicolon (zm_s Y 31 1)).1 31 = 1 := f4 31 (by decide)
          have hstep : zm_step Y (zq_x T n c) = zm_step (zm_semicolon (zm_s Y 31 1)) (zq_x T n c) := by
            have a1 : Y.1 21 = 18 ∨ Y.1 21 = 19 ∨ Y.1 21 = 20 := by rw [h21]; exact hs3
            have a2 : (zm_semicolon (zm_s Y 31 1)).1 21 = Y.1 21 := g 21 (by decide) (by decide)
            rw [zm_step_c a1, zm_step_c (by rw [a2]; exact a1)]
            have key : ∀ Z M1 : zm_M, ¬ Z.1 21 = 18 → (if zq_x T n c = 10 ∧ Z.1 33 = 0 ∧ Z.1 31 = 0 then zm_semicolon (zm_s Z 31 1) else Z) = M1 → zm_comment Z (zq_x T n c) = if zq_x T n c = 0 then zm_error (zm_s M1 32 0) else if (zm_quoted (zm_s M1 32 0) (zq_x T n c)).1 21 = 18 then zm_quoted (zm_s M1 32 0) (zq_x T n c) else zm_s (zm_quoted (zm_s M1 32 0) (zq_x T n c)) 21 (zr_cm (zq_x T n c)) := by
              intro Z M1 z1 z2
              have nA : ¬ (Z.1 21 = 18 ∧ (zq_x T n c = 10 ∨ zq_x T n c = -1) ∧ Z.1 33 = 0) := fun z => z1 z.1
              have nB : ¬ (Z.1 21 = 20 ∧ zq_x T n c = 47) := fun z => by rw [c10] at z; exact absurd z.2 (by decide)
              unfold zm_comment
              rw [if_neg nA, if_neg nB]
              dsimp only
              rw [z2]
            have nC : ¬ (zq_x T n c = 10 ∧ (zm_semicolon (zm_s Y 31 1)).1 33 = 0 ∧ (zm_semicolon (zm_s Y 31 1)).1 31 = 0) := fun z => by
              have := z.2.2
              rw [g31] at this
              exact absurd this (by decide)
            rw [key Y _ (fun z => n18 (h21.symm.trans z)) (if_pos ⟨c10, h33, z31⟩), key (zm_semicolon (zm_s Y 31 1)) _ (fun z => n18 (h21.symm.trans (a2.symm.trans z))) (if_neg nC)]
          have hmt1 : zq_mt T n (zm_semicolon (zm_s Y 31 1)) c := zq_mt_eq hmt (fun j hj => g j (by omega) (by omega)) (f5 1 (by decide))
          have back : ∀ F : zm_M, zt (zm_semicolon (zm_s Y 31 1)) F → zt Y F := by
            intro F hF
            have := zt_inv hT hmt1 hcn (by rw [f1.2.2.1]; exact zq_m1) hF
            refine zt_step hT hmt hcn (by rw [h30]; exact zq_m1) (zm_ok_q (D := 0) (by rw [h21]; rcases hs3 with z | z | z <;> simp [z]) ht9 h3 ha9 h23 h15 (by omega) (by omega) (fun z => absurd z (by rw [h36]; decide))) ?_
            rw [hstep]
            exact this
          have hK := f1.2.2.2.1
          have hC1 : zq_C T n (zc_endLine X) (zm_semicolon (zm_s Y 31 1)) c a t' k u s := by
            obtain ⟨⟨s1, s2, s3, s4⟩, s5, s6, s7⟩ := hst
            refine ⟨f1, ⟨⟨?_, ?_, ?_, ?_⟩, ?_, ?_, ?_⟩, zq_ct_eq hct (fun j hj => f2 j (by omega) (by omega)) (f3 60 (by decide)), ⟨hmt1, f1.2.2.1, hK.1.2.2.2.2.1, ?_, ?_, ?_, ?_, t', a9, by omega, hK.1.2.1, ha9, ?_⟩, ?_, hcn⟩
            · rw [f2 54 (by decide) (by decide)]; exact s1
            · rw [f2 55 (by decide) (by decide)]; exact s2
            · rw [f2 56 (by decide) (by decide)]; exact s3
            · rw [f2 57 (by decide) (by decide)]; exact s4
            · rw [g 23 (by decide) (by decide)]; exact s5
            · rw [g 24 (by decide) (by decide)]; exact s6
            · rw [g 25 (by decide) (by decide)]; exact s7
            · rw [g 36 (by decide) (by decide)]; exact h36
            · rw [g 39 (by decide) (by decide)]; exact h39
            · rw [g 32 (by decide) (by decide)]; exact h32
            · rw [g 21 (by decide) (by decide)]; exact h21
            · rw [g 23 (by decide) (by decide)]; exact h23
            · rw [g 33 (by decide) (by decide)]; exact h33
          have n31 : ¬ (zm_semicolon (zm_s Y 31 1)).1 31 = 0 := by rw [g31]; decide
          exact zq_res_back (main _ _ t' hC1 (fun _ => n31) (Or.inr ⟨n31, f6, by omega⟩)) (Nat.le_refl _) back
        · have e58 : X.1 58 = 0 := hD.2.2.2.2.2.trans zas
          have eE : zc_endLine X = X := by unfold zc_endLine; rw [if_pos e58]
          rw [eE]
          exact main X Y t h (fun _ => z31) (Or.inr ⟨z31, zas, zt1⟩)
      · rw [if_neg (fun z => c10 z.1)]
        have elf : zc_lf X = X := by unfold zc_lf; rw [hh, if_neg c10]
        rw [elf]
        exact main X Y t h (fun z => absurd z c10) h31
theorem zq_longP (hT : zq_T T n) {N : zc_N} {M : zm_M} {a t k u : Nat} (h : zq_S T n N M a t k u) (ha : a < n) (hx : zq_x T n a = 47) (hy : zq_x T n (a + 1) = 42) : zq_out T n (zc_longC (zc_mark N)) M a := by
  have hn := hT.1
  obtain ⟨Y, y1, y2, y3, y4, y5, y6, y7⟩ := zm_slash_at hT h ha hx (Or.inr hy)
  rw [hy] at y1 y7
  rw [if_neg (by decide)] at y7
  have hlt : a + 1 < n := zq_lt (by rw [hy]; decide)
  obtain ⟨-, -, g3, -⟩ := zq_mark h 0
  obtain ⟨hD, hst, hmt, h21⟩ := y1
  have h21 : Y.1 21 = 19 := h21
  have hta := h.2.2.2.2.2.1
  have hua := h.2.2.2.2.2.2
  have hc1 := zc_step_at hT g3 ha
  have hc2 := zc_step_at hT hc1 hlt
  unfold zc_longC
  have f : ∀ k : Nat, k ≠ 27 → k ≠ 28 → k ≠ 29 → (zm_fin Y 42).1 k = Y.1 k := fun k a b d => zm_fin_1 a b d
  have hmF : zq_mt T n (zm_fin Y 42) (a + 1 + 1) := by rw [← hy]; exact zm_fin_at hmt
  have hDF : zq_D T n (zc_step (zc_step (zc_mark N))) (zm_fin Y 42) t k u := zq_D_step (zq_D_step (zq_D_fin hD 42))
  have hstF : zq_st T n (zc_step (zc_step (zc_mark N))) (zm_fin Y 42) a u := by
    have := zq_st_step (zq_st_step hst)
    refine ⟨this.1, ?_, ?_, ?_⟩
    · rw [f 23 (by decide) (by decide) (by decide)]; exact this.2.1
    · rw [f 24 (by decide) (by decide) (by decide)]; exact this.2.2.1
    · rw [f 25 (by decide) (by decide) (by decide)]; exact this.2.2.2
  have hK := hDF.2.2.2.1
  refine zq_res_out hT (zq_long hT hua zk_F (a + 1 + 1) t _ (zm_fin Y 42) 19 (by unfold zk_F; omega) ⟨hDF, hstF, hc2, ⟨hmF, hDF.2.2.1, hK.1.2.2.2.2.1, ?_, ?_, ?_, ?_, t, a, by omega, hK.1.2.1, by omega, hstF.2.1⟩, ?_, hlt⟩ (Or.inl rfl) (by omega) (Or.inl ⟨?_, hta⟩)) (by omega) y7
  · rw [f 36 (by decide) (by decide) (by decide)]; exact y5
  · rw [f 39 (by decide) (by decide) (by decide)]; exact y6
  · rw [f 32 (by decide) (by decide) (by decide)]; exact y3
  · rw [f 21 (by decide) (by decide) (by decide)]; exact h21
  · rw [f 33 (by decide) (by decide) (by decide)]; exact y4
  · rw [f 31 (by decide) (by decide) (by decide)]; exact y2
end
