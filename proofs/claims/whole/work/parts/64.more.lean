/-! A character read by both. -/
/-- refused by both at one byte -/
def zq_er (n : Nat) (X : zc_N) (Y : zm_M) : Prop := ¬ X.1 65 = 0 ∧ zc_I X ∧ ∃ (e : Nat) (F : zm_M), e ≤ n ∧ X.1 62 = nI e ∧ F.1 30 = nI e ∧ zt Y F
theorem zq_er_mk {T : Nat → Int32} {n e : Nat} {W : zc_N} {Y : zm_M} (hI : zc_I W) (hc : zq_ct T n W e) (he : e ≤ n) (hF : ∃ F : zm_M, F.1 30 = nI e ∧ zt Y F) : zq_er n (zc_refuse W) Y := by
  obtain ⟨F, f1, f2⟩ := hF
  refine ⟨?_, zi_refuse hI, e, F, he, ?_, f1, f2⟩
  · show ¬ upd W.1 65 1 65 = 0
    rw [zq_upd, if_pos rfl]
    decide
  · show upd W.1 65 1 62 = _
    rw [zq_upd, if_neg (by decide)]
    exact hc.2.2.1
theorem zq_er_back {n : Nat} {X : zc_N} {Y Z : zm_M} (h : zq_er n X Y) (hF : ∀ F : zm_M, zt Y F → zt Z F) : zq_er n X Z := by
  obtain ⟨h1, h2, e, F, h3, h4, h5, h6⟩ := h
  exact ⟨h1, h2, e, F, h3, h4, h5, hF F h6⟩
theorem zq_md_s {s q : Int32} (h : zq_md s q) : s = 15 ∨ s = 16 ∨ s = 18 ∨ s = 19 ∨ s = 20 := by
  rcases h with ⟨h | h, -⟩ | ⟨h | h, -⟩ <;> simp [h]
section
variable {T : Nat → Int32} {n : Nat} {s q : Int32}
theorem zq_cont (hT : zq_T T n) (hs : zq_md s q) {Y : zm_M} {c v j lo hi m : Nat} (hY : zq_q T n Y c v s q) (hc : c ≤ n) (hv : v ≤ 20000) (h33 : Y.1 33 = nI (j + 1)) (hj : j < 3) (h34 : Y.1 34 = nI lo) (h35 : Y.1 35 = nI hi) (h38 : Y.1 38 = nI m) (hm : m < 2 ^ 20) (hlo : 128 ≤ lo) (hlo2 : lo ≤ 191) (hhi : hi ≤ 191) : ((zq_x T n c < nI lo ∨ nI hi < zq_x T n c) → ∃ F : zm_M, F.1 30 = nI c ∧ zt Y F) ∧ (¬ (zq_x T n c < nI lo ∨ nI hi < zq_x T n c) → ∃ Y' : zm_M, zq_q T n Y' (c + 1) (if q = 0 then v else v + 1) s q ∧ zq_fr Y Y' v ∧ Y'.1 33 = nI j ∧ Y'.1 34 = nI 128 ∧ Y'.1 35 = nI 191 ∧ Y'.1 38 = nI (m * 64 + zq_v T c % 64) ∧ (j = 0 → Y'.1 41 = 1) ∧ (¬ q = 0 → Y'.2.1 16 v = T c) ∧ ∀ F : zm_M, zt Y' F → zt Y F) := by
  have hn := hT.1
  have hY9 := hY
  obtain ⟨hmt, h30, h15, h36, h39, h32, h21, t, a, ht, h3, ha, h23⟩ := hY9
  have n33 : ¬ Y.1 33 = 0 := by rw [h33]; exact fun z => absurd (z_injC (b := 0) (by omega) (by omega) z) (by omega)
  have p33 : 0 < Y.1 33 := by rw [h33]; exact nI_lt (a := 0) (by omega) (by omega)
  have hs2 : (s = 18 ∨ s = 19) → q = 0 → zm_step Y (zq_x T n c) = if zq_x T n c = 0 then zm_error Y else if (zm_quoted Y (zq_x T n c)).1 21 = 18 then zm_quoted Y (zq_x T n c) else zm_s (zm_quoted Y (zq_x T n c)) 21 (zr_cm (zq_x T n c)) := by
    intro z1 z2
    refine zm_comm_eq (by rw [h21]; rcases z1 with z | z; exact Or.inl z; exact Or.inr (Or.inl z)) (by rw [h32]; exact z2) (fun z => n33 z.2.2) (fun z => ?_) (fun z => n33 z.2.1)
    rw [h21] at z
    rcases z1 with z1 | z1 <;> rw [z1] at z <;> exact absurd z.1 (by decide)
  constructor
  · intro hb
    refine zq_stop30 (Y' := Y) hT hY (zq_md_s hs) hc (by omega) ?_
    have e1 : zm_quoted Y (zq_x T n c) = zm_error Y := by
      unfold zm_quoted
      rw [if_pos p33, if_pos (by rw [h34, h35]; exact hb)]
    rcases hs with ⟨z, -⟩ | ⟨z1, z2⟩
    · rw [zm_step_q (by rw [h21]; exact z), e1]
      exact zm_error_30 h30
    · rw [hs2 z1 z2, e1]
      split
      · exact zm_error_30 h30
      · split
        · exact zm_error_30 h30
        · show upd (zm_error Y).1 21 (zr_cm (zq_x T n c)) 30 = _
          rw [zq_upd, if_neg (by decide)]
          exact zm_error_30 h30
  · intro hb
    have hlt : c < n := by
      apply zq_lt
      intro z
      rw [z] at hb
      refine hb (Or.inl ?_)
      have := nI_pos (n := lo) (by omega)
      exact Int32.lt_of_lt_of_le (b := 0) (by decide) (Int32.not_lt.mp this)
    obtain ⟨w1, w2, w3⟩ := zq_vx hT hlt
    have hb2 : ¬ (zq_x T n c < Y.1 34 ∨ Y.1 35 < zq_x T n c) := by rw [h34, h35]; exact hb
    have hr : 128 ≤ zq_v T c ∧ zq_v T c ≤ 191 := by
      rw [w2] at hb
      constructor
      · rcases Nat.lt_or_ge (zq_v T c) lo with z | z
        · exact absurd (Or.inl (nI_lt z (by omega))) hb
        · omega
      · rcases Nat.lt_or_ge hi (zq_v T c) with z | z
        · exact absurd (Or.inr (nI_lt z (by omega))) hb
        · omega
    obtain ⟨q1, q2, q3, q4, q5, q6, q7, q8, q9, q10, q11⟩ := zm_qcont h33 (by omega) h38 hm h15 (by omega) hb2 w2 w1
    have hst : zm_step Y (zq_x T n c) = zm_quoted Y (zq_x T n c) := by
      rcases hs with ⟨z, -⟩ | ⟨z1, z2⟩
      · exact zm_step_q (by rw [h21]; exact z) _
      · have key : ∀ w : Nat, w < 256 → 128 ≤ w → w ≤ 191 → ¬ nI w = 0 ∧ zr_cm (nI w) = 19 := by decide +kernel
        obtain ⟨k1, k2⟩ := key _ w1 hr.1 hr.2
        rw [hs2 z1 z2, w2, if_neg k1, k2, ← w2]
        have e21 : (zm_quoted Y (zq_x T n c)).1 21 = s := (q7 21 (by decide) (by decide)).trans h21
        rcases z1 with z | z
        · rw [if_pos (e21.trans z)]
        · rw [if_neg (by rw [e21, z]; decide), zm_s_same (e21.trans z)]
    generalize zm_quoted Y (zq_x T n c) = R at hst q1 q2 q3 q4 q5 q6 q7 q8 q9 q10 q11
    obtain ⟨g1, g2, g3⟩ := zq_go1 hT hY (zq_md_s hs) hc (by omega) hst ⟨fun k a b _ _ _ d => q7 k a (by omega), q8, q9, q10⟩ q6 ((q7 36 (by decide) (by decide)).trans h36) ((q7 39 (by decide) (by decide)).trans h39) ((q7 21 (by decide) (by decide)).trans h21) (fun k hk => q7 k (by omega) (by omega))
    have f : ∀ k : Nat, k ≠ 27 → k ≠ 28 → k ≠ 29 → (zm_fin R (zq_x T n c)).1 k = R.1 k := fun k a b d => zm_fin_1 a b d
    have f2 : (zm_fin R (zq_x T n c)).2 = R.2 := zm_fin_2
    rw [h32] at g1 q11
    refine ⟨zm_fin R (zq_x T n c), g1, g2, ?_, ?_, ?_, ?_, fun z => ?_, fun z => ?_, g3⟩
    · rw [f 33 (by decide) (by decide) (by decide)]; exact q1
    · rw [f 34 (by decide) (by decide) (by decide)]; exact q2
    · rw [f 35 (by decide) (by decide) (by decide)]; exact q3
    · rw [f 38 (by decide) (by decide) (by decide)]; exact q4
    · rw [f 41 (by decide) (by decide) (by decide)]; exact q5 z
    · rw [f2, q11 z, w2, w3]
      exact (zq_b255 _ w1).2.2
theorem zq_more (hT : zq_T T n) (hs : zq_md s q) {qq : Nat} (hqq : qq < 2 ^ 31) : ∀ (j c m lo hi v : Nat) (X : zc_N) (Y : zm_M), j ≤ 3 → zq_go qq j m lo hi → zc_I X → zq_ct T n X c → c ≤ n → v + j ≤ 20000 → zq_q T n Y c v s q → Y.1 33 = nI j → (0 < j → Y.1 34 = nI lo ∧ Y.1 35 = nI hi) → Y.1 38 = nI m → (j = 0 → Y.1 41 = 1) → (zk_more (nI qq) j X (nI m) = -1 ∧ zq_er n (zc_more (nI qq) j X (nI m)) Y) ∨ (c + j ≤ n ∧ zk_more (nI qq) j X (nI m) = nI (zq_cd T j c m) ∧ zq_cd T j c m ≤ 1114111 ∧ zq_ct T n (zc_more (nI qq) j X (nI m)) (c + j) ∧ zc_I (zc_more (nI qq) j X (nI m)) ∧ (zc_more (nI qq) j X (nI m)).2 = X.2 ∧ (∀ i : Nat, i ≠ 62 → i ≠ 63 → i ≠ 64 → (zc_more (nI qq) j X (nI m)).1 i = X.1 i) ∧ (∀ i : Nat, i < j → 128 ≤ zq_v T (c + i) ∧ zq_v T (c + i) < 192) ∧ (0 < j → lo ≤ zq_v T c) ∧ ∃ Y' : zm_M, zq_q T n Y' (c + j) (if q = 0 then v else v + j) s q ∧ zq_fr Y Y' v ∧ Y'.1 33 = 0 ∧ Y'.1 38 = nI (zq_cd T j c m) ∧ Y'.1 41 = 1 ∧ (¬ q = 0 → ∀ i : Nat, i < j → Y'.2.1 16 (v + i) = T (c + i)) ∧ ∀ F : zm_M, zt Y' F → zt Y F) := by
  have hn := hT.1
  intro j
  induction j with
  | zero =>
    intro c m lo hi v X Y _ hg hI hc hcn hv hY h33 _ h38 h41
    refine Or.inr ⟨hcn, rfl, hg, hc, hI, rfl, fun _ _ _ _ => rfl, fun i hi => absurd hi (by omega), fun h0 => absurd h0 (by omega), Y, ?_, zq_fr.rf, h33, h38, h41 rfl, fun _ i hi => absurd hi (by omega), fun _ hF => hF⟩
    rw [Nat.add_zero, Nat.add_zero]
    split <;> exact hY
  | succ j ih =>
    intro c m lo hi v X Y hj hg hI hc hcn hv hY h33 h34 h38 _
    obtain ⟨g1, g2, ⟨P, g3, g4, g5, g6⟩, g7⟩ := hg
    obtain ⟨h34, h35⟩ := h34 (by omega)
    obtain ⟨A, B⟩ := zq_cont hT hs hY hcn (by omega) h33 (by omega) h34 h35 h38 g5 g1.1 g1.2 g2
    have hh : zk_here X = zq_x T n c := zk_here_at hT hc (by omega)
    rw [zk_more_s rfl, zc_more_s rfl]
    by_cases bad : zq_x T n c < nI lo ∨ nI hi < zq_x T n c
    · have hb : zk_bad X (nI qq) (nI m) (nI (j + 1)) := by
        by_cases q : c < n
        · obtain ⟨w1, w2, w3⟩ := zq_vx hT q
          refine (zk_bad_at g3 w1 (hh.trans w2) g4 g5 hqq).2.mpr ((g6 _ w1).mpr ?_)
          rw [w2] at bad
          rcases bad with z | z
          · exact Or.inl (z_lit (by omega) (by omega) z)
          · exact Or.inr (z_lit (by omega) (by omega) z)
        · refine Or.inl ?_
          rw [hh, zq_xe (by omega)]
          decide
      rw [if_pos hb, if_pos hb]
      exact Or.inl ⟨rfl, zq_er_mk hI hc hcn (A bad)⟩
    · obtain ⟨Y', y1, y2, y3, y4, y5, y6, y7, y8, y9⟩ := B bad
      have hlt : c < n := by
        apply zq_lt
        intro z
        rw [z] at bad
        refine bad (Or.inl ?_)
        exact Int32.lt_of_lt_of_le (b := 0) (by decide) (Int32.not_lt.mp (nI_pos (n := lo) (by omega)))
      obtain ⟨w1, w2, w3⟩ := zq_vx hT hlt
      have hr : lo ≤ zq_v T c ∧ zq_v T c ≤ hi := by
        rw [w2] at bad
        constructor
        · rcases Nat.lt_or_ge (zq_v T c) lo with z | z
          · exact absurd (Or.inl (nI_lt z (by omega))) bad
          · exact z
        · rcases Nat.lt_or_ge hi (zq_v T c) with z | z
          · exact absurd (Or.inr (nI_lt z (by omega))) bad
          · exact z
      obtain ⟨b1, b2⟩ := zk_bad_at (q := qq) g3 w1 (hh.trans w2) g4 g5 hqq
      have hb : ¬ zk_bad X (nI qq) (nI m) (nI (j + 1)) := by
        intro z
        have := (g6 _ w1).mp (b2.mp z)
        omega
      rw [if_neg hb, if_neg hb, b1]
      have hv' : (if q = 0 then v else v + 1) + j ≤ 20000 := by split <;> omega
      rcases ih (c + 1) (m * 64 + zq_v T c % 64) 128 191 (if q = 0 then v else v + 1) (zc_step X) Y' (by omega) (g7 _ w1 hr.1 hr.2) (zi_step hI) (zc_step_at hT hc hlt) hlt hv' y1 y3 (fun _ => ⟨y4, y5⟩) y6 y7 with ⟨r1, r2⟩ | ⟨r1, r2, r3, r4, r5, r6, r7, r8, -, Z, z1, z2, z3, z4, z5, z6, z7⟩
      · exact Or.inl ⟨r1, zq_er_back r2 y9⟩
      · have e1 : c + 1 + j = c + (j + 1) := by omega
        rw [e1] at r1 r4 z1
        refine Or.inr ⟨r1, r2, r3, r4, r5, r6.trans zc_step_2, fun i a b d => (r7 i a b d).trans (zc_step_1 a b d), fun i hi => ?_, fun _ => hr.1, Z, ?_, y2.tr z2 (by split <;> omega), z3, z4, z5, fun hq i hi => ?_, fun F hF => y9 F (z7 F hF)⟩
        · rcases Nat.eq_zero_or_pos i with z | z
          · subst z
            rw [Nat.add_zero]
            omega
          · have := r8 (i - 1) (by omega)
            rw [show c + 1 + (i - 1) = c + i from by omega] at this
            exact this
        · have e2 : (if q = 0 then (if q = 0 then v else v + 1) else (if q = 0 then v else v + 1) + j) = if q = 0 then v else v + (j + 1) := by
            split
            · rfl
            · omega
          rw [e2] at z1
          exact z1
        · rw [if_neg hq] at z2 z6
          rcases Nat.eq_zero_or_pos i with z | z
          · subst z
            rw [Nat.add_zero, Nat.add_zero, z2.2.2.1 v (by omega)]
            exact y8 hq
          · have := z6 hq (i - 1) (by omega)
            rw [show v + 1 + (i - 1) = v + i from by omega, show c + 1 + (i - 1) = c + i from by omega] at this
            exact this
end
