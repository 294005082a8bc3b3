/-! Numbers: the runs of digits. -/
theorem zq_nl_mono (T : Nat → Int32) (n a : Nat) : ∀ i j : Nat, i ≤ j → (zq_nl T n a i).length ≤ (zq_nl T n a j).length := by
  intro i j
  induction j with
  | zero => intro h; have : i = 0 := by omega
            subst this; exact Nat.le_refl _
  | succ j ih =>
    intro h
    rcases Nat.lt_or_ge j i with z | z
    · have : i = j + 1 := by omega
      subst this; exact Nat.le_refl _
    · refine Nat.le_trans (ih z) ?_
      show _ ≤ (if zq_x T n (a + j) = 95 then zq_nl T n a j else zq_nl T n a j ++ [zq_x T n (a + j)]).length
      split
      · exact Nat.le_refl _
      · rw [List.length_append]; omega
theorem zq_nl_s {T : Nat → Int32} {n a c : Nat} (hac : a ≤ c) (hx : ¬ zq_x T n c = 95) : zq_nl T n a (c + 1 - a) = zq_nl T n a (c - a) ++ [zq_x T n c] := by
  rw [show c + 1 - a = (c - a) + 1 from by omega]
  show (if zq_x T n (a + (c - a)) = 95 then _ else zq_nl T n a (c - a) ++ [zq_x T n (a + (c - a))]) = _
  rw [show a + (c - a) = c from by omega, if_neg hx]
theorem zq_nl_u {T : Nat → Int32} {n a c : Nat} (hac : a ≤ c) (hx : zq_x T n c = 95) : zq_nl T n a (c + 1 - a) = zq_nl T n a (c - a) := by
  rw [show c + 1 - a = (c - a) + 1 from by omega]
  show (if zq_x T n (a + (c - a)) = 95 then zq_nl T n a (c - a) else _) = _
  rw [show a + (c - a) = c from by omega, if_pos hx]
theorem zq_d10_t : ∀ v : Nat, v < 256 → (zk_digitOf (nI v) (nI 10) = -1 ↔ zr_digit (nI v) = 0) := by decide +kernel
theorem zq_d10 {T : Nat → Int32} {n c : Nat} (hT : zq_T T n) : zk_digitOf (zq_x T n c) (nI 10) = -1 ↔ zr_digit (zq_x T n c) = 0 := by
  rcases Nat.lt_or_ge c n with q | q
  · obtain ⟨v, v1, -, v3⟩ := zq_xv hT q
    rw [v3]
    exact zq_d10_t v v1
  · rw [zq_xe q]
    decide
/-- the digits so far, and the reference's state for them -/
def zq_is (s : Int32) (L : List Int32) : Prop := 1 ≤ L.length ∧ (∀ i : Nat, i < L.length → ∃ x : Nat, x < 10 ∧ zr_worth (L.getD i 0) = nI x ∧ ¬ zr_digit (L.getD i 0) = 0) ∧ ((s = 5 ∧ ¬ L.getD 0 0 = 48) ∨ (s = 2 ∧ L.getD 0 0 = 48 ∧ L.length = 1) ∨ (s = 3 ∧ L.getD 0 0 = 48 ∧ ∀ i : Nat, 1 ≤ i → i < L.length → ¬ 55 < L.getD i 0) ∨ (s = 4 ∧ L.getD 0 0 = 48 ∧ ∃ i : Nat, 1 ≤ i ∧ i < L.length ∧ 55 < L.getD i 0))
theorem zq_is_s {s : Int32} {L : List Int32} (h : zq_is s L) : (¬ s < 2 ∧ ¬ 11 < s) ∧ ¬ s = 11 ∧ ¬ s = 6 ∧ ¬ s = 8 ∧ (s = 2 ∨ s = 3 ∨ s = 4 ∨ s = 5) ∧ ¬ s = 10 := by
  rcases h.2.2 with ⟨z, -⟩ | ⟨z, -⟩ | ⟨z, -⟩ | ⟨z, -⟩ <;> rw [z] <;> decide
theorem zq_is_add {s x : Int32} {L : List Int32} (h : zq_is s L) {d : Nat} (hd : d < 10) (hw : zr_worth x = nI d) (hdg : ¬ zr_digit x = 0) {s' : Int32} (hs' : s' = if s = 2 ∨ s = 3 then (if 55 < x then 4 else 3) else s) : zq_is s' (L ++ [x]) := by
  obtain ⟨h1, h2, h3⟩ := h
  have hlen : (L ++ [x]).length = L.length + 1 := by rw [List.length_append]; rfl
  have g0 : (L ++ [x]).getD 0 0 = L.getD 0 0 := zq_getD_l (by omega)
  have gl : (L ++ [x]).getD L.length 0 = x := zq_getD_r
  refine ⟨by omega, fun i hi => ?_, ?_⟩
  · rcases Nat.lt_or_ge i L.length with z | z
    · rw [zq_getD_l z]; exact h2 i z
    · have : i = L.length := by omega
      rw [this, gl]
      exact ⟨d, hd, hw, hdg⟩
  · rw [g0]
    rcases h3 with ⟨z1, z2⟩ | ⟨z1, z2, z3⟩ | ⟨z1, z2, z3⟩ | ⟨z1, z2, i, i1, i2, i3⟩
    · rw [z1, if_neg (by decide)] at hs'
      exact Or.inl ⟨hs', z2⟩
    · rw [z1, if_pos (by decide)] at hs'
      by_cases y : 55 < x
      · rw [if_pos y] at hs'
        exact Or.inr (Or.inr (Or.inr ⟨hs', z2, L.length, by omega, by omega, by rw [gl]; exact y⟩))
      · rw [if_neg y] at hs'
        refine Or.inr (Or.inr (Or.inl ⟨hs', z2, fun i i1 i2 => ?_⟩))
        have : i = L.length := by omega
        rw [this, gl]
        exact y
    · rw [z1, if_pos (by decide)] at hs'
      by_cases y : 55 < x
      · rw [if_pos y] at hs'
        exact Or.inr (Or.inr (Or.inr ⟨hs', z2, L.length, by omega, by omega, by rw [gl]; exact y⟩))
      · rw [if_neg y] at hs'
        refine Or.inr (Or.inr (Or.inl ⟨hs', z2, fun i i1 i2 => ?_⟩))
        rcases Nat.lt_or_ge i L.length with w | w
        · rw [zq_getD_l w]; exact z3 i i1 w
        · have : i = L.length := by omega
          rw [this, gl]
          exact y
    · rw [z1, if_neg (by decide)] at hs'
      exact Or.inr (Or.inr (Or.inr ⟨hs', z2, i, i1, by omega, by rw [zq_getD_l i2]; exact i3⟩))
section
variable {T : Nat → Int32} {n : Nat} {N0 : zc_N} {a t k u : Nat}
/-- in a number, behind a digit -/
def zq_P0i (T : Nat → Int32) (n : Nat) (N0 : zc_N) (a t k u c : Nat) (Y : zm_M) : Prop := ∃ s : Int32, zq_mid T n N0 Y c a t k u s ∧ a < c ∧ Y.1 26 = 0 ∧ zq_is s (zq_nl T n a (c - a)) ∧ (s = 3 → 2 ≤ (zq_nl T n a (c - a)).length) ∧ (s = 2 → c = a + 1)
def zq_P1i (T : Nat → Int32) (n : Nat) (N0 : zc_N) (a t k u c : Nat) (Y : zm_M) : Prop := ∃ s : Int32, zq_mid T n N0 Y c a t k u s ∧ a < c ∧ zq_is s (zq_nl T n a (c - a)) ∧ ((Y.1 26 = 1 ∧ ¬ s = 2) ∨ (Y.1 26 = 0 ∧ ¬ zk_digitOf (zq_x T n c) (nI 10) = -1))
theorem zq_dig_facts (hT : zq_T T n) {c : Nat} (h : ¬ zk_digitOf (zq_x T n c) (nI 10) = -1) : c < n ∧ ¬ zr_digit (zq_x T n c) = 0 ∧ ¬ zq_x T n c = 95 ∧ ∃ d : Nat, d < 10 ∧ zr_worth (zq_x T n c) = nI d := by
  have hd : ¬ zr_digit (zq_x T n c) = 0 := fun z => h ((zq_d10 hT).mpr z)
  rcases zq_dg_x (c := c) (b := 10) hT (by omega) with ⟨y, -⟩ | ⟨y, d, d1, d2, d3, -, -⟩
  · exact absurd y h
  · exact ⟨y, hd, fun z => hd (by rw [z]; decide), d, d1, d3⟩
theorem zq_runI (hT : zq_T T n) (hua : u ≤ a) (han : a < n) : (∀ (m c : Nat) (X : zc_N) (Y : zm_M), n - c < m → zq_nI T n N0 X a c u → zq_P0i T n N0 a t k u c Y → zq_dr T n N0 a u 10 (zq_P0i T n N0 a t k u) (zk_cont (nI 10) m X) (zc_cont (nI 10) m X) Y c) := by
  have hn := hT.1
  refine (zq_digs hT (by omega) (by omega) (zq_P0i T n N0 a t k u) (zq_P1i T n N0 a t k u) ?_ ?_ ?_ ?_).1
  · rintro c Y hc ⟨s, h1, h2, h3, h4⟩ hdg
    obtain ⟨-, d1, d2, d, d3, d4⟩ := zq_dig_facts hT hdg
    obtain ⟨q1, q2, q3, q4, q5, q6⟩ := zq_is_s h3
    have hL := zq_nl_s (T := T) (n := n) (a := a) (c := c) (by omega) d2
    have hlen : (zq_nl T n a (c + 1 - a)).length = (zq_nl T n a (c - a)).length + 1 := by rw [hL, List.length_append]; rfl
    have fin : ∀ (s' : Int32) (R : zm_M), zm_numeral Y (zq_x T n c) = R → zq_mid T n N0 R c a t k u s' → R.1 26 = 0 → (s' = if s = 2 ∨ s = 3 then (if 55 < zq_x T n c then 4 else 3) else s) → ∃ Y' : zm_M, zq_P0i T n N0 a t k u (c + 1) Y' ∧ ∀ F : zm_M, zt Y' F → zt Y F := by
      intro s' R r1 r2 r3 r4
      obtain ⟨Y', y1, y2, y3, y4⟩ := zq_nst hT h1 q1 (by omega) h2 hua r1 r2
      refine ⟨Y', ⟨s', y1, by omega, by rw [y2]; exact r3, ?_, fun _ => ?_, fun z => ?_⟩, y4⟩
      · rw [hL]; exact zq_is_add h3 d3 d4 d1 r4
      · have := h3.1; omega
      · exfalso
        rw [z] at r4
        by_cases y : s = 2 ∨ s = 3
        · rw [if_pos y] at r4
          split at r4 <;> exact absurd r4 (by decide)
        · rw [if_neg y] at r4
          exact y (Or.inl r4.symm)
    rcases h4 with ⟨f1, f2⟩ | ⟨f1, -⟩
    · have hR := zn_dig1 (x := zq_x T n c) h1.2.2.2 q2 (by rw [f1]; decide) d1
      have hm := zq_mid_s (zq_mid_s h1 26 0 (by decide)) 21 (zr_st1 s (zq_x T n c)) (by decide)
      rw [if_pos rfl] at hm
      refine fin _ _ hR hm rfl ?_
      unfold zr_st1
      rcases q5 with z | z | z | z
      · exact absurd z f2
      · rw [z, if_pos (show ((3 : Int32) = 2 ∨ (3 : Int32) = 3) from Or.inr rfl)]
        by_cases y : 55 < zq_x T n c
        · rw [if_pos ⟨rfl, y⟩, if_pos y]
        · rw [if_neg (fun w => y w.2), if_neg (by decide), if_neg y]
      · rw [z, if_neg (fun w => absurd w.1 (by decide)), if_neg (by decide), if_neg (by decide)]
      · rw [z, if_neg (fun w => absurd w.1 (by decide)), if_neg (by decide), if_neg (by decide)]
    · have hR := zn_dig0 (x := zq_x T n c) h1.2.2.2 q2 f1 d1
      have hm := zq_mid_s h1 21 (zr_st2 s (zq_x T n c)) (by decide)
      rw [if_pos rfl] at hm
      refine fin _ _ hR hm f1 ?_
      unfold zr_st2
      by_cases z : s = 2 ∨ s = 3
      · rw [if_pos z, if_pos z]
      · rw [if_neg z, if_neg z, if_neg q3]
  · rintro c Y hc ⟨s, h1, h2, h3, h4⟩ hdg
    obtain ⟨q1, q2, q3, q4, q5, q6⟩ := zq_is_s h3
    rcases h4 with ⟨f1, f2⟩ | ⟨f1, f2⟩
    · refine zq_nerr hT h1 q1 hc h2 hua ?_
      rw [zn_err1 h1.2.2.2 q2 (by rw [f1]; decide) ((zq_d10 hT).mp hdg) (fun z => q4 z.1)]
      exact zm_error_30 h1.1.2.2.1
    · exact absurd hdg f2
  · rintro c Y hc ⟨s, h1, h2, h3, h4, -, -⟩ hx
    obtain ⟨q1, q2, q3, q4, q5, q6⟩ := zq_is_s h4
    have hR := zn_und h1.2.2.2 q2 q3 h3 hx
    have hm := zq_mid_s (zq_mid_s h1 21 (zr_st3 s) (by decide)) 26 1 (by decide)
    rw [if_pos rfl, if_neg (by decide)] at hm
    obtain ⟨Y', y1, y2, y3, y4⟩ := zq_nst hT h1 q1 (by omega) h2 hua hR hm
    refine ⟨Y', ⟨zr_st3 s, y1, by omega, ?_, Or.inl ⟨y2, ?_⟩⟩, y4⟩
    · rw [zq_nl_u (by omega) hx]
      obtain ⟨i1, i2, i3⟩ := h4
      refine ⟨i1, i2, ?_⟩
      unfold zr_st3
      rcases i3 with ⟨z1, z2⟩ | ⟨z1, z2, z3⟩ | ⟨z1, z2, z3⟩ | ⟨z1, z2, z3⟩
      · rw [z1, if_neg (by decide)]; exact Or.inl ⟨rfl, z2⟩
      · rw [z1, if_pos rfl]; exact Or.inr (Or.inr (Or.inl ⟨rfl, z2, fun i x y => absurd y (by omega)⟩))
      · rw [z1, if_neg (by decide)]; exact Or.inr (Or.inr (Or.inl ⟨rfl, z2, z3⟩))
      · rw [z1, if_neg (by decide)]; exact Or.inr (Or.inr (Or.inr ⟨rfl, z2, z3⟩))
    · unfold zr_st3
      rcases q5 with z | z | z | z <;> rw [z] <;> decide
  · rintro c Y ⟨s, h1, h2, h3, h4, -, -⟩ hdg
    exact ⟨s, h1, h2, h4, Or.inr ⟨h3, hdg⟩⟩
/-- behind a digit of a fraction -/
def zq_P0f (T : Nat → Int32) (n : Nat) (N0 : zc_N) (a t k u c : Nat) (Y : zm_M) : Prop := zq_mid T n N0 Y c a t k u 7 ∧ a < c ∧ Y.1 26 = 0
def zq_P1f (T : Nat → Int32) (n : Nat) (N0 : zc_N) (a t k u c : Nat) (Y : zm_M) : Prop := ∃ s : Int32, zq_mid T n N0 Y c a t k u s ∧ a < c ∧ ((s = 7 ∧ Y.1 26 = 1) ∨ ((s = 6 ∨ s = 7) ∧ Y.1 26 = 0 ∧ ¬ zk_digitOf (zq_x T n c) (nI 10) = -1))
theorem zq_runF (hT : zq_T T n) (hua : u ≤ a) (han : a < n) : (∀ (m c : Nat) (X : zc_N) (Y : zm_M), n - c < m → zq_nI T n N0 X a c u → zq_P0f T n N0 a t k u c Y → zq_dr T n N0 a u 10 (zq_P0f T n N0 a t k u) (zk_cont (nI 10) m X) (zc_cont (nI 10) m X) Y c) ∧ (∀ (m c : Nat) (X : zc_N) (Y : zm_M), n - c < m → zq_nI T n N0 X a c u → zq_P1f T n N0 a t k u c Y → zq_dr T n N0 a u 10 (zq_P0f T n N0 a t k u) (zk_digits (nI 10) m X) (zc_digits (nI 10) m X) Y c) := by
  have hn := hT.1
  refine zq_digs hT (by omega) (by omega) (zq_P0f T n N0 a t k u) (zq_P1f T n N0 a t k u) ?_ ?_ ?_ ?_
  · rintro c Y hc ⟨s, h1, h2, h4⟩ hdg
    obtain ⟨-, d1, d2, d, d3, d4⟩ := zq_dig_facts hT hdg
    rcases h4 with ⟨f0, f1⟩ | ⟨f0, f1, -⟩
    · subst f0
      have hR := zn_dig1 (x := zq_x T n c) h1.2.2.2 (by decide) (by rw [f1]; decide) d1
      have hm := zq_mid_s (zq_mid_s h1 26 0 (by decide)) 21 (zr_st1 7 (zq_x T n c)) (by decide)
      rw [if_pos rfl] at hm
      have e : zr_st1 7 (zq_x T n c) = 7 := by unfold zr_st1; rw [if_neg (fun w => absurd w.1 (by decide)), if_neg (by decide)]
      rw [e] at hR hm
      obtain ⟨Y', y1, y2, y3, y4⟩ := zq_nst hT h1 (by decide) (by omega) h2 hua hR hm
      exact ⟨Y', ⟨y1, by omega, y2⟩, y4⟩
    · have e : zr_st2 s (zq_x T n c) = 7 := by unfold zr_st2; rcases f0 with z | z <;> rw [z, if_neg (by decide)] <;> decide
      have hs : (¬ s < 2 ∧ ¬ 11 < s) ∧ ¬ s = 11 := by rcases f0 with z | z <;> rw [z] <;> decide
      have hR := zn_dig0 (x := zq_x T n c) h1.2.2.2 hs.2 f1 d1
      have hm := zq_mid_s h1 21 (zr_st2 s (zq_x T n c)) (by decide)
      rw [if_pos rfl] at hm
      rw [e] at hR hm
      obtain ⟨Y', y1, y2, y3, y4⟩ := zq_nst hT h1 hs.1 (by omega) h2 hua hR hm
      exact ⟨Y', ⟨y1, by omega, y2.trans f1⟩, y4⟩
  · rintro c Y hc ⟨s, h1, h2, h4⟩ hdg
    rcases h4 with ⟨f0, f1⟩ | ⟨-, -, f2⟩
    · subst f0
      refine zq_nerr hT h1 (by decide) hc h2 hua ?_
      rw [zn_err1 h1.2.2.2 (by decide) (by rw [f1]; decide) ((zq_d10 hT).mp hdg) (fun z => absurd z.1 (by decide))]
      exact zm_error_30 h1.1.2.2.1
    · exact absurd hdg f2
  · rintro c Y hc ⟨h1, h2, h3⟩ hx
    have hR := zn_und h1.2.2.2 (by decide) (by decide) h3 hx
    have hm := zq_mid_s (zq_mid_s h1 21 (zr_st3 7) (by decide)) 26 1 (by decide)
    rw [if_pos rfl, if_neg (by decide)] at hm
    obtain ⟨Y', y1, y2, y3, y4⟩ := zq_nst hT h1 (by decide) (by omega) h2 hua hR hm
    exact ⟨Y', ⟨7, y1, by omega, Or.inl ⟨rfl, y2⟩⟩, y4⟩
  · rintro c Y ⟨h1, h2, h3⟩ hdg
    exact ⟨7, h1, h2, Or.inr ⟨Or.inr rfl, h3, hdg⟩⟩
/-- behind a digit of an exponent -/
def zq_P0e (T : Nat → Int32) (n : Nat) (N0 : zc_N) (a t k u c : Nat) (Y : zm_M) : Prop := zq_mid T n N0 Y c a t k u 10 ∧ a < c ∧ Y.1 26 = 0
def zq_P1e (T : Nat → Int32) (n : Nat) (N0 : zc_N) (a t k u c : Nat) (Y : zm_M) : Prop := ∃ s : Int32, zq_mid T n N0 Y c a t k u s ∧ a < c ∧ ((s = 8 ∧ Y.1 26 = 1 ∧ ¬ (zq_x T n c = 43 ∨ zq_x T n c = 45)) ∨ ((s = 9 ∨ s = 10) ∧ Y.1 26 = 1) ∨ (s = 10 ∧ Y.1 26 = 0 ∧ ¬ zk_digitOf (zq_x T n c) (nI 10) = -1))
theorem zq_runE (hT : zq_T T n) (hua : u ≤ a) (han : a < n) : (∀ (m c : Nat) (X : zc_N) (Y : zm_M), n - c < m → zq_nI T n N0 X a c u → zq_P1e T n N0 a t k u c Y → zq_dr T n N0 a u 10 (zq_P0e T n N0 a t k u) (zk_digits (nI 10) m X) (zc_digits (nI 10) m X) Y c) := by
  have hn := hT.1
  refine (zq_digs hT (by omega) (by omega) (zq_P0e T n N0 a t k u) (zq_P1e T n N0 a t k u) ?_ ?_ ?_ ?_).2
  · rintro c Y hc ⟨s, h1, h2, h4⟩ hdg
    obtain ⟨-, d1, d2, d, d3, d4⟩ := zq_dig_facts hT hdg
    have f1 : (s = 8 ∨ s = 9 ∨ s = 10) → Y.1 26 = 1 → ∃ Y' : zm_M, zq_P0e T n N0 a t k u (c + 1) Y' ∧ ∀ F : zm_M, zt Y' F → zt Y F := by
      intro hs f1
      have hs2 : (¬ s < 2 ∧ ¬ 11 < s) ∧ ¬ s = 11 := by rcases hs with z | z | z <;> rw [z] <;> decide
      have hR := zn_dig1 (x := zq_x T n c) h1.2.2.2 hs2.2 (by rw [f1]; decide) d1
      have hm := zq_mid_s (zq_mid_s h1 26 0 (by decide)) 21 (zr_st1 s (zq_x T n c)) (by decide)
      rw [if_pos rfl] at hm
      have e : zr_st1 s (zq_x T n c) = 10 := by
        unfold zr_st1
        rcases hs with z | z | z <;> rw [z, if_neg (fun w => absurd w.1 (by decide))] <;> decide
      rw [e] at hR hm
      obtain ⟨Y', y1, y2, y3, y4⟩ := zq_nst hT h1 hs2.1 (by omega) h2 hua hR hm
      exact ⟨Y', ⟨y1, by omega, y2⟩, y4⟩
    rcases h4 with ⟨f0, f2, -⟩ | ⟨f0, f2⟩ | ⟨f0, f2, -⟩
    · exact f1 (Or.inl f0) f2
    · exact f1 (Or.inr f0) f2
    · subst f0
      have hR := zn_dig0 (x := zq_x T n c) h1.2.2.2 (by decide) f2 d1
      have hm := zq_mid_s h1 21 (zr_st2 10 (zq_x T n c)) (by decide)
      rw [if_pos rfl] at hm
      have e : zr_st2 10 (zq_x T n c) = 10 := by unfold zr_st2; rw [if_neg (by decide)]; decide
      rw [e] at hR hm
      obtain ⟨Y', y1, y2, y3, y4⟩ := zq_nst hT h1 (by decide) (by omega) h2 hua hR hm
      exact ⟨Y', ⟨y1, by omega, y2.trans f2⟩, y4⟩
  · rintro c Y hc ⟨s, h1, h2, h4⟩ hdg
    have key : (¬ s < 2 ∧ ¬ 11 < s) ∧ ¬ s = 11 → Y.1 26 = 1 → ¬ (s = 8 ∧ (zq_x T n c = 43 ∨ zq_x T n c = 45)) → ∃ F : zm_M, F.1 30 = nI c ∧ zt Y F := by
      intro hs f1 f2
      refine zq_nerr hT h1 hs.1 hc h2 hua ?_
      rw [zn_err1 h1.2.2.2 hs.2 (by rw [f1]; decide) ((zq_d10 hT).mp hdg) f2]
      exact zm_error_30 h1.1.2.2.1
    rcases h4 with ⟨f0, f2, f3⟩ | ⟨f0, f2⟩ | ⟨f0, f2, f3⟩
    · exact key (by rw [f0]; decide) f2 (fun z => f3 z.2)
    · exact key (by rcases f0 with z | z <;> rw [z] <;> decide) f2 (fun z => by rcases f0 with y | y <;> rw [y] at z <;> exact absurd z.1 (by decide))
    · exact absurd hdg f3
  · rintro c Y hc ⟨h1, h2, h3⟩ hx
    have hR := zn_und h1.2.2.2 (by decide) (by decide) h3 hx
    have hm := zq_mid_s (zq_mid_s h1 21 (zr_st3 10) (by decide)) 26 1 (by decide)
    rw [if_pos rfl, if_neg (by decide)] at hm
    obtain ⟨Y', y1, y2, y3, y4⟩ := zq_nst hT h1 (by decide) (by omega) h2 hua hR hm
    exact ⟨Y', ⟨10, y1, by omega, Or.inr (Or.inl ⟨Or.inr rfl, y2⟩)⟩, y4⟩
  · rintro c Y ⟨h1, h2, h3⟩ hdg
    exact ⟨10, h1, h2, Or.inr (Or.inr ⟨rfl, h3, hdg⟩)⟩
/-- the digits of a number with a letter of its base -/
def zq_rl (b : Nat) (L : List Int32) : Prop := 2 ≤ L.length ∧ (∃ v : Nat, v < 128 ∧ L.getD 1 0 = nI v ∧ 57 < nI v ∧ 9 < zr_worth (nI v)) ∧ ∀ i : Nat, 2 ≤ i → i < L.length → ∃ x : Nat, x < b ∧ zr_worth (L.getD i 0) = nI x
def zq_P0r (T : Nat → Int32) (n : Nat) (N0 : zc_N) (a t k u b c : Nat) (Y : zm_M) : Prop := zq_mid T n N0 Y c a t k u 11 ∧ a + 2 < c ∧ Y.1 26 = 0 ∧ Y.1 22 = nI b ∧ zq_rl b (zq_nl T n a (c - a)) ∧ 3 ≤ (zq_nl T n a (c - a)).length
def zq_P1r (T : Nat → Int32) (n : Nat) (N0 : zc_N) (a t k u b c : Nat) (Y : zm_M) : Prop := zq_mid T n N0 Y c a t k u 11 ∧ a + 2 ≤ c ∧ Y.1 22 = nI b ∧ zq_rl b (zq_nl T n a (c - a)) ∧ ((Y.1 26 = 1 ∧ (zq_x T n c = 95 → zq_x T n (c - 1) = 95)) ∨ (Y.1 26 = 0 ∧ ¬ zk_digitOf (zq_x T n c) (nI b) = -1))
theorem zq_runR (hT : zq_T T n) (hua : u ≤ a) (han : a < n) {b : Nat} (hb : b = 8 ∨ b = 16 ∨ b = 2 ∨ b = 10) : (∀ (m c : Nat) (X : zc_N) (Y : zm_M), n - c < m → zq_nI T n N0 X a c u → zq_P1r T n N0 a t k u b c Y → zq_dr T n N0 a u b (zq_P0r T n N0 a t k u b) (zk_digits (nI b) m X) (zc_digits (nI b) m X) Y c) := by
  have hn := hT.1
  have h95 : ¬ zr_worth 95 < nI b := by rcases hb with rfl | rfl | rfl | rfl <;> decide
  have h95' : zk_digitOf 95 (nI b) = -1 := by rcases hb with rfl | rfl | rfl | rfl <;> decide
  refine (zq_digs hT hb (by omega) (zq_P0r T n N0 a t k u b) (zq_P1r T n N0 a t k u b) ?_ ?_ ?_ ?_).2
  · rintro c Y hc ⟨h1, h2, h3, h4, h5⟩ hdg
    rcases zq_dg_x (c := c) (b := b) hT hb with ⟨y, -⟩ | ⟨-, d, d1, d2, d3, d4, -⟩
    · exact absurd y hdg
    · have hx : ¬ zq_x T n c = 95 := fun z => hdg (by rw [z]; exact h95')
      have hR : zm_numeral Y (zq_x T n c) = zm_s Y 26 0 := by
        unfold zm_numeral
        rw [h1.2.2.2, if_pos rfl, if_pos (by rw [h3]; exact d4)]
      have hm := zq_mid_s h1 26 0 (by decide)
      rw [if_neg (by decide)] at hm
      obtain ⟨Y', y1, y2, y3, y4⟩ := zq_nst hT h1 (by decide) (by omega) (by omega) hua hR hm
      have hL := zq_nl_s (T := T) (n := n) (a := a) (c := c) (by omega) hx
      have hlen : (zq_nl T n a (c + 1 - a)).length = (zq_nl T n a (c - a)).length + 1 := by rw [hL, List.length_append]; rfl
      obtain ⟨l1, l2, l3⟩ := h4
      refine ⟨Y', ⟨y1, by omega, y2, y3.trans h3, ⟨by omega, ?_, fun i i1 i2 => ?_⟩, by omega⟩, y4⟩
      · rw [hL, zq_getD_l (by omega)]; exact l2
      · rw [hL]
        rcases Nat.lt_or_ge i (zq_nl T n a (c - a)).length with z | z
        · rw [zq_getD_l z]; exact l3 i i1 z
        · have : i = (zq_nl T n a (c - a)).length := by omega
          rw [this, zq_getD_r]
          exact ⟨d, d1, d3⟩
  · rintro c Y hc ⟨h1, h2, h3, h4, h5⟩ hdg
    rcases h5 with ⟨f1, f2⟩ | ⟨f1, f2⟩
    · refine zq_nerr hT h1 (by decide) hc (by omega) hua ?_
      have hw : ¬ zr_worth (zq_x T n c) < Y.1 22 := by
        rw [h3]
        rcases zq_dg_x (c := c) (b := b) hT hb with ⟨-, y⟩ | ⟨-, d, -, -, -, -, y⟩
        · exact y
        · exact absurd hdg y
      have n26 : ¬ Y.1 26 = 0 := by rw [f1]; decide
      have eb : zr_byteAt Y (Y.1 27 - 1) = zq_x T n (c - 1) := by
        obtain ⟨c', rfl⟩ : ∃ c', c = c' + 1 := ⟨c - 1, by omega⟩
        rw [h1.2.2.1.2.2.1, nI_pred, Nat.add_sub_cancel]
        exact zr_byteAt_at hT h1.2.2.1 (by omega)
      have e : zm_numeral Y (zq_x T n c) = zm_error Y := by
        unfold zm_numeral
        rw [h1.2.2.2, if_pos rfl, if_neg hw, if_neg (fun z => z.2 ⟨n26, by rw [eb]; exact f2 z.1⟩), if_pos (Or.inl n26)]
      rw [e]
      exact zm_error_30 h1.1.2.2.1
    · exact absurd hdg f2
  · rintro c Y hc ⟨h1, h2, h3, h4, h5, h6⟩ hx
    have hR : zm_numeral Y (zq_x T n c) = zm_s Y 26 1 := by
      unfold zm_numeral
      rw [h1.2.2.2, if_pos rfl, if_neg (by rw [h4, hx]; exact h95), if_pos ⟨hx, fun z => z.1 h3⟩]
    have hm := zq_mid_s h1 26 1 (by decide)
    rw [if_neg (by decide)] at hm
    obtain ⟨Y', y1, y2, y3, y4⟩ := zq_nst hT h1 (by decide) (by omega) (by omega) hua hR hm
    refine ⟨Y', ⟨y1, by omega, y3.trans h4, by rw [zq_nl_u (by omega) hx]; exact h5, Or.inl ⟨y2, fun _ => ?_⟩⟩, y4⟩
    rw [Nat.add_sub_cancel]
    exact hx
  · rintro c Y ⟨h1, h2, h3, h4, h5, h6⟩ hdg
    exact ⟨h1, by omega, h4, h5, Or.inr ⟨h3, hdg⟩⟩
end
