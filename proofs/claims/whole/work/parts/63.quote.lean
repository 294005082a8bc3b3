/-! Inside quotes or a comment: characters. -/
theorem zm_s_same {Y : zm_M} {k : Nat} {v : Int32} (h : Y.1 k = v) : zm_s Y k v = Y := zm_ext (fun j => by
  show upd Y.1 k v j = _
  rw [zq_upd]
  split
  · rename_i q; rw [q, h]
  · rfl) rfl
def zq_fr (Y0 Y : zm_M) (u : Nat) : Prop := (∀ j : Nat, j ≠ 15 → j ≠ 21 → j ≠ 27 → j ≠ 28 → j ≠ 29 → (j < 33 ∨ 41 < j) → Y.1 j = Y0.1 j) ∧ (∀ r : Nat, r ≠ 16 → Y.2.1 r = Y0.2.1 r) ∧ (∀ i : Nat, i < u → Y.2.1 16 i = Y0.2.1 16 i) ∧ Y.2.2 = Y0.2.2
theorem zq_fr.rf {Y : zm_M} {u : Nat} : zq_fr Y Y u := ⟨fun _ _ _ _ _ _ _ => rfl, fun _ _ => rfl, fun _ _ => rfl, rfl⟩
theorem zq_fr.tr {X Y Z : zm_M} {u v : Nat} (h : zq_fr X Y u) (h2 : zq_fr Y Z v) (huv : u ≤ v) : zq_fr X Z u := ⟨fun j a b c d e f => (h2.1 j a b c d e f).trans (h.1 j a b c d e f), fun r hr => (h2.2.1 r hr).trans (h.2.1 r hr), fun i hi => (h2.2.2.1 i (by omega)).trans (h.2.2.1 i hi), h2.2.2.2.trans h.2.2.2⟩
theorem zq_fr.le {X Y : zm_M} {u v : Nat} (h : zq_fr X Y v) (huv : u ≤ v) : zq_fr X Y u := zq_fr.rf.tr h huv
/-- the reference inside quotes (or a comment) at byte c, v bytes in its pool -/
def zq_q (T : Nat → Int32) (n : Nat) (Y : zm_M) (c v : Nat) (s q : Int32) : Prop := zq_mt T n Y c ∧ Y.1 30 = -1 ∧ Y.1 15 = nI v ∧ Y.1 36 = 0 ∧ Y.1 39 = 0 ∧ Y.1 32 = q ∧ Y.1 21 = s ∧ ∃ t a : Nat, t ≤ 16384 ∧ Y.1 3 = nI t ∧ a ≤ 60000 ∧ Y.1 23 = nI a
theorem zm_ok_q {Y : zm_M} {v t a D : Nat} (hs : Y.1 21 = 15 ∨ Y.1 21 = 16 ∨ Y.1 21 = 18 ∨ Y.1 21 = 19 ∨ Y.1 21 = 20) (ht : t ≤ 16384) (h3 : Y.1 3 = nI t) (ha : a ≤ 60000) (h23 : Y.1 23 = nI a) (h15 : Y.1 15 = nI v) (hv : v ≤ 60000) (hD : D < 100) (h36 : 0 < Y.1 36 → Y.1 36 = nI (D + 1)) : zm_ok Y := by
  refine ⟨0, D, zm_T_at h3 ht, ?_, ?_, ?_, fun _ => ⟨by rw [h23]; exact nI_pos (by omega), ⟨v, h15, by omega⟩, fun z => by rw [h36 z, nI_pred], hD⟩⟩
  · rcases hs with h | h | h | h | h <;> rw [h] <;> exact fun z => absurd z (by decide)
  · rcases hs with h | h | h | h | h <;> rw [h] <;> exact fun _ z => absurd (by decide) z
  · rcases hs with h | h | h | h | h <;> rw [h] <;> exact fun z => absurd z (by decide)
theorem zm_step_q {Y : zm_M} (h : Y.1 21 = 15 ∨ Y.1 21 = 16) (x : Int32) : zm_step Y x = zm_quoted Y x := by
  unfold zm_step
  rcases h with h | h <;> rw [h, if_neg (by decide), if_neg (fun z => absurd z.1 (by decide)), if_neg (by decide), if_neg (by decide), if_neg (by decide), if_neg (by decide), if_pos (by decide)]
theorem zm_step_c {Y : zm_M} (h : Y.1 21 = 18 ∨ Y.1 21 = 19 ∨ Y.1 21 = 20) (x : Int32) : zm_step Y x = zm_comment Y x := by
  unfold zm_step
  rcases h with h | h | h <;> rw [h, if_neg (by decide), if_neg (fun z => absurd z.1 (by decide)), if_neg (by decide), if_neg (by decide), if_neg (by decide), if_neg (by decide), if_neg (by decide), if_neg (by decide)]
def zq_md (s q : Int32) : Prop := ((s = 15 ∨ s = 16) ∧ ¬ q = 0) ∨ ((s = 18 ∨ s = 19) ∧ q = 0)
theorem zm_error_30 {Y : zm_M} (h : Y.1 30 = -1) : (zm_error Y).1 30 = Y.1 27 := by
  unfold zm_error
  rw [if_pos (by rw [h]; exact zq_m1)]
  show upd Y.1 30 (Y.1 27) 30 = _
  rw [zq_upd, if_pos rfl]
theorem zm_comm_eq {Y : zm_M} {x : Int32} (hs : Y.1 21 = 18 ∨ Y.1 21 = 19 ∨ Y.1 21 = 20) (h32 : Y.1 32 = 0) (h18 : ¬ (Y.1 21 = 18 ∧ (x = 10 ∨ x = -1) ∧ Y.1 33 = 0)) (h20 : ¬ (Y.1 21 = 20 ∧ x = 47)) (h10 : ¬ (x = 10 ∧ Y.1 33 = 0 ∧ Y.1 31 = 0)) : zm_step Y x = if x = 0 then zm_error Y else if (zm_quoted Y x).1 21 = 18 then zm_quoted Y x else zm_s (zm_quoted Y x) 21 (zr_cm x) := by
  rw [zm_step_c hs]
  unfold zm_comment
  rw [if_neg h18, if_neg h20]
  dsimp only
  rw [if_neg h10, zm_s_same h32]
section
variable {T : Nat → Int32} {n : Nat} {Y : zm_M} {c v j lo hi m : Nat} {s q : Int32}
theorem zq_stop30 {Y' : zm_M} (hT : zq_T T n) (hY : zq_q T n Y c v s q) (hs : s = 15 ∨ s = 16 ∨ s = 18 ∨ s = 19 ∨ s = 20) (hc : c ≤ n) (hv : v ≤ 60000) (h : (zm_step Y (zq_x T n c)).1 30 = Y.1 27) : ∃ F : zm_M, F.1 30 = nI c ∧ zt Y F := by
  have hn := hT.1
  obtain ⟨hm, h30, h15, h36, h39, h32, h21, t, a, ht, h3, ha, h23⟩ := hY
  have e : (zm_fin (zm_step Y (zq_x T n c)) (zq_x T n c)).1 30 = nI c := by
    rw [zm_fin_1 (by decide) (by decide) (by decide), h, hm.2.2.1]
  refine ⟨_, e, zt_step hT hm hc (by rw [h30]; exact zq_m1) (zm_ok_q (D := 0) (by rw [h21]; exact hs) ht h3 ha h23 h15 hv (by omega) (fun z => absurd z (by rw [h36]; decide))) (zt_stop (by rw [e]; exact nI_pos (by omega)))⟩
/-- a step inside -/
theorem zq_go1 (hT : zq_T T n) (hY : zq_q T n Y c v s q) (hs : s = 15 ∨ s = 16 ∨ s = 18 ∨ s = 19 ∨ s = 20) (hc : c ≤ n) (hv : v ≤ 60000) {R : zm_M} (hR : zm_step Y (zq_x T n c) = R) {v' : Nat} {s' : Int32} (hf : zq_fr Y R v) (h15 : R.1 15 = nI v') (h36 : R.1 36 = 0) (h39 : R.1 39 = 0) (h21 : R.1 21 = s') (h27 : ∀ k : Nat, k = 27 ∨ k = 28 ∨ k = 29 → R.1 k = Y.1 k) : zq_q T n (zm_fin R (zq_x T n c)) (c + 1) v' s' q ∧ zq_fr Y (zm_fin R (zq_x T n c)) v ∧ (∀ F : zm_M, zt (zm_fin R (zq_x T n c)) F → zt Y F) := by
  have hn := hT.1
  obtain ⟨hm, h30, h15', h36', h39', h32, h21', t, a, ht, h3, ha, h23⟩ := hY
  obtain ⟨f1, f2, f3, f4⟩ := hf
  have hmR : zq_mt T n R c := zq_mt_eq hm (fun k hk => by
    by_cases z : k = 2
    · subst z; exact f1 2 (by decide) (by decide) (by decide) (by decide) (by decide) (by decide)
    · exact h27 k (by omega)) (f2 1 (by decide))
  have g : ∀ k : Nat, k ≠ 27 → k ≠ 28 → k ≠ 29 → (zm_fin R (zq_x T n c)).1 k = R.1 k := fun k a b d => zm_fin_1 a b d
  refine ⟨⟨zm_fin_at hmR, ?_, ?_, ?_, ?_, ?_, ?_, t, a, ht, ?_, ha, ?_⟩, ⟨fun k a b d e f i => ?_, fun r hr => ?_, fun i hi => ?_, ?_⟩, fun F hF => ?_⟩
  · rw [g 30 (by decide) (by decide) (by decide), f1 30 (by decide) (by decide) (by decide) (by decide) (by decide) (by decide)]; exact h30
  · rw [g 15 (by decide) (by decide) (by decide)]; exact h15
  · rw [g 36 (by decide) (by decide) (by decide)]; exact h36
  · rw [g 39 (by decide) (by decide) (by decide)]; exact h39
  · rw [g 32 (by decide) (by decide) (by decide), f1 32 (by decide) (by decide) (by decide) (by decide) (by decide) (by decide)]; exact h32
  · rw [g 21 (by decide) (by decide) (by decide)]; exact h21
  · rw [g 3 (by decide) (by decide) (by decide), f1 3 (by decide) (by decide) (by decide) (by decide) (by decide) (by decide)]; exact h3
  · rw [g 23 (by decide) (by decide) (by decide), f1 23 (by decide) (by decide) (by decide) (by decide) (by decide) (by decide)]; exact h23
  · rw [g k d e f, f1 k a b d e f i]
  · rw [zm_fin_2, f2 r hr]
  · rw [zm_fin_2, f3 i hi]
  · rw [zm_fin_2, f4]
  · refine zt_step hT hm hc (by rw [h30]; exact zq_m1) (zm_ok_q (D := 0) (by rw [h21']; exact hs) ht h3 ha h23 h15' hv (by omega) (fun z => absurd z (by rw [h36']; decide))) ?_
    rw [hR]
    exact hF
/-- what the next byte of a character does -/
theorem zm_qcont {x : Int32} {w : Nat} (h33 : Y.1 33 = nI (j + 1)) (hj : j < 1000) (h38 : Y.1 38 = nI m) (hm : m < 2 ^ 20) (h15 : Y.1 15 = nI v) (hv : v ≤ 60000) (hx : ¬ (x < Y.1 34 ∨ Y.1 35 < x)) (hxw : x = nI w) (hw : w < 256) : (zm_quoted Y x).1 33 = nI j ∧ (zm_quoted Y x).1 34 = 128 ∧ (zm_quoted Y x).1 35 = 191 ∧ (zm_quoted Y x).1 38 = nI (m * 64 + w % 64) ∧ (j = 0 → (zm_quoted Y x).1 41 = 1) ∧ (zm_quoted Y x).1 15 = nI (if Y.1 32 = 0 then v else v + 1) ∧ (∀ k : Nat, k ≠ 15 → (k < 33 ∨ 41 < k ∨ k = 36 ∨ k = 39) → (zm_quoted Y x).1 k = Y.1 k) ∧ (∀ r : Nat, r ≠ 16 → (zm_quoted Y x).2.1 r = Y.2.1 r) ∧ (∀ i : Nat, i < v → (zm_quoted Y x).2.1 16 i = Y.2.1 16 i) ∧ (zm_quoted Y x).2.2 = Y.2.2 ∧ (¬ Y.1 32 = 0 → (zm_quoted Y x).2.1 16 v = vp_nar .byte x.toInt8.toInt32) := by
  have e0 : 0 < Y.1 33 := by rw [h33]; exact nI_lt (a := 0) (by omega) (by omega)
  obtain ⟨M1, e1⟩ : ∃ M1 : zm_M, M1 = zm_s (zm_s (zm_s (zm_s Y 38 ((Y.1 38 <<< ((6 : Int32) &&& 31)) ||| (x &&& 63))) 34 128) 35 191) 33 (Y.1 33 - 1) := ⟨_, rfl⟩
  have q33 : M1.1 33 = nI j := by
    rw [e1]
    show Y.1 33 - 1 = _
    rw [h33, nI_pred]
  have q34 : M1.1 34 = 128 := by rw [e1]; rfl
  have q35 : M1.1 35 = 191 := by rw [e1]; rfl
  have q38 : M1.1 38 = nI (m * 64 + w % 64) := by
    rw [e1]
    show (Y.1 38 <<< ((6 : Int32) &&& 31)) ||| (x &&& 63) = _
    rw [h38, hxw]
    exact zq_or6 hm hw
  have qo : ∀ k : Nat, k ≠ 33 → k ≠ 34 → k ≠ 35 → k ≠ 38 → M1.1 k = Y.1 k := by
    intro k a b c d
    rw [e1]
    show upd (upd (upd (upd Y.1 38 _) 34 _) 35 _) 33 _ k = _
    rw [zq_upd, if_neg a, zq_upd, if_neg c, zq_upd, if_neg b, zq_upd, if_neg d]
  have q2 : M1.2 = Y.2 := by rw [e1]
  have eq : zm_quoted Y x = (if (if M1.1 32 = 0 then M1 else zm_keep M1 x).1 33 = 0 then zm_s (if M1.1 32 = 0 then M1 else zm_keep M1 x) 41 1 else (if M1.1 32 = 0 then M1 else zm_keep M1 x)) := by
    unfold zm_quoted
    rw [if_pos e0, if_neg hx, e1]
  rw [eq]
  clear eq e1
  have r15 : M1.1 15 = nI v := (qo 15 (by decide) (by decide) (by decide) (by decide)).trans h15
  have r32 : M1.1 32 = Y.1 32 := qo 32 (by decide) (by decide) (by decide) (by decide)
  have key : ∀ M2 : zm_M, M2.1 15 = nI (if Y.1 32 = 0 then v else v + 1) → (∀ k : Nat, k ≠ 15 → M2.1 k = M1.1 k) → (∀ r : Nat, r ≠ 16 → M2.2.1 r = Y.2.1 r) → (∀ i : Nat, i < v → M2.2.1 16 i = Y.2.1 16 i) → M2.2.2 = Y.2.2 → (¬ Y.1 32 = 0 → M2.2.1 16 v = vp_nar .byte x.toInt8.toInt32) → let R := (if M2.1 33 = 0 then zm_s M2 41 1 else M2); R.1 33 = nI j ∧ R.1 34 = 128 ∧ R.1 35 = 191 ∧ R.1 38 = nI (m * 64 + w % 64) ∧ (j = 0 → R.1 41 = 1) ∧ R.1 15 = nI (if Y.1 32 = 0 then v else v + 1) ∧ (∀ k : Nat, k ≠ 15 → (k < 33 ∨ 41 < k ∨ k = 36 ∨ k = 39) → R.1 k = Y.1 k) ∧ (∀ r : Nat, r ≠ 16 → R.2.1 r = Y.2.1 r) ∧ (∀ i : Nat, i < v → R.2.1 16 i = Y.2.1 16 i) ∧ R.2.2 = Y.2.2 ∧ (¬ Y.1 32 = 0 → R.2.1 16 v = vp_nar .byte x.toInt8.toInt32) := by
    intro M2 k15 ko k2 k3 k4 k5 R
    have hR : (∀ k : Nat, k ≠ 41 → R.1 k = M2.1 k) ∧ R.2 = M2.2 ∧ (j = 0 → R.1 41 = 1) := by
      show (∀ k : Nat, k ≠ 41 → (if M2.1 33 = 0 then zm_s M2 41 1 else M2).1 k = M2.1 k) ∧ (if M2.1 33 = 0 then zm_s M2 41 1 else M2).2 = M2.2 ∧ (j = 0 → (if M2.1 33 = 0 then zm_s M2 41 1 else M2).1 41 = 1)
      by_cases z : M2.1 33 = 0
      · rw [if_pos z]
        refine ⟨fun k hk => ?_, rfl, fun _ => rfl⟩
        show upd M2.1 41 1 k = _
        rw [zq_upd, if_neg hk]
      · rw [if_neg z]
        refine ⟨fun _ _ => rfl, rfl, fun h0 => absurd ?_ z⟩
        rw [ko 33 (by decide), q33, h0]
        rfl
    obtain ⟨g1, g2, g3⟩ := hR
    refine ⟨?_, ?_, ?_, ?_, g3, ?_, fun k a b => ?_, fun r hr => by rw [g2, k2 r hr], fun i hi => by rw [g2, k3 i hi], by rw [g2, k4], fun z => by rw [g2, k5 z]⟩
    · rw [g1 33 (by decide), ko 33 (by decide), q33]
    · rw [g1 34 (by decide), ko 34 (by decide), q34]
    · rw [g1 35 (by decide), ko 35 (by decide), q35]
    · rw [g1 38 (by decide), ko 38 (by decide), q38]
    · rw [g1 15 (by decide), k15]
    · rw [g1 k (by omega), ko k a, qo k (by omega) (by omega) (by omega) (by omega)]
  by_cases z : M1.1 32 = 0
  · rw [if_pos z]
    refine key M1 ?_ (fun _ _ => rfl) (fun r _ => by rw [q2]) (fun i _ => by rw [q2]) (by rw [q2]) (fun h => absurd (r32 ▸ z) h)
    rw [if_pos (r32 ▸ z), r15]
  · rw [if_neg z]
    have z' : ¬ Y.1 32 = 0 := fun q => z (r32.trans q)
    obtain ⟨k1, k2, k3, k4, k5, k6⟩ := zm_keep_at r15 (by omega) x
    refine key _ ?_ k1 (fun r hr => by rw [k5 r hr, q2]) (fun i hi => by rw [k3 i hi, q2]) (by rw [k6, q2]) (fun _ => k4)
    rw [if_neg z', k2]
end
