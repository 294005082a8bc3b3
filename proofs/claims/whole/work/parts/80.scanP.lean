/-! The class's heads of chains stay -1 as long as it knows no name; the scan, whole. -/
def zq_hd (N : zc_N) : Prop := N.1 24 = 0 → ∀ h : Nat, h < 512 → N.2.1 20 h = -1
def zh (N X : zc_N) : Prop := X.1 24 = N.1 24 ∧ X.2.1 20 = N.2.1 20
theorem zh.rf {N : zc_N} : zh N N := ⟨rfl, rfl⟩
theorem zh.tr {N X Y : zc_N} (h : zh N X) (h2 : zh X Y) : zh N Y := ⟨h2.1.trans h.1, h2.2.trans h.2⟩
theorem zh.hd {N X : zc_N} (h : zh N X) (hd : zq_hd N) : zq_hd X := by
  intro z j hj
  rw [h.2]
  exact hd (by rw [← h.1]; exact z) j hj
theorem zh.s {N : zc_N} {k : Nat} {v : Int32} (hk : k ≠ 24) : zh N (zc_s N k v) := ⟨by
  show upd N.1 k v 24 = _
  rw [zq_upd, if_neg (fun z => hk z.symm)], rfl⟩
theorem zh.a {N : zc_N} {a : Nat} {i v : Int32} (ha : a ≠ 20) : zh N (zc_a N a i v) := ⟨rfl, by
  show (if 20 = a then _ else N.2.1 20) = _
  rw [if_neg (fun z => ha z.symm)]⟩
theorem zh.g {N : zc_N} {a n : Nat} (ha : a ≠ 20) : zh N (zc_g N a n) := ⟨rfl, by
  show (if 20 = a then _ else N.2.1 20) = _
  rw [if_neg (fun z => ha z.symm)]⟩
theorem zh.fr {N X : zc_N} (h : zc_Fr N X) : zh N X := ⟨h.1 24 (by decide) (by decide) (by decide) (by decide) (by decide) (by decide), h.2.1 20 (by decide)⟩
theorem zh.st {N : zc_N} : zh N (zc_step N) := zh.fr zf_step
theorem zh.tell {N : zc_N} {w v : Int32} : zh N (zc_tell N w v) := by
  unfold zc_tell
  split
  · exact zh.a (by decide)
  · exact zh.rf
theorem zh.add {N : zc_N} {k : Int32} : zh N (zc_add N k) := by
  have e : zh N (zc_more70 N) := by
    unfold zc_more70
    split
    · exact zh.g (by decide)
    · exact zh.rf
  unfold zc_add
  dsimp only
  have hz : ∀ X : zc_N, zh X (zc_zero X) := fun X => by
    unfold zc_zero
    exact ((((((((((zh.tell.tr zh.tell).tr zh.tell).tr zh.tell).tr zh.tell).tr zh.tell).tr zh.tell).tr zh.tell).tr zh.tell).tr zh.tell).tr zh.tell)
  first
    | exact (((e.tr (zh.s (by decide))).tr (hz _)).tr zh.tell).tr zh.tell
    | (repeat' split) <;> first | exact zh.rf | exact e | exact (((e.tr (zh.s (by decide))).tr (hz _)).tr zh.tell).tr zh.tell
theorem zh.from {N : zc_N} {k n : Int32} : zh N (zc_from N k n) := by
  unfold zc_from zc_from1 zc_from2
  exact (((((((zh.add (N := N) (k := k)).tr zh.tell).tr zh.tell).tr zh.tell).tr zh.tell).tr zh.tell).tr zh.tell).tr (zh.s (by decide))
theorem zh.put {N : zc_N} {k : Int32} : zh N (zc_putT N k) := zh.from
theorem zh.mark {N : zc_N} : zh N (zc_mark N) := (((zh.s (by decide)).tr (zh.s (by decide))).tr (zh.s (by decide))).tr (zh.s (by decide))
theorem zh.endLine {N : zc_N} : zh N (zc_endLine N) := by
  unfold zc_endLine
  split
  · exact zh.rf
  · split
    · exact zh.from.tr zh.tell
    · exact zh.fr zf_refuseAt
theorem zh.newl {N : zc_N} : zh N (zc_newl N) := by
  unfold zc_newl
  split
  · exact zh.endLine
  · exact zh.endLine.tr zh.st
theorem zh.line : ∀ (m : Nat) {N : zc_N}, zh N (zc_line m N) := by
  intro m
  induction m with
  | zero => intro N; exact zh.rf
  | succ m ih =>
    intro N
    rw [zc_line_s rfl]
    split
    · exact zh.rf
    · split
      · exact zh.fr zf_char
      · exact (zh.fr zf_char).tr ih
theorem zh.lineC {N : zc_N} : zh N (zc_lineC N) := by
  unfold zc_lineC zc_lineG
  split
  · exact zh.endLine
  · exact zh.endLine.tr (zh.line _)
theorem zh.long : ∀ (m : Nat) {N : zc_N}, zh N (zc_long m N) := by
  intro m
  induction m with
  | zero => intro N; exact zh.rf
  | succ m ih =>
    intro N
    have hl : zh N (zc_lf N) := by
      unfold zc_lf
      split
      · exact zh.endLine
      · exact zh.rf
    rw [zc_long_s rfl]
    split
    · exact zh.st.tr zh.st
    · split
      · exact zh.endLine
      · split
        · exact hl.tr (zh.fr zf_char)
        · exact (hl.tr (zh.fr zf_char)).tr ih
theorem zh.pass {N : zc_N} : zh N (zc_pass N) := by
  unfold zc_pass
  split
  · exact zh.mark.tr zh.newl
  · split
    · exact zh.mark.tr zh.st
    · split
      · exact zh.mark.tr zh.lineC
      · split
        · exact zh.mark.tr ((zh.st.tr zh.st).tr (zh.long _))
        · exact zh.mark
theorem zh_name {N : zc_N} (hI : zc_I N) (hd : zq_hd N) : zq_hd (zc_readName N) := by
  unfold zc_readName
  have hf : zh N (zc_name zk_F N) := zh.fr (zf_name zk_F)
  split
  · have h1 : zh N (zc_putT (zc_name zk_F N) 1) := hf.tr zh.put
    unfold zc_numbered
    refine zh.tell.hd ?_
    unfold zc_number
    split
    · unfold zc_addN
      have hg : zh (zc_putT (zc_name zk_F N) 1) (zc_grow3 (zc_putT (zc_name zk_F N) 1)) := by
        unfold zc_grow3
        split
        · exact zh.rf
        · exact ((zh.g (by decide)).tr (zh.g (by decide))).tr (zh.g (by decide))
      split
      · exact (h1.tr hg).hd hd
      · intro z
        exfalso
        obtain ⟨k', t', k1, -, k2, k3, -⟩ := hI.2.2.2.2.1
        have e24 := (h1.tr hg).1
        have : (zc_named (zc_grow3 (zc_putT (zc_name zk_F N) 1)) ((zc_putT (zc_name zk_F N) 1).1 71 - 1) (zk_hash zk_F N 0)).1 24 = (zc_grow3 (zc_putT (zc_name zk_F N) 1)).1 24 + 1 := by
          unfold zc_named
          rfl
        rw [this, e24, k1, nI_1] at z
        exact absurd (z_injC (b := 0) (by omega) (by omega) z) (by omega)
    · exact h1.hd hd
  · exact (hf.tr zh.put).hd hd
theorem zh_token {N : zc_N} (hI : zc_I N) (hd : zq_hd N) : zq_hd (zc_readToken N) := by
  unfold zc_readToken
  split
  · exact (zh.fr zf_refuse).hd hd
  · split
    · exact zh_name hI hd
    · split
      · unfold zc_putNumber
        split
        · exact (zh.fr zf_readNumber).hd hd
        · exact (((zh.fr zf_readNumber).tr zh.put).tr zh.tell).hd hd
      · split
        · unfold zc_putRune
          split
          · exact (zh.fr zf_rune).hd hd
          · exact (((zh.fr zf_rune).tr zh.put).tr zh.tell).hd hd
        · split
          · unfold zc_putString
            split
            · exact (zh.st.tr (zh.fr (zf_str zk_F))).hd hd
            · exact ((zh.st.tr (zh.fr (zf_str zk_F))).tr zh.put).hd hd
          · split
            · unfold zc_putString
              split
              · exact (zh.st.tr (zh.fr (zf_raw zk_F))).hd hd
              · exact ((zh.st.tr (zh.fr (zf_raw zk_F))).tr zh.put).hd hd
            · unfold zc_readSign
              split
              · exact (zh.fr zf_refuse).hd hd
              · unfold zc_sign2
                split
                · split
                  · exact (zh.st.tr zh.put).hd hd
                  · exact ((zh.st.tr zh.st).tr zh.put).hd hd
                · exact (((zh.st.tr zh.st).tr zh.st).tr zh.put).hd hd
theorem zh_scanL : ∀ (m : Nat) {N : zc_N}, zc_I N → zq_hd N → zq_hd (zc_scanL m N) := by
  intro m
  induction m with
  | zero => intro N _ h; exact h
  | succ m ih =>
    intro N hI hd
    rw [zc_scanL_s rfl]
    split
    · exact hd
    · split
      · exact ih (zi_readToken (zi_pass hI)) (zh_token (zi_pass hI) (zh.pass.hd hd))
      · exact ih (zi_pass hI) (zh.pass.hd hd)
/-- all heads are -1 when the class begins -/
theorem zh_clear {N : zc_N} (hI : zc_I N) (hd : zq_hd N) : ∀ h : Nat, h < 512 → (zc_clear N).2.1 20 h = -1 := by
  intro h hh
  obtain ⟨k', t', k1, -, k2, k3, -⟩ := hI.2.2.2.2.1
  unfold zc_clear zc_clearN
  have e : (zc_s (zc_s N 71 0) 1 0).1 24 = N.1 24 := rfl
  by_cases z : 0 < (zc_s (zc_s N 71 0) 1 0).1 24
  · rw [if_pos z]
    show (if h < 512 then -1 else N.2.1 20 h) = -1
    rw [if_pos hh]
  · rw [if_neg z]
    show N.2.1 20 h = -1
    refine hd ?_ h hh
    rw [e, k1] at z
    rcases Nat.eq_zero_or_pos k' with y | y
    · rw [k1, y]; rfl
    · exact absurd (nI_lt (a := 0) y (by omega)) z
theorem zh_scan {N : zc_N} (hI : zc_I N) (hd : zq_hd N) : zq_hd (zc_scan N) := by
  unfold zc_scan
  have h0 : zq_hd (zc_begin N) := fun _ h hh => by
    show (zc_clear N).2.1 20 h = -1
    exact zh_clear hI hd h hh
  have hI0 := zi_begin hI
  have h1 := zh_scanL zk_F hI0 h0
  have hI1 := zi_scanL zk_F hI0
  generalize zc_scanL zk_F (zc_begin N) = X at h1 hI1
  have hcut : ∀ (Z : zc_N), zh Z (zc_cutTo Z 0) := fun Z => by
    unfold zc_cutTo
    split
    · exact zh.rf
    · exact zh.s (by decide)
  refine (hcut _).hd ?_
  have h2 : zq_hd (zc_fin1 X) := by
    unfold zc_fin1
    split
    · exact (zh.mark.tr zh.endLine).hd h1
    · exact h1
  unfold zc_finish
  split
  · exact h2
  · exact fun _ h hh => zh_clear (zi_fin1 hI1) h2 h hh
theorem zm_heads_at (M : zm_M) : ∀ m : Nat, m ≤ 4096 → (zm_heads M m).1 = M.1 ∧ (∀ r : Nat, r ≠ 20 → (zm_heads M m).2.1 r = M.2.1 r) ∧ (∀ h : Nat, h < m → (zm_heads M m).2.1 20 h = -1) ∧ (zm_heads M m).2.2 = M.2.2 := by
  intro m
  induction m with
  | zero => intro _; exact ⟨rfl, fun _ _ => rfl, fun h hh => absurd hh (Nat.not_lt_zero h), rfl⟩
  | succ m ih =>
    intro hm
    obtain ⟨i1, i2, i3, i4⟩ := ih (by omega)
    have e : zm_heads M (m + 1) = zm_a (zm_heads M m) 20 (nI m) (-1) := rfl
    rw [e]
    generalize zm_heads M m = K at i1 i2 i3 i4
    refine ⟨i1, fun r hr => ?_, fun h hh => ?_, i4⟩
    · show (if r = 20 then _ else K.2.1 r) = _
      rw [if_neg hr, i2 r hr]
    · show (if 20 = 20 then upd (K.2.1 20) (nI m).toNatClampNeg (-1) else K.2.1 20) h = -1
      rw [if_pos rfl, nI_clamp (by omega), zq_upd]
      split
      · rfl
      · exact i3 h (by omega)
theorem zp_scan {N : zc_N} {M : zm_M} {n t k : Nat} (h : zp_R N M n t k) (hn : n ≤ 10240) (hd : zq_hd N) : ∃ (n9 : Nat) (F : zm_M), zm_run n9 (zm_scanB M) F ∧ zk_scan N = zr_scan F ∧ (∃ t' k' : Nat, t' ≤ 10241 ∧ zp_R (zc_scan N) (zm_scanE F) 0 t' k') ∧ zq_hd (zc_scan N) := by
  obtain ⟨hI, ⟨h61, h2, hb⟩, -, -⟩ := h
  have hT : zq_T (N.2.1 60) n := ⟨hn, fun i => hI.2.2.2.2.2.2.2 i⟩
  have hIb := zi_begin hI
  obtain ⟨m1, m2, m3, m4⟩ := zm_heads_at (zm_scan0 M) 4096 (Nat.le_refl _)
  have cl : (∀ j : Nat, j ≠ 24 → j ≠ 71 → j ≠ 1 → (zc_clear N).1 j = N.1 j) ∧ (zc_clear N).1 24 = 0 ∧ (zc_clear N).1 71 = 0 ∧ (zc_clear N).1 1 = 0 ∧ (zc_clear N).2.1 60 = N.2.1 60 := by
    unfold zc_clear zc_clearN
    split
    · refine ⟨fun j a b c => ?_, rfl, rfl, rfl, rfl⟩
      show upd (upd (upd N.1 71 0) 1 0) 24 0 j = _
      rw [zq_upd, if_neg a, zq_upd, if_neg c, zq_upd, if_neg b]
    · refine ⟨fun j a b c => ?_, rfl, rfl, rfl, rfl⟩
      show upd (upd (upd N.1 71 0) 1 0) 24 0 j = _
      rw [zq_upd, if_neg a, zq_upd, if_neg c, zq_upd, if_neg b]
  obtain ⟨c1, c24, c71, c01, c60⟩ := cl
  have bo : ∀ j : Nat, j ≠ 58 → j ≠ 62 → j ≠ 63 → j ≠ 64 → j ≠ 65 → (zc_begin N).1 j = (zc_clear N).1 j := by
    intro j a b c d e
    unfold zc_begin zc_rewind
    show upd (upd (upd (upd (upd (zc_clear N).1 62 0) 63 1) 64 0) 65 0) 58 0 j = _
    rw [zq_upd, if_neg a, zq_upd, if_neg e, zq_upd, if_neg d, zq_upd, if_neg c, zq_upd, if_neg b]
  have ao : ∀ j : Nat, j ≠ 27 → (zm_scanB M).1 j = (zm_scan0 M).1 j := by
    intro j a
    unfold zm_scanB
    show upd (zm_heads (zm_scan0 M) 4096).1 27 0 j = _
    rw [zq_upd, if_neg a, m1]
  have a2 : ∀ r : Nat, r ≠ 20 → (zm_scanB M).2.1 r = M.2.1 r := fun r hr => m2 r hr
  have h0 : nI 0 = (0 : Int32) := rfl
  have hS : zq_S (N.2.1 60) n (zc_begin N) (zm_scanB M) 0 0 0 0 := by
    have b71 : (zc_begin N).1 71 = nI 0 := (bo 71 (by decide) (by decide) (by decide) (by decide) (by decide)).trans c71
    have b1 : (zc_begin N).1 1 = nI 0 := (bo 1 (by decide) (by decide) (by decide) (by decide) (by decide)).trans c01
    have b24 : (zc_begin N).1 24 = nI 0 := (bo 24 (by decide) (by decide) (by decide) (by decide) (by decide)).trans c24
    have s3 : (zm_scanB M).1 3 = nI 0 := (ao 3 (by decide)).trans rfl
    have s15 : (zm_scanB M).1 15 = nI 0 := (ao 15 (by decide)).trans rfl
    have s17 : (zm_scanB M).1 17 = nI 0 := (ao 17 (by decide)).trans rfl
    have s30 : (zm_scanB M).1 30 = -1 := (ao 30 (by decide)).trans rfl
    have s2 : (zm_scanB M).1 2 = nI n := ((ao 2 (by decide)).trans rfl).trans h2
    refine ⟨⟨hIb, rfl, s30, ⟨⟨b71, s3, fun j hj => absurd hj (Nat.not_lt_zero j), b1, s15, fun i hi => absurd hi (Nat.not_lt_zero i)⟩, by omega, by omega⟩, ⟨b24, s17, Nat.le_refl _, fun _ => 0, fun _ => 0, fun j hj => absurd hj (Nat.not_lt_zero j), fun h hh => ?_, fun j hj => absurd hj (Nat.not_lt_zero j), fun h hh => ?_, fun j hj => absurd hj (Nat.not_lt_zero j)⟩, ?_⟩, ⟨?_, ?_, rfl, rfl, rfl⟩, ⟨s2, fun i hi => ?_, rfl, (ao 28 (by decide)).trans rfl, (ao 29 (by decide)).trans rfl⟩, by omega, (ao 21 (by decide)).trans rfl, by omega, by omega⟩
    · show (zc_clear N).2.1 20 h = -1
      exact zh_clear hI hd h hh
    · show (zm_heads (zm_scan0 M) 4096).2.1 20 h = -1
      exact m3 h hh
    · have e : zr_last (zm_scanB M) = 0 := by
        unfold zr_last
        rw [s3, if_pos h0]
      rw [e]
      rfl
    · rw [bo 61 (by decide) (by decide) (by decide) (by decide) (by decide), c1 61 (by decide) (by decide) (by decide)]; exact h61
    · exact c60
    · rw [a2 1 (by decide)]; exact (hb i hi).symm
  obtain ⟨F, f1, f2, t', k', f3, f4⟩ := zq_scanL hT (fun N M a t k u hS ha => zq_piece hT N M a t k u hS ha) zk_F _ _ 0 0 0 0 hS (by unfold zk_F; omega)
  have hz := zt_0 hT hS.2.2.1 (by omega) (by rw [hS.1.2.2.1]; exact zq_m1) hS.2.2.2.2.1 (zm_ok_0 hS.2.2.2.2.1 (zm_T_at hS.1.2.2.2.1.1.2.1 (by omega))) f1
  obtain ⟨n9, hr⟩ := hz
  exact ⟨n9, F, hr, f2, ⟨t', k', f3, f4⟩, zh_scan hI hd⟩
