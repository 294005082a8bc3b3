/-! wordOf, signOf: a list of words in one text, each with a blank behind it -/
def zw_pos (L : List (List Int32)) : Nat → Nat
  | 0 => 0
  | n + 1 => zw_pos L n + (L.getD n []).length + 1
theorem zw_find_drop {L : List (List Int32)} {f : Nat → Int32} {n k : Int32} {i : Nat} (hi : i < L.length) : zw_find (L.drop i) f n k = if nI (L.getD i []).length = n ∧ ∀ j, j < (L.getD i []).length → (L.getD i []).getD j 0 = f j then k else zw_find (L.drop (i + 1)) f n (k + 1) := by
  rw [List.drop_eq_getElem_cons hi, zw_find]
  have e : L.getD i [] = L[i] := by simp [hi]
  rw [e]
def zw_flat : List (List Int32) → List Int32
  | [] => []
  | w :: L => w ++ 32 :: zw_flat L
theorem zw_pos_cons (w : List Int32) (L : List (List Int32)) : ∀ i, zw_pos (w :: L) (i + 1) = w.length + 1 + zw_pos L i := by
  intro i
  induction i with
  | zero => simp [zw_pos]
  | succ i ih =>
    rw [zw_pos, ih, zw_pos, List.getD_cons_succ]
    omega
theorem zw_flat_at : ∀ (L : List (List Int32)) (i j : Nat), i < L.length → j ≤ (L.getD i []).length → (zw_flat L)[zw_pos L i + j]? = some (if j < (L.getD i []).length then (L.getD i []).getD j 0 else 32) := by
  intro L
  induction L with
  | nil => intro i j hi; exact absurd hi (Nat.not_lt_zero _)
  | cons w L ih =>
    intro i j hi hj
    cases i with
    | zero =>
      rw [List.getD_cons_zero] at hj ⊢
      rw [zw_flat, zw_pos, Nat.zero_add]
      split
      · rename_i h
        rw [List.getElem?_append_left h]
        simp [h]
      · have e : j = w.length := by omega
        subst e
        rw [List.getElem?_append_right (Nat.le_refl _)]
        simp
    | succ i =>
      rw [List.getD_cons_succ] at hj ⊢
      rw [zw_pos_cons, zw_flat, List.getElem?_append_right (by omega)]
      have e : w.length + 1 + zw_pos L i + j - w.length = (zw_pos L i + j) + 1 := by omega
      rw [e, List.getElem?_cons_succ]
      exact ih i j (by simpa using hi) hj
theorem zw_mem {w : List Int32} {j : Nat} (h : j < w.length) : w.getD j 0 ∈ w := by
  have e : w.getD j 0 = w[j] := by simp [h]
  rw [e]
  exact List.getElem_mem h
theorem zw_tab {L : List (List Int32)} {K : Nat} (hf : zs_byt.getD K [] = zw_flat L) (hb : ∀ c ∈ zw_flat L, c &&& 255 = c) (hw : ∀ w ∈ L, w.length < 12 ∧ ∀ c ∈ w, c ≠ 32) (hlen : (zw_flat L).length < 200) : ∀ i, i < L.length → (∀ j, j ≤ (L.getD i []).length → zs_ch K (nI (zw_pos L i + j)) = if j < (L.getD i []).length then (L.getD i []).getD j 0 else 32) ∧ (∀ j, j < (L.getD i []).length → (L.getD i []).getD j 0 ≠ 32) ∧ zw_pos L i + (L.getD i []).length < (zw_flat L).length ∧ (L.getD i []).length < 12 := by
  intro i hi
  have hm : L.getD i [] ∈ L := by
    have e : L.getD i [] = L[i] := by simp [hi]
    rw [e]
    exact List.getElem_mem hi
  have hlt : ∀ j, j ≤ (L.getD i []).length → zw_pos L i + j < (zw_flat L).length := fun j hj => (List.getElem?_eq_some_iff.mp (zw_flat_at L i j hi hj)).1
  refine ⟨fun j hj => ?_, fun j hj => (hw _ hm).2 _ (zw_mem hj), hlt _ (Nat.le_refl _), (hw _ hm).1⟩
  have h1 := zw_flat_at L i j hi hj
  have h2 := hlt j hj
  unfold zs_ch
  rw [hf, nI_clamp (by omega), List.getD_eq_getElem?_getD, h1, Option.getD_some]
  exact hb _ (List.mem_of_getElem? h1)
set_option maxRecDepth 100000 in
theorem zw_sign_f : zs_byt.getD 5 [] = zw_flat zw_signs := rfl
set_option maxRecDepth 100000 in
theorem zw_word_f : zs_byt.getD 6 [] = zw_flat zw_words := rfl
theorem zw_sign_end : zw_pos zw_signs 48 = 125 ∧ zs_len.getD 5 0 = 125 ∧ zw_signs.length = 48 := by decide +kernel
theorem zw_word_end : zw_pos zw_words 25 = 154 ∧ zs_len.getD 6 0 = 154 ∧ zw_words.length = 25 := by decide +kernel
theorem zw_sign_len : (zw_flat zw_signs).length = 125 := by decide +kernel
theorem zw_word_len : (zw_flat zw_words).length = 154 := by decide +kernel
theorem zw_sign_tab (i : Nat) (hi : i < 48) : (∀ j, j ≤ (zw_signs.getD i []).length → zs_ch 5 (nI (zw_pos zw_signs i + j)) = if j < (zw_signs.getD i []).length then (zw_signs.getD i []).getD j 0 else 32) ∧ (∀ j, j < (zw_signs.getD i []).length → (zw_signs.getD i []).getD j 0 ≠ 32) ∧ zw_pos zw_signs i + (zw_signs.getD i []).length < 125 ∧ (zw_signs.getD i []).length < 12 := by
  have h := zw_tab zw_sign_f (by decide +kernel) (by decide +kernel) (by rw [zw_sign_len]; decide) i (by rw [zw_sign_end.2.2]; exact hi)
  rw [zw_sign_len] at h
  exact h
theorem zw_word_tab (i : Nat) (hi : i < 25) : (∀ j, j ≤ (zw_words.getD i []).length → zs_ch 6 (nI (zw_pos zw_words i + j)) = if j < (zw_words.getD i []).length then (zw_words.getD i []).getD j 0 else 32) ∧ (∀ j, j < (zw_words.getD i []).length → (zw_words.getD i []).getD j 0 ≠ 32) ∧ zw_pos zw_words i + (zw_words.getD i []).length < 154 ∧ (zw_words.getD i []).length < 12 := by
  have h := zw_tab zw_word_f (by decide +kernel) (by decide +kernel) (by rw [zw_word_len]; decide) i (by rw [zw_word_end.2.2]; exact hi)
  rw [zw_word_len] at h
  exact h
/-- so far alike -/
def zw_sb (w : List Int32) (f : Nat → Int32) (n : Int32) (j : Nat) : Int32 := if ∀ t, t < j → nI t < n ∧ w.getD t 0 = f t then 1 else 0
theorem zw_sb_0 {w : List Int32} {f : Nat → Int32} {n : Int32} : zw_sb w f n 0 = 1 := by
  unfold zw_sb
  rw [if_pos (fun t ht => absurd ht (Nat.not_lt_zero _))]
theorem zw_sb_ne {w : List Int32} {f : Nat → Int32} {n : Int32} {j : Nat} : ¬ zw_sb w f n j = 0 ↔ ∀ t, t < j → nI t < n ∧ w.getD t 0 = f t := by
  unfold zw_sb
  constructor
  · intro h
    split at h
    · assumption
    · exact absurd rfl h
  · intro h
    rw [if_pos h]
    decide
theorem zw_sb_all {w : List Int32} {f : Nat → Int32} {n : Int32} (hw : w.length < 2 ^ 31) (hn : nI w.length = n) : ¬ zw_sb w f n w.length = 0 ↔ ∀ j, j < w.length → w.getD j 0 = f j := by
  rw [zw_sb_ne]
  constructor
  · intro h j hj
    exact (h j hj).2
  · intro h t ht
    exact ⟨by rw [← hn]; exact nI_lt ht hw, h t ht⟩
theorem zw_sb_succ {w : List Int32} {f : Nat → Int32} {n : Int32} {j : Nat} : zw_sb w f n (j + 1) = if ¬ zw_sb w f n j = 0 ∧ nI j < n ∧ w.getD j 0 = f j then 1 else 0 := by
  have e : (¬ zw_sb w f n j = 0 ∧ nI j < n ∧ w.getD j 0 = f j) ↔ ∀ t, t < j + 1 → nI t < n ∧ w.getD t 0 = f t := by
    rw [zw_sb_ne]
    constructor
    · intro h t ht
      rcases Nat.lt_or_ge t j with q | q
      · exact h.1 t q
      · have : t = j := by omega
        subst this
        exact h.2
    · intro h
      exact ⟨fun t ht => h t (by omega), h j (by omega)⟩
  by_cases h : ∀ t, t < j + 1 → nI t < n ∧ w.getD t 0 = f t
  · rw [if_pos (e.mpr h)]
    unfold zw_sb
    rw [if_pos h]
  · rw [if_neg (fun q => h (e.mp q))]
    unfold zw_sb
    rw [if_neg h]
