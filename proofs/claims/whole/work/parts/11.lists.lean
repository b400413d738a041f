/-! own rows: lists of triples in an order -/
theorem tt_lt_iff {k : Nat} {t u : tt_T3} : tt_lt k t u ↔ ((tt_pp ((k + 0) % 3) t).toInt < (tt_pp ((k + 0) % 3) u).toInt ∨ ((tt_pp ((k + 0) % 3) t).toInt = (tt_pp ((k + 0) % 3) u).toInt ∧ ((tt_pp ((k + 1) % 3) t).toInt < (tt_pp ((k + 1) % 3) u).toInt ∨ ((tt_pp ((k + 1) % 3) t).toInt = (tt_pp ((k + 1) % 3) u).toInt ∧ (tt_pp ((k + 2) % 3) t).toInt < (tt_pp ((k + 2) % 3) u).toInt)))) := by
  unfold tt_lt tt_cu tt_cm
  rw [tt_cmp0, tt_e3]
  omega
theorem tt_lt_irr {k : Nat} {t : tt_T3} : ¬ tt_lt k t t := by
  rw [tt_lt_iff]
  omega
theorem tt_lt_tr {k : Nat} {t u v : tt_T3} (h1 : tt_lt k t u) (h2 : tt_lt k u v) : tt_lt k t v := by
  rw [tt_lt_iff] at h1 h2 ⊢
  omega
theorem tt_pp_ext {t u : tt_T3} (h0 : tt_pp 0 t = tt_pp 0 u) (h1 : tt_pp 1 t = tt_pp 1 u) (h2 : tt_pp 2 t = tt_pp 2 u) : t = u := by
  obtain ⟨a, b, c⟩ := t
  obtain ⟨a', b', c'⟩ := u
  have h0 : a = a' := h0
  have h1 : b = b' := h1
  have h2 : c = c' := h2
  rw [h0, h1, h2]
theorem tt_pp_ext3 {k : Nat} (hk : k < 3) {t u : tt_T3} (h0 : tt_pp ((k + 0) % 3) t = tt_pp ((k + 0) % 3) u) (h1 : tt_pp ((k + 1) % 3) t = tt_pp ((k + 1) % 3) u) (h2 : tt_pp ((k + 2) % 3) t = tt_pp ((k + 2) % 3) u) : t = u := by
  match k, hk with
  | 0, _ => exact tt_pp_ext h0 h1 h2
  | 1, _ => exact tt_pp_ext h2 h0 h1
  | 2, _ => exact tt_pp_ext h1 h2 h0
theorem tt_lt_tot {k : Nat} (hk : k < 3) {t u : tt_T3} (h1 : ¬ tt_lt k t u) (h2 : ¬ tt_lt k u t) : t = u := by
  rw [tt_lt_iff] at h1 h2
  refine tt_pp_ext3 hk ?_ ?_ ?_ <;> (rw [tt_i_eq]; omega)
theorem tt_So_nd {k : Nat} {l : List tt_T3} (h : tt_So k l) : l.Nodup := by
  unfold List.Nodup
  refine List.Pairwise.imp ?_ h
  intro t u h e
  subst e
  exact tt_lt_irr h
theorem tt_gt_get {l : List tt_T3} {j : Nat} (h : j < l.length) : tt_gt l j = l[j] := by
  unfold tt_gt
  rw [List.getD_eq_getElem?_getD, List.getElem?_eq_getElem h]
  rfl
theorem tt_gt_eq {l l' : List tt_T3} {i j : Nat} (h : l[i]? = l'[j]?) : tt_gt l i = tt_gt l' j := by
  unfold tt_gt
  rw [List.getD_eq_getElem?_getD, List.getD_eq_getElem?_getD, h]
theorem tt_So_lt {k : Nat} {l : List tt_T3} (h : tt_So k l) {i j : Nat} (hi : i < j) (hj : j < l.length) : tt_lt k (tt_gt l i) (tt_gt l j) := by
  rw [tt_gt_get (by omega : i < l.length), tt_gt_get hj]
  exact List.pairwise_iff_getElem.mp h i j (by omega) hj hi
theorem tt_mem_gt {l : List tt_T3} {t : tt_T3} (h : t ∈ l) : ∃ j, j < l.length ∧ tt_gt l j = t := by
  obtain ⟨j, hj, e⟩ := List.mem_iff_getElem.mp h
  exact ⟨j, hj, by rw [tt_gt_get hj]; exact e⟩
/-- the place of t = (s, p, o) in an order -/
abbrev tt_pos (k : Nat) (t : tt_T3) (l : List tt_T3) : Nat := tt_plu k 3 t.1 t.2.1 t.2.2 0 l
theorem tt_pos_bd {k : Nat} {l : List tt_T3} (hs : tt_So k l) (t : tt_T3) : tt_bd l.length (fun j => tt_lt k (tt_gt l j) t) (tt_pos k t l) := tt_bd_pl hs 3 _ _ _ 0 (Or.inl rfl)
theorem tt_pos_le (k : Nat) (t : tt_T3) (l : List tt_T3) : tt_pos k t l ≤ l.length := tt_pl_len _ _ _ _ _ _ _
theorem tt_pos_eq {k : Nat} {l : List tt_T3} (hs : tt_So k l) {j : Nat} (hj : j < l.length) : tt_pos k (tt_gt l j) l = j := by
  obtain ⟨h1, h2, h3⟩ := tt_pos_bd hs (tt_gt l j)
  rcases Nat.lt_trichotomy (tt_pos k (tt_gt l j) l) j with h | h | h
  · exact absurd (tt_So_lt hs h hj) (h3 _ (Nat.le_refl _) (by omega))
  · exact h
  · exact absurd (h2 j h) tt_lt_irr
theorem tt_pos_mem {k : Nat} {l : List tt_T3} (hs : tt_So k l) {t : tt_T3} (h : t ∈ l) : tt_pos k t l < l.length ∧ tt_gt l (tt_pos k t l) = t := by
  obtain ⟨j, hj, e⟩ := tt_mem_gt h
  have := tt_pos_eq hs hj
  rw [e] at this
  rw [this]
  exact ⟨hj, e⟩
/-- t comes into its place -/
def tt_ins (k : Nat) (t : tt_T3) (l : List tt_T3) : List tt_T3 := l.take (tt_pos k t l) ++ t :: l.drop (tt_pos k t l)
theorem tt_ins_len (k : Nat) (t : tt_T3) (l : List tt_T3) : (tt_ins k t l).length = l.length + 1 := by
  have := tt_pos_le k t l
  unfold tt_ins
  simp only [List.length_append, List.length_take, List.length_cons, List.length_drop]
  omega
theorem tt_ins_perm (k : Nat) (t : tt_T3) (l : List tt_T3) : (tt_ins k t l).Perm (t :: l) := by
  unfold tt_ins
  refine List.perm_middle.trans ?_
  rw [List.take_append_drop]
theorem tt_gt_ins (k : Nat) (t : tt_T3) (l : List tt_T3) {j : Nat} (hj : j < l.length + 1) : tt_gt (tt_ins k t l) j = if j < tt_pos k t l then tt_gt l j else if j = tt_pos k t l then t else tt_gt l (j - 1) := by
  have hp := tt_pos_le k t l
  have ht : (l.take (tt_pos k t l)).length = tt_pos k t l := by rw [List.length_take]; omega
  unfold tt_ins
  by_cases h1 : j < tt_pos k t l
  · rw [if_pos h1]
    apply tt_gt_eq
    rw [List.getElem?_append_left (by omega), List.getElem?_take_of_lt h1]
  · rw [if_neg h1]
    by_cases h2 : j = tt_pos k t l
    · rw [if_pos h2]
      unfold tt_gt
      rw [List.getD_eq_getElem?_getD, List.getElem?_append_right (by omega), ht, h2, Nat.sub_self]
      rfl
    · rw [if_neg h2]
      apply tt_gt_eq
      rw [List.getElem?_append_right (by omega), ht]
      obtain ⟨d, hd⟩ : ∃ d, j - tt_pos k t l = d + 1 := ⟨j - tt_pos k t l - 1, by omega⟩
      rw [hd, List.getElem?_cons_succ, List.getElem?_drop]
      congr 1
      omega
theorem tt_So_ins {k : Nat} (hk : k < 3) {l : List tt_T3} {t : tt_T3} (hs : tt_So k l) (ht : t ∉ l) : tt_So k (tt_ins k t l) := by
  obtain ⟨h1, h2, h3⟩ := tt_pos_bd hs t
  have hlo : ∀ u ∈ l.take (tt_pos k t l), tt_lt k u t := by
    intro u hu
    obtain ⟨j, hj, e⟩ := List.mem_iff_getElem.mp hu
    have hj2 : j < tt_pos k t l := by rw [List.length_take] at hj; omega
    have : tt_lt k (tt_gt l j) t := h2 j hj2
    rw [tt_gt_get (by omega : j < l.length)] at this
    rw [← e, List.getElem_take]
    exact this
  have hhi : ∀ u ∈ l.drop (tt_pos k t l), tt_lt k t u := by
    intro u hu
    obtain ⟨j, hj, e⟩ := List.mem_iff_getElem.mp hu
    rw [List.length_drop] at hj
    have h4 : ¬ tt_lt k (tt_gt l (tt_pos k t l + j)) t := h3 (tt_pos k t l + j) (by omega) (by omega)
    rw [tt_gt_get (by omega : tt_pos k t l + j < l.length)] at h4
    rw [List.getElem_drop] at e
    rw [e] at h4
    by_cases h5 : tt_lt k t u
    · exact h5
    · have h6 := tt_lt_tot hk h4 h5
      exact absurd (by rw [← h6]; exact List.mem_of_mem_drop hu) ht
  unfold tt_So tt_ins
  refine List.pairwise_append.mpr ⟨List.Pairwise.sublist (List.take_sublist _ _) hs, List.pairwise_cons.mpr ⟨hhi, List.Pairwise.sublist (List.drop_sublist _ _) hs⟩, fun a ha b hb => ?_⟩
  rcases List.mem_cons.mp hb with rfl | hb
  · exact hlo a ha
  · exact tt_lt_tr (hlo a ha) (hhi b hb)
theorem tt_RO_ins {k : Nat} {f g : Nat → Int32} {l : List tt_T3} {t : tt_T3} (hf : tt_RO k f l) (hg : ∀ i, g i = if i < 3 * tt_pos k t l then f i else if i < 3 * tt_pos k t l + 3 then tt_pt ((k + (i - 3 * tt_pos k t l)) % 3) t.1 t.2.1 t.2.2 else if i < 3 * l.length + 3 then f (i - 3) else f i) : tt_RO k g (tt_ins k t l) := by
  intro j hj i hi
  rw [tt_ins_len] at hj
  rw [hg, tt_gt_ins k t l hj]
  by_cases h1 : j < tt_pos k t l
  · rw [if_pos (by omega), if_pos h1]
    exact hf j (by have := tt_pos_le k t l; omega) i hi
  · rw [if_neg (by omega), if_neg h1]
    by_cases h2 : j = tt_pos k t l
    · rw [if_pos (by omega), if_pos h2]
      rw [show 3 * j + i - 3 * tt_pos k t l = i by omega]
      rfl
    · rw [if_neg (by omega), if_neg h2, if_pos (by omega)]
      rw [show 3 * j + i - 3 = 3 * (j - 1) + i by omega]
      exact hf (j - 1) (by omega) i hi
/-- t goes -/
def tt_del (t : tt_T3) (l : List tt_T3) : List tt_T3 := l.filter (fun u => decide (u ≠ t))
theorem tt_del_eq : ∀ {l : List tt_T3} (_ : l.Nodup) {j : Nat} (_ : j < l.length), l.eraseIdx j = tt_del (tt_gt l j) l
  | [], _, j, hj => absurd hj (by simp)
  | t :: l, hn, 0, _ => by
    obtain ⟨h1, h2⟩ := List.nodup_cons.mp hn
    rw [List.eraseIdx_cons_zero]
    unfold tt_del
    rw [tt_gt0, List.filter_cons_of_neg (by simp), List.filter_eq_self.mpr]
    intro u hu
    exact decide_eq_true (fun e => h1 (by rw [← e]; exact hu))
  | t :: l, hn, j + 1, hj => by
    obtain ⟨h1, h2⟩ := List.nodup_cons.mp hn
    have hj' : j < l.length := by simp only [List.length_cons] at hj; omega
    rw [List.eraseIdx_cons_succ, tt_del_eq h2 hj']
    unfold tt_del
    rw [tt_gtS]
    have hne : t ≠ tt_gt l j := fun e => h1 (by rw [e]; exact tt_gt_mem hj')
    exact (List.filter_cons_of_pos (p := fun u => decide (u ≠ tt_gt l j)) (decide_eq_true hne)).symm
theorem tt_gt_del {l : List tt_T3} {j i : Nat} : tt_gt (l.eraseIdx j) i = if i < j then tt_gt l i else tt_gt l (i + 1) := by
  by_cases h : i < j
  · rw [if_pos h]
    apply tt_gt_eq
    rw [List.getElem?_eraseIdx_of_lt h]
  · rw [if_neg h]
    apply tt_gt_eq
    rw [List.getElem?_eraseIdx_of_ge (by omega)]
theorem tt_RO_del {k : Nat} {f g : Nat → Int32} {l : List tt_T3} {j : Nat} (hf : tt_RO k f l) (hn : l.Nodup) (hj : j < l.length) (hg : ∀ i, g i = if 3 * j ≤ i ∧ i < 3 * (l.length - 1) then f (i + 3) else f i) : tt_RO k g (tt_del (tt_gt l j) l) := by
  rw [← tt_del_eq hn hj]
  intro x hx i hi
  rw [List.length_eraseIdx_of_lt hj] at hx
  rw [hg, tt_gt_del]
  by_cases h : x < j
  · rw [if_neg (by omega), if_pos h]
    exact hf x (by omega) i hi
  · rw [if_pos (by omega), if_neg h]
    rw [show 3 * x + i + 3 = 3 * (x + 1) + i by omega]
    exact hf (x + 1) (by omega) i hi
theorem tt_del_len {l : List tt_T3} (hn : l.Nodup) {j : Nat} (hj : j < l.length) : (tt_del (tt_gt l j) l).length = l.length - 1 := by
  rw [← tt_del_eq hn hj, List.length_eraseIdx_of_lt hj]
