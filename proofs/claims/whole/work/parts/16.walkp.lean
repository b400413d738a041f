/-! own words: a walk; M holds the ints come to, each with its steps -/
abbrev tt_MM : Type := List (Int32 × Int32)
def tt_mg (M : tt_MM) (i : Nat) : Int32 × Int32 := M.getD i (0, 0)
def tt_wv (p v sv : Int32) (t : tt_T3) (M : tt_MM) : tt_MM := if t.2.1 = p ∧ t.1 = v ∧ t.2.2 ∉ M.map Prod.fst then M ++ [(t.2.2, sv)] else M
def tt_wo (l : List tt_T3) (p v sv : Int32) (M : tt_MM) : Nat → tt_MM
  | 0 => M
  | j + 1 => tt_wv p v sv (tt_gt l j) (tt_wo l p v sv M j)
def tt_bf (l : List tt_T3) (p : Int32) : Nat → Nat → tt_MM → tt_MM
  | 0, _, M => M
  | f + 1, k, M => if k < M.length then tt_bf l p f (k + 1) (tt_wo l p (tt_mg M k).1 ((tt_mg M k).2 + 1) M l.length) else M
def tt_bfs (l : List tt_T3) (p src : Int32) : tt_MM := tt_bf l p 702 0 [(src, 0)]
theorem tt_bf_go {l : List tt_T3} {p : Int32} {f k : Nat} {M : tt_MM} (h : k < M.length) : tt_bf l p (f + 1) k M = tt_bf l p f (k + 1) (tt_wo l p (tt_mg M k).1 ((tt_mg M k).2 + 1) M l.length) := if_pos h
theorem tt_bf_end {l : List tt_T3} {p : Int32} {f k : Nat} {M : tt_MM} (h : ¬ k < M.length) : tt_bf l p f k M = M := by
  cases f with
  | zero => rfl
  | succ f => exact if_neg h
/-- what holds of a walk's ints -/
def tt_MI (l : List tt_T3) (p src : Int32) (M : tt_MM) : Prop := (M.map Prod.fst).Nodup ∧ ∀ x ∈ M.map Prod.fst, x = src ∨ ∃ t ∈ l, t.2.1 = p ∧ t.2.2 = x
theorem tt_len_sub : ∀ {a b : List Int32}, a.Nodup → (∀ x ∈ a, x ∈ b) → a.length ≤ b.length
  | [], b, _, _ => Nat.zero_le _
  | x :: a, b, hn, hs => by
    obtain ⟨h1, h2⟩ := List.nodup_cons.mp hn
    have hx : x ∈ b := hs x List.mem_cons_self
    have h3 := tt_len_sub (b := b.erase x) h2 (fun y hy => (List.mem_erase_of_ne (fun e => h1 (by rw [← e]; exact hy))).mpr (hs y (List.mem_cons_of_mem _ hy)))
    rw [List.length_erase_of_mem hx] at h3
    have := List.length_pos_of_mem hx
    simp only [List.length_cons]
    omega
theorem tt_MI_len {l : List tt_T3} {p src : Int32} {M : tt_MM} (h : tt_MI l p src M) : M.length ≤ l.length + 1 := by
  have h1 := tt_len_sub (b := src :: l.map (fun t => t.2.2)) h.1 (fun x hx => by
    rcases h.2 x hx with e | ⟨t, ht, -, e⟩
    · rw [e]
      exact List.mem_cons_self
    · exact List.mem_cons_of_mem _ (List.mem_map.mpr ⟨t, ht, e⟩))
  simpa using h1
theorem tt_MI_0 (l : List tt_T3) (p src : Int32) : tt_MI l p src [(src, 0)] := by
  refine ⟨by simp, fun x hx => Or.inl ?_⟩
  simpa using hx
theorem tt_MI_add {l : List tt_T3} {p src : Int32} {M : tt_MM} (h : tt_MI l p src M) {t : tt_T3} (ht : t ∈ l) (hp : t.2.1 = p) (hn : t.2.2 ∉ M.map Prod.fst) (sv : Int32) : tt_MI l p src (M ++ [(t.2.2, sv)]) := by
  refine ⟨?_, fun x hx => ?_⟩
  · rw [List.map_append]
    refine List.nodup_append.mpr ⟨h.1, by simp, fun a ha b hb e => ?_⟩
    have hb : b = t.2.2 := by simpa using hb
    subst hb
    subst e
    exact hn ha
  · rw [List.map_append, List.mem_append] at hx
    rcases hx with hx | hx
    · exact h.2 x hx
    · have hx : x = t.2.2 := by simpa using hx
      exact Or.inr ⟨t, ht, hp, hx.symm⟩
theorem tt_MI_wv {l : List tt_T3} {p src : Int32} {M : tt_MM} (h : tt_MI l p src M) {t : tt_T3} (ht : t ∈ l) (v sv : Int32) : tt_MI l p src (tt_wv p v sv t M) := by
  unfold tt_wv
  by_cases hc : t.2.1 = p ∧ t.1 = v ∧ t.2.2 ∉ M.map Prod.fst
  · rw [if_pos hc]
    exact tt_MI_add h ht hc.1 hc.2.2 sv
  · rw [if_neg hc]
    exact h
theorem tt_MI_wo {l : List tt_T3} {p src : Int32} {M : tt_MM} (h : tt_MI l p src M) (v sv : Int32) : ∀ j, j ≤ l.length → tt_MI l p src (tt_wo l p v sv M j)
  | 0, _ => h
  | j + 1, hj => tt_MI_wv (tt_MI_wo h v sv j (by omega)) (tt_gt_mem (by omega)) v sv
theorem tt_wv_len (p v sv : Int32) (t : tt_T3) (M : tt_MM) : M.length ≤ (tt_wv p v sv t M).length := by
  unfold tt_wv
  split
  · simp
  · exact Nat.le_refl _
theorem tt_wo_len (l : List tt_T3) (p v sv : Int32) (M : tt_MM) : ∀ j, M.length ≤ (tt_wo l p v sv M j).length
  | 0 => Nat.le_refl _
  | j + 1 => Nat.le_trans (tt_wo_len l p v sv M j) (tt_wv_len _ _ _ _ _)
/-- places that don't match add nothing -/
theorem tt_wo_skip {l : List tt_T3} {p v sv : Int32} {M : tt_MM} {a : Nat} : ∀ b, a ≤ b → (∀ j, a ≤ j → j < b → ¬ ((tt_gt l j).2.1 = p ∧ (tt_gt l j).1 = v)) → tt_wo l p v sv M b = tt_wo l p v sv M a
  | 0, h, _ => by rw [show a = 0 by omega]
  | b + 1, h, hj => by
    by_cases e : a = b + 1
    · rw [e]
    · have h1 := tt_wo_skip (sv := sv) (M := M) b (by omega) (fun j q1 q2 => hj j q1 (by omega))
      show tt_wv p v sv (tt_gt l b) (tt_wo l p v sv M b) = _
      unfold tt_wv
      rw [if_neg (fun q => hj b (by omega) (by omega) ⟨q.1, q.2.1⟩), h1]
/-- the mark of an int that triples with p lead to is zero just when it hasn't been come to -/
def tt_MK (L : Nat → List tt_T3) (p : Int32) (M : tt_MM) (wm : Nat → Int32) : Prop := ∀ o, 0 < tt_mn 6 0 p o L → (wm (tt_st 6 0 p o L) = 0 ↔ o ∉ M.map Prod.fst)
theorem tt_tg_at {L : Nat → List tt_T3} (hI : tt_I L) {p o : Int32} (h : 0 < tt_mn 6 0 p o L) : tt_st 6 0 p o L < (L 1).length ∧ (tt_gt (L 1) (tt_st 6 0 p o L)).2.1 = p ∧ (tt_gt (L 1) (tt_st 6 0 p o L)).2.2 = o := by
  have hel : tt_en 6 0 p o L ≤ (L 1).length := (tt_en_le 6 0 p o hI).1
  unfold tt_mn at h
  have h1 := (tt_mt_at (mk := 6) (by omega) 0 p o hI (j := tt_st 6 0 p o L) (by show _ < (L 1).length; omega)).mpr ⟨Nat.le_refl _, by omega⟩
  refine ⟨by omega, ?_⟩
  have h1 : tt_mt 6 0 p o (tt_gt (L 1) (tt_st 6 0 p o L)) = true := h1
  simpa [tt_mt] using h1
theorem tt_tg_inj {L : Nat → List tt_T3} (hI : tt_I L) {p o o' : Int32} (h : 0 < tt_mn 6 0 p o L) (h' : 0 < tt_mn 6 0 p o' L) (e : tt_st 6 0 p o L = tt_st 6 0 p o' L) : o = o' := by
  have h1 := (tt_tg_at hI h).2.2
  have h2 := (tt_tg_at hI h').2.2
  rw [e] at h1
  exact h1.symm.trans h2
theorem tt_tg_in {L : Nat → List tt_T3} (hI : tt_I L) {p o : Int32} (h : 0 < tt_mn 6 0 p o L) : tt_st 2 0 p 0 L ≤ tt_st 6 0 p o L ∧ tt_st 6 0 p o L < tt_en 2 0 p 0 L := by
  obtain ⟨h1, h2, -⟩ := tt_tg_at hI h
  refine (tt_mt_at (mk := 2) (by omega) 0 p 0 hI (j := tt_st 6 0 p o L) h1).mp ?_
  show tt_mt 2 0 p 0 (tt_gt (L 1) (tt_st 6 0 p o L)) = true
  simp [tt_mt, h2]
theorem tt_tg_mem {L : Nat → List tt_T3} (hI : tt_I L) {t : tt_T3} (ht : t ∈ L 0) : 0 < tt_mn 6 0 t.2.1 t.2.2 L := by
  rw [tt_mn_count (by omega) 0 _ _ hI, List.countP_pos_iff]
  exact ⟨t, ht, by simp [tt_mt]⟩
/-- the first one comes -/
theorem tt_MK_0 {L : Nat → List tt_T3} (hI : tt_I L) {p src : Int32} {g wm : Nat → Int32} (hg : ∀ i, g i = if tt_st 2 0 p 0 L ≤ i ∧ i < tt_en 2 0 p 0 L then 0 else wm i) : (0 < tt_mn 6 0 p src L → g (tt_st 6 0 p src L) = 0 ∧ tt_MK L p [(src, 0)] (upd g (tt_st 6 0 p src L) 1)) ∧ (¬ 0 < tt_mn 6 0 p src L → tt_MK L p [(src, 0)] g) := by
  have hz : ∀ o, 0 < tt_mn 6 0 p o L → g (tt_st 6 0 p o L) = 0 := fun o ho => by rw [hg, if_pos (tt_tg_in hI ho)]
  have hmem : ∀ o : Int32, o ∉ ([(src, 0)] : tt_MM).map Prod.fst ↔ o ≠ src := fun o => by simp
  refine ⟨fun hs => ⟨hz src hs, fun o ho => ?_⟩, fun hs o ho => ?_⟩
  · rw [hmem]
    by_cases e : o = src
    · subst e
      rw [show upd g (tt_st 6 0 p o L) 1 (tt_st 6 0 p o L) = 1 from if_pos rfl]
      exact ⟨fun h => absurd h (by decide), fun h => absurd rfl h⟩
    · rw [show upd g (tt_st 6 0 p src L) 1 (tt_st 6 0 p o L) = g (tt_st 6 0 p o L) from if_neg (fun q => e (tt_tg_inj hI ho hs q))]
      exact ⟨fun _ => e, fun _ => hz o ho⟩
  · rw [hmem]
    exact ⟨fun _ e => hs (by rw [← e]; exact ho), fun _ => hz o ho⟩
/-- one more comes, marked -/
theorem tt_MK_add {L : Nat → List tt_T3} (hI : tt_I L) {p o : Int32} {M : tt_MM} {wm : Nat → Int32} (h : tt_MK L p M wm) (ho : 0 < tt_mn 6 0 p o L) (sv : Int32) : tt_MK L p (M ++ [(o, sv)]) (upd wm (tt_st 6 0 p o L) 1) := by
  intro o' ho'
  have hmem : o' ∉ (M ++ [(o, sv)]).map Prod.fst ↔ (o' ∉ M.map Prod.fst ∧ o' ≠ o) := by
    rw [List.map_append, List.mem_append]
    simp
  rw [hmem]
  by_cases e : o' = o
  · subst e
    rw [show upd wm (tt_st 6 0 p o' L) 1 (tt_st 6 0 p o' L) = 1 from if_pos rfl]
    exact ⟨fun h => absurd h (by decide), fun h => absurd rfl h.2⟩
  · rw [show upd wm (tt_st 6 0 p o L) 1 (tt_st 6 0 p o' L) = wm (tt_st 6 0 p o' L) from if_neg (fun q => e (tt_tg_inj hI ho' ho q)), h o' ho']
    exact ⟨fun q => ⟨q, e⟩, fun q => q.1⟩
/-- two rows hold a walk -/
def tt_MR (M : tt_MM) (wi wst : Nat → Int32) : Prop := ∀ i, i < M.length → wi i = (tt_mg M i).1 ∧ wst i = (tt_mg M i).2
theorem tt_MR_add {M : tt_MM} {wi wst : Nat → Int32} (h : tt_MR M wi wst) (x y : Int32) : tt_MR (M ++ [(x, y)]) (upd wi M.length x) (upd wst M.length y) := by
  intro i hi
  have hi : i < M.length + 1 := by simpa using hi
  by_cases e : i = M.length
  · subst e
    have hg : tt_mg (M ++ [(x, y)]) M.length = (x, y) := by
      unfold tt_mg
      rw [List.getD_eq_getElem?_getD, List.getElem?_append_right (Nat.le_refl _), Nat.sub_self]
      rfl
    rw [hg]
    exact ⟨if_pos rfl, if_pos rfl⟩
  · have hg : tt_mg (M ++ [(x, y)]) i = tt_mg M i := by
      unfold tt_mg
      rw [List.getD_eq_getElem?_getD, List.getD_eq_getElem?_getD, List.getElem?_append_left (by omega)]
    rw [hg]
    obtain ⟨h1, h2⟩ := h i (by omega)
    exact ⟨(if_neg e).trans h1, (if_neg e).trans h2⟩
theorem tt_mg_mem {M : tt_MM} {i : Nat} (h : i < M.length) : (tt_mg M i).1 ∈ M.map Prod.fst := by
  unfold tt_mg
  rw [List.getD_eq_getElem?_getD, List.getElem?_eq_getElem h]
  exact List.mem_map.mpr ⟨M[i], List.getElem_mem h, rfl⟩
/-- where x stands in a walk, or its length -/
def tt_fi (M : tt_MM) (x : Int32) : Nat := M.findIdx (fun e => decide (e.1 = x))
def tt_fs (M : tt_MM) (x : Int32) : Int32 := if tt_fi M x < M.length then (tt_mg M (tt_fi M x)).2 else (-1)
theorem tt_fi_ff {M : tt_MM} {wi wst : Nat → Int32} (h : tt_MR M wi wst) (x : Int32) : tt_ff wi M.length x (tt_fi M x) := by
  refine ⟨List.findIdx_le_length, fun j hj e => ?_, fun hlt => ?_⟩
  · have hl : j < M.length := Nat.lt_of_lt_of_le hj List.findIdx_le_length
    have h1 := List.not_of_lt_findIdx hj
    rw [(h j hl).1] at e
    unfold tt_mg at e
    rw [List.getD_eq_getElem?_getD, List.getElem?_eq_getElem hl] at e
    have e : M[j].1 = x := e
    simp [e] at h1
  · rw [(h _ hlt).1]
    have h1 := List.findIdx_getElem (xs := M) (p := fun e : Int32 × Int32 => decide (e.1 = x)) (w := hlt)
    have h2 := of_decide_eq_true h1
    unfold tt_mg
    rw [List.getD_eq_getElem?_getD, List.getElem?_eq_getElem hlt]
    exact h2
theorem tt_fi_mem (M : tt_MM) (x : Int32) : tt_fi M x < M.length ↔ x ∈ M.map Prod.fst := by
  unfold tt_fi
  rw [List.findIdx_lt_length]
  constructor
  · rintro ⟨e, he, h⟩
    exact List.mem_map.mpr ⟨e, he, of_decide_eq_true h⟩
  · intro h
    obtain ⟨e, he, h⟩ := List.mem_map.mp h
    exact ⟨e, he, decide_eq_true h⟩
