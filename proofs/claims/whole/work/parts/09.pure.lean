/-! own words: triples, orders, places -/
abbrev tt_T3 : Type := Int32 × Int32 × Int32
def tt_pp (i : Nat) (t : tt_T3) : Int32 := tt_pt i t.1 t.2.1 t.2.2
def tt_gt (l : List tt_T3) (j : Nat) : tt_T3 := l.getD j (0, 0, 0)
/-- the row f of order k holds the list l -/
def tt_RO (k : Nat) (f : Nat → Int32) (l : List tt_T3) : Prop := ∀ j, j < l.length → ∀ i, i < 3 → f (3 * j + i) = tt_pp ((k + i) % 3) (tt_gt l j)
def tt_cm (k : Nat) (told : Int32) (t : tt_T3) (a b c : Int32) : Int32 := tt_cmp told (tt_pp ((k + 0) % 3) t) (tt_pp ((k + 1) % 3) t) (tt_pp ((k + 2) % 3) t) a b c
/-- the first told parts are those of u, in the order k -/
def tt_cu (k : Nat) (told : Int32) (t u : tt_T3) : Int32 := tt_cm k told t (tt_pp ((k + 0) % 3) u) (tt_pp ((k + 1) % 3) u) (tt_pp ((k + 2) % 3) u)
def tt_lt (k : Nat) (t u : tt_T3) : Prop := ¬ (0 : Int32) ≤ tt_cu k 3 t u
def tt_So (k : Nat) (l : List tt_T3) : Prop := l.Pairwise (tt_lt k)
def tt_pl (k : Nat) (told a b c least : Int32) (l : List tt_T3) : Nat := l.countP (fun t => decide (¬ least ≤ tt_cm k told t a b c))
theorem tt_i_le (a b : Int32) : a ≤ b ↔ a.toInt ≤ b.toInt := Int32.le_iff_toInt_le
theorem tt_i_eq (a b : Int32) : a = b ↔ a.toInt = b.toInt := Int32.toInt_inj.symm
theorem tt_cmp0 (told x y z a b c : Int32) : (¬ (0 : Int32) ≤ tt_cmp told x y z a b c) ↔ (0 < told.toInt ∧ (x.toInt < a.toInt ∨ (x.toInt = a.toInt ∧ 1 < told.toInt ∧ (y.toInt < b.toInt ∨ (y.toInt = b.toInt ∧ 2 < told.toInt ∧ z.toInt < c.toInt))))) := by
  have e0 : (0 : Int32).toInt = 0 := by decide
  have e1 : (1 : Int32).toInt = 1 := by decide
  have e2 : (2 : Int32).toInt = 2 := by decide
  unfold tt_cmp
  split
  · rename_i h1
    rw [tt_i_le, tt_i_eq, e0] at h1
    split
    · rename_i h2
      rw [tt_i_le] at h2
      constructor <;> intro h <;> first | exact absurd (by decide) h | omega
    · rename_i h2
      rw [tt_i_le] at h2
      constructor <;> intro h <;> first | decide | omega
  · rename_i h1
    rw [tt_i_le, tt_i_eq, e0] at h1
    split
    · rename_i h3
      rw [tt_i_le, tt_i_eq, e1] at h3
      split
      · rename_i h2
        rw [tt_i_le] at h2
        constructor <;> intro h <;> first | exact absurd (by decide) h | omega
      · rename_i h2
        rw [tt_i_le] at h2
        constructor <;> intro h <;> first | decide | omega
    · rename_i h3
      rw [tt_i_le, tt_i_eq, e1] at h3
      split
      · rename_i h4
        rw [tt_i_le, tt_i_eq, e2] at h4
        split
        · rename_i h2
          rw [tt_i_le] at h2
          constructor <;> intro h <;> first | exact absurd (by decide) h | omega
        · rename_i h2
          rw [tt_i_le] at h2
          constructor <;> intro h <;> first | decide | omega
      · rename_i h4
        rw [tt_i_le, tt_i_eq, e2] at h4
        constructor <;> intro h <;> first | exact absurd (by decide) h | omega
theorem tt_cmp1 (told x y z a b c : Int32) : ((1 : Int32) ≤ tt_cmp told x y z a b c) ↔ (0 < told.toInt ∧ (a.toInt < x.toInt ∨ (x.toInt = a.toInt ∧ 1 < told.toInt ∧ (b.toInt < y.toInt ∨ (y.toInt = b.toInt ∧ 2 < told.toInt ∧ c.toInt < z.toInt))))) := by
  have e0 : (0 : Int32).toInt = 0 := by decide
  have e1 : (1 : Int32).toInt = 1 := by decide
  have e2 : (2 : Int32).toInt = 2 := by decide
  unfold tt_cmp
  split
  · rename_i h1
    rw [tt_i_le, tt_i_eq, e0] at h1
    split
    · rename_i h2
      rw [tt_i_le] at h2
      constructor <;> intro h <;> first | decide | omega
    · rename_i h2
      rw [tt_i_le] at h2
      constructor <;> intro h <;> first | exact absurd h (by decide) | omega
  · rename_i h1
    rw [tt_i_le, tt_i_eq, e0] at h1
    split
    · rename_i h3
      rw [tt_i_le, tt_i_eq, e1] at h3
      split
      · rename_i h2
        rw [tt_i_le] at h2
        constructor <;> intro h <;> first | decide | omega
      · rename_i h2
        rw [tt_i_le] at h2
        constructor <;> intro h <;> first | exact absurd h (by decide) | omega
    · rename_i h3
      rw [tt_i_le, tt_i_eq, e1] at h3
      split
      · rename_i h4
        rw [tt_i_le, tt_i_eq, e2] at h4
        split
        · rename_i h2
          rw [tt_i_le] at h2
          constructor <;> intro h <;> first | decide | omega
        · rename_i h2
          rw [tt_i_le] at h2
          constructor <;> intro h <;> first | exact absurd h (by decide) | omega
      · rename_i h4
        rw [tt_i_le, tt_i_eq, e2] at h4
        constructor <;> intro h <;> first | exact absurd h (by decide) | omega
theorem tt_e3 : (3 : Int32).toInt = 3 := by decide
/-- what is before a triple compares no higher than it -/
theorem tt_mono {k : Nat} {t u : tt_T3} {told a b c least : Int32} (hl : least = 0 ∨ least = 1) (h : tt_lt k t u) (hu : ¬ least ≤ tt_cm k told u a b c) : ¬ least ≤ tt_cm k told t a b c := by
  unfold tt_lt tt_cu tt_cm at h
  unfold tt_cm at hu ⊢
  rw [tt_cmp0, tt_e3] at h
  rcases hl with rfl | rfl
  · rw [tt_cmp0] at hu ⊢
    omega
  · rw [tt_cmp1] at hu ⊢
    omega
theorem tt_gt0 (t : tt_T3) (l : List tt_T3) : tt_gt (t :: l) 0 = t := rfl
theorem tt_gtS (t : tt_T3) (l : List tt_T3) (j : Nat) : tt_gt (t :: l) (j + 1) = tt_gt l j := rfl
theorem tt_gt_mem {l : List tt_T3} {j : Nat} (h : j < l.length) : tt_gt l j ∈ l := by
  unfold tt_gt
  rw [List.getD_eq_getElem?_getD, List.getElem?_eq_getElem h]
  exact List.getElem_mem h
theorem tt_bd_list {R : tt_T3 → tt_T3 → Prop} {P : tt_T3 → Bool} (hm : ∀ t u, R t u → P u = true → P t = true) : ∀ {l : List tt_T3}, l.Pairwise R → tt_bd l.length (fun j => P (tt_gt l j) = true) (l.countP P)
  | [], _ => ⟨Nat.le_refl _, fun j h => absurd h (by simp), fun j _ h => absurd h (by simp)⟩
  | t :: l, hl => by
    obtain ⟨h1, h2⟩ := List.pairwise_cons.mp hl
    obtain ⟨i1, i2, i3⟩ := tt_bd_list hm h2
    by_cases ht : P t = true
    · rw [List.countP_cons_of_pos ht]
      refine ⟨by simp only [List.length_cons]; omega, fun j hj => ?_, fun j hj hn => ?_⟩
      · cases j with
        | zero => exact ht
        | succ j => exact i2 j (by omega)
      · cases j with
        | zero => omega
        | succ j => exact i3 j (by omega) (by simp only [List.length_cons] at hn; omega)
    · have hz : l.countP P = 0 := List.countP_eq_zero.mpr (fun u hu h => ht (hm t u (h1 u hu) h))
      rw [List.countP_cons_of_neg ht, hz]
      refine ⟨Nat.zero_le _, fun j hj => absurd hj (by omega), fun j _ hn => ?_⟩
      cases j with
      | zero => exact ht
      | succ j => exact i3 j (by omega) (by simp only [List.length_cons] at hn; omega)
theorem tt_bd_congr {n r : Nat} {P Q : Nat → Prop} (h : tt_bd n P r) (hc : ∀ j, j < n → (P j ↔ Q j)) : tt_bd n Q r :=
  ⟨h.1, fun j hj => (hc j (Nat.lt_of_lt_of_le hj h.1)).mp (h.2.1 j hj), fun j h1 h2 hq => h.2.2 j h1 h2 ((hc j h2).mpr hq)⟩
/-- the places below (or not above) what is told stand first -/
theorem tt_bd_pl {k : Nat} {l : List tt_T3} (hs : tt_So k l) (told a b c least : Int32) (hl : least = 0 ∨ least = 1) : tt_bd l.length (fun j => ¬ least ≤ tt_cm k told (tt_gt l j) a b c) (tt_pl k told a b c least l) :=
  tt_bd_congr (tt_bd_list (P := fun t => decide (¬ least ≤ tt_cm k told t a b c)) (fun t u h hu => decide_eq_true (tt_mono hl h (of_decide_eq_true hu))) hs) (fun j _ => decide_eq_true_iff)
theorem tt_bd_f {k : Nat} {f : Nat → Int32} {l : List tt_T3} (hf : tt_RO k f l) (hs : tt_So k l) (told a b c least : Int32) (hl : least = 0 ∨ least = 1) : tt_bd l.length (fun j => ¬ least ≤ tt_cmp told (f (3 * j)) (f (3 * j + 1)) (f (3 * j + 2)) a b c) (tt_pl k told a b c least l) :=
  tt_bd_congr (tt_bd_pl hs told a b c least hl) (fun j hj => by
    have h0 : f (3 * j) = tt_pp ((k + 0) % 3) (tt_gt l j) := hf j hj 0 (by omega)
    have h1 := hf j hj 1 (by omega)
    have h2 := hf j hj 2 (by omega)
    unfold tt_cm
    rw [h0, h1, h2])
