/-! own rows: chains, counted by the class along order 1, by the reference along order 0 -/
def tt_ls (g : tt_T3 → Nat) : List tt_T3 → Nat
  | [] => 0
  | t :: l => g t + tt_ls g l
theorem tt_ls_perm (g : tt_T3 → Nat) {a b : List tt_T3} (h : a.Perm b) : tt_ls g a = tt_ls g b := by
  induction h with
  | nil => rfl
  | cons x _ ih => show g x + _ = g x + _; rw [ih]
  | swap x y l => show g y + (g x + _) = g x + (g y + _); omega
  | trans _ _ h1 h2 => rw [h1, h2]
theorem tt_sm_cons (g : tt_T3 → Nat) (t : tt_T3) (l : List tt_T3) : ∀ n, tt_sm (fun j => g (tt_gt (t :: l) j)) 0 (n + 1) = g t + tt_sm (fun j => g (tt_gt l j)) 0 n
  | 0 => by show 0 + g (tt_gt (t :: l) (0 + 0)) = g t + 0; rw [show 0 + 0 = 0 from rfl, tt_gt0]; omega
  | n + 1 => by
    show tt_sm _ 0 (n + 1) + g (tt_gt (t :: l) (0 + (n + 1))) = g t + (tt_sm _ 0 n + g (tt_gt l (0 + n)))
    rw [tt_sm_cons g t l n, show 0 + (n + 1) = (0 + n) + 1 by omega, tt_gtS]
    omega
theorem tt_sm_ls (g : tt_T3 → Nat) : ∀ l : List tt_T3, tt_sm (fun j => g (tt_gt l j)) 0 l.length = tt_ls g l
  | [] => rfl
  | t :: l => by
    rw [List.length_cons, tt_sm_cons, tt_sm_ls g l]
    rfl
theorem tt_sm_lo {h : Nat → Nat} {a : Nat} (hz : ∀ j, j < a → h j = 0) : ∀ d, tt_sm h 0 (a + d) = tt_sm h a d
  | 0 => by
    have key : ∀ b, b ≤ a → tt_sm h 0 b = 0 := by
      intro b
      induction b with
      | zero => exact fun _ => rfl
      | succ b ih =>
        intro hb
        show tt_sm h 0 b + h (0 + b) = 0
        rw [ih (by omega), hz (0 + b) (by omega)]
    exact key a (Nat.le_refl _)
  | d + 1 => by
    show tt_sm h 0 (a + d) + h (0 + (a + d)) = tt_sm h a d + h (a + d)
    rw [tt_sm_lo hz d, Nat.zero_add]
theorem tt_sm_hi {h : Nat → Nat} {a b : Nat} (hz : ∀ j, a + b ≤ j → h j = 0) : ∀ d, tt_sm h a (b + d) = tt_sm h a b
  | 0 => rfl
  | d + 1 => by
    show tt_sm h a (b + d) + h (a + (b + d)) = _
    rw [tt_sm_hi hz d, hz _ (by omega)]
    rfl
theorem tt_sm_congr {g h : Nat → Nat} {a : Nat} : ∀ d, (∀ j, a ≤ j → j < a + d → g j = h j) → tt_sm g a d = tt_sm h a d
  | 0, _ => rfl
  | d + 1, hj => by
    show tt_sm g a d + g (a + d) = tt_sm h a d + h (a + d)
    rw [tt_sm_congr d (fun j q1 q2 => hj j q1 (by omega)), hj (a + d) (by omega) (by omega)]
def tt_cg (p q : Int32) (l0 : List tt_T3) (t : tt_T3) : Nat := if t.2.1 = p then l0.countP (tt_cq q t) else 0
theorem tt_c2_sm (p q : Int32) (l : List tt_T3) : ∀ i, tt_c2 p q l i = tt_sm (fun j => tt_cg p q l (tt_gt l j)) 0 i
  | 0 => rfl
  | i + 1 => by
    show tt_c2 p q l i + _ = tt_sm _ 0 i + tt_cg p q l (tt_gt l (0 + i))
    rw [tt_c2_sm p q l i, tt_cn_count, Nat.zero_add]
    rfl
theorem tt_mn3_cq {L : Nat → List tt_T3} (hI : tt_I L) (q : Int32) (t : tt_T3) : tt_mn 3 (tt_pp 2 t) q 0 L = (L 0).countP (tt_cq q t) := by
  rw [tt_mn_count (by omega) _ _ _ hI]
  apply List.countP_congr
  intro u _
  have e : tt_pp 2 t = t.2.2 := rfl
  rw [e]
  simp only [tt_mt, tt_cq, Bool.and_eq_true, Bool.or_eq_true, decide_eq_true_eq]
  constructor
  · rintro ⟨⟨h1 | h1, h2 | h2⟩, -⟩
    · omega
    · omega
    · omega
    · exact ⟨h2, h1.symm⟩
  · rintro ⟨h1, h2⟩
    exact ⟨⟨Or.inr h2.symm, Or.inr h1⟩, Or.inl (by decide)⟩
theorem tt_chains_eq {L : Nat → List tt_T3} (hI : tt_I L) (p q : Int32) : tt_sm (fun j => tt_mn 3 (tt_pp 2 (tt_gt (L 1) j)) q 0 L) (tt_st 2 0 p 0 L) (tt_en 2 0 p 0 L - tt_st 2 0 p 0 L) = tt_c2 p q (L 0) (L 0).length := by
  have hse := tt_st_en 2 0 p 0 L
  have hel : tt_en 2 0 p 0 L ≤ (L 1).length := (tt_en_le 2 0 p 0 hI).1
  have hat : ∀ j, j < (L 1).length → ((tt_gt (L 1) j).2.1 = p ↔ (tt_st 2 0 p 0 L ≤ j ∧ j < tt_en 2 0 p 0 L)) := by
    intro j hj
    have h : tt_mt 2 0 p 0 (tt_gt (L 1) j) = true ↔ _ := tt_mt_at (mk := 2) (by omega) 0 p 0 hI (j := j) hj
    rw [← h]
    simp [tt_mt]
  rw [tt_c2_sm, tt_sm_ls, ← tt_ls_perm _ (hI 1 (by omega)).2.1, ← tt_sm_ls]
  have e1 : tt_sm (fun j => tt_cg p q (L 0) (tt_gt (L 1) j)) 0 (L 1).length = tt_sm (fun j => if j < (L 1).length then tt_cg p q (L 0) (tt_gt (L 1) j) else 0) 0 (L 1).length := tt_sm_congr _ (fun j _ h => (if_pos (by omega)).symm)
  rw [e1]
  have hlen : (L 1).length = tt_st 2 0 p 0 L + ((tt_en 2 0 p 0 L - tt_st 2 0 p 0 L) + ((L 1).length - tt_en 2 0 p 0 L)) := by omega
  rw [show tt_sm (fun j => if j < (L 1).length then tt_cg p q (L 0) (tt_gt (L 1) j) else 0) 0 (L 1).length = tt_sm (fun j => if j < (L 1).length then tt_cg p q (L 0) (tt_gt (L 1) j) else 0) 0 (tt_st 2 0 p 0 L + ((tt_en 2 0 p 0 L - tt_st 2 0 p 0 L) + ((L 1).length - tt_en 2 0 p 0 L))) from congrArg _ hlen]
  rw [tt_sm_lo (fun j hj => ?_), tt_sm_hi (fun j hj => ?_)]
  · refine tt_sm_congr _ (fun j h1 h2 => ?_)
    have h3 : j < (L 1).length := by omega
    rw [if_pos h3, tt_mn3_cq hI]
    unfold tt_cg
    rw [if_pos ((hat j h3).mpr ⟨h1, by omega⟩)]
  · by_cases h3 : j < (L 1).length
    · rw [if_pos h3]
      unfold tt_cg
      rw [if_neg (fun h => by have := (hat j h3).mp h; omega)]
    · rw [if_neg h3]
  · have h3 : j < (L 1).length := by omega
    rw [if_pos h3]
    unfold tt_cg
    rw [if_neg (fun h => by have := (hat j h3).mp h; omega)]
