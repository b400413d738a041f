/-! own rows: the reference's cursors, and taking out all that matches -/
theorem tt_updK {α : Type} (K : Nat → α) (g : α → Int32) (q : Nat) (u : α) : upd (fun j => g (K j)) q (g u) = fun j => g (va_up K q u j) := by
  funext j
  unfold upd va_up
  by_cases e : j = q
  · rw [if_pos e, if_pos e]
  · rw [if_neg e, if_neg e]
theorem tt_kp_up (K : Nat → tt_KU) (q : Nat) (u : tt_KU) : upd (upd (upd (tt_kp K) (3 * q) u.2.2.2.1) (3 * q + 1) u.2.2.2.2.1) (3 * q + 2) u.2.2.2.2.2.1 = tt_kp (va_up K q u) := by
  funext i
  unfold upd tt_kp va_up
  by_cases e : i / 3 = q
  · rw [if_pos e]
    have h : i = 3 * q ∨ i = 3 * q + 1 ∨ i = 3 * q + 2 := by omega
    rcases h with h | h | h
    · rw [if_neg (by omega), if_neg (by omega), if_pos h, show i % 3 = 0 by omega]; rfl
    · rw [if_neg (by omega), if_pos h, show i % 3 = 1 by omega]; rfl
    · rw [if_pos h, show i % 3 = 2 by omega]; rfl
  · rw [if_neg (by omega), if_neg (by omega), if_neg (by omega), if_neg e]
theorem tt_kp_same (K : Nat → tt_KU) (q : Nat) (u : tt_KU) (h : u.2.2.2.1 = (K q).2.2.2.1 ∧ u.2.2.2.2.1 = (K q).2.2.2.2.1 ∧ u.2.2.2.2.2.1 = (K q).2.2.2.2.2.1) : tt_kp (va_up K q u) = tt_kp K := by
  funext i
  unfold tt_kp va_up
  by_cases e : i / 3 = q
  · rw [if_pos e, e, h.1, h.2.1, h.2.2]
  · rw [if_neg e]
theorem tt_upK_same {α : Type} (K : Nat → α) (g : α → Int32) (q : Nat) (u : α) (h : g u = g (K q)) : (fun j => g (va_up K q u j)) = fun j => g (K j) := by
  funext j
  unfold va_up
  by_cases e : j = q
  · rw [if_pos e, e, h]
  · rw [if_neg e]
section
variable {K : Nat → tt_KU} {cx : Nat → va_E} {E0 E1 E7 E8 : va_E} {cI cZ : ClassId}
theorem tt_open_C9 {q mk : Nat} {s p o : Int32} {u : tt_KU} (h1 : u.1 = true) (h2 : u.2.1 = false) (h3 : u.2.2.1 = mk) (h4 : u.2.2.2 = (s, p, o, 0)) (h : tt_C9 cx E0 E1 (.inl (cZ, 8, .inl (upd (fun j => tt_b (K j).1) q 1))) (.inl (cZ, 8, .inl (upd (fun j => tt_b (K j).2.1) q 0))) (.inl (cI, 8, .inl (upd (fun j => nI (K j).2.2.1) q (nI mk)))) (.inl (cI, 24, .inl (upd (upd (upd (tt_kp K) (3 * q) s) (3 * q + 1) p) (3 * q + 2) o))) (.inl (cI, 8, .inl (upd (fun j => nI (K j).2.2.2.2.2.2 - 1) q (-1)))) E7 E8) : tt_C9 cx E0 E1 (.inl (cZ, 8, .inl (fun j => tt_b (va_up K q u j).1))) (.inl (cZ, 8, .inl (fun j => tt_b (va_up K q u j).2.1))) (.inl (cI, 8, .inl (fun j => nI (va_up K q u j).2.2.1))) (.inl (cI, 24, .inl (tt_kp (va_up K q u)))) (.inl (cI, 8, .inl (fun j => nI (va_up K q u j).2.2.2.2.2.2 - 1))) E7 E8 := by
  have e1 := tt_updK K (fun w => tt_b w.1) q u
  have e2 := tt_updK K (fun w => tt_b w.2.1) q u
  have e3 := tt_updK K (fun w => nI w.2.2.1) q u
  have e4 := tt_kp_up K q u
  have e5 := tt_updK K (fun w => nI w.2.2.2.2.2.2 - 1) q u
  try dsimp only at e1
  try dsimp only at e2
  try dsimp only at e3
  try dsimp only at e5
  rw [h1] at e1
  rw [h2] at e2
  rw [h3] at e3
  rw [h4] at e4 e5
  rw [← e1, ← e2, ← e3, ← e4, ← e5]
  exact h
def tt_kg (u : tt_KU) (x : Nat) : tt_KU := (u.1, u.2.1, u.2.2.1, u.2.2.2.1, u.2.2.2.2.1, u.2.2.2.2.2.1, x + 1)
theorem tt_go_C9 {q x : Nat} (h : tt_C9 cx E0 E1 (.inl (cZ, 8, .inl (fun j => tt_b (K j).1))) (.inl (cZ, 8, .inl (fun j => tt_b (K j).2.1))) (.inl (cI, 8, .inl (fun j => nI (K j).2.2.1))) (.inl (cI, 24, .inl (tt_kp K))) (.inl (cI, 8, .inl (upd (fun j => nI (K j).2.2.2.2.2.2 - 1) q (nI x)))) E7 E8) : tt_C9 cx E0 E1 (.inl (cZ, 8, .inl (fun j => tt_b (va_up K q (tt_kg (K q) x) j).1))) (.inl (cZ, 8, .inl (fun j => tt_b (va_up K q (tt_kg (K q) x) j).2.1))) (.inl (cI, 8, .inl (fun j => nI (va_up K q (tt_kg (K q) x) j).2.2.1))) (.inl (cI, 24, .inl (tt_kp (va_up K q (tt_kg (K q) x))))) (.inl (cI, 8, .inl (fun j => nI (va_up K q (tt_kg (K q) x) j).2.2.2.2.2.2 - 1))) E7 E8 := by
  have e1 := tt_upK_same K (fun w => tt_b w.1) q (tt_kg (K q) x) rfl
  have e2 := tt_upK_same K (fun w => tt_b w.2.1) q (tt_kg (K q) x) rfl
  have e3 := tt_upK_same K (fun w => nI w.2.2.1) q (tt_kg (K q) x) rfl
  have e4 := tt_kp_same K q (tt_kg (K q) x) ⟨rfl, rfl, rfl⟩
  have e5 := tt_updK K (fun w => nI w.2.2.2.2.2.2 - 1) q (tt_kg (K q) x)
  try dsimp only at e1
  try dsimp only at e2
  try dsimp only at e3
  try dsimp only at e5
  rw [show nI (tt_kg (K q) x).2.2.2.2.2.2 - 1 = nI x from nI_pred x] at e5
  rw [e1, e2, e3, e4, ← e5]
  exact h
theorem tt_close_C9 {q : Nat} (h : tt_C9 cx E0 E1 (.inl (cZ, 8, .inl (upd (fun j => tt_b (K j).1) q 0))) (.inl (cZ, 8, .inl (upd (fun j => tt_b (K j).2.1) q 0))) (.inl (cI, 8, .inl (fun j => nI (K j).2.2.1))) (.inl (cI, 24, .inl (tt_kp K))) (.inl (cI, 8, .inl (fun j => nI (K j).2.2.2.2.2.2 - 1))) E7 E8) : tt_C9 cx E0 E1 (.inl (cZ, 8, .inl (fun j => tt_b (va_up K q (false, false, (K q).2.2) j).1))) (.inl (cZ, 8, .inl (fun j => tt_b (va_up K q (false, false, (K q).2.2) j).2.1))) (.inl (cI, 8, .inl (fun j => nI (va_up K q (false, false, (K q).2.2) j).2.2.1))) (.inl (cI, 24, .inl (tt_kp (va_up K q (false, false, (K q).2.2))))) (.inl (cI, 8, .inl (fun j => nI (va_up K q (false, false, (K q).2.2) j).2.2.2.2.2.2 - 1))) E7 E8 := by
  have e1 := tt_updK K (fun w => tt_b w.1) q (false, false, (K q).2.2)
  have e2 := tt_updK K (fun w => tt_b w.2.1) q (false, false, (K q).2.2)
  have e3 := tt_upK_same K (fun w => nI w.2.2.1) q (false, false, (K q).2.2) rfl
  have e4 := tt_kp_same K q (false, false, (K q).2.2) ⟨rfl, rfl, rfl⟩
  have e5 := tt_upK_same K (fun w => nI w.2.2.2.2.2.2 - 1) q (false, false, (K q).2.2) rfl
  try dsimp only at e1
  try dsimp only at e2
  try dsimp only at e3
  try dsimp only at e5
  rw [← e1, ← e2, e3, e4, e5]
  exact h
end
def tt_fk (K : Nat → tt_KU) (q : Nat) : Prop := q ≤ 8 ∧ (∀ i, i < q → (K i).1 = true) ∧ (q < 8 → (K q).1 = false)
theorem tt_fk_eq {K : Nat → tt_KU} {q i : Nat} (h : tt_fk K q) (hi : i ≤ q) (h8 : i < 8) (hc : (K i).1 = false) : i = q := by
  rcases Nat.lt_or_ge i q with h1 | h1
  · rw [h.2.1 i h1] at hc
    cases hc
  · omega
theorem tt_fk_lt {K : Nat → tt_KU} {q i : Nat} (h : tt_fk K q) (hi : i ≤ q) (h8 : i < 8) (hc : (K i).1 = true) : i + 1 ≤ q := by
  rcases Nat.lt_or_ge i q with h1 | h1
  · omega
  · have : i = q := by omega
    subst this
    rw [h.2.2 h8] at hc
    cases hc
/-- the first good place from k on, within d -/
def tt_sc (good : Nat → Bool) : Nat → Nat → Nat
  | k, 0 => k
  | k, d + 1 => if good k = true then k else tt_sc good (k + 1) d
theorem tt_sc_1 {good : Nat → Bool} {k d : Nat} (h : good k = true) : tt_sc good k (d + 1) = k := if_pos h
theorem tt_sc_0 {good : Nat → Bool} {k d : Nat} (h : ¬ good k = true) : tt_sc good k (d + 1) = tt_sc good (k + 1) d := if_neg h
def tt_gd (u : tt_KU) (l : List tt_T3) (tl : Bool) (s p o : Int32) (x : Nat) : Bool := tt_mt u.2.2.1 u.2.2.2.1 u.2.2.2.2.1 u.2.2.2.2.2.1 (tt_gt l x) && (!tl || decide ((0 : Int32) ≤ tt_cu (tt_o u.2.2.1) 3 (tt_gt l x) (s, p, o)))
theorem tt_gd_1 {u : tt_KU} {l : List tt_T3} {tl : Bool} {s p o : Int32} {x : Nat} (h1 : tt_mt u.2.2.1 u.2.2.2.1 u.2.2.2.2.1 u.2.2.2.2.2.1 (tt_gt l x) = true) (h2 : tl = false) : tt_gd u l tl s p o x = true := by
  unfold tt_gd
  rw [h1, h2]
  rfl
theorem tt_gd_2 {u : tt_KU} {l : List tt_T3} {tl : Bool} {s p o : Int32} {x : Nat} (h1 : tt_mt u.2.2.1 u.2.2.2.1 u.2.2.2.2.1 u.2.2.2.2.2.1 (tt_gt l x) = true) (h2 : (0 : Int32) ≤ tt_cu (tt_o u.2.2.1) 3 (tt_gt l x) (s, p, o)) : tt_gd u l tl s p o x = true := by
  unfold tt_gd
  rw [h1, decide_eq_true h2]
  cases tl <;> rfl
theorem tt_gd_3 {u : tt_KU} {l : List tt_T3} {tl : Bool} {s p o : Int32} {x : Nat} (h1 : ¬ tt_mt u.2.2.1 u.2.2.2.1 u.2.2.2.2.1 u.2.2.2.2.2.1 (tt_gt l x) = true) : ¬ tt_gd u l tl s p o x = true := by
  unfold tt_gd
  intro h
  exact h1 (Bool.and_eq_true_iff.mp h).1
theorem tt_gd_4 {u : tt_KU} {l : List tt_T3} {tl : Bool} {s p o : Int32} {x : Nat} (h1 : tl = true) (h2 : ¬ (0 : Int32) ≤ tt_cu (tt_o u.2.2.1) 3 (tt_gt l x) (s, p, o)) : ¬ tt_gd u l tl s p o x = true := by
  unfold tt_gd
  intro h
  have h3 := (Bool.and_eq_true_iff.mp h).2
  rw [h1] at h3
  exact h2 (of_decide_eq_true (by simpa using h3))
def tt_k0 (u : tt_KU) (n : Nat) : Nat := if u.2.2.2.2.2.2 ≤ n then u.2.2.2.2.2.2 else n
theorem tt_k0_le (u : tt_KU) (n : Nat) : tt_k0 u n ≤ n := by
  unfold tt_k0
  split <;> omega
/-- where a cursor of the reference comes to -/
def tt_nx (u : tt_KU) (L : Nat → List tt_T3) (n : Nat) (tl : Bool) (s p o : Int32) : Nat := tt_sc (tt_gd u (L (tt_o u.2.2.1)) tl s p o) (tt_k0 u n) (n - tt_k0 u n)
theorem tt_pk_succ (x : Int32) : x - 1 + 1 = x := by
  rw [Int32.sub_eq_add_neg, Int32.add_assoc]
  exact Int32.add_zero x
theorem tt_pk_iff {a n : Nat} (ha : a < 2 ^ 30) (hn : n < 2 ^ 30) : nI n ≤ nI a - 1 ↔ n < a := by
  rcases Nat.eq_zero_or_pos a with e | e
  · subst e
    refine ⟨fun h => ?_, fun h => absurd h (by omega)⟩
    rw [tt_i_le, nI_toInt (by omega), show (nI 0 - 1).toInt = -1 by decide] at h
    omega
  · rw [tt_pk1 e, nI_leI (by omega) (by omega)]
    omega
theorem tt_pk_le {a n : Nat} (ha : a < 2 ^ 30) (hn : n < 2 ^ 30) (h : ¬ nI n ≤ nI a - 1) : a ≤ n := by
  rw [tt_pk_iff ha hn] at h
  omega
theorem tt_pk_gt {a n : Nat} (ha : a < 2 ^ 30) (hn : n < 2 ^ 30) (h : nI n ≤ nI a - 1) : ¬ a ≤ n := by
  rw [tt_pk_iff ha hn] at h
  omega
theorem tt_kp0 (K : Nat → tt_KU) (j : Nat) : tt_kp K (3 * j) = (K j).2.2.2.1 := by
  unfold tt_kp
  rw [show 3 * j % 3 = 0 by omega, show 3 * j / 3 = j by omega]
  rfl
theorem tt_kp1 (K : Nat → tt_KU) (j : Nat) : tt_kp K (3 * j + 1) = (K j).2.2.2.2.1 := by
  unfold tt_kp
  rw [show (3 * j + 1) % 3 = 1 by omega, show (3 * j + 1) / 3 = j by omega]
  rfl
theorem tt_kp2 (K : Nat → tt_KU) (j : Nat) : tt_kp K (3 * j + 2) = (K j).2.2.2.2.2.1 := by
  unfold tt_kp
  rw [show (3 * j + 2) % 3 = 2 by omega, show (3 * j + 2) / 3 = j by omega]
  rfl
/-- what is told in an order, as s, p, o -/
def tt_us (k : Nat) (a b c : Int32) : Int32 := if k = 0 then a else if k = 1 then c else b
def tt_up (k : Nat) (a b c : Int32) : Int32 := if k = 0 then b else if k = 1 then a else c
def tt_uo (k : Nat) (a b c : Int32) : Int32 := if k = 0 then c else if k = 1 then b else a
theorem tt_go_no {K : Nat → tt_KU} {c : Int32} (hno : ¬ tt_ok K c) {A : Prop} {B B' : Nat → Prop} (h : (¬ tt_ok K c ∧ A) ∨ ∃ j, j < 8 ∧ c = nI j ∧ (K j).1 = true ∧ B j) : (¬ tt_ok K c ∧ A) ∨ ∃ j, j < 8 ∧ c = nI j ∧ (K j).1 = true ∧ B' j := by
  rcases h with h | ⟨j, hj, e, h1, -⟩
  · exact Or.inl h
  · subst e
    exact absurd ((tt_ok_in hj).mpr h1) hno
theorem tt_go_at {K : Nat → tt_KU} {j : Nat} (hj : j < 8) (hop : (K j).1 = true) {A : Prop} {B B' : Nat → Prop} (h : (¬ tt_ok K (nI j) ∧ A) ∨ ∃ i, i < 8 ∧ nI j = nI i ∧ (K i).1 = true ∧ B i) (hB : B j → B' j := by exact fun h => h) : (¬ tt_ok K (nI j) ∧ A) ∨ ∃ i, i < 8 ∧ nI j = nI i ∧ (K i).1 = true ∧ B' i := by
  rcases h with ⟨h, -⟩ | ⟨i, hi, e, h1, h2⟩
  · exact absurd ((tt_ok_in hj).mpr hop) h
  · have e := (nI_eq (by omega) (by omega)).mp e
    subst e
    exact Or.inr ⟨j, hj, rfl, hop, hB h2⟩
/-- stale marks behind c changes -/
def tt_kc (K : Nat → tt_KU) (c : Nat) : Nat → tt_KU := if c = 0 then K else tt_ks K
theorem tt_ks_ks (K : Nat → tt_KU) : tt_ks (tt_ks K) = tt_ks K := by
  funext j
  unfold tt_ks tt_ki
  split <;> rfl
theorem tt_kc_s (K : Nat → tt_KU) (c : Nat) : tt_ks (tt_kc K c) = tt_kc K (c + 1) := by
  unfold tt_kc
  rw [if_neg (by omega : ¬ c + 1 = 0)]
  split
  · rfl
  · exact tt_ks_ks K
theorem tt_or2 {a : Prop} {r : Int32} {x y : Prop} (h : (¬ a ∧ r = 0 ∧ x) ∨ (a ∧ r = 1 ∧ y)) (ha : a) : a ∧ r = 1 ∧ y := by
  rcases h with h | h
  · exact absurd ha h.1
  · exact h
theorem tt_Q_congr {cI cZ : ClassId} {ad : Nat → Nat} {cx : Nat → va_E} {L L' : Nat → List tt_T3} {ch : Nat} {K : Nat → tt_KU} (h : tt_Q cI cZ ad cx (L 0).length L ch K) (e0 : L 0 = L' 0) (e : ∀ k, k < 3 → L k = L' k) : tt_Q cI cZ ad cx (L' 0).length L' ch K := by
  obtain ⟨mt, f, me, ms, h9, hf⟩ := h
  rw [← e0]
  exact ⟨mt, f, me, ms, h9, fun k hk => by rw [← e k hk]; exact hf k hk⟩
/-- of the first k + c places of L 0, the c that match are gone, the k others are there -/
def tt_RA (mk : Nat) (s p o : Int32) (L : Nat → List tt_T3) (k c : Nat) (Lc : Nat → List tt_T3) : Prop := ∃ Rm : List tt_T3, (∀ i, i < 3 → Lc i = (L i).filter (fun u => decide (u ∉ Rm))) ∧ (∀ u, u ∈ Rm ↔ ∃ x, x < k + c ∧ u = tt_gt (L 0) x ∧ tt_mt mk s p o u = true) ∧ (∀ x, k ≤ x → tt_gt (Lc 0) x = tt_gt (L 0) (x + c)) ∧ (Lc 0).length + c = (L 0).length ∧ c = tt_cn (tt_mt mk s p o) (L 0) (k + c) ∧ (Lc 0).Nodup
theorem tt_RA_0 {mk : Nat} {s p o : Int32} {L Lc : Nat → List tt_T3} {k c : Nat} (h : tt_RA mk s p o L k c Lc) (hk : k < (Lc 0).length) (hm : ¬ tt_mt mk s p o (tt_gt (Lc 0) k) = true) : tt_RA mk s p o L (k + 1) c Lc := by
  obtain ⟨Rm, h1, h2, h3, h4, h5, h6⟩ := h
  have hg := h3 k (Nat.le_refl _)
  rw [hg] at hm
  refine ⟨Rm, h1, fun u => ?_, fun x hx => h3 x (by omega), h4, ?_, h6⟩
  · rw [h2]
    constructor
    · rintro ⟨x, q1, q2, q3⟩
      exact ⟨x, by omega, q2, q3⟩
    · rintro ⟨x, q1, q2, q3⟩
      by_cases e : x = k + c
      · rw [q2, e] at q3
        exact absurd q3 hm
      · exact ⟨x, by omega, q2, q3⟩
  · rw [show k + 1 + c = (k + c) + 1 by omega, tt_cn_0 hm]
    exact h5
theorem tt_RA_1 {mk : Nat} {s p o : Int32} {L Lc : Nat → List tt_T3} {k c : Nat} (h : tt_RA mk s p o L k c Lc) (hk : k < (Lc 0).length) (hm : tt_mt mk s p o (tt_gt (Lc 0) k) = true) : tt_RA mk s p o L k (c + 1) (tt_Ld (tt_gt (Lc 0) k) Lc) ∧ (tt_Ld (tt_gt (Lc 0) k) Lc 0).length = (Lc 0).length - 1 := by
  obtain ⟨Rm, h1, h2, h3, h4, h5, h6⟩ := h
  have hg := h3 k (Nat.le_refl _)
  have hde := tt_del_eq h6 hk
  have hln : (tt_Ld (tt_gt (Lc 0) k) Lc 0).length = (Lc 0).length - 1 := tt_del_len h6 hk
  refine ⟨⟨tt_gt (Lc 0) k :: Rm, fun i hi => ?_, fun u => ?_, fun x hx => ?_, ?_, ?_, ?_⟩, hln⟩
  · show tt_del _ (Lc i) = _
    rw [h1 i hi]
    exact tt_del_filter _ Rm (L i)
  · rw [List.mem_cons, h2]
    constructor
    · rintro (e | ⟨x, q1, q2, q3⟩)
      · exact ⟨k + c, by omega, by rw [e, hg], by rw [e]; exact hm⟩
      · exact ⟨x, by omega, q2, q3⟩
    · rintro ⟨x, q1, q2, q3⟩
      by_cases e : x = k + c
      · exact Or.inl (by rw [q2, e, hg])
      · exact Or.inr ⟨x, by omega, q2, q3⟩
  · show tt_gt (tt_del _ (Lc 0)) x = _
    rw [← hde, tt_gt_del, if_neg (by omega), h3 (x + 1) (by omega)]
    congr 1
    omega
  · rw [hln]
    omega
  · rw [hg] at hm
    rw [show k + (c + 1) = (k + c) + 1 by omega, tt_cn_1 hm, ← h5]
  · exact List.Pairwise.sublist List.filter_sublist h6
theorem tt_RA_s (mk : Nat) (s p o : Int32) (L : Nat → List tt_T3) (hn : (L 0).Nodup) : tt_RA mk s p o L 0 0 L := by
  refine ⟨[], fun k _ => (List.filter_eq_self.mpr (fun u _ => by simp)).symm, fun u => ⟨fun h => absurd h List.not_mem_nil, ?_⟩, fun _ _ => rfl, rfl, rfl, hn⟩
  rintro ⟨x, h1, -⟩
  omega
theorem tt_RA_e {mk : Nat} {s p o : Int32} {L Lc : Nat → List tt_T3} {k c : Nat} (hm : mk < 8) (hI : tt_I L) (h : tt_RA mk s p o L k c Lc) (hk : k = (Lc 0).length) : c = tt_mn mk s p o L ∧ ∀ i, i < 3 → Lc i = tt_Lr mk s p o L i := by
  obtain ⟨Rm, h1, h2, h3, h4, h5, h6⟩ := h
  have hkc : k + c = (L 0).length := by omega
  refine ⟨?_, fun i hi => ?_⟩
  · rw [tt_mn_count hm s p o hI, ← tt_cn_count, ← hkc]
    exact h5
  · rw [h1 i hi]
    unfold tt_Lr
    apply List.filter_congr
    intro u hu
    have hu0 : u ∈ L 0 := (hI i hi).2.1.mem_iff.mp hu
    obtain ⟨j, hj, e⟩ := tt_mem_gt hu0
    cases hc : tt_mt mk s p o u
    · have hn : u ∉ Rm := by
        intro q
        obtain ⟨x, -, -, q3⟩ := (h2 u).mp q
        rw [hc] at q3
        cases q3
      simp [hn]
    · have hn : u ∈ Rm := (h2 u).mpr ⟨j, by omega, e.symm, hc⟩
      simp [hn]
set_option maxHeartbeats 4000000 in
set_option maxRecDepth 100000 in
theorem c_X4_removeAll (l : Launch) (D : va_G) (cI cZ cO cC : ClassId) (ad : Nat → Nat) (cx : Nat → va_E) (n : Nat) (L : Nat → List tt_T3) (ch : Nat) (K : Nat → tt_KU) (hQ : tt_Q cI cZ ad cx n L ch K) (x1 s1 p1 o1 : Int32) (hI : tt_I L) (hn : n = (L 0).length) : tt_Muti (S := (Nat → va_E)) l yX4_removeAll wsX4_removeAll ({ frames := 5, cells := 0, slots := 0, locals := 128 } : Room) D (tt_tys cI cZ cO cC) false (tt_blk 9 ad cx) [.ref (ad 0), .int x1, .int s1, .int p1, .int o1] (fun r u => (¬ (¬ x1 < 0 ∧ ¬ 8 ≤ x1) ∧ r = (-1) ∧ tt_Q cI cZ ad u n L ch K) ∨ (∃ mk, mk < 8 ∧ x1 = nI mk ∧ r = nI (tt_mn mk s1 p1 o1 L) ∧ tt_Q cI cZ ad u (tt_Lr mk s1 p1 o1 L 0).length (tt_Lr mk s1 p1 o1 L) (ch + tt_mn mk s1 p1 o1 L) (tt_kc K (tt_mn mk s1 p1 o1 L)))) (fun u => tt_blk 9 ad u) := by
  refine tt_muti (cc := cX4_removeAll) (maxL := 7) (rt := .int) (by decide) rfl (fun _ _ _ => rfl) (Nat.le_of_ble_eq_true rfl) ?_
  intro p e s m below meth c Q ls A hfix hK hP hD hA hE hl kr
  obtain ⟨hx, hb, hml, hown, hts⟩ := id hfix
  have hown : s.vm.findClass RX4 = some m.cls := hown
  have hfix : CallFix p m c cX4_removeAll 7 s ([.ref (ad 0), .int x1, .int s1, .int p1, .int o1] : List Value).toArray wsX4_removeAll RX4 := hfix
  have hl : lv_has ls 7 [(0, .ref (ad 0)), (1, .int x1), (2, .int s1), (3, .int p1), (4, .int o1)] := hl
  have hf35 := hts (.fieldLink RX4 35 "TripleTreesModel" "size" "I") (by decide +kernel)
  have hinX4 : ∀ w ∈ u_ws RX4 TX4 11, w ∈ wsX4_removeAll := by decide +kernel
  have hS : va_S A s.heap s.heap [] := va_S.rf
  obtain ⟨mt, f, me, ms, h9, hf⟩ := id hQ
  refine lv_iload_n hx hb dX4_removeAll_0 rfl (lv_at hl 1 rfl) ?_
  refine tt_calli (va_runS (As := [.int x1]) (rest := []) hfix (c_X4_isMask l D cI cZ cO cC x1) (va_cwS 1 hts gX4_removeAll_X4_isMask rfl rfl rfl (by decide +kernel) ⟨Nat.le_of_ble_eq_true rfl, Nat.le_of_ble_eq_true rfl⟩) (tt_preS hK tt_P0 tt_E.no) rfl rfl hl.1 rfl (lv_room (Nat.le_of_ble_eq_true rfl)) dX4_removeAll_1 ⟨Nat.zero_le _, Nat.zero_le _⟩) hP hS (fun H locs hP hS => ?_)
  refine lv_if_ne (tgt := 9) hx hb dX4_removeAll_4 (by decide) (fun hb4 => ?_) (fun hb4 => ?_)
  · obtain ⟨mk, hm, e1⟩ : ∃ j : Nat, j < 8 ∧ x1 = nI j := tt_ix (n := 8) (by omega) (tt_if1 hb4).1 (tt_if1 hb4).2
    subst e1
    have loop : ∀ (d k c0 : Nat) (cx : Nat → va_E) (Lc : Nat → List tt_T3), (d + k = (Lc 0).length) → (tt_RA mk s1 p1 o1 L k c0 Lc ∧ tt_I Lc) → (tt_Q cI cZ ad cx (Lc 0).length Lc (ch + c0) (tt_kc K c0)) → ∀ (H : Heap) (locs : List Loc) (ls : Array Slot), va_P D vwCl (tt_blk 9 ad cx) H → va_D A (tt_blk 9 ad cx) → va_S A s.heap H locs → lv_has ls 7 [(6, .int (nI k)), (5, .int (nI c0)), (0, .ref (ad 0)), (1, .int (nI mk)), (2, .int s1), (3, .int p1), (4, .int o1)] → W p l e ({ frames := 5, cells := 0, slots := 0, locals := 128 } : Room) s m ([.ref (ad 0), .int (nI mk), .int s1, .int p1, .int o1] : List Value).toArray below meth c H locs 0 0 Q (F0 m 15 ls []) := by
      intro d
      induction d with
      | zero =>
        intro k c0 cx Lc hd hRI hQ H locs ls hP hD hS hl
        obtain ⟨hRA, hIc⟩ := hRI
        have h700 := (hIc 0 (by omega)).2.2
        obtain ⟨mt, f, me, ms, h9, hf⟩ := id hQ
        refine lv_iload hx hb dX4_removeAll_15 (lv_at hl 0 rfl) ?_
        refine lv_aload_n hx hb dX4_removeAll_17 rfl (lv_at hl 2 rfl) ?_
        refine va_get (D := D) (ci := 4) (v := .int (nI ((Lc 0).length))) (C := RX4) (T := TX4) (N := 11) hx hb hts hinX4 hown hK hP 0 (tt_bg (by omega) h9.1) rfl 1 (by decide) hf35 (fun _ h9 => h9) rfl dX4_removeAll_18 ?_
        refine lv_icmp_ge (tgt := 80) hx hb dX4_removeAll_21 (by decide) (fun hb21 => ?_) (fun hb21 => ?_)
        · have hb21 : (Lc 0).length ≤ k := (nI_leI (a := (Lc 0).length) (b := k) (by omega) (by omega)).mp hb21
          refine lv_iload hx hb dX4_removeAll_80 (lv_at hl 1 rfl) ?_
          obtain ⟨hc, hLc⟩ := tt_RA_e hm hI hRA (by omega)
          subst hc
          exact kr _ _ _ _ _ cx (Or.inr ⟨mk, hm, rfl, rfl, tt_Q_congr hQ (hLc 0 (by omega)) hLc⟩) hP hS dX4_removeAll_82
        · have hb21 : ¬ (Lc 0).length ≤ k := fun hz9 => hb21 ((nI_leI (a := (Lc 0).length) (b := k) (by omega) (by omega)).mpr hz9)
          exact absurd hb21 (by omega)
      | succ d ih =>
        intro k c0 cx Lc hd hRI hQ H locs ls hP hD hS hl
        obtain ⟨hRA, hIc⟩ := hRI
        have h700 := (hIc 0 (by omega)).2.2
        obtain ⟨mt, f, me, ms, h9, hf⟩ := id hQ
        refine lv_iload hx hb dX4_removeAll_15 (lv_at hl 0 rfl) ?_
        refine lv_aload_n hx hb dX4_removeAll_17 rfl (lv_at hl 2 rfl) ?_
        refine va_get (D := D) (ci := 4) (v := .int (nI ((Lc 0).length))) (C := RX4) (T := TX4) (N := 11) hx hb hts hinX4 hown hK hP 0 (tt_bg (by omega) h9.1) rfl 1 (by decide) hf35 (fun _ h9 => h9) rfl dX4_removeAll_18 ?_
        refine lv_icmp_ge (tgt := 80) hx hb dX4_removeAll_21 (by decide) (fun hb21 => ?_) (fun hb21 => ?_)
        · have hb21 : (Lc 0).length ≤ k := (nI_leI (a := (Lc 0).length) (b := k) (by omega) (by omega)).mp hb21
          exact absurd hb21 (by omega)
        · have hb21 : ¬ (Lc 0).length ≤ k := fun hz9 => hb21 ((nI_leI (a := (Lc 0).length) (b := k) (by omega) (by omega)).mpr hz9)
          refine lv_aload_n hx hb dX4_removeAll_24 rfl (lv_at hl 2 rfl) ?_
          refine lv_iconst (v := 0) hx hb dX4_removeAll_25 (by decide) ?_
          refine lv_iload hx hb dX4_removeAll_26 (lv_at hl 0 rfl) ?_
          refine lv_iload_n hx hb dX4_removeAll_28 rfl (lv_at hl 3 rfl) ?_
          refine lv_iload_n hx hb dX4_removeAll_29 rfl (lv_at hl 4 rfl) ?_
          refine lv_iload_n hx hb dX4_removeAll_30 rfl (lv_at hl 5 rfl) ?_
          refine lv_iload hx hb dX4_removeAll_31 (lv_at hl 6 rfl) ?_
          have hPc := hP
          refine tt_calli (va_runV (As := [.int 0, .int (nI k), .int (nI mk), .int s1, .int p1, .int o1]) (rest := []) hfix (c_X4_matches l D cI cZ cO cC ad cx (Lc 0).length Lc (ch + c0) (tt_kc K c0) hQ 0 k mk s1 p1 o1 (by omega) (by omega) h700 hm) (cwV 6 hts gX4_removeAll_X4_matches rfl rfl rfl (by decide +kernel) ⟨Nat.le_of_ble_eq_true rfl, Nat.le_of_ble_eq_true rfl⟩) (tt_preV (q0 := 0) (ci := 4) hK hPc tt_E.no (tt_bg (by omega) h9.1) rfl) rfl rfl hl.1 rfl (lv_room (Nat.le_of_ble_eq_true rfl)) dX4_removeAll_33 ⟨Nat.zero_le _, Nat.zero_le _⟩) hP hS (fun H locs hP hS => ?_)
          refine lv_if_eq (tgt := 74) hx hb dX4_removeAll_36 (by decide) (fun hb36 => ?_) (fun hb36 => ?_)
          · refine lv_iinc (v := nI (k + 1)) (lv' := [(6, .int (nI (k + 1))), (5, .int (nI c0)), (0, .ref (ad 0)), (1, .int (nI mk)), (2, .int s1), (3, .int p1), (4, .int o1)]) hx hb dX4_removeAll_74 hl (k := 0) rfl (nI_add k 1) (by decide) rfl (fun ls hl => ?_)
            refine lv_goto (tgt := 15) hx hb dX4_removeAll_77 (by decide) ?_
            exact ih (k + 1) c0 cx Lc (by omega) ⟨tt_RA_0 hRA (by omega) (tt_if0 hb36), hIc⟩ hQ H locs ls hP hD hS (lv_sub hl [0, 1, 2, 3, 4, 5, 6] rfl)
          · refine lv_aload_n hx hb dX4_removeAll_39 rfl (lv_at hl 2 rfl) ?_
            refine lv_aload_n hx hb dX4_removeAll_40 rfl (lv_at hl 2 rfl) ?_
            refine lv_iconst (v := 0) hx hb dX4_removeAll_41 (by decide) ?_
            refine lv_iload hx hb dX4_removeAll_42 (lv_at hl 0 rfl) ?_
            refine lv_iconst (v := 0) hx hb dX4_removeAll_44 (by decide) ?_
            have hPc := hP
            refine tt_calli (va_runV (As := [.int 0, .int (nI k), .int 0]) (rest := [.ref (ad 0)]) hfix (c_X4_cell l D cI cZ cO cC ad cx (Lc 0).length Lc (ch + c0) (tt_kc K c0) hQ 0 k 0 (by omega) (by omega) (by omega) h700) (cwV 3 hts gX4_removeAll_X4_cell rfl rfl rfl (by decide +kernel) ⟨Nat.le_of_ble_eq_true rfl, Nat.le_of_ble_eq_true rfl⟩) (tt_preV (q0 := 0) (ci := 4) hK hPc tt_E.no (tt_bg (by omega) h9.1) rfl) rfl rfl hl.1 rfl (lv_room (Nat.le_of_ble_eq_true rfl)) dX4_removeAll_45 ⟨Nat.zero_le _, Nat.zero_le _⟩) hP hS (fun H locs hP hS => ?_)
            refine lv_aload_n hx hb dX4_removeAll_48 rfl (lv_at hl 2 rfl) ?_
            refine lv_iconst (v := 0) hx hb dX4_removeAll_49 (by decide) ?_
            refine lv_iload hx hb dX4_removeAll_50 (lv_at hl 0 rfl) ?_
            refine lv_iconst (v := 1) hx hb dX4_removeAll_52 (by decide) ?_
            have hPc := hP
            refine tt_calli (va_runV (As := [.int 0, .int (nI k), .int 1]) (rest := [.int (tt_pp 0 (tt_gt (Lc 0) k)), .ref (ad 0)]) hfix (c_X4_cell l D cI cZ cO cC ad cx (Lc 0).length Lc (ch + c0) (tt_kc K c0) hQ 0 k 1 (by omega) (by omega) (by omega) h700) (cwV 3 hts gX4_removeAll_X4_cell rfl rfl rfl (by decide +kernel) ⟨Nat.le_of_ble_eq_true rfl, Nat.le_of_ble_eq_true rfl⟩) (tt_preV (q0 := 0) (ci := 4) hK hPc tt_E.no (tt_bg (by omega) h9.1) rfl) rfl rfl hl.1 rfl (lv_room (Nat.le_of_ble_eq_true rfl)) dX4_removeAll_53 ⟨Nat.zero_le _, Nat.zero_le _⟩) hP hS (fun H locs hP hS => ?_)
            refine lv_aload_n hx hb dX4_removeAll_56 rfl (lv_at hl 2 rfl) ?_
            refine lv_iconst (v := 0) hx hb dX4_removeAll_57 (by decide) ?_
            refine lv_iload hx hb dX4_removeAll_58 (lv_at hl 0 rfl) ?_
            refine lv_iconst (v := 2) hx hb dX4_removeAll_60 (by decide) ?_
            have hPc := hP
            refine tt_calli (va_runV (As := [.int 0, .int (nI k), .int 2]) (rest := [.int (tt_pp 1 (tt_gt (Lc 0) k)), .int (tt_pp 0 (tt_gt (Lc 0) k)), .ref (ad 0)]) hfix (c_X4_cell l D cI cZ cO cC ad cx (Lc 0).length Lc (ch + c0) (tt_kc K c0) hQ 0 k 2 (by omega) (by omega) (by omega) h700) (cwV 3 hts gX4_removeAll_X4_cell rfl rfl rfl (by decide +kernel) ⟨Nat.le_of_ble_eq_true rfl, Nat.le_of_ble_eq_true rfl⟩) (tt_preV (q0 := 0) (ci := 4) hK hPc tt_E.no (tt_bg (by omega) h9.1) rfl) rfl rfl hl.1 rfl (lv_room (Nat.le_of_ble_eq_true rfl)) dX4_removeAll_61 ⟨Nat.zero_le _, Nat.zero_le _⟩) hP hS (fun H locs hP hS => ?_)
            refine tt_fulli (va_runV (As := [.int (tt_pp 0 (tt_gt (Lc 0) k)), .int (tt_pp 1 (tt_gt (Lc 0) k)), .int (tt_pp 2 (tt_gt (Lc 0) k))]) (rest := []) hfix (c_X4_remove l D cI cZ cO cC ad cx (Lc 0).length Lc (ch + c0) (tt_kc K c0) hQ (tt_pp 0 (tt_gt (Lc 0) k)) (tt_pp 1 (tt_gt (Lc 0) k)) (tt_pp 2 (tt_gt (Lc 0) k)) hIc rfl _) (cwV 3 hts gX4_removeAll_X4_remove rfl rfl rfl (by decide +kernel) ⟨Nat.le_of_ble_eq_true rfl, Nat.le_of_ble_eq_true rfl⟩) (tt_mpreV (q0 := 0) (ci := 4) hK hP hD tt_E.no (tt_bg (by omega) h9.1) rfl) rfl rfl hl.1 rfl (lv_room (Nat.le_of_ble_eq_true rfl)) dX4_removeAll_64 ⟨Nat.zero_le _, Nat.zero_le _⟩) hD hS hA (fun r1 cx H locs hu hP hD hS => ?_)
            obtain ⟨-, -, hQ⟩ := tt_or2 hu ((tt_mem7 _ _ _ hIc).mpr (tt_gt_mem (by omega)))
            refine lv_pop hx hb dX4_removeAll_67 rfl ?_
            refine lv_iinc (v := nI (c0 + 1)) (lv' := [(5, .int (nI (c0 + 1))), (6, .int (nI k)), (0, .ref (ad 0)), (1, .int (nI mk)), (2, .int s1), (3, .int p1), (4, .int o1)]) hx hb dX4_removeAll_68 hl (k := 1) rfl (nI_add c0 1) (by decide) rfl (fun ls hl => ?_)
            refine lv_goto (tgt := 15) hx hb dX4_removeAll_71 (by decide) ?_
            obtain ⟨hRA1, hln⟩ := tt_RA_1 hRA (by omega) (tt_if1 hb36)
            have hQ : tt_Q cI cZ ad cx (tt_Ld (tt_gt (Lc 0) k) Lc 0).length (tt_Ld (tt_gt (Lc 0) k) Lc) (ch + (c0 + 1)) (tt_kc K (c0 + 1)) := by rw [hln, ← tt_kc_s]; exact hQ
            exact ih k (c0 + 1) cx _ (by rw [hln]; omega) ⟨hRA1, tt_I_filter hIc _⟩ hQ H locs ls hP hD hS (lv_sub hl [1, 0, 2, 3, 4, 5, 6] rfl)
    refine lv_iconst (v := 0) hx hb dX4_removeAll_9 (by decide) ?_
    refine lv_istore (lv' := [(5, .int 0), (0, .ref (ad 0)), (1, .int (nI mk)), (2, .int s1), (3, .int p1), (4, .int o1)]) hx hb dX4_removeAll_10 hl (by decide) rfl (fun ls hl => ?_)
    refine lv_iconst (v := 0) hx hb dX4_removeAll_12 (by decide) ?_
    refine lv_istore (lv' := [(6, .int 0), (5, .int 0), (0, .ref (ad 0)), (1, .int (nI mk)), (2, .int s1), (3, .int p1), (4, .int o1)]) hx hb dX4_removeAll_13 hl (by decide) rfl (fun ls hl => ?_)
    exact loop (L 0).length 0 0 cx L (by omega) ⟨tt_RA_s mk s1 p1 o1 L (tt_I_nd hI (by omega)), hI⟩ (by rw [← hn]; exact hQ) _ _ ls hP hD hS (lv_sub hl [0, 1, 2, 3, 4, 5, 6] rfl)
  · refine lv_iconst (v := (-1)) hx hb dX4_removeAll_7 (by decide) ?_
    exact kr _ _ _ _ _ cx (Or.inl ⟨tt_if0 hb4, rfl, hQ⟩) hP hS dX4_removeAll_8
set_option maxHeartbeats 4000000 in
set_option maxRecDepth 100000 in
theorem c_X4_open (l : Launch) (D : va_G) (cI cZ cO cC : ClassId) (ad : Nat → Nat) (cx : Nat → va_E) (n : Nat) (L : Nat → List tt_T3) (ch : Nat) (K : Nat → tt_KU) (hQ : tt_Q cI cZ ad cx n L ch K) (x1 s1 p1 o1 : Int32) (q : Nat) (hq : tt_fk K q) : tt_Muti (S := (Nat → va_E)) l yX4_open wsX4_open ({ frames := 1, cells := 0, slots := 0, locals := 20 } : Room) D (tt_tys cI cZ cO cC) false (tt_blk 9 ad cx) [.ref (ad 0), .int x1, .int s1, .int p1, .int o1] (fun r u => (¬ (¬ x1 < 0 ∧ ¬ 8 ≤ x1) ∧ r = (-1) ∧ tt_Q cI cZ ad u n L ch K) ∨ (∃ mk, mk < 8 ∧ x1 = nI mk ∧ ((q = 8 ∧ r = (-2) ∧ tt_Q cI cZ ad u n L ch K) ∨ (q < 8 ∧ r = nI q ∧ tt_Q cI cZ ad u n L ch (va_up K q (true, false, mk, s1, p1, o1, 0)))))) (fun u => tt_blk 9 ad u) := by
  refine tt_muti (cc := cX4_open) (maxL := 6) (rt := .int) (by decide) rfl (fun _ _ _ => rfl) (Nat.le_of_ble_eq_true rfl) ?_
  intro p e s m below meth c Q ls A hfix hK hP hD hA hE hl kr
  obtain ⟨hx, hb, hml, hown, hts⟩ := id hfix
  have hown : s.vm.findClass RX4 = some m.cls := hown
  have hfix : CallFix p m c cX4_open 6 s ([.ref (ad 0), .int x1, .int s1, .int p1, .int o1] : List Value).toArray wsX4_open RX4 := hfix
  have hl : lv_has ls 6 [(0, .ref (ad 0)), (1, .int x1), (2, .int s1), (3, .int p1), (4, .int o1)] := hl
  have hf13 := hts (.fieldLink RX4 13 "TripleTreesModel" "isOpen" "[Z") (by decide +kernel)
  have hf17 := hts (.fieldLink RX4 17 "TripleTreesModel" "isStale" "[Z") (by decide +kernel)
  have hf20 := hts (.fieldLink RX4 20 "TripleTreesModel" "masks" "[I") (by decide +kernel)
  have hf23 := hts (.fieldLink RX4 23 "TripleTreesModel" "patterns" "[I") (by decide +kernel)
  have hf26 := hts (.fieldLink RX4 26 "TripleTreesModel" "places" "[I") (by decide +kernel)
  have hinX4 : ∀ w ∈ u_ws RX4 TX4 11, w ∈ wsX4_open := by decide +kernel
  have hS : va_S A s.heap s.heap [] := va_S.rf
  obtain ⟨mt, f, me, ms, h9, hf⟩ := id hQ
  refine lv_iload_n hx hb dX4_open_0 rfl (lv_at hl 1 rfl) ?_
  refine tt_calli (va_runS (As := [.int x1]) (rest := []) hfix (c_X4_isMask l D cI cZ cO cC x1) (va_cwS 1 hts gX4_open_X4_isMask rfl rfl rfl (by decide +kernel) ⟨Nat.le_of_ble_eq_true rfl, Nat.le_of_ble_eq_true rfl⟩) (tt_preS hK tt_P0 tt_E.no) rfl rfl hl.1 rfl (lv_room (Nat.le_of_ble_eq_true rfl)) dX4_open_1 ⟨Nat.zero_le _, Nat.zero_le _⟩) hP hS (fun H locs hP hS => ?_)
  refine lv_if_ne (tgt := 9) hx hb dX4_open_4 (by decide) (fun hb4 => ?_) (fun hb4 => ?_)
  · obtain ⟨mk, hm, e1⟩ : ∃ j : Nat, j < 8 ∧ x1 = nI j := tt_ix (n := 8) (by omega) (tt_if1 hb4).1 (tt_if1 hb4).2
    subst e1
    have loop : ∀ (d i : Nat), (d + i = 8) → (i ≤ q) → ∀ (H : Heap) (locs : List Loc) (ls : Array Slot), va_P D vwCl (tt_blk 9 ad cx) H → va_D A (tt_blk 9 ad cx) → va_S A s.heap H locs → lv_has ls 6 [(5, .int (nI i)), (0, .ref (ad 0)), (1, .int (nI mk)), (2, .int s1), (3, .int p1), (4, .int o1)] → W p l e ({ frames := 1, cells := 0, slots := 0, locals := 20 } : Room) s m ([.ref (ad 0), .int (nI mk), .int s1, .int p1, .int o1] : List Value).toArray below meth c H locs 0 0 Q (F0 m 12 ls []) := by
      intro d
      induction d with
      | zero =>
        intro i hd hi H locs ls hP hD hS hl
        refine lv_iload hx hb dX4_open_12 (lv_at hl 0 rfl) ?_
        refine lv_bipush (v := 8) hx hb dX4_open_14 (by decide) ?_
        refine lv_icmp_ge (tgt := 35) hx hb dX4_open_16 (by decide) (fun hb16 => ?_) (fun hb16 => ?_)
        · have hb16 : 8 ≤ i := (nI_leI (a := 8) (b := i) (by omega) (by omega)).mp hb16
          refine lv_iload hx hb dX4_open_35 (lv_at hl 0 rfl) ?_
          refine lv_bipush (v := 8) hx hb dX4_open_37 (by decide) ?_
          refine lv_icmp_ne (tgt := 45) hx hb dX4_open_39 (by decide) (fun hb39 => ?_) (fun hb39 => ?_)
          · have hb39 : ¬ i = 8 := fun hz9 => hb39 ((nI_eq (a := i) (b := 8) (by omega) (by omega)).mpr hz9)
            exact absurd hb39 (by omega)
          · have hb39 : i = 8 := (nI_eq (a := i) (b := 8) (by omega) (by omega)).mp hb39
            refine lv_bipush (v := (-2)) hx hb dX4_open_42 (by decide) ?_
            exact kr _ _ _ _ _ cx (Or.inr ⟨mk, hm, rfl, Or.inl ⟨by have := hq.1; omega, rfl, hQ⟩⟩) hP hS dX4_open_44
        · have hb16 : ¬ 8 ≤ i := fun hz9 => hb16 ((nI_leI (a := 8) (b := i) (by omega) (by omega)).mpr hz9)
          exact absurd hb16 (by omega)
      | succ d ih =>
        intro i hd hi H locs ls hP hD hS hl
        refine lv_iload hx hb dX4_open_12 (lv_at hl 0 rfl) ?_
        refine lv_bipush (v := 8) hx hb dX4_open_14 (by decide) ?_
        refine lv_icmp_ge (tgt := 35) hx hb dX4_open_16 (by decide) (fun hb16 => ?_) (fun hb16 => ?_)
        · have hb16 : 8 ≤ i := (nI_leI (a := 8) (b := i) (by omega) (by omega)).mp hb16
          exact absurd hb16 (by omega)
        · have hb16 : ¬ 8 ≤ i := fun hz9 => hb16 ((nI_leI (a := 8) (b := i) (by omega) (by omega)).mpr hz9)
          refine lv_aload_n hx hb dX4_open_19 rfl (lv_at hl 1 rfl) ?_
          refine va_get (D := D) (ci := 4) (v := .ref (ad 2)) (C := RX4) (T := TX4) (N := 11) hx hb hts hinX4 hown hK hP 0 (tt_bg (by omega) h9.1) rfl 3 (by decide) hf13 (fun _ h9 => h9) rfl dX4_open_20 ?_
          refine lv_iload hx hb dX4_open_23 (lv_at hl 0 rfl) ?_
          refine va_zald hx hb hK hP 2 1 (tt_bg (by omega) h9.2.2.1) rfl (vp_in_nI (n := i) (by omega) (by omega)) dX4_open_25 ?_
          refine tt_rei (show ((fun j => tt_b (K j).1) (nI i).toNatClampNeg) = tt_b (K i).1 from congrArg (fun j => tt_b (K j).1) (nI_clamp (n := i) (by omega))) ?_
          refine lv_if_eq (tgt := 35) hx hb dX4_open_26 (by decide) (fun hb26 => ?_) (fun hb26 => ?_)
          · refine lv_iload hx hb dX4_open_35 (lv_at hl 0 rfl) ?_
            refine lv_bipush (v := 8) hx hb dX4_open_37 (by decide) ?_
            refine lv_icmp_ne (tgt := 45) hx hb dX4_open_39 (by decide) (fun hb39 => ?_) (fun hb39 => ?_)
            · have hb39 : ¬ i = 8 := fun hz9 => hb39 ((nI_eq (a := i) (b := 8) (by omega) (by omega)).mpr hz9)
              refine lv_aload_n hx hb dX4_open_45 rfl (lv_at hl 1 rfl) ?_
              refine va_get (D := D) (ci := 4) (v := .ref (ad 2)) (C := RX4) (T := TX4) (N := 11) hx hb hts hinX4 hown hK hP 0 (tt_bg (by omega) h9.1) rfl 3 (by decide) hf13 (fun _ h9 => h9) rfl dX4_open_46 ?_
              refine lv_iload hx hb dX4_open_49 (lv_at hl 0 rfl) ?_
              refine lv_iconst (v := 1) hx hb dX4_open_51 (by decide) ?_
              refine va_zast hx hb hK hP hD hS 2 1 (tt_bg (by omega) h9.2.2.1) rfl (vp_in_nI (n := i) (by omega) (by omega)) dX4_open_52 (fun H locs hP hD hS => ?_)
              rw [nI_clamp (n := i) (by omega)] at hP hD
              obtain ⟨cx, h9, hP, hD⟩ : ∃ zg : Nat → va_E, tt_C9 zg (.inr (4, [.ref (ad 1), .int (nI n), .int (nI ch), .ref (ad 2), .ref (ad 3), .ref (ad 4), .ref (ad 5), .ref (ad 6), .ref (ad 7), .ref (ad 8), .int mt])) (.inl (cI, 6303, .inl f)) (.inl (cZ, 8, .inl (upd (fun j => tt_b (K j).1) i 1))) (.inl (cZ, 8, .inl (fun j => tt_b (K j).2.1))) (.inl (cI, 8, .inl (fun j => nI (K j).2.2.1))) (.inl (cI, 24, .inl (tt_kp K))) (.inl (cI, 8, .inl (fun j => nI (K j).2.2.2.2.2.2 - 1))) (.inl (cI, 1402, .inl me)) (.inl (cI, 1402, .inl ms)) ∧ va_P D vwCl (tt_blk 9 ad zg) H ∧ va_D A (tt_blk 9 ad zg) := ⟨_, h9.set2, by rw [← tt_bset]; exact hP, by rw [← tt_bset]; exact hD⟩
              refine lv_aload_n hx hb dX4_open_53 rfl (lv_at hl 1 rfl) ?_
              refine va_get (D := D) (ci := 4) (v := .ref (ad 3)) (C := RX4) (T := TX4) (N := 11) hx hb hts hinX4 hown hK hP 0 (tt_bg (by omega) h9.1) rfl 4 (by decide) hf17 (fun _ h9 => h9) rfl dX4_open_54 ?_
              refine lv_iload hx hb dX4_open_57 (lv_at hl 0 rfl) ?_
              refine lv_iconst (v := 0) hx hb dX4_open_59 (by decide) ?_
              refine va_zast hx hb hK hP hD hS 3 1 (tt_bg (by omega) h9.2.2.2.1) rfl (vp_in_nI (n := i) (by omega) (by omega)) dX4_open_60 (fun H locs hP hD hS => ?_)
              rw [nI_clamp (n := i) (by omega)] at hP hD
              obtain ⟨cx, h9, hP, hD⟩ : ∃ zg : Nat → va_E, tt_C9 zg (.inr (4, [.ref (ad 1), .int (nI n), .int (nI ch), .ref (ad 2), .ref (ad 3), .ref (ad 4), .ref (ad 5), .ref (ad 6), .ref (ad 7), .ref (ad 8), .int mt])) (.inl (cI, 6303, .inl f)) (.inl (cZ, 8, .inl (upd (fun j => tt_b (K j).1) i 1))) (.inl (cZ, 8, .inl (upd (fun j => tt_b (K j).2.1) i 0))) (.inl (cI, 8, .inl (fun j => nI (K j).2.2.1))) (.inl (cI, 24, .inl (tt_kp K))) (.inl (cI, 8, .inl (fun j => nI (K j).2.2.2.2.2.2 - 1))) (.inl (cI, 1402, .inl me)) (.inl (cI, 1402, .inl ms)) ∧ va_P D vwCl (tt_blk 9 ad zg) H ∧ va_D A (tt_blk 9 ad zg) := ⟨_, h9.set3, by rw [← tt_bset]; exact hP, by rw [← tt_bset]; exact hD⟩
              refine lv_aload_n hx hb dX4_open_61 rfl (lv_at hl 1 rfl) ?_
              refine va_get (D := D) (ci := 4) (v := .ref (ad 4)) (C := RX4) (T := TX4) (N := 11) hx hb hts hinX4 hown hK hP 0 (tt_bg (by omega) h9.1) rfl 5 (by decide) hf20 (fun _ h9 => h9) rfl dX4_open_62 ?_
              refine lv_iload hx hb dX4_open_65 (lv_at hl 0 rfl) ?_
              refine lv_iload_n hx hb dX4_open_67 rfl (lv_at hl 2 rfl) ?_
              refine va_iast hx hb hK hP hD hS 4 0 (tt_bg (by omega) h9.2.2.2.2.1) rfl (vp_in_nI (n := i) (by omega) (by omega)) dX4_open_68 (fun H locs hP hD hS => ?_)
              rw [nI_clamp (n := i) (by omega)] at hP hD
              obtain ⟨cx, h9, hP, hD⟩ : ∃ zg : Nat → va_E, tt_C9 zg (.inr (4, [.ref (ad 1), .int (nI n), .int (nI ch), .ref (ad 2), .ref (ad 3), .ref (ad 4), .ref (ad 5), .ref (ad 6), .ref (ad 7), .ref (ad 8), .int mt])) (.inl (cI, 6303, .inl f)) (.inl (cZ, 8, .inl (upd (fun j => tt_b (K j).1) i 1))) (.inl (cZ, 8, .inl (upd (fun j => tt_b (K j).2.1) i 0))) (.inl (cI, 8, .inl (upd (fun j => nI (K j).2.2.1) i (nI mk)))) (.inl (cI, 24, .inl (tt_kp K))) (.inl (cI, 8, .inl (fun j => nI (K j).2.2.2.2.2.2 - 1))) (.inl (cI, 1402, .inl me)) (.inl (cI, 1402, .inl ms)) ∧ va_P D vwCl (tt_blk 9 ad zg) H ∧ va_D A (tt_blk 9 ad zg) := ⟨_, h9.set4, by rw [← tt_bset]; exact hP, by rw [← tt_bset]; exact hD⟩
              refine lv_aload_n hx hb dX4_open_69 rfl (lv_at hl 1 rfl) ?_
              refine va_get (D := D) (ci := 4) (v := .ref (ad 5)) (C := RX4) (T := TX4) (N := 11) hx hb hts hinX4 hown hK hP 0 (tt_bg (by omega) h9.1) rfl 6 (by decide) hf23 (fun _ h9 => h9) rfl dX4_open_70 ?_
              refine lv_iconst (v := 3) hx hb dX4_open_73 (by decide) ?_
              refine lv_iload hx hb dX4_open_74 (lv_at hl 0 rfl) ?_
              refine lv_imul hx hb dX4_open_76 ?_
              refine tt_rei (show (3 * (nI i)) = nI (3 * i) from pk_mul 3 i) ?_
              refine lv_iload_n hx hb dX4_open_77 rfl (lv_at hl 3 rfl) ?_
              refine va_iast hx hb hK hP hD hS 5 0 (tt_bg (by omega) h9.2.2.2.2.2.1) rfl (vp_in_nI (n := 3 * i) (by omega) (by omega)) dX4_open_78 (fun H locs hP hD hS => ?_)
              rw [nI_clamp (n := 3 * i) (by omega)] at hP hD
              obtain ⟨cx, h9, hP, hD⟩ : ∃ zg : Nat → va_E, tt_C9 zg (.inr (4, [.ref (ad 1), .int (nI n), .int (nI ch), .ref (ad 2), .ref (ad 3), .ref (ad 4), .ref (ad 5), .ref (ad 6), .ref (ad 7), .ref (ad 8), .int mt])) (.inl (cI, 6303, .inl f)) (.inl (cZ, 8, .inl (upd (fun j => tt_b (K j).1) i 1))) (.inl (cZ, 8, .inl (upd (fun j => tt_b (K j).2.1) i 0))) (.inl (cI, 8, .inl (upd (fun j => nI (K j).2.2.1) i (nI mk)))) (.inl (cI, 24, .inl (upd (tt_kp K) (3 * i) s1))) (.inl (cI, 8, .inl (fun j => nI (K j).2.2.2.2.2.2 - 1))) (.inl (cI, 1402, .inl me)) (.inl (cI, 1402, .inl ms)) ∧ va_P D vwCl (tt_blk 9 ad zg) H ∧ va_D A (tt_blk 9 ad zg) := ⟨_, h9.set5, by rw [← tt_bset]; exact hP, by rw [← tt_bset]; exact hD⟩
              refine lv_aload_n hx hb dX4_open_79 rfl (lv_at hl 1 rfl) ?_
              refine va_get (D := D) (ci := 4) (v := .ref (ad 5)) (C := RX4) (T := TX4) (N := 11) hx hb hts hinX4 hown hK hP 0 (tt_bg (by omega) h9.1) rfl 6 (by decide) hf23 (fun _ h9 => h9) rfl dX4_open_80 ?_
              refine lv_iconst (v := 3) hx hb dX4_open_83 (by decide) ?_
              refine lv_iload hx hb dX4_open_84 (lv_at hl 0 rfl) ?_
              refine lv_imul hx hb dX4_open_86 ?_
              refine tt_rei (show (3 * (nI i)) = nI (3 * i) from pk_mul 3 i) ?_
              refine lv_iconst (v := 1) hx hb dX4_open_87 (by decide) ?_
              refine lv_iadd hx hb dX4_open_88 ?_
              refine tt_rei (show ((nI (3 * i)) + 1) = nI (3 * i + 1) from nI_add (3 * i) 1) ?_
              refine lv_iload_n hx hb dX4_open_89 rfl (lv_at hl 4 rfl) ?_
              refine va_iast hx hb hK hP hD hS 5 0 (tt_bg (by omega) h9.2.2.2.2.2.1) rfl (vp_in_nI (n := 3 * i + 1) (by omega) (by omega)) dX4_open_90 (fun H locs hP hD hS => ?_)
              rw [nI_clamp (n := 3 * i + 1) (by omega)] at hP hD
              obtain ⟨cx, h9, hP, hD⟩ : ∃ zg : Nat → va_E, tt_C9 zg (.inr (4, [.ref (ad 1), .int (nI n), .int (nI ch), .ref (ad 2), .ref (ad 3), .ref (ad 4), .ref (ad 5), .ref (ad 6), .ref (ad 7), .ref (ad 8), .int mt])) (.inl (cI, 6303, .inl f)) (.inl (cZ, 8, .inl (upd (fun j => tt_b (K j).1) i 1))) (.inl (cZ, 8, .inl (upd (fun j => tt_b (K j).2.1) i 0))) (.inl (cI, 8, .inl (upd (fun j => nI (K j).2.2.1) i (nI mk)))) (.inl (cI, 24, .inl (upd (upd (tt_kp K) (3 * i) s1) (3 * i + 1) p1))) (.inl (cI, 8, .inl (fun j => nI (K j).2.2.2.2.2.2 - 1))) (.inl (cI, 1402, .inl me)) (.inl (cI, 1402, .inl ms)) ∧ va_P D vwCl (tt_blk 9 ad zg) H ∧ va_D A (tt_blk 9 ad zg) := ⟨_, h9.set5, by rw [← tt_bset]; exact hP, by rw [← tt_bset]; exact hD⟩
              refine lv_aload_n hx hb dX4_open_91 rfl (lv_at hl 1 rfl) ?_
              refine va_get (D := D) (ci := 4) (v := .ref (ad 5)) (C := RX4) (T := TX4) (N := 11) hx hb hts hinX4 hown hK hP 0 (tt_bg (by omega) h9.1) rfl 6 (by decide) hf23 (fun _ h9 => h9) rfl dX4_open_92 ?_
              refine lv_iconst (v := 3) hx hb dX4_open_95 (by decide) ?_
              refine lv_iload hx hb dX4_open_96 (lv_at hl 0 rfl) ?_
              refine lv_imul hx hb dX4_open_98 ?_
              refine tt_rei (show (3 * (nI i)) = nI (3 * i) from pk_mul 3 i) ?_
              refine lv_iconst (v := 2) hx hb dX4_open_99 (by decide) ?_
              refine lv_iadd hx hb dX4_open_100 ?_
              refine tt_rei (show ((nI (3 * i)) + 2) = nI (3 * i + 2) from nI_add (3 * i) 2) ?_
              refine lv_iload hx hb dX4_open_101 (lv_at hl 5 rfl) ?_
              refine va_iast hx hb hK hP hD hS 5 0 (tt_bg (by omega) h9.2.2.2.2.2.1) rfl (vp_in_nI (n := 3 * i + 2) (by omega) (by omega)) dX4_open_103 (fun H locs hP hD hS => ?_)
              rw [nI_clamp (n := 3 * i + 2) (by omega)] at hP hD
              obtain ⟨cx, h9, hP, hD⟩ : ∃ zg : Nat → va_E, tt_C9 zg (.inr (4, [.ref (ad 1), .int (nI n), .int (nI ch), .ref (ad 2), .ref (ad 3), .ref (ad 4), .ref (ad 5), .ref (ad 6), .ref (ad 7), .ref (ad 8), .int mt])) (.inl (cI, 6303, .inl f)) (.inl (cZ, 8, .inl (upd (fun j => tt_b (K j).1) i 1))) (.inl (cZ, 8, .inl (upd (fun j => tt_b (K j).2.1) i 0))) (.inl (cI, 8, .inl (upd (fun j => nI (K j).2.2.1) i (nI mk)))) (.inl (cI, 24, .inl (upd (upd (upd (tt_kp K) (3 * i) s1) (3 * i + 1) p1) (3 * i + 2) o1))) (.inl (cI, 8, .inl (fun j => nI (K j).2.2.2.2.2.2 - 1))) (.inl (cI, 1402, .inl me)) (.inl (cI, 1402, .inl ms)) ∧ va_P D vwCl (tt_blk 9 ad zg) H ∧ va_D A (tt_blk 9 ad zg) := ⟨_, h9.set5, by rw [← tt_bset]; exact hP, by rw [← tt_bset]; exact hD⟩
              refine lv_aload_n hx hb dX4_open_104 rfl (lv_at hl 1 rfl) ?_
              refine va_get (D := D) (ci := 4) (v := .ref (ad 6)) (C := RX4) (T := TX4) (N := 11) hx hb hts hinX4 hown hK hP 0 (tt_bg (by omega) h9.1) rfl 7 (by decide) hf26 (fun _ h9 => h9) rfl dX4_open_105 ?_
              refine lv_iload hx hb dX4_open_108 (lv_at hl 0 rfl) ?_
              refine lv_iconst (v := (-1)) hx hb dX4_open_110 (by decide) ?_
              refine va_iast hx hb hK hP hD hS 6 0 (tt_bg (by omega) h9.2.2.2.2.2.2.1) rfl (vp_in_nI (n := i) (by omega) (by omega)) dX4_open_111 (fun H locs hP hD hS => ?_)
              rw [nI_clamp (n := i) (by omega)] at hP hD
              obtain ⟨cx, h9, hP, hD⟩ : ∃ zg : Nat → va_E, tt_C9 zg (.inr (4, [.ref (ad 1), .int (nI n), .int (nI ch), .ref (ad 2), .ref (ad 3), .ref (ad 4), .ref (ad 5), .ref (ad 6), .ref (ad 7), .ref (ad 8), .int mt])) (.inl (cI, 6303, .inl f)) (.inl (cZ, 8, .inl (upd (fun j => tt_b (K j).1) i 1))) (.inl (cZ, 8, .inl (upd (fun j => tt_b (K j).2.1) i 0))) (.inl (cI, 8, .inl (upd (fun j => nI (K j).2.2.1) i (nI mk)))) (.inl (cI, 24, .inl (upd (upd (upd (tt_kp K) (3 * i) s1) (3 * i + 1) p1) (3 * i + 2) o1))) (.inl (cI, 8, .inl (upd (fun j => nI (K j).2.2.2.2.2.2 - 1) i (-1)))) (.inl (cI, 1402, .inl me)) (.inl (cI, 1402, .inl ms)) ∧ va_P D vwCl (tt_blk 9 ad zg) H ∧ va_D A (tt_blk 9 ad zg) := ⟨_, h9.set6, by rw [← tt_bset]; exact hP, by rw [← tt_bset]; exact hD⟩
              refine lv_iload hx hb dX4_open_112 (lv_at hl 0 rfl) ?_
              have hiq : i = q := tt_fk_eq hq hi (by omega) (tt_b0 hb26)
              subst hiq
              exact kr _ _ _ _ _ cx (Or.inr ⟨mk, hm, rfl, Or.inr ⟨by omega, rfl, mt, f, me, ms, tt_open_C9 (u := (true, false, mk, s1, p1, o1, 0)) rfl rfl rfl rfl h9, hf⟩⟩) hP hS dX4_open_114
            · have hb39 : i = 8 := (nI_eq (a := i) (b := 8) (by omega) (by omega)).mp hb39
              exact absurd hb39 (by omega)
          · refine lv_iinc (v := nI (i + 1)) (lv' := [(5, .int (nI (i + 1))), (0, .ref (ad 0)), (1, .int (nI mk)), (2, .int s1), (3, .int p1), (4, .int o1)]) hx hb dX4_open_29 hl (k := 0) rfl (nI_add i 1) (by decide) rfl (fun ls hl => ?_)
            refine lv_goto (tgt := 12) hx hb dX4_open_32 (by decide) ?_
            exact ih (i + 1) (by omega) (tt_fk_lt hq hi (by omega) (tt_b1 hb26)) H locs ls hP hD hS (lv_sub hl [0, 1, 2, 3, 4, 5] rfl)
    refine lv_iconst (v := 0) hx hb dX4_open_9 (by decide) ?_
    refine lv_istore (lv' := [(5, .int 0), (0, .ref (ad 0)), (1, .int (nI mk)), (2, .int s1), (3, .int p1), (4, .int o1)]) hx hb dX4_open_10 hl (by decide) rfl (fun ls hl => ?_)
    exact loop 8 0 (by omega) (Nat.zero_le _) _ _ ls hP hD hS (lv_sub hl [0, 1, 2, 3, 4, 5] rfl)
  · refine lv_iconst (v := (-1)) hx hb dX4_open_7 (by decide) ?_
    exact kr _ _ _ _ _ cx (Or.inl ⟨tt_if0 hb4, rfl, hQ⟩) hP hS dX4_open_8
set_option maxHeartbeats 4000000 in
set_option maxRecDepth 100000 in
theorem c_X4_goOn (l : Launch) (D : va_G) (cI cZ cO cC : ClassId) (ad : Nat → Nat) (cx : Nat → va_E) (n : Nat) (L : Nat → List tt_T3) (ch : Nat) (K : Nat → tt_KU) (hQ : tt_Q cI cZ ad cx n L ch K) (c1 : Int32) (tl : Bool) (s1 p1 o1 : Int32) (hI : tt_I L) (hn : n = (L 0).length) (hKI : tt_KI K n) : tt_Muti (S := (Nat → va_E)) l yX4_goOn wsX4_goOn ({ frames := 2, cells := 0, slots := 0, locals := 52 } : Room) D (tt_tys cI cZ cO cC) false (tt_blk 9 ad cx) [.ref (ad 0), .int c1, .int (tt_b tl), .int s1, .int p1, .int o1] (fun r u => (¬ tt_ok K c1 ∧ r = (-1) ∧ tt_Q cI cZ ad u n L ch K) ∨ (∃ j, j < 8 ∧ c1 = nI j ∧ (K j).1 = true ∧ (((K j).2.1 = true ∧ r = (-3) ∧ tt_Q cI cZ ad u n L ch K) ∨ ((K j).2.1 = false ∧ r = (if tt_nx (K j) L n tl s1 p1 o1 < n then 1 else 0) ∧ tt_Q cI cZ ad u n L ch (va_up K j (tt_kg (K j) (tt_nx (K j) L n tl s1 p1 o1))))))) (fun u => tt_blk 9 ad u) := by
  refine tt_muti (cc := cX4_goOn) (maxL := 8) (rt := .int) (by decide) rfl (fun _ _ _ => rfl) (Nat.le_of_ble_eq_true rfl) ?_
  intro p e s m below meth c Q ls A hfix hK hP hD hA hE hl kr
  obtain ⟨hx, hb, hml, hown, hts⟩ := id hfix
  have hown : s.vm.findClass RX4 = some m.cls := hown
  have hfix : CallFix p m c cX4_goOn 8 s ([.ref (ad 0), .int c1, .int (tt_b tl), .int s1, .int p1, .int o1] : List Value).toArray wsX4_goOn RX4 := hfix
  have hl : lv_has ls 8 [(0, .ref (ad 0)), (1, .int c1), (2, .int (tt_b tl)), (3, .int s1), (4, .int p1), (5, .int o1)] := hl
  have hf17 := hts (.fieldLink RX4 17 "TripleTreesModel" "isStale" "[Z") (by decide +kernel)
  have hf20 := hts (.fieldLink RX4 20 "TripleTreesModel" "masks" "[I") (by decide +kernel)
  have hf26 := hts (.fieldLink RX4 26 "TripleTreesModel" "places" "[I") (by decide +kernel)
  have hf35 := hts (.fieldLink RX4 35 "TripleTreesModel" "size" "I") (by decide +kernel)
  have hf23 := hts (.fieldLink RX4 23 "TripleTreesModel" "patterns" "[I") (by decide +kernel)
  have hinX4 : ∀ w ∈ u_ws RX4 TX4 11, w ∈ wsX4_goOn := by decide +kernel
  have hS : va_S A s.heap s.heap [] := va_S.rf
  obtain ⟨mt, f, me, ms, h9, hf⟩ := id hQ
  have h700 := (hI 0 (by omega)).2.2
  refine lv_aload_n hx hb dX4_goOn_0 rfl (lv_at hl 0 rfl) ?_
  refine lv_iload_n hx hb dX4_goOn_1 rfl (lv_at hl 1 rfl) ?_
  have hPc := hP
  refine tt_calli (va_runV (As := [.int c1]) (rest := []) hfix (c_X4_isCursor l D cI cZ cO cC ad cx n L ch K hQ c1) (cwV 1 hts gX4_goOn_X4_isCursor rfl rfl rfl (by decide +kernel) ⟨Nat.le_of_ble_eq_true rfl, Nat.le_of_ble_eq_true rfl⟩) (tt_preV (q0 := 0) (ci := 4) hK hPc tt_E.no (tt_bg (by omega) h9.1) rfl) rfl rfl hl.1 rfl (lv_room (Nat.le_of_ble_eq_true rfl)) dX4_goOn_2 ⟨Nat.zero_le _, Nat.zero_le _⟩) hP hS (fun H locs hP hS => ?_)
  refine lv_if_ne (tgt := 10) hx hb dX4_goOn_5 (by decide) (fun hb5 => ?_) (fun hb5 => ?_)
  · obtain ⟨j, hj, e1⟩ : ∃ j : Nat, j < 8 ∧ c1 = nI j := tt_ix (n := 8) (by omega) (tt_if1 hb5).1 (tt_if1 hb5).2.1
    have hop := tt_if1 hb5
    subst e1
    have hop := (tt_ok_in hj).mp hop
    obtain ⟨hm, hpk⟩ := hKI j hj
    refine lv_aload_n hx hb dX4_goOn_10 rfl (lv_at hl 0 rfl) ?_
    refine va_get (D := D) (ci := 4) (v := .ref (ad 3)) (C := RX4) (T := TX4) (N := 11) hx hb hts hinX4 hown hK hP 0 (tt_bg (by omega) h9.1) rfl 4 (by decide) hf17 (fun _ h9 => h9) rfl dX4_goOn_11 ?_
    refine lv_iload_n hx hb dX4_goOn_14 rfl (lv_at hl 1 rfl) ?_
    refine va_zald hx hb hK hP 3 1 (tt_bg (by omega) h9.2.2.2.1) rfl (vp_in_nI (n := j) (by omega) (by omega)) dX4_goOn_15 ?_
    refine tt_rei (show ((fun j => tt_b (K j).2.1) (nI j).toNatClampNeg) = tt_b (K j).2.1 from congrArg (fun j => tt_b (K j).2.1) (nI_clamp (n := j) (by omega))) ?_
    refine lv_if_eq (tgt := 22) hx hb dX4_goOn_16 (by decide) (fun hb16 => ?_) (fun hb16 => ?_)
    · have hst := tt_b0 hb16
      have hk := tt_o_lt (K j).2.2.1
      have hlk : (L (tt_o (K j).2.2.1)).length = n := (hI _ hk).2.1.length_eq.trans hn.symm
      have loop : ∀ (d k : Nat), (d + k = n) → (tt_sc (tt_gd (K j) (L (tt_o (K j).2.2.1)) tl s1 p1 o1) k d = (tt_nx (K j) L n tl s1 p1 o1)) → ∀ (H : Heap) (locs : List Loc) (ls : Array Slot), va_P D vwCl (tt_blk 9 ad cx) H → va_D A (tt_blk 9 ad cx) → va_S A s.heap H locs → lv_has ls 8 [(7, .int (nI k)), (6, .int (nI (tt_o (K j).2.2.1))), (0, .ref (ad 0)), (1, .int (nI j)), (2, .int (tt_b tl)), (3, .int s1), (4, .int p1), (5, .int o1)] → W p l e ({ frames := 2, cells := 0, slots := 0, locals := 52 } : Room) s m ([.ref (ad 0), .int (nI j), .int (tt_b tl), .int s1, .int p1, .int o1] : List Value).toArray below meth c H locs 0 0 Q (F0 m 63 ls []) := by
        intro d
        induction d with
        | zero =>
          intro k hd hsc H locs ls hP hD hS hl
          refine lv_iload hx hb dX4_goOn_63 (lv_at hl 0 rfl) ?_
          refine lv_aload_n hx hb dX4_goOn_65 rfl (lv_at hl 2 rfl) ?_
          refine va_get (D := D) (ci := 4) (v := .int (nI n)) (C := RX4) (T := TX4) (N := 11) hx hb hts hinX4 hown hK hP 0 (tt_bg (by omega) h9.1) rfl 1 (by decide) hf35 (fun _ h9 => h9) rfl dX4_goOn_66 ?_
          refine lv_icmp_ge (tgt := 143) hx hb dX4_goOn_69 (by decide) (fun hb69 => ?_) (fun hb69 => ?_)
          · have hb69 : n ≤ k := (nI_leI (a := n) (b := k) (by omega) (by omega)).mp hb69
            have hkx : k = (tt_nx (K j) L n tl s1 p1 o1) := by rw [← hsc]; rfl
            refine lv_aload_n hx hb dX4_goOn_143 rfl (lv_at hl 2 rfl) ?_
            refine va_get (D := D) (ci := 4) (v := .ref (ad 6)) (C := RX4) (T := TX4) (N := 11) hx hb hts hinX4 hown hK hP 0 (tt_bg (by omega) h9.1) rfl 7 (by decide) hf26 (fun _ h9 => h9) rfl dX4_goOn_144 ?_
            refine lv_iload_n hx hb dX4_goOn_147 rfl (lv_at hl 3 rfl) ?_
            refine lv_iload hx hb dX4_goOn_148 (lv_at hl 0 rfl) ?_
            refine va_iast hx hb hK hP hD hS 6 0 (tt_bg (by omega) h9.2.2.2.2.2.2.1) rfl (vp_in_nI (n := j) (by omega) (by omega)) dX4_goOn_150 (fun H locs hP hD hS => ?_)
            rw [nI_clamp (n := j) (by omega)] at hP hD
            obtain ⟨cx, h9, hP, hD⟩ : ∃ zg : Nat → va_E, tt_C9 zg (.inr (4, [.ref (ad 1), .int (nI n), .int (nI ch), .ref (ad 2), .ref (ad 3), .ref (ad 4), .ref (ad 5), .ref (ad 6), .ref (ad 7), .ref (ad 8), .int mt])) (.inl (cI, 6303, .inl f)) (.inl (cZ, 8, .inl (fun j => tt_b (K j).1))) (.inl (cZ, 8, .inl (fun j => tt_b (K j).2.1))) (.inl (cI, 8, .inl (fun j => nI (K j).2.2.1))) (.inl (cI, 24, .inl (tt_kp K))) (.inl (cI, 8, .inl (upd (fun j => nI (K j).2.2.2.2.2.2 - 1) j (nI k)))) (.inl (cI, 1402, .inl me)) (.inl (cI, 1402, .inl ms)) ∧ va_P D vwCl (tt_blk 9 ad zg) H ∧ va_D A (tt_blk 9 ad zg) := ⟨_, h9.set6, by rw [← tt_bset]; exact hP, by rw [← tt_bset]; exact hD⟩
            refine lv_iload hx hb dX4_goOn_151 (lv_at hl 0 rfl) ?_
            refine lv_aload_n hx hb dX4_goOn_153 rfl (lv_at hl 2 rfl) ?_
            refine va_get (D := D) (ci := 4) (v := .int (nI n)) (C := RX4) (T := TX4) (N := 11) hx hb hts hinX4 hown hK hP 0 (tt_bg (by omega) h9.1) rfl 1 (by decide) hf35 (fun _ h9 => h9) rfl dX4_goOn_154 ?_
            refine lv_icmp_ge (tgt := 164) hx hb dX4_goOn_157 (by decide) (fun hb157 => ?_) (fun hb157 => ?_)
            · have hb157 : n ≤ k := (nI_leI (a := n) (b := k) (by omega) (by omega)).mp hb157
              refine lv_iconst (v := 0) hx hb dX4_goOn_164 (by decide) ?_
              refine kr _ _ _ _ _ cx (Or.inr ⟨j, hj, rfl, hop, Or.inr ⟨hst, ?_, mt, f, me, ms, ?_, hf⟩⟩) hP hS dX4_goOn_165
              · rw [← hkx]; exact (if_neg (by omega)).symm
              · rw [← hkx]; exact tt_go_C9 h9
            · have hb157 : ¬ n ≤ k := fun hz9 => hb157 ((nI_leI (a := n) (b := k) (by omega) (by omega)).mpr hz9)
              exact absurd hb157 (by omega)
          · have hb69 : ¬ n ≤ k := fun hz9 => hb69 ((nI_leI (a := n) (b := k) (by omega) (by omega)).mpr hz9)
            exact absurd hb69 (by omega)
        | succ d ih =>
          intro k hd hsc H locs ls hP hD hS hl
          refine lv_iload hx hb dX4_goOn_63 (lv_at hl 0 rfl) ?_
          refine lv_aload_n hx hb dX4_goOn_65 rfl (lv_at hl 2 rfl) ?_
          refine va_get (D := D) (ci := 4) (v := .int (nI n)) (C := RX4) (T := TX4) (N := 11) hx hb hts hinX4 hown hK hP 0 (tt_bg (by omega) h9.1) rfl 1 (by decide) hf35 (fun _ h9 => h9) rfl dX4_goOn_66 ?_
          refine lv_icmp_ge (tgt := 143) hx hb dX4_goOn_69 (by decide) (fun hb69 => ?_) (fun hb69 => ?_)
          · have hb69 : n ≤ k := (nI_leI (a := n) (b := k) (by omega) (by omega)).mp hb69
            exact absurd hb69 (by omega)
          · have hb69 : ¬ n ≤ k := fun hz9 => hb69 ((nI_leI (a := n) (b := k) (by omega) (by omega)).mpr hz9)
            refine lv_aload_n hx hb dX4_goOn_72 rfl (lv_at hl 2 rfl) ?_
            refine lv_iload hx hb dX4_goOn_73 (lv_at hl 1 rfl) ?_
            refine lv_iload hx hb dX4_goOn_75 (lv_at hl 0 rfl) ?_
            refine lv_aload_n hx hb dX4_goOn_77 rfl (lv_at hl 2 rfl) ?_
            refine va_get (D := D) (ci := 4) (v := .ref (ad 4)) (C := RX4) (T := TX4) (N := 11) hx hb hts hinX4 hown hK hP 0 (tt_bg (by omega) h9.1) rfl 5 (by decide) hf20 (fun _ h9 => h9) rfl dX4_goOn_78 ?_
            refine lv_iload_n hx hb dX4_goOn_81 rfl (lv_at hl 3 rfl) ?_
            refine va_iald hx hb hK hP 4 0 (tt_bg (by omega) h9.2.2.2.2.1) rfl (vp_in_nI (n := j) (by omega) (by omega)) dX4_goOn_82 ?_
            refine tt_rei (show ((fun j => nI (K j).2.2.1) (nI j).toNatClampNeg) = nI ((K j).2.2.1) from congrArg (fun j => nI (K j).2.2.1) (nI_clamp (n := j) (by omega))) ?_
            refine lv_aload_n hx hb dX4_goOn_83 rfl (lv_at hl 2 rfl) ?_
            refine va_get (D := D) (ci := 4) (v := .ref (ad 5)) (C := RX4) (T := TX4) (N := 11) hx hb hts hinX4 hown hK hP 0 (tt_bg (by omega) h9.1) rfl 6 (by decide) hf23 (fun _ h9 => h9) rfl dX4_goOn_84 ?_
            refine lv_iconst (v := 3) hx hb dX4_goOn_87 (by decide) ?_
            refine lv_iload_n hx hb dX4_goOn_88 rfl (lv_at hl 3 rfl) ?_
            refine lv_imul hx hb dX4_goOn_89 ?_
            refine tt_rei (show (3 * (nI j)) = nI (3 * j) from pk_mul 3 j) ?_
            refine va_iald hx hb hK hP 5 0 (tt_bg (by omega) h9.2.2.2.2.2.1) rfl (vp_in_nI (n := 3 * j) (by omega) (by omega)) dX4_goOn_90 ?_
            refine tt_rei (show ((tt_kp K) (nI (3 * j)).toNatClampNeg) = (tt_kp K) (3 * j) from congrArg (tt_kp K) (nI_clamp (n := 3 * j) (by omega))) ?_
            refine tt_rei (show ((tt_kp K) (3 * j)) = (K j).2.2.2.1 from tt_kp0 K j) ?_
            refine lv_aload_n hx hb dX4_goOn_91 rfl (lv_at hl 2 rfl) ?_
            refine va_get (D := D) (ci := 4) (v := .ref (ad 5)) (C := RX4) (T := TX4) (N := 11) hx hb hts hinX4 hown hK hP 0 (tt_bg (by omega) h9.1) rfl 6 (by decide) hf23 (fun _ h9 => h9) rfl dX4_goOn_92 ?_
            refine lv_iconst (v := 3) hx hb dX4_goOn_95 (by decide) ?_
            refine lv_iload_n hx hb dX4_goOn_96 rfl (lv_at hl 3 rfl) ?_
            refine lv_imul hx hb dX4_goOn_97 ?_
            refine tt_rei (show (3 * (nI j)) = nI (3 * j) from pk_mul 3 j) ?_
            refine lv_iconst (v := 1) hx hb dX4_goOn_98 (by decide) ?_
            refine lv_iadd hx hb dX4_goOn_99 ?_
            refine tt_rei (show ((nI (3 * j)) + 1) = nI (3 * j + 1) from nI_add (3 * j) 1) ?_
            refine va_iald hx hb hK hP 5 0 (tt_bg (by omega) h9.2.2.2.2.2.1) rfl (vp_in_nI (n := 3 * j + 1) (by omega) (by omega)) dX4_goOn_100 ?_
            refine tt_rei (show ((tt_kp K) (nI (3 * j + 1)).toNatClampNeg) = (tt_kp K) (3 * j + 1) from congrArg (tt_kp K) (nI_clamp (n := 3 * j + 1) (by omega))) ?_
            refine tt_rei (show ((tt_kp K) (3 * j + 1)) = (K j).2.2.2.2.1 from tt_kp1 K j) ?_
            refine lv_aload_n hx hb dX4_goOn_101 rfl (lv_at hl 2 rfl) ?_
            refine va_get (D := D) (ci := 4) (v := .ref (ad 5)) (C := RX4) (T := TX4) (N := 11) hx hb hts hinX4 hown hK hP 0 (tt_bg (by omega) h9.1) rfl 6 (by decide) hf23 (fun _ h9 => h9) rfl dX4_goOn_102 ?_
            refine lv_iconst (v := 3) hx hb dX4_goOn_105 (by decide) ?_
            refine lv_iload_n hx hb dX4_goOn_106 rfl (lv_at hl 3 rfl) ?_
            refine lv_imul hx hb dX4_goOn_107 ?_
            refine tt_rei (show (3 * (nI j)) = nI (3 * j) from pk_mul 3 j) ?_
            refine lv_iconst (v := 2) hx hb dX4_goOn_108 (by decide) ?_
            refine lv_iadd hx hb dX4_goOn_109 ?_
            refine tt_rei (show ((nI (3 * j)) + 2) = nI (3 * j + 2) from nI_add (3 * j) 2) ?_
            refine va_iald hx hb hK hP 5 0 (tt_bg (by omega) h9.2.2.2.2.2.1) rfl (vp_in_nI (n := 3 * j + 2) (by omega) (by omega)) dX4_goOn_110 ?_
            refine tt_rei (show ((tt_kp K) (nI (3 * j + 2)).toNatClampNeg) = (tt_kp K) (3 * j + 2) from congrArg (tt_kp K) (nI_clamp (n := 3 * j + 2) (by omega))) ?_
            refine tt_rei (show ((tt_kp K) (3 * j + 2)) = (K j).2.2.2.2.2.1 from tt_kp2 K j) ?_
            have hPc := hP
            refine tt_calli (va_runV (As := [.int (nI (tt_o (K j).2.2.1)), .int (nI k), .int (nI ((K j).2.2.1)), .int ((K j).2.2.2.1), .int ((K j).2.2.2.2.1), .int ((K j).2.2.2.2.2.1)]) (rest := []) hfix (c_X4_matches l D cI cZ cO cC ad cx n L ch K hQ (tt_o (K j).2.2.1) k (K j).2.2.1 (K j).2.2.2.1 (K j).2.2.2.2.1 (K j).2.2.2.2.2.1 hk (by omega) (by omega) hm) (cwV 6 hts gX4_goOn_X4_matches rfl rfl rfl (by decide +kernel) ⟨Nat.le_of_ble_eq_true rfl, Nat.le_of_ble_eq_true rfl⟩) (tt_preV (q0 := 0) (ci := 4) hK hPc tt_E.no (tt_bg (by omega) h9.1) rfl) rfl rfl hl.1 rfl (lv_room (Nat.le_of_ble_eq_true rfl)) dX4_goOn_111 ⟨Nat.zero_le _, Nat.zero_le _⟩) hP hS (fun H locs hP hS => ?_)
            refine lv_if_eq (tgt := 137) hx hb dX4_goOn_114 (by decide) (fun hb114 => ?_) (fun hb114 => ?_)
            · refine lv_iinc (v := nI (k + 1)) (lv' := [(7, .int (nI (k + 1))), (6, .int (nI (tt_o (K j).2.2.1))), (0, .ref (ad 0)), (1, .int (nI j)), (2, .int (tt_b tl)), (3, .int s1), (4, .int p1), (5, .int o1)]) hx hb dX4_goOn_137 hl (k := 0) rfl (nI_add k 1) (by decide) rfl (fun ls hl => ?_)
              refine lv_goto (tgt := 63) hx hb dX4_goOn_140 (by decide) ?_
              exact ih (k + 1) (by omega) (by rw [← hsc]; exact (tt_sc_0 (by first | exact tt_gd_3 (tt_if0 hb114) | exact tt_gd_4 (tt_b1 hb118) hb134)).symm) _ _ ls hP hD hS (lv_sub hl [0, 1, 2, 3, 4, 5, 6, 7] rfl)
            · refine lv_iload_n hx hb dX4_goOn_117 rfl (lv_at hl 4 rfl) ?_
              refine lv_if_eq (tgt := 143) hx hb dX4_goOn_118 (by decide) (fun hb118 => ?_) (fun hb118 => ?_)
              · have hkx : k = (tt_nx (K j) L n tl s1 p1 o1) := by rw [← hsc]; exact (tt_sc_1 (by first | exact tt_gd_1 (tt_if1 hb114) (tt_b0 hb118) | exact tt_gd_2 (tt_if1 hb114) hb134)).symm
                refine lv_aload_n hx hb dX4_goOn_143 rfl (lv_at hl 2 rfl) ?_
                refine va_get (D := D) (ci := 4) (v := .ref (ad 6)) (C := RX4) (T := TX4) (N := 11) hx hb hts hinX4 hown hK hP 0 (tt_bg (by omega) h9.1) rfl 7 (by decide) hf26 (fun _ h9 => h9) rfl dX4_goOn_144 ?_
                refine lv_iload_n hx hb dX4_goOn_147 rfl (lv_at hl 3 rfl) ?_
                refine lv_iload hx hb dX4_goOn_148 (lv_at hl 0 rfl) ?_
                refine va_iast hx hb hK hP hD hS 6 0 (tt_bg (by omega) h9.2.2.2.2.2.2.1) rfl (vp_in_nI (n := j) (by omega) (by omega)) dX4_goOn_150 (fun H locs hP hD hS => ?_)
                rw [nI_clamp (n := j) (by omega)] at hP hD
                obtain ⟨cx, h9, hP, hD⟩ : ∃ zg : Nat → va_E, tt_C9 zg (.inr (4, [.ref (ad 1), .int (nI n), .int (nI ch), .ref (ad 2), .ref (ad 3), .ref (ad 4), .ref (ad 5), .ref (ad 6), .ref (ad 7), .ref (ad 8), .int mt])) (.inl (cI, 6303, .inl f)) (.inl (cZ, 8, .inl (fun j => tt_b (K j).1))) (.inl (cZ, 8, .inl (fun j => tt_b (K j).2.1))) (.inl (cI, 8, .inl (fun j => nI (K j).2.2.1))) (.inl (cI, 24, .inl (tt_kp K))) (.inl (cI, 8, .inl (upd (fun j => nI (K j).2.2.2.2.2.2 - 1) j (nI k)))) (.inl (cI, 1402, .inl me)) (.inl (cI, 1402, .inl ms)) ∧ va_P D vwCl (tt_blk 9 ad zg) H ∧ va_D A (tt_blk 9 ad zg) := ⟨_, h9.set6, by rw [← tt_bset]; exact hP, by rw [← tt_bset]; exact hD⟩
                refine lv_iload hx hb dX4_goOn_151 (lv_at hl 0 rfl) ?_
                refine lv_aload_n hx hb dX4_goOn_153 rfl (lv_at hl 2 rfl) ?_
                refine va_get (D := D) (ci := 4) (v := .int (nI n)) (C := RX4) (T := TX4) (N := 11) hx hb hts hinX4 hown hK hP 0 (tt_bg (by omega) h9.1) rfl 1 (by decide) hf35 (fun _ h9 => h9) rfl dX4_goOn_154 ?_
                refine lv_icmp_ge (tgt := 164) hx hb dX4_goOn_157 (by decide) (fun hb157 => ?_) (fun hb157 => ?_)
                · have hb157 : n ≤ k := (nI_leI (a := n) (b := k) (by omega) (by omega)).mp hb157
                  exact absurd hb157 (by omega)
                · have hb157 : ¬ n ≤ k := fun hz9 => hb157 ((nI_leI (a := n) (b := k) (by omega) (by omega)).mpr hz9)
                  refine lv_iconst (v := 1) hx hb dX4_goOn_160 (by decide) ?_
                  refine lv_goto (tgt := 165) hx hb dX4_goOn_161 (by decide) ?_
                  refine kr _ _ _ _ _ cx (Or.inr ⟨j, hj, rfl, hop, Or.inr ⟨hst, ?_, mt, f, me, ms, ?_, hf⟩⟩) hP hS dX4_goOn_165
                  · rw [← hkx]; exact (if_pos (by omega)).symm
                  · rw [← hkx]; exact tt_go_C9 h9
              · refine lv_aload_n hx hb dX4_goOn_121 rfl (lv_at hl 2 rfl) ?_
                refine lv_iload hx hb dX4_goOn_122 (lv_at hl 1 rfl) ?_
                refine lv_iload hx hb dX4_goOn_124 (lv_at hl 0 rfl) ?_
                refine lv_iload_n hx hb dX4_goOn_126 rfl (lv_at hl 5 rfl) ?_
                refine lv_iload hx hb dX4_goOn_127 (lv_at hl 6 rfl) ?_
                refine lv_iload hx hb dX4_goOn_129 (lv_at hl 7 rfl) ?_
                have hPc := hP
                refine tt_calli (va_runV (As := [.int (nI (tt_o (K j).2.2.1)), .int (nI k), .int s1, .int p1, .int o1]) (rest := []) hfix (c_X4_compare l D cI cZ cO cC ad cx n L ch K hQ (tt_o (K j).2.2.1) k s1 p1 o1 hk (by omega) (by omega)) (cwV 5 hts gX4_goOn_X4_compare rfl rfl rfl (by decide +kernel) ⟨Nat.le_of_ble_eq_true rfl, Nat.le_of_ble_eq_true rfl⟩) (tt_preV (q0 := 0) (ci := 4) hK hPc tt_E.no (tt_bg (by omega) h9.1) rfl) rfl rfl hl.1 rfl (lv_room (Nat.le_of_ble_eq_true rfl)) dX4_goOn_131 ⟨Nat.zero_le _, Nat.zero_le _⟩) hP hS (fun H locs hP hS => ?_)
                refine lv_if_ge (tgt := 143) hx hb dX4_goOn_134 (by decide) (fun hb134 => ?_) (fun hb134 => ?_)
                · have hkx : k = (tt_nx (K j) L n tl s1 p1 o1) := by rw [← hsc]; exact (tt_sc_1 (by first | exact tt_gd_1 (tt_if1 hb114) (tt_b0 hb118) | exact tt_gd_2 (tt_if1 hb114) hb134)).symm
                  refine lv_aload_n hx hb dX4_goOn_143 rfl (lv_at hl 2 rfl) ?_
                  refine va_get (D := D) (ci := 4) (v := .ref (ad 6)) (C := RX4) (T := TX4) (N := 11) hx hb hts hinX4 hown hK hP 0 (tt_bg (by omega) h9.1) rfl 7 (by decide) hf26 (fun _ h9 => h9) rfl dX4_goOn_144 ?_
                  refine lv_iload_n hx hb dX4_goOn_147 rfl (lv_at hl 3 rfl) ?_
                  refine lv_iload hx hb dX4_goOn_148 (lv_at hl 0 rfl) ?_
                  refine va_iast hx hb hK hP hD hS 6 0 (tt_bg (by omega) h9.2.2.2.2.2.2.1) rfl (vp_in_nI (n := j) (by omega) (by omega)) dX4_goOn_150 (fun H locs hP hD hS => ?_)
                  rw [nI_clamp (n := j) (by omega)] at hP hD
                  obtain ⟨cx, h9, hP, hD⟩ : ∃ zg : Nat → va_E, tt_C9 zg (.inr (4, [.ref (ad 1), .int (nI n), .int (nI ch), .ref (ad 2), .ref (ad 3), .ref (ad 4), .ref (ad 5), .ref (ad 6), .ref (ad 7), .ref (ad 8), .int mt])) (.inl (cI, 6303, .inl f)) (.inl (cZ, 8, .inl (fun j => tt_b (K j).1))) (.inl (cZ, 8, .inl (fun j => tt_b (K j).2.1))) (.inl (cI, 8, .inl (fun j => nI (K j).2.2.1))) (.inl (cI, 24, .inl (tt_kp K))) (.inl (cI, 8, .inl (upd (fun j => nI (K j).2.2.2.2.2.2 - 1) j (nI k)))) (.inl (cI, 1402, .inl me)) (.inl (cI, 1402, .inl ms)) ∧ va_P D vwCl (tt_blk 9 ad zg) H ∧ va_D A (tt_blk 9 ad zg) := ⟨_, h9.set6, by rw [← tt_bset]; exact hP, by rw [← tt_bset]; exact hD⟩
                  refine lv_iload hx hb dX4_goOn_151 (lv_at hl 0 rfl) ?_
                  refine lv_aload_n hx hb dX4_goOn_153 rfl (lv_at hl 2 rfl) ?_
                  refine va_get (D := D) (ci := 4) (v := .int (nI n)) (C := RX4) (T := TX4) (N := 11) hx hb hts hinX4 hown hK hP 0 (tt_bg (by omega) h9.1) rfl 1 (by decide) hf35 (fun _ h9 => h9) rfl dX4_goOn_154 ?_
                  refine lv_icmp_ge (tgt := 164) hx hb dX4_goOn_157 (by decide) (fun hb157 => ?_) (fun hb157 => ?_)
                  · have hb157 : n ≤ k := (nI_leI (a := n) (b := k) (by omega) (by omega)).mp hb157
                    exact absurd hb157 (by omega)
                  · have hb157 : ¬ n ≤ k := fun hz9 => hb157 ((nI_leI (a := n) (b := k) (by omega) (by omega)).mpr hz9)
                    refine lv_iconst (v := 1) hx hb dX4_goOn_160 (by decide) ?_
                    refine lv_goto (tgt := 165) hx hb dX4_goOn_161 (by decide) ?_
                    refine kr _ _ _ _ _ cx (Or.inr ⟨j, hj, rfl, hop, Or.inr ⟨hst, ?_, mt, f, me, ms, ?_, hf⟩⟩) hP hS dX4_goOn_165
                    · rw [← hkx]; exact (if_pos (by omega)).symm
                    · rw [← hkx]; exact tt_go_C9 h9
                · refine lv_iinc (v := nI (k + 1)) (lv' := [(7, .int (nI (k + 1))), (6, .int (nI (tt_o (K j).2.2.1))), (0, .ref (ad 0)), (1, .int (nI j)), (2, .int (tt_b tl)), (3, .int s1), (4, .int p1), (5, .int o1)]) hx hb dX4_goOn_137 hl (k := 0) rfl (nI_add k 1) (by decide) rfl (fun ls hl => ?_)
                  refine lv_goto (tgt := 63) hx hb dX4_goOn_140 (by decide) ?_
                  exact ih (k + 1) (by omega) (by rw [← hsc]; exact (tt_sc_0 (by first | exact tt_gd_3 (tt_if0 hb114) | exact tt_gd_4 (tt_b1 hb118) hb134)).symm) _ _ ls hP hD hS (lv_sub hl [0, 1, 2, 3, 4, 5, 6, 7] rfl)
      refine lv_aload_n hx hb dX4_goOn_22 rfl (lv_at hl 0 rfl) ?_
      refine va_get (D := D) (ci := 4) (v := .ref (ad 4)) (C := RX4) (T := TX4) (N := 11) hx hb hts hinX4 hown hK hP 0 (tt_bg (by omega) h9.1) rfl 5 (by decide) hf20 (fun _ h9 => h9) rfl dX4_goOn_23 ?_
      refine lv_iload_n hx hb dX4_goOn_26 rfl (lv_at hl 1 rfl) ?_
      refine va_iald hx hb hK hP 4 0 (tt_bg (by omega) h9.2.2.2.2.1) rfl (vp_in_nI (n := j) (by omega) (by omega)) dX4_goOn_27 ?_
      refine tt_rei (show ((fun j => nI (K j).2.2.1) (nI j).toNatClampNeg) = nI ((K j).2.2.1) from congrArg (fun j => nI (K j).2.2.1) (nI_clamp (n := j) (by omega))) ?_
      refine tt_calli (va_runS (As := [.int (nI ((K j).2.2.1))]) (rest := []) hfix (c_X4_orderOf l D cI cZ cO cC (K j).2.2.1 hm) (va_cwS 1 hts gX4_goOn_X4_orderOf rfl rfl rfl (by decide +kernel) ⟨Nat.le_of_ble_eq_true rfl, Nat.le_of_ble_eq_true rfl⟩) (tt_preS hK tt_P0 tt_E.no) rfl rfl hl.1 rfl (lv_room (Nat.le_of_ble_eq_true rfl)) dX4_goOn_28 ⟨Nat.zero_le _, Nat.zero_le _⟩) hP hS (fun H locs hP hS => ?_)
      refine lv_istore (lv' := [(6, .int (nI (tt_o (K j).2.2.1))), (0, .ref (ad 0)), (1, .int (nI j)), (2, .int (tt_b tl)), (3, .int s1), (4, .int p1), (5, .int o1)]) hx hb dX4_goOn_31 hl (by decide) rfl (fun ls hl => ?_)
      refine lv_aload_n hx hb dX4_goOn_33 rfl (lv_at hl 1 rfl) ?_
      refine va_get (D := D) (ci := 4) (v := .ref (ad 6)) (C := RX4) (T := TX4) (N := 11) hx hb hts hinX4 hown hK hP 0 (tt_bg (by omega) h9.1) rfl 7 (by decide) hf26 (fun _ h9 => h9) rfl dX4_goOn_34 ?_
      refine lv_iload_n hx hb dX4_goOn_37 rfl (lv_at hl 2 rfl) ?_
      refine va_iald hx hb hK hP 6 0 (tt_bg (by omega) h9.2.2.2.2.2.2.1) rfl (vp_in_nI (n := j) (by omega) (by omega)) dX4_goOn_38 ?_
      refine tt_rei (show ((fun j => nI (K j).2.2.2.2.2.2 - 1) (nI j).toNatClampNeg) = nI (K j).2.2.2.2.2.2 - 1 from congrArg (fun j => nI (K j).2.2.2.2.2.2 - 1) (nI_clamp (n := j) (by omega))) ?_
      refine lv_aload_n hx hb dX4_goOn_39 rfl (lv_at hl 1 rfl) ?_
      refine va_get (D := D) (ci := 4) (v := .int (nI n)) (C := RX4) (T := TX4) (N := 11) hx hb hts hinX4 hown hK hP 0 (tt_bg (by omega) h9.1) rfl 1 (by decide) hf35 (fun _ h9 => h9) rfl dX4_goOn_40 ?_
      refine lv_icmp_ge (tgt := 57) hx hb dX4_goOn_43 (by decide) (fun hb43 => ?_) (fun hb43 => ?_)
      · refine lv_aload_n hx hb dX4_goOn_57 rfl (lv_at hl 1 rfl) ?_
        refine va_get (D := D) (ci := 4) (v := .int (nI n)) (C := RX4) (T := TX4) (N := 11) hx hb hts hinX4 hown hK hP 0 (tt_bg (by omega) h9.1) rfl 1 (by decide) hf35 (fun _ h9 => h9) rfl dX4_goOn_58 ?_
        have hle : ¬ (K j).2.2.2.2.2.2 ≤ n := tt_pk_gt (by omega) (by omega) hb43
        refine tt_rei (show (nI n) = nI (tt_k0 (K j) n) from congrArg nI (if_neg hle).symm) ?_
        refine lv_istore (lv' := [(7, .int (nI (tt_k0 (K j) n))), (6, .int (nI (tt_o (K j).2.2.1))), (0, .ref (ad 0)), (1, .int (nI j)), (2, .int (tt_b tl)), (3, .int s1), (4, .int p1), (5, .int o1)]) hx hb dX4_goOn_61 hl (by decide) rfl (fun ls hl => ?_)
        exact loop (n - tt_k0 (K j) n) (tt_k0 (K j) n) (by have := tt_k0_le (K j) n; omega) rfl _ _ ls hP hD hS (lv_sub hl [0, 1, 2, 3, 4, 5, 6, 7] rfl)
      · refine lv_aload_n hx hb dX4_goOn_46 rfl (lv_at hl 1 rfl) ?_
        refine va_get (D := D) (ci := 4) (v := .ref (ad 6)) (C := RX4) (T := TX4) (N := 11) hx hb hts hinX4 hown hK hP 0 (tt_bg (by omega) h9.1) rfl 7 (by decide) hf26 (fun _ h9 => h9) rfl dX4_goOn_47 ?_
        refine lv_iload_n hx hb dX4_goOn_50 rfl (lv_at hl 2 rfl) ?_
        refine va_iald hx hb hK hP 6 0 (tt_bg (by omega) h9.2.2.2.2.2.2.1) rfl (vp_in_nI (n := j) (by omega) (by omega)) dX4_goOn_51 ?_
        refine tt_rei (show ((fun j => nI (K j).2.2.2.2.2.2 - 1) (nI j).toNatClampNeg) = nI (K j).2.2.2.2.2.2 - 1 from congrArg (fun j => nI (K j).2.2.2.2.2.2 - 1) (nI_clamp (n := j) (by omega))) ?_
        refine lv_iconst (v := 1) hx hb dX4_goOn_52 (by decide) ?_
        refine lv_iadd hx hb dX4_goOn_53 ?_
        refine tt_rei (show ((nI (K j).2.2.2.2.2.2 - 1) + 1) = nI ((K j).2.2.2.2.2.2) from tt_pk_succ _) ?_
        refine lv_goto (tgt := 61) hx hb dX4_goOn_54 (by decide) ?_
        have hle : (K j).2.2.2.2.2.2 ≤ n := tt_pk_le (by omega) (by omega) hb43
        refine tt_rei (show (nI ((K j).2.2.2.2.2.2)) = nI (tt_k0 (K j) n) from congrArg nI (if_pos hle).symm) ?_
        refine lv_istore (lv' := [(7, .int (nI (tt_k0 (K j) n))), (6, .int (nI (tt_o (K j).2.2.1))), (0, .ref (ad 0)), (1, .int (nI j)), (2, .int (tt_b tl)), (3, .int s1), (4, .int p1), (5, .int o1)]) hx hb dX4_goOn_61 hl (by decide) rfl (fun ls hl => ?_)
        exact loop (n - tt_k0 (K j) n) (tt_k0 (K j) n) (by have := tt_k0_le (K j) n; omega) rfl _ _ ls hP hD hS (lv_sub hl [0, 1, 2, 3, 4, 5, 6, 7] rfl)
    · refine lv_bipush (v := (-3)) hx hb dX4_goOn_19 (by decide) ?_
      exact kr _ _ _ _ _ cx (Or.inr ⟨j, hj, rfl, hop, Or.inl ⟨tt_b1 hb16, rfl, hQ⟩⟩) hP hS dX4_goOn_21
  · refine lv_iconst (v := (-1)) hx hb dX4_goOn_8 (by decide) ?_
    exact kr _ _ _ _ _ cx (Or.inl ⟨tt_if0 hb5, rfl, hQ⟩) hP hS dX4_goOn_9
set_option maxHeartbeats 4000000 in
set_option maxRecDepth 100000 in
theorem c_X4_next (l : Launch) (D : va_G) (cI cZ cO cC : ClassId) (ad : Nat → Nat) (cx : Nat → va_E) (n : Nat) (L : Nat → List tt_T3) (ch : Nat) (K : Nat → tt_KU) (hQ : tt_Q cI cZ ad cx n L ch K) (c1 : Int32) (hI : tt_I L) (hn : n = (L 0).length) (hKI : tt_KI K n) : tt_Muti (S := (Nat → va_E)) l yX4_next wsX4_next ({ frames := 3, cells := 0, slots := 0, locals := 79 } : Room) D (tt_tys cI cZ cO cC) false (tt_blk 9 ad cx) [.ref (ad 0), .int c1] (fun r u => (¬ tt_ok K c1 ∧ r = (-1) ∧ tt_Q cI cZ ad u n L ch K) ∨ (∃ j, j < 8 ∧ c1 = nI j ∧ (K j).1 = true ∧ (((K j).2.1 = true ∧ r = (-3) ∧ tt_Q cI cZ ad u n L ch K) ∨ ((K j).2.1 = false ∧ r = (if tt_nx (K j) L n false 0 0 0 < n then 1 else 0) ∧ tt_Q cI cZ ad u n L ch (va_up K j (tt_kg (K j) (tt_nx (K j) L n false 0 0 0))))))) (fun u => tt_blk 9 ad u) := by
  refine tt_muti (cc := cX4_next) (maxL := 2) (rt := .int) (by decide) rfl (fun _ _ _ => rfl) (Nat.le_of_ble_eq_true rfl) ?_
  intro p e s m below meth c Q ls A hfix hK hP hD hA hE hl kr
  obtain ⟨hx, hb, hml, hown, hts⟩ := id hfix
  have hown : s.vm.findClass RX4 = some m.cls := hown
  have hfix : CallFix p m c cX4_next 2 s ([.ref (ad 0), .int c1] : List Value).toArray wsX4_next RX4 := hfix
  have hl : lv_has ls 2 [(0, .ref (ad 0)), (1, .int c1)] := hl
  have hS : va_S A s.heap s.heap [] := va_S.rf
  obtain ⟨mt, f, me, ms, h9, hf⟩ := id hQ
  refine lv_aload_n hx hb dX4_next_0 rfl (lv_at hl 0 rfl) ?_
  refine lv_iload_n hx hb dX4_next_1 rfl (lv_at hl 1 rfl) ?_
  refine lv_iconst (v := 0) hx hb dX4_next_2 (by decide) ?_
  refine lv_iconst (v := 0) hx hb dX4_next_3 (by decide) ?_
  refine lv_iconst (v := 0) hx hb dX4_next_4 (by decide) ?_
  refine lv_iconst (v := 0) hx hb dX4_next_5 (by decide) ?_
  refine tt_fulli (va_runV (As := [.int c1, .int 0, .int 0, .int 0, .int 0]) (rest := []) hfix (c_X4_goOn l D cI cZ cO cC ad cx n L ch K hQ c1 false 0 0 0 hI hn hKI _) (cwV 5 hts gX4_next_X4_goOn rfl rfl rfl (by decide +kernel) ⟨Nat.le_of_ble_eq_true rfl, Nat.le_of_ble_eq_true rfl⟩) (tt_mpreV (q0 := 0) (ci := 4) hK hP hD tt_E.no (tt_bg (by omega) h9.1) rfl) rfl rfl hl.1 rfl (lv_room (Nat.le_of_ble_eq_true rfl)) dX4_next_6 ⟨Nat.zero_le _, Nat.zero_le _⟩) hD hS hA (fun r1 cx H locs hu hP hD hS => ?_)
  exact kr _ _ _ _ _ cx hu hP hS dX4_next_9
set_option maxHeartbeats 4000000 in
set_option maxRecDepth 100000 in
theorem c_X4_seek (l : Launch) (D : va_G) (cI cZ cO cC : ClassId) (ad : Nat → Nat) (cx : Nat → va_E) (n : Nat) (L : Nat → List tt_T3) (ch : Nat) (K : Nat → tt_KU) (hQ : tt_Q cI cZ ad cx n L ch K) (c1 a1 a2 a3 : Int32) (hI : tt_I L) (hn : n = (L 0).length) (hKI : tt_KI K n) : tt_Muti (S := (Nat → va_E)) l yX4_seek wsX4_seek ({ frames := 3, cells := 0, slots := 0, locals := 79 } : Room) D (tt_tys cI cZ cO cC) false (tt_blk 9 ad cx) [.ref (ad 0), .int c1, .int a1, .int a2, .int a3] (fun r u => (¬ tt_ok K c1 ∧ r = (-1) ∧ tt_Q cI cZ ad u n L ch K) ∨ (∃ j, j < 8 ∧ c1 = nI j ∧ (K j).1 = true ∧ (((K j).2.1 = true ∧ r = (-3) ∧ tt_Q cI cZ ad u n L ch K) ∨ ((K j).2.1 = false ∧ r = (if tt_nx (K j) L n true (tt_us (tt_o (K j).2.2.1) a1 a2 a3) (tt_up (tt_o (K j).2.2.1) a1 a2 a3) (tt_uo (tt_o (K j).2.2.1) a1 a2 a3) < n then 1 else 0) ∧ tt_Q cI cZ ad u n L ch (va_up K j (tt_kg (K j) (tt_nx (K j) L n true (tt_us (tt_o (K j).2.2.1) a1 a2 a3) (tt_up (tt_o (K j).2.2.1) a1 a2 a3) (tt_uo (tt_o (K j).2.2.1) a1 a2 a3)))))))) (fun u => tt_blk 9 ad u) := by
  refine tt_muti (cc := cX4_seek) (maxL := 9) (rt := .int) (by decide) rfl (fun _ _ _ => rfl) (Nat.le_of_ble_eq_true rfl) ?_
  intro p e s m below meth c Q ls A hfix hK hP hD hA hE hl kr
  obtain ⟨hx, hb, hml, hown, hts⟩ := id hfix
  have hown : s.vm.findClass RX4 = some m.cls := hown
  have hfix : CallFix p m c cX4_seek 9 s ([.ref (ad 0), .int c1, .int a1, .int a2, .int a3] : List Value).toArray wsX4_seek RX4 := hfix
  have hl : lv_has ls 9 [(0, .ref (ad 0)), (1, .int c1), (2, .int a1), (3, .int a2), (4, .int a3)] := hl
  have hf20 := hts (.fieldLink RX4 20 "TripleTreesModel" "masks" "[I") (by decide +kernel)
  have hinX4 : ∀ w ∈ u_ws RX4 TX4 11, w ∈ wsX4_seek := by decide +kernel
  have hS : va_S A s.heap s.heap [] := va_S.rf
  obtain ⟨mt, f, me, ms, h9, hf⟩ := id hQ
  refine lv_aload_n hx hb dX4_seek_0 rfl (lv_at hl 0 rfl) ?_
  refine lv_iload_n hx hb dX4_seek_1 rfl (lv_at hl 1 rfl) ?_
  have hPc := hP
  refine tt_calli (va_runV (As := [.int c1]) (rest := []) hfix (c_X4_isCursor l D cI cZ cO cC ad cx n L ch K hQ c1) (cwV 1 hts gX4_seek_X4_isCursor rfl rfl rfl (by decide +kernel) ⟨Nat.le_of_ble_eq_true rfl, Nat.le_of_ble_eq_true rfl⟩) (tt_preV (q0 := 0) (ci := 4) hK hPc tt_E.no (tt_bg (by omega) h9.1) rfl) rfl rfl hl.1 rfl (lv_room (Nat.le_of_ble_eq_true rfl)) dX4_seek_2 ⟨Nat.zero_le _, Nat.zero_le _⟩) hP hS (fun H locs hP hS => ?_)
  refine lv_if_eq (tgt := 20) hx hb dX4_seek_5 (by decide) (fun hb5 => ?_) (fun hb5 => ?_)
  · refine lv_iconst (v := 0) hx hb dX4_seek_20 (by decide) ?_
    refine lv_istore (lv' := [(5, .int 0), (0, .ref (ad 0)), (1, .int c1), (2, .int a1), (3, .int a2), (4, .int a3)]) hx hb dX4_seek_21 hl (by decide) rfl (fun ls hl => ?_)
    refine lv_iload hx hb dX4_seek_23 (lv_at hl 0 rfl) ?_
    refine lv_if_ne (tgt := 32) hx hb dX4_seek_25 (by decide) (fun hb25 => ?_) (fun hb25 => ?_)
    · exact absurd rfl hb25
    · refine lv_iload_n hx hb dX4_seek_28 rfl (lv_at hl 3 rfl) ?_
      refine lv_goto (tgt := 44) hx hb dX4_seek_29 (by decide) ?_
      refine lv_istore (lv' := [(6, .int a1), (5, .int 0), (0, .ref (ad 0)), (1, .int c1), (2, .int a1), (3, .int a2), (4, .int a3)]) hx hb dX4_seek_44 hl (by decide) rfl (fun ls hl => ?_)
      refine lv_iload hx hb dX4_seek_46 (lv_at hl 1 rfl) ?_
      refine lv_if_ne (tgt := 55) hx hb dX4_seek_48 (by decide) (fun hb48 => ?_) (fun hb48 => ?_)
      · exact absurd rfl hb48
      · refine lv_iload_n hx hb dX4_seek_51 rfl (lv_at hl 5 rfl) ?_
        refine lv_goto (tgt := 67) hx hb dX4_seek_52 (by decide) ?_
        refine lv_istore (lv' := [(7, .int a2), (6, .int a1), (5, .int 0), (0, .ref (ad 0)), (1, .int c1), (2, .int a1), (3, .int a2), (4, .int a3)]) hx hb dX4_seek_67 hl (by decide) rfl (fun ls hl => ?_)
        refine lv_iload hx hb dX4_seek_69 (lv_at hl 2 rfl) ?_
        refine lv_if_ne (tgt := 79) hx hb dX4_seek_71 (by decide) (fun hb71 => ?_) (fun hb71 => ?_)
        · exact absurd rfl hb71
        · refine lv_iload hx hb dX4_seek_74 (lv_at hl 7 rfl) ?_
          refine lv_goto (tgt := 90) hx hb dX4_seek_76 (by decide) ?_
          refine lv_istore (lv' := [(8, .int a3), (7, .int a2), (6, .int a1), (5, .int 0), (0, .ref (ad 0)), (1, .int c1), (2, .int a1), (3, .int a2), (4, .int a3)]) hx hb dX4_seek_90 hl (by decide) rfl (fun ls hl => ?_)
          refine lv_aload_n hx hb dX4_seek_92 rfl (lv_at hl 4 rfl) ?_
          refine lv_iload_n hx hb dX4_seek_93 rfl (lv_at hl 5 rfl) ?_
          refine lv_iconst (v := 1) hx hb dX4_seek_94 (by decide) ?_
          refine lv_iload hx hb dX4_seek_95 (lv_at hl 2 rfl) ?_
          refine lv_iload hx hb dX4_seek_97 (lv_at hl 1 rfl) ?_
          refine lv_iload hx hb dX4_seek_99 (lv_at hl 0 rfl) ?_
          refine tt_fulli (va_runV (As := [.int c1, .int 1, .int a1, .int a2, .int a3]) (rest := []) hfix (c_X4_goOn l D cI cZ cO cC ad cx n L ch K hQ c1 true a1 a2 a3 hI hn hKI _) (cwV 5 hts gX4_seek_X4_goOn rfl rfl rfl (by decide +kernel) ⟨Nat.le_of_ble_eq_true rfl, Nat.le_of_ble_eq_true rfl⟩) (tt_mpreV (q0 := 0) (ci := 4) hK hP hD tt_E.no (tt_bg (by omega) h9.1) rfl) rfl rfl hl.1 rfl (lv_room (Nat.le_of_ble_eq_true rfl)) dX4_seek_101 ⟨Nat.zero_le _, Nat.zero_le _⟩) hD hS hA (fun r1 cx H locs hu hP hD hS => ?_)
          exact kr _ _ _ _ _ cx (tt_go_no (tt_if0 hb5) hu) hP hS dX4_seek_104
  · obtain ⟨j, hj, e1⟩ : ∃ j : Nat, j < 8 ∧ c1 = nI j := tt_ix (n := 8) (by omega) (tt_if1 hb5).1 (tt_if1 hb5).2.1
    have hop := tt_if1 hb5
    subst e1
    have hop := (tt_ok_in hj).mp hop
    obtain ⟨hm, hpk⟩ := hKI j hj
    have hko := tt_o_lt (K j).2.2.1
    refine lv_aload_n hx hb dX4_seek_8 rfl (lv_at hl 0 rfl) ?_
    refine va_get (D := D) (ci := 4) (v := .ref (ad 4)) (C := RX4) (T := TX4) (N := 11) hx hb hts hinX4 hown hK hP 0 (tt_bg (by omega) h9.1) rfl 5 (by decide) hf20 (fun _ h9 => h9) rfl dX4_seek_9 ?_
    refine lv_iload_n hx hb dX4_seek_12 rfl (lv_at hl 1 rfl) ?_
    refine va_iald hx hb hK hP 4 0 (tt_bg (by omega) h9.2.2.2.2.1) rfl (vp_in_nI (n := j) (by omega) (by omega)) dX4_seek_13 ?_
    refine tt_rei (show ((fun j => nI (K j).2.2.1) (nI j).toNatClampNeg) = nI ((K j).2.2.1) from congrArg (fun j => nI (K j).2.2.1) (nI_clamp (n := j) (by omega))) ?_
    refine tt_calli (va_runS (As := [.int (nI ((K j).2.2.1))]) (rest := []) hfix (c_X4_orderOf l D cI cZ cO cC (K j).2.2.1 hm) (va_cwS 1 hts gX4_seek_X4_orderOf rfl rfl rfl (by decide +kernel) ⟨Nat.le_of_ble_eq_true rfl, Nat.le_of_ble_eq_true rfl⟩) (tt_preS hK tt_P0 tt_E.no) rfl rfl hl.1 rfl (lv_room (Nat.le_of_ble_eq_true rfl)) dX4_seek_14 ⟨Nat.zero_le _, Nat.zero_le _⟩) hP hS (fun H locs hP hS => ?_)
    refine lv_goto (tgt := 21) hx hb dX4_seek_17 (by decide) ?_
    refine lv_istore (lv' := [(5, .int (nI (tt_o (K j).2.2.1))), (0, .ref (ad 0)), (1, .int (nI j)), (2, .int a1), (3, .int a2), (4, .int a3)]) hx hb dX4_seek_21 hl (by decide) rfl (fun ls hl => ?_)
    have J0 : W p l e ({ frames := 3, cells := 0, slots := 0, locals := 79 } : Room) s m ([.ref (ad 0), .int (nI j), .int a1, .int a2, .int a3] : List Value).toArray below meth c H locs 0 0 Q (F0 m 44 ls [.int (tt_us (tt_o (K j).2.2.1) a1 a2 a3)]) := by
      refine lv_istore (lv' := [(6, .int (tt_us (tt_o (K j).2.2.1) a1 a2 a3)), (5, .int (nI (tt_o (K j).2.2.1))), (0, .ref (ad 0)), (1, .int (nI j)), (2, .int a1), (3, .int a2), (4, .int a3)]) hx hb dX4_seek_44 hl (by decide) rfl (fun ls hl => ?_)
      have J1 : W p l e ({ frames := 3, cells := 0, slots := 0, locals := 79 } : Room) s m ([.ref (ad 0), .int (nI j), .int a1, .int a2, .int a3] : List Value).toArray below meth c H locs 0 0 Q (F0 m 67 ls [.int (tt_up (tt_o (K j).2.2.1) a1 a2 a3)]) := by
        refine lv_istore (lv' := [(7, .int (tt_up (tt_o (K j).2.2.1) a1 a2 a3)), (6, .int (tt_us (tt_o (K j).2.2.1) a1 a2 a3)), (5, .int (nI (tt_o (K j).2.2.1))), (0, .ref (ad 0)), (1, .int (nI j)), (2, .int a1), (3, .int a2), (4, .int a3)]) hx hb dX4_seek_67 hl (by decide) rfl (fun ls hl => ?_)
        have J2 : W p l e ({ frames := 3, cells := 0, slots := 0, locals := 79 } : Room) s m ([.ref (ad 0), .int (nI j), .int a1, .int a2, .int a3] : List Value).toArray below meth c H locs 0 0 Q (F0 m 90 ls [.int (tt_uo (tt_o (K j).2.2.1) a1 a2 a3)]) := by
          refine lv_istore (lv' := [(8, .int (tt_uo (tt_o (K j).2.2.1) a1 a2 a3)), (7, .int (tt_up (tt_o (K j).2.2.1) a1 a2 a3)), (6, .int (tt_us (tt_o (K j).2.2.1) a1 a2 a3)), (5, .int (nI (tt_o (K j).2.2.1))), (0, .ref (ad 0)), (1, .int (nI j)), (2, .int a1), (3, .int a2), (4, .int a3)]) hx hb dX4_seek_90 hl (by decide) rfl (fun ls hl => ?_)
          refine lv_aload_n hx hb dX4_seek_92 rfl (lv_at hl 4 rfl) ?_
          refine lv_iload_n hx hb dX4_seek_93 rfl (lv_at hl 5 rfl) ?_
          refine lv_iconst (v := 1) hx hb dX4_seek_94 (by decide) ?_
          refine lv_iload hx hb dX4_seek_95 (lv_at hl 2 rfl) ?_
          refine lv_iload hx hb dX4_seek_97 (lv_at hl 1 rfl) ?_
          refine lv_iload hx hb dX4_seek_99 (lv_at hl 0 rfl) ?_
          refine tt_fulli (va_runV (As := [.int (nI j), .int 1, .int (tt_us (tt_o (K j).2.2.1) a1 a2 a3), .int (tt_up (tt_o (K j).2.2.1) a1 a2 a3), .int (tt_uo (tt_o (K j).2.2.1) a1 a2 a3)]) (rest := []) hfix (c_X4_goOn l D cI cZ cO cC ad cx n L ch K hQ (nI j) true (tt_us (tt_o (K j).2.2.1) a1 a2 a3) (tt_up (tt_o (K j).2.2.1) a1 a2 a3) (tt_uo (tt_o (K j).2.2.1) a1 a2 a3) hI hn hKI _) (cwV 5 hts gX4_seek_X4_goOn rfl rfl rfl (by decide +kernel) ⟨Nat.le_of_ble_eq_true rfl, Nat.le_of_ble_eq_true rfl⟩) (tt_mpreV (q0 := 0) (ci := 4) hK hP hD tt_E.no (tt_bg (by omega) h9.1) rfl) rfl rfl hl.1 rfl (lv_room (Nat.le_of_ble_eq_true rfl)) dX4_seek_101 ⟨Nat.zero_le _, Nat.zero_le _⟩) hD hS hA (fun r1 cx H locs hu hP hD hS => ?_)
          exact kr _ _ _ _ _ cx (tt_go_at hj hop hu) hP hS dX4_seek_104
        refine lv_iload hx hb dX4_seek_69 (lv_at hl 2 rfl) ?_
        refine lv_if_ne (tgt := 79) hx hb dX4_seek_71 (by decide) (fun hb71 => ?_) (fun hb71 => ?_)
        · have hb71 : ¬ tt_o (K j).2.2.1 = 0 := fun hz9 => hb71 ((nI_eq (a := tt_o (K j).2.2.1) (b := 0) (by omega) (by omega)).mpr hz9)
          refine lv_iload hx hb dX4_seek_79 (lv_at hl 2 rfl) ?_
          refine lv_iconst (v := 1) hx hb dX4_seek_81 (by decide) ?_
          refine lv_icmp_ne (tgt := 89) hx hb dX4_seek_82 (by decide) (fun hb82 => ?_) (fun hb82 => ?_)
          · have hb82 : ¬ tt_o (K j).2.2.1 = 1 := fun hz9 => hb82 ((nI_eq (a := tt_o (K j).2.2.1) (b := 1) (by omega) (by omega)).mpr hz9)
            refine lv_iload_n hx hb dX4_seek_89 rfl (lv_at hl 5 rfl) ?_
            refine tt_rei (show a1 = (tt_uo (tt_o (K j).2.2.1) a1 a2 a3) from by unfold tt_uo; rw [if_neg hb71, if_neg hb82]) ?_
            exact J2
          · have hb82 : tt_o (K j).2.2.1 = 1 := (nI_eq (a := tt_o (K j).2.2.1) (b := 1) (by omega) (by omega)).mp hb82
            refine lv_iload_n hx hb dX4_seek_85 rfl (lv_at hl 6 rfl) ?_
            refine lv_goto (tgt := 90) hx hb dX4_seek_86 (by decide) ?_
            refine tt_rei (show a2 = (tt_uo (tt_o (K j).2.2.1) a1 a2 a3) from by unfold tt_uo; rw [if_neg hb71, if_pos hb82]) ?_
            exact J2
        · have hb71 : tt_o (K j).2.2.1 = 0 := (nI_eq (a := tt_o (K j).2.2.1) (b := 0) (by omega) (by omega)).mp hb71
          refine lv_iload hx hb dX4_seek_74 (lv_at hl 7 rfl) ?_
          refine lv_goto (tgt := 90) hx hb dX4_seek_76 (by decide) ?_
          refine tt_rei (show a3 = (tt_uo (tt_o (K j).2.2.1) a1 a2 a3) from by unfold tt_uo; rw [if_pos hb71]) ?_
          exact J2
      refine lv_iload hx hb dX4_seek_46 (lv_at hl 1 rfl) ?_
      refine lv_if_ne (tgt := 55) hx hb dX4_seek_48 (by decide) (fun hb48 => ?_) (fun hb48 => ?_)
      · have hb48 : ¬ tt_o (K j).2.2.1 = 0 := fun hz9 => hb48 ((nI_eq (a := tt_o (K j).2.2.1) (b := 0) (by omega) (by omega)).mpr hz9)
        refine lv_iload hx hb dX4_seek_55 (lv_at hl 1 rfl) ?_
        refine lv_iconst (v := 1) hx hb dX4_seek_57 (by decide) ?_
        refine lv_icmp_ne (tgt := 65) hx hb dX4_seek_58 (by decide) (fun hb58 => ?_) (fun hb58 => ?_)
        · have hb58 : ¬ tt_o (K j).2.2.1 = 1 := fun hz9 => hb58 ((nI_eq (a := tt_o (K j).2.2.1) (b := 1) (by omega) (by omega)).mpr hz9)
          refine lv_iload hx hb dX4_seek_65 (lv_at hl 6 rfl) ?_
          refine tt_rei (show a3 = (tt_up (tt_o (K j).2.2.1) a1 a2 a3) from by unfold tt_up; rw [if_neg hb48, if_neg hb58]) ?_
          exact J1
        · have hb58 : tt_o (K j).2.2.1 = 1 := (nI_eq (a := tt_o (K j).2.2.1) (b := 1) (by omega) (by omega)).mp hb58
          refine lv_iload_n hx hb dX4_seek_61 rfl (lv_at hl 4 rfl) ?_
          refine lv_goto (tgt := 67) hx hb dX4_seek_62 (by decide) ?_
          refine tt_rei (show a1 = (tt_up (tt_o (K j).2.2.1) a1 a2 a3) from by unfold tt_up; rw [if_neg hb48, if_pos hb58]) ?_
          exact J1
      · have hb48 : tt_o (K j).2.2.1 = 0 := (nI_eq (a := tt_o (K j).2.2.1) (b := 0) (by omega) (by omega)).mp hb48
        refine lv_iload_n hx hb dX4_seek_51 rfl (lv_at hl 5 rfl) ?_
        refine lv_goto (tgt := 67) hx hb dX4_seek_52 (by decide) ?_
        refine tt_rei (show a2 = (tt_up (tt_o (K j).2.2.1) a1 a2 a3) from by unfold tt_up; rw [if_pos hb48]) ?_
        exact J1
    refine lv_iload hx hb dX4_seek_23 (lv_at hl 0 rfl) ?_
    refine lv_if_ne (tgt := 32) hx hb dX4_seek_25 (by decide) (fun hb25 => ?_) (fun hb25 => ?_)
    · have hb25 : ¬ tt_o (K j).2.2.1 = 0 := fun hz9 => hb25 ((nI_eq (a := tt_o (K j).2.2.1) (b := 0) (by omega) (by omega)).mpr hz9)
      refine lv_iload hx hb dX4_seek_32 (lv_at hl 0 rfl) ?_
      refine lv_iconst (v := 1) hx hb dX4_seek_34 (by decide) ?_
      refine lv_icmp_ne (tgt := 43) hx hb dX4_seek_35 (by decide) (fun hb35 => ?_) (fun hb35 => ?_)
      · have hb35 : ¬ tt_o (K j).2.2.1 = 1 := fun hz9 => hb35 ((nI_eq (a := tt_o (K j).2.2.1) (b := 1) (by omega) (by omega)).mpr hz9)
        refine lv_iload_n hx hb dX4_seek_43 rfl (lv_at hl 4 rfl) ?_
        refine tt_rei (show a2 = (tt_us (tt_o (K j).2.2.1) a1 a2 a3) from by unfold tt_us; rw [if_neg hb25, if_neg hb35]) ?_
        exact J0
      · have hb35 : tt_o (K j).2.2.1 = 1 := (nI_eq (a := tt_o (K j).2.2.1) (b := 1) (by omega) (by omega)).mp hb35
        refine lv_iload hx hb dX4_seek_38 (lv_at hl 5 rfl) ?_
        refine lv_goto (tgt := 44) hx hb dX4_seek_40 (by decide) ?_
        refine tt_rei (show a3 = (tt_us (tt_o (K j).2.2.1) a1 a2 a3) from by unfold tt_us; rw [if_neg hb25, if_pos hb35]) ?_
        exact J0
    · have hb25 : tt_o (K j).2.2.1 = 0 := (nI_eq (a := tt_o (K j).2.2.1) (b := 0) (by omega) (by omega)).mp hb25
      refine lv_iload_n hx hb dX4_seek_28 rfl (lv_at hl 3 rfl) ?_
      refine lv_goto (tgt := 44) hx hb dX4_seek_29 (by decide) ?_
      refine tt_rei (show a1 = (tt_us (tt_o (K j).2.2.1) a1 a2 a3) from by unfold tt_us; rw [if_pos hb25]) ?_
      exact J0
set_option maxHeartbeats 4000000 in
set_option maxRecDepth 100000 in
theorem c_X4_close (l : Launch) (D : va_G) (cI cZ cO cC : ClassId) (ad : Nat → Nat) (cx : Nat → va_E) (n : Nat) (L : Nat → List tt_T3) (ch : Nat) (K : Nat → tt_KU) (hQ : tt_Q cI cZ ad cx n L ch K) (c1 : Int32) (hKI : tt_KI K n) : tt_Muti (S := (Nat → va_E)) l yX4_close wsX4_close ({ frames := 1, cells := 0, slots := 0, locals := 21 } : Room) D (tt_tys cI cZ cO cC) false (tt_blk 9 ad cx) [.ref (ad 0), .int c1] (fun r u => (¬ tt_ok K c1 ∧ r = 0 ∧ tt_Q cI cZ ad u n L ch K) ∨ (∃ j, j < 8 ∧ c1 = nI j ∧ (K j).1 = true ∧ r = 1 ∧ tt_Q cI cZ ad u n L ch (va_up K j (false, false, (K j).2.2)))) (fun u => tt_blk 9 ad u) := by
  refine tt_muti (cc := cX4_close) (maxL := 2) (rt := .boolean) (by decide) rfl (fun r _ h => by rcases h with ⟨-, h, -⟩ | ⟨j, -, -, -, h, -⟩ <;> (rw [h]; rfl)) (Nat.le_of_ble_eq_true rfl) ?_
  intro p e s m below meth c Q ls A hfix hK hP hD hA hE hl kr
  obtain ⟨hx, hb, hml, hown, hts⟩ := id hfix
  have hown : s.vm.findClass RX4 = some m.cls := hown
  have hfix : CallFix p m c cX4_close 2 s ([.ref (ad 0), .int c1] : List Value).toArray wsX4_close RX4 := hfix
  have hl : lv_has ls 2 [(0, .ref (ad 0)), (1, .int c1)] := hl
  have hf13 := hts (.fieldLink RX4 13 "TripleTreesModel" "isOpen" "[Z") (by decide +kernel)
  have hf17 := hts (.fieldLink RX4 17 "TripleTreesModel" "isStale" "[Z") (by decide +kernel)
  have hinX4 : ∀ w ∈ u_ws RX4 TX4 11, w ∈ wsX4_close := by decide +kernel
  have hS : va_S A s.heap s.heap [] := va_S.rf
  obtain ⟨mt, f, me, ms, h9, hf⟩ := id hQ
  refine lv_aload_n hx hb dX4_close_0 rfl (lv_at hl 0 rfl) ?_
  refine lv_iload_n hx hb dX4_close_1 rfl (lv_at hl 1 rfl) ?_
  have hPc := hP
  refine tt_calli (va_runV (As := [.int c1]) (rest := []) hfix (c_X4_isCursor l D cI cZ cO cC ad cx n L ch K hQ c1) (cwV 1 hts gX4_close_X4_isCursor rfl rfl rfl (by decide +kernel) ⟨Nat.le_of_ble_eq_true rfl, Nat.le_of_ble_eq_true rfl⟩) (tt_preV (q0 := 0) (ci := 4) hK hPc tt_E.no (tt_bg (by omega) h9.1) rfl) rfl rfl hl.1 rfl (lv_room (Nat.le_of_ble_eq_true rfl)) dX4_close_2 ⟨Nat.zero_le _, Nat.zero_le _⟩) hP hS (fun H locs hP hS => ?_)
  refine lv_if_ne (tgt := 10) hx hb dX4_close_5 (by decide) (fun hb5 => ?_) (fun hb5 => ?_)
  · obtain ⟨j, hj, e1⟩ : ∃ j : Nat, j < 8 ∧ c1 = nI j := tt_ix (n := 8) (by omega) (tt_if1 hb5).1 (tt_if1 hb5).2.1
    have hop := tt_if1 hb5
    subst e1
    have hop := (tt_ok_in hj).mp hop
    obtain ⟨hm, hpk⟩ := hKI j hj
    refine lv_aload_n hx hb dX4_close_10 rfl (lv_at hl 0 rfl) ?_
    refine va_get (D := D) (ci := 4) (v := .ref (ad 2)) (C := RX4) (T := TX4) (N := 11) hx hb hts hinX4 hown hK hP 0 (tt_bg (by omega) h9.1) rfl 3 (by decide) hf13 (fun _ h9 => h9) rfl dX4_close_11 ?_
    refine lv_iload_n hx hb dX4_close_14 rfl (lv_at hl 1 rfl) ?_
    refine lv_iconst (v := 0) hx hb dX4_close_15 (by decide) ?_
    refine va_zast hx hb hK hP hD hS 2 1 (tt_bg (by omega) h9.2.2.1) rfl (vp_in_nI (n := j) (by omega) (by omega)) dX4_close_16 (fun H locs hP hD hS => ?_)
    rw [nI_clamp (n := j) (by omega)] at hP hD
    obtain ⟨cx, h9, hP, hD⟩ : ∃ zg : Nat → va_E, tt_C9 zg (.inr (4, [.ref (ad 1), .int (nI n), .int (nI ch), .ref (ad 2), .ref (ad 3), .ref (ad 4), .ref (ad 5), .ref (ad 6), .ref (ad 7), .ref (ad 8), .int mt])) (.inl (cI, 6303, .inl f)) (.inl (cZ, 8, .inl (upd (fun j => tt_b (K j).1) j 0))) (.inl (cZ, 8, .inl (fun j => tt_b (K j).2.1))) (.inl (cI, 8, .inl (fun j => nI (K j).2.2.1))) (.inl (cI, 24, .inl (tt_kp K))) (.inl (cI, 8, .inl (fun j => nI (K j).2.2.2.2.2.2 - 1))) (.inl (cI, 1402, .inl me)) (.inl (cI, 1402, .inl ms)) ∧ va_P D vwCl (tt_blk 9 ad zg) H ∧ va_D A (tt_blk 9 ad zg) := ⟨_, h9.set2, by rw [← tt_bset]; exact hP, by rw [← tt_bset]; exact hD⟩
    refine lv_aload_n hx hb dX4_close_17 rfl (lv_at hl 0 rfl) ?_
    refine va_get (D := D) (ci := 4) (v := .ref (ad 3)) (C := RX4) (T := TX4) (N := 11) hx hb hts hinX4 hown hK hP 0 (tt_bg (by omega) h9.1) rfl 4 (by decide) hf17 (fun _ h9 => h9) rfl dX4_close_18 ?_
    refine lv_iload_n hx hb dX4_close_21 rfl (lv_at hl 1 rfl) ?_
    refine lv_iconst (v := 0) hx hb dX4_close_22 (by decide) ?_
    refine va_zast hx hb hK hP hD hS 3 1 (tt_bg (by omega) h9.2.2.2.1) rfl (vp_in_nI (n := j) (by omega) (by omega)) dX4_close_23 (fun H locs hP hD hS => ?_)
    rw [nI_clamp (n := j) (by omega)] at hP hD
    obtain ⟨cx, h9, hP, hD⟩ : ∃ zg : Nat → va_E, tt_C9 zg (.inr (4, [.ref (ad 1), .int (nI n), .int (nI ch), .ref (ad 2), .ref (ad 3), .ref (ad 4), .ref (ad 5), .ref (ad 6), .ref (ad 7), .ref (ad 8), .int mt])) (.inl (cI, 6303, .inl f)) (.inl (cZ, 8, .inl (upd (fun j => tt_b (K j).1) j 0))) (.inl (cZ, 8, .inl (upd (fun j => tt_b (K j).2.1) j 0))) (.inl (cI, 8, .inl (fun j => nI (K j).2.2.1))) (.inl (cI, 24, .inl (tt_kp K))) (.inl (cI, 8, .inl (fun j => nI (K j).2.2.2.2.2.2 - 1))) (.inl (cI, 1402, .inl me)) (.inl (cI, 1402, .inl ms)) ∧ va_P D vwCl (tt_blk 9 ad zg) H ∧ va_D A (tt_blk 9 ad zg) := ⟨_, h9.set3, by rw [← tt_bset]; exact hP, by rw [← tt_bset]; exact hD⟩
    refine lv_iconst (v := 1) hx hb dX4_close_24 (by decide) ?_
    exact kr _ _ _ _ _ cx (Or.inr ⟨j, hj, rfl, hop, rfl, mt, f, me, ms, tt_close_C9 h9, hf⟩) hP hS dX4_close_25
  · refine lv_iconst (v := 0) hx hb dX4_close_8 (by decide) ?_
    exact kr _ _ _ _ _ cx (Or.inl ⟨tt_if0 hb5, rfl, hQ⟩) hP hS dX4_close_9
