/-! own rows: cells of a TripleTrees behind a write -/
theorem tt_C1 {ws : va_W} {i : Nat} {a : Nat × va_E} (h1 : ws[i]? = some a) : [i].map (fun k => ws[k]?) = [a].map some := by simp [h1]
theorem tt_C2 {ws : va_W} {i j : Nat} {a b : Nat × va_E} (h1 : ws[i]? = some a) (h2 : ws[j]? = some b) : [i, j].map (fun k => ws[k]?) = [a, b].map some := by simp [h1, h2]
theorem tt_C4 {ws : va_W} {i j k n : Nat} {a b c d : Nat × va_E} (h1 : ws[i]? = some a) (h2 : ws[j]? = some b) (h3 : ws[k]? = some c) (h4 : ws[n]? = some d) : [i, j, k, n].map (fun k => ws[k]?) = [a, b, c, d].map some := by simp [h1, h2, h3, h4]
theorem tt_nd1 (a : Nat) : va_nd [a] = true := by simp [va_nd]
theorem tt_nd2 {a b : Nat} (h : a ≠ b) : va_nd [a, b] = true := by simp [va_nd, h]
theorem tt_pick {D : va_G} {ws W0 : va_W} {H : Heap} (hP : va_P D vwCl ws H) {is : List Nat} (hC : is.map (fun i => ws[i]?) = W0.map some) : va_P D vwCl W0 H := by
  intro k q hk
  have h1 : (is.map (fun i => ws[i]?))[k]? = some (some q) := by rw [hC, List.getElem?_map, hk]; rfl
  rw [List.getElem?_map] at h1
  cases hi : is[k]? with
  | none => rw [hi] at h1; cases h1
  | some i => rw [hi] at h1; exact hP i q (Option.some.inj h1)
theorem tt_put1 {n a : Nat} {ad : Nat → Nat} {cx : Nat → va_E} {E : va_E} : tt_put (tt_blk n ad cx) [a] [(ad a, E)] = tt_blk n ad (va_up cx a E) := by
  show (tt_blk n ad cx).set a _ = _
  rw [tt_bset]
theorem tt_put2 {n a b : Nat} {ad : Nat → Nat} {cx : Nat → va_E} {E F : va_E} : tt_put (tt_blk n ad cx) [a, b] [(ad a, E), (ad b, F)] = tt_blk n ad (va_up (va_up cx a E) b F) := by
  show ((tt_blk n ad cx).set a _).set b _ = _
  rw [tt_bset, tt_bset]
theorem tt_put4 {n a b c d : Nat} {ad : Nat → Nat} {cx : Nat → va_E} {E F G I : va_E} : tt_put (tt_blk n ad cx) [a, b, c, d] [(ad a, E), (ad b, F), (ad c, G), (ad d, I)] = tt_blk n ad (va_up (va_up (va_up (va_up cx a E) b F) c G) d I) := by
  show ((((tt_blk n ad cx).set a _).set b _).set c _).set d _ = _
  rw [tt_bset, tt_bset, tt_bset, tt_bset]
theorem tt_blk_fst (n : Nat) (ad : Nat → Nat) (cx : Nat → va_E) : (tt_blk n ad cx).map Prod.fst = (List.range n).map ad := by
  unfold tt_blk
  rw [List.map_map]
  rfl
theorem tt_D_same {A : Nat → Prop} {ws ws' : va_W} (hD : va_D A ws) (h : ws'.map Prod.fst = ws.map Prod.fst) : va_D A ws' := by
  have key : ∀ (k : Nat) (q : Nat × va_E), ws'[k]? = some q → ∃ q0, ws[k]? = some q0 ∧ q0.1 = q.1 := by
    intro k q hk
    have h1 : (ws'.map Prod.fst)[k]? = some q.1 := by rw [List.getElem?_map, hk]; rfl
    rw [h, List.getElem?_map] at h1
    cases h2 : ws[k]? with
    | none => rw [h2] at h1; cases h1
    | some q0 => rw [h2] at h1; exact ⟨q0, rfl, Option.some.inj h1⟩
  refine ⟨fun i j x y hx hy hxy => ?_, fun k q hk => ?_⟩
  · obtain ⟨x0, h1, h2⟩ := key i x hx
    obtain ⟨y0, h3, h4⟩ := key j y hy
    exact hD.1 i j x0 y0 h1 h3 (h2.trans (hxy.trans h4.symm))
  · obtain ⟨q0, h1, h2⟩ := key k q hk
    rw [← h2]
    exact hD.2 k q0 h1
theorem tt_freeF {A : Nat → Prop} {ws : va_W} {H0 H : Heap} {locs : List Loc} (hD : va_D A ws) (hS : va_S A H0 H locs) (hA : ∀ q, H0.size ≤ q → A q) : ∀ q, va_A ws H.size q → A q := by
  intro q h
  rcases h with ⟨k, e, h⟩ | h
  · exact hD.2 k (q, e) h
  · exact hA q (Nat.le_trans hS.1 h)
section TTF
variable {p : Program} {l : Launch} {e : Env} {R : Room} {s : State} {m : MethodId} {args : Array Value} {below : List Frame} {meth : Method} {c : Code} {H H0 : Heap} {locs : List Loc} {cells slots : Nat} {Q : State → Prop} {pc : Nat} {ls : Array Slot} {rest st0 : List Value} {A0 : Nat → Prop} {D : va_G} {n : Nat} {ad : Nat → Nat} {cx : Nat → va_E}
/-- a call that writes into the whole world -/
theorem tt_fulli {post : Int32 → (Nat → va_E) → Prop} {a : Array Value} (hr : va_Run p l e R s m args below meth c H locs cells slots 0 0 (F0 m pc ls st0) rest (tt_Wi D (tt_blk n ad cx) H.size post (fun u => tt_blk n ad u) a) (va_A (tt_blk n ad cx) H.size)) (hD : va_D A0 (tt_blk n ad cx)) (hS : va_S A0 H0 H locs) (hA : ∀ q, H0.size ≤ q → A0 q)
    (kk : ∀ (r : Int32) (u : Nat → va_E) (H1 : Heap) (locs1 : List Loc), post r u → va_P D vwCl (tt_blk n ad u) H1 → va_D A0 (tt_blk n ad u) → va_S A0 H0 H1 locs1 → W p l e R s m args below meth c H1 locs1 cells slots Q (F0 m (pc + 3) ls (.int r :: rest))) : W p l e R s m args below meth c H locs cells slots Q (F0 m pc ls st0) := by
  have hF := tt_freeF hD hS hA
  refine va_calli hr hS (fun q _ h => hF q h) hF (fun r u t H1 locs1 ht hvm hw hB hz hk hS1 => ?_)
  have hB : va_P D vwCl (tt_blk n ad u) t.heap := hB
  rw [ht] at hB
  exact kk r u H1 locs1 hw hB (tt_D_same hD (by rw [tt_blk_fst, tt_blk_fst])) hS1
theorem tt_fullv {post : (Nat → va_E) → Prop} {a : Array Value} (hr : va_Run p l e R s m args below meth c H locs cells slots 0 0 (F0 m pc ls st0) rest (tt_Wv D (tt_blk n ad cx) H.size post (fun u => tt_blk n ad u) a) (va_A (tt_blk n ad cx) H.size)) (hD : va_D A0 (tt_blk n ad cx)) (hS : va_S A0 H0 H locs) (hA : ∀ q, H0.size ≤ q → A0 q)
    (kk : ∀ (u : Nat → va_E) (H1 : Heap) (locs1 : List Loc), post u → va_P D vwCl (tt_blk n ad u) H1 → va_D A0 (tt_blk n ad u) → va_S A0 H0 H1 locs1 → W p l e R s m args below meth c H1 locs1 cells slots Q (F0 m (pc + 3) ls rest)) : W p l e R s m args below meth c H locs cells slots Q (F0 m pc ls st0) := by
  have hF := tt_freeF hD hS hA
  refine va_callv hr hS (fun q _ h => hF q h) hF (fun u t H1 locs1 ht hvm hw hB hz hk hS1 => ?_)
  have hB : va_P D vwCl (tt_blk n ad u) t.heap := hB
  rw [ht] at hB
  exact kk u H1 locs1 hw hB (tt_D_same hD (by rw [tt_blk_fst, tt_blk_fst])) hS1
end TTF
/-- the walk's rows -/
def tt_W (cI cZ : ClassId) (ad : Nat → Nat) (cx : Nat → va_E) (wc : Nat) (wi wst wm : Nat → Int32) : Prop := cx 3 = .inr (2, [.ref (ad 4), .ref (ad 5), .ref (ad 6), .int (nI wc)]) ∧ cx 4 = .inl (cI, 701, .inl wi) ∧ cx 5 = .inl (cI, 701, .inl wst) ∧ cx 6 = .inl (cZ, 700, .inl wm)
section TTA
variable {cI cZ cO cC : ClassId} {ad : Nat → Nat} {cx : Nat → va_E} {L L' : Nat → List tt_T3} {ch : Nat} {C : Nat → tt_CU} {D : va_G} {A : Nat → Prop} {H : Heap}
theorem tt_R.congr (hR : tt_R cI cZ cO cC ad cx L ch C) (h : ∀ k, k < 3 → L' k = L k) : tt_R cI cZ cO cC ad cx L' ch C := by
  obtain ⟨h0, h1, h2, h3, h4, h5⟩ := hR
  refine ⟨h0, h1, h2, h3, fun i hi => ?_, h5⟩
  rw [h i hi]
  exact h4 i hi
theorem tt_R.setO (hR : tt_R cI cZ cO cC ad cx L ch C) {i m : Nat} (hi : i < 3) {f' : Nat → Int32} (hf : tt_RO i f' (L' i)) (hm : m = (L' i).length) (h2 : ∀ k, k < 3 → k ≠ i → L' k = L k) : tt_R cI cZ cO cC ad (va_up (va_up cx (7 + i) (.inr (1, [.int (nI i), .ref (ad (10 + i)), .int (nI m)]))) (10 + i) (.inl (cI, 2100, .inl f'))) L' ch C := by
  obtain ⟨r0, r1, r2, ⟨wc, wi, wst, wm, r3, r4, r5, r6⟩, ro, rc⟩ := hR
  subst hm
  refine ⟨?_, ?_, ?_, ⟨wc, wi, wst, wm, ?_, ?_, ?_, ?_⟩, fun k hk => ?_, fun j hj => ?_⟩
  · rw [va_up_ne _ _ (by omega), va_up_ne _ _ (by omega)]; exact r0
  · rw [va_up_ne _ _ (by omega), va_up_ne _ _ (by omega)]; exact r1
  · rw [va_up_ne _ _ (by omega), va_up_ne _ _ (by omega)]; exact r2
  · rw [va_up_ne _ _ (by omega), va_up_ne _ _ (by omega)]; exact r3
  · rw [va_up_ne _ _ (by omega), va_up_ne _ _ (by omega)]; exact r4
  · rw [va_up_ne _ _ (by omega), va_up_ne _ _ (by omega)]; exact r5
  · rw [va_up_ne _ _ (by omega), va_up_ne _ _ (by omega)]; exact r6
  · by_cases e : k = i
    · subst e
      exact ⟨f', by rw [va_up_ne _ _ (by omega), va_up_self], va_up_self _ _ _, hf⟩
    · obtain ⟨f, q1, q2, q3⟩ := ro k hk
      rw [h2 k hk e]
      exact ⟨f, by rw [va_up_ne _ _ (by omega), va_up_ne _ _ (by omega)]; exact q1, by rw [va_up_ne _ _ (by omega), va_up_ne _ _ (by omega)]; exact q2, q3⟩
  · rw [va_up_ne _ _ (by omega), va_up_ne _ _ (by omega)]; exact rc j hj
theorem tt_R.setC (hR : tt_R cI cZ cO cC ad cx L ch C) {j : Nat} (hj : j < 8) (u : tt_CU) : tt_R cI cZ cO cC ad (va_up cx (13 + j) (.inr (0, tt_cv u))) L ch (va_up C j u) := by
  obtain ⟨r0, r1, r2, ⟨wc, wi, wst, wm, r3, r4, r5, r6⟩, ro, rc⟩ := hR
  refine ⟨?_, ?_, ?_, ⟨wc, wi, wst, wm, ?_, ?_, ?_, ?_⟩, fun k hk => ?_, fun i hi => ?_⟩
  · rw [va_up_ne _ _ (by omega)]; exact r0
  · rw [va_up_ne _ _ (by omega)]; exact r1
  · rw [va_up_ne _ _ (by omega)]; exact r2
  · rw [va_up_ne _ _ (by omega)]; exact r3
  · rw [va_up_ne _ _ (by omega)]; exact r4
  · rw [va_up_ne _ _ (by omega)]; exact r5
  · rw [va_up_ne _ _ (by omega)]; exact r6
  · obtain ⟨f, q1, q2, q3⟩ := ro k hk
    exact ⟨f, by rw [va_up_ne _ _ (by omega)]; exact q1, by rw [va_up_ne _ _ (by omega)]; exact q2, q3⟩
  · by_cases e : i = j
    · subst e
      rw [va_up_self, va_up_self]
    · rw [va_up_ne _ _ (by omega), va_up_ne _ _ e]
      exact rc i hi
theorem tt_R.setH (hR : tt_R cI cZ cO cC ad cx L ch C) (ch' : Nat) : tt_R cI cZ cO cC ad (va_up cx 0 (.inr (3, [.ref (ad 1), .ref (ad 2), .ref (ad 3), .int (nI ch')]))) L ch' C := by
  obtain ⟨r0, r1, r2, ⟨wc, wi, wst, wm, r3, r4, r5, r6⟩, ro, rc⟩ := hR
  refine ⟨va_up_self _ _ _, ?_, ?_, ⟨wc, wi, wst, wm, ?_, ?_, ?_, ?_⟩, fun k hk => ?_, fun i hi => ?_⟩
  · rw [va_up_ne _ _ (by omega)]; exact r1
  · rw [va_up_ne _ _ (by omega)]; exact r2
  · rw [va_up_ne _ _ (by omega)]; exact r3
  · rw [va_up_ne _ _ (by omega)]; exact r4
  · rw [va_up_ne _ _ (by omega)]; exact r5
  · rw [va_up_ne _ _ (by omega)]; exact r6
  · obtain ⟨f, q1, q2, q3⟩ := ro k hk
    exact ⟨f, by rw [va_up_ne _ _ (by omega)]; exact q1, by rw [va_up_ne _ _ (by omega)]; exact q2, q3⟩
  · rw [va_up_ne _ _ (by omega)]
    exact rc i hi
theorem tt_R.setW (hR : tt_R cI cZ cO cC ad cx L ch C) (wc : Nat) (wi wst wm : Nat → Int32) : tt_R cI cZ cO cC ad (va_up (va_up (va_up (va_up cx 3 (.inr (2, [.ref (ad 4), .ref (ad 5), .ref (ad 6), .int (nI wc)]))) 4 (.inl (cI, 701, .inl wi))) 5 (.inl (cI, 701, .inl wst))) 6 (.inl (cZ, 700, .inl wm))) L ch C ∧ tt_W cI cZ ad (va_up (va_up (va_up (va_up cx 3 (.inr (2, [.ref (ad 4), .ref (ad 5), .ref (ad 6), .int (nI wc)]))) 4 (.inl (cI, 701, .inl wi))) 5 (.inl (cI, 701, .inl wst))) 6 (.inl (cZ, 700, .inl wm))) wc wi wst wm := by
  obtain ⟨r0, r1, r2, -, ro, rc⟩ := hR
  have hw : tt_W cI cZ ad (va_up (va_up (va_up (va_up cx 3 (.inr (2, [.ref (ad 4), .ref (ad 5), .ref (ad 6), .int (nI wc)]))) 4 (.inl (cI, 701, .inl wi))) 5 (.inl (cI, 701, .inl wst))) 6 (.inl (cZ, 700, .inl wm))) wc wi wst wm := by
    refine ⟨?_, ?_, ?_, va_up_self _ _ _⟩
    · rw [va_up_ne _ _ (by omega), va_up_ne _ _ (by omega), va_up_ne _ _ (by omega), va_up_self]
    · rw [va_up_ne _ _ (by omega), va_up_ne _ _ (by omega), va_up_self]
    · rw [va_up_ne _ _ (by omega), va_up_self]
  refine ⟨⟨?_, ?_, ?_, ⟨wc, wi, wst, wm, hw⟩, fun k hk => ?_, fun i hi => ?_⟩, hw⟩
  · rw [va_up_ne _ _ (by omega), va_up_ne _ _ (by omega), va_up_ne _ _ (by omega), va_up_ne _ _ (by omega)]; exact r0
  · rw [va_up_ne _ _ (by omega), va_up_ne _ _ (by omega), va_up_ne _ _ (by omega), va_up_ne _ _ (by omega)]; exact r1
  · rw [va_up_ne _ _ (by omega), va_up_ne _ _ (by omega), va_up_ne _ _ (by omega), va_up_ne _ _ (by omega)]; exact r2
  · obtain ⟨f, q1, q2, q3⟩ := ro k hk
    exact ⟨f, by rw [va_up_ne _ _ (by omega), va_up_ne _ _ (by omega), va_up_ne _ _ (by omega), va_up_ne _ _ (by omega)]; exact q1, by rw [va_up_ne _ _ (by omega), va_up_ne _ _ (by omega), va_up_ne _ _ (by omega), va_up_ne _ _ (by omega)]; exact q2, q3⟩
  · rw [va_up_ne _ _ (by omega), va_up_ne _ _ (by omega), va_up_ne _ _ (by omega), va_up_ne _ _ (by omega)]
    exact rc i hi
/-- behind a write into order i -/
theorem tt_aftO (hR : tt_R cI cZ cO cC ad cx L ch C) {i m : Nat} (hi : i < 3) {f' : Nat → Int32} (hf : tt_RO i f' (L' i)) (hm : m = (L' i).length) (h2 : ∀ k, k < 3 → k ≠ i → L' k = L k)
    (hP : va_P D vwCl (tt_put (tt_blk 21 ad cx) [7 + i, 10 + i] [(ad (7 + i), .inr (1, [.int (nI i), .ref (ad (10 + i)), .int (nI m)])), (ad (10 + i), .inl (cI, 2100, .inl f'))]) H) (hD : va_D A (tt_put (tt_blk 21 ad cx) [7 + i, 10 + i] [(ad (7 + i), .inr (1, [.int (nI i), .ref (ad (10 + i)), .int (nI m)])), (ad (10 + i), .inl (cI, 2100, .inl f'))])) :
    ∃ cx' : Nat → va_E, tt_R cI cZ cO cC ad cx' L' ch C ∧ va_P D vwCl (tt_blk 21 ad cx') H ∧ va_D A (tt_blk 21 ad cx') := by
  rw [tt_put2] at hP hD
  exact ⟨_, hR.setO hi hf hm h2, hP, hD⟩
theorem tt_aftC (hR : tt_R cI cZ cO cC ad cx L ch C) {j : Nat} (hj : j < 8) (u : tt_CU) {v : List Value} (hv : tt_cv u = v) (hP : va_P D vwCl (tt_put (tt_blk 21 ad cx) [13 + j] [(ad (13 + j), .inr (0, v))]) H) (hD : va_D A (tt_put (tt_blk 21 ad cx) [13 + j] [(ad (13 + j), .inr (0, v))])) :
    ∃ cx' : Nat → va_E, tt_R cI cZ cO cC ad cx' L ch (va_up C j u) ∧ va_P D vwCl (tt_blk 21 ad cx') H ∧ va_D A (tt_blk 21 ad cx') := by
  subst hv
  rw [tt_put1] at hP hD
  exact ⟨_, hR.setC hj u, hP, hD⟩
theorem tt_aftW (hR : tt_R cI cZ cO cC ad cx L ch C) {wc : Nat} {wi wst wm : Nat → Int32} (hP : va_P D vwCl (tt_put (tt_blk 21 ad cx) [3, 4, 5, 6] [(ad 3, .inr (2, [.ref (ad 4), .ref (ad 5), .ref (ad 6), .int (nI wc)])), (ad 4, .inl (cI, 701, .inl wi)), (ad 5, .inl (cI, 701, .inl wst)), (ad 6, .inl (cZ, 700, .inl wm))]) H) (hD : va_D A (tt_put (tt_blk 21 ad cx) [3, 4, 5, 6] [(ad 3, .inr (2, [.ref (ad 4), .ref (ad 5), .ref (ad 6), .int (nI wc)])), (ad 4, .inl (cI, 701, .inl wi)), (ad 5, .inl (cI, 701, .inl wst)), (ad 6, .inl (cZ, 700, .inl wm))])) :
    ∃ cx' : Nat → va_E, tt_R cI cZ cO cC ad cx' L ch C ∧ tt_W cI cZ ad cx' wc wi wst wm ∧ va_P D vwCl (tt_blk 21 ad cx') H ∧ va_D A (tt_blk 21 ad cx') := by
  rw [tt_put4] at hP hD
  exact ⟨_, (hR.setW wc wi wst wm).1, (hR.setW wc wi wst wm).2, hP, hD⟩
end TTA
/-- the first m orders with t come, the first m with t gone -/
def tt_Lm (t : tt_T3) (L : Nat → List tt_T3) (m : Nat) : Nat → List tt_T3 := fun k => if k < m then tt_ins k t (L k) else L k
def tt_Lz (t : tt_T3) (L : Nat → List tt_T3) (m : Nat) : Nat → List tt_T3 := fun k => if k < m then tt_del t (L k) else L k
theorem tt_Lm_at (t : tt_T3) (L : Nat → List tt_T3) (m : Nat) : tt_Lm t L m m = L m := if_neg (by omega)
theorem tt_Lm_new (t : tt_T3) (L : Nat → List tt_T3) (m : Nat) : tt_Lm t L (m + 1) m = tt_ins m t (L m) := if_pos (by omega)
theorem tt_Lm_ne (t : tt_T3) (L : Nat → List tt_T3) (m : Nat) {k : Nat} (h : k ≠ m) : tt_Lm t L (m + 1) k = tt_Lm t L m k := by
  unfold tt_Lm
  by_cases h1 : k < m
  · rw [if_pos h1, if_pos (by omega)]
  · rw [if_neg h1, if_neg (by omega)]
theorem tt_Lz_at (t : tt_T3) (L : Nat → List tt_T3) (m : Nat) : tt_Lz t L m m = L m := if_neg (by omega)
theorem tt_Lz_new (t : tt_T3) (L : Nat → List tt_T3) (m : Nat) : tt_Lz t L (m + 1) m = tt_del t (L m) := if_pos (by omega)
theorem tt_Lz_ne (t : tt_T3) (L : Nat → List tt_T3) (m : Nat) {k : Nat} (h : k ≠ m) : tt_Lz t L (m + 1) k = tt_Lz t L m k := by
  unfold tt_Lz
  by_cases h1 : k < m
  · rw [if_pos h1, if_pos (by omega)]
  · rw [if_neg h1, if_neg (by omega)]
