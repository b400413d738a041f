/-! own rows: the law -/
/-- what stands at the law's head behind k calls -/
def tt_LS (D : va_G) (cI cZ cO cC : ClassId) (s : State) (adx adm : Nat → Nat) (cx cm : Nat → va_E) (L : Nat → List tt_T3) (ch : Nat) (C : Nat → tt_CU) (K : Nat → tt_KU) (k : Nat) (H : Heap) (locs : List Loc) : Prop := tt_R cI cZ cO cC adx cx L ch C ∧ tt_Q cI cZ adm cm (L 0).length L ch K ∧ tt_SM L ch C K k ∧ va_P D vwCl (tt_blk 21 adx cx) H ∧ va_P D vwCl (tt_blk 9 adm cm) H ∧ va_D (fun q : Nat => s.heap.size ≤ q) (tt_blk 21 adx cx) ∧ va_D (fun q : Nat => s.heap.size ≤ q) (tt_blk 9 adm cm) ∧ va_S (fun q : Nat => s.heap.size ≤ q) s.heap H locs
theorem tt_blk_at {n : Nat} {ad : Nat → Nat} {cx : Nat → va_E} {k : Nat} {q : Nat × va_E} (h : (tt_blk n ad cx)[k]? = some q) : k < n ∧ q = (ad k, cx k) := by
  have hk : k < n := by
    have := (List.getElem?_eq_some_iff.mp h).1
    simpa [tt_blk] using this
  rw [tt_bg hk rfl] at h
  exact ⟨hk, (Option.some.inj h).symm⟩
theorem tt_apX {adx adm : Nat → Nat} {cm : Nat → va_E} (hap : ∀ i j, i < 21 → j < 9 → adx i ≠ adm j) {j : Nat} {q : Nat × va_E} (h : (tt_blk 9 adm cm)[j]? = some q) : ∀ i, i < 21 → adx i ≠ q.1 := by
  obtain ⟨hj, e⟩ := tt_blk_at h
  intro i hi
  rw [e]
  exact hap i j hi hj
theorem tt_apM {adx adm : Nat → Nat} {cx : Nat → va_E} (hap : ∀ i j, i < 21 → j < 9 → adx i ≠ adm j) {j : Nat} {q : Nat × va_E} (h : (tt_blk 21 adx cx)[j]? = some q) : ∀ i, i < 9 → adm i ≠ q.1 := by
  obtain ⟨hj, e⟩ := tt_blk_at h
  intro i hi
  rw [e]
  exact fun z => hap j i hj hi z.symm
section TTL
variable {p : Program} {l : Launch} {e : Env} {R : Room} {s : State} {m : MethodId} {args : Array Value} {below : List Frame} {meth : Method} {c : Code} {H H0 : Heap} {locs : List Loc} {cells slots : Nat} {Q : State → Prop} {pc : Nat} {ls : Array Slot} {rest st0 : List Value} {A0 : Nat → Prop} {D : va_G} {n : Nat} {ad : Nat → Nat} {cx : Nat → va_E} {w1 w2 : va_W}
theorem tt_calli2 {v : Int32} {a : Array Value} (hr : va_Run p l e R s m args below meth c H locs cells slots 0 0 (F0 m pc ls st0) rest (tt_Qi v a) (fun _ => False)) (hP1 : va_P D vwCl w1 H) (hP2 : va_P D vwCl w2 H) (hS : va_S A0 H0 H locs)
    (kk : ∀ (H1 : Heap) (locs1 : List Loc), va_P D vwCl w1 H1 → va_P D vwCl w2 H1 → va_S A0 H0 H1 locs1 → W p l e R s m args below meth c H1 locs1 cells slots Q (F0 m (pc + 3) ls (.int v :: rest))) : W p l e R s m args below meth c H locs cells slots Q (F0 m pc ls st0) := by
  refine va_calli hr hS (fun q _ h => h.elim) (fun q h => h.elim) (fun r u t H1 locs1 ht hvm hw hB hz hk hS1 => ?_)
  cases hw
  exact kk H1 locs1 (hP1.kept (fun k q hq => hk q.1 (hP1 k q hq).lt (fun h => h))) (hP2.kept (fun k q hq => hk q.1 (hP2 k q hq).lt (fun h => h))) hS1
theorem tt_lcall {post : Int32 → (Nat → va_E) → Prop} {a : Array Value} (hr : va_Run p l e R s m args below meth c H locs cells slots 0 0 (F0 m pc ls st0) rest (tt_Wi D (tt_blk n ad cx) H.size post (fun u => tt_blk n ad u) a) (va_A (tt_blk n ad cx) H.size)) (hD : va_D A0 (tt_blk n ad cx)) (hP2 : va_P D vwCl w2 H) (hap : ∀ (k : Nat) (q : Nat × va_E), w2[k]? = some q → ∀ i, i < n → ad i ≠ q.1) (hS : va_S A0 H0 H locs) (hA : ∀ q, H0.size ≤ q → A0 q)
    (kk : ∀ (r : Int32) (u : Nat → va_E) (H1 : Heap) (locs1 : List Loc), post r u → va_P D vwCl (tt_blk n ad u) H1 → va_D A0 (tt_blk n ad u) → va_P D vwCl w2 H1 → va_S A0 H0 H1 locs1 → W p l e R s m args below meth c H1 locs1 cells slots Q (F0 m (pc + 3) ls (.int r :: rest))) : W p l e R s m args below meth c H locs cells slots Q (F0 m pc ls st0) := by
  have hF := tt_freeF hD hS hA
  refine va_calli hr hS (fun q _ h => hF q h) hF (fun r u t H1 locs1 ht hvm hw hB hz hk hS1 => ?_)
  have hB : va_P D vwCl (tt_blk n ad u) t.heap := hB
  rw [ht] at hB
  refine kk r u H1 locs1 hw hB (tt_D_same hD (by rw [tt_blk_fst, tt_blk_fst])) (hP2.kept (fun k q hq => hk q.1 (hP2 k q hq).lt (fun h => ?_))) hS1
  rcases h with ⟨i, e0, h⟩ | h
  · obtain ⟨hi, e1⟩ := tt_blk_at h
    exact hap k q hq i hi (congrArg Prod.fst e1).symm
  · exact absurd (hP2 k q hq).lt (by omega)
theorem tt_reiX {a b x : Int32} (h : a = b) (k : W p l e R s m args below meth c H locs cells slots Q (F0 m pc ls (.int x :: .int b :: rest))) : W p l e R s m args below meth c H locs cells slots Q (F0 m pc ls (.int x :: .int a :: rest)) := h ▸ k
end TTL
theorem tt_Q_len {cI cZ : ClassId} {ad : Nat → Nat} {cx : Nat → va_E} {n n' : Nat} {L : Nat → List tt_T3} {ch : Nat} {K : Nat → tt_KU} (h : tt_Q cI cZ ad cx n L ch K) (e : n' = n) : tt_Q cI cZ ad cx n' L ch K := e ▸ h
theorem tt_Q_rem {cI cZ : ClassId} {ad : Nat → Nat} {cx : Nat → va_E} {L : Nat → List tt_T3} {ch : Nat} {K : Nat → tt_KU} {s p o : Int32} (hI : tt_I L) (h0 : 0 < tt_mn 7 s p o L) (h : tt_Q cI cZ ad cx ((L 0).length - 1) (tt_Ld (s, p, o) L) (ch + 1) (tt_ks K)) : tt_Q cI cZ ad cx (tt_Lr 7 s p o L 0).length (tt_Lr 7 s p o L) (ch + 1) (tt_kc K 1) := by
  have h1 := tt_Lr_len (mk := 7) (by omega) s p o hI
  have h2 := tt_mn7_le (s := s) (p := p) (o := o) hI
  have e : (fun k => tt_Lr 7 s p o L k) = tt_Ld (s, p, o) L := funext (fun k => tt_Lr7 s p o L k)
  have e : tt_Lr 7 s p o L = tt_Ld (s, p, o) L := e
  have e2 : (tt_Lr 7 s p o L 0).length = (L 0).length - 1 := by omega
  rw [e2, e]
  exact h
theorem tt_part_if {L : Nat → List tt_T3} {ch cnt : Nat} {C : Nat → tt_CU} {K : Nat → tt_KU} (h : tt_SM L ch C K cnt) (c x : Int32) : (if tt_op C c then (fun j => tt_prj (C j) ch L x) c.toNatClampNeg else 0) = (if tt_ok K c then (fun j => tt_qrj (K j) L x) c.toNatClampNeg else 0) := by
  by_cases h1 : tt_ok K c
  · rw [if_pos h1, if_pos ((tt_op_ok h c).mpr h1)]
    obtain ⟨j, hj, e⟩ := tt_ix (n := 8) (by omega) h1.1 h1.2.1
    subst e
    show tt_prj (C (nI j).toNatClampNeg) ch L x = tt_qrj (K (nI j).toNatClampNeg) L x
    rw [nI_clamp (by omega)]
    exact tt_part_eq h.1 (h.2.2.2.2.2 j hj) ((tt_ok_in hj).mp h1) x
  · rw [if_neg h1, if_neg (fun q => h1 ((tt_op_ok h c).mp q))]
theorem tt_SC_le {L : Nat → List tt_T3} {ch : Nat} {u : tt_CU} {v : tt_KU} (hI : tt_I L) (hs : tt_SC u v L ch) (h1 : v.1 = true) (h2 : v.2.1 = false) : u.2.2.2.2.1 ≤ u.2.2.2.2.2 := by
  obtain ⟨-, q2, q3⟩ := (hs.2 h1).2 h2
  have hse := tt_st_en v.2.2.1 v.2.2.2.1 v.2.2.2.2.1 v.2.2.2.2.2.1 L
  rcases q3 with ⟨-, a, b, d⟩ | ⟨-, a, b⟩ | ⟨-, a, b⟩ <;> omega
theorem tt_sk_CI {u : tt_CU} {pl ch : Nat} (h : u.2.2.1 < 3 ∧ u.2.2.2.1 ≤ ch ∧ u.2.2.2.2.1 ≤ 700 ∧ u.2.2.2.2.2 ≤ 700 ∧ (u.2.1 = true → 1 ≤ u.2.2.2.2.1)) : (tt_sk u pl).2.2.1 < 3 ∧ (tt_sk u pl).2.2.2.1 ≤ ch ∧ (tt_sk u pl).2.2.2.2.1 ≤ 700 ∧ (tt_sk u pl).2.2.2.2.2 ≤ 700 := by
  obtain ⟨h1, h2, h3, h4, h5⟩ := h
  refine ⟨h1, h2, ?_, h4⟩
  show min (max u.2.2.2.2.1 pl) u.2.2.2.2.2 ≤ 700
  omega
theorem tt_SM_gn {L : Nat → List tt_T3} {ch cnt q x : Nat} {C : Nat → tt_CU} {K : Nat → tt_KU} (h : tt_SM L ch C K cnt) (hq : q < 8) {u : tt_CU} (hu : u.2.2.1 < 3 ∧ u.2.2.2.1 ≤ ch ∧ u.2.2.2.2.1 ≤ 700 ∧ u.2.2.2.2.2 ≤ 700) (hm : (K q).2.2.1 < 8) (hx : x ≤ (L 0).length) (hs : tt_SC (tt_gn u) (tt_kg (K q) x) L ch) : tt_SM L ch (va_up C q (tt_gn u)) (va_up K q (tt_kg (K q) x)) cnt := by
  have h700 := (h.1 0 (by omega)).2.2
  refine tt_SM_up h ⟨hu.1, hu.2.1, ?_, hu.2.2.2, fun hc => ?_⟩ ⟨hm, ?_⟩ hs
  · show (if u.2.2.2.2.1 < u.2.2.2.2.2 then u.2.2.2.2.1 + 1 else u.2.2.2.2.1) ≤ 700
    split <;> omega
  · have hc : decide (u.2.2.2.2.1 < u.2.2.2.2.2) = true := hc
    show 1 ≤ (if u.2.2.2.2.1 < u.2.2.2.2.2 then u.2.2.2.2.1 + 1 else u.2.2.2.2.1)
    rw [if_pos (of_decide_eq_true hc)]
    omega
  · show x + 1 ≤ 702
    omega
set_option maxHeartbeats 4000000 in
set_option maxRecDepth 100000 in
theorem law_add {p : Program} {l : Launch} {e : Env} {s : State} {m : MethodId} {below : List Frame} {meth : Method} {c : Code} {D : va_G} {cI cZ cO cC : ClassId} {b LL : Nat} {xs : Nat → Int32} {adx adm : Nat → Nat} {Q : State → Prop} (hLL : LL ≤ 2560) (C0 : lw_At p s m meth c b LL xs) (hK : va_K D vwCl (tt_tys cI cZ cO cC) s) (hE : tt_E true (fun q : Nat => s.heap.size ≤ q) s s.heap) (hap : ∀ i j, i < 21 → j < 9 → adx i ≠ adm j) (k : Nat) (hk5 : 5 * k + 4 < LL) (cx cm : Nat → va_E) (L : Nat → List tt_T3) (ch : Nat) (C : Nat → tt_CU) (K : Nat → tt_KU) (H : Heap) (locs : List Loc) (ls : Array Slot) (hLS : tt_LS D cI cZ cO cC s adx adm cx cm L ch C K k H locs) (hl : lv_has ls 4 [(0, .ref b), (1, .ref (adx 0)), (2, .ref (adm 0)), (3, .int (nI (5 * k)))]) (hnext : (∀ (cx cm : Nat → va_E) (L : Nat → List tt_T3) (ch : Nat) (C : Nat → tt_CU) (K : Nat → tt_KU) (H : Heap) (locs : List Loc) (ls : Array Slot), tt_LS D cI cZ cO cC s adx adm cx cm L ch C K (k + 1) H locs → lv_has ls 4 [(0, .ref b), (1, .ref (adx 0)), (2, .ref (adm 0)), (3, .int (nI (5 * k)))] → W p l e room_1 s m #[Value.ref b] below meth c H locs 30 17652 Q (F0 m 794 ls []))) : W p l e room_1 s m #[Value.ref b] below meth c H locs 30 17652 Q (F0 m 120 ls []) := by
  obtain ⟨hx, hb, hr, hml, hown, hts, hX, hbl, hlocks, hgv⟩ := id C0
  have hts := fun w h => hts w (wsL_law_in w h)
  have hfix : CallFix p m c cL_law 4 s #[Value.ref b] wsL_law RL := ⟨hx, hb, hml, hown, hts⟩
  have hA : ∀ q : Nat, s.heap.size ≤ q → (fun q : Nat => s.heap.size ≤ q) q := fun _ h => h
  have hbA : ¬ (fun q : Nat => s.heap.size ≤ q) b := Nat.not_le.mpr hbl
  obtain ⟨hR, hQ, hSM, hPx, hPm, hDx, hDm, hS⟩ := hLS
  have hcnt := hSM.2.1
  have hcn2 := hSM.2.2.1
  have hn7 : (L 0).length < 700 := by omega
  have hch : ch < 2 ^ 30 := by omega
  refine lv_aload_n hx hb dL_law_120 rfl (lv_at hl 1 rfl) ?_
  refine lv_aload_n hx hb dL_law_121 rfl (lv_at hl 0 rfl) ?_
  refine lv_iload_n hx hb dL_law_122 rfl (lv_at hl 3 rfl) ?_
  refine lv_iconst (v := 1) hx hb dL_law_123 (by decide) ?_
  refine lv_iadd hx hb dL_law_124 ?_
  refine tt_rei (show ((nI (5 * k)) + 1) = nI (5 * k + 1) from nI_add (5 * k) 1) ?_
  refine va_sld hx hb hX hbl hbA hS (vp_in_nI (n := 5 * k + 1) (by omega) (by omega)) dL_law_125 ?_
  refine tt_rei (show (xs (nI (5 * k + 1)).toNatClampNeg) = xs (5 * k + 1) from congrArg xs (nI_clamp (n := 5 * k + 1) (by omega))) ?_
  refine lv_aload_n hx hb dL_law_126 rfl (lv_at hl 0 rfl) ?_
  refine lv_iload_n hx hb dL_law_127 rfl (lv_at hl 3 rfl) ?_
  refine lv_iconst (v := 2) hx hb dL_law_128 (by decide) ?_
  refine lv_iadd hx hb dL_law_129 ?_
  refine tt_rei (show ((nI (5 * k)) + 2) = nI (5 * k + 2) from nI_add (5 * k) 2) ?_
  refine va_sld hx hb hX hbl hbA hS (vp_in_nI (n := 5 * k + 2) (by omega) (by omega)) dL_law_130 ?_
  refine tt_rei (show (xs (nI (5 * k + 2)).toNatClampNeg) = xs (5 * k + 2) from congrArg xs (nI_clamp (n := 5 * k + 2) (by omega))) ?_
  refine lv_aload_n hx hb dL_law_131 rfl (lv_at hl 0 rfl) ?_
  refine lv_iload_n hx hb dL_law_132 rfl (lv_at hl 3 rfl) ?_
  refine lv_iconst (v := 3) hx hb dL_law_133 (by decide) ?_
  refine lv_iadd hx hb dL_law_134 ?_
  refine tt_rei (show ((nI (5 * k)) + 3) = nI (5 * k + 3) from nI_add (5 * k) 3) ?_
  refine va_sld hx hb hX hbl hbA hS (vp_in_nI (n := 5 * k + 3) (by omega) (by omega)) dL_law_135 ?_
  refine tt_rei (show (xs (nI (5 * k + 3)).toNatClampNeg) = xs (5 * k + 3) from congrArg xs (nI_clamp (n := 5 * k + 3) (by omega))) ?_
  refine tt_lcall (va_runV (As := [.int (xs (5 * k + 1)), .int (xs (5 * k + 2)), .int (xs (5 * k + 3))]) (rest := []) hfix (c_X3_add l D cI cZ cO cC adx cx L ch C hR (xs (5 * k + 1)) (xs (5 * k + 2)) (xs (5 * k + 3)) hSM.1 hn7 _) (cwV 3 hts gL_law_X3_add rfl rfl rfl (by decide +kernel) ⟨Nat.le_of_ble_eq_true rfl, Nat.le_of_ble_eq_true rfl⟩) (tt_mpreV (q0 := 0) (ci := 3) hK hPx hDx ((hE.at hS).narrow (tt_freeF hDx hS hA)) (tt_bg (by omega) hR.1) rfl) rfl rfl hl.1 rfl (lv_room (Nat.le_of_ble_eq_true rfl)) dL_law_136 ⟨Nat.le_of_ble_eq_true rfl, Nat.le_of_ble_eq_true rfl⟩) hDx hPm (fun k q h => tt_apX hap h) hS hA (fun r1 cx H locs hux hPx hDx hPm hS => ?_)
  refine lv_aload_n hx hb dL_law_139 rfl (lv_at hl 2 rfl) ?_
  refine lv_aload_n hx hb dL_law_140 rfl (lv_at hl 0 rfl) ?_
  refine lv_iload_n hx hb dL_law_141 rfl (lv_at hl 3 rfl) ?_
  refine lv_iconst (v := 1) hx hb dL_law_142 (by decide) ?_
  refine lv_iadd hx hb dL_law_143 ?_
  refine tt_rei (show ((nI (5 * k)) + 1) = nI (5 * k + 1) from nI_add (5 * k) 1) ?_
  refine va_sld hx hb hX hbl hbA hS (vp_in_nI (n := 5 * k + 1) (by omega) (by omega)) dL_law_144 ?_
  refine tt_rei (show (xs (nI (5 * k + 1)).toNatClampNeg) = xs (5 * k + 1) from congrArg xs (nI_clamp (n := 5 * k + 1) (by omega))) ?_
  refine lv_aload_n hx hb dL_law_145 rfl (lv_at hl 0 rfl) ?_
  refine lv_iload_n hx hb dL_law_146 rfl (lv_at hl 3 rfl) ?_
  refine lv_iconst (v := 2) hx hb dL_law_147 (by decide) ?_
  refine lv_iadd hx hb dL_law_148 ?_
  refine tt_rei (show ((nI (5 * k)) + 2) = nI (5 * k + 2) from nI_add (5 * k) 2) ?_
  refine va_sld hx hb hX hbl hbA hS (vp_in_nI (n := 5 * k + 2) (by omega) (by omega)) dL_law_149 ?_
  refine tt_rei (show (xs (nI (5 * k + 2)).toNatClampNeg) = xs (5 * k + 2) from congrArg xs (nI_clamp (n := 5 * k + 2) (by omega))) ?_
  refine lv_aload_n hx hb dL_law_150 rfl (lv_at hl 0 rfl) ?_
  refine lv_iload_n hx hb dL_law_151 rfl (lv_at hl 3 rfl) ?_
  refine lv_iconst (v := 3) hx hb dL_law_152 (by decide) ?_
  refine lv_iadd hx hb dL_law_153 ?_
  refine tt_rei (show ((nI (5 * k)) + 3) = nI (5 * k + 3) from nI_add (5 * k) 3) ?_
  refine va_sld hx hb hX hbl hbA hS (vp_in_nI (n := 5 * k + 3) (by omega) (by omega)) dL_law_154 ?_
  refine tt_rei (show (xs (nI (5 * k + 3)).toNatClampNeg) = xs (5 * k + 3) from congrArg xs (nI_clamp (n := 5 * k + 3) (by omega))) ?_
  refine tt_lcall (va_runV (As := [.int (xs (5 * k + 1)), .int (xs (5 * k + 2)), .int (xs (5 * k + 3))]) (rest := [.int r1]) hfix (c_X4_add l D cI cZ cO cC adm cm (L 0).length L ch K hQ (xs (5 * k + 1)) (xs (5 * k + 2)) (xs (5 * k + 3)) hSM.1 rfl hn7 _) (cwV 3 hts gL_law_X4_add rfl rfl rfl (by decide +kernel) ⟨Nat.le_of_ble_eq_true rfl, Nat.le_of_ble_eq_true rfl⟩) (tt_mpreV (q0 := 0) (ci := 4) hK hPm hDm tt_E.no (tt_bg (by omega) hQ.choose_spec.choose_spec.choose_spec.choose_spec.1.1) rfl) rfl rfl hl.1 rfl (lv_room (Nat.le_of_ble_eq_true rfl)) dL_law_155 ⟨Nat.le_of_ble_eq_true rfl, Nat.le_of_ble_eq_true rfl⟩) hDm hPx (fun k q h => tt_apM hap h) hS hA (fun r2 cm H locs hum hPm hDm hPx hS => ?_)
  rcases hux with ⟨a1, rfl, hR⟩ | ⟨a1, rfl, hR⟩
  · rcases hum with ⟨a2, rfl, hQ⟩ | ⟨a2, rfl, hQ⟩
    · refine lv_icmp_eq (tgt := 794) hx hb dL_law_158 (by decide) (fun _ => hnext cx cm L ch C K _ _ ls ⟨hR, hQ, tt_SM_more hSM (by omega), hPx, hPm, hDx, hDm, hS⟩ hl) (fun h9 => absurd rfl h9)
    · exact absurd a1 a2
  · rcases hum with ⟨a2, rfl, hQ⟩ | ⟨a2, rfl, hQ⟩
    · exact absurd a2 a1
    · refine lv_icmp_eq (tgt := 794) hx hb dL_law_158 (by decide) (fun _ => hnext cx cm _ _ C _ _ _ ls ⟨hR, tt_Q_len hQ (tt_ins_len 0 _ _), tt_SM_add hSM (by omega) a1, hPx, hPm, hDx, hDm, hS⟩ hl) (fun h9 => absurd rfl h9)
set_option maxHeartbeats 4000000 in
set_option maxRecDepth 100000 in
theorem law_remove {p : Program} {l : Launch} {e : Env} {s : State} {m : MethodId} {below : List Frame} {meth : Method} {c : Code} {D : va_G} {cI cZ cO cC : ClassId} {b LL : Nat} {xs : Nat → Int32} {adx adm : Nat → Nat} {Q : State → Prop} (hLL : LL ≤ 2560) (C0 : lw_At p s m meth c b LL xs) (hK : va_K D vwCl (tt_tys cI cZ cO cC) s) (hE : tt_E true (fun q : Nat => s.heap.size ≤ q) s s.heap) (hap : ∀ i j, i < 21 → j < 9 → adx i ≠ adm j) (k : Nat) (hk5 : 5 * k + 4 < LL) (cx cm : Nat → va_E) (L : Nat → List tt_T3) (ch : Nat) (C : Nat → tt_CU) (K : Nat → tt_KU) (H : Heap) (locs : List Loc) (ls : Array Slot) (hLS : tt_LS D cI cZ cO cC s adx adm cx cm L ch C K k H locs) (hl : lv_has ls 4 [(0, .ref b), (1, .ref (adx 0)), (2, .ref (adm 0)), (3, .int (nI (5 * k)))]) (hnext : (∀ (cx cm : Nat → va_E) (L : Nat → List tt_T3) (ch : Nat) (C : Nat → tt_CU) (K : Nat → tt_KU) (H : Heap) (locs : List Loc) (ls : Array Slot), tt_LS D cI cZ cO cC s adx adm cx cm L ch C K (k + 1) H locs → lv_has ls 4 [(0, .ref b), (1, .ref (adx 0)), (2, .ref (adm 0)), (3, .int (nI (5 * k)))] → W p l e room_1 s m #[Value.ref b] below meth c H locs 30 17652 Q (F0 m 794 ls []))) : W p l e room_1 s m #[Value.ref b] below meth c H locs 30 17652 Q (F0 m 163 ls []) := by
  obtain ⟨hx, hb, hr, hml, hown, hts, hX, hbl, hlocks, hgv⟩ := id C0
  have hts := fun w h => hts w (wsL_law_in w h)
  have hfix : CallFix p m c cL_law 4 s #[Value.ref b] wsL_law RL := ⟨hx, hb, hml, hown, hts⟩
  have hA : ∀ q : Nat, s.heap.size ≤ q → (fun q : Nat => s.heap.size ≤ q) q := fun _ h => h
  have hbA : ¬ (fun q : Nat => s.heap.size ≤ q) b := Nat.not_le.mpr hbl
  obtain ⟨hR, hQ, hSM, hPx, hPm, hDx, hDm, hS⟩ := hLS
  have hcnt := hSM.2.1
  have hcn2 := hSM.2.2.1
  have hn7 : (L 0).length < 700 := by omega
  have hch : ch < 2 ^ 30 := by omega
  refine lv_aload_n hx hb dL_law_163 rfl (lv_at hl 1 rfl) ?_
  refine lv_aload_n hx hb dL_law_164 rfl (lv_at hl 0 rfl) ?_
  refine lv_iload_n hx hb dL_law_165 rfl (lv_at hl 3 rfl) ?_
  refine lv_iconst (v := 1) hx hb dL_law_166 (by decide) ?_
  refine lv_iadd hx hb dL_law_167 ?_
  refine tt_rei (show ((nI (5 * k)) + 1) = nI (5 * k + 1) from nI_add (5 * k) 1) ?_
  refine va_sld hx hb hX hbl hbA hS (vp_in_nI (n := 5 * k + 1) (by omega) (by omega)) dL_law_168 ?_
  refine tt_rei (show (xs (nI (5 * k + 1)).toNatClampNeg) = xs (5 * k + 1) from congrArg xs (nI_clamp (n := 5 * k + 1) (by omega))) ?_
  refine lv_aload_n hx hb dL_law_169 rfl (lv_at hl 0 rfl) ?_
  refine lv_iload_n hx hb dL_law_170 rfl (lv_at hl 3 rfl) ?_
  refine lv_iconst (v := 2) hx hb dL_law_171 (by decide) ?_
  refine lv_iadd hx hb dL_law_172 ?_
  refine tt_rei (show ((nI (5 * k)) + 2) = nI (5 * k + 2) from nI_add (5 * k) 2) ?_
  refine va_sld hx hb hX hbl hbA hS (vp_in_nI (n := 5 * k + 2) (by omega) (by omega)) dL_law_173 ?_
  refine tt_rei (show (xs (nI (5 * k + 2)).toNatClampNeg) = xs (5 * k + 2) from congrArg xs (nI_clamp (n := 5 * k + 2) (by omega))) ?_
  refine lv_aload_n hx hb dL_law_174 rfl (lv_at hl 0 rfl) ?_
  refine lv_iload_n hx hb dL_law_175 rfl (lv_at hl 3 rfl) ?_
  refine lv_iconst (v := 3) hx hb dL_law_176 (by decide) ?_
  refine lv_iadd hx hb dL_law_177 ?_
  refine tt_rei (show ((nI (5 * k)) + 3) = nI (5 * k + 3) from nI_add (5 * k) 3) ?_
  refine va_sld hx hb hX hbl hbA hS (vp_in_nI (n := 5 * k + 3) (by omega) (by omega)) dL_law_178 ?_
  refine tt_rei (show (xs (nI (5 * k + 3)).toNatClampNeg) = xs (5 * k + 3) from congrArg xs (nI_clamp (n := 5 * k + 3) (by omega))) ?_
  refine tt_lcall (va_runV (As := [.int (xs (5 * k + 1)), .int (xs (5 * k + 2)), .int (xs (5 * k + 3))]) (rest := []) hfix (c_X3_remove l D cI cZ cO cC adx cx L ch C hR (xs (5 * k + 1)) (xs (5 * k + 2)) (xs (5 * k + 3)) hSM.1 _) (cwV 3 hts gL_law_X3_remove rfl rfl rfl (by decide +kernel) ⟨Nat.le_of_ble_eq_true rfl, Nat.le_of_ble_eq_true rfl⟩) (tt_mpreV (q0 := 0) (ci := 3) hK hPx hDx ((hE.at hS).narrow (tt_freeF hDx hS hA)) (tt_bg (by omega) hR.1) rfl) rfl rfl hl.1 rfl (lv_room (Nat.le_of_ble_eq_true rfl)) dL_law_179 ⟨Nat.le_of_ble_eq_true rfl, Nat.le_of_ble_eq_true rfl⟩) hDx hPm (fun k q h => tt_apX hap h) hS hA (fun r1 cx H locs hux hPx hDx hPm hS => ?_)
  refine lv_aload_n hx hb dL_law_182 rfl (lv_at hl 2 rfl) ?_
  refine lv_aload_n hx hb dL_law_183 rfl (lv_at hl 0 rfl) ?_
  refine lv_iload_n hx hb dL_law_184 rfl (lv_at hl 3 rfl) ?_
  refine lv_iconst (v := 1) hx hb dL_law_185 (by decide) ?_
  refine lv_iadd hx hb dL_law_186 ?_
  refine tt_rei (show ((nI (5 * k)) + 1) = nI (5 * k + 1) from nI_add (5 * k) 1) ?_
  refine va_sld hx hb hX hbl hbA hS (vp_in_nI (n := 5 * k + 1) (by omega) (by omega)) dL_law_187 ?_
  refine tt_rei (show (xs (nI (5 * k + 1)).toNatClampNeg) = xs (5 * k + 1) from congrArg xs (nI_clamp (n := 5 * k + 1) (by omega))) ?_
  refine lv_aload_n hx hb dL_law_188 rfl (lv_at hl 0 rfl) ?_
  refine lv_iload_n hx hb dL_law_189 rfl (lv_at hl 3 rfl) ?_
  refine lv_iconst (v := 2) hx hb dL_law_190 (by decide) ?_
  refine lv_iadd hx hb dL_law_191 ?_
  refine tt_rei (show ((nI (5 * k)) + 2) = nI (5 * k + 2) from nI_add (5 * k) 2) ?_
  refine va_sld hx hb hX hbl hbA hS (vp_in_nI (n := 5 * k + 2) (by omega) (by omega)) dL_law_192 ?_
  refine tt_rei (show (xs (nI (5 * k + 2)).toNatClampNeg) = xs (5 * k + 2) from congrArg xs (nI_clamp (n := 5 * k + 2) (by omega))) ?_
  refine lv_aload_n hx hb dL_law_193 rfl (lv_at hl 0 rfl) ?_
  refine lv_iload_n hx hb dL_law_194 rfl (lv_at hl 3 rfl) ?_
  refine lv_iconst (v := 3) hx hb dL_law_195 (by decide) ?_
  refine lv_iadd hx hb dL_law_196 ?_
  refine tt_rei (show ((nI (5 * k)) + 3) = nI (5 * k + 3) from nI_add (5 * k) 3) ?_
  refine va_sld hx hb hX hbl hbA hS (vp_in_nI (n := 5 * k + 3) (by omega) (by omega)) dL_law_197 ?_
  refine tt_rei (show (xs (nI (5 * k + 3)).toNatClampNeg) = xs (5 * k + 3) from congrArg xs (nI_clamp (n := 5 * k + 3) (by omega))) ?_
  refine tt_lcall (va_runV (As := [.int (xs (5 * k + 1)), .int (xs (5 * k + 2)), .int (xs (5 * k + 3))]) (rest := [.int r1]) hfix (c_X4_remove l D cI cZ cO cC adm cm (L 0).length L ch K hQ (xs (5 * k + 1)) (xs (5 * k + 2)) (xs (5 * k + 3)) hSM.1 rfl _) (cwV 3 hts gL_law_X4_remove rfl rfl rfl (by decide +kernel) ⟨Nat.le_of_ble_eq_true rfl, Nat.le_of_ble_eq_true rfl⟩) (tt_mpreV (q0 := 0) (ci := 4) hK hPm hDm tt_E.no (tt_bg (by omega) hQ.choose_spec.choose_spec.choose_spec.choose_spec.1.1) rfl) rfl rfl hl.1 rfl (lv_room (Nat.le_of_ble_eq_true rfl)) dL_law_198 ⟨Nat.le_of_ble_eq_true rfl, Nat.le_of_ble_eq_true rfl⟩) hDm hPx (fun k q h => tt_apM hap h) hS hA (fun r2 cm H locs hum hPm hDm hPx hS => ?_)
  obtain ⟨rfl, hR⟩ := hux
  rcases hum with ⟨a2, rfl, hQ⟩ | ⟨a2, rfl, hQ⟩
  · rw [show tt_mn 7 (xs (5 * k + 1)) (xs (5 * k + 2)) (xs (5 * k + 3)) L = 0 by omega] at hR
    refine tt_reiX (if_neg a2) ?_
    refine lv_icmp_eq (tgt := 794) hx hb dL_law_201 (by decide) (fun _ => hnext cx cm L ch C K _ _ ls ⟨hR.congr (fun i hi => (tt_Lr_0 (by omega) hSM.1 a2 hi).symm), hQ, tt_SM_more hSM (by omega), hPx, hPm, hDx, hDm, hS⟩ hl) (fun h9 => absurd rfl h9)
  · have h1 := tt_mn7_le (s := (xs (5 * k + 1))) (p := (xs (5 * k + 2))) (o := (xs (5 * k + 3))) hSM.1
    have e1 : tt_mn 7 (xs (5 * k + 1)) (xs (5 * k + 2)) (xs (5 * k + 3)) L = 1 := by omega
    have hSM1 := tt_SM_rem (mk := 7) (by omega) (s := (xs (5 * k + 1))) (p := (xs (5 * k + 2))) (o := (xs (5 * k + 3))) hSM
    rw [e1] at hR hSM1
    refine tt_reiX (if_pos a2) ?_
    have hQ : tt_Q cI cZ adm cm (tt_Lr 7 (xs (5 * k + 1)) (xs (5 * k + 2)) (xs (5 * k + 3)) L 0).length (tt_Lr 7 (xs (5 * k + 1)) (xs (5 * k + 2)) (xs (5 * k + 3)) L) (ch + 1) (tt_kc K 1) := tt_Q_rem hSM.1 a2 hQ
    refine lv_icmp_eq (tgt := 794) hx hb dL_law_201 (by decide) (fun _ => hnext cx cm _ _ C _ _ _ ls ⟨hR, hQ, tt_SM_more hSM1 (by omega), hPx, hPm, hDx, hDm, hS⟩ hl) (fun h9 => absurd rfl h9)
set_option maxHeartbeats 4000000 in
set_option maxRecDepth 100000 in
theorem law_removeAll {p : Program} {l : Launch} {e : Env} {s : State} {m : MethodId} {below : List Frame} {meth : Method} {c : Code} {D : va_G} {cI cZ cO cC : ClassId} {b LL : Nat} {xs : Nat → Int32} {adx adm : Nat → Nat} {Q : State → Prop} (hLL : LL ≤ 2560) (C0 : lw_At p s m meth c b LL xs) (hK : va_K D vwCl (tt_tys cI cZ cO cC) s) (hE : tt_E true (fun q : Nat => s.heap.size ≤ q) s s.heap) (hap : ∀ i j, i < 21 → j < 9 → adx i ≠ adm j) (k : Nat) (hk5 : 5 * k + 4 < LL) (cx cm : Nat → va_E) (L : Nat → List tt_T3) (ch : Nat) (C : Nat → tt_CU) (K : Nat → tt_KU) (H : Heap) (locs : List Loc) (ls : Array Slot) (hLS : tt_LS D cI cZ cO cC s adx adm cx cm L ch C K k H locs) (hl : lv_has ls 4 [(0, .ref b), (1, .ref (adx 0)), (2, .ref (adm 0)), (3, .int (nI (5 * k)))]) (hnext : (∀ (cx cm : Nat → va_E) (L : Nat → List tt_T3) (ch : Nat) (C : Nat → tt_CU) (K : Nat → tt_KU) (H : Heap) (locs : List Loc) (ls : Array Slot), tt_LS D cI cZ cO cC s adx adm cx cm L ch C K (k + 1) H locs → lv_has ls 4 [(0, .ref b), (1, .ref (adx 0)), (2, .ref (adm 0)), (3, .int (nI (5 * k)))] → W p l e room_1 s m #[Value.ref b] below meth c H locs 30 17652 Q (F0 m 794 ls []))) : W p l e room_1 s m #[Value.ref b] below meth c H locs 30 17652 Q (F0 m 206 ls []) := by
  obtain ⟨hx, hb, hr, hml, hown, hts, hX, hbl, hlocks, hgv⟩ := id C0
  have hts := fun w h => hts w (wsL_law_in w h)
  have hfix : CallFix p m c cL_law 4 s #[Value.ref b] wsL_law RL := ⟨hx, hb, hml, hown, hts⟩
  have hA : ∀ q : Nat, s.heap.size ≤ q → (fun q : Nat => s.heap.size ≤ q) q := fun _ h => h
  have hbA : ¬ (fun q : Nat => s.heap.size ≤ q) b := Nat.not_le.mpr hbl
  obtain ⟨hR, hQ, hSM, hPx, hPm, hDx, hDm, hS⟩ := hLS
  have hcnt := hSM.2.1
  have hcn2 := hSM.2.2.1
  have hn7 : (L 0).length < 700 := by omega
  have hch : ch < 2 ^ 30 := by omega
  refine lv_aload_n hx hb dL_law_206 rfl (lv_at hl 1 rfl) ?_
  refine lv_aload_n hx hb dL_law_207 rfl (lv_at hl 0 rfl) ?_
  refine lv_iload_n hx hb dL_law_208 rfl (lv_at hl 3 rfl) ?_
  refine lv_iconst (v := 1) hx hb dL_law_209 (by decide) ?_
  refine lv_iadd hx hb dL_law_210 ?_
  refine tt_rei (show ((nI (5 * k)) + 1) = nI (5 * k + 1) from nI_add (5 * k) 1) ?_
  refine va_sld hx hb hX hbl hbA hS (vp_in_nI (n := 5 * k + 1) (by omega) (by omega)) dL_law_211 ?_
  refine tt_rei (show (xs (nI (5 * k + 1)).toNatClampNeg) = xs (5 * k + 1) from congrArg xs (nI_clamp (n := 5 * k + 1) (by omega))) ?_
  refine lv_aload_n hx hb dL_law_212 rfl (lv_at hl 0 rfl) ?_
  refine lv_iload_n hx hb dL_law_213 rfl (lv_at hl 3 rfl) ?_
  refine lv_iconst (v := 2) hx hb dL_law_214 (by decide) ?_
  refine lv_iadd hx hb dL_law_215 ?_
  refine tt_rei (show ((nI (5 * k)) + 2) = nI (5 * k + 2) from nI_add (5 * k) 2) ?_
  refine va_sld hx hb hX hbl hbA hS (vp_in_nI (n := 5 * k + 2) (by omega) (by omega)) dL_law_216 ?_
  refine tt_rei (show (xs (nI (5 * k + 2)).toNatClampNeg) = xs (5 * k + 2) from congrArg xs (nI_clamp (n := 5 * k + 2) (by omega))) ?_
  refine lv_aload_n hx hb dL_law_217 rfl (lv_at hl 0 rfl) ?_
  refine lv_iload_n hx hb dL_law_218 rfl (lv_at hl 3 rfl) ?_
  refine lv_iconst (v := 3) hx hb dL_law_219 (by decide) ?_
  refine lv_iadd hx hb dL_law_220 ?_
  refine tt_rei (show ((nI (5 * k)) + 3) = nI (5 * k + 3) from nI_add (5 * k) 3) ?_
  refine va_sld hx hb hX hbl hbA hS (vp_in_nI (n := 5 * k + 3) (by omega) (by omega)) dL_law_221 ?_
  refine tt_rei (show (xs (nI (5 * k + 3)).toNatClampNeg) = xs (5 * k + 3) from congrArg xs (nI_clamp (n := 5 * k + 3) (by omega))) ?_
  refine lv_aload_n hx hb dL_law_222 rfl (lv_at hl 0 rfl) ?_
  refine lv_iload_n hx hb dL_law_223 rfl (lv_at hl 3 rfl) ?_
  refine lv_iconst (v := 4) hx hb dL_law_224 (by decide) ?_
  refine lv_iadd hx hb dL_law_225 ?_
  refine tt_rei (show ((nI (5 * k)) + 4) = nI (5 * k + 4) from nI_add (5 * k) 4) ?_
  refine va_sld hx hb hX hbl hbA hS (vp_in_nI (n := 5 * k + 4) (by omega) (by omega)) dL_law_226 ?_
  refine tt_rei (show (xs (nI (5 * k + 4)).toNatClampNeg) = xs (5 * k + 4) from congrArg xs (nI_clamp (n := 5 * k + 4) (by omega))) ?_
  refine tt_lcall (va_runV (As := [.int (xs (5 * k + 1)), .int (xs (5 * k + 2)), .int (xs (5 * k + 3)), .int (xs (5 * k + 4))]) (rest := []) hfix (c_X3_removeAll l D cI cZ cO cC adx cx L ch C hR (xs (5 * k + 1)) (xs (5 * k + 2)) (xs (5 * k + 3)) (xs (5 * k + 4)) hSM.1 _) (cwV 4 hts gL_law_X3_removeAll rfl rfl rfl (by decide +kernel) ⟨Nat.le_of_ble_eq_true rfl, Nat.le_of_ble_eq_true rfl⟩) (tt_mpreV (q0 := 0) (ci := 3) hK hPx hDx ((hE.at hS).narrow (tt_freeF hDx hS hA)) (tt_bg (by omega) hR.1) rfl) rfl rfl hl.1 rfl (lv_room (Nat.le_of_ble_eq_true rfl)) dL_law_227 ⟨Nat.le_of_ble_eq_true rfl, Nat.le_of_ble_eq_true rfl⟩) hDx hPm (fun k q h => tt_apX hap h) hS hA (fun r1 cx H locs hux hPx hDx hPm hS => ?_)
  refine lv_aload_n hx hb dL_law_230 rfl (lv_at hl 2 rfl) ?_
  refine lv_aload_n hx hb dL_law_231 rfl (lv_at hl 0 rfl) ?_
  refine lv_iload_n hx hb dL_law_232 rfl (lv_at hl 3 rfl) ?_
  refine lv_iconst (v := 1) hx hb dL_law_233 (by decide) ?_
  refine lv_iadd hx hb dL_law_234 ?_
  refine tt_rei (show ((nI (5 * k)) + 1) = nI (5 * k + 1) from nI_add (5 * k) 1) ?_
  refine va_sld hx hb hX hbl hbA hS (vp_in_nI (n := 5 * k + 1) (by omega) (by omega)) dL_law_235 ?_
  refine tt_rei (show (xs (nI (5 * k + 1)).toNatClampNeg) = xs (5 * k + 1) from congrArg xs (nI_clamp (n := 5 * k + 1) (by omega))) ?_
  refine lv_aload_n hx hb dL_law_236 rfl (lv_at hl 0 rfl) ?_
  refine lv_iload_n hx hb dL_law_237 rfl (lv_at hl 3 rfl) ?_
  refine lv_iconst (v := 2) hx hb dL_law_238 (by decide) ?_
  refine lv_iadd hx hb dL_law_239 ?_
  refine tt_rei (show ((nI (5 * k)) + 2) = nI (5 * k + 2) from nI_add (5 * k) 2) ?_
  refine va_sld hx hb hX hbl hbA hS (vp_in_nI (n := 5 * k + 2) (by omega) (by omega)) dL_law_240 ?_
  refine tt_rei (show (xs (nI (5 * k + 2)).toNatClampNeg) = xs (5 * k + 2) from congrArg xs (nI_clamp (n := 5 * k + 2) (by omega))) ?_
  refine lv_aload_n hx hb dL_law_241 rfl (lv_at hl 0 rfl) ?_
  refine lv_iload_n hx hb dL_law_242 rfl (lv_at hl 3 rfl) ?_
  refine lv_iconst (v := 3) hx hb dL_law_243 (by decide) ?_
  refine lv_iadd hx hb dL_law_244 ?_
  refine tt_rei (show ((nI (5 * k)) + 3) = nI (5 * k + 3) from nI_add (5 * k) 3) ?_
  refine va_sld hx hb hX hbl hbA hS (vp_in_nI (n := 5 * k + 3) (by omega) (by omega)) dL_law_245 ?_
  refine tt_rei (show (xs (nI (5 * k + 3)).toNatClampNeg) = xs (5 * k + 3) from congrArg xs (nI_clamp (n := 5 * k + 3) (by omega))) ?_
  refine lv_aload_n hx hb dL_law_246 rfl (lv_at hl 0 rfl) ?_
  refine lv_iload_n hx hb dL_law_247 rfl (lv_at hl 3 rfl) ?_
  refine lv_iconst (v := 4) hx hb dL_law_248 (by decide) ?_
  refine lv_iadd hx hb dL_law_249 ?_
  refine tt_rei (show ((nI (5 * k)) + 4) = nI (5 * k + 4) from nI_add (5 * k) 4) ?_
  refine va_sld hx hb hX hbl hbA hS (vp_in_nI (n := 5 * k + 4) (by omega) (by omega)) dL_law_250 ?_
  refine tt_rei (show (xs (nI (5 * k + 4)).toNatClampNeg) = xs (5 * k + 4) from congrArg xs (nI_clamp (n := 5 * k + 4) (by omega))) ?_
  refine tt_lcall (va_runV (As := [.int (xs (5 * k + 1)), .int (xs (5 * k + 2)), .int (xs (5 * k + 3)), .int (xs (5 * k + 4))]) (rest := [.int r1]) hfix (c_X4_removeAll l D cI cZ cO cC adm cm (L 0).length L ch K hQ (xs (5 * k + 1)) (xs (5 * k + 2)) (xs (5 * k + 3)) (xs (5 * k + 4)) hSM.1 rfl _) (cwV 4 hts gL_law_X4_removeAll rfl rfl rfl (by decide +kernel) ⟨Nat.le_of_ble_eq_true rfl, Nat.le_of_ble_eq_true rfl⟩) (tt_mpreV (q0 := 0) (ci := 4) hK hPm hDm tt_E.no (tt_bg (by omega) hQ.choose_spec.choose_spec.choose_spec.choose_spec.1.1) rfl) rfl rfl hl.1 rfl (lv_room (Nat.le_of_ble_eq_true rfl)) dL_law_251 ⟨Nat.le_of_ble_eq_true rfl, Nat.le_of_ble_eq_true rfl⟩) hDm hPx (fun k q h => tt_apM hap h) hS hA (fun r2 cm H locs hum hPm hDm hPx hS => ?_)
  rcases hux with ⟨a1, rfl, hR⟩ | ⟨mk, hm, e1, rfl, hR⟩
  · rcases hum with ⟨a2, rfl, hQ⟩ | ⟨mk2, hm2, e2, -, -⟩
    · refine lv_icmp_eq (tgt := 794) hx hb dL_law_254 (by decide) (fun _ => hnext cx cm L ch C K _ _ ls ⟨hR, hQ, tt_SM_more hSM (by omega), hPx, hPm, hDx, hDm, hS⟩ hl) (fun h9 => absurd rfl h9)
    · exact absurd (by rw [e2]; exact ⟨nI_pos (by omega), nI_ge (b := 8) hm2 (by omega)⟩) a1
  · rcases hum with ⟨a2, rfl, hQ⟩ | ⟨mk2, hm2, e2, rfl, hQ⟩
    · exact absurd (by rw [e1]; exact ⟨nI_pos (by omega), nI_ge (b := 8) hm (by omega)⟩) a2
    · have em := (nI_eq (a := mk) (b := mk2) (by omega) (by omega)).mp (e1.symm.trans e2)
      subst em
      refine lv_icmp_eq (tgt := 794) hx hb dL_law_254 (by decide) (fun _ => hnext cx cm _ _ C _ _ _ ls ⟨hR, hQ, tt_SM_more (tt_SM_rem hm hSM) (by omega), hPx, hPm, hDx, hDm, hS⟩ hl) (fun h9 => absurd rfl h9)
set_option maxHeartbeats 4000000 in
set_option maxRecDepth 100000 in
theorem law_holds {p : Program} {l : Launch} {e : Env} {s : State} {m : MethodId} {below : List Frame} {meth : Method} {c : Code} {D : va_G} {cI cZ cO cC : ClassId} {b LL : Nat} {xs : Nat → Int32} {adx adm : Nat → Nat} {Q : State → Prop} (hLL : LL ≤ 2560) (C0 : lw_At p s m meth c b LL xs) (hK : va_K D vwCl (tt_tys cI cZ cO cC) s) (hE : tt_E true (fun q : Nat => s.heap.size ≤ q) s s.heap) (hap : ∀ i j, i < 21 → j < 9 → adx i ≠ adm j) (k : Nat) (hk5 : 5 * k + 4 < LL) (cx cm : Nat → va_E) (L : Nat → List tt_T3) (ch : Nat) (C : Nat → tt_CU) (K : Nat → tt_KU) (H : Heap) (locs : List Loc) (ls : Array Slot) (hLS : tt_LS D cI cZ cO cC s adx adm cx cm L ch C K k H locs) (hl : lv_has ls 4 [(0, .ref b), (1, .ref (adx 0)), (2, .ref (adm 0)), (3, .int (nI (5 * k)))]) (hnext : (∀ (cx cm : Nat → va_E) (L : Nat → List tt_T3) (ch : Nat) (C : Nat → tt_CU) (K : Nat → tt_KU) (H : Heap) (locs : List Loc) (ls : Array Slot), tt_LS D cI cZ cO cC s adx adm cx cm L ch C K (k + 1) H locs → lv_has ls 4 [(0, .ref b), (1, .ref (adx 0)), (2, .ref (adm 0)), (3, .int (nI (5 * k)))] → W p l e room_1 s m #[Value.ref b] below meth c H locs 30 17652 Q (F0 m 794 ls []))) : W p l e room_1 s m #[Value.ref b] below meth c H locs 30 17652 Q (F0 m 259 ls []) := by
  obtain ⟨hx, hb, hr, hml, hown, hts, hX, hbl, hlocks, hgv⟩ := id C0
  have hts := fun w h => hts w (wsL_law_in w h)
  have hfix : CallFix p m c cL_law 4 s #[Value.ref b] wsL_law RL := ⟨hx, hb, hml, hown, hts⟩
  have hA : ∀ q : Nat, s.heap.size ≤ q → (fun q : Nat => s.heap.size ≤ q) q := fun _ h => h
  have hbA : ¬ (fun q : Nat => s.heap.size ≤ q) b := Nat.not_le.mpr hbl
  obtain ⟨hR, hQ, hSM, hPx, hPm, hDx, hDm, hS⟩ := hLS
  have hcnt := hSM.2.1
  have hcn2 := hSM.2.2.1
  have hn7 : (L 0).length < 700 := by omega
  have hch : ch < 2 ^ 30 := by omega
  refine lv_aload_n hx hb dL_law_259 rfl (lv_at hl 1 rfl) ?_
  refine lv_aload_n hx hb dL_law_260 rfl (lv_at hl 0 rfl) ?_
  refine lv_iload_n hx hb dL_law_261 rfl (lv_at hl 3 rfl) ?_
  refine lv_iconst (v := 1) hx hb dL_law_262 (by decide) ?_
  refine lv_iadd hx hb dL_law_263 ?_
  refine tt_rei (show ((nI (5 * k)) + 1) = nI (5 * k + 1) from nI_add (5 * k) 1) ?_
  refine va_sld hx hb hX hbl hbA hS (vp_in_nI (n := 5 * k + 1) (by omega) (by omega)) dL_law_264 ?_
  refine tt_rei (show (xs (nI (5 * k + 1)).toNatClampNeg) = xs (5 * k + 1) from congrArg xs (nI_clamp (n := 5 * k + 1) (by omega))) ?_
  refine lv_aload_n hx hb dL_law_265 rfl (lv_at hl 0 rfl) ?_
  refine lv_iload_n hx hb dL_law_266 rfl (lv_at hl 3 rfl) ?_
  refine lv_iconst (v := 2) hx hb dL_law_267 (by decide) ?_
  refine lv_iadd hx hb dL_law_268 ?_
  refine tt_rei (show ((nI (5 * k)) + 2) = nI (5 * k + 2) from nI_add (5 * k) 2) ?_
  refine va_sld hx hb hX hbl hbA hS (vp_in_nI (n := 5 * k + 2) (by omega) (by omega)) dL_law_269 ?_
  refine tt_rei (show (xs (nI (5 * k + 2)).toNatClampNeg) = xs (5 * k + 2) from congrArg xs (nI_clamp (n := 5 * k + 2) (by omega))) ?_
  refine lv_aload_n hx hb dL_law_270 rfl (lv_at hl 0 rfl) ?_
  refine lv_iload_n hx hb dL_law_271 rfl (lv_at hl 3 rfl) ?_
  refine lv_iconst (v := 3) hx hb dL_law_272 (by decide) ?_
  refine lv_iadd hx hb dL_law_273 ?_
  refine tt_rei (show ((nI (5 * k)) + 3) = nI (5 * k + 3) from nI_add (5 * k) 3) ?_
  refine va_sld hx hb hX hbl hbA hS (vp_in_nI (n := 5 * k + 3) (by omega) (by omega)) dL_law_274 ?_
  refine tt_rei (show (xs (nI (5 * k + 3)).toNatClampNeg) = xs (5 * k + 3) from congrArg xs (nI_clamp (n := 5 * k + 3) (by omega))) ?_
  refine tt_calli2 (va_runV (As := [.int (xs (5 * k + 1)), .int (xs (5 * k + 2)), .int (xs (5 * k + 3))]) (rest := []) hfix (c_X3_holds l D cI cZ cO cC adx cx L ch C hR (xs (5 * k + 1)) (xs (5 * k + 2)) (xs (5 * k + 3)) hSM.1) (cwV 3 hts gL_law_X3_holds rfl rfl rfl (by decide +kernel) ⟨Nat.le_of_ble_eq_true rfl, Nat.le_of_ble_eq_true rfl⟩) (tt_preV (q0 := 0) (ci := 3) hK hPx ((hE.at hS).narrow (fun _ h => h.elim)) (tt_bg (by omega) hR.1) rfl) rfl rfl hl.1 rfl (lv_room (Nat.le_of_ble_eq_true rfl)) dL_law_275 ⟨Nat.le_of_ble_eq_true rfl, Nat.le_of_ble_eq_true rfl⟩) hPx hPm hS (fun H locs hPx hPm hS => ?_)
  refine lv_aload_n hx hb dL_law_278 rfl (lv_at hl 2 rfl) ?_
  refine lv_aload_n hx hb dL_law_279 rfl (lv_at hl 0 rfl) ?_
  refine lv_iload_n hx hb dL_law_280 rfl (lv_at hl 3 rfl) ?_
  refine lv_iconst (v := 1) hx hb dL_law_281 (by decide) ?_
  refine lv_iadd hx hb dL_law_282 ?_
  refine tt_rei (show ((nI (5 * k)) + 1) = nI (5 * k + 1) from nI_add (5 * k) 1) ?_
  refine va_sld hx hb hX hbl hbA hS (vp_in_nI (n := 5 * k + 1) (by omega) (by omega)) dL_law_283 ?_
  refine tt_rei (show (xs (nI (5 * k + 1)).toNatClampNeg) = xs (5 * k + 1) from congrArg xs (nI_clamp (n := 5 * k + 1) (by omega))) ?_
  refine lv_aload_n hx hb dL_law_284 rfl (lv_at hl 0 rfl) ?_
  refine lv_iload_n hx hb dL_law_285 rfl (lv_at hl 3 rfl) ?_
  refine lv_iconst (v := 2) hx hb dL_law_286 (by decide) ?_
  refine lv_iadd hx hb dL_law_287 ?_
  refine tt_rei (show ((nI (5 * k)) + 2) = nI (5 * k + 2) from nI_add (5 * k) 2) ?_
  refine va_sld hx hb hX hbl hbA hS (vp_in_nI (n := 5 * k + 2) (by omega) (by omega)) dL_law_288 ?_
  refine tt_rei (show (xs (nI (5 * k + 2)).toNatClampNeg) = xs (5 * k + 2) from congrArg xs (nI_clamp (n := 5 * k + 2) (by omega))) ?_
  refine lv_aload_n hx hb dL_law_289 rfl (lv_at hl 0 rfl) ?_
  refine lv_iload_n hx hb dL_law_290 rfl (lv_at hl 3 rfl) ?_
  refine lv_iconst (v := 3) hx hb dL_law_291 (by decide) ?_
  refine lv_iadd hx hb dL_law_292 ?_
  refine tt_rei (show ((nI (5 * k)) + 3) = nI (5 * k + 3) from nI_add (5 * k) 3) ?_
  refine va_sld hx hb hX hbl hbA hS (vp_in_nI (n := 5 * k + 3) (by omega) (by omega)) dL_law_293 ?_
  refine tt_rei (show (xs (nI (5 * k + 3)).toNatClampNeg) = xs (5 * k + 3) from congrArg xs (nI_clamp (n := 5 * k + 3) (by omega))) ?_
  refine tt_calli2 (va_runV (As := [.int (xs (5 * k + 1)), .int (xs (5 * k + 2)), .int (xs (5 * k + 3))]) (rest := [.int (if 0 < tt_mn 7 (xs (5 * k + 1)) (xs (5 * k + 2)) (xs (5 * k + 3)) L then 1 else 0)]) hfix (c_X4_holds l D cI cZ cO cC adm cm (L 0).length L ch K hQ (xs (5 * k + 1)) (xs (5 * k + 2)) (xs (5 * k + 3)) hSM.1 rfl) (cwV 3 hts gL_law_X4_holds rfl rfl rfl (by decide +kernel) ⟨Nat.le_of_ble_eq_true rfl, Nat.le_of_ble_eq_true rfl⟩) (tt_preV (q0 := 0) (ci := 4) hK hPm tt_E.no (tt_bg (by omega) hQ.choose_spec.choose_spec.choose_spec.choose_spec.1.1) rfl) rfl rfl hl.1 rfl (lv_room (Nat.le_of_ble_eq_true rfl)) dL_law_294 ⟨Nat.le_of_ble_eq_true rfl, Nat.le_of_ble_eq_true rfl⟩) hPx hPm hS (fun H locs hPx hPm hS => ?_)
  refine lv_icmp_eq (tgt := 794) hx hb dL_law_297 (by decide) (fun _ => ?_) (fun h9 => absurd (rfl) h9)
  exact hnext cx cm L ch C K _ _ ls ⟨hR, hQ, tt_SM_more hSM (by omega), hPx, hPm, hDx, hDm, hS⟩ hl
set_option maxHeartbeats 4000000 in
set_option maxRecDepth 100000 in
theorem law_open {p : Program} {l : Launch} {e : Env} {s : State} {m : MethodId} {below : List Frame} {meth : Method} {c : Code} {D : va_G} {cI cZ cO cC : ClassId} {b LL : Nat} {xs : Nat → Int32} {adx adm : Nat → Nat} {Q : State → Prop} (hLL : LL ≤ 2560) (C0 : lw_At p s m meth c b LL xs) (hK : va_K D vwCl (tt_tys cI cZ cO cC) s) (hE : tt_E true (fun q : Nat => s.heap.size ≤ q) s s.heap) (hap : ∀ i j, i < 21 → j < 9 → adx i ≠ adm j) (k : Nat) (hk5 : 5 * k + 4 < LL) (cx cm : Nat → va_E) (L : Nat → List tt_T3) (ch : Nat) (C : Nat → tt_CU) (K : Nat → tt_KU) (H : Heap) (locs : List Loc) (ls : Array Slot) (hLS : tt_LS D cI cZ cO cC s adx adm cx cm L ch C K k H locs) (hl : lv_has ls 4 [(0, .ref b), (1, .ref (adx 0)), (2, .ref (adm 0)), (3, .int (nI (5 * k)))]) (hnext : (∀ (cx cm : Nat → va_E) (L : Nat → List tt_T3) (ch : Nat) (C : Nat → tt_CU) (K : Nat → tt_KU) (H : Heap) (locs : List Loc) (ls : Array Slot), tt_LS D cI cZ cO cC s adx adm cx cm L ch C K (k + 1) H locs → lv_has ls 4 [(0, .ref b), (1, .ref (adx 0)), (2, .ref (adm 0)), (3, .int (nI (5 * k)))] → W p l e room_1 s m #[Value.ref b] below meth c H locs 30 17652 Q (F0 m 794 ls []))) : W p l e room_1 s m #[Value.ref b] below meth c H locs 30 17652 Q (F0 m 302 ls []) := by
  obtain ⟨hx, hb, hr, hml, hown, hts, hX, hbl, hlocks, hgv⟩ := id C0
  have hts := fun w h => hts w (wsL_law_in w h)
  have hfix : CallFix p m c cL_law 4 s #[Value.ref b] wsL_law RL := ⟨hx, hb, hml, hown, hts⟩
  have hA : ∀ q : Nat, s.heap.size ≤ q → (fun q : Nat => s.heap.size ≤ q) q := fun _ h => h
  have hbA : ¬ (fun q : Nat => s.heap.size ≤ q) b := Nat.not_le.mpr hbl
  obtain ⟨hR, hQ, hSM, hPx, hPm, hDx, hDm, hS⟩ := hLS
  have hcnt := hSM.2.1
  have hcn2 := hSM.2.2.1
  have hn7 : (L 0).length < 700 := by omega
  have hch : ch < 2 ^ 30 := by omega
  obtain ⟨q, hq⟩ := tt_fc_ex C
  refine lv_aload_n hx hb dL_law_302 rfl (lv_at hl 1 rfl) ?_
  refine lv_aload_n hx hb dL_law_303 rfl (lv_at hl 0 rfl) ?_
  refine lv_iload_n hx hb dL_law_304 rfl (lv_at hl 3 rfl) ?_
  refine lv_iconst (v := 1) hx hb dL_law_305 (by decide) ?_
  refine lv_iadd hx hb dL_law_306 ?_
  refine tt_rei (show ((nI (5 * k)) + 1) = nI (5 * k + 1) from nI_add (5 * k) 1) ?_
  refine va_sld hx hb hX hbl hbA hS (vp_in_nI (n := 5 * k + 1) (by omega) (by omega)) dL_law_307 ?_
  refine tt_rei (show (xs (nI (5 * k + 1)).toNatClampNeg) = xs (5 * k + 1) from congrArg xs (nI_clamp (n := 5 * k + 1) (by omega))) ?_
  refine lv_aload_n hx hb dL_law_308 rfl (lv_at hl 0 rfl) ?_
  refine lv_iload_n hx hb dL_law_309 rfl (lv_at hl 3 rfl) ?_
  refine lv_iconst (v := 2) hx hb dL_law_310 (by decide) ?_
  refine lv_iadd hx hb dL_law_311 ?_
  refine tt_rei (show ((nI (5 * k)) + 2) = nI (5 * k + 2) from nI_add (5 * k) 2) ?_
  refine va_sld hx hb hX hbl hbA hS (vp_in_nI (n := 5 * k + 2) (by omega) (by omega)) dL_law_312 ?_
  refine tt_rei (show (xs (nI (5 * k + 2)).toNatClampNeg) = xs (5 * k + 2) from congrArg xs (nI_clamp (n := 5 * k + 2) (by omega))) ?_
  refine lv_aload_n hx hb dL_law_313 rfl (lv_at hl 0 rfl) ?_
  refine lv_iload_n hx hb dL_law_314 rfl (lv_at hl 3 rfl) ?_
  refine lv_iconst (v := 3) hx hb dL_law_315 (by decide) ?_
  refine lv_iadd hx hb dL_law_316 ?_
  refine tt_rei (show ((nI (5 * k)) + 3) = nI (5 * k + 3) from nI_add (5 * k) 3) ?_
  refine va_sld hx hb hX hbl hbA hS (vp_in_nI (n := 5 * k + 3) (by omega) (by omega)) dL_law_317 ?_
  refine tt_rei (show (xs (nI (5 * k + 3)).toNatClampNeg) = xs (5 * k + 3) from congrArg xs (nI_clamp (n := 5 * k + 3) (by omega))) ?_
  refine lv_aload_n hx hb dL_law_318 rfl (lv_at hl 0 rfl) ?_
  refine lv_iload_n hx hb dL_law_319 rfl (lv_at hl 3 rfl) ?_
  refine lv_iconst (v := 4) hx hb dL_law_320 (by decide) ?_
  refine lv_iadd hx hb dL_law_321 ?_
  refine tt_rei (show ((nI (5 * k)) + 4) = nI (5 * k + 4) from nI_add (5 * k) 4) ?_
  refine va_sld hx hb hX hbl hbA hS (vp_in_nI (n := 5 * k + 4) (by omega) (by omega)) dL_law_322 ?_
  refine tt_rei (show (xs (nI (5 * k + 4)).toNatClampNeg) = xs (5 * k + 4) from congrArg xs (nI_clamp (n := 5 * k + 4) (by omega))) ?_
  refine tt_lcall (va_runV (As := [.int (xs (5 * k + 1)), .int (xs (5 * k + 2)), .int (xs (5 * k + 3)), .int (xs (5 * k + 4))]) (rest := []) hfix (c_X3_open l D cI cZ cO cC adx cx L ch C hR (xs (5 * k + 1)) (xs (5 * k + 2)) (xs (5 * k + 3)) (xs (5 * k + 4)) q hq hSM.1 _) (cwV 4 hts gL_law_X3_open rfl rfl rfl (by decide +kernel) ⟨Nat.le_of_ble_eq_true rfl, Nat.le_of_ble_eq_true rfl⟩) (tt_mpreV (q0 := 0) (ci := 3) hK hPx hDx ((hE.at hS).narrow (tt_freeF hDx hS hA)) (tt_bg (by omega) hR.1) rfl) rfl rfl hl.1 rfl (lv_room (Nat.le_of_ble_eq_true rfl)) dL_law_323 ⟨Nat.le_of_ble_eq_true rfl, Nat.le_of_ble_eq_true rfl⟩) hDx hPm (fun k q h => tt_apX hap h) hS hA (fun r1 cx H locs hux hPx hDx hPm hS => ?_)
  refine lv_aload_n hx hb dL_law_326 rfl (lv_at hl 2 rfl) ?_
  refine lv_aload_n hx hb dL_law_327 rfl (lv_at hl 0 rfl) ?_
  refine lv_iload_n hx hb dL_law_328 rfl (lv_at hl 3 rfl) ?_
  refine lv_iconst (v := 1) hx hb dL_law_329 (by decide) ?_
  refine lv_iadd hx hb dL_law_330 ?_
  refine tt_rei (show ((nI (5 * k)) + 1) = nI (5 * k + 1) from nI_add (5 * k) 1) ?_
  refine va_sld hx hb hX hbl hbA hS (vp_in_nI (n := 5 * k + 1) (by omega) (by omega)) dL_law_331 ?_
  refine tt_rei (show (xs (nI (5 * k + 1)).toNatClampNeg) = xs (5 * k + 1) from congrArg xs (nI_clamp (n := 5 * k + 1) (by omega))) ?_
  refine lv_aload_n hx hb dL_law_332 rfl (lv_at hl 0 rfl) ?_
  refine lv_iload_n hx hb dL_law_333 rfl (lv_at hl 3 rfl) ?_
  refine lv_iconst (v := 2) hx hb dL_law_334 (by decide) ?_
  refine lv_iadd hx hb dL_law_335 ?_
  refine tt_rei (show ((nI (5 * k)) + 2) = nI (5 * k + 2) from nI_add (5 * k) 2) ?_
  refine va_sld hx hb hX hbl hbA hS (vp_in_nI (n := 5 * k + 2) (by omega) (by omega)) dL_law_336 ?_
  refine tt_rei (show (xs (nI (5 * k + 2)).toNatClampNeg) = xs (5 * k + 2) from congrArg xs (nI_clamp (n := 5 * k + 2) (by omega))) ?_
  refine lv_aload_n hx hb dL_law_337 rfl (lv_at hl 0 rfl) ?_
  refine lv_iload_n hx hb dL_law_338 rfl (lv_at hl 3 rfl) ?_
  refine lv_iconst (v := 3) hx hb dL_law_339 (by decide) ?_
  refine lv_iadd hx hb dL_law_340 ?_
  refine tt_rei (show ((nI (5 * k)) + 3) = nI (5 * k + 3) from nI_add (5 * k) 3) ?_
  refine va_sld hx hb hX hbl hbA hS (vp_in_nI (n := 5 * k + 3) (by omega) (by omega)) dL_law_341 ?_
  refine tt_rei (show (xs (nI (5 * k + 3)).toNatClampNeg) = xs (5 * k + 3) from congrArg xs (nI_clamp (n := 5 * k + 3) (by omega))) ?_
  refine lv_aload_n hx hb dL_law_342 rfl (lv_at hl 0 rfl) ?_
  refine lv_iload_n hx hb dL_law_343 rfl (lv_at hl 3 rfl) ?_
  refine lv_iconst (v := 4) hx hb dL_law_344 (by decide) ?_
  refine lv_iadd hx hb dL_law_345 ?_
  refine tt_rei (show ((nI (5 * k)) + 4) = nI (5 * k + 4) from nI_add (5 * k) 4) ?_
  refine va_sld hx hb hX hbl hbA hS (vp_in_nI (n := 5 * k + 4) (by omega) (by omega)) dL_law_346 ?_
  refine tt_rei (show (xs (nI (5 * k + 4)).toNatClampNeg) = xs (5 * k + 4) from congrArg xs (nI_clamp (n := 5 * k + 4) (by omega))) ?_
  refine tt_lcall (va_runV (As := [.int (xs (5 * k + 1)), .int (xs (5 * k + 2)), .int (xs (5 * k + 3)), .int (xs (5 * k + 4))]) (rest := [.int r1]) hfix (c_X4_open l D cI cZ cO cC adm cm (L 0).length L ch K hQ (xs (5 * k + 1)) (xs (5 * k + 2)) (xs (5 * k + 3)) (xs (5 * k + 4)) q (tt_fc_fk hSM hq) _) (cwV 4 hts gL_law_X4_open rfl rfl rfl (by decide +kernel) ⟨Nat.le_of_ble_eq_true rfl, Nat.le_of_ble_eq_true rfl⟩) (tt_mpreV (q0 := 0) (ci := 4) hK hPm hDm tt_E.no (tt_bg (by omega) hQ.choose_spec.choose_spec.choose_spec.choose_spec.1.1) rfl) rfl rfl hl.1 rfl (lv_room (Nat.le_of_ble_eq_true rfl)) dL_law_347 ⟨Nat.le_of_ble_eq_true rfl, Nat.le_of_ble_eq_true rfl⟩) hDm hPx (fun k q h => tt_apM hap h) hS hA (fun r2 cm H locs hum hPm hDm hPx hS => ?_)
  rcases hux with ⟨a1, rfl, hR⟩ | ⟨mk, hm, e1, hux⟩
  · rcases hum with ⟨a2, rfl, hQ⟩ | ⟨mk2, hm2, e2, -⟩
    · refine lv_icmp_eq (tgt := 794) hx hb dL_law_350 (by decide) (fun _ => hnext cx cm L ch C K _ _ ls ⟨hR, hQ, tt_SM_more hSM (by omega), hPx, hPm, hDx, hDm, hS⟩ hl) (fun h9 => absurd rfl h9)
    · exact absurd (by rw [e2]; exact ⟨nI_pos (by omega), nI_ge (b := 8) hm2 (by omega)⟩) a1
  · rcases hum with ⟨a2, rfl, hQ⟩ | ⟨mk2, hm2, e2, hum⟩
    · exact absurd (by rw [e1]; exact ⟨nI_pos (by omega), nI_ge (b := 8) hm (by omega)⟩) a2
    · have em := (nI_eq (a := mk) (b := mk2) (by omega) (by omega)).mp (e1.symm.trans e2)
      subst em
      rcases hux with ⟨b1, rfl, hR⟩ | ⟨b1, rfl, hR⟩
      · rcases hum with ⟨b2, rfl, hQ⟩ | ⟨b2, -, -⟩
        · refine lv_icmp_eq (tgt := 794) hx hb dL_law_350 (by decide) (fun _ => hnext cx cm L ch C K _ _ ls ⟨hR, hQ, tt_SM_more hSM (by omega), hPx, hPm, hDx, hDm, hS⟩ hl) (fun h9 => absurd rfl h9)
        · omega
      · rcases hum with ⟨b2, -, -⟩ | ⟨b2, rfl, hQ⟩
        · omega
        · refine lv_icmp_eq (tgt := 794) hx hb dL_law_350 (by decide) (fun _ => hnext cx cm L ch _ _ _ _ ls ⟨hR, hQ, tt_SM_more (tt_SM_open hSM hm _ _ _) (by omega), hPx, hPm, hDx, hDm, hS⟩ hl) (fun h9 => absurd rfl h9)
set_option maxHeartbeats 4000000 in
set_option maxRecDepth 100000 in
theorem law_next {p : Program} {l : Launch} {e : Env} {s : State} {m : MethodId} {below : List Frame} {meth : Method} {c : Code} {D : va_G} {cI cZ cO cC : ClassId} {b LL : Nat} {xs : Nat → Int32} {adx adm : Nat → Nat} {Q : State → Prop} (hLL : LL ≤ 2560) (C0 : lw_At p s m meth c b LL xs) (hK : va_K D vwCl (tt_tys cI cZ cO cC) s) (hE : tt_E true (fun q : Nat => s.heap.size ≤ q) s s.heap) (hap : ∀ i j, i < 21 → j < 9 → adx i ≠ adm j) (k : Nat) (hk5 : 5 * k + 4 < LL) (cx cm : Nat → va_E) (L : Nat → List tt_T3) (ch : Nat) (C : Nat → tt_CU) (K : Nat → tt_KU) (H : Heap) (locs : List Loc) (ls : Array Slot) (hLS : tt_LS D cI cZ cO cC s adx adm cx cm L ch C K k H locs) (hl : lv_has ls 4 [(0, .ref b), (1, .ref (adx 0)), (2, .ref (adm 0)), (3, .int (nI (5 * k)))]) (hnext : (∀ (cx cm : Nat → va_E) (L : Nat → List tt_T3) (ch : Nat) (C : Nat → tt_CU) (K : Nat → tt_KU) (H : Heap) (locs : List Loc) (ls : Array Slot), tt_LS D cI cZ cO cC s adx adm cx cm L ch C K (k + 1) H locs → lv_has ls 4 [(0, .ref b), (1, .ref (adx 0)), (2, .ref (adm 0)), (3, .int (nI (5 * k)))] → W p l e room_1 s m #[Value.ref b] below meth c H locs 30 17652 Q (F0 m 794 ls []))) : W p l e room_1 s m #[Value.ref b] below meth c H locs 30 17652 Q (F0 m 355 ls []) := by
  obtain ⟨hx, hb, hr, hml, hown, hts, hX, hbl, hlocks, hgv⟩ := id C0
  have hts := fun w h => hts w (wsL_law_in w h)
  have hfix : CallFix p m c cL_law 4 s #[Value.ref b] wsL_law RL := ⟨hx, hb, hml, hown, hts⟩
  have hA : ∀ q : Nat, s.heap.size ≤ q → (fun q : Nat => s.heap.size ≤ q) q := fun _ h => h
  have hbA : ¬ (fun q : Nat => s.heap.size ≤ q) b := Nat.not_le.mpr hbl
  obtain ⟨hR, hQ, hSM, hPx, hPm, hDx, hDm, hS⟩ := hLS
  have hcnt := hSM.2.1
  have hcn2 := hSM.2.2.1
  have hn7 : (L 0).length < 700 := by omega
  have hch : ch < 2 ^ 30 := by omega
  refine lv_aload_n hx hb dL_law_355 rfl (lv_at hl 1 rfl) ?_
  refine lv_aload_n hx hb dL_law_356 rfl (lv_at hl 0 rfl) ?_
  refine lv_iload_n hx hb dL_law_357 rfl (lv_at hl 3 rfl) ?_
  refine lv_iconst (v := 1) hx hb dL_law_358 (by decide) ?_
  refine lv_iadd hx hb dL_law_359 ?_
  refine tt_rei (show ((nI (5 * k)) + 1) = nI (5 * k + 1) from nI_add (5 * k) 1) ?_
  refine va_sld hx hb hX hbl hbA hS (vp_in_nI (n := 5 * k + 1) (by omega) (by omega)) dL_law_360 ?_
  refine tt_rei (show (xs (nI (5 * k + 1)).toNatClampNeg) = xs (5 * k + 1) from congrArg xs (nI_clamp (n := 5 * k + 1) (by omega))) ?_
  refine tt_lcall (va_runV (As := [.int (xs (5 * k + 1))]) (rest := []) hfix (c_X3_next l D cI cZ cO cC adx cx L ch C hR (xs (5 * k + 1)) hSM.2.2.2.1 hch _) (cwV 1 hts gL_law_X3_next rfl rfl rfl (by decide +kernel) ⟨Nat.le_of_ble_eq_true rfl, Nat.le_of_ble_eq_true rfl⟩) (tt_mpreV (q0 := 0) (ci := 3) hK hPx hDx ((hE.at hS).narrow (tt_freeF hDx hS hA)) (tt_bg (by omega) hR.1) rfl) rfl rfl hl.1 rfl (lv_room (Nat.le_of_ble_eq_true rfl)) dL_law_361 ⟨Nat.le_of_ble_eq_true rfl, Nat.le_of_ble_eq_true rfl⟩) hDx hPm (fun k q h => tt_apX hap h) hS hA (fun r1 cx H locs hux hPx hDx hPm hS => ?_)
  refine lv_aload_n hx hb dL_law_364 rfl (lv_at hl 2 rfl) ?_
  refine lv_aload_n hx hb dL_law_365 rfl (lv_at hl 0 rfl) ?_
  refine lv_iload_n hx hb dL_law_366 rfl (lv_at hl 3 rfl) ?_
  refine lv_iconst (v := 1) hx hb dL_law_367 (by decide) ?_
  refine lv_iadd hx hb dL_law_368 ?_
  refine tt_rei (show ((nI (5 * k)) + 1) = nI (5 * k + 1) from nI_add (5 * k) 1) ?_
  refine va_sld hx hb hX hbl hbA hS (vp_in_nI (n := 5 * k + 1) (by omega) (by omega)) dL_law_369 ?_
  refine tt_rei (show (xs (nI (5 * k + 1)).toNatClampNeg) = xs (5 * k + 1) from congrArg xs (nI_clamp (n := 5 * k + 1) (by omega))) ?_
  refine tt_lcall (va_runV (As := [.int (xs (5 * k + 1))]) (rest := [.int r1]) hfix (c_X4_next l D cI cZ cO cC adm cm (L 0).length L ch K hQ (xs (5 * k + 1)) hSM.1 rfl hSM.2.2.2.2.1 _) (cwV 1 hts gL_law_X4_next rfl rfl rfl (by decide +kernel) ⟨Nat.le_of_ble_eq_true rfl, Nat.le_of_ble_eq_true rfl⟩) (tt_mpreV (q0 := 0) (ci := 4) hK hPm hDm tt_E.no (tt_bg (by omega) hQ.choose_spec.choose_spec.choose_spec.choose_spec.1.1) rfl) rfl rfl hl.1 rfl (lv_room (Nat.le_of_ble_eq_true rfl)) dL_law_370 ⟨Nat.le_of_ble_eq_true rfl, Nat.le_of_ble_eq_true rfl⟩) hDm hPx (fun k q h => tt_apM hap h) hS hA (fun r2 cm H locs hum hPm hDm hPx hS => ?_)
  rcases hux with ⟨a1, rfl, hR⟩ | ⟨j, hj, e1, o1, hux⟩
  · rcases hum with ⟨a2, rfl, hQ⟩ | ⟨j2, hj2, e2, o2, -⟩
    · refine lv_icmp_eq (tgt := 794) hx hb dL_law_373 (by decide) (fun _ => hnext cx cm L ch C K _ _ ls ⟨hR, hQ, tt_SM_more hSM (by omega), hPx, hPm, hDx, hDm, hS⟩ hl) (fun h9 => absurd rfl h9)
    · exact absurd ((tt_op_ok hSM _).mpr (by rw [e2]; exact (tt_ok_in hj2).mpr o2)) a1
  · rcases hum with ⟨a2, rfl, hQ⟩ | ⟨j2, hj2, e2, o2, hum⟩
    · exact absurd ((tt_op_ok hSM _).mp (by rw [e1]; exact (tt_op_in hj).mpr o1)) a2
    · have ej := (nI_eq (a := j) (b := j2) (by omega) (by omega)).mp (e1.symm.trans e2)
      subst ej
      have hsc := hSM.2.2.2.2.2 j hj
      have hst := (hsc.2 o2).1
      have hmk := (hSM.2.2.2.2.1 j hj).1
      rcases hux with ⟨b1, rfl, hR⟩ | ⟨b1, rfl, hR⟩
      · rcases hum with ⟨b2, rfl, hQ⟩ | ⟨b2, -, -⟩
        · refine lv_icmp_eq (tgt := 794) hx hb dL_law_373 (by decide) (fun _ => hnext cx cm L ch C K _ _ ls ⟨hR, hQ, tt_SM_more hSM (by omega), hPx, hPm, hDx, hDm, hS⟩ hl) (fun h9 => absurd rfl h9)
        · rw [hst.mpr b1] at b2; cases b2
      · rcases hum with ⟨b2, -, -⟩ | ⟨b2, rfl, hQ⟩
        · exact absurd b1 (hst.mp b2)
        · obtain ⟨g1, g2, g3⟩ := tt_SC_go (pl := 0) hSM.1 rfl hsc o2 b2
          have hnx := tt_nx_eq (pl := 0) hSM.1 rfl hmk hsc o2 b2 (tt_gd_next hSM.1 rfl hmk)
          rw [← hnx] at g1 g2 g3
          rw [tt_sk_0 (tt_SC_le hSM.1 hsc o2 b2)] at g1 g2
          refine tt_reiX g2 ?_
          refine lv_icmp_eq (tgt := 794) hx hb dL_law_373 (by decide) (fun _ => hnext cx cm L ch _ _ _ _ ls ⟨hR, hQ, tt_SM_more (tt_SM_gn hSM hj (u := C j) ⟨(hSM.2.2.2.1 j hj).1, (hSM.2.2.2.1 j hj).2.1, (hSM.2.2.2.1 j hj).2.2.1, (hSM.2.2.2.1 j hj).2.2.2.1⟩ hmk g3 g1) (by omega), hPx, hPm, hDx, hDm, hS⟩ hl) (fun h9 => absurd rfl h9)
set_option maxHeartbeats 4000000 in
set_option maxRecDepth 100000 in
theorem law_seek {p : Program} {l : Launch} {e : Env} {s : State} {m : MethodId} {below : List Frame} {meth : Method} {c : Code} {D : va_G} {cI cZ cO cC : ClassId} {b LL : Nat} {xs : Nat → Int32} {adx adm : Nat → Nat} {Q : State → Prop} (hLL : LL ≤ 2560) (C0 : lw_At p s m meth c b LL xs) (hK : va_K D vwCl (tt_tys cI cZ cO cC) s) (hE : tt_E true (fun q : Nat => s.heap.size ≤ q) s s.heap) (hap : ∀ i j, i < 21 → j < 9 → adx i ≠ adm j) (k : Nat) (hk5 : 5 * k + 4 < LL) (cx cm : Nat → va_E) (L : Nat → List tt_T3) (ch : Nat) (C : Nat → tt_CU) (K : Nat → tt_KU) (H : Heap) (locs : List Loc) (ls : Array Slot) (hLS : tt_LS D cI cZ cO cC s adx adm cx cm L ch C K k H locs) (hl : lv_has ls 4 [(0, .ref b), (1, .ref (adx 0)), (2, .ref (adm 0)), (3, .int (nI (5 * k)))]) (hnext : (∀ (cx cm : Nat → va_E) (L : Nat → List tt_T3) (ch : Nat) (C : Nat → tt_CU) (K : Nat → tt_KU) (H : Heap) (locs : List Loc) (ls : Array Slot), tt_LS D cI cZ cO cC s adx adm cx cm L ch C K (k + 1) H locs → lv_has ls 4 [(0, .ref b), (1, .ref (adx 0)), (2, .ref (adm 0)), (3, .int (nI (5 * k)))] → W p l e room_1 s m #[Value.ref b] below meth c H locs 30 17652 Q (F0 m 794 ls []))) : W p l e room_1 s m #[Value.ref b] below meth c H locs 30 17652 Q (F0 m 378 ls []) := by
  obtain ⟨hx, hb, hr, hml, hown, hts, hX, hbl, hlocks, hgv⟩ := id C0
  have hts := fun w h => hts w (wsL_law_in w h)
  have hfix : CallFix p m c cL_law 4 s #[Value.ref b] wsL_law RL := ⟨hx, hb, hml, hown, hts⟩
  have hA : ∀ q : Nat, s.heap.size ≤ q → (fun q : Nat => s.heap.size ≤ q) q := fun _ h => h
  have hbA : ¬ (fun q : Nat => s.heap.size ≤ q) b := Nat.not_le.mpr hbl
  obtain ⟨hR, hQ, hSM, hPx, hPm, hDx, hDm, hS⟩ := hLS
  have hcnt := hSM.2.1
  have hcn2 := hSM.2.2.1
  have hn7 : (L 0).length < 700 := by omega
  have hch : ch < 2 ^ 30 := by omega
  refine lv_aload_n hx hb dL_law_378 rfl (lv_at hl 1 rfl) ?_
  refine lv_aload_n hx hb dL_law_379 rfl (lv_at hl 0 rfl) ?_
  refine lv_iload_n hx hb dL_law_380 rfl (lv_at hl 3 rfl) ?_
  refine lv_iconst (v := 1) hx hb dL_law_381 (by decide) ?_
  refine lv_iadd hx hb dL_law_382 ?_
  refine tt_rei (show ((nI (5 * k)) + 1) = nI (5 * k + 1) from nI_add (5 * k) 1) ?_
  refine va_sld hx hb hX hbl hbA hS (vp_in_nI (n := 5 * k + 1) (by omega) (by omega)) dL_law_383 ?_
  refine tt_rei (show (xs (nI (5 * k + 1)).toNatClampNeg) = xs (5 * k + 1) from congrArg xs (nI_clamp (n := 5 * k + 1) (by omega))) ?_
  refine lv_aload_n hx hb dL_law_384 rfl (lv_at hl 0 rfl) ?_
  refine lv_iload_n hx hb dL_law_385 rfl (lv_at hl 3 rfl) ?_
  refine lv_iconst (v := 2) hx hb dL_law_386 (by decide) ?_
  refine lv_iadd hx hb dL_law_387 ?_
  refine tt_rei (show ((nI (5 * k)) + 2) = nI (5 * k + 2) from nI_add (5 * k) 2) ?_
  refine va_sld hx hb hX hbl hbA hS (vp_in_nI (n := 5 * k + 2) (by omega) (by omega)) dL_law_388 ?_
  refine tt_rei (show (xs (nI (5 * k + 2)).toNatClampNeg) = xs (5 * k + 2) from congrArg xs (nI_clamp (n := 5 * k + 2) (by omega))) ?_
  refine lv_aload_n hx hb dL_law_389 rfl (lv_at hl 0 rfl) ?_
  refine lv_iload_n hx hb dL_law_390 rfl (lv_at hl 3 rfl) ?_
  refine lv_iconst (v := 3) hx hb dL_law_391 (by decide) ?_
  refine lv_iadd hx hb dL_law_392 ?_
  refine tt_rei (show ((nI (5 * k)) + 3) = nI (5 * k + 3) from nI_add (5 * k) 3) ?_
  refine va_sld hx hb hX hbl hbA hS (vp_in_nI (n := 5 * k + 3) (by omega) (by omega)) dL_law_393 ?_
  refine tt_rei (show (xs (nI (5 * k + 3)).toNatClampNeg) = xs (5 * k + 3) from congrArg xs (nI_clamp (n := 5 * k + 3) (by omega))) ?_
  refine lv_aload_n hx hb dL_law_394 rfl (lv_at hl 0 rfl) ?_
  refine lv_iload_n hx hb dL_law_395 rfl (lv_at hl 3 rfl) ?_
  refine lv_iconst (v := 4) hx hb dL_law_396 (by decide) ?_
  refine lv_iadd hx hb dL_law_397 ?_
  refine tt_rei (show ((nI (5 * k)) + 4) = nI (5 * k + 4) from nI_add (5 * k) 4) ?_
  refine va_sld hx hb hX hbl hbA hS (vp_in_nI (n := 5 * k + 4) (by omega) (by omega)) dL_law_398 ?_
  refine tt_rei (show (xs (nI (5 * k + 4)).toNatClampNeg) = xs (5 * k + 4) from congrArg xs (nI_clamp (n := 5 * k + 4) (by omega))) ?_
  refine tt_lcall (va_runV (As := [.int (xs (5 * k + 1)), .int (xs (5 * k + 2)), .int (xs (5 * k + 3)), .int (xs (5 * k + 4))]) (rest := []) hfix (c_X3_seek l D cI cZ cO cC adx cx L ch C hR (xs (5 * k + 1)) (xs (5 * k + 2)) (xs (5 * k + 3)) (xs (5 * k + 4)) hSM.2.2.2.1 hch hSM.1 _) (cwV 4 hts gL_law_X3_seek rfl rfl rfl (by decide +kernel) ⟨Nat.le_of_ble_eq_true rfl, Nat.le_of_ble_eq_true rfl⟩) (tt_mpreV (q0 := 0) (ci := 3) hK hPx hDx ((hE.at hS).narrow (tt_freeF hDx hS hA)) (tt_bg (by omega) hR.1) rfl) rfl rfl hl.1 rfl (lv_room (Nat.le_of_ble_eq_true rfl)) dL_law_399 ⟨Nat.le_of_ble_eq_true rfl, Nat.le_of_ble_eq_true rfl⟩) hDx hPm (fun k q h => tt_apX hap h) hS hA (fun r1 cx H locs hux hPx hDx hPm hS => ?_)
  refine lv_aload_n hx hb dL_law_402 rfl (lv_at hl 2 rfl) ?_
  refine lv_aload_n hx hb dL_law_403 rfl (lv_at hl 0 rfl) ?_
  refine lv_iload_n hx hb dL_law_404 rfl (lv_at hl 3 rfl) ?_
  refine lv_iconst (v := 1) hx hb dL_law_405 (by decide) ?_
  refine lv_iadd hx hb dL_law_406 ?_
  refine tt_rei (show ((nI (5 * k)) + 1) = nI (5 * k + 1) from nI_add (5 * k) 1) ?_
  refine va_sld hx hb hX hbl hbA hS (vp_in_nI (n := 5 * k + 1) (by omega) (by omega)) dL_law_407 ?_
  refine tt_rei (show (xs (nI (5 * k + 1)).toNatClampNeg) = xs (5 * k + 1) from congrArg xs (nI_clamp (n := 5 * k + 1) (by omega))) ?_
  refine lv_aload_n hx hb dL_law_408 rfl (lv_at hl 0 rfl) ?_
  refine lv_iload_n hx hb dL_law_409 rfl (lv_at hl 3 rfl) ?_
  refine lv_iconst (v := 2) hx hb dL_law_410 (by decide) ?_
  refine lv_iadd hx hb dL_law_411 ?_
  refine tt_rei (show ((nI (5 * k)) + 2) = nI (5 * k + 2) from nI_add (5 * k) 2) ?_
  refine va_sld hx hb hX hbl hbA hS (vp_in_nI (n := 5 * k + 2) (by omega) (by omega)) dL_law_412 ?_
  refine tt_rei (show (xs (nI (5 * k + 2)).toNatClampNeg) = xs (5 * k + 2) from congrArg xs (nI_clamp (n := 5 * k + 2) (by omega))) ?_
  refine lv_aload_n hx hb dL_law_413 rfl (lv_at hl 0 rfl) ?_
  refine lv_iload_n hx hb dL_law_414 rfl (lv_at hl 3 rfl) ?_
  refine lv_iconst (v := 3) hx hb dL_law_415 (by decide) ?_
  refine lv_iadd hx hb dL_law_416 ?_
  refine tt_rei (show ((nI (5 * k)) + 3) = nI (5 * k + 3) from nI_add (5 * k) 3) ?_
  refine va_sld hx hb hX hbl hbA hS (vp_in_nI (n := 5 * k + 3) (by omega) (by omega)) dL_law_417 ?_
  refine tt_rei (show (xs (nI (5 * k + 3)).toNatClampNeg) = xs (5 * k + 3) from congrArg xs (nI_clamp (n := 5 * k + 3) (by omega))) ?_
  refine lv_aload_n hx hb dL_law_418 rfl (lv_at hl 0 rfl) ?_
  refine lv_iload_n hx hb dL_law_419 rfl (lv_at hl 3 rfl) ?_
  refine lv_iconst (v := 4) hx hb dL_law_420 (by decide) ?_
  refine lv_iadd hx hb dL_law_421 ?_
  refine tt_rei (show ((nI (5 * k)) + 4) = nI (5 * k + 4) from nI_add (5 * k) 4) ?_
  refine va_sld hx hb hX hbl hbA hS (vp_in_nI (n := 5 * k + 4) (by omega) (by omega)) dL_law_422 ?_
  refine tt_rei (show (xs (nI (5 * k + 4)).toNatClampNeg) = xs (5 * k + 4) from congrArg xs (nI_clamp (n := 5 * k + 4) (by omega))) ?_
  refine tt_lcall (va_runV (As := [.int (xs (5 * k + 1)), .int (xs (5 * k + 2)), .int (xs (5 * k + 3)), .int (xs (5 * k + 4))]) (rest := [.int r1]) hfix (c_X4_seek l D cI cZ cO cC adm cm (L 0).length L ch K hQ (xs (5 * k + 1)) (xs (5 * k + 2)) (xs (5 * k + 3)) (xs (5 * k + 4)) hSM.1 rfl hSM.2.2.2.2.1 _) (cwV 4 hts gL_law_X4_seek rfl rfl rfl (by decide +kernel) ⟨Nat.le_of_ble_eq_true rfl, Nat.le_of_ble_eq_true rfl⟩) (tt_mpreV (q0 := 0) (ci := 4) hK hPm hDm tt_E.no (tt_bg (by omega) hQ.choose_spec.choose_spec.choose_spec.choose_spec.1.1) rfl) rfl rfl hl.1 rfl (lv_room (Nat.le_of_ble_eq_true rfl)) dL_law_423 ⟨Nat.le_of_ble_eq_true rfl, Nat.le_of_ble_eq_true rfl⟩) hDm hPx (fun k q h => tt_apM hap h) hS hA (fun r2 cm H locs hum hPm hDm hPx hS => ?_)
  rcases hux with ⟨a1, rfl, hR⟩ | ⟨j, hj, e1, o1, hux⟩
  · rcases hum with ⟨a2, rfl, hQ⟩ | ⟨j2, hj2, e2, o2, -⟩
    · refine lv_icmp_eq (tgt := 794) hx hb dL_law_426 (by decide) (fun _ => hnext cx cm L ch C K _ _ ls ⟨hR, hQ, tt_SM_more hSM (by omega), hPx, hPm, hDx, hDm, hS⟩ hl) (fun h9 => absurd rfl h9)
    · exact absurd ((tt_op_ok hSM _).mpr (by rw [e2]; exact (tt_ok_in hj2).mpr o2)) a1
  · rcases hum with ⟨a2, rfl, hQ⟩ | ⟨j2, hj2, e2, o2, hum⟩
    · exact absurd ((tt_op_ok hSM _).mp (by rw [e1]; exact (tt_op_in hj).mpr o1)) a2
    · have ej := (nI_eq (a := j) (b := j2) (by omega) (by omega)).mp (e1.symm.trans e2)
      subst ej
      have hsc := hSM.2.2.2.2.2 j hj
      have hst := (hsc.2 o2).1
      have hmk := (hSM.2.2.2.2.1 j hj).1
      rcases hux with ⟨b1, rfl, hR⟩ | ⟨b1, rfl, hR⟩
      · rcases hum with ⟨b2, rfl, hQ⟩ | ⟨b2, -, -⟩
        · refine lv_icmp_eq (tgt := 794) hx hb dL_law_426 (by decide) (fun _ => hnext cx cm L ch C K _ _ ls ⟨hR, hQ, tt_SM_more hSM (by omega), hPx, hPm, hDx, hDm, hS⟩ hl) (fun h9 => absurd rfl h9)
        · rw [hst.mpr b1] at b2; cases b2
      · rcases hum with ⟨b2, -, -⟩ | ⟨b2, rfl, hQ⟩
        · exact absurd b1 (hst.mp b2)
        · have eo := ((hsc.2 o2).2 b2).1
          rw [eo] at hR ⊢
          obtain ⟨g1, g2, g3⟩ := tt_SC_go (pl := (tt_pl (tt_o (K j).2.2.1) 3 (xs (5 * k + 2)) (xs (5 * k + 3)) (xs (5 * k + 4)) 0 (L (tt_o (K j).2.2.1)))) hSM.1 rfl hsc o2 b2
          have hnx := tt_nx_eq (pl := (tt_pl (tt_o (K j).2.2.1) 3 (xs (5 * k + 2)) (xs (5 * k + 3)) (xs (5 * k + 4)) 0 (L (tt_o (K j).2.2.1)))) hSM.1 rfl hmk hsc o2 b2 (tt_gd_seek (v := K j) hSM.1 rfl hmk (xs (5 * k + 2)) (xs (5 * k + 3)) (xs (5 * k + 4)))
          rw [← hnx] at g1 g2 g3
          refine tt_reiX g2 ?_
          refine lv_icmp_eq (tgt := 794) hx hb dL_law_426 (by decide) (fun _ => hnext cx cm L ch _ _ _ _ ls ⟨hR, hQ, tt_SM_more (tt_SM_gn hSM hj (tt_sk_CI (hSM.2.2.2.1 j hj)) hmk g3 g1) (by omega), hPx, hPm, hDx, hDm, hS⟩ hl) (fun h9 => absurd rfl h9)
set_option maxHeartbeats 4000000 in
set_option maxRecDepth 100000 in
theorem law_part {p : Program} {l : Launch} {e : Env} {s : State} {m : MethodId} {below : List Frame} {meth : Method} {c : Code} {D : va_G} {cI cZ cO cC : ClassId} {b LL : Nat} {xs : Nat → Int32} {adx adm : Nat → Nat} {Q : State → Prop} (hLL : LL ≤ 2560) (C0 : lw_At p s m meth c b LL xs) (hK : va_K D vwCl (tt_tys cI cZ cO cC) s) (hE : tt_E true (fun q : Nat => s.heap.size ≤ q) s s.heap) (hap : ∀ i j, i < 21 → j < 9 → adx i ≠ adm j) (k : Nat) (hk5 : 5 * k + 4 < LL) (cx cm : Nat → va_E) (L : Nat → List tt_T3) (ch : Nat) (C : Nat → tt_CU) (K : Nat → tt_KU) (H : Heap) (locs : List Loc) (ls : Array Slot) (hLS : tt_LS D cI cZ cO cC s adx adm cx cm L ch C K k H locs) (hl : lv_has ls 4 [(0, .ref b), (1, .ref (adx 0)), (2, .ref (adm 0)), (3, .int (nI (5 * k)))]) (hnext : (∀ (cx cm : Nat → va_E) (L : Nat → List tt_T3) (ch : Nat) (C : Nat → tt_CU) (K : Nat → tt_KU) (H : Heap) (locs : List Loc) (ls : Array Slot), tt_LS D cI cZ cO cC s adx adm cx cm L ch C K (k + 1) H locs → lv_has ls 4 [(0, .ref b), (1, .ref (adx 0)), (2, .ref (adm 0)), (3, .int (nI (5 * k)))] → W p l e room_1 s m #[Value.ref b] below meth c H locs 30 17652 Q (F0 m 794 ls []))) : W p l e room_1 s m #[Value.ref b] below meth c H locs 30 17652 Q (F0 m 431 ls []) := by
  obtain ⟨hx, hb, hr, hml, hown, hts, hX, hbl, hlocks, hgv⟩ := id C0
  have hts := fun w h => hts w (wsL_law_in w h)
  have hfix : CallFix p m c cL_law 4 s #[Value.ref b] wsL_law RL := ⟨hx, hb, hml, hown, hts⟩
  have hA : ∀ q : Nat, s.heap.size ≤ q → (fun q : Nat => s.heap.size ≤ q) q := fun _ h => h
  have hbA : ¬ (fun q : Nat => s.heap.size ≤ q) b := Nat.not_le.mpr hbl
  obtain ⟨hR, hQ, hSM, hPx, hPm, hDx, hDm, hS⟩ := hLS
  have hcnt := hSM.2.1
  have hcn2 := hSM.2.2.1
  have hn7 : (L 0).length < 700 := by omega
  have hch : ch < 2 ^ 30 := by omega
  refine lv_aload_n hx hb dL_law_431 rfl (lv_at hl 1 rfl) ?_
  refine lv_aload_n hx hb dL_law_432 rfl (lv_at hl 0 rfl) ?_
  refine lv_iload_n hx hb dL_law_433 rfl (lv_at hl 3 rfl) ?_
  refine lv_iconst (v := 1) hx hb dL_law_434 (by decide) ?_
  refine lv_iadd hx hb dL_law_435 ?_
  refine tt_rei (show ((nI (5 * k)) + 1) = nI (5 * k + 1) from nI_add (5 * k) 1) ?_
  refine va_sld hx hb hX hbl hbA hS (vp_in_nI (n := 5 * k + 1) (by omega) (by omega)) dL_law_436 ?_
  refine tt_rei (show (xs (nI (5 * k + 1)).toNatClampNeg) = xs (5 * k + 1) from congrArg xs (nI_clamp (n := 5 * k + 1) (by omega))) ?_
  refine lv_aload_n hx hb dL_law_437 rfl (lv_at hl 0 rfl) ?_
  refine lv_iload_n hx hb dL_law_438 rfl (lv_at hl 3 rfl) ?_
  refine lv_iconst (v := 2) hx hb dL_law_439 (by decide) ?_
  refine lv_iadd hx hb dL_law_440 ?_
  refine tt_rei (show ((nI (5 * k)) + 2) = nI (5 * k + 2) from nI_add (5 * k) 2) ?_
  refine va_sld hx hb hX hbl hbA hS (vp_in_nI (n := 5 * k + 2) (by omega) (by omega)) dL_law_441 ?_
  refine tt_rei (show (xs (nI (5 * k + 2)).toNatClampNeg) = xs (5 * k + 2) from congrArg xs (nI_clamp (n := 5 * k + 2) (by omega))) ?_
  refine tt_calli2 (va_runV (As := [.int (xs (5 * k + 1)), .int (xs (5 * k + 2))]) (rest := []) hfix (c_X3_part l D cI cZ cO cC adx cx L ch C hR (xs (5 * k + 1)) (xs (5 * k + 2)) hSM.1 hSM.2.2.2.1 hch) (cwV 2 hts gL_law_X3_part rfl rfl rfl (by decide +kernel) ⟨Nat.le_of_ble_eq_true rfl, Nat.le_of_ble_eq_true rfl⟩) (tt_preV (q0 := 0) (ci := 3) hK hPx ((hE.at hS).narrow (fun _ h => h.elim)) (tt_bg (by omega) hR.1) rfl) rfl rfl hl.1 rfl (lv_room (Nat.le_of_ble_eq_true rfl)) dL_law_442 ⟨Nat.le_of_ble_eq_true rfl, Nat.le_of_ble_eq_true rfl⟩) hPx hPm hS (fun H locs hPx hPm hS => ?_)
  refine lv_aload_n hx hb dL_law_445 rfl (lv_at hl 2 rfl) ?_
  refine lv_aload_n hx hb dL_law_446 rfl (lv_at hl 0 rfl) ?_
  refine lv_iload_n hx hb dL_law_447 rfl (lv_at hl 3 rfl) ?_
  refine lv_iconst (v := 1) hx hb dL_law_448 (by decide) ?_
  refine lv_iadd hx hb dL_law_449 ?_
  refine tt_rei (show ((nI (5 * k)) + 1) = nI (5 * k + 1) from nI_add (5 * k) 1) ?_
  refine va_sld hx hb hX hbl hbA hS (vp_in_nI (n := 5 * k + 1) (by omega) (by omega)) dL_law_450 ?_
  refine tt_rei (show (xs (nI (5 * k + 1)).toNatClampNeg) = xs (5 * k + 1) from congrArg xs (nI_clamp (n := 5 * k + 1) (by omega))) ?_
  refine lv_aload_n hx hb dL_law_451 rfl (lv_at hl 0 rfl) ?_
  refine lv_iload_n hx hb dL_law_452 rfl (lv_at hl 3 rfl) ?_
  refine lv_iconst (v := 2) hx hb dL_law_453 (by decide) ?_
  refine lv_iadd hx hb dL_law_454 ?_
  refine tt_rei (show ((nI (5 * k)) + 2) = nI (5 * k + 2) from nI_add (5 * k) 2) ?_
  refine va_sld hx hb hX hbl hbA hS (vp_in_nI (n := 5 * k + 2) (by omega) (by omega)) dL_law_455 ?_
  refine tt_rei (show (xs (nI (5 * k + 2)).toNatClampNeg) = xs (5 * k + 2) from congrArg xs (nI_clamp (n := 5 * k + 2) (by omega))) ?_
  refine tt_calli2 (va_runV (As := [.int (xs (5 * k + 1)), .int (xs (5 * k + 2))]) (rest := [.int (if tt_op C (xs (5 * k + 1)) then (fun j => tt_prj (C j) ch L (xs (5 * k + 2))) (xs (5 * k + 1)).toNatClampNeg else 0)]) hfix (c_X4_part l D cI cZ cO cC adm cm (L 0).length L ch K hQ (xs (5 * k + 1)) (xs (5 * k + 2)) hSM.1 rfl hSM.2.2.2.2.1) (cwV 2 hts gL_law_X4_part rfl rfl rfl (by decide +kernel) ⟨Nat.le_of_ble_eq_true rfl, Nat.le_of_ble_eq_true rfl⟩) (tt_preV (q0 := 0) (ci := 4) hK hPm tt_E.no (tt_bg (by omega) hQ.choose_spec.choose_spec.choose_spec.choose_spec.1.1) rfl) rfl rfl hl.1 rfl (lv_room (Nat.le_of_ble_eq_true rfl)) dL_law_456 ⟨Nat.le_of_ble_eq_true rfl, Nat.le_of_ble_eq_true rfl⟩) hPx hPm hS (fun H locs hPx hPm hS => ?_)
  refine lv_icmp_eq (tgt := 794) hx hb dL_law_459 (by decide) (fun _ => ?_) (fun h9 => absurd (tt_part_if hSM _ _) h9)
  exact hnext cx cm L ch C K _ _ ls ⟨hR, hQ, tt_SM_more hSM (by omega), hPx, hPm, hDx, hDm, hS⟩ hl
set_option maxHeartbeats 4000000 in
set_option maxRecDepth 100000 in
theorem law_close {p : Program} {l : Launch} {e : Env} {s : State} {m : MethodId} {below : List Frame} {meth : Method} {c : Code} {D : va_G} {cI cZ cO cC : ClassId} {b LL : Nat} {xs : Nat → Int32} {adx adm : Nat → Nat} {Q : State → Prop} (hLL : LL ≤ 2560) (C0 : lw_At p s m meth c b LL xs) (hK : va_K D vwCl (tt_tys cI cZ cO cC) s) (hE : tt_E true (fun q : Nat => s.heap.size ≤ q) s s.heap) (hap : ∀ i j, i < 21 → j < 9 → adx i ≠ adm j) (k : Nat) (hk5 : 5 * k + 4 < LL) (cx cm : Nat → va_E) (L : Nat → List tt_T3) (ch : Nat) (C : Nat → tt_CU) (K : Nat → tt_KU) (H : Heap) (locs : List Loc) (ls : Array Slot) (hLS : tt_LS D cI cZ cO cC s adx adm cx cm L ch C K k H locs) (hl : lv_has ls 4 [(0, .ref b), (1, .ref (adx 0)), (2, .ref (adm 0)), (3, .int (nI (5 * k)))]) (hnext : (∀ (cx cm : Nat → va_E) (L : Nat → List tt_T3) (ch : Nat) (C : Nat → tt_CU) (K : Nat → tt_KU) (H : Heap) (locs : List Loc) (ls : Array Slot), tt_LS D cI cZ cO cC s adx adm cx cm L ch C K (k + 1) H locs → lv_has ls 4 [(0, .ref b), (1, .ref (adx 0)), (2, .ref (adm 0)), (3, .int (nI (5 * k)))] → W p l e room_1 s m #[Value.ref b] below meth c H locs 30 17652 Q (F0 m 794 ls []))) : W p l e room_1 s m #[Value.ref b] below meth c H locs 30 17652 Q (F0 m 464 ls []) := by
  obtain ⟨hx, hb, hr, hml, hown, hts, hX, hbl, hlocks, hgv⟩ := id C0
  have hts := fun w h => hts w (wsL_law_in w h)
  have hfix : CallFix p m c cL_law 4 s #[Value.ref b] wsL_law RL := ⟨hx, hb, hml, hown, hts⟩
  have hA : ∀ q : Nat, s.heap.size ≤ q → (fun q : Nat => s.heap.size ≤ q) q := fun _ h => h
  have hbA : ¬ (fun q : Nat => s.heap.size ≤ q) b := Nat.not_le.mpr hbl
  obtain ⟨hR, hQ, hSM, hPx, hPm, hDx, hDm, hS⟩ := hLS
  have hcnt := hSM.2.1
  have hcn2 := hSM.2.2.1
  have hn7 : (L 0).length < 700 := by omega
  have hch : ch < 2 ^ 30 := by omega
  refine lv_aload_n hx hb dL_law_464 rfl (lv_at hl 1 rfl) ?_
  refine lv_aload_n hx hb dL_law_465 rfl (lv_at hl 0 rfl) ?_
  refine lv_iload_n hx hb dL_law_466 rfl (lv_at hl 3 rfl) ?_
  refine lv_iconst (v := 1) hx hb dL_law_467 (by decide) ?_
  refine lv_iadd hx hb dL_law_468 ?_
  refine tt_rei (show ((nI (5 * k)) + 1) = nI (5 * k + 1) from nI_add (5 * k) 1) ?_
  refine va_sld hx hb hX hbl hbA hS (vp_in_nI (n := 5 * k + 1) (by omega) (by omega)) dL_law_469 ?_
  refine tt_rei (show (xs (nI (5 * k + 1)).toNatClampNeg) = xs (5 * k + 1) from congrArg xs (nI_clamp (n := 5 * k + 1) (by omega))) ?_
  refine tt_lcall (va_runV (As := [.int (xs (5 * k + 1))]) (rest := []) hfix (c_X3_close l D cI cZ cO cC adx cx L ch C hR (xs (5 * k + 1)) hSM.2.2.2.1 hch _) (cwV 1 hts gL_law_X3_close rfl rfl rfl (by decide +kernel) ⟨Nat.le_of_ble_eq_true rfl, Nat.le_of_ble_eq_true rfl⟩) (tt_mpreV (q0 := 0) (ci := 3) hK hPx hDx ((hE.at hS).narrow (tt_freeF hDx hS hA)) (tt_bg (by omega) hR.1) rfl) rfl rfl hl.1 rfl (lv_room (Nat.le_of_ble_eq_true rfl)) dL_law_470 ⟨Nat.le_of_ble_eq_true rfl, Nat.le_of_ble_eq_true rfl⟩) hDx hPm (fun k q h => tt_apX hap h) hS hA (fun r1 cx H locs hux hPx hDx hPm hS => ?_)
  refine lv_aload_n hx hb dL_law_473 rfl (lv_at hl 2 rfl) ?_
  refine lv_aload_n hx hb dL_law_474 rfl (lv_at hl 0 rfl) ?_
  refine lv_iload_n hx hb dL_law_475 rfl (lv_at hl 3 rfl) ?_
  refine lv_iconst (v := 1) hx hb dL_law_476 (by decide) ?_
  refine lv_iadd hx hb dL_law_477 ?_
  refine tt_rei (show ((nI (5 * k)) + 1) = nI (5 * k + 1) from nI_add (5 * k) 1) ?_
  refine va_sld hx hb hX hbl hbA hS (vp_in_nI (n := 5 * k + 1) (by omega) (by omega)) dL_law_478 ?_
  refine tt_rei (show (xs (nI (5 * k + 1)).toNatClampNeg) = xs (5 * k + 1) from congrArg xs (nI_clamp (n := 5 * k + 1) (by omega))) ?_
  refine tt_lcall (va_runV (As := [.int (xs (5 * k + 1))]) (rest := [.int r1]) hfix (c_X4_close l D cI cZ cO cC adm cm (L 0).length L ch K hQ (xs (5 * k + 1)) hSM.2.2.2.2.1 _) (cwV 1 hts gL_law_X4_close rfl rfl rfl (by decide +kernel) ⟨Nat.le_of_ble_eq_true rfl, Nat.le_of_ble_eq_true rfl⟩) (tt_mpreV (q0 := 0) (ci := 4) hK hPm hDm tt_E.no (tt_bg (by omega) hQ.choose_spec.choose_spec.choose_spec.choose_spec.1.1) rfl) rfl rfl hl.1 rfl (lv_room (Nat.le_of_ble_eq_true rfl)) dL_law_479 ⟨Nat.le_of_ble_eq_true rfl, Nat.le_of_ble_eq_true rfl⟩) hDm hPx (fun k q h => tt_apM hap h) hS hA (fun r2 cm H locs hum hPm hDm hPx hS => ?_)
  rcases hux with ⟨a1, rfl, hR⟩ | ⟨j, hj, e1, o1, rfl, hR⟩
  · rcases hum with ⟨a2, rfl, hQ⟩ | ⟨j2, hj2, e2, o2, -⟩
    · refine lv_icmp_eq (tgt := 794) hx hb dL_law_482 (by decide) (fun _ => hnext cx cm L ch C K _ _ ls ⟨hR, hQ, tt_SM_more hSM (by omega), hPx, hPm, hDx, hDm, hS⟩ hl) (fun h9 => absurd rfl h9)
    · exact absurd ((tt_op_ok hSM _).mpr (by rw [e2]; exact (tt_ok_in hj2).mpr o2)) a1
  · rcases hum with ⟨a2, rfl, hQ⟩ | ⟨j2, hj2, e2, o2, rfl, hQ⟩
    · exact absurd ((tt_op_ok hSM _).mp (by rw [e1]; exact (tt_op_in hj).mpr o1)) a2
    · have ej := (nI_eq (a := j) (b := j2) (by omega) (by omega)).mp (e1.symm.trans e2)
      subst ej
      refine lv_icmp_eq (tgt := 794) hx hb dL_law_482 (by decide) (fun _ => hnext cx cm L ch _ _ _ _ ls ⟨hR, hQ, tt_SM_more (tt_SM_close hSM hj) (by omega), hPx, hPm, hDx, hDm, hS⟩ hl) (fun h9 => absurd rfl h9)
set_option maxHeartbeats 4000000 in
set_option maxRecDepth 100000 in
theorem law_many {p : Program} {l : Launch} {e : Env} {s : State} {m : MethodId} {below : List Frame} {meth : Method} {c : Code} {D : va_G} {cI cZ cO cC : ClassId} {b LL : Nat} {xs : Nat → Int32} {adx adm : Nat → Nat} {Q : State → Prop} (hLL : LL ≤ 2560) (C0 : lw_At p s m meth c b LL xs) (hK : va_K D vwCl (tt_tys cI cZ cO cC) s) (hE : tt_E true (fun q : Nat => s.heap.size ≤ q) s s.heap) (hap : ∀ i j, i < 21 → j < 9 → adx i ≠ adm j) (k : Nat) (hk5 : 5 * k + 4 < LL) (cx cm : Nat → va_E) (L : Nat → List tt_T3) (ch : Nat) (C : Nat → tt_CU) (K : Nat → tt_KU) (H : Heap) (locs : List Loc) (ls : Array Slot) (hLS : tt_LS D cI cZ cO cC s adx adm cx cm L ch C K k H locs) (hl : lv_has ls 4 [(0, .ref b), (1, .ref (adx 0)), (2, .ref (adm 0)), (3, .int (nI (5 * k)))]) (hnext : (∀ (cx cm : Nat → va_E) (L : Nat → List tt_T3) (ch : Nat) (C : Nat → tt_CU) (K : Nat → tt_KU) (H : Heap) (locs : List Loc) (ls : Array Slot), tt_LS D cI cZ cO cC s adx adm cx cm L ch C K (k + 1) H locs → lv_has ls 4 [(0, .ref b), (1, .ref (adx 0)), (2, .ref (adm 0)), (3, .int (nI (5 * k)))] → W p l e room_1 s m #[Value.ref b] below meth c H locs 30 17652 Q (F0 m 794 ls []))) : W p l e room_1 s m #[Value.ref b] below meth c H locs 30 17652 Q (F0 m 487 ls []) := by
  obtain ⟨hx, hb, hr, hml, hown, hts, hX, hbl, hlocks, hgv⟩ := id C0
  have hts := fun w h => hts w (wsL_law_in w h)
  have hfix : CallFix p m c cL_law 4 s #[Value.ref b] wsL_law RL := ⟨hx, hb, hml, hown, hts⟩
  have hA : ∀ q : Nat, s.heap.size ≤ q → (fun q : Nat => s.heap.size ≤ q) q := fun _ h => h
  have hbA : ¬ (fun q : Nat => s.heap.size ≤ q) b := Nat.not_le.mpr hbl
  obtain ⟨hR, hQ, hSM, hPx, hPm, hDx, hDm, hS⟩ := hLS
  have hcnt := hSM.2.1
  have hcn2 := hSM.2.2.1
  have hn7 : (L 0).length < 700 := by omega
  have hch : ch < 2 ^ 30 := by omega
  refine lv_aload_n hx hb dL_law_487 rfl (lv_at hl 1 rfl) ?_
  refine lv_aload_n hx hb dL_law_488 rfl (lv_at hl 0 rfl) ?_
  refine lv_iload_n hx hb dL_law_489 rfl (lv_at hl 3 rfl) ?_
  refine lv_iconst (v := 1) hx hb dL_law_490 (by decide) ?_
  refine lv_iadd hx hb dL_law_491 ?_
  refine tt_rei (show ((nI (5 * k)) + 1) = nI (5 * k + 1) from nI_add (5 * k) 1) ?_
  refine va_sld hx hb hX hbl hbA hS (vp_in_nI (n := 5 * k + 1) (by omega) (by omega)) dL_law_492 ?_
  refine tt_rei (show (xs (nI (5 * k + 1)).toNatClampNeg) = xs (5 * k + 1) from congrArg xs (nI_clamp (n := 5 * k + 1) (by omega))) ?_
  refine lv_aload_n hx hb dL_law_493 rfl (lv_at hl 0 rfl) ?_
  refine lv_iload_n hx hb dL_law_494 rfl (lv_at hl 3 rfl) ?_
  refine lv_iconst (v := 2) hx hb dL_law_495 (by decide) ?_
  refine lv_iadd hx hb dL_law_496 ?_
  refine tt_rei (show ((nI (5 * k)) + 2) = nI (5 * k + 2) from nI_add (5 * k) 2) ?_
  refine va_sld hx hb hX hbl hbA hS (vp_in_nI (n := 5 * k + 2) (by omega) (by omega)) dL_law_497 ?_
  refine tt_rei (show (xs (nI (5 * k + 2)).toNatClampNeg) = xs (5 * k + 2) from congrArg xs (nI_clamp (n := 5 * k + 2) (by omega))) ?_
  refine lv_aload_n hx hb dL_law_498 rfl (lv_at hl 0 rfl) ?_
  refine lv_iload_n hx hb dL_law_499 rfl (lv_at hl 3 rfl) ?_
  refine lv_iconst (v := 3) hx hb dL_law_500 (by decide) ?_
  refine lv_iadd hx hb dL_law_501 ?_
  refine tt_rei (show ((nI (5 * k)) + 3) = nI (5 * k + 3) from nI_add (5 * k) 3) ?_
  refine va_sld hx hb hX hbl hbA hS (vp_in_nI (n := 5 * k + 3) (by omega) (by omega)) dL_law_502 ?_
  refine tt_rei (show (xs (nI (5 * k + 3)).toNatClampNeg) = xs (5 * k + 3) from congrArg xs (nI_clamp (n := 5 * k + 3) (by omega))) ?_
  refine lv_aload_n hx hb dL_law_503 rfl (lv_at hl 0 rfl) ?_
  refine lv_iload_n hx hb dL_law_504 rfl (lv_at hl 3 rfl) ?_
  refine lv_iconst (v := 4) hx hb dL_law_505 (by decide) ?_
  refine lv_iadd hx hb dL_law_506 ?_
  refine tt_rei (show ((nI (5 * k)) + 4) = nI (5 * k + 4) from nI_add (5 * k) 4) ?_
  refine va_sld hx hb hX hbl hbA hS (vp_in_nI (n := 5 * k + 4) (by omega) (by omega)) dL_law_507 ?_
  refine tt_rei (show (xs (nI (5 * k + 4)).toNatClampNeg) = xs (5 * k + 4) from congrArg xs (nI_clamp (n := 5 * k + 4) (by omega))) ?_
  refine tt_calli2 (va_runV (As := [.int (xs (5 * k + 1)), .int (xs (5 * k + 2)), .int (xs (5 * k + 3)), .int (xs (5 * k + 4))]) (rest := []) hfix (c_X3_many l D cI cZ cO cC adx cx L ch C hR (xs (5 * k + 1)) (xs (5 * k + 2)) (xs (5 * k + 3)) (xs (5 * k + 4)) hSM.1) (cwV 4 hts gL_law_X3_many rfl rfl rfl (by decide +kernel) ⟨Nat.le_of_ble_eq_true rfl, Nat.le_of_ble_eq_true rfl⟩) (tt_preV (q0 := 0) (ci := 3) hK hPx ((hE.at hS).narrow (fun _ h => h.elim)) (tt_bg (by omega) hR.1) rfl) rfl rfl hl.1 rfl (lv_room (Nat.le_of_ble_eq_true rfl)) dL_law_508 ⟨Nat.le_of_ble_eq_true rfl, Nat.le_of_ble_eq_true rfl⟩) hPx hPm hS (fun H locs hPx hPm hS => ?_)
  refine lv_aload_n hx hb dL_law_511 rfl (lv_at hl 2 rfl) ?_
  refine lv_aload_n hx hb dL_law_512 rfl (lv_at hl 0 rfl) ?_
  refine lv_iload_n hx hb dL_law_513 rfl (lv_at hl 3 rfl) ?_
  refine lv_iconst (v := 1) hx hb dL_law_514 (by decide) ?_
  refine lv_iadd hx hb dL_law_515 ?_
  refine tt_rei (show ((nI (5 * k)) + 1) = nI (5 * k + 1) from nI_add (5 * k) 1) ?_
  refine va_sld hx hb hX hbl hbA hS (vp_in_nI (n := 5 * k + 1) (by omega) (by omega)) dL_law_516 ?_
  refine tt_rei (show (xs (nI (5 * k + 1)).toNatClampNeg) = xs (5 * k + 1) from congrArg xs (nI_clamp (n := 5 * k + 1) (by omega))) ?_
  refine lv_aload_n hx hb dL_law_517 rfl (lv_at hl 0 rfl) ?_
  refine lv_iload_n hx hb dL_law_518 rfl (lv_at hl 3 rfl) ?_
  refine lv_iconst (v := 2) hx hb dL_law_519 (by decide) ?_
  refine lv_iadd hx hb dL_law_520 ?_
  refine tt_rei (show ((nI (5 * k)) + 2) = nI (5 * k + 2) from nI_add (5 * k) 2) ?_
  refine va_sld hx hb hX hbl hbA hS (vp_in_nI (n := 5 * k + 2) (by omega) (by omega)) dL_law_521 ?_
  refine tt_rei (show (xs (nI (5 * k + 2)).toNatClampNeg) = xs (5 * k + 2) from congrArg xs (nI_clamp (n := 5 * k + 2) (by omega))) ?_
  refine lv_aload_n hx hb dL_law_522 rfl (lv_at hl 0 rfl) ?_
  refine lv_iload_n hx hb dL_law_523 rfl (lv_at hl 3 rfl) ?_
  refine lv_iconst (v := 3) hx hb dL_law_524 (by decide) ?_
  refine lv_iadd hx hb dL_law_525 ?_
  refine tt_rei (show ((nI (5 * k)) + 3) = nI (5 * k + 3) from nI_add (5 * k) 3) ?_
  refine va_sld hx hb hX hbl hbA hS (vp_in_nI (n := 5 * k + 3) (by omega) (by omega)) dL_law_526 ?_
  refine tt_rei (show (xs (nI (5 * k + 3)).toNatClampNeg) = xs (5 * k + 3) from congrArg xs (nI_clamp (n := 5 * k + 3) (by omega))) ?_
  refine lv_aload_n hx hb dL_law_527 rfl (lv_at hl 0 rfl) ?_
  refine lv_iload_n hx hb dL_law_528 rfl (lv_at hl 3 rfl) ?_
  refine lv_iconst (v := 4) hx hb dL_law_529 (by decide) ?_
  refine lv_iadd hx hb dL_law_530 ?_
  refine tt_rei (show ((nI (5 * k)) + 4) = nI (5 * k + 4) from nI_add (5 * k) 4) ?_
  refine va_sld hx hb hX hbl hbA hS (vp_in_nI (n := 5 * k + 4) (by omega) (by omega)) dL_law_531 ?_
  refine tt_rei (show (xs (nI (5 * k + 4)).toNatClampNeg) = xs (5 * k + 4) from congrArg xs (nI_clamp (n := 5 * k + 4) (by omega))) ?_
  refine tt_calli2 (va_runV (As := [.int (xs (5 * k + 1)), .int (xs (5 * k + 2)), .int (xs (5 * k + 3)), .int (xs (5 * k + 4))]) (rest := [.int (if ¬ (xs (5 * k + 1)) < 0 ∧ ¬ 8 ≤ (xs (5 * k + 1)) then (fun mk => nI (tt_mn mk (xs (5 * k + 2)) (xs (5 * k + 3)) (xs (5 * k + 4)) L)) (xs (5 * k + 1)).toNatClampNeg else (-1))]) hfix (c_X4_many l D cI cZ cO cC adm cm (L 0).length L ch K hQ (xs (5 * k + 1)) (xs (5 * k + 2)) (xs (5 * k + 3)) (xs (5 * k + 4)) hSM.1 rfl) (cwV 4 hts gL_law_X4_many rfl rfl rfl (by decide +kernel) ⟨Nat.le_of_ble_eq_true rfl, Nat.le_of_ble_eq_true rfl⟩) (tt_preV (q0 := 0) (ci := 4) hK hPm tt_E.no (tt_bg (by omega) hQ.choose_spec.choose_spec.choose_spec.choose_spec.1.1) rfl) rfl rfl hl.1 rfl (lv_room (Nat.le_of_ble_eq_true rfl)) dL_law_532 ⟨Nat.le_of_ble_eq_true rfl, Nat.le_of_ble_eq_true rfl⟩) hPx hPm hS (fun H locs hPx hPm hS => ?_)
  refine lv_icmp_eq (tgt := 794) hx hb dL_law_535 (by decide) (fun _ => ?_) (fun h9 => absurd (rfl) h9)
  exact hnext cx cm L ch C K _ _ ls ⟨hR, hQ, tt_SM_more hSM (by omega), hPx, hPm, hDx, hDm, hS⟩ hl
set_option maxHeartbeats 4000000 in
set_option maxRecDepth 100000 in
theorem law_at {p : Program} {l : Launch} {e : Env} {s : State} {m : MethodId} {below : List Frame} {meth : Method} {c : Code} {D : va_G} {cI cZ cO cC : ClassId} {b LL : Nat} {xs : Nat → Int32} {adx adm : Nat → Nat} {Q : State → Prop} (hLL : LL ≤ 2560) (C0 : lw_At p s m meth c b LL xs) (hK : va_K D vwCl (tt_tys cI cZ cO cC) s) (hE : tt_E true (fun q : Nat => s.heap.size ≤ q) s s.heap) (hap : ∀ i j, i < 21 → j < 9 → adx i ≠ adm j) (k : Nat) (hk5 : 5 * k + 4 < LL) (cx cm : Nat → va_E) (L : Nat → List tt_T3) (ch : Nat) (C : Nat → tt_CU) (K : Nat → tt_KU) (H : Heap) (locs : List Loc) (ls : Array Slot) (hLS : tt_LS D cI cZ cO cC s adx adm cx cm L ch C K k H locs) (hl : lv_has ls 4 [(0, .ref b), (1, .ref (adx 0)), (2, .ref (adm 0)), (3, .int (nI (5 * k)))]) (hnext : (∀ (cx cm : Nat → va_E) (L : Nat → List tt_T3) (ch : Nat) (C : Nat → tt_CU) (K : Nat → tt_KU) (H : Heap) (locs : List Loc) (ls : Array Slot), tt_LS D cI cZ cO cC s adx adm cx cm L ch C K (k + 1) H locs → lv_has ls 4 [(0, .ref b), (1, .ref (adx 0)), (2, .ref (adm 0)), (3, .int (nI (5 * k)))] → W p l e room_1 s m #[Value.ref b] below meth c H locs 30 17652 Q (F0 m 794 ls []))) : W p l e room_1 s m #[Value.ref b] below meth c H locs 30 17652 Q (F0 m 540 ls []) := by
  obtain ⟨hx, hb, hr, hml, hown, hts, hX, hbl, hlocks, hgv⟩ := id C0
  have hts := fun w h => hts w (wsL_law_in w h)
  have hfix : CallFix p m c cL_law 4 s #[Value.ref b] wsL_law RL := ⟨hx, hb, hml, hown, hts⟩
  have hA : ∀ q : Nat, s.heap.size ≤ q → (fun q : Nat => s.heap.size ≤ q) q := fun _ h => h
  have hbA : ¬ (fun q : Nat => s.heap.size ≤ q) b := Nat.not_le.mpr hbl
  obtain ⟨hR, hQ, hSM, hPx, hPm, hDx, hDm, hS⟩ := hLS
  have hcnt := hSM.2.1
  have hcn2 := hSM.2.2.1
  have hn7 : (L 0).length < 700 := by omega
  have hch : ch < 2 ^ 30 := by omega
  refine lv_aload_n hx hb dL_law_540 rfl (lv_at hl 1 rfl) ?_
  refine lv_aload_n hx hb dL_law_541 rfl (lv_at hl 0 rfl) ?_
  refine lv_iload_n hx hb dL_law_542 rfl (lv_at hl 3 rfl) ?_
  refine lv_iconst (v := 1) hx hb dL_law_543 (by decide) ?_
  refine lv_iadd hx hb dL_law_544 ?_
  refine tt_rei (show ((nI (5 * k)) + 1) = nI (5 * k + 1) from nI_add (5 * k) 1) ?_
  refine va_sld hx hb hX hbl hbA hS (vp_in_nI (n := 5 * k + 1) (by omega) (by omega)) dL_law_545 ?_
  refine tt_rei (show (xs (nI (5 * k + 1)).toNatClampNeg) = xs (5 * k + 1) from congrArg xs (nI_clamp (n := 5 * k + 1) (by omega))) ?_
  refine lv_aload_n hx hb dL_law_546 rfl (lv_at hl 0 rfl) ?_
  refine lv_iload_n hx hb dL_law_547 rfl (lv_at hl 3 rfl) ?_
  refine lv_iconst (v := 2) hx hb dL_law_548 (by decide) ?_
  refine lv_iadd hx hb dL_law_549 ?_
  refine tt_rei (show ((nI (5 * k)) + 2) = nI (5 * k + 2) from nI_add (5 * k) 2) ?_
  refine va_sld hx hb hX hbl hbA hS (vp_in_nI (n := 5 * k + 2) (by omega) (by omega)) dL_law_550 ?_
  refine tt_rei (show (xs (nI (5 * k + 2)).toNatClampNeg) = xs (5 * k + 2) from congrArg xs (nI_clamp (n := 5 * k + 2) (by omega))) ?_
  refine lv_aload_n hx hb dL_law_551 rfl (lv_at hl 0 rfl) ?_
  refine lv_iload_n hx hb dL_law_552 rfl (lv_at hl 3 rfl) ?_
  refine lv_iconst (v := 3) hx hb dL_law_553 (by decide) ?_
  refine lv_iadd hx hb dL_law_554 ?_
  refine tt_rei (show ((nI (5 * k)) + 3) = nI (5 * k + 3) from nI_add (5 * k) 3) ?_
  refine va_sld hx hb hX hbl hbA hS (vp_in_nI (n := 5 * k + 3) (by omega) (by omega)) dL_law_555 ?_
  refine tt_rei (show (xs (nI (5 * k + 3)).toNatClampNeg) = xs (5 * k + 3) from congrArg xs (nI_clamp (n := 5 * k + 3) (by omega))) ?_
  refine tt_calli2 (va_runV (As := [.int (xs (5 * k + 1)), .int (xs (5 * k + 2)), .int (xs (5 * k + 3))]) (rest := []) hfix (c_X3_at l D cI cZ cO cC adx cx L ch C hR (xs (5 * k + 1)) (xs (5 * k + 2)) (xs (5 * k + 3)) hSM.1) (cwV 3 hts gL_law_X3_at rfl rfl rfl (by decide +kernel) ⟨Nat.le_of_ble_eq_true rfl, Nat.le_of_ble_eq_true rfl⟩) (tt_preV (q0 := 0) (ci := 3) hK hPx ((hE.at hS).narrow (fun _ h => h.elim)) (tt_bg (by omega) hR.1) rfl) rfl rfl hl.1 rfl (lv_room (Nat.le_of_ble_eq_true rfl)) dL_law_556 ⟨Nat.le_of_ble_eq_true rfl, Nat.le_of_ble_eq_true rfl⟩) hPx hPm hS (fun H locs hPx hPm hS => ?_)
  refine lv_aload_n hx hb dL_law_559 rfl (lv_at hl 2 rfl) ?_
  refine lv_aload_n hx hb dL_law_560 rfl (lv_at hl 0 rfl) ?_
  refine lv_iload_n hx hb dL_law_561 rfl (lv_at hl 3 rfl) ?_
  refine lv_iconst (v := 1) hx hb dL_law_562 (by decide) ?_
  refine lv_iadd hx hb dL_law_563 ?_
  refine tt_rei (show ((nI (5 * k)) + 1) = nI (5 * k + 1) from nI_add (5 * k) 1) ?_
  refine va_sld hx hb hX hbl hbA hS (vp_in_nI (n := 5 * k + 1) (by omega) (by omega)) dL_law_564 ?_
  refine tt_rei (show (xs (nI (5 * k + 1)).toNatClampNeg) = xs (5 * k + 1) from congrArg xs (nI_clamp (n := 5 * k + 1) (by omega))) ?_
  refine lv_aload_n hx hb dL_law_565 rfl (lv_at hl 0 rfl) ?_
  refine lv_iload_n hx hb dL_law_566 rfl (lv_at hl 3 rfl) ?_
  refine lv_iconst (v := 2) hx hb dL_law_567 (by decide) ?_
  refine lv_iadd hx hb dL_law_568 ?_
  refine tt_rei (show ((nI (5 * k)) + 2) = nI (5 * k + 2) from nI_add (5 * k) 2) ?_
  refine va_sld hx hb hX hbl hbA hS (vp_in_nI (n := 5 * k + 2) (by omega) (by omega)) dL_law_569 ?_
  refine tt_rei (show (xs (nI (5 * k + 2)).toNatClampNeg) = xs (5 * k + 2) from congrArg xs (nI_clamp (n := 5 * k + 2) (by omega))) ?_
  refine lv_aload_n hx hb dL_law_570 rfl (lv_at hl 0 rfl) ?_
  refine lv_iload_n hx hb dL_law_571 rfl (lv_at hl 3 rfl) ?_
  refine lv_iconst (v := 3) hx hb dL_law_572 (by decide) ?_
  refine lv_iadd hx hb dL_law_573 ?_
  refine tt_rei (show ((nI (5 * k)) + 3) = nI (5 * k + 3) from nI_add (5 * k) 3) ?_
  refine va_sld hx hb hX hbl hbA hS (vp_in_nI (n := 5 * k + 3) (by omega) (by omega)) dL_law_574 ?_
  refine tt_rei (show (xs (nI (5 * k + 3)).toNatClampNeg) = xs (5 * k + 3) from congrArg xs (nI_clamp (n := 5 * k + 3) (by omega))) ?_
  refine tt_calli2 (va_runV (As := [.int (xs (5 * k + 1)), .int (xs (5 * k + 2)), .int (xs (5 * k + 3))]) (rest := [.int (if ¬ (xs (5 * k + 1)) < 0 ∧ ¬ 3 ≤ (xs (5 * k + 1)) then (fun k9 => tt_at (L k9) (xs (5 * k + 2)) (xs (5 * k + 3))) (xs (5 * k + 1)).toNatClampNeg else 0)]) hfix (c_X4_at l D cI cZ cO cC adm cm (L 0).length L ch K hQ (xs (5 * k + 1)) (xs (5 * k + 2)) (xs (5 * k + 3)) hSM.1 rfl) (cwV 3 hts gL_law_X4_at rfl rfl rfl (by decide +kernel) ⟨Nat.le_of_ble_eq_true rfl, Nat.le_of_ble_eq_true rfl⟩) (tt_preV (q0 := 0) (ci := 4) hK hPm tt_E.no (tt_bg (by omega) hQ.choose_spec.choose_spec.choose_spec.choose_spec.1.1) rfl) rfl rfl hl.1 rfl (lv_room (Nat.le_of_ble_eq_true rfl)) dL_law_575 ⟨Nat.le_of_ble_eq_true rfl, Nat.le_of_ble_eq_true rfl⟩) hPx hPm hS (fun H locs hPx hPm hS => ?_)
  refine lv_icmp_eq (tgt := 794) hx hb dL_law_578 (by decide) (fun _ => ?_) (fun h9 => absurd (rfl) h9)
  exact hnext cx cm L ch C K _ _ ls ⟨hR, hQ, tt_SM_more hSM (by omega), hPx, hPm, hDx, hDm, hS⟩ hl
set_option maxHeartbeats 4000000 in
set_option maxRecDepth 100000 in
theorem law_before {p : Program} {l : Launch} {e : Env} {s : State} {m : MethodId} {below : List Frame} {meth : Method} {c : Code} {D : va_G} {cI cZ cO cC : ClassId} {b LL : Nat} {xs : Nat → Int32} {adx adm : Nat → Nat} {Q : State → Prop} (hLL : LL ≤ 2560) (C0 : lw_At p s m meth c b LL xs) (hK : va_K D vwCl (tt_tys cI cZ cO cC) s) (hE : tt_E true (fun q : Nat => s.heap.size ≤ q) s s.heap) (hap : ∀ i j, i < 21 → j < 9 → adx i ≠ adm j) (k : Nat) (hk5 : 5 * k + 4 < LL) (cx cm : Nat → va_E) (L : Nat → List tt_T3) (ch : Nat) (C : Nat → tt_CU) (K : Nat → tt_KU) (H : Heap) (locs : List Loc) (ls : Array Slot) (hLS : tt_LS D cI cZ cO cC s adx adm cx cm L ch C K k H locs) (hl : lv_has ls 4 [(0, .ref b), (1, .ref (adx 0)), (2, .ref (adm 0)), (3, .int (nI (5 * k)))]) (hnext : (∀ (cx cm : Nat → va_E) (L : Nat → List tt_T3) (ch : Nat) (C : Nat → tt_CU) (K : Nat → tt_KU) (H : Heap) (locs : List Loc) (ls : Array Slot), tt_LS D cI cZ cO cC s adx adm cx cm L ch C K (k + 1) H locs → lv_has ls 4 [(0, .ref b), (1, .ref (adx 0)), (2, .ref (adm 0)), (3, .int (nI (5 * k)))] → W p l e room_1 s m #[Value.ref b] below meth c H locs 30 17652 Q (F0 m 794 ls []))) : W p l e room_1 s m #[Value.ref b] below meth c H locs 30 17652 Q (F0 m 583 ls []) := by
  obtain ⟨hx, hb, hr, hml, hown, hts, hX, hbl, hlocks, hgv⟩ := id C0
  have hts := fun w h => hts w (wsL_law_in w h)
  have hfix : CallFix p m c cL_law 4 s #[Value.ref b] wsL_law RL := ⟨hx, hb, hml, hown, hts⟩
  have hA : ∀ q : Nat, s.heap.size ≤ q → (fun q : Nat => s.heap.size ≤ q) q := fun _ h => h
  have hbA : ¬ (fun q : Nat => s.heap.size ≤ q) b := Nat.not_le.mpr hbl
  obtain ⟨hR, hQ, hSM, hPx, hPm, hDx, hDm, hS⟩ := hLS
  have hcnt := hSM.2.1
  have hcn2 := hSM.2.2.1
  have hn7 : (L 0).length < 700 := by omega
  have hch : ch < 2 ^ 30 := by omega
  refine lv_aload_n hx hb dL_law_583 rfl (lv_at hl 1 rfl) ?_
  refine lv_aload_n hx hb dL_law_584 rfl (lv_at hl 0 rfl) ?_
  refine lv_iload_n hx hb dL_law_585 rfl (lv_at hl 3 rfl) ?_
  refine lv_iconst (v := 1) hx hb dL_law_586 (by decide) ?_
  refine lv_iadd hx hb dL_law_587 ?_
  refine tt_rei (show ((nI (5 * k)) + 1) = nI (5 * k + 1) from nI_add (5 * k) 1) ?_
  refine va_sld hx hb hX hbl hbA hS (vp_in_nI (n := 5 * k + 1) (by omega) (by omega)) dL_law_588 ?_
  refine tt_rei (show (xs (nI (5 * k + 1)).toNatClampNeg) = xs (5 * k + 1) from congrArg xs (nI_clamp (n := 5 * k + 1) (by omega))) ?_
  refine lv_aload_n hx hb dL_law_589 rfl (lv_at hl 0 rfl) ?_
  refine lv_iload_n hx hb dL_law_590 rfl (lv_at hl 3 rfl) ?_
  refine lv_iconst (v := 2) hx hb dL_law_591 (by decide) ?_
  refine lv_iadd hx hb dL_law_592 ?_
  refine tt_rei (show ((nI (5 * k)) + 2) = nI (5 * k + 2) from nI_add (5 * k) 2) ?_
  refine va_sld hx hb hX hbl hbA hS (vp_in_nI (n := 5 * k + 2) (by omega) (by omega)) dL_law_593 ?_
  refine tt_rei (show (xs (nI (5 * k + 2)).toNatClampNeg) = xs (5 * k + 2) from congrArg xs (nI_clamp (n := 5 * k + 2) (by omega))) ?_
  refine lv_aload_n hx hb dL_law_594 rfl (lv_at hl 0 rfl) ?_
  refine lv_iload_n hx hb dL_law_595 rfl (lv_at hl 3 rfl) ?_
  refine lv_iconst (v := 3) hx hb dL_law_596 (by decide) ?_
  refine lv_iadd hx hb dL_law_597 ?_
  refine tt_rei (show ((nI (5 * k)) + 3) = nI (5 * k + 3) from nI_add (5 * k) 3) ?_
  refine va_sld hx hb hX hbl hbA hS (vp_in_nI (n := 5 * k + 3) (by omega) (by omega)) dL_law_598 ?_
  refine tt_rei (show (xs (nI (5 * k + 3)).toNatClampNeg) = xs (5 * k + 3) from congrArg xs (nI_clamp (n := 5 * k + 3) (by omega))) ?_
  refine lv_aload_n hx hb dL_law_599 rfl (lv_at hl 0 rfl) ?_
  refine lv_iload_n hx hb dL_law_600 rfl (lv_at hl 3 rfl) ?_
  refine lv_iconst (v := 4) hx hb dL_law_601 (by decide) ?_
  refine lv_iadd hx hb dL_law_602 ?_
  refine tt_rei (show ((nI (5 * k)) + 4) = nI (5 * k + 4) from nI_add (5 * k) 4) ?_
  refine va_sld hx hb hX hbl hbA hS (vp_in_nI (n := 5 * k + 4) (by omega) (by omega)) dL_law_603 ?_
  refine tt_rei (show (xs (nI (5 * k + 4)).toNatClampNeg) = xs (5 * k + 4) from congrArg xs (nI_clamp (n := 5 * k + 4) (by omega))) ?_
  refine tt_calli2 (va_runV (As := [.int (xs (5 * k + 1)), .int (xs (5 * k + 2)), .int (xs (5 * k + 3)), .int (xs (5 * k + 4))]) (rest := []) hfix (c_X3_before l D cI cZ cO cC adx cx L ch C hR (xs (5 * k + 1)) (xs (5 * k + 2)) (xs (5 * k + 3)) (xs (5 * k + 4)) hSM.1) (cwV 4 hts gL_law_X3_before rfl rfl rfl (by decide +kernel) ⟨Nat.le_of_ble_eq_true rfl, Nat.le_of_ble_eq_true rfl⟩) (tt_preV (q0 := 0) (ci := 3) hK hPx ((hE.at hS).narrow (fun _ h => h.elim)) (tt_bg (by omega) hR.1) rfl) rfl rfl hl.1 rfl (lv_room (Nat.le_of_ble_eq_true rfl)) dL_law_604 ⟨Nat.le_of_ble_eq_true rfl, Nat.le_of_ble_eq_true rfl⟩) hPx hPm hS (fun H locs hPx hPm hS => ?_)
  refine lv_aload_n hx hb dL_law_607 rfl (lv_at hl 2 rfl) ?_
  refine lv_aload_n hx hb dL_law_608 rfl (lv_at hl 0 rfl) ?_
  refine lv_iload_n hx hb dL_law_609 rfl (lv_at hl 3 rfl) ?_
  refine lv_iconst (v := 1) hx hb dL_law_610 (by decide) ?_
  refine lv_iadd hx hb dL_law_611 ?_
  refine tt_rei (show ((nI (5 * k)) + 1) = nI (5 * k + 1) from nI_add (5 * k) 1) ?_
  refine va_sld hx hb hX hbl hbA hS (vp_in_nI (n := 5 * k + 1) (by omega) (by omega)) dL_law_612 ?_
  refine tt_rei (show (xs (nI (5 * k + 1)).toNatClampNeg) = xs (5 * k + 1) from congrArg xs (nI_clamp (n := 5 * k + 1) (by omega))) ?_
  refine lv_aload_n hx hb dL_law_613 rfl (lv_at hl 0 rfl) ?_
  refine lv_iload_n hx hb dL_law_614 rfl (lv_at hl 3 rfl) ?_
  refine lv_iconst (v := 2) hx hb dL_law_615 (by decide) ?_
  refine lv_iadd hx hb dL_law_616 ?_
  refine tt_rei (show ((nI (5 * k)) + 2) = nI (5 * k + 2) from nI_add (5 * k) 2) ?_
  refine va_sld hx hb hX hbl hbA hS (vp_in_nI (n := 5 * k + 2) (by omega) (by omega)) dL_law_617 ?_
  refine tt_rei (show (xs (nI (5 * k + 2)).toNatClampNeg) = xs (5 * k + 2) from congrArg xs (nI_clamp (n := 5 * k + 2) (by omega))) ?_
  refine lv_aload_n hx hb dL_law_618 rfl (lv_at hl 0 rfl) ?_
  refine lv_iload_n hx hb dL_law_619 rfl (lv_at hl 3 rfl) ?_
  refine lv_iconst (v := 3) hx hb dL_law_620 (by decide) ?_
  refine lv_iadd hx hb dL_law_621 ?_
  refine tt_rei (show ((nI (5 * k)) + 3) = nI (5 * k + 3) from nI_add (5 * k) 3) ?_
  refine va_sld hx hb hX hbl hbA hS (vp_in_nI (n := 5 * k + 3) (by omega) (by omega)) dL_law_622 ?_
  refine tt_rei (show (xs (nI (5 * k + 3)).toNatClampNeg) = xs (5 * k + 3) from congrArg xs (nI_clamp (n := 5 * k + 3) (by omega))) ?_
  refine lv_aload_n hx hb dL_law_623 rfl (lv_at hl 0 rfl) ?_
  refine lv_iload_n hx hb dL_law_624 rfl (lv_at hl 3 rfl) ?_
  refine lv_iconst (v := 4) hx hb dL_law_625 (by decide) ?_
  refine lv_iadd hx hb dL_law_626 ?_
  refine tt_rei (show ((nI (5 * k)) + 4) = nI (5 * k + 4) from nI_add (5 * k) 4) ?_
  refine va_sld hx hb hX hbl hbA hS (vp_in_nI (n := 5 * k + 4) (by omega) (by omega)) dL_law_627 ?_
  refine tt_rei (show (xs (nI (5 * k + 4)).toNatClampNeg) = xs (5 * k + 4) from congrArg xs (nI_clamp (n := 5 * k + 4) (by omega))) ?_
  refine tt_calli2 (va_runV (As := [.int (xs (5 * k + 1)), .int (xs (5 * k + 2)), .int (xs (5 * k + 3)), .int (xs (5 * k + 4))]) (rest := [.int (if ¬ (xs (5 * k + 1)) < 0 ∧ ¬ 3 ≤ (xs (5 * k + 1)) then (fun k9 => nI (tt_plu k9 3 (xs (5 * k + 2)) (xs (5 * k + 3)) (xs (5 * k + 4)) 0 (L k9))) (xs (5 * k + 1)).toNatClampNeg else (-1))]) hfix (c_X4_before l D cI cZ cO cC adm cm (L 0).length L ch K hQ (xs (5 * k + 1)) (xs (5 * k + 2)) (xs (5 * k + 3)) (xs (5 * k + 4)) hSM.1 rfl) (cwV 4 hts gL_law_X4_before rfl rfl rfl (by decide +kernel) ⟨Nat.le_of_ble_eq_true rfl, Nat.le_of_ble_eq_true rfl⟩) (tt_preV (q0 := 0) (ci := 4) hK hPm tt_E.no (tt_bg (by omega) hQ.choose_spec.choose_spec.choose_spec.choose_spec.1.1) rfl) rfl rfl hl.1 rfl (lv_room (Nat.le_of_ble_eq_true rfl)) dL_law_628 ⟨Nat.le_of_ble_eq_true rfl, Nat.le_of_ble_eq_true rfl⟩) hPx hPm hS (fun H locs hPx hPm hS => ?_)
  refine lv_icmp_eq (tgt := 794) hx hb dL_law_631 (by decide) (fun _ => ?_) (fun h9 => absurd (rfl) h9)
  exact hnext cx cm L ch C K _ _ ls ⟨hR, hQ, tt_SM_more hSM (by omega), hPx, hPm, hDx, hDm, hS⟩ hl
set_option maxHeartbeats 4000000 in
set_option maxRecDepth 100000 in
theorem law_different {p : Program} {l : Launch} {e : Env} {s : State} {m : MethodId} {below : List Frame} {meth : Method} {c : Code} {D : va_G} {cI cZ cO cC : ClassId} {b LL : Nat} {xs : Nat → Int32} {adx adm : Nat → Nat} {Q : State → Prop} (hLL : LL ≤ 2560) (C0 : lw_At p s m meth c b LL xs) (hK : va_K D vwCl (tt_tys cI cZ cO cC) s) (hE : tt_E true (fun q : Nat => s.heap.size ≤ q) s s.heap) (hap : ∀ i j, i < 21 → j < 9 → adx i ≠ adm j) (k : Nat) (hk5 : 5 * k + 4 < LL) (cx cm : Nat → va_E) (L : Nat → List tt_T3) (ch : Nat) (C : Nat → tt_CU) (K : Nat → tt_KU) (H : Heap) (locs : List Loc) (ls : Array Slot) (hLS : tt_LS D cI cZ cO cC s adx adm cx cm L ch C K k H locs) (hl : lv_has ls 4 [(0, .ref b), (1, .ref (adx 0)), (2, .ref (adm 0)), (3, .int (nI (5 * k)))]) (hnext : (∀ (cx cm : Nat → va_E) (L : Nat → List tt_T3) (ch : Nat) (C : Nat → tt_CU) (K : Nat → tt_KU) (H : Heap) (locs : List Loc) (ls : Array Slot), tt_LS D cI cZ cO cC s adx adm cx cm L ch C K (k + 1) H locs → lv_has ls 4 [(0, .ref b), (1, .ref (adx 0)), (2, .ref (adm 0)), (3, .int (nI (5 * k)))] → W p l e room_1 s m #[Value.ref b] below meth c H locs 30 17652 Q (F0 m 794 ls []))) : W p l e room_1 s m #[Value.ref b] below meth c H locs 30 17652 Q (F0 m 636 ls []) := by
  obtain ⟨hx, hb, hr, hml, hown, hts, hX, hbl, hlocks, hgv⟩ := id C0
  have hts := fun w h => hts w (wsL_law_in w h)
  have hfix : CallFix p m c cL_law 4 s #[Value.ref b] wsL_law RL := ⟨hx, hb, hml, hown, hts⟩
  have hA : ∀ q : Nat, s.heap.size ≤ q → (fun q : Nat => s.heap.size ≤ q) q := fun _ h => h
  have hbA : ¬ (fun q : Nat => s.heap.size ≤ q) b := Nat.not_le.mpr hbl
  obtain ⟨hR, hQ, hSM, hPx, hPm, hDx, hDm, hS⟩ := hLS
  have hcnt := hSM.2.1
  have hcn2 := hSM.2.2.1
  have hn7 : (L 0).length < 700 := by omega
  have hch : ch < 2 ^ 30 := by omega
  refine lv_aload_n hx hb dL_law_636 rfl (lv_at hl 1 rfl) ?_
  refine lv_aload_n hx hb dL_law_637 rfl (lv_at hl 0 rfl) ?_
  refine lv_iload_n hx hb dL_law_638 rfl (lv_at hl 3 rfl) ?_
  refine lv_iconst (v := 1) hx hb dL_law_639 (by decide) ?_
  refine lv_iadd hx hb dL_law_640 ?_
  refine tt_rei (show ((nI (5 * k)) + 1) = nI (5 * k + 1) from nI_add (5 * k) 1) ?_
  refine va_sld hx hb hX hbl hbA hS (vp_in_nI (n := 5 * k + 1) (by omega) (by omega)) dL_law_641 ?_
  refine tt_rei (show (xs (nI (5 * k + 1)).toNatClampNeg) = xs (5 * k + 1) from congrArg xs (nI_clamp (n := 5 * k + 1) (by omega))) ?_
  refine tt_calli2 (va_runV (As := [.int (xs (5 * k + 1))]) (rest := []) hfix (c_X3_different l D cI cZ cO cC adx cx L ch C hR (xs (5 * k + 1)) hSM.1) (cwV 1 hts gL_law_X3_different rfl rfl rfl (by decide +kernel) ⟨Nat.le_of_ble_eq_true rfl, Nat.le_of_ble_eq_true rfl⟩) (tt_preV (q0 := 0) (ci := 3) hK hPx ((hE.at hS).narrow (fun _ h => h.elim)) (tt_bg (by omega) hR.1) rfl) rfl rfl hl.1 rfl (lv_room (Nat.le_of_ble_eq_true rfl)) dL_law_642 ⟨Nat.le_of_ble_eq_true rfl, Nat.le_of_ble_eq_true rfl⟩) hPx hPm hS (fun H locs hPx hPm hS => ?_)
  refine lv_aload_n hx hb dL_law_645 rfl (lv_at hl 2 rfl) ?_
  refine lv_aload_n hx hb dL_law_646 rfl (lv_at hl 0 rfl) ?_
  refine lv_iload_n hx hb dL_law_647 rfl (lv_at hl 3 rfl) ?_
  refine lv_iconst (v := 1) hx hb dL_law_648 (by decide) ?_
  refine lv_iadd hx hb dL_law_649 ?_
  refine tt_rei (show ((nI (5 * k)) + 1) = nI (5 * k + 1) from nI_add (5 * k) 1) ?_
  refine va_sld hx hb hX hbl hbA hS (vp_in_nI (n := 5 * k + 1) (by omega) (by omega)) dL_law_650 ?_
  refine tt_rei (show (xs (nI (5 * k + 1)).toNatClampNeg) = xs (5 * k + 1) from congrArg xs (nI_clamp (n := 5 * k + 1) (by omega))) ?_
  refine tt_calli2 (va_runV (As := [.int (xs (5 * k + 1))]) (rest := [.int (if ¬ (xs (5 * k + 1)) < 0 ∧ ¬ 3 ≤ (xs (5 * k + 1)) then (fun k9 => nI (tt_dn (fun j => tt_pp k9 (tt_gt (L k9) j)) (L k9).length)) (xs (5 * k + 1)).toNatClampNeg else (-1))]) hfix (c_X4_different l D cI cZ cO cC adm cm (L 0).length L ch K hQ (xs (5 * k + 1)) hSM.1 rfl) (cwV 1 hts gL_law_X4_different rfl rfl rfl (by decide +kernel) ⟨Nat.le_of_ble_eq_true rfl, Nat.le_of_ble_eq_true rfl⟩) (tt_preV (q0 := 0) (ci := 4) hK hPm tt_E.no (tt_bg (by omega) hQ.choose_spec.choose_spec.choose_spec.choose_spec.1.1) rfl) rfl rfl hl.1 rfl (lv_room (Nat.le_of_ble_eq_true rfl)) dL_law_651 ⟨Nat.le_of_ble_eq_true rfl, Nat.le_of_ble_eq_true rfl⟩) hPx hPm hS (fun H locs hPx hPm hS => ?_)
  refine lv_icmp_eq (tgt := 794) hx hb dL_law_654 (by decide) (fun _ => ?_) (fun h9 => absurd (rfl) h9)
  exact hnext cx cm L ch C K _ _ ls ⟨hR, hQ, tt_SM_more hSM (by omega), hPx, hPm, hDx, hDm, hS⟩ hl
set_option maxHeartbeats 4000000 in
set_option maxRecDepth 100000 in
theorem law_chains {p : Program} {l : Launch} {e : Env} {s : State} {m : MethodId} {below : List Frame} {meth : Method} {c : Code} {D : va_G} {cI cZ cO cC : ClassId} {b LL : Nat} {xs : Nat → Int32} {adx adm : Nat → Nat} {Q : State → Prop} (hLL : LL ≤ 2560) (C0 : lw_At p s m meth c b LL xs) (hK : va_K D vwCl (tt_tys cI cZ cO cC) s) (hE : tt_E true (fun q : Nat => s.heap.size ≤ q) s s.heap) (hap : ∀ i j, i < 21 → j < 9 → adx i ≠ adm j) (k : Nat) (hk5 : 5 * k + 4 < LL) (cx cm : Nat → va_E) (L : Nat → List tt_T3) (ch : Nat) (C : Nat → tt_CU) (K : Nat → tt_KU) (H : Heap) (locs : List Loc) (ls : Array Slot) (hLS : tt_LS D cI cZ cO cC s adx adm cx cm L ch C K k H locs) (hl : lv_has ls 4 [(0, .ref b), (1, .ref (adx 0)), (2, .ref (adm 0)), (3, .int (nI (5 * k)))]) (hnext : (∀ (cx cm : Nat → va_E) (L : Nat → List tt_T3) (ch : Nat) (C : Nat → tt_CU) (K : Nat → tt_KU) (H : Heap) (locs : List Loc) (ls : Array Slot), tt_LS D cI cZ cO cC s adx adm cx cm L ch C K (k + 1) H locs → lv_has ls 4 [(0, .ref b), (1, .ref (adx 0)), (2, .ref (adm 0)), (3, .int (nI (5 * k)))] → W p l e room_1 s m #[Value.ref b] below meth c H locs 30 17652 Q (F0 m 794 ls []))) : W p l e room_1 s m #[Value.ref b] below meth c H locs 30 17652 Q (F0 m 659 ls []) := by
  obtain ⟨hx, hb, hr, hml, hown, hts, hX, hbl, hlocks, hgv⟩ := id C0
  have hts := fun w h => hts w (wsL_law_in w h)
  have hfix : CallFix p m c cL_law 4 s #[Value.ref b] wsL_law RL := ⟨hx, hb, hml, hown, hts⟩
  have hA : ∀ q : Nat, s.heap.size ≤ q → (fun q : Nat => s.heap.size ≤ q) q := fun _ h => h
  have hbA : ¬ (fun q : Nat => s.heap.size ≤ q) b := Nat.not_le.mpr hbl
  obtain ⟨hR, hQ, hSM, hPx, hPm, hDx, hDm, hS⟩ := hLS
  have hcnt := hSM.2.1
  have hcn2 := hSM.2.2.1
  have hn7 : (L 0).length < 700 := by omega
  have hch : ch < 2 ^ 30 := by omega
  refine lv_aload_n hx hb dL_law_659 rfl (lv_at hl 1 rfl) ?_
  refine lv_aload_n hx hb dL_law_660 rfl (lv_at hl 0 rfl) ?_
  refine lv_iload_n hx hb dL_law_661 rfl (lv_at hl 3 rfl) ?_
  refine lv_iconst (v := 1) hx hb dL_law_662 (by decide) ?_
  refine lv_iadd hx hb dL_law_663 ?_
  refine tt_rei (show ((nI (5 * k)) + 1) = nI (5 * k + 1) from nI_add (5 * k) 1) ?_
  refine va_sld hx hb hX hbl hbA hS (vp_in_nI (n := 5 * k + 1) (by omega) (by omega)) dL_law_664 ?_
  refine tt_rei (show (xs (nI (5 * k + 1)).toNatClampNeg) = xs (5 * k + 1) from congrArg xs (nI_clamp (n := 5 * k + 1) (by omega))) ?_
  refine lv_aload_n hx hb dL_law_665 rfl (lv_at hl 0 rfl) ?_
  refine lv_iload_n hx hb dL_law_666 rfl (lv_at hl 3 rfl) ?_
  refine lv_iconst (v := 2) hx hb dL_law_667 (by decide) ?_
  refine lv_iadd hx hb dL_law_668 ?_
  refine tt_rei (show ((nI (5 * k)) + 2) = nI (5 * k + 2) from nI_add (5 * k) 2) ?_
  refine va_sld hx hb hX hbl hbA hS (vp_in_nI (n := 5 * k + 2) (by omega) (by omega)) dL_law_669 ?_
  refine tt_rei (show (xs (nI (5 * k + 2)).toNatClampNeg) = xs (5 * k + 2) from congrArg xs (nI_clamp (n := 5 * k + 2) (by omega))) ?_
  refine tt_calli2 (va_runV (As := [.int (xs (5 * k + 1)), .int (xs (5 * k + 2))]) (rest := []) hfix (c_X3_chains l D cI cZ cO cC adx cx L ch C hR (xs (5 * k + 1)) (xs (5 * k + 2)) hSM.1) (cwV 2 hts gL_law_X3_chains rfl rfl rfl (by decide +kernel) ⟨Nat.le_of_ble_eq_true rfl, Nat.le_of_ble_eq_true rfl⟩) (tt_preV (q0 := 0) (ci := 3) hK hPx ((hE.at hS).narrow (fun _ h => h.elim)) (tt_bg (by omega) hR.1) rfl) rfl rfl hl.1 rfl (lv_room (Nat.le_of_ble_eq_true rfl)) dL_law_670 ⟨Nat.le_of_ble_eq_true rfl, Nat.le_of_ble_eq_true rfl⟩) hPx hPm hS (fun H locs hPx hPm hS => ?_)
  refine lv_aload_n hx hb dL_law_673 rfl (lv_at hl 2 rfl) ?_
  refine lv_aload_n hx hb dL_law_674 rfl (lv_at hl 0 rfl) ?_
  refine lv_iload_n hx hb dL_law_675 rfl (lv_at hl 3 rfl) ?_
  refine lv_iconst (v := 1) hx hb dL_law_676 (by decide) ?_
  refine lv_iadd hx hb dL_law_677 ?_
  refine tt_rei (show ((nI (5 * k)) + 1) = nI (5 * k + 1) from nI_add (5 * k) 1) ?_
  refine va_sld hx hb hX hbl hbA hS (vp_in_nI (n := 5 * k + 1) (by omega) (by omega)) dL_law_678 ?_
  refine tt_rei (show (xs (nI (5 * k + 1)).toNatClampNeg) = xs (5 * k + 1) from congrArg xs (nI_clamp (n := 5 * k + 1) (by omega))) ?_
  refine lv_aload_n hx hb dL_law_679 rfl (lv_at hl 0 rfl) ?_
  refine lv_iload_n hx hb dL_law_680 rfl (lv_at hl 3 rfl) ?_
  refine lv_iconst (v := 2) hx hb dL_law_681 (by decide) ?_
  refine lv_iadd hx hb dL_law_682 ?_
  refine tt_rei (show ((nI (5 * k)) + 2) = nI (5 * k + 2) from nI_add (5 * k) 2) ?_
  refine va_sld hx hb hX hbl hbA hS (vp_in_nI (n := 5 * k + 2) (by omega) (by omega)) dL_law_683 ?_
  refine tt_rei (show (xs (nI (5 * k + 2)).toNatClampNeg) = xs (5 * k + 2) from congrArg xs (nI_clamp (n := 5 * k + 2) (by omega))) ?_
  refine tt_calli2 (va_runV (As := [.int (xs (5 * k + 1)), .int (xs (5 * k + 2))]) (rest := [.int (nI (tt_sm (fun j => tt_mn 3 (tt_pp 2 (tt_gt (L 1) j)) (xs (5 * k + 2)) 0 L) (tt_st 2 0 (xs (5 * k + 1)) 0 L) (tt_en 2 0 (xs (5 * k + 1)) 0 L - tt_st 2 0 (xs (5 * k + 1)) 0 L)))]) hfix (c_X4_chains l D cI cZ cO cC adm cm (L 0).length L ch K hQ (xs (5 * k + 1)) (xs (5 * k + 2)) hSM.1 rfl) (cwV 2 hts gL_law_X4_chains rfl rfl rfl (by decide +kernel) ⟨Nat.le_of_ble_eq_true rfl, Nat.le_of_ble_eq_true rfl⟩) (tt_preV (q0 := 0) (ci := 4) hK hPm tt_E.no (tt_bg (by omega) hQ.choose_spec.choose_spec.choose_spec.choose_spec.1.1) rfl) rfl rfl hl.1 rfl (lv_room (Nat.le_of_ble_eq_true rfl)) dL_law_684 ⟨Nat.le_of_ble_eq_true rfl, Nat.le_of_ble_eq_true rfl⟩) hPx hPm hS (fun H locs hPx hPm hS => ?_)
  refine lv_icmp_eq (tgt := 794) hx hb dL_law_687 (by decide) (fun _ => ?_) (fun h9 => absurd (congrArg nI (tt_chains_eq hSM.1 _ _)) h9)
  exact hnext cx cm L ch C K _ _ ls ⟨hR, hQ, tt_SM_more hSM (by omega), hPx, hPm, hDx, hDm, hS⟩ hl
set_option maxHeartbeats 4000000 in
set_option maxRecDepth 100000 in
theorem law_far {p : Program} {l : Launch} {e : Env} {s : State} {m : MethodId} {below : List Frame} {meth : Method} {c : Code} {D : va_G} {cI cZ cO cC : ClassId} {b LL : Nat} {xs : Nat → Int32} {adx adm : Nat → Nat} {Q : State → Prop} (hLL : LL ≤ 2560) (C0 : lw_At p s m meth c b LL xs) (hK : va_K D vwCl (tt_tys cI cZ cO cC) s) (hE : tt_E true (fun q : Nat => s.heap.size ≤ q) s s.heap) (hap : ∀ i j, i < 21 → j < 9 → adx i ≠ adm j) (k : Nat) (hk5 : 5 * k + 4 < LL) (cx cm : Nat → va_E) (L : Nat → List tt_T3) (ch : Nat) (C : Nat → tt_CU) (K : Nat → tt_KU) (H : Heap) (locs : List Loc) (ls : Array Slot) (hLS : tt_LS D cI cZ cO cC s adx adm cx cm L ch C K k H locs) (hl : lv_has ls 4 [(0, .ref b), (1, .ref (adx 0)), (2, .ref (adm 0)), (3, .int (nI (5 * k)))]) (hnext : (∀ (cx cm : Nat → va_E) (L : Nat → List tt_T3) (ch : Nat) (C : Nat → tt_CU) (K : Nat → tt_KU) (H : Heap) (locs : List Loc) (ls : Array Slot), tt_LS D cI cZ cO cC s adx adm cx cm L ch C K (k + 1) H locs → lv_has ls 4 [(0, .ref b), (1, .ref (adx 0)), (2, .ref (adm 0)), (3, .int (nI (5 * k)))] → W p l e room_1 s m #[Value.ref b] below meth c H locs 30 17652 Q (F0 m 794 ls []))) : W p l e room_1 s m #[Value.ref b] below meth c H locs 30 17652 Q (F0 m 692 ls []) := by
  obtain ⟨hx, hb, hr, hml, hown, hts, hX, hbl, hlocks, hgv⟩ := id C0
  have hts := fun w h => hts w (wsL_law_in w h)
  have hfix : CallFix p m c cL_law 4 s #[Value.ref b] wsL_law RL := ⟨hx, hb, hml, hown, hts⟩
  have hA : ∀ q : Nat, s.heap.size ≤ q → (fun q : Nat => s.heap.size ≤ q) q := fun _ h => h
  have hbA : ¬ (fun q : Nat => s.heap.size ≤ q) b := Nat.not_le.mpr hbl
  obtain ⟨hR, hQ, hSM, hPx, hPm, hDx, hDm, hS⟩ := hLS
  have hcnt := hSM.2.1
  have hcn2 := hSM.2.2.1
  have hn7 : (L 0).length < 700 := by omega
  have hch : ch < 2 ^ 30 := by omega
  refine lv_aload_n hx hb dL_law_692 rfl (lv_at hl 1 rfl) ?_
  refine lv_aload_n hx hb dL_law_693 rfl (lv_at hl 0 rfl) ?_
  refine lv_iload_n hx hb dL_law_694 rfl (lv_at hl 3 rfl) ?_
  refine lv_iconst (v := 1) hx hb dL_law_695 (by decide) ?_
  refine lv_iadd hx hb dL_law_696 ?_
  refine tt_rei (show ((nI (5 * k)) + 1) = nI (5 * k + 1) from nI_add (5 * k) 1) ?_
  refine va_sld hx hb hX hbl hbA hS (vp_in_nI (n := 5 * k + 1) (by omega) (by omega)) dL_law_697 ?_
  refine tt_rei (show (xs (nI (5 * k + 1)).toNatClampNeg) = xs (5 * k + 1) from congrArg xs (nI_clamp (n := 5 * k + 1) (by omega))) ?_
  refine lv_aload_n hx hb dL_law_698 rfl (lv_at hl 0 rfl) ?_
  refine lv_iload_n hx hb dL_law_699 rfl (lv_at hl 3 rfl) ?_
  refine lv_iconst (v := 2) hx hb dL_law_700 (by decide) ?_
  refine lv_iadd hx hb dL_law_701 ?_
  refine tt_rei (show ((nI (5 * k)) + 2) = nI (5 * k + 2) from nI_add (5 * k) 2) ?_
  refine va_sld hx hb hX hbl hbA hS (vp_in_nI (n := 5 * k + 2) (by omega) (by omega)) dL_law_702 ?_
  refine tt_rei (show (xs (nI (5 * k + 2)).toNatClampNeg) = xs (5 * k + 2) from congrArg xs (nI_clamp (n := 5 * k + 2) (by omega))) ?_
  refine lv_aload_n hx hb dL_law_703 rfl (lv_at hl 0 rfl) ?_
  refine lv_iload_n hx hb dL_law_704 rfl (lv_at hl 3 rfl) ?_
  refine lv_iconst (v := 3) hx hb dL_law_705 (by decide) ?_
  refine lv_iadd hx hb dL_law_706 ?_
  refine tt_rei (show ((nI (5 * k)) + 3) = nI (5 * k + 3) from nI_add (5 * k) 3) ?_
  refine va_sld hx hb hX hbl hbA hS (vp_in_nI (n := 5 * k + 3) (by omega) (by omega)) dL_law_707 ?_
  refine tt_rei (show (xs (nI (5 * k + 3)).toNatClampNeg) = xs (5 * k + 3) from congrArg xs (nI_clamp (n := 5 * k + 3) (by omega))) ?_
  refine tt_lcall (va_runV (As := [.int (xs (5 * k + 1)), .int (xs (5 * k + 2)), .int (xs (5 * k + 3))]) (rest := []) hfix (c_X3_far l D cI cZ cO cC adx cx L ch C hR (xs (5 * k + 1)) (xs (5 * k + 2)) (xs (5 * k + 3)) hSM.1 _) (cwV 3 hts gL_law_X3_far rfl rfl rfl (by decide +kernel) ⟨Nat.le_of_ble_eq_true rfl, Nat.le_of_ble_eq_true rfl⟩) (tt_mpreV (q0 := 0) (ci := 3) hK hPx hDx ((hE.at hS).narrow (tt_freeF hDx hS hA)) (tt_bg (by omega) hR.1) rfl) rfl rfl hl.1 rfl (lv_room (Nat.le_of_ble_eq_true rfl)) dL_law_708 ⟨Nat.le_of_ble_eq_true rfl, Nat.le_of_ble_eq_true rfl⟩) hDx hPm (fun k q h => tt_apX hap h) hS hA (fun r1 cx H locs hux hPx hDx hPm hS => ?_)
  refine lv_aload_n hx hb dL_law_711 rfl (lv_at hl 2 rfl) ?_
  refine lv_aload_n hx hb dL_law_712 rfl (lv_at hl 0 rfl) ?_
  refine lv_iload_n hx hb dL_law_713 rfl (lv_at hl 3 rfl) ?_
  refine lv_iconst (v := 1) hx hb dL_law_714 (by decide) ?_
  refine lv_iadd hx hb dL_law_715 ?_
  refine tt_rei (show ((nI (5 * k)) + 1) = nI (5 * k + 1) from nI_add (5 * k) 1) ?_
  refine va_sld hx hb hX hbl hbA hS (vp_in_nI (n := 5 * k + 1) (by omega) (by omega)) dL_law_716 ?_
  refine tt_rei (show (xs (nI (5 * k + 1)).toNatClampNeg) = xs (5 * k + 1) from congrArg xs (nI_clamp (n := 5 * k + 1) (by omega))) ?_
  refine lv_aload_n hx hb dL_law_717 rfl (lv_at hl 0 rfl) ?_
  refine lv_iload_n hx hb dL_law_718 rfl (lv_at hl 3 rfl) ?_
  refine lv_iconst (v := 2) hx hb dL_law_719 (by decide) ?_
  refine lv_iadd hx hb dL_law_720 ?_
  refine tt_rei (show ((nI (5 * k)) + 2) = nI (5 * k + 2) from nI_add (5 * k) 2) ?_
  refine va_sld hx hb hX hbl hbA hS (vp_in_nI (n := 5 * k + 2) (by omega) (by omega)) dL_law_721 ?_
  refine tt_rei (show (xs (nI (5 * k + 2)).toNatClampNeg) = xs (5 * k + 2) from congrArg xs (nI_clamp (n := 5 * k + 2) (by omega))) ?_
  refine lv_aload_n hx hb dL_law_722 rfl (lv_at hl 0 rfl) ?_
  refine lv_iload_n hx hb dL_law_723 rfl (lv_at hl 3 rfl) ?_
  refine lv_iconst (v := 3) hx hb dL_law_724 (by decide) ?_
  refine lv_iadd hx hb dL_law_725 ?_
  refine tt_rei (show ((nI (5 * k)) + 3) = nI (5 * k + 3) from nI_add (5 * k) 3) ?_
  refine va_sld hx hb hX hbl hbA hS (vp_in_nI (n := 5 * k + 3) (by omega) (by omega)) dL_law_726 ?_
  refine tt_rei (show (xs (nI (5 * k + 3)).toNatClampNeg) = xs (5 * k + 3) from congrArg xs (nI_clamp (n := 5 * k + 3) (by omega))) ?_
  refine tt_lcall (va_runV (As := [.int (xs (5 * k + 1)), .int (xs (5 * k + 2)), .int (xs (5 * k + 3))]) (rest := [.int r1]) hfix (c_X4_far l D cI cZ cO cC adm cm (L 0).length L ch K hQ (xs (5 * k + 1)) (xs (5 * k + 2)) (xs (5 * k + 3)) hSM.1 rfl _) (cwV 3 hts gL_law_X4_far rfl rfl rfl (by decide +kernel) ⟨Nat.le_of_ble_eq_true rfl, Nat.le_of_ble_eq_true rfl⟩) (tt_mpreV (q0 := 0) (ci := 4) hK hPm hDm tt_E.no (tt_bg (by omega) hQ.choose_spec.choose_spec.choose_spec.choose_spec.1.1) rfl) rfl rfl hl.1 rfl (lv_room (Nat.le_of_ble_eq_true rfl)) dL_law_727 ⟨Nat.le_of_ble_eq_true rfl, Nat.le_of_ble_eq_true rfl⟩) hDm hPx (fun k q h => tt_apM hap h) hS hA (fun r2 cm H locs hum hPm hDm hPx hS => ?_)
  obtain ⟨rfl, hR⟩ := hux
  obtain ⟨rfl, hQ⟩ := hum
  refine lv_icmp_eq (tgt := 794) hx hb dL_law_730 (by decide) (fun _ => hnext cx cm L ch C K _ _ ls ⟨hR, hQ, tt_SM_more hSM (by omega), hPx, hPm, hDx, hDm, hS⟩ hl) (fun h9 => absurd rfl h9)
set_option maxHeartbeats 4000000 in
set_option maxRecDepth 100000 in
theorem law_reached {p : Program} {l : Launch} {e : Env} {s : State} {m : MethodId} {below : List Frame} {meth : Method} {c : Code} {D : va_G} {cI cZ cO cC : ClassId} {b LL : Nat} {xs : Nat → Int32} {adx adm : Nat → Nat} {Q : State → Prop} (hLL : LL ≤ 2560) (C0 : lw_At p s m meth c b LL xs) (hK : va_K D vwCl (tt_tys cI cZ cO cC) s) (hE : tt_E true (fun q : Nat => s.heap.size ≤ q) s s.heap) (hap : ∀ i j, i < 21 → j < 9 → adx i ≠ adm j) (k : Nat) (hk5 : 5 * k + 4 < LL) (cx cm : Nat → va_E) (L : Nat → List tt_T3) (ch : Nat) (C : Nat → tt_CU) (K : Nat → tt_KU) (H : Heap) (locs : List Loc) (ls : Array Slot) (hLS : tt_LS D cI cZ cO cC s adx adm cx cm L ch C K k H locs) (hl : lv_has ls 4 [(0, .ref b), (1, .ref (adx 0)), (2, .ref (adm 0)), (3, .int (nI (5 * k)))]) (hnext : (∀ (cx cm : Nat → va_E) (L : Nat → List tt_T3) (ch : Nat) (C : Nat → tt_CU) (K : Nat → tt_KU) (H : Heap) (locs : List Loc) (ls : Array Slot), tt_LS D cI cZ cO cC s adx adm cx cm L ch C K (k + 1) H locs → lv_has ls 4 [(0, .ref b), (1, .ref (adx 0)), (2, .ref (adm 0)), (3, .int (nI (5 * k)))] → W p l e room_1 s m #[Value.ref b] below meth c H locs 30 17652 Q (F0 m 794 ls []))) : W p l e room_1 s m #[Value.ref b] below meth c H locs 30 17652 Q (F0 m 735 ls []) := by
  obtain ⟨hx, hb, hr, hml, hown, hts, hX, hbl, hlocks, hgv⟩ := id C0
  have hts := fun w h => hts w (wsL_law_in w h)
  have hfix : CallFix p m c cL_law 4 s #[Value.ref b] wsL_law RL := ⟨hx, hb, hml, hown, hts⟩
  have hA : ∀ q : Nat, s.heap.size ≤ q → (fun q : Nat => s.heap.size ≤ q) q := fun _ h => h
  have hbA : ¬ (fun q : Nat => s.heap.size ≤ q) b := Nat.not_le.mpr hbl
  obtain ⟨hR, hQ, hSM, hPx, hPm, hDx, hDm, hS⟩ := hLS
  have hcnt := hSM.2.1
  have hcn2 := hSM.2.2.1
  have hn7 : (L 0).length < 700 := by omega
  have hch : ch < 2 ^ 30 := by omega
  refine lv_aload_n hx hb dL_law_735 rfl (lv_at hl 1 rfl) ?_
  refine lv_aload_n hx hb dL_law_736 rfl (lv_at hl 0 rfl) ?_
  refine lv_iload_n hx hb dL_law_737 rfl (lv_at hl 3 rfl) ?_
  refine lv_iconst (v := 1) hx hb dL_law_738 (by decide) ?_
  refine lv_iadd hx hb dL_law_739 ?_
  refine tt_rei (show ((nI (5 * k)) + 1) = nI (5 * k + 1) from nI_add (5 * k) 1) ?_
  refine va_sld hx hb hX hbl hbA hS (vp_in_nI (n := 5 * k + 1) (by omega) (by omega)) dL_law_740 ?_
  refine tt_rei (show (xs (nI (5 * k + 1)).toNatClampNeg) = xs (5 * k + 1) from congrArg xs (nI_clamp (n := 5 * k + 1) (by omega))) ?_
  refine lv_aload_n hx hb dL_law_741 rfl (lv_at hl 0 rfl) ?_
  refine lv_iload_n hx hb dL_law_742 rfl (lv_at hl 3 rfl) ?_
  refine lv_iconst (v := 2) hx hb dL_law_743 (by decide) ?_
  refine lv_iadd hx hb dL_law_744 ?_
  refine tt_rei (show ((nI (5 * k)) + 2) = nI (5 * k + 2) from nI_add (5 * k) 2) ?_
  refine va_sld hx hb hX hbl hbA hS (vp_in_nI (n := 5 * k + 2) (by omega) (by omega)) dL_law_745 ?_
  refine tt_rei (show (xs (nI (5 * k + 2)).toNatClampNeg) = xs (5 * k + 2) from congrArg xs (nI_clamp (n := 5 * k + 2) (by omega))) ?_
  refine tt_lcall (va_runV (As := [.int (xs (5 * k + 1)), .int (xs (5 * k + 2))]) (rest := []) hfix (c_X3_reached l D cI cZ cO cC adx cx L ch C hR (xs (5 * k + 1)) (xs (5 * k + 2)) hSM.1 _) (cwV 2 hts gL_law_X3_reached rfl rfl rfl (by decide +kernel) ⟨Nat.le_of_ble_eq_true rfl, Nat.le_of_ble_eq_true rfl⟩) (tt_mpreV (q0 := 0) (ci := 3) hK hPx hDx ((hE.at hS).narrow (tt_freeF hDx hS hA)) (tt_bg (by omega) hR.1) rfl) rfl rfl hl.1 rfl (lv_room (Nat.le_of_ble_eq_true rfl)) dL_law_746 ⟨Nat.le_of_ble_eq_true rfl, Nat.le_of_ble_eq_true rfl⟩) hDx hPm (fun k q h => tt_apX hap h) hS hA (fun r1 cx H locs hux hPx hDx hPm hS => ?_)
  refine lv_aload_n hx hb dL_law_749 rfl (lv_at hl 2 rfl) ?_
  refine lv_aload_n hx hb dL_law_750 rfl (lv_at hl 0 rfl) ?_
  refine lv_iload_n hx hb dL_law_751 rfl (lv_at hl 3 rfl) ?_
  refine lv_iconst (v := 1) hx hb dL_law_752 (by decide) ?_
  refine lv_iadd hx hb dL_law_753 ?_
  refine tt_rei (show ((nI (5 * k)) + 1) = nI (5 * k + 1) from nI_add (5 * k) 1) ?_
  refine va_sld hx hb hX hbl hbA hS (vp_in_nI (n := 5 * k + 1) (by omega) (by omega)) dL_law_754 ?_
  refine tt_rei (show (xs (nI (5 * k + 1)).toNatClampNeg) = xs (5 * k + 1) from congrArg xs (nI_clamp (n := 5 * k + 1) (by omega))) ?_
  refine lv_aload_n hx hb dL_law_755 rfl (lv_at hl 0 rfl) ?_
  refine lv_iload_n hx hb dL_law_756 rfl (lv_at hl 3 rfl) ?_
  refine lv_iconst (v := 2) hx hb dL_law_757 (by decide) ?_
  refine lv_iadd hx hb dL_law_758 ?_
  refine tt_rei (show ((nI (5 * k)) + 2) = nI (5 * k + 2) from nI_add (5 * k) 2) ?_
  refine va_sld hx hb hX hbl hbA hS (vp_in_nI (n := 5 * k + 2) (by omega) (by omega)) dL_law_759 ?_
  refine tt_rei (show (xs (nI (5 * k + 2)).toNatClampNeg) = xs (5 * k + 2) from congrArg xs (nI_clamp (n := 5 * k + 2) (by omega))) ?_
  refine tt_lcall (va_runV (As := [.int (xs (5 * k + 1)), .int (xs (5 * k + 2))]) (rest := [.int r1]) hfix (c_X4_reached l D cI cZ cO cC adm cm (L 0).length L ch K hQ (xs (5 * k + 1)) (xs (5 * k + 2)) hSM.1 rfl _) (cwV 2 hts gL_law_X4_reached rfl rfl rfl (by decide +kernel) ⟨Nat.le_of_ble_eq_true rfl, Nat.le_of_ble_eq_true rfl⟩) (tt_mpreV (q0 := 0) (ci := 4) hK hPm hDm tt_E.no (tt_bg (by omega) hQ.choose_spec.choose_spec.choose_spec.choose_spec.1.1) rfl) rfl rfl hl.1 rfl (lv_room (Nat.le_of_ble_eq_true rfl)) dL_law_760 ⟨Nat.le_of_ble_eq_true rfl, Nat.le_of_ble_eq_true rfl⟩) hDm hPx (fun k q h => tt_apM hap h) hS hA (fun r2 cm H locs hum hPm hDm hPx hS => ?_)
  obtain ⟨rfl, hR⟩ := hux
  obtain ⟨rfl, hQ⟩ := hum
  refine lv_icmp_eq (tgt := 794) hx hb dL_law_763 (by decide) (fun _ => hnext cx cm L ch C K _ _ ls ⟨hR, hQ, tt_SM_more hSM (by omega), hPx, hPm, hDx, hDm, hS⟩ hl) (fun h9 => absurd rfl h9)
set_option maxHeartbeats 4000000 in
set_option maxRecDepth 100000 in
theorem law_size {p : Program} {l : Launch} {e : Env} {s : State} {m : MethodId} {below : List Frame} {meth : Method} {c : Code} {D : va_G} {cI cZ cO cC : ClassId} {b LL : Nat} {xs : Nat → Int32} {adx adm : Nat → Nat} {Q : State → Prop} (hLL : LL ≤ 2560) (C0 : lw_At p s m meth c b LL xs) (hK : va_K D vwCl (tt_tys cI cZ cO cC) s) (hE : tt_E true (fun q : Nat => s.heap.size ≤ q) s s.heap) (hap : ∀ i j, i < 21 → j < 9 → adx i ≠ adm j) (k : Nat) (hk5 : 5 * k + 4 < LL) (cx cm : Nat → va_E) (L : Nat → List tt_T3) (ch : Nat) (C : Nat → tt_CU) (K : Nat → tt_KU) (H : Heap) (locs : List Loc) (ls : Array Slot) (hLS : tt_LS D cI cZ cO cC s adx adm cx cm L ch C K k H locs) (hl : lv_has ls 4 [(0, .ref b), (1, .ref (adx 0)), (2, .ref (adm 0)), (3, .int (nI (5 * k)))]) (hnext : (∀ (cx cm : Nat → va_E) (L : Nat → List tt_T3) (ch : Nat) (C : Nat → tt_CU) (K : Nat → tt_KU) (H : Heap) (locs : List Loc) (ls : Array Slot), tt_LS D cI cZ cO cC s adx adm cx cm L ch C K (k + 1) H locs → lv_has ls 4 [(0, .ref b), (1, .ref (adx 0)), (2, .ref (adm 0)), (3, .int (nI (5 * k)))] → W p l e room_1 s m #[Value.ref b] below meth c H locs 30 17652 Q (F0 m 794 ls []))) : W p l e room_1 s m #[Value.ref b] below meth c H locs 30 17652 Q (F0 m 768 ls []) := by
  obtain ⟨hx, hb, hr, hml, hown, hts, hX, hbl, hlocks, hgv⟩ := id C0
  have hts := fun w h => hts w (wsL_law_in w h)
  have hfix : CallFix p m c cL_law 4 s #[Value.ref b] wsL_law RL := ⟨hx, hb, hml, hown, hts⟩
  have hA : ∀ q : Nat, s.heap.size ≤ q → (fun q : Nat => s.heap.size ≤ q) q := fun _ h => h
  have hbA : ¬ (fun q : Nat => s.heap.size ≤ q) b := Nat.not_le.mpr hbl
  obtain ⟨hR, hQ, hSM, hPx, hPm, hDx, hDm, hS⟩ := hLS
  have hcnt := hSM.2.1
  have hcn2 := hSM.2.2.1
  have hn7 : (L 0).length < 700 := by omega
  have hch : ch < 2 ^ 30 := by omega
  refine lv_aload_n hx hb dL_law_768 rfl (lv_at hl 1 rfl) ?_
  refine tt_calli2 (va_runV (As := []) (rest := []) hfix (c_X3_size l D cI cZ cO cC adx cx L ch C hR ) (cwV 0 hts gL_law_X3_size rfl rfl rfl (by decide +kernel) ⟨Nat.le_of_ble_eq_true rfl, Nat.le_of_ble_eq_true rfl⟩) (tt_preV (q0 := 0) (ci := 3) hK hPx ((hE.at hS).narrow (fun _ h => h.elim)) (tt_bg (by omega) hR.1) rfl) rfl rfl hl.1 rfl (lv_room (Nat.le_of_ble_eq_true rfl)) dL_law_769 ⟨Nat.le_of_ble_eq_true rfl, Nat.le_of_ble_eq_true rfl⟩) hPx hPm hS (fun H locs hPx hPm hS => ?_)
  refine lv_aload_n hx hb dL_law_772 rfl (lv_at hl 2 rfl) ?_
  refine tt_calli2 (va_runV (As := []) (rest := [.int (nI (L 0).length)]) hfix (c_X4_size l D cI cZ cO cC adm cm (L 0).length L ch K hQ ) (cwV 0 hts gL_law_X4_size rfl rfl rfl (by decide +kernel) ⟨Nat.le_of_ble_eq_true rfl, Nat.le_of_ble_eq_true rfl⟩) (tt_preV (q0 := 0) (ci := 4) hK hPm tt_E.no (tt_bg (by omega) hQ.choose_spec.choose_spec.choose_spec.choose_spec.1.1) rfl) rfl rfl hl.1 rfl (lv_room (Nat.le_of_ble_eq_true rfl)) dL_law_773 ⟨Nat.le_of_ble_eq_true rfl, Nat.le_of_ble_eq_true rfl⟩) hPx hPm hS (fun H locs hPx hPm hS => ?_)
  refine lv_icmp_eq (tgt := 794) hx hb dL_law_776 (by decide) (fun _ => ?_) (fun h9 => absurd (rfl) h9)
  exact hnext cx cm L ch C K _ _ ls ⟨hR, hQ, tt_SM_more hSM (by omega), hPx, hPm, hDx, hDm, hS⟩ hl
set_option maxHeartbeats 4000000 in
set_option maxRecDepth 100000 in
theorem law_changes {p : Program} {l : Launch} {e : Env} {s : State} {m : MethodId} {below : List Frame} {meth : Method} {c : Code} {D : va_G} {cI cZ cO cC : ClassId} {b LL : Nat} {xs : Nat → Int32} {adx adm : Nat → Nat} {Q : State → Prop} (hLL : LL ≤ 2560) (C0 : lw_At p s m meth c b LL xs) (hK : va_K D vwCl (tt_tys cI cZ cO cC) s) (hE : tt_E true (fun q : Nat => s.heap.size ≤ q) s s.heap) (hap : ∀ i j, i < 21 → j < 9 → adx i ≠ adm j) (k : Nat) (hk5 : 5 * k + 4 < LL) (cx cm : Nat → va_E) (L : Nat → List tt_T3) (ch : Nat) (C : Nat → tt_CU) (K : Nat → tt_KU) (H : Heap) (locs : List Loc) (ls : Array Slot) (hLS : tt_LS D cI cZ cO cC s adx adm cx cm L ch C K k H locs) (hl : lv_has ls 4 [(0, .ref b), (1, .ref (adx 0)), (2, .ref (adm 0)), (3, .int (nI (5 * k)))]) (hnext : (∀ (cx cm : Nat → va_E) (L : Nat → List tt_T3) (ch : Nat) (C : Nat → tt_CU) (K : Nat → tt_KU) (H : Heap) (locs : List Loc) (ls : Array Slot), tt_LS D cI cZ cO cC s adx adm cx cm L ch C K (k + 1) H locs → lv_has ls 4 [(0, .ref b), (1, .ref (adx 0)), (2, .ref (adm 0)), (3, .int (nI (5 * k)))] → W p l e room_1 s m #[Value.ref b] below meth c H locs 30 17652 Q (F0 m 794 ls []))) : W p l e room_1 s m #[Value.ref b] below meth c H locs 30 17652 Q (F0 m 781 ls []) := by
  obtain ⟨hx, hb, hr, hml, hown, hts, hX, hbl, hlocks, hgv⟩ := id C0
  have hts := fun w h => hts w (wsL_law_in w h)
  have hfix : CallFix p m c cL_law 4 s #[Value.ref b] wsL_law RL := ⟨hx, hb, hml, hown, hts⟩
  have hA : ∀ q : Nat, s.heap.size ≤ q → (fun q : Nat => s.heap.size ≤ q) q := fun _ h => h
  have hbA : ¬ (fun q : Nat => s.heap.size ≤ q) b := Nat.not_le.mpr hbl
  obtain ⟨hR, hQ, hSM, hPx, hPm, hDx, hDm, hS⟩ := hLS
  have hcnt := hSM.2.1
  have hcn2 := hSM.2.2.1
  have hn7 : (L 0).length < 700 := by omega
  have hch : ch < 2 ^ 30 := by omega
  refine lv_aload_n hx hb dL_law_781 rfl (lv_at hl 1 rfl) ?_
  refine tt_calli2 (va_runV (As := []) (rest := []) hfix (c_X3_changes l D cI cZ cO cC adx cx L ch C hR ) (cwV 0 hts gL_law_X3_changes rfl rfl rfl (by decide +kernel) ⟨Nat.le_of_ble_eq_true rfl, Nat.le_of_ble_eq_true rfl⟩) (tt_preV (q0 := 0) (ci := 3) hK hPx ((hE.at hS).narrow (fun _ h => h.elim)) (tt_bg (by omega) hR.1) rfl) rfl rfl hl.1 rfl (lv_room (Nat.le_of_ble_eq_true rfl)) dL_law_782 ⟨Nat.le_of_ble_eq_true rfl, Nat.le_of_ble_eq_true rfl⟩) hPx hPm hS (fun H locs hPx hPm hS => ?_)
  refine lv_aload_n hx hb dL_law_785 rfl (lv_at hl 2 rfl) ?_
  refine tt_calli2 (va_runV (As := []) (rest := [.int (nI ch)]) hfix (c_X4_changes l D cI cZ cO cC adm cm (L 0).length L ch K hQ ) (cwV 0 hts gL_law_X4_changes rfl rfl rfl (by decide +kernel) ⟨Nat.le_of_ble_eq_true rfl, Nat.le_of_ble_eq_true rfl⟩) (tt_preV (q0 := 0) (ci := 4) hK hPm tt_E.no (tt_bg (by omega) hQ.choose_spec.choose_spec.choose_spec.choose_spec.1.1) rfl) rfl rfl hl.1 rfl (lv_room (Nat.le_of_ble_eq_true rfl)) dL_law_786 ⟨Nat.le_of_ble_eq_true rfl, Nat.le_of_ble_eq_true rfl⟩) hPx hPm hS (fun H locs hPx hPm hS => ?_)
  refine lv_icmp_eq (tgt := 794) hx hb dL_law_789 (by decide) (fun _ => ?_) (fun h9 => absurd (rfl) h9)
  exact hnext cx cm L ch C K _ _ ls ⟨hR, hQ, tt_SM_more hSM (by omega), hPx, hPm, hDx, hDm, hS⟩ hl
