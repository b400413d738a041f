/-! own base rows: contracts of methods that only read (tt_Pure), of methods that write (tt_Mut), worlds by a function (tt_blk) -/
def tt_om (j : Nat) : Int32 := match j with
  | 2 => 1
  | 4 => 2
  | 5 => 2
  | 6 => 1
  | _ => 0
/-- the static table ORDER_OF_MASK, read off the start, in no cell of A -/
def tt_T (A : Nat → Prop) (U : State) (H : Heap) : Prop := ∃ t : Nat, va_Z RX3 "ORDER_OF_MASK" "[I" (.ref t) A U H ∧ va_T .int t 8 (fun j => .int (tt_om j)) A U H
/-- what the tables say of nest mates: in tt_nF the fields, in tt_nM the methods -/
def tt_N (U : State) : Prop := (∀ w ∈ tt_nF, va_Nw w U) ∧ (∀ w ∈ tt_nM, va_Nw w U)
def tt_E (x : Bool) (A : Nat → Prop) (U : State) (H : Heap) : Prop := x = true → tt_T A U H ∧ tt_N U
theorem tt_T.moved {A : Nat → Prop} {u U : State} {H : Heap} (hvm : u.vm.Alike U.vm) (h : tt_T A u H) : tt_T A U H := by
  obtain ⟨t, h1, h2⟩ := h
  exact ⟨t, h1.moved hvm, h2.moved hvm⟩
theorem tt_N.warm {s U : State} (hW : s.WarmedH U.vm) (h : tt_N s) : tt_N U := by
  refine ⟨fun w hw => ?_, fun w hw => ?_⟩
  · have h1 := h.1 w hw
    have h2 : tt_nF.all tt_isF = true := by decide +kernel
    have h3 := List.all_eq_true.mp h2 w hw
    cases w <;> first | exact va_Nw.warmF hW h1 | (exact absurd h3 (by simp [tt_isF]))
  · have h1 := h.2 w hw
    have h2 : tt_nM.all tt_isM = true := by decide +kernel
    have h3 := List.all_eq_true.mp h2 w hw
    cases w <;> first | exact va_Nw.warmM hW h1 | (exact absurd h3 (by simp [tt_isM]))
theorem tt_N.blind {U V : State} (hv : U.vm = V.vm) (h : tt_N U) : tt_N V := by
  refine ⟨fun w hw => ?_, fun w hw => ?_⟩
  · have h2 : tt_nF.all (fun w => w.onTables) = true := by decide +kernel
    exact va_Nw.same (List.all_eq_true.mp h2 w hw) hv (h.1 w hw)
  · have h2 : tt_nM.all (fun w => w.onTables) = true := by decide +kernel
    exact va_Nw.same (List.all_eq_true.mp h2 w hw) hv (h.2 w hw)
theorem tt_E.warm {x : Bool} {A : Nat → Prop} {s U : State} {H : Heap} (hW : s.WarmedH U.vm) (h : tt_E x A s H) : tt_E x A U H := fun hx => ⟨(h hx).1.moved hW.alike, (h hx).2.warm hW⟩
theorem tt_E.kept {x : Bool} {A : Nat → Prop} {U : State} {H H1 : Heap} (h : tt_E x A U H) (hq : ∀ a : Nat, a < H.size → ¬ A a → H1[a]? = H[a]?) : tt_E x A U H1 := fun hx => by
  obtain ⟨⟨t, h1, h2⟩, h3⟩ := h hx
  exact ⟨⟨t, h1.kept hq, h2.kept hq⟩, h3⟩
theorem tt_E.narrow {x : Bool} {A B : Nat → Prop} {U : State} {H : Heap} (h : tt_E x A U H) (hAB : ∀ q, B q → A q) : tt_E x B U H := fun hx => by
  obtain ⟨⟨t, h1, h2⟩, h3⟩ := h hx
  exact ⟨⟨t, h1.narrow hAB, h2.narrow hAB⟩, h3⟩
theorem tt_E.less {x : Bool} {A : Nat → Prop} {U : State} {H : Heap} (h : tt_E true A U H) : tt_E x A U H := fun _ => h rfl
theorem tt_E.no {A : Nat → Prop} {U : State} {H : Heap} : tt_E false A U H := fun h => by cases h
/-- what a world's owner keeps of the tables, at a later heap -/
theorem tt_E.at {x : Bool} {A : Nat → Prop} {s : State} {H : Heap} {locs : List Loc} (h : tt_E x A s s.heap) (hS : va_S A s.heap H locs) : tt_E x A s H := h.kept (fun a h1 h2 => hS.2.1 a h1 h2)
/-- a start that only reads -/
def tt_Pc (D : va_G) (tys : List (ClassId × FieldType)) (x : Bool) (W0 : va_W) (av : List Value) : Array Value → State → Prop := va_Pc av (fun U => va_K D vwCl tys U ∧ va_P D vwCl W0 U.heap ∧ tt_E x (fun _ => False) U U.heap)
def tt_Qi (v : Int32) : Array Value → State → Outcome → State → Prop := va_Qi (fun r (_ : Unit) => r = v) (fun _ _ => True) (fun _ => False)
/-- a method that reads and answers v -/
abbrev tt_Pure (l : Launch) (y : MethodName) (ws : List Cond) (rm : Room) (D : va_G) (tys : List (ClassId × FieldType)) (x : Bool) (W0 : va_W) (av : List Value) (v : Int32) : Prop := Met l y ws rm (tt_Pc D tys x W0 av) (tt_Qi v) 0 0 (fun _ => False)
theorem tt_blind {D : va_G} {tys : List (ClassId × FieldType)} {x : Bool} {W0 : va_W} {av : List Value} : FrameBlind (tt_Pc D tys x W0 av) := fun a U g mk q => by
  obtain ⟨q0, qK, qP, qE⟩ := q
  refine ⟨q0, va_K.moved (u := U) (U := U.calling g mk a) (Vm.Alike.refl U.vm) qK, qP, fun hx => ⟨?_, ?_⟩⟩
  · exact tt_T.moved (u := U) (U := U.calling g mk a) (Vm.Alike.refl U.vm) (qE hx).1
  · exact tt_N.blind (U := U) (V := U.calling g mk a) rfl (qE hx).2
section TTB
variable {p : Program} {l : Launch} {e : Env} {R : Room} {s : State} {m : MethodId} {args : Array Value} {below : List Frame} {meth : Method} {c : Code} {H H0 : Heap} {locs : List Loc} {cells slots : Nat} {Q : State → Prop} {pc : Nat} {ls : Array Slot} {rest st0 : List Value} {A0 : Nat → Prop} {D : va_G} {tys : List (ClassId × FieldType)} {x : Bool}
theorem tt_rei {a b : Int32} (h : a = b) (k : W p l e R s m args below meth c H locs cells slots Q (F0 m pc ls (.int b :: rest))) : W p l e R s m args below meth c H locs cells slots Q (F0 m pc ls (.int a :: rest)) := h ▸ k
theorem tt_rer {a b : Value} (h : a = b) (k : W p l e R s m args below meth c H locs cells slots Q (F0 m pc ls (b :: rest))) : W p l e R s m args below meth c H locs cells slots Q (F0 m pc ls (a :: rest)) := h ▸ k
theorem tt_pure {y : MethodName} {ws ws' : List Cond} {rm : Room} {cc : ByteArray} {maxL : Nat} {rt : FieldType} {W0 : va_W} {av : List Value} {v : Int32} (hy : plainName y.cls = true) (hw : ws = Cond.code y cc maxL (some rt) :: ws') (hn : narrow rt (.int v) = .int v) (hlen : (lg_sl av).length ≤ maxL)
    (body : ∀ (p : Program) (e : Env) (s : State) (m : MethodId) (below : List Frame) (meth : Method) (c : Code) (Q : State → Prop) (ls : Array Slot), CallFix p m c cc maxL s av.toArray ws y.cls → va_K D vwCl tys s → va_P D vwCl W0 s.heap → tt_E x (fun _ => False) s s.heap → lv_has ls maxL (lv_args 0 av) →
      (∀ (pc : Nat) (ls : Array Slot) (H : Heap) (locs : List Loc), va_S (fun _ => False) s.heap H locs → decode cc pc = .ok (.ireturn, 1) → W p l e rm s m av.toArray below meth c H locs 0 0 Q (F0 m pc ls [.int v])) → W p l e rm s m av.toArray below meth c s.heap [] 0 0 Q (F0 m 0 ls [])) :
    tt_Pure l y ws rm D tys x W0 av v := by
  refine Met.ofW (cc := cc) (maxL := maxL) (ret := some rt) hy hw ?_
  intro p e s m args below meth c s₁ B hml hv
  obtain ⟨rfl, hK, hP, hE⟩ := hv
  have hl := lv_entry av (n := maxL) hlen
  rw [lg_entry_eq]
  refine body p e s m below meth c _ _ ⟨B.exec, B.bytes, hml, findClass_of_methodNamed B.named, atoms_spec (ws := ws) B.pre⟩ hK hP hE hl (fun pc ls H locs hS hd => ?_)
  exact W.zret (v := v) B.exec B.bytes B.returns hn (fun t ht hW => ⟨⟨v, (), rfl, rfl, trivial⟩, hS.F ht⟩) hS.2.2 hd B.notSynchronized
theorem tt_preV {W0 : va_W} {C : String} {T : u_T} {N b q0 ci : Nat} {fs As : List Value} (hK : va_K D vwCl tys s) (hP : va_P D vwCl W0 H) (hE : tt_E x (fun _ => False) s H) (he : W0[q0]? = some (b, .inr (ci, fs))) (hc : vwCl[ci]? = some (C, T, N)) : PreV s H C b (tt_Pc D tys x W0 (.ref b :: As)) As :=
  ⟨tt_blind, va_recv hK hP hc he, fun U hU hW => ⟨rfl, va_K.moved hW.alike hK, by rw [hU]; exact hP, by rw [hU]; exact hE.warm hW⟩⟩
theorem tt_preS {W0 : va_W} {As : List Value} (hK : va_K D vwCl tys s) (hP : va_P D vwCl W0 H) (hE : tt_E x (fun _ => False) s H) : PreS s H (tt_Pc D tys x W0 As) As :=
  ⟨tt_blind, fun U hU hW => ⟨rfl, va_K.moved hW.alike hK, by rw [hU]; exact hP, by rw [hU]; exact hE.warm hW⟩⟩
/-- behind a call that only reads: every cell of the world is as it was -/
theorem tt_calli {v : Int32} {a : Array Value} {ws : va_W} (hr : va_Run p l e R s m args below meth c H locs cells slots 0 0 (F0 m pc ls st0) rest (tt_Qi v a) (fun _ => False)) (hP : va_P D vwCl ws H) (hS : va_S A0 H0 H locs)
    (kk : ∀ (H1 : Heap) (locs1 : List Loc), va_P D vwCl ws H1 → va_S A0 H0 H1 locs1 → W p l e R s m args below meth c H1 locs1 cells slots Q (F0 m (pc + 3) ls (.int v :: rest))) : W p l e R s m args below meth c H locs cells slots Q (F0 m pc ls st0) := by
  refine va_calli hr hS (fun q _ h => h.elim) (fun q h => h.elim) (fun r u t H1 locs1 ht hvm hw hB hz hk hS1 => ?_)
  cases hw
  exact kk H1 locs1 (hP.kept (fun k q hq => hk q.1 (hP k q hq).lt (fun h => h))) hS1
/-- a start that may write into its world W0 -/
def tt_Mc (D : va_G) (tys : List (ClassId × FieldType)) (x : Bool) (W0 : va_W) (av : List Value) (sz : Nat) : Array Value → State → Prop := va_Pc av (fun U => U.heap.size = sz ∧ va_K D vwCl tys U ∧ va_P D vwCl W0 U.heap ∧ va_D (fun _ => True) W0 ∧ tt_E x (va_A W0 sz) U U.heap)
theorem tt_mblind {W0 : va_W} {av : List Value} {sz : Nat} : FrameBlind (tt_Mc D tys x W0 av sz) := fun a U g mk q => by
  obtain ⟨q0, qz, qK, qP, qD, qE⟩ := q
  refine ⟨q0, qz, va_K.moved (u := U) (U := U.calling g mk a) (Vm.Alike.refl U.vm) qK, qP, qD, fun hx => ⟨?_, ?_⟩⟩
  · exact tt_T.moved (u := U) (U := U.calling g mk a) (Vm.Alike.refl U.vm) (qE hx).1
  · exact tt_N.blind (U := U) (V := U.calling g mk a) rfl (qE hx).2
def tt_Wi {S : Type} (D : va_G) (W0 : va_W) (sz : Nat) (post : Int32 → S → Prop) (W1 : S → va_W) : Array Value → State → Outcome → State → Prop := va_Qi post (fun u t => va_P D vwCl (W1 u) t.heap) (va_A W0 sz)
def tt_Wv {S : Type} (D : va_G) (W0 : va_W) (sz : Nat) (post : S → Prop) (W1 : S → va_W) : Array Value → State → Outcome → State → Prop := va_Qv post (fun u t => va_P D vwCl (W1 u) t.heap) (va_A W0 sz)
/-- a method that writes into its world and answers an int -/
abbrev tt_Muti {S : Type} (l : Launch) (y : MethodName) (ws : List Cond) (rm : Room) (D : va_G) (tys : List (ClassId × FieldType)) (x : Bool) (W0 : va_W) (av : List Value) (post : Int32 → S → Prop) (W1 : S → va_W) : Prop := ∀ sz : Nat, Met l y ws rm (tt_Mc D tys x W0 av sz) (tt_Wi D W0 sz post W1) 0 0 (va_A W0 sz)
abbrev tt_Mutv {S : Type} (l : Launch) (y : MethodName) (ws : List Cond) (rm : Room) (D : va_G) (tys : List (ClassId × FieldType)) (x : Bool) (W0 : va_W) (av : List Value) (post : S → Prop) (W1 : S → va_W) : Prop := ∀ sz : Nat, Met l y ws rm (tt_Mc D tys x W0 av sz) (tt_Wv D W0 sz post W1) 0 0 (va_A W0 sz)
theorem tt_muti {S : Type} {y : MethodName} {ws ws' : List Cond} {rm : Room} {cc : ByteArray} {maxL : Nat} {rt : FieldType} {W0 : va_W} {av : List Value} {post : Int32 → S → Prop} {W1 : S → va_W} (hy : plainName y.cls = true) (hw : ws = Cond.code y cc maxL (some rt) :: ws') (hn : ∀ r u, post r u → narrow rt (.int r) = .int r) (hlen : (lg_sl av).length ≤ maxL)
    (body : ∀ (p : Program) (e : Env) (s : State) (m : MethodId) (below : List Frame) (meth : Method) (c : Code) (Q : State → Prop) (ls : Array Slot) (A : Nat → Prop), CallFix p m c cc maxL s av.toArray ws y.cls → va_K D vwCl tys s → va_P D vwCl W0 s.heap → va_D A W0 → (∀ q, s.heap.size ≤ q → A q) → tt_E x A s s.heap → lv_has ls maxL (lv_args 0 av) →
      (∀ (pc : Nat) (ls : Array Slot) (H : Heap) (locs : List Loc) (r : Int32) (u : S), post r u → va_P D vwCl (W1 u) H → va_S A s.heap H locs → decode cc pc = .ok (.ireturn, 1) → W p l e rm s m av.toArray below meth c H locs 0 0 Q (F0 m pc ls [.int r])) → W p l e rm s m av.toArray below meth c s.heap [] 0 0 Q (F0 m 0 ls [])) :
    tt_Muti l y ws rm D tys x W0 av post W1 := by
  intro sz
  refine Met.ofW (cc := cc) (maxL := maxL) (ret := some rt) hy hw ?_
  intro p e s m args below meth c s₁ B hml hv
  obtain ⟨rfl, hsz, hK, hP, hD, hE⟩ := hv
  subst hsz
  have hl := lv_entry av (n := maxL) hlen
  rw [lg_entry_eq]
  refine body p e s m below meth c _ _ (va_A W0 s.heap.size) ⟨B.exec, B.bytes, hml, findClass_of_methodNamed B.named, atoms_spec (ws := ws) B.pre⟩ hK hP hD.self (fun q h => Or.inr h) hE hl (fun pc ls H locs r u hpost hP1 hS hd => ?_)
  exact W.zret (v := r) B.exec B.bytes B.returns (hn r u hpost) (fun t ht hW => ⟨⟨r, u, rfl, hpost, by show va_P D vwCl (W1 u) t.heap; rw [ht]; exact hP1⟩, hS.F ht⟩) hS.2.2 hd B.notSynchronized
theorem tt_mutv {S : Type} {y : MethodName} {ws ws' : List Cond} {rm : Room} {cc : ByteArray} {maxL : Nat} {W0 : va_W} {av : List Value} {post : S → Prop} {W1 : S → va_W} (hy : plainName y.cls = true) (hw : ws = Cond.code y cc maxL none :: ws') (hlen : (lg_sl av).length ≤ maxL)
    (body : ∀ (p : Program) (e : Env) (s : State) (m : MethodId) (below : List Frame) (meth : Method) (c : Code) (Q : State → Prop) (ls : Array Slot) (A : Nat → Prop), CallFix p m c cc maxL s av.toArray ws y.cls → va_K D vwCl tys s → va_P D vwCl W0 s.heap → va_D A W0 → (∀ q, s.heap.size ≤ q → A q) → tt_E x A s s.heap → lv_has ls maxL (lv_args 0 av) →
      (∀ (pc : Nat) (ls : Array Slot) (H : Heap) (locs : List Loc) (u : S), post u → va_P D vwCl (W1 u) H → va_S A s.heap H locs → decode cc pc = .ok (.return_, 1) → W p l e rm s m av.toArray below meth c H locs 0 0 Q (F0 m pc ls [])) → W p l e rm s m av.toArray below meth c s.heap [] 0 0 Q (F0 m 0 ls [])) :
    tt_Mutv l y ws rm D tys x W0 av post W1 := by
  intro sz
  refine Met.ofW (cc := cc) (maxL := maxL) (ret := none) hy hw ?_
  intro p e s m args below meth c s₁ B hml hv
  obtain ⟨rfl, hsz, hK, hP, hD, hE⟩ := hv
  subst hsz
  have hl := lv_entry av (n := maxL) hlen
  rw [lg_entry_eq]
  refine body p e s m below meth c _ _ (va_A W0 s.heap.size) ⟨B.exec, B.bytes, hml, findClass_of_methodNamed B.named, atoms_spec (ws := ws) B.pre⟩ hK hP hD.self (fun q h => Or.inr h) hE hl (fun pc ls H locs u hpost hP1 hS hd => ?_)
  exact W.vret B.exec B.bytes B.returns (fun t ht hW => ⟨⟨u, rfl, hpost, by show va_P D vwCl (W1 u) t.heap; rw [ht]; exact hP1⟩, hS.F ht⟩) hS.2.2 hd B.notSynchronized
end TTB
/-- some of a world's cells anew -/
def tt_put (ws : va_W) : List Nat → va_W → va_W
  | i :: is, q :: qs => tt_put (ws.set i q) is qs
  | _, _ => ws
theorem tt_put_out : ∀ (is : List Nat) (qs ws : va_W) (k : Nat), k ∉ is → (tt_put ws is qs)[k]? = ws[k]?
  | [], qs, ws, k, _ => by cases qs <;> rfl
  | i :: is, [], ws, k, _ => rfl
  | i :: is, q :: qs, ws, k, h => by
    have h1 : k ≠ i := fun e => h (by rw [e]; exact List.mem_cons_self)
    have h2 : k ∉ is := fun e => h (List.mem_cons_of_mem _ e)
    show (tt_put (ws.set i q) is qs)[k]? = _
    rw [tt_put_out is qs _ k h2, List.getElem?_set_ne (Ne.symm h1)]
theorem tt_put_len : ∀ (is : List Nat) (qs ws : va_W), (tt_put ws is qs).length = ws.length
  | [], qs, ws => by cases qs <;> rfl
  | i :: is, [], ws => rfl
  | i :: is, q :: qs, ws => by
    show (tt_put (ws.set i q) is qs).length = _
    rw [tt_put_len is qs _, List.length_set]
theorem tt_put_in : ∀ (is : List Nat) (qs ws : va_W) (k : Nat), va_nd is = true → is.length = qs.length → k ∈ is → k < ws.length → ∃ j : Nat, is[j]? = some k ∧ (tt_put ws is qs)[k]? = qs[j]?
  | [], qs, ws, k, _, _, h, _ => by cases h
  | i :: is, [], ws, k, _, h, _, _ => by cases h
  | i :: is, q :: qs, ws, k, hn, hl, h, hk => by
    simp only [va_nd, Bool.and_eq_true, decide_eq_true_eq] at hn
    have hl' : is.length = qs.length := Nat.succ.inj hl
    by_cases e : k = i
    · subst e
      refine ⟨0, rfl, ?_⟩
      show (tt_put (ws.set k q) is qs)[k]? = _
      rw [tt_put_out is qs _ k hn.1, List.getElem?_set_self hk]
      rfl
    · have h2 : k ∈ is := by rcases List.mem_cons.mp h with h | h; exact absurd h e; exact h
      obtain ⟨j, h3, h4⟩ := tt_put_in is qs (ws.set i q) k hn.2 hl' h2 (by rw [List.length_set]; exact hk)
      exact ⟨j + 1, h3, h4⟩
/-- behind a call that wrote into some of the cells: those anew, the others as they were -/
theorem tt_join {D : va_G} {A0 : Nat → Prop} {ws W0 W1 : va_W} {H H1 : Heap} (hP : va_P D vwCl ws H) (hD : va_D A0 ws) (is : List Nat) (hn : va_nd is = true) (hC : is.map (fun i => ws[i]?) = W0.map some) (ha : W1.map Prod.fst = W0.map Prod.fst) (hk : ∀ q : Nat, q < H.size → ¬ va_A W0 H.size q → H1[q]? = H[q]?) (hP1 : va_P D vwCl W1 H1) : va_P D vwCl (tt_put ws is W1) H1 ∧ va_D A0 (tt_put ws is W1) := by
  have hlen : is.length = W0.length := by have := congrArg List.length hC; simpa using this
  have hlen1 : W1.length = W0.length := by have := congrArg List.length ha; simpa using this
  have at0 : ∀ (j i : Nat), is[j]? = some i → ∃ q0, W0[j]? = some q0 ∧ ws[i]? = some q0 := by
    intro j i hj
    have h1 : (is.map (fun i => ws[i]?))[j]? = some (ws[i]?) := by rw [List.getElem?_map, hj]; rfl
    rw [hC, List.getElem?_map] at h1
    cases h2 : W0[j]? with
    | none => rw [h2] at h1; cases h1
    | some q0 => rw [h2] at h1; exact ⟨q0, rfl, (Option.some.inj h1).symm⟩
  have key : ∀ (k : Nat) (q : Nat × va_E), (tt_put ws is W1)[k]? = some q → (k ∉ is ∧ ws[k]? = some q) ∨ ∃ (j : Nat) (q0 : Nat × va_E), is[j]? = some k ∧ W1[j]? = some q ∧ W0[j]? = some q0 ∧ ws[k]? = some q0 ∧ q0.1 = q.1 := by
    intro k q hq
    by_cases hm : k ∈ is
    · have hkl : k < ws.length := by
        have := (List.getElem?_eq_some_iff.mp hq).1
        rwa [tt_put_len] at this
      obtain ⟨j, h1, h2⟩ := tt_put_in is W1 ws k hn (hlen.trans hlen1.symm) hm hkl
      obtain ⟨q0, h3, h4⟩ := at0 j k h1
      rw [hq] at h2
      have h5 : (W1.map Prod.fst)[j]? = some q.1 := by rw [List.getElem?_map, ← h2]; rfl
      rw [ha, List.getElem?_map, h3] at h5
      exact Or.inr ⟨j, q0, h1, h2.symm, h3, h4, Option.some.inj h5⟩
    · rw [tt_put_out is W1 ws k hm] at hq
      exact Or.inl ⟨hm, hq⟩
  have old : ∀ (k : Nat) (q : Nat × va_E), (tt_put ws is W1)[k]? = some q → ∃ q0, ws[k]? = some q0 ∧ q0.1 = q.1 := by
    intro k q hq
    rcases key k q hq with ⟨-, h⟩ | ⟨j, q0, -, -, -, h, h2⟩
    · exact ⟨q, h, rfl⟩
    · exact ⟨q0, h, h2⟩
  refine ⟨fun k q hq => ?_, fun i j x y hx hy hxy => ?_, fun k q hq => ?_⟩
  · rcases key k q hq with ⟨hm, h⟩ | ⟨j, q0, -, h, -, -, -⟩
    · refine (hP k q h).kept (hk q.1 (hP k q h).lt (fun hA => ?_))
      rcases hA with ⟨j, e, h1⟩ | h1
      · have h2 : (is.map (fun i => ws[i]?))[j]? = some (some (q.1, e)) := by rw [hC, List.getElem?_map, h1]; rfl
        rw [List.getElem?_map] at h2
        cases h3 : is[j]? with
        | none => rw [h3] at h2; cases h2
        | some i =>
          rw [h3] at h2
          have h4 := hD.1 k i q (q.1, e) h (Option.some.inj h2) rfl
          subst h4
          exact hm (List.mem_of_getElem? h3)
      · exact absurd (hP k q h).lt (by omega)
    · exact hP1 j q h
  · obtain ⟨x0, h1, h2⟩ := old i x hx
    obtain ⟨y0, h3, h4⟩ := old j y hy
    exact hD.1 i j x0 y0 h1 h3 (h2.trans (hxy.trans h4.symm))
  · obtain ⟨q0, h1, h2⟩ := old k q hq
    rw [← h2]
    exact hD.2 k q0 h1
section TTM
variable {p : Program} {l : Launch} {e : Env} {R : Room} {s : State} {m : MethodId} {args : Array Value} {below : List Frame} {meth : Method} {c : Code} {H H0 : Heap} {locs : List Loc} {cells slots : Nat} {Q : State → Prop} {pc : Nat} {ls : Array Slot} {rest st0 : List Value} {A0 : Nat → Prop} {D : va_G} {tys : List (ClassId × FieldType)} {x : Bool} {W0 ws : va_W}
theorem tt_mpreV {C : String} {T : u_T} {N b q0 ci : Nat} {fs As : List Value} (hK : va_K D vwCl tys s) (hP : va_P D vwCl W0 H) (hD : va_D A0 W0) (hE : tt_E x (va_A W0 H.size) s H) (he : W0[q0]? = some (b, .inr (ci, fs))) (hc : vwCl[ci]? = some (C, T, N)) : PreV s H C b (tt_Mc D tys x W0 (.ref b :: As) H.size) As :=
  ⟨tt_mblind, va_recv hK hP hc he, fun U hU hW => ⟨rfl, by rw [hU], va_K.moved hW.alike hK, by rw [hU]; exact hP, hD.weaken (fun _ _ _ _ => trivial), by rw [hU]; exact hE.warm hW⟩⟩
theorem tt_mcalli {S : Type} {post : Int32 → S → Prop} {W1 : S → va_W} {a : Array Value} (hr : va_Run p l e R s m args below meth c H locs cells slots 0 0 (F0 m pc ls st0) rest (tt_Wi D W0 H.size post W1 a) (va_A W0 H.size)) (hP : va_P D vwCl ws H) (hD : va_D A0 ws) (hS : va_S A0 H0 H locs) (hA : ∀ q, H0.size ≤ q → A0 q) (is : List Nat) (hn : va_nd is = true) (hC : is.map (fun i => ws[i]?) = W0.map some) (ha : ∀ u, (W1 u).map Prod.fst = W0.map Prod.fst)
    (kk : ∀ (r : Int32) (u : S) (H1 : Heap) (locs1 : List Loc), post r u → va_P D vwCl (tt_put ws is (W1 u)) H1 → va_D A0 (tt_put ws is (W1 u)) → va_S A0 H0 H1 locs1 → W p l e R s m args below meth c H1 locs1 cells slots Q (F0 m (pc + 3) ls (.int r :: rest))) : W p l e R s m args below meth c H locs cells slots Q (F0 m pc ls st0) := by
  have hF := va_free (wc := W0) hD hS hA is hC
  refine va_calli hr hS (fun q _ h => hF q h) hF (fun r u t H1 locs1 ht hvm hw hB hz hk hS1 => ?_)
  have hB : va_P D vwCl (W1 u) t.heap := hB
  rw [ht] at hB
  obtain ⟨h1, h2⟩ := tt_join hP hD is hn hC (ha u) hk hB
  exact kk r u H1 locs1 hw h1 h2 hS1
theorem tt_mcallv {S : Type} {post : S → Prop} {W1 : S → va_W} {a : Array Value} (hr : va_Run p l e R s m args below meth c H locs cells slots 0 0 (F0 m pc ls st0) rest (tt_Wv D W0 H.size post W1 a) (va_A W0 H.size)) (hP : va_P D vwCl ws H) (hD : va_D A0 ws) (hS : va_S A0 H0 H locs) (hA : ∀ q, H0.size ≤ q → A0 q) (is : List Nat) (hn : va_nd is = true) (hC : is.map (fun i => ws[i]?) = W0.map some) (ha : ∀ u, (W1 u).map Prod.fst = W0.map Prod.fst)
    (kk : ∀ (u : S) (H1 : Heap) (locs1 : List Loc), post u → va_P D vwCl (tt_put ws is (W1 u)) H1 → va_D A0 (tt_put ws is (W1 u)) → va_S A0 H0 H1 locs1 → W p l e R s m args below meth c H1 locs1 cells slots Q (F0 m (pc + 3) ls rest)) : W p l e R s m args below meth c H locs cells slots Q (F0 m pc ls st0) := by
  have hF := va_free (wc := W0) hD hS hA is hC
  refine va_callv hr hS (fun q _ h => hF q h) hF (fun u t H1 locs1 ht hvm hw hB hz hk hS1 => ?_)
  have hB : va_P D vwCl (W1 u) t.heap := hB
  rw [ht] at hB
  obtain ⟨h1, h2⟩ := tt_join hP hD is hn hC (ha u) hk hB
  exact kk u H1 locs1 hw h1 h2 hS1
end TTM
/-- a world by a function: cell k at ad k -/
def tt_blk (n : Nat) (ad : Nat → Nat) (cx : Nat → va_E) : va_W := (List.range n).map (fun k => (ad k, cx k))
theorem tt_bg {n : Nat} {ad : Nat → Nat} {cx : Nat → va_E} {k : Nat} {E : va_E} (h : k < n) (hc : cx k = E) : (tt_blk n ad cx)[k]? = some (ad k, E) := by
  subst hc
  unfold tt_blk
  rw [List.getElem?_map, List.getElem?_range h]
  rfl
theorem tt_bset {n : Nat} {ad : Nat → Nat} {cx : Nat → va_E} {k : Nat} {E : va_E} : (tt_blk n ad cx).set k (ad k, E) = tt_blk n ad (va_up cx k E) := by
  apply List.ext_getElem?
  intro i
  by_cases hi : i < n
  · by_cases e : i = k
    · subst e
      rw [List.getElem?_set_self (by simp [tt_blk, hi]), tt_bg hi (va_up_self cx i E)]
    · rw [List.getElem?_set_ne (Ne.symm e), tt_bg hi rfl, tt_bg hi (va_up_ne cx E e)]
  · rw [List.getElem?_eq_none (by simp [tt_blk]; omega), List.getElem?_eq_none (by simp [tt_blk]; omega)]
