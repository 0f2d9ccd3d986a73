/-! Rows for constructors: the world is a list of cells that grows -/
/-- arrays can be made -/
def CT (s : State) : Prop := (Cond.arrayClass .int).before #[] s = true ∧ (Cond.arrayClass .boolean).before #[] s = true ∧ va_AO "JoinVessel$Channel" s ∧ va_AO "JoinVessel$Reaction" s
theorem ac_args {ty : FieldType} {A A' : Array Value} {s : State} (h : (Cond.arrayClass ty).before A s = true) : (Cond.arrayClass ty).before A' s = true := h
theorem CT.moved {s U : State} (hW : s.WarmedH U.vm) (h : CT s) : CT U := ⟨word_at hW (Or.inr ⟨_, rfl⟩) h.1, word_at hW (Or.inr ⟨_, rfl⟩) h.2.1, h.2.2.1.moved hW.alike, h.2.2.2.moved hW.alike⟩
theorem CT.same {s U : State} (hvm : s.vm = U.vm) (h : CT s) : CT U := by
  obtain ⟨h1, h2, h3, h4⟩ := h
  refine ⟨?_, ?_, h3.moved (by rw [hvm]; exact Vm.Alike.refl _), h4.moved (by rw [hvm]; exact Vm.Alike.refl _)⟩
  · unfold Cond.before Cond.holds Cond.value at h1 ⊢
    rw [← hvm]
    exact h1
  · unfold Cond.before Cond.holds Cond.value at h2 ⊢
    rw [← hvm]
    exact h2
def CN (p : Program) (R : Room) (s : State) (m : MethodId) (args : Array Value) (meth : Method) (c : Code) (cc : ByteArray) (nL : Nat) (own : String) (D : va_G) (cl : List vw_C) (tys : List (ClassId × FieldType)) (A : Nat → Prop) (F L mc ms : Nat) : Prop :=
  p.tables.exec = Jvm.exec ∧ c.code = cc ∧ c.maxLocals = nL ∧ s.vm.findClass own = some m.cls ∧ (∀ w ∈ tbW, w.before args s = true) ∧ meth.sig.returnType = none ∧ meth.locks = false ∧ meth.name = "<init>" ∧ va_K D cl tys s ∧ CT s ∧ (∀ q : Nat, s.heap.size ≤ q → A q) ∧ F ≤ R.frames ∧ L ≤ R.locals ∧ mc ≤ R.cells ∧ ms ≤ R.slots
def N (p : Program) (l : Launch) (e : Env) (R : Room) (s : State) (m : MethodId) (args : Array Value) (below : List Frame) (meth : Method) (c : Code) (D : va_G) (cl : List vw_C) (A : Nat → Prop) (nL : Nat) (Q : State → Prop) (ws : va_W) (ca sl : Nat) (pc : Nat) (lv : List (Nat × Value)) (st : List Value) : Prop :=
  ∀ (H : Heap) (locs : List Loc) (ls : Array Slot), va_P D cl ws H → va_D A ws → va_S A s.heap H locs → lv_has ls nL lv → W p l e R s m args below meth c H locs ca sl Q (F0 m pc ls st)
section NR
variable {p : Program} {l : Launch} {e : Env} {R : Room} {s : State} {m : MethodId} {args : Array Value} {below : List Frame} {meth : Method} {c : Code} {D : va_G} {cl : List vw_C} {A : Nat → Prop} {nL : Nat} {Q : State → Prop} {ws : va_W} {ca sl : Nat} {pc : Nat} {lv lv' : List (Nat × Value)} {st : List Value} {cc : ByteArray} {own : String} {tys : List (ClassId × FieldType)} {F L mc ms : Nat}
theorem n_aload_n (X : CN p R s m args meth c cc nL own D cl tys A F L mc ms) (j : Nat) {k : Fin 4} {i x : Nat} (hdg : decode cc pc = .ok (.aload_n k, 1)) (hi : (k : Nat) = i) (hj : lv[j]? = some (i, .ref x)) (z : N p l e R s m args below meth c D cl A nL Q ws ca sl (pc + 1) lv (.ref x :: st)) : N p l e R s m args below meth c D cl A nL Q ws ca sl pc lv st :=
  fun H locs ls hP hD hS hl => lv_aload_n X.1 X.2.1 hdg hi (lv_at hl j hj) (z H locs ls hP hD hS hl)
theorem n_iload_n (X : CN p R s m args meth c cc nL own D cl tys A F L mc ms) (j : Nat) {k : Fin 4} {i : Nat} {x : Int32} (hdg : decode cc pc = .ok (.iload_n k, 1)) (hi : (k : Nat) = i) (hj : lv[j]? = some (i, .int x)) (z : N p l e R s m args below meth c D cl A nL Q ws ca sl (pc + 1) lv (.int x :: st)) : N p l e R s m args below meth c D cl A nL Q ws ca sl pc lv st :=
  fun H locs ls hP hD hS hl => lv_iload_n X.1 X.2.1 hdg hi (lv_at hl j hj) (z H locs ls hP hD hS hl)
theorem n_istore_n (X : CN p R s m args meth c cc nL own D cl tys A F L mc ms) {k : Fin 4} {i : Nat} {x : Int32} (hdg : decode cc pc = .ok (.istore_n k, 1)) (hi : (k : Nat) = i) (hn : i < nL) (hl' : (i, Value.int x) :: lv.filter (fun q => !(q.1 == i) && !(q.1 + 1 == i && q.2.category == 2)) = lv') (z : N p l e R s m args below meth c D cl A nL Q ws ca sl (pc + 1) lv' st) : N p l e R s m args below meth c D cl A nL Q ws ca sl pc lv (.int x :: st) :=
  fun H locs _ hP hD hS hl => lv_istore_n X.1 X.2.1 hdg hi hl hn hl' (fun ls' h' => z H locs ls' hP hD hS h')
theorem n_iinc (X : CN p R s m args meth c cc nL own D cl tys A F L mc ms) (j : Nat) {i : Nat} {k : Int} {x v : Int32} (hdg : decode cc pc = .ok (.iinc i k, 3)) (hj : lv[j]? = some (i, .int x)) (hv : x + Int32.ofInt k = v) (hn : i < nL) (hl' : (i, Value.int v) :: lv.filter (fun q => !(q.1 == i) && !(q.1 + 1 == i && q.2.category == 2)) = lv') (z : N p l e R s m args below meth c D cl A nL Q ws ca sl (pc + 3) lv' st) : N p l e R s m args below meth c D cl A nL Q ws ca sl pc lv st :=
  fun H locs _ hP hD hS hl => lv_iinc X.1 X.2.1 hdg hl hj hv hn hl' (fun ls' h' => z H locs ls' hP hD hS h')
theorem n_goto (X : CN p R s m args meth c cc nL own D cl tys A F L mc ms) {off : Int} {tgt : Nat} (hdg : decode cc pc = .ok (.goto off, 3)) (ht : (pc : Int) + off = (tgt : Int)) (z : N p l e R s m args below meth c D cl A nL Q ws ca sl tgt lv st) : N p l e R s m args below meth c D cl A nL Q ws ca sl pc lv st :=
  fun H locs ls hP hD hS hl => lv_goto X.1 X.2.1 hdg ht (z H locs ls hP hD hS hl)
theorem n_icmp_ge (X : CN p R s m args meth c cc nL own D cl tys A F L mc ms) {x y : Int32} {off : Int} {tgt : Nat} (hdg : decode cc pc = .ok (.if_icmp .ge off, 3)) (ht : (pc : Int) + off = (tgt : Int)) (kt : y ≤ x → N p l e R s m args below meth c D cl A nL Q ws ca sl tgt lv st) (kf : ¬ y ≤ x → N p l e R s m args below meth c D cl A nL Q ws ca sl (pc + 3) lv st) : N p l e R s m args below meth c D cl A nL Q ws ca sl pc lv (.int y :: .int x :: st) :=
  fun H locs ls hP hD hS hl => lv_icmp_ge X.1 X.2.1 hdg ht (fun q => kt q H locs ls hP hD hS hl) (fun q => kf q H locs ls hP hD hS hl)
theorem n_iconst (X : CN p R s m args meth c cc nL own D cl tys A F L mc ms) {k : Int} {v : Int32} (hdg : decode cc pc = .ok (.iconst k, 1)) (hv : Int32.ofInt k = v) (z : N p l e R s m args below meth c D cl A nL Q ws ca sl (pc + 1) lv (.int v :: st)) : N p l e R s m args below meth c D cl A nL Q ws ca sl pc lv st :=
  fun H locs ls hP hD hS hl => lv_iconst X.1 X.2.1 hdg hv (z H locs ls hP hD hS hl)
theorem n_bipush (X : CN p R s m args meth c cc nL own D cl tys A F L mc ms) {k : Int} {v : Int32} (hdg : decode cc pc = .ok (.bipush k, 2)) (hv : (Int8.ofInt k).toInt32 = v) (z : N p l e R s m args below meth c D cl A nL Q ws ca sl (pc + 2) lv (.int v :: st)) : N p l e R s m args below meth c D cl A nL Q ws ca sl pc lv st :=
  fun H locs ls hP hD hS hl => lv_bipush X.1 X.2.1 hdg hv (z H locs ls hP hD hS hl)
theorem n_sipush (X : CN p R s m args meth c cc nL own D cl tys A F L mc ms) {k : Int} {v : Int32} (hdg : decode cc pc = .ok (.sipush k, 3)) (hv : (Int16.ofInt k).toInt32 = v) (z : N p l e R s m args below meth c D cl A nL Q ws ca sl (pc + 3) lv (.int v :: st)) : N p l e R s m args below meth c D cl A nL Q ws ca sl pc lv st :=
  fun H locs ls hP hD hS hl => lv_sipush X.1 X.2.1 hdg hv (z H locs ls hP hD hS hl)
theorem n_dup (X : CN p R s m args meth c cc nL own D cl tys A F L mc ms) {v : Value} (hdg : decode cc pc = .ok (.dup, 1)) (hv : v.category = 1) (z : N p l e R s m args below meth c D cl A nL Q ws ca sl (pc + 1) lv (v :: v :: st)) : N p l e R s m args below meth c D cl A nL Q ws ca sl pc lv (v :: st) :=
  fun H locs ls hP hD hS hl => lv_dup X.1 X.2.1 hdg hv (z H locs ls hP hD hS hl)
theorem n_objInit (X : CN p R s m args meth c cc nL own D cl tys A F L mc ms) {idx x : Nat} (hlink : Cond.methodLink own idx objectInit ∈ tbW) (hinst : Cond.instanceMethod objectInit ∈ tbW) (hcode : Cond.code objectInit ⟨#[0xb1]⟩ 1 none ∈ tbW) (hF : 1 ≤ F) (hL : (st.map fun v => v.category).sum + 12 ≤ L) (hdg : decode cc pc = .ok (.invokespecial idx, 3)) (z : N p l e R s m args below meth c D cl A nL Q ws ca sl (pc + 3) lv st) : N p l e R s m args below meth c D cl A nL Q ws ca sl pc lv (.ref x :: st) :=
  fun H locs ls hP hD hS hl => W.objInit X.1 X.2.1 X.2.2.2.1 (X.2.2.2.2.1 _ hlink) (X.2.2.2.2.1 _ hinst) (X.2.2.2.2.1 _ hcode) rfl (by rw [X.2.2.1]; exact hl.1) rfl hdg (Nat.le_trans hF X.2.2.2.2.2.2.2.2.2.2.2.1) (by show 2 * 0 + _ + 12 ≤ _; have h9 := Nat.le_trans hL X.2.2.2.2.2.2.2.2.2.2.2.2.1; omega) (z H locs ls hP hD hS hl)
/-- putfield, not final -/
theorem n_put (X : CN p R s m args meth c cc nL own D cl tys A F L mc ms) (q0 : Nat) {x ci N0 index : Nat} {fs : List Value} {C ref : String} {T : u_T} {v : Value} {ty : FieldType} (he : ws[q0]? = some (x, .inr (ci, fs))) (hcl : cl[ci]? = some (C, T, N0)) (hin : ∀ w ∈ u_ws C T N0, w ∈ tbW) (ty0 : Nat → FieldType) (hty : ∀ k, k < N0 → parseFieldDescriptor (T k).2.2.1 = some (ty0 k)) (hnm : ∀ a, a < N0 → ∀ b, b < N0 → a ≠ b → (T a).2.1 ≠ (T b).2.1) (k : Nat) (hk : k < N0) (hlink : Cond.fieldLink own index ref (T k).2.1 (T k).2.2.1 ∈ tbW) (href : (T k).1 = ref) (hfin : (T k).2.2.2 = false) (hd : parseFieldDescriptor (T k).2.2.1 = some ty) (hn : narrow ty v = v) (hfit : fits ty v = true) (hl : k < fs.length) {ws' : va_W} (hws : ws.set q0 (x, .inr (ci, fs.set k v)) = ws') (hdg : decode cc pc = .ok (.putfield index, 3)) (z : N p l e R s m args below meth c D cl A nL Q ws' ca sl (pc + 3) lv st) : N p l e R s m args below meth c D cl A nL Q ws ca sl pc lv (v :: .ref x :: st) := by
  subst hws
  exact fun H locs ls hP hD hS hl2 => va_put X.1 X.2.1 X.2.2.2.2.1 hin ty0 hty hnm X.2.2.2.1 X.2.2.2.2.2.2.2.2.1 hP hD hS q0 he hcl k hk (X.2.2.2.2.1 _ hlink) (fun _ h9 => by rw [← href]; exact h9) hfin hd hn hfit hl hdg (fun H1 locs1 hP1 hD1 hS1 => z H1 locs1 ls hP1 hD1 hS1 hl2)
/-- putfield, final -/
theorem n_putF (X : CN p R s m args meth c cc nL own D cl tys A F L mc ms) (q0 : Nat) {x ci N0 index : Nat} {fs : List Value} {C ref : String} {T : u_T} {v : Value} {ty : FieldType} (he : ws[q0]? = some (x, .inr (ci, fs))) (hcl : cl[ci]? = some (C, T, N0)) (hin : ∀ w ∈ u_ws C T N0, w ∈ tbW) (ty0 : Nat → FieldType) (hty : ∀ k, k < N0 → parseFieldDescriptor (T k).2.2.1 = some (ty0 k)) (hnm : ∀ a, a < N0 → ∀ b, b < N0 → a ≠ b → (T a).2.1 ≠ (T b).2.1) (k : Nat) (hk : k < N0) (hlink : Cond.fieldLink own index ref (T k).2.1 (T k).2.2.1 ∈ tbW) (href : (T k).1 = ref) (hfin : (T k).2.2.2 = true) (hdecl : (T k).1 = own) (hd : parseFieldDescriptor (T k).2.2.1 = some ty) (hn : narrow ty v = v) (hfit : fits ty v = true) (hl : k < fs.length) {ws' : va_W} (hws : ws.set q0 (x, .inr (ci, fs.set k v)) = ws') (hdg : decode cc pc = .ok (.putfield index, 3)) (z : N p l e R s m args below meth c D cl A nL Q ws' ca sl (pc + 3) lv st) : N p l e R s m args below meth c D cl A nL Q ws ca sl pc lv (v :: .ref x :: st) := by
  subst hws
  exact fun H locs ls hP hD hS hl2 => va_putF X.1 X.2.1 X.2.2.2.2.1 hin ty0 hty hnm X.2.2.2.1 X.2.2.2.2.2.2.2.2.1 hP hD hS q0 he hcl k hk (X.2.2.2.2.1 _ hlink) (fun _ h9 => by rw [← href]; exact h9) hfin X.2.2.2.2.2.2.2.1 hdecl hd hn hfit hl hdg (fun H1 locs1 hP1 hD1 hS1 => z H1 locs1 ls hP1 hD1 hS1 hl2)
/-- getfield -/
theorem n_get (X : CN p R s m args meth c cc nL own D cl tys A F L mc ms) (q0 : Nat) {x ci N0 index : Nat} {fs : List Value} {C ref : String} {T : u_T} {v : Value} (he : ws[q0]? = some (x, .inr (ci, fs))) (hcl : cl[ci]? = some (C, T, N0)) (hin : ∀ w ∈ u_ws C T N0, w ∈ tbW) (k : Nat) (hk : k < N0) (hlink : Cond.fieldLink own index ref (T k).2.1 (T k).2.2.1 ∈ tbW) (href : (T k).1 = ref) (hv : fs[k]? = some v) (hdg : decode cc pc = .ok (.getfield index, 3)) (z : N p l e R s m args below meth c D cl A nL Q ws ca sl (pc + 3) lv (v :: st)) : N p l e R s m args below meth c D cl A nL Q ws ca sl pc lv (.ref x :: st) :=
  fun H locs ls hP hD hS hl => va_get X.1 X.2.1 X.2.2.2.2.1 hin X.2.2.2.1 X.2.2.2.2.2.2.2.2.1 hP q0 he hcl k hk (X.2.2.2.2.1 _ hlink) (fun _ h9 => by rw [← href]; exact h9) hv hdg (z H locs ls hP hD hS hl)
/-- a new array of ints -/
theorem n_newi (X : CN p R s m args meth c cc nL own D cl tys A F L mc ms) (t0 : Nat) {cA : ClassId} (ht : tys[t0]? = some (cA, .int)) {n : Int32} {N' ca' sl' : Nat} (hn : ¬ n < 0) (hN : n.toNatClampNeg = N') (hb : N' * 4 ≤ 536870912) (hca : ca + 1 = ca') (hsl : sl + N' = sl') (hc1 : ca' ≤ mc) (hs1 : sl' ≤ ms) {ws' : Nat → va_W} (hws : ∀ x, ws ++ [(x, .inl (cA, N', .inl (fun _ => 0)))] = ws' x) (hdg : decode cc pc = .ok (.newarray .int, 2)) (z : ∀ x : Nat, N p l e R s m args below meth c D cl A nL Q (ws' x) ca' sl' (pc + 2) lv (.ref x :: st)) : N p l e R s m args below meth c D cl A nL Q ws ca sl pc lv (.int n :: st) := by
  subst hca; subst hsl
  intro H locs ls hP hD hS hl
  have hK := X.2.2.2.2.2.2.2.2.1
  refine va_newaK X.1 X.2.1 (atype := .int) (ac_args X.2.2.2.2.2.2.2.2.2.1.1) rfl hdg rfl hn hN hb (Nat.le_trans hc1 X.2.2.2.2.2.2.2.2.2.2.2.2.2.1) (Nat.le_trans hs1 X.2.2.2.2.2.2.2.2.2.2.2.2.2.2) rfl fun H1 cB e1 z1 o1 hAr hNm => ?_
  have e0 : s.vm.findClass ("[" ++ (FieldType.int).toString) = some cA := (hK.2 t0 _ ht).2
  have ee : cB = cA := Option.some.inj (hNm.symm.trans e0)
  subst ee
  have hk : ∀ (k : Nat) (x : Nat × va_E), ws[k]? = some x → H1[x.1]? = H[x.1]? := fun k x hx => o1 x.1 ((hP k x hx).lt)
  refine z H.size H1 locs ls ?_ ?_ ⟨Nat.le_trans hS.1 (by omega), fun x h1 h2 => (o1 x (Nat.lt_of_lt_of_le h1 hS.1)).trans (hS.2.1 x h1 h2), hS.2.2⟩ hl
  · rw [← hws]
    refine (hP.kept hk).app (fun k x hx => ?_)
    have hz : k < 1 := (List.getElem?_eq_some_iff.mp hx).1
    rw [show k = 0 by omega] at hx
    cases hx
    exact e1
  · rw [← hws]
    exact hD.push hP rfl (X.2.2.2.2.2.2.2.2.2.2.1 _ hS.1)
theorem n_newz (X : CN p R s m args meth c cc nL own D cl tys A F L mc ms) (t0 : Nat) {cA : ClassId} (ht : tys[t0]? = some (cA, .boolean)) {n : Int32} {N' ca' sl' : Nat} (hn : ¬ n < 0) (hN : n.toNatClampNeg = N') (hb : N' * componentBytes .boolean ≤ 536870912) (hca : ca + 1 = ca') (hsl : sl + N' = sl') (hc1 : ca' ≤ mc) (hs1 : sl' ≤ ms) {ws' : Nat → va_W} (hws : ∀ x, ws ++ [(x, .inl (cA, N', .inl (fun _ => 0)))] = ws' x) (hdg : decode cc pc = .ok (.newarray .boolean, 2)) (z : ∀ x : Nat, N p l e R s m args below meth c D cl A nL Q (ws' x) ca' sl' (pc + 2) lv (.ref x :: st)) : N p l e R s m args below meth c D cl A nL Q ws ca sl pc lv (.int n :: st) := by
  subst hca; subst hsl
  intro H locs ls hP hD hS hl
  have hK := X.2.2.2.2.2.2.2.2.1
  refine va_newaK X.1 X.2.1 (atype := .boolean) (ac_args X.2.2.2.2.2.2.2.2.2.1.2.1) rfl hdg rfl hn hN hb (Nat.le_trans hc1 X.2.2.2.2.2.2.2.2.2.2.2.2.2.1) (Nat.le_trans hs1 X.2.2.2.2.2.2.2.2.2.2.2.2.2.2) rfl fun H1 cB e1 z1 o1 hAr hNm => ?_
  have e0 : s.vm.findClass ("[" ++ (FieldType.boolean).toString) = some cA := (hK.2 t0 _ ht).2
  have ee : cB = cA := Option.some.inj (hNm.symm.trans e0)
  subst ee
  have hk : ∀ (k : Nat) (x : Nat × va_E), ws[k]? = some x → H1[x.1]? = H[x.1]? := fun k x hx => o1 x.1 ((hP k x hx).lt)
  refine z H.size H1 locs ls ?_ ?_ ⟨Nat.le_trans hS.1 (by omega), fun x h1 h2 => (o1 x (Nat.lt_of_lt_of_le h1 hS.1)).trans (hS.2.1 x h1 h2), hS.2.2⟩ hl
  · rw [← hws]
    refine (hP.kept hk).app (fun k x hx => ?_)
    have hz : k < 1 := (List.getElem?_eq_some_iff.mp hx).1
    rw [show k = 0 by omega] at hx
    cases hx
    exact e1
  · rw [← hws]
    exact hD.push hP rfl (X.2.2.2.2.2.2.2.2.2.2.1 _ hS.1)
/-- a new array of references -/
theorem n_newq (X : CN p R s m args meth c cc nL own D cl tys A F L mc ms) (t0 : Nat) {cA : ClassId} {C : String} {index : Nat} (ht : tys[t0]? = some (cA, .object C)) (hclink : Cond.classLink own index C ∈ tbW) (hov : CT s → va_AO C s) {n : Int32} {N' ca' sl' : Nat} (hn : ¬ n < 0) (hN : n.toNatClampNeg = N') (hb : N' * 4 ≤ 536870912) (hca : ca + 1 = ca') (hsl : sl + N' = sl') (hc1 : ca' ≤ mc) (hs1 : sl' ≤ ms) {ws' : Nat → va_W} (hws : ∀ x, ws ++ [(x, .inl (cA, N', .inr (.inr (.inr (.inr (fun _ => none))))))] = ws' x) (hdg : decode cc pc = .ok (.anewarray index, 3)) (z : ∀ x : Nat, N p l e R s m args below meth c D cl A nL Q (ws' x) ca' sl' (pc + 3) lv (.ref x :: st)) : N p l e R s m args below meth c D cl A nL Q ws ca sl pc lv (.int n :: st) := by
  subst hca; subst hsl
  intro H locs ls hP hD hS hl
  have hK := X.2.2.2.2.2.2.2.2.1
  refine va_newq X.1 X.2.1 X.2.2.2.1 (X.2.2.2.2.1 _ hclink) (hov X.2.2.2.2.2.2.2.2.2.1) hK hP hD hS X.2.2.2.2.2.2.2.2.2.2.1 hn hN hb (Nat.le_trans hc1 X.2.2.2.2.2.2.2.2.2.2.2.2.2.1) (Nat.le_trans hs1 X.2.2.2.2.2.2.2.2.2.2.2.2.2.2) hdg (fun x cB H1 hK1 hP1 hD1 hS1 => ?_)
  obtain ⟨-, -, -, -, -, e0⟩ := (hK.2 t0 _ ht).2
  obtain ⟨-, -, -, -, -, e1⟩ := (hK1.2 tys.length (cB, .object C) (by simp)).2
  have ee : cB = cA := Option.some.inj (e1.symm.trans e0)
  subst ee
  exact z x H1 locs ls (by rw [← hws]; exact hP1) (by rw [← hws]; exact hD1) hS1 hl
/-- a new object -/
theorem n_new (X : CN p R s m args meth c cc nL own D cl tys A F L mc ms) {ci N0 index : Nat} {C : String} {T : u_T} {fs : List Value} (hcl : cl[ci]? = some (C, T, N0)) (hin : ∀ w ∈ u_ws C T N0, w ∈ tbW) (ty0 : Nat → FieldType) (hty : ∀ k, k < N0 → parseFieldDescriptor (T k).2.2.1 = some (ty0 k)) (hclink : Cond.classLink own index C ∈ tbW) (hinst : Cond.instantiable C N0 ∈ tbW) (hini : Cond.initialized C ∈ tbW) (hfs : ∀ j, j < N0 → defaultValue (ty0 j) = vp_V fs j) {ca' sl' : Nat} (hca : ca + 1 = ca') (hsl : sl + N0 = sl') (hc1 : ca' ≤ mc) (hs1 : sl' ≤ ms) {ws' : Nat → va_W} (hws : ∀ x, ws ++ [(x, .inr (ci, fs))] = ws' x) (hdg : decode cc pc = .ok (.new index, 3)) (z : ∀ x : Nat, N p l e R s m args below meth c D cl A nL Q (ws' x) ca' sl' (pc + 3) lv (.ref x :: st)) : N p l e R s m args below meth c D cl A nL Q ws ca sl pc lv st := by
  subst hca; subst hsl
  exact fun H locs ls hP hD hS hl => va_new X.1 X.2.1 X.2.2.2.2.1 hin ty0 hty X.2.2.2.1 (X.2.2.2.2.1 _ hclink) (X.2.2.2.2.1 _ hinst) (X.2.2.2.2.1 _ hini) X.2.2.2.2.2.2.2.2.1 hP hD hS X.2.2.2.2.2.2.2.2.2.2.1 hcl hfs (Nat.le_trans hc1 X.2.2.2.2.2.2.2.2.2.2.2.2.2.1) (Nat.le_trans hs1 X.2.2.2.2.2.2.2.2.2.2.2.2.2.2) hdg (fun x H1 hP1 hD1 hS1 => z x H1 locs ls (by rw [← hws]; exact hP1) (by rw [← hws]; exact hD1) hS1 hl)
/-- aastore of an object that the world holds -/
theorem n_aast (X : CN p R s m args meth c cc nL own D cl tys A F L mc ms) (q0 t0 qk ci : Nat) {x v n k : Nat} {cA : ClassId} {r : vw_C} {vs : List Value} {f : Nat → Option Nat} {y : Int32} (ha : ws[q0]? = some (x, .inl (cA, n, .inr (.inr (.inr (.inr f)))))) (ht : tys[t0]? = some (cA, .object r.1)) (hv : ws[qk]? = some (v, .inr (ci, vs))) (hcl : cl[ci]? = some r) (hn : n < 2 ^ 31) (hk : k < n) (hy : y = nI k) {ws' : va_W} (hws : ws.set q0 (x, .inl (cA, n, .inr (.inr (.inr (.inr (va_up f k (some v))))))) = ws') (hdg : decode cc pc = .ok (.aastore, 1)) (z : N p l e R s m args below meth c D cl A nL Q ws' ca sl (pc + 1) lv st) : N p l e R s m args below meth c D cl A nL Q ws ca sl pc lv (.ref v :: .int y :: .ref x :: st) := by
  subst hws
  exact fun H locs ls hP hD hS hl => va_astq X.1 X.2.1 X.2.2.2.2.2.2.2.2.1 hP hD hS q0 t0 qk ci ha ht hv hcl (in_nI hk hn hy).1 hdg (fun H1 locs1 hP1 hD1 hS1 => z H1 locs1 ls (by rw [(in_nI hk hn hy).2] at hP1; exact hP1) (by rw [(in_nI hk hn hy).2] at hD1; exact hD1) hS1 hl)
theorem nd_range : ∀ n : Nat, va_nd (List.range n) = true := by
  intro n
  have key : ∀ l : List Nat, l.Nodup → va_nd l = true := by
    intro l hl
    induction l with
    | nil => rfl
    | cons a t ih =>
      have h1 := List.nodup_cons.mp hl
      simp only [va_nd, Bool.and_eq_true, decide_eq_true_eq]
      exact ⟨h1.1, ih h1.2⟩
  exact key _ List.nodup_range
/-- behind a call that had the last cell alone -/
theorem join_last {A0 : Nat → Prop} {w0 w1 : va_W} {x : Nat × va_E} {H H1 : Heap} (hP : va_P D cl (w0 ++ [x]) H) (hD : va_D A0 (w0 ++ [x])) (hk : ∀ q : Nat, q < H.size → ¬ va_A [x] H.size q → H1[q]? = H[q]?) (hF : ∀ q, va_A [x] H.size q → A0 q) (hP1 : va_P D cl w1 H1) (hD1 : va_D (va_A [x] H.size) w1) : va_P D cl (w0 ++ w1) H1 ∧ va_D A0 (w0 ++ w1) := by
  refine va_join hP hD [w0.length] (List.range w0.length) ?_ ?_ (nd_range _) ?_ hk hF hP1 hD1
  · simp
  · apply List.ext_getElem?
    intro i
    by_cases hi : i < w0.length
    · simp [hi, List.getElem?_append_left hi]
    · simp [hi]
  · intro i hi hj
    have h1 := List.mem_range.mp hi
    have h2 := List.mem_singleton.mp hj
    omega
/-- a constructor's start -/
def PreN (D : va_G) (cl : List vw_C) (tys : List (ClassId × FieldType)) (ws : va_W) (sz : Nat) (U : State) : Prop := U.heap.size = sz ∧ va_P D cl ws U.heap ∧ va_K D cl tys U ∧ (∀ w ∈ tbW, va_Nw w U) ∧ CT U
/-- .. and its end -/
def AtN {S : Type} (D : va_G) (cl : List vw_C) (x : Nat × va_E) (sz : Nat) (f : S → va_W) (u : S) (t : State) : Prop := va_P D cl (f u) t.heap ∧ va_D (va_A [x] sz) (f u)
/-- invokespecial of a nest mate's constructor, on the last cell -/
theorem n_callIN (X : CN p R s m args meth c cc nL own D cl tys A F L mc ms) {S : Type} {y : MethodName} {bytes : ByteArray} {host : String} {maxL F1 L1 mc1 ms1 index x : Nat} {x0 : va_E} {w0 : va_W} {f : S → va_W} {post : S → Prop} (hM : ∀ sz : Nat, Met l y [.code y bytes maxL none] { frames := F1, cells := mc1, slots := ms1, locals := L1 } (va_Pc [.ref x] (PreN D cl tys [(x, x0)] sz)) (va_Qv post (AtN D cl (x, x0) sz f) (va_A [(x, x0)] sz)) mc1 ms1 (va_A [(x, x0)] sz)) (hw : ws = w0 ++ [(x, x0)]) (hF : F1 + 1 ≤ F) (hL : 8 + (maxL + 11) + L1 ≤ L) (hlink : Cond.methodLinkNest own index y host ∈ tbW) (hcode : Cond.code y bytes maxL none ∈ tbW) (hini : Cond.initialized y.cls ∈ tbW) (hinst : Cond.instanceMethod y ∈ tbW) (hy : y.name = "<init>") (hd : nmh y 0) {ca' sl' : Nat} (hca : ca + mc1 = ca') (hsl : sl + ms1 = sl') (hc1 : ca' ≤ mc) (hs1 : sl' ≤ ms) (hr : (st.map fun v => v.category).sum ≤ 8) (hdg : decode cc pc = .ok (.invokespecial index, 3)) (z : ∀ u : S, post u → N p l e R s m args below meth c D cl A nL Q (w0 ++ f u) ca' sl' (pc + 3) lv st) : N p l e R s m args below meth c D cl A nL Q ws ca sl pc lv (.ref x :: st) := by
  subst hca; subst hsl; subst hw
  intro H locs ls hP hD hS hl
  have hN : ∀ w ∈ tbW, va_Nw w s := fun w hw => va_Nw.of (tb_ok.1 w hw) (X.2.2.2.2.1 w hw)
  have hcw : ∀ w ∈ [Cond.code y bytes maxL none], ∀ (a' : Array Value) (U : State), s.WarmedH U.vm → w.before a' U = true := fun w hw a' U hW => by
    cases List.mem_singleton.mp hw
    exact va_Nw.use (tb_ok.1 _ hcode) (tb_ok.2 _ hcode s U hW (hN _ hcode))
  have hPx : va_P D cl [(x, x0)] H := fun k q hq => by
    have hz : k < 1 := (List.getElem?_eq_some_iff.mp hq).1
    rw [show k = 0 by omega] at hq
    cases hq
    exact hP w0.length _ (by simp)
  have hFx : ∀ q, va_A [(x, x0)] H.size q → A q := by
    intro q h
    rcases h with ⟨k, e1, h⟩ | h
    · have hz : k < 1 := (List.getElem?_eq_some_iff.mp h).1
      rw [show k = 0 by omega] at h
      cases h
      exact hD.2 w0.length (x, x0) (by simp)
    · exact X.2.2.2.2.2.2.2.2.2.2.1 q (Nat.le_trans hS.1 h)
  refine va_callv (va_runIN (As := []) (rest := st) ⟨X.1, X.2.1, X.2.2.1, X.2.2.2.1, X.2.2.2.2.1⟩ (hM H.size) ⟨⟨⟨rfl, rfl, Nat.le_trans hF X.2.2.2.2.2.2.2.2.2.2.2.1, Nat.le_trans hL X.2.2.2.2.2.2.2.2.2.2.2.2.1, hcw, List.mem_singleton.mpr rfl⟩, X.2.2.2.2.1 _ hcode, X.2.2.2.2.1 _ hini, ⟨hd.1, hd.2.1⟩, par_n hd.2.2, X.2.2.2.2.1 _ hlink⟩, hy, X.2.2.2.2.1 _ hinst⟩ ⟨fun a U g mk q => ⟨q.1, q.2.1, q.2.2.1, va_K.moved (u := U) (Vm.Alike.refl U.vm) q.2.2.2.1, fun w hw => va_Nw.same (u := U) (tb_ok.1 w hw) rfl (q.2.2.2.2.1 w hw), CT.same (s := U) rfl q.2.2.2.2.2⟩, fun U hU hW => ⟨rfl, by rw [hU], by rw [hU]; exact hPx, va_K.moved hW.alike X.2.2.2.2.2.2.2.2.1, fun w hw => tb_ok.2 w hw s U hW (hN w hw), X.2.2.2.2.2.2.2.2.2.1.moved hW⟩⟩ rfl rfl hl.1 rfl (lv_room hr) hdg ⟨Nat.le_trans hc1 X.2.2.2.2.2.2.2.2.2.2.2.2.2.1, Nat.le_trans hs1 X.2.2.2.2.2.2.2.2.2.2.2.2.2.2⟩) hS (fun q _ h9 => hFx q h9) (fun q h9 => hFx q h9) (fun u t H1 locs1 ht hvm hq hB hz hk9 hS1 => ?_)
  obtain ⟨hB1, hB2⟩ := hB
  rw [ht] at hB1
  obtain ⟨g1, g2⟩ := join_last hP hD hk9 hFx hB1 hB2
  exact z u hq H1 locs1 ls g1 g2 hS1 hl
/-- a constructor's walk gives its contract -/
theorem n_of {S : Type} {y : MethodName} {x sz : Nat} {x0 : va_E} {post : S → Prop} {f : S → va_W} (hy : plainName y.cls = true) (hyn : y.name = "<init>") (hnL : 1 ≤ nL)
    (body : ∀ (p : Program) (e : Env) (R : Room) (s : State) (m : MethodId) (below : List Frame) (meth : Method) (c : Code), s.heap.size = sz → CN p R s m #[.ref x] meth c cc nL y.cls D cl tys (va_A [(x, x0)] sz) F L mc ms → N p l e R s m #[.ref x] below meth c D cl (va_A [(x, x0)] sz) nL (MQ below (va_Qv post (AtN D cl (x, x0) sz f) (va_A [(x, x0)] sz)) #[.ref x] s mc ms (va_A [(x, x0)] sz)) [(x, x0)] 0 0 0 [(0, .ref x)] []) :
    Met l y [.code y cc nL none] { frames := F, cells := mc, slots := ms, locals := L } (va_Pc [.ref x] (PreN D cl tys [(x, x0)] sz)) (va_Qv post (AtN D cl (x, x0) sz f) (va_A [(x, x0)] sz)) mc ms (va_A [(x, x0)] sz) := by
  refine Met.ofW (cc := cc) (maxL := nL) (ret := none) hy rfl ?_
  intro p e s m args below meth c s₁ B hml hv
  obtain ⟨rfl, hsz, hP, hK, hT, hCT⟩ := hv
  rw [lg_entry_eq]
  have hD : va_D (va_A [(x, x0)] sz) [(x, x0)] := by
    refine ⟨fun i j u v hi hj _ => ?_, fun k q hq => va_A.in hq⟩
    have h1 : i < 1 := (List.getElem?_eq_some_iff.mp hi).1
    have h2 : j < 1 := (List.getElem?_eq_some_iff.mp hj).1
    omega
  exact body p e _ s m below meth c hsz ⟨B.exec, B.bytes, hml, findClass_of_methodNamed B.named, fun w hw => va_Nw.use (tb_ok.1 w hw) (hT w hw), B.returns, B.notSynchronized, (name_of_methodNamed B.named B.method).1.trans hyn, hK, hCT, fun q hq => Or.inr (by rw [← hsz]; exact hq), Nat.le_refl _, Nat.le_refl _, Nat.le_refl _, Nat.le_refl _⟩ s.heap [] _ hP hD va_S.rf (lv_entry [.ref x] (by show 1 ≤ nL; exact hnL))
theorem n_vret {S : Type} {post : S → Prop} {f : S → va_W} {x sz : Nat} {x0 : va_E} (X : CN p R s m args meth c cc nL own D cl tys (va_A [(x, x0)] sz) F L mc ms) (u : S) (hu : post u) (hf : f u = ws) (hca : ca ≤ mc) (hsl : sl ≤ ms) (hdg : decode cc pc = .ok (.return_, 1)) : N p l e R s m args below meth c D cl (va_A [(x, x0)] sz) nL (MQ below (va_Qv post (AtN D cl (x, x0) sz f) (va_A [(x, x0)] sz)) args s mc ms (va_A [(x, x0)] sz)) ws ca sl pc lv [] :=
  fun H locs ls hP hD hS hl => W.widen hca hsl (W.vret X.1 X.2.1 X.2.2.2.2.2.1 (fun t ht hW => ⟨⟨u, rfl, hu, by rw [hf, ht]; exact hP, by rw [hf]; exact hD⟩, hS.F ht⟩) hS.2.2 hdg X.2.2.2.2.2.2.1)
end NR
