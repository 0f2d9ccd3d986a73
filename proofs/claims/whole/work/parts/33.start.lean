theorem lk391 : Cond.classLink R_law 7 R_V ∈ tbW := tb1_in (List.mem_of_getElem? (i := 8) rfl) rfl
theorem lk392 : Cond.instantiable R_V 9 ∈ tbW := tb1_in (List.mem_of_getElem? (i := 9) rfl) rfl
theorem lk393 : Cond.classLink R_law 10 R_M ∈ tbW := tb2_in (List.mem_of_getElem? (i := 141) rfl) rfl
theorem lk394 : Cond.instantiable R_M 28 ∈ tbW := tb2_in (List.mem_of_getElem? (i := 142) rfl) rfl
theorem lk395 : Cond.methodLink R_law 9 y_V_init ∈ tbW := tb1_in (List.mem_of_getElem? (i := 10) rfl) rfl
theorem lk396 : Cond.instanceMethod y_V_init ∈ tbW := tb1_in (List.mem_of_getElem? (i := 11) rfl) rfl
theorem lk397 : Cond.methodLink R_law 12 y_M_init ∈ tbW := tb2_in (List.mem_of_getElem? (i := 143) rfl) rfl
theorem lk398 : Cond.instanceMethod y_M_init ∈ tbW := tb2_in (List.mem_of_getElem? (i := 144) rfl) rfl

theorem wV_at {q : Nat → ClassId} {a : Nat → Nat} {i : Nat} (hi : i < 101) : ∃ k : Nat, plV[k]? = some i ∧ (wV q a)[k]? = some (a i, ceV a q (fun _ => 0) i) := by
  have h0 : ∀ i, i < 101 → i ∈ plV := by decide +kernel
  obtain ⟨k, hk⟩ := List.getElem?_of_mem (h0 i hi)
  exact ⟨k, hk, by simp [wV, hk]⟩
theorem wV_gW {D : va_G} {q : Nat → ClassId} {a : Nat → Nat} {H : Heap} (h : va_P D clV (wV q a) H) : va_P D clV (gW 101 a (ceV a q) (fun _ _ => 0)) H := by
  intro i x hx
  obtain ⟨h1, h2⟩ := gW_lt hx
  rw [gW_at h1 rfl] at hx
  cases hx
  obtain ⟨k, -, hk⟩ := wV_at (q := q) (a := a) h1
  exact h k _ hk
theorem wV_inj {q : Nat → ClassId} {a : Nat → Nat} {A : Nat → Prop} (h : va_D A (wV q a)) : injW a 101 := by
  intro i j hi hj e
  obtain ⟨k1, e1, h1⟩ := wV_at (q := q) (a := a) hi
  obtain ⟨k2, e2, h2⟩ := wV_at (q := q) (a := a) hj
  have hk := h.1 k1 k2 _ _ h1 h2 e
  subst hk
  exact Option.some.inj (e1.symm.trans e2)
theorem one_A {x y sz : Nat} {x0 : va_E} (h : va_A [(x, x0)] sz y) : y = x ∨ sz ≤ y := by
  rcases h with ⟨k, e, h⟩ | h
  · have hz : k < 1 := (List.getElem?_eq_some_iff.mp h).1
    rw [show k = 0 by omega] at h
    cases h
    exact Or.inl rfl
  · exact Or.inr h
def aM (y : Nat) (w : Nat → Nat) : Nat → Nat := fun i => match i with
  | 0 => y
  | i + 1 => w i
theorem wM_gW {q : Nat → ClassId} {y : Nat} {w : Nat → Nat} : w_M_init q y w = gW 24 (aM y w) (ceM (aM y w) q) (fun _ _ => 0) := rfl
theorem k_prim {s : State} {args : Array Value} {ty : FieldType} (hp : ∀ C, ty ≠ .object C) (h : (Cond.arrayClass ty).before args s = true) : ∃ cA : ClassId, ArrOfT s cA ty ∧ va_RA s cA ty := by
  obtain ⟨cA, kA, comp, h1, h2, h3⟩ := Cond.arrayClass_spec h
  refine ⟨cA, fun n z => ⟨fun k h => (by cases h), kA, h2, comp, h3⟩, ?_⟩
  cases ty with
  | object C => exact absurd rfl (hp C)
  | _ => exact h1
theorem k_obj {s : State} {C : String} (h : va_AO C s) : ∃ cA : ClassId, ArrOfT s cA (.object C) ∧ va_RA s cA (.object C) := by
  obtain ⟨comp, cA, kA, h1, h2, h3, h4, h5⟩ := Cond.arrayOver_spec h
  exact ⟨cA, fun n z => ⟨fun k h => (by cases h), kA, h3, comp, h4⟩, kA, comp, h3, h4, h1, h5⟩
theorem k_V {s : State} {args : Array Value} (hts : ∀ w ∈ tbW, w.before args s = true) (hC : CT s) : ∃ (D : va_G) (q : Nat → ClassId), va_K D clV (tyV q) s := by
  obtain ⟨c0, i0, h0⟩ := u_known hts hin_V (hts _ lk392)
  obtain ⟨c1, i1, h1⟩ := u_known hts hin_Ch (hts _ lk383)
  obtain ⟨c2, i2, h2⟩ := u_known hts hin_Ms (hts _ lk375)
  obtain ⟨c3, i3, h3⟩ := u_known hts hin_Mt (hts _ lk379)
  obtain ⟨c4, i4, h4⟩ := u_known hts hin_Re (hts _ lk387)
  obtain ⟨a0, g0⟩ := k_prim (ty := .int) (fun C h => by cases h) hC.1
  obtain ⟨a1, g1⟩ := k_prim (ty := .boolean) (fun C h => by cases h) hC.2.1
  obtain ⟨a2, g2⟩ := k_obj hC.2.2.1
  obtain ⟨a3, g3⟩ := k_obj hC.2.2.2
  refine ⟨(fun i => [c0, c1, c2, c3, c4].getD i 0, fun i => [i0, i1, i2, i3, i4].getD i (fun _ => 0)), fun i => [a0, a1, a2, a3].getD i 0, fun c r hr => ?_, fun k r hr => ?_⟩
  · match c, hr with
    | 0, hr => cases hr; exact h0
    | 1, hr => cases hr; exact h1
    | 2, hr => cases hr; exact h2
    | 3, hr => cases hr; exact h3
    | 4, hr => cases hr; exact h4
  · match k, hr with
    | 0, hr => cases hr; exact g0
    | 1, hr => cases hr; exact g1
    | 2, hr => cases hr; exact g2
    | 3, hr => cases hr; exact g3
theorem k_M {s : State} {args : Array Value} (hts : ∀ w ∈ tbW, w.before args s = true) (hC : CT s) : ∃ (D : va_G) (q : Nat → ClassId), va_K D clM (tyM q) s := by
  obtain ⟨c0, i0, h0⟩ := u_known hts hin_M (hts _ lk394)
  obtain ⟨a0, g0⟩ := k_prim (ty := .int) (fun C h => by cases h) hC.1
  obtain ⟨a1, g1⟩ := k_prim (ty := .boolean) (fun C h => by cases h) hC.2.1
  refine ⟨(fun _ => c0, fun _ => i0), fun i => [a0, a1].getD i 0, fun c r hr => ?_, fun k r hr => ?_⟩
  · match c, hr with
    | 0, hr => cases hr; exact h0
  · match k, hr with
    | 0, hr => cases hr; exact g0
    | 1, hr => cases hr; exact g1
section
variable {p : Program} {l : Launch} {e : Env} {R : Room} {s : State} {m : MethodId} {args : Array Value} {below : List Frame} {meth : Method} {c : Code} {H : Heap} {locs : List Loc} {cells slots : Nat} {Q : State → Prop} {cc : ByteArray} {pc : Nat} {ls : Array Slot} {rest : List Value} {D : va_G} {cl : List vw_C} {tys : List (ClassId × FieldType)}
/-- a new object, what was there stays -/
theorem lw_new (hexec : p.tables.exec = Jvm.exec) (hb : c.code = cc) {own C : String} {T : u_T} {N ci index : Nat} (hts : ∀ w ∈ tbW, w.before args s = true) (hin : ∀ w ∈ u_ws C T N, w ∈ tbW) (ty : Nat → FieldType) (hty : ∀ k, k < N → parseFieldDescriptor (T k).2.2.1 = some (ty k)) (hown : s.vm.findClass own = some m.cls) (hcl : Cond.classLink own index C ∈ tbW) (hinst : Cond.instantiable C N ∈ tbW) (hini : Cond.initialized C ∈ tbW)
    (hK : va_K D cl tys s) (hc : cl[ci]? = some (C, T, N)) {fs : List Value} (hfs : ∀ j, j < N → defaultValue (ty j) = vp_V fs j) (hcells : cells + 1 ≤ R.cells) (hslots : slots + N ≤ R.slots) (hdg : decode cc pc = .ok (.new index, 3))
    (kk : ∀ (x : Nat) (H1 : Heap), x = H.size → va_P D cl [(x, .inr (ci, fs))] H1 → H1.size = H.size + 1 → (∀ q, q < H.size → H1[q]? = H[q]?) →
      W p l e R s m args below meth c H1 locs (cells + 1) (slots + N) Q (F0 m (pc + 3) ls (.ref x :: rest))) : W p l e R s m args below meth c H locs cells slots Q (F0 m pc ls rest) := by
  have hKn := hK.1 ci _ hc
  refine W.newcK hexec hb hown (hts _ hcl) (hts _ hinst) (hts _ hini) rfl hdg hcells hslots hKn.2.1 rfl fun H1 kC hkC e1 z1 o1 => ?_
  refine kk H.size H1 rfl (fun k x hx => ?_) z1 o1
  have hz : k < 1 := (List.getElem?_eq_some_iff.mp hx).1
  rw [show k = 0 by omega] at hx
  cases hx
  exact ⟨_, hc, (u_born ty hts hin hKn hkC e1 hty).to hfs⟩
/-- a constructor's call in the law -/
theorem lw_init (hexec : p.tables.exec = Jvm.exec) (hb : c.code = cc) {own : String} {nL : Nat} (hml : c.maxLocals = nL) (hown : s.vm.findClass own = some m.cls) (hts : ∀ w ∈ tbW, w.before args s = true) (hCT : CT s) (hK : va_K D cl tys s) {S : Type} {y : MethodName} {bytes : ByteArray} {maxL F1 L1 mc1 ms1 index x : Nat} {x0 : va_E} {f : S → va_W} {post : S → Prop} (hM : Met l y [.code y bytes maxL none] { frames := F1, cells := mc1, slots := ms1, locals := L1 } (va_Pc [.ref x] (PreN D cl tys [(x, x0)] H.size)) (va_Qv post (AtN D cl (x, x0) H.size f) (va_A [(x, x0)] H.size)) mc1 ms1 (va_A [(x, x0)] H.size)) (hP : va_P D cl [(x, x0)] H) (hS : va_S (fun q => s.heap.size ≤ q) s.heap H locs) (hx : s.heap.size ≤ x) (hF : F1 + 1 ≤ R.frames) (hL : 8 + (maxL + 11) + L1 ≤ R.locals) (hlink : Cond.methodLink own index y ∈ tbW) (hcode : Cond.code y bytes maxL none ∈ tbW) (hini : Cond.initialized y.cls ∈ tbW) (hinst : Cond.instanceMethod y ∈ tbW) (hy : y.name = "<init>") (hd : nmh y 0) (hc1 : cells + mc1 ≤ R.cells) (hs1 : slots + ms1 ≤ R.slots) (hr : (rest.map fun v => v.category).sum ≤ 8) (hls : ls.size = nL) (hdg : decode cc pc = .ok (.invokespecial index, 3))
    (z : ∀ (u : S) (H1 : Heap) (locs1 : List Loc), post u → va_P D cl (f u) H1 → va_D (va_A [(x, x0)] H.size) (f u) → H.size ≤ H1.size → (∀ q, q < H.size → q ≠ x → H1[q]? = H[q]?) → va_S (fun q => s.heap.size ≤ q) s.heap H1 locs1 → W p l e R s m args below meth c H1 locs1 (cells + mc1) (slots + ms1) Q (F0 m (pc + 3) ls rest)) : W p l e R s m args below meth c H locs cells slots Q (F0 m pc ls (.ref x :: rest)) := by
  have hN : ∀ w ∈ tbW, va_Nw w s := fun w hw => va_Nw.of (tb_ok.1 w hw) (hts w hw)
  have hcw : ∀ w ∈ [Cond.code y bytes maxL none], ∀ (a' : Array Value) (U : State), s.WarmedH U.vm → w.before a' U = true := fun w hw a' U hW => by
    cases List.mem_singleton.mp hw
    exact va_Nw.use (tb_ok.1 _ hcode) (tb_ok.2 _ hcode s U hW (hN _ hcode))
  have hFx : ∀ q, va_A [(x, x0)] H.size q → s.heap.size ≤ q := by
    intro q h
    rcases one_A h with h | h
    · rw [h]; exact hx
    · exact Nat.le_trans hS.1 h
  refine va_callv (va_runI (As := []) (rest := rest) ⟨hexec, hb, hml, hown, hts⟩ hM ⟨⟨rfl, rfl, hF, hL, hcw, List.mem_singleton.mpr rfl, hts _ hcode, hts _ hini, ⟨hd.1, hd.2.1⟩, par_n hd.2.2, hts _ hlink⟩, hy, hts _ hinst⟩ ⟨fun a U g mk q => ⟨q.1, q.2.1, q.2.2.1, va_K.moved (u := U) (Vm.Alike.refl U.vm) q.2.2.2.1, fun w hw => va_Nw.same (u := U) (tb_ok.1 w hw) rfl (q.2.2.2.2.1 w hw), CT.same (s := U) rfl q.2.2.2.2.2⟩, fun U hU hW => ⟨rfl, by rw [hU], by rw [hU]; exact hP, va_K.moved hW.alike hK, fun w hw => tb_ok.2 w hw s U hW (hN w hw), hCT.moved hW⟩⟩ rfl rfl hls rfl (lv_room hr) hdg ⟨hc1, hs1⟩) hS (fun q _ h9 => hFx q h9) (fun q h9 => hFx q h9) (fun u t H1 locs1 ht hvm hq hB hz hk9 hS1 => ?_)
  obtain ⟨hB1, hB2⟩ := hB
  rw [ht] at hB1
  refine z u H1 locs1 hq hB1 hB2 hz (fun q h1 h2 => hk9 q h1 (fun h3 => ?_)) hS1
  rcases one_A h3 with h | h
  · exact h2 h
  · omega
end
set_option maxHeartbeats 8000000 in
set_option maxRecDepth 100000 in
theorem whole_open {p : Program} {e : Env} {s : State} {m : MethodId} {below : List Frame} {meth : Method} {c : Code} (l : Launch) {b L : Nat} {xs : Nat → Int32} (hL : L ≤ 3072) (C0 : lw_At p s m meth c b L xs) {J : RS → RS → Prop} (hJ0 : J (fun _ _ => 0) (fun _ _ => 0)) (hStep : Steps J) : W p l e room_1 s m #[Value.ref b] below meth c s.heap [] 0 0 (lw_Z below #[Value.ref b] s) (entryFrame m ([Value.ref b] : List Value).toArray 4) := by
  have hx := C0.1
  have hb := C0.2.1
  have hml := C0.2.2.2.1
  have hown := C0.2.2.2.2.1
  have hts0 := C0.2.2.2.2.2.1
  have hts : ∀ w ∈ tbW, w.before #[Value.ref b] s = true := fun w hw => hts0 w (lw_in hw)
  have hC : CT s := ⟨ac_args (hts0 (Cond.arrayClass .int) (List.mem_append_right _ (List.mem_append_left _ (List.mem_of_getElem? (i := 51) rfl)))), ac_args (hts0 (Cond.arrayClass .boolean) (List.mem_append_right _ (List.mem_append_left _ (List.mem_of_getElem? (i := 134) rfl)))), va_AO.of (hts0 (Cond.arrayOver (.object "JoinVessel$Channel")) (List.mem_append_right _ (List.mem_append_left _ (List.mem_of_getElem? (i := 17) rfl)))), va_AO.of (hts0 (Cond.arrayOver (.object "JoinVessel$Reaction")) (List.mem_append_right _ (List.mem_append_left _ (List.mem_of_getElem? (i := 19) rfl))))⟩
  obtain ⟨D1, q1, hK1⟩ := k_V hts hC
  obtain ⟨D2, q2, hK2⟩ := k_M hts hC
  have hl := lv_entry ([.ref b]) (n := 4) (Nat.le_of_ble_eq_true rfl)
  rw [lg_entry_eq]
  generalize (lg_sl ([.ref b]) ++ List.replicate (4 - (lg_sl ([.ref b])).length) Slot.unset).toArray = ls at hl ⊢
  have hl : lv_has ls 4 [(0, .ref b)] := hl
  refine lw_new (ci := 0) (fs := [.null, .int 0, .null, .int 0, .int 0, .null, .null, .null, .int 0]) (C := R_V) (pc := 0) hx hb hts hin_V t_V t_V_ok hown lk391 lk392 lk11 hK1 rfl (fun j hj => by rcases (show j = 0 ∨ j = 1 ∨ j = 2 ∨ j = 3 ∨ j = 4 ∨ j = 5 ∨ j = 6 ∨ j = 7 ∨ j = 8 by omega) with rfl | rfl | rfl | rfl | rfl | rfl | rfl | rfl | rfl <;> rfl) (by decide) (by decide) dL_0 (fun x H1 ex hP1 z1 o1 => ?_)
  have hS1 : va_S (fun q => s.heap.size ≤ q) s.heap H1 [] := ⟨by omega, fun q h1 _ => o1 q h1, fun _ h => by cases h⟩
  refine lv_dup (pc := 3) hx hb dL_3 rfl ?_
  refine lw_init (pc := 4) hx hb hml hown hts hC hK1 (c_V_init (q := q1) (x := x) H1.size) hP1 hS1 (by omega) (by decide) (by decide) lk395 cd_V_init lk11 lk396 rfl nm_V_init (by decide) (by decide) (Nat.le_of_ble_eq_true rfl) hl.1 dL_4 (fun a1 H2 locs2 ha1 hP2 hD2 z2 o2 hS2 => ?_)
  have hI1 := wV_inj hD2
  have hnew1 : ∀ i, i < 101 → s.heap.size ≤ a1 i := fun i hi => by
    obtain ⟨k, -, hk⟩ := wV_at (q := q1) (a := a1) hi
    rcases one_A (hD2.2 k _ hk) with h | h
    · show s.heap.size ≤ a1 i
      have h9 : a1 i = x := h
      omega
    · have h9 : H1.size ≤ a1 i := h
      omega
  have hP2 := wV_gW hP2
  have hlt0 : ∀ i, i < 101 → a1 i < H2.size := fun i hi => (hP2 i _ (gW_at hi rfl)).lt
  refine lv_astore_n (pc := 7) hx hb dL_7 rfl hl (by decide) rfl (fun ls hl => ?_)
  have hl : lv_has ls 4 [(1, .ref x), (0, .ref b)] := hl
  refine lw_new (ci := 0) (fs := [.int 0, .null, .int 0, .null, .null, .null, .null, .null, .null, .null, .null, .null, .null, .null, .null, .int 0, .int 0, .null, .null, .null, .null, .null, .int 0, .null, .null, .null, .null, .null]) (C := R_M) (pc := 8) hx hb hts hin_M t_M t_M_ok hown lk393 lk394 lk163 hK2 rfl (fun j hj => by rcases (show j = 0 ∨ j = 1 ∨ j = 2 ∨ j = 3 ∨ j = 4 ∨ j = 5 ∨ j = 6 ∨ j = 7 ∨ j = 8 ∨ j = 9 ∨ j = 10 ∨ j = 11 ∨ j = 12 ∨ j = 13 ∨ j = 14 ∨ j = 15 ∨ j = 16 ∨ j = 17 ∨ j = 18 ∨ j = 19 ∨ j = 20 ∨ j = 21 ∨ j = 22 ∨ j = 23 ∨ j = 24 ∨ j = 25 ∨ j = 26 ∨ j = 27 by omega) with rfl | rfl | rfl | rfl | rfl | rfl | rfl | rfl | rfl | rfl | rfl | rfl | rfl | rfl | rfl | rfl | rfl | rfl | rfl | rfl | rfl | rfl | rfl | rfl | rfl | rfl | rfl | rfl <;> rfl) (by decide) (by decide) dL_8 (fun y H3 ey hP3 z3 o3 => ?_)
  have hS3 : va_S (fun q => s.heap.size ≤ q) s.heap H3 locs2 := ⟨by have := hS2.1; omega, fun q h1 h2 => (o3 q (Nat.lt_of_lt_of_le h1 hS2.1)).trans (hS2.2.1 q h1 h2), hS2.2.2⟩
  have hP2 : va_P D1 clV (gW 101 a1 (ceV a1 q1) (fun _ _ => 0)) H3 := hP2.kept (fun k q hq => o3 q.1 ((hP2 k q hq).lt))
  have hlt1 : ∀ i, i < 101 → a1 i < y := fun i hi => by have h9 := hlt0 i hi; omega
  refine lv_dup (pc := 11) hx hb dL_11 rfl ?_
  refine lw_init (pc := 12) hx hb hml hown hts hC hK2 (c_M_init (q := q2) (x := y) H3.size) hP3 hS3 (by have := hS2.1; omega) (by decide) (by decide) lk397 cd_M_init lk163 lk398 rfl nm_M_init (by decide) (by decide) (Nat.le_of_ble_eq_true rfl) hl.1 dL_12 (fun w H4 locs4 _ hP4 hD4 z4 o4 hS4 => ?_)
  rw [wM_gW] at hP4 hD4
  have hP2 : va_P D1 clV (gW 101 a1 (ceV a1 q1) (fun _ _ => 0)) H4 := hP2.kept (fun k q hq => by
    obtain ⟨j1, j2⟩ := gW_lt hq
    refine o4 q.1 ((hP2 k q hq).lt) ?_
    have := hlt1 k j1
    omega)
  have hI2 : injW (aM y w) 24 := fun i j hi hj ee => hD4.1 i j _ _ (gW_at hi rfl) (gW_at hj rfl) ee
  have hge2 : ∀ j, j < 24 → y ≤ aM y w j := fun j hj => by
    rcases one_A (hD4.2 j _ (gW_at hj rfl)) with h | h
    · have h9 : aM y w j = y := h
      omega
    · have h9 : H3.size ≤ aM y w j := h
      omega
  refine lv_astore_n (pc := 15) hx hb dL_15 rfl hl (by decide) rfl (fun ls hl => ?_)
  have hl : lv_has ls 4 [(2, .ref y), (1, .ref x), (0, .ref b)] := hl
  refine lv_iconst (pc := 16) (v := 0) hx hb dL_16 (by decide) ?_
  refine lv_istore_n (pc := 17) hx hb dL_17 rfl hl (by decide) rfl (fun ls hl => ?_)
  have hF : LF s D1 D2 a1 (aM y w) q1 q2 := ⟨hK1, hK2, hI1, hI2, hnew1, fun j hj => by have h1 := hge2 j hj; have h2 := hS2.1; omega, fun i j hi hj ee => by have h1 := hge2 j hj; have h2 := hlt1 i hi; omega⟩
  have hl : lv_has ls 4 [(3, .int (nI 0)), (2, .ref (aM y w 0)), (1, .ref (a1 0)), (0, .ref b)] := by rw [ha1]; exact hl
  exact law_loop C0 hL hF (by decide : 125 ≤ 600000) (by decide : 4453 ≤ 7302250) hStep (L + 1) 0 _ _ (by omega) (by omega) hJ0 H4 locs4 ls ⟨hP2, hP4, hS4⟩ hl
