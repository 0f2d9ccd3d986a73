theorem lk372 : Cond.methodLink R_V 3 objectInit ∈ tbW := tb1_in (List.mem_of_getElem? (i := 13) rfl) rfl
theorem lk373 : Cond.classLink R_V 9 "JoinVessel$Channel" ∈ tbW := tb1_in (List.mem_of_getElem? (i := 16) rfl) rfl
theorem lk374 : Cond.classLink R_V 19 "JoinVessel$Reaction" ∈ tbW := tb1_in (List.mem_of_getElem? (i := 18) rfl) rfl
theorem lk375 : Cond.instantiable R_Ms 6 ∈ tbW := tb1_in (List.mem_of_getElem? (i := 21) rfl) rfl
theorem lk376 : Cond.classLink R_V 32 R_Ms ∈ tbW := tb1_in (List.mem_of_getElem? (i := 20) rfl) rfl
theorem lk377 : Cond.methodLinkNest R_V 34 y_Ms_init "JoinVessel" ∈ tbW := tb1_in (List.mem_of_getElem? (i := 22) rfl) rfl
theorem lk378 : Cond.instanceMethod y_Ms_init ∈ tbW := tb1_in (List.mem_of_getElem? (i := 23) rfl) rfl
theorem lk379 : Cond.instantiable R_Mt 2 ∈ tbW := tb1_in (List.mem_of_getElem? (i := 53) rfl) rfl
theorem lk380 : Cond.classLink R_V 39 R_Mt ∈ tbW := tb1_in (List.mem_of_getElem? (i := 52) rfl) rfl
theorem lk381 : Cond.methodLinkNest R_V 41 y_Mt_init "JoinVessel" ∈ tbW := tb1_in (List.mem_of_getElem? (i := 54) rfl) rfl
theorem lk382 : Cond.instanceMethod y_Mt_init ∈ tbW := tb1_in (List.mem_of_getElem? (i := 55) rfl) rfl
theorem lk383 : Cond.instantiable R_Ch 3 ∈ tbW := tb1_in (List.mem_of_getElem? (i := 67) rfl) rfl
theorem lk384 : Cond.classLink R_V 9 R_Ch ∈ tbW := tb1_in (List.mem_of_getElem? (i := 16) rfl) rfl
theorem lk385 : Cond.methodLinkNest R_V 53 y_Ch_init "JoinVessel" ∈ tbW := tb1_in (List.mem_of_getElem? (i := 68) rfl) rfl
theorem lk386 : Cond.instanceMethod y_Ch_init ∈ tbW := tb1_in (List.mem_of_getElem? (i := 69) rfl) rfl
theorem lk387 : Cond.instantiable R_Re 12 ∈ tbW := tb1_in (List.mem_of_getElem? (i := 85) rfl) rfl
theorem lk388 : Cond.classLink R_V 19 R_Re ∈ tbW := tb1_in (List.mem_of_getElem? (i := 18) rfl) rfl
theorem lk389 : Cond.methodLinkNest R_V 54 y_Re_init "JoinVessel" ∈ tbW := tb1_in (List.mem_of_getElem? (i := 86) rfl) rfl
theorem lk390 : Cond.instanceMethod y_Re_init ∈ tbW := tb1_in (List.mem_of_getElem? (i := 87) rfl) rfl
def bsV (q : Nat → ClassId) (x x1 x2 x3 x4 x5 : Nat) (m1 t1 : Nat → Nat) (f1 f2 : Nat → Option Nat) : va_W := [(x, .inr (0, [.ref x1, .int 0, .ref x2, .int 0, .int 0, .ref x3, .ref x4, .ref x5, .int 0])), (x1, .inl (q 2, 8, .inr (.inr (.inr (.inr f1))))), (x2, .inl (q 3, 8, .inr (.inr (.inr (.inr f2))))), (x3, .inr (2, [.int 0, .ref (m1 0), .ref (m1 1), .ref (m1 2), .ref (m1 3), .ref (m1 4)])), (m1 0, .inl (q 0, 300, .inl (fun _ => 0))), (m1 1, .inl (q 0, 300, .inl (fun _ => 0))), (m1 2, .inl (q 0, 300, .inl (fun _ => 0))), (m1 3, .inl (q 0, 300, .inl (fun _ => 0))), (m1 4, .inl (q 0, 300, .inl (fun _ => 0))), (x4, .inr (3, [.ref (t1 0), .ref (t1 1)])), (t1 0, .inl (q 0, 4, .inl (fun _ => 0))), (t1 1, .inl (q 0, 4, .inl (fun _ => 0))), (x5, .inl (q 0, 300, .inl (fun _ => 0)))]
def plW (g : Nat → va_W) (k : Nat) : va_W := (List.range k).flatMap g
theorem fm_congr : ∀ (l : List Nat) {g g' : Nat → va_W}, (∀ j ∈ l, g j = g' j) → l.flatMap g = l.flatMap g'
  | [], _, _, _ => rfl
  | a :: l, g, g', h => by
    rw [List.flatMap_cons, List.flatMap_cons, h a List.mem_cons_self, fm_congr l (fun j hj => h j (List.mem_cons_of_mem _ hj))]
theorem plW_push {g : Nat → va_W} {k : Nat} {w : va_W} : plW g k ++ w = plW (va_up g k w) (k + 1) := by
  unfold plW
  rw [List.range_succ, List.flatMap_append]
  congr 1
  · refine fm_congr _ ?_
    intro j hj
    have h1 := List.mem_range.mp hj
    show g j = va_up g k w j
    rw [va_up, if_neg (by omega)]
  · simp [va_up]
theorem plW_len {g : Nat → va_W} {n : Nat} (h : ∀ j, (g j).length = n) : ∀ k, (plW g k).length = n * k := by
  intro k
  unfold plW
  induction k with
  | zero => rfl
  | succ k ih =>
    rw [List.range_succ, List.flatMap_append, List.length_append, ih]
    simp [h, Nat.mul_add]
theorem plW_up {g g' : Nat → va_W} {k : Nat} (h : ∀ j, j < k → g j = g' j) : plW g k = plW g' k := by
  unfold plW
  refine fm_congr _ ?_
  intro j hj
  exact h j (List.mem_range.mp hj)
theorem refs_congr {cA : ClassId} {n : Nat} {f f' : Nat → Option Nat} (h : ∀ j, j < n → f j = f' j) : vp_cell cA (n, .inr (.inr (.inr (.inr f)))) = vp_cell cA (n, .inr (.inr (.inr (.inr f')))) := by
  rw [vp_cell_q, vp_cell_q]
  unfold arrV
  have e : (fun j : Fin n => va_rf (f j.val)) = (fun j : Fin n => va_rf (f' j.val)) := funext (fun j => by rw [h j.val j.isLt])
  rw [e]
section
variable {p : Program} {l : Launch} {e : Env} {R : Room} {s : State} {m : MethodId} {args : Array Value} {below : List Frame} {meth : Method} {c : Code} {D : va_G} {cl : List vw_C} {A : Nat → Prop} {nL : Nat} {Q : State → Prop} {ws : va_W} {ca sl : Nat} {pc : Nat} {lv : List (Nat × Value)} {st : List Value}
theorem n_same (k0 : Nat) {x n : Nat} {cA : ClassId} {f f' : Nat → Option Nat} (he : ws[k0]? = some (x, .inl (cA, n, .inr (.inr (.inr (.inr f)))))) (hf : ∀ j, j < n → f j = f' j) {ws' : va_W} (hws : ws.set k0 (x, .inl (cA, n, .inr (.inr (.inr (.inr f'))))) = ws') (z : N p l e R s m args below meth c D cl A nL Q ws' ca sl pc lv st) : N p l e R s m args below meth c D cl A nL Q ws ca sl pc lv st := by
  subst hws
  intro H locs ls hP hD hS hl
  refine z H locs ls (hP.set hD he ?_ (fun _ _ => rfl)) (hD.set he) hS hl
  have h1 : H[x]? = some (vp_cell cA (n, .inr (.inr (.inr (.inr f))))) := hP k0 _ he
  rw [refs_congr hf] at h1
  exact h1
end
theorem plW_ch {q : Nat → ClassId} {u : Nat → Nat} {v : Nat → Nat → Nat} {k y : Nat} {w : Nat → Nat} : plW (fun j => w_Ch_init q (u j) (v j)) k ++ w_Ch_init q y w = plW (fun j => w_Ch_init q (va_up u k y j) (va_up v k w j)) (k + 1) := by
  rw [plW_push]
  apply plW_up
  intro j hj
  by_cases h : j = k
  · subst h; simp [va_up]
  · simp [va_up, h]
theorem plW_re {q : Nat → ClassId} {u : Nat → Nat} {v : Nat → Nat → Nat} {k y : Nat} {w : Nat → Nat} : plW (fun j => w_Re_init q (u j) (v j)) k ++ w_Re_init q y w = plW (fun j => w_Re_init q (va_up u k y j) (va_up v k w j)) (k + 1) := by
  rw [plW_push]
  apply plW_up
  intro j hj
  by_cases h : j = k
  · subst h; simp [va_up]
  · simp [va_up, h]
theorem fu_up {f : Nat → Option Nat} {u : Nat → Nat} {k y : Nat} (h : ∀ j, j < k → f j = some (u j)) : ∀ j, j < k + 1 → va_up f k (some y) j = some (va_up u k y j) := by
  intro j hj
  by_cases e : j = k
  · subst e; simp [va_up]
  · simp only [va_up, if_neg e]
    exact h j (by omega)
def aV (x x1 x2 x3 x4 x5 : Nat) (m1 t1 u : Nat → Nat) (v : Nat → Nat → Nat) (r : Nat → Nat) (w : Nat → Nat → Nat) : Nat → Nat := fun i => if i < 13 then [x, x1, x2, x3, x4, x5, m1 0, m1 1, m1 2, m1 3, m1 4, t1 0, t1 1].getD i 0 else if i < 21 then u (i - 13) else if i < 29 then v (i - 21) 0 else if i < 37 then r (i - 29) else w ((i - 37) % 8) ((i - 37) / 8)
def plV : List Nat := [0, 1, 2, 3, 6, 7, 8, 9, 10, 4, 11, 12, 5, 13, 21, 14, 22, 15, 23, 16, 24, 17, 25, 18, 26, 19, 27, 20, 28, 29, 37, 45, 53, 61, 69, 77, 85, 93, 30, 38, 46, 54, 62, 70, 78, 86, 94, 31, 39, 47, 55, 63, 71, 79, 87, 95, 32, 40, 48, 56, 64, 72, 80, 88, 96, 33, 41, 49, 57, 65, 73, 81, 89, 97, 34, 42, 50, 58, 66, 74, 82, 90, 98, 35, 43, 51, 59, 67, 75, 83, 91, 99, 36, 44, 52, 60, 68, 76, 84, 92, 100]
def wV (q : Nat → ClassId) (a : Nat → Nat) : va_W := plV.map (fun i => (a i, ceV a q (fun _ => 0) i))
theorem bs_set1 {q : Nat → ClassId} {x x1 x2 x3 x4 x5 : Nat} {m1 t1 : Nat → Nat} {f1 f2 g : Nat → Option Nat} {w1 w2 : va_W} : ((bsV q x x1 x2 x3 x4 x5 m1 t1 f1 f2 ++ w1) ++ w2).set 1 (x1, .inl (q 2, 8, .inr (.inr (.inr (.inr g))))) = bsV q x x1 x2 x3 x4 x5 m1 t1 g f2 ++ (w1 ++ w2) := rfl
theorem bs_set2 {q : Nat → ClassId} {x x1 x2 x3 x4 x5 : Nat} {m1 t1 : Nat → Nat} {f1 f2 g : Nat → Option Nat} {w0 w1 w2 : va_W} : (((bsV q x x1 x2 x3 x4 x5 m1 t1 f1 f2 ++ w0) ++ w1) ++ w2).set 2 (x2, .inl (q 3, 8, .inr (.inr (.inr (.inr g))))) = (bsV q x x1 x2 x3 x4 x5 m1 t1 f1 g ++ w0) ++ (w1 ++ w2) := by
  rw [List.append_assoc (_ ++ w0)]
  rfl
section
variable {p : Program} {l : Launch} {e : Env} {R : Room} {s : State} {m : MethodId} {args : Array Value} {below : List Frame} {meth : Method} {c : Code} {D : va_G} {q : Nat → ClassId} {A : Nat → Prop} {Q : State → Prop} {x x1 x2 x3 x4 x5 : Nat} {m1 t1 : Nat → Nat}
set_option maxHeartbeats 4000000 in
set_option maxRecDepth 100000 in
theorem vi_loop1 (X : CN p R s m args meth c b_V_init 2 R_V D clV (tyV q) A 2 32 100 2256) (hE : ∀ (f : Nat → Option Nat) (u : Nat → Nat) (v : Nat → Nat → Nat), (∀ j, j < 8 → f j = some (u j)) → N p l e R s m args below meth c D clV A 2 Q (bsV q x x1 x2 x3 x4 x5 m1 t1 f (fun _ => none) ++ plW (fun j => w_Ch_init q (u j) (v j)) 8) (12 + 2 * 8) (1832 + 9 * 8) 100 [(1, .int (nI 8)), (0, .ref x)] []) : ∀ (n k : Nat) (f : Nat → Option Nat) (u : Nat → Nat) (v : Nat → Nat → Nat), k + n = 8 → (∀ j, j < k → f j = some (u j)) → N p l e R s m args below meth c D clV A 2 Q (bsV q x x1 x2 x3 x4 x5 m1 t1 f (fun _ => none) ++ plW (fun j => w_Ch_init q (u j) (v j)) k) (12 + 2 * k) (1832 + 9 * k) 75 [(1, .int (nI k)), (0, .ref x)] [] := by
  intro n
  induction n with
  | zero =>
    intro k f u v hk hf
    have e8 : k = 8 := by omega
    subst e8
    refine n_iload_n (pc := 75) X 0 d_V_init_75 rfl rfl ?_
    refine n_bipush (v := (8 : Int32)) (pc := 76) X d_V_init_76 (by decide) ?_
    exact n_icmp_ge (tgt := 100) (pc := 78) X d_V_init_78 (by decide) (fun _ => hE f u v hf) (fun h => absurd (Int32.le_refl _) h)
  | succ n ih =>
    intro k f u v hk hf
    refine n_iload_n (pc := 75) X 0 d_V_init_75 rfl rfl ?_
    refine n_bipush (v := (8 : Int32)) (pc := 76) X d_V_init_76 (by decide) ?_
    refine n_icmp_ge (tgt := 100) (pc := 78) X d_V_init_78 (by decide) (fun h => absurd h (nI_ge (a := k) (b := 8) (by omega) (by decide))) (fun _ => ?_)
    refine n_aload_n (pc := 81) X 1 d_V_init_81 rfl rfl ?_
    refine n_get (pc := 82) X 0 rfl rfl hin_V 0 (by decide) lk3 rfl rfl d_V_init_82 ?_
    refine n_iload_n (pc := 85) X 0 d_V_init_85 rfl rfl ?_
    refine n_new (ws' := fun y => (bsV q x x1 x2 x3 x4 x5 m1 t1 f (fun _ => none) ++ plW (fun j => w_Ch_init q (u j) (v j)) k) ++ [(y, .inr (1, [.int 0, .null, .int 0]))]) (ca' := 12 + 2 * k + 1) (sl' := 1832 + 9 * k + 3) (C := R_Ch) (pc := 86) X (ci := 1) (fs := [.int 0, .null, .int 0]) rfl hin_Ch t_Ch t_Ch_ok lk384 lk383 lk70 (fun j hj => by rcases (show j = 0 ∨ j = 1 ∨ j = 2 by omega) with rfl | rfl | rfl <;> rfl) rfl rfl (by omega) (by omega) (fun _ => rfl) d_V_init_86 (fun y => ?_)
    refine n_dup (pc := 89) X d_V_init_89 rfl ?_
    refine n_callIN (w0 := bsV q x x1 x2 x3 x4 x5 m1 t1 f (fun _ => none) ++ plW (fun j => w_Ch_init q (u j) (v j)) k) (ca' := 12 + 2 * (k + 1)) (sl' := 1832 + 9 * (k + 1)) (pc := 90) X (c_Ch_init (q := q) (x := y)) rfl (by decide) (by decide) lk385 cd_Ch_init lk70 lk386 rfl nm_Ch_init (by omega) (by omega) (by omega) (by omega) (Nat.le_of_ble_eq_true rfl) d_V_init_90 (fun w _ => ?_)
    refine n_aast (ws' := bsV q x x1 x2 x3 x4 x5 m1 t1 (va_up f k (some y)) (fun _ => none) ++ plW (fun j => w_Ch_init q ((va_up u k y) j) ((va_up v k w) j)) (k + 1)) (r := (R_Ch, F_Ch, 3)) (pc := 93) X 1 2 (bsV q x x1 x2 x3 x4 x5 m1 t1 f (fun _ => none) ++ plW (fun j => w_Ch_init q (u j) (v j)) k).length 1 rfl rfl (by rw [List.getElem?_append_right (Nat.le_refl _), Nat.sub_self]; rfl) rfl (by decide) (by omega : k < 8) rfl (by rw [← plW_ch]; exact bs_set1) d_V_init_93 ?_
    refine n_iinc (v := nI (k + 1)) (pc := 94) X 0 d_V_init_94 rfl (ix1 k) (by decide) rfl ?_
    refine n_goto (tgt := 75) (pc := 97) X d_V_init_97 (by decide) ?_
    exact ih (k + 1) (va_up f k (some y)) (va_up u k y) (va_up v k w) (by omega) (fu_up hf)
set_option maxHeartbeats 4000000 in
set_option maxRecDepth 100000 in
theorem vi_loop2 (X : CN p R s m args meth c b_V_init 2 R_V D clV (tyV q) A 2 32 100 2256) {ch : va_W} {f1 : Nat → Option Nat} (hE : ∀ (f : Nat → Option Nat) (u : Nat → Nat) (v : Nat → Nat → Nat), (∀ j, j < 8 → f j = some (u j)) → N p l e R s m args below meth c D clV A 2 Q ((bsV q x x1 x2 x3 x4 x5 m1 t1 f1 f ++ ch) ++ plW (fun j => w_Re_init q (u j) (v j)) 8) (28 + 9 * 8) (1904 + 44 * 8) 127 [(1, .int (nI 8)), (0, .ref x)] []) : ∀ (n k : Nat) (f : Nat → Option Nat) (u : Nat → Nat) (v : Nat → Nat → Nat), k + n = 8 → (∀ j, j < k → f j = some (u j)) → N p l e R s m args below meth c D clV A 2 Q ((bsV q x x1 x2 x3 x4 x5 m1 t1 f1 f ++ ch) ++ plW (fun j => w_Re_init q (u j) (v j)) k) (28 + 9 * k) (1904 + 44 * k) 102 [(1, .int (nI k)), (0, .ref x)] [] := by
  intro n
  induction n with
  | zero =>
    intro k f u v hk hf
    have e8 : k = 8 := by omega
    subst e8
    refine n_iload_n (pc := 102) X 0 d_V_init_102 rfl rfl ?_
    refine n_bipush (v := (8 : Int32)) (pc := 103) X d_V_init_103 (by decide) ?_
    exact n_icmp_ge (tgt := 127) (pc := 105) X d_V_init_105 (by decide) (fun _ => hE f u v hf) (fun h => absurd (Int32.le_refl _) h)
  | succ n ih =>
    intro k f u v hk hf
    refine n_iload_n (pc := 102) X 0 d_V_init_102 rfl rfl ?_
    refine n_bipush (v := (8 : Int32)) (pc := 103) X d_V_init_103 (by decide) ?_
    refine n_icmp_ge (tgt := 127) (pc := 105) X d_V_init_105 (by decide) (fun h => absurd h (nI_ge (a := k) (b := 8) (by omega) (by decide))) (fun _ => ?_)
    refine n_aload_n (pc := 108) X 1 d_V_init_108 rfl rfl ?_
    refine n_get (pc := 109) X 0 rfl rfl hin_V 2 (by decide) lk19 rfl rfl d_V_init_109 ?_
    refine n_iload_n (pc := 112) X 0 d_V_init_112 rfl rfl ?_
    refine n_new (ws' := fun y => ((bsV q x x1 x2 x3 x4 x5 m1 t1 f1 f ++ ch) ++ plW (fun j => w_Re_init q (u j) (v j)) k) ++ [(y, .inr (4, [.int 0, .null, .null, .null, .int 0, .int 0, .int 0, .null, .null, .null, .null, .null]))]) (ca' := 28 + 9 * k + 1) (sl' := 1904 + 44 * k + 12) (C := R_Re) (pc := 113) X (ci := 4) (fs := [.int 0, .null, .null, .null, .int 0, .int 0, .int 0, .null, .null, .null, .null, .null]) rfl hin_Re t_Re t_Re_ok lk388 lk387 lk22 (fun j hj => by rcases (show j = 0 ∨ j = 1 ∨ j = 2 ∨ j = 3 ∨ j = 4 ∨ j = 5 ∨ j = 6 ∨ j = 7 ∨ j = 8 ∨ j = 9 ∨ j = 10 ∨ j = 11 by omega) with rfl | rfl | rfl | rfl | rfl | rfl | rfl | rfl | rfl | rfl | rfl | rfl <;> rfl) rfl rfl (by omega) (by omega) (fun _ => rfl) d_V_init_113 (fun y => ?_)
    refine n_dup (pc := 116) X d_V_init_116 rfl ?_
    refine n_callIN (w0 := (bsV q x x1 x2 x3 x4 x5 m1 t1 f1 f ++ ch) ++ plW (fun j => w_Re_init q (u j) (v j)) k) (ca' := 28 + 9 * (k + 1)) (sl' := 1904 + 44 * (k + 1)) (pc := 117) X (c_Re_init (q := q) (x := y)) rfl (by decide) (by decide) lk389 cd_Re_init lk22 lk390 rfl nm_Re_init (by omega) (by omega) (by omega) (by omega) (Nat.le_of_ble_eq_true rfl) d_V_init_117 (fun w _ => ?_)
    refine n_aast (ws' := (bsV q x x1 x2 x3 x4 x5 m1 t1 f1 (va_up f k (some y)) ++ ch) ++ plW (fun j => w_Re_init q ((va_up u k y) j) ((va_up v k w) j)) (k + 1)) (r := (R_Re, F_Re, 12)) (pc := 120) X 2 3 ((bsV q x x1 x2 x3 x4 x5 m1 t1 f1 f ++ ch) ++ plW (fun j => w_Re_init q (u j) (v j)) k).length 4 rfl rfl (by rw [List.getElem?_append_right (Nat.le_refl _), Nat.sub_self]; rfl) rfl (by decide) (by omega : k < 8) rfl (by rw [← plW_re]; exact bs_set2) d_V_init_120 ?_
    refine n_iinc (v := nI (k + 1)) (pc := 121) X 0 d_V_init_121 rfl (ix1 k) (by decide) rfl ?_
    refine n_goto (tgt := 102) (pc := 124) X d_V_init_124 (by decide) ?_
    exact ih (k + 1) (va_up f k (some y)) (va_up u k y) (va_up v k w) (by omega) (fu_up hf)
end
set_option maxHeartbeats 8000000 in
set_option maxRecDepth 100000 in
theorem vi_list {q : Nat → ClassId} {x x1 x2 x3 x4 x5 : Nat} {m1 t1 u : Nat → Nat} {v : Nat → Nat → Nat} {u2 : Nat → Nat} {v2 : Nat → Nat → Nat} : wV q (aV x x1 x2 x3 x4 x5 m1 t1 u v u2 v2) = (bsV q x x1 x2 x3 x4 x5 m1 t1 (fun j => some (aV x x1 x2 x3 x4 x5 m1 t1 u v u2 v2 (13 + j))) (fun j => some (aV x x1 x2 x3 x4 x5 m1 t1 u v u2 v2 (29 + j))) ++ plW (fun j => w_Ch_init q (u j) (v j)) 8) ++ plW (fun j => w_Re_init q (u2 j) (v2 j)) 8 := rfl
set_option maxHeartbeats 8000000 in
set_option maxRecDepth 100000 in
theorem c_V_init {l : Launch} {D : va_G} {q : Nat → ClassId} {x : Nat} (sz : Nat) : Met l y_V_init [.code y_V_init b_V_init 2 none] { frames := 2, cells := 100, slots := 2256, locals := 32 } (va_Pc [.ref x] (PreN D clV (tyV q) [(x, .inr (0, [.null, .int 0, .null, .int 0, .int 0, .null, .null, .null, .int 0]))] sz)) (va_Qv (fun a : Nat → Nat => a 0 = x) (AtN D clV (x, .inr (0, [.null, .int 0, .null, .int 0, .int 0, .null, .null, .null, .int 0])) sz (wV q)) (va_A [(x, .inr (0, [.null, .int 0, .null, .int 0, .int 0, .null, .null, .null, .int 0]))] sz)) 100 2256 (va_A [(x, .inr (0, [.null, .int 0, .null, .int 0, .int 0, .null, .null, .null, .int 0]))] sz) := by
  refine n_of (by decide +kernel) rfl (by decide) ?_
  intro p e R s m below meth c hsz X
  refine n_aload_n (pc := 0) X 0 d_V_init_0 rfl rfl ?_
  refine n_objInit (pc := 1) X lk372 lk363 lk364 (by decide) (by decide) d_V_init_1 ?_
  refine n_aload_n (pc := 4) X 0 d_V_init_4 rfl rfl ?_
  refine n_bipush (v := (8 : Int32)) (pc := 5) X d_V_init_5 (by decide) ?_
  refine n_newq (ws' := fun x1 => [(x, .inr (0, [.null, .int 0, .null, .int 0, .int 0, .null, .null, .null, .int 0])), (x1, .inl (q 2, 8, .inr (.inr (.inr (.inr (fun _ => none))))))]) (ca' := 1) (sl' := 8) (pc := 7) X 2 rfl lk373 (fun h => h.2.2.1) (by decide) (by decide) (by decide) rfl rfl (by decide) (by decide) (fun _ => rfl) d_V_init_7 (fun x1 => ?_)
  refine n_putF (ws' := [(x, .inr (0, [.ref x1, .int 0, .null, .int 0, .int 0, .null, .null, .null, .int 0])), (x1, .inl (q 2, 8, .inr (.inr (.inr (.inr (fun _ => none))))))]) (pc := 10) X 0 rfl rfl hin_V t_V t_V_ok n_V 0 (by decide) lk3 rfl rfl rfl (t_V_ok 0 (by decide)) rfl rfl (Nat.le_of_ble_eq_true rfl) rfl d_V_init_10 ?_
  refine n_aload_n (pc := 13) X 0 d_V_init_13 rfl rfl ?_
  refine n_iconst (v := (0 : Int32)) (pc := 14) X d_V_init_14 (by decide) ?_
  refine n_put (ws' := [(x, .inr (0, [.ref x1, .int 0, .null, .int 0, .int 0, .null, .null, .null, .int 0])), (x1, .inl (q 2, 8, .inr (.inr (.inr (.inr (fun _ => none))))))]) (pc := 15) X 0 rfl rfl hin_V t_V t_V_ok n_V 1 (by decide) lk2 rfl rfl (t_V_ok 1 (by decide)) rfl rfl (Nat.le_of_ble_eq_true rfl) rfl d_V_init_15 ?_
  refine n_aload_n (pc := 18) X 0 d_V_init_18 rfl rfl ?_
  refine n_bipush (v := (8 : Int32)) (pc := 19) X d_V_init_19 (by decide) ?_
  refine n_newq (ws' := fun x2 => [(x, .inr (0, [.ref x1, .int 0, .null, .int 0, .int 0, .null, .null, .null, .int 0])), (x1, .inl (q 2, 8, .inr (.inr (.inr (.inr (fun _ => none)))))), (x2, .inl (q 3, 8, .inr (.inr (.inr (.inr (fun _ => none))))))]) (ca' := 2) (sl' := 16) (pc := 21) X 3 rfl lk374 (fun h => h.2.2.2) (by decide) (by decide) (by decide) rfl rfl (by decide) (by decide) (fun _ => rfl) d_V_init_21 (fun x2 => ?_)
  refine n_putF (ws' := [(x, .inr (0, [.ref x1, .int 0, .ref x2, .int 0, .int 0, .null, .null, .null, .int 0])), (x1, .inl (q 2, 8, .inr (.inr (.inr (.inr (fun _ => none)))))), (x2, .inl (q 3, 8, .inr (.inr (.inr (.inr (fun _ => none))))))]) (pc := 24) X 0 rfl rfl hin_V t_V t_V_ok n_V 2 (by decide) lk19 rfl rfl rfl (t_V_ok 2 (by decide)) rfl rfl (Nat.le_of_ble_eq_true rfl) rfl d_V_init_24 ?_
  refine n_aload_n (pc := 27) X 0 d_V_init_27 rfl rfl ?_
  refine n_iconst (v := (0 : Int32)) (pc := 28) X d_V_init_28 (by decide) ?_
  refine n_put (ws' := [(x, .inr (0, [.ref x1, .int 0, .ref x2, .int 0, .int 0, .null, .null, .null, .int 0])), (x1, .inl (q 2, 8, .inr (.inr (.inr (.inr (fun _ => none)))))), (x2, .inl (q 3, 8, .inr (.inr (.inr (.inr (fun _ => none))))))]) (pc := 29) X 0 rfl rfl hin_V t_V t_V_ok n_V 3 (by decide) lk5 rfl rfl (t_V_ok 3 (by decide)) rfl rfl (Nat.le_of_ble_eq_true rfl) rfl d_V_init_29 ?_
  refine n_aload_n (pc := 32) X 0 d_V_init_32 rfl rfl ?_
  refine n_iconst (v := (0 : Int32)) (pc := 33) X d_V_init_33 (by decide) ?_
  refine n_put (ws' := [(x, .inr (0, [.ref x1, .int 0, .ref x2, .int 0, .int 0, .null, .null, .null, .int 0])), (x1, .inl (q 2, 8, .inr (.inr (.inr (.inr (fun _ => none)))))), (x2, .inl (q 3, 8, .inr (.inr (.inr (.inr (fun _ => none))))))]) (pc := 34) X 0 rfl rfl hin_V t_V t_V_ok n_V 4 (by decide) lk1 rfl rfl (t_V_ok 4 (by decide)) rfl (by decide) (Nat.le_of_ble_eq_true rfl) rfl d_V_init_34 ?_
  refine n_aload_n (pc := 37) X 0 d_V_init_37 rfl rfl ?_
  refine n_new (ws' := fun x3 => [(x, .inr (0, [.ref x1, .int 0, .ref x2, .int 0, .int 0, .null, .null, .null, .int 0])), (x1, .inl (q 2, 8, .inr (.inr (.inr (.inr (fun _ => none)))))), (x2, .inl (q 3, 8, .inr (.inr (.inr (.inr (fun _ => none))))))] ++ [(x3, .inr (2, [.int 0, .null, .null, .null, .null, .null]))]) (ca' := 3) (sl' := 22) (C := R_Ms) (pc := 38) X (ci := 2) (fs := [.int 0, .null, .null, .null, .null, .null]) rfl hin_Ms t_Ms t_Ms_ok lk376 lk375 lk66 (fun j hj => by rcases (show j = 0 ∨ j = 1 ∨ j = 2 ∨ j = 3 ∨ j = 4 ∨ j = 5 by omega) with rfl | rfl | rfl | rfl | rfl | rfl <;> rfl) rfl rfl (by decide) (by decide) (fun _ => rfl) d_V_init_38 (fun x3 => ?_)
  refine n_dup (pc := 41) X d_V_init_41 rfl ?_
  refine n_callIN (w0 := [(x, .inr (0, [.ref x1, .int 0, .ref x2, .int 0, .int 0, .null, .null, .null, .int 0])), (x1, .inl (q 2, 8, .inr (.inr (.inr (.inr (fun _ => none)))))), (x2, .inl (q 3, 8, .inr (.inr (.inr (.inr (fun _ => none))))))]) (ca' := 8) (sl' := 1522) (pc := 42) X (c_Ms_init (q := q) (x := x3)) rfl (by decide) (by decide) lk377 cd_Ms_init lk66 lk378 rfl nm_Ms_init rfl rfl (by decide) (by decide) (Nat.le_of_ble_eq_true rfl) d_V_init_42 (fun m1 _ => ?_)
  refine n_putF (ws' := [(x, .inr (0, [.ref x1, .int 0, .ref x2, .int 0, .int 0, .ref x3, .null, .null, .int 0])), (x1, .inl (q 2, 8, .inr (.inr (.inr (.inr (fun _ => none)))))), (x2, .inl (q 3, 8, .inr (.inr (.inr (.inr (fun _ => none)))))), (x3, .inr (2, [.int 0, .ref (m1 0), .ref (m1 1), .ref (m1 2), .ref (m1 3), .ref (m1 4)])), (m1 0, .inl (q 0, 300, .inl (fun _ => 0))), (m1 1, .inl (q 0, 300, .inl (fun _ => 0))), (m1 2, .inl (q 0, 300, .inl (fun _ => 0))), (m1 3, .inl (q 0, 300, .inl (fun _ => 0))), (m1 4, .inl (q 0, 300, .inl (fun _ => 0)))]) (pc := 45) X 0 rfl rfl hin_V t_V t_V_ok n_V 5 (by decide) lk64 rfl rfl rfl (t_V_ok 5 (by decide)) rfl rfl (Nat.le_of_ble_eq_true rfl) rfl d_V_init_45 ?_
  refine n_aload_n (pc := 48) X 0 d_V_init_48 rfl rfl ?_
  refine n_new (ws' := fun x4 => [(x, .inr (0, [.ref x1, .int 0, .ref x2, .int 0, .int 0, .ref x3, .null, .null, .int 0])), (x1, .inl (q 2, 8, .inr (.inr (.inr (.inr (fun _ => none)))))), (x2, .inl (q 3, 8, .inr (.inr (.inr (.inr (fun _ => none)))))), (x3, .inr (2, [.int 0, .ref (m1 0), .ref (m1 1), .ref (m1 2), .ref (m1 3), .ref (m1 4)])), (m1 0, .inl (q 0, 300, .inl (fun _ => 0))), (m1 1, .inl (q 0, 300, .inl (fun _ => 0))), (m1 2, .inl (q 0, 300, .inl (fun _ => 0))), (m1 3, .inl (q 0, 300, .inl (fun _ => 0))), (m1 4, .inl (q 0, 300, .inl (fun _ => 0)))] ++ [(x4, .inr (3, [.null, .null]))]) (ca' := 9) (sl' := 1524) (C := R_Mt) (pc := 49) X (ci := 3) (fs := [.null, .null]) rfl hin_Mt t_Mt t_Mt_ok lk380 lk379 lk115 (fun j hj => by rcases (show j = 0 ∨ j = 1 by omega) with rfl | rfl <;> rfl) rfl rfl (by decide) (by decide) (fun _ => rfl) d_V_init_49 (fun x4 => ?_)
  refine n_dup (pc := 52) X d_V_init_52 rfl ?_
  refine n_callIN (w0 := [(x, .inr (0, [.ref x1, .int 0, .ref x2, .int 0, .int 0, .ref x3, .null, .null, .int 0])), (x1, .inl (q 2, 8, .inr (.inr (.inr (.inr (fun _ => none)))))), (x2, .inl (q 3, 8, .inr (.inr (.inr (.inr (fun _ => none)))))), (x3, .inr (2, [.int 0, .ref (m1 0), .ref (m1 1), .ref (m1 2), .ref (m1 3), .ref (m1 4)])), (m1 0, .inl (q 0, 300, .inl (fun _ => 0))), (m1 1, .inl (q 0, 300, .inl (fun _ => 0))), (m1 2, .inl (q 0, 300, .inl (fun _ => 0))), (m1 3, .inl (q 0, 300, .inl (fun _ => 0))), (m1 4, .inl (q 0, 300, .inl (fun _ => 0)))]) (ca' := 11) (sl' := 1532) (pc := 53) X (c_Mt_init (q := q) (x := x4)) rfl (by decide) (by decide) lk381 cd_Mt_init lk115 lk382 rfl nm_Mt_init rfl rfl (by decide) (by decide) (Nat.le_of_ble_eq_true rfl) d_V_init_53 (fun t1 _ => ?_)
  refine n_putF (ws' := [(x, .inr (0, [.ref x1, .int 0, .ref x2, .int 0, .int 0, .ref x3, .ref x4, .null, .int 0])), (x1, .inl (q 2, 8, .inr (.inr (.inr (.inr (fun _ => none)))))), (x2, .inl (q 3, 8, .inr (.inr (.inr (.inr (fun _ => none)))))), (x3, .inr (2, [.int 0, .ref (m1 0), .ref (m1 1), .ref (m1 2), .ref (m1 3), .ref (m1 4)])), (m1 0, .inl (q 0, 300, .inl (fun _ => 0))), (m1 1, .inl (q 0, 300, .inl (fun _ => 0))), (m1 2, .inl (q 0, 300, .inl (fun _ => 0))), (m1 3, .inl (q 0, 300, .inl (fun _ => 0))), (m1 4, .inl (q 0, 300, .inl (fun _ => 0))), (x4, .inr (3, [.ref (t1 0), .ref (t1 1)])), (t1 0, .inl (q 0, 4, .inl (fun _ => 0))), (t1 1, .inl (q 0, 4, .inl (fun _ => 0)))]) (pc := 56) X 0 rfl rfl hin_V t_V t_V_ok n_V 6 (by decide) lk128 rfl rfl rfl (t_V_ok 6 (by decide)) rfl rfl (Nat.le_of_ble_eq_true rfl) rfl d_V_init_56 ?_
  refine n_aload_n (pc := 59) X 0 d_V_init_59 rfl rfl ?_
  refine n_sipush (v := (300 : Int32)) (pc := 60) X d_V_init_60 (by decide) ?_
  refine n_newi (ws' := fun x5 => [(x, .inr (0, [.ref x1, .int 0, .ref x2, .int 0, .int 0, .ref x3, .ref x4, .null, .int 0])), (x1, .inl (q 2, 8, .inr (.inr (.inr (.inr (fun _ => none)))))), (x2, .inl (q 3, 8, .inr (.inr (.inr (.inr (fun _ => none)))))), (x3, .inr (2, [.int 0, .ref (m1 0), .ref (m1 1), .ref (m1 2), .ref (m1 3), .ref (m1 4)])), (m1 0, .inl (q 0, 300, .inl (fun _ => 0))), (m1 1, .inl (q 0, 300, .inl (fun _ => 0))), (m1 2, .inl (q 0, 300, .inl (fun _ => 0))), (m1 3, .inl (q 0, 300, .inl (fun _ => 0))), (m1 4, .inl (q 0, 300, .inl (fun _ => 0))), (x4, .inr (3, [.ref (t1 0), .ref (t1 1)])), (t1 0, .inl (q 0, 4, .inl (fun _ => 0))), (t1 1, .inl (q 0, 4, .inl (fun _ => 0))), (x5, .inl (q 0, 300, .inl (fun _ => 0)))]) (ca' := 12) (sl' := 1832) (pc := 63) X 0 rfl (by decide) (by decide) (by decide) rfl rfl (by decide) (by decide) (fun _ => rfl) d_V_init_63 (fun x5 => ?_)
  refine n_putF (ws' := [(x, .inr (0, [.ref x1, .int 0, .ref x2, .int 0, .int 0, .ref x3, .ref x4, .ref x5, .int 0])), (x1, .inl (q 2, 8, .inr (.inr (.inr (.inr (fun _ => none)))))), (x2, .inl (q 3, 8, .inr (.inr (.inr (.inr (fun _ => none)))))), (x3, .inr (2, [.int 0, .ref (m1 0), .ref (m1 1), .ref (m1 2), .ref (m1 3), .ref (m1 4)])), (m1 0, .inl (q 0, 300, .inl (fun _ => 0))), (m1 1, .inl (q 0, 300, .inl (fun _ => 0))), (m1 2, .inl (q 0, 300, .inl (fun _ => 0))), (m1 3, .inl (q 0, 300, .inl (fun _ => 0))), (m1 4, .inl (q 0, 300, .inl (fun _ => 0))), (x4, .inr (3, [.ref (t1 0), .ref (t1 1)])), (t1 0, .inl (q 0, 4, .inl (fun _ => 0))), (t1 1, .inl (q 0, 4, .inl (fun _ => 0))), (x5, .inl (q 0, 300, .inl (fun _ => 0)))]) (pc := 65) X 0 rfl rfl hin_V t_V t_V_ok n_V 7 (by decide) lk133 rfl rfl rfl (t_V_ok 7 (by decide)) rfl rfl (Nat.le_of_ble_eq_true rfl) rfl d_V_init_65 ?_
  refine n_aload_n (pc := 68) X 0 d_V_init_68 rfl rfl ?_
  refine n_iconst (v := (0 : Int32)) (pc := 69) X d_V_init_69 (by decide) ?_
  refine n_put (ws' := [(x, .inr (0, [.ref x1, .int 0, .ref x2, .int 0, .int 0, .ref x3, .ref x4, .ref x5, .int 0])), (x1, .inl (q 2, 8, .inr (.inr (.inr (.inr (fun _ => none)))))), (x2, .inl (q 3, 8, .inr (.inr (.inr (.inr (fun _ => none)))))), (x3, .inr (2, [.int 0, .ref (m1 0), .ref (m1 1), .ref (m1 2), .ref (m1 3), .ref (m1 4)])), (m1 0, .inl (q 0, 300, .inl (fun _ => 0))), (m1 1, .inl (q 0, 300, .inl (fun _ => 0))), (m1 2, .inl (q 0, 300, .inl (fun _ => 0))), (m1 3, .inl (q 0, 300, .inl (fun _ => 0))), (m1 4, .inl (q 0, 300, .inl (fun _ => 0))), (x4, .inr (3, [.ref (t1 0), .ref (t1 1)])), (t1 0, .inl (q 0, 4, .inl (fun _ => 0))), (t1 1, .inl (q 0, 4, .inl (fun _ => 0))), (x5, .inl (q 0, 300, .inl (fun _ => 0)))]) (pc := 70) X 0 rfl rfl hin_V t_V t_V_ok n_V 8 (by decide) lk132 rfl rfl (t_V_ok 8 (by decide)) rfl rfl (Nat.le_of_ble_eq_true rfl) rfl d_V_init_70 ?_
  refine n_iconst (v := (0 : Int32)) (pc := 73) X d_V_init_73 (by decide) ?_
  refine n_istore_n (pc := 74) X d_V_init_74 rfl (by decide) rfl ?_
  refine vi_loop1 X (fun f1 u v hf1 => ?_) 8 0 (fun _ => none) (fun _ => 0) (fun _ _ => 0) rfl (fun j hj => absurd hj (by omega))
  refine n_iconst (v := (0 : Int32)) (pc := 100) X d_V_init_100 (by decide) ?_
  refine n_istore_n (pc := 101) X d_V_init_101 rfl (by decide) rfl ?_
  refine vi_loop2 X (f1 := f1) (ch := plW (fun j => w_Ch_init q (u j) (v j)) 8) (fun f2 u2 v2 hf2 => ?_) 8 0 (fun _ => none) (fun _ => 0) (fun _ _ => 0) rfl (fun j hj => absurd hj (by omega))
  refine n_same (ws' := (bsV q x x1 x2 x3 x4 x5 m1 t1 (fun j => some (aV x x1 x2 x3 x4 x5 m1 t1 u v u2 v2 (13 + j))) f2 ++ plW (fun j => w_Ch_init q (u j) (v j)) 8) ++ plW (fun j => w_Re_init q (u2 j) (v2 j)) 8) 1 rfl (fun j hj => (hf1 j hj).trans ?_) rfl ?_
  · show some (u j) = some (aV x x1 x2 x3 x4 x5 m1 t1 u v u2 v2 (13 + j))
    unfold aV
    rw [if_neg (by omega), if_pos (by omega), Nat.add_sub_cancel_left]
  refine n_same (ws' := wV q (aV x x1 x2 x3 x4 x5 m1 t1 u v u2 v2)) 2 rfl (fun j hj => (hf2 j hj).trans ?_) vi_list.symm ?_
  · show some (u2 j) = some (aV x x1 x2 x3 x4 x5 m1 t1 u v u2 v2 (29 + j))
    unfold aV
    rw [if_neg (by omega), if_neg (by omega), if_neg (by omega), if_pos (by omega), Nat.add_sub_cancel_left]
  exact n_vret (pc := 127) X (aV x x1 x2 x3 x4 x5 m1 t1 u v u2 v2) rfl rfl (by decide) (by decide) d_V_init_127
