/-! firing: what an action's expression gives -/
def sI (f : Nat → Int32) : Nat → Int32
  | 0 => 0
  | n + 1 => sI f n + f n
theorem sI_L (f : Nat → Int32) : ∀ n, Int64.toInt32 (sumL f n) = sI f n := by
  intro n
  induction n with
  | zero => rfl
  | succ n ih =>
    show Int64.toInt32 (sumL f n + Int32.toInt64 (f n)) = sI f n + f n
    rw [Int64.toInt32_add, ih, Int32.toInt32_toInt64]
def mxV (f : Nat → Int32) : Nat → Int32
  | 0 => f 0
  | n + 1 => if n = 0 then f 0 else (if mxV f n < f n then f n else mxV f n)
def RES (kk p : Nat) (n : Int32) (f : Nat → Int32) (P : Nat) : Int32 := if kk = 1 then f p + n else if kk = 2 then f p * n else if kk = 3 then sI f P + n else if kk = 4 then mxV f P else n
theorem w_great {h : RS} {P : Nat} {Q : Int32 → RS → Prop} (h1 : 1 ≤ P) (hP : P ≤ 4) (q : Q (mxV (h 12) P) h) : wp_V_greatest h (nI P) Q := by
  have key : ∀ n i, P - i < n → 1 ≤ i → i ≤ P → wp_V_greatest_6 Q n h (nI P) (mxV (h 12) i) (nI i) := by
    intro n
    induction n with
    | zero => intro i w; omega
    | succ n ih =>
      intro i hn hi1 hi
      show bp_V_greatest_6 (wp_V_greatest_6 Q n) Q h (nI P) _ (nI i)
      unfold bp_V_greatest_6
      refine c_le rfl rfl (by omega) (by omega) (fun hle => ?_) (fun hlt => ⟨i, by omega, rfl, ?_⟩)
      · rw [show i = P by omega]; exact q
      · rw [nI_1]
        have e : mxV (h 12) (i + 1) = if mxV (h 12) i < h 12 i then h 12 i else mxV (h 12) i := by
          show (if i = 0 then _ else _) = _
          rw [if_neg (by omega)]
        rw [← e]
        exact ih (i + 1) (by omega) (by omega) (by omega)
  exact ⟨0, by omega, rfl, P + 1, key (P + 1) 1 (by omega) (by omega) (by omega)⟩
theorem w_ev {h : RS} {r k P kk p : Nat} {n : Int32} {Q : Int32 → RS → Prop} (hk : k < 4) (h1 : 1 ≤ P) (hP : P ≤ 4) (e0 : h (29 + r) 0 = nI P) (ekk : kk ≤ 4) (e77 : h (77 + r) k = nI kk) (e85 : (kk = 1 ∨ kk = 2) → p < 4 ∧ h (85 + r) k = nI p) (e93 : h (93 + r) k = n) (q : Q (RES kk p n (h 12) P) h) : wp_Re_evaluate h r (nI k) Q := by
  unfold wp_Re_evaluate bp_Re_evaluate_0
  refine ⟨k, hk, rfl, k, hk, rfl, ?_⟩
  rw [e77, e93, e0]
  have hc : kk = 0 ∨ kk = 1 ∨ kk = 2 ∨ kk = 3 ∨ kk = 4 := by omega
  rcases hc with rfl | rfl | rfl | rfl | rfl
  · exact ⟨fun w => absurd w (by decide), fun w => absurd w (by decide), fun w => absurd w (by decide), fun w => absurd w (by decide), fun _ _ _ _ => q⟩
  · obtain ⟨hp, e⟩ := e85 (Or.inl rfl)
    exact ⟨fun _ => ⟨k, hk, rfl, p, hp, e, q⟩, fun w => absurd w (by decide), fun w => absurd w (by decide), fun w => absurd w (by decide), fun w => absurd rfl w⟩
  · obtain ⟨hp, e⟩ := e85 (Or.inr rfl)
    exact ⟨fun w => absurd w (by decide), fun _ => ⟨k, hk, rfl, p, hp, e, q⟩, fun w => absurd w (by decide), fun w => absurd w (by decide), fun _ w => absurd rfl w⟩
  · refine ⟨fun w => absurd w (by decide), fun w => absurd w (by decide), fun _ => w_sum hP ?_, fun w => absurd w (by decide), fun _ _ w => absurd rfl w⟩
    rw [sI_L]
    exact q
  · exact ⟨fun w => absurd w (by decide), fun w => absurd w (by decide), fun w => absurd w (by decide), fun _ => w_great h1 hP q, fun _ _ _ w => absurd rfl w⟩
theorem w_rs {h : RS} {r a P kk p : Nat} {n : Int32} {Q : Int32 → RS → Prop} (hr : r < 8) (ha : a < 32) (h1 : 1 ≤ P) (hP : P ≤ 4) (e2 : h 2 r = nI P) (ekk : kk ≤ 4) (e11 : h 11 a = nI kk) (e12 : (kk = 1 ∨ kk = 2) → p < 4 ∧ h 12 a = nI p) (e13 : h 13 a = n) (q : Q (RES kk p n (h 23) P) h) : wp_M_result h (nI r) (nI a) Q := by
  have key : ∀ m i, P - i < m → i ≤ P → wp_M_result_21 Q m h (nI r) (nI a) n (sI (h 23) i) (mxV (h 23) i) (nI i) := by
    intro m
    induction m with
    | zero => intro i w; omega
    | succ m ih =>
      intro i hn hi
      show bp_M_result_21 (wp_M_result_21 Q m) Q h (nI r) (nI a) n _ _ (nI i)
      unfold bp_M_result_21
      refine ⟨r, hr, rfl, c_le e2 rfl (by omega) (by omega) (fun hle => ?_) (fun hlt => ⟨i, by omega, rfl, i, by omega, rfl, ?_⟩)⟩
      · have ei : i = P := by omega
        subst ei
        refine ⟨a, ha, rfl, ?_⟩
        have hc : kk = 0 ∨ kk = 1 ∨ kk = 2 ∨ kk = 3 ∨ kk = 4 := by omega
        rcases hc with rfl | rfl | rfl | rfl | rfl
        · refine br_f2 (by rw [e11]; decide) ⟨a, ha, rfl, br_f2 (by rw [e11]; decide) ⟨a, ha, rfl, br_t2 (by rw [e11]; rfl) q⟩⟩
        · obtain ⟨hp, e⟩ := e12 (Or.inl rfl)
          exact br_t2 (by rw [e11]; rfl) ⟨a, ha, rfl, p, hp, e, q⟩
        · obtain ⟨hp, e⟩ := e12 (Or.inr rfl)
          exact br_f2 (by rw [e11]; decide) ⟨a, ha, rfl, br_t2 (by rw [e11]; rfl) ⟨a, ha, rfl, p, hp, e, q⟩⟩
        · exact br_f2 (by rw [e11]; decide) ⟨a, ha, rfl, br_f2 (by rw [e11]; decide) ⟨a, ha, rfl, br_f2 (by rw [e11]; decide) ⟨a, ha, rfl, br_t2 (by rw [e11]; rfl) q⟩⟩⟩
        · exact br_f2 (by rw [e11]; decide) ⟨a, ha, rfl, br_f2 (by rw [e11]; decide) ⟨a, ha, rfl, br_f2 (by rw [e11]; decide) ⟨a, ha, rfl, br_f2 (by rw [e11]; decide) q⟩⟩⟩
      · rw [nI_1]
        have h9 := ih (i + 1) (by omega) (by omega)
        have e1 : sI (h 23) (i + 1) = sI (h 23) i + h 23 i := rfl
        rw [e1] at h9
        have e3 : mxV (h 23) (i + 1) = if h 23 i ≤ mxV (h 23) i then mxV (h 23) i else h 23 i := by
          show (if i = 0 then h 23 0 else _) = _
          by_cases ei : i = 0
          · subst ei
            rw [if_pos rfl]
            have : mxV (h 23) 0 = h 23 0 := rfl
            rw [this, if_pos (Int32.le_refl _)]
          · rw [if_neg ei]
            by_cases hl : h 23 i ≤ mxV (h 23) i
            · rw [if_pos hl, if_neg (Int32.not_lt.mpr hl)]
            · rw [if_neg hl, if_pos (Int32.not_le.mp hl)]
        rw [e3] at h9
        refine ⟨fun w => ?_, fun w => ⟨i, by omega, rfl, ?_⟩⟩
        · rw [if_pos w] at h9; exact h9
        · rw [if_neg w] at h9; exact h9
  unfold wp_M_result bp_M_result_0
  refine ⟨a, ha, rfl, 0, by omega, rfl, ?_⟩
  rw [e13]
  exact ⟨P + 1, key (P + 1) 0 (by omega) (by omega)⟩
/-! firing, as a change of the reference's state -/
def cM (g : RS) (L : Nat → Nat) (y : Int32) : Nat → RS
  | 0 => g
  | k + 1 => tkM (cM g L y k) (L k) 2 y
def vk (g : RS) (r P : Nat) (f : Nat → Int32) (k : Nat) : Int32 := RES (g 11 (4 * r + k)).toNatClampNeg (g 12 (4 * r + k)).toNatClampNeg (g 13 (4 * r + k)) f P
def acM (g : RS) (nm r : Nat) (L : Nat → Nat) (V : Nat → Int32) (g0 : RS) : Nat → RS
  | 0 => g0
  | k + 1 => if g 9 (4 * r + k) < 0 then up2 (acM g nm r L V g0 k) 18 (L (g 10 (4 * r + k)).toNatClampNeg) (V k) else mkM (acM g nm r L V g0 k) (nm + SC g r k) (g 9 (4 * r + k)) (V k)
def FIRE (g : RS) (nm nf : Nat) (np na : Nat → Nat) (r : Nat) (d : Nat → Nat) : RS := up2 (up2 (acM g nm r (mg g nm r d) (vk g r (np r) (vl g nm r d)) (cM g (mg g nm r d) (nI nf) (np r)) (na r)) 19 nf (nI r)) 0 22 (nI (nf + 1))
theorem cM_f {g : RS} {L : Nat → Nat} {y : Int32} {i : Nat} (h1 : i ≠ 16) (h2 : i ≠ 17) : ∀ k, cM g L y k i = g i := by
  intro k
  induction k with
  | zero => rfl
  | succ k ih =>
    show tkM (cM g L y k) (L k) 2 y i = g i
    rw [tkM_f h1 h2, ih]
theorem cM_16 {g : RS} {L : Nat → Nat} {y : Int32} {m : Nat} : ∀ k, (∀ j, j < k → ¬ L j = m) → cM g L y k 16 m = g 16 m := by
  intro k
  induction k with
  | zero => intro _; rfl
  | succ k ih =>
    intro h
    show tkM (cM g L y k) (L k) 2 y 16 m = g 16 m
    rw [tkM_16, if_neg (fun q => h k (by omega) q.symm), ih (fun j hj => h j (by omega))]
theorem acM_s (g : RS) (nm r : Nat) (L : Nat → Nat) (V : Nat → Int32) (g0 : RS) (k : Nat) : acM g nm r L V g0 (k + 1) = if g 9 (4 * r + k) < 0 then up2 (acM g nm r L V g0 k) 18 (L (g 10 (4 * r + k)).toNatClampNeg) (V k) else mkM (acM g nm r L V g0 k) (nm + SC g r k) (g 9 (4 * r + k)) (V k) := rfl
theorem acM_f {g g0 : RS} {nm r : Nat} {L : Nat → Nat} {V : Nat → Int32} {i : Nat} (h0 : i ≠ 0) (h1 : i ≠ 14) (h2 : i ≠ 15) (h3 : i ≠ 16) (h4 : i ≠ 17) (h5 : i ≠ 18) : ∀ k, acM g nm r L V g0 k i = g0 i := by
  intro k
  induction k with
  | zero => rfl
  | succ k ih =>
    rw [acM_s]
    by_cases h : g 9 (4 * r + k) < 0
    · rw [if_pos h, up2_f h5, ih]
    · rw [if_neg h, mkM_f h1 h2 h3 h4 h0, ih]
theorem pend_nodup (g : RS) (n c : Nat) : (pend g n c).Nodup := List.Pairwise.filter _ List.nodup_range
theorem len_ne {m : Nat} : ∀ l : List Nat, l.Nodup → m ∈ l → (l.filter (ne_ m)).length + 1 = l.length := by
  intro l
  induction l with
  | nil => intro _ h; exact absurd h List.not_mem_nil
  | cons a l ih =>
    intro hn hm
    have h1 := List.nodup_cons.mp hn
    by_cases e : a = m
    · subst e
      have h2 : ne_ a a = false := decide_eq_false (fun q => q rfl)
      have h3 : l.filter (ne_ a) = l := by
        rw [List.filter_eq_self]
        intro x hx
        exact decide_eq_true (fun q => h1.1 (q ▸ hx))
      rw [List.filter_cons, h2]
      simp [h3]
    · have h2 : ne_ m a = true := decide_eq_true e
      have h3 : m ∈ l := by
        rcases List.mem_cons.mp hm with q | q
        · exact absurd q.symm e
        · exact q
      rw [List.filter_cons, h2]
      have := ih h1.2 h3
      simp only [if_true, List.length_cons]
      omega
theorem ST_mono (g : RS) (r c : Nat) {i j : Nat} (h : i ≤ j) : ST g r c i ≤ ST g r c j := by
  induction j with
  | zero => rw [Nat.le_zero.mp h]; exact Nat.le_refl _
  | succ j ih =>
    by_cases e : i = j + 1
    · rw [e]; exact Nat.le_refl _
    · have h1 := ih (by omega)
      have h2 : ST g r c (j + 1) = ST g r c j + (if g 9 (4 * r + j) = nI c then 1 else 0) := rfl
      omega
theorem SC_mono (g : RS) (r : Nat) {i j : Nat} (h : i ≤ j) : SC g r i ≤ SC g r j := by
  induction j with
  | zero => rw [Nat.le_zero.mp h]; exact Nat.le_refl _
  | succ j ih =>
    by_cases e : i = j + 1
    · rw [e]; exact Nat.le_refl _
    · have h1 := ih (by omega)
      have h2 : SC g r (j + 1) = SC g r j + (if g 9 (4 * r + j) < 0 then 0 else 1) := rfl
      omega
theorem pend_mk {g : RS} {nm c c' : Nat} {v : Int32} (hc : c < 8) (hc' : c' < 8) : pend (mkM g nm (nI c) v) (nm + 1) c' = pend g nm c' ++ (if c' = c then [nm] else []) := by
  have q14 : ∀ m, mkM g nm (nI c) v 14 m = if m = nm then nI c else g 14 m := fun m => by
    unfold mkM
    rw [up2_o (by omega), up2_o (by omega), up2_o (by omega), up2_o (by omega), up2_at]
    simp
  have q16 : ∀ m, mkM g nm (nI c) v 16 m = if m = nm then 1 else g 16 m := fun m => by
    unfold mkM
    rw [up2_o (by omega), up2_o (by omega), up2_at, up2_o (by omega), up2_o (by omega)]
    simp
  rw [pend_succ, q14, if_pos rfl, q16, if_pos rfl]
  congr 1
  · exact pend_congr (fun m hm => by rw [q14, if_neg (by omega)]) (fun m hm => by rw [q16, if_neg (by omega)])
  · by_cases e : c' = c
    · rw [e, if_pos rfl, if_pos ⟨rfl, rfl⟩]
    · rw [if_neg e, if_neg (fun q => e (nI_inj (by omega) (by omega) q.1.symm))]
theorem consd_mk {g : RS} {nm : Nat} {cx v : Int32} : consd (mkM g nm cx v) (nm + 1) = consd g nm := by
  have q16 : ∀ m, mkM g nm cx v 16 m = if m = nm then 1 else g 16 m := fun m => by
    unfold mkM
    rw [up2_o (by omega), up2_o (by omega), up2_at, up2_o (by omega), up2_o (by omega)]
    simp
  rw [consd_succ, q16, if_pos rfl, if_neg (by decide), Nat.add_zero]
  exact consd_congr (fun m hm => by rw [q16, if_neg (by omega)])
/-- an answer is written -/
theorem JM_an {hv g : RS} {nc nr nm nf m : Nat} {v : Int32} (h : JM hv g nc nr nm nf) : JM (up2 hv 10 m v) (up2 g 18 m v) nc nr nm nf := by
  obtain ⟨h1, h2, h3, h4, h5, h6, h7, h8, h9, h10⟩ := h
  have ep : ∀ c, pend (up2 g 18 m v) nm c = pend g nm c := fun c => pend_congr (fun x _ => by rw [up2_o (by omega)]) (fun x _ => by rw [up2_o (by omega)])
  have ec : consd (up2 g 18 m v) nm = consd g nm := consd_congr (fun x _ => by rw [up2_o (by omega)])
  refine ⟨?_, ?_, h3, ?_, ?_, by rw [ec]; exact h6, fun x => ?_, fun x hx => ?_, fun k hk => ?_, fun c hc => ?_⟩
  · rw [up2_o (by omega)]; exact h1
  · rw [up2_o (by omega)]; exact h2
  · rw [up2_o (by omega)]; exact h4
  · rw [up2_o (by omega)]; exact h5
  · obtain ⟨a1, a2, a3, a4, a5, a6⟩ := h7 x
    refine ⟨?_, ?_, ?_, ?_, ?_, ?_⟩
    · rw [up2_o (by omega), up2_o (by omega)]; exact a1
    · rw [up2_o (by omega), up2_o (by omega)]; exact a2
    · rw [up2_o (by omega), up2_o (by omega)]; exact a3
    · rw [up2_o (by omega), up2_o (by omega)]; exact a4
    · by_cases e : x = m
      · rw [up2_e rfl e, up2_e rfl e]
      · rw [up2_o (by omega), up2_o (by omega)]; exact a5
    · rw [up2_o (by omega), up2_o (by omega)]; exact a6
  · rw [up2_o (by omega)]; exact h8 x hx
  · rw [up2_o (by omega)]; exact h9 k hk
  · obtain ⟨p1, p2, p3⟩ := h10 c hc
    unfold JPd
    rw [ep c, up2_o (by omega), up2_f (by omega)]
    exact ⟨p1, p2, p3⟩
theorem JB_an {hv g : RS} {nc nr m : Nat} {np na : Nat → Nat} {v : Int32} (h : JB hv g nc nr np na) : JB (up2 hv 10 m v) (up2 g 18 m v) nc nr np na := by
  refine JB_keep h (up2_o (by omega)) (up2_o (by omega)) (fun c hc => up2_o (by omega)) (fun i hi => up2_f (by omega)) (up2_o (by omega)) (up2_o (by omega)) (fun i h1 h2 => up2_f (by omega))
/-- the firing is booked -/
theorem JM_fi {hv g : RS} {nc nr nm nf r : Nat} (h : JM hv g nc nr nm nf) (hr : r < nr) (hc : nf + 1 ≤ consd g nm) : JM (up2 (up2 hv 5 nf (nI r)) 0 8 (nI (nf + 1))) (up2 (up2 g 19 nf (nI r)) 0 22 (nI (nf + 1))) nc nr nm (nf + 1) := by
  obtain ⟨h1, h2, h3, h4, h5, h6, h7, h8, h9, h10⟩ := h
  have ep : ∀ c, pend (up2 (up2 g 19 nf (nI r)) 0 22 (nI (nf + 1))) nm c = pend g nm c := fun c => pend_congr (fun x _ => by rw [up2_o (by omega), up2_o (by omega)]) (fun x _ => by rw [up2_o (by omega), up2_o (by omega)])
  have ec : consd (up2 (up2 g 19 nf (nI r)) 0 22 (nI (nf + 1))) nm = consd g nm := consd_congr (fun x _ => by rw [up2_o (by omega), up2_o (by omega)])
  refine ⟨?_, ?_, h3, up2_s, up2_s, by rw [ec]; exact hc, fun x => ?_, fun x hx => ?_, fun k hk => ?_, fun c hc => ?_⟩
  · rw [up2_o (by omega), up2_o (by omega)]; exact h1
  · rw [up2_o (by omega), up2_o (by omega)]; exact h2
  · obtain ⟨a1, a2, a3, a4, a5, a6⟩ := h7 x
    refine ⟨?_, ?_, ?_, ?_, ?_, ?_⟩
    · rw [up2_o (by omega), up2_o (by omega), up2_o (by omega), up2_o (by omega)]; exact a1
    · rw [up2_o (by omega), up2_o (by omega), up2_o (by omega), up2_o (by omega)]; exact a2
    · rw [up2_o (by omega), up2_o (by omega), up2_o (by omega), up2_o (by omega)]; exact a3
    · rw [up2_o (by omega), up2_o (by omega), up2_o (by omega), up2_o (by omega)]; exact a4
    · rw [up2_o (by omega), up2_o (by omega), up2_o (by omega), up2_o (by omega)]; exact a5
    · by_cases e : x = nf
      · rw [up2_o (by omega), up2_e rfl e, up2_o (by omega), up2_e rfl e]
      · rw [up2_o (by omega), up2_o (by omega), up2_o (by omega), up2_o (by omega)]; exact a6
  · rw [up2_o (by omega), up2_o (by omega)]; exact h8 x hx
  · by_cases e : k = nf
    · exact ⟨r, hr, by rw [up2_o (by omega), up2_e rfl e]⟩
    · rw [up2_o (by omega), up2_o (by omega)]; exact h9 k (by omega)
  · obtain ⟨p1, p2, p3⟩ := h10 c hc
    unfold JPd
    rw [ep c, up2_o (by omega), up2_o (by omega), up2_f (by omega), up2_f (by omega)]
    exact ⟨p1, p2, p3⟩
theorem JB_fi {hv g : RS} {nc nr nf : Nat} {np na : Nat → Nat} {x y : Int32} (h : JB hv g nc nr np na) : JB (up2 (up2 hv 5 nf x) 0 8 y) (up2 (up2 g 19 nf x) 0 22 y) nc nr np na := by
  refine JB_keep h ?_ ?_ (fun c hc => ?_) (fun i hi => ?_) ?_ ?_ (fun i h1 h2 => ?_)
  · rw [up2_o (by omega), up2_o (by omega)]
  · rw [up2_o (by omega), up2_o (by omega)]
  · rw [up2_o (by omega), up2_o (by omega)]
  · rw [up2_f (by omega), up2_f (by omega)]
  · rw [up2_o (by omega), up2_o (by omega)]
  · rw [up2_o (by omega), up2_o (by omega)]
  · rw [up2_f (by omega), up2_f (by omega)]
