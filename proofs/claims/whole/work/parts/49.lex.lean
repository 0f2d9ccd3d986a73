/-! rows of messages: order, numbers -/
def LEX (P : Nat) (d' d : Nat → Nat) : Prop := ∃ i, i < P ∧ d' i < d i ∧ ∀ j, j < i → d' j = d j
def Wt (cnt : Nat → Nat) (P : Nat) : Nat → Nat
  | 0 => 1
  | k + 1 => cnt (P - (k + 1)) * Wt cnt P k
def En (cnt : Nat → Nat) (P : Nat) (d : Nat → Nat) : Nat → Nat
  | 0 => 0
  | k + 1 => d (P - (k + 1)) * Wt cnt P k + En cnt P d k
def dq (cnt : Nat → Nat) (P q i : Nat) : Nat := (q / Wt cnt P (P - 1 - i)) % cnt i
def prN (cnt : Nat → Nat) : Nat → Nat
  | 0 => 1
  | j + 1 => prN cnt j * cnt j
theorem prN_Wt (cnt : Nat → Nat) (P : Nat) : ∀ k, k ≤ P → prN cnt (P - k) * Wt cnt P k = prN cnt P := by
  intro k
  induction k with
  | zero => intro _; show prN cnt P * 1 = _; rw [Nat.mul_one]
  | succ k ih =>
    intro hk
    have h := ih (by omega)
    have e : P - k = (P - (k + 1)) + 1 := by omega
    rw [e] at h
    show prN cnt (P - (k + 1)) * (cnt (P - (k + 1)) * Wt cnt P k) = _
    rw [← Nat.mul_assoc]
    exact h
theorem prN_P (cnt : Nat → Nat) (P : Nat) : prN cnt P = Wt cnt P P := by
  have h := prN_Wt cnt P P (Nat.le_refl _)
  rw [Nat.sub_self] at h
  rw [← h]
  exact Nat.one_mul _
theorem prN_le {cnt : Nat → Nat} : ∀ j, (∀ i, i < j → cnt i ≤ 6) → prN cnt j ≤ 6 ^ j := by
  intro j
  induction j with
  | zero => intro _; exact Nat.le_refl _
  | succ j ih =>
    intro h
    show prN cnt j * cnt j ≤ 6 ^ j * 6
    exact Nat.mul_le_mul (ih (fun i hi => h i (by omega))) (h j (by omega))
theorem prN_small {cnt : Nat → Nat} {P j : Nat} (hP : P ≤ 4) (hj : j ≤ P) (h : ∀ i, i < P → cnt i ≤ 6) : prN cnt j ≤ 1296 := by
  have h1 := prN_le j (fun i hi => h i (by omega))
  have h2 : 6 ^ j ≤ 6 ^ 4 := Nat.pow_le_pow_right (by omega) (by omega)
  have h3 : 6 ^ 4 = 1296 := by decide
  omega
theorem Wt_pos {cnt : Nat → Nat} {P : Nat} : ∀ k, k ≤ P → 0 < Wt cnt P P → 0 < Wt cnt P k := by
  intro k hk h
  rcases Nat.eq_zero_or_pos (Wt cnt P k) with h0 | h0
  · have h1 := prN_Wt cnt P k hk
    rw [h0, Nat.mul_zero, prN_P] at h1
    omega
  · exact h0
theorem cnt_pos {cnt : Nat → Nat} {P i : Nat} (hi : i < P) (h : 0 < Wt cnt P P) : 0 < cnt i := by
  have h1 := Wt_pos (P - 1 - i + 1) (by omega) h
  have h2 : Wt cnt P (P - 1 - i + 1) = cnt (P - (P - 1 - i + 1)) * Wt cnt P (P - 1 - i) := rfl
  rw [h2, show P - (P - 1 - i + 1) = i by omega] at h1
  rcases Nat.eq_zero_or_pos (cnt i) with h0 | h0
  · rw [h0, Nat.zero_mul] at h1; omega
  · exact h0
theorem En_lt {cnt : Nat → Nat} {P : Nat} {d : Nat → Nat} (hd : ∀ i, i < P → d i < cnt i) : ∀ k, k ≤ P → En cnt P d k < Wt cnt P k := by
  intro k
  induction k with
  | zero => intro _; exact Nat.one_pos
  | succ k ih =>
    intro hk
    have h1 := ih (by omega)
    have h2 := hd (P - (k + 1)) (by omega)
    show d (P - (k + 1)) * Wt cnt P k + En cnt P d k < cnt (P - (k + 1)) * Wt cnt P k
    have h3 : (d (P - (k + 1)) + 1) * Wt cnt P k ≤ cnt (P - (k + 1)) * Wt cnt P k := Nat.mul_le_mul_right _ h2
    rw [Nat.add_mul, Nat.one_mul] at h3
    omega
theorem En_dq {cnt : Nat → Nat} {P q : Nat} : ∀ k, k ≤ P → En cnt P (dq cnt P q) k = q % Wt cnt P k := by
  intro k
  induction k with
  | zero => intro _; show 0 = q % 1; rw [Nat.mod_one]
  | succ k ih =>
    intro hk
    show dq cnt P q (P - (k + 1)) * Wt cnt P k + En cnt P (dq cnt P q) k = q % (cnt (P - (k + 1)) * Wt cnt P k)
    rw [ih (by omega), dq, show P - 1 - (P - (k + 1)) = k by omega, Nat.mul_comm (cnt _), Nat.mod_mul, Nat.mul_comm]
    omega
theorem En_q {cnt : Nat → Nat} {P q : Nat} (hq : q < Wt cnt P P) : En cnt P (dq cnt P q) P = q := by
  rw [En_dq P (Nat.le_refl _), Nat.mod_eq_of_lt hq]
theorem Wt_dvd {cnt : Nat → Nat} {P k : Nat} : ∀ n, ∃ B, Wt cnt P (k + n) = B * Wt cnt P k := by
  intro n
  induction n with
  | zero => exact ⟨1, by rw [Nat.one_mul]; rfl⟩
  | succ n ih =>
    obtain ⟨B, hB⟩ := ih
    refine ⟨cnt (P - (k + n + 1)) * B, ?_⟩
    show cnt (P - (k + n + 1)) * Wt cnt P (k + n) = _
    rw [hB, Nat.mul_assoc]
theorem En_split {cnt : Nat → Nat} {P k : Nat} {d : Nat → Nat} : ∀ n, ∃ A, En cnt P d (k + n) = A * Wt cnt P k + En cnt P d k := by
  intro n
  induction n with
  | zero => exact ⟨0, by rw [Nat.zero_mul, Nat.zero_add]; rfl⟩
  | succ n ih =>
    obtain ⟨A, hA⟩ := ih
    obtain ⟨B, hB⟩ := Wt_dvd (cnt := cnt) (P := P) (k := k) n
    refine ⟨d (P - (k + n + 1)) * B + A, ?_⟩
    show d (P - (k + n + 1)) * Wt cnt P (k + n) + En cnt P d (k + n) = _
    rw [hA, hB, Nat.add_mul, Nat.mul_assoc]
    omega
theorem dq_En {cnt : Nat → Nat} {P i : Nat} {d : Nat → Nat} (hd : ∀ i, i < P → d i < cnt i) (hi : i < P) : dq cnt P (En cnt P d P) i = d i := by
  obtain ⟨A, hA⟩ := En_split (cnt := cnt) (P := P) (d := d) (k := P - 1 - i + 1) i
  rw [show P - 1 - i + 1 + i = P by omega] at hA
  have h1 : En cnt P d (P - 1 - i + 1) = d (P - (P - 1 - i + 1)) * Wt cnt P (P - 1 - i) + En cnt P d (P - 1 - i) := rfl
  have h2 : Wt cnt P (P - 1 - i + 1) = cnt (P - (P - 1 - i + 1)) * Wt cnt P (P - 1 - i) := rfl
  rw [show P - (P - 1 - i + 1) = i by omega] at h1 h2
  have hlt := En_lt hd (P - 1 - i) (by omega)
  unfold dq
  rw [hA, h1, h2]
  have h3 : A * (cnt i * Wt cnt P (P - 1 - i)) + (d i * Wt cnt P (P - 1 - i) + En cnt P d (P - 1 - i)) = En cnt P d (P - 1 - i) + (A * cnt i + d i) * Wt cnt P (P - 1 - i) := by
    rw [Nat.add_mul, Nat.mul_assoc]
    omega
  rw [h3, Nat.add_mul_div_right _ _ (by omega), Nat.div_eq_of_lt hlt, Nat.zero_add, Nat.add_comm, Nat.add_mul_mod_self_right, Nat.mod_eq_of_lt (hd i hi)]
theorem En_same {cnt : Nat → Nat} {P k : Nat} {d d' : Nat → Nat} : ∀ n, k + n ≤ P → (∀ j, j < P - k → d' j = d j) → ∃ A, En cnt P d (k + n) = A + En cnt P d k ∧ En cnt P d' (k + n) = A + En cnt P d' k := by
  intro n
  induction n with
  | zero => intro _ _; exact ⟨0, (Nat.zero_add _).symm, (Nat.zero_add _).symm⟩
  | succ n ih =>
    intro hn h
    obtain ⟨A, h1, h2⟩ := ih (by omega) h
    refine ⟨d (P - (k + n + 1)) * Wt cnt P (k + n) + A, ?_, ?_⟩
    · show d (P - (k + n + 1)) * Wt cnt P (k + n) + En cnt P d (k + n) = _
      rw [h1]; omega
    · show d' (P - (k + n + 1)) * Wt cnt P (k + n) + En cnt P d' (k + n) = _
      rw [h2, h (P - (k + n + 1)) (by omega)]; omega
theorem lex_En {cnt : Nat → Nat} {P : Nat} {d d' : Nat → Nat} (hd' : ∀ i, i < P → d' i < cnt i) (h : LEX P d' d) : En cnt P d' P < En cnt P d P := by
  obtain ⟨i, hi, hlt, hj⟩ := h
  obtain ⟨A, h1, h2⟩ := En_same (cnt := cnt) (P := P) (k := P - 1 - i + 1) (d := d) (d' := d') i (by omega) (fun j hj2 => hj j (by omega))
  rw [show P - 1 - i + 1 + i = P by omega] at h1 h2
  have e1 : En cnt P d (P - 1 - i + 1) = d (P - (P - 1 - i + 1)) * Wt cnt P (P - 1 - i) + En cnt P d (P - 1 - i) := rfl
  have e2 : En cnt P d' (P - 1 - i + 1) = d' (P - (P - 1 - i + 1)) * Wt cnt P (P - 1 - i) + En cnt P d' (P - 1 - i) := rfl
  rw [show P - (P - 1 - i + 1) = i by omega] at e1 e2
  have h3 := En_lt hd' (P - 1 - i) (by omega)
  have h4 : (d' i + 1) * Wt cnt P (P - 1 - i) ≤ d i * Wt cnt P (P - 1 - i) := Nat.mul_le_mul_right _ hlt
  rw [Nat.add_mul, Nat.one_mul] at h4
  omega
/-! what a row is, in the reference's state g -/
def chN (g : RS) (r i : Nat) : Nat := (g 3 (4 * r + i)).toNatClampNeg
def tN (g : RS) (r i : Nat) : Nat := (g 4 (4 * r + i)).toNatClampNeg
def kN (g : RS) (r : Nat) : Nat := (g 6 r).toNatClampNeg
def pl (g : RS) (nm r i : Nat) : List Nat := pend g nm (chN g r i)
def mg (g : RS) (nm r : Nat) (d : Nat → Nat) (i : Nat) : Nat := (pl g nm r i).getD (d i) 0
def vl (g : RS) (nm r : Nat) (d : Nat → Nat) (i : Nat) : Int32 := g 15 (mg g nm r d i)
def OKd (g : RS) (nm r P : Nat) (d : Nat → Nat) : Prop := (∀ i, i < P → d i < (pl g nm r i).length) ∧ (∀ i, i < P → TST (tN g r i) (g 5 (4 * r + i)) (vl g nm r d i)) ∧ (∀ i j, i < P → j < i → ¬ mg g nm r d j = mg g nm r d i) ∧ GRD (kN g r) (g 7 r) (vl g nm r d) P
def FST (g : RS) (nm r P : Nat) (d : Nat → Nat) : Prop := OKd g nm r P d ∧ ∀ d', OKd g nm r P d' → ¬ LEX P d' d
def NON (g : RS) (nm r P : Nat) : Prop := ∀ d, ¬ OKd g nm r P d
theorem sumL_congr {f f' : Nat → Int32} : ∀ P, (∀ i, i < P → f i = f' i) → sumL f P = sumL f' P := by
  intro P
  induction P with
  | zero => intro _; rfl
  | succ P ih =>
    intro h
    show sumL f P + _ = sumL f' P + _
    rw [ih (fun i hi => h i (by omega)), h P (by omega)]
theorem GRD_congr {k P : Nat} {n : Int32} {f f' : Nat → Int32} (h : ∀ i, i < P → f i = f' i) (w : GRD k n f P) : GRD k n f' P := by
  unfold GRD at w ⊢
  rw [← sumL_congr P h]
  rcases w with w | ⟨w1, w⟩ | ⟨w1, w⟩ | ⟨w1, w⟩ | w | w
  · exact Or.inl w
  · exact Or.inr (Or.inl ⟨w1, fun a b h1 h2 h3 => by rw [← h a h1, ← h b (by omega)]; exact w a b h1 h2 h3⟩)
  · exact Or.inr (Or.inr (Or.inl ⟨w1, fun a b h1 h2 => by rw [← h a h1, ← h b (by omega)]; exact w a b h1 h2⟩))
  · exact Or.inr (Or.inr (Or.inr (Or.inl ⟨w1, fun a b h1 h2 => by rw [← h a h1, ← h b (by omega)]; exact w a b h1 h2⟩)))
  · exact Or.inr (Or.inr (Or.inr (Or.inr (Or.inl w))))
  · exact Or.inr (Or.inr (Or.inr (Or.inr (Or.inr w))))
theorem mg_congr {g : RS} {nm r i : Nat} {d d' : Nat → Nat} (h : d i = d' i) : mg g nm r d i = mg g nm r d' i := by unfold mg; rw [h]
theorem vl_congr {g : RS} {nm r i : Nat} {d d' : Nat → Nat} (h : d i = d' i) : vl g nm r d i = vl g nm r d' i := by unfold vl; rw [mg_congr h]
theorem OKd_congr {g : RS} {nm r P : Nat} {d d' : Nat → Nat} (h : ∀ i, i < P → d i = d' i) (w : OKd g nm r P d) : OKd g nm r P d' := by
  obtain ⟨w1, w2, w3, w4⟩ := w
  refine ⟨fun i hi => by rw [← h i hi]; exact w1 i hi, fun i hi => by rw [← vl_congr (h i hi)]; exact w2 i hi, fun i j hi hj => by rw [← mg_congr (h i hi), ← mg_congr (h j (by omega))]; exact w3 i j hi hj, GRD_congr (fun i hi => vl_congr (h i hi)) w4⟩
theorem FST_uniq {g : RS} {nm r P : Nat} {d d' : Nat → Nat} (h : FST g nm r P d) (h' : FST g nm r P d') : ∀ i, i < P → d i = d' i := by
  have key : ∀ n i, i < n → i < P → d i = d' i := by
    intro n
    induction n with
    | zero => intro i hi; omega
    | succ n ih =>
      intro i hi hP
      by_cases e : i = n
      · subst e
        rcases Nat.lt_trichotomy (d i) (d' i) with q | q | q
        · exact absurd ⟨i, hP, q, fun j hj => ih j hj (by omega)⟩ (h'.2 d h.1)
        · exact q
        · exact absurd ⟨i, hP, q, fun j hj => (ih j hj (by omega)).symm⟩ (h.2 d' h'.1)
      · exact ih i (by omega) hP
  exact fun i hi => key (i + 1) i (by omega) hi
