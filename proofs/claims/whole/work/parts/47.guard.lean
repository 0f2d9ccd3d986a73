/-! tests and guards -/
def TST (t : Nat) (n v : Int32) : Prop := t = 0 ∨ (t = 1 ∧ v = n) ∨ (t = 2 ∧ v < n) ∨ (t = 3 ∧ n ≤ v) ∨ (t = 4 ∧ ¬ v &&& n = 0)
theorem w_pt {h : RS} {r i t : Nat} {n v : Int32} {Q : Int32 → RS → Prop} (hi : i < 4) (ht : t ≤ 4) (e45 : h (45 + r) i = nI t) (e53 : h (53 + r) i = n) (f : TST t n v → Q 1 h) (g : ¬ TST t n v → Q 0 h) : wp_Re_passesTest h r (nI i) v Q := by
  unfold wp_Re_passesTest bp_Re_passesTest_0
  refine ⟨i, hi, rfl, i, hi, rfl, ?_⟩
  rw [e45, e53]
  have hc : t = 0 ∨ t = 1 ∨ t = 2 ∨ t = 3 ∨ t = 4 := by omega
  rcases hc with rfl | rfl | rfl | rfl | rfl
  · exact ⟨fun q => absurd q (by decide), fun q => absurd q (by decide), fun q => absurd q (by decide), fun q => absurd q (by decide), fun _ _ _ _ => ⟨isB_1, f (Or.inl rfl)⟩⟩
  · refine ⟨fun _ => ⟨fun q => ⟨isB_0, g ?_⟩, fun q => ⟨isB_1, f (Or.inr (Or.inl ⟨rfl, q⟩))⟩⟩, fun q => absurd q (by decide), fun q => absurd q (by decide), fun q => absurd q (by decide), fun q => absurd rfl q⟩
    rintro (w | ⟨-, w⟩ | ⟨w, -⟩ | ⟨w, -⟩ | ⟨w, -⟩)
    · omega
    · exact q w
    · omega
    · omega
    · omega
  · refine ⟨fun q => absurd q (by decide), fun _ => ⟨fun q => ⟨isB_0, g ?_⟩, fun q => ⟨isB_1, f (Or.inr (Or.inr (Or.inl ⟨rfl, Int32.not_le.mp q⟩)))⟩⟩, fun q => absurd q (by decide), fun q => absurd q (by decide), fun _ q => absurd rfl q⟩
    rintro (w | ⟨w, -⟩ | ⟨-, w⟩ | ⟨w, -⟩ | ⟨w, -⟩)
    · omega
    · omega
    · exact absurd q (Int32.not_le.mpr w)
    · omega
    · omega
  · refine ⟨fun q => absurd q (by decide), fun q => absurd q (by decide), fun _ => ⟨fun q => ⟨isB_0, g ?_⟩, fun q => ⟨isB_1, f (Or.inr (Or.inr (Or.inr (Or.inl ⟨rfl, Int32.not_lt.mp q⟩))))⟩⟩, fun q => absurd q (by decide), fun _ _ q => absurd rfl q⟩
    rintro (w | ⟨w, -⟩ | ⟨w, -⟩ | ⟨-, w⟩ | ⟨w, -⟩)
    · omega
    · omega
    · omega
    · exact absurd q (Int32.not_lt.mpr w)
    · omega
  · refine ⟨fun q => absurd q (by decide), fun q => absurd q (by decide), fun q => absurd q (by decide), fun _ => ⟨fun q => ⟨isB_0, g ?_⟩, fun q => ⟨isB_1, f (Or.inr (Or.inr (Or.inr (Or.inr ⟨rfl, q⟩))))⟩⟩, fun _ _ _ q => absurd rfl q⟩
    rintro (w | ⟨w, -⟩ | ⟨w, -⟩ | ⟨w, -⟩ | ⟨-, w⟩)
    · omega
    · omega
    · omega
    · omega
    · exact w q
theorem w_ps {h : RS} {a t : Nat} {n v : Int32} {Q : Int32 → RS → Prop} (ha : a < 32) (ht : t ≤ 4) (e4 : h 4 a = nI t) (e5 : h 5 a = n) (f : TST t n v → Q 1 h) (g : ¬ TST t n v → Q 0 h) : wp_M_passes h (nI a) v Q := by
  unfold wp_M_passes bp_M_passes_0 bp_M_passes_31 bp_M_passes_42 bp_M_passes_53
  refine ⟨a, ha, rfl, a, ha, rfl, ?_⟩
  rw [e4, e5]
  have hc : t = 0 ∨ t = 1 ∨ t = 2 ∨ t = 3 ∨ t = 4 := by omega
  rcases hc with rfl | rfl | rfl | rfl | rfl
  · exact ⟨fun _ => ⟨isB_1, f (Or.inl rfl)⟩, fun q => absurd rfl q⟩
  · refine br_f (by decide) (br_t2 (by rfl) ⟨fun q => ⟨isB_1, f (Or.inr (Or.inl ⟨rfl, q⟩))⟩, fun q => br_f2 (by decide) (br_f2 (by decide) (br_f2 (by decide) ⟨isB_0, g ?_⟩))⟩)
    rintro (w | ⟨-, w⟩ | ⟨w, -⟩ | ⟨w, -⟩ | ⟨w, -⟩)
    · omega
    · exact q w
    · omega
    · omega
    · omega
  · refine br_f (by decide) (br_f2 (by decide) (br_t2 (by rfl) ⟨fun q => ⟨isB_1, f (Or.inr (Or.inr (Or.inl ⟨rfl, q⟩)))⟩, fun q => br_f2 (by decide) (br_f2 (by decide) ⟨isB_0, g ?_⟩)⟩))
    rintro (w | ⟨w, -⟩ | ⟨-, w⟩ | ⟨w, -⟩ | ⟨w, -⟩)
    · omega
    · omega
    · exact q w
    · omega
    · omega
  · refine br_f (by decide) (br_f2 (by decide) (br_f2 (by decide) (br_t2 (by rfl) ⟨fun q => ⟨isB_1, f (Or.inr (Or.inr (Or.inr (Or.inl ⟨rfl, q⟩))))⟩, fun q => br_f2 (by decide) ⟨isB_0, g ?_⟩⟩)))
    rintro (w | ⟨w, -⟩ | ⟨w, -⟩ | ⟨-, w⟩ | ⟨w, -⟩)
    · omega
    · omega
    · omega
    · exact q w
    · omega
  · refine br_f (by decide) (br_f2 (by decide) (br_f2 (by decide) (br_f2 (by decide) (br_t2 (by rfl) ⟨fun q => ⟨isB_0, g ?_⟩, fun q => ⟨isB_1, f (Or.inr (Or.inr (Or.inr (Or.inr ⟨rfl, q⟩))))⟩⟩))))
    rintro (w | ⟨w, -⟩ | ⟨w, -⟩ | ⟨w, -⟩ | ⟨-, w⟩)
    · omega
    · omega
    · omega
    · omega
    · exact w q
/-! guards -/
def sumL (f : Nat → Int32) : Nat → Int64
  | 0 => 0
  | n + 1 => sumL f n + Int32.toInt64 (f n)
def RISE (f : Nat → Int32) (n : Nat) : Prop := ∀ a b, a < n → b < a → b + 1 = a → f b < f a
def SAME (f : Nat → Int32) (n : Nat) : Prop := ∀ a b, a < n → b < a → f b = f a
def APART (f : Nat → Int32) (n : Nat) : Prop := ∀ a b, a < n → b < a → ¬ f b = f a
def DIVS (s : Int64) (n : Int32) : Prop := lg_cmp (s - s / (Int32.toInt64 n) * (Int32.toInt64 n)) 0 = 0
def GRD (k : Nat) (n : Int32) (f : Nat → Int32) (P : Nat) : Prop := k = 0 ∨ (k = 1 ∧ RISE f P) ∨ (k = 2 ∧ SAME f P) ∨ (k = 3 ∧ APART f P) ∨ (k = 4 ∧ ¬ 0 < lg_cmp (sumL f P) (Int32.toInt64 n)) ∨ (k = 5 ∧ ¬ n = 0 ∧ DIVS (sumL f P) n)
theorem w_rise {h : RS} {P : Nat} {Q : Int32 → RS → Prop} (hP : P ≤ 4) (f : RISE (h 12) P → Q 1 h) (g : ¬ RISE (h 12) P → Q 0 h) : wp_V_allRise h (nI P) Q := by
  have key : ∀ n i, P - i < n → 1 ≤ i → (i ≤ P ∨ i = 1) → RISE (h 12) i → wp_V_allRise_2 Q n h (nI P) (nI i) := by
    intro n
    induction n with
    | zero => intro i q; omega
    | succ n ih =>
      intro i hn h1 hi hr
      show bp_V_allRise_2 (wp_V_allRise_2 Q n) Q h (nI P) (nI i)
      unfold bp_V_allRise_2
      refine c_le rfl rfl (by omega) (by omega) (fun hle => ⟨isB_1, f (fun a b h2 h3 h4 => hr a b (by omega) h3 h4)⟩) (fun hlt => ⟨i - 1, by omega, ?_, i, by omega, rfl, fun q => ?_, fun q => ⟨isB_0, g (fun w => q (w i (i - 1) hlt (by omega) (by omega)))⟩⟩)
      · have e : nI i - nI 1 = nI (i - 1) := pk_sub h1
        exact e
      · rw [nI_1]
        refine ih (i + 1) (by omega) (by omega) (Or.inl (by omega)) (fun a b h2 h3 h4 => ?_)
        by_cases e : a = i
        · have e2 : b = i - 1 := by omega
          rw [e, e2]; exact q
        · exact hr a b (by omega) h3 h4
  exact ⟨P + 1, key (P + 1) 1 (by omega) (by omega) (Or.inr rfl) (fun a b h2 h3 h4 => absurd h2 (by omega))⟩
theorem same_0 {f : Nat → Int32} {n : Nat} : SAME f n ↔ ∀ a, a < n → f a = f 0 := by
  constructor
  · intro h a ha
    by_cases e : a = 0
    · rw [e]
    · exact (h a 0 ha (by omega)).symm
  · intro h a b h1 h2
    rw [h a h1, h b (by omega)]
theorem w_same {h : RS} {P : Nat} {Q : Int32 → RS → Prop} (hP : P ≤ 4) (f : SAME (h 12) P → Q 1 h) (g : ¬ SAME (h 12) P → Q 0 h) : wp_V_allEqual h (nI P) Q := by
  have key : ∀ n i, P - i < n → 1 ≤ i → (i ≤ P ∨ i = 1) → (∀ a, a < i → h 12 a = h 12 0) → wp_V_allEqual_2 Q n h (nI P) (nI i) := by
    intro n
    induction n with
    | zero => intro i q; omega
    | succ n ih =>
      intro i hn h1 hi hr
      show bp_V_allEqual_2 (wp_V_allEqual_2 Q n) Q h (nI P) (nI i)
      unfold bp_V_allEqual_2
      refine c_le rfl rfl (by omega) (by omega) (fun hle => ⟨isB_1, f (same_0.mpr (fun a ha => hr a (by omega)))⟩) (fun hlt => ⟨i, by omega, rfl, 0, by omega, rfl, fun q => ?_, fun q => ⟨isB_0, g (fun w => q (same_0.mp w i hlt))⟩⟩)
      rw [nI_1]
      refine ih (i + 1) (by omega) (by omega) (Or.inl (by omega)) (fun a ha => ?_)
      by_cases e : a = i
      · rw [e]; exact q
      · exact hr a (by omega)
  exact ⟨P + 1, key (P + 1) 1 (by omega) (by omega) (Or.inr rfl) (fun a ha => by rw [show a = 0 by omega])⟩
theorem w_apart {h : RS} {P : Nat} {Q : Int32 → RS → Prop} (hP : P ≤ 4) (f : APART (h 12) P → Q 1 h) (g : ¬ APART (h 12) P → Q 0 h) : wp_V_allDiffer h (nI P) Q := by
  have key : ∀ n i, P - i < n → 1 ≤ i → (i ≤ P ∨ i = 1) → APART (h 12) i → wp_V_allDiffer_2 Q n h (nI P) (nI i) := by
    intro n
    induction n with
    | zero => intro i q; omega
    | succ n ih =>
      intro i hn h1 hi hr
      show bp_V_allDiffer_2 (wp_V_allDiffer_2 Q n) Q h (nI P) (nI i)
      unfold bp_V_allDiffer_2
      refine c_le rfl rfl (by omega) (by omega) (fun hle => ⟨isB_1, f (fun a b h2 h3 => hr a b (by omega) h3)⟩) (fun hlt => ?_)
      have k2 : ∀ n2 j, i - j < n2 → j ≤ i → (∀ b, b < j → ¬ h 12 b = h 12 i) → wp_V_allDiffer_9 (wp_V_allDiffer_2 Q n) Q n2 h (nI P) (nI i) (nI j) := by
        intro n2
        induction n2 with
        | zero => intro j q; omega
        | succ n2 ih2 =>
          intro j hn2 hj hr2
          show bp_V_allDiffer_9 (wp_V_allDiffer_2 Q n) (wp_V_allDiffer_9 (wp_V_allDiffer_2 Q n) Q n2) Q h (nI P) (nI i) (nI j)
          unfold bp_V_allDiffer_9
          refine c_le rfl rfl (by omega) (by omega) (fun hle => ?_) (fun hlt2 => ⟨i, by omega, rfl, j, by omega, rfl, fun q => ?_, fun q => ⟨isB_0, g (fun w => w i j hlt hlt2 q.symm)⟩⟩)
          · rw [nI_1]
            refine ih (i + 1) (by omega) (by omega) (Or.inl (by omega)) (fun a b h2 h3 => ?_)
            by_cases e : a = i
            · rw [e]; exact hr2 b (by omega)
            · exact hr a b (by omega) h3
          · rw [nI_1]
            refine ih2 (j + 1) (by omega) (by omega) (fun b hb => ?_)
            by_cases e : b = j
            · rw [e]; exact fun w => q w.symm
            · exact hr2 b (by omega)
      exact ⟨i + 1, k2 (i + 1) 0 (by omega) (by omega) (fun b hb => absurd hb (by omega))⟩
  exact ⟨P + 1, key (P + 1) 1 (by omega) (by omega) (Or.inr rfl) (fun a b h2 h3 => absurd h2 (by omega))⟩
theorem w_sum {h : RS} {P : Nat} {Q : Int64 → RS → Prop} (hP : P ≤ 4) (f : Q (sumL (h 12) P) h) : wp_V_sum h (nI P) Q := by
  have key : ∀ n i, P - i < n → i ≤ P → wp_V_sum_5 Q n h (nI P) (sumL (h 12) i) (nI i) := by
    intro n
    induction n with
    | zero => intro i q; omega
    | succ n ih =>
      intro i hn hi
      show bp_V_sum_5 (wp_V_sum_5 Q n) Q h (nI P) (sumL (h 12) i) (nI i)
      unfold bp_V_sum_5
      refine c_le rfl rfl (by omega) (by omega) (fun hle => ?_) (fun hlt => ⟨i, by omega, rfl, ?_⟩)
      · rw [show i = P by omega]; exact f
      · rw [nI_1]
        exact ih (i + 1) (by omega) (by omega)
  exact ⟨P + 1, key (P + 1) 0 (by omega) (by omega)⟩
theorem i64_ne0 {n : Int32} (h : ¬ n = 0) : ¬ Int32.toInt64 n = 0 := by
  intro e
  apply h
  apply Int32.toInt_inj.mp
  have h1 := congrArg Int64.toInt e
  rw [Int32.toInt_toInt64] at h1
  exact h1
theorem w_grd {h : RS} {r P k : Nat} {n : Int32} {Q : Int32 → RS → Prop} (hP : P ≤ 4) (hk : k ≤ 5) (e0 : h (29 + r) 0 = nI P) (e4 : h (29 + r) 4 = nI k) (e5 : h (29 + r) 5 = n) (f : GRD k n (h 12) P → Q 1 h) (g : ¬ GRD k n (h 12) P → Q 0 h) : wp_Re_guardHolds h r Q := by
  unfold wp_Re_guardHolds bp_Re_guardHolds_0
  rw [e0, e4, e5]
  have hc : k = 0 ∨ k = 1 ∨ k = 2 ∨ k = 3 ∨ k = 4 ∨ k = 5 := by omega
  rcases hc with rfl | rfl | rfl | rfl | rfl | rfl
  · exact ⟨fun q => absurd q (by decide), fun q => absurd q (by decide), fun q => absurd q (by decide), fun q => absurd q (by decide), fun q => absurd q (by decide), fun _ _ _ _ _ => ⟨isB_1, f (Or.inl rfl)⟩⟩
  · refine ⟨fun _ => w_rise hP (fun w => ⟨isB_1, f (Or.inr (Or.inl ⟨rfl, w⟩))⟩) (fun w => ⟨isB_0, g ?_⟩), fun q => absurd q (by decide), fun q => absurd q (by decide), fun q => absurd q (by decide), fun q => absurd q (by decide), fun q => absurd rfl q⟩
    rintro (w1 | ⟨-, w1⟩ | ⟨w1, -⟩ | ⟨w1, -⟩ | ⟨w1, -⟩ | ⟨w1, -⟩)
    · omega
    · exact w w1
    · omega
    · omega
    · omega
    · omega
  · refine ⟨fun q => absurd q (by decide), fun _ => w_same hP (fun w => ⟨isB_1, f (Or.inr (Or.inr (Or.inl ⟨rfl, w⟩)))⟩) (fun w => ⟨isB_0, g ?_⟩), fun q => absurd q (by decide), fun q => absurd q (by decide), fun q => absurd q (by decide), fun _ q => absurd rfl q⟩
    rintro (w1 | ⟨w1, -⟩ | ⟨-, w1⟩ | ⟨w1, -⟩ | ⟨w1, -⟩ | ⟨w1, -⟩)
    · omega
    · omega
    · exact w w1
    · omega
    · omega
    · omega
  · refine ⟨fun q => absurd q (by decide), fun q => absurd q (by decide), fun _ => w_apart hP (fun w => ⟨isB_1, f (Or.inr (Or.inr (Or.inr (Or.inl ⟨rfl, w⟩))))⟩) (fun w => ⟨isB_0, g ?_⟩), fun q => absurd q (by decide), fun q => absurd q (by decide), fun _ _ q => absurd rfl q⟩
    rintro (w1 | ⟨w1, -⟩ | ⟨w1, -⟩ | ⟨-, w1⟩ | ⟨w1, -⟩ | ⟨w1, -⟩)
    · omega
    · omega
    · omega
    · exact w w1
    · omega
    · omega
  · refine ⟨fun q => absurd q (by decide), fun q => absurd q (by decide), fun q => absurd q (by decide), fun _ => w_sum hP ⟨fun w => ⟨isB_0, g ?_⟩, fun w => ⟨isB_1, f (Or.inr (Or.inr (Or.inr (Or.inr (Or.inl ⟨rfl, by rw [e5] at w; exact w⟩)))))⟩⟩, fun q => absurd q (by decide), fun _ _ _ q => absurd rfl q⟩
    rw [e5] at w
    rintro (w1 | ⟨w1, -⟩ | ⟨w1, -⟩ | ⟨w1, -⟩ | ⟨-, w1⟩ | ⟨w1, -⟩)
    · omega
    · omega
    · omega
    · omega
    · exact w1 w
    · omega
  · refine ⟨fun q => absurd q (by decide), fun q => absurd q (by decide), fun q => absurd q (by decide), fun q => absurd q (by decide), fun _ => ⟨fun w => ⟨isB_0, g ?_⟩, fun w => w_sum hP ?_⟩, fun _ _ _ _ q => absurd rfl q⟩
    · rintro (w1 | ⟨w1, -⟩ | ⟨w1, -⟩ | ⟨w1, -⟩ | ⟨w1, -⟩ | ⟨-, w1, -⟩)
      · omega
      · omega
      · omega
      · omega
      · omega
      · exact w1 w
    · rw [e5]
      refine ⟨i64_ne0 w, fun w2 => ⟨isB_0, g ?_⟩, fun w2 => ⟨isB_1, f (Or.inr (Or.inr (Or.inr (Or.inr (Or.inr ⟨rfl, w, w2⟩)))))⟩⟩
      rintro (w1 | ⟨w1, -⟩ | ⟨w1, -⟩ | ⟨w1, -⟩ | ⟨w1, -⟩ | ⟨-, -, w1⟩)
      · omega
      · omega
      · omega
      · omega
      · omega
      · exact w2 w1
