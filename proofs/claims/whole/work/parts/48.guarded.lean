/-! the reference's guard -/
def FL (x : Int32) (p : Prop) : Prop := (x = 1 ∧ p) ∨ (x = 0 ∧ ¬ p)
theorem FL_iff {x : Int32} {p q : Prop} (h : p ↔ q) (hx : FL x p) : FL x q := by
  rcases hx with ⟨e, w⟩ | ⟨e, w⟩
  · exact Or.inl ⟨e, h.mp w⟩
  · exact Or.inr ⟨e, fun z => w (h.mpr z)⟩
theorem w_gd {h : RS} {r P k : Nat} {n0 : Int32} {Q : Int32 → RS → Prop} (hr : r < 8) (e2 : h 2 r = nI P) (hP : P ≤ 4) (hk : k ≤ 5) (e6 : h 6 r = nI k) (e7 : h 7 r = n0) (f : GRD k n0 (h 23) P → Q 1 h) (g : ¬ GRD k n0 (h 23) P → Q 0 h) : wp_M_guarded h (nI r) Q := by
  have fin : ∀ x6 x7 x8 : Int32, FL x6 (RISE (h 23) P) → FL x7 (SAME (h 23) P) → FL x8 (APART (h 23) P) → (nI k = 0 → isB (1 : Int32) ∧ Q (1 : Int32) h) ∧ (¬ nI k = 0 → (¬ nI k = (1 : Int32) → bp_M_guarded_185 Q h (nI k) n0 (sumL (h 23) P) x7 x8) ∧ (nI k = (1 : Int32) → (¬ x6 = 0 → isB (1 : Int32) ∧ Q (1 : Int32) h) ∧ (x6 = 0 → bp_M_guarded_185 Q h (nI k) n0 (sumL (h 23) P) x7 x8))) := by
    intro x6 x7 x8 h6 h7 h8
    unfold bp_M_guarded_185 bp_M_guarded_195 bp_M_guarded_205 bp_M_guarded_218
    have hc : k = 0 ∨ k = 1 ∨ k = 2 ∨ k = 3 ∨ k = 4 ∨ k = 5 := by omega
    rcases hc with rfl | rfl | rfl | rfl | rfl | rfl
    · exact br_t (by rfl) ⟨isB_1, f (Or.inl rfl)⟩
    · refine br_f (by decide) (br_t2 (by rfl) ?_)
      rcases h6 with ⟨rfl, w⟩ | ⟨rfl, w⟩
      · exact br_f2 ne01 ⟨isB_1, f (Or.inr (Or.inl ⟨rfl, w⟩))⟩
      · refine br_t2 rfl (br_f2 (by decide) (br_f2 (by decide) (br_f2 (by decide) (br_f2 (by decide) ⟨isB_0, g ?_⟩))))
        rintro (w1 | ⟨-, w1⟩ | ⟨w1, -⟩ | ⟨w1, -⟩ | ⟨w1, -⟩ | ⟨w1, -⟩)
        · omega
        · exact w w1
        · omega
        · omega
        · omega
        · omega
    · refine br_f (by decide) (br_f2 (by decide) (br_t2 (by rfl) ?_))
      rcases h7 with ⟨rfl, w⟩ | ⟨rfl, w⟩
      · exact br_f2 ne01 ⟨isB_1, f (Or.inr (Or.inr (Or.inl ⟨rfl, w⟩)))⟩
      · refine br_t2 rfl (br_f2 (by decide) (br_f2 (by decide) (br_f2 (by decide) ⟨isB_0, g ?_⟩)))
        rintro (w1 | ⟨w1, -⟩ | ⟨-, w1⟩ | ⟨w1, -⟩ | ⟨w1, -⟩ | ⟨w1, -⟩)
        · omega
        · omega
        · exact w w1
        · omega
        · omega
        · omega
    · refine br_f (by decide) (br_f2 (by decide) (br_f2 (by decide) (br_t2 (by rfl) ?_)))
      rcases h8 with ⟨rfl, w⟩ | ⟨rfl, w⟩
      · exact br_f2 ne01 ⟨isB_1, f (Or.inr (Or.inr (Or.inr (Or.inl ⟨rfl, w⟩))))⟩
      · refine br_t2 rfl (br_f2 (by decide) (br_f2 (by decide) ⟨isB_0, g ?_⟩))
        rintro (w1 | ⟨w1, -⟩ | ⟨w1, -⟩ | ⟨-, w1⟩ | ⟨w1, -⟩ | ⟨w1, -⟩)
        · omega
        · omega
        · omega
        · exact w w1
        · omega
        · omega
    · refine br_f (by decide) (br_f2 (by decide) (br_f2 (by decide) (br_f2 (by decide) (br_t2 (by rfl) ⟨fun w => ⟨isB_1, f (Or.inr (Or.inr (Or.inr (Or.inr (Or.inl ⟨rfl, Int32.not_lt.mpr w⟩)))))⟩, fun w => br_f2 (by decide) ⟨isB_0, g ?_⟩⟩))))
      rintro (w1 | ⟨w1, -⟩ | ⟨w1, -⟩ | ⟨w1, -⟩ | ⟨-, w1⟩ | ⟨w1, -⟩)
      · omega
      · omega
      · omega
      · omega
      · exact w (Int32.not_lt.mp w1)
      · omega
    · refine br_f (by decide) (br_f2 (by decide) (br_f2 (by decide) (br_f2 (by decide) (br_f2 (by decide) (br_t2 (by rfl) ⟨fun w => ⟨isB_0, g ?_⟩, fun w => ⟨i64_ne0 w, fun w2 => ⟨isB_0, g ?_⟩, fun w2 => ⟨isB_1, f (Or.inr (Or.inr (Or.inr (Or.inr (Or.inr ⟨rfl, w, w2⟩)))))⟩⟩⟩)))))
      · rintro (w1 | ⟨w1, -⟩ | ⟨w1, -⟩ | ⟨w1, -⟩ | ⟨w1, -⟩ | ⟨-, w1, -⟩)
        · omega
        · omega
        · omega
        · omega
        · omega
        · exact w1 w
      · rintro (w1 | ⟨w1, -⟩ | ⟨w1, -⟩ | ⟨w1, -⟩ | ⟨w1, -⟩ | ⟨-, -, w1⟩)
        · omega
        · omega
        · omega
        · omega
        · omega
        · exact w2 w1
  have key : ∀ n i (x6 x7 x8 : Int32), P - i < n → i ≤ P → FL x6 (RISE (h 23) i) → FL x7 (SAME (h 23) i) → FL x8 (APART (h 23) i) → wp_M_guarded_29 Q n h (nI r) (nI k) n0 (sumL (h 23) i) x6 x7 x8 (nI i) := by
    intro n
    induction n with
    | zero => intro i x6 x7 x8 q; omega
    | succ n ih =>
      intro i x6 x7 x8 hn hi h6 h7 h8
      show bp_M_guarded_29 (wp_M_guarded_29 Q n) Q h (nI r) (nI k) n0 (sumL (h 23) i) x6 x7 x8 (nI i)
      unfold bp_M_guarded_29
      refine ⟨r, hr, rfl, c_le e2 rfl (by omega) (by omega) (fun hle => ?_) (fun hlt => ⟨i, by omega, rfl, ?_⟩)⟩
      · have : i = P := by omega
        subst this
        exact fin x6 x7 x8 h6 h7 h8
      have k2 : ∀ n2 j (y6 y7 y8 : Int32), i - j < n2 → j ≤ i → FL y6 (RISE (h 23) i ∧ ∀ b, b < j → b + 1 = i → h 23 b < h 23 i) → FL y7 (SAME (h 23) i ∧ ∀ b, b < j → h 23 b = h 23 i) → FL y8 (APART (h 23) i ∧ ∀ b, b < j → ¬ h 23 b = h 23 i) → wp_M_guarded_56 (wp_M_guarded_29 Q n) Q n2 h (nI r) (nI k) n0 (sumL (h 23) (i + 1)) y6 y7 y8 (nI i) (nI j) := by
        intro n2
        induction n2 with
        | zero => intro j y6 y7 y8 q; omega
        | succ n2 ih2 =>
          intro j y6 y7 y8 hn2 hj g6 g7 g8
          show bp_M_guarded_56 (wp_M_guarded_29 Q n) (wp_M_guarded_56 (wp_M_guarded_29 Q n) Q n2) Q h (nI r) (nI k) n0 (sumL (h 23) (i + 1)) y6 y7 y8 (nI i) (nI j)
          unfold bp_M_guarded_56
          refine c_le rfl rfl (by omega) (by omega) (fun hle => ?_) (fun hlt2 => ?_)
          · have ej : j = i := by omega
            subst ej
            rw [nI_1]
            refine ih (j + 1) y6 y7 y8 (by omega) (by omega) (FL_iff ⟨fun w a b h1 h2 h3 => ?_, fun w => ⟨fun a b h1 h2 h3 => w a b (by omega) h2 h3, fun b h1 h2 => w j b (by omega) h1 h2⟩⟩ g6) (FL_iff ⟨fun w a b h1 h2 => ?_, fun w => ⟨fun a b h1 h2 => w a b (by omega) h2, fun b h1 => w j b (by omega) h1⟩⟩ g7) (FL_iff ⟨fun w a b h1 h2 => ?_, fun w => ⟨fun a b h1 h2 => w a b (by omega) h2, fun b h1 => w j b (by omega) h1⟩⟩ g8)
            · by_cases e : a = j
              · rw [e]; exact w.2 b (by omega) (by omega)
              · exact w.1 a b (by omega) h2 h3
            · by_cases e : a = j
              · rw [e]; exact w.2 b (by omega)
              · exact w.1 a b (by omega) h2
            · by_cases e : a = j
              · rw [e]; exact w.2 b (by omega)
              · exact w.1 a b (by omega) h2
          have s8 : ∀ z6 z7 : Int32, FL z6 (RISE (h 23) i ∧ ∀ b, b < j + 1 → b + 1 = i → h 23 b < h 23 i) → FL z7 (SAME (h 23) i ∧ ∀ b, b < j + 1 → h 23 b = h 23 i) → bp_M_guarded_128 (wp_M_guarded_29 Q n) (wp_M_guarded_56 (wp_M_guarded_29 Q n) Q n2) Q h (nI r) (nI k) n0 (sumL (h 23) (i + 1)) z6 y8 (nI i) (nI j) z7 := by
            intro z6 z7 q6 q7
            unfold bp_M_guarded_128 bp_M_guarded_156
            rw [nI_1]
            rcases g8 with ⟨rfl, w⟩ | ⟨rfl, w⟩
            · refine br_f ne01 ⟨j, by omega, rfl, i, by omega, rfl, fun q => ih2 (j + 1) z6 z7 0 (by omega) (by omega) q6 q7 (Or.inr ⟨rfl, fun w2 => w2.2 j (by omega) q⟩), fun q => ih2 (j + 1) z6 z7 1 (by omega) (by omega) q6 q7 (Or.inl ⟨rfl, w.1, fun b hb => ?_⟩)⟩
              by_cases e : b = j
              · rw [e]; exact q
              · exact w.2 b (by omega)
            · exact br_t rfl (ih2 (j + 1) z6 z7 0 (by omega) (by omega) q6 q7 (Or.inr ⟨rfl, fun w2 => w ⟨w2.1, fun b hb => w2.2 b (by omega)⟩⟩))
          have s7 : ∀ z6 : Int32, FL z6 (RISE (h 23) i ∧ ∀ b, b < j + 1 → b + 1 = i → h 23 b < h 23 i) → bp_M_guarded_99 (wp_M_guarded_29 Q n) (wp_M_guarded_56 (wp_M_guarded_29 Q n) Q n2) Q h (nI r) (nI k) n0 (sumL (h 23) (i + 1)) y7 y8 (nI i) (nI j) z6 := by
            intro z6 q6
            unfold bp_M_guarded_99 bp_M_guarded_127
            rcases g7 with ⟨rfl, w⟩ | ⟨rfl, w⟩
            · refine br_f ne01 ⟨j, by omega, rfl, i, by omega, rfl, fun q => s8 z6 0 q6 (Or.inr ⟨rfl, fun w2 => q (w2.2 j (by omega))⟩), fun q => s8 z6 1 q6 (Or.inl ⟨rfl, w.1, fun b hb => ?_⟩)⟩
              by_cases e : b = j
              · rw [e]; exact q
              · exact w.2 b (by omega)
            · exact br_t rfl (s8 z6 0 q6 (Or.inr ⟨rfl, fun w2 => w ⟨w2.1, fun b hb => w2.2 b (by omega)⟩⟩))
          unfold bp_M_guarded_98 bp_M_guarded_94
          rcases g6 with ⟨rfl, w⟩ | ⟨rfl, w⟩
          · refine br_f ne01 ?_
            have ei : nI i - 1 = nI (i - 1) := pk_sub (b := 1) (by omega)
            refine c_lt (a := j) (b := i - 1) rfl ei (by omega) (by omega) (fun q => s7 1 (Or.inl ⟨rfl, w.1, fun b hb he => ?_⟩)) (fun q => ⟨j, by omega, rfl, i, by omega, rfl, fun q2 => s7 0 (Or.inr ⟨rfl, fun w2 => absurd q2 (Int32.not_le.mpr (w2.2 j (by omega) (by omega)))⟩), fun q2 => s7 1 (Or.inl ⟨rfl, w.1, fun b hb he => ?_⟩)⟩)
            · omega
            · have e : b = j := by omega
              rw [e]; exact Int32.not_le.mp q2
          · exact br_t rfl (s7 0 (Or.inr ⟨rfl, fun w2 => w ⟨w2.1, fun b hb => w2.2 b (by omega)⟩⟩))
      refine ⟨i + 1, k2 (i + 1) 0 x6 x7 x8 (by omega) (by omega) (FL_iff ⟨fun w => ⟨w, fun b hb => absurd hb (by omega)⟩, fun w => w.1⟩ h6) (FL_iff ⟨fun w => ⟨w, fun b hb => absurd hb (by omega)⟩, fun w => w.1⟩ h7) (FL_iff ⟨fun w => ⟨w, fun b hb => absurd hb (by omega)⟩, fun w => w.1⟩ h8)⟩
  unfold wp_M_guarded bp_M_guarded_0
  refine ⟨r, hr, rfl, r, hr, rfl, ?_⟩
  rw [e6, e7]
  exact ⟨P + 1, key (P + 1) 0 1 1 1 (by omega) (by omega) (Or.inl ⟨rfl, fun a b h1 => absurd h1 (by omega)⟩) (Or.inl ⟨rfl, fun a b h1 => absurd h1 (by omega)⟩) (Or.inl ⟨rfl, fun a b h1 => absurd h1 (by omega)⟩)⟩
