/-! Pure from here on: the invariant between the two raw states, and what the calls owe. -/
theorem up2_at (h : RS) (i k : Nat) (v : Int32) (j l : Nat) : up2 h i k v j l = if j = i ∧ l = k then v else h j l := by
  unfold up2 va_up
  by_cases hj : j = i
  · subst hj
    by_cases hl : l = k
    · simp [upd, hl]
    · simp [upd, hl]
  · simp [hj]
theorem up2_o {h : RS} {i k : Nat} {v : Int32} {j l : Nat} (hn : ¬ (j = i ∧ l = k)) : up2 h i k v j l = h j l := by rw [up2_at, if_neg hn]
theorem up2_s {h : RS} {i k : Nat} {v : Int32} : up2 h i k v i k = v := by rw [up2_at, if_pos ⟨rfl, rfl⟩]
theorem up2_e {h : RS} {i k : Nat} {v : Int32} {j l : Nat} (hj : j = i) (hl : l = k) : up2 h i k v j l = v := by rw [up2_at, if_pos ⟨hj, hl⟩]
theorem up2_f {h : RS} {i k : Nat} {v : Int32} {j : Nat} (hn : j ≠ i) : up2 h i k v j = h j := by funext l; exact up2_o (fun q => hn q.1)
/-- an index, or none -/
theorem ixc (x : Int32) {n : Nat} (hn : n < 2 ^ 31) : (∀ j, j < n → x ≠ nI j) ∨ ∃ j, j < n ∧ x = nI j := by
  by_cases h : ∃ j, j < n ∧ x = nI j
  · exact Or.inr h
  · exact Or.inl (fun j hj e => h ⟨j, hj, e⟩)
theorem ix_lt {n j : Nat} {x : Int32} (hn : n < 2 ^ 31) (hj : j < n) (hx : x = nI j) : ¬ x < 0 ∧ ¬ nI n ≤ x ∧ x < nI n := by
  subst hx
  exact ⟨nI_pos (by omega), nI_ge hj hn, nI_lt hj hn⟩
theorem ix_no {n : Nat} {x : Int32} (hn : n < 2 ^ 31) (h : ∀ j, j < n → x ≠ nI j) : x < 0 ∨ (¬ x < 0 ∧ nI n ≤ x ∧ ¬ x < nI n) := by
  rcases pk_ix x hn with h1 | h1 | ⟨j, hj, e⟩
  · exact Or.inl h1
  · by_cases h0 : x < 0
    · exact Or.inl h0
    · exact Or.inr ⟨h0, h1, fun h2 => absurd h1 (Int32.not_le.mpr h2)⟩
  · exact absurd e (h j hj)
/-- 'x < 0 or n <= x': no index -/
theorem br_no {x N : Int32} {n : Nat} {A B : Prop} (hN : N = nI n) (hn : n < 2 ^ 31) (h : ∀ j, j < n → x ≠ nI j) (a : A) : (x < 0 → A) ∧ (¬ x < 0 → (N ≤ x → A) ∧ (¬ N ≤ x → B)) := by
  subst hN
  refine ⟨fun _ => a, fun h0 => ⟨fun _ => a, fun h1 => ?_⟩⟩
  rcases ix_no hn h with h2 | h2
  · exact absurd h2 h0
  · exact absurd h2.2.1 h1
theorem br_yes {x N : Int32} {n j : Nat} {A B : Prop} (hN : N = nI n) (hn : n < 2 ^ 31) (hj : j < n) (hx : x = nI j) (b : B) : (x < 0 → A) ∧ (¬ x < 0 → (N ≤ x → A) ∧ (¬ N ≤ x → B)) := by
  subst hN
  obtain ⟨h1, h2, -⟩ := ix_lt hn hj hx
  exact ⟨fun h => absurd h h1, fun _ => ⟨fun h => absurd h h2, fun _ => b⟩⟩
theorem br_t2 {c A B : Prop} (h : c) (b : B) : (¬ c → A) ∧ (c → B) := ⟨fun q => absurd h q, fun _ => b⟩
theorem br_f2 {c A B : Prop} (h : ¬ c) (a : A) : (¬ c → A) ∧ (c → B) := ⟨fun _ => a, fun q => absurd q h⟩
theorem ne01 : ¬ (1 : Int32) = 0 := by decide
theorem nI_ne {a b : Nat} (ha : a < 2 ^ 31) (hb : b < 2 ^ 31) (h : a ≠ b) : nI a ≠ nI b := fun e => h ((nI_eq ha hb).mp e)
theorem nI_inj {a b : Nat} (ha : a < 2 ^ 31) (hb : b < 2 ^ 31) (h : nI a = nI b) : a = b := (nI_eq ha hb).mp h
theorem nI_m1 {a : Nat} (ha : a < 2 ^ 31) : ¬ nI a = -1 := fun e => by
  have h1 := nI_pos ha
  rw [e] at h1
  exact h1 (by decide)
/-- comparisons of small numbers -/
theorem c_le {x y : Int32} {a b : Nat} {A B : Prop} (hx : x = nI a) (hy : y = nI b) (ha : a < 2 ^ 31) (hb : b < 2 ^ 31) (f : a ≤ b → A) (g : b < a → B) : (x ≤ y → A) ∧ (¬ x ≤ y → B) := by
  subst hx; subst hy
  exact ⟨fun h => f ((nI_leI ha hb).mp h), fun h => g (Nat.lt_of_not_le (fun q => h ((nI_leI ha hb).mpr q)))⟩
theorem c_lt {x y : Int32} {a b : Nat} {A B : Prop} (hx : x = nI a) (hy : y = nI b) (ha : a < 2 ^ 31) (hb : b < 2 ^ 31) (f : a < b → A) (g : b ≤ a → B) : (x < y → A) ∧ (¬ x < y → B) := by
  subst hx; subst hy
  exact ⟨fun h => f ((nI_ltI ha hb).mp h), fun h => g (Nat.le_of_not_lt (fun q => h ((nI_ltI ha hb).mpr q)))⟩
theorem c_eq {x y : Int32} {a b : Nat} {A B : Prop} (hx : x = nI a) (hy : y = nI b) (ha : a < 2 ^ 31) (hb : b < 2 ^ 31) (f : a = b → A) (g : a ≠ b → B) : (x = y → A) ∧ (¬ x = y → B) := by
  subst hx; subst hy
  exact ⟨fun h => f ((nI_eq ha hb).mp h), fun h => g (fun q => h (by rw [q]))⟩
theorem c_ne {x y : Int32} {a b : Nat} {A B : Prop} (hx : x = nI a) (hy : y = nI b) (ha : a < 2 ^ 31) (hb : b < 2 ^ 31) (f : a = b → A) (g : a ≠ b → B) : (¬ x = y → B) ∧ (x = y → A) := And.symm (c_eq hx hy ha hb f g)
/-! the invariant -/
def pend (hm : RS) (nm c : Nat) : List Nat := (List.range nm).filter (fun m => decide (hm 14 m = nI c) && decide (hm 16 m = 1))
def consd (hm : RS) (nm : Nat) : Nat := ((List.range nm).filter (fun m => decide (hm 16 m = 2))).length
def JP (hv hm : RS) (nc r p : Nat) : Prop := ∃ c t : Nat, c < nc ∧ t ≤ 4 ∧ hv (37 + r) p = nI c ∧ hm 3 (4 * r + p) = nI c ∧ hv (45 + r) p = nI t ∧ hm 4 (4 * r + p) = nI t ∧ hv (53 + r) p = hm 5 (4 * r + p)
def JA (hv hm : RS) (nc np r i : Nat) : Prop := hv (77 + r) i = hm 11 (4 * r + i) ∧ (∃ k : Nat, k ≤ 4 ∧ hm 11 (4 * r + i) = nI k ∧ ((k = 1 ∨ k = 2) → ∃ p : Nat, p < np ∧ hm 12 (4 * r + i) = nI p)) ∧ hv (85 + r) i = hm 12 (4 * r + i) ∧ hv (93 + r) i = hm 13 (4 * r + i) ∧
  ((hv (61 + r) i = 1 ∧ ∃ c : Nat, c < nc ∧ hv (69 + r) i = nI c ∧ hm 9 (4 * r + i) = nI c) ∨ (hv (61 + r) i = 0 ∧ hm 9 (4 * r + i) = -1 ∧ ∃ p : Nat, p < np ∧ hv (69 + r) i = nI p ∧ hm 10 (4 * r + i) = nI p))
def JR (hv hm : RS) (nc r np na : Nat) : Prop := hv (29 + r) 0 = nI np ∧ hm 2 r = nI np ∧ np ≤ 4 ∧ hv (29 + r) 6 = nI na ∧ hm 8 r = nI na ∧ na ≤ 4 ∧ hv (29 + r) 4 = hm 6 r ∧ (∃ g : Nat, g ≤ 5 ∧ hm 6 r = nI g) ∧ hv (29 + r) 5 = hm 7 r ∧ (∀ p, p < np → JP hv hm nc r p) ∧ ∀ i, i < na → JA hv hm nc np r i
def JB (hv hm : RS) (nc nr : Nat) (np na : Nat → Nat) : Prop := hv 0 1 = nI nc ∧ hm 0 0 = nI nc ∧ nc ≤ 8 ∧ hv 0 3 = nI nr ∧ hm 0 2 = nI nr ∧ nr ≤ 8 ∧ (∀ c, c < 8 → hv (13 + c) 0 = hm 1 c ∧ isB (hm 1 c)) ∧ ∀ r, r < 8 → JR hv hm nc r (np r) (na r)
def JPd (hv hm : RS) (nm c : Nat) : Prop := (pend hm nm c).length ≤ 6 ∧ hv (13 + c) 2 = nI (pend hm nm c).length ∧ ∀ k, k < (pend hm nm c).length → hv (21 + c) k = nI ((pend hm nm c).getD k 0)
def JM (hv hm : RS) (nc nr nm nf : Nat) : Prop := hv 3 0 = nI nm ∧ hm 0 16 = nI nm ∧ nm ≤ 300 ∧ hv 0 8 = nI nf ∧ hm 0 22 = nI nf ∧ nf ≤ consd hm nm ∧
  (∀ m, hv 6 m = hm 14 m ∧ hv 7 m = hm 15 m ∧ hv 8 m = hm 16 m ∧ hv 9 m = hm 17 m ∧ hv 10 m = hm 18 m ∧ hv 5 m = hm 19 m) ∧
  (∀ m, m < nm → ∃ c : Nat, c < nc ∧ hm 14 m = nI c) ∧ (∀ k, k < nf → ∃ r : Nat, r < nr ∧ hm 19 k = nI r) ∧ ∀ c, c < 8 → JPd hv hm nm c
def JS (hv hm : RS) (nr nm nf : Nat) (np : Nat → Nat) : Prop := hv 0 4 = hm 0 15 ∧ ((hm 0 15 = 0 ∧ nm = 0 ∧ nf = 0) ∨ (hm 0 15 = 1 ∧ 1 ≤ nr ∧ ∀ r, r < nr → 1 ≤ np r))
def J (hv hm : RS) : Prop := ∃ (nc nr nm nf : Nat) (np na : Nat → Nat), JB hv hm nc nr np na ∧ JM hv hm nc nr nm nf ∧ JS hv hm nr nm nf np
theorem J_zero : J (fun _ _ => 0) (fun _ _ => 0) := by
  refine ⟨0, 0, 0, 0, fun _ => 0, fun _ => 0, ⟨rfl, rfl, by omega, rfl, rfl, by omega, fun c _ => ⟨rfl, isB_0⟩, fun r _ => ⟨rfl, rfl, Nat.zero_le _, rfl, rfl, Nat.zero_le _, rfl, ⟨0, by omega, rfl⟩, rfl, fun p hp => absurd hp (Nat.not_lt_zero _), fun p hp => absurd hp (Nat.not_lt_zero _)⟩⟩, ⟨rfl, rfl, by omega, rfl, rfl, Nat.zero_le _, fun m => ⟨rfl, rfl, rfl, rfl, rfl, rfl⟩, fun m hm => absurd hm (by omega), fun m hm => absurd hm (by omega), fun c _ => ⟨Nat.zero_le _, rfl, fun k hk => absurd hk (Nat.not_lt_zero _)⟩⟩, rfl, Or.inl ⟨rfl, rfl, rfl⟩⟩
/-! what keeps it -/
/-- reaction r's own cells are as they were -/
def sameR (hv hm hv' hm' : RS) (r : Nat) : Prop := (∀ i, 29 ≤ i → (i - 29) % 8 = r → hv' i = hv i) ∧ hm' 2 r = hm 2 r ∧ hm' 6 r = hm 6 r ∧ hm' 7 r = hm 7 r ∧ hm' 8 r = hm 8 r ∧ ∀ i p, 3 ≤ i → i ≤ 13 → (i ≤ 5 ∨ 9 ≤ i) → p < 4 → hm' i (4 * r + p) = hm i (4 * r + p)
theorem sameR_of {hv hm hv' hm' : RS} {r : Nat} (e : ∀ i, 29 ≤ i → hv' i = hv i) (f : ∀ i, 2 ≤ i → i ≤ 13 → hm' i = hm i) : sameR hv hm hv' hm' r := ⟨fun i hi _ => e i hi, by rw [f 2 (by omega) (by omega)], by rw [f 6 (by omega) (by omega)], by rw [f 7 (by omega) (by omega)], by rw [f 8 (by omega) (by omega)], fun i p h1 h2 _ _ => by rw [f i (by omega) h2]⟩
theorem JP_keep {hv hm hv' hm' : RS} {nc r p : Nat} (hr : r < 8) (hp : p < 4) (h : JP hv hm nc r p) (e : sameR hv hm hv' hm' r) : JP hv' hm' nc r p := by
  obtain ⟨c, t, h1, h2, h3, h4, h5, h6, h7⟩ := h
  obtain ⟨e, -, -, -, -, f⟩ := e
  refine ⟨c, t, h1, h2, ?_, ?_, ?_, ?_, ?_⟩
  · rw [e _ (by omega) (by omega)]; exact h3
  · rw [f _ _ (by omega) (by omega) (by omega) hp]; exact h4
  · rw [e _ (by omega) (by omega)]; exact h5
  · rw [f _ _ (by omega) (by omega) (by omega) hp]; exact h6
  · rw [e _ (by omega) (by omega), f _ _ (by omega) (by omega) (by omega) hp]; exact h7
theorem JA_keep {hv hm hv' hm' : RS} {nc np r i : Nat} (hr : r < 8) (hi : i < 4) (h : JA hv hm nc np r i) (e : sameR hv hm hv' hm' r) : JA hv' hm' nc np r i := by
  obtain ⟨e, -, -, -, -, f⟩ := e
  unfold JA at h ⊢
  rw [e (77 + r) (by omega) (by omega), e (85 + r) (by omega) (by omega), e (93 + r) (by omega) (by omega), e (61 + r) (by omega) (by omega), e (69 + r) (by omega) (by omega), f 11 i (by omega) (by omega) (by omega) hi, f 12 i (by omega) (by omega) (by omega) hi, f 13 i (by omega) (by omega) (by omega) hi, f 9 i (by omega) (by omega) (by omega) hi, f 10 i (by omega) (by omega) (by omega) hi]
  exact h
theorem JR_keep {hv hm hv' hm' : RS} {nc np na r : Nat} (hr : r < 8) (h : JR hv hm nc r np na) (e : sameR hv hm hv' hm' r) : JR hv' hm' nc r np na := by
  obtain ⟨h1, h2, h3, h4, h5, h6, h7, h8, h9, h10, h11⟩ := h
  have e0 := e
  obtain ⟨e, f2, f6, f7, f8, -⟩ := e
  refine ⟨?_, ?_, h3, ?_, ?_, h6, ?_, ?_, ?_, fun p hp => JP_keep hr (by omega) (h10 p hp) e0, fun i hi => JA_keep hr (by omega) (h11 i hi) e0⟩
  · rw [e _ (by omega) (by omega)]; exact h1
  · rw [f2]; exact h2
  · rw [e _ (by omega) (by omega)]; exact h4
  · rw [f8]; exact h5
  · rw [e _ (by omega) (by omega), f6]; exact h7
  · rw [f6]; exact h8
  · rw [e _ (by omega) (by omega), f7]; exact h9
theorem JB_keep {hv hm hv' hm' : RS} {nc nr : Nat} {np na : Nat → Nat} (h : JB hv hm nc nr np na) (e1 : hv' 0 1 = hv 0 1) (e2 : hv' 0 3 = hv 0 3) (e3 : ∀ c, c < 8 → hv' (13 + c) 0 = hv (13 + c) 0) (e4 : ∀ i, 29 ≤ i → hv' i = hv i) (f1 : hm' 0 0 = hm 0 0) (f2 : hm' 0 2 = hm 0 2) (f3 : ∀ i, 1 ≤ i → i ≤ 13 → hm' i = hm i) : JB hv' hm' nc nr np na := by
  obtain ⟨h1, h2, h3, h4, h5, h6, h7, h8⟩ := h
  refine ⟨e1.trans h1, f1.trans h2, h3, e2.trans h4, f2.trans h5, h6, fun c hc => ?_, fun r hr => JR_keep hr (h8 r hr) (sameR_of e4 (fun i h1 h2 => f3 i (by omega) h2))⟩
  rw [e3 c hc, f3 1 (by omega) (by omega)]
  exact h7 c hc
theorem JM_keep {hv hm hv' hm' : RS} {nc nr nm nf : Nat} (h : JM hv hm nc nr nm nf) (e1 : hv' 3 0 = hv 3 0) (e2 : hv' 0 8 = hv 0 8) (e3 : ∀ i, 5 ≤ i → i ≤ 10 → hv' i = hv i) (e4 : ∀ c, c < 8 → hv' (13 + c) 2 = hv (13 + c) 2) (e5 : ∀ i, 21 ≤ i → i < 29 → hv' i = hv i) (f1 : hm' 0 16 = hm 0 16) (f2 : hm' 0 22 = hm 0 22) (f3 : ∀ i, 14 ≤ i → i ≤ 19 → hm' i = hm i) : JM hv' hm' nc nr nm nf := by
  obtain ⟨h1, h2, h3, h4, h5, h6, h7, h8, h9, h10⟩ := h
  have g1 : ∀ c, pend hm' nm c = pend hm nm c := fun c => by unfold pend; rw [f3 14 (by omega) (by omega), f3 16 (by omega) (by omega)]
  have g2 : consd hm' nm = consd hm nm := by unfold consd; rw [f3 16 (by omega) (by omega)]
  refine ⟨e1.trans h1, f1.trans h2, h3, e2.trans h4, f2.trans h5, by rw [g2]; exact h6, fun m => ?_, fun m hm1 => ?_, fun k hk => ?_, fun c hc => ?_⟩
  · rw [e3 6 (by omega) (by omega), e3 7 (by omega) (by omega), e3 8 (by omega) (by omega), e3 9 (by omega) (by omega), e3 10 (by omega) (by omega), e3 5 (by omega) (by omega), f3 14 (by omega) (by omega), f3 15 (by omega) (by omega), f3 16 (by omega) (by omega), f3 17 (by omega) (by omega), f3 18 (by omega) (by omega), f3 19 (by omega) (by omega)]
    exact h7 m
  · rw [f3 14 (by omega) (by omega)]; exact h8 m hm1
  · rw [f3 19 (by omega) (by omega)]; exact h9 k hk
  · obtain ⟨p1, p2, p3⟩ := h10 c hc
    unfold JPd
    rw [g1 c, e4 c hc, e5 (21 + c) (by omega) (by omega)]
    exact ⟨p1, p2, p3⟩
/-- scratch may change: the vessel's cells 11, 12, the reference's cells from 20 on -/
def scrV (hv hv' : RS) : Prop := ∀ i, i ≠ 11 → i ≠ 12 → hv' i = hv i
def scrM (hm hm' : RS) : Prop := ∀ i, i < 20 → hm' i = hm i
theorem J_scr {hv hm hv' hm' : RS} (h : J hv hm) (e : scrV hv hv') (f : scrM hm hm') : J hv' hm' := by
  obtain ⟨nc, nr, nm, nf, np, na, hB, hM, hS⟩ := h
  refine ⟨nc, nr, nm, nf, np, na, JB_keep hB ?_ ?_ ?_ ?_ ?_ ?_ ?_, JM_keep hM ?_ ?_ ?_ ?_ ?_ ?_ ?_ ?_, ?_⟩
  · rw [e 0 (by omega) (by omega)]
  · rw [e 0 (by omega) (by omega)]
  · intro c hc; rw [e _ (by omega) (by omega)]
  · intro i hi; exact e i (by omega) (by omega)
  · rw [f 0 (by omega)]
  · rw [f 0 (by omega)]
  · intro i h1 h2; exact f i (by omega)
  · rw [e 3 (by omega) (by omega)]
  · rw [e 0 (by omega) (by omega)]
  · intro i h1 h2; exact e i (by omega) (by omega)
  · intro c hc; rw [e _ (by omega) (by omega)]
  · intro i h1 h2; exact e i (by omega) (by omega)
  · rw [f 0 (by omega)]
  · rw [f 0 (by omega)]
  · intro i h1 h2; exact f i (by omega)
  · unfold JS at hS ⊢
    rw [e 0 (by omega) (by omega), f 0 (by omega)]
    exact hS
