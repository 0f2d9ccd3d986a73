/-! enabled, next, taken -/
def EN (g : RS) (nm nc : Nat) (np na : Nat → Nat) (r : Nat) : Prop := ¬ g 0 15 = 0 ∧ ROOM g nm nc r (np r) (na r) ∧ ∃ d, FST g nm r (np r) d
def GM (g : RS) (nm : Nat) (h : RS) : Prop := scrM g h ∧ GA g nm h
theorem GM_3 {g h0 h : RS} {nm : Nat} (h1 : GM g nm h0) (h2 : scr3 h0 h) : GM g nm h := by
  refine ⟨fun i hi => by rw [h2 i (by omega) (by omega)]; exact h1.1 i hi, ?_, ?_⟩
  · intro c hc
    rw [h2 21 (by omega) (by omega)]
    exact h1.2.1 c hc
  · intro c k hc hk
    rw [h2 20 (by omega) (by omega)]
    exact h1.2.2 c k hc hk
theorem NON_ex {g : RS} {nm r P : Nat} (h : NON g nm r P) : ¬ ∃ d, FST g nm r P d := fun ⟨d, hd⟩ => h d hd.1
theorem w_fe {hv g h : RS} {nc nr nm nf r : Nat} {np na : Nat → Nat} {Q : Int32 → RS → Prop} (hB : JB hv g nc nr np na) (hM : JM hv g nc nr nm nf) (s1 : hv 0 4 = g 0 15) (hr : r < 8) (hs : scrV hv h) (f : ∀ (h' : RS) (d : Nat → Nat), scrV hv h' → EN g nm nc np na r → FST g nm r (np r) d → (∀ i, i < np r → h' 11 i = nI (mg g nm r d i) ∧ h' 12 i = vl g nm r d i) → Q 1 h') (g0 : ∀ h', scrV hv h' → ¬ EN g nm nc np na r → Q 0 h') : wp_V_findEnabledMatch h (nI r) Q := by
  unfold wp_V_findEnabledMatch bp_V_findEnabledMatch_0
  have e4 : h 0 4 = g 0 15 := by rw [hs 0 (by omega) (by omega)]; exact s1
  by_cases z : g 0 15 = 0
  · exact br_t (by rw [e4]; exact z) ⟨isB_0, g0 h hs (fun w => w.1 z)⟩
  refine br_f (by rw [e4]; exact z) ⟨r, hr, rfl, ?_⟩
  refine w_roomV hB hM hr hs (fun hR => ⟨fun q => absurd q ne01, fun _ => ⟨r, hr, rfl, ?_⟩⟩) (fun hR => ⟨fun _ => ⟨isB_0, g0 h hs (fun w => hR w.2.1)⟩, fun q => absurd rfl q⟩)
  exact w_fm0 hr (SRv_of hB hM hr) hs (fun h' d hs' hF hrow => ⟨fun q => absurd q ne01, fun _ => ⟨isB_1, f h' d hs' ⟨z, hR, d, hF⟩ hF hrow⟩⟩) (fun h' hs' hN => ⟨fun _ => ⟨isB_0, g0 h' hs' (fun w => NON_ex hN w.2.2)⟩, fun q => absurd rfl q⟩)
/-- the set of enabled reactions, as a number -/
def SET (p : Nat → Prop) (a k : Nat) : Prop := a < 2 ^ k ∧ ∀ r, r < k → (a / 2 ^ r % 2 = 1 ↔ p r)
theorem SET_0 {p : Nat → Prop} : SET p 0 0 := ⟨by decide, fun r hr => absurd hr (by omega)⟩
theorem SET_no {p : Nat → Prop} {a k : Nat} (h : SET p a k) (hn : ¬ p k) : SET p a (k + 1) := by
  refine ⟨by have := h.1; rw [Nat.pow_succ]; omega, fun r hr => ?_⟩
  by_cases e : r = k
  · subst e
    rw [Nat.div_eq_of_lt h.1]
    exact ⟨fun q => absurd q (by decide), fun q => absurd q hn⟩
  · exact h.2 r (by omega)
theorem SET_yes {p : Nat → Prop} {a k : Nat} (h : SET p a k) (hn : p k) : SET p (a + 2 ^ k) (k + 1) := by
  refine ⟨by have := h.1; rw [Nat.pow_succ]; omega, fun r hr => ?_⟩
  by_cases e : r = k
  · subst e
    rw [Nat.add_div_right _ (Nat.two_pow_pos r), Nat.div_eq_of_lt h.1]
    exact ⟨fun _ => hn, fun _ => rfl⟩
  · have e2 : 2 ^ k = 2 ^ (k - r - 1) * 2 * 2 ^ r := by rw [← Nat.pow_succ, ← Nat.pow_add]; congr 1; omega
    rw [e2, Nat.add_mul_div_right _ _ (Nat.two_pow_pos r), Nat.add_mul_mod_self_right]
    exact h.2 r (by omega)
theorem SET_uniq {p : Nat → Prop} {a b k : Nat} (h : SET p a k) (h' : SET p b k) : a = b := by
  apply Nat.eq_of_testBit_eq
  intro i
  by_cases hi : i < k
  · rw [Nat.testBit_eq_decide_div_mod_eq, Nat.testBit_eq_decide_div_mod_eq]
    have h1 : (a / 2 ^ i % 2 = 1) ↔ (b / 2 ^ i % 2 = 1) := (h.2 i hi).trans (h'.2 i hi).symm
    exact decide_eq_decide.mpr h1
  · rw [Nat.testBit_lt_two_pow (Nat.lt_of_lt_of_le h.1 (Nat.pow_le_pow_right (by omega) (by omega))), Nat.testBit_lt_two_pow (Nat.lt_of_lt_of_le h'.1 (Nat.pow_le_pow_right (by omega) (by omega)))]
theorem or_bit : ∀ k, k < 8 → ∀ a, a < 2 ^ k → nI a ||| ((1 : Int32) <<< (nI k &&& 31)) = nI (a + 2 ^ k) := by decide +kernel
theorem add_bit : ∀ k, k < 8 → ∀ a, a < 2 ^ k → nI a + ((1 : Int32) <<< (nI k &&& 31)) = nI (a + 2 ^ k) := by decide +kernel
theorem get_bit : ∀ k, k < 8 → ∀ a, a < 256 → ((nI a >>> (nI k &&& 31)) &&& (1 : Int32) = 1 ↔ a / 2 ^ k % 2 = 1) := by decide +kernel
theorem w_enV {hv g h : RS} {nc nr nm nf : Nat} {np na : Nat → Nat} {Q : Int32 → RS → Prop} (hB : JB hv g nc nr np na) (hM : JM hv g nc nr nm nf) (s1 : hv 0 4 = g 0 15) (hs : scrV hv h) (f : ∀ (h' : RS) (a : Nat), scrV hv h' → SET (EN g nm nc np na) a nr → Q (nI a) h') : wp_V_enabled h Q := by
  have b4 := hB.2.2.2.1
  have b6 := hB.2.2.2.2.2.1
  have key : ∀ n i a (h1 : RS), nr - i < n → i ≤ nr → scrV hv h1 → SET (EN g nm nc np na) a i → wp_V_enabled_4 Q n h1 (nI a) (nI i) := by
    intro n
    induction n with
    | zero => intro i a h1 w; omega
    | succ n ih =>
      intro i a h1 hn hi hs1 hS
      show bp_V_enabled_4 (wp_V_enabled_4 Q n) Q h1 (nI a) (nI i)
      unfold bp_V_enabled_4
      refine c_le (by rw [hs1 0 (by omega) (by omega)]; exact b4) rfl (by omega) (by omega) (fun hle => ?_) (fun hlt => ?_)
      · have ei : i = nr := by omega
        subst ei
        exact f h1 a hs1 hS
      refine w_fe hB hM s1 (by omega) hs1 (fun h' d hs' hE _ _ => ⟨fun q => absurd q ne01, fun _ => ?_⟩) (fun h' hs' hE => ⟨fun _ => ?_, fun q => absurd rfl q⟩)
      · rw [or_bit i (by omega) a hS.1, nI_1]
        exact ih (i + 1) _ h' (by omega) (by omega) hs' (SET_yes hS hE)
      · rw [nI_1]
        exact ih (i + 1) a h' (by omega) (by omega) hs' (SET_no hS hE)
  exact ⟨nr + 1, key (nr + 1) 0 0 h (by omega) (by omega) hs SET_0⟩
theorem SET_none {p : Nat → Prop} (h : ∀ r, ¬ p r) : ∀ k, SET p 0 k := by
  intro k
  induction k with
  | zero => exact SET_0
  | succ k ih => exact SET_no ih (h k)
theorem w_enM {hv g : RS} {nc nr nm nf : Nat} {np na : Nat → Nat} {Q : Int32 → RS → Prop} (hB : JB hv g nc nr np na) (hM : JM hv g nc nr nm nf) {h : RS} (hs : scrM g h) (f : ∀ (h' : RS) (a : Nat), GM g nm h' → SET (EN g nm nc np na) a nr → Q (nI a) h') : wp_M_enabled h Q := by
  have b3 := hB.2.2.1
  have b5 := hB.2.2.2.2.1
  have b6 := hB.2.2.2.2.2.1
  unfold wp_M_enabled bp_M_enabled_0
  have hM2 : JM hv h nc nr nm nf := JM_keep hM rfl rfl (fun _ _ _ => rfl) (fun _ _ => rfl) (fun _ _ _ => rfl) (by rw [hs 0 (by omega)]) (by rw [hs 0 (by omega)]) (fun i _ _ => hs i (by omega))
  have ep : ∀ c, pend h nm c = pend g nm c := fun c => pend_congr (fun m _ => by rw [hs 14 (by omega)]) (fun m _ => by rw [hs 16 (by omega)])
  refine JM_ga b3 hM2 (fun h5 hs5 hg5 => ?_)
  have hG : GM g nm h5 := by
    refine ⟨fun i hi => by rw [hs5 i hi, hs i hi], fun c hc => by rw [hg5.1 c hc, ep], fun c k hc hk => ?_⟩
    have h9 := hg5.2 c k hc (by rw [ep]; exact hk)
    rw [ep] at h9
    exact h9
  have key : ∀ n i a (h1 : RS), nr - i < n → i ≤ nr → GM g nm h1 → SET (EN g nm nc np na) a i → wp_M_enabled_8 Q n h1 (nI a) (nI i) := by
    intro n
    induction n with
    | zero => intro i a h1 w; omega
    | succ n ih =>
      intro i a h1 hn hi hG1 hS
      show bp_M_enabled_8 (wp_M_enabled_8 Q n) Q h1 (nI a) (nI i)
      unfold bp_M_enabled_8 bp_M_enabled_47
      have e15 : h1 0 15 = g 0 15 := by rw [hG1.1 0 (by omega)]
      refine c_le (by rw [hG1.1 0 (by omega)]; exact b5) rfl (by omega) (by omega) (fun hle => ?_) (fun hlt => ?_)
      · have ei : i = nr := by omega
        subst ei
        exact f h1 a hG1 hS
      by_cases z : g 0 15 = 0
      · refine br_t (by rw [e15]; exact z) ?_
        have h0 : SET (EN g nm nc np na) 0 i := SET_none (fun r w => w.1 z) i
        have ea := SET_uniq hS h0
        rw [ea]
        exact f h1 0 hG1 (SET_none (fun r w => w.1 z) nr)
      refine br_f (by rw [e15]; exact z) ?_
      rw [nI_1]
      refine w_roomM hB hM (by omega) hG1.1 hG1.2 (fun hR => ⟨fun q => absurd q ne01, fun _ => ?_⟩) (fun hR => ⟨fun _ => ih (i + 1) a h1 (by omega) (by omega) hG1 (SET_no hS (fun w => hR w.2.1)), fun q => absurd rfl q⟩)
      refine w_find (by omega) (SRm_of hB hM (by omega) hG1.1 hG1.2) (fun _ _ _ => rfl) (fun h' d hs' _ hF => ⟨fun q => absurd q ne01, fun _ => ?_⟩) (fun h' hs' hN => ⟨fun _ => ih (i + 1) a h' (by omega) (by omega) (GM_3 hG1 hs') (SET_no hS (fun w => NON_ex hN w.2.2)), fun q => absurd rfl q⟩)
      rw [add_bit i (by omega) a hS.1]
      exact ih (i + 1) _ h' (by omega) (by omega) (GM_3 hG1 hs') (SET_yes hS ⟨z, hR, d, hF⟩)
  exact ⟨nr + 1, key (nr + 1) 0 0 h5 (by omega) (by omega) hG SET_0⟩
theorem st_enabled {hv hm : RS} (hJ : J hv hm) : wp_V_enabled hv (fun r h1 => wp_M_enabled hm (fun r2 h2 => r = r2 ∧ J h1 h2)) := by
  have hJ0 := hJ
  obtain ⟨nc, nr, nm, nf, np, na, hB, hM, s1, hS⟩ := hJ
  refine w_enV hB hM s1 scrV_rf (fun h' a hs' hA => ?_)
  refine w_enM hB hM (fun _ _ => rfl) (fun h2 b hG hA2 => ⟨by rw [SET_uniq hA hA2], J_scr hJ0 hs' hG.1⟩)
/-- where the search begins -/
def from_ (g : RS) (nf : Nat) : Nat := if nf = 0 then 0 else (g 19 (nf - 1)).toNatClampNeg + 1
theorem from_eq {hv g : RS} {nc nr nm nf : Nat} (hM : JM hv g nc nr nm nf) (h8 : nr ≤ 8) (h0 : ¬ nf = 0) : g 19 (nf - 1) + 1 = nI (from_ g nf) ∧ from_ g nf ≤ 8 := by
  obtain ⟨r, h1, h2⟩ := hM.2.2.2.2.2.2.2.2.1 (nf - 1) (by omega)
  unfold from_
  rw [if_neg h0, h2, nI_1, nI_clamp (by omega)]
  exact ⟨rfl, by omega⟩
theorem w_fn {hv g h : RS} {nc nr nm nf : Nat} {np na : Nat → Nat} {Q : Int32 → RS → Prop} (hB : JB hv g nc nr np na) (hM : JM hv g nc nr nm nf) (s1 : hv 0 4 = g 0 15) (hs : scrV hv h) (f : ∀ (h' : RS) (s : Nat) (d : Nat → Nat), scrV hv h' → s < nr → (∀ s', s' < s → ¬ EN g nm nc np na ((from_ g nf + s') % nr)) → EN g nm nc np na ((from_ g nf + s) % nr) → FST g nm ((from_ g nf + s) % nr) (np ((from_ g nf + s) % nr)) d → (∀ i, i < np ((from_ g nf + s) % nr) → h' 11 i = nI (mg g nm ((from_ g nf + s) % nr) d i) ∧ h' 12 i = vl g nm ((from_ g nf + s) % nr) d i) → Q (nI ((from_ g nf + s) % nr)) h') (g0 : ∀ h', scrV hv h' → (∀ s, s < nr → ¬ EN g nm nc np na ((from_ g nf + s) % nr)) → Q (-1) h') : wp_V_findNext h Q := by
  have b4 := hB.2.2.2.1
  have b6 := hB.2.2.2.2.2.1
  have m4 := hM.2.2.2.1
  have hnf : nf ≤ 300 := Nat.le_trans hM.2.2.2.2.2.1 (Nat.le_trans consd_le hM.2.2.1)
  have hfl : from_ g nf ≤ 8 := by
    by_cases h0 : nf = 0
    · unfold from_; rw [if_pos h0]; omega
    · exact (from_eq hM b6 h0).2
  have key : ∀ n s (h1 : RS), nr - s < n → s ≤ nr → scrV hv h1 → (∀ s', s' < s → ¬ EN g nm nc np na ((from_ g nf + s') % nr)) → wp_V_findNext_27 Q n h1 (nI (from_ g nf)) (nI s) := by
    intro n
    induction n with
    | zero => intro s h1 w; omega
    | succ n ih =>
      intro s h1 hn hi hs1 hno
      show bp_V_findNext_27 (wp_V_findNext_27 Q n) Q h1 (nI (from_ g nf)) (nI s)
      unfold bp_V_findNext_27
      have e3 : h1 0 3 = nI nr := by rw [hs1 0 (by omega) (by omega)]; exact b4
      refine c_le e3 rfl (by omega) (by omega) (fun hle => g0 h1 hs1 (fun s' hs' => hno s' (by omega))) (fun hlt => ?_)
      rw [e3, nI_add, pk_rem (by omega) (by omega) (by omega)]
      have hm := Nat.mod_lt (from_ g nf + s) (show 0 < nr by omega)
      refine ⟨nI_ne0 (by omega) (by omega), w_fe hB hM s1 (by omega) hs1 (fun h' d hs' hE hF hrow => ⟨fun q => absurd q ne01, fun _ => f h' s d hs' hlt hno hE hF hrow⟩) (fun h' hs' hE => ⟨fun _ => ?_, fun q => absurd rfl q⟩)⟩
      rw [nI_1]
      refine ih (s + 1) h' (by omega) (by omega) hs' (fun s' h9 => ?_)
      by_cases e : s' = s
      · rw [e]; exact hE
      · exact hno s' (by omega)
  unfold wp_V_findNext bp_V_findNext_0 bp_V_findNext_24
  have e8 : h 0 8 = nI nf := by rw [hs 0 (by omega) (by omega)]; exact m4
  refine c_ne (b := 0) e8 rfl (by omega) (by omega) (fun h0 => ?_) (fun h0 => ?_)
  · have hk := key (nr + 1) 0 h (by omega) (by omega) hs (fun s' w => absurd w (by omega))
    have ef : from_ g nf = 0 := by unfold from_; rw [if_pos h0]
    rw [ef] at hk
    exact ⟨nr + 1, hk⟩
  · have hk := key (nr + 1) 0 h (by omega) (by omega) hs (fun s' w => absurd w (by omega))
    refine ⟨nf - 1, by omega, ?_, nr + 1, ?_⟩
    · rw [e8]; exact pk_sub (b := 1) (by omega)
    · rw [hs 5 (by omega) (by omega), (hM.2.2.2.2.2.2.1 (nf - 1)).2.2.2.2.2, (from_eq hM b6 h0).1]
      exact hk
theorem w_nx {hv g h : RS} {nc nr nm nf : Nat} {np na : Nat → Nat} {Q : Int32 → RS → Prop} (hB : JB hv g nc nr np na) (hM : JM hv g nc nr nm nf) (hs : scrM g h) (f : ∀ (h' : RS) (s : Nat), GM g nm h' → s < nr → (∀ s', s' < s → ¬ EN g nm nc np na ((from_ g nf + s') % nr)) → EN g nm nc np na ((from_ g nf + s) % nr) → Q (nI ((from_ g nf + s) % nr)) h') (g0 : ∀ h', GM g nm h' → (∀ s, s < nr → ¬ EN g nm nc np na ((from_ g nf + s) % nr)) → Q (-1) h') : wp_M_next h Q := by
  have b5 := hB.2.2.2.2.1
  have b6 := hB.2.2.2.2.2.1
  have m5 := hM.2.2.2.2.1
  have hnf : nf ≤ 300 := Nat.le_trans hM.2.2.2.2.2.1 (Nat.le_trans consd_le hM.2.2.1)
  have hfl : from_ g nf ≤ 8 := by
    by_cases h0 : nf = 0
    · unfold from_; rw [if_pos h0]; omega
    · exact (from_eq hM b6 h0).2
  unfold wp_M_next bp_M_next_0 bp_M_next_29
  refine w_enM hB hM hs (fun h1 a hG hA => ?_)
  have ha : a < 256 := Nat.lt_of_lt_of_le hA.1 (Nat.pow_le_pow_right (n := 2) (j := 8) (by omega) (by omega))
  have key : ∀ n s, nr - s < n → s ≤ nr → (∀ s', s' < s → ¬ EN g nm nc np na ((from_ g nf + s') % nr)) → wp_M_next_32 Q n h1 (nI a) (nI (from_ g nf)) (nI s) := by
    intro n
    induction n with
    | zero => intro s w; omega
    | succ n ih =>
      intro s hn hi hno
      show bp_M_next_32 (wp_M_next_32 Q n) Q h1 (nI a) (nI (from_ g nf)) (nI s)
      unfold bp_M_next_32
      have e3 : h1 0 2 = nI nr := by rw [hG.1 0 (by omega)]; exact b5
      refine c_le e3 rfl (by omega) (by omega) (fun hle => g0 h1 hG (fun s' hs' => hno s' (by omega))) (fun hlt => ?_)
      rw [e3, nI_add, pk_rem (by omega) (by omega) (by omega), nI_1]
      have hm := Nat.mod_lt (from_ g nf + s) (show 0 < nr by omega)
      have hbit := (get_bit ((from_ g nf + s) % nr) (by omega) a ha).trans (hA.2 _ hm)
      refine ⟨nI_ne0 (by omega) (by omega), fun q => ih (s + 1) (by omega) (by omega) (fun s' h9 => ?_), fun q => f h1 s hG hlt hno (hbit.mp q)⟩
      by_cases e : s' = s
      · rw [e]; exact fun w => q (hbit.mpr w)
      · exact hno s' (by omega)
  have e22 : h1 0 22 = nI nf := by rw [hG.1 0 (by omega)]; exact m5
  have hk := key (nr + 1) 0 (by omega) (by omega) (fun s' w => absurd w (by omega))
  refine c_ne (b := 0) e22 rfl (by omega) (by omega) (fun h0 => ?_) (fun h0 => ?_)
  · have ef : from_ g nf = 0 := by unfold from_; rw [if_pos h0]
    rw [ef] at hk
    exact ⟨nr + 1, hk⟩
  · refine ⟨nf - 1, by omega, ?_, nr + 1, ?_⟩
    · rw [e22]; exact pk_sub (b := 1) (by omega)
    · rw [hG.1 19 (by omega), (from_eq hM b6 h0).1]
      exact hk
theorem nx_uniq {p : Nat → Prop} {s t : Nat} (h1 : ∀ s', s' < s → ¬ p s') (h2 : p s) (h3 : ∀ s', s' < t → ¬ p s') (h4 : p t) : s = t := by
  rcases Nat.lt_trichotomy s t with h | h | h
  · exact absurd h2 (h3 s h)
  · exact h
  · exact absurd h4 (h1 t h)
theorem st_next {hv hm : RS} (hJ : J hv hm) : wp_V_next hv (fun r h1 => wp_M_next hm (fun r2 h2 => r = r2 ∧ J h1 h2)) := by
  have hJ0 := hJ
  obtain ⟨nc, nr, nm, nf, np, na, hB, hM, s1, hS⟩ := hJ
  unfold wp_V_next bp_V_next_0
  refine w_fn hB hM s1 scrV_rf (fun h' s d hs' hlt hno hE _ _ => ?_) (fun h' hs' hno => ?_)
  · refine w_nx hB hM (fun _ _ => rfl) (fun h2 t hG hlt2 hno2 hE2 => ⟨?_, J_scr hJ0 hs' hG.1⟩) (fun h2 hG hno2 => absurd hE (hno2 s hlt))
    rw [nx_uniq (p := fun s => EN hm nm nc np na ((from_ hm nf + s) % nr)) hno hE hno2 hE2]
  · exact w_nx hB hM (fun _ _ => rfl) (fun h2 t hG hlt2 hno2 hE2 => absurd hE2 (hno t hlt2)) (fun h2 hG hno2 => ⟨rfl, J_scr hJ0 hs' hG.1⟩)
theorem st_taken {hv hm : RS} (hJ : J hv hm) (v : Int32) : wp_V_taken hv v (fun r h1 => wp_M_taken hm v (fun r2 h2 => r = r2 ∧ J h1 h2)) := by
  have hJ0 := hJ
  obtain ⟨nc, nr, nm, nf, np, na, hB, hM, s1, hS⟩ := hJ
  have b6 := hB.2.2.2.2.2.1
  unfold wp_V_taken bp_V_taken_0 wp_M_taken bp_M_taken_0
  refine w_fn hB hM s1 scrV_rf (fun h' s d hs' hlt hno hE hF hrow => ?_) (fun h' hs' hno => ?_)
  rotate_left
  · refine ⟨fun _ => ?_, fun q => absurd rfl q⟩
    exact w_nx hB hM (fun _ _ => rfl) (fun h2 t hG hlt2 hno2 hE2 => absurd hE2 (hno t hlt2)) (fun h2 hG hno2 => ⟨fun _ => ⟨rfl, J_scr hJ0 hs' hG.1⟩, fun q => absurd (by decide) q⟩)
  have hmd := Nat.mod_lt (from_ hm nf + s) (show 0 < nr by omega)
  have hnx : ∀ Q : Int32 → RS → Prop, (∀ h2, GM hm nm h2 → Q (nI ((from_ hm nf + s) % nr)) h2) → wp_M_next hm Q := fun Q hq => w_nx hB hM (fun _ _ => rfl) (fun h2 t hG hlt2 hno2 hE2 => by
      rw [← nx_uniq (p := fun s => EN hm nm nc np na ((from_ hm nf + s) % nr)) hno hE hno2 hE2]
      exact hq h2 hG) (fun h2 hG hno2 => absurd hE (hno2 s hlt))
  generalize (from_ hm nf + s) % nr = r at hmd hE hF hrow hnx ⊢
  obtain ⟨r1, r2, r3, -⟩ := hB.2.2.2.2.2.2.2 r (by omega)
  refine ⟨fun q => absurd q (nI_m1 (by omega)), fun _ => ⟨r, by omega, rfl, ?_⟩⟩
  have hr1 : h' (29 + r) 0 = nI (np r) := by rw [hs' (29 + r) (by omega) (by omega)]; exact r1
  rcases ixc v (n := np r) (by omega) with hno3 | ⟨i, hi, rfl⟩
  · refine w_hp_n hr1 (by omega) hno3 ⟨fun q => absurd rfl q, fun _ => hnx _ (fun h2 hG => ⟨fun q => absurd q (nI_pos (by omega)), fun _ => ?_⟩)⟩
    exact w_mhp_n (by omega) (by rw [hG.1 2 (by omega)]; exact r2) (by omega) hno3 ⟨fun q => absurd rfl q, fun _ => ⟨rfl, J_scr hJ0 hs' hG.1⟩⟩
  · refine w_hp_y hr1 (by omega) hi ⟨fun _ => ⟨i, by omega, rfl, hnx _ (fun h2 hG => ⟨fun q => absurd q (nI_pos (by omega)), fun _ => ?_⟩)⟩, fun q => absurd q ne01⟩
    have hSm := SRm_of hB hM (r := r) (by omega) hG.1 hG.2
    refine w_mhp_y (by omega) (by rw [hG.1 2 (by omega)]; exact r2) (by omega) hi ⟨fun _ => ?_, fun q => absurd q ne01⟩
    refine w_find (by omega) hSm (fun _ _ _ => rfl) (fun h3 d2 hs3 hrow3 hF2 => ?_) (fun h3 hs3 hN => absurd hF.1 (hN d))
    have hu := FST_uniq hF hF2 i hi
    refine w_cho (by omega) hSm hs3 hi (hrow3 i hi).1 (hF2.1.1 i hi) ⟨?_, J_scr hJ0 hs' (GM_3 hG hs3).1⟩
    rw [(hrow i hi).1, mg_congr hu]
