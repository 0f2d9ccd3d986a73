/-! messages: pending lists, gather, put, call, withdraw, pendingAt -/
theorem pend_succ (g : RS) (i c : Nat) : pend g (i + 1) c = pend g i c ++ (if g 14 i = nI c ∧ g 16 i = 1 then [i] else []) := by
  unfold pend
  rw [List.range_succ, List.filter_append]
  congr 1
  by_cases h : g 14 i = nI c ∧ g 16 i = 1
  · rw [if_pos h]; simp [h.1, h.2]
  · rw [if_neg h]
    by_cases h1 : g 14 i = nI c
    · have h2 : ¬ g 16 i = 1 := fun q => h ⟨h1, q⟩
      simp [h2]
    · simp [h1]
theorem pend_mono (g : RS) (c i : Nat) : ∀ j, i ≤ j → (pend g i c).length ≤ (pend g j c).length := by
  intro j
  induction j with
  | zero => intro h; rw [Nat.le_zero.mp h]; exact Nat.le_refl _
  | succ j ih =>
    intro h
    by_cases e : i = j + 1
    · rw [e]; exact Nat.le_refl _
    · have h1 := ih (by omega)
      rw [pend_succ, List.length_append]
      omega
theorem pend_congr {g g' : RS} {n c : Nat} (h14 : ∀ m, m < n → g' 14 m = g 14 m) (h16 : ∀ m, m < n → g' 16 m = g 16 m) : pend g' n c = pend g n c := by
  unfold pend
  apply List.filter_congr
  intro m hm
  have h := List.mem_range.mp hm
  rw [h14 m h, h16 m h]
theorem mem_pend {g : RS} {n c m : Nat} : m ∈ pend g n c ↔ m < n ∧ g 14 m = nI c ∧ g 16 m = 1 := by
  unfold pend
  rw [List.mem_filter, List.mem_range]
  simp
theorem consd_succ (g : RS) (i : Nat) : consd g (i + 1) = consd g i + (if g 16 i = 2 then 1 else 0) := by
  unfold consd
  rw [List.range_succ, List.filter_append, List.length_append]
  congr 1
  by_cases h : g 16 i = 2
  · rw [if_pos h]; simp [h]
  · rw [if_neg h]; simp [h]
theorem consd_congr {g g' : RS} {n : Nat} (h16 : ∀ m, m < n → g' 16 m = g 16 m) : consd g' n = consd g n := by
  unfold consd
  congr 1
  apply List.filter_congr
  intro m hm
  rw [h16 m (List.mem_range.mp hm)]
theorem getD_app {l : List Nat} {x k : Nat} : (l ++ [x]).getD k 0 = if k = l.length then x else l.getD k 0 := by
  rw [List.getD_eq_getElem?_getD, List.getD_eq_getElem?_getD]
  by_cases h : k < l.length
  · rw [List.getElem?_append_left h, if_neg (by omega)]
  · by_cases h2 : k = l.length
    · subst h2; simp
    · rw [if_neg h2, List.getElem?_eq_none (by simp; omega), List.getElem?_eq_none (by omega)]
/-- the reference's gathered lists -/
def GA (g : RS) (n : Nat) (h : RS) : Prop := (∀ c, c < 8 → h 21 c = nI (pend g n c).length) ∧ ∀ c k, c < 8 → k < (pend g n c).length → h 20 (6 * c + k) = nI ((pend g n c).getD k 0)
theorem w_gather {hm : RS} {nc nm : Nat} {Q : RS → Prop} (hc : nc ≤ 8) (e : hm 0 16 = nI nm) (hn : nm ≤ 300) (h14 : ∀ m, m < nm → ∃ c : Nat, c < nc ∧ hm 14 m = nI c) (h6 : ∀ c, c < 8 → (pend hm nm c).length ≤ 6) (f : ∀ h, scrM hm h → GA hm nm h → Q h) : wp_M_gather hm Q := by
  have k2 : ∀ n i h, nm - i < n → i ≤ nm → scrM hm h → GA hm i h → wp_M_gather_23 Q n h (nI i) := by
    intro n
    induction n with
    | zero => intro i h h1; omega
    | succ n ih =>
      intro i h hn1 hi hs hg
      show bp_M_gather_23 (wp_M_gather_23 Q n) Q h (nI i)
      unfold bp_M_gather_23
      refine c_le (by rw [hs 0 (by omega)]; exact e) rfl (by omega) (by omega) (fun hle => ?_) (fun hlt => ?_)
      · have : i = nm := by omega
        subst this
        exact f h hs hg
      obtain ⟨c, hc1, hc2⟩ := h14 i hlt
      refine ⟨i, by omega, rfl, i, by omega, rfl, fun h1 => ?_, fun h1 => ?_⟩
      · rw [nI_1]
        rw [hs 16 (by omega)] at h1
        refine ih (i + 1) h (by omega) (by omega) hs ⟨fun c' hc' => ?_, fun c' k hc' hk => ?_⟩
        · rw [pend_succ, if_neg (fun q => h1 q.2), List.append_nil]; exact hg.1 c' hc'
        · rw [pend_succ, if_neg (fun q => h1 q.2), List.append_nil] at hk ⊢
          exact hg.2 c' k hc' hk
      · rw [hs 16 (by omega)] at h1
        have hl : (pend hm (i + 1) c).length ≤ 6 := Nat.le_trans (pend_mono hm c (i + 1) nm (by omega)) (h6 c (by omega))
        have hl1 : (pend hm (i + 1) c).length = (pend hm i c).length + 1 := by
          rw [pend_succ, if_pos ⟨hc2, h1⟩, List.length_append]; rfl
        have e14 : h 14 i = nI c := by rw [hs 14 (by omega)]; exact hc2
        have e21 := hg.1 c (by omega)
        refine ⟨c, by omega, e14, 6 * c + (pend hm i c).length, by omega, ?_, ?_⟩
        · rw [e14, e21]
          have h6' : (6 : Int32) = nI 6 := rfl
          rw [h6', pk_mul, nI_add]
        rintro h5 rfl
        refine ⟨c, by omega, e14, c, by omega, e14, ?_⟩
        rintro h8 rfl
        rw [nI_1]
        refine ih (i + 1) _ (by omega) (by omega) ?_ ⟨fun c' hc' => ?_, fun c' k hc' hk => ?_⟩
        · intro j hj
          rw [up2_f (by omega), up2_f (by omega)]
          exact hs j hj
        · rw [pend_succ]
          by_cases ec : c' = c
          · rw [ec, up2_s, up2_o (by omega), e21, nI_1, if_pos ⟨hc2, h1⟩, List.length_append]; rfl
          · rw [up2_o (by omega), up2_o (by omega), if_neg (fun q => ec (nI_inj (by omega) (by omega) (q.1.symm.trans hc2))), List.append_nil]
            exact hg.1 c' hc'
        · rw [up2_o (by omega)]
          rw [pend_succ] at hk ⊢
          by_cases ec : c' = c
          · rw [ec, if_pos ⟨hc2, h1⟩] at hk ⊢
            rw [List.length_append] at hk
            have hk2 : k < (pend hm i c).length + 1 := hk
            rw [getD_app]
            by_cases ek : k = (pend hm i c).length
            · rw [if_pos ek, ek, up2_s]
            · rw [if_neg ek, up2_o (by omega)]
              exact hg.2 c k (by omega) (by omega)
          · rw [if_neg (fun q => ec (nI_inj (by omega) (by omega) (q.1.symm.trans hc2))), List.append_nil] at hk ⊢
            have hl2 : (pend hm i c').length ≤ 6 := Nat.le_trans (pend_mono hm c' i nm (by omega)) (h6 c' hc')
            rw [up2_o (by omega)]
            exact hg.2 c' k hc' hk
  have k1 : ∀ n i h, 8 - i < n → i ≤ 8 → scrM hm h → (∀ c, c < i → h 21 c = 0) → wp_M_gather_2 Q n h (nI i) := by
    intro n
    induction n with
    | zero => intro i h h1; omega
    | succ n ih =>
      intro i h hn1 hi hs hg
      show bp_M_gather_2 (wp_M_gather_2 Q n) Q h (nI i)
      unfold bp_M_gather_2
      refine c_le (a := 8) rfl rfl (by omega) (by omega) (fun hle => ⟨nm + 1, k2 (nm + 1) 0 h (by omega) (by omega) hs ⟨fun c hc => hg c (by omega), fun c k hc hk => absurd hk (Nat.not_lt_zero _)⟩⟩) (fun hlt => ⟨i, by omega, rfl, ?_⟩)
      rintro h11 rfl
      rw [nI_1]
      refine ih (i + 1) _ (by omega) (by omega) (fun j hj => ?_) (fun c hc => ?_)
      · rw [up2_f (by omega)]; exact hs j hj
      · by_cases ec : c = i
        · rw [ec, up2_s]
        · rw [up2_o (by omega)]; exact hg c (by omega)
  exact ⟨9, k1 9 0 hm (by omega) (by omega) (fun _ _ => rfl) (fun c hc => absurd hc (by omega))⟩
theorem JM_ga {hv hm : RS} {nc nr nm nf : Nat} {Q : RS → Prop} (hc : nc ≤ 8) (hM : JM hv hm nc nr nm nf) (f : ∀ h, scrM hm h → GA hm nm h → Q h) : wp_M_gather hm Q := w_gather hc hM.2.1 hM.2.2.1 hM.2.2.2.2.2.2.2.1 (fun c hc => (hM.2.2.2.2.2.2.2.2.2 c hc).1) f
theorem scrV_rf {h : RS} : scrV h h := fun _ _ _ => rfl
theorem pend_lt {g : RS} {n c k : Nat} (hk : k < (pend g n c).length) : (pend g n c).getD k 0 < n ∧ g 14 ((pend g n c).getD k 0) = nI c ∧ g 16 ((pend g n c).getD k 0) = 1 := by
  have h : (pend g n c).getD k 0 ∈ pend g n c := by
    rw [List.getD_eq_getElem?_getD, List.getElem?_eq_getElem hk]
    exact List.getElem_mem hk
  exact mem_pend.mp h
theorem st_pendingAt {hv hm : RS} (hJ : J hv hm) (x1 x2 : Int32) : wp_V_pendingAt hv x1 x2 (fun r h1 => wp_M_pendingAt hm x1 x2 (fun r2 h2 => r = r2 ∧ J h1 h2)) := by
  have hJ0 := hJ
  obtain ⟨nc, nr, nm, nf, np, na, hB, hM, s1, hS⟩ := hJ
  obtain ⟨b1, b2, b3, b4, b5, b6, b7, b8⟩ := id hB
  unfold wp_V_pendingAt bp_V_pendingAt_0 wp_M_pendingAt bp_M_pendingAt_0
  rcases ixc x1 (n := nc) (by omega) with hno | ⟨c, hc, rfl⟩
  · refine w_ch_n b1 (by omega) hno ⟨fun _ => ?_, fun h => absurd rfl h⟩
    refine JM_ga b3 hM (fun h hs hg => ?_)
    exact w_mch_n (by rw [hs 0 (by omega)]; exact b2) (by omega) hno ⟨fun _ => ⟨rfl, J_scr hJ0 scrV_rf hs⟩, fun h => absurd rfl h⟩
  refine w_ch_y b1 (by omega) hc ⟨fun h => absurd h ne01, fun _ => ?_⟩
  obtain ⟨p1, p2, p3⟩ := hM.2.2.2.2.2.2.2.2.2 c (by omega)
  have hmm : ∀ r : Int32, (∀ h, scrM hm h → GA hm nm h → (x2 < 0 → r = -1 ∧ J hv h) ∧ (¬ x2 < 0 → ∃ k4 : Nat, k4 < 8 ∧ nI c = nI k4 ∧ (h 21 k4 ≤ x2 → r = -1 ∧ J hv h) ∧ (¬ h 21 k4 ≤ x2 → ∃ k5 : Nat, k5 < 48 ∧ (6 : Int32) * nI c + x2 = nI k5 ∧ r = h 20 k5 ∧ J hv h))) → wp_M_gather hm (fun h1 => wp_M_isChannel h1 (nI c) (fun r2 h3 => (r2 = 0 → r = -1 ∧ J hv h3) ∧ (¬ r2 = 0 → (x2 < 0 → r = -1 ∧ J hv h3) ∧ (¬ x2 < 0 → ∃ k4 : Nat, k4 < 8 ∧ nI c = nI k4 ∧ (h3 21 k4 ≤ x2 → r = -1 ∧ J hv h3) ∧ (¬ h3 21 k4 ≤ x2 → ∃ k5 : Nat, k5 < 48 ∧ (6 : Int32) * nI c + x2 = nI k5 ∧ r = h3 20 k5 ∧ J hv h3))))) := by
    intro r hyp
    refine JM_ga b3 hM (fun h hs hg => ?_)
    exact w_mch_y (by rw [hs 0 (by omega)]; exact b2) (by omega) hc ⟨fun h => absurd h ne01, fun _ => hyp h hs hg⟩
  rcases ixc x2 (n := (pend hm nm c).length) (by omega) with hno | ⟨k, hk, rfl⟩
  · rcases ix_no (by omega) hno with h0 | ⟨h0, h1, h2⟩
    · refine ⟨fun _ => hmm (-1) (fun h hs hg => ⟨fun _ => ⟨rfl, J_scr hJ0 scrV_rf hs⟩, fun q => absurd h0 q⟩), fun q => absurd h0 q⟩
    · refine ⟨fun q => absurd q h0, fun _ => ⟨c, by omega, rfl, fun q => absurd q (by rw [p2]; exact h2), fun _ => hmm (-1) (fun h hs hg => ⟨fun q => absurd q h0, fun _ => ⟨c, by omega, rfl, fun _ => ⟨rfl, J_scr hJ0 scrV_rf hs⟩, fun q => absurd h1 (by rw [← hg.1 c (by omega)]; exact q)⟩⟩)⟩⟩
  · obtain ⟨h0, h1, h2⟩ := ix_lt (x := nI k) (by omega) hk rfl
    refine ⟨fun q => absurd q h0, fun _ => ⟨c, by omega, rfl, fun _ => ⟨c, by omega, rfl, k, by omega, rfl, ?_⟩, fun q => absurd (by rw [p2]; exact h2) q⟩⟩
    refine hmm _ (fun h hs hg => ⟨fun q => absurd q h0, fun _ => ⟨c, by omega, rfl, fun q => absurd (by rw [← hg.1 c (by omega)]; exact q) h1, fun _ => ⟨6 * c + k, by omega, ?_, ?_, J_scr hJ0 scrV_rf hs⟩⟩⟩)
    · have h6' : (6 : Int32) = nI 6 := rfl
      rw [h6', pk_mul, nI_add]
    · rw [p3 k hk, hg.2 c k (by omega) hk]
/-! a message is made -/
def mkM (g : RS) (nm : Nat) (cx v : Int32) : RS := up2 (up2 (up2 (up2 (up2 g 14 nm cx) 15 nm v) 16 nm 1) 17 nm (-1)) 0 16 (nI (nm + 1))
def mkV (h : RS) (nm c len : Nat) (v : Int32) : RS := up2 (up2 (up2 (up2 (up2 (up2 (up2 h 6 nm (nI c)) 7 nm v) 8 nm 1) 9 nm (-1)) 3 0 (nI (nm + 1))) (21 + c) len (nI nm)) (13 + c) 2 (nI (len + 1))
theorem w_make {h : RS} {nm : Nat} {cx v : Int32} {Q : Int32 → RS → Prop} (e : h 0 16 = nI nm) (hn : nm < 300) (q : Q (nI nm) (mkM h nm cx v)) : wp_M_make h cx v Q := by
  refine ⟨nm, hn, e, ?_⟩
  rintro h2 rfl
  have e2 : up2 h 14 nm cx 0 16 = nI nm := by rw [up2_o (by omega)]; exact e
  refine ⟨nm, hn, e2, ?_⟩
  rintro h4 rfl
  have e4 : up2 (up2 h 14 nm cx) 15 nm v 0 16 = nI nm := by rw [up2_o (by omega)]; exact e2
  refine ⟨nm, hn, e4, ?_⟩
  rintro h6 rfl
  have e6 : up2 (up2 (up2 h 14 nm cx) 15 nm v) 16 nm 1 0 16 = nI nm := by rw [up2_o (by omega)]; exact e4
  refine ⟨nm, hn, e6, ?_⟩
  rintro h8 rfl h9 rfl
  have e8 : up2 (up2 (up2 (up2 h 14 nm cx) 15 nm v) 16 nm 1) 17 nm (-1) 0 16 = nI nm := by rw [up2_o (by omega)]; exact e6
  rw [e8, up2_s, nI_1, nI_pred]
  exact q
theorem w_mkV {h : RS} {nm c len : Nat} {v : Int32} {Q : Int32 → RS → Prop} (e3 : h 3 0 = nI nm) (hn : nm < 300) (hc : c < 8) (e13 : h (13 + c) 2 = nI len) (hl : len < 6) (q : Q (nI nm) (mkV h nm c len v)) : wp_V_makeMessage h (nI c) v Q := by
  refine ⟨nm, hn, e3, ?_⟩
  rintro h2 rfl
  refine ⟨nm, hn, e3, ?_⟩
  rintro h4 rfl
  refine ⟨nm, hn, e3, ?_⟩
  rintro h6 rfl
  refine ⟨nm, hn, e3, ?_⟩
  rintro h8 rfl h9 rfl
  have e8 : up2 (up2 (up2 (up2 h 6 nm (nI c)) 7 nm v) 8 nm 1) 9 nm (-1) 3 0 + 1 = nI (nm + 1) := by rw [up2_o (by omega), up2_o (by omega), up2_o (by omega), up2_o (by omega), e3, nI_1]
  rw [e8]
  have e9 : up2 (up2 (up2 (up2 (up2 h 6 nm (nI c)) 7 nm v) 8 nm 1) 9 nm (-1)) 3 0 (nI (nm + 1)) (13 + c) 2 = nI len := by rw [up2_o (by omega), up2_o (by omega), up2_o (by omega), up2_o (by omega), up2_o (by omega), e13]
  refine ⟨c, hc, rfl, len, hl, e9, ?_⟩
  rintro g2 rfl g3 rfl
  have e10 : up2 (up2 (up2 (up2 (up2 (up2 h 6 nm (nI c)) 7 nm v) 8 nm 1) 9 nm (-1)) 3 0 (nI (nm + 1))) (21 + c) len (h 3 0) (13 + c) 2 + 1 = nI (len + 1) := by rw [up2_o (by omega), e9, nI_1]
  rw [e10, e3]
  exact q
theorem JM_make {hv g : RS} {nc nr nm nf c : Nat} {v : Int32} (h : JM hv g nc nr nm nf) (hc8 : nc ≤ 8) (hc : c < nc) (hn : nm < 300) (hp : (pend g nm c).length < 6) : JM (mkV hv nm c (pend g nm c).length v) (mkM g nm (nI c) v) nc nr (nm + 1) nf := by
  obtain ⟨h1, h2, h3, h4, h5, h6, h7, h8, h9, h10⟩ := h
  have q14 : ∀ m, mkM g nm (nI c) v 14 m = if m = nm then nI c else g 14 m := fun m => by
    unfold mkM
    rw [up2_o (by omega), up2_o (by omega), up2_o (by omega), up2_o (by omega), up2_at]
    simp
  have q16 : ∀ m, mkM g nm (nI c) v 16 m = if m = nm then 1 else g 16 m := fun m => by
    unfold mkM
    rw [up2_o (by omega), up2_o (by omega), up2_at, up2_o (by omega), up2_o (by omega)]
    simp
  have hpd : ∀ c', c' < 8 → pend (mkM g nm (nI c) v) (nm + 1) c' = pend g nm c' ++ (if c' = c then [nm] else []) := by
    intro c' hc'
    rw [pend_succ, q14, if_pos rfl, q16, if_pos rfl]
    congr 1
    · exact pend_congr (fun m hm => by rw [q14, if_neg (by omega)]) (fun m hm => by rw [q16, if_neg (by omega)])
    · by_cases e : c' = c
      · rw [e, if_pos rfl, if_pos ⟨rfl, rfl⟩]
      · rw [if_neg e, if_neg (fun q => e (nI_inj (by omega) (by omega) q.1.symm))]
  have hcd : consd (mkM g nm (nI c) v) (nm + 1) = consd g nm := by
    rw [consd_succ, q16, if_pos rfl, if_neg (by decide), Nat.add_zero]
    exact consd_congr (fun m hm => by rw [q16, if_neg (by omega)])
  refine ⟨?_, ?_, by omega, ?_, ?_, by rw [hcd]; exact h6, fun m => ?_, fun m hm => ?_, fun k hk => ?_, fun c' hc' => ?_⟩
  · unfold mkV; rw [up2_o (by omega), up2_o (by omega), up2_s]
  · unfold mkM; rw [up2_s]
  · unfold mkV; rw [up2_o (by omega), up2_o (by omega), up2_o (by omega), up2_o (by omega), up2_o (by omega), up2_o (by omega), up2_o (by omega)]; exact h4
  · unfold mkM; rw [up2_o (by omega), up2_o (by omega), up2_o (by omega), up2_o (by omega), up2_o (by omega)]; exact h5
  · obtain ⟨a1, a2, a3, a4, a5, a6⟩ := h7 m
    rw [q14, q16]
    unfold mkV mkM
    by_cases e : m = nm
    · subst e
      rw [if_pos rfl, if_pos rfl]
      refine ⟨?_, ?_, ?_, ?_, ?_, ?_⟩
      · rw [up2_o (by omega), up2_o (by omega), up2_o (by omega), up2_o (by omega), up2_o (by omega), up2_o (by omega), up2_s]
      · rw [up2_o (by omega), up2_o (by omega), up2_o (by omega), up2_o (by omega), up2_o (by omega), up2_s, up2_o (by omega), up2_o (by omega), up2_o (by omega), up2_s]
      · rw [up2_o (by omega), up2_o (by omega), up2_o (by omega), up2_o (by omega), up2_s]
      · rw [up2_o (by omega), up2_o (by omega), up2_o (by omega), up2_s, up2_o (by omega), up2_s]
      · rw [up2_o (by omega), up2_o (by omega), up2_o (by omega), up2_o (by omega), up2_o (by omega), up2_o (by omega), up2_o (by omega), up2_o (by omega), up2_o (by omega), up2_o (by omega), up2_o (by omega), up2_o (by omega)]; exact a5
      · rw [up2_o (by omega), up2_o (by omega), up2_o (by omega), up2_o (by omega), up2_o (by omega), up2_o (by omega), up2_o (by omega), up2_o (by omega), up2_o (by omega), up2_o (by omega), up2_o (by omega), up2_o (by omega)]; exact a6
    · rw [if_neg e, if_neg e]
      refine ⟨?_, ?_, ?_, ?_, ?_, ?_⟩
      · rw [up2_o (by omega), up2_o (by omega), up2_o (by omega), up2_o (by omega), up2_o (by omega), up2_o (by omega), up2_o (by omega)]; exact a1
      · rw [up2_o (by omega), up2_o (by omega), up2_o (by omega), up2_o (by omega), up2_o (by omega), up2_o (by omega), up2_o (by omega), up2_o (by omega), up2_o (by omega), up2_o (by omega), up2_o (by omega), up2_o (by omega)]; exact a2
      · rw [up2_o (by omega), up2_o (by omega), up2_o (by omega), up2_o (by omega), up2_o (by omega), up2_o (by omega), up2_o (by omega)]; exact a3
      · rw [up2_o (by omega), up2_o (by omega), up2_o (by omega), up2_o (by omega), up2_o (by omega), up2_o (by omega), up2_o (by omega), up2_o (by omega), up2_o (by omega), up2_o (by omega), up2_o (by omega), up2_o (by omega)]; exact a4
      · rw [up2_o (by omega), up2_o (by omega), up2_o (by omega), up2_o (by omega), up2_o (by omega), up2_o (by omega), up2_o (by omega), up2_o (by omega), up2_o (by omega), up2_o (by omega), up2_o (by omega), up2_o (by omega)]; exact a5
      · rw [up2_o (by omega), up2_o (by omega), up2_o (by omega), up2_o (by omega), up2_o (by omega), up2_o (by omega), up2_o (by omega), up2_o (by omega), up2_o (by omega), up2_o (by omega), up2_o (by omega), up2_o (by omega)]; exact a6
  · rw [q14]
    by_cases e : m = nm
    · rw [if_pos e]; exact ⟨c, hc, rfl⟩
    · rw [if_neg e]; exact h8 m (by omega)
  · unfold mkM
    rw [up2_o (by omega), up2_o (by omega), up2_o (by omega), up2_o (by omega), up2_o (by omega)]; exact h9 k hk
  · obtain ⟨p1, p2, p3⟩ := h10 c' hc'
    unfold JPd
    rw [hpd c' hc']
    by_cases e : c' = c
    · subst e
      rw [if_pos rfl, List.length_append]
      refine ⟨by show (pend g nm c').length + 1 ≤ 6; omega, by unfold mkV; rw [up2_s]; rfl, fun k hk => ?_⟩
      have hk2 : k < (pend g nm c').length + 1 := hk
      rw [getD_app]
      unfold mkV
      rw [up2_o (by omega)]
      by_cases ek : k = (pend g nm c').length
      · rw [if_pos ek, ek, up2_s]
      · rw [if_neg ek, up2_o (by omega), up2_o (by omega), up2_o (by omega), up2_o (by omega), up2_o (by omega), up2_o (by omega)]
        exact p3 k (by omega)
    · rw [if_neg e, List.append_nil]
      refine ⟨p1, ?_, fun k hk => ?_⟩
      · unfold mkV
        rw [up2_o (by omega), up2_o (by omega), up2_o (by omega), up2_o (by omega), up2_o (by omega), up2_o (by omega), up2_o (by omega)]; exact p2
      · unfold mkV
        rw [up2_o (by omega), up2_o (by omega), up2_o (by omega), up2_o (by omega), up2_o (by omega), up2_o (by omega), up2_o (by omega)]; exact p3 k hk
theorem mkV_f {h : RS} {nm c len i : Nat} {v : Int32} (h1 : i ≠ 6) (h2 : i ≠ 7) (h3 : i ≠ 8) (h4 : i ≠ 9) (h5 : i ≠ 3) (h6 : i ≠ 21 + c) (h7 : i ≠ 13 + c) : mkV h nm c len v i = h i := by
  unfold mkV
  rw [up2_f h7, up2_f h6, up2_f h5, up2_f h4, up2_f h3, up2_f h2, up2_f h1]
theorem mkV_13 {h : RS} {nm c len i : Nat} {v : Int32} (hc : c < 8) (hi : i < 8) : mkV h nm c len v (13 + i) 0 = h (13 + i) 0 := by
  unfold mkV
  rw [up2_o (by omega), up2_o (by omega), up2_o (by omega), up2_o (by omega), up2_o (by omega), up2_o (by omega), up2_o (by omega)]
theorem mkM_f {h : RS} {nm i : Nat} {cx v : Int32} (h1 : i ≠ 14) (h2 : i ≠ 15) (h3 : i ≠ 16) (h4 : i ≠ 17) (h5 : i ≠ 0) : mkM h nm cx v i = h i := by
  unfold mkM
  rw [up2_f h5, up2_f h4, up2_f h3, up2_f h2, up2_f h1]
theorem mkM_0 {h : RS} {nm k : Nat} {cx v : Int32} (hk : k ≠ 16) : mkM h nm cx v 0 k = h 0 k := by
  unfold mkM
  rw [up2_o (by omega), up2_o (by omega), up2_o (by omega), up2_o (by omega), up2_o (by omega)]
theorem JB_make {hv g : RS} {nc nr nm c len : Nat} {np na : Nat → Nat} {v cx : Int32} (h : JB hv g nc nr np na) (hc : c < 8) : JB (mkV hv nm c len v) (mkM g nm cx v) nc nr np na := by
  refine JB_keep h ?_ ?_ (fun i hi => mkV_13 hc hi) (fun i hi => mkV_f (by omega) (by omega) (by omega) (by omega) (by omega) (by omega) (by omega)) (mkM_0 (by omega)) (mkM_0 (by omega)) (fun i h1 h2 => mkM_f (by omega) (by omega) (by omega) (by omega) (by omega))
  · rw [mkV_f (by omega) (by omega) (by omega) (by omega) (by omega) (by omega) (by omega)]
  · rw [mkV_f (by omega) (by omega) (by omega) (by omega) (by omega) (by omega) (by omega)]
theorem mkM_scr {g h : RS} {nm : Nat} {cx v : Int32} (hs : scrM g h) : scrM (mkM g nm cx v) (mkM h nm cx v) := by
  intro i hi
  funext k
  unfold mkM
  simp only [up2_at]
  rw [hs i hi]
theorem st_adm {hv hm : RS} (hJ : J hv hm) (x1 x2 b : Int32) : wp_V_admit hv x1 x2 b (fun r h1 => wp_M_enter hm x1 x2 b (fun r2 h2 => r = r2 ∧ J h1 h2)) := by
  have hJ0 := hJ
  obtain ⟨nc, nr, nm, nf, np, na, hB, hM, s1, hS⟩ := hJ
  obtain ⟨b1, b2, b3, b4, b5, b6, b7, b8⟩ := id hB
  unfold wp_V_admit bp_V_admit_0 wp_M_enter bp_M_enter_0
  by_cases z : hm 0 15 = 0
  · refine br_t (by rw [s1]; exact z) ?_
    refine JM_ga b3 hM (fun h hs hg => br_t (by rw [hs 0 (by omega)]; exact z) ⟨rfl, J_scr hJ0 scrV_rf hs⟩)
  refine br_f (by rw [s1]; exact z) ?_
  unfold wp_V_isChannelOf bp_V_isChannelOf_0
  rcases ixc x1 (n := nc) (by omega) with hno | ⟨c, hc, rfl⟩
  · refine w_ch_n b1 (by omega) hno ⟨fun _ => ⟨isB_0, fun h => absurd rfl h, fun _ => ?_⟩, fun h => absurd rfl h⟩
    refine JM_ga b3 hM (fun h hs hg => br_f (by rw [hs 0 (by omega)]; exact z) ?_)
    exact w_mch_n (by rw [hs 0 (by omega)]; exact b2) (by omega) hno ⟨fun _ => ⟨rfl, J_scr hJ0 scrV_rf hs⟩, fun h => absurd rfl h⟩
  obtain ⟨p1, p2, p3⟩ := hM.2.2.2.2.2.2.2.2.2 c (by omega)
  refine w_ch_y b1 (by omega) hc ⟨fun h => absurd h ne01, fun _ => ⟨c, by omega, rfl, ?_⟩⟩
  obtain ⟨c1, c2⟩ := b7 c (by omega)
  by_cases ha : hm 1 c = b
  rotate_left
  · refine br_f2 (by rw [c1]; exact ha) ⟨isB_0, fun h => absurd rfl h, fun _ => ?_⟩
    refine JM_ga b3 hM (fun h hs hg => br_f (by rw [hs 0 (by omega)]; exact z) ?_)
    exact w_mch_y (by rw [hs 0 (by omega)]; exact b2) (by omega) hc ⟨fun h => absurd h ne01, fun _ => ⟨c, by omega, rfl, br_f2 (by rw [hs 1 (by omega)]; exact ha) ⟨rfl, J_scr hJ0 scrV_rf hs⟩⟩⟩
  refine br_t2 (by rw [c1]; exact ha) ⟨isB_1, fun _ => ⟨c, by omega, rfl, ?_⟩, fun h => absurd h ne01⟩
  refine c_le (a := 6) rfl p2 (by omega) (by omega) (fun h6 => ?_) (fun h6 => ?_)
  · refine JM_ga b3 hM (fun h hs hg => br_f (by rw [hs 0 (by omega)]; exact z) ?_)
    refine w_mch_y (by rw [hs 0 (by omega)]; exact b2) (by omega) hc ⟨fun h => absurd h ne01, fun _ => ⟨c, by omega, rfl, br_t2 (by rw [hs 1 (by omega)]; exact ha) ⟨c, by omega, rfl, ?_⟩⟩⟩
    exact c_le (a := 6) rfl (hg.1 c (by omega)) (by omega) (by omega) (fun _ => ⟨rfl, J_scr hJ0 scrV_rf hs⟩) (fun q => absurd h6 (by omega))
  have e3 := hM.1
  have e16 := hM.2.1
  have hnm := hM.2.2.1
  refine c_lt (b := 300) e3 rfl (by omega) (by omega) (fun h3 => ?_) (fun h3 => ?_)
  · refine w_mkV e3 h3 (by omega) p2 h6 ?_
    refine JM_ga b3 hM (fun h hs hg => br_f (by rw [hs 0 (by omega)]; exact z) ?_)
    refine w_mch_y (by rw [hs 0 (by omega)]; exact b2) (by omega) hc ⟨fun h => absurd h ne01, fun _ => ⟨c, by omega, rfl, br_t2 (by rw [hs 1 (by omega)]; exact ha) ⟨c, by omega, rfl, ?_⟩⟩⟩
    refine c_le (a := 6) rfl (hg.1 c (by omega)) (by omega) (by omega) (fun q => absurd h6 (by omega)) (fun _ => ?_)
    have e16' : h 0 16 = nI nm := by rw [hs 0 (by omega)]; exact e16
    refine c_lt (b := 300) e16' rfl (by omega) (by omega) (fun _ => ?_) (fun q => absurd h3 (by omega))
    refine w_make e16' h3 ⟨rfl, ?_⟩
    refine J_scr (hv := mkV hv nm c (pend hm nm c).length x2) (hm := mkM hm nm (nI c) x2) ?_ scrV_rf (mkM_scr hs)
    refine ⟨nc, nr, nm + 1, nf, np, na, JB_make hB (by omega), JM_make hM b3 hc h3 h6, ?_, ?_⟩
    · rw [mkV_f (by omega) (by omega) (by omega) (by omega) (by omega) (by omega) (by omega), mkM_0 (by omega)]; exact s1
    · rw [mkM_0 (by omega)]
      rcases hS with ⟨q, -⟩ | hS
      · exact absurd q z
      · exact Or.inr hS
  · refine JM_ga b3 hM (fun h hs hg => br_f (by rw [hs 0 (by omega)]; exact z) ?_)
    refine w_mch_y (by rw [hs 0 (by omega)]; exact b2) (by omega) hc ⟨fun h => absurd h ne01, fun _ => ⟨c, by omega, rfl, br_t2 (by rw [hs 1 (by omega)]; exact ha) ⟨c, by omega, rfl, ?_⟩⟩⟩
    refine c_le (a := 6) rfl (hg.1 c (by omega)) (by omega) (by omega) (fun q => absurd h6 (by omega)) (fun _ => ?_)
    have e16' : h 0 16 = nI nm := by rw [hs 0 (by omega)]; exact e16
    exact c_lt (b := 300) e16' rfl (by omega) (by omega) (fun q => absurd q (by omega)) (fun _ => ⟨rfl, J_scr hJ0 scrV_rf hs⟩)
theorem st_put {hv hm : RS} (hJ : J hv hm) (x1 x2 : Int32) : wp_V_put hv x1 x2 (fun r h1 => wp_M_put hm x1 x2 (fun r2 h2 => r = r2 ∧ J h1 h2)) := st_adm hJ x1 x2 0
theorem st_call {hv hm : RS} (hJ : J hv hm) (x1 x2 : Int32) : wp_V_call hv x1 x2 (fun r h1 => wp_M_call hm x1 x2 (fun r2 h2 => r = r2 ∧ J h1 h2)) := st_adm hJ x1 x2 1
