/-! reads -/
theorem st_value {hv hm : RS} (hJ : J hv hm) (v : Int32) : wp_V_value hv v (fun r h1 => wp_M_value hm v (fun r2 h2 => r = r2 ∧ J h1 h2)) := by
  have hJ0 := hJ
  obtain ⟨nc, nr, nm, nf, np, na, hB, ⟨m1, m2, m3, m4, m5, m6, m7, m8, m9, m10⟩, hS⟩ := hJ
  unfold wp_V_value bp_V_value_0 wp_M_value bp_M_value_0
  rcases ixc v (n := nm) (by omega) with hno | ⟨j, hj, rfl⟩
  · refine br_no m1 (by omega) hno ⟨isB_0, fun _ => ?_, fun h => absurd rfl h⟩
    exact br_no m2 (by omega) hno ⟨isB_0, fun _ => ⟨rfl, hJ0⟩, fun h => absurd rfl h⟩
  · refine br_yes m1 (by omega) hj rfl ⟨isB_1, fun h => absurd h ne01, fun _ => ⟨j, by omega, rfl, ?_⟩⟩
    exact br_yes m2 (by omega) hj rfl ⟨isB_1, fun h => absurd h ne01, fun _ => ⟨j, by omega, rfl, (m7 j).2.1, hJ0⟩⟩
theorem st_state {hv hm : RS} (hJ : J hv hm) (v : Int32) : wp_V_state hv v (fun r h1 => wp_M_state hm v (fun r2 h2 => r = r2 ∧ J h1 h2)) := by
  have hJ0 := hJ
  obtain ⟨nc, nr, nm, nf, np, na, hB, ⟨m1, m2, m3, m4, m5, m6, m7, m8, m9, m10⟩, hS⟩ := hJ
  unfold wp_V_state bp_V_state_0 wp_M_state bp_M_state_0
  rcases ixc v (n := nm) (by omega) with hno | ⟨j, hj, rfl⟩
  · refine br_no m1 (by omega) hno ⟨isB_0, fun _ => ?_, fun h => absurd rfl h⟩
    exact br_no m2 (by omega) hno ⟨isB_0, fun _ => ⟨rfl, hJ0⟩, fun h => absurd rfl h⟩
  · refine br_yes m1 (by omega) hj rfl ⟨isB_1, fun h => absurd h ne01, fun _ => ⟨j, by omega, rfl, ?_⟩⟩
    exact br_yes m2 (by omega) hj rfl ⟨isB_1, fun h => absurd h ne01, fun _ => ⟨j, by omega, rfl, (m7 j).2.2.1, hJ0⟩⟩
theorem st_consumer {hv hm : RS} (hJ : J hv hm) (v : Int32) : wp_V_consumer hv v (fun r h1 => wp_M_consumer hm v (fun r2 h2 => r = r2 ∧ J h1 h2)) := by
  have hJ0 := hJ
  obtain ⟨nc, nr, nm, nf, np, na, hB, ⟨m1, m2, m3, m4, m5, m6, m7, m8, m9, m10⟩, hS⟩ := hJ
  unfold wp_V_consumer bp_V_consumer_0 wp_M_consumer bp_M_consumer_0
  rcases ixc v (n := nm) (by omega) with hno | ⟨j, hj, rfl⟩
  · refine br_no m1 (by omega) hno ⟨isB_0, fun _ => ?_, fun h => absurd rfl h⟩
    exact br_no m2 (by omega) hno ⟨isB_0, fun _ => ⟨rfl, hJ0⟩, fun h => absurd rfl h⟩
  · refine br_yes m1 (by omega) hj rfl ⟨isB_1, fun h => absurd h ne01, fun _ => ⟨j, by omega, rfl, ?_⟩⟩
    exact br_yes m2 (by omega) hj rfl ⟨isB_1, fun h => absurd h ne01, fun _ => ⟨j, by omega, rfl, (m7 j).2.2.2.1, hJ0⟩⟩
theorem st_answer {hv hm : RS} (hJ : J hv hm) (v : Int32) : wp_V_answer hv v (fun r h1 => wp_M_answer hm v (fun r2 h2 => r = r2 ∧ J h1 h2)) := by
  have hJ0 := hJ
  obtain ⟨nc, nr, nm, nf, np, na, hB, ⟨m1, m2, m3, m4, m5, m6, m7, m8, m9, m10⟩, hS⟩ := hJ
  unfold wp_V_answer bp_V_answer_0 wp_M_answer bp_M_answer_0
  rcases ixc v (n := nm) (by omega) with hno | ⟨j, hj, rfl⟩
  · refine br_no m1 (by omega) hno ⟨isB_0, fun _ => ?_, fun h => absurd rfl h⟩
    exact br_no m2 (by omega) hno ⟨isB_0, fun _ => ⟨rfl, hJ0⟩, fun h => absurd rfl h⟩
  · refine br_yes m1 (by omega) hj rfl ⟨isB_1, fun h => absurd h ne01, fun _ => ⟨j, by omega, rfl, ?_⟩⟩
    exact br_yes m2 (by omega) hj rfl ⟨isB_1, fun h => absurd h ne01, fun _ => ⟨j, by omega, rfl, (m7 j).2.2.2.2.1, hJ0⟩⟩
theorem consd_le {hm : RS} {nm : Nat} : consd hm nm ≤ nm := by
  unfold consd
  have h := List.length_filter_le (fun m => decide (hm 16 m = 2)) (List.range nm)
  rw [List.length_range] at h
  exact h
theorem st_fired {hv hm : RS} (hJ : J hv hm) (v : Int32) : wp_V_fired hv v (fun r h1 => wp_M_fired hm v (fun r2 h2 => r = r2 ∧ J h1 h2)) := by
  have hJ0 := hJ
  obtain ⟨nc, nr, nm, nf, np, na, hB, ⟨m1, m2, m3, m4, m5, m6, m7, m8, m9, m10⟩, hS⟩ := hJ
  have hnf : nf ≤ 300 := Nat.le_trans m6 (Nat.le_trans consd_le m3)
  unfold wp_V_fired bp_V_fired_0 wp_M_fired bp_M_fired_0
  rcases ixc v (n := nf) (by omega) with hno | ⟨j, hj, rfl⟩
  · exact br_no m4 (by omega) hno (br_no m5 (by omega) hno ⟨rfl, hJ0⟩)
  · exact br_yes m4 (by omega) hj rfl ⟨j, by omega, rfl, br_yes m5 (by omega) hj rfl ⟨j, by omega, rfl, (m7 j).2.2.2.2.2, hJ0⟩⟩
theorem nI_s (k : Nat) : nI k + 1 - 1 = nI k := by rw [nI_1, nI_pred]
theorem lt_lit {x : Int32} {a b : Nat} {A B : Prop} (y : Int32) (hy : y = nI b) (hx : x = nI a) (ha : a < 2 ^ 31) (hb : b < 2 ^ 31) (f : a < b → A) (g : b ≤ a → B) : (x < y → A) ∧ (¬ x < y → B) := c_lt hx hy ha hb f g
/-! building: channel, reaction -/
theorem JM_nc {hv hm : RS} {nc nc' nr nr' nf : Nat} (h : JM hv hm nc nr 0 nf) (hf : nf = 0) : JM hv hm nc' nr' 0 nf := by
  obtain ⟨h1, h2, h3, h4, h5, h6, h7, h8, h9, h10⟩ := h
  exact ⟨h1, h2, h3, h4, h5, h6, h7, fun m hm => absurd hm (Nat.not_lt_zero _), fun k hk => absurd hk (by omega), h10⟩
theorem JP_mono {hv hm : RS} {nc nc' r p : Nat} (hn : nc ≤ nc') (h : JP hv hm nc r p) : JP hv hm nc' r p := by
  obtain ⟨c, t, h1, h2⟩ := h
  exact ⟨c, t, by omega, h2⟩
theorem JA_mono {hv hm : RS} {nc nc' np np' r i : Nat} (hn : nc ≤ nc') (hp : np ≤ np') (h : JA hv hm nc np r i) : JA hv hm nc' np' r i := by
  obtain ⟨h1, ⟨k, k1, k2, k3⟩, h3, h4, h5⟩ := h
  refine ⟨h1, ⟨k, k1, k2, fun q => ?_⟩, h3, h4, ?_⟩
  · obtain ⟨p, q1, q2⟩ := k3 q
    exact ⟨p, by omega, q2⟩
  · rcases h5 with ⟨g1, c, g2, g3⟩ | ⟨g1, g2, p, g3, g4⟩
    · exact Or.inl ⟨g1, c, by omega, g3⟩
    · exact Or.inr ⟨g1, g2, p, by omega, g4⟩
theorem JR_mono {hv hm : RS} {nc nc' np na r : Nat} (hn : nc ≤ nc') (h : JR hv hm nc r np na) : JR hv hm nc' r np na := by
  obtain ⟨h1, h2, h3, h4, h5, h6, h7, h8, h9, h10, h11⟩ := h
  exact ⟨h1, h2, h3, h4, h5, h6, h7, h8, h9, fun p hp => JP_mono hn (h10 p hp), fun i hi => JA_mono hn (Nat.le_refl _) (h11 i hi)⟩
theorem st_channel {hv hm : RS} (hJ : J hv hm) (v : Int32) (hv1 : isB v) : wp_V_channel hv v (fun r h1 => wp_M_channel hm v (fun r2 h2 => r = r2 ∧ J h1 h2)) := by
  have hJ0 := hJ
  obtain ⟨nc, nr, nm, nf, np, na, ⟨b1, b2, b3, b4, b5, b6, b7, b8⟩, hM, s1, hS⟩ := hJ
  unfold wp_V_channel bp_V_channel_0 wp_M_channel bp_M_channel_0
  rcases hS with ⟨z, rfl, rfl⟩ | ⟨z, hS⟩
  · refine br_t2 (s1.trans z) (c_lt (b := 8) b1 rfl (by omega) (by omega) (fun hlt => ?_) (fun hge => ?_))
    · refine ⟨nc, hlt, b1, hv1, ?_⟩
      rintro h2 rfl h3 rfl
      refine br_t2 z (c_lt (b := 8) b2 rfl (by omega) (by omega) (fun _ => ?_) (fun hge => absurd hge (by omega)))
      refine ⟨nc, hlt, b2, hv1, ?_⟩
      rintro g2 rfl g3 rfl
      have e1 : up2 hv (13 + nc) 0 v 0 1 = nI nc := by rw [up2_o (by omega)]; exact b1
      have e2 : up2 hm 1 nc v 0 0 = nI nc := by rw [up2_o (by omega)]; exact b2
      refine ⟨by rw [up2_s, up2_s, e1, e2], nc + 1, nr, 0, 0, np, na, ⟨?_, ?_, by omega, ?_, ?_, b6, fun c hc => ?_, fun r hr => JR_mono (by omega) (JR_keep hr (b8 r hr) (sameR_of ?_ ?_))⟩, JM_nc (JM_keep hM ?_ ?_ ?_ ?_ ?_ ?_ ?_ ?_) rfl, ?_, Or.inl ⟨?_, rfl, rfl⟩⟩
      · rw [up2_s, e1, nI_1]
      · rw [up2_s, e2, nI_1]
      · rw [up2_o (by omega), up2_o (by omega)]; exact b4
      · rw [up2_o (by omega), up2_o (by omega)]; exact b5
      · rw [up2_o (by omega), up2_o (j := 1) (by omega)]
        by_cases hc1 : c = nc
        · subst hc1
          rw [up2_s, up2_s]
          exact ⟨rfl, hv1⟩
        · rw [up2_o (by omega), up2_o (by omega)]
          exact b7 c hc
      · intro i hi; rw [up2_f (by omega), up2_f (by omega)]
      · intro i h1 h2
        rw [up2_f (by omega), up2_f (by omega)]
      · rw [up2_o (by omega), up2_o (by omega)]
      · rw [up2_o (by omega), up2_o (by omega)]
      · intro i h1 h2; rw [up2_f (by omega), up2_f (by omega)]
      · intro c hc; rw [up2_o (by omega), up2_o (by omega)]
      · intro i h1 h2; rw [up2_f (by omega), up2_f (by omega)]
      · rw [up2_o (by omega), up2_o (by omega)]
      · rw [up2_o (by omega), up2_o (by omega)]
      · intro i h1 h2; rw [up2_f (by omega), up2_f (by omega)]
      · rw [up2_o (by omega), up2_o (by omega), up2_o (by omega), up2_o (by omega)]; exact s1
      · rw [up2_o (by omega), up2_o (by omega)]; exact z
    · exact br_t2 z (c_lt (b := 8) b2 rfl (by omega) (by omega) (fun hlt => absurd hlt (by omega)) (fun _ => ⟨rfl, hJ0⟩))
  · have hz : ¬ hm 0 15 = 0 := by rw [z]; exact ne01
    exact br_f2 (by rw [s1]; exact hz) (br_f2 hz ⟨rfl, hJ0⟩)
theorem st_reaction {hv hm : RS} (hJ : J hv hm) : wp_V_reaction hv (fun r h1 => wp_M_reaction hm (fun r2 h2 => r = r2 ∧ J h1 h2)) := by
  have hJ0 := hJ
  obtain ⟨nc, nr, nm, nf, np, na, ⟨b1, b2, b3, b4, b5, b6, b7, b8⟩, hM, s1, hS⟩ := hJ
  unfold wp_V_reaction bp_V_reaction_0 wp_M_reaction bp_M_reaction_0
  rcases hS with ⟨z, rfl, rfl⟩ | ⟨z, hS⟩
  · refine br_t2 (s1.trans z) (c_lt (b := 8) b4 rfl (by omega) (by omega) (fun hlt => ?_) (fun hge => ?_))
    · rintro h2 rfl
      refine br_t2 z (c_lt (b := 8) b5 rfl (by omega) (by omega) (fun _ => ?_) (fun hge => absurd hge (by omega)))
      rintro g2 rfl
      refine ⟨by rw [up2_s, up2_s, b4, b5], nc, nr + 1, 0, 0, np, na, ⟨?_, ?_, b3, ?_, ?_, by omega, fun c hc => ?_, fun r hr => JR_keep hr (b8 r hr) (sameR_of ?_ ?_)⟩, JM_nc (JM_keep hM ?_ ?_ ?_ ?_ ?_ ?_ ?_ ?_) rfl, ?_, Or.inl ⟨?_, rfl, rfl⟩⟩
      · rw [up2_o (by omega)]; exact b1
      · rw [up2_o (by omega)]; exact b2
      · rw [up2_s, b4, nI_1]
      · rw [up2_s, b5, nI_1]
      · rw [up2_o (by omega), up2_o (by omega)]; exact b7 c hc
      · intro i hi; rw [up2_f (by omega)]
      · intro i h1 h2; rw [up2_f (by omega)]
      · rw [up2_o (by omega)]
      · rw [up2_o (by omega)]
      · intro i h1 h2; rw [up2_f (by omega)]
      · intro c hc; rw [up2_o (by omega)]
      · intro i h1 h2; rw [up2_f (by omega)]
      · rw [up2_o (by omega)]
      · rw [up2_o (by omega)]
      · intro i h1 h2; rw [up2_f (by omega)]
      · rw [up2_o (by omega), up2_o (by omega)]; exact s1
      · rw [up2_o (by omega)]; exact z
    · exact br_t2 z (c_lt (b := 8) b5 rfl (by omega) (by omega) (fun hlt => absurd hlt (by omega)) (fun _ => ⟨rfl, hJ0⟩))
  · have hz : ¬ hm 0 15 = 0 := by rw [z]; exact ne01
    exact br_f2 (by rw [s1]; exact hz) (br_f2 hz ⟨rfl, hJ0⟩)
/-! small methods -/
theorem w_may_s {h : RS} {x : Int32} {Q : Int32 → RS → Prop} (z : ¬ h 0 4 = 0) (q : Q 0 h) : wp_V_mayBuild h x Q := ⟨fun _ => ⟨isB_0, q⟩, fun h => absurd h z⟩
theorem w_may_n {h : RS} {x : Int32} {n : Nat} {Q : Int32 → RS → Prop} (z : h 0 4 = 0) (e : h 0 3 = nI n) (hn : n < 2 ^ 31) (hno : ∀ j, j < n → x ≠ nI j) (q : Q 0 h) : wp_V_mayBuild h x Q := ⟨fun h => absurd z h, fun _ => br_no e hn hno ⟨isB_0, q⟩⟩
theorem w_may_y {h : RS} {j : Nat} {n : Nat} {Q : Int32 → RS → Prop} (z : h 0 4 = 0) (e : h 0 3 = nI n) (hn : n < 2 ^ 31) (hj : j < n) (q : Q 1 h) : wp_V_mayBuild h (nI j) Q := ⟨fun h => absurd z h, fun _ => br_yes e hn hj rfl ⟨isB_1, q⟩⟩
theorem w_open_s {h : RS} {x : Int32} {Q : Int32 → RS → Prop} (z : ¬ h 0 15 = 0) (q : Q 0 h) : wp_M_open h x Q := ⟨fun _ => ⟨isB_0, q⟩, fun h => absurd h z⟩
theorem w_open_n {h : RS} {x : Int32} {n : Nat} {Q : Int32 → RS → Prop} (z : h 0 15 = 0) (e : h 0 2 = nI n) (hn : n < 2 ^ 31) (hno : ∀ j, j < n → x ≠ nI j) (q : Q 0 h) : wp_M_open h x Q := ⟨fun h => absurd z h, fun _ => br_no e hn hno ⟨isB_0, q⟩⟩
theorem w_open_y {h : RS} {j : Nat} {n : Nat} {Q : Int32 → RS → Prop} (z : h 0 15 = 0) (e : h 0 2 = nI n) (hn : n < 2 ^ 31) (hj : j < n) (q : Q 1 h) : wp_M_open h (nI j) Q := ⟨fun h => absurd z h, fun _ => br_yes e hn hj rfl ⟨isB_1, q⟩⟩
theorem w_ch_n {h : RS} {x : Int32} {n : Nat} {Q : Int32 → RS → Prop} (e : h 0 1 = nI n) (hn : n < 2 ^ 31) (hno : ∀ j, j < n → x ≠ nI j) (q : Q 0 h) : wp_V_isChannel h x Q := br_no e hn hno ⟨isB_0, q⟩
theorem w_ch_y {h : RS} {j : Nat} {n : Nat} {Q : Int32 → RS → Prop} (e : h 0 1 = nI n) (hn : n < 2 ^ 31) (hj : j < n) (q : Q 1 h) : wp_V_isChannel h (nI j) Q := br_yes e hn hj rfl ⟨isB_1, q⟩
theorem w_mch_n {h : RS} {x : Int32} {n : Nat} {Q : Int32 → RS → Prop} (e : h 0 0 = nI n) (hn : n < 2 ^ 31) (hno : ∀ j, j < n → x ≠ nI j) (q : Q 0 h) : wp_M_isChannel h x Q := br_no e hn hno ⟨isB_0, q⟩
theorem w_mch_y {h : RS} {j : Nat} {n : Nat} {Q : Int32 → RS → Prop} (e : h 0 0 = nI n) (hn : n < 2 ^ 31) (hj : j < n) (q : Q 1 h) : wp_M_isChannel h (nI j) Q := br_yes e hn hj rfl ⟨isB_1, q⟩
theorem in_no {n : Nat} {x : Int32} (hn : n + 1 < 2 ^ 31) (h : ∀ j, j < n + 1 → x ≠ nI j) : x < 0 ∨ (¬ x < 0 ∧ nI n < x ∧ ¬ x ≤ nI n) := by
  by_cases h0 : x < 0
  · exact Or.inl h0
  · right
    have h1 : nI n < x := by
      rcases pk_ix x hn with h1 | h1 | ⟨j, hj, e⟩
      · exact absurd h1 h0
      · exact Int32.lt_of_lt_of_le (nI_lt (by omega) (by omega)) h1
      · exact absurd e (h j hj)
    exact ⟨h0, h1, Int32.not_le.mpr h1⟩
theorem in_yes {n j : Nat} (hn : n + 1 < 2 ^ 31) (hj : j < n + 1) : ¬ nI j < 0 ∧ ¬ nI n < nI j ∧ nI j ≤ nI n := ⟨nI_pos (by omega), nI_nlt (by omega) (by omega), nI_le (by omega) (by omega)⟩
/-- 'x < 0 or n < x' -/
theorem bw_no {x N : Int32} {n : Nat} {A B : Prop} (hN : N = nI n) (hn : n + 1 < 2 ^ 31) (h : ∀ j, j < n + 1 → x ≠ nI j) (a : A) : (x < 0 → A) ∧ (¬ x < 0 → (N < x → A) ∧ (¬ N < x → B)) := by
  subst hN
  refine ⟨fun _ => a, fun h0 => ⟨fun _ => a, fun h1 => ?_⟩⟩
  rcases in_no hn h with h2 | h2
  · exact absurd h2 h0
  · exact absurd h2.2.1 h1
theorem bw_yes {N : Int32} {n j : Nat} {A B : Prop} (hN : N = nI n) (hn : n + 1 < 2 ^ 31) (hj : j < n + 1) (b : B) : (nI j < 0 → A) ∧ (¬ nI j < 0 → (N < nI j → A) ∧ (¬ N < nI j → B)) := by
  subst hN
  obtain ⟨h1, h2, -⟩ := in_yes hn hj
  exact ⟨fun h => absurd h h1, fun _ => ⟨fun h => absurd h h2, fun _ => b⟩⟩
theorem w_wi_n {h : RS} {x N : Int32} {n : Nat} {Q : Int32 → RS → Prop} (hN : N = nI n) (hn : n + 1 < 2 ^ 31) (hno : ∀ j, j < n + 1 → x ≠ nI j) (q : Q 0 h) : wp_V_isWithin h x N Q := bw_no hN hn hno ⟨isB_0, q⟩
theorem w_wi_y {h : RS} {j : Nat} {N : Int32} {n : Nat} {Q : Int32 → RS → Prop} (hN : N = nI n) (hn : n + 1 < 2 ^ 31) (hj : j < n + 1) (q : Q 1 h) : wp_V_isWithin h (nI j) N Q := bw_yes hN hn hj ⟨isB_1, q⟩
theorem w_hp_n {h : RS} {r : Nat} {x : Int32} {n : Nat} {Q : Int32 → RS → Prop} (e : h (29 + r) 0 = nI n) (hn : n < 2 ^ 31) (hno : ∀ j, j < n → x ≠ nI j) (q : Q 0 h) : wp_Re_hasPart h r x Q := br_no e hn hno ⟨isB_0, q⟩
theorem w_hp_y {h : RS} {r j : Nat} {n : Nat} {Q : Int32 → RS → Prop} (e : h (29 + r) 0 = nI n) (hn : n < 2 ^ 31) (hj : j < n) (q : Q 1 h) : wp_Re_hasPart h r (nI j) Q := br_yes e hn hj rfl ⟨isB_1, q⟩
theorem w_mhp_n {h : RS} {r : Nat} {x : Int32} {n : Nat} {Q : Int32 → RS → Prop} (hr : r < 8) (e : h 2 r = nI n) (hn : n < 2 ^ 31) (hno : ∀ j, j < n → x ≠ nI j) (q : Q 0 h) : wp_M_hasPart h (nI r) x Q := by
  refine ⟨fun _ => ⟨isB_0, q⟩, fun h0 => ⟨r, hr, rfl, fun _ => ⟨isB_0, q⟩, fun h1 => ?_⟩⟩
  rcases ix_no hn hno with h2 | h2
  · exact absurd h2 h0
  · exact absurd h2.2.1 (by rw [← e]; exact h1)
theorem w_mhp_y {h : RS} {r j : Nat} {n : Nat} {Q : Int32 → RS → Prop} (hr : r < 8) (e : h 2 r = nI n) (hn : n < 2 ^ 31) (hj : j < n) (q : Q 1 h) : wp_M_hasPart h (nI r) (nI j) Q := by
  obtain ⟨h1, h2, -⟩ := ix_lt hn hj rfl
  exact ⟨fun h => absurd h h1, fun _ => ⟨r, hr, rfl, fun h => absurd (by rw [← e]; exact h) h2, fun _ => ⟨isB_1, q⟩⟩⟩
theorem ix4r {r p : Nat} : (4 : Int32) * nI r + nI p = nI (4 * r + p) := by
  have h : (4 : Int32) = nI 4 := rfl
  rw [h, pk_mul, nI_add]
