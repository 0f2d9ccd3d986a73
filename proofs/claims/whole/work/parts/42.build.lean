/-! building: part, guard, emit, reply -/
theorem J_re {hv hm hv' hm' : RS} {nc nr : Nat} {np na : Nat → Nat} (hB : JB hv hm nc nr np na) (hM : JM hv hm nc nr 0 0) (s1 : hv 0 4 = hm 0 15) (z : hm 0 15 = 0) {r n' a' : Nat} (e : ∀ i, i < 29 → hv' i = hv i) (f0 : hm' 0 = hm 0) (f1 : hm' 1 = hm 1) (f2 : ∀ i, 14 ≤ i → hm' i = hm i) (hs : ∀ r', r' < 8 → r' ≠ r → sameR hv hm hv' hm' r') (hR : JR hv' hm' nc r n' a') : J hv' hm' := by
  obtain ⟨b1, b2, b3, b4, b5, b6, b7, b8⟩ := hB
  refine ⟨nc, nr, 0, 0, va_up np r n', va_up na r a', ⟨?_, ?_, b3, ?_, ?_, b6, fun c hc => ?_, fun r' hr' => ?_⟩, JM_keep hM ?_ ?_ ?_ ?_ ?_ ?_ ?_ ?_, ?_, Or.inl ⟨?_, rfl, rfl⟩⟩
  · rw [e 0 (by omega)]; exact b1
  · rw [f0]; exact b2
  · rw [e 0 (by omega)]; exact b4
  · rw [f0]; exact b5
  · rw [e _ (by omega), f1]; exact b7 c hc
  · by_cases h : r' = r
    · subst h
      rw [va_up, if_pos rfl, va_up, if_pos rfl]
      exact hR
    · rw [va_up, if_neg h, va_up, if_neg h]
      exact JR_keep hr' (b8 r' hr') (hs r' hr' h)
  · rw [e 3 (by omega)]
  · rw [e 0 (by omega)]
  · intro i h1 h2; exact e i (by omega)
  · intro c hc; rw [e _ (by omega)]
  · intro i h1 h2; exact e i (by omega)
  · rw [f0]
  · rw [f0]
  · intro i h1 h2; exact f2 i h1
  · rw [e 0 (by omega), f0]; exact s1
  · rw [f0]; exact z
set_option maxHeartbeats 1000000 in
theorem st_part {hv hm : RS} (hJ : J hv hm) (x1 x2 x3 x4 : Int32) : wp_V_part hv x1 x2 x3 x4 (fun r h1 => wp_M_part hm x1 x2 x3 x4 (fun r2 h2 => r = r2 ∧ J h1 h2)) := by
  have hJ0 := hJ
  obtain ⟨nc, nr, nm, nf, np, na, hB, hM, s1, hS⟩ := hJ
  obtain ⟨b1, b2, b3, b4, b5, b6, b7, b8⟩ := id hB
  unfold wp_V_part bp_V_part_0 wp_M_part bp_M_part_0
  rcases hS with ⟨z, rfl, rfl⟩ | ⟨z, hS⟩
  rotate_left
  · have hz : ¬ hm 0 15 = 0 := by rw [z]; exact ne01
    exact w_may_s (by rw [s1]; exact hz) ⟨fun _ => w_open_s hz ⟨fun _ => ⟨rfl, hJ0⟩, fun h => absurd rfl h⟩, fun h => absurd rfl h⟩
  have z1 : hv 0 4 = 0 := s1.trans z
  rcases ixc x1 (n := nr) (by omega) with hno | ⟨r, hr, rfl⟩
  · exact w_may_n z1 b4 (by omega) hno ⟨fun _ => w_open_n z b5 (by omega) hno ⟨fun _ => ⟨rfl, hJ0⟩, fun h => absurd rfl h⟩, fun h => absurd rfl h⟩
  refine w_may_y z1 b4 (by omega) hr ⟨fun h => absurd h ne01, fun _ => ?_⟩
  rcases ixc x2 (n := nc) (by omega) with hno | ⟨c, hc, rfl⟩
  · exact w_ch_n b1 (by omega) hno ⟨fun _ => w_open_y z b5 (by omega) hr ⟨fun h => absurd h ne01, fun _ => w_mch_n b2 (by omega) hno ⟨fun _ => ⟨rfl, hJ0⟩, fun h => absurd rfl h⟩⟩, fun h => absurd rfl h⟩
  refine w_ch_y b1 (by omega) hc ⟨fun h => absurd h ne01, fun _ => ?_⟩
  rcases ixc x3 (n := 4 + 1) (by omega) with hno | ⟨t, ht, rfl⟩
  · exact w_wi_n (n := 4) rfl (by omega) hno ⟨fun h => absurd rfl h, fun _ => w_open_y z b5 (by omega) hr ⟨fun h => absurd h ne01, fun _ => w_mch_y b2 (by omega) hc ⟨fun h => absurd h ne01, fun _ => bw_no (n := 4) rfl (by omega) hno ⟨rfl, hJ0⟩⟩⟩⟩
  refine w_wi_y (n := 4) rfl (by omega) ht ⟨fun _ => ?_, fun h => absurd h ne01⟩
  obtain ⟨r1, r2, r3, r4, r5, r6, r7, r8, r9, r10, r11⟩ := b8 r (by omega)
  refine ⟨r, by omega, rfl, c_lt (b := 4) r1 rfl (by omega) (by omega) (fun hlt => ?_) (fun hge => ?_)⟩
  rotate_left
  · exact w_open_y z b5 (by omega) hr ⟨fun h => absurd h ne01, fun _ => w_mch_y b2 (by omega) hc ⟨fun h => absurd h ne01, fun _ => bw_yes (n := 4) rfl (by omega) ht ⟨r, by omega, rfl, c_lt (b := 4) r2 rfl (by omega) (by omega) (fun h => absurd h (by omega)) (fun _ => ⟨rfl, hJ0⟩)⟩⟩⟩
  refine ⟨r, by omega, rfl, np r, by omega, r1, ?_⟩
  rintro h2 rfl
  refine ⟨np r, by omega, r1, ?_⟩
  rintro h4 rfl
  refine ⟨np r, by omega, r1, ?_⟩
  rintro h6 rfl h7 rfl
  refine w_open_y z b5 (by omega) hr ⟨fun h => absurd h ne01, fun _ => w_mch_y b2 (by omega) hc ⟨fun h => absurd h ne01, fun _ => bw_yes (n := 4) rfl (by omega) ht ⟨r, by omega, rfl, c_lt (b := 4) r2 rfl (by omega) (by omega) (fun _ => ?_) (fun h => absurd h (by omega))⟩⟩⟩
  refine ⟨r, by omega, rfl, 4 * r + np r, by omega, by rw [r2, ix4r], ?_⟩
  rintro g8 rfl
  refine ⟨4 * r + np r, by omega, by rw [r2, ix4r], ?_⟩
  rintro g10 rfl
  refine ⟨4 * r + np r, by omega, by rw [r2, ix4r], ?_⟩
  rintro g12 rfl
  refine ⟨r, by omega, rfl, r, by omega, rfl, ?_⟩
  rintro g15 rfl
  have e1 : up2 (up2 (up2 hv (37 + r) (np r) (nI c)) (45 + r) (np r) (nI t)) (53 + r) (np r) x4 (29 + r) 0 = nI (np r) := by rw [up2_o (by omega), up2_o (by omega), up2_o (by omega)]; exact r1
  have e2 : up2 (up2 (up2 hm 3 (4 * r + np r) (nI c)) 4 (4 * r + np r) (nI t)) 5 (4 * r + np r) x4 2 r = nI (np r) := by rw [up2_o (by omega), up2_o (by omega), up2_o (by omega)]; exact r2
  refine ⟨r, by omega, rfl, by rw [up2_s, e2, nI_s, r1], J_re (r := r) (n' := np r + 1) (a' := na r) hB hM s1 z ?_ ?_ ?_ ?_ ?_ ?_⟩
  · intro i hi; rw [up2_f (by omega), up2_f (by omega), up2_f (by omega), up2_f (by omega)]
  · rw [up2_f (by omega), up2_f (by omega), up2_f (by omega), up2_f (by omega)]
  · rw [up2_f (by omega), up2_f (by omega), up2_f (by omega), up2_f (by omega)]
  · intro i hi; rw [up2_f (by omega), up2_f (by omega), up2_f (by omega), up2_f (by omega)]
  · intro r' hr' hne
    refine ⟨fun i h1 h2 => ?_, ?_, ?_, ?_, ?_, fun i p h1 h2 h3 h4 => ?_⟩
    · rw [up2_f (by omega), up2_f (by omega), up2_f (by omega), up2_f (by omega)]
    · rw [up2_o (by omega), up2_o (by omega), up2_o (by omega), up2_o (by omega)]
    · rw [up2_o (by omega), up2_o (by omega), up2_o (by omega), up2_o (by omega)]
    · rw [up2_o (by omega), up2_o (by omega), up2_o (by omega), up2_o (by omega)]
    · rw [up2_o (by omega), up2_o (by omega), up2_o (by omega), up2_o (by omega)]
    · have hnp := r3
      rw [up2_o (by omega), up2_o (by omega), up2_o (by omega), up2_o (by omega)]
  · refine ⟨?_, ?_, by omega, ?_, ?_, r6, ?_, ?_, ?_, fun p hp => ?_, fun i hi => ?_⟩
    · rw [up2_s, e1, nI_1]
    · rw [up2_s, e2, nI_1]
    · rw [up2_o (by omega), up2_o (by omega), up2_o (by omega), up2_o (by omega)]; exact r4
    · rw [up2_o (by omega), up2_o (by omega), up2_o (by omega), up2_o (by omega)]; exact r5
    · rw [up2_o (by omega), up2_o (by omega), up2_o (by omega), up2_o (by omega), up2_o (by omega), up2_o (by omega), up2_o (by omega), up2_o (by omega)]; exact r7
    · rw [up2_o (by omega), up2_o (by omega), up2_o (by omega), up2_o (by omega)]; exact r8
    · rw [up2_o (by omega), up2_o (by omega), up2_o (by omega), up2_o (by omega), up2_o (by omega), up2_o (by omega), up2_o (by omega), up2_o (by omega)]; exact r9
    · by_cases hpn : p = np r
      · subst hpn
        refine ⟨c, t, hc, by omega, ?_, ?_, ?_, ?_, ?_⟩
        · rw [up2_o (by omega), up2_o (by omega), up2_o (by omega), up2_s]
        · rw [up2_o (by omega), up2_o (by omega), up2_o (by omega), up2_s]
        · rw [up2_o (by omega), up2_o (by omega), up2_s]
        · rw [up2_o (by omega), up2_o (by omega), up2_s]
        · rw [up2_o (by omega), up2_s, up2_o (by omega), up2_s]
      · obtain ⟨c', t', p1, p2, p3, p4, p5, p6, p7⟩ := r10 p (by omega)
        refine ⟨c', t', p1, p2, ?_, ?_, ?_, ?_, ?_⟩
        · rw [up2_o (by omega), up2_o (by omega), up2_o (by omega), up2_o (by omega)]; exact p3
        · rw [up2_o (by omega), up2_o (by omega), up2_o (by omega), up2_o (by omega)]; exact p4
        · rw [up2_o (by omega), up2_o (by omega), up2_o (by omega), up2_o (by omega)]; exact p5
        · rw [up2_o (by omega), up2_o (by omega), up2_o (by omega), up2_o (by omega)]; exact p6
        · rw [up2_o (by omega), up2_o (by omega), up2_o (by omega), up2_o (by omega), up2_o (by omega), up2_o (by omega), up2_o (by omega), up2_o (by omega)]; exact p7
    · have hA := JA_mono (Nat.le_refl nc) (Nat.le_succ (np r)) (r11 i hi)
      unfold JA at hA ⊢
      rw [up2_f (j := 77 + r) (by omega), up2_f (j := 77 + r) (by omega), up2_f (j := 77 + r) (by omega), up2_f (j := 77 + r) (by omega), up2_f (j := 85 + r) (by omega), up2_f (j := 85 + r) (by omega), up2_f (j := 85 + r) (by omega), up2_f (j := 85 + r) (by omega), up2_f (j := 93 + r) (by omega), up2_f (j := 93 + r) (by omega), up2_f (j := 93 + r) (by omega), up2_f (j := 93 + r) (by omega), up2_f (j := 61 + r) (by omega), up2_f (j := 61 + r) (by omega), up2_f (j := 61 + r) (by omega), up2_f (j := 61 + r) (by omega), up2_f (j := 69 + r) (by omega), up2_f (j := 69 + r) (by omega), up2_f (j := 69 + r) (by omega), up2_f (j := 69 + r) (by omega)]
      rw [up2_f (j := 11) (by omega), up2_f (j := 11) (by omega), up2_f (j := 11) (by omega), up2_f (j := 11) (by omega), up2_f (j := 12) (by omega), up2_f (j := 12) (by omega), up2_f (j := 12) (by omega), up2_f (j := 12) (by omega), up2_f (j := 13) (by omega), up2_f (j := 13) (by omega), up2_f (j := 13) (by omega), up2_f (j := 13) (by omega), up2_f (j := 9) (by omega), up2_f (j := 9) (by omega), up2_f (j := 9) (by omega), up2_f (j := 9) (by omega), up2_f (j := 10) (by omega), up2_f (j := 10) (by omega), up2_f (j := 10) (by omega), up2_f (j := 10) (by omega)]
      exact hA
set_option maxHeartbeats 1000000 in
theorem st_guard {hv hm : RS} (hJ : J hv hm) (x1 x2 x3 : Int32) : wp_V_guard hv x1 x2 x3 (fun r h1 => wp_M_guard hm x1 x2 x3 (fun r2 h2 => r = r2 ∧ J h1 h2)) := by
  have hJ0 := hJ
  obtain ⟨nc, nr, nm, nf, np, na, hB, hM, s1, hS⟩ := hJ
  obtain ⟨b1, b2, b3, b4, b5, b6, b7, b8⟩ := id hB
  unfold wp_V_guard bp_V_guard_0 wp_M_guard bp_M_guard_0
  rcases hS with ⟨z, rfl, rfl⟩ | ⟨z, hS⟩
  rotate_left
  · have hz : ¬ hm 0 15 = 0 := by rw [z]; exact ne01
    exact w_may_s (by rw [s1]; exact hz) ⟨fun _ => ⟨isB_0, w_open_s hz ⟨fun _ => ⟨isB_0, rfl, hJ0⟩, fun h => absurd rfl h⟩⟩, fun h => absurd rfl h⟩
  have z1 : hv 0 4 = 0 := s1.trans z
  rcases ixc x1 (n := nr) (by omega) with hno | ⟨r, hr, rfl⟩
  · exact w_may_n z1 b4 (by omega) hno ⟨fun _ => ⟨isB_0, w_open_n z b5 (by omega) hno ⟨fun _ => ⟨isB_0, rfl, hJ0⟩, fun h => absurd rfl h⟩⟩, fun h => absurd rfl h⟩
  refine w_may_y z1 b4 (by omega) hr ⟨fun h => absurd h ne01, fun _ => ?_⟩
  rcases ixc x2 (n := 5 + 1) (by omega) with hno | ⟨t, ht, rfl⟩
  · refine w_wi_n (n := 5) rfl (by omega) hno ⟨fun h => absurd rfl h, fun _ => ⟨isB_0, w_open_y z b5 (by omega) hr ⟨fun h => absurd h ne01, fun _ => ⟨fun _ => ⟨isB_0, rfl, hJ0⟩, fun h0 => ⟨fun h1 => ?_, fun _ => ⟨isB_0, rfl, hJ0⟩⟩⟩⟩⟩⟩
    rcases in_no (n := 5) (by omega) hno with h2 | h2
    · exact absurd h2 h0
    · exact absurd h1 h2.2.2
  refine w_wi_y (n := 5) rfl (by omega) ht ⟨fun _ => ?_, fun h => absurd h ne01⟩
  obtain ⟨r1, r2, r3, r4, r5, r6, r7, r8, r9, r10, r11⟩ := b8 r (by omega)
  refine ⟨r, by omega, rfl, ?_⟩
  rintro h6 rfl
  refine ⟨r, by omega, rfl, ?_⟩
  rintro h8 rfl
  obtain ⟨i1, i2, i3⟩ := in_yes (n := 5) (by omega) ht
  refine ⟨isB_1, w_open_y z b5 (by omega) hr ⟨fun h => absurd h ne01, fun _ => ⟨fun h => absurd h i1, fun _ => ⟨fun _ => ⟨r, by omega, rfl, ?_⟩, fun h => absurd i3 h⟩⟩⟩⟩
  rintro g4 rfl
  refine ⟨r, by omega, rfl, ?_⟩
  rintro g6 rfl
  refine ⟨isB_1, rfl, J_re (r := r) (n' := np r) (a' := na r) hB hM s1 z ?_ ?_ ?_ ?_ ?_ ?_⟩
  · intro i hi; rw [up2_f (by omega), up2_f (by omega)]
  · rw [up2_f (by omega), up2_f (by omega)]
  · rw [up2_f (by omega), up2_f (by omega)]
  · intro i hi; rw [up2_f (by omega), up2_f (by omega)]
  · intro r' hr' hne
    refine ⟨fun i h1 h2 => ?_, ?_, ?_, ?_, ?_, fun i p h1 h2 h3 h4 => ?_⟩
    · rw [up2_f (by omega), up2_f (by omega)]
    · rw [up2_o (by omega), up2_o (by omega)]
    · rw [up2_o (by omega), up2_o (by omega)]
    · rw [up2_o (by omega), up2_o (by omega)]
    · rw [up2_o (by omega), up2_o (by omega)]
    · rw [up2_o (by omega), up2_o (by omega)]
  · refine ⟨?_, ?_, r3, ?_, ?_, r6, ?_, ⟨t, by omega, ?_⟩, ?_, fun p hp => ?_, fun i hi => ?_⟩
    · rw [up2_o (by omega), up2_o (by omega)]; exact r1
    · rw [up2_o (by omega), up2_o (by omega)]; exact r2
    · rw [up2_o (by omega), up2_o (by omega)]; exact r4
    · rw [up2_o (by omega), up2_o (by omega)]; exact r5
    · rw [up2_o (by omega), up2_s, up2_o (by omega), up2_s]
    · rw [up2_o (by omega), up2_s]
    · rw [up2_s, up2_s]
    · obtain ⟨c', t', p1, p2, p3, p4, p5, p6, p7⟩ := r10 p hp
      refine ⟨c', t', p1, p2, ?_, ?_, ?_, ?_, ?_⟩
      · rw [up2_o (by omega), up2_o (by omega)]; exact p3
      · rw [up2_o (by omega), up2_o (by omega)]; exact p4
      · rw [up2_o (by omega), up2_o (by omega)]; exact p5
      · rw [up2_o (by omega), up2_o (by omega)]; exact p6
      · rw [up2_o (by omega), up2_o (by omega), up2_o (by omega), up2_o (by omega)]; exact p7
    · have hA := r11 i hi
      unfold JA at hA ⊢
      rw [up2_f (j := 77 + r) (by omega), up2_f (j := 77 + r) (by omega), up2_f (j := 85 + r) (by omega), up2_f (j := 85 + r) (by omega), up2_f (j := 93 + r) (by omega), up2_f (j := 93 + r) (by omega), up2_f (j := 61 + r) (by omega), up2_f (j := 61 + r) (by omega), up2_f (j := 69 + r) (by omega), up2_f (j := 69 + r) (by omega)]
      rw [up2_f (j := 11) (by omega), up2_f (j := 11) (by omega), up2_f (j := 12) (by omega), up2_f (j := 12) (by omega), up2_f (j := 13) (by omega), up2_f (j := 13) (by omega), up2_f (j := 9) (by omega), up2_f (j := 9) (by omega), up2_f (j := 10) (by omega), up2_f (j := 10) (by omega)]
      exact hA
