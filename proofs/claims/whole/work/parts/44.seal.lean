/-! reply, seal -/
def RTv (hv : RS) (r na : Nat) (x : Int32) : Prop := ∃ i, i < na ∧ hv (61 + r) i = 0 ∧ hv (69 + r) i = x
def RTm (hm : RS) (r na : Nat) (x : Int32) : Prop := ∃ i, i < na ∧ hm 9 (4 * r + i) < 0 ∧ hm 10 (4 * r + i) = x
theorem RT_iff {hv hm : RS} {nc np r na : Nat} (hc : nc ≤ 8) (hA : ∀ i, i < na → JA hv hm nc np r i) (x : Int32) : RTv hv r na x ↔ RTm hm r na x := by
  constructor
  · rintro ⟨i, hi, h1, h2⟩
    obtain ⟨-, -, -, -, h5⟩ := hA i hi
    rcases h5 with ⟨g1, -⟩ | ⟨g1, g2, p, g3, g4, g5⟩
    · rw [g1] at h1; exact absurd h1 ne01
    · exact ⟨i, hi, by rw [g2]; decide, by rw [g5, ← g4]; exact h2⟩
  · rintro ⟨i, hi, h1, h2⟩
    obtain ⟨-, -, -, -, h5⟩ := hA i hi
    rcases h5 with ⟨g1, c, g2, g3, g4⟩ | ⟨g1, g2, p, g3, g4, g5⟩
    · rw [g4] at h1; exact absurd h1 (nI_pos (by omega))
    · exact ⟨i, hi, g1, by rw [g4, ← g5]; exact h2⟩
theorem w_hrt {h : RS} {r na : Nat} {x : Int32} {Q : Int32 → RS → Prop} (e6 : h (29 + r) 6 = nI na) (ha : na ≤ 4) (f : RTv h r na x → Q 1 h) (g : ¬ RTv h r na x → Q 0 h) : wp_Re_hasReplyTo h r x Q := by
  have key : ∀ n i, na - i < n → i ≤ na → (∀ j, j < i → ¬ (h (61 + r) j = 0 ∧ h (69 + r) j = x)) → wp_Re_hasReplyTo_2 Q n h r x (nI i) := by
    intro n
    induction n with
    | zero => intro i h1; omega
    | succ n ih =>
      intro i hn hi hno
      show bp_Re_hasReplyTo_2 (wp_Re_hasReplyTo_2 Q n) Q h r x (nI i)
      unfold bp_Re_hasReplyTo_2
      refine c_le e6 rfl (by omega) (by omega) (fun hle => ⟨isB_0, g ?_⟩) (fun hlt => ⟨i, by omega, rfl, fun h0 => ?_, fun h0 => ⟨i, by omega, rfl, fun h1 => ?_, fun h1 => ⟨isB_1, f ⟨i, hlt, h0, h1⟩⟩⟩⟩)
      · rintro ⟨j, hj, h1⟩
        exact hno j (by omega) h1
      · rw [nI_1]
        refine ih (i + 1) (by omega) (by omega) (fun j hj => ?_)
        by_cases e : j = i
        · subst e; exact fun q => h0 q.1
        · exact hno j (by omega)
      · rw [nI_1]
        refine ih (i + 1) (by omega) (by omega) (fun j hj => ?_)
        by_cases e : j = i
        · subst e; exact fun q => h1 q.2
        · exact hno j (by omega)
  exact ⟨na + 1, key (na + 1) 0 (by omega) (by omega) (fun j hj => absurd hj (by omega))⟩
theorem w_ans {h : RS} {r na : Nat} {x : Int32} {Q : Int32 → RS → Prop} (hr : r < 8) (e8 : h 8 r = nI na) (ha : na ≤ 4) (f : RTm h r na x → Q 1 h) (g : ¬ RTm h r na x → Q 0 h) : wp_M_answersPart h (nI r) x Q := by
  have key : ∀ n i (b : Int32), na - i < n → i ≤ na → ((b = 1 ∧ ∃ j, j < i ∧ h 9 (4 * r + j) < 0 ∧ h 10 (4 * r + j) = x) ∨ (b = 0 ∧ ∀ j, j < i → ¬ (h 9 (4 * r + j) < 0 ∧ h 10 (4 * r + j) = x))) → wp_M_answersPart_5 Q n h (nI r) x b (nI i) := by
    intro n
    induction n with
    | zero => intro i b h1; omega
    | succ n ih =>
      intro i b hn hi hb
      show bp_M_answersPart_5 (wp_M_answersPart_5 Q n) Q h (nI r) x b (nI i)
      unfold bp_M_answersPart_5 bp_M_answersPart_49 bp_M_answersPart_53
      refine ⟨r, hr, rfl, c_le e8 rfl (by omega) (by omega) (fun hle => ?_) (fun hlt => ?_)⟩
      · rcases hb with ⟨rfl, j, hj, h1⟩ | ⟨rfl, h1⟩
        · exact ⟨isB_1, f ⟨j, by omega, h1⟩⟩
        · exact ⟨isB_0, g (fun ⟨j, hj, h2⟩ => h1 j (by omega) h2)⟩
      · rw [nI_1]
        rcases hb with ⟨rfl, j, hj, h1⟩ | ⟨rfl, h1⟩
        · exact ⟨fun _ => ih (i + 1) 1 (by omega) (by omega) (Or.inl ⟨rfl, j, by omega, h1⟩), fun q => absurd q ne01⟩
        · refine ⟨fun q => absurd rfl q, fun _ => ⟨4 * r + i, by omega, by rw [ix4r], fun h2 => ?_, fun h2 => ⟨4 * r + i, by omega, by rw [ix4r], fun h3 => ?_, fun h3 => ?_⟩⟩⟩
          · refine ih (i + 1) 0 (by omega) (by omega) (Or.inr ⟨rfl, fun j hj => ?_⟩)
            by_cases e : j = i
            · subst e; exact fun q => absurd q.1 (Int32.not_lt.mpr h2)
            · exact h1 j (by omega)
          · refine ih (i + 1) 0 (by omega) (by omega) (Or.inr ⟨rfl, fun j hj => ?_⟩)
            by_cases e : j = i
            · subst e; exact fun q => absurd q.2 h3
            · exact h1 j (by omega)
          · exact ih (i + 1) 1 (by omega) (by omega) (Or.inl ⟨rfl, i, by omega, Int32.not_le.mp h2, h3⟩)
  exact ⟨na + 1, key (na + 1) 0 0 (by omega) (by omega) (Or.inr ⟨rfl, fun j hj => absurd hj (by omega)⟩)⟩
theorem st_reply {hv hm : RS} (hJ : J hv hm) (x1 x2 x3 x4 x5 : Int32) : wp_V_reply hv x1 x2 x3 x4 x5 (fun r h1 => wp_M_reply hm x1 x2 x3 x4 x5 (fun r2 h2 => r = r2 ∧ J h1 h2)) := by
  have hJ0 := hJ
  obtain ⟨nc, nr, nm, nf, np, na, hB, hM, s1, hS⟩ := hJ
  obtain ⟨b1, b2, b3, b4, b5, b6, b7, b8⟩ := id hB
  unfold wp_V_reply bp_V_reply_0 wp_M_reply bp_M_reply_0
  rcases hS with ⟨z, rfl, rfl⟩ | ⟨z, hS⟩
  rotate_left
  · have hz : ¬ hm 0 15 = 0 := by rw [z]; exact ne01
    exact w_may_s (by rw [s1]; exact hz) ⟨fun _ => ⟨isB_0, w_open_s hz ⟨fun _ => ⟨isB_0, rfl, hJ0⟩, fun h => absurd rfl h⟩⟩, fun h => absurd rfl h⟩
  have z1 : hv 0 4 = 0 := s1.trans z
  rcases ixc x1 (n := nr) (by omega) with hno | ⟨r, hr, rfl⟩
  · exact w_may_n z1 b4 (by omega) hno ⟨fun _ => ⟨isB_0, w_open_n z b5 (by omega) hno ⟨fun _ => ⟨isB_0, rfl, hJ0⟩, fun h => absurd rfl h⟩⟩, fun h => absurd rfl h⟩
  refine w_may_y z1 b4 (by omega) hr ⟨fun h => absurd h ne01, fun _ => ⟨r, by omega, rfl, ?_⟩⟩
  obtain ⟨r1, r2, r3, r4, r5, r6, r7, r8, r9, r10, r11⟩ := b8 r (by omega)
  rcases ixc x2 (n := np r) (by omega) with hno | ⟨q, hq, rfl⟩
  · exact w_hp_n r1 (by omega) hno ⟨fun h => absurd rfl h, fun _ => ⟨isB_0, w_open_y z b5 (by omega) hr ⟨fun h => absurd h ne01, fun _ => w_mhp_n (by omega) r2 (by omega) hno ⟨fun _ => ⟨isB_0, rfl, hJ0⟩, fun h => absurd rfl h⟩⟩⟩⟩
  obtain ⟨c, t, p1, p2, p3, p4, -⟩ := r10 q hq
  obtain ⟨c1, c2⟩ := b7 c (by omega)
  refine w_hp_y r1 (by omega) hq ⟨fun _ => ⟨r, by omega, rfl, q, by omega, rfl, c, by omega, p3, ?_⟩, fun h => absurd h ne01⟩
  by_cases ha : hm 1 c = 0
  · refine br_t (by rw [c1]; exact ha) ⟨isB_0, w_open_y z b5 (by omega) hr ⟨fun h => absurd h ne01, fun _ => w_mhp_y (by omega) r2 (by omega) hq ⟨fun h => absurd h ne01, fun _ => ⟨4 * r + q, by omega, by rw [ix4r], c, by omega, p4, br_t2 ha ⟨isB_0, rfl, hJ0⟩⟩⟩⟩⟩
  refine br_f (by rw [c1]; exact ha) ?_
  have hrt := RT_iff b3 r11 (nI q)
  refine w_hrt r4 r6 (fun hR => ⟨fun h => absurd h ne01, fun _ => ⟨isB_0, ?_⟩⟩) (fun hR => ⟨fun _ => ?_, fun h => absurd rfl h⟩)
  · refine w_open_y z b5 (by omega) hr ⟨fun h => absurd h ne01, fun _ => w_mhp_y (by omega) r2 (by omega) hq ⟨fun h => absurd h ne01, fun _ => ⟨4 * r + q, by omega, by rw [ix4r], c, by omega, p4, br_f2 ha ?_⟩⟩⟩
    exact w_ans (by omega) r5 r6 (fun _ => ⟨fun _ => ⟨isB_0, rfl, hJ0⟩, fun h => absurd h ne01⟩) (fun h => absurd (hrt.mp hR) h)
  have hR2 : ¬ RTm hm r (na r) (nI q) := fun h => hR (hrt.mpr h)
  refine w_maa r1 r4 r3 r6 (fun hok hn => ?_) (fun hno => ?_)
  · refine ⟨fun _ => w_add r4 hn isB_0 ⟨isB_1, ?_⟩, fun h => absurd h ne01⟩
    refine w_open_y z b5 (by omega) hr ⟨fun h => absurd h ne01, fun _ => w_mhp_y (by omega) r2 (by omega) hq ⟨fun h => absurd h ne01, fun _ => ⟨4 * r + q, by omega, by rw [ix4r], c, by omega, p4, br_f2 ha ?_⟩⟩⟩
    refine w_ans (by omega) r5 r6 (fun h => absurd h hR2) (fun _ => ⟨fun h => absurd rfl h, fun _ => ?_⟩)
    refine w_exp (by omega) r2 r3 (fun _ => ⟨fun h => absurd h ne01, fun _ => ⟨r, by omega, rfl, c_lt (b := 4) r5 rfl (by omega) (by omega) (fun _ => ?_) (fun h => absurd hn (by omega))⟩⟩) (fun h => absurd hok h)
    refine ⟨r, by omega, rfl, 4 * r + na r, by omega, by rw [r5, ix4r], ?_⟩
    rintro h11 rfl
    exact w_act (by omega) r5 hn ⟨isB_1, rfl, J_add hB hM s1 z (by omega) hn hok (Or.inr ⟨rfl, rfl, q, hq, rfl, rfl⟩)⟩
  · refine ⟨fun h => absurd rfl h, fun _ => ⟨isB_0, ?_⟩⟩
    refine w_open_y z b5 (by omega) hr ⟨fun h => absurd h ne01, fun _ => w_mhp_y (by omega) r2 (by omega) hq ⟨fun h => absurd h ne01, fun _ => ⟨4 * r + q, by omega, by rw [ix4r], c, by omega, p4, br_f2 ha ?_⟩⟩⟩
    refine w_ans (by omega) r5 r6 (fun h => absurd h hR2) (fun _ => ⟨fun h => absurd rfl h, fun _ => ?_⟩)
    exact w_exp (by omega) r2 r3 (fun hok => ⟨fun h => absurd h ne01, fun _ => ⟨r, by omega, rfl, c_lt (b := 4) r5 rfl (by omega) (by omega) (fun h => absurd ⟨hok, h⟩ hno) (fun _ => ⟨isB_0, rfl, hJ0⟩)⟩⟩) (fun _ => ⟨fun _ => ⟨isB_0, rfl, hJ0⟩, fun h => absurd rfl h⟩)
/-! seal -/
def SIL (hm : RS) (np na : Nat → Nat) (r : Nat) : Prop := ∃ p, p < np r ∧ (∃ c : Nat, c < 8 ∧ hm 3 (4 * r + p) = nI c ∧ ¬ hm 1 c = 0) ∧ ¬ RTm hm r (na r) (nI p)
theorem w_lcu {hv hm : RS} {nc r : Nat} {np na : Nat → Nat} {Q : Int32 → RS → Prop} (hc : nc ≤ 8) (hR : JR hv hm nc r (np r) (na r)) (b7 : ∀ c, c < 8 → hv (13 + c) 0 = hm 1 c ∧ isB (hm 1 c)) (f : SIL hm np na r → Q 1 hv) (g : ¬ SIL hm np na r → Q 0 hv) : wp_V_leavesCallUnanswered hv r Q := by
  obtain ⟨r1, r2, r3, r4, r5, r6, r7, r8, r9, r10, r11⟩ := hR
  have key : ∀ n i, np r - i < n → i ≤ np r → (∀ p, p < i → ¬ ((∃ c : Nat, c < 8 ∧ hm 3 (4 * r + p) = nI c ∧ ¬ hm 1 c = 0) ∧ ¬ RTm hm r (na r) (nI p))) → wp_V_leavesCallUnanswered_2 Q n hv r (nI i) := by
    intro n
    induction n with
    | zero => intro i h1; omega
    | succ n ih =>
      intro i hn hi hno
      show bp_V_leavesCallUnanswered_2 (wp_V_leavesCallUnanswered_2 Q n) Q hv r (nI i)
      unfold bp_V_leavesCallUnanswered_2
      refine c_le r1 rfl (by omega) (by omega) (fun hle => ⟨isB_0, g ?_⟩) (fun hlt => ?_)
      · rintro ⟨p, hp, h1⟩
        exact hno p (by omega) h1
      obtain ⟨c, t, p1, p2, p3, p4, -⟩ := r10 i hlt
      have hnext : ¬ ((∃ c : Nat, c < 8 ∧ hm 3 (4 * r + i) = nI c ∧ ¬ hm 1 c = 0) ∧ ¬ RTm hm r (na r) (nI i)) → wp_V_leavesCallUnanswered_2 Q n hv r (nI i + 1) := by
        intro h0
        rw [nI_1]
        refine ih (i + 1) (by omega) (by omega) (fun p hp => ?_)
        by_cases e : p = i
        · rw [e]; exact h0
        · exact hno p (by omega)
      refine ⟨i, by omega, rfl, c, by omega, p3, fun h0 => hnext ?_, fun h0 => ?_⟩
      · rintro ⟨⟨c', q1, q2, q3⟩, -⟩
        have e := nI_inj (by omega) (by omega) (p4.symm.trans q2)
        subst e
        rw [(b7 c (by omega)).1] at h0
        exact q3 h0
      · have hrt := RT_iff hc r11 (nI i)
        refine w_hrt r4 r6 (fun h1 => ⟨fun _ => hnext (fun q => q.2 (hrt.mp h1)), fun q => absurd q ne01⟩) (fun h1 => ⟨fun q => absurd rfl q, fun _ => ⟨isB_1, f ⟨i, hlt, ⟨c, by omega, p4, ?_⟩, fun q => h1 (hrt.mpr q)⟩⟩⟩)
        rw [← (b7 c (by omega)).1]
        exact h0
  exact ⟨np r + 1, key (np r + 1) 0 (by omega) (by omega) (fun j hj => absurd hj (by omega))⟩
theorem w_obs {hv hm : RS} {nc nr : Nat} {np na : Nat → Nat} {Q : Int32 → RS → Prop} (hB : JB hv hm nc nr np na) (z : hv 0 4 = 0) (hr : 0 < nr) (f3 : (∃ r, r < nr ∧ np r = 0) → Q 3 hv) (f4 : (∀ r, r < nr → ¬ np r = 0) → (∃ r, r < nr ∧ SIL hm np na r) → Q 4 hv) (f0 : (∀ r, r < nr → ¬ np r = 0) → (∀ r, r < nr → ¬ SIL hm np na r) → Q 0 hv) : wp_V_obstacleToSealing hv Q := by
  obtain ⟨b1, b2, b3, b4, b5, b6, b7, b8⟩ := hB
  have k2 : (∀ r, r < nr → ¬ np r = 0) → ∀ n i, nr - i < n → i ≤ nr → (∀ r, r < i → ¬ SIL hm np na r) → wp_V_obstacleToSealing_50 Q n hv (nI i) := by
    intro hnp n
    induction n with
    | zero => intro i h1; omega
    | succ n ih =>
      intro i hn hi hno
      show bp_V_obstacleToSealing_50 (wp_V_obstacleToSealing_50 Q n) Q hv (nI i)
      unfold bp_V_obstacleToSealing_50
      refine c_le b4 rfl (by omega) (by omega) (fun hle => f0 hnp (fun r h1 => hno r (by omega))) (fun hlt => ⟨i, by omega, rfl, ?_⟩)
      refine w_lcu b3 (b8 i (by omega)) b7 (fun h1 => ⟨fun q => absurd q ne01, fun _ => f4 hnp ⟨i, hlt, h1⟩⟩) (fun h1 => ⟨fun _ => ?_, fun q => absurd rfl q⟩)
      rw [nI_1]
      refine ih (i + 1) (by omega) (by omega) (fun r h2 => ?_)
      by_cases e : r = i
      · rw [e]; exact h1
      · exact hno r (by omega)
  have k1 : ∀ n i, nr - i < n → i ≤ nr → (∀ r, r < i → ¬ np r = 0) → wp_V_obstacleToSealing_20 Q n hv (nI i) := by
    intro n
    induction n with
    | zero => intro i h1; omega
    | succ n ih =>
      intro i hn hi hno
      show bp_V_obstacleToSealing_20 (wp_V_obstacleToSealing_20 Q n) Q hv (nI i)
      unfold bp_V_obstacleToSealing_20
      refine c_le b4 rfl (by omega) (by omega) (fun hle => ⟨nr + 1, k2 (fun r h1 => hno r (by omega)) (nr + 1) 0 (by omega) (by omega) (fun r h => absurd h (by omega))⟩) (fun hlt => ⟨i, by omega, rfl, ?_⟩)
      obtain ⟨r1, r2, r3, -⟩ := b8 i (by omega)
      refine c_ne (b := 0) r1 rfl (by omega) (by omega) (fun e => f3 ⟨i, hlt, e⟩) (fun e => ?_)
      rw [nI_1]
      refine ih (i + 1) (by omega) (by omega) (fun r h2 => ?_)
      by_cases e2 : r = i
      · rw [e2]; exact e
      · exact hno r (by omega)
  refine ⟨fun _ => ⟨fun _ => ⟨nr + 1, k1 (nr + 1) 0 (by omega) (by omega) (fun r h => absurd h (by omega))⟩, fun e => ?_⟩, fun q => absurd z q⟩
  rw [b4] at e
  exact absurd e (nI_ne0 hr (by omega))
theorem w_seal {hm : RS} {hv : RS} {nc nr : Nat} {np na : Nat → Nat} {Q : Int32 → RS → Prop} (hB : JB hv hm nc nr np na) (z : hm 0 15 = 0) (hr : 0 < nr) (f3 : (∃ r, r < nr ∧ np r = 0) → Q 3 hm) (f4 : (∀ r, r < nr → ¬ np r = 0) → (∃ r, r < nr ∧ SIL hm np na r) → Q 4 (up2 hm 0 15 0)) (f0 : (∀ r, r < nr → ¬ np r = 0) → (∀ r, r < nr → ¬ SIL hm np na r) → Q 0 (up2 hm 0 15 1)) : wp_M_seal hm Q := by
  obtain ⟨b1, b2, b3, b4, b5, b6, b7, b8⟩ := hB
  have key : ∀ n i (x y : Int32), nr - i < n → i ≤ nr → ((x = 1 ∧ ∃ r, r < i ∧ np r = 0) ∨ (x = 0 ∧ ∀ r, r < i → ¬ np r = 0)) → ((y = 1 ∧ ∃ r, r < i ∧ SIL hm np na r) ∨ (y = 0 ∧ ∀ r, r < i → ¬ SIL hm np na r)) → wp_M_seal_24 Q n hm x y (nI i) := by
    intro n
    induction n with
    | zero => intro i x y h1; omega
    | succ n ih =>
      intro i x y hn hi hx hy
      show bp_M_seal_24 (wp_M_seal_24 Q n) Q hm x y (nI i)
      unfold bp_M_seal_24
      refine c_le b5 rfl (by omega) (by omega) (fun hle => ?_) (fun hlt => ?_)
      · have hin : i = nr := by omega
        subst hin
        rcases hx with ⟨rfl, h1⟩ | ⟨rfl, h1⟩
        · exact ⟨fun q => absurd q ne01, fun _ => f3 h1⟩
        · refine ⟨fun _ => ?_, fun q => absurd rfl q⟩
          unfold bp_M_seal_132
          rcases hy with ⟨rfl, h2⟩ | ⟨rfl, h2⟩
          · refine ⟨fun _ => ⟨isB_0, ?_⟩, fun q => absurd q ne01⟩
            rintro h3 rfl
            exact ⟨fun q => absurd q ne01, fun _ => f4 h1 h2⟩
          · refine ⟨fun q => absurd rfl q, fun _ => ⟨isB_1, ?_⟩⟩
            rintro h3 rfl
            exact ⟨fun _ => f0 h1 h2, fun q => absurd rfl q⟩
      obtain ⟨r1, r2, r3, r4, r5, r6, r7, r8, r9, r10, r11⟩ := b8 i (by omega)
      have inner : ∀ (x' : Int32), ((x' = 1 ∧ ∃ r, r < i + 1 ∧ np r = 0) ∨ (x' = 0 ∧ ∀ r, r < i + 1 → ¬ np r = 0)) → bp_M_seal_50 (wp_M_seal_24 Q n) Q hm y (nI i) x' := by
        intro x' hx'
        have k2 : ∀ n2 j (y' : Int32), np i - j < n2 → j ≤ np i → ((y' = 1 ∧ ((∃ r, r < i ∧ SIL hm np na r) ∨ ∃ p, p < j ∧ (∃ c : Nat, c < 8 ∧ hm 3 (4 * i + p) = nI c ∧ ¬ hm 1 c = 0) ∧ ¬ RTm hm i (na i) (nI p))) ∨ (y' = 0 ∧ (∀ r, r < i → ¬ SIL hm np na r) ∧ ∀ p, p < j → ¬ ((∃ c : Nat, c < 8 ∧ hm 3 (4 * i + p) = nI c ∧ ¬ hm 1 c = 0) ∧ ¬ RTm hm i (na i) (nI p)))) → wp_M_seal_54 (wp_M_seal_24 Q n) Q n2 hm x' y' (nI i) (nI j) := by
          intro n2
          induction n2 with
          | zero => intro j y' h1; omega
          | succ n2 ih2 =>
            intro j y' hn2 hj hy'
            show bp_M_seal_54 (wp_M_seal_24 Q n) (wp_M_seal_54 (wp_M_seal_24 Q n) Q n2) Q hm x' y' (nI i) (nI j)
            unfold bp_M_seal_54 bp_M_seal_98 bp_M_seal_102
            refine ⟨i, by omega, rfl, c_le r2 rfl (by omega) (by omega) (fun hle => ?_) (fun hlt2 => ?_)⟩
            · rw [nI_1]
              refine ih (i + 1) x' y' (by clear hx hy hx' hy' ih2; omega) (by clear hx hy hx' hy' ih2; omega) hx' ?_
              rcases hy' with ⟨rfl, h1 | ⟨p, hp, h1⟩⟩ | ⟨rfl, h1, h2⟩
              · obtain ⟨r, hr1, h1⟩ := h1
                exact Or.inl ⟨rfl, r, by omega, h1⟩
              · exact Or.inl ⟨rfl, i, by omega, p, by omega, h1⟩
              · refine Or.inr ⟨rfl, fun r hr1 => ?_⟩
                by_cases e : r = i
                · rw [e]
                  rintro ⟨p, hp, h3⟩
                  exact h2 p (by omega) h3
                · exact h1 r (by omega)
            rw [nI_1]
            rcases hy' with ⟨rfl, h1⟩ | ⟨rfl, h1, h2⟩
            · refine ⟨fun _ => ih2 (j + 1) 1 (by omega) (by omega) (Or.inl ⟨rfl, ?_⟩), fun q => absurd q ne01⟩
              rcases h1 with h1 | ⟨p, hp, h1⟩
              · exact Or.inl h1
              · exact Or.inr ⟨p, by omega, h1⟩
            obtain ⟨c, t, p1, p2, p3, p4, -⟩ := r10 j hlt2
            have hnext : ¬ ((∃ c : Nat, c < 8 ∧ hm 3 (4 * i + j) = nI c ∧ ¬ hm 1 c = 0) ∧ ¬ RTm hm i (na i) (nI j)) → wp_M_seal_54 (wp_M_seal_24 Q n) Q n2 hm x' 0 (nI i) (nI (j + 1)) := by
              intro h0
              refine ih2 (j + 1) 0 (by omega) (by omega) (Or.inr ⟨rfl, h1, fun p hp => ?_⟩)
              by_cases e : p = j
              · rw [e]; exact h0
              · exact h2 p (by omega)
            refine ⟨fun q => absurd rfl q, fun _ => ⟨4 * i + j, by omega, by rw [ix4r], c, by omega, p4, fun h0 => hnext ?_, fun h0 => ?_⟩⟩
            · rintro ⟨⟨c', q1, q2, q3⟩, -⟩
              have e := nI_inj (by omega) (by omega) (p4.symm.trans q2)
              subst e
              exact q3 h0
            · refine w_ans (by omega) r5 r6 (fun h3 => ⟨fun _ => hnext (fun q => q.2 h3), fun q => absurd q ne01⟩) (fun h3 => ⟨fun q => absurd rfl q, fun _ => ?_⟩)
              exact ih2 (j + 1) 1 (by omega) (by omega) (Or.inl ⟨rfl, Or.inr ⟨j, by omega, ⟨c, by omega, p4, h0⟩, h3⟩⟩)
        refine ⟨np i + 1, k2 (np i + 1) 0 y (by omega) (by omega) ?_⟩
        rcases hy with ⟨rfl, h1⟩ | ⟨rfl, h1⟩
        · exact Or.inl ⟨rfl, Or.inl h1⟩
        · exact Or.inr ⟨rfl, h1, fun p hp => absurd hp (by omega)⟩
      unfold bp_M_seal_45
      rcases hx with ⟨rfl, r, hr1, h1⟩ | ⟨rfl, h1⟩
      · exact ⟨fun _ => inner 1 (Or.inl ⟨rfl, r, by omega, h1⟩), fun q => absurd q ne01⟩
      · refine ⟨fun q => absurd rfl q, fun _ => ⟨i, by omega, rfl, c_ne (b := 0) r2 rfl (by omega) (by omega) (fun e => inner 1 (Or.inl ⟨rfl, i, by omega, e⟩)) (fun e => inner 0 (Or.inr ⟨rfl, fun r hr1 => ?_⟩))⟩⟩
        by_cases e2 : r = i
        · rw [e2]; exact e
        · exact h1 r (by omega)
  refine ⟨fun _ => ⟨fun _ => ⟨nr + 1, key (nr + 1) 0 0 0 (by omega) (by omega) (Or.inr ⟨rfl, fun r h => absurd h (by omega)⟩) (Or.inr ⟨rfl, fun r h => absurd h (by omega)⟩)⟩, fun e => ?_⟩, fun q => absurd z q⟩
  rw [b5] at e
  exact absurd e (nI_ne0 hr (by omega))
theorem up2_id {h : RS} {i k : Nat} {v : Int32} (e : h i k = v) : up2 h i k v = h := by
  funext j l
  rw [up2_at]
  by_cases q : j = i ∧ l = k
  · rw [if_pos q, q.1, q.2, e]
  · rw [if_neg q]
theorem st_seal {hv hm : RS} (hJ : J hv hm) : wp_V_seal hv (fun r h1 => wp_M_seal hm (fun r2 h2 => r = r2 ∧ J h1 h2)) := by
  have hJ0 := hJ
  obtain ⟨nc, nr, nm, nf, np, na, hB, hM, s1, hS⟩ := hJ
  obtain ⟨b1, b2, b3, b4, b5, b6, b7, b8⟩ := id hB
  unfold wp_V_seal bp_V_seal_0
  rcases hS with ⟨z, rfl, rfl⟩ | ⟨z, hS⟩
  rotate_left
  · have hz : ¬ hm 0 15 = 0 := by rw [z]; exact ne01
    exact ⟨fun h => absurd h (by rw [s1]; exact hz), fun _ => ⟨fun _ => ⟨fun h => absurd h hz, fun _ => ⟨rfl, hJ0⟩⟩, fun h => absurd h ne01⟩⟩
  have z1 : hv 0 4 = 0 := s1.trans z
  rcases Nat.eq_zero_or_pos nr with h0 | h0
  · subst h0
    refine ⟨fun _ => ⟨fun q => absurd b4 q, fun _ => ⟨fun _ => ?_, fun q => absurd q (by decide)⟩⟩, fun q => absurd z1 q⟩
    exact ⟨fun _ => ⟨fun q => absurd b5 q, fun _ => ⟨rfl, hJ0⟩⟩, fun q => absurd z q⟩
  refine w_obs hB z1 h0 (fun h3 => ⟨fun _ => ?_, fun q => absurd q (by decide)⟩) (fun h1 h2 => ⟨fun _ => ?_, fun q => absurd q (by decide)⟩) (fun h1 h2 => ⟨fun q => absurd rfl q, fun _ => ⟨isB_1, ?_⟩⟩)
  · obtain ⟨r, hr, e⟩ := h3
    exact w_seal hB z h0 (fun _ => ⟨rfl, hJ0⟩) (fun q _ => absurd e (q r hr)) (fun q _ => absurd e (q r hr))
  · obtain ⟨r, hr, e⟩ := h2
    exact w_seal hB z h0 (fun ⟨r', hr', e'⟩ => absurd e' (h1 r' hr')) (fun _ _ => ⟨rfl, by rw [up2_id z]; exact hJ0⟩) (fun _ q => absurd e (q r hr))
  · rintro h3 rfl
    refine w_seal hB z h0 (fun ⟨r', hr', e'⟩ => absurd e' (h1 r' hr')) (fun _ ⟨r', hr', e'⟩ => absurd e' (h2 r' hr')) (fun _ _ => ⟨rfl, ?_⟩)
    refine ⟨nc, nr, 0, 0, np, na, JB_keep hB ?_ ?_ ?_ ?_ ?_ ?_ ?_, JM_keep hM ?_ ?_ ?_ ?_ ?_ ?_ ?_ ?_, ?_, Or.inr ⟨up2_s, h0, fun r hr => Nat.pos_of_ne_zero (h1 r hr)⟩⟩
    · rw [up2_o (by omega)]
    · rw [up2_o (by omega)]
    · intro c hc; rw [up2_o (by omega)]
    · intro i hi; rw [up2_f (by omega)]
    · rw [up2_o (by omega)]
    · rw [up2_o (by omega)]
    · intro i h1 h2; rw [up2_f (by omega)]
    · rw [up2_o (by omega)]
    · rw [up2_o (by omega)]
    · intro i h1 h2; rw [up2_f (by omega)]
    · intro c hc; rw [up2_o (by omega)]
    · intro i h1 h2; rw [up2_f (by omega)]
    · rw [up2_o (by omega)]
    · rw [up2_o (by omega)]
    · intro i h1 h2; rw [up2_f (by omega)]
    · rw [up2_s, up2_s]
