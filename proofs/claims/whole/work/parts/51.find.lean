/-! the reference's search -/
def scr3 (h0 h : RS) : Prop := ∀ i, i ≠ 22 → i ≠ 23 → h i = h0 i
def SRm (g h0 : RS) (nm r P : Nat) : Prop := P ≤ 4 ∧ nm ≤ 300 ∧ g 2 r = nI P ∧ kN g r ≤ 5 ∧ g 6 r = nI (kN g r) ∧ (∀ i, i < P → chN g r i < 8 ∧ g 3 (4 * r + i) = nI (chN g r i) ∧ tN g r i ≤ 4 ∧ g 4 (4 * r + i) = nI (tN g r i) ∧ (pl g nm r i).length ≤ 6) ∧ scrM g h0 ∧ GA g nm h0
theorem SRm_of {hv g h0 : RS} {nc nr nm nf r : Nat} {np na : Nat → Nat} (hB : JB hv g nc nr np na) (hM : JM hv g nc nr nm nf) (hr : r < 8) (hs : scrM g h0) (hg : GA g nm h0) : SRm g h0 nm r (np r) := by
  obtain ⟨b1, b2, b3, b4, b5, b6, b7, b8⟩ := hB
  obtain ⟨r1, r2, r3, r4, r5, r6, r7, ⟨k, r8, r8'⟩, r9, r10, r11⟩ := b8 r hr
  obtain ⟨m1, m2, m3, m4, m5, m6, m7, m8, m9, m10⟩ := hM
  have ek : kN g r = k := by unfold kN; rw [r8']; exact nI_clamp (by omega)
  refine ⟨r3, m3, r2, by rw [ek]; exact r8, by rw [ek]; exact r8', fun i hi => ?_, hs, hg⟩
  obtain ⟨c, t, p1, p2, p3, p4, p5, p6, p7⟩ := r10 i hi
  have ec : chN g r i = c := by unfold chN; rw [p4]; exact nI_clamp (by omega)
  have et : tN g r i = t := by unfold tN; rw [p6]; exact nI_clamp (by omega)
  unfold pl
  rw [ec, et]
  exact ⟨by omega, p4, p2, p6, (m10 c (by omega)).1⟩
theorem w_cho {g h0 h : RS} {nm r P i : Nat} {d : Nat → Nat} {Q : Int32 → RS → Prop} (hr : r < 8) (S : SRm g h0 nm r P) (hs : scr3 h0 h) (hi : i < P) (e22 : h 22 i = nI (d i)) (hd : d i < (pl g nm r i).length) (q : Q (nI (mg g nm r d i)) h) : wp_M_chosen h (nI r) (nI i) Q := by
  obtain ⟨hP, hnm, s2, sk, s6, sI, ss, sg⟩ := S
  obtain ⟨i1, i2, i3, i4, i5⟩ := sI i hi
  refine ⟨4 * r + i, by omega, by rw [ix4r], i, by omega, rfl, 6 * chN g r i + d i, by omega, ?_, ?_⟩
  · rw [hs 3 (by omega) (by omega), ss 3 (by omega), i2, e22]
    have h6 : (6 : Int32) = nI 6 := rfl
    rw [h6, pk_mul, nI_add]
  · have e : h 20 (6 * chN g r i + d i) = nI (mg g nm r d i) := by
      rw [hs 20 (by omega) (by omega)]
      exact sg.2 (chN g r i) (d i) i1 hd
    rw [e]
    exact q
theorem w_mat {g h0 h : RS} {nm r P : Nat} {d : Nat → Nat} {Q : Int32 → RS → Prop} (hr : r < 8) (S : SRm g h0 nm r P) (hs : scr3 h0 h) (e22 : ∀ i, i < P → h 22 i = nI (d i)) (hd : ∀ i, i < P → d i < (pl g nm r i).length) (f : ∀ h', scr3 h0 h' → (∀ i, i < P → h' 22 i = nI (d i) ∧ h' 23 i = vl g nm r d i) → OKd g nm r P d → Q 1 h') (g0 : ∀ h', scr3 h0 h' → ¬ OKd g nm r P d → Q 0 h') : wp_M_matches h (nI r) Q := by
  have S0 := S
  obtain ⟨hP, hnm, s2, sk, s6, sI, ss, sg⟩ := S
  have hml : ∀ i, i < P → mg g nm r d i < nm := fun i hi => (pend_lt (g := g) (n := nm) (c := chN g r i) (hd i hi)).1
  have key : ∀ n i (b : Int32) (h1 : RS), P - i < n → i ≤ P → scr3 h0 h1 → (∀ j, j < P → h1 22 j = nI (d j)) → (∀ j, j < i → h1 23 j = vl g nm r d j) → FL b ((∀ a, a < i → TST (tN g r a) (g 5 (4 * r + a)) (vl g nm r d a)) ∧ ∀ a b, a < i → b < a → ¬ mg g nm r d b = mg g nm r d a) → wp_M_matches_4 Q n h1 (nI r) b (nI i) := by
    intro n
    induction n with
    | zero => intro i b h1 q; omega
    | succ n ih =>
      intro i b h1 hn hi hs1 h22 h23 hb
      show bp_M_matches_4 (wp_M_matches_4 Q n) Q h1 (nI r) b (nI i)
      unfold bp_M_matches_4
      have e2 : h1 2 r = nI P := by rw [hs1 2 (by omega) (by omega), ss 2 (by omega)]; exact s2
      refine ⟨r, hr, rfl, c_le e2 rfl (by omega) (by omega) (fun hle => ?_) (fun hlt => ?_)⟩
      · have ei : i = P := by omega
        subst ei
        rcases hb with ⟨rfl, w1, w2⟩ | ⟨rfl, w⟩
        · refine br_f ne01 (w_gd (n0 := g 7 r) hr e2 hP sk (by rw [hs1 6 (by omega) (by omega), ss 6 (by omega)]; exact s6) (by rw [hs1 7 (by omega) (by omega), ss 7 (by omega)]) (fun w => ⟨fun q => absurd q ne01, fun _ => ⟨isB_1, f h1 hs1 (fun j hj => ⟨h22 j hj, h23 j hj⟩) ⟨hd, w1, w2, GRD_congr h23 w⟩⟩⟩) (fun w => ⟨fun _ => ⟨isB_0, g0 h1 hs1 (fun ho => w (GRD_congr (fun j hj => (h23 j hj).symm) ho.2.2.2))⟩, fun q => absurd rfl q⟩))
        · exact br_t rfl ⟨isB_0, g0 h1 hs1 (fun ho => w ⟨ho.2.1, ho.2.2.1⟩)⟩
      obtain ⟨i1, i2, i3, i4, i5⟩ := sI i hlt
      refine w_cho hr S0 hs1 hlt (h22 i hlt) (hd i hlt) ⟨mg g nm r d i, by have := hml i hlt; omega, rfl, i, by omega, rfl, ?_⟩
      rintro h11 rfl
      have e15 : ∀ m, h1 15 m = g 15 m := fun m => by rw [hs1 15 (by omega) (by omega), ss 15 (by omega)]
      have hs2 : scr3 h0 (up2 h1 23 i (h1 15 (mg g nm r d i))) := fun j h2 h3 => by rw [up2_f h3]; exact hs1 j h2 h3
      have h22b : ∀ j, j < P → up2 h1 23 i (h1 15 (mg g nm r d i)) 22 j = nI (d j) := fun j hj => by rw [up2_o (by omega)]; exact h22 j hj
      have h23b : ∀ j, j < i + 1 → up2 h1 23 i (h1 15 (mg g nm r d i)) 23 j = vl g nm r d j := fun j hj => by
        by_cases e : j = i
        · rw [e, up2_s, e15]; rfl
        · rw [up2_o (by omega)]; exact h23 j (by omega)
      generalize up2 h1 23 i (h1 15 (mg g nm r d i)) = h2 at hs2 h22b h23b ⊢
      have inner : ∀ b' : Int32, FL b' (((∀ a, a < i → TST (tN g r a) (g 5 (4 * r + a)) (vl g nm r d a)) ∧ ∀ a b, a < i → b < a → ¬ mg g nm r d b = mg g nm r d a) ∧ TST (tN g r i) (g 5 (4 * r + i)) (vl g nm r d i)) → bp_M_matches_63 (wp_M_matches_4 Q n) Q h2 (nI r) (nI i) (nI (mg g nm r d i)) b' := by
        intro b' hb'
        have k2 : ∀ n2 j (b2 : Int32), i - j < n2 → j ≤ i → FL b2 ((((∀ a, a < i → TST (tN g r a) (g 5 (4 * r + a)) (vl g nm r d a)) ∧ ∀ a b, a < i → b < a → ¬ mg g nm r d b = mg g nm r d a) ∧ TST (tN g r i) (g 5 (4 * r + i)) (vl g nm r d i)) ∧ ∀ b, b < j → ¬ mg g nm r d b = mg g nm r d i) → wp_M_matches_67 (wp_M_matches_4 Q n) Q n2 h2 (nI r) b2 (nI i) (nI (mg g nm r d i)) (nI j) := by
          intro n2
          induction n2 with
          | zero => intro j b2 q; omega
          | succ n2 ih2 =>
            intro j b2 hn2 hj hb2
            show bp_M_matches_67 (wp_M_matches_4 Q n) (wp_M_matches_67 (wp_M_matches_4 Q n) Q n2) Q h2 (nI r) b2 (nI i) (nI (mg g nm r d i)) (nI j)
            unfold bp_M_matches_67 bp_M_matches_93
            refine c_le rfl rfl (by omega) (by omega) (fun hle => ?_) (fun hlt2 => ?_)
            · have ej : j = i := by omega
              subst ej
              rw [nI_1]
              refine ih (j + 1) b2 h2 (by omega) (by omega) hs2 h22b h23b (FL_iff ⟨fun w => ⟨fun a ha => ?_, fun a b h3 h4 => ?_⟩, fun w => ⟨⟨⟨fun a ha => w.1 a (by omega), fun a b h3 h4 => w.2 a b (by omega) h4⟩, w.1 j (by omega)⟩, fun b h3 => w.2 j b (by omega) h3⟩⟩ hb2)
              · by_cases e : a = j
                · rw [e]; exact w.1.2
                · exact w.1.1.1 a (by omega)
              · by_cases e : a = j
                · rw [e]; exact w.2 b (by omega)
                · exact w.1.1.2 a b (by omega) h4
            · rw [nI_1]
              rcases hb2 with ⟨rfl, w⟩ | ⟨rfl, w⟩
              · refine br_f ne01 (w_cho hr S0 hs2 (by omega) (h22b j (by omega)) (hd j (by omega)) ?_)
                refine c_eq rfl rfl (by have := hml j (by omega); omega) (by have := hml i hlt; omega) (fun q => ih2 (j + 1) 0 (by omega) (by omega) (Or.inr ⟨rfl, fun w2 => w2.2 j (by omega) q⟩)) (fun q => ih2 (j + 1) 1 (by omega) (by omega) (Or.inl ⟨rfl, w.1, fun b hb3 => ?_⟩))
                by_cases e : b = j
                · rw [e]; exact q
                · exact w.2 b (by omega)
              · exact br_t rfl (ih2 (j + 1) 0 (by omega) (by omega) (Or.inr ⟨rfl, fun w2 => w ⟨w2.1, fun b hb3 => w2.2 b (by omega)⟩⟩))
        exact ⟨i + 1, k2 (i + 1) 0 b' (by omega) (by omega) (FL_iff ⟨fun w => ⟨w, fun b hb3 => absurd hb3 (by omega)⟩, fun w => w.1⟩ hb')⟩
      unfold bp_M_matches_62
      rcases hb with ⟨rfl, w⟩ | ⟨rfl, w⟩
      · refine br_f ne01 ⟨mg g nm r d i, by have := hml i hlt; omega, rfl, ?_⟩
        rw [ix4r]
        have ev : h2 15 (mg g nm r d i) = vl g nm r d i := by rw [hs2 15 (by omega) (by omega), ss 15 (by omega)]; rfl
        rw [ev]
        exact w_ps (n := g 5 (4 * r + i)) (by omega) i3 (by rw [hs2 4 (by omega) (by omega), ss 4 (by omega)]; exact i4) (by rw [hs2 5 (by omega) (by omega), ss 5 (by omega)]) (fun hT => ⟨fun q => absurd q ne01, fun _ => inner 1 (Or.inl ⟨rfl, w, hT⟩)⟩) (fun hT => ⟨fun _ => inner 0 (Or.inr ⟨rfl, fun w2 => hT w2.2⟩), fun q => absurd rfl q⟩)
      · exact br_t rfl (inner 0 (Or.inr ⟨rfl, fun w2 => w w2.1⟩))
  exact ⟨P + 1, key (P + 1) 0 1 h (by omega) (by omega) hs e22 (fun j hj => absurd hj (by omega)) (Or.inl ⟨rfl, fun a ha => absurd ha (by omega), fun a b ha => absurd ha (by omega)⟩)⟩
theorem w_find {g h0 h : RS} {nm r P : Nat} {Q : Int32 → RS → Prop} (hr : r < 8) (S : SRm g h0 nm r P) (hs : scr3 h0 h) (f : ∀ (h' : RS) (d : Nat → Nat), scr3 h0 h' → (∀ i, i < P → h' 22 i = nI (d i) ∧ h' 23 i = vl g nm r d i) → FST g nm r P d → Q 1 h') (g0 : ∀ h', scr3 h0 h' → NON g nm r P → Q 0 h') : wp_M_find h (nI r) Q := by
  have S0 := S
  obtain ⟨hP, hnm, s2, sk, s6, sI, ss, sg⟩ := S
  have hcl : ∀ i, i < P → (pl g nm r i).length ≤ 6 := fun i hi => (sI i hi).2.2.2.2
  have hrow : prN (fun i => (pl g nm r i).length) P = Wt (fun i => (pl g nm r i).length) P P := prN_P _ _
  have hrl : prN (fun i => (pl g nm r i).length) P ≤ 1296 := prN_small hP (Nat.le_refl _) hcl
  have k2 : ∀ n q (h1 : RS), prN (fun i => (pl g nm r i).length) P - q < n → q ≤ prN (fun i => (pl g nm r i).length) P → scr3 h0 h1 → (∀ d, OKd g nm r P d → ¬ En (fun i => (pl g nm r i).length) P d P < q) → wp_M_find_40 Q n h1 (nI r) (nI (prN (fun i => (pl g nm r i).length) P)) (nI q) := by
    intro n
    induction n with
    | zero => intro q h1 w; omega
    | succ n ih =>
      intro q h1 hn hq hs1 hno
      show bp_M_find_40 (wp_M_find_40 Q n) Q h1 (nI r) _ (nI q)
      unfold bp_M_find_40
      have e2 : h1 2 r = nI P := by rw [hs1 2 (by omega) (by omega), ss 2 (by omega)]; exact s2
      refine c_le rfl rfl (by omega) (by omega) (fun hle => ⟨isB_0, g0 h1 hs1 (fun d ho => hno d ho ?_)⟩) (fun hlt => ⟨r, hr, rfl, ?_⟩)
      · have h9 := En_lt (cnt := fun i => (pl g nm r i).length) (d := d) ho.1 P (Nat.le_refl _)
        omega
      have hlt' : q < Wt (fun i => (pl g nm r i).length) P P := by omega
      have hcp : ∀ i, i < P → 0 < (pl g nm r i).length := fun i hi => cnt_pos (cnt := fun i => (pl g nm r i).length) hi (by omega)
      have hdv : ∀ i, i < P → dq (fun i => (pl g nm r i).length) P q i < (pl g nm r i).length := fun i hi => Nat.mod_lt _ (hcp i hi)
      have k3 : ∀ n2 j (h2 : RS), j < n2 → j ≤ P → scr3 h0 h2 → (∀ i, j ≤ i → i < P → h2 22 i = nI (dq (fun i => (pl g nm r i).length) P q i)) → wp_M_find_58 (wp_M_find_40 Q n) Q n2 h2 (nI r) (nI (prN (fun i => (pl g nm r i).length) P)) (nI q) (nI (q / Wt (fun i => (pl g nm r i).length) P (P - j))) (nI j + (-1)) := by
        intro n2
        induction n2 with
        | zero => intro j h2 w; omega
        | succ n2 ih2 =>
          intro j h2 hn2 hj hs2 h22
          show bp_M_find_58 (wp_M_find_40 Q n) (wp_M_find_58 (wp_M_find_40 Q n) Q n2) Q h2 (nI r) _ (nI q) _ (nI j + (-1))
          unfold bp_M_find_58
          rcases Nat.eq_zero_or_pos j with h0' | h0'
          · subst h0'
            refine br_t (by decide) ?_
            refine w_mat hr S0 hs2 (fun i hi => h22 i (by omega) hi) hdv (fun h' hs' hrow' ho => ⟨fun w => absurd w ne01, fun _ => ⟨isB_1, f h' (dq (fun i => (pl g nm r i).length) P q) hs' hrow' ⟨ho, fun d' ho' hL => ?_⟩⟩⟩) (fun h' hs' hno' => ⟨fun _ => ?_, fun w => absurd rfl w⟩)
            · have h9 := lex_En (cnt := fun i => (pl g nm r i).length) ho'.1 hL
              rw [En_q hlt'] at h9
              exact hno d' ho' h9
            · rw [nI_1]
              refine ih (q + 1) h' (by omega) (by omega) hs' (fun d ho hlt2 => ?_)
              have h8 := hno d ho
              have e : En (fun i => (pl g nm r i).length) P d P = q := by omega
              refine hno' (OKd_congr (fun i hi => ?_) ho)
              have h9 := dq_En (cnt := fun i => (pl g nm r i).length) (d := d) ho.1 hi
              rw [e] at h9
              exact h9.symm
          · obtain ⟨j', rfl⟩ : ∃ j', j = j' + 1 := ⟨j - 1, by omega⟩
            rw [pk_m1]
            obtain ⟨i1, i2, i3, i4, i5⟩ := sI j' (by omega)
            have e21 : h2 21 (chN g r j') = nI (pl g nm r j').length := by rw [hs2 21 (by omega) (by omega)]; exact sg.1 _ i1
            have hcj := hcp j' (by omega)
            have hne : ¬ nI (pl g nm r j').length = 0 := nI_ne0 hcj (by omega)
            have hqd : q / Wt (fun i => (pl g nm r i).length) P (P - (j' + 1)) < 2 ^ 31 := Nat.lt_of_le_of_lt (Nat.div_le_self _ _) (by omega)
            refine br_f (nI_pos (by omega)) ⟨4 * r + j', by omega, by rw [ix4r], chN g r j', i1, by rw [hs2 3 (by omega) (by omega), ss 3 (by omega)]; exact i2, by rw [e21]; exact hne, j', by omega, rfl, ?_⟩
            rw [e21, pk_rem hqd hcj (by omega), pk_div hqd hcj (by omega)]
            rintro h6 rfl
            refine ⟨hne, ?_⟩
            have eW : q / Wt (fun i => (pl g nm r i).length) P (P - (j' + 1)) / (pl g nm r j').length = q / Wt (fun i => (pl g nm r i).length) P (P - j') := by
              rw [Nat.div_div_eq_div_mul]
              congr 1
              have h9 : Wt (fun i => (pl g nm r i).length) P (P - (j' + 1) + 1) = (pl g nm r (P - (P - (j' + 1) + 1))).length * Wt (fun i => (pl g nm r i).length) P (P - (j' + 1)) := rfl
              rw [show P - (j' + 1) + 1 = P - j' by omega, show P - (P - j') = j' by omega] at h9
              rw [h9, Nat.mul_comm]
            rw [eW]
            refine ih2 j' _ (by omega) (by omega) (fun i h3 h4 => by rw [up2_f h3]; exact hs2 i h3 h4) (fun i h3 h4 => ?_)
            by_cases e : i = j'
            · rw [e, up2_s]
              unfold dq
              rw [show P - 1 - j' = P - (j' + 1) by omega]
            · rw [up2_o (by omega)]; exact h22 i (by omega) h4
      have e1 : h1 2 r - (1 : Int32) = nI P + (-1) := by rw [e2]; exact Int32.sub_eq_add_neg _ _
      rw [e1]
      have h9 := k3 (P + 1) P h1 (by omega) (by omega) hs1 (fun i h3 h4 => absurd h4 (by omega))
      rw [Nat.sub_self] at h9
      have e3 : q / Wt (fun i => (pl g nm r i).length) P 0 = q := Nat.div_one q
      rw [e3] at h9
      exact ⟨P + 1, h9⟩
  have k1 : ∀ n j, P - j < n → j ≤ P → wp_M_find_4 Q n h (nI r) (nI (prN (fun i => (pl g nm r i).length) j)) (nI j) := by
    intro n
    induction n with
    | zero => intro j w; omega
    | succ n ih =>
      intro j hn hj
      show bp_M_find_4 (wp_M_find_4 Q n) Q h (nI r) _ (nI j)
      unfold bp_M_find_4
      have e2 : h 2 r = nI P := by rw [hs 2 (by omega) (by omega), ss 2 (by omega)]; exact s2
      refine ⟨r, hr, rfl, c_le e2 rfl (by omega) (by omega) (fun hle => ?_) (fun hlt => ?_)⟩
      · have ej : j = P := by omega
        rw [ej]
        exact ⟨_, k2 _ 0 h (Nat.lt_succ_self _) (by omega) hs (fun d _ => Nat.not_lt_zero _)⟩
      · obtain ⟨i1, i2, i3, i4, i5⟩ := sI j hlt
        refine ⟨4 * r + j, by omega, by rw [ix4r], chN g r j, i1, by rw [hs 3 (by omega) (by omega), ss 3 (by omega)]; exact i2, ?_⟩
        have e21 : h 21 (chN g r j) = nI (pl g nm r j).length := by rw [hs 21 (by omega) (by omega)]; exact sg.1 _ i1
        rw [e21, pk_mul, nI_1]
        exact ih (j + 1) (by omega) (by omega)
  exact ⟨P + 1, k1 (P + 1) 0 (by omega) (by omega)⟩
