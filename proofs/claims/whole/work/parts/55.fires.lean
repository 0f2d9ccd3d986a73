/-! firing on both sides -/
/-- what a row of taken messages is -/
def ROW (g : RS) (nm r P : Nat) (L : Nat → Nat) : Prop := (∀ i, i < P → L i < nm ∧ g 14 (L i) = nI (chN g r i) ∧ g 16 (L i) = 1 ∧ chN g r i < 8 ∧ g 3 (4 * r + i) = nI (chN g r i)) ∧ ∀ i j, i < P → j < i → ¬ L j = L i
theorem ROW_of {hv g : RS} {nm r P : Nat} {d : Nat → Nat} (S : SRv hv g nm r P) (h3 : ∀ i, i < P → g 3 (4 * r + i) = nI (chN g r i)) (hF : OKd g nm r P d) : ROW g nm r P (mg g nm r d) := by
  refine ⟨fun i hi => ?_, hF.2.2.1⟩
  have h9 := pend_lt (g := g) (n := nm) (c := chN g r i) (hF.1 i hi)
  exact ⟨h9.1, h9.2.1, h9.2.2, (S.2.2.2.2.2.2.2 i hi).1, h3 i hi⟩
theorem cM_len {g : RS} {nm r P : Nat} {L : Nat → Nat} {y : Int32} (R : ROW g nm r P L) : ∀ k, k ≤ P → ∀ c, c < 8 → (pend (cM g L y k) nm c).length + PO g r c k = (pend g nm c).length := by
  intro k
  induction k with
  | zero => intro _ c _; rfl
  | succ k ih =>
    intro hk c hc
    have h0 := ih (by omega) c hc
    obtain ⟨l1, l2, l3, l4, l5⟩ := R.1 k (by omega)
    have e14 : cM g L y k 14 (L k) = nI (chN g r k) := by rw [cM_f (by omega) (by omega)]; exact l2
    have e16 : cM g L y k 16 (L k) = 1 := by rw [cM_16 k (fun j hj => R.2 k j (by omega) hj)]; exact l3
    show (pend (tkM (cM g L y k) (L k) 2 y) nm c).length + (PO g r c k + (if g 3 (4 * r + k) = nI c then 1 else 0)) = _
    by_cases e : c = chN g r k
    · rw [if_pos (by rw [l5, e]), pend_tk (by decide)]
      have hm : L k ∈ pend (cM g L y k) nm c := mem_pend.mpr ⟨l1, by rw [e]; exact e14, e16⟩
      have := len_ne _ (pend_nodup (cM g L y k) nm c) hm
      omega
    · rw [if_neg (fun q => e (nI_inj (by omega) (by omega) (q.symm.trans l5))), pend_tk_o (by decide) e14 l4 hc e]
      omega
theorem cM_con {g : RS} {nm r P : Nat} {L : Nat → Nat} {y : Int32} (R : ROW g nm r P L) : ∀ k, k ≤ P → consd (cM g L y k) nm = consd g nm + k := by
  intro k
  induction k with
  | zero => intro _; rfl
  | succ k ih =>
    intro hk
    obtain ⟨l1, l2, l3, l4, l5⟩ := R.1 k (by omega)
    show consd (tkM (cM g L y k) (L k) 2 y) nm = _
    rw [consd_tk2 (by rw [cM_16 k (fun j hj => R.2 k j (by omega) hj)]; exact l3) l1, ih (by omega)]
    omega
theorem acM_len {g g0 : RS} {nm r nc A : Nat} {L : Nat → Nat} {V : Nat → Int32} (hc8 : nc ≤ 8) (hT : ∀ i, i < A → (∃ c, c < nc ∧ g 9 (4 * r + i) = nI c) ∨ g 9 (4 * r + i) = -1) : ∀ k, k ≤ A → (∀ c, c < 8 → (pend (acM g nm r L V g0 k) (nm + SC g r k) c).length = (pend g0 nm c).length + ST g r c k) ∧ consd (acM g nm r L V g0 k) (nm + SC g r k) = consd g0 nm := by
  intro k
  induction k with
  | zero => intro _; exact ⟨fun c _ => rfl, rfl⟩
  | succ k ih =>
    intro hk
    obtain ⟨h1, h2⟩ := ih (by omega)
    rw [acM_s]
    have eS : SC g r (k + 1) = SC g r k + (if g 9 (4 * r + k) < 0 then 0 else 1) := rfl
    rcases hT k (by omega) with ⟨c, hc, e9⟩ | e9
    · have hn : ¬ g 9 (4 * r + k) < 0 := by rw [e9]; exact nI_pos (by omega)
      rw [if_neg hn, eS, if_neg hn, ← Nat.add_assoc, e9]
      refine ⟨fun c' hc' => ?_, by rw [consd_mk]; exact h2⟩
      have eT : ST g r c' (k + 1) = ST g r c' k + (if g 9 (4 * r + k) = nI c' then 1 else 0) := rfl
      rw [pend_mk (by omega) hc', List.length_append, h1 c' hc', eT, e9]
      by_cases e : c' = c
      · rw [if_pos e, e, if_pos rfl]; rfl
      · rw [if_neg e, if_neg (fun q => e (nI_inj (by omega) (by omega) q.symm))]; rfl
    · have hn : g 9 (4 * r + k) < 0 := by rw [e9]; decide
      rw [if_pos hn, eS, if_pos hn, Nat.add_zero]
      refine ⟨fun c' hc' => ?_, ?_⟩
      · have eT : ST g r c' (k + 1) = ST g r c' k + (if g 9 (4 * r + k) = nI c' then 1 else 0) := rfl
        rw [pend_congr (g := acM g nm r L V g0 k) (fun x _ => by rw [up2_o (by omega)]) (fun x _ => by rw [up2_o (by omega)]), h1 c' hc', eT, if_neg (fun q => nI_m1 (a := c') (by omega) (q.symm.trans e9))]
        rfl
      · rw [consd_congr (g := acM g nm r L V g0 k) (fun x _ => by rw [up2_o (by omega)])]
        exact h2
theorem sI_congr {f f' : Nat → Int32} : ∀ P, (∀ i, i < P → f i = f' i) → sI f P = sI f' P := by
  intro P
  induction P with
  | zero => intro _; rfl
  | succ P ih =>
    intro h
    show sI f P + f P = sI f' P + f' P
    rw [ih (fun i hi => h i (by omega)), h P (by omega)]
theorem mxV_congr {f f' : Nat → Int32} : ∀ P, 1 ≤ P → (∀ i, i < P → f i = f' i) → mxV f P = mxV f' P := by
  intro P
  induction P with
  | zero => intro w; omega
  | succ P ih =>
    intro _ h
    show (if P = 0 then f 0 else _) = (if P = 0 then f' 0 else _)
    by_cases e : P = 0
    · rw [if_pos e, if_pos e, h 0 (by omega)]
    · rw [if_neg e, if_neg e, ih (by omega) (fun i hi => h i (by omega)), h P (by omega)]
theorem RES_congr {kk p P : Nat} {n : Int32} {f f' : Nat → Int32} (h1 : 1 ≤ P) (h : ∀ i, i < P → f i = f' i) (hp : (kk = 1 ∨ kk = 2) → p < P) : RES kk p n f P = RES kk p n f' P := by
  unfold RES
  by_cases e1 : kk = 1
  · rw [if_pos e1, if_pos e1, h p (hp (Or.inl e1))]
  · rw [if_neg e1, if_neg e1]
    by_cases e2 : kk = 2
    · rw [if_pos e2, if_pos e2, h p (hp (Or.inr e2))]
    · rw [if_neg e2, if_neg e2, sI_congr P h, mxV_congr P h1 h]
/-- what the expression of action k rests on -/
theorem act_of {hv g : RS} {nc r P A k : Nat} (hA : JA hv g nc P r k) (hP : P ≤ 4) : (g 11 (4 * r + k)).toNatClampNeg ≤ 4 ∧ g 11 (4 * r + k) = nI (g 11 (4 * r + k)).toNatClampNeg ∧ (((g 11 (4 * r + k)).toNatClampNeg = 1 ∨ (g 11 (4 * r + k)).toNatClampNeg = 2) → (g 12 (4 * r + k)).toNatClampNeg < P ∧ g 12 (4 * r + k) = nI (g 12 (4 * r + k)).toNatClampNeg) := by
  obtain ⟨-, ⟨kk, k1, k2, k3⟩, -⟩ := hA
  have e : (g 11 (4 * r + k)).toNatClampNeg = kk := by rw [k2]; exact nI_clamp (by omega)
  rw [e]
  refine ⟨k1, k2, fun q => ?_⟩
  obtain ⟨p, p1, p2⟩ := k3 q
  have e2 : (g 12 (4 * r + k)).toNatClampNeg = p := by rw [p2]; exact nI_clamp (by omega)
  rw [e2]
  exact ⟨p1, p2⟩
set_option maxHeartbeats 1000000 in
theorem w_fiV {h g : RS} {nc nr nm nf r : Nat} {np na : Nat → Nat} {d : Nat → Nat} {Q : RS → Prop} (hB : JB h g nc nr np na) (hM : JM h g nc nr nm nf) (hr : r < nr) (h1 : 1 ≤ np r) (hE : ROOM g nm nc r (np r) (na r)) (hF : OKd g nm r (np r) d) (hrow : ∀ i, i < np r → h 11 i = nI (mg g nm r d i) ∧ h 12 i = vl g nm r d i) (f : ∀ h' : RS, JB h' (FIRE g nm nf np na r d) nc nr np na → JM h' (FIRE g nm nf np na r d) nc nr (nm + SC g r (na r)) (nf + 1) → h' 0 4 = h 0 4 → nf < 300 → Q h') : wp_V_fire h (nI r) Q := by
  have hB0 := hB
  obtain ⟨b1, b2, b3, b4, b5, b6, b7, b8⟩ := hB
  obtain ⟨r1, r2, r3, r4, r5, r6, r7, r8, r9, r10, r11⟩ := b8 r (by omega)
  have hnm := hM.2.2.1
  have S := SRv_of hB0 hM (r := r) (by omega)
  have h3 : ∀ i, i < np r → g 3 (4 * r + i) = nI (chN g r i) := fun i hi => by
    obtain ⟨c, t, p1, p2, p3, p4, -⟩ := r10 i hi
    unfold chN
    rw [p4, nI_clamp (by omega)]
  have R := ROW_of S h3 hF
  have hT : ∀ i, i < na r → (∃ c, c < nc ∧ g 9 (4 * r + i) = nI c) ∨ g 9 (4 * r + i) = -1 := fun i hi => by
    obtain ⟨-, -, -, -, h5⟩ := r11 i hi
    rcases h5 with ⟨-, c, g2, -, g4⟩ | ⟨-, g2, -⟩
    · exact Or.inl ⟨c, g2, g4⟩
    · exact Or.inr g2
  -- the actions
  have kA : ∀ n k (hk : RS), na r - k < n → k ≤ na r → JB hk (acM g nm r (mg g nm r d) (vk g r (np r) (vl g nm r d)) (cM g (mg g nm r d) (nI nf) (np r)) k) nc nr np na → JM hk (acM g nm r (mg g nm r d) (vk g r (np r) (vl g nm r d)) (cM g (mg g nm r d) (nI nf) (np r)) k) nc nr (nm + SC g r k) nf → hk 11 = h 11 → hk 12 = h 12 → hk 0 4 = h 0 4 → wp_V_fire_38 Q n hk (nI r) r (nI k) := by
    intro n
    induction n with
    | zero => intro k hk w; omega
    | succ n ih =>
      intro k hk hn hkA hBk hMk h11 h12 h04
      show bp_V_fire_38 (wp_V_fire_38 Q n) Q hk (nI r) r (nI k)
      unfold bp_V_fire_38
      obtain ⟨hl, hcn⟩ := acM_len (g := g) (g0 := cM g (mg g nm r d) (nI nf) (np r)) (nm := nm) (r := r) (nc := nc) (A := na r) (L := mg g nm r d) (V := vk g r (np r) (vl g nm r d)) b3 hT k hkA
      have hJR := hBk.2.2.2.2.2.2.2 r (by omega)
      obtain ⟨q1, q2, q3, q4, q5, q6, q7, q8, q9, q10, q11⟩ := hJR
      have hroom := hE.2
      have hscm : SC g r k ≤ SC g r (na r) := SC_mono g r hkA
      refine c_le q4 rfl (by omega) (by omega) (fun hle => ?_) (fun hlt => ?_)
      · have ek : k = na r := by omega
        have hcon : nf + 1 ≤ consd (acM g nm r (mg g nm r d) (vk g r (np r) (vl g nm r d)) (cM g (mg g nm r d) (nI nf) (np r)) k) (nm + SC g r k) := by
          rw [hcn, cM_con R (np r) (Nat.le_refl _)]
          have := hM.2.2.2.2.2.1
          omega
        have hnf : nf < 300 := by
          have h9 := consd_le (hm := acM g nm r (mg g nm r d) (vk g r (np r) (vl g nm r d)) (cM g (mg g nm r d) (nI nf) (np r)) k) (nm := nm + SC g r k)
          omega
        have e08 := hMk.2.2.2.1
        refine ⟨nf, hnf, e08, ?_⟩
        rintro h2 rfl h3' rfl
        have e : up2 hk 5 nf (nI r) 0 8 + 1 = nI (nf + 1) := by rw [up2_o (by omega), e08, nI_1]
        rw [e]
        subst ek
        refine f _ (JB_fi hBk) (JM_fi hMk hr hcon) ?_ hnf
        rw [up2_o (by omega), up2_o (by omega)]; exact h04
      have hA := q11 k hlt
      have ef : ∀ i, i ≠ 0 → i ≠ 14 → i ≠ 15 → i ≠ 16 → i ≠ 17 → i ≠ 18 → acM g nm r (mg g nm r d) (vk g r (np r) (vl g nm r d)) (cM g (mg g nm r d) (nI nf) (np r)) k i = g i := fun i a0 a1 a2 a3 a4 a5 => by rw [acM_f a0 a1 a2 a3 a4 a5, cM_f a3 a4]
      have hAg := r11 k hlt
      obtain ⟨c1, c2, c3⟩ := act_of (A := na r) hAg r3
      obtain ⟨a1, -, a3, a4, a5⟩ := hA
      rw [ef 11 (by omega) (by omega) (by omega) (by omega) (by omega) (by omega)] at a1
      rw [ef 12 (by omega) (by omega) (by omega) (by omega) (by omega) (by omega)] at a3
      rw [ef 13 (by omega) (by omega) (by omega) (by omega) (by omega) (by omega)] at a4
      rw [ef 9 (by omega) (by omega) (by omega) (by omega) (by omega) (by omega), ef 10 (by omega) (by omega) (by omega) (by omega) (by omega) (by omega)] at a5
      refine w_ev (kk := (g 11 (4 * r + k)).toNatClampNeg) (p := (g 12 (4 * r + k)).toNatClampNeg) (n := g 13 (4 * r + k)) (by omega) h1 r3 q1 c1 (a1.trans c2) (fun q => ⟨by have := (c3 q).1; omega, a3.trans (c3 q).2⟩) a4 ?_
      have hres : RES (g 11 (4 * r + k)).toNatClampNeg (g 12 (4 * r + k)).toNatClampNeg (g 13 (4 * r + k)) (hk 12) (np r) = vk g r (np r) (vl g nm r d) k := RES_congr h1 (fun i hi => by rw [h12]; exact (hrow i hi).2) (fun q => (c3 q).1)
      rw [hres, nI_1]
      have eS : SC g r (k + 1) = SC g r k + (if g 9 (4 * r + k) < 0 then 0 else 1) := rfl
      refine ⟨k, by omega, rfl, ?_⟩
      rcases a5 with ⟨s1, c, s2, s3, s4⟩ | ⟨s1, s2, p, s3, s4, s5⟩
      · have hn9 : ¬ g 9 (4 * r + k) < 0 := by rw [s4]; exact nI_pos (by omega)
        refine br_f (by rw [s1]; exact ne01) ⟨k, by omega, rfl, ?_⟩
        rw [s3]
        rw [if_neg hn9] at eS
        have hsc1 : SC g r (k + 1) ≤ SC g r (na r) := SC_mono g r (by omega)
        have eT : ST g r c (k + 1) = ST g r c k + (if g 9 (4 * r + k) = nI c then 1 else 0) := rfl
        rw [if_pos s4] at eT
        have hst1 : ST g r c (k + 1) ≤ ST g r c (na r) := ST_mono g r c (by omega)
        have hlen := hl c (by omega)
        have hlen2 := cM_len (y := nI nf) R (np r) (Nat.le_refl _) c (by omega)
        have hR1 := hE.1 c s2
        obtain ⟨p1, p2, -⟩ := hMk.2.2.2.2.2.2.2.2.2 c (by omega)
        refine w_mkV hMk.1 (by omega) (by omega) p2 (by omega) ?_
        refine ih (k + 1) _ (by omega) (by omega) ?_ ?_ ?_ ?_ ?_
        · rw [acM_s, if_neg hn9, s4]
          exact JB_make hBk (by omega)
        · rw [acM_s, if_neg hn9, s4, eS, ← Nat.add_assoc]
          exact JM_make hMk b3 s2 (by omega) (by omega)
        · rw [mkV_f (by omega) (by omega) (by omega) (by omega) (by omega) (by omega) (by omega)]; exact h11
        · rw [mkV_f (by omega) (by omega) (by omega) (by omega) (by omega) (by omega) (by omega)]; exact h12
        · rw [mkV_f (by omega) (by omega) (by omega) (by omega) (by omega) (by omega) (by omega)]; exact h04
      · have hn9 : g 9 (4 * r + k) < 0 := by rw [s2]; decide
        have hLp := (R.1 p s3).1
        refine br_t s1 ⟨k, by omega, rfl, p, by omega, s4, mg g nm r d p, by omega, by rw [h11]; exact (hrow p s3).1, ?_⟩
        rintro h10 rfl
        rw [if_pos hn9, Nat.add_zero] at eS
        have ep : (g 10 (4 * r + k)).toNatClampNeg = p := by rw [s5]; exact nI_clamp (by omega)
        refine ih (k + 1) _ (by omega) (by omega) ?_ ?_ ?_ ?_ ?_
        · rw [acM_s, if_pos hn9, ep]
          exact JB_an hBk
        · rw [acM_s, if_pos hn9, ep, eS]
          exact JM_an hMk
        · rw [up2_f (by omega)]; exact h11
        · rw [up2_f (by omega)]; exact h12
        · rw [up2_o (by omega)]; exact h04
  -- the taken messages
  have kC : ∀ n k (hk : RS), np r - k < n → k ≤ np r → JB hk (cM g (mg g nm r d) (nI nf) k) nc nr np na → JM hk (cM g (mg g nm r d) (nI nf) k) nc nr nm nf → hk 11 = h 11 → hk 12 = h 12 → hk 0 4 = h 0 4 → wp_V_fire_9 Q n hk (nI r) r (nI k) := by
    intro n
    induction n with
    | zero => intro k hk w; omega
    | succ n ih =>
      intro k hk hn hkP hBk hMk h11 h12 h04
      show bp_V_fire_9 (wp_V_fire_9 Q n) Q hk (nI r) r (nI k)
      unfold bp_V_fire_9
      obtain ⟨q1, q2, q3, -⟩ := hBk.2.2.2.2.2.2.2 r (by omega)
      refine c_le q1 rfl (by omega) (by omega) (fun hle => ?_) (fun hlt => ⟨k, by omega, rfl, ?_⟩)
      · have ek : k = np r := by omega
        subst ek
        exact ⟨na r + 1, kA (na r + 1) 0 hk (by omega) (by omega) hBk hMk h11 h12 h04⟩
      obtain ⟨l1, l2, l3, l4, l5⟩ := R.1 k hlt
      have e11 : hk 11 k = nI (mg g nm r d k) := by rw [h11]; exact (hrow k hlt).1
      rw [e11, nI_1]
      unfold wp_V_consume bp_V_consume_0
      refine ⟨mg g nm r d k, by omega, rfl, ?_⟩
      rintro h2 rfl
      refine ⟨mg g nm r d k, by omega, rfl, ?_⟩
      rintro h4 rfl
      have e08 : up2 hk 8 (mg g nm r d k) 2 0 8 = nI nf := by rw [up2_o (by omega)]; exact hMk.2.2.2.1
      rw [e08]
      have e14 : cM g (mg g nm r d) (nI nf) k 14 (mg g nm r d k) = nI (chN g r k) := by rw [cM_f (by omega) (by omega)]; exact l2
      have e16 : cM g (mg g nm r d) (nI nf) k 16 (mg g nm r d k) = 1 := by rw [cM_16 k (fun j hj => R.2 k j hlt hj)]; exact l3
      refine ⟨mg g nm r d k, by omega, rfl, chN g r k, l4, ?_, ?_⟩
      · rw [up2_o (by omega), up2_o (by omega), (hMk.2.2.2.2.2.2.1 _).1]; exact e14
      refine w_rmJ hMk l4 (fun h' u1 u2 u3 u4 => ?_) l1
      refine ih (k + 1) h' (by omega) (by omega) (JB_tk hBk l4 u1 u2) (JM_tk hMk l4 l1 e14 e16 (by decide) u1 u2 u3 u4) ?_ ?_ ?_
      · rw [u1 11 (by omega) (by omega), up2_f (by omega), up2_f (by omega)]; exact h11
      · rw [u1 12 (by omega) (by omega), up2_f (by omega), up2_f (by omega)]; exact h12
      · rw [u1 0 (by omega) (by omega), up2_o (by omega), up2_o (by omega)]; exact h04
  unfold wp_V_fire bp_V_fire_0
  exact ⟨r, by omega, rfl, np r + 1, kC (np r + 1) 0 h (by omega) (by omega) hB0 hM rfl rfl rfl⟩
theorem w_cho2 {g h : RS} {r i c k m : Nat} {Q : Int32 → RS → Prop} (hr : r < 8) (hi : i < 4) (hc : c < 8) (e3 : h 3 (4 * r + i) = nI c) (e22 : h 22 i = nI k) (hk : k < 6) (e20 : h 20 (6 * c + k) = nI m) (q : Q (nI m) h) : wp_M_chosen h (nI r) (nI i) Q := by
  refine ⟨4 * r + i, by omega, by rw [ix4r], i, by omega, rfl, 6 * c + k, by omega, ?_, ?_⟩
  · rw [e3, e22]
    have h6 : (6 : Int32) = nI 6 := rfl
    rw [h6, pk_mul, nI_add]
  · rw [e20]
    exact q
theorem scr_up {g h : RS} {i k : Nat} {v : Int32} (hs : scrM g h) : scrM (up2 g i k v) (up2 h i k v) := by
  intro j hj
  funext l
  rw [up2_at, up2_at, hs j hj]
set_option maxHeartbeats 1000000 in
theorem w_fiM {hv g h0 : RS} {nc nr nm nf r : Nat} {np na : Nat → Nat} {d : Nat → Nat} {Q : RS → Prop} (hB : JB hv g nc nr np na) (hM : JM hv g nc nr nm nf) (hr : r < nr) (h1 : 1 ≤ np r) (hE : ROOM g nm nc r (np r) (na r)) (hF : FST g nm r (np r) d) (hG : GM g nm h0) (hnf : nf < 300) (f : ∀ h' : RS, scrM (FIRE g nm nf np na r d) h' → Q h') : wp_M_fire h0 (nI r) Q := by
  have hB0 := hB
  obtain ⟨b1, b2, b3, b4, b5, b6, b7, b8⟩ := hB
  obtain ⟨r1, r2, r3, r4, r5, r6, r7, r8, r9, r10, r11⟩ := b8 r (by omega)
  have hnm := hM.2.2.1
  have S := SRv_of hB0 hM (r := r) (by omega)
  have Sm := SRm_of hB0 hM (r := r) (by omega) hG.1 hG.2
  have h3 : ∀ i, i < np r → g 3 (4 * r + i) = nI (chN g r i) := fun i hi => by
    obtain ⟨c, t, p1, p2, p3, p4, -⟩ := r10 i hi
    unfold chN
    rw [p4, nI_clamp (by omega)]
  have R := ROW_of S h3 hF.1
  unfold wp_M_fire bp_M_fire_0
  refine w_find (by omega) Sm (fun _ _ _ => rfl) (fun h2 d2 hs2 hrow hF2 => ?_) (fun h2 hs2 hN => absurd hF.1 (hN d))
  have hu := FST_uniq hF2 hF
  have hdl : ∀ i, i < np r → d i < 6 := fun i hi => by
    have h8 := hF.1.1 i hi
    have h9 := (S.2.2.2.2.2.2.2 i hi).2.2.2.2.2.1
    omega
  have hcho : ∀ (hk : RS) (i : Nat) (Q' : Int32 → RS → Prop), i < np r → hk 3 = g 3 → hk 20 = h2 20 → hk 22 = h2 22 → Q' (nI (mg g nm r d i)) hk → wp_M_chosen hk (nI r) (nI i) Q' := by
    intro hk i Q' hi e3 e20 e22 q
    refine w_cho2 (g := g) (by omega) (by omega) (R.1 i hi).2.2.2.1 (by rw [e3]; exact (R.1 i hi).2.2.2.2) (by rw [e22, (hrow i hi).1, hu i hi]) (hdl i hi) ?_ q
    rw [e20, hs2 20 (by omega) (by omega)]
    exact hG.2.2 (chN g r i) (d i) (R.1 i hi).2.2.2.1 (hF.1.1 i hi)
  -- the actions
  have kA : ∀ n k (hk : RS), na r - k < n → k ≤ na r → scrM (acM g nm r (mg g nm r d) (vk g r (np r) (vl g nm r d)) (cM g (mg g nm r d) (nI nf) (np r)) k) hk → acM g nm r (mg g nm r d) (vk g r (np r) (vl g nm r d)) (cM g (mg g nm r d) (nI nf) (np r)) k 0 16 = nI (nm + SC g r k) → acM g nm r (mg g nm r d) (vk g r (np r) (vl g nm r d)) (cM g (mg g nm r d) (nI nf) (np r)) k 0 22 = nI nf → hk 20 = h2 20 → hk 22 = h2 22 → hk 23 = h2 23 → wp_M_fire_50 Q n hk (nI r) (nI k) := by
    intro n
    induction n with
    | zero => intro k hk w; omega
    | succ n ih =>
      intro k hk hn hkA hs e16 e22' e20 e22 e23
      show bp_M_fire_50 (wp_M_fire_50 Q n) Q hk (nI r) (nI k)
      unfold bp_M_fire_50
      have ef : ∀ i, i < 20 → i ≠ 0 → i ≠ 14 → i ≠ 15 → i ≠ 16 → i ≠ 17 → i ≠ 18 → hk i = g i := fun i a a0 a1 a2 a3 a4 a5 => by rw [hs i a, acM_f a0 a1 a2 a3 a4 a5, cM_f a3 a4]
      have hroom := hE.2
      have hscm : SC g r k ≤ SC g r (na r) := SC_mono g r hkA
      refine ⟨r, by omega, rfl, c_le (by rw [ef 8 (by omega) (by omega) (by omega) (by omega) (by omega) (by omega) (by omega)]; exact r5) rfl (by omega) (by omega) (fun hle => ?_) (fun hlt => ?_)⟩
      · have ek : k = na r := by omega
        have e0 : hk 0 22 = nI nf := by rw [hs 0 (by omega)]; exact e22'
        refine ⟨nf, hnf, e0, ?_⟩
        rintro h3' rfl h4 rfl
        have e : up2 hk 19 nf (nI r) 0 22 + 1 = nI (nf + 1) := by rw [up2_o (by omega), e0, nI_1]
        rw [e]
        subst ek
        exact f _ (scr_up (scr_up hs))
      obtain ⟨c1, c2, c3⟩ := act_of (A := na r) (r11 k hlt) r3
      have e2 : hk 2 r = nI (np r) := by rw [ef 2 (by omega) (by omega) (by omega) (by omega) (by omega) (by omega) (by omega)]; exact r2
      rw [ix4r]
      refine w_rs (kk := (g 11 (4 * r + k)).toNatClampNeg) (p := (g 12 (4 * r + k)).toNatClampNeg) (n := g 13 (4 * r + k)) (by omega) (by omega) h1 r3 e2 c1 (by rw [ef 11 (by omega) (by omega) (by omega) (by omega) (by omega) (by omega) (by omega)]; exact c2) (fun q => ⟨by have := (c3 q).1; omega, by rw [ef 12 (by omega) (by omega) (by omega) (by omega) (by omega) (by omega) (by omega)]; exact (c3 q).2⟩) (by rw [ef 13 (by omega) (by omega) (by omega) (by omega) (by omega) (by omega) (by omega)]) ?_
      have hres : RES (g 11 (4 * r + k)).toNatClampNeg (g 12 (4 * r + k)).toNatClampNeg (g 13 (4 * r + k)) (hk 23) (np r) = vk g r (np r) (vl g nm r d) k := RES_congr h1 (fun i hi => by rw [e23, (hrow i hi).2]; exact vl_congr (hu i hi)) (fun q => (c3 q).1)
      rw [hres, nI_1]
      refine ⟨4 * r + k, by omega, rfl, ?_⟩
      have e9 : hk 9 (4 * r + k) = g 9 (4 * r + k) := by rw [ef 9 (by omega) (by omega) (by omega) (by omega) (by omega) (by omega) (by omega)]
      have e10 : hk 10 (4 * r + k) = g 10 (4 * r + k) := by rw [ef 10 (by omega) (by omega) (by omega) (by omega) (by omega) (by omega) (by omega)]
      have eS : SC g r (k + 1) = SC g r k + (if g 9 (4 * r + k) < 0 then 0 else 1) := rfl
      rw [e9]
      refine ⟨fun hn9 => ?_, fun hn9 => ?_⟩
      · obtain ⟨-, -, -, -, a5⟩ := r11 k hlt
        rcases a5 with ⟨-, c, s2, s3, s4⟩ | ⟨-, s2, p, s3, s4, s5⟩
        · exact absurd hn9 (by rw [s4]; exact nI_pos (by omega))
        refine ⟨4 * r + k, by omega, rfl, ?_⟩
        rw [e10, s5]
        have hLp := (R.1 p s3).1
        refine hcho hk p _ s3 (ef 3 (by omega) (by omega) (by omega) (by omega) (by omega) (by omega) (by omega)) e20 e22 ⟨mg g nm r d p, by omega, rfl, ?_⟩
        rintro h12 rfl
        have ep : (g 10 (4 * r + k)).toNatClampNeg = p := by rw [s5]; exact nI_clamp (by omega)
        rw [if_pos hn9, Nat.add_zero] at eS
        refine ih (k + 1) _ (by omega) (by omega) ?_ ?_ ?_ ?_ ?_ ?_
        · rw [acM_s, if_pos hn9, ep]; exact scr_up hs
        · rw [acM_s, if_pos hn9, up2_o (by omega), eS]; exact e16
        · rw [acM_s, if_pos hn9, up2_o (by omega)]; exact e22'
        · rw [up2_f (by omega)]; exact e20
        · rw [up2_f (by omega)]; exact e22
        · rw [up2_f (by omega)]; exact e23
      · rw [if_neg hn9] at eS
        have hsc1 : SC g r (k + 1) ≤ SC g r (na r) := SC_mono g r (by omega)
        refine ⟨4 * r + k, by omega, rfl, ?_⟩
        rw [e9]
        have e0 : hk 0 16 = nI (nm + SC g r k) := by rw [hs 0 (by omega)]; exact e16
        refine w_make e0 (by omega) ?_
        refine ih (k + 1) _ (by omega) (by omega) ?_ ?_ ?_ ?_ ?_ ?_
        · rw [acM_s, if_neg hn9]; exact mkM_scr hs
        · rw [acM_s, if_neg hn9, eS]
          unfold mkM
          rw [up2_s]
          rfl
        · rw [acM_s, if_neg hn9, mkM_0 (by omega)]; exact e22'
        · rw [mkM_f (by omega) (by omega) (by omega) (by omega) (by omega)]; exact e20
        · rw [mkM_f (by omega) (by omega) (by omega) (by omega) (by omega)]; exact e22
        · rw [mkM_f (by omega) (by omega) (by omega) (by omega) (by omega)]; exact e23
  have kC : ∀ n k (hk : RS), np r - k < n → k ≤ np r → scrM (cM g (mg g nm r d) (nI nf) k) hk → hk 20 = h2 20 → hk 22 = h2 22 → hk 23 = h2 23 → wp_M_fire_8 Q n hk (nI r) (nI k) := by
    intro n
    induction n with
    | zero => intro k hk w; omega
    | succ n ih =>
      intro k hk hn hkP hs e20 e22 e23
      show bp_M_fire_8 (wp_M_fire_8 Q n) Q hk (nI r) (nI k)
      unfold bp_M_fire_8
      have ef : ∀ i, i < 20 → i ≠ 16 → i ≠ 17 → hk i = g i := fun i a a3 a4 => by rw [hs i a, cM_f a3 a4]
      refine ⟨r, by omega, rfl, c_le (by rw [ef 2 (by omega) (by omega) (by omega)]; exact r2) rfl (by omega) (by omega) (fun hle => ?_) (fun hlt => ?_)⟩
      · have ek : k = np r := by omega
        subst ek
        refine ⟨na r + 1, kA (na r + 1) 0 hk (by omega) (by omega) hs ?_ ?_ e20 e22 e23⟩
        · show cM g (mg g nm r d) (nI nf) (np r) 0 16 = nI (nm + 0)
          rw [cM_f (by omega) (by omega)]; exact hM.2.1
        · show cM g (mg g nm r d) (nI nf) (np r) 0 22 = nI nf
          rw [cM_f (by omega) (by omega)]; exact hM.2.2.2.2.1
      obtain ⟨l1, l2, l3, l4, l5⟩ := R.1 k hlt
      refine hcho hk k _ hlt (ef 3 (by omega) (by omega) (by omega)) e20 e22 ⟨mg g nm r d k, by omega, rfl, ?_⟩
      rintro h21 rfl
      refine ⟨mg g nm r d k, by omega, rfl, ?_⟩
      rintro h23 rfl
      have e0 : up2 hk 16 (mg g nm r d k) 2 0 22 = nI nf := by rw [up2_o (by omega), ef 0 (by omega) (by omega) (by omega)]; exact hM.2.2.2.2.1
      rw [e0, nI_1]
      refine ih (k + 1) _ (by omega) (by omega) ?_ ?_ ?_ ?_
      · show scrM (tkM (cM g (mg g nm r d) (nI nf) k) (mg g nm r d k) 2 (nI nf)) _
        exact scr_up (scr_up hs)
      · rw [up2_f (by omega), up2_f (by omega)]; exact e20
      · rw [up2_f (by omega), up2_f (by omega)]; exact e22
      · rw [up2_f (by omega), up2_f (by omega)]; exact e23
  have hs0 : scrM g h2 := (GM_3 hG hs2).1
  exact ⟨np r + 1, kC (np r + 1) 0 h2 (by omega) (by omega) hs0 rfl rfl rfl⟩
