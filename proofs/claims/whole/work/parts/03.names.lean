def isNw : Cond → Bool
  | .fieldLinkNest .. => true
  | .methodLinkNest .. => true
  | _ => false
def okW (w : Cond) : Bool := w.onTables && (w.keeps || isNw w)
/-- the tables' words that any callee may be handed -/
def tbW : List Cond := lw_tbl.filter okW
theorem tb1_in {w : Cond} (h : w ∈ tables_1_1) (ho : okW w = true) : w ∈ tbW := List.mem_filter.mpr ⟨List.mem_append_right _ (List.mem_append_left _ h), ho⟩
theorem tb2_in {w : Cond} (h : w ∈ tables_1_2) (ho : okW w = true) : w ∈ tbW := List.mem_filter.mpr ⟨List.mem_append_right _ (List.mem_append_right _ (List.mem_append_left _ h)), ho⟩
theorem tb3_in {w : Cond} (h : w ∈ tables_1_3) (ho : okW w = true) : w ∈ tbW := List.mem_filter.mpr ⟨List.mem_append_right _ (List.mem_append_right _ (List.mem_append_right _ h)), ho⟩
theorem tbs_in {w : Cond} (h : w ∈ k2_sels lw_privs) (ho : okW w = true) : w ∈ tbW := List.mem_filter.mpr ⟨List.mem_append_left _ h, ho⟩
theorem tb_ok : TbOk tbW := by
  have h0 : ∀ w ∈ tbW, w.onTables = true ∧ (w.keeps = true ∨ isNw w = true) := fun w hw => by
    have h1 := (List.mem_filter.mp hw).2
    simpa only [okW, Bool.and_eq_true, Bool.or_eq_true] using h1
  refine ⟨fun w hw => (h0 w hw).1, fun w hw s U hW hZ => ?_⟩
  obtain ⟨h1, h2 | h2⟩ := h0 w hw
  · exact word_at (args := #[]) (a' := #[]) hW (Or.inl (by rw [h1, h2]; rfl)) hZ
  · cases w <;> first | exact va_Nw.warmF hW hZ | exact va_Nw.warmM hW hZ | (exact absurd h2 (by simp [isNw]))
theorem lt_ix {c b n : Nat} (hc : c < 8) (hb : b + 8 ≤ n) : b + c < n := by omega
def R_V : String := "JoinVessel"
def F_V : u_T := fun k => match k with
  | 0 => ("JoinVessel", "channels", "[LJoinVessel$Channel;", true)
  | 1 => ("JoinVessel", "channelCount", "I", false)
  | 2 => ("JoinVessel", "reactions", "[LJoinVessel$Reaction;", true)
  | 3 => ("JoinVessel", "reactionCount", "I", false)
  | 4 => ("JoinVessel", "isSealed", "Z", false)
  | 5 => ("JoinVessel", "messages", "LJoinVessel$Messages;", true)
  | 6 => ("JoinVessel", "match", "LJoinVessel$Match;", true)
  | 7 => ("JoinVessel", "firings", "[I", true)
  | _ => ("JoinVessel", "firingCount", "I", false)
def t_V : Nat → FieldType := fun k => match k with
  | 0 => .array (.object "JoinVessel$Channel")
  | 1 => .int
  | 2 => .array (.object "JoinVessel$Reaction")
  | 3 => .int
  | 4 => .boolean
  | 5 => .object "JoinVessel$Messages"
  | 6 => .object "JoinVessel$Match"
  | 7 => .array .int
  | _ => .int
theorem n_V : ∀ a, a < 9 → ∀ b, b < 9 → a ≠ b → (F_V a).2.1 ≠ (F_V b).2.1 := by decide +kernel
theorem t_V_ok : ∀ k, k < 9 → parseFieldDescriptor (F_V k).2.2.1 = some (t_V k) := by decide +kernel
theorem hin_V : ∀ w ∈ u_ws R_V F_V 9, w ∈ tbW := by decide +kernel
def R_Ch : String := "JoinVessel$Channel"
def F_Ch : u_T := fun k => match k with
  | 0 => ("JoinVessel$Channel", "isAnswered", "Z", false)
  | 1 => ("JoinVessel$Channel", "pendingNumbers", "[I", true)
  | _ => ("JoinVessel$Channel", "pendingCount", "I", false)
def t_Ch : Nat → FieldType := fun k => match k with
  | 0 => .boolean
  | 1 => .array .int
  | _ => .int
theorem n_Ch : ∀ a, a < 3 → ∀ b, b < 3 → a ≠ b → (F_Ch a).2.1 ≠ (F_Ch b).2.1 := by decide +kernel
theorem t_Ch_ok : ∀ k, k < 3 → parseFieldDescriptor (F_Ch k).2.2.1 = some (t_Ch k) := by decide +kernel
theorem hin_Ch : ∀ w ∈ u_ws R_Ch F_Ch 3, w ∈ tbW := by decide +kernel
def R_Ms : String := "JoinVessel$Messages"
def F_Ms : u_T := fun k => match k with
  | 0 => ("JoinVessel$Messages", "count", "I", false)
  | 1 => ("JoinVessel$Messages", "channelNumbers", "[I", true)
  | 2 => ("JoinVessel$Messages", "values", "[I", true)
  | 3 => ("JoinVessel$Messages", "states", "[I", true)
  | 4 => ("JoinVessel$Messages", "consumers", "[I", true)
  | _ => ("JoinVessel$Messages", "answers", "[I", true)
def t_Ms : Nat → FieldType := fun k => match k with
  | 0 => .int
  | 1 => .array .int
  | 2 => .array .int
  | 3 => .array .int
  | 4 => .array .int
  | _ => .array .int
theorem n_Ms : ∀ a, a < 6 → ∀ b, b < 6 → a ≠ b → (F_Ms a).2.1 ≠ (F_Ms b).2.1 := by decide +kernel
theorem t_Ms_ok : ∀ k, k < 6 → parseFieldDescriptor (F_Ms k).2.2.1 = some (t_Ms k) := by decide +kernel
theorem hin_Ms : ∀ w ∈ u_ws R_Ms F_Ms 6, w ∈ tbW := by decide +kernel
def R_Mt : String := "JoinVessel$Match"
def F_Mt : u_T := fun k => match k with
  | 0 => ("JoinVessel$Match", "numbers", "[I", true)
  | _ => ("JoinVessel$Match", "values", "[I", true)
def t_Mt : Nat → FieldType := fun k => match k with
  | 0 => .array .int
  | _ => .array .int
theorem n_Mt : ∀ a, a < 2 → ∀ b, b < 2 → a ≠ b → (F_Mt a).2.1 ≠ (F_Mt b).2.1 := by decide +kernel
theorem t_Mt_ok : ∀ k, k < 2 → parseFieldDescriptor (F_Mt k).2.2.1 = some (t_Mt k) := by decide +kernel
theorem hin_Mt : ∀ w ∈ u_ws R_Mt F_Mt 2, w ∈ tbW := by decide +kernel
def R_Re : String := "JoinVessel$Reaction"
def F_Re : u_T := fun k => match k with
  | 0 => ("JoinVessel$Reaction", "partCount", "I", false)
  | 1 => ("JoinVessel$Reaction", "partChannels", "[I", true)
  | 2 => ("JoinVessel$Reaction", "partTests", "[I", true)
  | 3 => ("JoinVessel$Reaction", "partNumbers", "[I", true)
  | 4 => ("JoinVessel$Reaction", "guardKind", "I", false)
  | 5 => ("JoinVessel$Reaction", "guardNumber", "I", false)
  | 6 => ("JoinVessel$Reaction", "actionCount", "I", false)
  | 7 => ("JoinVessel$Reaction", "actionSends", "[Z", true)
  | 8 => ("JoinVessel$Reaction", "actionTargets", "[I", true)
  | 9 => ("JoinVessel$Reaction", "actionKinds", "[I", true)
  | 10 => ("JoinVessel$Reaction", "actionParts", "[I", true)
  | _ => ("JoinVessel$Reaction", "actionNumbers", "[I", true)
def t_Re : Nat → FieldType := fun k => match k with
  | 0 => .int
  | 1 => .array .int
  | 2 => .array .int
  | 3 => .array .int
  | 4 => .int
  | 5 => .int
  | 6 => .int
  | 7 => .array .boolean
  | 8 => .array .int
  | 9 => .array .int
  | 10 => .array .int
  | _ => .array .int
theorem n_Re : ∀ a, a < 12 → ∀ b, b < 12 → a ≠ b → (F_Re a).2.1 ≠ (F_Re b).2.1 := by decide +kernel
theorem t_Re_ok : ∀ k, k < 12 → parseFieldDescriptor (F_Re k).2.2.1 = some (t_Re k) := by decide +kernel
theorem hin_Re : ∀ w ∈ u_ws R_Re F_Re 12, w ∈ tbW := by decide +kernel
abbrev clV : List vw_C := [(R_V, F_V, 9), (R_Ch, F_Ch, 3), (R_Ms, F_Ms, 6), (R_Mt, F_Mt, 2), (R_Re, F_Re, 12)]
abbrev tyV (q : Nat → ClassId) : List (ClassId × FieldType) := [(q 0, .int), (q 1, .boolean), (q 2, .object "JoinVessel$Channel"), (q 3, .object "JoinVessel$Reaction")]
def ceV1 (a : Nat → Nat) (q : Nat → ClassId) (x : Nat → Int32) (i : Nat) : va_E := match i with
  | 0 => .inr (0, [.ref (a 1), .int (x 1), .ref (a 2), .int (x 3), .int (x 4), .ref (a 3), .ref (a 4), .ref (a 5), .int (x 8)])
  | 1 => .inl (q 2, 8, .inr (.inr (.inr (.inr (fun j => some (a (13 + j)))))))
  | 2 => .inl (q 3, 8, .inr (.inr (.inr (.inr (fun j => some (a (29 + j)))))))
  | 3 => .inr (2, [.int (x 0), .ref (a 6), .ref (a 7), .ref (a 8), .ref (a 9), .ref (a 10)])
  | 4 => .inr (3, [.ref (a 11), .ref (a 12)])
  | 5 => .inl (q 0, 300, .inl x)
  | 6 => .inl (q 0, 300, .inl x)
  | 7 => .inl (q 0, 300, .inl x)
  | 8 => .inl (q 0, 300, .inl x)
  | 9 => .inl (q 0, 300, .inl x)
  | 10 => .inl (q 0, 300, .inl x)
  | 11 => .inl (q 0, 4, .inl x)
  | _ => .inl (q 0, 4, .inl x)
def ceV (a : Nat → Nat) (q : Nat → ClassId) (x : Nat → Int32) (i : Nat) : va_E := if i < 13 then ceV1 a q x i
  else if i < 21 then .inr (1, [.int (x 0), .ref (a (21 + (i - 13))), .int (x 2)])
  else if i < 29 then .inl (q 0, 6, .inl x)
  else if i < 37 then .inr (4, [.int (x 0), .ref (a (37 + (i - 29))), .ref (a (45 + (i - 29))), .ref (a (53 + (i - 29))), .int (x 4), .int (x 5), .int (x 6), .ref (a (61 + (i - 29))), .ref (a (69 + (i - 29))), .ref (a (77 + (i - 29))), .ref (a (85 + (i - 29))), .ref (a (93 + (i - 29)))])
  else if i < 45 then .inl (q 0, 4, .inl x)
  else if i < 53 then .inl (q 0, 4, .inl x)
  else if i < 61 then .inl (q 0, 4, .inl x)
  else if i < 69 then .inl (q 1, 4, .inl x)
  else if i < 77 then .inl (q 0, 4, .inl x)
  else if i < 85 then .inl (q 0, 4, .inl x)
  else if i < 93 then .inl (q 0, 4, .inl x)
  else .inl (q 0, 4, .inl x)
theorem cV_V {a : Nat → Nat} {q : Nat → ClassId} (x : Nat → Int32) : ceV a q x 0 = .inr (0, [.ref (a 1), .int (x 1), .ref (a 2), .int (x 3), .int (x 4), .ref (a 3), .ref (a 4), .ref (a 5), .int (x 8)]) := rfl
theorem cV_Chs {a : Nat → Nat} {q : Nat → ClassId} (x : Nat → Int32) : ceV a q x 1 = .inl (q 2, 8, .inr (.inr (.inr (.inr (fun j => some (a (13 + j))))))) := rfl
theorem cV_Res {a : Nat → Nat} {q : Nat → ClassId} (x : Nat → Int32) : ceV a q x 2 = .inl (q 3, 8, .inr (.inr (.inr (.inr (fun j => some (a (29 + j))))))) := rfl
theorem cV_Msgs {a : Nat → Nat} {q : Nat → ClassId} (x : Nat → Int32) : ceV a q x 3 = .inr (2, [.int (x 0), .ref (a 6), .ref (a 7), .ref (a 8), .ref (a 9), .ref (a 10)]) := rfl
theorem cV_Mat {a : Nat → Nat} {q : Nat → ClassId} (x : Nat → Int32) : ceV a q x 4 = .inr (3, [.ref (a 11), .ref (a 12)]) := rfl
theorem cV_Fir {a : Nat → Nat} {q : Nat → ClassId} (x : Nat → Int32) : ceV a q x 5 = .inl (q 0, 300, .inl x) := rfl
theorem cV_mCh {a : Nat → Nat} {q : Nat → ClassId} (x : Nat → Int32) : ceV a q x 6 = .inl (q 0, 300, .inl x) := rfl
theorem cV_mVa {a : Nat → Nat} {q : Nat → ClassId} (x : Nat → Int32) : ceV a q x 7 = .inl (q 0, 300, .inl x) := rfl
theorem cV_mSt {a : Nat → Nat} {q : Nat → ClassId} (x : Nat → Int32) : ceV a q x 8 = .inl (q 0, 300, .inl x) := rfl
theorem cV_mCo {a : Nat → Nat} {q : Nat → ClassId} (x : Nat → Int32) : ceV a q x 9 = .inl (q 0, 300, .inl x) := rfl
theorem cV_mAn {a : Nat → Nat} {q : Nat → ClassId} (x : Nat → Int32) : ceV a q x 10 = .inl (q 0, 300, .inl x) := rfl
theorem cV_tNu {a : Nat → Nat} {q : Nat → ClassId} (x : Nat → Int32) : ceV a q x 11 = .inl (q 0, 4, .inl x) := rfl
theorem cV_tVa {a : Nat → Nat} {q : Nat → ClassId} (x : Nat → Int32) : ceV a q x 12 = .inl (q 0, 4, .inl x) := rfl
theorem cV_Ch {a : Nat → Nat} {q : Nat → ClassId} (x : Nat → Int32) {c : Nat} (hc : c < 8) : ceV a q x (13 + c) = .inr (1, [.int (x 0), .ref (a (21 + c)), .int (x 2)]) := by
  unfold ceV
  rw [if_neg (by omega), if_pos (by omega), Nat.add_sub_cancel_left]
theorem cV_Pn {a : Nat → Nat} {q : Nat → ClassId} (x : Nat → Int32) {c : Nat} (hc : c < 8) : ceV a q x (21 + c) = .inl (q 0, 6, .inl x) := by
  unfold ceV
  rw [if_neg (by omega), if_neg (by omega), if_pos (by omega)]
theorem cV_Re {a : Nat → Nat} {q : Nat → ClassId} (x : Nat → Int32) {c : Nat} (hc : c < 8) : ceV a q x (29 + c) = .inr (4, [.int (x 0), .ref (a (37 + c)), .ref (a (45 + c)), .ref (a (53 + c)), .int (x 4), .int (x 5), .int (x 6), .ref (a (61 + c)), .ref (a (69 + c)), .ref (a (77 + c)), .ref (a (85 + c)), .ref (a (93 + c))]) := by
  unfold ceV
  rw [if_neg (by omega), if_neg (by omega), if_neg (by omega), if_pos (by omega), Nat.add_sub_cancel_left]
theorem cV_pC {a : Nat → Nat} {q : Nat → ClassId} (x : Nat → Int32) {c : Nat} (hc : c < 8) : ceV a q x (37 + c) = .inl (q 0, 4, .inl x) := by
  unfold ceV
  rw [if_neg (by omega), if_neg (by omega), if_neg (by omega), if_neg (by omega), if_pos (by omega)]
theorem cV_pT {a : Nat → Nat} {q : Nat → ClassId} (x : Nat → Int32) {c : Nat} (hc : c < 8) : ceV a q x (45 + c) = .inl (q 0, 4, .inl x) := by
  unfold ceV
  rw [if_neg (by omega), if_neg (by omega), if_neg (by omega), if_neg (by omega), if_neg (by omega), if_pos (by omega)]
theorem cV_pN {a : Nat → Nat} {q : Nat → ClassId} (x : Nat → Int32) {c : Nat} (hc : c < 8) : ceV a q x (53 + c) = .inl (q 0, 4, .inl x) := by
  unfold ceV
  rw [if_neg (by omega), if_neg (by omega), if_neg (by omega), if_neg (by omega), if_neg (by omega), if_neg (by omega), if_pos (by omega)]
theorem cV_aS {a : Nat → Nat} {q : Nat → ClassId} (x : Nat → Int32) {c : Nat} (hc : c < 8) : ceV a q x (61 + c) = .inl (q 1, 4, .inl x) := by
  unfold ceV
  rw [if_neg (by omega), if_neg (by omega), if_neg (by omega), if_neg (by omega), if_neg (by omega), if_neg (by omega), if_neg (by omega), if_pos (by omega)]
theorem cV_aT {a : Nat → Nat} {q : Nat → ClassId} (x : Nat → Int32) {c : Nat} (hc : c < 8) : ceV a q x (69 + c) = .inl (q 0, 4, .inl x) := by
  unfold ceV
  rw [if_neg (by omega), if_neg (by omega), if_neg (by omega), if_neg (by omega), if_neg (by omega), if_neg (by omega), if_neg (by omega), if_neg (by omega), if_pos (by omega)]
theorem cV_aK {a : Nat → Nat} {q : Nat → ClassId} (x : Nat → Int32) {c : Nat} (hc : c < 8) : ceV a q x (77 + c) = .inl (q 0, 4, .inl x) := by
  unfold ceV
  rw [if_neg (by omega), if_neg (by omega), if_neg (by omega), if_neg (by omega), if_neg (by omega), if_neg (by omega), if_neg (by omega), if_neg (by omega), if_neg (by omega), if_pos (by omega)]
theorem cV_aP {a : Nat → Nat} {q : Nat → ClassId} (x : Nat → Int32) {c : Nat} (hc : c < 8) : ceV a q x (85 + c) = .inl (q 0, 4, .inl x) := by
  unfold ceV
  rw [if_neg (by omega), if_neg (by omega), if_neg (by omega), if_neg (by omega), if_neg (by omega), if_neg (by omega), if_neg (by omega), if_neg (by omega), if_neg (by omega), if_neg (by omega), if_pos (by omega)]
theorem cV_aN {a : Nat → Nat} {q : Nat → ClassId} (x : Nat → Int32) {c : Nat} (hc : c < 8) : ceV a q x (93 + c) = .inl (q 0, 4, .inl x) := by
  unfold ceV
  rw [if_neg (by omega), if_neg (by omega), if_neg (by omega), if_neg (by omega), if_neg (by omega), if_neg (by omega), if_neg (by omega), if_neg (by omega), if_neg (by omega), if_neg (by omega), if_neg (by omega)]
def R_M : String := "JoinVesselModel"
def F_M : u_T := fun k => match k with
  | 0 => ("JoinVesselModel", "channels", "I", false)
  | 1 => ("JoinVesselModel", "answered", "[Z", true)
  | 2 => ("JoinVesselModel", "reactions", "I", false)
  | 3 => ("JoinVesselModel", "parts", "[I", true)
  | 4 => ("JoinVesselModel", "partChannel", "[I", true)
  | 5 => ("JoinVesselModel", "partTest", "[I", true)
  | 6 => ("JoinVesselModel", "partNumber", "[I", true)
  | 7 => ("JoinVesselModel", "guardKind", "[I", true)
  | 8 => ("JoinVesselModel", "guardNumber", "[I", true)
  | 9 => ("JoinVesselModel", "actions", "[I", true)
  | 10 => ("JoinVesselModel", "target", "[I", true)
  | 11 => ("JoinVesselModel", "replied", "[I", true)
  | 12 => ("JoinVesselModel", "kind", "[I", true)
  | 13 => ("JoinVesselModel", "which", "[I", true)
  | 14 => ("JoinVesselModel", "number", "[I", true)
  | 15 => ("JoinVesselModel", "closed", "Z", false)
  | 16 => ("JoinVesselModel", "made", "I", false)
  | 17 => ("JoinVesselModel", "channelOf", "[I", true)
  | 18 => ("JoinVesselModel", "values", "[I", true)
  | 19 => ("JoinVesselModel", "states", "[I", true)
  | 20 => ("JoinVesselModel", "consumers", "[I", true)
  | 21 => ("JoinVesselModel", "answers", "[I", true)
  | 22 => ("JoinVesselModel", "firings", "I", false)
  | 23 => ("JoinVesselModel", "firedBy", "[I", true)
  | 24 => ("JoinVesselModel", "gathered", "[I", true)
  | 25 => ("JoinVesselModel", "count", "[I", true)
  | 26 => ("JoinVesselModel", "digit", "[I", true)
  | _ => ("JoinVesselModel", "tried", "[I", true)
def t_M : Nat → FieldType := fun k => match k with
  | 0 => .int
  | 1 => .array .boolean
  | 2 => .int
  | 3 => .array .int
  | 4 => .array .int
  | 5 => .array .int
  | 6 => .array .int
  | 7 => .array .int
  | 8 => .array .int
  | 9 => .array .int
  | 10 => .array .int
  | 11 => .array .int
  | 12 => .array .int
  | 13 => .array .int
  | 14 => .array .int
  | 15 => .boolean
  | 16 => .int
  | 17 => .array .int
  | 18 => .array .int
  | 19 => .array .int
  | 20 => .array .int
  | 21 => .array .int
  | 22 => .int
  | 23 => .array .int
  | 24 => .array .int
  | 25 => .array .int
  | 26 => .array .int
  | _ => .array .int
theorem n_M : ∀ a, a < 28 → ∀ b, b < 28 → a ≠ b → (F_M a).2.1 ≠ (F_M b).2.1 := by decide +kernel
theorem t_M_ok : ∀ k, k < 28 → parseFieldDescriptor (F_M k).2.2.1 = some (t_M k) := by decide +kernel
theorem hin_M : ∀ w ∈ u_ws R_M F_M 28, w ∈ tbW := by decide +kernel
abbrev clM : List vw_C := [(R_M, F_M, 28)]
abbrev tyM (q : Nat → ClassId) : List (ClassId × FieldType) := [(q 0, .int), (q 1, .boolean)]
def ceM1 (a : Nat → Nat) (q : Nat → ClassId) (x : Nat → Int32) (i : Nat) : va_E := match i with
  | 0 => .inr (0, [.int (x 0), .ref (a 1), .int (x 2), .ref (a 2), .ref (a 3), .ref (a 4), .ref (a 5), .ref (a 6), .ref (a 7), .ref (a 8), .ref (a 9), .ref (a 10), .ref (a 11), .ref (a 12), .ref (a 13), .int (x 15), .int (x 16), .ref (a 14), .ref (a 15), .ref (a 16), .ref (a 17), .ref (a 18), .int (x 22), .ref (a 19), .ref (a 20), .ref (a 21), .ref (a 22), .ref (a 23)])
  | 1 => .inl (q 1, 8, .inl x)
  | 2 => .inl (q 0, 8, .inl x)
  | 3 => .inl (q 0, 32, .inl x)
  | 4 => .inl (q 0, 32, .inl x)
  | 5 => .inl (q 0, 32, .inl x)
  | 6 => .inl (q 0, 8, .inl x)
  | 7 => .inl (q 0, 8, .inl x)
  | 8 => .inl (q 0, 8, .inl x)
  | 9 => .inl (q 0, 32, .inl x)
  | 10 => .inl (q 0, 32, .inl x)
  | 11 => .inl (q 0, 32, .inl x)
  | 12 => .inl (q 0, 32, .inl x)
  | 13 => .inl (q 0, 32, .inl x)
  | 14 => .inl (q 0, 300, .inl x)
  | 15 => .inl (q 0, 300, .inl x)
  | 16 => .inl (q 0, 300, .inl x)
  | 17 => .inl (q 0, 300, .inl x)
  | 18 => .inl (q 0, 300, .inl x)
  | 19 => .inl (q 0, 300, .inl x)
  | 20 => .inl (q 0, 48, .inl x)
  | 21 => .inl (q 0, 8, .inl x)
  | 22 => .inl (q 0, 4, .inl x)
  | _ => .inl (q 0, 4, .inl x)
def ceM (a : Nat → Nat) (q : Nat → ClassId) (x : Nat → Int32) (i : Nat) : va_E := ceM1 a q x i
theorem cM_M {a : Nat → Nat} {q : Nat → ClassId} (x : Nat → Int32) : ceM a q x 0 = .inr (0, [.int (x 0), .ref (a 1), .int (x 2), .ref (a 2), .ref (a 3), .ref (a 4), .ref (a 5), .ref (a 6), .ref (a 7), .ref (a 8), .ref (a 9), .ref (a 10), .ref (a 11), .ref (a 12), .ref (a 13), .int (x 15), .int (x 16), .ref (a 14), .ref (a 15), .ref (a 16), .ref (a 17), .ref (a 18), .int (x 22), .ref (a 19), .ref (a 20), .ref (a 21), .ref (a 22), .ref (a 23)]) := rfl
theorem cM__answered {a : Nat → Nat} {q : Nat → ClassId} (x : Nat → Int32) : ceM a q x 1 = .inl (q 1, 8, .inl x) := rfl
theorem cM__parts {a : Nat → Nat} {q : Nat → ClassId} (x : Nat → Int32) : ceM a q x 2 = .inl (q 0, 8, .inl x) := rfl
theorem cM__partChannel {a : Nat → Nat} {q : Nat → ClassId} (x : Nat → Int32) : ceM a q x 3 = .inl (q 0, 32, .inl x) := rfl
theorem cM__partTest {a : Nat → Nat} {q : Nat → ClassId} (x : Nat → Int32) : ceM a q x 4 = .inl (q 0, 32, .inl x) := rfl
theorem cM__partNumber {a : Nat → Nat} {q : Nat → ClassId} (x : Nat → Int32) : ceM a q x 5 = .inl (q 0, 32, .inl x) := rfl
theorem cM__guardKind {a : Nat → Nat} {q : Nat → ClassId} (x : Nat → Int32) : ceM a q x 6 = .inl (q 0, 8, .inl x) := rfl
theorem cM__guardNumber {a : Nat → Nat} {q : Nat → ClassId} (x : Nat → Int32) : ceM a q x 7 = .inl (q 0, 8, .inl x) := rfl
theorem cM__actions {a : Nat → Nat} {q : Nat → ClassId} (x : Nat → Int32) : ceM a q x 8 = .inl (q 0, 8, .inl x) := rfl
theorem cM__target {a : Nat → Nat} {q : Nat → ClassId} (x : Nat → Int32) : ceM a q x 9 = .inl (q 0, 32, .inl x) := rfl
theorem cM__replied {a : Nat → Nat} {q : Nat → ClassId} (x : Nat → Int32) : ceM a q x 10 = .inl (q 0, 32, .inl x) := rfl
theorem cM__kind {a : Nat → Nat} {q : Nat → ClassId} (x : Nat → Int32) : ceM a q x 11 = .inl (q 0, 32, .inl x) := rfl
theorem cM__which {a : Nat → Nat} {q : Nat → ClassId} (x : Nat → Int32) : ceM a q x 12 = .inl (q 0, 32, .inl x) := rfl
theorem cM__number {a : Nat → Nat} {q : Nat → ClassId} (x : Nat → Int32) : ceM a q x 13 = .inl (q 0, 32, .inl x) := rfl
theorem cM__channelOf {a : Nat → Nat} {q : Nat → ClassId} (x : Nat → Int32) : ceM a q x 14 = .inl (q 0, 300, .inl x) := rfl
theorem cM__values {a : Nat → Nat} {q : Nat → ClassId} (x : Nat → Int32) : ceM a q x 15 = .inl (q 0, 300, .inl x) := rfl
theorem cM__states {a : Nat → Nat} {q : Nat → ClassId} (x : Nat → Int32) : ceM a q x 16 = .inl (q 0, 300, .inl x) := rfl
theorem cM__consumers {a : Nat → Nat} {q : Nat → ClassId} (x : Nat → Int32) : ceM a q x 17 = .inl (q 0, 300, .inl x) := rfl
theorem cM__answers {a : Nat → Nat} {q : Nat → ClassId} (x : Nat → Int32) : ceM a q x 18 = .inl (q 0, 300, .inl x) := rfl
theorem cM__firedBy {a : Nat → Nat} {q : Nat → ClassId} (x : Nat → Int32) : ceM a q x 19 = .inl (q 0, 300, .inl x) := rfl
theorem cM__gathered {a : Nat → Nat} {q : Nat → ClassId} (x : Nat → Int32) : ceM a q x 20 = .inl (q 0, 48, .inl x) := rfl
theorem cM__count {a : Nat → Nat} {q : Nat → ClassId} (x : Nat → Int32) : ceM a q x 21 = .inl (q 0, 8, .inl x) := rfl
theorem cM__digit {a : Nat → Nat} {q : Nat → ClassId} (x : Nat → Int32) : ceM a q x 22 = .inl (q 0, 4, .inl x) := rfl
theorem cM__tried {a : Nat → Nat} {q : Nat → ClassId} (x : Nat → Int32) : ceM a q x 23 = .inl (q 0, 4, .inl x) := rfl
abbrev b_V_channel : ByteArray := prog_1_method_2_code
def y_V_channel : MethodName := ⟨R_V, "channel", "(Z)I"⟩
abbrev b_V_reaction : ByteArray := prog_1_method_3_code
def y_V_reaction : MethodName := ⟨R_V, "reaction", "()I"⟩
abbrev b_V_part : ByteArray := prog_1_method_4_code
def y_V_part : MethodName := ⟨R_V, "part", "(IIII)I"⟩
abbrev b_V_guard : ByteArray := prog_1_method_5_code
def y_V_guard : MethodName := ⟨R_V, "guard", "(III)Z"⟩
abbrev b_V_emit : ByteArray := prog_1_method_6_code
def y_V_emit : MethodName := ⟨R_V, "emit", "(IIIII)Z"⟩
abbrev b_V_reply : ByteArray := prog_1_method_7_code
def y_V_reply : MethodName := ⟨R_V, "reply", "(IIIII)Z"⟩
abbrev b_V_seal : ByteArray := prog_1_method_8_code
def y_V_seal : MethodName := ⟨R_V, "seal", "()I"⟩
abbrev b_V_put : ByteArray := prog_1_method_9_code
def y_V_put : MethodName := ⟨R_V, "put", "(II)I"⟩
abbrev b_V_call : ByteArray := prog_1_method_10_code
def y_V_call : MethodName := ⟨R_V, "call", "(II)I"⟩
abbrev b_V_withdraw : ByteArray := prog_1_method_11_code
def y_V_withdraw : MethodName := ⟨R_V, "withdraw", "(I)Z"⟩
abbrev b_V_react : ByteArray := prog_1_method_12_code
def y_V_react : MethodName := ⟨R_V, "react", "(I)I"⟩
abbrev b_V_enabled : ByteArray := prog_1_method_13_code
def y_V_enabled : MethodName := ⟨R_V, "enabled", "()I"⟩
abbrev b_V_next : ByteArray := prog_1_method_14_code
def y_V_next : MethodName := ⟨R_V, "next", "()I"⟩
abbrev b_V_taken : ByteArray := prog_1_method_15_code
def y_V_taken : MethodName := ⟨R_V, "taken", "(I)I"⟩
abbrev b_V_pendingAt : ByteArray := prog_1_method_16_code
def y_V_pendingAt : MethodName := ⟨R_V, "pendingAt", "(II)I"⟩
abbrev b_V_value : ByteArray := prog_1_method_17_code
def y_V_value : MethodName := ⟨R_V, "value", "(I)I"⟩
abbrev b_V_state : ByteArray := prog_1_method_18_code
def y_V_state : MethodName := ⟨R_V, "state", "(I)I"⟩
abbrev b_V_consumer : ByteArray := prog_1_method_19_code
def y_V_consumer : MethodName := ⟨R_V, "consumer", "(I)I"⟩
abbrev b_V_answer : ByteArray := prog_1_method_20_code
def y_V_answer : MethodName := ⟨R_V, "answer", "(I)I"⟩
abbrev b_V_fired : ByteArray := prog_1_method_21_code
def y_V_fired : MethodName := ⟨R_V, "fired", "(I)I"⟩
abbrev b_V_isWithin : ByteArray := prog_1_method_22_code
def y_V_isWithin : MethodName := ⟨R_V, "isWithin", "(II)Z"⟩
abbrev b_V_isChannel : ByteArray := prog_1_method_23_code
def y_V_isChannel : MethodName := ⟨R_V, "isChannel", "(I)Z"⟩
abbrev b_V_isChannelOf : ByteArray := prog_1_method_24_code
def y_V_isChannelOf : MethodName := ⟨R_V, "isChannelOf", "(IZ)Z"⟩
abbrev b_V_mayBuild : ByteArray := prog_1_method_25_code
def y_V_mayBuild : MethodName := ⟨R_V, "mayBuild", "(I)Z"⟩
abbrev b_V_obstacleToSealing : ByteArray := prog_1_method_26_code
def y_V_obstacleToSealing : MethodName := ⟨R_V, "obstacleToSealing", "()I"⟩
abbrev b_V_leavesCallUnanswered : ByteArray := prog_1_method_27_code
def y_V_leavesCallUnanswered : MethodName := ⟨R_V, "leavesCallUnanswered", "(LJoinVessel$Reaction;)Z"⟩
abbrev b_V_admit : ByteArray := prog_1_method_28_code
def y_V_admit : MethodName := lw_n10
abbrev b_V_makeMessage : ByteArray := prog_1_method_29_code
def y_V_makeMessage : MethodName := ⟨R_V, "makeMessage", "(II)I"⟩
abbrev b_V_findNext : ByteArray := prog_1_method_30_code
def y_V_findNext : MethodName := ⟨R_V, "findNext", "()I"⟩
abbrev b_V_findEnabledMatch : ByteArray := prog_1_method_31_code
def y_V_findEnabledMatch : MethodName := ⟨R_V, "findEnabledMatch", "(I)Z"⟩
abbrev b_V_hasRoom : ByteArray := prog_1_method_32_code
def y_V_hasRoom : MethodName := ⟨R_V, "hasRoom", "(LJoinVessel$Reaction;)Z"⟩
abbrev b_V_fillMatch : ByteArray := prog_1_method_33_code
def y_V_fillMatch : MethodName := ⟨R_V, "fillMatch", "(LJoinVessel$Match;LJoinVessel$Reaction;[LJoinVessel$Channel;LJoinVessel$Messages;I)Z"⟩
abbrev b_V_fire : ByteArray := prog_1_method_34_code
def y_V_fire : MethodName := ⟨R_V, "fire", "(I)V"⟩
abbrev b_V_consume : ByteArray := prog_1_method_35_code
def y_V_consume : MethodName := ⟨R_V, "consume", "(I)V"⟩
abbrev b_V_sum : ByteArray := prog_1_method_36_code
def y_V_sum : MethodName := ⟨R_V, "sum", "([II)J"⟩
abbrev b_V_greatest : ByteArray := prog_1_method_37_code
def y_V_greatest : MethodName := ⟨R_V, "greatest", "([II)I"⟩
abbrev b_V_allRise : ByteArray := prog_1_method_38_code
def y_V_allRise : MethodName := ⟨R_V, "allRise", "([II)Z"⟩
abbrev b_V_allEqual : ByteArray := prog_1_method_39_code
def y_V_allEqual : MethodName := ⟨R_V, "allEqual", "([II)Z"⟩
abbrev b_V_allDiffer : ByteArray := prog_1_method_40_code
def y_V_allDiffer : MethodName := ⟨R_V, "allDiffer", "([II)Z"⟩
abbrev b_M_channel : ByteArray := prog_7_method_2_code
def y_M_channel : MethodName := ⟨R_M, "channel", "(Z)I"⟩
abbrev b_M_reaction : ByteArray := prog_7_method_3_code
def y_M_reaction : MethodName := ⟨R_M, "reaction", "()I"⟩
abbrev b_M_open : ByteArray := prog_7_method_4_code
def y_M_open : MethodName := ⟨R_M, "open", "(I)Z"⟩
abbrev b_M_isChannel : ByteArray := prog_7_method_5_code
def y_M_isChannel : MethodName := ⟨R_M, "isChannel", "(I)Z"⟩
abbrev b_M_hasPart : ByteArray := prog_7_method_6_code
def y_M_hasPart : MethodName := ⟨R_M, "hasPart", "(II)Z"⟩
abbrev b_M_part : ByteArray := prog_7_method_7_code
def y_M_part : MethodName := ⟨R_M, "part", "(IIII)I"⟩
abbrev b_M_guard : ByteArray := prog_7_method_8_code
def y_M_guard : MethodName := ⟨R_M, "guard", "(III)Z"⟩
abbrev b_M_expression : ByteArray := prog_7_method_9_code
def y_M_expression : MethodName := ⟨R_M, "expression", "(III)Z"⟩
abbrev b_M_act : ByteArray := prog_7_method_10_code
def y_M_act : MethodName := ⟨R_M, "act", "(IIIII)V"⟩
abbrev b_M_emit : ByteArray := prog_7_method_11_code
def y_M_emit : MethodName := ⟨R_M, "emit", "(IIIII)Z"⟩
abbrev b_M_answersPart : ByteArray := prog_7_method_12_code
def y_M_answersPart : MethodName := ⟨R_M, "answersPart", "(II)Z"⟩
abbrev b_M_reply : ByteArray := prog_7_method_13_code
def y_M_reply : MethodName := ⟨R_M, "reply", "(IIIII)Z"⟩
abbrev b_M_seal : ByteArray := prog_7_method_14_code
def y_M_seal : MethodName := ⟨R_M, "seal", "()I"⟩
abbrev b_M_make : ByteArray := prog_7_method_15_code
def y_M_make : MethodName := ⟨R_M, "make", "(II)I"⟩
abbrev b_M_gather : ByteArray := prog_7_method_16_code
def y_M_gather : MethodName := ⟨R_M, "gather", "()V"⟩
abbrev b_M_enter : ByteArray := prog_7_method_17_code
def y_M_enter : MethodName := ⟨R_M, "enter", "(IIZ)I"⟩
abbrev b_M_put : ByteArray := prog_7_method_18_code
def y_M_put : MethodName := ⟨R_M, "put", "(II)I"⟩
abbrev b_M_call : ByteArray := prog_7_method_19_code
def y_M_call : MethodName := ⟨R_M, "call", "(II)I"⟩
abbrev b_M_isMessage : ByteArray := prog_7_method_20_code
def y_M_isMessage : MethodName := ⟨R_M, "isMessage", "(I)Z"⟩
abbrev b_M_withdraw : ByteArray := prog_7_method_21_code
def y_M_withdraw : MethodName := ⟨R_M, "withdraw", "(I)Z"⟩
abbrev b_M_passes : ByteArray := prog_7_method_22_code
def y_M_passes : MethodName := ⟨R_M, "passes", "(II)Z"⟩
abbrev b_M_guarded : ByteArray := prog_7_method_23_code
def y_M_guarded : MethodName := ⟨R_M, "guarded", "(I)Z"⟩
abbrev b_M_chosen : ByteArray := prog_7_method_24_code
def y_M_chosen : MethodName := ⟨R_M, "chosen", "(II)I"⟩
abbrev b_M_matches : ByteArray := prog_7_method_25_code
def y_M_matches : MethodName := ⟨R_M, "matches", "(I)Z"⟩
abbrev b_M_find : ByteArray := prog_7_method_26_code
def y_M_find : MethodName := ⟨R_M, "find", "(I)Z"⟩
abbrev b_M_room : ByteArray := prog_7_method_27_code
def y_M_room : MethodName := ⟨R_M, "room", "(I)Z"⟩
abbrev b_M_enabled : ByteArray := prog_7_method_28_code
def y_M_enabled : MethodName := ⟨R_M, "enabled", "()I"⟩
abbrev b_M_next : ByteArray := prog_7_method_29_code
def y_M_next : MethodName := ⟨R_M, "next", "()I"⟩
abbrev b_M_taken : ByteArray := prog_7_method_30_code
def y_M_taken : MethodName := ⟨R_M, "taken", "(I)I"⟩
abbrev b_M_result : ByteArray := prog_7_method_31_code
def y_M_result : MethodName := ⟨R_M, "result", "(II)I"⟩
abbrev b_M_fire : ByteArray := prog_7_method_32_code
def y_M_fire : MethodName := ⟨R_M, "fire", "(I)V"⟩
abbrev b_M_react : ByteArray := prog_7_method_33_code
def y_M_react : MethodName := ⟨R_M, "react", "(I)I"⟩
abbrev b_M_pendingAt : ByteArray := prog_7_method_34_code
def y_M_pendingAt : MethodName := ⟨R_M, "pendingAt", "(II)I"⟩
abbrev b_M_value : ByteArray := prog_7_method_35_code
def y_M_value : MethodName := ⟨R_M, "value", "(I)I"⟩
abbrev b_M_state : ByteArray := prog_7_method_36_code
def y_M_state : MethodName := ⟨R_M, "state", "(I)I"⟩
abbrev b_M_consumer : ByteArray := prog_7_method_37_code
def y_M_consumer : MethodName := ⟨R_M, "consumer", "(I)I"⟩
abbrev b_M_answer : ByteArray := prog_7_method_38_code
def y_M_answer : MethodName := ⟨R_M, "answer", "(I)I"⟩
abbrev b_M_fired : ByteArray := prog_7_method_39_code
def y_M_fired : MethodName := ⟨R_M, "fired", "(I)I"⟩
abbrev b_Ch_addPending : ByteArray := prog_2_method_2_code
def y_Ch_addPending : MethodName := ⟨R_Ch, "addPending", "(I)V"⟩
abbrev b_Ch_removePending : ByteArray := prog_2_method_3_code
def y_Ch_removePending : MethodName := ⟨R_Ch, "removePending", "(I)V"⟩
abbrev b_Mt_holdsBefore : ByteArray := prog_3_method_2_code
def y_Mt_holdsBefore : MethodName := ⟨R_Mt, "holdsBefore", "(II)Z"⟩
abbrev b_Ms_has : ByteArray := prog_4_method_2_code
def y_Ms_has : MethodName := ⟨R_Ms, "has", "(I)Z"⟩
abbrev b_Ms_add : ByteArray := prog_4_method_3_code
def y_Ms_add : MethodName := ⟨R_Ms, "add", "(II)I"⟩
abbrev b_Re_addPart : ByteArray := prog_5_method_2_code
def y_Re_addPart : MethodName := ⟨R_Re, "addPart", "(III)I"⟩
abbrev b_Re_hasPart : ByteArray := prog_5_method_3_code
def y_Re_hasPart : MethodName := ⟨R_Re, "hasPart", "(I)Z"⟩
abbrev b_Re_mayAddAction : ByteArray := prog_5_method_4_code
def y_Re_mayAddAction : MethodName := ⟨R_Re, "mayAddAction", "(II)Z"⟩
abbrev b_Re_addAction : ByteArray := prog_5_method_5_code
def y_Re_addAction : MethodName := ⟨R_Re, "addAction", "(ZIIII)V"⟩
abbrev b_Re_hasReplyTo : ByteArray := prog_5_method_6_code
def y_Re_hasReplyTo : MethodName := ⟨R_Re, "hasReplyTo", "(I)Z"⟩
abbrev b_Re_partsOn : ByteArray := prog_5_method_7_code
def y_Re_partsOn : MethodName := ⟨R_Re, "partsOn", "(I)I"⟩
abbrev b_Re_sendCount : ByteArray := prog_5_method_8_code
def y_Re_sendCount : MethodName := ⟨R_Re, "sendCount", "()I"⟩
abbrev b_Re_sendsTo : ByteArray := prog_5_method_9_code
def y_Re_sendsTo : MethodName := ⟨R_Re, "sendsTo", "(I)I"⟩
abbrev b_Re_passesTest : ByteArray := prog_5_method_10_code
def y_Re_passesTest : MethodName := ⟨R_Re, "passesTest", "(II)Z"⟩
abbrev b_Re_guardHolds : ByteArray := prog_5_method_11_code
def y_Re_guardHolds : MethodName := ⟨R_Re, "guardHolds", "([I)Z"⟩
abbrev b_Re_evaluate : ByteArray := prog_5_method_12_code
def y_Re_evaluate : MethodName := ⟨R_Re, "evaluate", "(I[I)I"⟩
theorem cd_V_channel : Cond.code y_V_channel b_V_channel 2 (some .int) ∈ tbW := tb1_in (List.mem_of_getElem? (i := 166) rfl) rfl
theorem nm_V_channel : nmh y_V_channel 1 := ⟨by decide +kernel, by decide +kernel, by decide +kernel⟩
theorem cd_V_reaction : Cond.code y_V_reaction b_V_reaction 1 (some .int) ∈ tbW := tb1_in (List.mem_of_getElem? (i := 170) rfl) rfl
theorem nm_V_reaction : nmh y_V_reaction 0 := ⟨by decide +kernel, by decide +kernel, by decide +kernel⟩
theorem cd_V_part : Cond.code y_V_part b_V_part 5 (some .int) ∈ tbW := tb1_in (List.mem_of_getElem? (i := 174) rfl) rfl
theorem nm_V_part : nmh y_V_part 4 := ⟨by decide +kernel, by decide +kernel, by decide +kernel⟩
theorem cd_V_guard : Cond.code y_V_guard b_V_guard 4 (some .boolean) ∈ tbW := tb1_in (List.mem_of_getElem? (i := 193) rfl) rfl
theorem nm_V_guard : nmh y_V_guard 3 := ⟨by decide +kernel, by decide +kernel, by decide +kernel⟩
theorem cd_V_emit : Cond.code y_V_emit b_V_emit 6 (some .boolean) ∈ tbW := tb1_in (List.mem_of_getElem? (i := 197) rfl) rfl
theorem nm_V_emit : nmh y_V_emit 5 := ⟨by decide +kernel, by decide +kernel, by decide +kernel⟩
theorem cd_V_reply : Cond.code y_V_reply b_V_reply 7 (some .boolean) ∈ tbW := tb1_in (List.mem_of_getElem? (i := 218) rfl) rfl
theorem nm_V_reply : nmh y_V_reply 5 := ⟨by decide +kernel, by decide +kernel, by decide +kernel⟩
theorem cd_V_seal : Cond.code y_V_seal b_V_seal 2 (some .int) ∈ tbW := tb1_in (List.mem_of_getElem? (i := 227) rfl) rfl
theorem nm_V_seal : nmh y_V_seal 0 := ⟨by decide +kernel, by decide +kernel, by decide +kernel⟩
theorem cd_V_put : Cond.code y_V_put b_V_put 3 (some .int) ∈ tbW := tb1_in (List.mem_of_getElem? (i := 239) rfl) rfl
theorem nm_V_put : nmh y_V_put 2 := ⟨by decide +kernel, by decide +kernel, by decide +kernel⟩
theorem cd_V_call : Cond.code y_V_call b_V_call 3 (some .int) ∈ tbW := tb2_in (List.mem_of_getElem? (i := 19) rfl) rfl
theorem nm_V_call : nmh y_V_call 2 := ⟨by decide +kernel, by decide +kernel, by decide +kernel⟩
theorem cd_V_withdraw : Cond.code y_V_withdraw b_V_withdraw 3 (some .boolean) ∈ tbW := tb2_in (List.mem_of_getElem? (i := 23) rfl) rfl
theorem nm_V_withdraw : nmh y_V_withdraw 1 := ⟨by decide +kernel, by decide +kernel, by decide +kernel⟩
theorem cd_V_react : Cond.code y_V_react b_V_react 4 (some .int) ∈ tbW := tb2_in (List.mem_of_getElem? (i := 35) rfl) rfl
theorem nm_V_react : nmh y_V_react 1 := ⟨by decide +kernel, by decide +kernel, by decide +kernel⟩
theorem cd_V_enabled : Cond.code y_V_enabled b_V_enabled 3 (some .int) ∈ tbW := tb2_in (List.mem_of_getElem? (i := 108) rfl) rfl
theorem nm_V_enabled : nmh y_V_enabled 0 := ⟨by decide +kernel, by decide +kernel, by decide +kernel⟩
theorem cd_V_next : Cond.code y_V_next b_V_next 1 (some .int) ∈ tbW := tb2_in (List.mem_of_getElem? (i := 112) rfl) rfl
theorem nm_V_next : nmh y_V_next 0 := ⟨by decide +kernel, by decide +kernel, by decide +kernel⟩
theorem cd_V_taken : Cond.code y_V_taken b_V_taken 3 (some .int) ∈ tbW := tb2_in (List.mem_of_getElem? (i := 116) rfl) rfl
theorem nm_V_taken : nmh y_V_taken 1 := ⟨by decide +kernel, by decide +kernel, by decide +kernel⟩
theorem cd_V_pendingAt : Cond.code y_V_pendingAt b_V_pendingAt 3 (some .int) ∈ tbW := tb2_in (List.mem_of_getElem? (i := 120) rfl) rfl
theorem nm_V_pendingAt : nmh y_V_pendingAt 2 := ⟨by decide +kernel, by decide +kernel, by decide +kernel⟩
theorem cd_V_value : Cond.code y_V_value b_V_value 2 (some .int) ∈ tbW := tb2_in (List.mem_of_getElem? (i := 124) rfl) rfl
theorem nm_V_value : nmh y_V_value 1 := ⟨by decide +kernel, by decide +kernel, by decide +kernel⟩
theorem cd_V_state : Cond.code y_V_state b_V_state 2 (some .int) ∈ tbW := tb2_in (List.mem_of_getElem? (i := 128) rfl) rfl
theorem nm_V_state : nmh y_V_state 1 := ⟨by decide +kernel, by decide +kernel, by decide +kernel⟩
theorem cd_V_consumer : Cond.code y_V_consumer b_V_consumer 2 (some .int) ∈ tbW := tb2_in (List.mem_of_getElem? (i := 132) rfl) rfl
theorem nm_V_consumer : nmh y_V_consumer 1 := ⟨by decide +kernel, by decide +kernel, by decide +kernel⟩
theorem cd_V_answer : Cond.code y_V_answer b_V_answer 2 (some .int) ∈ tbW := tb2_in (List.mem_of_getElem? (i := 136) rfl) rfl
theorem nm_V_answer : nmh y_V_answer 1 := ⟨by decide +kernel, by decide +kernel, by decide +kernel⟩
theorem cd_V_fired : Cond.code y_V_fired b_V_fired 2 (some .int) ∈ tbW := tb2_in (List.mem_of_getElem? (i := 140) rfl) rfl
theorem nm_V_fired : nmh y_V_fired 1 := ⟨by decide +kernel, by decide +kernel, by decide +kernel⟩
theorem cd_V_isWithin : Cond.code y_V_isWithin b_V_isWithin 2 (some .boolean) ∈ tbW := tb1_in (List.mem_of_getElem? (i := 185) rfl) rfl
theorem nm_V_isWithin : nmh y_V_isWithin 2 := ⟨by decide +kernel, by decide +kernel, by decide +kernel⟩
theorem cd_V_isChannel : Cond.code y_V_isChannel b_V_isChannel 2 (some .boolean) ∈ tbW := tb1_in (List.mem_of_getElem? (i := 182) rfl) rfl
theorem nm_V_isChannel : nmh y_V_isChannel 1 := ⟨by decide +kernel, by decide +kernel, by decide +kernel⟩
theorem cd_V_isChannelOf : Cond.code y_V_isChannelOf b_V_isChannelOf 3 (some .boolean) ∈ tbW := tb1_in (List.mem_of_getElem? (i := 201) rfl) rfl
theorem nm_V_isChannelOf : nmh y_V_isChannelOf 2 := ⟨by decide +kernel, by decide +kernel, by decide +kernel⟩
theorem cd_V_mayBuild : Cond.code y_V_mayBuild b_V_mayBuild 2 (some .boolean) ∈ tbW := tb1_in (List.mem_of_getElem? (i := 178) rfl) rfl
theorem nm_V_mayBuild : nmh y_V_mayBuild 1 := ⟨by decide +kernel, by decide +kernel, by decide +kernel⟩
theorem cd_V_obstacleToSealing : Cond.code y_V_obstacleToSealing b_V_obstacleToSealing 2 (some .int) ∈ tbW := tb1_in (List.mem_of_getElem? (i := 231) rfl) rfl
theorem nm_V_obstacleToSealing : nmh y_V_obstacleToSealing 0 := ⟨by decide +kernel, by decide +kernel, by decide +kernel⟩
theorem cd_V_leavesCallUnanswered : Cond.code y_V_leavesCallUnanswered b_V_leavesCallUnanswered 3 (some .boolean) ∈ tbW := tb1_in (List.mem_of_getElem? (i := 235) rfl) rfl
theorem nm_V_leavesCallUnanswered : nmh y_V_leavesCallUnanswered 1 := ⟨by decide +kernel, by decide +kernel, by decide +kernel⟩
theorem cd_V_admit : Cond.code y_V_admit b_V_admit 4 (some .int) ∈ tbW := tb2_in (List.mem_of_getElem? (i := 3) rfl) rfl
theorem nm_V_admit : nmh y_V_admit 3 := ⟨by decide +kernel, by decide +kernel, by decide +kernel⟩
theorem cd_V_makeMessage : Cond.code y_V_makeMessage b_V_makeMessage 4 (some .int) ∈ tbW := tb2_in (List.mem_of_getElem? (i := 7) rfl) rfl
theorem nm_V_makeMessage : nmh y_V_makeMessage 2 := ⟨by decide +kernel, by decide +kernel, by decide +kernel⟩
theorem cd_V_findNext : Cond.code y_V_findNext b_V_findNext 4 (some .int) ∈ tbW := tb2_in (List.mem_of_getElem? (i := 39) rfl) rfl
theorem nm_V_findNext : nmh y_V_findNext 0 := ⟨by decide +kernel, by decide +kernel, by decide +kernel⟩
theorem cd_V_findEnabledMatch : Cond.code y_V_findEnabledMatch b_V_findEnabledMatch 2 (some .boolean) ∈ tbW := tb2_in (List.mem_of_getElem? (i := 43) rfl) rfl
theorem nm_V_findEnabledMatch : nmh y_V_findEnabledMatch 1 := ⟨by decide +kernel, by decide +kernel, by decide +kernel⟩
theorem cd_V_hasRoom : Cond.code y_V_hasRoom b_V_hasRoom 4 (some .boolean) ∈ tbW := tb2_in (List.mem_of_getElem? (i := 47) rfl) rfl
theorem nm_V_hasRoom : nmh y_V_hasRoom 1 := ⟨by decide +kernel, by decide +kernel, by decide +kernel⟩
theorem cd_V_fillMatch : Cond.code y_V_fillMatch b_V_fillMatch 9 (some .boolean) ∈ tbW := tb2_in (List.mem_of_getElem? (i := 62) rfl) rfl
theorem nm_V_fillMatch : nmh y_V_fillMatch 5 := ⟨by decide +kernel, by decide +kernel, by decide +kernel⟩
theorem cd_V_fire : Cond.code y_V_fire b_V_fire 5 none ∈ tbW := tb2_in (List.mem_of_getElem? (i := 90) rfl) rfl
theorem nm_V_fire : nmh y_V_fire 1 := ⟨by decide +kernel, by decide +kernel, by decide +kernel⟩
theorem cd_V_consume : Cond.code y_V_consume b_V_consume 2 none ∈ tbW := tb2_in (List.mem_of_getElem? (i := 94) rfl) rfl
theorem nm_V_consume : nmh y_V_consume 1 := ⟨by decide +kernel, by decide +kernel, by decide +kernel⟩
theorem cd_V_sum : Cond.code y_V_sum b_V_sum 5 (some .long) ∈ tbW := tb2_in (List.mem_of_getElem? (i := 78) rfl) rfl
theorem nm_V_sum : nmh y_V_sum 2 := ⟨by decide +kernel, by decide +kernel, by decide +kernel⟩
theorem cd_V_greatest : Cond.code y_V_greatest b_V_greatest 4 (some .int) ∈ tbW := tb2_in (List.mem_of_getElem? (i := 101) rfl) rfl
theorem nm_V_greatest : nmh y_V_greatest 2 := ⟨by decide +kernel, by decide +kernel, by decide +kernel⟩
theorem cd_V_allRise : Cond.code y_V_allRise b_V_allRise 3 (some .boolean) ∈ tbW := tb2_in (List.mem_of_getElem? (i := 69) rfl) rfl
theorem nm_V_allRise : nmh y_V_allRise 2 := ⟨by decide +kernel, by decide +kernel, by decide +kernel⟩
theorem cd_V_allEqual : Cond.code y_V_allEqual b_V_allEqual 3 (some .boolean) ∈ tbW := tb2_in (List.mem_of_getElem? (i := 72) rfl) rfl
theorem nm_V_allEqual : nmh y_V_allEqual 2 := ⟨by decide +kernel, by decide +kernel, by decide +kernel⟩
theorem cd_V_allDiffer : Cond.code y_V_allDiffer b_V_allDiffer 4 (some .boolean) ∈ tbW := tb2_in (List.mem_of_getElem? (i := 75) rfl) rfl
theorem nm_V_allDiffer : nmh y_V_allDiffer 2 := ⟨by decide +kernel, by decide +kernel, by decide +kernel⟩
theorem cd_M_channel : Cond.code y_M_channel b_M_channel 2 (some .int) ∈ tbW := tb2_in (List.mem_of_getElem? (i := 235) rfl) rfl
theorem nm_M_channel : nmh y_M_channel 1 := ⟨by decide +kernel, by decide +kernel, by decide +kernel⟩
theorem cd_M_reaction : Cond.code y_M_reaction b_M_reaction 1 (some .int) ∈ tbW := tb2_in (List.mem_of_getElem? (i := 239) rfl) rfl
theorem nm_M_reaction : nmh y_M_reaction 0 := ⟨by decide +kernel, by decide +kernel, by decide +kernel⟩
theorem cd_M_open : Cond.code y_M_open b_M_open 2 (some .boolean) ∈ tbW := tb3_in (List.mem_of_getElem? (i := 7) rfl) rfl
theorem nm_M_open : nmh y_M_open 1 := ⟨by decide +kernel, by decide +kernel, by decide +kernel⟩
theorem cd_M_isChannel : Cond.code y_M_isChannel b_M_isChannel 2 (some .boolean) ∈ tbW := tb3_in (List.mem_of_getElem? (i := 11) rfl) rfl
theorem nm_M_isChannel : nmh y_M_isChannel 1 := ⟨by decide +kernel, by decide +kernel, by decide +kernel⟩
theorem cd_M_hasPart : Cond.code y_M_hasPart b_M_hasPart 3 (some .boolean) ∈ tbW := tb3_in (List.mem_of_getElem? (i := 27) rfl) rfl
theorem nm_M_hasPart : nmh y_M_hasPart 2 := ⟨by decide +kernel, by decide +kernel, by decide +kernel⟩
theorem cd_M_part : Cond.code y_M_part b_M_part 6 (some .int) ∈ tbW := tb3_in (List.mem_of_getElem? (i := 3) rfl) rfl
theorem nm_M_part : nmh y_M_part 4 := ⟨by decide +kernel, by decide +kernel, by decide +kernel⟩
theorem cd_M_guard : Cond.code y_M_guard b_M_guard 4 (some .boolean) ∈ tbW := tb3_in (List.mem_of_getElem? (i := 15) rfl) rfl
theorem nm_M_guard : nmh y_M_guard 3 := ⟨by decide +kernel, by decide +kernel, by decide +kernel⟩
theorem cd_M_expression : Cond.code y_M_expression b_M_expression 4 (some .boolean) ∈ tbW := tb3_in (List.mem_of_getElem? (i := 23) rfl) rfl
theorem nm_M_expression : nmh y_M_expression 3 := ⟨by decide +kernel, by decide +kernel, by decide +kernel⟩
theorem cd_M_act : Cond.code y_M_act b_M_act 7 none ∈ tbW := tb3_in (List.mem_of_getElem? (i := 31) rfl) rfl
theorem nm_M_act : nmh y_M_act 5 := ⟨by decide +kernel, by decide +kernel, by decide +kernel⟩
theorem cd_M_emit : Cond.code y_M_emit b_M_emit 6 (some .boolean) ∈ tbW := tb3_in (List.mem_of_getElem? (i := 19) rfl) rfl
theorem nm_M_emit : nmh y_M_emit 5 := ⟨by decide +kernel, by decide +kernel, by decide +kernel⟩
theorem cd_M_answersPart : Cond.code y_M_answersPart b_M_answersPart 5 (some .boolean) ∈ tbW := tb3_in (List.mem_of_getElem? (i := 39) rfl) rfl
theorem nm_M_answersPart : nmh y_M_answersPart 2 := ⟨by decide +kernel, by decide +kernel, by decide +kernel⟩
theorem cd_M_reply : Cond.code y_M_reply b_M_reply 6 (some .boolean) ∈ tbW := tb3_in (List.mem_of_getElem? (i := 35) rfl) rfl
theorem nm_M_reply : nmh y_M_reply 5 := ⟨by decide +kernel, by decide +kernel, by decide +kernel⟩
theorem cd_M_seal : Cond.code y_M_seal b_M_seal 5 (some .int) ∈ tbW := tb3_in (List.mem_of_getElem? (i := 43) rfl) rfl
theorem nm_M_seal : nmh y_M_seal 0 := ⟨by decide +kernel, by decide +kernel, by decide +kernel⟩
theorem cd_M_make : Cond.code y_M_make b_M_make 3 (some .int) ∈ tbW := tb3_in (List.mem_of_getElem? (i := 59) rfl) rfl
theorem nm_M_make : nmh y_M_make 2 := ⟨by decide +kernel, by decide +kernel, by decide +kernel⟩
theorem cd_M_gather : Cond.code y_M_gather b_M_gather 3 none ∈ tbW := tb3_in (List.mem_of_getElem? (i := 55) rfl) rfl
theorem nm_M_gather : nmh y_M_gather 0 := ⟨by decide +kernel, by decide +kernel, by decide +kernel⟩
theorem cd_M_enter : Cond.code y_M_enter b_M_enter 4 (some .int) ∈ tbW := tb3_in (List.mem_of_getElem? (i := 51) rfl) rfl
theorem nm_M_enter : nmh y_M_enter 3 := ⟨by decide +kernel, by decide +kernel, by decide +kernel⟩
theorem cd_M_put : Cond.code y_M_put b_M_put 3 (some .int) ∈ tbW := tb3_in (List.mem_of_getElem? (i := 47) rfl) rfl
theorem nm_M_put : nmh y_M_put 2 := ⟨by decide +kernel, by decide +kernel, by decide +kernel⟩
theorem cd_M_call : Cond.code y_M_call b_M_call 3 (some .int) ∈ tbW := tb3_in (List.mem_of_getElem? (i := 63) rfl) rfl
theorem nm_M_call : nmh y_M_call 2 := ⟨by decide +kernel, by decide +kernel, by decide +kernel⟩
theorem cd_M_isMessage : Cond.code y_M_isMessage b_M_isMessage 2 (some .boolean) ∈ tbW := tb3_in (List.mem_of_getElem? (i := 71) rfl) rfl
theorem nm_M_isMessage : nmh y_M_isMessage 1 := ⟨by decide +kernel, by decide +kernel, by decide +kernel⟩
theorem cd_M_withdraw : Cond.code y_M_withdraw b_M_withdraw 2 (some .boolean) ∈ tbW := tb3_in (List.mem_of_getElem? (i := 67) rfl) rfl
theorem nm_M_withdraw : nmh y_M_withdraw 1 := ⟨by decide +kernel, by decide +kernel, by decide +kernel⟩
theorem cd_M_passes : Cond.code y_M_passes b_M_passes 5 (some .boolean) ∈ tbW := tb3_in (List.mem_of_getElem? (i := 95) rfl) rfl
theorem nm_M_passes : nmh y_M_passes 2 := ⟨by decide +kernel, by decide +kernel, by decide +kernel⟩
theorem cd_M_guarded : Cond.code y_M_guarded b_M_guarded 11 (some .boolean) ∈ tbW := tb3_in (List.mem_of_getElem? (i := 99) rfl) rfl
theorem nm_M_guarded : nmh y_M_guarded 1 := ⟨by decide +kernel, by decide +kernel, by decide +kernel⟩
theorem cd_M_chosen : Cond.code y_M_chosen b_M_chosen 3 (some .int) ∈ tbW := tb3_in (List.mem_of_getElem? (i := 91) rfl) rfl
theorem nm_M_chosen : nmh y_M_chosen 2 := ⟨by decide +kernel, by decide +kernel, by decide +kernel⟩
theorem cd_M_matches : Cond.code y_M_matches b_M_matches 6 (some .boolean) ∈ tbW := tb3_in (List.mem_of_getElem? (i := 87) rfl) rfl
theorem nm_M_matches : nmh y_M_matches 1 := ⟨by decide +kernel, by decide +kernel, by decide +kernel⟩
theorem cd_M_find : Cond.code y_M_find b_M_find 7 (some .boolean) ∈ tbW := tb3_in (List.mem_of_getElem? (i := 83) rfl) rfl
theorem nm_M_find : nmh y_M_find 1 := ⟨by decide +kernel, by decide +kernel, by decide +kernel⟩
theorem cd_M_room : Cond.code y_M_room b_M_room 8 (some .boolean) ∈ tbW := tb3_in (List.mem_of_getElem? (i := 79) rfl) rfl
theorem nm_M_room : nmh y_M_room 1 := ⟨by decide +kernel, by decide +kernel, by decide +kernel⟩
theorem cd_M_enabled : Cond.code y_M_enabled b_M_enabled 3 (some .int) ∈ tbW := tb3_in (List.mem_of_getElem? (i := 75) rfl) rfl
theorem nm_M_enabled : nmh y_M_enabled 0 := ⟨by decide +kernel, by decide +kernel, by decide +kernel⟩
theorem cd_M_next : Cond.code y_M_next b_M_next 5 (some .int) ∈ tbW := tb3_in (List.mem_of_getElem? (i := 103) rfl) rfl
theorem nm_M_next : nmh y_M_next 0 := ⟨by decide +kernel, by decide +kernel, by decide +kernel⟩
theorem cd_M_taken : Cond.code y_M_taken b_M_taken 3 (some .int) ∈ tbW := tb3_in (List.mem_of_getElem? (i := 108) rfl) rfl
theorem nm_M_taken : nmh y_M_taken 1 := ⟨by decide +kernel, by decide +kernel, by decide +kernel⟩
theorem cd_M_result : Cond.code y_M_result b_M_result 7 (some .int) ∈ tbW := tb3_in (List.mem_of_getElem? (i := 121) rfl) rfl
theorem nm_M_result : nmh y_M_result 2 := ⟨by decide +kernel, by decide +kernel, by decide +kernel⟩
theorem cd_M_fire : Cond.code y_M_fire b_M_fire 5 none ∈ tbW := tb3_in (List.mem_of_getElem? (i := 117) rfl) rfl
theorem nm_M_fire : nmh y_M_fire 1 := ⟨by decide +kernel, by decide +kernel, by decide +kernel⟩
theorem cd_M_react : Cond.code y_M_react b_M_react 4 (some .int) ∈ tbW := tb3_in (List.mem_of_getElem? (i := 113) rfl) rfl
theorem nm_M_react : nmh y_M_react 1 := ⟨by decide +kernel, by decide +kernel, by decide +kernel⟩
theorem cd_M_pendingAt : Cond.code y_M_pendingAt b_M_pendingAt 3 (some .int) ∈ tbW := tb3_in (List.mem_of_getElem? (i := 125) rfl) rfl
theorem nm_M_pendingAt : nmh y_M_pendingAt 2 := ⟨by decide +kernel, by decide +kernel, by decide +kernel⟩
theorem cd_M_value : Cond.code y_M_value b_M_value 2 (some .int) ∈ tbW := tb3_in (List.mem_of_getElem? (i := 129) rfl) rfl
theorem nm_M_value : nmh y_M_value 1 := ⟨by decide +kernel, by decide +kernel, by decide +kernel⟩
theorem cd_M_state : Cond.code y_M_state b_M_state 2 (some .int) ∈ tbW := tb3_in (List.mem_of_getElem? (i := 133) rfl) rfl
theorem nm_M_state : nmh y_M_state 1 := ⟨by decide +kernel, by decide +kernel, by decide +kernel⟩
theorem cd_M_consumer : Cond.code y_M_consumer b_M_consumer 2 (some .int) ∈ tbW := tb3_in (List.mem_of_getElem? (i := 137) rfl) rfl
theorem nm_M_consumer : nmh y_M_consumer 1 := ⟨by decide +kernel, by decide +kernel, by decide +kernel⟩
theorem cd_M_answer : Cond.code y_M_answer b_M_answer 2 (some .int) ∈ tbW := tb3_in (List.mem_of_getElem? (i := 141) rfl) rfl
theorem nm_M_answer : nmh y_M_answer 1 := ⟨by decide +kernel, by decide +kernel, by decide +kernel⟩
theorem cd_M_fired : Cond.code y_M_fired b_M_fired 2 (some .int) ∈ tbW := tb3_in (List.mem_of_getElem? (i := 145) rfl) rfl
theorem nm_M_fired : nmh y_M_fired 1 := ⟨by decide +kernel, by decide +kernel, by decide +kernel⟩
theorem cd_Ch_addPending : Cond.code y_Ch_addPending b_Ch_addPending 2 none ∈ tbW := tb2_in (List.mem_of_getElem? (i := 15) rfl) rfl
theorem nm_Ch_addPending : nmh y_Ch_addPending 1 := ⟨by decide +kernel, by decide +kernel, by decide +kernel⟩
theorem cd_Ch_removePending : Cond.code y_Ch_removePending b_Ch_removePending 4 none ∈ tbW := tb2_in (List.mem_of_getElem? (i := 31) rfl) rfl
theorem nm_Ch_removePending : nmh y_Ch_removePending 1 := ⟨by decide +kernel, by decide +kernel, by decide +kernel⟩
theorem cd_Mt_holdsBefore : Cond.code y_Mt_holdsBefore b_Mt_holdsBefore 4 (some .boolean) ∈ tbW := tb2_in (List.mem_of_getElem? (i := 86) rfl) rfl
theorem nm_Mt_holdsBefore : nmh y_Mt_holdsBefore 2 := ⟨by decide +kernel, by decide +kernel, by decide +kernel⟩
theorem cd_Ms_has : Cond.code y_Ms_has b_Ms_has 2 (some .boolean) ∈ tbW := tb2_in (List.mem_of_getElem? (i := 27) rfl) rfl
theorem nm_Ms_has : nmh y_Ms_has 1 := ⟨by decide +kernel, by decide +kernel, by decide +kernel⟩
theorem cd_Ms_add : Cond.code y_Ms_add b_Ms_add 4 (some .int) ∈ tbW := tb2_in (List.mem_of_getElem? (i := 11) rfl) rfl
theorem nm_Ms_add : nmh y_Ms_add 2 := ⟨by decide +kernel, by decide +kernel, by decide +kernel⟩
theorem cd_Re_addPart : Cond.code y_Re_addPart b_Re_addPart 5 (some .int) ∈ tbW := tb1_in (List.mem_of_getElem? (i := 189) rfl) rfl
theorem nm_Re_addPart : nmh y_Re_addPart 3 := ⟨by decide +kernel, by decide +kernel, by decide +kernel⟩
theorem cd_Re_hasPart : Cond.code y_Re_hasPart b_Re_hasPart 2 (some .boolean) ∈ tbW := tb1_in (List.mem_of_getElem? (i := 210) rfl) rfl
theorem nm_Re_hasPart : nmh y_Re_hasPart 1 := ⟨by decide +kernel, by decide +kernel, by decide +kernel⟩
theorem cd_Re_mayAddAction : Cond.code y_Re_mayAddAction b_Re_mayAddAction 4 (some .boolean) ∈ tbW := tb1_in (List.mem_of_getElem? (i := 205) rfl) rfl
theorem nm_Re_mayAddAction : nmh y_Re_mayAddAction 2 := ⟨by decide +kernel, by decide +kernel, by decide +kernel⟩
theorem cd_Re_addAction : Cond.code y_Re_addAction b_Re_addAction 7 none ∈ tbW := tb1_in (List.mem_of_getElem? (i := 214) rfl) rfl
theorem nm_Re_addAction : nmh y_Re_addAction 5 := ⟨by decide +kernel, by decide +kernel, by decide +kernel⟩
theorem cd_Re_hasReplyTo : Cond.code y_Re_hasReplyTo b_Re_hasReplyTo 3 (some .boolean) ∈ tbW := tb1_in (List.mem_of_getElem? (i := 223) rfl) rfl
theorem nm_Re_hasReplyTo : nmh y_Re_hasReplyTo 1 := ⟨by decide +kernel, by decide +kernel, by decide +kernel⟩
theorem cd_Re_partsOn : Cond.code y_Re_partsOn b_Re_partsOn 4 (some .int) ∈ tbW := tb2_in (List.mem_of_getElem? (i := 55) rfl) rfl
theorem nm_Re_partsOn : nmh y_Re_partsOn 1 := ⟨by decide +kernel, by decide +kernel, by decide +kernel⟩
theorem cd_Re_sendCount : Cond.code y_Re_sendCount b_Re_sendCount 3 (some .int) ∈ tbW := tb2_in (List.mem_of_getElem? (i := 51) rfl) rfl
theorem nm_Re_sendCount : nmh y_Re_sendCount 0 := ⟨by decide +kernel, by decide +kernel, by decide +kernel⟩
theorem cd_Re_sendsTo : Cond.code y_Re_sendsTo b_Re_sendsTo 4 (some .int) ∈ tbW := tb2_in (List.mem_of_getElem? (i := 59) rfl) rfl
theorem nm_Re_sendsTo : nmh y_Re_sendsTo 1 := ⟨by decide +kernel, by decide +kernel, by decide +kernel⟩
theorem cd_Re_passesTest : Cond.code y_Re_passesTest b_Re_passesTest 4 (some .boolean) ∈ tbW := tb2_in (List.mem_of_getElem? (i := 82) rfl) rfl
theorem nm_Re_passesTest : nmh y_Re_passesTest 2 := ⟨by decide +kernel, by decide +kernel, by decide +kernel⟩
theorem cd_Re_guardHolds : Cond.code y_Re_guardHolds b_Re_guardHolds 2 (some .boolean) ∈ tbW := tb2_in (List.mem_of_getElem? (i := 66) rfl) rfl
theorem nm_Re_guardHolds : nmh y_Re_guardHolds 1 := ⟨by decide +kernel, by decide +kernel, by decide +kernel⟩
theorem cd_Re_evaluate : Cond.code y_Re_evaluate b_Re_evaluate 4 (some .int) ∈ tbW := tb2_in (List.mem_of_getElem? (i := 98) rfl) rfl
theorem nm_Re_evaluate : nmh y_Re_evaluate 2 := ⟨by decide +kernel, by decide +kernel, by decide +kernel⟩
theorem lk1 : Cond.fieldLink R_V 28 "JoinVessel" "isSealed" "Z" ∈ tbW := tb1_in (List.mem_of_getElem? (i := 139) rfl) rfl
theorem lk2 : Cond.fieldLink R_V 15 "JoinVessel" "channelCount" "I" ∈ tbW := tb1_in (List.mem_of_getElem? (i := 136) rfl) rfl
theorem lk3 : Cond.fieldLink R_V 11 "JoinVessel" "channels" "[LJoinVessel$Channel;" ∈ tbW := tb1_in (List.mem_of_getElem? (i := 135) rfl) rfl
theorem lk4 : Cond.fieldLinkNest R_V 55 "JoinVessel$Channel" "isAnswered" "Z" "JoinVessel" ∈ tbW := tb1_in (List.mem_of_getElem? (i := 73) rfl) rfl
theorem lk5 : Cond.fieldLink R_V 25 "JoinVessel" "reactionCount" "I" ∈ tbW := tb1_in (List.mem_of_getElem? (i := 138) rfl) rfl
theorem lk6 : Cond.fieldLink R_Re 9 "JoinVessel$Reaction" "partCount" "I" ∈ tbW := tb1_in (List.mem_of_getElem? (i := 90) rfl) rfl
theorem lk7 : Cond.fieldLink R_Re 15 "JoinVessel$Reaction" "partChannels" "[I" ∈ tbW := tb1_in (List.mem_of_getElem? (i := 92) rfl) rfl
theorem lk8 : Cond.fieldLink R_Re 19 "JoinVessel$Reaction" "partTests" "[I" ∈ tbW := tb1_in (List.mem_of_getElem? (i := 94) rfl) rfl
theorem lk9 : Cond.fieldLink R_Re 22 "JoinVessel$Reaction" "partNumbers" "[I" ∈ tbW := tb1_in (List.mem_of_getElem? (i := 95) rfl) rfl
theorem lk10 : Cond.methodLink R_V 58 y_V_mayBuild ∈ tbW := tb1_in (List.mem_of_getElem? (i := 175) rfl) rfl
theorem lk11 : Cond.initialized R_V ∈ tbW := tb1_in (List.mem_of_getElem? (i := 1) rfl) rfl
theorem lk12 : Cond.instanceMethod y_V_mayBuild ∈ tbW := tb1_in (List.mem_of_getElem? (i := 177) rfl) rfl
theorem lk13 : Cond.selects R_V y_V_mayBuild y_V_mayBuild ∈ tbW := tbs_in (List.mem_of_getElem? (i := 0) rfl) rfl
theorem lk14 : Cond.methodLink R_V 62 y_V_isChannel ∈ tbW := tb1_in (List.mem_of_getElem? (i := 179) rfl) rfl
theorem lk15 : Cond.instanceMethod y_V_isChannel ∈ tbW := tb1_in (List.mem_of_getElem? (i := 181) rfl) rfl
theorem lk16 : Cond.selects R_V y_V_isChannel y_V_isChannel ∈ tbW := tbs_in (List.mem_of_getElem? (i := 1) rfl) rfl
theorem lk17 : Cond.methodLink R_V 65 y_V_isWithin ∈ tbW := tb1_in (List.mem_of_getElem? (i := 183) rfl) rfl
theorem lk18 : Cond.static y_V_isWithin ∈ tbW := tb1_in (List.mem_of_getElem? (i := 184) rfl) rfl
theorem lk19 : Cond.fieldLink R_V 21 "JoinVessel" "reactions" "[LJoinVessel$Reaction;" ∈ tbW := tb1_in (List.mem_of_getElem? (i := 137) rfl) rfl
theorem lk20 : Cond.fieldLinkNest R_V 69 "JoinVessel$Reaction" "partCount" "I" "JoinVessel" ∈ tbW := tb1_in (List.mem_of_getElem? (i := 91) rfl) rfl
theorem lk21 : Cond.methodLinkNest R_V 72 y_Re_addPart "JoinVessel" ∈ tbW := tb1_in (List.mem_of_getElem? (i := 186) rfl) rfl
theorem lk22 : Cond.initialized R_Re ∈ tbW := tb1_in (List.mem_of_getElem? (i := 5) rfl) rfl
theorem lk23 : Cond.instanceMethod y_Re_addPart ∈ tbW := tb1_in (List.mem_of_getElem? (i := 188) rfl) rfl
theorem lk24 : Cond.selects R_Re y_Re_addPart y_Re_addPart ∈ tbW := tbs_in (List.mem_of_getElem? (i := 2) rfl) rfl
theorem lk25 : Cond.fieldLinkNest R_V 76 "JoinVessel$Reaction" "guardKind" "I" "JoinVessel" ∈ tbW := tb1_in (List.mem_of_getElem? (i := 97) rfl) rfl
theorem lk26 : Cond.fieldLinkNest R_V 79 "JoinVessel$Reaction" "guardNumber" "I" "JoinVessel" ∈ tbW := tb1_in (List.mem_of_getElem? (i := 99) rfl) rfl
theorem lk27 : Cond.methodLink R_Re 54 y_Re_hasPart ∈ tbW := tb1_in (List.mem_of_getElem? (i := 207) rfl) rfl
theorem lk28 : Cond.instanceMethod y_Re_hasPart ∈ tbW := tb1_in (List.mem_of_getElem? (i := 209) rfl) rfl
theorem lk29 : Cond.selects R_Re y_Re_hasPart y_Re_hasPart ∈ tbW := tbs_in (List.mem_of_getElem? (i := 5) rfl) rfl
theorem lk30 : Cond.methodLinkNest R_Re 50 y_V_isWithin "JoinVessel" ∈ tbW := tb1_in (List.mem_of_getElem? (i := 206) rfl) rfl
theorem lk31 : Cond.fieldLink R_Re 31 "JoinVessel$Reaction" "actionCount" "I" ∈ tbW := tb1_in (List.mem_of_getElem? (i := 100) rfl) rfl
theorem lk32 : Cond.fieldLink R_Re 34 "JoinVessel$Reaction" "actionSends" "[Z" ∈ tbW := tb1_in (List.mem_of_getElem? (i := 102) rfl) rfl
theorem lk33 : Cond.fieldLink R_Re 38 "JoinVessel$Reaction" "actionTargets" "[I" ∈ tbW := tb1_in (List.mem_of_getElem? (i := 104) rfl) rfl
theorem lk34 : Cond.fieldLink R_Re 41 "JoinVessel$Reaction" "actionKinds" "[I" ∈ tbW := tb1_in (List.mem_of_getElem? (i := 106) rfl) rfl
theorem lk35 : Cond.fieldLink R_Re 44 "JoinVessel$Reaction" "actionParts" "[I" ∈ tbW := tb1_in (List.mem_of_getElem? (i := 107) rfl) rfl
theorem lk36 : Cond.fieldLink R_Re 47 "JoinVessel$Reaction" "actionNumbers" "[I" ∈ tbW := tb1_in (List.mem_of_getElem? (i := 108) rfl) rfl
theorem lk37 : Cond.methodLink R_V 82 y_V_isChannelOf ∈ tbW := tb1_in (List.mem_of_getElem? (i := 198) rfl) rfl
theorem lk38 : Cond.instanceMethod y_V_isChannelOf ∈ tbW := tb1_in (List.mem_of_getElem? (i := 200) rfl) rfl
theorem lk39 : Cond.selects R_V y_V_isChannelOf y_V_isChannelOf ∈ tbW := tbs_in (List.mem_of_getElem? (i := 3) rfl) rfl
theorem lk40 : Cond.methodLinkNest R_V 86 y_Re_mayAddAction "JoinVessel" ∈ tbW := tb1_in (List.mem_of_getElem? (i := 202) rfl) rfl
theorem lk41 : Cond.instanceMethod y_Re_mayAddAction ∈ tbW := tb1_in (List.mem_of_getElem? (i := 204) rfl) rfl
theorem lk42 : Cond.selects R_Re y_Re_mayAddAction y_Re_mayAddAction ∈ tbW := tbs_in (List.mem_of_getElem? (i := 4) rfl) rfl
theorem lk43 : Cond.methodLinkNest R_V 89 y_Re_addAction "JoinVessel" ∈ tbW := tb1_in (List.mem_of_getElem? (i := 211) rfl) rfl
theorem lk44 : Cond.instanceMethod y_Re_addAction ∈ tbW := tb1_in (List.mem_of_getElem? (i := 213) rfl) rfl
theorem lk45 : Cond.selects R_Re y_Re_addAction y_Re_addAction ∈ tbW := tbs_in (List.mem_of_getElem? (i := 6) rfl) rfl
theorem lk46 : Cond.methodLinkNest R_V 93 y_Re_hasPart "JoinVessel" ∈ tbW := tb1_in (List.mem_of_getElem? (i := 219) rfl) rfl
theorem lk47 : Cond.fieldLinkNest R_V 96 "JoinVessel$Reaction" "partChannels" "[I" "JoinVessel" ∈ tbW := tb1_in (List.mem_of_getElem? (i := 93) rfl) rfl
theorem lk48 : Cond.methodLinkNest R_V 99 y_Re_hasReplyTo "JoinVessel" ∈ tbW := tb1_in (List.mem_of_getElem? (i := 220) rfl) rfl
theorem lk49 : Cond.instanceMethod y_Re_hasReplyTo ∈ tbW := tb1_in (List.mem_of_getElem? (i := 222) rfl) rfl
theorem lk50 : Cond.selects R_Re y_Re_hasReplyTo y_Re_hasReplyTo ∈ tbW := tbs_in (List.mem_of_getElem? (i := 7) rfl) rfl
theorem lk51 : Cond.methodLink R_V 150 y_V_leavesCallUnanswered ∈ tbW := tb1_in (List.mem_of_getElem? (i := 232) rfl) rfl
theorem lk52 : Cond.instanceMethod y_V_leavesCallUnanswered ∈ tbW := tb1_in (List.mem_of_getElem? (i := 234) rfl) rfl
theorem lk53 : Cond.selects R_V y_V_leavesCallUnanswered y_V_leavesCallUnanswered ∈ tbW := tbs_in (List.mem_of_getElem? (i := 9) rfl) rfl
theorem lk54 : Cond.methodLink R_V 102 y_V_obstacleToSealing ∈ tbW := tb1_in (List.mem_of_getElem? (i := 228) rfl) rfl
theorem lk55 : Cond.instanceMethod y_V_obstacleToSealing ∈ tbW := tb1_in (List.mem_of_getElem? (i := 230) rfl) rfl
theorem lk56 : Cond.selects R_V y_V_obstacleToSealing y_V_obstacleToSealing ∈ tbW := tbs_in (List.mem_of_getElem? (i := 8) rfl) rfl
theorem lk57 : Cond.fieldLink R_Ms 9 "JoinVessel$Messages" "count" "I" ∈ tbW := tb1_in (List.mem_of_getElem? (i := 26) rfl) rfl
theorem lk58 : Cond.fieldLink R_Ms 15 "JoinVessel$Messages" "channelNumbers" "[I" ∈ tbW := tb1_in (List.mem_of_getElem? (i := 28) rfl) rfl
theorem lk59 : Cond.fieldLink R_Ms 19 "JoinVessel$Messages" "values" "[I" ∈ tbW := tb1_in (List.mem_of_getElem? (i := 30) rfl) rfl
theorem lk60 : Cond.fieldLink R_Ms 22 "JoinVessel$Messages" "states" "[I" ∈ tbW := tb1_in (List.mem_of_getElem? (i := 32) rfl) rfl
theorem lk61 : Cond.fieldLink R_Ms 25 "JoinVessel$Messages" "consumers" "[I" ∈ tbW := tb1_in (List.mem_of_getElem? (i := 34) rfl) rfl
theorem lk62 : Cond.fieldLink R_Ch 15 "JoinVessel$Channel" "pendingNumbers" "[I" ∈ tbW := tb1_in (List.mem_of_getElem? (i := 74) rfl) rfl
theorem lk63 : Cond.fieldLink R_Ch 19 "JoinVessel$Channel" "pendingCount" "I" ∈ tbW := tb1_in (List.mem_of_getElem? (i := 76) rfl) rfl
theorem lk64 : Cond.fieldLink R_V 35 "JoinVessel" "messages" "LJoinVessel$Messages;" ∈ tbW := tb1_in (List.mem_of_getElem? (i := 140) rfl) rfl
theorem lk65 : Cond.methodLinkNest R_V 161 y_Ms_add "JoinVessel" ∈ tbW := tb2_in (List.mem_of_getElem? (i := 8) rfl) rfl
theorem lk66 : Cond.initialized R_Ms ∈ tbW := tb1_in (List.mem_of_getElem? (i := 2) rfl) rfl
theorem lk67 : Cond.instanceMethod y_Ms_add ∈ tbW := tb2_in (List.mem_of_getElem? (i := 10) rfl) rfl
theorem lk68 : Cond.selects R_Ms y_Ms_add y_Ms_add ∈ tbW := tbs_in (List.mem_of_getElem? (i := 12) rfl) rfl
theorem lk69 : Cond.methodLinkNest R_V 164 y_Ch_addPending "JoinVessel" ∈ tbW := tb2_in (List.mem_of_getElem? (i := 12) rfl) rfl
theorem lk70 : Cond.initialized R_Ch ∈ tbW := tb1_in (List.mem_of_getElem? (i := 4) rfl) rfl
theorem lk71 : Cond.instanceMethod y_Ch_addPending ∈ tbW := tb2_in (List.mem_of_getElem? (i := 14) rfl) rfl
theorem lk72 : Cond.selects R_Ch y_Ch_addPending y_Ch_addPending ∈ tbW := tbs_in (List.mem_of_getElem? (i := 13) rfl) rfl
theorem lk73 : Cond.fieldLinkNest R_V 135 "JoinVessel$Channel" "pendingCount" "I" "JoinVessel" ∈ tbW := tb1_in (List.mem_of_getElem? (i := 77) rfl) rfl
theorem lk74 : Cond.fieldLinkNest R_V 154 "JoinVessel$Messages" "count" "I" "JoinVessel" ∈ tbW := tb1_in (List.mem_of_getElem? (i := 27) rfl) rfl
theorem lk75 : Cond.methodLink R_V 157 y_V_makeMessage ∈ tbW := tb2_in (List.mem_of_getElem? (i := 4) rfl) rfl
theorem lk76 : Cond.instanceMethod y_V_makeMessage ∈ tbW := tb2_in (List.mem_of_getElem? (i := 6) rfl) rfl
theorem lk77 : Cond.selects R_V y_V_makeMessage y_V_makeMessage ∈ tbW := tbs_in (List.mem_of_getElem? (i := 11) rfl) rfl
theorem lk78 : Cond.methodLink R_V 106 y_V_admit ∈ tbW := tb2_in (List.mem_of_getElem? (i := 0) rfl) rfl
theorem lk79 : Cond.instanceMethod y_V_admit ∈ tbW := tb2_in (List.mem_of_getElem? (i := 2) rfl) rfl
theorem lk80 : Cond.selects R_V y_V_admit y_V_admit ∈ tbW := tbs_in (List.mem_of_getElem? (i := 10) rfl) rfl
theorem lk81 : Cond.methodLinkNest R_V 110 y_Ms_has "JoinVessel" ∈ tbW := tb2_in (List.mem_of_getElem? (i := 24) rfl) rfl
theorem lk82 : Cond.instanceMethod y_Ms_has ∈ tbW := tb2_in (List.mem_of_getElem? (i := 26) rfl) rfl
theorem lk83 : Cond.selects R_Ms y_Ms_has y_Ms_has ∈ tbW := tbs_in (List.mem_of_getElem? (i := 14) rfl) rfl
theorem lk84 : Cond.fieldLinkNest R_V 113 "JoinVessel$Messages" "states" "[I" "JoinVessel" ∈ tbW := tb1_in (List.mem_of_getElem? (i := 33) rfl) rfl
theorem lk85 : Cond.fieldLinkNest R_V 116 "JoinVessel$Messages" "channelNumbers" "[I" "JoinVessel" ∈ tbW := tb1_in (List.mem_of_getElem? (i := 29) rfl) rfl
theorem lk86 : Cond.methodLinkNest R_V 119 y_Ch_removePending "JoinVessel" ∈ tbW := tb2_in (List.mem_of_getElem? (i := 28) rfl) rfl
theorem lk87 : Cond.instanceMethod y_Ch_removePending ∈ tbW := tb2_in (List.mem_of_getElem? (i := 30) rfl) rfl
theorem lk88 : Cond.selects R_Ch y_Ch_removePending y_Ch_removePending ∈ tbW := tbs_in (List.mem_of_getElem? (i := 15) rfl) rfl
theorem lk89 : Cond.methodLinkNest R_V 177 y_Re_partsOn "JoinVessel" ∈ tbW := tb2_in (List.mem_of_getElem? (i := 52) rfl) rfl
theorem lk90 : Cond.instanceMethod y_Re_partsOn ∈ tbW := tb2_in (List.mem_of_getElem? (i := 54) rfl) rfl
theorem lk91 : Cond.selects R_Re y_Re_partsOn y_Re_partsOn ∈ tbW := tbs_in (List.mem_of_getElem? (i := 20) rfl) rfl
theorem lk92 : Cond.methodLinkNest R_V 181 y_Re_sendsTo "JoinVessel" ∈ tbW := tb2_in (List.mem_of_getElem? (i := 56) rfl) rfl
theorem lk93 : Cond.instanceMethod y_Re_sendsTo ∈ tbW := tb2_in (List.mem_of_getElem? (i := 58) rfl) rfl
theorem lk94 : Cond.selects R_Re y_Re_sendsTo y_Re_sendsTo ∈ tbW := tbs_in (List.mem_of_getElem? (i := 21) rfl) rfl
theorem lk95 : Cond.methodLinkNest R_V 174 y_Re_sendCount "JoinVessel" ∈ tbW := tb2_in (List.mem_of_getElem? (i := 48) rfl) rfl
theorem lk96 : Cond.instanceMethod y_Re_sendCount ∈ tbW := tb2_in (List.mem_of_getElem? (i := 50) rfl) rfl
theorem lk97 : Cond.selects R_Re y_Re_sendCount y_Re_sendCount ∈ tbW := tbs_in (List.mem_of_getElem? (i := 19) rfl) rfl
theorem lk98 : Cond.fieldLink R_Re 25 "JoinVessel$Reaction" "guardKind" "I" ∈ tbW := tb1_in (List.mem_of_getElem? (i := 96) rfl) rfl
theorem lk99 : Cond.methodLinkNest R_Re 58 y_V_allRise "JoinVessel" ∈ tbW := tb2_in (List.mem_of_getElem? (i := 67) rfl) rfl
theorem lk100 : Cond.static y_V_allRise ∈ tbW := tb2_in (List.mem_of_getElem? (i := 68) rfl) rfl
theorem lk101 : Cond.methodLinkNest R_Re 62 y_V_allEqual "JoinVessel" ∈ tbW := tb2_in (List.mem_of_getElem? (i := 70) rfl) rfl
theorem lk102 : Cond.static y_V_allEqual ∈ tbW := tb2_in (List.mem_of_getElem? (i := 71) rfl) rfl
theorem lk103 : Cond.methodLinkNest R_Re 65 y_V_allDiffer "JoinVessel" ∈ tbW := tb2_in (List.mem_of_getElem? (i := 73) rfl) rfl
theorem lk104 : Cond.static y_V_allDiffer ∈ tbW := tb2_in (List.mem_of_getElem? (i := 74) rfl) rfl
theorem lk105 : Cond.methodLinkNest R_Re 68 y_V_sum "JoinVessel" ∈ tbW := tb2_in (List.mem_of_getElem? (i := 76) rfl) rfl
theorem lk106 : Cond.static y_V_sum ∈ tbW := tb2_in (List.mem_of_getElem? (i := 77) rfl) rfl
theorem lk107 : Cond.fieldLink R_Re 28 "JoinVessel$Reaction" "guardNumber" "I" ∈ tbW := tb1_in (List.mem_of_getElem? (i := 98) rfl) rfl
theorem lk108 : Cond.fieldLink R_Mt 9 "JoinVessel$Match" "numbers" "[I" ∈ tbW := tb1_in (List.mem_of_getElem? (i := 58) rfl) rfl
theorem lk109 : Cond.fieldLinkNest R_V 138 "JoinVessel$Channel" "pendingNumbers" "[I" "JoinVessel" ∈ tbW := tb1_in (List.mem_of_getElem? (i := 75) rfl) rfl
theorem lk110 : Cond.fieldLinkNest R_V 141 "JoinVessel$Messages" "values" "[I" "JoinVessel" ∈ tbW := tb1_in (List.mem_of_getElem? (i := 31) rfl) rfl
theorem lk111 : Cond.methodLinkNest R_V 189 y_Re_passesTest "JoinVessel" ∈ tbW := tb2_in (List.mem_of_getElem? (i := 79) rfl) rfl
theorem lk112 : Cond.instanceMethod y_Re_passesTest ∈ tbW := tb2_in (List.mem_of_getElem? (i := 81) rfl) rfl
theorem lk113 : Cond.selects R_Re y_Re_passesTest y_Re_passesTest ∈ tbW := tbs_in (List.mem_of_getElem? (i := 23) rfl) rfl
theorem lk114 : Cond.methodLinkNest R_V 192 y_Mt_holdsBefore "JoinVessel" ∈ tbW := tb2_in (List.mem_of_getElem? (i := 83) rfl) rfl
theorem lk115 : Cond.initialized R_Mt ∈ tbW := tb1_in (List.mem_of_getElem? (i := 3) rfl) rfl
theorem lk116 : Cond.instanceMethod y_Mt_holdsBefore ∈ tbW := tb2_in (List.mem_of_getElem? (i := 85) rfl) rfl
theorem lk117 : Cond.selects R_Mt y_Mt_holdsBefore y_Mt_holdsBefore ∈ tbW := tbs_in (List.mem_of_getElem? (i := 24) rfl) rfl
theorem lk118 : Cond.fieldLinkNest R_V 132 "JoinVessel$Match" "numbers" "[I" "JoinVessel" ∈ tbW := tb1_in (List.mem_of_getElem? (i := 59) rfl) rfl
theorem lk119 : Cond.fieldLinkNest R_V 184 "JoinVessel$Match" "values" "[I" "JoinVessel" ∈ tbW := tb1_in (List.mem_of_getElem? (i := 61) rfl) rfl
theorem lk120 : Cond.methodLink R_V 170 y_V_fillMatch ∈ tbW := tb2_in (List.mem_of_getElem? (i := 60) rfl) rfl
theorem lk121 : Cond.static y_V_fillMatch ∈ tbW := tb2_in (List.mem_of_getElem? (i := 61) rfl) rfl
theorem lk122 : Cond.methodLinkNest R_V 185 y_Re_guardHolds "JoinVessel" ∈ tbW := tb2_in (List.mem_of_getElem? (i := 63) rfl) rfl
theorem lk123 : Cond.instanceMethod y_Re_guardHolds ∈ tbW := tb2_in (List.mem_of_getElem? (i := 65) rfl) rfl
theorem lk124 : Cond.selects R_Re y_Re_guardHolds y_Re_guardHolds ∈ tbW := tbs_in (List.mem_of_getElem? (i := 22) rfl) rfl
theorem lk125 : Cond.methodLink R_V 167 y_V_hasRoom ∈ tbW := tb2_in (List.mem_of_getElem? (i := 44) rfl) rfl
theorem lk126 : Cond.instanceMethod y_V_hasRoom ∈ tbW := tb2_in (List.mem_of_getElem? (i := 46) rfl) rfl
theorem lk127 : Cond.selects R_V y_V_hasRoom y_V_hasRoom ∈ tbW := tbs_in (List.mem_of_getElem? (i := 18) rfl) rfl
theorem lk128 : Cond.fieldLink R_V 42 "JoinVessel" "match" "LJoinVessel$Match;" ∈ tbW := tb1_in (List.mem_of_getElem? (i := 141) rfl) rfl
theorem lk129 : Cond.methodLink R_V 129 y_V_findEnabledMatch ∈ tbW := tb2_in (List.mem_of_getElem? (i := 40) rfl) rfl
theorem lk130 : Cond.instanceMethod y_V_findEnabledMatch ∈ tbW := tb2_in (List.mem_of_getElem? (i := 42) rfl) rfl
theorem lk131 : Cond.selects R_V y_V_findEnabledMatch y_V_findEnabledMatch ∈ tbW := tbs_in (List.mem_of_getElem? (i := 17) rfl) rfl
theorem lk132 : Cond.fieldLink R_V 50 "JoinVessel" "firingCount" "I" ∈ tbW := tb1_in (List.mem_of_getElem? (i := 143) rfl) rfl
theorem lk133 : Cond.fieldLink R_V 46 "JoinVessel" "firings" "[I" ∈ tbW := tb1_in (List.mem_of_getElem? (i := 142) rfl) rfl
theorem lk134 : Cond.fieldLinkNest R_V 144 "JoinVessel$Messages" "consumers" "[I" "JoinVessel" ∈ tbW := tb1_in (List.mem_of_getElem? (i := 35) rfl) rfl
theorem lk135 : Cond.methodLink R_V 212 Lib.Math.max.name ∈ tbW := tb2_in (List.mem_of_getElem? (i := 102) rfl) rfl
theorem lk136 : Cond.static Lib.Math.max.name ∈ tbW := tb2_in (List.mem_of_getElem? (i := 103) rfl) rfl
theorem lk137 : Cond.initialized "java/lang/Math" ∈ tbW := tb1_in (List.mem_of_getElem? (i := 7) rfl) rfl
theorem lk138 : Cond.code Lib.Math.max.name Lib.Math.max.code 2 (some .int) ∈ tbW := tb2_in (List.mem_of_getElem? (i := 104) rfl) rfl
theorem lk139 : Cond.methodLinkNest R_Re 72 y_V_greatest "JoinVessel" ∈ tbW := tb2_in (List.mem_of_getElem? (i := 99) rfl) rfl
theorem lk140 : Cond.static y_V_greatest ∈ tbW := tb2_in (List.mem_of_getElem? (i := 100) rfl) rfl
theorem lk141 : Cond.fieldLinkNest R_V 198 "JoinVessel$Reaction" "actionCount" "I" "JoinVessel" ∈ tbW := tb1_in (List.mem_of_getElem? (i := 101) rfl) rfl
theorem lk142 : Cond.methodLinkNest R_V 201 y_Re_evaluate "JoinVessel" ∈ tbW := tb2_in (List.mem_of_getElem? (i := 95) rfl) rfl
theorem lk143 : Cond.instanceMethod y_Re_evaluate ∈ tbW := tb2_in (List.mem_of_getElem? (i := 97) rfl) rfl
theorem lk144 : Cond.selects R_Re y_Re_evaluate y_Re_evaluate ∈ tbW := tbs_in (List.mem_of_getElem? (i := 27) rfl) rfl
theorem lk145 : Cond.fieldLinkNest R_V 205 "JoinVessel$Reaction" "actionSends" "[Z" "JoinVessel" ∈ tbW := tb1_in (List.mem_of_getElem? (i := 103) rfl) rfl
theorem lk146 : Cond.fieldLinkNest R_V 147 "JoinVessel$Messages" "answers" "[I" "JoinVessel" ∈ tbW := tb1_in (List.mem_of_getElem? (i := 37) rfl) rfl
theorem lk147 : Cond.fieldLinkNest R_V 209 "JoinVessel$Reaction" "actionTargets" "[I" "JoinVessel" ∈ tbW := tb1_in (List.mem_of_getElem? (i := 105) rfl) rfl
theorem lk148 : Cond.methodLink R_V 195 y_V_consume ∈ tbW := tb2_in (List.mem_of_getElem? (i := 91) rfl) rfl
theorem lk149 : Cond.instanceMethod y_V_consume ∈ tbW := tb2_in (List.mem_of_getElem? (i := 93) rfl) rfl
theorem lk150 : Cond.selects R_V y_V_consume y_V_consume ∈ tbW := tbs_in (List.mem_of_getElem? (i := 26) rfl) rfl
theorem lk151 : Cond.methodLink R_V 123 y_V_findNext ∈ tbW := tb2_in (List.mem_of_getElem? (i := 36) rfl) rfl
theorem lk152 : Cond.instanceMethod y_V_findNext ∈ tbW := tb2_in (List.mem_of_getElem? (i := 38) rfl) rfl
theorem lk153 : Cond.selects R_V y_V_findNext y_V_findNext ∈ tbW := tbs_in (List.mem_of_getElem? (i := 16) rfl) rfl
theorem lk154 : Cond.methodLink R_V 126 y_V_fire ∈ tbW := tb2_in (List.mem_of_getElem? (i := 87) rfl) rfl
theorem lk155 : Cond.instanceMethod y_V_fire ∈ tbW := tb2_in (List.mem_of_getElem? (i := 89) rfl) rfl
theorem lk156 : Cond.selects R_V y_V_fire y_V_fire ∈ tbW := tbs_in (List.mem_of_getElem? (i := 25) rfl) rfl
theorem lk157 : Cond.fieldLink R_M 80 "JoinVesselModel" "closed" "Z" ∈ tbW := tb2_in (List.mem_of_getElem? (i := 162) rfl) rfl
theorem lk158 : Cond.fieldLink R_M 84 "JoinVesselModel" "channels" "I" ∈ tbW := tb2_in (List.mem_of_getElem? (i := 147) rfl) rfl
theorem lk159 : Cond.fieldLink R_M 7 "JoinVesselModel" "answered" "[Z" ∈ tbW := tb2_in (List.mem_of_getElem? (i := 148) rfl) rfl
theorem lk160 : Cond.fieldLink R_M 88 "JoinVesselModel" "reactions" "I" ∈ tbW := tb2_in (List.mem_of_getElem? (i := 149) rfl) rfl
theorem lk161 : Cond.fieldLink R_M 13 "JoinVesselModel" "parts" "[I" ∈ tbW := tb2_in (List.mem_of_getElem? (i := 150) rfl) rfl
theorem lk162 : Cond.methodLink R_M 91 y_M_open ∈ tbW := tb3_in (List.mem_of_getElem? (i := 4) rfl) rfl
theorem lk163 : Cond.initialized R_M ∈ tbW := tb1_in (List.mem_of_getElem? (i := 6) rfl) rfl
theorem lk164 : Cond.instanceMethod y_M_open ∈ tbW := tb3_in (List.mem_of_getElem? (i := 6) rfl) rfl
theorem lk165 : Cond.selects R_M y_M_open y_M_open ∈ tbW := tbs_in (List.mem_of_getElem? (i := 28) rfl) rfl
theorem lk166 : Cond.methodLink R_M 95 y_M_isChannel ∈ tbW := tb3_in (List.mem_of_getElem? (i := 8) rfl) rfl
theorem lk167 : Cond.instanceMethod y_M_isChannel ∈ tbW := tb3_in (List.mem_of_getElem? (i := 10) rfl) rfl
theorem lk168 : Cond.selects R_M y_M_isChannel y_M_isChannel ∈ tbW := tbs_in (List.mem_of_getElem? (i := 29) rfl) rfl
theorem lk169 : Cond.fieldLink R_M 17 "JoinVesselModel" "partChannel" "[I" ∈ tbW := tb2_in (List.mem_of_getElem? (i := 151) rfl) rfl
theorem lk170 : Cond.fieldLink R_M 20 "JoinVesselModel" "partTest" "[I" ∈ tbW := tb2_in (List.mem_of_getElem? (i := 152) rfl) rfl
theorem lk171 : Cond.fieldLink R_M 23 "JoinVesselModel" "partNumber" "[I" ∈ tbW := tb2_in (List.mem_of_getElem? (i := 153) rfl) rfl
theorem lk172 : Cond.fieldLink R_M 26 "JoinVesselModel" "guardKind" "[I" ∈ tbW := tb2_in (List.mem_of_getElem? (i := 154) rfl) rfl
theorem lk173 : Cond.fieldLink R_M 29 "JoinVesselModel" "guardNumber" "[I" ∈ tbW := tb2_in (List.mem_of_getElem? (i := 155) rfl) rfl
theorem lk174 : Cond.methodLink R_M 98 y_M_hasPart ∈ tbW := tb3_in (List.mem_of_getElem? (i := 24) rfl) rfl
theorem lk175 : Cond.instanceMethod y_M_hasPart ∈ tbW := tb3_in (List.mem_of_getElem? (i := 26) rfl) rfl
theorem lk176 : Cond.selects R_M y_M_hasPart y_M_hasPart ∈ tbW := tbs_in (List.mem_of_getElem? (i := 31) rfl) rfl
theorem lk177 : Cond.fieldLink R_M 32 "JoinVesselModel" "actions" "[I" ∈ tbW := tb2_in (List.mem_of_getElem? (i := 156) rfl) rfl
theorem lk178 : Cond.fieldLink R_M 35 "JoinVesselModel" "target" "[I" ∈ tbW := tb2_in (List.mem_of_getElem? (i := 157) rfl) rfl
theorem lk179 : Cond.fieldLink R_M 38 "JoinVesselModel" "replied" "[I" ∈ tbW := tb2_in (List.mem_of_getElem? (i := 158) rfl) rfl
theorem lk180 : Cond.fieldLink R_M 41 "JoinVesselModel" "kind" "[I" ∈ tbW := tb2_in (List.mem_of_getElem? (i := 159) rfl) rfl
theorem lk181 : Cond.fieldLink R_M 44 "JoinVesselModel" "which" "[I" ∈ tbW := tb2_in (List.mem_of_getElem? (i := 160) rfl) rfl
theorem lk182 : Cond.methodLink R_M 102 y_M_expression ∈ tbW := tb3_in (List.mem_of_getElem? (i := 20) rfl) rfl
theorem lk183 : Cond.instanceMethod y_M_expression ∈ tbW := tb3_in (List.mem_of_getElem? (i := 22) rfl) rfl
theorem lk184 : Cond.selects R_M y_M_expression y_M_expression ∈ tbW := tbs_in (List.mem_of_getElem? (i := 30) rfl) rfl
theorem lk185 : Cond.fieldLink R_M 47 "JoinVesselModel" "number" "[I" ∈ tbW := tb2_in (List.mem_of_getElem? (i := 161) rfl) rfl
theorem lk186 : Cond.methodLink R_M 106 y_M_act ∈ tbW := tb3_in (List.mem_of_getElem? (i := 28) rfl) rfl
theorem lk187 : Cond.instanceMethod y_M_act ∈ tbW := tb3_in (List.mem_of_getElem? (i := 30) rfl) rfl
theorem lk188 : Cond.selects R_M y_M_act y_M_act ∈ tbW := tbs_in (List.mem_of_getElem? (i := 32) rfl) rfl
theorem lk189 : Cond.methodLink R_M 110 y_M_answersPart ∈ tbW := tb3_in (List.mem_of_getElem? (i := 36) rfl) rfl
theorem lk190 : Cond.instanceMethod y_M_answersPart ∈ tbW := tb3_in (List.mem_of_getElem? (i := 38) rfl) rfl
theorem lk191 : Cond.selects R_M y_M_answersPart y_M_answersPart ∈ tbW := tbs_in (List.mem_of_getElem? (i := 33) rfl) rfl
theorem lk192 : Cond.fieldLink R_M 50 "JoinVesselModel" "channelOf" "[I" ∈ tbW := tb2_in (List.mem_of_getElem? (i := 164) rfl) rfl
theorem lk193 : Cond.fieldLink R_M 113 "JoinVesselModel" "made" "I" ∈ tbW := tb2_in (List.mem_of_getElem? (i := 163) rfl) rfl
theorem lk194 : Cond.fieldLink R_M 53 "JoinVesselModel" "values" "[I" ∈ tbW := tb2_in (List.mem_of_getElem? (i := 165) rfl) rfl
theorem lk195 : Cond.fieldLink R_M 56 "JoinVesselModel" "states" "[I" ∈ tbW := tb2_in (List.mem_of_getElem? (i := 166) rfl) rfl
theorem lk196 : Cond.fieldLink R_M 59 "JoinVesselModel" "consumers" "[I" ∈ tbW := tb2_in (List.mem_of_getElem? (i := 167) rfl) rfl
theorem lk197 : Cond.fieldLink R_M 68 "JoinVesselModel" "gathered" "[I" ∈ tbW := tb2_in (List.mem_of_getElem? (i := 171) rfl) rfl
theorem lk198 : Cond.fieldLink R_M 71 "JoinVesselModel" "count" "[I" ∈ tbW := tb2_in (List.mem_of_getElem? (i := 172) rfl) rfl
theorem lk199 : Cond.methodLink R_M 116 y_M_gather ∈ tbW := tb3_in (List.mem_of_getElem? (i := 52) rfl) rfl
theorem lk200 : Cond.instanceMethod y_M_gather ∈ tbW := tb3_in (List.mem_of_getElem? (i := 54) rfl) rfl
theorem lk201 : Cond.selects R_M y_M_gather y_M_gather ∈ tbW := tbs_in (List.mem_of_getElem? (i := 35) rfl) rfl
theorem lk202 : Cond.methodLink R_M 119 y_M_make ∈ tbW := tb3_in (List.mem_of_getElem? (i := 56) rfl) rfl
theorem lk203 : Cond.instanceMethod y_M_make ∈ tbW := tb3_in (List.mem_of_getElem? (i := 58) rfl) rfl
theorem lk204 : Cond.selects R_M y_M_make y_M_make ∈ tbW := tbs_in (List.mem_of_getElem? (i := 36) rfl) rfl
theorem lk205 : Cond.methodLink R_M 123 y_M_enter ∈ tbW := tb3_in (List.mem_of_getElem? (i := 48) rfl) rfl
theorem lk206 : Cond.instanceMethod y_M_enter ∈ tbW := tb3_in (List.mem_of_getElem? (i := 50) rfl) rfl
theorem lk207 : Cond.selects R_M y_M_enter y_M_enter ∈ tbW := tbs_in (List.mem_of_getElem? (i := 34) rfl) rfl
theorem lk208 : Cond.methodLink R_M 127 y_M_isMessage ∈ tbW := tb3_in (List.mem_of_getElem? (i := 68) rfl) rfl
theorem lk209 : Cond.instanceMethod y_M_isMessage ∈ tbW := tb3_in (List.mem_of_getElem? (i := 70) rfl) rfl
theorem lk210 : Cond.selects R_M y_M_isMessage y_M_isMessage ∈ tbW := tbs_in (List.mem_of_getElem? (i := 37) rfl) rfl
theorem lk211 : Cond.fieldLink R_M 77 "JoinVesselModel" "tried" "[I" ∈ tbW := tb2_in (List.mem_of_getElem? (i := 174) rfl) rfl
theorem lk212 : Cond.fieldLink R_M 74 "JoinVesselModel" "digit" "[I" ∈ tbW := tb2_in (List.mem_of_getElem? (i := 173) rfl) rfl
theorem lk213 : Cond.methodLink R_M 130 y_M_chosen ∈ tbW := tb3_in (List.mem_of_getElem? (i := 88) rfl) rfl
theorem lk214 : Cond.instanceMethod y_M_chosen ∈ tbW := tb3_in (List.mem_of_getElem? (i := 90) rfl) rfl
theorem lk215 : Cond.selects R_M y_M_chosen y_M_chosen ∈ tbW := tbs_in (List.mem_of_getElem? (i := 41) rfl) rfl
theorem lk216 : Cond.methodLink R_M 136 y_M_guarded ∈ tbW := tb3_in (List.mem_of_getElem? (i := 96) rfl) rfl
theorem lk217 : Cond.instanceMethod y_M_guarded ∈ tbW := tb3_in (List.mem_of_getElem? (i := 98) rfl) rfl
theorem lk218 : Cond.selects R_M y_M_guarded y_M_guarded ∈ tbW := tbs_in (List.mem_of_getElem? (i := 43) rfl) rfl
theorem lk219 : Cond.methodLink R_M 133 y_M_passes ∈ tbW := tb3_in (List.mem_of_getElem? (i := 92) rfl) rfl
theorem lk220 : Cond.instanceMethod y_M_passes ∈ tbW := tb3_in (List.mem_of_getElem? (i := 94) rfl) rfl
theorem lk221 : Cond.selects R_M y_M_passes y_M_passes ∈ tbW := tbs_in (List.mem_of_getElem? (i := 42) rfl) rfl
theorem lk222 : Cond.methodLink R_M 139 y_M_matches ∈ tbW := tb3_in (List.mem_of_getElem? (i := 84) rfl) rfl
theorem lk223 : Cond.instanceMethod y_M_matches ∈ tbW := tb3_in (List.mem_of_getElem? (i := 86) rfl) rfl
theorem lk224 : Cond.selects R_M y_M_matches y_M_matches ∈ tbW := tbs_in (List.mem_of_getElem? (i := 40) rfl) rfl
theorem lk225 : Cond.methodLink R_M 142 y_M_room ∈ tbW := tb3_in (List.mem_of_getElem? (i := 76) rfl) rfl
theorem lk226 : Cond.instanceMethod y_M_room ∈ tbW := tb3_in (List.mem_of_getElem? (i := 78) rfl) rfl
theorem lk227 : Cond.selects R_M y_M_room y_M_room ∈ tbW := tbs_in (List.mem_of_getElem? (i := 38) rfl) rfl
theorem lk228 : Cond.methodLink R_M 145 y_M_find ∈ tbW := tb3_in (List.mem_of_getElem? (i := 80) rfl) rfl
theorem lk229 : Cond.instanceMethod y_M_find ∈ tbW := tb3_in (List.mem_of_getElem? (i := 82) rfl) rfl
theorem lk230 : Cond.selects R_M y_M_find y_M_find ∈ tbW := tbs_in (List.mem_of_getElem? (i := 39) rfl) rfl
theorem lk231 : Cond.methodLink R_M 148 y_M_enabled ∈ tbW := tb3_in (List.mem_of_getElem? (i := 104) rfl) rfl
theorem lk232 : Cond.instanceMethod y_M_enabled ∈ tbW := tb3_in (List.mem_of_getElem? (i := 73) rfl) rfl
theorem lk233 : Cond.selects R_M y_M_enabled y_M_enabled ∈ tbW := tb3_in (List.mem_of_getElem? (i := 74) rfl) rfl
theorem lk234 : Cond.fieldLink R_M 152 "JoinVesselModel" "firings" "I" ∈ tbW := tb2_in (List.mem_of_getElem? (i := 169) rfl) rfl
theorem lk235 : Cond.fieldLink R_M 65 "JoinVesselModel" "firedBy" "[I" ∈ tbW := tb2_in (List.mem_of_getElem? (i := 170) rfl) rfl
theorem lk236 : Cond.methodLink R_M 155 y_M_next ∈ tbW := tb3_in (List.mem_of_getElem? (i := 109) rfl) rfl
theorem lk237 : Cond.instanceMethod y_M_next ∈ tbW := tb3_in (List.mem_of_getElem? (i := 101) rfl) rfl
theorem lk238 : Cond.selects R_M y_M_next y_M_next ∈ tbW := tb3_in (List.mem_of_getElem? (i := 102) rfl) rfl
theorem lk239 : Cond.methodLink R_M 158 y_M_result ∈ tbW := tb3_in (List.mem_of_getElem? (i := 118) rfl) rfl
theorem lk240 : Cond.instanceMethod y_M_result ∈ tbW := tb3_in (List.mem_of_getElem? (i := 120) rfl) rfl
theorem lk241 : Cond.selects R_M y_M_result y_M_result ∈ tbW := tbs_in (List.mem_of_getElem? (i := 45) rfl) rfl
theorem lk242 : Cond.fieldLink R_M 62 "JoinVesselModel" "answers" "[I" ∈ tbW := tb2_in (List.mem_of_getElem? (i := 168) rfl) rfl
theorem lk243 : Cond.methodLink R_M 161 y_M_fire ∈ tbW := tb3_in (List.mem_of_getElem? (i := 114) rfl) rfl
theorem lk244 : Cond.instanceMethod y_M_fire ∈ tbW := tb3_in (List.mem_of_getElem? (i := 116) rfl) rfl
theorem lk245 : Cond.selects R_M y_M_fire y_M_fire ∈ tbW := tbs_in (List.mem_of_getElem? (i := 44) rfl) rfl
theorem sw_1_4 {x : Int32} (e1 : ¬ x = 1) (e2 : ¬ x = 2) (e3 : ¬ x = 3) (e4 : ¬ x = 4) : x.toInt < 1 ∨ 4 < x.toInt := by
  have t1 : x.toInt ≠ 1 := fun e => e1 (Int32.toInt_inj.mp (e.trans (by decide)))
  have t2 : x.toInt ≠ 2 := fun e => e2 (Int32.toInt_inj.mp (e.trans (by decide)))
  have t3 : x.toInt ≠ 3 := fun e => e3 (Int32.toInt_inj.mp (e.trans (by decide)))
  have t4 : x.toInt ≠ 4 := fun e => e4 (Int32.toInt_inj.mp (e.trans (by decide)))
  omega
theorem sw_1_5 {x : Int32} (e1 : ¬ x = 1) (e2 : ¬ x = 2) (e3 : ¬ x = 3) (e4 : ¬ x = 4) (e5 : ¬ x = 5) : x.toInt < 1 ∨ 5 < x.toInt := by
  have t1 : x.toInt ≠ 1 := fun e => e1 (Int32.toInt_inj.mp (e.trans (by decide)))
  have t2 : x.toInt ≠ 2 := fun e => e2 (Int32.toInt_inj.mp (e.trans (by decide)))
  have t3 : x.toInt ≠ 3 := fun e => e3 (Int32.toInt_inj.mp (e.trans (by decide)))
  have t4 : x.toInt ≠ 4 := fun e => e4 (Int32.toInt_inj.mp (e.trans (by decide)))
  have t5 : x.toInt ≠ 5 := fun e => e5 (Int32.toInt_inj.mp (e.trans (by decide)))
  omega
