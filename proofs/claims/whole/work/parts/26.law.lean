/-- what the two sides' calls owe each other, with an invariant J between the two raw states -/
def Steps (J : RS → RS → Prop) : Prop := ∀ h1 h2 : RS, J h1 h2 →
  (∀ v1 : Int32, isB v1 → wp_V_channel h1 v1 (fun r h1x => wp_M_channel h2 v1 (fun r2 h2x => r = r2 ∧ J h1x h2x))) ∧
  (wp_V_reaction h1 (fun r h1x => wp_M_reaction h2 (fun r2 h2x => r = r2 ∧ J h1x h2x))) ∧
  (∀ v1 v2 v3 v4 : Int32, wp_V_part h1 v1 v2 v3 v4 (fun r h1x => wp_M_part h2 v1 v2 v3 v4 (fun r2 h2x => r = r2 ∧ J h1x h2x))) ∧
  (∀ v1 v2 v3 : Int32, wp_V_guard h1 v1 v2 v3 (fun r h1x => wp_M_guard h2 v1 v2 v3 (fun r2 h2x => r = r2 ∧ J h1x h2x))) ∧
  (∀ v1 v2 v3 v4 v5 : Int32, wp_V_emit h1 v1 v2 v3 v4 v5 (fun r h1x => wp_M_emit h2 v1 v2 v3 v4 v5 (fun r2 h2x => r = r2 ∧ J h1x h2x))) ∧
  (∀ v1 v2 v3 v4 v5 : Int32, wp_V_reply h1 v1 v2 v3 v4 v5 (fun r h1x => wp_M_reply h2 v1 v2 v3 v4 v5 (fun r2 h2x => r = r2 ∧ J h1x h2x))) ∧
  (wp_V_seal h1 (fun r h1x => wp_M_seal h2 (fun r2 h2x => r = r2 ∧ J h1x h2x))) ∧
  (∀ v1 v2 : Int32, wp_V_put h1 v1 v2 (fun r h1x => wp_M_put h2 v1 v2 (fun r2 h2x => r = r2 ∧ J h1x h2x))) ∧
  (∀ v1 v2 : Int32, wp_V_call h1 v1 v2 (fun r h1x => wp_M_call h2 v1 v2 (fun r2 h2x => r = r2 ∧ J h1x h2x))) ∧
  (∀ v1 : Int32, wp_V_withdraw h1 v1 (fun r h1x => wp_M_withdraw h2 v1 (fun r2 h2x => r = r2 ∧ J h1x h2x))) ∧
  (∀ v1 : Int32, wp_V_react h1 v1 (fun r h1x => wp_M_react h2 v1 (fun r2 h2x => r = r2 ∧ J h1x h2x))) ∧
  (wp_V_enabled h1 (fun r h1x => wp_M_enabled h2 (fun r2 h2x => r = r2 ∧ J h1x h2x))) ∧
  (wp_V_next h1 (fun r h1x => wp_M_next h2 (fun r2 h2x => r = r2 ∧ J h1x h2x))) ∧
  (∀ v1 : Int32, wp_V_taken h1 v1 (fun r h1x => wp_M_taken h2 v1 (fun r2 h2x => r = r2 ∧ J h1x h2x))) ∧
  (∀ v1 v2 : Int32, wp_V_pendingAt h1 v1 v2 (fun r h1x => wp_M_pendingAt h2 v1 v2 (fun r2 h2x => r = r2 ∧ J h1x h2x))) ∧
  (∀ v1 : Int32, wp_V_value h1 v1 (fun r h1x => wp_M_value h2 v1 (fun r2 h2x => r = r2 ∧ J h1x h2x))) ∧
  (∀ v1 : Int32, wp_V_state h1 v1 (fun r h1x => wp_M_state h2 v1 (fun r2 h2x => r = r2 ∧ J h1x h2x))) ∧
  (∀ v1 : Int32, wp_V_consumer h1 v1 (fun r h1x => wp_M_consumer h2 v1 (fun r2 h2x => r = r2 ∧ J h1x h2x))) ∧
  (∀ v1 : Int32, wp_V_answer h1 v1 (fun r h1x => wp_M_answer h2 v1 (fun r2 h2x => r = r2 ∧ J h1x h2x))) ∧
  (∀ v1 : Int32, wp_V_fired h1 v1 (fun r h1x => wp_M_fired h2 v1 (fun r2 h2x => r = r2 ∧ J h1x h2x)))
section
variable {p : Program} {l : Launch} {e : Env} {s : State} {m : MethodId} {b : Nat} {below : List Frame} {meth : Method} {c : Code} {ca sl : Nat} {L : Nat} {xs : Nat → Int32} {D1 D2 : va_G} {a1 a2 : Nat → Nat} {q1 q2 : Nat → ClassId}
set_option maxHeartbeats 4000000 in
set_option maxRecDepth 100000 in
theorem law_case0 (C0 : lw_At p s m meth c b L xs) (hL : L ≤ 3072) (F0 : LF s D1 D2 a1 a2 q1 q2) (hca : ca ≤ 600000) (hsl : sl ≤ 7302250) {J : RS → RS → Prop} (hStep : Steps J) {h1 h2 : RS} (hJ : J h1 h2) {k : Nat} (hk : k + 6 ≤ L) (hn : ∀ h1 h2, J h1 h2 → Y p l e s m b below meth c ca sl (PH2 s D1 D2 a1 a2 q1 q2 h1 h2) 724 [(3, .int (nI k)), (2, .ref (a2 0)), (1, .ref (a1 0)), (0, .ref b)] []) : Y p l e s m b below meth c ca sl (PH2 s D1 D2 a1 a2 q1 q2 h1 h2) 128 [(3, .int (nI k)), (2, .ref (a2 0)), (1, .ref (a1 0)), (0, .ref b)] [] := by
  refine y_aload_n (pc := 128) C0 2 dL_128 rfl rfl ?_
  refine y_aload_n (pc := 129) C0 3 dL_129 rfl rfl ?_
  refine y_iload_n (pc := 130) C0 0 dL_130 rfl rfl ?_
  refine y_iconst (v := (1 : Int32)) (pc := 131) C0 dL_131 (by decide) ?_
  refine y_iadd (pc := 132) C0 dL_132 ?_
  refine y_sld (pc := 133) C0 hL k 1 (by omega) (ix1 k) dL_133 ?_
  refine y_if_eq (tgt := 141) (pc := 134) C0 dL_134 (by decide) (fun hz => ?_) (fun hz => ?_)
  · have hz0 := hz
    refine y_iconst (v := (0 : Int32)) (pc := 141) C0 dL_141 (by decide) ?_
    have hw := (hStep h1 h2 hJ).1 (0 : Int32) isB_0
    refine y_callV (pc := 142) C0 F0 hca hsl [.int _] (c_V_channel F0.2.2.1 hw) (by decide) (by decide) lk246 cd_V_channel lk11 lk247 lk248 rfl nm_V_channel rfl rfl (Nat.le_of_ble_eq_true rfl) dL_142 (fun r1 h1x hw => ?_)
    refine y_aload_n (pc := 145) C0 1 dL_145 rfl rfl ?_
    refine y_aload_n (pc := 146) C0 3 dL_146 rfl rfl ?_
    refine y_iload_n (pc := 147) C0 0 dL_147 rfl rfl ?_
    refine y_iconst (v := (1 : Int32)) (pc := 148) C0 dL_148 (by decide) ?_
    refine y_iadd (pc := 149) C0 dL_149 ?_
    refine y_sld (pc := 150) C0 hL k 1 (by omega) (ix1 k) dL_150 ?_
    refine y_if_eq (tgt := 158) (pc := 151) C0 dL_151 (by decide) (fun hz => ?_) (fun hz => ?_)
    · refine y_iconst (v := (0 : Int32)) (pc := 158) C0 dL_158 (by decide) ?_
      refine y_callM (pc := 159) C0 F0 hca hsl [.int _] (c_M_channel F0.2.2.2.1 hw) (by decide) (by decide) lk249 cd_M_channel lk163 lk250 lk251 rfl nm_M_channel rfl rfl (Nat.le_of_ble_eq_true rfl) dL_159 (fun r2 h2x hw => ?_)
      refine y_same (tgt := 724) (pc := 162) C0 dL_162 (by decide) hw.1 ?_
      exact hn _ _ hw.2
    · exact absurd hz0 hz
  · have hz0 := hz
    refine y_iconst (v := (1 : Int32)) (pc := 137) C0 dL_137 (by decide) ?_
    refine y_goto (tgt := 142) (pc := 138) C0 dL_138 (by decide) ?_
    have hw := (hStep h1 h2 hJ).1 (1 : Int32) isB_1
    refine y_callV (pc := 142) C0 F0 hca hsl [.int _] (c_V_channel F0.2.2.1 hw) (by decide) (by decide) lk246 cd_V_channel lk11 lk247 lk248 rfl nm_V_channel rfl rfl (Nat.le_of_ble_eq_true rfl) dL_142 (fun r1 h1x hw => ?_)
    refine y_aload_n (pc := 145) C0 1 dL_145 rfl rfl ?_
    refine y_aload_n (pc := 146) C0 3 dL_146 rfl rfl ?_
    refine y_iload_n (pc := 147) C0 0 dL_147 rfl rfl ?_
    refine y_iconst (v := (1 : Int32)) (pc := 148) C0 dL_148 (by decide) ?_
    refine y_iadd (pc := 149) C0 dL_149 ?_
    refine y_sld (pc := 150) C0 hL k 1 (by omega) (ix1 k) dL_150 ?_
    refine y_if_eq (tgt := 158) (pc := 151) C0 dL_151 (by decide) (fun hz => ?_) (fun hz => ?_)
    · exact absurd hz hz0
    · refine y_iconst (v := (1 : Int32)) (pc := 154) C0 dL_154 (by decide) ?_
      refine y_goto (tgt := 159) (pc := 155) C0 dL_155 (by decide) ?_
      refine y_callM (pc := 159) C0 F0 hca hsl [.int _] (c_M_channel F0.2.2.2.1 hw) (by decide) (by decide) lk249 cd_M_channel lk163 lk250 lk251 rfl nm_M_channel rfl rfl (Nat.le_of_ble_eq_true rfl) dL_159 (fun r2 h2x hw => ?_)
      refine y_same (tgt := 724) (pc := 162) C0 dL_162 (by decide) hw.1 ?_
      exact hn _ _ hw.2
set_option maxHeartbeats 4000000 in
set_option maxRecDepth 100000 in
theorem law_case1 (C0 : lw_At p s m meth c b L xs) (hL : L ≤ 3072) (F0 : LF s D1 D2 a1 a2 q1 q2) (hca : ca ≤ 600000) (hsl : sl ≤ 7302250) {J : RS → RS → Prop} (hStep : Steps J) {h1 h2 : RS} (hJ : J h1 h2) {k : Nat} (hk : k + 6 ≤ L) (hn : ∀ h1 h2, J h1 h2 → Y p l e s m b below meth c ca sl (PH2 s D1 D2 a1 a2 q1 q2 h1 h2) 724 [(3, .int (nI k)), (2, .ref (a2 0)), (1, .ref (a1 0)), (0, .ref b)] []) : Y p l e s m b below meth c ca sl (PH2 s D1 D2 a1 a2 q1 q2 h1 h2) 167 [(3, .int (nI k)), (2, .ref (a2 0)), (1, .ref (a1 0)), (0, .ref b)] [] := by
  refine y_aload_n (pc := 167) C0 2 dL_167 rfl rfl ?_
  have hw := (hStep h1 h2 hJ).2.1
  refine y_callV (pc := 168) C0 F0 hca hsl [] (c_V_reaction F0.2.2.1 hw) (by decide) (by decide) lk252 cd_V_reaction lk11 lk253 lk254 rfl nm_V_reaction rfl rfl (Nat.le_of_ble_eq_true rfl) dL_168 (fun r1 h1x hw => ?_)
  refine y_aload_n (pc := 171) C0 1 dL_171 rfl rfl ?_
  refine y_callM (pc := 172) C0 F0 hca hsl [] (c_M_reaction F0.2.2.2.1 hw) (by decide) (by decide) lk255 cd_M_reaction lk163 lk256 lk257 rfl nm_M_reaction rfl rfl (Nat.le_of_ble_eq_true rfl) dL_172 (fun r2 h2x hw => ?_)
  refine y_same (tgt := 724) (pc := 175) C0 dL_175 (by decide) hw.1 ?_
  exact hn _ _ hw.2
set_option maxHeartbeats 4000000 in
set_option maxRecDepth 100000 in
theorem law_case2 (C0 : lw_At p s m meth c b L xs) (hL : L ≤ 3072) (F0 : LF s D1 D2 a1 a2 q1 q2) (hca : ca ≤ 600000) (hsl : sl ≤ 7302250) {J : RS → RS → Prop} (hStep : Steps J) {h1 h2 : RS} (hJ : J h1 h2) {k : Nat} (hk : k + 6 ≤ L) (hn : ∀ h1 h2, J h1 h2 → Y p l e s m b below meth c ca sl (PH2 s D1 D2 a1 a2 q1 q2 h1 h2) 724 [(3, .int (nI k)), (2, .ref (a2 0)), (1, .ref (a1 0)), (0, .ref b)] []) : Y p l e s m b below meth c ca sl (PH2 s D1 D2 a1 a2 q1 q2 h1 h2) 180 [(3, .int (nI k)), (2, .ref (a2 0)), (1, .ref (a1 0)), (0, .ref b)] [] := by
  refine y_aload_n (pc := 180) C0 2 dL_180 rfl rfl ?_
  refine y_aload_n (pc := 181) C0 3 dL_181 rfl rfl ?_
  refine y_iload_n (pc := 182) C0 0 dL_182 rfl rfl ?_
  refine y_iconst (v := (1 : Int32)) (pc := 183) C0 dL_183 (by decide) ?_
  refine y_iadd (pc := 184) C0 dL_184 ?_
  refine y_sld (pc := 185) C0 hL k 1 (by omega) (ix1 k) dL_185 ?_
  refine y_aload_n (pc := 186) C0 3 dL_186 rfl rfl ?_
  refine y_iload_n (pc := 187) C0 0 dL_187 rfl rfl ?_
  refine y_iconst (v := (2 : Int32)) (pc := 188) C0 dL_188 (by decide) ?_
  refine y_iadd (pc := 189) C0 dL_189 ?_
  refine y_sld (pc := 190) C0 hL k 2 (by omega) (ix2 k) dL_190 ?_
  refine y_aload_n (pc := 191) C0 3 dL_191 rfl rfl ?_
  refine y_iload_n (pc := 192) C0 0 dL_192 rfl rfl ?_
  refine y_iconst (v := (3 : Int32)) (pc := 193) C0 dL_193 (by decide) ?_
  refine y_iadd (pc := 194) C0 dL_194 ?_
  refine y_sld (pc := 195) C0 hL k 3 (by omega) (ix3 k) dL_195 ?_
  refine y_aload_n (pc := 196) C0 3 dL_196 rfl rfl ?_
  refine y_iload_n (pc := 197) C0 0 dL_197 rfl rfl ?_
  refine y_iconst (v := (4 : Int32)) (pc := 198) C0 dL_198 (by decide) ?_
  refine y_iadd (pc := 199) C0 dL_199 ?_
  refine y_sld (pc := 200) C0 hL k 4 (by omega) (ix4 k) dL_200 ?_
  have hw := (hStep h1 h2 hJ).2.2.1 (xs (k + 1)) (xs (k + 2)) (xs (k + 3)) (xs (k + 4))
  refine y_callV (pc := 201) C0 F0 hca hsl [.int _, .int _, .int _, .int _] (c_V_part F0.2.2.1 hw) (by decide) (by decide) lk258 cd_V_part lk11 lk259 lk260 rfl nm_V_part rfl rfl (Nat.le_of_ble_eq_true rfl) dL_201 (fun r1 h1x hw => ?_)
  refine y_aload_n (pc := 204) C0 1 dL_204 rfl rfl ?_
  refine y_aload_n (pc := 205) C0 3 dL_205 rfl rfl ?_
  refine y_iload_n (pc := 206) C0 0 dL_206 rfl rfl ?_
  refine y_iconst (v := (1 : Int32)) (pc := 207) C0 dL_207 (by decide) ?_
  refine y_iadd (pc := 208) C0 dL_208 ?_
  refine y_sld (pc := 209) C0 hL k 1 (by omega) (ix1 k) dL_209 ?_
  refine y_aload_n (pc := 210) C0 3 dL_210 rfl rfl ?_
  refine y_iload_n (pc := 211) C0 0 dL_211 rfl rfl ?_
  refine y_iconst (v := (2 : Int32)) (pc := 212) C0 dL_212 (by decide) ?_
  refine y_iadd (pc := 213) C0 dL_213 ?_
  refine y_sld (pc := 214) C0 hL k 2 (by omega) (ix2 k) dL_214 ?_
  refine y_aload_n (pc := 215) C0 3 dL_215 rfl rfl ?_
  refine y_iload_n (pc := 216) C0 0 dL_216 rfl rfl ?_
  refine y_iconst (v := (3 : Int32)) (pc := 217) C0 dL_217 (by decide) ?_
  refine y_iadd (pc := 218) C0 dL_218 ?_
  refine y_sld (pc := 219) C0 hL k 3 (by omega) (ix3 k) dL_219 ?_
  refine y_aload_n (pc := 220) C0 3 dL_220 rfl rfl ?_
  refine y_iload_n (pc := 221) C0 0 dL_221 rfl rfl ?_
  refine y_iconst (v := (4 : Int32)) (pc := 222) C0 dL_222 (by decide) ?_
  refine y_iadd (pc := 223) C0 dL_223 ?_
  refine y_sld (pc := 224) C0 hL k 4 (by omega) (ix4 k) dL_224 ?_
  refine y_callM (pc := 225) C0 F0 hca hsl [.int _, .int _, .int _, .int _] (c_M_part F0.2.2.2.1 hw) (by decide) (by decide) lk261 cd_M_part lk163 lk262 lk263 rfl nm_M_part rfl rfl (Nat.le_of_ble_eq_true rfl) dL_225 (fun r2 h2x hw => ?_)
  refine y_same (tgt := 724) (pc := 228) C0 dL_228 (by decide) hw.1 ?_
  exact hn _ _ hw.2
set_option maxHeartbeats 4000000 in
set_option maxRecDepth 100000 in
theorem law_case3 (C0 : lw_At p s m meth c b L xs) (hL : L ≤ 3072) (F0 : LF s D1 D2 a1 a2 q1 q2) (hca : ca ≤ 600000) (hsl : sl ≤ 7302250) {J : RS → RS → Prop} (hStep : Steps J) {h1 h2 : RS} (hJ : J h1 h2) {k : Nat} (hk : k + 6 ≤ L) (hn : ∀ h1 h2, J h1 h2 → Y p l e s m b below meth c ca sl (PH2 s D1 D2 a1 a2 q1 q2 h1 h2) 724 [(3, .int (nI k)), (2, .ref (a2 0)), (1, .ref (a1 0)), (0, .ref b)] []) : Y p l e s m b below meth c ca sl (PH2 s D1 D2 a1 a2 q1 q2 h1 h2) 233 [(3, .int (nI k)), (2, .ref (a2 0)), (1, .ref (a1 0)), (0, .ref b)] [] := by
  refine y_aload_n (pc := 233) C0 2 dL_233 rfl rfl ?_
  refine y_aload_n (pc := 234) C0 3 dL_234 rfl rfl ?_
  refine y_iload_n (pc := 235) C0 0 dL_235 rfl rfl ?_
  refine y_iconst (v := (1 : Int32)) (pc := 236) C0 dL_236 (by decide) ?_
  refine y_iadd (pc := 237) C0 dL_237 ?_
  refine y_sld (pc := 238) C0 hL k 1 (by omega) (ix1 k) dL_238 ?_
  refine y_aload_n (pc := 239) C0 3 dL_239 rfl rfl ?_
  refine y_iload_n (pc := 240) C0 0 dL_240 rfl rfl ?_
  refine y_iconst (v := (2 : Int32)) (pc := 241) C0 dL_241 (by decide) ?_
  refine y_iadd (pc := 242) C0 dL_242 ?_
  refine y_sld (pc := 243) C0 hL k 2 (by omega) (ix2 k) dL_243 ?_
  refine y_aload_n (pc := 244) C0 3 dL_244 rfl rfl ?_
  refine y_iload_n (pc := 245) C0 0 dL_245 rfl rfl ?_
  refine y_iconst (v := (3 : Int32)) (pc := 246) C0 dL_246 (by decide) ?_
  refine y_iadd (pc := 247) C0 dL_247 ?_
  refine y_sld (pc := 248) C0 hL k 3 (by omega) (ix3 k) dL_248 ?_
  have hw := (hStep h1 h2 hJ).2.2.2.1 (xs (k + 1)) (xs (k + 2)) (xs (k + 3))
  refine y_callV (pc := 249) C0 F0 hca hsl [.int _, .int _, .int _] (c_V_guard F0.2.2.1 hw) (by decide) (by decide) lk264 cd_V_guard lk11 lk265 lk266 rfl nm_V_guard rfl rfl (Nat.le_of_ble_eq_true rfl) dL_249 (fun r1 h1x hw => ?_)
  refine y_aload_n (pc := 252) C0 1 dL_252 rfl rfl ?_
  refine y_aload_n (pc := 253) C0 3 dL_253 rfl rfl ?_
  refine y_iload_n (pc := 254) C0 0 dL_254 rfl rfl ?_
  refine y_iconst (v := (1 : Int32)) (pc := 255) C0 dL_255 (by decide) ?_
  refine y_iadd (pc := 256) C0 dL_256 ?_
  refine y_sld (pc := 257) C0 hL k 1 (by omega) (ix1 k) dL_257 ?_
  refine y_aload_n (pc := 258) C0 3 dL_258 rfl rfl ?_
  refine y_iload_n (pc := 259) C0 0 dL_259 rfl rfl ?_
  refine y_iconst (v := (2 : Int32)) (pc := 260) C0 dL_260 (by decide) ?_
  refine y_iadd (pc := 261) C0 dL_261 ?_
  refine y_sld (pc := 262) C0 hL k 2 (by omega) (ix2 k) dL_262 ?_
  refine y_aload_n (pc := 263) C0 3 dL_263 rfl rfl ?_
  refine y_iload_n (pc := 264) C0 0 dL_264 rfl rfl ?_
  refine y_iconst (v := (3 : Int32)) (pc := 265) C0 dL_265 (by decide) ?_
  refine y_iadd (pc := 266) C0 dL_266 ?_
  refine y_sld (pc := 267) C0 hL k 3 (by omega) (ix3 k) dL_267 ?_
  refine y_callM (pc := 268) C0 F0 hca hsl [.int _, .int _, .int _] (c_M_guard F0.2.2.2.1 hw) (by decide) (by decide) lk267 cd_M_guard lk163 lk268 lk269 rfl nm_M_guard rfl rfl (Nat.le_of_ble_eq_true rfl) dL_268 (fun r2 h2x hw => ?_)
  refine y_same (tgt := 724) (pc := 271) C0 dL_271 (by decide) hw.1 ?_
  exact hn _ _ hw.2
set_option maxHeartbeats 4000000 in
set_option maxRecDepth 100000 in
theorem law_case4 (C0 : lw_At p s m meth c b L xs) (hL : L ≤ 3072) (F0 : LF s D1 D2 a1 a2 q1 q2) (hca : ca ≤ 600000) (hsl : sl ≤ 7302250) {J : RS → RS → Prop} (hStep : Steps J) {h1 h2 : RS} (hJ : J h1 h2) {k : Nat} (hk : k + 6 ≤ L) (hn : ∀ h1 h2, J h1 h2 → Y p l e s m b below meth c ca sl (PH2 s D1 D2 a1 a2 q1 q2 h1 h2) 724 [(3, .int (nI k)), (2, .ref (a2 0)), (1, .ref (a1 0)), (0, .ref b)] []) : Y p l e s m b below meth c ca sl (PH2 s D1 D2 a1 a2 q1 q2 h1 h2) 276 [(3, .int (nI k)), (2, .ref (a2 0)), (1, .ref (a1 0)), (0, .ref b)] [] := by
  refine y_aload_n (pc := 276) C0 2 dL_276 rfl rfl ?_
  refine y_aload_n (pc := 277) C0 3 dL_277 rfl rfl ?_
  refine y_iload_n (pc := 278) C0 0 dL_278 rfl rfl ?_
  refine y_iconst (v := (1 : Int32)) (pc := 279) C0 dL_279 (by decide) ?_
  refine y_iadd (pc := 280) C0 dL_280 ?_
  refine y_sld (pc := 281) C0 hL k 1 (by omega) (ix1 k) dL_281 ?_
  refine y_aload_n (pc := 282) C0 3 dL_282 rfl rfl ?_
  refine y_iload_n (pc := 283) C0 0 dL_283 rfl rfl ?_
  refine y_iconst (v := (2 : Int32)) (pc := 284) C0 dL_284 (by decide) ?_
  refine y_iadd (pc := 285) C0 dL_285 ?_
  refine y_sld (pc := 286) C0 hL k 2 (by omega) (ix2 k) dL_286 ?_
  refine y_aload_n (pc := 287) C0 3 dL_287 rfl rfl ?_
  refine y_iload_n (pc := 288) C0 0 dL_288 rfl rfl ?_
  refine y_iconst (v := (3 : Int32)) (pc := 289) C0 dL_289 (by decide) ?_
  refine y_iadd (pc := 290) C0 dL_290 ?_
  refine y_sld (pc := 291) C0 hL k 3 (by omega) (ix3 k) dL_291 ?_
  refine y_aload_n (pc := 292) C0 3 dL_292 rfl rfl ?_
  refine y_iload_n (pc := 293) C0 0 dL_293 rfl rfl ?_
  refine y_iconst (v := (4 : Int32)) (pc := 294) C0 dL_294 (by decide) ?_
  refine y_iadd (pc := 295) C0 dL_295 ?_
  refine y_sld (pc := 296) C0 hL k 4 (by omega) (ix4 k) dL_296 ?_
  refine y_aload_n (pc := 297) C0 3 dL_297 rfl rfl ?_
  refine y_iload_n (pc := 298) C0 0 dL_298 rfl rfl ?_
  refine y_iconst (v := (5 : Int32)) (pc := 299) C0 dL_299 (by decide) ?_
  refine y_iadd (pc := 300) C0 dL_300 ?_
  refine y_sld (pc := 301) C0 hL k 5 (by omega) (ix5 k) dL_301 ?_
  have hw := (hStep h1 h2 hJ).2.2.2.2.1 (xs (k + 1)) (xs (k + 2)) (xs (k + 3)) (xs (k + 4)) (xs (k + 5))
  refine y_callV (pc := 302) C0 F0 hca hsl [.int _, .int _, .int _, .int _, .int _] (c_V_emit F0.2.2.1 hw) (by decide) (by decide) lk270 cd_V_emit lk11 lk271 lk272 rfl nm_V_emit rfl rfl (Nat.le_of_ble_eq_true rfl) dL_302 (fun r1 h1x hw => ?_)
  refine y_aload_n (pc := 305) C0 1 dL_305 rfl rfl ?_
  refine y_aload_n (pc := 306) C0 3 dL_306 rfl rfl ?_
  refine y_iload_n (pc := 307) C0 0 dL_307 rfl rfl ?_
  refine y_iconst (v := (1 : Int32)) (pc := 308) C0 dL_308 (by decide) ?_
  refine y_iadd (pc := 309) C0 dL_309 ?_
  refine y_sld (pc := 310) C0 hL k 1 (by omega) (ix1 k) dL_310 ?_
  refine y_aload_n (pc := 311) C0 3 dL_311 rfl rfl ?_
  refine y_iload_n (pc := 312) C0 0 dL_312 rfl rfl ?_
  refine y_iconst (v := (2 : Int32)) (pc := 313) C0 dL_313 (by decide) ?_
  refine y_iadd (pc := 314) C0 dL_314 ?_
  refine y_sld (pc := 315) C0 hL k 2 (by omega) (ix2 k) dL_315 ?_
  refine y_aload_n (pc := 316) C0 3 dL_316 rfl rfl ?_
  refine y_iload_n (pc := 317) C0 0 dL_317 rfl rfl ?_
  refine y_iconst (v := (3 : Int32)) (pc := 318) C0 dL_318 (by decide) ?_
  refine y_iadd (pc := 319) C0 dL_319 ?_
  refine y_sld (pc := 320) C0 hL k 3 (by omega) (ix3 k) dL_320 ?_
  refine y_aload_n (pc := 321) C0 3 dL_321 rfl rfl ?_
  refine y_iload_n (pc := 322) C0 0 dL_322 rfl rfl ?_
  refine y_iconst (v := (4 : Int32)) (pc := 323) C0 dL_323 (by decide) ?_
  refine y_iadd (pc := 324) C0 dL_324 ?_
  refine y_sld (pc := 325) C0 hL k 4 (by omega) (ix4 k) dL_325 ?_
  refine y_aload_n (pc := 326) C0 3 dL_326 rfl rfl ?_
  refine y_iload_n (pc := 327) C0 0 dL_327 rfl rfl ?_
  refine y_iconst (v := (5 : Int32)) (pc := 328) C0 dL_328 (by decide) ?_
  refine y_iadd (pc := 329) C0 dL_329 ?_
  refine y_sld (pc := 330) C0 hL k 5 (by omega) (ix5 k) dL_330 ?_
  refine y_callM (pc := 331) C0 F0 hca hsl [.int _, .int _, .int _, .int _, .int _] (c_M_emit F0.2.2.2.1 hw) (by decide) (by decide) lk273 cd_M_emit lk163 lk274 lk275 rfl nm_M_emit rfl rfl (Nat.le_of_ble_eq_true rfl) dL_331 (fun r2 h2x hw => ?_)
  refine y_same (tgt := 724) (pc := 334) C0 dL_334 (by decide) hw.1 ?_
  exact hn _ _ hw.2
set_option maxHeartbeats 4000000 in
set_option maxRecDepth 100000 in
theorem law_case5 (C0 : lw_At p s m meth c b L xs) (hL : L ≤ 3072) (F0 : LF s D1 D2 a1 a2 q1 q2) (hca : ca ≤ 600000) (hsl : sl ≤ 7302250) {J : RS → RS → Prop} (hStep : Steps J) {h1 h2 : RS} (hJ : J h1 h2) {k : Nat} (hk : k + 6 ≤ L) (hn : ∀ h1 h2, J h1 h2 → Y p l e s m b below meth c ca sl (PH2 s D1 D2 a1 a2 q1 q2 h1 h2) 724 [(3, .int (nI k)), (2, .ref (a2 0)), (1, .ref (a1 0)), (0, .ref b)] []) : Y p l e s m b below meth c ca sl (PH2 s D1 D2 a1 a2 q1 q2 h1 h2) 339 [(3, .int (nI k)), (2, .ref (a2 0)), (1, .ref (a1 0)), (0, .ref b)] [] := by
  refine y_aload_n (pc := 339) C0 2 dL_339 rfl rfl ?_
  refine y_aload_n (pc := 340) C0 3 dL_340 rfl rfl ?_
  refine y_iload_n (pc := 341) C0 0 dL_341 rfl rfl ?_
  refine y_iconst (v := (1 : Int32)) (pc := 342) C0 dL_342 (by decide) ?_
  refine y_iadd (pc := 343) C0 dL_343 ?_
  refine y_sld (pc := 344) C0 hL k 1 (by omega) (ix1 k) dL_344 ?_
  refine y_aload_n (pc := 345) C0 3 dL_345 rfl rfl ?_
  refine y_iload_n (pc := 346) C0 0 dL_346 rfl rfl ?_
  refine y_iconst (v := (2 : Int32)) (pc := 347) C0 dL_347 (by decide) ?_
  refine y_iadd (pc := 348) C0 dL_348 ?_
  refine y_sld (pc := 349) C0 hL k 2 (by omega) (ix2 k) dL_349 ?_
  refine y_aload_n (pc := 350) C0 3 dL_350 rfl rfl ?_
  refine y_iload_n (pc := 351) C0 0 dL_351 rfl rfl ?_
  refine y_iconst (v := (3 : Int32)) (pc := 352) C0 dL_352 (by decide) ?_
  refine y_iadd (pc := 353) C0 dL_353 ?_
  refine y_sld (pc := 354) C0 hL k 3 (by omega) (ix3 k) dL_354 ?_
  refine y_aload_n (pc := 355) C0 3 dL_355 rfl rfl ?_
  refine y_iload_n (pc := 356) C0 0 dL_356 rfl rfl ?_
  refine y_iconst (v := (4 : Int32)) (pc := 357) C0 dL_357 (by decide) ?_
  refine y_iadd (pc := 358) C0 dL_358 ?_
  refine y_sld (pc := 359) C0 hL k 4 (by omega) (ix4 k) dL_359 ?_
  refine y_aload_n (pc := 360) C0 3 dL_360 rfl rfl ?_
  refine y_iload_n (pc := 361) C0 0 dL_361 rfl rfl ?_
  refine y_iconst (v := (5 : Int32)) (pc := 362) C0 dL_362 (by decide) ?_
  refine y_iadd (pc := 363) C0 dL_363 ?_
  refine y_sld (pc := 364) C0 hL k 5 (by omega) (ix5 k) dL_364 ?_
  have hw := (hStep h1 h2 hJ).2.2.2.2.2.1 (xs (k + 1)) (xs (k + 2)) (xs (k + 3)) (xs (k + 4)) (xs (k + 5))
  refine y_callV (pc := 365) C0 F0 hca hsl [.int _, .int _, .int _, .int _, .int _] (c_V_reply F0.2.2.1 hw) (by decide) (by decide) lk276 cd_V_reply lk11 lk277 lk278 rfl nm_V_reply rfl rfl (Nat.le_of_ble_eq_true rfl) dL_365 (fun r1 h1x hw => ?_)
  refine y_aload_n (pc := 368) C0 1 dL_368 rfl rfl ?_
  refine y_aload_n (pc := 369) C0 3 dL_369 rfl rfl ?_
  refine y_iload_n (pc := 370) C0 0 dL_370 rfl rfl ?_
  refine y_iconst (v := (1 : Int32)) (pc := 371) C0 dL_371 (by decide) ?_
  refine y_iadd (pc := 372) C0 dL_372 ?_
  refine y_sld (pc := 373) C0 hL k 1 (by omega) (ix1 k) dL_373 ?_
  refine y_aload_n (pc := 374) C0 3 dL_374 rfl rfl ?_
  refine y_iload_n (pc := 375) C0 0 dL_375 rfl rfl ?_
  refine y_iconst (v := (2 : Int32)) (pc := 376) C0 dL_376 (by decide) ?_
  refine y_iadd (pc := 377) C0 dL_377 ?_
  refine y_sld (pc := 378) C0 hL k 2 (by omega) (ix2 k) dL_378 ?_
  refine y_aload_n (pc := 379) C0 3 dL_379 rfl rfl ?_
  refine y_iload_n (pc := 380) C0 0 dL_380 rfl rfl ?_
  refine y_iconst (v := (3 : Int32)) (pc := 381) C0 dL_381 (by decide) ?_
  refine y_iadd (pc := 382) C0 dL_382 ?_
  refine y_sld (pc := 383) C0 hL k 3 (by omega) (ix3 k) dL_383 ?_
  refine y_aload_n (pc := 384) C0 3 dL_384 rfl rfl ?_
  refine y_iload_n (pc := 385) C0 0 dL_385 rfl rfl ?_
  refine y_iconst (v := (4 : Int32)) (pc := 386) C0 dL_386 (by decide) ?_
  refine y_iadd (pc := 387) C0 dL_387 ?_
  refine y_sld (pc := 388) C0 hL k 4 (by omega) (ix4 k) dL_388 ?_
  refine y_aload_n (pc := 389) C0 3 dL_389 rfl rfl ?_
  refine y_iload_n (pc := 390) C0 0 dL_390 rfl rfl ?_
  refine y_iconst (v := (5 : Int32)) (pc := 391) C0 dL_391 (by decide) ?_
  refine y_iadd (pc := 392) C0 dL_392 ?_
  refine y_sld (pc := 393) C0 hL k 5 (by omega) (ix5 k) dL_393 ?_
  refine y_callM (pc := 394) C0 F0 hca hsl [.int _, .int _, .int _, .int _, .int _] (c_M_reply F0.2.2.2.1 hw) (by decide) (by decide) lk279 cd_M_reply lk163 lk280 lk281 rfl nm_M_reply rfl rfl (Nat.le_of_ble_eq_true rfl) dL_394 (fun r2 h2x hw => ?_)
  refine y_same (tgt := 724) (pc := 397) C0 dL_397 (by decide) hw.1 ?_
  exact hn _ _ hw.2
set_option maxHeartbeats 4000000 in
set_option maxRecDepth 100000 in
theorem law_case6 (C0 : lw_At p s m meth c b L xs) (hL : L ≤ 3072) (F0 : LF s D1 D2 a1 a2 q1 q2) (hca : ca ≤ 600000) (hsl : sl ≤ 7302250) {J : RS → RS → Prop} (hStep : Steps J) {h1 h2 : RS} (hJ : J h1 h2) {k : Nat} (hk : k + 6 ≤ L) (hn : ∀ h1 h2, J h1 h2 → Y p l e s m b below meth c ca sl (PH2 s D1 D2 a1 a2 q1 q2 h1 h2) 724 [(3, .int (nI k)), (2, .ref (a2 0)), (1, .ref (a1 0)), (0, .ref b)] []) : Y p l e s m b below meth c ca sl (PH2 s D1 D2 a1 a2 q1 q2 h1 h2) 402 [(3, .int (nI k)), (2, .ref (a2 0)), (1, .ref (a1 0)), (0, .ref b)] [] := by
  refine y_aload_n (pc := 402) C0 2 dL_402 rfl rfl ?_
  have hw := (hStep h1 h2 hJ).2.2.2.2.2.2.1
  refine y_callV (pc := 403) C0 F0 hca hsl [] (c_V_seal F0.2.2.1 hw) (by decide) (by decide) lk282 cd_V_seal lk11 lk283 lk284 rfl nm_V_seal rfl rfl (Nat.le_of_ble_eq_true rfl) dL_403 (fun r1 h1x hw => ?_)
  refine y_aload_n (pc := 406) C0 1 dL_406 rfl rfl ?_
  refine y_callM (pc := 407) C0 F0 hca hsl [] (c_M_seal F0.2.2.2.1 hw) (by decide) (by decide) lk285 cd_M_seal lk163 lk286 lk287 rfl nm_M_seal rfl rfl (Nat.le_of_ble_eq_true rfl) dL_407 (fun r2 h2x hw => ?_)
  refine y_same (tgt := 724) (pc := 410) C0 dL_410 (by decide) hw.1 ?_
  exact hn _ _ hw.2
set_option maxHeartbeats 4000000 in
set_option maxRecDepth 100000 in
theorem law_case7 (C0 : lw_At p s m meth c b L xs) (hL : L ≤ 3072) (F0 : LF s D1 D2 a1 a2 q1 q2) (hca : ca ≤ 600000) (hsl : sl ≤ 7302250) {J : RS → RS → Prop} (hStep : Steps J) {h1 h2 : RS} (hJ : J h1 h2) {k : Nat} (hk : k + 6 ≤ L) (hn : ∀ h1 h2, J h1 h2 → Y p l e s m b below meth c ca sl (PH2 s D1 D2 a1 a2 q1 q2 h1 h2) 724 [(3, .int (nI k)), (2, .ref (a2 0)), (1, .ref (a1 0)), (0, .ref b)] []) : Y p l e s m b below meth c ca sl (PH2 s D1 D2 a1 a2 q1 q2 h1 h2) 415 [(3, .int (nI k)), (2, .ref (a2 0)), (1, .ref (a1 0)), (0, .ref b)] [] := by
  refine y_aload_n (pc := 415) C0 2 dL_415 rfl rfl ?_
  refine y_aload_n (pc := 416) C0 3 dL_416 rfl rfl ?_
  refine y_iload_n (pc := 417) C0 0 dL_417 rfl rfl ?_
  refine y_iconst (v := (1 : Int32)) (pc := 418) C0 dL_418 (by decide) ?_
  refine y_iadd (pc := 419) C0 dL_419 ?_
  refine y_sld (pc := 420) C0 hL k 1 (by omega) (ix1 k) dL_420 ?_
  refine y_aload_n (pc := 421) C0 3 dL_421 rfl rfl ?_
  refine y_iload_n (pc := 422) C0 0 dL_422 rfl rfl ?_
  refine y_iconst (v := (2 : Int32)) (pc := 423) C0 dL_423 (by decide) ?_
  refine y_iadd (pc := 424) C0 dL_424 ?_
  refine y_sld (pc := 425) C0 hL k 2 (by omega) (ix2 k) dL_425 ?_
  have hw := (hStep h1 h2 hJ).2.2.2.2.2.2.2.1 (xs (k + 1)) (xs (k + 2))
  refine y_callV (pc := 426) C0 F0 hca hsl [.int _, .int _] (c_V_put F0.2.2.1 hw) (by decide) (by decide) lk288 cd_V_put lk11 lk289 lk290 rfl nm_V_put rfl rfl (Nat.le_of_ble_eq_true rfl) dL_426 (fun r1 h1x hw => ?_)
  refine y_aload_n (pc := 429) C0 1 dL_429 rfl rfl ?_
  refine y_aload_n (pc := 430) C0 3 dL_430 rfl rfl ?_
  refine y_iload_n (pc := 431) C0 0 dL_431 rfl rfl ?_
  refine y_iconst (v := (1 : Int32)) (pc := 432) C0 dL_432 (by decide) ?_
  refine y_iadd (pc := 433) C0 dL_433 ?_
  refine y_sld (pc := 434) C0 hL k 1 (by omega) (ix1 k) dL_434 ?_
  refine y_aload_n (pc := 435) C0 3 dL_435 rfl rfl ?_
  refine y_iload_n (pc := 436) C0 0 dL_436 rfl rfl ?_
  refine y_iconst (v := (2 : Int32)) (pc := 437) C0 dL_437 (by decide) ?_
  refine y_iadd (pc := 438) C0 dL_438 ?_
  refine y_sld (pc := 439) C0 hL k 2 (by omega) (ix2 k) dL_439 ?_
  refine y_callM (pc := 440) C0 F0 hca hsl [.int _, .int _] (c_M_put F0.2.2.2.1 hw) (by decide) (by decide) lk291 cd_M_put lk163 lk292 lk293 rfl nm_M_put rfl rfl (Nat.le_of_ble_eq_true rfl) dL_440 (fun r2 h2x hw => ?_)
  refine y_same (tgt := 724) (pc := 443) C0 dL_443 (by decide) hw.1 ?_
  exact hn _ _ hw.2
set_option maxHeartbeats 4000000 in
set_option maxRecDepth 100000 in
theorem law_case8 (C0 : lw_At p s m meth c b L xs) (hL : L ≤ 3072) (F0 : LF s D1 D2 a1 a2 q1 q2) (hca : ca ≤ 600000) (hsl : sl ≤ 7302250) {J : RS → RS → Prop} (hStep : Steps J) {h1 h2 : RS} (hJ : J h1 h2) {k : Nat} (hk : k + 6 ≤ L) (hn : ∀ h1 h2, J h1 h2 → Y p l e s m b below meth c ca sl (PH2 s D1 D2 a1 a2 q1 q2 h1 h2) 724 [(3, .int (nI k)), (2, .ref (a2 0)), (1, .ref (a1 0)), (0, .ref b)] []) : Y p l e s m b below meth c ca sl (PH2 s D1 D2 a1 a2 q1 q2 h1 h2) 448 [(3, .int (nI k)), (2, .ref (a2 0)), (1, .ref (a1 0)), (0, .ref b)] [] := by
  refine y_aload_n (pc := 448) C0 2 dL_448 rfl rfl ?_
  refine y_aload_n (pc := 449) C0 3 dL_449 rfl rfl ?_
  refine y_iload_n (pc := 450) C0 0 dL_450 rfl rfl ?_
  refine y_iconst (v := (1 : Int32)) (pc := 451) C0 dL_451 (by decide) ?_
  refine y_iadd (pc := 452) C0 dL_452 ?_
  refine y_sld (pc := 453) C0 hL k 1 (by omega) (ix1 k) dL_453 ?_
  refine y_aload_n (pc := 454) C0 3 dL_454 rfl rfl ?_
  refine y_iload_n (pc := 455) C0 0 dL_455 rfl rfl ?_
  refine y_iconst (v := (2 : Int32)) (pc := 456) C0 dL_456 (by decide) ?_
  refine y_iadd (pc := 457) C0 dL_457 ?_
  refine y_sld (pc := 458) C0 hL k 2 (by omega) (ix2 k) dL_458 ?_
  have hw := (hStep h1 h2 hJ).2.2.2.2.2.2.2.2.1 (xs (k + 1)) (xs (k + 2))
  refine y_callV (pc := 459) C0 F0 hca hsl [.int _, .int _] (c_V_call F0.2.2.1 hw) (by decide) (by decide) lk294 cd_V_call lk11 lk295 lk296 rfl nm_V_call rfl rfl (Nat.le_of_ble_eq_true rfl) dL_459 (fun r1 h1x hw => ?_)
  refine y_aload_n (pc := 462) C0 1 dL_462 rfl rfl ?_
  refine y_aload_n (pc := 463) C0 3 dL_463 rfl rfl ?_
  refine y_iload_n (pc := 464) C0 0 dL_464 rfl rfl ?_
  refine y_iconst (v := (1 : Int32)) (pc := 465) C0 dL_465 (by decide) ?_
  refine y_iadd (pc := 466) C0 dL_466 ?_
  refine y_sld (pc := 467) C0 hL k 1 (by omega) (ix1 k) dL_467 ?_
  refine y_aload_n (pc := 468) C0 3 dL_468 rfl rfl ?_
  refine y_iload_n (pc := 469) C0 0 dL_469 rfl rfl ?_
  refine y_iconst (v := (2 : Int32)) (pc := 470) C0 dL_470 (by decide) ?_
  refine y_iadd (pc := 471) C0 dL_471 ?_
  refine y_sld (pc := 472) C0 hL k 2 (by omega) (ix2 k) dL_472 ?_
  refine y_callM (pc := 473) C0 F0 hca hsl [.int _, .int _] (c_M_call F0.2.2.2.1 hw) (by decide) (by decide) lk297 cd_M_call lk163 lk298 lk299 rfl nm_M_call rfl rfl (Nat.le_of_ble_eq_true rfl) dL_473 (fun r2 h2x hw => ?_)
  refine y_same (tgt := 724) (pc := 476) C0 dL_476 (by decide) hw.1 ?_
  exact hn _ _ hw.2
set_option maxHeartbeats 4000000 in
set_option maxRecDepth 100000 in
theorem law_case9 (C0 : lw_At p s m meth c b L xs) (hL : L ≤ 3072) (F0 : LF s D1 D2 a1 a2 q1 q2) (hca : ca ≤ 600000) (hsl : sl ≤ 7302250) {J : RS → RS → Prop} (hStep : Steps J) {h1 h2 : RS} (hJ : J h1 h2) {k : Nat} (hk : k + 6 ≤ L) (hn : ∀ h1 h2, J h1 h2 → Y p l e s m b below meth c ca sl (PH2 s D1 D2 a1 a2 q1 q2 h1 h2) 724 [(3, .int (nI k)), (2, .ref (a2 0)), (1, .ref (a1 0)), (0, .ref b)] []) : Y p l e s m b below meth c ca sl (PH2 s D1 D2 a1 a2 q1 q2 h1 h2) 481 [(3, .int (nI k)), (2, .ref (a2 0)), (1, .ref (a1 0)), (0, .ref b)] [] := by
  refine y_aload_n (pc := 481) C0 2 dL_481 rfl rfl ?_
  refine y_aload_n (pc := 482) C0 3 dL_482 rfl rfl ?_
  refine y_iload_n (pc := 483) C0 0 dL_483 rfl rfl ?_
  refine y_iconst (v := (1 : Int32)) (pc := 484) C0 dL_484 (by decide) ?_
  refine y_iadd (pc := 485) C0 dL_485 ?_
  refine y_sld (pc := 486) C0 hL k 1 (by omega) (ix1 k) dL_486 ?_
  have hw := (hStep h1 h2 hJ).2.2.2.2.2.2.2.2.2.1 (xs (k + 1))
  refine y_callV (pc := 487) C0 F0 hca hsl [.int _] (c_V_withdraw F0.2.2.1 hw) (by decide) (by decide) lk300 cd_V_withdraw lk11 lk301 lk302 rfl nm_V_withdraw rfl rfl (Nat.le_of_ble_eq_true rfl) dL_487 (fun r1 h1x hw => ?_)
  refine y_aload_n (pc := 490) C0 1 dL_490 rfl rfl ?_
  refine y_aload_n (pc := 491) C0 3 dL_491 rfl rfl ?_
  refine y_iload_n (pc := 492) C0 0 dL_492 rfl rfl ?_
  refine y_iconst (v := (1 : Int32)) (pc := 493) C0 dL_493 (by decide) ?_
  refine y_iadd (pc := 494) C0 dL_494 ?_
  refine y_sld (pc := 495) C0 hL k 1 (by omega) (ix1 k) dL_495 ?_
  refine y_callM (pc := 496) C0 F0 hca hsl [.int _] (c_M_withdraw F0.2.2.2.1 hw) (by decide) (by decide) lk303 cd_M_withdraw lk163 lk304 lk305 rfl nm_M_withdraw rfl rfl (Nat.le_of_ble_eq_true rfl) dL_496 (fun r2 h2x hw => ?_)
  refine y_same (tgt := 724) (pc := 499) C0 dL_499 (by decide) hw.1 ?_
  exact hn _ _ hw.2
set_option maxHeartbeats 4000000 in
set_option maxRecDepth 100000 in
theorem law_case10 (C0 : lw_At p s m meth c b L xs) (hL : L ≤ 3072) (F0 : LF s D1 D2 a1 a2 q1 q2) (hca : ca ≤ 600000) (hsl : sl ≤ 7302250) {J : RS → RS → Prop} (hStep : Steps J) {h1 h2 : RS} (hJ : J h1 h2) {k : Nat} (hk : k + 6 ≤ L) (hn : ∀ h1 h2, J h1 h2 → Y p l e s m b below meth c ca sl (PH2 s D1 D2 a1 a2 q1 q2 h1 h2) 724 [(3, .int (nI k)), (2, .ref (a2 0)), (1, .ref (a1 0)), (0, .ref b)] []) : Y p l e s m b below meth c ca sl (PH2 s D1 D2 a1 a2 q1 q2 h1 h2) 504 [(3, .int (nI k)), (2, .ref (a2 0)), (1, .ref (a1 0)), (0, .ref b)] [] := by
  refine y_aload_n (pc := 504) C0 2 dL_504 rfl rfl ?_
  refine y_aload_n (pc := 505) C0 3 dL_505 rfl rfl ?_
  refine y_iload_n (pc := 506) C0 0 dL_506 rfl rfl ?_
  refine y_iconst (v := (1 : Int32)) (pc := 507) C0 dL_507 (by decide) ?_
  refine y_iadd (pc := 508) C0 dL_508 ?_
  refine y_sld (pc := 509) C0 hL k 1 (by omega) (ix1 k) dL_509 ?_
  have hw := (hStep h1 h2 hJ).2.2.2.2.2.2.2.2.2.2.1 (xs (k + 1))
  refine y_callV (pc := 510) C0 F0 hca hsl [.int _] (c_V_react F0.2.2.1 hw) (by decide) (by decide) lk306 cd_V_react lk11 lk307 lk308 rfl nm_V_react rfl rfl (Nat.le_of_ble_eq_true rfl) dL_510 (fun r1 h1x hw => ?_)
  refine y_aload_n (pc := 513) C0 1 dL_513 rfl rfl ?_
  refine y_aload_n (pc := 514) C0 3 dL_514 rfl rfl ?_
  refine y_iload_n (pc := 515) C0 0 dL_515 rfl rfl ?_
  refine y_iconst (v := (1 : Int32)) (pc := 516) C0 dL_516 (by decide) ?_
  refine y_iadd (pc := 517) C0 dL_517 ?_
  refine y_sld (pc := 518) C0 hL k 1 (by omega) (ix1 k) dL_518 ?_
  refine y_callM (pc := 519) C0 F0 hca hsl [.int _] (c_M_react F0.2.2.2.1 hw) (by decide) (by decide) lk309 cd_M_react lk163 lk310 lk311 rfl nm_M_react rfl rfl (Nat.le_of_ble_eq_true rfl) dL_519 (fun r2 h2x hw => ?_)
  refine y_same (tgt := 724) (pc := 522) C0 dL_522 (by decide) hw.1 ?_
  exact hn _ _ hw.2
set_option maxHeartbeats 4000000 in
set_option maxRecDepth 100000 in
theorem law_case11 (C0 : lw_At p s m meth c b L xs) (hL : L ≤ 3072) (F0 : LF s D1 D2 a1 a2 q1 q2) (hca : ca ≤ 600000) (hsl : sl ≤ 7302250) {J : RS → RS → Prop} (hStep : Steps J) {h1 h2 : RS} (hJ : J h1 h2) {k : Nat} (hk : k + 6 ≤ L) (hn : ∀ h1 h2, J h1 h2 → Y p l e s m b below meth c ca sl (PH2 s D1 D2 a1 a2 q1 q2 h1 h2) 724 [(3, .int (nI k)), (2, .ref (a2 0)), (1, .ref (a1 0)), (0, .ref b)] []) : Y p l e s m b below meth c ca sl (PH2 s D1 D2 a1 a2 q1 q2 h1 h2) 527 [(3, .int (nI k)), (2, .ref (a2 0)), (1, .ref (a1 0)), (0, .ref b)] [] := by
  refine y_aload_n (pc := 527) C0 2 dL_527 rfl rfl ?_
  have hw := (hStep h1 h2 hJ).2.2.2.2.2.2.2.2.2.2.2.1
  refine y_callV (pc := 528) C0 F0 hca hsl [] (c_V_enabled F0.2.2.1 hw) (by decide) (by decide) lk312 cd_V_enabled lk11 lk313 lk314 rfl nm_V_enabled rfl rfl (Nat.le_of_ble_eq_true rfl) dL_528 (fun r1 h1x hw => ?_)
  refine y_aload_n (pc := 531) C0 1 dL_531 rfl rfl ?_
  refine y_callM (pc := 532) C0 F0 hca hsl [] (c_M_enabled F0.2.2.2.1 hw) (by decide) (by decide) lk315 cd_M_enabled lk163 lk232 lk233 rfl nm_M_enabled rfl rfl (Nat.le_of_ble_eq_true rfl) dL_532 (fun r2 h2x hw => ?_)
  refine y_same (tgt := 724) (pc := 535) C0 dL_535 (by decide) hw.1 ?_
  exact hn _ _ hw.2
set_option maxHeartbeats 4000000 in
set_option maxRecDepth 100000 in
theorem law_case12 (C0 : lw_At p s m meth c b L xs) (hL : L ≤ 3072) (F0 : LF s D1 D2 a1 a2 q1 q2) (hca : ca ≤ 600000) (hsl : sl ≤ 7302250) {J : RS → RS → Prop} (hStep : Steps J) {h1 h2 : RS} (hJ : J h1 h2) {k : Nat} (hk : k + 6 ≤ L) (hn : ∀ h1 h2, J h1 h2 → Y p l e s m b below meth c ca sl (PH2 s D1 D2 a1 a2 q1 q2 h1 h2) 724 [(3, .int (nI k)), (2, .ref (a2 0)), (1, .ref (a1 0)), (0, .ref b)] []) : Y p l e s m b below meth c ca sl (PH2 s D1 D2 a1 a2 q1 q2 h1 h2) 540 [(3, .int (nI k)), (2, .ref (a2 0)), (1, .ref (a1 0)), (0, .ref b)] [] := by
  refine y_aload_n (pc := 540) C0 2 dL_540 rfl rfl ?_
  have hw := (hStep h1 h2 hJ).2.2.2.2.2.2.2.2.2.2.2.2.1
  refine y_callV (pc := 541) C0 F0 hca hsl [] (c_V_next F0.2.2.1 hw) (by decide) (by decide) lk316 cd_V_next lk11 lk317 lk318 rfl nm_V_next rfl rfl (Nat.le_of_ble_eq_true rfl) dL_541 (fun r1 h1x hw => ?_)
  refine y_aload_n (pc := 544) C0 1 dL_544 rfl rfl ?_
  refine y_callM (pc := 545) C0 F0 hca hsl [] (c_M_next F0.2.2.2.1 hw) (by decide) (by decide) lk319 cd_M_next lk163 lk237 lk238 rfl nm_M_next rfl rfl (Nat.le_of_ble_eq_true rfl) dL_545 (fun r2 h2x hw => ?_)
  refine y_same (tgt := 724) (pc := 548) C0 dL_548 (by decide) hw.1 ?_
  exact hn _ _ hw.2
set_option maxHeartbeats 4000000 in
set_option maxRecDepth 100000 in
theorem law_case13 (C0 : lw_At p s m meth c b L xs) (hL : L ≤ 3072) (F0 : LF s D1 D2 a1 a2 q1 q2) (hca : ca ≤ 600000) (hsl : sl ≤ 7302250) {J : RS → RS → Prop} (hStep : Steps J) {h1 h2 : RS} (hJ : J h1 h2) {k : Nat} (hk : k + 6 ≤ L) (hn : ∀ h1 h2, J h1 h2 → Y p l e s m b below meth c ca sl (PH2 s D1 D2 a1 a2 q1 q2 h1 h2) 724 [(3, .int (nI k)), (2, .ref (a2 0)), (1, .ref (a1 0)), (0, .ref b)] []) : Y p l e s m b below meth c ca sl (PH2 s D1 D2 a1 a2 q1 q2 h1 h2) 553 [(3, .int (nI k)), (2, .ref (a2 0)), (1, .ref (a1 0)), (0, .ref b)] [] := by
  refine y_aload_n (pc := 553) C0 2 dL_553 rfl rfl ?_
  refine y_aload_n (pc := 554) C0 3 dL_554 rfl rfl ?_
  refine y_iload_n (pc := 555) C0 0 dL_555 rfl rfl ?_
  refine y_iconst (v := (1 : Int32)) (pc := 556) C0 dL_556 (by decide) ?_
  refine y_iadd (pc := 557) C0 dL_557 ?_
  refine y_sld (pc := 558) C0 hL k 1 (by omega) (ix1 k) dL_558 ?_
  have hw := (hStep h1 h2 hJ).2.2.2.2.2.2.2.2.2.2.2.2.2.1 (xs (k + 1))
  refine y_callV (pc := 559) C0 F0 hca hsl [.int _] (c_V_taken F0.2.2.1 hw) (by decide) (by decide) lk320 cd_V_taken lk11 lk321 lk322 rfl nm_V_taken rfl rfl (Nat.le_of_ble_eq_true rfl) dL_559 (fun r1 h1x hw => ?_)
  refine y_aload_n (pc := 562) C0 1 dL_562 rfl rfl ?_
  refine y_aload_n (pc := 563) C0 3 dL_563 rfl rfl ?_
  refine y_iload_n (pc := 564) C0 0 dL_564 rfl rfl ?_
  refine y_iconst (v := (1 : Int32)) (pc := 565) C0 dL_565 (by decide) ?_
  refine y_iadd (pc := 566) C0 dL_566 ?_
  refine y_sld (pc := 567) C0 hL k 1 (by omega) (ix1 k) dL_567 ?_
  refine y_callM (pc := 568) C0 F0 hca hsl [.int _] (c_M_taken F0.2.2.2.1 hw) (by decide) (by decide) lk323 cd_M_taken lk163 lk324 lk325 rfl nm_M_taken rfl rfl (Nat.le_of_ble_eq_true rfl) dL_568 (fun r2 h2x hw => ?_)
  refine y_same (tgt := 724) (pc := 571) C0 dL_571 (by decide) hw.1 ?_
  exact hn _ _ hw.2
set_option maxHeartbeats 4000000 in
set_option maxRecDepth 100000 in
theorem law_case14 (C0 : lw_At p s m meth c b L xs) (hL : L ≤ 3072) (F0 : LF s D1 D2 a1 a2 q1 q2) (hca : ca ≤ 600000) (hsl : sl ≤ 7302250) {J : RS → RS → Prop} (hStep : Steps J) {h1 h2 : RS} (hJ : J h1 h2) {k : Nat} (hk : k + 6 ≤ L) (hn : ∀ h1 h2, J h1 h2 → Y p l e s m b below meth c ca sl (PH2 s D1 D2 a1 a2 q1 q2 h1 h2) 724 [(3, .int (nI k)), (2, .ref (a2 0)), (1, .ref (a1 0)), (0, .ref b)] []) : Y p l e s m b below meth c ca sl (PH2 s D1 D2 a1 a2 q1 q2 h1 h2) 576 [(3, .int (nI k)), (2, .ref (a2 0)), (1, .ref (a1 0)), (0, .ref b)] [] := by
  refine y_aload_n (pc := 576) C0 2 dL_576 rfl rfl ?_
  refine y_aload_n (pc := 577) C0 3 dL_577 rfl rfl ?_
  refine y_iload_n (pc := 578) C0 0 dL_578 rfl rfl ?_
  refine y_iconst (v := (1 : Int32)) (pc := 579) C0 dL_579 (by decide) ?_
  refine y_iadd (pc := 580) C0 dL_580 ?_
  refine y_sld (pc := 581) C0 hL k 1 (by omega) (ix1 k) dL_581 ?_
  refine y_aload_n (pc := 582) C0 3 dL_582 rfl rfl ?_
  refine y_iload_n (pc := 583) C0 0 dL_583 rfl rfl ?_
  refine y_iconst (v := (2 : Int32)) (pc := 584) C0 dL_584 (by decide) ?_
  refine y_iadd (pc := 585) C0 dL_585 ?_
  refine y_sld (pc := 586) C0 hL k 2 (by omega) (ix2 k) dL_586 ?_
  have hw := (hStep h1 h2 hJ).2.2.2.2.2.2.2.2.2.2.2.2.2.2.1 (xs (k + 1)) (xs (k + 2))
  refine y_callV (pc := 587) C0 F0 hca hsl [.int _, .int _] (c_V_pendingAt F0.2.2.1 hw) (by decide) (by decide) lk326 cd_V_pendingAt lk11 lk327 lk328 rfl nm_V_pendingAt rfl rfl (Nat.le_of_ble_eq_true rfl) dL_587 (fun r1 h1x hw => ?_)
  refine y_aload_n (pc := 590) C0 1 dL_590 rfl rfl ?_
  refine y_aload_n (pc := 591) C0 3 dL_591 rfl rfl ?_
  refine y_iload_n (pc := 592) C0 0 dL_592 rfl rfl ?_
  refine y_iconst (v := (1 : Int32)) (pc := 593) C0 dL_593 (by decide) ?_
  refine y_iadd (pc := 594) C0 dL_594 ?_
  refine y_sld (pc := 595) C0 hL k 1 (by omega) (ix1 k) dL_595 ?_
  refine y_aload_n (pc := 596) C0 3 dL_596 rfl rfl ?_
  refine y_iload_n (pc := 597) C0 0 dL_597 rfl rfl ?_
  refine y_iconst (v := (2 : Int32)) (pc := 598) C0 dL_598 (by decide) ?_
  refine y_iadd (pc := 599) C0 dL_599 ?_
  refine y_sld (pc := 600) C0 hL k 2 (by omega) (ix2 k) dL_600 ?_
  refine y_callM (pc := 601) C0 F0 hca hsl [.int _, .int _] (c_M_pendingAt F0.2.2.2.1 hw) (by decide) (by decide) lk329 cd_M_pendingAt lk163 lk330 lk331 rfl nm_M_pendingAt rfl rfl (Nat.le_of_ble_eq_true rfl) dL_601 (fun r2 h2x hw => ?_)
  refine y_same (tgt := 724) (pc := 604) C0 dL_604 (by decide) hw.1 ?_
  exact hn _ _ hw.2
set_option maxHeartbeats 4000000 in
set_option maxRecDepth 100000 in
theorem law_case15 (C0 : lw_At p s m meth c b L xs) (hL : L ≤ 3072) (F0 : LF s D1 D2 a1 a2 q1 q2) (hca : ca ≤ 600000) (hsl : sl ≤ 7302250) {J : RS → RS → Prop} (hStep : Steps J) {h1 h2 : RS} (hJ : J h1 h2) {k : Nat} (hk : k + 6 ≤ L) (hn : ∀ h1 h2, J h1 h2 → Y p l e s m b below meth c ca sl (PH2 s D1 D2 a1 a2 q1 q2 h1 h2) 724 [(3, .int (nI k)), (2, .ref (a2 0)), (1, .ref (a1 0)), (0, .ref b)] []) : Y p l e s m b below meth c ca sl (PH2 s D1 D2 a1 a2 q1 q2 h1 h2) 609 [(3, .int (nI k)), (2, .ref (a2 0)), (1, .ref (a1 0)), (0, .ref b)] [] := by
  refine y_aload_n (pc := 609) C0 2 dL_609 rfl rfl ?_
  refine y_aload_n (pc := 610) C0 3 dL_610 rfl rfl ?_
  refine y_iload_n (pc := 611) C0 0 dL_611 rfl rfl ?_
  refine y_iconst (v := (1 : Int32)) (pc := 612) C0 dL_612 (by decide) ?_
  refine y_iadd (pc := 613) C0 dL_613 ?_
  refine y_sld (pc := 614) C0 hL k 1 (by omega) (ix1 k) dL_614 ?_
  have hw := (hStep h1 h2 hJ).2.2.2.2.2.2.2.2.2.2.2.2.2.2.2.1 (xs (k + 1))
  refine y_callV (pc := 615) C0 F0 hca hsl [.int _] (c_V_value F0.2.2.1 hw) (by decide) (by decide) lk332 cd_V_value lk11 lk333 lk334 rfl nm_V_value rfl rfl (Nat.le_of_ble_eq_true rfl) dL_615 (fun r1 h1x hw => ?_)
  refine y_aload_n (pc := 618) C0 1 dL_618 rfl rfl ?_
  refine y_aload_n (pc := 619) C0 3 dL_619 rfl rfl ?_
  refine y_iload_n (pc := 620) C0 0 dL_620 rfl rfl ?_
  refine y_iconst (v := (1 : Int32)) (pc := 621) C0 dL_621 (by decide) ?_
  refine y_iadd (pc := 622) C0 dL_622 ?_
  refine y_sld (pc := 623) C0 hL k 1 (by omega) (ix1 k) dL_623 ?_
  refine y_callM (pc := 624) C0 F0 hca hsl [.int _] (c_M_value F0.2.2.2.1 hw) (by decide) (by decide) lk335 cd_M_value lk163 lk336 lk337 rfl nm_M_value rfl rfl (Nat.le_of_ble_eq_true rfl) dL_624 (fun r2 h2x hw => ?_)
  refine y_same (tgt := 724) (pc := 627) C0 dL_627 (by decide) hw.1 ?_
  exact hn _ _ hw.2
set_option maxHeartbeats 4000000 in
set_option maxRecDepth 100000 in
theorem law_case16 (C0 : lw_At p s m meth c b L xs) (hL : L ≤ 3072) (F0 : LF s D1 D2 a1 a2 q1 q2) (hca : ca ≤ 600000) (hsl : sl ≤ 7302250) {J : RS → RS → Prop} (hStep : Steps J) {h1 h2 : RS} (hJ : J h1 h2) {k : Nat} (hk : k + 6 ≤ L) (hn : ∀ h1 h2, J h1 h2 → Y p l e s m b below meth c ca sl (PH2 s D1 D2 a1 a2 q1 q2 h1 h2) 724 [(3, .int (nI k)), (2, .ref (a2 0)), (1, .ref (a1 0)), (0, .ref b)] []) : Y p l e s m b below meth c ca sl (PH2 s D1 D2 a1 a2 q1 q2 h1 h2) 632 [(3, .int (nI k)), (2, .ref (a2 0)), (1, .ref (a1 0)), (0, .ref b)] [] := by
  refine y_aload_n (pc := 632) C0 2 dL_632 rfl rfl ?_
  refine y_aload_n (pc := 633) C0 3 dL_633 rfl rfl ?_
  refine y_iload_n (pc := 634) C0 0 dL_634 rfl rfl ?_
  refine y_iconst (v := (1 : Int32)) (pc := 635) C0 dL_635 (by decide) ?_
  refine y_iadd (pc := 636) C0 dL_636 ?_
  refine y_sld (pc := 637) C0 hL k 1 (by omega) (ix1 k) dL_637 ?_
  have hw := (hStep h1 h2 hJ).2.2.2.2.2.2.2.2.2.2.2.2.2.2.2.2.1 (xs (k + 1))
  refine y_callV (pc := 638) C0 F0 hca hsl [.int _] (c_V_state F0.2.2.1 hw) (by decide) (by decide) lk338 cd_V_state lk11 lk339 lk340 rfl nm_V_state rfl rfl (Nat.le_of_ble_eq_true rfl) dL_638 (fun r1 h1x hw => ?_)
  refine y_aload_n (pc := 641) C0 1 dL_641 rfl rfl ?_
  refine y_aload_n (pc := 642) C0 3 dL_642 rfl rfl ?_
  refine y_iload_n (pc := 643) C0 0 dL_643 rfl rfl ?_
  refine y_iconst (v := (1 : Int32)) (pc := 644) C0 dL_644 (by decide) ?_
  refine y_iadd (pc := 645) C0 dL_645 ?_
  refine y_sld (pc := 646) C0 hL k 1 (by omega) (ix1 k) dL_646 ?_
  refine y_callM (pc := 647) C0 F0 hca hsl [.int _] (c_M_state F0.2.2.2.1 hw) (by decide) (by decide) lk341 cd_M_state lk163 lk342 lk343 rfl nm_M_state rfl rfl (Nat.le_of_ble_eq_true rfl) dL_647 (fun r2 h2x hw => ?_)
  refine y_same (tgt := 724) (pc := 650) C0 dL_650 (by decide) hw.1 ?_
  exact hn _ _ hw.2
set_option maxHeartbeats 4000000 in
set_option maxRecDepth 100000 in
theorem law_case17 (C0 : lw_At p s m meth c b L xs) (hL : L ≤ 3072) (F0 : LF s D1 D2 a1 a2 q1 q2) (hca : ca ≤ 600000) (hsl : sl ≤ 7302250) {J : RS → RS → Prop} (hStep : Steps J) {h1 h2 : RS} (hJ : J h1 h2) {k : Nat} (hk : k + 6 ≤ L) (hn : ∀ h1 h2, J h1 h2 → Y p l e s m b below meth c ca sl (PH2 s D1 D2 a1 a2 q1 q2 h1 h2) 724 [(3, .int (nI k)), (2, .ref (a2 0)), (1, .ref (a1 0)), (0, .ref b)] []) : Y p l e s m b below meth c ca sl (PH2 s D1 D2 a1 a2 q1 q2 h1 h2) 655 [(3, .int (nI k)), (2, .ref (a2 0)), (1, .ref (a1 0)), (0, .ref b)] [] := by
  refine y_aload_n (pc := 655) C0 2 dL_655 rfl rfl ?_
  refine y_aload_n (pc := 656) C0 3 dL_656 rfl rfl ?_
  refine y_iload_n (pc := 657) C0 0 dL_657 rfl rfl ?_
  refine y_iconst (v := (1 : Int32)) (pc := 658) C0 dL_658 (by decide) ?_
  refine y_iadd (pc := 659) C0 dL_659 ?_
  refine y_sld (pc := 660) C0 hL k 1 (by omega) (ix1 k) dL_660 ?_
  have hw := (hStep h1 h2 hJ).2.2.2.2.2.2.2.2.2.2.2.2.2.2.2.2.2.1 (xs (k + 1))
  refine y_callV (pc := 661) C0 F0 hca hsl [.int _] (c_V_consumer F0.2.2.1 hw) (by decide) (by decide) lk344 cd_V_consumer lk11 lk345 lk346 rfl nm_V_consumer rfl rfl (Nat.le_of_ble_eq_true rfl) dL_661 (fun r1 h1x hw => ?_)
  refine y_aload_n (pc := 664) C0 1 dL_664 rfl rfl ?_
  refine y_aload_n (pc := 665) C0 3 dL_665 rfl rfl ?_
  refine y_iload_n (pc := 666) C0 0 dL_666 rfl rfl ?_
  refine y_iconst (v := (1 : Int32)) (pc := 667) C0 dL_667 (by decide) ?_
  refine y_iadd (pc := 668) C0 dL_668 ?_
  refine y_sld (pc := 669) C0 hL k 1 (by omega) (ix1 k) dL_669 ?_
  refine y_callM (pc := 670) C0 F0 hca hsl [.int _] (c_M_consumer F0.2.2.2.1 hw) (by decide) (by decide) lk347 cd_M_consumer lk163 lk348 lk349 rfl nm_M_consumer rfl rfl (Nat.le_of_ble_eq_true rfl) dL_670 (fun r2 h2x hw => ?_)
  refine y_same (tgt := 724) (pc := 673) C0 dL_673 (by decide) hw.1 ?_
  exact hn _ _ hw.2
set_option maxHeartbeats 4000000 in
set_option maxRecDepth 100000 in
theorem law_case18 (C0 : lw_At p s m meth c b L xs) (hL : L ≤ 3072) (F0 : LF s D1 D2 a1 a2 q1 q2) (hca : ca ≤ 600000) (hsl : sl ≤ 7302250) {J : RS → RS → Prop} (hStep : Steps J) {h1 h2 : RS} (hJ : J h1 h2) {k : Nat} (hk : k + 6 ≤ L) (hn : ∀ h1 h2, J h1 h2 → Y p l e s m b below meth c ca sl (PH2 s D1 D2 a1 a2 q1 q2 h1 h2) 724 [(3, .int (nI k)), (2, .ref (a2 0)), (1, .ref (a1 0)), (0, .ref b)] []) : Y p l e s m b below meth c ca sl (PH2 s D1 D2 a1 a2 q1 q2 h1 h2) 678 [(3, .int (nI k)), (2, .ref (a2 0)), (1, .ref (a1 0)), (0, .ref b)] [] := by
  refine y_aload_n (pc := 678) C0 2 dL_678 rfl rfl ?_
  refine y_aload_n (pc := 679) C0 3 dL_679 rfl rfl ?_
  refine y_iload_n (pc := 680) C0 0 dL_680 rfl rfl ?_
  refine y_iconst (v := (1 : Int32)) (pc := 681) C0 dL_681 (by decide) ?_
  refine y_iadd (pc := 682) C0 dL_682 ?_
  refine y_sld (pc := 683) C0 hL k 1 (by omega) (ix1 k) dL_683 ?_
  have hw := (hStep h1 h2 hJ).2.2.2.2.2.2.2.2.2.2.2.2.2.2.2.2.2.2.1 (xs (k + 1))
  refine y_callV (pc := 684) C0 F0 hca hsl [.int _] (c_V_answer F0.2.2.1 hw) (by decide) (by decide) lk350 cd_V_answer lk11 lk351 lk352 rfl nm_V_answer rfl rfl (Nat.le_of_ble_eq_true rfl) dL_684 (fun r1 h1x hw => ?_)
  refine y_aload_n (pc := 687) C0 1 dL_687 rfl rfl ?_
  refine y_aload_n (pc := 688) C0 3 dL_688 rfl rfl ?_
  refine y_iload_n (pc := 689) C0 0 dL_689 rfl rfl ?_
  refine y_iconst (v := (1 : Int32)) (pc := 690) C0 dL_690 (by decide) ?_
  refine y_iadd (pc := 691) C0 dL_691 ?_
  refine y_sld (pc := 692) C0 hL k 1 (by omega) (ix1 k) dL_692 ?_
  refine y_callM (pc := 693) C0 F0 hca hsl [.int _] (c_M_answer F0.2.2.2.1 hw) (by decide) (by decide) lk353 cd_M_answer lk163 lk354 lk355 rfl nm_M_answer rfl rfl (Nat.le_of_ble_eq_true rfl) dL_693 (fun r2 h2x hw => ?_)
  refine y_same (tgt := 724) (pc := 696) C0 dL_696 (by decide) hw.1 ?_
  exact hn _ _ hw.2
set_option maxHeartbeats 4000000 in
set_option maxRecDepth 100000 in
theorem law_case19 (C0 : lw_At p s m meth c b L xs) (hL : L ≤ 3072) (F0 : LF s D1 D2 a1 a2 q1 q2) (hca : ca ≤ 600000) (hsl : sl ≤ 7302250) {J : RS → RS → Prop} (hStep : Steps J) {h1 h2 : RS} (hJ : J h1 h2) {k : Nat} (hk : k + 6 ≤ L) (hn : ∀ h1 h2, J h1 h2 → Y p l e s m b below meth c ca sl (PH2 s D1 D2 a1 a2 q1 q2 h1 h2) 724 [(3, .int (nI k)), (2, .ref (a2 0)), (1, .ref (a1 0)), (0, .ref b)] []) : Y p l e s m b below meth c ca sl (PH2 s D1 D2 a1 a2 q1 q2 h1 h2) 701 [(3, .int (nI k)), (2, .ref (a2 0)), (1, .ref (a1 0)), (0, .ref b)] [] := by
  refine y_aload_n (pc := 701) C0 2 dL_701 rfl rfl ?_
  refine y_aload_n (pc := 702) C0 3 dL_702 rfl rfl ?_
  refine y_iload_n (pc := 703) C0 0 dL_703 rfl rfl ?_
  refine y_iconst (v := (1 : Int32)) (pc := 704) C0 dL_704 (by decide) ?_
  refine y_iadd (pc := 705) C0 dL_705 ?_
  refine y_sld (pc := 706) C0 hL k 1 (by omega) (ix1 k) dL_706 ?_
  have hw := (hStep h1 h2 hJ).2.2.2.2.2.2.2.2.2.2.2.2.2.2.2.2.2.2.2 (xs (k + 1))
  refine y_callV (pc := 707) C0 F0 hca hsl [.int _] (c_V_fired F0.2.2.1 hw) (by decide) (by decide) lk356 cd_V_fired lk11 lk357 lk358 rfl nm_V_fired rfl rfl (Nat.le_of_ble_eq_true rfl) dL_707 (fun r1 h1x hw => ?_)
  refine y_aload_n (pc := 710) C0 1 dL_710 rfl rfl ?_
  refine y_aload_n (pc := 711) C0 3 dL_711 rfl rfl ?_
  refine y_iload_n (pc := 712) C0 0 dL_712 rfl rfl ?_
  refine y_iconst (v := (1 : Int32)) (pc := 713) C0 dL_713 (by decide) ?_
  refine y_iadd (pc := 714) C0 dL_714 ?_
  refine y_sld (pc := 715) C0 hL k 1 (by omega) (ix1 k) dL_715 ?_
  refine y_callM (pc := 716) C0 F0 hca hsl [.int _] (c_M_fired F0.2.2.2.1 hw) (by decide) (by decide) lk359 cd_M_fired lk163 lk360 lk361 rfl nm_M_fired rfl rfl (Nat.le_of_ble_eq_true rfl) dL_716 (fun r2 h2x hw => ?_)
  refine y_same (tgt := 724) (pc := 719) C0 dL_719 (by decide) hw.1 ?_
  exact hn _ _ hw.2
theorem sw_law {x : Int32} (e0 : ¬ x = 0) (e1 : ¬ x = 1) (e2 : ¬ x = 2) (e3 : ¬ x = 3) (e4 : ¬ x = 4) (e5 : ¬ x = 5) (e6 : ¬ x = 6) (e7 : ¬ x = 7) (e8 : ¬ x = 8) (e9 : ¬ x = 9) (e10 : ¬ x = 10) (e11 : ¬ x = 11) (e12 : ¬ x = 12) (e13 : ¬ x = 13) (e14 : ¬ x = 14) (e15 : ¬ x = 15) (e16 : ¬ x = 16) (e17 : ¬ x = 17) (e18 : ¬ x = 18) (e19 : ¬ x = 19) : x.toInt < 0 ∨ 19 < x.toInt := by
  have t0 : x.toInt ≠ 0 := fun e => e0 (Int32.toInt_inj.mp (e.trans (by decide)))
  have t1 : x.toInt ≠ 1 := fun e => e1 (Int32.toInt_inj.mp (e.trans (by decide)))
  have t2 : x.toInt ≠ 2 := fun e => e2 (Int32.toInt_inj.mp (e.trans (by decide)))
  have t3 : x.toInt ≠ 3 := fun e => e3 (Int32.toInt_inj.mp (e.trans (by decide)))
  have t4 : x.toInt ≠ 4 := fun e => e4 (Int32.toInt_inj.mp (e.trans (by decide)))
  have t5 : x.toInt ≠ 5 := fun e => e5 (Int32.toInt_inj.mp (e.trans (by decide)))
  have t6 : x.toInt ≠ 6 := fun e => e6 (Int32.toInt_inj.mp (e.trans (by decide)))
  have t7 : x.toInt ≠ 7 := fun e => e7 (Int32.toInt_inj.mp (e.trans (by decide)))
  have t8 : x.toInt ≠ 8 := fun e => e8 (Int32.toInt_inj.mp (e.trans (by decide)))
  have t9 : x.toInt ≠ 9 := fun e => e9 (Int32.toInt_inj.mp (e.trans (by decide)))
  have t10 : x.toInt ≠ 10 := fun e => e10 (Int32.toInt_inj.mp (e.trans (by decide)))
  have t11 : x.toInt ≠ 11 := fun e => e11 (Int32.toInt_inj.mp (e.trans (by decide)))
  have t12 : x.toInt ≠ 12 := fun e => e12 (Int32.toInt_inj.mp (e.trans (by decide)))
  have t13 : x.toInt ≠ 13 := fun e => e13 (Int32.toInt_inj.mp (e.trans (by decide)))
  have t14 : x.toInt ≠ 14 := fun e => e14 (Int32.toInt_inj.mp (e.trans (by decide)))
  have t15 : x.toInt ≠ 15 := fun e => e15 (Int32.toInt_inj.mp (e.trans (by decide)))
  have t16 : x.toInt ≠ 16 := fun e => e16 (Int32.toInt_inj.mp (e.trans (by decide)))
  have t17 : x.toInt ≠ 17 := fun e => e17 (Int32.toInt_inj.mp (e.trans (by decide)))
  have t18 : x.toInt ≠ 18 := fun e => e18 (Int32.toInt_inj.mp (e.trans (by decide)))
  have t19 : x.toInt ≠ 19 := fun e => e19 (Int32.toInt_inj.mp (e.trans (by decide)))
  omega
set_option maxHeartbeats 4000000 in
set_option maxRecDepth 100000 in
theorem law_loop (C0 : lw_At p s m meth c b L xs) (hL : L ≤ 3072) (F0 : LF s D1 D2 a1 a2 q1 q2) (hca : ca ≤ 600000) (hsl : sl ≤ 7302250) {J : RS → RS → Prop} (hStep : Steps J) : ∀ (n k : Nat) (h1 h2 : RS), L - k < n → k ≤ L → J h1 h2 → Y p l e s m b below meth c ca sl (PH2 s D1 D2 a1 a2 q1 q2 h1 h2) 18 [(3, .int (nI k)), (2, .ref (a2 0)), (1, .ref (a1 0)), (0, .ref b)] [] := by
  intro n
  induction n with
  | zero => intro k h1 h2 h; omega
  | succ n ih =>
    intro k h1 h2 hkn hkL hJ
    refine y_iload_n (pc := 18) C0 0 dL_18 rfl rfl ?_
    refine y_aload_n (pc := 19) C0 3 dL_19 rfl rfl ?_
    refine y_slen (pc := 20) C0 dL_20 ?_
    refine y_bipush (v := (6 : Int32)) (pc := 21) C0 dL_21 (by decide) ?_
    refine y_isub (pc := 23) C0 dL_23 ?_
    refine y_icmp_gt (tgt := 730) (pc := 24) C0 dL_24 (by decide) (fun hc => ?_) (fun hc => ?_)
    · refine y_iconst (v := (1 : Int32)) (pc := 730) C0 dL_730 (by decide) ?_
      exact y_end (pc := 731) C0 hca hsl dL_731
    have hk := ix_end hL hkL hc
    refine y_aload_n (pc := 27) C0 3 dL_27 rfl rfl ?_
    refine y_iload_n (pc := 28) C0 0 dL_28 rfl rfl ?_
    refine y_sld (pc := 29) C0 hL k 0 (by omega) rfl dL_29 ?_
    refine y_bipush (v := (31 : Int32)) (pc := 30) C0 dL_30 (by decide) ?_
    refine y_iand (pc := 32) C0 dL_32 ?_
    have hn : ∀ h1 h2, J h1 h2 → Y p l e s m b below meth c ca sl (PH2 s D1 D2 a1 a2 q1 q2 h1 h2) 724 [(3, .int (nI k)), (2, .ref (a2 0)), (1, .ref (a1 0)), (0, .ref b)] [] := fun h1 h2 hJ => by
      refine y_iinc (v := nI (k + 6)) (pc := 724) C0 0 dL_724 rfl (ix6 k) (by decide) rfl ?_
      refine y_goto (tgt := 18) (pc := 727) C0 dL_727 (by decide) ?_
      exact ih (k + 6) h1 h2 (by omega) (by omega) hJ
    refine y_sw (k := 0) (fun ek => ?_) (fun ek0 => ?_)
    · refine y_tableIn (tgt := 128) (pc := 33) C0 dL_33 (by rw [ek]; decide) (by rw [ek]; decide) (by rw [ek]; rfl) (by decide) ?_
      exact law_case0 C0 hL F0 hca hsl hStep hJ hk hn
    refine y_sw (k := 1) (fun ek => ?_) (fun ek1 => ?_)
    · refine y_tableIn (tgt := 167) (pc := 33) C0 dL_33 (by rw [ek]; decide) (by rw [ek]; decide) (by rw [ek]; rfl) (by decide) ?_
      exact law_case1 C0 hL F0 hca hsl hStep hJ hk hn
    refine y_sw (k := 2) (fun ek => ?_) (fun ek2 => ?_)
    · refine y_tableIn (tgt := 180) (pc := 33) C0 dL_33 (by rw [ek]; decide) (by rw [ek]; decide) (by rw [ek]; rfl) (by decide) ?_
      exact law_case2 C0 hL F0 hca hsl hStep hJ hk hn
    refine y_sw (k := 3) (fun ek => ?_) (fun ek3 => ?_)
    · refine y_tableIn (tgt := 233) (pc := 33) C0 dL_33 (by rw [ek]; decide) (by rw [ek]; decide) (by rw [ek]; rfl) (by decide) ?_
      exact law_case3 C0 hL F0 hca hsl hStep hJ hk hn
    refine y_sw (k := 4) (fun ek => ?_) (fun ek4 => ?_)
    · refine y_tableIn (tgt := 276) (pc := 33) C0 dL_33 (by rw [ek]; decide) (by rw [ek]; decide) (by rw [ek]; rfl) (by decide) ?_
      exact law_case4 C0 hL F0 hca hsl hStep hJ hk hn
    refine y_sw (k := 5) (fun ek => ?_) (fun ek5 => ?_)
    · refine y_tableIn (tgt := 339) (pc := 33) C0 dL_33 (by rw [ek]; decide) (by rw [ek]; decide) (by rw [ek]; rfl) (by decide) ?_
      exact law_case5 C0 hL F0 hca hsl hStep hJ hk hn
    refine y_sw (k := 6) (fun ek => ?_) (fun ek6 => ?_)
    · refine y_tableIn (tgt := 402) (pc := 33) C0 dL_33 (by rw [ek]; decide) (by rw [ek]; decide) (by rw [ek]; rfl) (by decide) ?_
      exact law_case6 C0 hL F0 hca hsl hStep hJ hk hn
    refine y_sw (k := 7) (fun ek => ?_) (fun ek7 => ?_)
    · refine y_tableIn (tgt := 415) (pc := 33) C0 dL_33 (by rw [ek]; decide) (by rw [ek]; decide) (by rw [ek]; rfl) (by decide) ?_
      exact law_case7 C0 hL F0 hca hsl hStep hJ hk hn
    refine y_sw (k := 8) (fun ek => ?_) (fun ek8 => ?_)
    · refine y_tableIn (tgt := 448) (pc := 33) C0 dL_33 (by rw [ek]; decide) (by rw [ek]; decide) (by rw [ek]; rfl) (by decide) ?_
      exact law_case8 C0 hL F0 hca hsl hStep hJ hk hn
    refine y_sw (k := 9) (fun ek => ?_) (fun ek9 => ?_)
    · refine y_tableIn (tgt := 481) (pc := 33) C0 dL_33 (by rw [ek]; decide) (by rw [ek]; decide) (by rw [ek]; rfl) (by decide) ?_
      exact law_case9 C0 hL F0 hca hsl hStep hJ hk hn
    refine y_sw (k := 10) (fun ek => ?_) (fun ek10 => ?_)
    · refine y_tableIn (tgt := 504) (pc := 33) C0 dL_33 (by rw [ek]; decide) (by rw [ek]; decide) (by rw [ek]; rfl) (by decide) ?_
      exact law_case10 C0 hL F0 hca hsl hStep hJ hk hn
    refine y_sw (k := 11) (fun ek => ?_) (fun ek11 => ?_)
    · refine y_tableIn (tgt := 527) (pc := 33) C0 dL_33 (by rw [ek]; decide) (by rw [ek]; decide) (by rw [ek]; rfl) (by decide) ?_
      exact law_case11 C0 hL F0 hca hsl hStep hJ hk hn
    refine y_sw (k := 12) (fun ek => ?_) (fun ek12 => ?_)
    · refine y_tableIn (tgt := 540) (pc := 33) C0 dL_33 (by rw [ek]; decide) (by rw [ek]; decide) (by rw [ek]; rfl) (by decide) ?_
      exact law_case12 C0 hL F0 hca hsl hStep hJ hk hn
    refine y_sw (k := 13) (fun ek => ?_) (fun ek13 => ?_)
    · refine y_tableIn (tgt := 553) (pc := 33) C0 dL_33 (by rw [ek]; decide) (by rw [ek]; decide) (by rw [ek]; rfl) (by decide) ?_
      exact law_case13 C0 hL F0 hca hsl hStep hJ hk hn
    refine y_sw (k := 14) (fun ek => ?_) (fun ek14 => ?_)
    · refine y_tableIn (tgt := 576) (pc := 33) C0 dL_33 (by rw [ek]; decide) (by rw [ek]; decide) (by rw [ek]; rfl) (by decide) ?_
      exact law_case14 C0 hL F0 hca hsl hStep hJ hk hn
    refine y_sw (k := 15) (fun ek => ?_) (fun ek15 => ?_)
    · refine y_tableIn (tgt := 609) (pc := 33) C0 dL_33 (by rw [ek]; decide) (by rw [ek]; decide) (by rw [ek]; rfl) (by decide) ?_
      exact law_case15 C0 hL F0 hca hsl hStep hJ hk hn
    refine y_sw (k := 16) (fun ek => ?_) (fun ek16 => ?_)
    · refine y_tableIn (tgt := 632) (pc := 33) C0 dL_33 (by rw [ek]; decide) (by rw [ek]; decide) (by rw [ek]; rfl) (by decide) ?_
      exact law_case16 C0 hL F0 hca hsl hStep hJ hk hn
    refine y_sw (k := 17) (fun ek => ?_) (fun ek17 => ?_)
    · refine y_tableIn (tgt := 655) (pc := 33) C0 dL_33 (by rw [ek]; decide) (by rw [ek]; decide) (by rw [ek]; rfl) (by decide) ?_
      exact law_case17 C0 hL F0 hca hsl hStep hJ hk hn
    refine y_sw (k := 18) (fun ek => ?_) (fun ek18 => ?_)
    · refine y_tableIn (tgt := 678) (pc := 33) C0 dL_33 (by rw [ek]; decide) (by rw [ek]; decide) (by rw [ek]; rfl) (by decide) ?_
      exact law_case18 C0 hL F0 hca hsl hStep hJ hk hn
    refine y_sw (k := 19) (fun ek => ?_) (fun ek19 => ?_)
    · refine y_tableIn (tgt := 701) (pc := 33) C0 dL_33 (by rw [ek]; decide) (by rw [ek]; decide) (by rw [ek]; rfl) (by decide) ?_
      exact law_case19 C0 hL F0 hca hsl hStep hJ hk hn
    refine y_tableOut (tgt := 724) (pc := 33) C0 dL_33 (sw_law ek0 ek1 ek2 ek3 ek4 ek5 ek6 ek7 ek8 ek9 ek10 ek11 ek12 ek13 ek14 ek15 ek16 ek17 ek18 ek19) (by decide) ?_
    exact hn h1 h2 hJ
end
