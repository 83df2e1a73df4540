/-! ===== THE LAW, case by case ===== -/
def zb (x : Int32) : Nat := if x = 0 then 0 else 1
theorem zb_le (x : Int32) : zb x ≤ 1 := by unfold zb; split <;> decide
theorem lcmp_self (x : Int64) : lg_cmp x x = 0 := by
  unfold lg_cmp
  rw [if_neg (show ¬ x > x from Int64.lt_irrefl), if_pos rfl]
theorem CP.o {σ : AHp} {U : Us} (h : CP σ U) : ∃ fs, σ 1 = some (oB 10 fs) := by
  obtain ⟨t, d, -, hO, -⟩ := h
  exact ⟨_, hO⟩
theorem MP.o {σ : AHp} {U : Us} (h : MP σ U) : ∃ fs, σ 272 = some (oB 11 fs) := by
  obtain ⟨at_, fx, ft, fd, fp, fi, fy, fw, fs, fb, fh, hM, -⟩ := h
  exact ⟨_, hM⟩
theorem CP.top {σ : AHp} {U : Us} (h : CP σ U) : ∃ c, σ 271 = some c := by
  obtain ⟨t, d, htd, hO, hL, hR, hV, hK, hW, hA, hP, hS, hF, hT, hD⟩ := h
  rcases htd with ⟨rfl, rfl⟩ | ⟨rfl, rfl⟩
  · exact ⟨_, hD.2.2.2.2.2⟩
  · exact ⟨_, hT.2.2.2.2.2⟩
set_option maxRecDepth 20000 in
theorem lw_c0 {σ : AHp} {U : Us} {m i L : Nat} {xs : Nat → Int32} (hL : L ≤ 3584) (hi : i + 7 ≤ L) (hS : σ 0 = some (iA 0 L xs)) (hC : CP σ U) (hM : MP σ U) (hU : UOk U m) (hm : m < 2 ^ 20) {Q : Option Value → AHp → Prop} (hx : ∀ (σ2 : AHp) (U2 : Us), σ2 0 = some (iA 0 L xs) → CP σ2 U2 → MP σ2 U2 → UOk U2 (m + 1) → Run M_L_law 960 [some (.ref 0), some (.ref 1), some (.ref 272), some (.int (nI i))] [] σ2 0 0 Q) : Run M_L_law 156 [some (.ref 0), some (.ref 1), some (.ref 272), some (.int (nI i))] [] σ 0 0 Q := by
  refine R_aload_n a_L_law_156 rfl ?_
  refine R_aload_n a_L_law_157 rfl ?_
  refine R_iload_n a_L_law_158 rfl ?_
  refine R_iconst (v := nI 1) a_L_law_159 rfl ?_
  refine R_iadd_n a_L_law_160 ?_
  refine R_iald_n a_L_law_161 hS (by omega) (by omega) ?_
  obtain ⟨fsC, hC1⟩ := hC.o
  refine R_callVs a_L_law_162 hC1 (cl_write (x := (xs (i + 1))) hC hU hm ) rfl rfl rfl rfl rfl (fun σ2 hP => ?_)
  obtain ⟨hC, hf⟩ := hP
  have hS := (hf 0 (by omega)).trans hS
  have hM := hM.kept (fun j h1 h2 => hf j (by omega))
  refine R_aload_n a_L_law_165 rfl ?_
  refine R_aload_n a_L_law_166 rfl ?_
  refine R_iload_n a_L_law_167 rfl ?_
  refine R_iconst (v := nI 1) a_L_law_168 rfl ?_
  refine R_iadd_n a_L_law_169 ?_
  refine R_iald_n a_L_law_170 hS (by omega) (by omega) ?_
  obtain ⟨fsM, hM1⟩ := hM.o
  refine R_callVs a_L_law_171 hM1 (md_write (x := (xs (i + 1))) hM hU hm ) rfl rfl rfl rfl rfl (fun σ3 hP => ?_)
  obtain ⟨hM, hf⟩ := hP
  have hS := (hf 0 (by omega)).trans hS
  have hC := hC.kept (fun j h1 h2 => hf j (by omega))
  refine R_icmp_eq a_L_law_174 (fun _ => ?_) (fun h => absurd rfl h)
  exact hx _ ((zWrite U (xs (i + 1))).2) hS hC hM (hU.write (xs (i + 1)))
set_option maxRecDepth 20000 in
theorem lw_c1 {σ : AHp} {U : Us} {m i L : Nat} {xs : Nat → Int32} (hL : L ≤ 3584) (hi : i + 7 ≤ L) (hS : σ 0 = some (iA 0 L xs)) (hC : CP σ U) (hM : MP σ U) (hU : UOk U m) (hm : m < 2 ^ 20) {Q : Option Value → AHp → Prop} (hx : ∀ (σ2 : AHp) (U2 : Us), σ2 0 = some (iA 0 L xs) → CP σ2 U2 → MP σ2 U2 → UOk U2 (m + 1) → Run M_L_law 960 [some (.ref 0), some (.ref 1), some (.ref 272), some (.int (nI i))] [] σ2 0 0 Q) : Run M_L_law 179 [some (.ref 0), some (.ref 1), some (.ref 272), some (.int (nI i))] [] σ 0 0 Q := by
  refine R_aload_n a_L_law_179 rfl ?_
  obtain ⟨fsC, hC1⟩ := hC.o
  refine R_callVs a_L_law_180 hC1 (cl_wipe  hC hU hm ) rfl rfl rfl rfl rfl (fun σ2 hP => ?_)
  obtain ⟨hC, hf⟩ := hP
  have hS := (hf 0 (by omega)).trans hS
  have hM := hM.kept (fun j h1 h2 => hf j (by omega))
  refine R_aload_n a_L_law_183 rfl ?_
  obtain ⟨fsM, hM1⟩ := hM.o
  refine R_callVs a_L_law_184 hM1 (md_wipe  hM hU hm ) rfl rfl rfl rfl rfl (fun σ3 hP => ?_)
  obtain ⟨hM, hf⟩ := hP
  have hS := (hf 0 (by omega)).trans hS
  have hC := hC.kept (fun j h1 h2 => hf j (by omega))
  refine R_icmp_eq a_L_law_187 (fun _ => ?_) (fun h => absurd rfl h)
  exact hx _ ((zWipe U).2) hS hC hM hU.wipe
set_option maxRecDepth 20000 in
theorem lw_c2 {σ : AHp} {U : Us} {m i L : Nat} {xs : Nat → Int32} (hL : L ≤ 3584) (hi : i + 7 ≤ L) (hS : σ 0 = some (iA 0 L xs)) (hC : CP σ U) (hM : MP σ U) (hU : UOk U m) (hm : m < 2 ^ 20) {Q : Option Value → AHp → Prop} (hx : ∀ (σ2 : AHp) (U2 : Us), σ2 0 = some (iA 0 L xs) → CP σ2 U2 → MP σ2 U2 → UOk U2 (m + 1) → Run M_L_law 960 [some (.ref 0), some (.ref 1), some (.ref 272), some (.int (nI i))] [] σ2 0 0 Q) : Run M_L_law 192 [some (.ref 0), some (.ref 1), some (.ref 272), some (.int (nI i))] [] σ 0 0 Q := by
  refine R_aload_n a_L_law_192 rfl ?_
  obtain ⟨fsC, hC1⟩ := hC.o
  refine R_callVs a_L_law_193 hC1 (cl_fault  hC hU hm ) rfl rfl rfl rfl rfl (fun σ2 hP => ?_)
  obtain ⟨hC, hf⟩ := hP
  have hS := (hf 0 (by omega)).trans hS
  have hM := hM.kept (fun j h1 h2 => hf j (by omega))
  refine R_aload_n a_L_law_196 rfl ?_
  obtain ⟨fsM, hM1⟩ := hM.o
  refine R_callVs a_L_law_197 hM1 (md_fault  hM hU hm ) rfl rfl rfl rfl rfl (fun σ3 hP => ?_)
  obtain ⟨hM, hf⟩ := hP
  have hS := (hf 0 (by omega)).trans hS
  have hC := hC.kept (fun j h1 h2 => hf j (by omega))
  refine R_icmp_eq a_L_law_200 (fun _ => ?_) (fun h => absurd rfl h)
  exact hx _ ((zFault U).2) hS hC hM hU.fault
set_option maxRecDepth 20000 in
theorem lw_c3 {σ : AHp} {U : Us} {m i L : Nat} {xs : Nat → Int32} (hL : L ≤ 3584) (hi : i + 7 ≤ L) (hS : σ 0 = some (iA 0 L xs)) (hC : CP σ U) (hM : MP σ U) (hU : UOk U m) (hm : m < 2 ^ 20) {Q : Option Value → AHp → Prop} (hx : ∀ (σ2 : AHp) (U2 : Us), σ2 0 = some (iA 0 L xs) → CP σ2 U2 → MP σ2 U2 → UOk U2 (m + 1) → Run M_L_law 960 [some (.ref 0), some (.ref 1), some (.ref 272), some (.int (nI i))] [] σ2 0 0 Q) : Run M_L_law 205 [some (.ref 0), some (.ref 1), some (.ref 272), some (.int (nI i))] [] σ 0 0 Q := by
  refine R_aload_n a_L_law_205 rfl ?_
  obtain ⟨fsC, hC1⟩ := hC.o
  refine R_callVs a_L_law_206 hC1 (cl_lay  hC hU hm ) rfl rfl rfl rfl rfl (fun σ2 hP => ?_)
  obtain ⟨hC, hf⟩ := hP
  have hS := (hf 0 (by omega)).trans hS
  have hM := hM.kept (fun j h1 h2 => hf j (by omega))
  refine R_aload_n a_L_law_209 rfl ?_
  obtain ⟨fsM, hM1⟩ := hM.o
  refine R_callVs a_L_law_210 hM1 (md_lay  hM hU hm ) rfl rfl rfl rfl rfl (fun σ3 hP => ?_)
  obtain ⟨hM, hf⟩ := hP
  have hS := (hf 0 (by omega)).trans hS
  have hC := hC.kept (fun j h1 h2 => hf j (by omega))
  refine R_icmp_eq a_L_law_213 (fun _ => ?_) (fun h => absurd rfl h)
  exact hx _ ((zLay U).2) hS hC hM hU.lay
set_option maxRecDepth 20000 in
theorem lw_c4 {σ : AHp} {U : Us} {m i L : Nat} {xs : Nat → Int32} (hL : L ≤ 3584) (hi : i + 7 ≤ L) (hS : σ 0 = some (iA 0 L xs)) (hC : CP σ U) (hM : MP σ U) (hU : UOk U m) (hm : m < 2 ^ 20) {Q : Option Value → AHp → Prop} (hx : ∀ (σ2 : AHp) (U2 : Us), σ2 0 = some (iA 0 L xs) → CP σ2 U2 → MP σ2 U2 → UOk U2 (m + 1) → Run M_L_law 960 [some (.ref 0), some (.ref 1), some (.ref 272), some (.int (nI i))] [] σ2 0 0 Q) : Run M_L_law 218 [some (.ref 0), some (.ref 1), some (.ref 272), some (.int (nI i))] [] σ 0 0 Q := by
  refine R_aload_n a_L_law_218 rfl ?_
  refine R_aload_n a_L_law_219 rfl ?_
  refine R_iload_n a_L_law_220 rfl ?_
  refine R_iconst (v := nI 1) a_L_law_221 rfl ?_
  refine R_iadd_n a_L_law_222 ?_
  refine R_iald_n a_L_law_223 hS (by omega) (by omega) ?_
  refine R_aload_n a_L_law_224 rfl ?_
  refine R_iload_n a_L_law_225 rfl ?_
  refine R_iconst (v := nI 2) a_L_law_226 rfl ?_
  refine R_iadd_n a_L_law_227 ?_
  refine R_iald_n a_L_law_228 hS (by omega) (by omega) ?_
  obtain ⟨fsC, hC1⟩ := hC.o
  refine R_callVs a_L_law_229 hC1 ((cl_guest (x := (xs (i + 1))) (w := (xs (i + 2))) hC hU hm ).cp hC) rfl rfl rfl rfl rfl (fun σ2 hP => ?_)
  obtain ⟨hC, hf⟩ := hP
  have hS := (hf 0 (by omega)).trans hS
  have hM := hM.kept (fun j h1 h2 => hf j (by omega))
  refine R_aload_n a_L_law_232 rfl ?_
  refine R_aload_n a_L_law_233 rfl ?_
  refine R_iload_n a_L_law_234 rfl ?_
  refine R_iconst (v := nI 1) a_L_law_235 rfl ?_
  refine R_iadd_n a_L_law_236 ?_
  refine R_iald_n a_L_law_237 hS (by omega) (by omega) ?_
  refine R_aload_n a_L_law_238 rfl ?_
  refine R_iload_n a_L_law_239 rfl ?_
  refine R_iconst (v := nI 2) a_L_law_240 rfl ?_
  refine R_iadd_n a_L_law_241 ?_
  refine R_iald_n a_L_law_242 hS (by omega) (by omega) ?_
  obtain ⟨fsM, hM1⟩ := hM.o
  refine R_callVs a_L_law_243 hM1 (md_guest (x := (xs (i + 1))) (w := (xs (i + 2))) hM hU hm ) rfl rfl rfl rfl rfl (fun σ3 hP => ?_)
  obtain ⟨hM, hf⟩ := hP
  have hS := (hf 0 (by omega)).trans hS
  have hC := hC.kept (fun j h1 h2 => hf j (by omega))
  refine R_icmp_eq a_L_law_246 (fun _ => ?_) (fun h => absurd rfl h)
  exact hx _ U hS hC hM (hU.mono (Nat.le_succ m))
set_option maxRecDepth 20000 in
theorem lw_c5 {σ : AHp} {U : Us} {m i L : Nat} {xs : Nat → Int32} (hL : L ≤ 3584) (hi : i + 7 ≤ L) (hS : σ 0 = some (iA 0 L xs)) (hC : CP σ U) (hM : MP σ U) (hU : UOk U m) (hm : m < 2 ^ 20) {Q : Option Value → AHp → Prop} (hx : ∀ (σ2 : AHp) (U2 : Us), σ2 0 = some (iA 0 L xs) → CP σ2 U2 → MP σ2 U2 → UOk U2 (m + 1) → Run M_L_law 960 [some (.ref 0), some (.ref 1), some (.ref 272), some (.int (nI i))] [] σ2 0 0 Q) : Run M_L_law 251 [some (.ref 0), some (.ref 1), some (.ref 272), some (.int (nI i))] [] σ 0 0 Q := by
  refine R_aload_n a_L_law_251 rfl ?_
  refine R_aload_n a_L_law_252 rfl ?_
  refine R_iload_n a_L_law_253 rfl ?_
  refine R_iconst (v := nI 1) a_L_law_254 rfl ?_
  refine R_iadd_n a_L_law_255 ?_
  refine R_iald_n a_L_law_256 hS (by omega) (by omega) ?_
  refine R_aload_n a_L_law_257 rfl ?_
  refine R_iload_n a_L_law_258 rfl ?_
  refine R_iconst (v := nI 2) a_L_law_259 rfl ?_
  refine R_iadd_n a_L_law_260 ?_
  refine R_iald_n a_L_law_261 hS (by omega) (by omega) ?_
  obtain ⟨fsC, hC1⟩ := hC.o
  refine R_callVs a_L_law_262 hC1 ((cl_thing (x := (xs (i + 1))) (w := (xs (i + 2))) hC hU hm ).cp hC) rfl rfl rfl rfl rfl (fun σ2 hP => ?_)
  obtain ⟨hC, hf⟩ := hP
  have hS := (hf 0 (by omega)).trans hS
  have hM := hM.kept (fun j h1 h2 => hf j (by omega))
  refine R_aload_n a_L_law_265 rfl ?_
  refine R_aload_n a_L_law_266 rfl ?_
  refine R_iload_n a_L_law_267 rfl ?_
  refine R_iconst (v := nI 1) a_L_law_268 rfl ?_
  refine R_iadd_n a_L_law_269 ?_
  refine R_iald_n a_L_law_270 hS (by omega) (by omega) ?_
  refine R_aload_n a_L_law_271 rfl ?_
  refine R_iload_n a_L_law_272 rfl ?_
  refine R_iconst (v := nI 2) a_L_law_273 rfl ?_
  refine R_iadd_n a_L_law_274 ?_
  refine R_iald_n a_L_law_275 hS (by omega) (by omega) ?_
  obtain ⟨fsM, hM1⟩ := hM.o
  refine R_callVs a_L_law_276 hM1 (md_thing (x := (xs (i + 1))) (w := (xs (i + 2))) hM hU hm ) rfl rfl rfl rfl rfl (fun σ3 hP => ?_)
  obtain ⟨hM, hf⟩ := hP
  have hS := (hf 0 (by omega)).trans hS
  have hC := hC.kept (fun j h1 h2 => hf j (by omega))
  refine R_icmp_eq a_L_law_279 (fun _ => ?_) (fun h => absurd rfl h)
  exact hx _ U hS hC hM (hU.mono (Nat.le_succ m))
set_option maxRecDepth 20000 in
theorem lw_c6 {σ : AHp} {U : Us} {m i L : Nat} {xs : Nat → Int32} (hL : L ≤ 3584) (hi : i + 7 ≤ L) (hS : σ 0 = some (iA 0 L xs)) (hC : CP σ U) (hM : MP σ U) (hU : UOk U m) (hm : m < 2 ^ 20) {Q : Option Value → AHp → Prop} (hx : ∀ (σ2 : AHp) (U2 : Us), σ2 0 = some (iA 0 L xs) → CP σ2 U2 → MP σ2 U2 → UOk U2 (m + 1) → Run M_L_law 960 [some (.ref 0), some (.ref 1), some (.ref 272), some (.int (nI i))] [] σ2 0 0 Q) : Run M_L_law 284 [some (.ref 0), some (.ref 1), some (.ref 272), some (.int (nI i))] [] σ 0 0 Q := by
  refine R_aload_n a_L_law_284 rfl ?_
  refine R_aload_n a_L_law_285 rfl ?_
  refine R_iload_n a_L_law_286 rfl ?_
  refine R_iconst (v := nI 1) a_L_law_287 rfl ?_
  refine R_iadd_n a_L_law_288 ?_
  refine R_iald_n a_L_law_289 hS (by omega) (by omega) ?_
  refine R_aload_n a_L_law_290 rfl ?_
  refine R_iload_n a_L_law_291 rfl ?_
  refine R_iconst (v := nI 2) a_L_law_292 rfl ?_
  refine R_iadd_n a_L_law_293 ?_
  refine R_iald_n a_L_law_294 hS (by omega) (by omega) ?_
  obtain ⟨fsC, hC1⟩ := hC.o
  refine R_callVs a_L_law_295 hC1 ((cl_weight (x := (xs (i + 1))) (y := (xs (i + 2))) hC hU hm ).cp hC) rfl rfl rfl rfl rfl (fun σ2 hP => ?_)
  obtain ⟨hC, hf⟩ := hP
  have hS := (hf 0 (by omega)).trans hS
  have hM := hM.kept (fun j h1 h2 => hf j (by omega))
  refine R_aload_n a_L_law_298 rfl ?_
  refine R_aload_n a_L_law_299 rfl ?_
  refine R_iload_n a_L_law_300 rfl ?_
  refine R_iconst (v := nI 1) a_L_law_301 rfl ?_
  refine R_iadd_n a_L_law_302 ?_
  refine R_iald_n a_L_law_303 hS (by omega) (by omega) ?_
  refine R_aload_n a_L_law_304 rfl ?_
  refine R_iload_n a_L_law_305 rfl ?_
  refine R_iconst (v := nI 2) a_L_law_306 rfl ?_
  refine R_iadd_n a_L_law_307 ?_
  refine R_iald_n a_L_law_308 hS (by omega) (by omega) ?_
  obtain ⟨fsM, hM1⟩ := hM.o
  refine R_callVs a_L_law_309 hM1 (md_weight (x := (xs (i + 1))) (y := (xs (i + 2))) hM hU hm ) rfl rfl rfl rfl rfl (fun σ3 hP => ?_)
  obtain ⟨hM, hf⟩ := hP
  have hS := (hf 0 (by omega)).trans hS
  have hC := hC.kept (fun j h1 h2 => hf j (by omega))
  refine R_icmp_eq a_L_law_312 (fun _ => ?_) (fun h => absurd rfl h)
  exact hx _ U hS hC hM (hU.mono (Nat.le_succ m))
set_option maxRecDepth 20000 in
theorem lw_c7 {σ : AHp} {U : Us} {m i L : Nat} {xs : Nat → Int32} (hL : L ≤ 3584) (hi : i + 7 ≤ L) (hS : σ 0 = some (iA 0 L xs)) (hC : CP σ U) (hM : MP σ U) (hU : UOk U m) (hm : m < 2 ^ 20) {Q : Option Value → AHp → Prop} (hx : ∀ (σ2 : AHp) (U2 : Us), σ2 0 = some (iA 0 L xs) → CP σ2 U2 → MP σ2 U2 → UOk U2 (m + 1) → Run M_L_law 960 [some (.ref 0), some (.ref 1), some (.ref 272), some (.int (nI i))] [] σ2 0 0 Q) : Run M_L_law 317 [some (.ref 0), some (.ref 1), some (.ref 272), some (.int (nI i))] [] σ 0 0 Q := by
  refine R_aload_n a_L_law_317 rfl ?_
  refine R_aload_n a_L_law_318 rfl ?_
  refine R_iload_n a_L_law_319 rfl ?_
  refine R_iconst (v := nI 1) a_L_law_320 rfl ?_
  refine R_iadd_n a_L_law_321 ?_
  refine R_iald_n a_L_law_322 hS (by omega) (by omega) ?_
  refine R_aload_n a_L_law_323 rfl ?_
  refine R_iload_n a_L_law_324 rfl ?_
  refine R_iconst (v := nI 2) a_L_law_325 rfl ?_
  refine R_iadd_n a_L_law_326 ?_
  refine R_iald_n a_L_law_327 hS (by omega) (by omega) ?_
  refine R_dian 341 (fun v => v = zb (xs (i + 3))) (fun hJ => ?_) (fun v hv => ?_)
  · skip
    refine R_aload_n a_L_law_328 rfl ?_
    refine R_iload_n a_L_law_329 rfl ?_
    refine R_iconst (v := nI 3) a_L_law_330 rfl ?_
    refine R_iadd_n a_L_law_331 ?_
    refine R_iald_n a_L_law_332 hS (by omega) (by omega) ?_
    refine R_if_eq a_L_law_333 (fun h => ?_) (fun h => ?_)
    · refine R_iconst (v := nI 0) a_L_law_340 rfl ?_
      exact hJ _ (by unfold zb; rw [if_pos h])
    · refine R_iconst (v := nI 1) a_L_law_336 rfl ?_
      refine R_goto a_L_law_337 ?_
      exact hJ _ (by unfold zb; rw [if_neg h])
  · skip
    subst hv
    obtain ⟨fsC, hC1⟩ := hC.o
    refine R_callVs a_L_law_341 hC1 (cl_say (x := (xs (i + 1))) (y := (xs (i + 2))) hC hU hm (zb_le (xs (i + 3)))) rfl rfl rfl rfl rfl (fun σ2 hP => ?_)
    obtain ⟨hC, hf⟩ := hP
    have hS := (hf 0 (by omega)).trans hS
    have hM := hM.kept (fun j h1 h2 => hf j (by omega))
    refine R_aload_n a_L_law_344 rfl ?_
    refine R_aload_n a_L_law_345 rfl ?_
    refine R_iload_n a_L_law_346 rfl ?_
    refine R_iconst (v := nI 1) a_L_law_347 rfl ?_
    refine R_iadd_n a_L_law_348 ?_
    refine R_iald_n a_L_law_349 hS (by omega) (by omega) ?_
    refine R_aload_n a_L_law_350 rfl ?_
    refine R_iload_n a_L_law_351 rfl ?_
    refine R_iconst (v := nI 2) a_L_law_352 rfl ?_
    refine R_iadd_n a_L_law_353 ?_
    refine R_iald_n a_L_law_354 hS (by omega) (by omega) ?_
    refine R_dian 368 (fun v => v = zb (xs (i + 3))) (fun hJ => ?_) (fun v hv => ?_)
    · skip
      refine R_aload_n a_L_law_355 rfl ?_
      refine R_iload_n a_L_law_356 rfl ?_
      refine R_iconst (v := nI 3) a_L_law_357 rfl ?_
      refine R_iadd_n a_L_law_358 ?_
      refine R_iald_n a_L_law_359 hS (by omega) (by omega) ?_
      refine R_if_eq a_L_law_360 (fun h => ?_) (fun h => ?_)
      · refine R_iconst (v := nI 0) a_L_law_367 rfl ?_
        exact hJ _ (by unfold zb; rw [if_pos h])
      · refine R_iconst (v := nI 1) a_L_law_363 rfl ?_
        refine R_goto a_L_law_364 ?_
        exact hJ _ (by unfold zb; rw [if_neg h])
    · skip
      subst hv
      obtain ⟨fsM, hM1⟩ := hM.o
      refine R_callVs a_L_law_368 hM1 (md_say (x := (xs (i + 1))) (y := (xs (i + 2))) hM hU hm (zb_le (xs (i + 3)))) rfl rfl rfl rfl rfl (fun σ3 hP => ?_)
      obtain ⟨hM, hf⟩ := hP
      have hS := (hf 0 (by omega)).trans hS
      have hC := hC.kept (fun j h1 h2 => hf j (by omega))
      refine R_icmp_eq a_L_law_371 (fun _ => ?_) (fun h => absurd rfl h)
      exact hx _ ((zSay U (xs (i + 1)) (xs (i + 2)) (zb (xs (i + 3)))).2) hS hC hM (hU.say (xs (i + 1)) (xs (i + 2)) (zb_le (xs (i + 3))))
set_option maxRecDepth 20000 in
theorem lw_c8 {σ : AHp} {U : Us} {m i L : Nat} {xs : Nat → Int32} (hL : L ≤ 3584) (hi : i + 7 ≤ L) (hS : σ 0 = some (iA 0 L xs)) (hC : CP σ U) (hM : MP σ U) (hU : UOk U m) (hm : m < 2 ^ 20) {Q : Option Value → AHp → Prop} (hx : ∀ (σ2 : AHp) (U2 : Us), σ2 0 = some (iA 0 L xs) → CP σ2 U2 → MP σ2 U2 → UOk U2 (m + 1) → Run M_L_law 960 [some (.ref 0), some (.ref 1), some (.ref 272), some (.int (nI i))] [] σ2 0 0 Q) : Run M_L_law 376 [some (.ref 0), some (.ref 1), some (.ref 272), some (.int (nI i))] [] σ 0 0 Q := by
  refine R_aload_n a_L_law_376 rfl ?_
  refine R_aload_n a_L_law_377 rfl ?_
  refine R_iload_n a_L_law_378 rfl ?_
  refine R_iconst (v := nI 1) a_L_law_379 rfl ?_
  refine R_iadd_n a_L_law_380 ?_
  refine R_iald_n a_L_law_381 hS (by omega) (by omega) ?_
  refine R_aload_n a_L_law_382 rfl ?_
  refine R_iload_n a_L_law_383 rfl ?_
  refine R_iconst (v := nI 2) a_L_law_384 rfl ?_
  refine R_iadd_n a_L_law_385 ?_
  refine R_iald_n a_L_law_386 hS (by omega) (by omega) ?_
  refine R_dian 400 (fun v => v = zb (xs (i + 3))) (fun hJ => ?_) (fun v hv => ?_)
  · skip
    refine R_aload_n a_L_law_387 rfl ?_
    refine R_iload_n a_L_law_388 rfl ?_
    refine R_iconst (v := nI 3) a_L_law_389 rfl ?_
    refine R_iadd_n a_L_law_390 ?_
    refine R_iald_n a_L_law_391 hS (by omega) (by omega) ?_
    refine R_if_eq a_L_law_392 (fun h => ?_) (fun h => ?_)
    · refine R_iconst (v := nI 0) a_L_law_399 rfl ?_
      exact hJ _ (by unfold zb; rw [if_pos h])
    · refine R_iconst (v := nI 1) a_L_law_395 rfl ?_
      refine R_goto a_L_law_396 ?_
      exact hJ _ (by unfold zb; rw [if_neg h])
  · skip
    subst hv
    refine R_aload_n a_L_law_400 rfl ?_
    refine R_iload_n a_L_law_401 rfl ?_
    refine R_iconst (v := nI 4) a_L_law_402 rfl ?_
    refine R_iadd_n a_L_law_403 ?_
    refine R_iald_n a_L_law_404 hS (by omega) (by omega) ?_
    refine R_aload_n a_L_law_405 rfl ?_
    refine R_iload_n a_L_law_406 rfl ?_
    refine R_iconst (v := nI 5) a_L_law_407 rfl ?_
    refine R_iadd_n a_L_law_408 ?_
    refine R_iald_n a_L_law_409 hS (by omega) (by omega) ?_
    refine R_dian 424 (fun v => v = zb (xs (i + 6))) (fun hJ => ?_) (fun v hv => ?_)
    · skip
      refine R_aload_n a_L_law_410 rfl ?_
      refine R_iload_n a_L_law_411 rfl ?_
      refine R_bipush (v := nI 6) a_L_law_412 rfl ?_
      refine R_iadd_n a_L_law_414 ?_
      refine R_iald_n a_L_law_415 hS (by omega) (by omega) ?_
      refine R_if_eq a_L_law_416 (fun h => ?_) (fun h => ?_)
      · refine R_iconst (v := nI 0) a_L_law_423 rfl ?_
        exact hJ _ (by unfold zb; rw [if_pos h])
      · refine R_iconst (v := nI 1) a_L_law_419 rfl ?_
        refine R_goto a_L_law_420 ?_
        exact hJ _ (by unfold zb; rw [if_neg h])
    · skip
      subst hv
      obtain ⟨fsC, hC1⟩ := hC.o
      refine R_callVs a_L_law_424 hC1 (cl_sayBoth (x := (xs (i + 1))) (y := (xs (i + 2))) (x' := (xs (i + 4))) (y' := (xs (i + 5))) hC hU hm (zb_le (xs (i + 3))) (zb_le (xs (i + 6)))) rfl rfl rfl rfl rfl (fun σ2 hP => ?_)
      obtain ⟨hC, hf⟩ := hP
      have hS := (hf 0 (by omega)).trans hS
      have hM := hM.kept (fun j h1 h2 => hf j (by omega))
      refine R_aload_n a_L_law_427 rfl ?_
      refine R_aload_n a_L_law_428 rfl ?_
      refine R_iload_n a_L_law_429 rfl ?_
      refine R_iconst (v := nI 1) a_L_law_430 rfl ?_
      refine R_iadd_n a_L_law_431 ?_
      refine R_iald_n a_L_law_432 hS (by omega) (by omega) ?_
      refine R_aload_n a_L_law_433 rfl ?_
      refine R_iload_n a_L_law_434 rfl ?_
      refine R_iconst (v := nI 2) a_L_law_435 rfl ?_
      refine R_iadd_n a_L_law_436 ?_
      refine R_iald_n a_L_law_437 hS (by omega) (by omega) ?_
      refine R_dian 451 (fun v => v = zb (xs (i + 3))) (fun hJ => ?_) (fun v hv => ?_)
      · skip
        refine R_aload_n a_L_law_438 rfl ?_
        refine R_iload_n a_L_law_439 rfl ?_
        refine R_iconst (v := nI 3) a_L_law_440 rfl ?_
        refine R_iadd_n a_L_law_441 ?_
        refine R_iald_n a_L_law_442 hS (by omega) (by omega) ?_
        refine R_if_eq a_L_law_443 (fun h => ?_) (fun h => ?_)
        · refine R_iconst (v := nI 0) a_L_law_450 rfl ?_
          exact hJ _ (by unfold zb; rw [if_pos h])
        · refine R_iconst (v := nI 1) a_L_law_446 rfl ?_
          refine R_goto a_L_law_447 ?_
          exact hJ _ (by unfold zb; rw [if_neg h])
      · skip
        subst hv
        refine R_aload_n a_L_law_451 rfl ?_
        refine R_iload_n a_L_law_452 rfl ?_
        refine R_iconst (v := nI 4) a_L_law_453 rfl ?_
        refine R_iadd_n a_L_law_454 ?_
        refine R_iald_n a_L_law_455 hS (by omega) (by omega) ?_
        refine R_aload_n a_L_law_456 rfl ?_
        refine R_iload_n a_L_law_457 rfl ?_
        refine R_iconst (v := nI 5) a_L_law_458 rfl ?_
        refine R_iadd_n a_L_law_459 ?_
        refine R_iald_n a_L_law_460 hS (by omega) (by omega) ?_
        refine R_dian 475 (fun v => v = zb (xs (i + 6))) (fun hJ => ?_) (fun v hv => ?_)
        · skip
          refine R_aload_n a_L_law_461 rfl ?_
          refine R_iload_n a_L_law_462 rfl ?_
          refine R_bipush (v := nI 6) a_L_law_463 rfl ?_
          refine R_iadd_n a_L_law_465 ?_
          refine R_iald_n a_L_law_466 hS (by omega) (by omega) ?_
          refine R_if_eq a_L_law_467 (fun h => ?_) (fun h => ?_)
          · refine R_iconst (v := nI 0) a_L_law_474 rfl ?_
            exact hJ _ (by unfold zb; rw [if_pos h])
          · refine R_iconst (v := nI 1) a_L_law_470 rfl ?_
            refine R_goto a_L_law_471 ?_
            exact hJ _ (by unfold zb; rw [if_neg h])
        · skip
          subst hv
          obtain ⟨fsM, hM1⟩ := hM.o
          refine R_callVs a_L_law_475 hM1 (md_sayBoth (x := (xs (i + 1))) (y := (xs (i + 2))) (x' := (xs (i + 4))) (y' := (xs (i + 5))) hM hU hm (zb_le (xs (i + 3))) (zb_le (xs (i + 6)))) rfl rfl rfl rfl rfl (fun σ3 hP => ?_)
          obtain ⟨hM, hf⟩ := hP
          have hS := (hf 0 (by omega)).trans hS
          have hC := hC.kept (fun j h1 h2 => hf j (by omega))
          refine R_icmp_eq a_L_law_478 (fun _ => ?_) (fun h => absurd rfl h)
          exact hx _ ((zBoth U (xs (i + 1)) (xs (i + 2)) (zb (xs (i + 3))) (xs (i + 4)) (xs (i + 5)) (zb (xs (i + 6)))).2) hS hC hM (hU.both (xs (i + 1)) (xs (i + 2)) (xs (i + 4)) (xs (i + 5)) (zb_le (xs (i + 3))) (zb_le (xs (i + 6))))
set_option maxRecDepth 20000 in
theorem lw_c9 {σ : AHp} {U : Us} {m i L : Nat} {xs : Nat → Int32} (hL : L ≤ 3584) (hi : i + 7 ≤ L) (hS : σ 0 = some (iA 0 L xs)) (hC : CP σ U) (hM : MP σ U) (hU : UOk U m) (hm : m < 2 ^ 20) {Q : Option Value → AHp → Prop} (hx : ∀ (σ2 : AHp) (U2 : Us), σ2 0 = some (iA 0 L xs) → CP σ2 U2 → MP σ2 U2 → UOk U2 (m + 1) → Run M_L_law 960 [some (.ref 0), some (.ref 1), some (.ref 272), some (.int (nI i))] [] σ2 0 0 Q) : Run M_L_law 483 [some (.ref 0), some (.ref 1), some (.ref 272), some (.int (nI i))] [] σ 0 0 Q := by
  refine R_aload_n a_L_law_483 rfl ?_
  obtain ⟨fsC, hC1⟩ := hC.o
  refine R_callVs a_L_law_484 hC1 (cl_hush  hC hU hm ) rfl rfl rfl rfl rfl (fun σ2 hP => ?_)
  obtain ⟨hC, hf⟩ := hP
  have hS := (hf 0 (by omega)).trans hS
  have hM := hM.kept (fun j h1 h2 => hf j (by omega))
  refine R_aload_n a_L_law_487 rfl ?_
  obtain ⟨fsM, hM1⟩ := hM.o
  refine R_callVs a_L_law_488 hM1 (md_hush  hM hU hm ) rfl rfl rfl rfl rfl (fun σ3 hP => ?_)
  obtain ⟨hM, hf⟩ := hP
  have hS := (hf 0 (by omega)).trans hS
  have hC := hC.kept (fun j h1 h2 => hf j (by omega))
  refine R_icmp_eq a_L_law_491 (fun _ => ?_) (fun h => absurd rfl h)
  exact hx _ ((zGo U 128 128).2) hS hC hM (hU.go (Or.inl rfl) (Or.inl rfl))
set_option maxRecDepth 20000 in
theorem lw_c10 {σ : AHp} {U : Us} {m i L : Nat} {xs : Nat → Int32} (hL : L ≤ 3584) (hi : i + 7 ≤ L) (hS : σ 0 = some (iA 0 L xs)) (hC : CP σ U) (hM : MP σ U) (hU : UOk U m) (hm : m < 2 ^ 20) {Q : Option Value → AHp → Prop} (hx : ∀ (σ2 : AHp) (U2 : Us), σ2 0 = some (iA 0 L xs) → CP σ2 U2 → MP σ2 U2 → UOk U2 (m + 1) → Run M_L_law 960 [some (.ref 0), some (.ref 1), some (.ref 272), some (.int (nI i))] [] σ2 0 0 Q) : Run M_L_law 496 [some (.ref 0), some (.ref 1), some (.ref 272), some (.int (nI i))] [] σ 0 0 Q := by
  refine R_aload_n a_L_law_496 rfl ?_
  obtain ⟨fsC, hC1⟩ := hC.o
  refine R_callVs a_L_law_497 hC1 (cl_undo  hC hU hm ) rfl rfl rfl rfl rfl (fun σ2 hP => ?_)
  obtain ⟨hC, hf⟩ := hP
  have hS := (hf 0 (by omega)).trans hS
  have hM := hM.kept (fun j h1 h2 => hf j (by omega))
  refine R_aload_n a_L_law_500 rfl ?_
  obtain ⟨fsM, hM1⟩ := hM.o
  refine R_callVs a_L_law_501 hM1 (md_undo  hM hU hm ) rfl rfl rfl rfl rfl (fun σ3 hP => ?_)
  obtain ⟨hM, hf⟩ := hP
  have hS := (hf 0 (by omega)).trans hS
  have hC := hC.kept (fun j h1 h2 => hf j (by omega))
  refine R_icmp_eq a_L_law_504 (fun _ => ?_) (fun h => absurd rfl h)
  exact hx _ ((zUndo U).2) hS hC hM hU.undo
set_option maxRecDepth 20000 in
theorem lw_c11 {σ : AHp} {U : Us} {m i L : Nat} {xs : Nat → Int32} (hL : L ≤ 3584) (hi : i + 7 ≤ L) (hS : σ 0 = some (iA 0 L xs)) (hC : CP σ U) (hM : MP σ U) (hU : UOk U m) (hm : m < 2 ^ 20) {Q : Option Value → AHp → Prop} (hx : ∀ (σ2 : AHp) (U2 : Us), σ2 0 = some (iA 0 L xs) → CP σ2 U2 → MP σ2 U2 → UOk U2 (m + 1) → Run M_L_law 960 [some (.ref 0), some (.ref 1), some (.ref 272), some (.int (nI i))] [] σ2 0 0 Q) : Run M_L_law 509 [some (.ref 0), some (.ref 1), some (.ref 272), some (.int (nI i))] [] σ 0 0 Q := by
  refine R_aload_n a_L_law_509 rfl ?_
  refine R_aload_n a_L_law_510 rfl ?_
  refine R_iload_n a_L_law_511 rfl ?_
  refine R_iconst (v := nI 1) a_L_law_512 rfl ?_
  refine R_iadd_n a_L_law_513 ?_
  refine R_iald_n a_L_law_514 hS (by omega) (by omega) ?_
  refine R_aload_n a_L_law_515 rfl ?_
  refine R_iload_n a_L_law_516 rfl ?_
  refine R_iconst (v := nI 2) a_L_law_517 rfl ?_
  refine R_iadd_n a_L_law_518 ?_
  refine R_iald_n a_L_law_519 hS (by omega) (by omega) ?_
  obtain ⟨fsC, hC1⟩ := hC.o
  refine R_callVs a_L_law_520 hC1 ((cl_went (x := (xs (i + 1))) (w := (xs (i + 2))) hC hU hm ).cp hC) rfl rfl rfl rfl rfl (fun σ2 hP => ?_)
  obtain ⟨hC, hf⟩ := hP
  have hS := (hf 0 (by omega)).trans hS
  have hM := hM.kept (fun j h1 h2 => hf j (by omega))
  refine R_aload_n a_L_law_523 rfl ?_
  refine R_aload_n a_L_law_524 rfl ?_
  refine R_iload_n a_L_law_525 rfl ?_
  refine R_iconst (v := nI 1) a_L_law_526 rfl ?_
  refine R_iadd_n a_L_law_527 ?_
  refine R_iald_n a_L_law_528 hS (by omega) (by omega) ?_
  refine R_aload_n a_L_law_529 rfl ?_
  refine R_iload_n a_L_law_530 rfl ?_
  refine R_iconst (v := nI 2) a_L_law_531 rfl ?_
  refine R_iadd_n a_L_law_532 ?_
  refine R_iald_n a_L_law_533 hS (by omega) (by omega) ?_
  obtain ⟨fsM, hM1⟩ := hM.o
  refine R_callVs a_L_law_534 hM1 (md_went (x := (xs (i + 1))) (w := (xs (i + 2))) hM hU hm ) rfl rfl rfl rfl rfl (fun σ3 hP => ?_)
  obtain ⟨hM, hf⟩ := hP
  have hS := (hf 0 (by omega)).trans hS
  have hC := hC.kept (fun j h1 h2 => hf j (by omega))
  refine R_icmp_eq a_L_law_537 (fun _ => ?_) (fun h => absurd rfl h)
  exact hx _ U hS hC hM (hU.mono (Nat.le_succ m))
set_option maxRecDepth 20000 in
theorem lw_c12 {σ : AHp} {U : Us} {m i L : Nat} {xs : Nat → Int32} (hL : L ≤ 3584) (hi : i + 7 ≤ L) (hS : σ 0 = some (iA 0 L xs)) (hC : CP σ U) (hM : MP σ U) (hU : UOk U m) (hm : m < 2 ^ 20) {Q : Option Value → AHp → Prop} (hx : ∀ (σ2 : AHp) (U2 : Us), σ2 0 = some (iA 0 L xs) → CP σ2 U2 → MP σ2 U2 → UOk U2 (m + 1) → Run M_L_law 960 [some (.ref 0), some (.ref 1), some (.ref 272), some (.int (nI i))] [] σ2 0 0 Q) : Run M_L_law 542 [some (.ref 0), some (.ref 1), some (.ref 272), some (.int (nI i))] [] σ 0 0 Q := by
  refine R_aload_n a_L_law_542 rfl ?_
  refine R_aload_n a_L_law_543 rfl ?_
  refine R_iload_n a_L_law_544 rfl ?_
  refine R_iconst (v := nI 1) a_L_law_545 rfl ?_
  refine R_iadd_n a_L_law_546 ?_
  refine R_iald_n a_L_law_547 hS (by omega) (by omega) ?_
  obtain ⟨fsC, hC1⟩ := hC.o
  refine R_callVs a_L_law_548 hC1 (cl_fits (w := (xs (i + 1))) hC hU hm ) rfl rfl rfl rfl rfl (fun σ2 hP => ?_)
  obtain ⟨hC, hf⟩ := hP
  have hS := (hf 0 (by omega)).trans hS
  have hM := hM.kept (fun j h1 h2 => hf j (by omega))
  refine R_aload_n a_L_law_551 rfl ?_
  refine R_aload_n a_L_law_552 rfl ?_
  refine R_iload_n a_L_law_553 rfl ?_
  refine R_iconst (v := nI 1) a_L_law_554 rfl ?_
  refine R_iadd_n a_L_law_555 ?_
  refine R_iald_n a_L_law_556 hS (by omega) (by omega) ?_
  obtain ⟨fsM, hM1⟩ := hM.o
  refine R_callVs a_L_law_557 hM1 (md_fits (w := (xs (i + 1))) hM hU hm ) rfl rfl rfl rfl rfl (fun σ3 hP => ?_)
  obtain ⟨hM, hf⟩ := hP
  have hS := (hf 0 (by omega)).trans hS
  have hC := hC.kept (fun j h1 h2 => hf j (by omega))
  refine R_icmp_eq a_L_law_560 (fun _ => ?_) (fun h => absurd rfl h)
  exact hx _ U hS hC hM (hU.mono (Nat.le_succ m))
set_option maxRecDepth 20000 in
theorem lw_c13 {σ : AHp} {U : Us} {m i L : Nat} {xs : Nat → Int32} (hL : L ≤ 3584) (hi : i + 7 ≤ L) (hS : σ 0 = some (iA 0 L xs)) (hC : CP σ U) (hM : MP σ U) (hU : UOk U m) (hm : m < 2 ^ 20) {Q : Option Value → AHp → Prop} (hx : ∀ (σ2 : AHp) (U2 : Us), σ2 0 = some (iA 0 L xs) → CP σ2 U2 → MP σ2 U2 → UOk U2 (m + 1) → Run M_L_law 960 [some (.ref 0), some (.ref 1), some (.ref 272), some (.int (nI i))] [] σ2 0 0 Q) : Run M_L_law 565 [some (.ref 0), some (.ref 1), some (.ref 272), some (.int (nI i))] [] σ 0 0 Q := by
  refine R_aload_n a_L_law_565 rfl ?_
  refine R_dian 579 (fun v => v = zb (xs (i + 1))) (fun hJ => ?_) (fun v hv => ?_)
  · skip
    refine R_aload_n a_L_law_566 rfl ?_
    refine R_iload_n a_L_law_567 rfl ?_
    refine R_iconst (v := nI 1) a_L_law_568 rfl ?_
    refine R_iadd_n a_L_law_569 ?_
    refine R_iald_n a_L_law_570 hS (by omega) (by omega) ?_
    refine R_if_eq a_L_law_571 (fun h => ?_) (fun h => ?_)
    · refine R_iconst (v := nI 0) a_L_law_578 rfl ?_
      exact hJ _ (by unfold zb; rw [if_pos h])
    · refine R_iconst (v := nI 1) a_L_law_574 rfl ?_
      refine R_goto a_L_law_575 ?_
      exact hJ _ (by unfold zb; rw [if_neg h])
  · skip
    subst hv
    obtain ⟨fsC, hC1⟩ := hC.o
    refine R_callVs a_L_law_579 hC1 (cl_sure  hC hU hm (zb_le (xs (i + 1)))) rfl rfl rfl rfl rfl (fun σ2 hP => ?_)
    obtain ⟨hC, hf⟩ := hP
    have hS := (hf 0 (by omega)).trans hS
    have hM := hM.kept (fun j h1 h2 => hf j (by omega))
    refine R_aload_n a_L_law_582 rfl ?_
    refine R_dian 596 (fun v => v = zb (xs (i + 1))) (fun hJ => ?_) (fun v hv => ?_)
    · skip
      refine R_aload_n a_L_law_583 rfl ?_
      refine R_iload_n a_L_law_584 rfl ?_
      refine R_iconst (v := nI 1) a_L_law_585 rfl ?_
      refine R_iadd_n a_L_law_586 ?_
      refine R_iald_n a_L_law_587 hS (by omega) (by omega) ?_
      refine R_if_eq a_L_law_588 (fun h => ?_) (fun h => ?_)
      · refine R_iconst (v := nI 0) a_L_law_595 rfl ?_
        exact hJ _ (by unfold zb; rw [if_pos h])
      · refine R_iconst (v := nI 1) a_L_law_591 rfl ?_
        refine R_goto a_L_law_592 ?_
        exact hJ _ (by unfold zb; rw [if_neg h])
    · skip
      subst hv
      obtain ⟨fsM, hM1⟩ := hM.o
      refine R_callVs a_L_law_596 hM1 (md_sure  hM hU hm (zb_le (xs (i + 1)))) rfl rfl rfl rfl rfl (fun σ3 hP => ?_)
      obtain ⟨hM, hf⟩ := hP
      have hS := (hf 0 (by omega)).trans hS
      have hC := hC.kept (fun j h1 h2 => hf j (by omega))
      refine R_icmp_eq a_L_law_599 (fun _ => ?_) (fun h => absurd rfl h)
      exact hx _ U hS hC hM (hU.mono (Nat.le_succ m))
set_option maxRecDepth 20000 in
theorem lw_c14 {σ : AHp} {U : Us} {m i L : Nat} {xs : Nat → Int32} (hL : L ≤ 3584) (hi : i + 7 ≤ L) (hS : σ 0 = some (iA 0 L xs)) (hC : CP σ U) (hM : MP σ U) (hU : UOk U m) (hm : m < 2 ^ 20) {Q : Option Value → AHp → Prop} (hx : ∀ (σ2 : AHp) (U2 : Us), σ2 0 = some (iA 0 L xs) → CP σ2 U2 → MP σ2 U2 → UOk U2 (m + 1) → Run M_L_law 960 [some (.ref 0), some (.ref 1), some (.ref 272), some (.int (nI i))] [] σ2 0 0 Q) : Run M_L_law 604 [some (.ref 0), some (.ref 1), some (.ref 272), some (.int (nI i))] [] σ 0 0 Q := by
  refine R_aload_n a_L_law_604 rfl ?_
  obtain ⟨fsC, hC1⟩ := hC.o
  refine R_callVs a_L_law_605 hC1 ((cl_laws  hC hU hm ).cp hC) rfl rfl rfl rfl rfl (fun σ2 hP => ?_)
  obtain ⟨hC, hf⟩ := hP
  have hS := (hf 0 (by omega)).trans hS
  have hM := hM.kept (fun j h1 h2 => hf j (by omega))
  refine R_aload_n a_L_law_608 rfl ?_
  obtain ⟨fsM, hM1⟩ := hM.o
  refine R_callVs a_L_law_609 hM1 (md_laws  hM hU hm ) rfl rfl rfl rfl rfl (fun σ3 hP => ?_)
  obtain ⟨hM, hf⟩ := hP
  have hS := (hf 0 (by omega)).trans hS
  have hC := hC.kept (fun j h1 h2 => hf j (by omega))
  refine R_icmp_eq a_L_law_612 (fun _ => ?_) (fun h => absurd rfl h)
  exact hx _ U hS hC hM (hU.mono (Nat.le_succ m))
set_option maxRecDepth 20000 in
theorem lw_c15 {σ : AHp} {U : Us} {m i L : Nat} {xs : Nat → Int32} (hL : L ≤ 3584) (hi : i + 7 ≤ L) (hS : σ 0 = some (iA 0 L xs)) (hC : CP σ U) (hM : MP σ U) (hU : UOk U m) (hm : m < 2 ^ 20) {Q : Option Value → AHp → Prop} (hx : ∀ (σ2 : AHp) (U2 : Us), σ2 0 = some (iA 0 L xs) → CP σ2 U2 → MP σ2 U2 → UOk U2 (m + 1) → Run M_L_law 960 [some (.ref 0), some (.ref 1), some (.ref 272), some (.int (nI i))] [] σ2 0 0 Q) : Run M_L_law 617 [some (.ref 0), some (.ref 1), some (.ref 272), some (.int (nI i))] [] σ 0 0 Q := by
  refine R_aload_n a_L_law_617 rfl ?_
  refine R_aload_n a_L_law_618 rfl ?_
  refine R_iload_n a_L_law_619 rfl ?_
  refine R_iconst (v := nI 1) a_L_law_620 rfl ?_
  refine R_iadd_n a_L_law_621 ?_
  refine R_iald_n a_L_law_622 hS (by omega) (by omega) ?_
  obtain ⟨fsC, hC1⟩ := hC.o
  refine R_callVs a_L_law_623 hC1 (cl_ask (w := (xs (i + 1))) hC hU hm ) rfl rfl rfl rfl rfl (fun σ2 hP => ?_)
  obtain ⟨hC, hf⟩ := hP
  have hS := (hf 0 (by omega)).trans hS
  have hM := hM.kept (fun j h1 h2 => hf j (by omega))
  refine R_aload_n a_L_law_626 rfl ?_
  refine R_aload_n a_L_law_627 rfl ?_
  refine R_iload_n a_L_law_628 rfl ?_
  refine R_iconst (v := nI 1) a_L_law_629 rfl ?_
  refine R_iadd_n a_L_law_630 ?_
  refine R_iald_n a_L_law_631 hS (by omega) (by omega) ?_
  obtain ⟨fsM, hM1⟩ := hM.o
  refine R_callVs a_L_law_632 hM1 (md_ask (w := (xs (i + 1))) hM hU hm ) rfl rfl rfl rfl rfl (fun σ3 hP => ?_)
  obtain ⟨hM, hf⟩ := hP
  have hS := (hf 0 (by omega)).trans hS
  have hC := hC.kept (fun j h1 h2 => hf j (by omega))
  refine R_icmp_eq a_L_law_635 (fun _ => ?_) (fun h => absurd rfl h)
  exact hx _ U hS hC hM (hU.mono (Nat.le_succ m))
set_option maxRecDepth 20000 in
theorem lw_c16 {σ : AHp} {U : Us} {m i L : Nat} {xs : Nat → Int32} (hL : L ≤ 3584) (hi : i + 7 ≤ L) (hS : σ 0 = some (iA 0 L xs)) (hC : CP σ U) (hM : MP σ U) (hU : UOk U m) (hm : m < 2 ^ 20) {Q : Option Value → AHp → Prop} (hx : ∀ (σ2 : AHp) (U2 : Us), σ2 0 = some (iA 0 L xs) → CP σ2 U2 → MP σ2 U2 → UOk U2 (m + 1) → Run M_L_law 960 [some (.ref 0), some (.ref 1), some (.ref 272), some (.int (nI i))] [] σ2 0 0 Q) : Run M_L_law 640 [some (.ref 0), some (.ref 1), some (.ref 272), some (.int (nI i))] [] σ 0 0 Q := by
  refine R_aload_n a_L_law_640 rfl ?_
  refine R_aload_n a_L_law_641 rfl ?_
  refine R_iload_n a_L_law_642 rfl ?_
  refine R_iconst (v := nI 1) a_L_law_643 rfl ?_
  refine R_iadd_n a_L_law_644 ?_
  refine R_iald_n a_L_law_645 hS (by omega) (by omega) ?_
  refine R_aload_n a_L_law_646 rfl ?_
  refine R_iload_n a_L_law_647 rfl ?_
  refine R_iconst (v := nI 2) a_L_law_648 rfl ?_
  refine R_iadd_n a_L_law_649 ?_
  refine R_iald_n a_L_law_650 hS (by omega) (by omega) ?_
  obtain ⟨fsC, hC1⟩ := hC.o
  refine R_callVs a_L_law_651 hC1 (cl_fewest (x := (xs (i + 1))) (y := (xs (i + 2))) hC hU hm ) rfl rfl rfl rfl rfl (fun σ2 hP => ?_)
  obtain ⟨hC, hf⟩ := hP
  have hS := (hf 0 (by omega)).trans hS
  have hM := hM.kept (fun j h1 h2 => hf j (by omega))
  refine R_aload_n a_L_law_654 rfl ?_
  refine R_aload_n a_L_law_655 rfl ?_
  refine R_iload_n a_L_law_656 rfl ?_
  refine R_iconst (v := nI 1) a_L_law_657 rfl ?_
  refine R_iadd_n a_L_law_658 ?_
  refine R_iald_n a_L_law_659 hS (by omega) (by omega) ?_
  refine R_aload_n a_L_law_660 rfl ?_
  refine R_iload_n a_L_law_661 rfl ?_
  refine R_iconst (v := nI 2) a_L_law_662 rfl ?_
  refine R_iadd_n a_L_law_663 ?_
  refine R_iald_n a_L_law_664 hS (by omega) (by omega) ?_
  obtain ⟨fsM, hM1⟩ := hM.o
  refine R_callVs a_L_law_665 hM1 (md_fewest (x := (xs (i + 1))) (y := (xs (i + 2))) hM hU hm ) rfl rfl rfl rfl rfl (fun σ3 hP => ?_)
  obtain ⟨hM, hf⟩ := hP
  have hS := (hf 0 (by omega)).trans hS
  have hC := hC.kept (fun j h1 h2 => hf j (by omega))
  refine R_icmp_eq a_L_law_668 (fun _ => ?_) (fun h => absurd rfl h)
  exact hx _ U hS hC hM (hU.mono (Nat.le_succ m))
set_option maxRecDepth 20000 in
theorem lw_c17 {σ : AHp} {U : Us} {m i L : Nat} {xs : Nat → Int32} (hL : L ≤ 3584) (hi : i + 7 ≤ L) (hS : σ 0 = some (iA 0 L xs)) (hC : CP σ U) (hM : MP σ U) (hU : UOk U m) (hm : m < 2 ^ 20) {Q : Option Value → AHp → Prop} (hx : ∀ (σ2 : AHp) (U2 : Us), σ2 0 = some (iA 0 L xs) → CP σ2 U2 → MP σ2 U2 → UOk U2 (m + 1) → Run M_L_law 960 [some (.ref 0), some (.ref 1), some (.ref 272), some (.int (nI i))] [] σ2 0 0 Q) : Run M_L_law 673 [some (.ref 0), some (.ref 1), some (.ref 272), some (.int (nI i))] [] σ 0 0 Q := by
  refine R_aload_n a_L_law_673 rfl ?_
  refine R_aload_n a_L_law_674 rfl ?_
  refine R_iload_n a_L_law_675 rfl ?_
  refine R_iconst (v := nI 1) a_L_law_676 rfl ?_
  refine R_iadd_n a_L_law_677 ?_
  refine R_iald_n a_L_law_678 hS (by omega) (by omega) ?_
  refine R_aload_n a_L_law_679 rfl ?_
  refine R_iload_n a_L_law_680 rfl ?_
  refine R_iconst (v := nI 2) a_L_law_681 rfl ?_
  refine R_iadd_n a_L_law_682 ?_
  refine R_iald_n a_L_law_683 hS (by omega) (by omega) ?_
  obtain ⟨fsC, hC1⟩ := hC.o
  refine R_callVs a_L_law_684 hC1 ((cl_story (x := (xs (i + 1))) (w := (xs (i + 2))) hC hU hm ).cp hC) rfl rfl rfl rfl rfl (fun σ2 hP => ?_)
  obtain ⟨hC, hf⟩ := hP
  have hS := (hf 0 (by omega)).trans hS
  have hM := hM.kept (fun j h1 h2 => hf j (by omega))
  refine R_aload_n a_L_law_687 rfl ?_
  refine R_aload_n a_L_law_688 rfl ?_
  refine R_iload_n a_L_law_689 rfl ?_
  refine R_iconst (v := nI 1) a_L_law_690 rfl ?_
  refine R_iadd_n a_L_law_691 ?_
  refine R_iald_n a_L_law_692 hS (by omega) (by omega) ?_
  refine R_aload_n a_L_law_693 rfl ?_
  refine R_iload_n a_L_law_694 rfl ?_
  refine R_iconst (v := nI 2) a_L_law_695 rfl ?_
  refine R_iadd_n a_L_law_696 ?_
  refine R_iald_n a_L_law_697 hS (by omega) (by omega) ?_
  obtain ⟨fsM, hM1⟩ := hM.o
  refine R_callVs a_L_law_698 hM1 (md_story (x := (xs (i + 1))) (w := (xs (i + 2))) hM hU hm ) rfl rfl rfl rfl rfl (fun σ3 hP => ?_)
  obtain ⟨hM, hf⟩ := hP
  have hS := (hf 0 (by omega)).trans hS
  have hC := hC.kept (fun j h1 h2 => hf j (by omega))
  refine R_icmp_eq a_L_law_701 (fun _ => ?_) (fun h => absurd rfl h)
  exact hx _ U hS hC hM (hU.mono (Nat.le_succ m))
set_option maxRecDepth 20000 in
theorem lw_c18 {σ : AHp} {U : Us} {m i L : Nat} {xs : Nat → Int32} (hL : L ≤ 3584) (hi : i + 7 ≤ L) (hS : σ 0 = some (iA 0 L xs)) (hC : CP σ U) (hM : MP σ U) (hU : UOk U m) (hm : m < 2 ^ 20) {Q : Option Value → AHp → Prop} (hx : ∀ (σ2 : AHp) (U2 : Us), σ2 0 = some (iA 0 L xs) → CP σ2 U2 → MP σ2 U2 → UOk U2 (m + 1) → Run M_L_law 960 [some (.ref 0), some (.ref 1), some (.ref 272), some (.int (nI i))] [] σ2 0 0 Q) : Run M_L_law 706 [some (.ref 0), some (.ref 1), some (.ref 272), some (.int (nI i))] [] σ 0 0 Q := by
  refine R_aload_n a_L_law_706 rfl ?_
  refine R_aload_n a_L_law_707 rfl ?_
  refine R_iload_n a_L_law_708 rfl ?_
  refine R_iconst (v := nI 1) a_L_law_709 rfl ?_
  refine R_iadd_n a_L_law_710 ?_
  refine R_iald_n a_L_law_711 hS (by omega) (by omega) ?_
  refine R_aload_n a_L_law_712 rfl ?_
  refine R_iload_n a_L_law_713 rfl ?_
  refine R_iconst (v := nI 2) a_L_law_714 rfl ?_
  refine R_iadd_n a_L_law_715 ?_
  refine R_iald_n a_L_law_716 hS (by omega) (by omega) ?_
  refine R_aload_n a_L_law_717 rfl ?_
  refine R_iload_n a_L_law_718 rfl ?_
  refine R_iconst (v := nI 3) a_L_law_719 rfl ?_
  refine R_iadd_n a_L_law_720 ?_
  refine R_iald_n a_L_law_721 hS (by omega) (by omega) ?_
  refine R_aload_n a_L_law_722 rfl ?_
  refine R_iload_n a_L_law_723 rfl ?_
  refine R_iconst (v := nI 4) a_L_law_724 rfl ?_
  refine R_iadd_n a_L_law_725 ?_
  refine R_iald_n a_L_law_726 hS (by omega) (by omega) ?_
  refine R_aload_n a_L_law_727 rfl ?_
  refine R_iload_n a_L_law_728 rfl ?_
  refine R_iconst (v := nI 5) a_L_law_729 rfl ?_
  refine R_iadd_n a_L_law_730 ?_
  refine R_iald_n a_L_law_731 hS (by omega) (by omega) ?_
  obtain ⟨fsC, hC1⟩ := hC.o
  refine R_callVs a_L_law_732 hC1 (cl_rests (x := (xs (i + 1))) (y := (xs (i + 2))) (x' := (xs (i + 3))) (y' := (xs (i + 4))) (w := (xs (i + 5))) hC hU hm ) rfl rfl rfl rfl rfl (fun σ2 hP => ?_)
  obtain ⟨hC, hf⟩ := hP
  have hS := (hf 0 (by omega)).trans hS
  have hM := hM.kept (fun j h1 h2 => hf j (by omega))
  refine R_aload_n a_L_law_735 rfl ?_
  refine R_aload_n a_L_law_736 rfl ?_
  refine R_iload_n a_L_law_737 rfl ?_
  refine R_iconst (v := nI 1) a_L_law_738 rfl ?_
  refine R_iadd_n a_L_law_739 ?_
  refine R_iald_n a_L_law_740 hS (by omega) (by omega) ?_
  refine R_aload_n a_L_law_741 rfl ?_
  refine R_iload_n a_L_law_742 rfl ?_
  refine R_iconst (v := nI 2) a_L_law_743 rfl ?_
  refine R_iadd_n a_L_law_744 ?_
  refine R_iald_n a_L_law_745 hS (by omega) (by omega) ?_
  refine R_aload_n a_L_law_746 rfl ?_
  refine R_iload_n a_L_law_747 rfl ?_
  refine R_iconst (v := nI 3) a_L_law_748 rfl ?_
  refine R_iadd_n a_L_law_749 ?_
  refine R_iald_n a_L_law_750 hS (by omega) (by omega) ?_
  refine R_aload_n a_L_law_751 rfl ?_
  refine R_iload_n a_L_law_752 rfl ?_
  refine R_iconst (v := nI 4) a_L_law_753 rfl ?_
  refine R_iadd_n a_L_law_754 ?_
  refine R_iald_n a_L_law_755 hS (by omega) (by omega) ?_
  refine R_aload_n a_L_law_756 rfl ?_
  refine R_iload_n a_L_law_757 rfl ?_
  refine R_iconst (v := nI 5) a_L_law_758 rfl ?_
  refine R_iadd_n a_L_law_759 ?_
  refine R_iald_n a_L_law_760 hS (by omega) (by omega) ?_
  obtain ⟨fsM, hM1⟩ := hM.o
  refine R_callVs a_L_law_761 hM1 (md_rests (x := (xs (i + 1))) (y := (xs (i + 2))) (x' := (xs (i + 3))) (y' := (xs (i + 4))) (w := (xs (i + 5))) hM hU hm ) rfl rfl rfl rfl rfl (fun σ3 hP => ?_)
  obtain ⟨hM, hf⟩ := hP
  have hS := (hf 0 (by omega)).trans hS
  have hC := hC.kept (fun j h1 h2 => hf j (by omega))
  refine R_icmp_eq a_L_law_764 (fun _ => ?_) (fun h => absurd rfl h)
  exact hx _ U hS hC hM (hU.mono (Nat.le_succ m))
set_option maxRecDepth 20000 in
theorem lw_c19 {σ : AHp} {U : Us} {m i L : Nat} {xs : Nat → Int32} (hL : L ≤ 3584) (hi : i + 7 ≤ L) (hS : σ 0 = some (iA 0 L xs)) (hC : CP σ U) (hM : MP σ U) (hU : UOk U m) (hm : m < 2 ^ 20) {Q : Option Value → AHp → Prop} (hx : ∀ (σ2 : AHp) (U2 : Us), σ2 0 = some (iA 0 L xs) → CP σ2 U2 → MP σ2 U2 → UOk U2 (m + 1) → Run M_L_law 960 [some (.ref 0), some (.ref 1), some (.ref 272), some (.int (nI i))] [] σ2 0 0 Q) : Run M_L_law 769 [some (.ref 0), some (.ref 1), some (.ref 272), some (.int (nI i))] [] σ 0 0 Q := by
  refine R_aload_n a_L_law_769 rfl ?_
  refine R_aload_n a_L_law_770 rfl ?_
  refine R_iload_n a_L_law_771 rfl ?_
  refine R_iconst (v := nI 1) a_L_law_772 rfl ?_
  refine R_iadd_n a_L_law_773 ?_
  refine R_iald_n a_L_law_774 hS (by omega) (by omega) ?_
  refine R_dian 788 (fun v => v = zb (xs (i + 2))) (fun hJ => ?_) (fun v hv => ?_)
  · skip
    refine R_aload_n a_L_law_775 rfl ?_
    refine R_iload_n a_L_law_776 rfl ?_
    refine R_iconst (v := nI 2) a_L_law_777 rfl ?_
    refine R_iadd_n a_L_law_778 ?_
    refine R_iald_n a_L_law_779 hS (by omega) (by omega) ?_
    refine R_if_eq a_L_law_780 (fun h => ?_) (fun h => ?_)
    · refine R_iconst (v := nI 0) a_L_law_787 rfl ?_
      exact hJ _ (by unfold zb; rw [if_pos h])
    · refine R_iconst (v := nI 1) a_L_law_783 rfl ?_
      refine R_goto a_L_law_784 ?_
      exact hJ _ (by unfold zb; rw [if_neg h])
  · skip
    subst hv
    obtain ⟨fsC, hC1⟩ := hC.o
    refine R_callVs a_L_law_788 hC1 (cl_tell (x := (xs (i + 1))) hC hU hm (zb_le (xs (i + 2)))) rfl rfl rfl rfl rfl (fun σ2 hP => ?_)
    obtain ⟨hC, hf⟩ := hP
    have hS := (hf 0 (by omega)).trans hS
    have hM := hM.kept (fun j h1 h2 => hf j (by omega))
    refine R_aload_n a_L_law_791 rfl ?_
    refine R_aload_n a_L_law_792 rfl ?_
    refine R_iload_n a_L_law_793 rfl ?_
    refine R_iconst (v := nI 1) a_L_law_794 rfl ?_
    refine R_iadd_n a_L_law_795 ?_
    refine R_iald_n a_L_law_796 hS (by omega) (by omega) ?_
    refine R_dian 810 (fun v => v = zb (xs (i + 2))) (fun hJ => ?_) (fun v hv => ?_)
    · skip
      refine R_aload_n a_L_law_797 rfl ?_
      refine R_iload_n a_L_law_798 rfl ?_
      refine R_iconst (v := nI 2) a_L_law_799 rfl ?_
      refine R_iadd_n a_L_law_800 ?_
      refine R_iald_n a_L_law_801 hS (by omega) (by omega) ?_
      refine R_if_eq a_L_law_802 (fun h => ?_) (fun h => ?_)
      · refine R_iconst (v := nI 0) a_L_law_809 rfl ?_
        exact hJ _ (by unfold zb; rw [if_pos h])
      · refine R_iconst (v := nI 1) a_L_law_805 rfl ?_
        refine R_goto a_L_law_806 ?_
        exact hJ _ (by unfold zb; rw [if_neg h])
    · skip
      subst hv
      obtain ⟨fsM, hM1⟩ := hM.o
      refine R_callVs a_L_law_810 hM1 (md_tell (x := (xs (i + 1))) hM hU hm (zb_le (xs (i + 2)))) rfl rfl rfl rfl rfl (fun σ3 hP => ?_)
      obtain ⟨hM, hf⟩ := hP
      have hS := (hf 0 (by omega)).trans hS
      have hC := hC.kept (fun j h1 h2 => hf j (by omega))
      refine R_icmp_eq a_L_law_813 (fun _ => ?_) (fun h => absurd rfl h)
      exact hx _ ((zTell U (xs (i + 1)) (zb (xs (i + 2)))).2) hS hC hM (hU.tell (xs (i + 1)) (zb_le (xs (i + 2))))
set_option maxRecDepth 20000 in
theorem lw_c20 {σ : AHp} {U : Us} {m i L : Nat} {xs : Nat → Int32} (hL : L ≤ 3584) (hi : i + 7 ≤ L) (hS : σ 0 = some (iA 0 L xs)) (hC : CP σ U) (hM : MP σ U) (hU : UOk U m) (hm : m < 2 ^ 20) {Q : Option Value → AHp → Prop} (hx : ∀ (σ2 : AHp) (U2 : Us), σ2 0 = some (iA 0 L xs) → CP σ2 U2 → MP σ2 U2 → UOk U2 (m + 1) → Run M_L_law 960 [some (.ref 0), some (.ref 1), some (.ref 272), some (.int (nI i))] [] σ2 0 0 Q) : Run M_L_law 818 [some (.ref 0), some (.ref 1), some (.ref 272), some (.int (nI i))] [] σ 0 0 Q := by
  refine R_aload_n a_L_law_818 rfl ?_
  obtain ⟨fsC, hC1⟩ := hC.o
  refine R_callVs a_L_law_819 hC1 (cl_forget  hC hU hm ) rfl rfl rfl rfl rfl (fun σ2 hP => ?_)
  obtain ⟨hC, hf⟩ := hP
  have hS := (hf 0 (by omega)).trans hS
  have hM := hM.kept (fun j h1 h2 => hf j (by omega))
  refine R_aload_n a_L_law_822 rfl ?_
  obtain ⟨fsM, hM1⟩ := hM.o
  refine R_callVs a_L_law_823 hM1 (md_forget  hM hU hm ) rfl rfl rfl rfl rfl (fun σ3 hP => ?_)
  obtain ⟨hM, hf⟩ := hP
  have hS := (hf 0 (by omega)).trans hS
  have hC := hC.kept (fun j h1 h2 => hf j (by omega))
  refine R_icmp_eq a_L_law_826 (fun _ => ?_) (fun h => absurd rfl h)
  exact hx _ ((zForget U).2) hS hC hM hU.forget
set_option maxRecDepth 20000 in
theorem lw_c21 {σ : AHp} {U : Us} {m i L : Nat} {xs : Nat → Int32} (hL : L ≤ 3584) (hi : i + 7 ≤ L) (hS : σ 0 = some (iA 0 L xs)) (hC : CP σ U) (hM : MP σ U) (hU : UOk U m) (hm : m < 2 ^ 20) {Q : Option Value → AHp → Prop} (hx : ∀ (σ2 : AHp) (U2 : Us), σ2 0 = some (iA 0 L xs) → CP σ2 U2 → MP σ2 U2 → UOk U2 (m + 1) → Run M_L_law 960 [some (.ref 0), some (.ref 1), some (.ref 272), some (.int (nI i))] [] σ2 0 0 Q) : Run M_L_law 831 [some (.ref 0), some (.ref 1), some (.ref 272), some (.int (nI i))] [] σ 0 0 Q := by
  refine R_aload_n a_L_law_831 rfl ?_
  refine R_aload_n a_L_law_832 rfl ?_
  refine R_iload_n a_L_law_833 rfl ?_
  refine R_iconst (v := nI 1) a_L_law_834 rfl ?_
  refine R_iadd_n a_L_law_835 ?_
  refine R_iald_n a_L_law_836 hS (by omega) (by omega) ?_
  obtain ⟨fsC, hC1⟩ := hC.o
  refine R_callVs a_L_law_837 hC1 ((cl_believe (x := (xs (i + 1))) hC hU hm ).cp hC) rfl rfl rfl rfl rfl (fun σ2 hP => ?_)
  obtain ⟨hC, hf⟩ := hP
  have hS := (hf 0 (by omega)).trans hS
  have hM := hM.kept (fun j h1 h2 => hf j (by omega))
  refine R_aload_n a_L_law_840 rfl ?_
  refine R_aload_n a_L_law_841 rfl ?_
  refine R_iload_n a_L_law_842 rfl ?_
  refine R_iconst (v := nI 1) a_L_law_843 rfl ?_
  refine R_iadd_n a_L_law_844 ?_
  refine R_iald_n a_L_law_845 hS (by omega) (by omega) ?_
  obtain ⟨fsM, hM1⟩ := hM.o
  refine R_callVs a_L_law_846 hM1 (md_believe (x := (xs (i + 1))) hM hU hm ) rfl rfl rfl rfl rfl (fun σ3 hP => ?_)
  obtain ⟨hM, hf⟩ := hP
  have hS := (hf 0 (by omega)).trans hS
  have hC := hC.kept (fun j h1 h2 => hf j (by omega))
  refine R_lcmp a_L_law_849 ?_
  refine R_if_eq a_L_law_850 (fun _ => ?_) (fun h => absurd (lcmp_self _) h)
  exact hx _ U hS hC hM (hU.mono (Nat.le_succ m))
set_option maxRecDepth 20000 in
theorem lw_c22 {σ : AHp} {U : Us} {m i L : Nat} {xs : Nat → Int32} (hL : L ≤ 3584) (hi : i + 7 ≤ L) (hS : σ 0 = some (iA 0 L xs)) (hC : CP σ U) (hM : MP σ U) (hU : UOk U m) (hm : m < 2 ^ 20) {Q : Option Value → AHp → Prop} (hx : ∀ (σ2 : AHp) (U2 : Us), σ2 0 = some (iA 0 L xs) → CP σ2 U2 → MP σ2 U2 → UOk U2 (m + 1) → Run M_L_law 960 [some (.ref 0), some (.ref 1), some (.ref 272), some (.int (nI i))] [] σ2 0 0 Q) : Run M_L_law 855 [some (.ref 0), some (.ref 1), some (.ref 272), some (.int (nI i))] [] σ 0 0 Q := by
  refine R_aload_n a_L_law_855 rfl ?_
  obtain ⟨fsC, hC1⟩ := hC.o
  refine R_callVs a_L_law_856 hC1 ((cl_trail  hC hU hm ).cp hC) rfl rfl rfl rfl rfl (fun σ2 hP => ?_)
  obtain ⟨hC, hf⟩ := hP
  have hS := (hf 0 (by omega)).trans hS
  have hM := hM.kept (fun j h1 h2 => hf j (by omega))
  refine R_aload_n a_L_law_859 rfl ?_
  obtain ⟨fsM, hM1⟩ := hM.o
  refine R_callVs a_L_law_860 hM1 (md_trail  hM hU hm ) rfl rfl rfl rfl rfl (fun σ3 hP => ?_)
  obtain ⟨hM, hf⟩ := hP
  have hS := (hf 0 (by omega)).trans hS
  have hC := hC.kept (fun j h1 h2 => hf j (by omega))
  refine R_icmp_eq a_L_law_863 (fun _ => ?_) (fun h => absurd rfl h)
  exact hx _ U hS hC hM (hU.mono (Nat.le_succ m))
set_option maxRecDepth 20000 in
theorem lw_c23 {σ : AHp} {U : Us} {m i L : Nat} {xs : Nat → Int32} (hL : L ≤ 3584) (hi : i + 7 ≤ L) (hS : σ 0 = some (iA 0 L xs)) (hC : CP σ U) (hM : MP σ U) (hU : UOk U m) (hm : m < 2 ^ 20) {Q : Option Value → AHp → Prop} (hx : ∀ (σ2 : AHp) (U2 : Us), σ2 0 = some (iA 0 L xs) → CP σ2 U2 → MP σ2 U2 → UOk U2 (m + 1) → Run M_L_law 960 [some (.ref 0), some (.ref 1), some (.ref 272), some (.int (nI i))] [] σ2 0 0 Q) : Run M_L_law 868 [some (.ref 0), some (.ref 1), some (.ref 272), some (.int (nI i))] [] σ 0 0 Q := by
  refine R_aload_n a_L_law_868 rfl ?_
  refine R_aload_n a_L_law_869 rfl ?_
  refine R_iload_n a_L_law_870 rfl ?_
  refine R_iconst (v := nI 1) a_L_law_871 rfl ?_
  refine R_iadd_n a_L_law_872 ?_
  refine R_iald_n a_L_law_873 hS (by omega) (by omega) ?_
  refine R_aload_n a_L_law_874 rfl ?_
  refine R_iload_n a_L_law_875 rfl ?_
  refine R_iconst (v := nI 2) a_L_law_876 rfl ?_
  refine R_iadd_n a_L_law_877 ?_
  refine R_iald_n a_L_law_878 hS (by omega) (by omega) ?_
  refine R_aload_n a_L_law_879 rfl ?_
  refine R_iload_n a_L_law_880 rfl ?_
  refine R_iconst (v := nI 3) a_L_law_881 rfl ?_
  refine R_iadd_n a_L_law_882 ?_
  refine R_iald_n a_L_law_883 hS (by omega) (by omega) ?_
  obtain ⟨fsC, hC1⟩ := hC.o
  refine R_callVs a_L_law_884 hC1 (cl_dinner (x := (xs (i + 1))) (y := (xs (i + 2))) (w := (xs (i + 3))) hC hU hm ) rfl rfl rfl rfl rfl (fun σ2 hP => ?_)
  obtain ⟨hC, hf⟩ := hP
  have hS := (hf 0 (by omega)).trans hS
  have hM := hM.kept (fun j h1 h2 => hf j (by omega))
  refine R_aload_n a_L_law_887 rfl ?_
  refine R_aload_n a_L_law_888 rfl ?_
  refine R_iload_n a_L_law_889 rfl ?_
  refine R_iconst (v := nI 1) a_L_law_890 rfl ?_
  refine R_iadd_n a_L_law_891 ?_
  refine R_iald_n a_L_law_892 hS (by omega) (by omega) ?_
  refine R_aload_n a_L_law_893 rfl ?_
  refine R_iload_n a_L_law_894 rfl ?_
  refine R_iconst (v := nI 2) a_L_law_895 rfl ?_
  refine R_iadd_n a_L_law_896 ?_
  refine R_iald_n a_L_law_897 hS (by omega) (by omega) ?_
  refine R_aload_n a_L_law_898 rfl ?_
  refine R_iload_n a_L_law_899 rfl ?_
  refine R_iconst (v := nI 3) a_L_law_900 rfl ?_
  refine R_iadd_n a_L_law_901 ?_
  refine R_iald_n a_L_law_902 hS (by omega) (by omega) ?_
  obtain ⟨fsM, hM1⟩ := hM.o
  refine R_callVs a_L_law_903 hM1 (md_dinner (x := (xs (i + 1))) (y := (xs (i + 2))) (w := (xs (i + 3))) hM hU hm ) rfl rfl rfl rfl rfl (fun σ3 hP => ?_)
  obtain ⟨hM, hf⟩ := hP
  have hS := (hf 0 (by omega)).trans hS
  have hC := hC.kept (fun j h1 h2 => hf j (by omega))
  refine R_icmp_eq a_L_law_906 (fun _ => ?_) (fun h => absurd rfl h)
  exact hx _ U hS hC hM (hU.mono (Nat.le_succ m))
set_option maxRecDepth 20000 in
theorem lw_c24 {σ : AHp} {U : Us} {m i L : Nat} {xs : Nat → Int32} (hL : L ≤ 3584) (hi : i + 7 ≤ L) (hS : σ 0 = some (iA 0 L xs)) (hC : CP σ U) (hM : MP σ U) (hU : UOk U m) (hm : m < 2 ^ 20) {Q : Option Value → AHp → Prop} (hx : ∀ (σ2 : AHp) (U2 : Us), σ2 0 = some (iA 0 L xs) → CP σ2 U2 → MP σ2 U2 → UOk U2 (m + 1) → Run M_L_law 960 [some (.ref 0), some (.ref 1), some (.ref 272), some (.int (nI i))] [] σ2 0 0 Q) : Run M_L_law 911 [some (.ref 0), some (.ref 1), some (.ref 272), some (.int (nI i))] [] σ 0 0 Q := by
  refine R_aload_n a_L_law_911 rfl ?_
  obtain ⟨fsC, hC1⟩ := hC.o
  refine R_callVs a_L_law_912 hC1 (cl_keep  hC hU hm ) rfl rfl rfl rfl rfl (fun σ2 hP => ?_)
  obtain ⟨hC, hf⟩ := hP
  have hS := (hf 0 (by omega)).trans hS
  have hM := hM.kept (fun j h1 h2 => hf j (by omega))
  refine R_aload_n a_L_law_915 rfl ?_
  obtain ⟨fsM, hM1⟩ := hM.o
  refine R_callVs a_L_law_916 hM1 (md_keep  hM hU hm ) rfl rfl rfl rfl rfl (fun σ3 hP => ?_)
  obtain ⟨hM, hf⟩ := hP
  have hS := (hf 0 (by omega)).trans hS
  have hC := hC.kept (fun j h1 h2 => hf j (by omega))
  refine R_icmp_eq a_L_law_919 (fun _ => ?_) (fun h => absurd rfl h)
  exact hx _ ((zKeep U).2) hS hC hM hU.keep
set_option maxRecDepth 20000 in
theorem lw_c25 {σ : AHp} {U : Us} {m i L : Nat} {xs : Nat → Int32} (hL : L ≤ 3584) (hi : i + 7 ≤ L) (hS : σ 0 = some (iA 0 L xs)) (hC : CP σ U) (hM : MP σ U) (hU : UOk U m) (hm : m < 2 ^ 20) {Q : Option Value → AHp → Prop} (hx : ∀ (σ2 : AHp) (U2 : Us), σ2 0 = some (iA 0 L xs) → CP σ2 U2 → MP σ2 U2 → UOk U2 (m + 1) → Run M_L_law 960 [some (.ref 0), some (.ref 1), some (.ref 272), some (.int (nI i))] [] σ2 0 0 Q) : Run M_L_law 924 [some (.ref 0), some (.ref 1), some (.ref 272), some (.int (nI i))] [] σ 0 0 Q := by
  refine R_aload_n a_L_law_924 rfl ?_
  obtain ⟨fsC, hC1⟩ := hC.o
  refine R_callVs a_L_law_925 hC1 (cl_back  hC hU hm ) rfl rfl rfl rfl rfl (fun σ2 hP => ?_)
  obtain ⟨hC, hf⟩ := hP
  have hS := (hf 0 (by omega)).trans hS
  have hM := hM.kept (fun j h1 h2 => hf j (by omega))
  refine R_aload_n a_L_law_928 rfl ?_
  obtain ⟨fsM, hM1⟩ := hM.o
  refine R_callVs a_L_law_929 hM1 (md_back  hM hU hm ) rfl rfl rfl rfl rfl (fun σ3 hP => ?_)
  obtain ⟨hM, hf⟩ := hP
  have hS := (hf 0 (by omega)).trans hS
  have hC := hC.kept (fun j h1 h2 => hf j (by omega))
  refine R_icmp_eq a_L_law_932 (fun _ => ?_) (fun h => absurd rfl h)
  exact hx _ ((zBack U).2) hS hC hM hU.back
set_option maxRecDepth 20000 in
theorem lw_c26 {σ : AHp} {U : Us} {m i L : Nat} {xs : Nat → Int32} (hL : L ≤ 3584) (hi : i + 7 ≤ L) (hS : σ 0 = some (iA 0 L xs)) (hC : CP σ U) (hM : MP σ U) (hU : UOk U m) (hm : m < 2 ^ 20) {Q : Option Value → AHp → Prop} (hx : ∀ (σ2 : AHp) (U2 : Us), σ2 0 = some (iA 0 L xs) → CP σ2 U2 → MP σ2 U2 → UOk U2 (m + 1) → Run M_L_law 960 [some (.ref 0), some (.ref 1), some (.ref 272), some (.int (nI i))] [] σ2 0 0 Q) : Run M_L_law 937 [some (.ref 0), some (.ref 1), some (.ref 272), some (.int (nI i))] [] σ 0 0 Q := by
  refine R_aload_n a_L_law_937 rfl ?_
  refine R_aload_n a_L_law_938 rfl ?_
  refine R_iload_n a_L_law_939 rfl ?_
  refine R_iconst (v := nI 1) a_L_law_940 rfl ?_
  refine R_iadd_n a_L_law_941 ?_
  refine R_iald_n a_L_law_942 hS (by omega) (by omega) ?_
  obtain ⟨fsC, hC1⟩ := hC.o
  refine R_callVs a_L_law_943 hC1 ((cl_count (w := (xs (i + 1))) hC hU hm ).cp hC) rfl rfl rfl rfl rfl (fun σ2 hP => ?_)
  obtain ⟨hC, hf⟩ := hP
  have hS := (hf 0 (by omega)).trans hS
  have hM := hM.kept (fun j h1 h2 => hf j (by omega))
  refine R_aload_n a_L_law_946 rfl ?_
  refine R_aload_n a_L_law_947 rfl ?_
  refine R_iload_n a_L_law_948 rfl ?_
  refine R_iconst (v := nI 1) a_L_law_949 rfl ?_
  refine R_iadd_n a_L_law_950 ?_
  refine R_iald_n a_L_law_951 hS (by omega) (by omega) ?_
  obtain ⟨fsM, hM1⟩ := hM.o
  refine R_callVs a_L_law_952 hM1 (md_count (w := (xs (i + 1))) hM hU hm ) rfl rfl rfl rfl rfl (fun σ3 hP => ?_)
  obtain ⟨hM, hf⟩ := hP
  have hS := (hf 0 (by omega)).trans hS
  have hC := hC.kept (fun j h1 h2 => hf j (by omega))
  refine R_icmp_eq a_L_law_955 (fun _ => ?_) (fun h => absurd rfl h)
  exact hx _ U hS hC hM (hU.mono (Nat.le_succ m))
