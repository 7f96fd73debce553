theorem law_op_shore {p : Program} {l : Launch} {e : Env} {s : State} {m : MethodId} {below : List Frame} {meth : Method} {c : Code} {b L : Nat} {xs : Nat → Int32} (hL : L ≤ 2560) (C0 : lw_At p s m meth c b L xs) {D : va_G} {E : ojE} {ad ad2 : Nat → Nat} (N0 : lwN s D E ad ad2) {i : Nat} (hi : i + 5 ≤ L) (back : ∀ (σ τ : ojS) (H : Heap) (locs : List Loc) (ls : Array Slot), lwG s b D E ad ad2 i σ τ H locs ls → W p l e room_1 s m #[Value.ref b] below meth c H locs 600000 7302250 (lw_Z below #[Value.ref b] s) (F0 m 788 ls [])) (σ τ : ojS) (H : Heap) (locs : List Loc) (ls : Array Slot) (G : lwG s b D E ad ad2 i σ τ H locs ls) : W p l e room_1 s m #[Value.ref b] below meth c H locs 600000 7302250 (lw_Z below #[Value.ref b] s) (F0 m 128 ls []) := by
  obtain ⟨hx, hb, hr, hml, hown, hts, hX, hbl, hlocks, hgv⟩ := C0
  have ht := ojT_sub hts
  obtain ⟨hK, hne⟩ := N0
  have hbA : ¬ (fun q : Nat => s.heap.size ≤ q) b := Nat.not_le.mpr hbl
  obtain ⟨hR, hPO, hPM, hDO, hDM, hS, hl⟩ := G
  obtain ⟨r, σ1, τ1, e1, e2, hR1⟩ := st_shore hR (xs (i + 1)) (xs (i + 2))
  refine lv_aload_n hx hb dL_law_128 rfl (lv_at hl 1 rfl) ?_
  refine law_ld 1 hx hb hX hbl hbA hS (lv_at hl 0 rfl) (lv_at hl 3 rfl) hi hL (by decide) (by decide) dL_law_129 dL_law_130 dL_law_131 dL_law_132 dL_law_133 ?_
  refine law_ld 2 hx hb hX hbl hbA hS (lv_at hl 0 rfl) (lv_at hl 3 rfl) hi hL (by decide) (by decide) dL_law_134 dL_law_135 dL_law_136 dL_law_137 dL_law_138 ?_
  refine law_call (wf := wO_ E ad) (σ := σ) (σ1 := σ1) [.int (xs (i + 1)), .int (xs (i + 2))] [] hx hb hml hown ht hK hPO hDO hS (fun _ h => h) hl.1 (oC_OilWatch (l := l) (D := D)) cv_L_13 (Lc := 2) (by decide) (c_X8_shore (xs (i + 1)) (xs (i + 2)) σ r σ1 e1) rfl rfl (Nat.le_of_ble_eq_true rfl) dL_law_139 ⟨Nat.le_refl _, Nat.le_refl _⟩ (fun H1 locs1 hPO1 hDO1 hS1 hk1 => ?_)
  have hPM1 := law_keep hPM (law_ne hne) hk1
  refine lv_aload_n hx hb dL_law_142 rfl (lv_at hl 2 rfl) ?_
  refine law_ld 1 hx hb hX hbl hbA hS1 (lv_at hl 0 rfl) (lv_at hl 3 rfl) hi hL (by decide) (by decide) dL_law_143 dL_law_144 dL_law_145 dL_law_146 dL_law_147 ?_
  refine law_ld 2 hx hb hX hbl hbA hS1 (lv_at hl 0 rfl) (lv_at hl 3 rfl) hi hL (by decide) (by decide) dL_law_148 dL_law_149 dL_law_150 dL_law_151 dL_law_152 ?_
  refine law_call (wf := wM_ E ad2) (σ := τ) (σ1 := τ1) [.int (xs (i + 1)), .int (xs (i + 2))] [.int r] hx hb hml hown ht hK hPM1 hDM hS1 (fun _ h => h) hl.1 (mC_Model (l := l) (D := D)) cv_L_17 (Lc := 3) (by decide) (c_X9_shore (xs (i + 1)) (xs (i + 2)) τ r τ1 e2) rfl rfl (Nat.le_of_ble_eq_true rfl) dL_law_153 ⟨Nat.le_refl _, Nat.le_refl _⟩ (fun H2 locs2 hPM2 hDM2 hS2 hk2 => ?_)
  have hPO2 := law_keep hPO1 (law_ne2 hne) hk2
  refine lv_icmp_eq (tgt := 788) hx hb dL_law_156 (by decide) (fun _ => ?_) (fun q => absurd rfl q)
  exact back σ1 τ1 H2 locs2 ls ⟨hR1, hPO2, hPM2, hDO1, hDM2, hS2, hl⟩
theorem law_op_weather {p : Program} {l : Launch} {e : Env} {s : State} {m : MethodId} {below : List Frame} {meth : Method} {c : Code} {b L : Nat} {xs : Nat → Int32} (hL : L ≤ 2560) (C0 : lw_At p s m meth c b L xs) {D : va_G} {E : ojE} {ad ad2 : Nat → Nat} (N0 : lwN s D E ad ad2) {i : Nat} (hi : i + 5 ≤ L) (back : ∀ (σ τ : ojS) (H : Heap) (locs : List Loc) (ls : Array Slot), lwG s b D E ad ad2 i σ τ H locs ls → W p l e room_1 s m #[Value.ref b] below meth c H locs 600000 7302250 (lw_Z below #[Value.ref b] s) (F0 m 788 ls [])) (σ τ : ojS) (H : Heap) (locs : List Loc) (ls : Array Slot) (G : lwG s b D E ad ad2 i σ τ H locs ls) : W p l e room_1 s m #[Value.ref b] below meth c H locs 600000 7302250 (lw_Z below #[Value.ref b] s) (F0 m 161 ls []) := by
  obtain ⟨hx, hb, hr, hml, hown, hts, hX, hbl, hlocks, hgv⟩ := C0
  have ht := ojT_sub hts
  obtain ⟨hK, hne⟩ := N0
  have hbA : ¬ (fun q : Nat => s.heap.size ≤ q) b := Nat.not_le.mpr hbl
  obtain ⟨hR, hPO, hPM, hDO, hDM, hS, hl⟩ := G
  obtain ⟨r, σ1, τ1, e1, e2, hR1⟩ := st_weather hR (xs (i + 1)) (xs (i + 2)) (xs (i + 3)) (xs (i + 4))
  refine lv_aload_n hx hb dL_law_161 rfl (lv_at hl 1 rfl) ?_
  refine law_ld 1 hx hb hX hbl hbA hS (lv_at hl 0 rfl) (lv_at hl 3 rfl) hi hL (by decide) (by decide) dL_law_162 dL_law_163 dL_law_164 dL_law_165 dL_law_166 ?_
  refine law_ld 2 hx hb hX hbl hbA hS (lv_at hl 0 rfl) (lv_at hl 3 rfl) hi hL (by decide) (by decide) dL_law_167 dL_law_168 dL_law_169 dL_law_170 dL_law_171 ?_
  refine law_ld 3 hx hb hX hbl hbA hS (lv_at hl 0 rfl) (lv_at hl 3 rfl) hi hL (by decide) (by decide) dL_law_172 dL_law_173 dL_law_174 dL_law_175 dL_law_176 ?_
  refine law_ld 4 hx hb hX hbl hbA hS (lv_at hl 0 rfl) (lv_at hl 3 rfl) hi hL (by decide) (by decide) dL_law_177 dL_law_178 dL_law_179 dL_law_180 dL_law_181 ?_
  refine law_call (wf := wO_ E ad) (σ := σ) (σ1 := σ1) [.int (xs (i + 1)), .int (xs (i + 2)), .int (xs (i + 3)), .int (xs (i + 4))] [] hx hb hml hown ht hK hPO hDO hS (fun _ h => h) hl.1 (oC_OilWatch (l := l) (D := D)) cv_L_18 (Lc := 2) (by decide) (c_X8_weather (xs (i + 1)) (xs (i + 2)) (xs (i + 3)) (xs (i + 4)) σ r σ1 e1) rfl rfl (Nat.le_of_ble_eq_true rfl) dL_law_182 ⟨Nat.le_refl _, Nat.le_refl _⟩ (fun H1 locs1 hPO1 hDO1 hS1 hk1 => ?_)
  have hPM1 := law_keep hPM (law_ne hne) hk1
  refine lv_aload_n hx hb dL_law_185 rfl (lv_at hl 2 rfl) ?_
  refine law_ld 1 hx hb hX hbl hbA hS1 (lv_at hl 0 rfl) (lv_at hl 3 rfl) hi hL (by decide) (by decide) dL_law_186 dL_law_187 dL_law_188 dL_law_189 dL_law_190 ?_
  refine law_ld 2 hx hb hX hbl hbA hS1 (lv_at hl 0 rfl) (lv_at hl 3 rfl) hi hL (by decide) (by decide) dL_law_191 dL_law_192 dL_law_193 dL_law_194 dL_law_195 ?_
  refine law_ld 3 hx hb hX hbl hbA hS1 (lv_at hl 0 rfl) (lv_at hl 3 rfl) hi hL (by decide) (by decide) dL_law_196 dL_law_197 dL_law_198 dL_law_199 dL_law_200 ?_
  refine law_ld 4 hx hb hX hbl hbA hS1 (lv_at hl 0 rfl) (lv_at hl 3 rfl) hi hL (by decide) (by decide) dL_law_201 dL_law_202 dL_law_203 dL_law_204 dL_law_205 ?_
  refine law_call (wf := wM_ E ad2) (σ := τ) (σ1 := τ1) [.int (xs (i + 1)), .int (xs (i + 2)), .int (xs (i + 3)), .int (xs (i + 4))] [.int r] hx hb hml hown ht hK hPM1 hDM hS1 (fun _ h => h) hl.1 (mC_Model (l := l) (D := D)) cv_L_22 (Lc := 2) (by decide) (c_X9_weather (xs (i + 1)) (xs (i + 2)) (xs (i + 3)) (xs (i + 4)) τ r τ1 e2) rfl rfl (Nat.le_of_ble_eq_true rfl) dL_law_206 ⟨Nat.le_refl _, Nat.le_refl _⟩ (fun H2 locs2 hPM2 hDM2 hS2 hk2 => ?_)
  have hPO2 := law_keep hPO1 (law_ne2 hne) hk2
  refine lv_icmp_eq (tgt := 788) hx hb dL_law_209 (by decide) (fun _ => ?_) (fun q => absurd rfl q)
  exact back σ1 τ1 H2 locs2 ls ⟨hR1, hPO2, hPM2, hDO1, hDM2, hS2, hl⟩
theorem law_op_boom {p : Program} {l : Launch} {e : Env} {s : State} {m : MethodId} {below : List Frame} {meth : Method} {c : Code} {b L : Nat} {xs : Nat → Int32} (hL : L ≤ 2560) (C0 : lw_At p s m meth c b L xs) {D : va_G} {E : ojE} {ad ad2 : Nat → Nat} (N0 : lwN s D E ad ad2) {i : Nat} (hi : i + 5 ≤ L) (back : ∀ (σ τ : ojS) (H : Heap) (locs : List Loc) (ls : Array Slot), lwG s b D E ad ad2 i σ τ H locs ls → W p l e room_1 s m #[Value.ref b] below meth c H locs 600000 7302250 (lw_Z below #[Value.ref b] s) (F0 m 788 ls [])) (σ τ : ojS) (H : Heap) (locs : List Loc) (ls : Array Slot) (G : lwG s b D E ad ad2 i σ τ H locs ls) : W p l e room_1 s m #[Value.ref b] below meth c H locs 600000 7302250 (lw_Z below #[Value.ref b] s) (F0 m 214 ls []) := by
  obtain ⟨hx, hb, hr, hml, hown, hts, hX, hbl, hlocks, hgv⟩ := C0
  have ht := ojT_sub hts
  obtain ⟨hK, hne⟩ := N0
  have hbA : ¬ (fun q : Nat => s.heap.size ≤ q) b := Nat.not_le.mpr hbl
  obtain ⟨hR, hPO, hPM, hDO, hDM, hS, hl⟩ := G
  obtain ⟨r, σ1, τ1, e1, e2, hR1⟩ := st_boom hR (xs (i + 1)) (xs (i + 2)) (xs (i + 3))
  refine lv_aload_n hx hb dL_law_214 rfl (lv_at hl 1 rfl) ?_
  refine law_ld 1 hx hb hX hbl hbA hS (lv_at hl 0 rfl) (lv_at hl 3 rfl) hi hL (by decide) (by decide) dL_law_215 dL_law_216 dL_law_217 dL_law_218 dL_law_219 ?_
  refine law_ld 2 hx hb hX hbl hbA hS (lv_at hl 0 rfl) (lv_at hl 3 rfl) hi hL (by decide) (by decide) dL_law_220 dL_law_221 dL_law_222 dL_law_223 dL_law_224 ?_
  refine law_ld 3 hx hb hX hbl hbA hS (lv_at hl 0 rfl) (lv_at hl 3 rfl) hi hL (by decide) (by decide) dL_law_225 dL_law_226 dL_law_227 dL_law_228 dL_law_229 ?_
  refine law_call (wf := wO_ E ad) (σ := σ) (σ1 := σ1) [.int (xs (i + 1)), .int (xs (i + 2)), .int (xs (i + 3))] [] hx hb hml hown ht hK hPO hDO hS (fun _ h => h) hl.1 (oC_OilWatch (l := l) (D := D)) cv_L_23 (Lc := 4) (by decide) (c_X8_boom (xs (i + 1)) (xs (i + 2)) (xs (i + 3)) σ r σ1 e1) rfl rfl (Nat.le_of_ble_eq_true rfl) dL_law_230 ⟨Nat.le_refl _, Nat.le_refl _⟩ (fun H1 locs1 hPO1 hDO1 hS1 hk1 => ?_)
  have hPM1 := law_keep hPM (law_ne hne) hk1
  refine lv_aload_n hx hb dL_law_233 rfl (lv_at hl 2 rfl) ?_
  refine law_ld 1 hx hb hX hbl hbA hS1 (lv_at hl 0 rfl) (lv_at hl 3 rfl) hi hL (by decide) (by decide) dL_law_234 dL_law_235 dL_law_236 dL_law_237 dL_law_238 ?_
  refine law_ld 2 hx hb hX hbl hbA hS1 (lv_at hl 0 rfl) (lv_at hl 3 rfl) hi hL (by decide) (by decide) dL_law_239 dL_law_240 dL_law_241 dL_law_242 dL_law_243 ?_
  refine law_ld 3 hx hb hX hbl hbA hS1 (lv_at hl 0 rfl) (lv_at hl 3 rfl) hi hL (by decide) (by decide) dL_law_244 dL_law_245 dL_law_246 dL_law_247 dL_law_248 ?_
  refine law_call (wf := wM_ E ad2) (σ := τ) (σ1 := τ1) [.int (xs (i + 1)), .int (xs (i + 2)), .int (xs (i + 3))] [.int r] hx hb hml hown ht hK hPM1 hDM hS1 (fun _ h => h) hl.1 (mC_Model (l := l) (D := D)) cv_L_27 (Lc := 4) (by decide) (c_X9_boom (xs (i + 1)) (xs (i + 2)) (xs (i + 3)) τ r τ1 e2) rfl rfl (Nat.le_of_ble_eq_true rfl) dL_law_249 ⟨Nat.le_refl _, Nat.le_refl _⟩ (fun H2 locs2 hPM2 hDM2 hS2 hk2 => ?_)
  have hPO2 := law_keep hPO1 (law_ne2 hne) hk2
  refine lv_icmp_eq (tgt := 788) hx hb dL_law_252 (by decide) (fun _ => ?_) (fun q => absurd rfl q)
  exact back σ1 τ1 H2 locs2 ls ⟨hR1, hPO2, hPM2, hDO1, hDM2, hS2, hl⟩
theorem law_op_lift {p : Program} {l : Launch} {e : Env} {s : State} {m : MethodId} {below : List Frame} {meth : Method} {c : Code} {b L : Nat} {xs : Nat → Int32} (hL : L ≤ 2560) (C0 : lw_At p s m meth c b L xs) {D : va_G} {E : ojE} {ad ad2 : Nat → Nat} (N0 : lwN s D E ad ad2) {i : Nat} (hi : i + 5 ≤ L) (back : ∀ (σ τ : ojS) (H : Heap) (locs : List Loc) (ls : Array Slot), lwG s b D E ad ad2 i σ τ H locs ls → W p l e room_1 s m #[Value.ref b] below meth c H locs 600000 7302250 (lw_Z below #[Value.ref b] s) (F0 m 788 ls [])) (σ τ : ojS) (H : Heap) (locs : List Loc) (ls : Array Slot) (G : lwG s b D E ad ad2 i σ τ H locs ls) : W p l e room_1 s m #[Value.ref b] below meth c H locs 600000 7302250 (lw_Z below #[Value.ref b] s) (F0 m 257 ls []) := by
  obtain ⟨hx, hb, hr, hml, hown, hts, hX, hbl, hlocks, hgv⟩ := C0
  have ht := ojT_sub hts
  obtain ⟨hK, hne⟩ := N0
  have hbA : ¬ (fun q : Nat => s.heap.size ≤ q) b := Nat.not_le.mpr hbl
  obtain ⟨hR, hPO, hPM, hDO, hDM, hS, hl⟩ := G
  obtain ⟨r, σ1, τ1, e1, e2, hR1⟩ := st_lift hR (xs (i + 1))
  refine lv_aload_n hx hb dL_law_257 rfl (lv_at hl 1 rfl) ?_
  refine law_ld 1 hx hb hX hbl hbA hS (lv_at hl 0 rfl) (lv_at hl 3 rfl) hi hL (by decide) (by decide) dL_law_258 dL_law_259 dL_law_260 dL_law_261 dL_law_262 ?_
  refine law_call (wf := wO_ E ad) (σ := σ) (σ1 := σ1) [.int (xs (i + 1))] [] hx hb hml hown ht hK hPO hDO hS (fun _ h => h) hl.1 (oC_OilWatch (l := l) (D := D)) cv_L_28 (Lc := 4) (by decide) (c_X8_lift (xs (i + 1)) σ r σ1 e1) rfl rfl (Nat.le_of_ble_eq_true rfl) dL_law_263 ⟨Nat.le_refl _, Nat.le_refl _⟩ (fun H1 locs1 hPO1 hDO1 hS1 hk1 => ?_)
  have hPM1 := law_keep hPM (law_ne hne) hk1
  refine lv_aload_n hx hb dL_law_266 rfl (lv_at hl 2 rfl) ?_
  refine law_ld 1 hx hb hX hbl hbA hS1 (lv_at hl 0 rfl) (lv_at hl 3 rfl) hi hL (by decide) (by decide) dL_law_267 dL_law_268 dL_law_269 dL_law_270 dL_law_271 ?_
  refine law_call (wf := wM_ E ad2) (σ := τ) (σ1 := τ1) [.int (xs (i + 1))] [.int r] hx hb hml hown ht hK hPM1 hDM hS1 (fun _ h => h) hl.1 (mC_Model (l := l) (D := D)) cv_L_32 (Lc := 2) (by decide) (c_X9_lift (xs (i + 1)) τ r τ1 e2) rfl rfl (Nat.le_of_ble_eq_true rfl) dL_law_272 ⟨Nat.le_refl _, Nat.le_refl _⟩ (fun H2 locs2 hPM2 hDM2 hS2 hk2 => ?_)
  have hPO2 := law_keep hPO1 (law_ne2 hne) hk2
  refine lv_icmp_eq (tgt := 788) hx hb dL_law_275 (by decide) (fun _ => ?_) (fun q => absurd rfl q)
  exact back σ1 τ1 H2 locs2 ls ⟨hR1, hPO2, hPM2, hDO1, hDM2, hS2, hl⟩
theorem law_op_spill {p : Program} {l : Launch} {e : Env} {s : State} {m : MethodId} {below : List Frame} {meth : Method} {c : Code} {b L : Nat} {xs : Nat → Int32} (hL : L ≤ 2560) (C0 : lw_At p s m meth c b L xs) {D : va_G} {E : ojE} {ad ad2 : Nat → Nat} (N0 : lwN s D E ad ad2) {i : Nat} (hi : i + 5 ≤ L) (back : ∀ (σ τ : ojS) (H : Heap) (locs : List Loc) (ls : Array Slot), lwG s b D E ad ad2 i σ τ H locs ls → W p l e room_1 s m #[Value.ref b] below meth c H locs 600000 7302250 (lw_Z below #[Value.ref b] s) (F0 m 788 ls [])) (σ τ : ojS) (H : Heap) (locs : List Loc) (ls : Array Slot) (G : lwG s b D E ad ad2 i σ τ H locs ls) : W p l e room_1 s m #[Value.ref b] below meth c H locs 600000 7302250 (lw_Z below #[Value.ref b] s) (F0 m 280 ls []) := by
  obtain ⟨hx, hb, hr, hml, hown, hts, hX, hbl, hlocks, hgv⟩ := C0
  have ht := ojT_sub hts
  obtain ⟨hK, hne⟩ := N0
  have hbA : ¬ (fun q : Nat => s.heap.size ≤ q) b := Nat.not_le.mpr hbl
  obtain ⟨hR, hPO, hPM, hDO, hDM, hS, hl⟩ := G
  obtain ⟨r, σ1, τ1, e1, e2, hR1⟩ := st_spill hR (xs (i + 1)) (xs (i + 2))
  refine lv_aload_n hx hb dL_law_280 rfl (lv_at hl 1 rfl) ?_
  refine law_ld 1 hx hb hX hbl hbA hS (lv_at hl 0 rfl) (lv_at hl 3 rfl) hi hL (by decide) (by decide) dL_law_281 dL_law_282 dL_law_283 dL_law_284 dL_law_285 ?_
  refine law_ld 2 hx hb hX hbl hbA hS (lv_at hl 0 rfl) (lv_at hl 3 rfl) hi hL (by decide) (by decide) dL_law_286 dL_law_287 dL_law_288 dL_law_289 dL_law_290 ?_
  refine law_call (wf := wO_ E ad) (σ := σ) (σ1 := σ1) [.int (xs (i + 1)), .int (xs (i + 2))] [] hx hb hml hown ht hK hPO hDO hS (fun _ h => h) hl.1 (oC_OilWatch (l := l) (D := D)) cv_L_33 (Lc := 3) (by decide) (c_X8_spill (xs (i + 1)) (xs (i + 2)) σ r σ1 e1) rfl rfl (Nat.le_of_ble_eq_true rfl) dL_law_291 ⟨Nat.le_refl _, Nat.le_refl _⟩ (fun H1 locs1 hPO1 hDO1 hS1 hk1 => ?_)
  have hPM1 := law_keep hPM (law_ne hne) hk1
  refine lv_aload_n hx hb dL_law_294 rfl (lv_at hl 2 rfl) ?_
  refine law_ld 1 hx hb hX hbl hbA hS1 (lv_at hl 0 rfl) (lv_at hl 3 rfl) hi hL (by decide) (by decide) dL_law_295 dL_law_296 dL_law_297 dL_law_298 dL_law_299 ?_
  refine law_ld 2 hx hb hX hbl hbA hS1 (lv_at hl 0 rfl) (lv_at hl 3 rfl) hi hL (by decide) (by decide) dL_law_300 dL_law_301 dL_law_302 dL_law_303 dL_law_304 ?_
  refine law_call (wf := wM_ E ad2) (σ := τ) (σ1 := τ1) [.int (xs (i + 1)), .int (xs (i + 2))] [.int r] hx hb hml hown ht hK hPM1 hDM hS1 (fun _ h => h) hl.1 (mC_Model (l := l) (D := D)) cv_L_37 (Lc := 4) (by decide) (c_X9_spill (xs (i + 1)) (xs (i + 2)) τ r τ1 e2) rfl rfl (Nat.le_of_ble_eq_true rfl) dL_law_305 ⟨Nat.le_refl _, Nat.le_refl _⟩ (fun H2 locs2 hPM2 hDM2 hS2 hk2 => ?_)
  have hPO2 := law_keep hPO1 (law_ne2 hne) hk2
  refine lv_icmp_eq (tgt := 788) hx hb dL_law_308 (by decide) (fun _ => ?_) (fun q => absurd rfl q)
  exact back σ1 τ1 H2 locs2 ls ⟨hR1, hPO2, hPM2, hDO1, hDM2, hS2, hl⟩
theorem law_op_skimmer {p : Program} {l : Launch} {e : Env} {s : State} {m : MethodId} {below : List Frame} {meth : Method} {c : Code} {b L : Nat} {xs : Nat → Int32} (hL : L ≤ 2560) (C0 : lw_At p s m meth c b L xs) {D : va_G} {E : ojE} {ad ad2 : Nat → Nat} (N0 : lwN s D E ad ad2) {i : Nat} (hi : i + 5 ≤ L) (back : ∀ (σ τ : ojS) (H : Heap) (locs : List Loc) (ls : Array Slot), lwG s b D E ad ad2 i σ τ H locs ls → W p l e room_1 s m #[Value.ref b] below meth c H locs 600000 7302250 (lw_Z below #[Value.ref b] s) (F0 m 788 ls [])) (σ τ : ojS) (H : Heap) (locs : List Loc) (ls : Array Slot) (G : lwG s b D E ad ad2 i σ τ H locs ls) : W p l e room_1 s m #[Value.ref b] below meth c H locs 600000 7302250 (lw_Z below #[Value.ref b] s) (F0 m 313 ls []) := by
  obtain ⟨hx, hb, hr, hml, hown, hts, hX, hbl, hlocks, hgv⟩ := C0
  have ht := ojT_sub hts
  obtain ⟨hK, hne⟩ := N0
  have hbA : ¬ (fun q : Nat => s.heap.size ≤ q) b := Nat.not_le.mpr hbl
  obtain ⟨hR, hPO, hPM, hDO, hDM, hS, hl⟩ := G
  obtain ⟨r, σ1, τ1, e1, e2, hR1⟩ := st_skimmer hR (xs (i + 1)) (xs (i + 2)) (xs (i + 3)) (xs (i + 4))
  refine lv_aload_n hx hb dL_law_313 rfl (lv_at hl 1 rfl) ?_
  refine law_ld 1 hx hb hX hbl hbA hS (lv_at hl 0 rfl) (lv_at hl 3 rfl) hi hL (by decide) (by decide) dL_law_314 dL_law_315 dL_law_316 dL_law_317 dL_law_318 ?_
  refine law_ld 2 hx hb hX hbl hbA hS (lv_at hl 0 rfl) (lv_at hl 3 rfl) hi hL (by decide) (by decide) dL_law_319 dL_law_320 dL_law_321 dL_law_322 dL_law_323 ?_
  refine law_ld 3 hx hb hX hbl hbA hS (lv_at hl 0 rfl) (lv_at hl 3 rfl) hi hL (by decide) (by decide) dL_law_324 dL_law_325 dL_law_326 dL_law_327 dL_law_328 ?_
  refine law_ld 4 hx hb hX hbl hbA hS (lv_at hl 0 rfl) (lv_at hl 3 rfl) hi hL (by decide) (by decide) dL_law_329 dL_law_330 dL_law_331 dL_law_332 dL_law_333 ?_
  refine law_call (wf := wO_ E ad) (σ := σ) (σ1 := σ1) [.int (xs (i + 1)), .int (xs (i + 2)), .int (xs (i + 3)), .int (xs (i + 4))] [] hx hb hml hown ht hK hPO hDO hS (fun _ h => h) hl.1 (oC_OilWatch (l := l) (D := D)) cv_L_38 (Lc := 3) (by decide) (c_X8_skimmer (xs (i + 1)) (xs (i + 2)) (xs (i + 3)) (xs (i + 4)) σ r σ1 e1) rfl rfl (Nat.le_of_ble_eq_true rfl) dL_law_334 ⟨Nat.le_refl _, Nat.le_refl _⟩ (fun H1 locs1 hPO1 hDO1 hS1 hk1 => ?_)
  have hPM1 := law_keep hPM (law_ne hne) hk1
  refine lv_aload_n hx hb dL_law_337 rfl (lv_at hl 2 rfl) ?_
  refine law_ld 1 hx hb hX hbl hbA hS1 (lv_at hl 0 rfl) (lv_at hl 3 rfl) hi hL (by decide) (by decide) dL_law_338 dL_law_339 dL_law_340 dL_law_341 dL_law_342 ?_
  refine law_ld 2 hx hb hX hbl hbA hS1 (lv_at hl 0 rfl) (lv_at hl 3 rfl) hi hL (by decide) (by decide) dL_law_343 dL_law_344 dL_law_345 dL_law_346 dL_law_347 ?_
  refine law_ld 3 hx hb hX hbl hbA hS1 (lv_at hl 0 rfl) (lv_at hl 3 rfl) hi hL (by decide) (by decide) dL_law_348 dL_law_349 dL_law_350 dL_law_351 dL_law_352 ?_
  refine law_ld 4 hx hb hX hbl hbA hS1 (lv_at hl 0 rfl) (lv_at hl 3 rfl) hi hL (by decide) (by decide) dL_law_353 dL_law_354 dL_law_355 dL_law_356 dL_law_357 ?_
  refine law_call (wf := wM_ E ad2) (σ := τ) (σ1 := τ1) [.int (xs (i + 1)), .int (xs (i + 2)), .int (xs (i + 3)), .int (xs (i + 4))] [.int r] hx hb hml hown ht hK hPM1 hDM hS1 (fun _ h => h) hl.1 (mC_Model (l := l) (D := D)) cv_L_42 (Lc := 4) (by decide) (c_X9_skimmer (xs (i + 1)) (xs (i + 2)) (xs (i + 3)) (xs (i + 4)) τ r τ1 e2) rfl rfl (Nat.le_of_ble_eq_true rfl) dL_law_358 ⟨Nat.le_refl _, Nat.le_refl _⟩ (fun H2 locs2 hPM2 hDM2 hS2 hk2 => ?_)
  have hPO2 := law_keep hPO1 (law_ne2 hne) hk2
  refine lv_icmp_eq (tgt := 788) hx hb dL_law_361 (by decide) (fun _ => ?_) (fun q => absurd rfl q)
  exact back σ1 τ1 H2 locs2 ls ⟨hR1, hPO2, hPM2, hDO1, hDM2, hS2, hl⟩
theorem law_op_sail {p : Program} {l : Launch} {e : Env} {s : State} {m : MethodId} {below : List Frame} {meth : Method} {c : Code} {b L : Nat} {xs : Nat → Int32} (hL : L ≤ 2560) (C0 : lw_At p s m meth c b L xs) {D : va_G} {E : ojE} {ad ad2 : Nat → Nat} (N0 : lwN s D E ad ad2) {i : Nat} (hi : i + 5 ≤ L) (back : ∀ (σ τ : ojS) (H : Heap) (locs : List Loc) (ls : Array Slot), lwG s b D E ad ad2 i σ τ H locs ls → W p l e room_1 s m #[Value.ref b] below meth c H locs 600000 7302250 (lw_Z below #[Value.ref b] s) (F0 m 788 ls [])) (σ τ : ojS) (H : Heap) (locs : List Loc) (ls : Array Slot) (G : lwG s b D E ad ad2 i σ τ H locs ls) : W p l e room_1 s m #[Value.ref b] below meth c H locs 600000 7302250 (lw_Z below #[Value.ref b] s) (F0 m 366 ls []) := by
  obtain ⟨hx, hb, hr, hml, hown, hts, hX, hbl, hlocks, hgv⟩ := C0
  have ht := ojT_sub hts
  obtain ⟨hK, hne⟩ := N0
  have hbA : ¬ (fun q : Nat => s.heap.size ≤ q) b := Nat.not_le.mpr hbl
  obtain ⟨hR, hPO, hPM, hDO, hDM, hS, hl⟩ := G
  obtain ⟨r, σ1, τ1, e1, e2, hR1⟩ := st_sail hR (xs (i + 1)) (xs (i + 2))
  refine lv_aload_n hx hb dL_law_366 rfl (lv_at hl 1 rfl) ?_
  refine law_ld 1 hx hb hX hbl hbA hS (lv_at hl 0 rfl) (lv_at hl 3 rfl) hi hL (by decide) (by decide) dL_law_367 dL_law_368 dL_law_369 dL_law_370 dL_law_371 ?_
  refine law_ld 2 hx hb hX hbl hbA hS (lv_at hl 0 rfl) (lv_at hl 3 rfl) hi hL (by decide) (by decide) dL_law_372 dL_law_373 dL_law_374 dL_law_375 dL_law_376 ?_
  refine law_call (wf := wO_ E ad) (σ := σ) (σ1 := σ1) [.int (xs (i + 1)), .int (xs (i + 2))] [] hx hb hml hown ht hK hPO hDO hS (fun _ h => h) hl.1 (oC_OilWatch (l := l) (D := D)) cv_L_43 (Lc := 12) (by decide) (c_X8_sail (xs (i + 1)) (xs (i + 2)) σ r σ1 e1) rfl rfl (Nat.le_of_ble_eq_true rfl) dL_law_377 ⟨Nat.le_refl _, Nat.le_refl _⟩ (fun H1 locs1 hPO1 hDO1 hS1 hk1 => ?_)
  have hPM1 := law_keep hPM (law_ne hne) hk1
  refine lv_aload_n hx hb dL_law_380 rfl (lv_at hl 2 rfl) ?_
  refine law_ld 1 hx hb hX hbl hbA hS1 (lv_at hl 0 rfl) (lv_at hl 3 rfl) hi hL (by decide) (by decide) dL_law_381 dL_law_382 dL_law_383 dL_law_384 dL_law_385 ?_
  refine law_ld 2 hx hb hX hbl hbA hS1 (lv_at hl 0 rfl) (lv_at hl 3 rfl) hi hL (by decide) (by decide) dL_law_386 dL_law_387 dL_law_388 dL_law_389 dL_law_390 ?_
  refine law_call (wf := wM_ E ad2) (σ := τ) (σ1 := τ1) [.int (xs (i + 1)), .int (xs (i + 2))] [.int r] hx hb hml hown ht hK hPM1 hDM hS1 (fun _ h => h) hl.1 (mC_Model (l := l) (D := D)) cv_L_46 (Lc := 6) (by decide) (c_X9_sail (xs (i + 1)) (xs (i + 2)) τ r τ1 e2) rfl rfl (Nat.le_of_ble_eq_true rfl) dL_law_391 ⟨Nat.le_refl _, Nat.le_refl _⟩ (fun H2 locs2 hPM2 hDM2 hS2 hk2 => ?_)
  have hPO2 := law_keep hPO1 (law_ne2 hne) hk2
  refine lv_icmp_eq (tgt := 788) hx hb dL_law_394 (by decide) (fun _ => ?_) (fun q => absurd rfl q)
  exact back σ1 τ1 H2 locs2 ls ⟨hR1, hPO2, hPM2, hDO1, hDM2, hS2, hl⟩
theorem law_op_empty {p : Program} {l : Launch} {e : Env} {s : State} {m : MethodId} {below : List Frame} {meth : Method} {c : Code} {b L : Nat} {xs : Nat → Int32} (hL : L ≤ 2560) (C0 : lw_At p s m meth c b L xs) {D : va_G} {E : ojE} {ad ad2 : Nat → Nat} (N0 : lwN s D E ad ad2) {i : Nat} (hi : i + 5 ≤ L) (back : ∀ (σ τ : ojS) (H : Heap) (locs : List Loc) (ls : Array Slot), lwG s b D E ad ad2 i σ τ H locs ls → W p l e room_1 s m #[Value.ref b] below meth c H locs 600000 7302250 (lw_Z below #[Value.ref b] s) (F0 m 788 ls [])) (σ τ : ojS) (H : Heap) (locs : List Loc) (ls : Array Slot) (G : lwG s b D E ad ad2 i σ τ H locs ls) : W p l e room_1 s m #[Value.ref b] below meth c H locs 600000 7302250 (lw_Z below #[Value.ref b] s) (F0 m 399 ls []) := by
  obtain ⟨hx, hb, hr, hml, hown, hts, hX, hbl, hlocks, hgv⟩ := C0
  have ht := ojT_sub hts
  obtain ⟨hK, hne⟩ := N0
  have hbA : ¬ (fun q : Nat => s.heap.size ≤ q) b := Nat.not_le.mpr hbl
  obtain ⟨hR, hPO, hPM, hDO, hDM, hS, hl⟩ := G
  obtain ⟨r, σ1, τ1, e1, e2, hR1⟩ := st_empty hR (xs (i + 1))
  refine lv_aload_n hx hb dL_law_399 rfl (lv_at hl 1 rfl) ?_
  refine law_ld 1 hx hb hX hbl hbA hS (lv_at hl 0 rfl) (lv_at hl 3 rfl) hi hL (by decide) (by decide) dL_law_400 dL_law_401 dL_law_402 dL_law_403 dL_law_404 ?_
  refine law_call (wf := wO_ E ad) (σ := σ) (σ1 := σ1) [.int (xs (i + 1))] [] hx hb hml hown ht hK hPO hDO hS (fun _ h => h) hl.1 (oC_OilWatch (l := l) (D := D)) cv_L_47 (Lc := 2) (by decide) (c_X8_empty (xs (i + 1)) σ r σ1 e1) rfl rfl (Nat.le_of_ble_eq_true rfl) dL_law_405 ⟨Nat.le_refl _, Nat.le_refl _⟩ (fun H1 locs1 hPO1 hDO1 hS1 hk1 => ?_)
  have hPM1 := law_keep hPM (law_ne hne) hk1
  refine lv_aload_n hx hb dL_law_408 rfl (lv_at hl 2 rfl) ?_
  refine law_ld 1 hx hb hX hbl hbA hS1 (lv_at hl 0 rfl) (lv_at hl 3 rfl) hi hL (by decide) (by decide) dL_law_409 dL_law_410 dL_law_411 dL_law_412 dL_law_413 ?_
  refine law_call (wf := wM_ E ad2) (σ := τ) (σ1 := τ1) [.int (xs (i + 1))] [.int r] hx hb hml hown ht hK hPM1 hDM hS1 (fun _ h => h) hl.1 (mC_Model (l := l) (D := D)) cv_L_51 (Lc := 3) (by decide) (c_X9_empty (xs (i + 1)) τ r τ1 e2) rfl rfl (Nat.le_of_ble_eq_true rfl) dL_law_414 ⟨Nat.le_refl _, Nat.le_refl _⟩ (fun H2 locs2 hPM2 hDM2 hS2 hk2 => ?_)
  have hPO2 := law_keep hPO1 (law_ne2 hne) hk2
  refine lv_icmp_eq (tgt := 788) hx hb dL_law_417 (by decide) (fun _ => ?_) (fun q => absurd rfl q)
  exact back σ1 τ1 H2 locs2 ls ⟨hR1, hPO2, hPM2, hDO1, hDM2, hS2, hl⟩
theorem law_op_go {p : Program} {l : Launch} {e : Env} {s : State} {m : MethodId} {below : List Frame} {meth : Method} {c : Code} {b L : Nat} {xs : Nat → Int32} (hL : L ≤ 2560) (C0 : lw_At p s m meth c b L xs) {D : va_G} {E : ojE} {ad ad2 : Nat → Nat} (N0 : lwN s D E ad ad2) {i : Nat} (hi : i + 5 ≤ L) (back : ∀ (σ τ : ojS) (H : Heap) (locs : List Loc) (ls : Array Slot), lwG s b D E ad ad2 i σ τ H locs ls → W p l e room_1 s m #[Value.ref b] below meth c H locs 600000 7302250 (lw_Z below #[Value.ref b] s) (F0 m 788 ls [])) (σ τ : ojS) (H : Heap) (locs : List Loc) (ls : Array Slot) (G : lwG s b D E ad ad2 i σ τ H locs ls) : W p l e room_1 s m #[Value.ref b] below meth c H locs 600000 7302250 (lw_Z below #[Value.ref b] s) (F0 m 422 ls []) := by
  obtain ⟨hx, hb, hr, hml, hown, hts, hX, hbl, hlocks, hgv⟩ := C0
  have ht := ojT_sub hts
  obtain ⟨hK, hne⟩ := N0
  have hbA : ¬ (fun q : Nat => s.heap.size ≤ q) b := Nat.not_le.mpr hbl
  obtain ⟨hR, hPO, hPM, hDO, hDM, hS, hl⟩ := G
  obtain ⟨r, σ1, τ1, e1, e2, hR1⟩ := st_go hR (xs (i + 1))
  refine lv_aload_n hx hb dL_law_422 rfl (lv_at hl 1 rfl) ?_
  refine law_ld 1 hx hb hX hbl hbA hS (lv_at hl 0 rfl) (lv_at hl 3 rfl) hi hL (by decide) (by decide) dL_law_423 dL_law_424 dL_law_425 dL_law_426 dL_law_427 ?_
  refine law_call (wf := wO_ E ad) (σ := σ) (σ1 := σ1) [.int (xs (i + 1))] [] hx hb hml hown ht hK hPO hDO hS (fun _ h => h) hl.1 (oC_OilWatch (l := l) (D := D)) cv_L_52 (Lc := 6) (by decide) (c_X8_go (xs (i + 1)) σ r σ1 e1) rfl rfl (Nat.le_of_ble_eq_true rfl) dL_law_428 ⟨Nat.le_refl _, Nat.le_refl _⟩ (fun H1 locs1 hPO1 hDO1 hS1 hk1 => ?_)
  have hPM1 := law_keep hPM (law_ne hne) hk1
  refine lv_aload_n hx hb dL_law_431 rfl (lv_at hl 2 rfl) ?_
  refine law_ld 1 hx hb hX hbl hbA hS1 (lv_at hl 0 rfl) (lv_at hl 3 rfl) hi hL (by decide) (by decide) dL_law_432 dL_law_433 dL_law_434 dL_law_435 dL_law_436 ?_
  refine law_call (wf := wM_ E ad2) (σ := τ) (σ1 := τ1) [.int (xs (i + 1))] [.int r] hx hb hml hown ht hK hPM1 hDM hS1 (fun _ h => h) hl.1 (mC_Model (l := l) (D := D)) cv_L_55 (Lc := 4) (by decide) (c_X9_go (xs (i + 1)) τ r τ1 e2) rfl rfl (Nat.le_of_ble_eq_true rfl) dL_law_437 ⟨Nat.le_refl _, Nat.le_refl _⟩ (fun H2 locs2 hPM2 hDM2 hS2 hk2 => ?_)
  have hPO2 := law_keep hPO1 (law_ne2 hne) hk2
  refine lv_icmp_eq (tgt := 788) hx hb dL_law_440 (by decide) (fun _ => ?_) (fun q => absurd rfl q)
  exact back σ1 τ1 H2 locs2 ls ⟨hR1, hPO2, hPM2, hDO1, hDM2, hS2, hl⟩
theorem law_op_oil {p : Program} {l : Launch} {e : Env} {s : State} {m : MethodId} {below : List Frame} {meth : Method} {c : Code} {b L : Nat} {xs : Nat → Int32} (hL : L ≤ 2560) (C0 : lw_At p s m meth c b L xs) {D : va_G} {E : ojE} {ad ad2 : Nat → Nat} (N0 : lwN s D E ad ad2) {i : Nat} (hi : i + 5 ≤ L) (back : ∀ (σ τ : ojS) (H : Heap) (locs : List Loc) (ls : Array Slot), lwG s b D E ad ad2 i σ τ H locs ls → W p l e room_1 s m #[Value.ref b] below meth c H locs 600000 7302250 (lw_Z below #[Value.ref b] s) (F0 m 788 ls [])) (σ τ : ojS) (H : Heap) (locs : List Loc) (ls : Array Slot) (G : lwG s b D E ad ad2 i σ τ H locs ls) : W p l e room_1 s m #[Value.ref b] below meth c H locs 600000 7302250 (lw_Z below #[Value.ref b] s) (F0 m 445 ls []) := by
  obtain ⟨hx, hb, hr, hml, hown, hts, hX, hbl, hlocks, hgv⟩ := C0
  have ht := ojT_sub hts
  obtain ⟨hK, hne⟩ := N0
  have hbA : ¬ (fun q : Nat => s.heap.size ≤ q) b := Nat.not_le.mpr hbl
  obtain ⟨hR, hPO, hPM, hDO, hDM, hS, hl⟩ := G
  obtain ⟨r, e1, e2⟩ := st_oil hR (xs (i + 1))
  refine lv_aload_n hx hb dL_law_445 rfl (lv_at hl 1 rfl) ?_
  refine law_ld 1 hx hb hX hbl hbA hS (lv_at hl 0 rfl) (lv_at hl 3 rfl) hi hL (by decide) (by decide) dL_law_446 dL_law_447 dL_law_448 dL_law_449 dL_law_450 ?_
  refine law_call (wf := wO_ E ad) (σ := σ) (σ1 := σ) [.int (xs (i + 1))] [] hx hb hml hown ht hK hPO hDO hS (fun _ h => h) hl.1 (oC_OilWatch (l := l) (D := D)) cv_L_56 (Lc := 2) (by decide) (c_X8_oil (xs (i + 1)) σ r e1) rfl rfl (Nat.le_of_ble_eq_true rfl) dL_law_451 ⟨Nat.le_refl _, Nat.le_refl _⟩ (fun H1 locs1 hPO1 hDO1 hS1 hk1 => ?_)
  have hPM1 := law_keep hPM (law_ne hne) hk1
  refine lv_aload_n hx hb dL_law_454 rfl (lv_at hl 2 rfl) ?_
  refine law_ld 1 hx hb hX hbl hbA hS1 (lv_at hl 0 rfl) (lv_at hl 3 rfl) hi hL (by decide) (by decide) dL_law_455 dL_law_456 dL_law_457 dL_law_458 dL_law_459 ?_
  refine law_call (wf := wM_ E ad2) (σ := τ) (σ1 := τ) [.int (xs (i + 1))] [.int r] hx hb hml hown ht hK hPM1 hDM hS1 (fun _ h => h) hl.1 (mC_Model (l := l) (D := D)) cv_L_59 (Lc := 3) (by decide) (c_X9_oil (xs (i + 1)) τ r e2) rfl rfl (Nat.le_of_ble_eq_true rfl) dL_law_460 ⟨Nat.le_refl _, Nat.le_refl _⟩ (fun H2 locs2 hPM2 hDM2 hS2 hk2 => ?_)
  have hPO2 := law_keep hPO1 (law_ne2 hne) hk2
  refine lv_icmp_eq (tgt := 788) hx hb dL_law_463 (by decide) (fun _ => ?_) (fun q => absurd rfl q)
  exact back σ τ H2 locs2 ls ⟨hR, hPO2, hPM2, hDO1, hDM2, hS2, hl⟩
theorem law_op_foretold {p : Program} {l : Launch} {e : Env} {s : State} {m : MethodId} {below : List Frame} {meth : Method} {c : Code} {b L : Nat} {xs : Nat → Int32} (hL : L ≤ 2560) (C0 : lw_At p s m meth c b L xs) {D : va_G} {E : ojE} {ad ad2 : Nat → Nat} (N0 : lwN s D E ad ad2) {i : Nat} (hi : i + 5 ≤ L) (back : ∀ (σ τ : ojS) (H : Heap) (locs : List Loc) (ls : Array Slot), lwG s b D E ad ad2 i σ τ H locs ls → W p l e room_1 s m #[Value.ref b] below meth c H locs 600000 7302250 (lw_Z below #[Value.ref b] s) (F0 m 788 ls [])) (σ τ : ojS) (H : Heap) (locs : List Loc) (ls : Array Slot) (G : lwG s b D E ad ad2 i σ τ H locs ls) : W p l e room_1 s m #[Value.ref b] below meth c H locs 600000 7302250 (lw_Z below #[Value.ref b] s) (F0 m 468 ls []) := by
  obtain ⟨hx, hb, hr, hml, hown, hts, hX, hbl, hlocks, hgv⟩ := C0
  have ht := ojT_sub hts
  obtain ⟨hK, hne⟩ := N0
  have hbA : ¬ (fun q : Nat => s.heap.size ≤ q) b := Nat.not_le.mpr hbl
  obtain ⟨hR, hPO, hPM, hDO, hDM, hS, hl⟩ := G
  obtain ⟨r, σ1, τ1, e1, e2, hR1⟩ := st_foretold hR (xs (i + 1)) (xs (i + 2))
  refine lv_aload_n hx hb dL_law_468 rfl (lv_at hl 1 rfl) ?_
  refine law_ld 1 hx hb hX hbl hbA hS (lv_at hl 0 rfl) (lv_at hl 3 rfl) hi hL (by decide) (by decide) dL_law_469 dL_law_470 dL_law_471 dL_law_472 dL_law_473 ?_
  refine law_ld 2 hx hb hX hbl hbA hS (lv_at hl 0 rfl) (lv_at hl 3 rfl) hi hL (by decide) (by decide) dL_law_474 dL_law_475 dL_law_476 dL_law_477 dL_law_478 ?_
  refine law_call (wf := wO_ E ad) (σ := σ) (σ1 := σ1) [.int (xs (i + 1)), .int (xs (i + 2))] [] hx hb hml hown ht hK hPO hDO hS (fun _ h => h) hl.1 (oC_OilWatch (l := l) (D := D)) cv_L_60 (Lc := 7) (by decide) (c_X8_foretold (xs (i + 1)) (xs (i + 2)) σ r σ1 e1) rfl rfl (Nat.le_of_ble_eq_true rfl) dL_law_479 ⟨Nat.le_refl _, Nat.le_refl _⟩ (fun H1 locs1 hPO1 hDO1 hS1 hk1 => ?_)
  have hPM1 := law_keep hPM (law_ne hne) hk1
  refine lv_aload_n hx hb dL_law_482 rfl (lv_at hl 2 rfl) ?_
  refine law_ld 1 hx hb hX hbl hbA hS1 (lv_at hl 0 rfl) (lv_at hl 3 rfl) hi hL (by decide) (by decide) dL_law_483 dL_law_484 dL_law_485 dL_law_486 dL_law_487 ?_
  refine law_ld 2 hx hb hX hbl hbA hS1 (lv_at hl 0 rfl) (lv_at hl 3 rfl) hi hL (by decide) (by decide) dL_law_488 dL_law_489 dL_law_490 dL_law_491 dL_law_492 ?_
  refine law_call (wf := wM_ E ad2) (σ := τ) (σ1 := τ1) [.int (xs (i + 1)), .int (xs (i + 2))] [.int r] hx hb hml hown ht hK hPM1 hDM hS1 (fun _ h => h) hl.1 (mC_Model (l := l) (D := D)) cv_L_63 (Lc := 4) (by decide) (c_X9_foretold (xs (i + 1)) (xs (i + 2)) τ r τ1 e2) rfl rfl (Nat.le_of_ble_eq_true rfl) dL_law_493 ⟨Nat.le_refl _, Nat.le_refl _⟩ (fun H2 locs2 hPM2 hDM2 hS2 hk2 => ?_)
  have hPO2 := law_keep hPO1 (law_ne2 hne) hk2
  refine lv_icmp_eq (tgt := 788) hx hb dL_law_496 (by decide) (fun _ => ?_) (fun q => absurd rfl q)
  exact back σ1 τ1 H2 locs2 ls ⟨hR1, hPO2, hPM2, hDO1, hDM2, hS2, hl⟩
theorem law_op_worst {p : Program} {l : Launch} {e : Env} {s : State} {m : MethodId} {below : List Frame} {meth : Method} {c : Code} {b L : Nat} {xs : Nat → Int32} (hL : L ≤ 2560) (C0 : lw_At p s m meth c b L xs) {D : va_G} {E : ojE} {ad ad2 : Nat → Nat} (N0 : lwN s D E ad ad2) {i : Nat} (hi : i + 5 ≤ L) (back : ∀ (σ τ : ojS) (H : Heap) (locs : List Loc) (ls : Array Slot), lwG s b D E ad ad2 i σ τ H locs ls → W p l e room_1 s m #[Value.ref b] below meth c H locs 600000 7302250 (lw_Z below #[Value.ref b] s) (F0 m 788 ls [])) (σ τ : ojS) (H : Heap) (locs : List Loc) (ls : Array Slot) (G : lwG s b D E ad ad2 i σ τ H locs ls) : W p l e room_1 s m #[Value.ref b] below meth c H locs 600000 7302250 (lw_Z below #[Value.ref b] s) (F0 m 501 ls []) := by
  obtain ⟨hx, hb, hr, hml, hown, hts, hX, hbl, hlocks, hgv⟩ := C0
  have ht := ojT_sub hts
  obtain ⟨hK, hne⟩ := N0
  have hbA : ¬ (fun q : Nat => s.heap.size ≤ q) b := Nat.not_le.mpr hbl
  obtain ⟨hR, hPO, hPM, hDO, hDM, hS, hl⟩ := G
  obtain ⟨r, σ1, τ1, e1, e2, hR1⟩ := st_worst hR (xs (i + 1))
  refine lv_aload_n hx hb dL_law_501 rfl (lv_at hl 1 rfl) ?_
  refine law_ld 1 hx hb hX hbl hbA hS (lv_at hl 0 rfl) (lv_at hl 3 rfl) hi hL (by decide) (by decide) dL_law_502 dL_law_503 dL_law_504 dL_law_505 dL_law_506 ?_
  refine law_call (wf := wO_ E ad) (σ := σ) (σ1 := σ1) [.int (xs (i + 1))] [] hx hb hml hown ht hK hPO hDO hS (fun _ h => h) hl.1 (oC_OilWatch (l := l) (D := D)) cv_L_64 (Lc := 7) (by decide) (c_X8_worst (xs (i + 1)) σ r σ1 e1) rfl rfl (Nat.le_of_ble_eq_true rfl) dL_law_507 ⟨Nat.le_refl _, Nat.le_refl _⟩ (fun H1 locs1 hPO1 hDO1 hS1 hk1 => ?_)
  have hPM1 := law_keep hPM (law_ne hne) hk1
  refine lv_aload_n hx hb dL_law_510 rfl (lv_at hl 2 rfl) ?_
  refine law_ld 1 hx hb hX hbl hbA hS1 (lv_at hl 0 rfl) (lv_at hl 3 rfl) hi hL (by decide) (by decide) dL_law_511 dL_law_512 dL_law_513 dL_law_514 dL_law_515 ?_
  refine law_call (wf := wM_ E ad2) (σ := τ) (σ1 := τ1) [.int (xs (i + 1))] [.int r] hx hb hml hown ht hK hPM1 hDM hS1 (fun _ h => h) hl.1 (mC_Model (l := l) (D := D)) cv_L_67 (Lc := 5) (by decide) (c_X9_worst (xs (i + 1)) τ r τ1 e2) rfl rfl (Nat.le_of_ble_eq_true rfl) dL_law_516 ⟨Nat.le_refl _, Nat.le_refl _⟩ (fun H2 locs2 hPM2 hDM2 hS2 hk2 => ?_)
  have hPO2 := law_keep hPO1 (law_ne2 hne) hk2
  refine lv_icmp_eq (tgt := 788) hx hb dL_law_519 (by decide) (fun _ => ?_) (fun q => absurd rfl q)
  exact back σ1 τ1 H2 locs2 ls ⟨hR1, hPO2, hPM2, hDO1, hDM2, hS2, hl⟩
theorem law_op_best {p : Program} {l : Launch} {e : Env} {s : State} {m : MethodId} {below : List Frame} {meth : Method} {c : Code} {b L : Nat} {xs : Nat → Int32} (hL : L ≤ 2560) (C0 : lw_At p s m meth c b L xs) {D : va_G} {E : ojE} {ad ad2 : Nat → Nat} (N0 : lwN s D E ad ad2) {i : Nat} (hi : i + 5 ≤ L) (back : ∀ (σ τ : ojS) (H : Heap) (locs : List Loc) (ls : Array Slot), lwG s b D E ad ad2 i σ τ H locs ls → W p l e room_1 s m #[Value.ref b] below meth c H locs 600000 7302250 (lw_Z below #[Value.ref b] s) (F0 m 788 ls [])) (σ τ : ojS) (H : Heap) (locs : List Loc) (ls : Array Slot) (G : lwG s b D E ad ad2 i σ τ H locs ls) : W p l e room_1 s m #[Value.ref b] below meth c H locs 600000 7302250 (lw_Z below #[Value.ref b] s) (F0 m 524 ls []) := by
  obtain ⟨hx, hb, hr, hml, hown, hts, hX, hbl, hlocks, hgv⟩ := C0
  have ht := ojT_sub hts
  obtain ⟨hK, hne⟩ := N0
  have hbA : ¬ (fun q : Nat => s.heap.size ≤ q) b := Nat.not_le.mpr hbl
  obtain ⟨hR, hPO, hPM, hDO, hDM, hS, hl⟩ := G
  obtain ⟨r, σ1, τ1, e1, e2, hR1⟩ := st_best hR (xs (i + 1)) (xs (i + 2)) (xs (i + 3))
  refine lv_aload_n hx hb dL_law_524 rfl (lv_at hl 1 rfl) ?_
  refine law_ld 1 hx hb hX hbl hbA hS (lv_at hl 0 rfl) (lv_at hl 3 rfl) hi hL (by decide) (by decide) dL_law_525 dL_law_526 dL_law_527 dL_law_528 dL_law_529 ?_
  refine law_ld 2 hx hb hX hbl hbA hS (lv_at hl 0 rfl) (lv_at hl 3 rfl) hi hL (by decide) (by decide) dL_law_530 dL_law_531 dL_law_532 dL_law_533 dL_law_534 ?_
  refine law_ld 3 hx hb hX hbl hbA hS (lv_at hl 0 rfl) (lv_at hl 3 rfl) hi hL (by decide) (by decide) dL_law_535 dL_law_536 dL_law_537 dL_law_538 dL_law_539 ?_
  refine law_call (wf := wO_ E ad) (σ := σ) (σ1 := σ1) [.int (xs (i + 1)), .int (xs (i + 2)), .int (xs (i + 3))] [] hx hb hml hown ht hK hPO hDO hS (fun _ h => h) hl.1 (oC_OilWatch (l := l) (D := D)) cv_L_68 (Lc := 21) (by decide) (c_X8_best (xs (i + 1)) (xs (i + 2)) (xs (i + 3)) σ r σ1 e1) rfl rfl (Nat.le_of_ble_eq_true rfl) dL_law_540 ⟨Nat.le_refl _, Nat.le_refl _⟩ (fun H1 locs1 hPO1 hDO1 hS1 hk1 => ?_)
  have hPM1 := law_keep hPM (law_ne hne) hk1
  refine lv_aload_n hx hb dL_law_543 rfl (lv_at hl 2 rfl) ?_
  refine law_ld 1 hx hb hX hbl hbA hS1 (lv_at hl 0 rfl) (lv_at hl 3 rfl) hi hL (by decide) (by decide) dL_law_544 dL_law_545 dL_law_546 dL_law_547 dL_law_548 ?_
  refine law_ld 2 hx hb hX hbl hbA hS1 (lv_at hl 0 rfl) (lv_at hl 3 rfl) hi hL (by decide) (by decide) dL_law_549 dL_law_550 dL_law_551 dL_law_552 dL_law_553 ?_
  refine law_ld 3 hx hb hX hbl hbA hS1 (lv_at hl 0 rfl) (lv_at hl 3 rfl) hi hL (by decide) (by decide) dL_law_554 dL_law_555 dL_law_556 dL_law_557 dL_law_558 ?_
  refine law_call (wf := wM_ E ad2) (σ := τ) (σ1 := τ1) [.int (xs (i + 1)), .int (xs (i + 2)), .int (xs (i + 3))] [.int r] hx hb hml hown ht hK hPM1 hDM hS1 (fun _ h => h) hl.1 (mC_Model (l := l) (D := D)) cv_L_71 (Lc := 7) (by decide) (c_X9_best (xs (i + 1)) (xs (i + 2)) (xs (i + 3)) τ r τ1 e2) rfl rfl (Nat.le_of_ble_eq_true rfl) dL_law_559 ⟨Nat.le_refl _, Nat.le_refl _⟩ (fun H2 locs2 hPM2 hDM2 hS2 hk2 => ?_)
  have hPO2 := law_keep hPO1 (law_ne2 hne) hk2
  refine lv_icmp_eq (tgt := 788) hx hb dL_law_562 (by decide) (fun _ => ?_) (fun q => absurd rfl q)
  exact back σ1 τ1 H2 locs2 ls ⟨hR1, hPO2, hPM2, hDO1, hDM2, hS2, hl⟩
theorem law_op_ship {p : Program} {l : Launch} {e : Env} {s : State} {m : MethodId} {below : List Frame} {meth : Method} {c : Code} {b L : Nat} {xs : Nat → Int32} (hL : L ≤ 2560) (C0 : lw_At p s m meth c b L xs) {D : va_G} {E : ojE} {ad ad2 : Nat → Nat} (N0 : lwN s D E ad ad2) {i : Nat} (hi : i + 5 ≤ L) (back : ∀ (σ τ : ojS) (H : Heap) (locs : List Loc) (ls : Array Slot), lwG s b D E ad ad2 i σ τ H locs ls → W p l e room_1 s m #[Value.ref b] below meth c H locs 600000 7302250 (lw_Z below #[Value.ref b] s) (F0 m 788 ls [])) (σ τ : ojS) (H : Heap) (locs : List Loc) (ls : Array Slot) (G : lwG s b D E ad ad2 i σ τ H locs ls) : W p l e room_1 s m #[Value.ref b] below meth c H locs 600000 7302250 (lw_Z below #[Value.ref b] s) (F0 m 567 ls []) := by
  obtain ⟨hx, hb, hr, hml, hown, hts, hX, hbl, hlocks, hgv⟩ := C0
  have ht := ojT_sub hts
  obtain ⟨hK, hne⟩ := N0
  have hbA : ¬ (fun q : Nat => s.heap.size ≤ q) b := Nat.not_le.mpr hbl
  obtain ⟨hR, hPO, hPM, hDO, hDM, hS, hl⟩ := G
  obtain ⟨r, σ1, τ1, e1, e2, hR1⟩ := st_ship hR (xs (i + 1)) (xs (i + 2)) (xs (i + 3))
  refine lv_aload_n hx hb dL_law_567 rfl (lv_at hl 1 rfl) ?_
  refine law_ld 1 hx hb hX hbl hbA hS (lv_at hl 0 rfl) (lv_at hl 3 rfl) hi hL (by decide) (by decide) dL_law_568 dL_law_569 dL_law_570 dL_law_571 dL_law_572 ?_
  refine law_ld 2 hx hb hX hbl hbA hS (lv_at hl 0 rfl) (lv_at hl 3 rfl) hi hL (by decide) (by decide) dL_law_573 dL_law_574 dL_law_575 dL_law_576 dL_law_577 ?_
  refine law_ld 3 hx hb hX hbl hbA hS (lv_at hl 0 rfl) (lv_at hl 3 rfl) hi hL (by decide) (by decide) dL_law_578 dL_law_579 dL_law_580 dL_law_581 dL_law_582 ?_
  refine law_call (wf := wO_ E ad) (σ := σ) (σ1 := σ1) [.int (xs (i + 1)), .int (xs (i + 2)), .int (xs (i + 3))] [] hx hb hml hown ht hK hPO hDO hS (fun _ h => h) hl.1 (oC_OilWatch (l := l) (D := D)) cv_L_72 (Lc := 4) (by decide) (c_X8_ship (xs (i + 1)) (xs (i + 2)) (xs (i + 3)) σ r σ1 e1) rfl rfl (Nat.le_of_ble_eq_true rfl) dL_law_583 ⟨Nat.le_refl _, Nat.le_refl _⟩ (fun H1 locs1 hPO1 hDO1 hS1 hk1 => ?_)
  have hPM1 := law_keep hPM (law_ne hne) hk1
  refine lv_aload_n hx hb dL_law_586 rfl (lv_at hl 2 rfl) ?_
  refine law_ld 1 hx hb hX hbl hbA hS1 (lv_at hl 0 rfl) (lv_at hl 3 rfl) hi hL (by decide) (by decide) dL_law_587 dL_law_588 dL_law_589 dL_law_590 dL_law_591 ?_
  refine law_ld 2 hx hb hX hbl hbA hS1 (lv_at hl 0 rfl) (lv_at hl 3 rfl) hi hL (by decide) (by decide) dL_law_592 dL_law_593 dL_law_594 dL_law_595 dL_law_596 ?_
  refine law_ld 3 hx hb hX hbl hbA hS1 (lv_at hl 0 rfl) (lv_at hl 3 rfl) hi hL (by decide) (by decide) dL_law_597 dL_law_598 dL_law_599 dL_law_600 dL_law_601 ?_
  refine law_call (wf := wM_ E ad2) (σ := τ) (σ1 := τ1) [.int (xs (i + 1)), .int (xs (i + 2)), .int (xs (i + 3))] [.int r] hx hb hml hown ht hK hPM1 hDM hS1 (fun _ h => h) hl.1 (mC_Model (l := l) (D := D)) cv_L_75 (Lc := 4) (by decide) (c_X9_ship (xs (i + 1)) (xs (i + 2)) (xs (i + 3)) τ r τ1 e2) rfl rfl (Nat.le_of_ble_eq_true rfl) dL_law_602 ⟨Nat.le_refl _, Nat.le_refl _⟩ (fun H2 locs2 hPM2 hDM2 hS2 hk2 => ?_)
  have hPO2 := law_keep hPO1 (law_ne2 hne) hk2
  refine lv_icmp_eq (tgt := 788) hx hb dL_law_605 (by decide) (fun _ => ?_) (fun q => absurd rfl q)
  exact back σ1 τ1 H2 locs2 ls ⟨hR1, hPO2, hPM2, hDO1, hDM2, hS2, hl⟩
theorem law_op_could {p : Program} {l : Launch} {e : Env} {s : State} {m : MethodId} {below : List Frame} {meth : Method} {c : Code} {b L : Nat} {xs : Nat → Int32} (hL : L ≤ 2560) (C0 : lw_At p s m meth c b L xs) {D : va_G} {E : ojE} {ad ad2 : Nat → Nat} (N0 : lwN s D E ad ad2) {i : Nat} (hi : i + 5 ≤ L) (back : ∀ (σ τ : ojS) (H : Heap) (locs : List Loc) (ls : Array Slot), lwG s b D E ad ad2 i σ τ H locs ls → W p l e room_1 s m #[Value.ref b] below meth c H locs 600000 7302250 (lw_Z below #[Value.ref b] s) (F0 m 788 ls [])) (σ τ : ojS) (H : Heap) (locs : List Loc) (ls : Array Slot) (G : lwG s b D E ad ad2 i σ τ H locs ls) : W p l e room_1 s m #[Value.ref b] below meth c H locs 600000 7302250 (lw_Z below #[Value.ref b] s) (F0 m 610 ls []) := by
  obtain ⟨hx, hb, hr, hml, hown, hts, hX, hbl, hlocks, hgv⟩ := C0
  have ht := ojT_sub hts
  obtain ⟨hK, hne⟩ := N0
  have hbA : ¬ (fun q : Nat => s.heap.size ≤ q) b := Nat.not_le.mpr hbl
  obtain ⟨hR, hPO, hPM, hDO, hDM, hS, hl⟩ := G
  obtain ⟨r, τ1, e1, e2, hR1⟩ := st_could hR (xs (i + 1)) (xs (i + 2))
  refine lv_aload_n hx hb dL_law_610 rfl (lv_at hl 1 rfl) ?_
  refine law_ld 1 hx hb hX hbl hbA hS (lv_at hl 0 rfl) (lv_at hl 3 rfl) hi hL (by decide) (by decide) dL_law_611 dL_law_612 dL_law_613 dL_law_614 dL_law_615 ?_
  refine law_ld 2 hx hb hX hbl hbA hS (lv_at hl 0 rfl) (lv_at hl 3 rfl) hi hL (by decide) (by decide) dL_law_616 dL_law_617 dL_law_618 dL_law_619 dL_law_620 ?_
  refine law_call (wf := wO_ E ad) (σ := σ) (σ1 := σ) [.int (xs (i + 1)), .int (xs (i + 2))] [] hx hb hml hown ht hK hPO hDO hS (fun _ h => h) hl.1 (oC_OilWatch (l := l) (D := D)) cv_L_76 (Lc := 3) (by decide) (c_X8_could (xs (i + 1)) (xs (i + 2)) σ r e1) rfl rfl (Nat.le_of_ble_eq_true rfl) dL_law_621 ⟨Nat.le_refl _, Nat.le_refl _⟩ (fun H1 locs1 hPO1 hDO1 hS1 hk1 => ?_)
  have hPM1 := law_keep hPM (law_ne hne) hk1
  refine lv_aload_n hx hb dL_law_624 rfl (lv_at hl 2 rfl) ?_
  refine law_ld 1 hx hb hX hbl hbA hS1 (lv_at hl 0 rfl) (lv_at hl 3 rfl) hi hL (by decide) (by decide) dL_law_625 dL_law_626 dL_law_627 dL_law_628 dL_law_629 ?_
  refine law_ld 2 hx hb hX hbl hbA hS1 (lv_at hl 0 rfl) (lv_at hl 3 rfl) hi hL (by decide) (by decide) dL_law_630 dL_law_631 dL_law_632 dL_law_633 dL_law_634 ?_
  refine law_call (wf := wM_ E ad2) (σ := τ) (σ1 := τ1) [.int (xs (i + 1)), .int (xs (i + 2))] [.int r] hx hb hml hown ht hK hPM1 hDM hS1 (fun _ h => h) hl.1 (mC_Model (l := l) (D := D)) cv_L_79 (Lc := 4) (by decide) (c_X9_could (xs (i + 1)) (xs (i + 2)) τ r τ1 e2) rfl rfl (Nat.le_of_ble_eq_true rfl) dL_law_635 ⟨Nat.le_refl _, Nat.le_refl _⟩ (fun H2 locs2 hPM2 hDM2 hS2 hk2 => ?_)
  have hPO2 := law_keep hPO1 (law_ne2 hne) hk2
  refine lv_icmp_eq (tgt := 788) hx hb dL_law_638 (by decide) (fun _ => ?_) (fun q => absurd rfl q)
  exact back σ τ1 H2 locs2 ls ⟨hR1, hPO2, hPM2, hDO1, hDM2, hS2, hl⟩
theorem law_op_sample {p : Program} {l : Launch} {e : Env} {s : State} {m : MethodId} {below : List Frame} {meth : Method} {c : Code} {b L : Nat} {xs : Nat → Int32} (hL : L ≤ 2560) (C0 : lw_At p s m meth c b L xs) {D : va_G} {E : ojE} {ad ad2 : Nat → Nat} (N0 : lwN s D E ad ad2) {i : Nat} (hi : i + 5 ≤ L) (back : ∀ (σ τ : ojS) (H : Heap) (locs : List Loc) (ls : Array Slot), lwG s b D E ad ad2 i σ τ H locs ls → W p l e room_1 s m #[Value.ref b] below meth c H locs 600000 7302250 (lw_Z below #[Value.ref b] s) (F0 m 788 ls [])) (σ τ : ojS) (H : Heap) (locs : List Loc) (ls : Array Slot) (G : lwG s b D E ad ad2 i σ τ H locs ls) : W p l e room_1 s m #[Value.ref b] below meth c H locs 600000 7302250 (lw_Z below #[Value.ref b] s) (F0 m 643 ls []) := by
  obtain ⟨hx, hb, hr, hml, hown, hts, hX, hbl, hlocks, hgv⟩ := C0
  have ht := ojT_sub hts
  obtain ⟨hK, hne⟩ := N0
  have hbA : ¬ (fun q : Nat => s.heap.size ≤ q) b := Nat.not_le.mpr hbl
  obtain ⟨hR, hPO, hPM, hDO, hDM, hS, hl⟩ := G
  obtain ⟨r, τ1, e1, e2, hR1⟩ := st_sample hR (xs (i + 1)) (xs (i + 2))
  refine lv_aload_n hx hb dL_law_643 rfl (lv_at hl 1 rfl) ?_
  refine law_ld 1 hx hb hX hbl hbA hS (lv_at hl 0 rfl) (lv_at hl 3 rfl) hi hL (by decide) (by decide) dL_law_644 dL_law_645 dL_law_646 dL_law_647 dL_law_648 ?_
  refine law_ld 2 hx hb hX hbl hbA hS (lv_at hl 0 rfl) (lv_at hl 3 rfl) hi hL (by decide) (by decide) dL_law_649 dL_law_650 dL_law_651 dL_law_652 dL_law_653 ?_
  refine law_call (wf := wO_ E ad) (σ := σ) (σ1 := σ) [.int (xs (i + 1)), .int (xs (i + 2))] [] hx hb hml hown ht hK hPO hDO hS (fun _ h => h) hl.1 (oC_OilWatch (l := l) (D := D)) cv_L_80 (Lc := 3) (by decide) (c_X8_sample (xs (i + 1)) (xs (i + 2)) σ r e1) rfl rfl (Nat.le_of_ble_eq_true rfl) dL_law_654 ⟨Nat.le_refl _, Nat.le_refl _⟩ (fun H1 locs1 hPO1 hDO1 hS1 hk1 => ?_)
  have hPM1 := law_keep hPM (law_ne hne) hk1
  refine lv_aload_n hx hb dL_law_657 rfl (lv_at hl 2 rfl) ?_
  refine law_ld 1 hx hb hX hbl hbA hS1 (lv_at hl 0 rfl) (lv_at hl 3 rfl) hi hL (by decide) (by decide) dL_law_658 dL_law_659 dL_law_660 dL_law_661 dL_law_662 ?_
  refine law_ld 2 hx hb hX hbl hbA hS1 (lv_at hl 0 rfl) (lv_at hl 3 rfl) hi hL (by decide) (by decide) dL_law_663 dL_law_664 dL_law_665 dL_law_666 dL_law_667 ?_
  refine law_call (wf := wM_ E ad2) (σ := τ) (σ1 := τ1) [.int (xs (i + 1)), .int (xs (i + 2))] [.int r] hx hb hml hown ht hK hPM1 hDM hS1 (fun _ h => h) hl.1 (mC_Model (l := l) (D := D)) cv_L_83 (Lc := 5) (by decide) (c_X9_sample (xs (i + 1)) (xs (i + 2)) τ r τ1 e2) rfl rfl (Nat.le_of_ble_eq_true rfl) dL_law_668 ⟨Nat.le_refl _, Nat.le_refl _⟩ (fun H2 locs2 hPM2 hDM2 hS2 hk2 => ?_)
  have hPO2 := law_keep hPO1 (law_ne2 hne) hk2
  refine lv_icmp_eq (tgt := 788) hx hb dL_law_671 (by decide) (fun _ => ?_) (fun q => absurd rfl q)
  exact back σ τ1 H2 locs2 ls ⟨hR1, hPO2, hPM2, hDO1, hDM2, hS2, hl⟩
theorem law_op_part {p : Program} {l : Launch} {e : Env} {s : State} {m : MethodId} {below : List Frame} {meth : Method} {c : Code} {b L : Nat} {xs : Nat → Int32} (hL : L ≤ 2560) (C0 : lw_At p s m meth c b L xs) {D : va_G} {E : ojE} {ad ad2 : Nat → Nat} (N0 : lwN s D E ad ad2) {i : Nat} (hi : i + 5 ≤ L) (back : ∀ (σ τ : ojS) (H : Heap) (locs : List Loc) (ls : Array Slot), lwG s b D E ad ad2 i σ τ H locs ls → W p l e room_1 s m #[Value.ref b] below meth c H locs 600000 7302250 (lw_Z below #[Value.ref b] s) (F0 m 788 ls [])) (σ τ : ojS) (H : Heap) (locs : List Loc) (ls : Array Slot) (G : lwG s b D E ad ad2 i σ τ H locs ls) : W p l e room_1 s m #[Value.ref b] below meth c H locs 600000 7302250 (lw_Z below #[Value.ref b] s) (F0 m 676 ls []) := by
  obtain ⟨hx, hb, hr, hml, hown, hts, hX, hbl, hlocks, hgv⟩ := C0
  have ht := ojT_sub hts
  obtain ⟨hK, hne⟩ := N0
  have hbA : ¬ (fun q : Nat => s.heap.size ≤ q) b := Nat.not_le.mpr hbl
  obtain ⟨hR, hPO, hPM, hDO, hDM, hS, hl⟩ := G
  obtain ⟨r, σ1, τ1, e1, e2, hR1⟩ := st_part hR (xs (i + 1)) (xs (i + 2))
  refine lv_aload_n hx hb dL_law_676 rfl (lv_at hl 1 rfl) ?_
  refine law_ld 1 hx hb hX hbl hbA hS (lv_at hl 0 rfl) (lv_at hl 3 rfl) hi hL (by decide) (by decide) dL_law_677 dL_law_678 dL_law_679 dL_law_680 dL_law_681 ?_
  refine law_ld 2 hx hb hX hbl hbA hS (lv_at hl 0 rfl) (lv_at hl 3 rfl) hi hL (by decide) (by decide) dL_law_682 dL_law_683 dL_law_684 dL_law_685 dL_law_686 ?_
  refine law_call (wf := wO_ E ad) (σ := σ) (σ1 := σ1) [.int (xs (i + 1)), .int (xs (i + 2))] [] hx hb hml hown ht hK hPO hDO hS (fun _ h => h) hl.1 (oC_OilWatch (l := l) (D := D)) cv_L_84 (Lc := 2) (by decide) (c_X8_part (xs (i + 1)) (xs (i + 2)) σ r σ1 e1) rfl rfl (Nat.le_of_ble_eq_true rfl) dL_law_687 ⟨Nat.le_refl _, Nat.le_refl _⟩ (fun H1 locs1 hPO1 hDO1 hS1 hk1 => ?_)
  have hPM1 := law_keep hPM (law_ne hne) hk1
  refine lv_aload_n hx hb dL_law_690 rfl (lv_at hl 2 rfl) ?_
  refine law_ld 1 hx hb hX hbl hbA hS1 (lv_at hl 0 rfl) (lv_at hl 3 rfl) hi hL (by decide) (by decide) dL_law_691 dL_law_692 dL_law_693 dL_law_694 dL_law_695 ?_
  refine law_ld 2 hx hb hX hbl hbA hS1 (lv_at hl 0 rfl) (lv_at hl 3 rfl) hi hL (by decide) (by decide) dL_law_696 dL_law_697 dL_law_698 dL_law_699 dL_law_700 ?_
  refine law_call (wf := wM_ E ad2) (σ := τ) (σ1 := τ1) [.int (xs (i + 1)), .int (xs (i + 2))] [.int r] hx hb hml hown ht hK hPM1 hDM hS1 (fun _ h => h) hl.1 (mC_Model (l := l) (D := D)) cv_L_87 (Lc := 2) (by decide) (c_X9_part (xs (i + 1)) (xs (i + 2)) τ r τ1 e2) rfl rfl (Nat.le_of_ble_eq_true rfl) dL_law_701 ⟨Nat.le_refl _, Nat.le_refl _⟩ (fun H2 locs2 hPM2 hDM2 hS2 hk2 => ?_)
  have hPO2 := law_keep hPO1 (law_ne2 hne) hk2
  refine lv_icmp_eq (tgt := 788) hx hb dL_law_704 (by decide) (fun _ => ?_) (fun q => absurd rfl q)
  exact back σ1 τ1 H2 locs2 ls ⟨hR1, hPO2, hPM2, hDO1, hDM2, hS2, hl⟩
theorem law_op_bill {p : Program} {l : Launch} {e : Env} {s : State} {m : MethodId} {below : List Frame} {meth : Method} {c : Code} {b L : Nat} {xs : Nat → Int32} (hL : L ≤ 2560) (C0 : lw_At p s m meth c b L xs) {D : va_G} {E : ojE} {ad ad2 : Nat → Nat} (N0 : lwN s D E ad ad2) {i : Nat} (hi : i + 5 ≤ L) (back : ∀ (σ τ : ojS) (H : Heap) (locs : List Loc) (ls : Array Slot), lwG s b D E ad ad2 i σ τ H locs ls → W p l e room_1 s m #[Value.ref b] below meth c H locs 600000 7302250 (lw_Z below #[Value.ref b] s) (F0 m 788 ls [])) (σ τ : ojS) (H : Heap) (locs : List Loc) (ls : Array Slot) (G : lwG s b D E ad ad2 i σ τ H locs ls) : W p l e room_1 s m #[Value.ref b] below meth c H locs 600000 7302250 (lw_Z below #[Value.ref b] s) (F0 m 709 ls []) := by
  obtain ⟨hx, hb, hr, hml, hown, hts, hX, hbl, hlocks, hgv⟩ := C0
  have ht := ojT_sub hts
  obtain ⟨hK, hne⟩ := N0
  have hbA : ¬ (fun q : Nat => s.heap.size ≤ q) b := Nat.not_le.mpr hbl
  obtain ⟨hR, hPO, hPM, hDO, hDM, hS, hl⟩ := G
  obtain ⟨r, τ1, e1, e2, hR1⟩ := st_bill hR (xs (i + 1))
  refine lv_aload_n hx hb dL_law_709 rfl (lv_at hl 1 rfl) ?_
  refine law_ld 1 hx hb hX hbl hbA hS (lv_at hl 0 rfl) (lv_at hl 3 rfl) hi hL (by decide) (by decide) dL_law_710 dL_law_711 dL_law_712 dL_law_713 dL_law_714 ?_
  refine law_call (wf := wO_ E ad) (σ := σ) (σ1 := σ) [.int (xs (i + 1))] [] hx hb hml hown ht hK hPO hDO hS (fun _ h => h) hl.1 (oC_OilWatch (l := l) (D := D)) cv_L_88 (Lc := 3) (by decide) (c_X8_bill (xs (i + 1)) σ r e1) rfl rfl (Nat.le_of_ble_eq_true rfl) dL_law_715 ⟨Nat.le_refl _, Nat.le_refl _⟩ (fun H1 locs1 hPO1 hDO1 hS1 hk1 => ?_)
  have hPM1 := law_keep hPM (law_ne hne) hk1
  refine lv_aload_n hx hb dL_law_718 rfl (lv_at hl 2 rfl) ?_
  refine law_ld 1 hx hb hX hbl hbA hS1 (lv_at hl 0 rfl) (lv_at hl 3 rfl) hi hL (by decide) (by decide) dL_law_719 dL_law_720 dL_law_721 dL_law_722 dL_law_723 ?_
  refine law_call (wf := wM_ E ad2) (σ := τ) (σ1 := τ1) [.int (xs (i + 1))] [.int r] hx hb hml hown ht hK hPM1 hDM hS1 (fun _ h => h) hl.1 (mC_Model (l := l) (D := D)) cv_L_91 (Lc := 3) (by decide) (c_X9_bill (xs (i + 1)) τ r τ1 e2) rfl rfl (Nat.le_of_ble_eq_true rfl) dL_law_724 ⟨Nat.le_refl _, Nat.le_refl _⟩ (fun H2 locs2 hPM2 hDM2 hS2 hk2 => ?_)
  have hPO2 := law_keep hPO1 (law_ne2 hne) hk2
  refine lv_icmp_eq (tgt := 788) hx hb dL_law_727 (by decide) (fun _ => ?_) (fun q => absurd rfl q)
  exact back σ τ1 H2 locs2 ls ⟨hR1, hPO2, hPM2, hDO1, hDM2, hS2, hl⟩
theorem law_op_told {p : Program} {l : Launch} {e : Env} {s : State} {m : MethodId} {below : List Frame} {meth : Method} {c : Code} {b L : Nat} {xs : Nat → Int32} (hL : L ≤ 2560) (C0 : lw_At p s m meth c b L xs) {D : va_G} {E : ojE} {ad ad2 : Nat → Nat} (N0 : lwN s D E ad ad2) {i : Nat} (hi : i + 5 ≤ L) (back : ∀ (σ τ : ojS) (H : Heap) (locs : List Loc) (ls : Array Slot), lwG s b D E ad ad2 i σ τ H locs ls → W p l e room_1 s m #[Value.ref b] below meth c H locs 600000 7302250 (lw_Z below #[Value.ref b] s) (F0 m 788 ls [])) (σ τ : ojS) (H : Heap) (locs : List Loc) (ls : Array Slot) (G : lwG s b D E ad ad2 i σ τ H locs ls) : W p l e room_1 s m #[Value.ref b] below meth c H locs 600000 7302250 (lw_Z below #[Value.ref b] s) (F0 m 732 ls []) := by
  obtain ⟨hx, hb, hr, hml, hown, hts, hX, hbl, hlocks, hgv⟩ := C0
  have ht := ojT_sub hts
  obtain ⟨hK, hne⟩ := N0
  have hbA : ¬ (fun q : Nat => s.heap.size ≤ q) b := Nat.not_le.mpr hbl
  obtain ⟨hR, hPO, hPM, hDO, hDM, hS, hl⟩ := G
  obtain ⟨r, e1, e2⟩ := st_told hR (xs (i + 1)) (xs (i + 2))
  refine lv_aload_n hx hb dL_law_732 rfl (lv_at hl 1 rfl) ?_
  refine law_ld 1 hx hb hX hbl hbA hS (lv_at hl 0 rfl) (lv_at hl 3 rfl) hi hL (by decide) (by decide) dL_law_733 dL_law_734 dL_law_735 dL_law_736 dL_law_737 ?_
  refine law_ld 2 hx hb hX hbl hbA hS (lv_at hl 0 rfl) (lv_at hl 3 rfl) hi hL (by decide) (by decide) dL_law_738 dL_law_739 dL_law_740 dL_law_741 dL_law_742 ?_
  refine law_call (wf := wO_ E ad) (σ := σ) (σ1 := σ) [.int (xs (i + 1)), .int (xs (i + 2))] [] hx hb hml hown ht hK hPO hDO hS (fun _ h => h) hl.1 (oC_OilWatch (l := l) (D := D)) cv_L_92 (Lc := 2) (by decide) (c_X8_told (xs (i + 1)) (xs (i + 2)) σ r e1) rfl rfl (Nat.le_of_ble_eq_true rfl) dL_law_743 ⟨Nat.le_refl _, Nat.le_refl _⟩ (fun H1 locs1 hPO1 hDO1 hS1 hk1 => ?_)
  have hPM1 := law_keep hPM (law_ne hne) hk1
  refine lv_aload_n hx hb dL_law_746 rfl (lv_at hl 2 rfl) ?_
  refine law_ld 1 hx hb hX hbl hbA hS1 (lv_at hl 0 rfl) (lv_at hl 3 rfl) hi hL (by decide) (by decide) dL_law_747 dL_law_748 dL_law_749 dL_law_750 dL_law_751 ?_
  refine law_ld 2 hx hb hX hbl hbA hS1 (lv_at hl 0 rfl) (lv_at hl 3 rfl) hi hL (by decide) (by decide) dL_law_752 dL_law_753 dL_law_754 dL_law_755 dL_law_756 ?_
  refine law_call (wf := wM_ E ad2) (σ := τ) (σ1 := τ) [.int (xs (i + 1)), .int (xs (i + 2))] [.int r] hx hb hml hown ht hK hPM1 hDM hS1 (fun _ h => h) hl.1 (mC_Model (l := l) (D := D)) cv_L_95 (Lc := 3) (by decide) (c_X9_told (xs (i + 1)) (xs (i + 2)) τ r e2) rfl rfl (Nat.le_of_ble_eq_true rfl) dL_law_757 ⟨Nat.le_refl _, Nat.le_refl _⟩ (fun H2 locs2 hPM2 hDM2 hS2 hk2 => ?_)
  have hPO2 := law_keep hPO1 (law_ne2 hne) hk2
  refine lv_icmp_eq (tgt := 788) hx hb dL_law_760 (by decide) (fun _ => ?_) (fun q => absurd rfl q)
  exact back σ τ H2 locs2 ls ⟨hR, hPO2, hPM2, hDO1, hDM2, hS2, hl⟩
theorem law_op_count {p : Program} {l : Launch} {e : Env} {s : State} {m : MethodId} {below : List Frame} {meth : Method} {c : Code} {b L : Nat} {xs : Nat → Int32} (hL : L ≤ 2560) (C0 : lw_At p s m meth c b L xs) {D : va_G} {E : ojE} {ad ad2 : Nat → Nat} (N0 : lwN s D E ad ad2) {i : Nat} (hi : i + 5 ≤ L) (back : ∀ (σ τ : ojS) (H : Heap) (locs : List Loc) (ls : Array Slot), lwG s b D E ad ad2 i σ τ H locs ls → W p l e room_1 s m #[Value.ref b] below meth c H locs 600000 7302250 (lw_Z below #[Value.ref b] s) (F0 m 788 ls [])) (σ τ : ojS) (H : Heap) (locs : List Loc) (ls : Array Slot) (G : lwG s b D E ad ad2 i σ τ H locs ls) : W p l e room_1 s m #[Value.ref b] below meth c H locs 600000 7302250 (lw_Z below #[Value.ref b] s) (F0 m 765 ls []) := by
  obtain ⟨hx, hb, hr, hml, hown, hts, hX, hbl, hlocks, hgv⟩ := C0
  have ht := ojT_sub hts
  obtain ⟨hK, hne⟩ := N0
  have hbA : ¬ (fun q : Nat => s.heap.size ≤ q) b := Nat.not_le.mpr hbl
  obtain ⟨hR, hPO, hPM, hDO, hDM, hS, hl⟩ := G
  obtain ⟨r, e1, e2⟩ := st_count hR (xs (i + 1))
  refine lv_aload_n hx hb dL_law_765 rfl (lv_at hl 1 rfl) ?_
  refine law_ld 1 hx hb hX hbl hbA hS (lv_at hl 0 rfl) (lv_at hl 3 rfl) hi hL (by decide) (by decide) dL_law_766 dL_law_767 dL_law_768 dL_law_769 dL_law_770 ?_
  refine law_call (wf := wO_ E ad) (σ := σ) (σ1 := σ) [.int (xs (i + 1))] [] hx hb hml hown ht hK hPO hDO hS (fun _ h => h) hl.1 (oC_OilWatch (l := l) (D := D)) cv_L_96 (Lc := 4) (by decide) (c_X8_count (xs (i + 1)) σ r e1) rfl rfl (Nat.le_of_ble_eq_true rfl) dL_law_771 ⟨Nat.le_refl _, Nat.le_refl _⟩ (fun H1 locs1 hPO1 hDO1 hS1 hk1 => ?_)
  have hPM1 := law_keep hPM (law_ne hne) hk1
  refine lv_aload_n hx hb dL_law_774 rfl (lv_at hl 2 rfl) ?_
  refine law_ld 1 hx hb hX hbl hbA hS1 (lv_at hl 0 rfl) (lv_at hl 3 rfl) hi hL (by decide) (by decide) dL_law_775 dL_law_776 dL_law_777 dL_law_778 dL_law_779 ?_
  refine law_call (wf := wM_ E ad2) (σ := τ) (σ1 := τ) [.int (xs (i + 1))] [.int r] hx hb hml hown ht hK hPM1 hDM hS1 (fun _ h => h) hl.1 (mC_Model (l := l) (D := D)) cv_L_99 (Lc := 3) (by decide) (c_X9_count (xs (i + 1)) τ r e2) rfl rfl (Nat.le_of_ble_eq_true rfl) dL_law_780 ⟨Nat.le_refl _, Nat.le_refl _⟩ (fun H2 locs2 hPM2 hDM2 hS2 hk2 => ?_)
  have hPO2 := law_keep hPO1 (law_ne2 hne) hk2
  refine lv_icmp_eq (tgt := 788) hx hb dL_law_783 (by decide) (fun _ => ?_) (fun q => absurd rfl q)
  exact back σ τ H2 locs2 ls ⟨hR, hPO2, hPM2, hDO1, hDM2, hS2, hl⟩
