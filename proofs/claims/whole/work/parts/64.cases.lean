set_option maxHeartbeats 4000000 in
set_option maxRecDepth 100000 in
theorem lc_sums {p : Program} {l : Launch} {e : Env} {s : State} {m : MethodId} {args : Array Value} {below : List Frame} {meth : Method} {c : Code} {H : Heap} {locs : List Loc} {ls : Array Slot} {Q : State → Prop} {A : Nat → Prop} {G : zG} {ad : Nat → Nat} {w : Nat → va_E} {b L i : Nat} {xs : Nat → Int32} {τ : Nat × Nat × Nat} {σ : zS} (B : Bs G p s m args c cL_law 4 RL) (hA : ∀ q, s.heap.size ≤ q → A q) (hT : Tb τ A s s.heap) (hS : va_X b L xs s s.heap) (hbl : b < s.heap.size) (hbA : ¬ A b) (hL : L ≤ 2560) (hi : i + 5 ≤ L) (hW : Wo G A s.heap 111 ad w H locs) (hl : lv_has ls 4 [(3, .int (nI i)), (2, .ref (ad 92)), (1, .ref (ad 0)), (0, .ref b)]) (hX : XOK G ad w σ) (hM : MOK G ad w σ) (hs : SOK σ)
    (hk : ∀ (w' : Nat → va_E) (σ' : zS) (H : Heap) (locs : List Loc), Wo G A s.heap 111 ad w' H locs → XOK G ad w' σ' → MOK G ad w' σ' → SOK σ' → W p l e room_1 s m args below meth c H locs 111 4997 Q (F0 m 1000 ls [])) :
    W p l e room_1 s m args below meth c H locs 111 4997 Q (F0 m 160 ls []) := by
  have hx := B.1
  have hb := B.2.1
  refine lv_aload_n hx hb dL_law_160 rfl (lv_at hl 2 rfl) ?_
  refine lv_aload_n hx hb dL_law_161 rfl (lv_at hl 3 rfl) ?_
  refine lv_iload_n hx hb dL_law_162 rfl (lv_at hl 0 rfl) ?_
  refine lv_iconst (v := nI 1) hx hb dL_law_163 (by decide) ?_
  refine n_iadd hx hb dL_law_164 ?_
  refine z_scr B hS hbl hbA hL hW (i + 1) (by omega) dL_law_165 ?_
  refine call_viT B hA hT hW (0) (by omega) hX.2.1 (r := _) rfl rfl (k_X4_sums l G 111 ad w (by decide) σ hX hs τ (xs (i + 1))) mf_X4_sums hw_143 rfl ⟨⟨rfl, rfl⟩, by decide, by decide⟩ ⟨by decide, by decide⟩ hl.1 rfl (Nat.le_of_ble_eq_true rfl) dL_law_166 (fun r w2 H locs hp hW => ?_)
  obtain ⟨rfl, hX2, o2⟩ := hp
  have hM2 := hM.keep o2
  refine lv_aload_n hx hb dL_law_169 rfl (lv_at hl 1 rfl) ?_
  refine lv_aload_n hx hb dL_law_170 rfl (lv_at hl 3 rfl) ?_
  refine lv_iload_n hx hb dL_law_171 rfl (lv_at hl 0 rfl) ?_
  refine lv_iconst (v := nI 1) hx hb dL_law_172 (by decide) ?_
  refine n_iadd hx hb dL_law_173 ?_
  refine z_scr B hS hbl hbA hL hW (i + 1) (by omega) dL_law_174 ?_
  refine call_vi B hA hW (92) (by omega) hM2.1 (r := _) rfl rfl (k_X5_sums l G 111 ad w2 (by decide) σ hM2 hs (xs (i + 1))) mf_X5_sums hw_436 rfl ⟨⟨rfl, rfl⟩, by decide, by decide⟩ ⟨by decide, by decide⟩ hl.1 rfl (Nat.le_of_ble_eq_true rfl) dL_law_175 (fun r3 w3 H locs hp hW => ?_)
  obtain ⟨rfl, hM3, o3⟩ := hp
  have hX3 := hX2.keep o3
  refine lv_icmp_eq (tgt := 1000) hx hb dL_law_178 (by decide) (fun hc => ?_) (fun hc => ?_)
  · exact hk w3 _ H locs hW hX3 hM3 (ok_sums hs (xs (i + 1)))
  · exact absurd rfl hc
set_option maxHeartbeats 4000000 in
set_option maxRecDepth 100000 in
theorem lc_product {p : Program} {l : Launch} {e : Env} {s : State} {m : MethodId} {args : Array Value} {below : List Frame} {meth : Method} {c : Code} {H : Heap} {locs : List Loc} {ls : Array Slot} {Q : State → Prop} {A : Nat → Prop} {G : zG} {ad : Nat → Nat} {w : Nat → va_E} {b L i : Nat} {xs : Nat → Int32} {τ : Nat × Nat × Nat} {σ : zS} (B : Bs G p s m args c cL_law 4 RL) (hA : ∀ q, s.heap.size ≤ q → A q) (hT : Tb τ A s s.heap) (hS : va_X b L xs s s.heap) (hbl : b < s.heap.size) (hbA : ¬ A b) (hL : L ≤ 2560) (hi : i + 5 ≤ L) (hW : Wo G A s.heap 111 ad w H locs) (hl : lv_has ls 4 [(3, .int (nI i)), (2, .ref (ad 92)), (1, .ref (ad 0)), (0, .ref b)]) (hX : XOK G ad w σ) (hM : MOK G ad w σ) (hs : SOK σ)
    (hk : ∀ (w' : Nat → va_E) (σ' : zS) (H : Heap) (locs : List Loc), Wo G A s.heap 111 ad w' H locs → XOK G ad w' σ' → MOK G ad w' σ' → SOK σ' → W p l e room_1 s m args below meth c H locs 111 4997 Q (F0 m 1000 ls [])) :
    W p l e room_1 s m args below meth c H locs 111 4997 Q (F0 m 183 ls []) := by
  have hx := B.1
  have hb := B.2.1
  refine lv_aload_n hx hb dL_law_183 rfl (lv_at hl 2 rfl) ?_
  refine lv_aload_n hx hb dL_law_184 rfl (lv_at hl 3 rfl) ?_
  refine lv_iload_n hx hb dL_law_185 rfl (lv_at hl 0 rfl) ?_
  refine lv_iconst (v := nI 1) hx hb dL_law_186 (by decide) ?_
  refine n_iadd hx hb dL_law_187 ?_
  refine z_scr B hS hbl hbA hL hW (i + 1) (by omega) dL_law_188 ?_
  refine call_vi B hA hW (0) (by omega) hX.2.1 (r := _) rfl rfl (k_X4_product l G 111 ad w (by decide) σ hX hs (xs (i + 1))) mf_X4_product hw_178 rfl ⟨⟨rfl, rfl⟩, by decide, by decide⟩ ⟨by decide, by decide⟩ hl.1 rfl (Nat.le_of_ble_eq_true rfl) dL_law_189 (fun r w2 H locs hp hW => ?_)
  obtain ⟨rfl, hX2, o2⟩ := hp
  have hM2 := hM.keep o2
  refine lv_aload_n hx hb dL_law_192 rfl (lv_at hl 1 rfl) ?_
  refine lv_aload_n hx hb dL_law_193 rfl (lv_at hl 3 rfl) ?_
  refine lv_iload_n hx hb dL_law_194 rfl (lv_at hl 0 rfl) ?_
  refine lv_iconst (v := nI 1) hx hb dL_law_195 (by decide) ?_
  refine n_iadd hx hb dL_law_196 ?_
  refine z_scr B hS hbl hbA hL hW (i + 1) (by omega) dL_law_197 ?_
  refine call_vi B hA hW (92) (by omega) hM2.1 (r := _) rfl rfl (k_X5_product l G 111 ad w2 (by decide) σ hM2 hs (xs (i + 1))) mf_X5_product hw_457 rfl ⟨⟨rfl, rfl⟩, by decide, by decide⟩ ⟨by decide, by decide⟩ hl.1 rfl (Nat.le_of_ble_eq_true rfl) dL_law_198 (fun r3 w3 H locs hp hW => ?_)
  obtain ⟨rfl, hM3, o3⟩ := hp
  have hX3 := hX2.keep o3
  refine lv_icmp_eq (tgt := 1000) hx hb dL_law_201 (by decide) (fun hc => ?_) (fun hc => ?_)
  · exact hk w3 _ H locs hW hX3 hM3 (ok_product hs (xs (i + 1)))
  · exact absurd rfl hc
set_option maxHeartbeats 4000000 in
set_option maxRecDepth 100000 in
theorem lc_add {p : Program} {l : Launch} {e : Env} {s : State} {m : MethodId} {args : Array Value} {below : List Frame} {meth : Method} {c : Code} {H : Heap} {locs : List Loc} {ls : Array Slot} {Q : State → Prop} {A : Nat → Prop} {G : zG} {ad : Nat → Nat} {w : Nat → va_E} {b L i : Nat} {xs : Nat → Int32} {τ : Nat × Nat × Nat} {σ : zS} (B : Bs G p s m args c cL_law 4 RL) (hA : ∀ q, s.heap.size ≤ q → A q) (hT : Tb τ A s s.heap) (hS : va_X b L xs s s.heap) (hbl : b < s.heap.size) (hbA : ¬ A b) (hL : L ≤ 2560) (hi : i + 5 ≤ L) (hW : Wo G A s.heap 111 ad w H locs) (hl : lv_has ls 4 [(3, .int (nI i)), (2, .ref (ad 92)), (1, .ref (ad 0)), (0, .ref b)]) (hX : XOK G ad w σ) (hM : MOK G ad w σ) (hs : SOK σ)
    (hk : ∀ (w' : Nat → va_E) (σ' : zS) (H : Heap) (locs : List Loc), Wo G A s.heap 111 ad w' H locs → XOK G ad w' σ' → MOK G ad w' σ' → SOK σ' → W p l e room_1 s m args below meth c H locs 111 4997 Q (F0 m 1000 ls [])) :
    W p l e room_1 s m args below meth c H locs 111 4997 Q (F0 m 206 ls []) := by
  have hx := B.1
  have hb := B.2.1
  refine lv_aload_n hx hb dL_law_206 rfl (lv_at hl 2 rfl) ?_
  refine lv_aload_n hx hb dL_law_207 rfl (lv_at hl 3 rfl) ?_
  refine lv_iload_n hx hb dL_law_208 rfl (lv_at hl 0 rfl) ?_
  refine lv_iconst (v := nI 1) hx hb dL_law_209 (by decide) ?_
  refine n_iadd hx hb dL_law_210 ?_
  refine z_scr B hS hbl hbA hL hW (i + 1) (by omega) dL_law_211 ?_
  refine lv_aload_n hx hb dL_law_212 rfl (lv_at hl 3 rfl) ?_
  refine lv_iload_n hx hb dL_law_213 rfl (lv_at hl 0 rfl) ?_
  refine lv_iconst (v := nI 2) hx hb dL_law_214 (by decide) ?_
  refine n_iadd hx hb dL_law_215 ?_
  refine z_scr B hS hbl hbA hL hW (i + 2) (by omega) dL_law_216 ?_
  refine lv_aload_n hx hb dL_law_217 rfl (lv_at hl 3 rfl) ?_
  refine lv_iload_n hx hb dL_law_218 rfl (lv_at hl 0 rfl) ?_
  refine lv_iconst (v := nI 3) hx hb dL_law_219 (by decide) ?_
  refine n_iadd hx hb dL_law_220 ?_
  refine z_scr B hS hbl hbA hL hW (i + 3) (by omega) dL_law_221 ?_
  refine lv_aload_n hx hb dL_law_222 rfl (lv_at hl 3 rfl) ?_
  refine lv_iload_n hx hb dL_law_223 rfl (lv_at hl 0 rfl) ?_
  refine lv_iconst (v := nI 4) hx hb dL_law_224 (by decide) ?_
  refine n_iadd hx hb dL_law_225 ?_
  refine z_scr B hS hbl hbA hL hW (i + 4) (by omega) dL_law_226 ?_
  refine call_vi B hA hW (0) (by omega) hX.2.1 (r := _) rfl rfl (k_X4_add l G 111 ad w (by decide) σ hX hs (xs (i + 1)) (xs (i + 2)) (xs (i + 3)) (xs (i + 4))) mf_X4_add hw_183 rfl ⟨⟨rfl, rfl⟩, by decide, by decide⟩ ⟨by decide, by decide⟩ hl.1 rfl (Nat.le_of_ble_eq_true rfl) dL_law_227 (fun r w2 H locs hp hW => ?_)
  obtain ⟨rfl, hX2, o2⟩ := hp
  have hM2 := hM.keep o2
  refine lv_aload_n hx hb dL_law_230 rfl (lv_at hl 1 rfl) ?_
  refine lv_aload_n hx hb dL_law_231 rfl (lv_at hl 3 rfl) ?_
  refine lv_iload_n hx hb dL_law_232 rfl (lv_at hl 0 rfl) ?_
  refine lv_iconst (v := nI 1) hx hb dL_law_233 (by decide) ?_
  refine n_iadd hx hb dL_law_234 ?_
  refine z_scr B hS hbl hbA hL hW (i + 1) (by omega) dL_law_235 ?_
  refine lv_aload_n hx hb dL_law_236 rfl (lv_at hl 3 rfl) ?_
  refine lv_iload_n hx hb dL_law_237 rfl (lv_at hl 0 rfl) ?_
  refine lv_iconst (v := nI 2) hx hb dL_law_238 (by decide) ?_
  refine n_iadd hx hb dL_law_239 ?_
  refine z_scr B hS hbl hbA hL hW (i + 2) (by omega) dL_law_240 ?_
  refine lv_aload_n hx hb dL_law_241 rfl (lv_at hl 3 rfl) ?_
  refine lv_iload_n hx hb dL_law_242 rfl (lv_at hl 0 rfl) ?_
  refine lv_iconst (v := nI 3) hx hb dL_law_243 (by decide) ?_
  refine n_iadd hx hb dL_law_244 ?_
  refine z_scr B hS hbl hbA hL hW (i + 3) (by omega) dL_law_245 ?_
  refine lv_aload_n hx hb dL_law_246 rfl (lv_at hl 3 rfl) ?_
  refine lv_iload_n hx hb dL_law_247 rfl (lv_at hl 0 rfl) ?_
  refine lv_iconst (v := nI 4) hx hb dL_law_248 (by decide) ?_
  refine n_iadd hx hb dL_law_249 ?_
  refine z_scr B hS hbl hbA hL hW (i + 4) (by omega) dL_law_250 ?_
  refine call_vi B hA hW (92) (by omega) hM2.1 (r := _) rfl rfl (k_X5_add l G 111 ad w2 (by decide) σ hM2 hs (xs (i + 1)) (xs (i + 2)) (xs (i + 3)) (xs (i + 4))) mf_X5_add hw_469 rfl ⟨⟨rfl, rfl⟩, by decide, by decide⟩ ⟨by decide, by decide⟩ hl.1 rfl (Nat.le_of_ble_eq_true rfl) dL_law_251 (fun r3 w3 H locs hp hW => ?_)
  obtain ⟨rfl, hM3, o3⟩ := hp
  have hX3 := hX2.keep o3
  refine lv_icmp_eq (tgt := 1000) hx hb dL_law_254 (by decide) (fun hc => ?_) (fun hc => ?_)
  · exact hk w3 _ H locs hW hX3 hM3 (ok_add hs (xs (i + 1)) (xs (i + 2)) (xs (i + 3)) (xs (i + 4)))
  · exact absurd rfl hc
set_option maxHeartbeats 4000000 in
set_option maxRecDepth 100000 in
theorem lc_times {p : Program} {l : Launch} {e : Env} {s : State} {m : MethodId} {args : Array Value} {below : List Frame} {meth : Method} {c : Code} {H : Heap} {locs : List Loc} {ls : Array Slot} {Q : State → Prop} {A : Nat → Prop} {G : zG} {ad : Nat → Nat} {w : Nat → va_E} {b L i : Nat} {xs : Nat → Int32} {τ : Nat × Nat × Nat} {σ : zS} (B : Bs G p s m args c cL_law 4 RL) (hA : ∀ q, s.heap.size ≤ q → A q) (hT : Tb τ A s s.heap) (hS : va_X b L xs s s.heap) (hbl : b < s.heap.size) (hbA : ¬ A b) (hL : L ≤ 2560) (hi : i + 5 ≤ L) (hW : Wo G A s.heap 111 ad w H locs) (hl : lv_has ls 4 [(3, .int (nI i)), (2, .ref (ad 92)), (1, .ref (ad 0)), (0, .ref b)]) (hX : XOK G ad w σ) (hM : MOK G ad w σ) (hs : SOK σ)
    (hk : ∀ (w' : Nat → va_E) (σ' : zS) (H : Heap) (locs : List Loc), Wo G A s.heap 111 ad w' H locs → XOK G ad w' σ' → MOK G ad w' σ' → SOK σ' → W p l e room_1 s m args below meth c H locs 111 4997 Q (F0 m 1000 ls [])) :
    W p l e room_1 s m args below meth c H locs 111 4997 Q (F0 m 259 ls []) := by
  have hx := B.1
  have hb := B.2.1
  refine lv_aload_n hx hb dL_law_259 rfl (lv_at hl 2 rfl) ?_
  refine lv_aload_n hx hb dL_law_260 rfl (lv_at hl 3 rfl) ?_
  refine lv_iload_n hx hb dL_law_261 rfl (lv_at hl 0 rfl) ?_
  refine lv_iconst (v := nI 1) hx hb dL_law_262 (by decide) ?_
  refine n_iadd hx hb dL_law_263 ?_
  refine z_scr B hS hbl hbA hL hW (i + 1) (by omega) dL_law_264 ?_
  refine lv_aload_n hx hb dL_law_265 rfl (lv_at hl 3 rfl) ?_
  refine lv_iload_n hx hb dL_law_266 rfl (lv_at hl 0 rfl) ?_
  refine lv_iconst (v := nI 2) hx hb dL_law_267 (by decide) ?_
  refine n_iadd hx hb dL_law_268 ?_
  refine z_scr B hS hbl hbA hL hW (i + 2) (by omega) dL_law_269 ?_
  refine call_vi B hA hW (0) (by omega) hX.2.1 (r := _) rfl rfl (k_X4_times l G 111 ad w (by decide) σ hX hs (xs (i + 1)) (xs (i + 2))) mf_X4_times hw_196 rfl ⟨⟨rfl, rfl⟩, by decide, by decide⟩ ⟨by decide, by decide⟩ hl.1 rfl (Nat.le_of_ble_eq_true rfl) dL_law_270 (fun r w2 H locs hp hW => ?_)
  obtain ⟨rfl, hX2, o2⟩ := hp
  have hM2 := hM.keep o2
  refine lv_aload_n hx hb dL_law_273 rfl (lv_at hl 1 rfl) ?_
  refine lv_aload_n hx hb dL_law_274 rfl (lv_at hl 3 rfl) ?_
  refine lv_iload_n hx hb dL_law_275 rfl (lv_at hl 0 rfl) ?_
  refine lv_iconst (v := nI 1) hx hb dL_law_276 (by decide) ?_
  refine n_iadd hx hb dL_law_277 ?_
  refine z_scr B hS hbl hbA hL hW (i + 1) (by omega) dL_law_278 ?_
  refine lv_aload_n hx hb dL_law_279 rfl (lv_at hl 3 rfl) ?_
  refine lv_iload_n hx hb dL_law_280 rfl (lv_at hl 0 rfl) ?_
  refine lv_iconst (v := nI 2) hx hb dL_law_281 (by decide) ?_
  refine n_iadd hx hb dL_law_282 ?_
  refine z_scr B hS hbl hbA hL hW (i + 2) (by omega) dL_law_283 ?_
  refine call_vi B hA hW (92) (by omega) hM2.1 (r := _) rfl rfl (k_X5_times l G 111 ad w2 (by decide) σ hM2 hs (xs (i + 1)) (xs (i + 2))) mf_X5_times hw_484 rfl ⟨⟨rfl, rfl⟩, by decide, by decide⟩ ⟨by decide, by decide⟩ hl.1 rfl (Nat.le_of_ble_eq_true rfl) dL_law_284 (fun r3 w3 H locs hp hW => ?_)
  obtain ⟨rfl, hM3, o3⟩ := hp
  have hX3 := hX2.keep o3
  refine lv_icmp_eq (tgt := 1000) hx hb dL_law_287 (by decide) (fun hc => ?_) (fun hc => ?_)
  · exact hk w3 _ H locs hW hX3 hM3 (ok_times hs (xs (i + 1)) (xs (i + 2)))
  · exact absurd rfl hc
set_option maxHeartbeats 4000000 in
set_option maxRecDepth 100000 in
theorem lc_power {p : Program} {l : Launch} {e : Env} {s : State} {m : MethodId} {args : Array Value} {below : List Frame} {meth : Method} {c : Code} {H : Heap} {locs : List Loc} {ls : Array Slot} {Q : State → Prop} {A : Nat → Prop} {G : zG} {ad : Nat → Nat} {w : Nat → va_E} {b L i : Nat} {xs : Nat → Int32} {τ : Nat × Nat × Nat} {σ : zS} (B : Bs G p s m args c cL_law 4 RL) (hA : ∀ q, s.heap.size ≤ q → A q) (hT : Tb τ A s s.heap) (hS : va_X b L xs s s.heap) (hbl : b < s.heap.size) (hbA : ¬ A b) (hL : L ≤ 2560) (hi : i + 5 ≤ L) (hW : Wo G A s.heap 111 ad w H locs) (hl : lv_has ls 4 [(3, .int (nI i)), (2, .ref (ad 92)), (1, .ref (ad 0)), (0, .ref b)]) (hX : XOK G ad w σ) (hM : MOK G ad w σ) (hs : SOK σ)
    (hk : ∀ (w' : Nat → va_E) (σ' : zS) (H : Heap) (locs : List Loc), Wo G A s.heap 111 ad w' H locs → XOK G ad w' σ' → MOK G ad w' σ' → SOK σ' → W p l e room_1 s m args below meth c H locs 111 4997 Q (F0 m 1000 ls [])) :
    W p l e room_1 s m args below meth c H locs 111 4997 Q (F0 m 292 ls []) := by
  have hx := B.1
  have hb := B.2.1
  refine lv_aload_n hx hb dL_law_292 rfl (lv_at hl 2 rfl) ?_
  refine lv_aload_n hx hb dL_law_293 rfl (lv_at hl 3 rfl) ?_
  refine lv_iload_n hx hb dL_law_294 rfl (lv_at hl 0 rfl) ?_
  refine lv_iconst (v := nI 1) hx hb dL_law_295 (by decide) ?_
  refine n_iadd hx hb dL_law_296 ?_
  refine z_scr B hS hbl hbA hL hW (i + 1) (by omega) dL_law_297 ?_
  refine lv_aload_n hx hb dL_law_298 rfl (lv_at hl 3 rfl) ?_
  refine lv_iload_n hx hb dL_law_299 rfl (lv_at hl 0 rfl) ?_
  refine lv_iconst (v := nI 2) hx hb dL_law_300 (by decide) ?_
  refine n_iadd hx hb dL_law_301 ?_
  refine z_scr B hS hbl hbA hL hW (i + 2) (by omega) dL_law_302 ?_
  refine call_vi B hA hW (0) (by omega) hX.2.1 (r := _) rfl rfl (k_X4_power l G 111 ad w (by decide) σ hX hs (xs (i + 1)) (xs (i + 2))) mf_X4_power hw_201 rfl ⟨⟨rfl, rfl⟩, by decide, by decide⟩ ⟨by decide, by decide⟩ hl.1 rfl (Nat.le_of_ble_eq_true rfl) dL_law_303 (fun r w2 H locs hp hW => ?_)
  obtain ⟨rfl, hX2, o2⟩ := hp
  have hM2 := hM.keep o2
  refine lv_aload_n hx hb dL_law_306 rfl (lv_at hl 1 rfl) ?_
  refine lv_aload_n hx hb dL_law_307 rfl (lv_at hl 3 rfl) ?_
  refine lv_iload_n hx hb dL_law_308 rfl (lv_at hl 0 rfl) ?_
  refine lv_iconst (v := nI 1) hx hb dL_law_309 (by decide) ?_
  refine n_iadd hx hb dL_law_310 ?_
  refine z_scr B hS hbl hbA hL hW (i + 1) (by omega) dL_law_311 ?_
  refine lv_aload_n hx hb dL_law_312 rfl (lv_at hl 3 rfl) ?_
  refine lv_iload_n hx hb dL_law_313 rfl (lv_at hl 0 rfl) ?_
  refine lv_iconst (v := nI 2) hx hb dL_law_314 (by decide) ?_
  refine n_iadd hx hb dL_law_315 ?_
  refine z_scr B hS hbl hbA hL hW (i + 2) (by omega) dL_law_316 ?_
  refine call_vi B hA hW (92) (by omega) hM2.1 (r := _) rfl rfl (k_X5_power l G 111 ad w2 (by decide) σ hM2 hs (xs (i + 1)) (xs (i + 2))) mf_X5_power hw_492 rfl ⟨⟨rfl, rfl⟩, by decide, by decide⟩ ⟨by decide, by decide⟩ hl.1 rfl (Nat.le_of_ble_eq_true rfl) dL_law_317 (fun r3 w3 H locs hp hW => ?_)
  obtain ⟨rfl, hM3, o3⟩ := hp
  have hX3 := hX2.keep o3
  refine lv_icmp_eq (tgt := 1000) hx hb dL_law_320 (by decide) (fun hc => ?_) (fun hc => ?_)
  · exact hk w3 _ H locs hW hX3 hM3 (ok_power hs (xs (i + 1)) (xs (i + 2)))
  · exact absurd rfl hc
set_option maxHeartbeats 4000000 in
set_option maxRecDepth 100000 in
theorem lc_slope {p : Program} {l : Launch} {e : Env} {s : State} {m : MethodId} {args : Array Value} {below : List Frame} {meth : Method} {c : Code} {H : Heap} {locs : List Loc} {ls : Array Slot} {Q : State → Prop} {A : Nat → Prop} {G : zG} {ad : Nat → Nat} {w : Nat → va_E} {b L i : Nat} {xs : Nat → Int32} {τ : Nat × Nat × Nat} {σ : zS} (B : Bs G p s m args c cL_law 4 RL) (hA : ∀ q, s.heap.size ≤ q → A q) (hT : Tb τ A s s.heap) (hS : va_X b L xs s s.heap) (hbl : b < s.heap.size) (hbA : ¬ A b) (hL : L ≤ 2560) (hi : i + 5 ≤ L) (hW : Wo G A s.heap 111 ad w H locs) (hl : lv_has ls 4 [(3, .int (nI i)), (2, .ref (ad 92)), (1, .ref (ad 0)), (0, .ref b)]) (hX : XOK G ad w σ) (hM : MOK G ad w σ) (hs : SOK σ)
    (hk : ∀ (w' : Nat → va_E) (σ' : zS) (H : Heap) (locs : List Loc), Wo G A s.heap 111 ad w' H locs → XOK G ad w' σ' → MOK G ad w' σ' → SOK σ' → W p l e room_1 s m args below meth c H locs 111 4997 Q (F0 m 1000 ls [])) :
    W p l e room_1 s m args below meth c H locs 111 4997 Q (F0 m 325 ls []) := by
  have hx := B.1
  have hb := B.2.1
  refine lv_aload_n hx hb dL_law_325 rfl (lv_at hl 2 rfl) ?_
  refine lv_aload_n hx hb dL_law_326 rfl (lv_at hl 3 rfl) ?_
  refine lv_iload_n hx hb dL_law_327 rfl (lv_at hl 0 rfl) ?_
  refine lv_iconst (v := nI 1) hx hb dL_law_328 (by decide) ?_
  refine n_iadd hx hb dL_law_329 ?_
  refine z_scr B hS hbl hbA hL hW (i + 1) (by omega) dL_law_330 ?_
  refine call_vi B hA hW (0) (by omega) hX.2.1 (r := _) rfl rfl (k_X4_slope l G 111 ad w (by decide) σ hX hs (xs (i + 1))) mf_X4_slope hw_205 rfl ⟨⟨rfl, rfl⟩, by decide, by decide⟩ ⟨by decide, by decide⟩ hl.1 rfl (Nat.le_of_ble_eq_true rfl) dL_law_331 (fun r w2 H locs hp hW => ?_)
  obtain ⟨rfl, hX2, o2⟩ := hp
  have hM2 := hM.keep o2
  refine lv_aload_n hx hb dL_law_334 rfl (lv_at hl 1 rfl) ?_
  refine lv_aload_n hx hb dL_law_335 rfl (lv_at hl 3 rfl) ?_
  refine lv_iload_n hx hb dL_law_336 rfl (lv_at hl 0 rfl) ?_
  refine lv_iconst (v := nI 1) hx hb dL_law_337 (by decide) ?_
  refine n_iadd hx hb dL_law_338 ?_
  refine z_scr B hS hbl hbA hL hW (i + 1) (by omega) dL_law_339 ?_
  refine call_vi B hA hW (92) (by omega) hM2.1 (r := _) rfl rfl (k_X5_slope l G 111 ad w2 (by decide) σ hM2 hs (xs (i + 1))) mf_X5_slope hw_496 rfl ⟨⟨rfl, rfl⟩, by decide, by decide⟩ ⟨by decide, by decide⟩ hl.1 rfl (Nat.le_of_ble_eq_true rfl) dL_law_340 (fun r3 w3 H locs hp hW => ?_)
  obtain ⟨rfl, hM3, o3⟩ := hp
  have hX3 := hX2.keep o3
  refine lv_icmp_eq (tgt := 1000) hx hb dL_law_343 (by decide) (fun hc => ?_) (fun hc => ?_)
  · exact hk w3 _ H locs hW hX3 hM3 (ok_slope hs (xs (i + 1)))
  · exact absurd rfl hc
set_option maxHeartbeats 4000000 in
set_option maxRecDepth 100000 in
theorem lc_bracket {p : Program} {l : Launch} {e : Env} {s : State} {m : MethodId} {args : Array Value} {below : List Frame} {meth : Method} {c : Code} {H : Heap} {locs : List Loc} {ls : Array Slot} {Q : State → Prop} {A : Nat → Prop} {G : zG} {ad : Nat → Nat} {w : Nat → va_E} {b L i : Nat} {xs : Nat → Int32} {τ : Nat × Nat × Nat} {σ : zS} (B : Bs G p s m args c cL_law 4 RL) (hA : ∀ q, s.heap.size ≤ q → A q) (hT : Tb τ A s s.heap) (hS : va_X b L xs s s.heap) (hbl : b < s.heap.size) (hbA : ¬ A b) (hL : L ≤ 2560) (hi : i + 5 ≤ L) (hW : Wo G A s.heap 111 ad w H locs) (hl : lv_has ls 4 [(3, .int (nI i)), (2, .ref (ad 92)), (1, .ref (ad 0)), (0, .ref b)]) (hX : XOK G ad w σ) (hM : MOK G ad w σ) (hs : SOK σ)
    (hk : ∀ (w' : Nat → va_E) (σ' : zS) (H : Heap) (locs : List Loc), Wo G A s.heap 111 ad w' H locs → XOK G ad w' σ' → MOK G ad w' σ' → SOK σ' → W p l e room_1 s m args below meth c H locs 111 4997 Q (F0 m 1000 ls [])) :
    W p l e room_1 s m args below meth c H locs 111 4997 Q (F0 m 348 ls []) := by
  have hx := B.1
  have hb := B.2.1
  refine lv_aload_n hx hb dL_law_348 rfl (lv_at hl 2 rfl) ?_
  refine lv_aload_n hx hb dL_law_349 rfl (lv_at hl 3 rfl) ?_
  refine lv_iload_n hx hb dL_law_350 rfl (lv_at hl 0 rfl) ?_
  refine lv_iconst (v := nI 1) hx hb dL_law_351 (by decide) ?_
  refine n_iadd hx hb dL_law_352 ?_
  refine z_scr B hS hbl hbA hL hW (i + 1) (by omega) dL_law_353 ?_
  refine lv_aload_n hx hb dL_law_354 rfl (lv_at hl 3 rfl) ?_
  refine lv_iload_n hx hb dL_law_355 rfl (lv_at hl 0 rfl) ?_
  refine lv_iconst (v := nI 2) hx hb dL_law_356 (by decide) ?_
  refine n_iadd hx hb dL_law_357 ?_
  refine z_scr B hS hbl hbA hL hW (i + 2) (by omega) dL_law_358 ?_
  refine call_vi B hA hW (0) (by omega) hX.2.1 (r := _) rfl rfl (k_X4_bracket l G 111 ad w (by decide) σ hX hs (xs (i + 1)) (xs (i + 2))) mf_X4_bracket hw_210 rfl ⟨⟨rfl, rfl⟩, by decide, by decide⟩ ⟨by decide, by decide⟩ hl.1 rfl (Nat.le_of_ble_eq_true rfl) dL_law_359 (fun r w2 H locs hp hW => ?_)
  obtain ⟨rfl, hX2, o2⟩ := hp
  have hM2 := hM.keep o2
  refine lv_aload_n hx hb dL_law_362 rfl (lv_at hl 1 rfl) ?_
  refine lv_aload_n hx hb dL_law_363 rfl (lv_at hl 3 rfl) ?_
  refine lv_iload_n hx hb dL_law_364 rfl (lv_at hl 0 rfl) ?_
  refine lv_iconst (v := nI 1) hx hb dL_law_365 (by decide) ?_
  refine n_iadd hx hb dL_law_366 ?_
  refine z_scr B hS hbl hbA hL hW (i + 1) (by omega) dL_law_367 ?_
  refine lv_aload_n hx hb dL_law_368 rfl (lv_at hl 3 rfl) ?_
  refine lv_iload_n hx hb dL_law_369 rfl (lv_at hl 0 rfl) ?_
  refine lv_iconst (v := nI 2) hx hb dL_law_370 (by decide) ?_
  refine n_iadd hx hb dL_law_371 ?_
  refine z_scr B hS hbl hbA hL hW (i + 2) (by omega) dL_law_372 ?_
  refine call_vi B hA hW (92) (by omega) hM2.1 (r := _) rfl rfl (k_X5_bracket l G 111 ad w2 (by decide) σ hM2 hs (xs (i + 1)) (xs (i + 2))) mf_X5_bracket hw_501 rfl ⟨⟨rfl, rfl⟩, by decide, by decide⟩ ⟨by decide, by decide⟩ hl.1 rfl (Nat.le_of_ble_eq_true rfl) dL_law_373 (fun r3 w3 H locs hp hW => ?_)
  obtain ⟨rfl, hM3, o3⟩ := hp
  have hX3 := hX2.keep o3
  refine lv_icmp_eq (tgt := 1000) hx hb dL_law_376 (by decide) (fun hc => ?_) (fun hc => ?_)
  · exact hk w3 _ H locs hW hX3 hM3 (ok_bracket hs (xs (i + 1)) (xs (i + 2)))
  · exact absurd rfl hc
set_option maxHeartbeats 4000000 in
set_option maxRecDepth 100000 in
theorem lc_over {p : Program} {l : Launch} {e : Env} {s : State} {m : MethodId} {args : Array Value} {below : List Frame} {meth : Method} {c : Code} {H : Heap} {locs : List Loc} {ls : Array Slot} {Q : State → Prop} {A : Nat → Prop} {G : zG} {ad : Nat → Nat} {w : Nat → va_E} {b L i : Nat} {xs : Nat → Int32} {τ : Nat × Nat × Nat} {σ : zS} (B : Bs G p s m args c cL_law 4 RL) (hA : ∀ q, s.heap.size ≤ q → A q) (hT : Tb τ A s s.heap) (hS : va_X b L xs s s.heap) (hbl : b < s.heap.size) (hbA : ¬ A b) (hL : L ≤ 2560) (hi : i + 5 ≤ L) (hW : Wo G A s.heap 111 ad w H locs) (hl : lv_has ls 4 [(3, .int (nI i)), (2, .ref (ad 92)), (1, .ref (ad 0)), (0, .ref b)]) (hX : XOK G ad w σ) (hM : MOK G ad w σ) (hs : SOK σ)
    (hk : ∀ (w' : Nat → va_E) (σ' : zS) (H : Heap) (locs : List Loc), Wo G A s.heap 111 ad w' H locs → XOK G ad w' σ' → MOK G ad w' σ' → SOK σ' → W p l e room_1 s m args below meth c H locs 111 4997 Q (F0 m 1000 ls [])) :
    W p l e room_1 s m args below meth c H locs 111 4997 Q (F0 m 381 ls []) := by
  have hx := B.1
  have hb := B.2.1
  refine lv_aload_n hx hb dL_law_381 rfl (lv_at hl 2 rfl) ?_
  refine lv_aload_n hx hb dL_law_382 rfl (lv_at hl 3 rfl) ?_
  refine lv_iload_n hx hb dL_law_383 rfl (lv_at hl 0 rfl) ?_
  refine lv_iconst (v := nI 1) hx hb dL_law_384 (by decide) ?_
  refine n_iadd hx hb dL_law_385 ?_
  refine z_scr B hS hbl hbA hL hW (i + 1) (by omega) dL_law_386 ?_
  refine call_vi B hA hW (0) (by omega) hX.2.1 (r := _) rfl rfl (k_X4_over l G 111 ad w (by decide) σ hX hs (xs (i + 1))) mf_X4_over hw_219 rfl ⟨⟨rfl, rfl⟩, by decide, by decide⟩ ⟨by decide, by decide⟩ hl.1 rfl (Nat.le_of_ble_eq_true rfl) dL_law_387 (fun r w2 H locs hp hW => ?_)
  obtain ⟨rfl, hX2, o2⟩ := hp
  have hM2 := hM.keep o2
  refine lv_aload_n hx hb dL_law_390 rfl (lv_at hl 1 rfl) ?_
  refine lv_aload_n hx hb dL_law_391 rfl (lv_at hl 3 rfl) ?_
  refine lv_iload_n hx hb dL_law_392 rfl (lv_at hl 0 rfl) ?_
  refine lv_iconst (v := nI 1) hx hb dL_law_393 (by decide) ?_
  refine n_iadd hx hb dL_law_394 ?_
  refine z_scr B hS hbl hbA hL hW (i + 1) (by omega) dL_law_395 ?_
  refine call_vi B hA hW (92) (by omega) hM2.1 (r := _) rfl rfl (k_X5_over l G 111 ad w2 (by decide) σ hM2 hs (xs (i + 1))) mf_X5_over hw_505 rfl ⟨⟨rfl, rfl⟩, by decide, by decide⟩ ⟨by decide, by decide⟩ hl.1 rfl (Nat.le_of_ble_eq_true rfl) dL_law_396 (fun r3 w3 H locs hp hW => ?_)
  obtain ⟨rfl, hM3, o3⟩ := hp
  have hX3 := hX2.keep o3
  refine lv_icmp_eq (tgt := 1000) hx hb dL_law_399 (by decide) (fun hc => ?_) (fun hc => ?_)
  · exact hk w3 _ H locs hW hX3 hM3 (ok_over hs (xs (i + 1)))
  · exact absurd rfl hc
set_option maxHeartbeats 4000000 in
set_option maxRecDepth 100000 in
theorem lc_prime {p : Program} {l : Launch} {e : Env} {s : State} {m : MethodId} {args : Array Value} {below : List Frame} {meth : Method} {c : Code} {H : Heap} {locs : List Loc} {ls : Array Slot} {Q : State → Prop} {A : Nat → Prop} {G : zG} {ad : Nat → Nat} {w : Nat → va_E} {b L i : Nat} {xs : Nat → Int32} {τ : Nat × Nat × Nat} {σ : zS} (B : Bs G p s m args c cL_law 4 RL) (hA : ∀ q, s.heap.size ≤ q → A q) (hT : Tb τ A s s.heap) (hS : va_X b L xs s s.heap) (hbl : b < s.heap.size) (hbA : ¬ A b) (hL : L ≤ 2560) (hi : i + 5 ≤ L) (hW : Wo G A s.heap 111 ad w H locs) (hl : lv_has ls 4 [(3, .int (nI i)), (2, .ref (ad 92)), (1, .ref (ad 0)), (0, .ref b)]) (hX : XOK G ad w σ) (hM : MOK G ad w σ) (hs : SOK σ)
    (hk : ∀ (w' : Nat → va_E) (σ' : zS) (H : Heap) (locs : List Loc), Wo G A s.heap 111 ad w' H locs → XOK G ad w' σ' → MOK G ad w' σ' → SOK σ' → W p l e room_1 s m args below meth c H locs 111 4997 Q (F0 m 1000 ls [])) :
    W p l e room_1 s m args below meth c H locs 111 4997 Q (F0 m 404 ls []) := by
  have hx := B.1
  have hb := B.2.1
  refine lv_aload_n hx hb dL_law_404 rfl (lv_at hl 2 rfl) ?_
  refine lv_aload_n hx hb dL_law_405 rfl (lv_at hl 3 rfl) ?_
  refine lv_iload_n hx hb dL_law_406 rfl (lv_at hl 0 rfl) ?_
  refine lv_iconst (v := nI 1) hx hb dL_law_407 (by decide) ?_
  refine n_iadd hx hb dL_law_408 ?_
  refine z_scr B hS hbl hbA hL hW (i + 1) (by omega) dL_law_409 ?_
  refine lv_aload_n hx hb dL_law_410 rfl (lv_at hl 3 rfl) ?_
  refine lv_iload_n hx hb dL_law_411 rfl (lv_at hl 0 rfl) ?_
  refine lv_iconst (v := nI 2) hx hb dL_law_412 (by decide) ?_
  refine n_iadd hx hb dL_law_413 ?_
  refine z_scr B hS hbl hbA hL hW (i + 2) (by omega) dL_law_414 ?_
  refine call_vi B hA hW (0) (by omega) hX.2.1 (r := _) rfl rfl (k_X4_prime l G 111 ad w (by decide) σ hX hs (xs (i + 1)) (xs (i + 2))) mf_X4_prime hw_251 rfl ⟨⟨rfl, rfl⟩, by decide, by decide⟩ ⟨by decide, by decide⟩ hl.1 rfl (Nat.le_of_ble_eq_true rfl) dL_law_415 (fun r w2 H locs hp hW => ?_)
  obtain ⟨rfl, hX2, o2⟩ := hp
  have hM2 := hM.keep o2
  refine lv_aload_n hx hb dL_law_418 rfl (lv_at hl 1 rfl) ?_
  refine lv_aload_n hx hb dL_law_419 rfl (lv_at hl 3 rfl) ?_
  refine lv_iload_n hx hb dL_law_420 rfl (lv_at hl 0 rfl) ?_
  refine lv_iconst (v := nI 1) hx hb dL_law_421 (by decide) ?_
  refine n_iadd hx hb dL_law_422 ?_
  refine z_scr B hS hbl hbA hL hW (i + 1) (by omega) dL_law_423 ?_
  refine lv_aload_n hx hb dL_law_424 rfl (lv_at hl 3 rfl) ?_
  refine lv_iload_n hx hb dL_law_425 rfl (lv_at hl 0 rfl) ?_
  refine lv_iconst (v := nI 2) hx hb dL_law_426 (by decide) ?_
  refine n_iadd hx hb dL_law_427 ?_
  refine z_scr B hS hbl hbA hL hW (i + 2) (by omega) dL_law_428 ?_
  refine call_vi B hA hW (92) (by omega) hM2.1 (r := _) rfl rfl (k_X5_prime l G 111 ad w2 (by decide) σ hM2 hs (xs (i + 1)) (xs (i + 2))) mf_X5_prime hw_527 rfl ⟨⟨rfl, rfl⟩, by decide, by decide⟩ ⟨by decide, by decide⟩ hl.1 rfl (Nat.le_of_ble_eq_true rfl) dL_law_429 (fun r3 w3 H locs hp hW => ?_)
  obtain ⟨rfl, hM3, o3⟩ := hp
  have hX3 := hX2.keep o3
  refine lv_icmp_eq (tgt := 1000) hx hb dL_law_432 (by decide) (fun hc => ?_) (fun hc => ?_)
  · exact hk w3 _ H locs hW hX3 hM3 (ok_prime hs (xs (i + 1)) (xs (i + 2)))
  · exact absurd rfl hc
set_option maxHeartbeats 4000000 in
set_option maxRecDepth 100000 in
theorem lc_basis {p : Program} {l : Launch} {e : Env} {s : State} {m : MethodId} {args : Array Value} {below : List Frame} {meth : Method} {c : Code} {H : Heap} {locs : List Loc} {ls : Array Slot} {Q : State → Prop} {A : Nat → Prop} {G : zG} {ad : Nat → Nat} {w : Nat → va_E} {b L i : Nat} {xs : Nat → Int32} {τ : Nat × Nat × Nat} {σ : zS} (B : Bs G p s m args c cL_law 4 RL) (hA : ∀ q, s.heap.size ≤ q → A q) (hT : Tb τ A s s.heap) (hS : va_X b L xs s s.heap) (hbl : b < s.heap.size) (hbA : ¬ A b) (hL : L ≤ 2560) (hi : i + 5 ≤ L) (hW : Wo G A s.heap 111 ad w H locs) (hl : lv_has ls 4 [(3, .int (nI i)), (2, .ref (ad 92)), (1, .ref (ad 0)), (0, .ref b)]) (hX : XOK G ad w σ) (hM : MOK G ad w σ) (hs : SOK σ)
    (hk : ∀ (w' : Nat → va_E) (σ' : zS) (H : Heap) (locs : List Loc), Wo G A s.heap 111 ad w' H locs → XOK G ad w' σ' → MOK G ad w' σ' → SOK σ' → W p l e room_1 s m args below meth c H locs 111 4997 Q (F0 m 1000 ls [])) :
    W p l e room_1 s m args below meth c H locs 111 4997 Q (F0 m 437 ls []) := by
  have hx := B.1
  have hb := B.2.1
  refine lv_aload_n hx hb dL_law_437 rfl (lv_at hl 2 rfl) ?_
  refine lv_aload_n hx hb dL_law_438 rfl (lv_at hl 3 rfl) ?_
  refine lv_iload_n hx hb dL_law_439 rfl (lv_at hl 0 rfl) ?_
  refine lv_iconst (v := nI 1) hx hb dL_law_440 (by decide) ?_
  refine n_iadd hx hb dL_law_441 ?_
  refine z_scr B hS hbl hbA hL hW (i + 1) (by omega) dL_law_442 ?_
  refine lv_aload_n hx hb dL_law_443 rfl (lv_at hl 3 rfl) ?_
  refine lv_iload_n hx hb dL_law_444 rfl (lv_at hl 0 rfl) ?_
  refine lv_iconst (v := nI 2) hx hb dL_law_445 (by decide) ?_
  refine n_iadd hx hb dL_law_446 ?_
  refine z_scr B hS hbl hbA hL hW (i + 2) (by omega) dL_law_447 ?_
  refine call_vi B hA hW (0) (by omega) hX.2.1 (r := _) rfl rfl (k_X4_basis l G 111 ad w (by decide) σ hX hs (xs (i + 1)) (xs (i + 2))) mf_X4_basis hw_263 rfl ⟨⟨rfl, rfl⟩, by decide, by decide⟩ ⟨by decide, by decide⟩ hl.1 rfl (Nat.le_of_ble_eq_true rfl) dL_law_448 (fun r w2 H locs hp hW => ?_)
  obtain ⟨rfl, hX2, o2⟩ := hp
  have hM2 := hM.keep o2
  refine lv_aload_n hx hb dL_law_451 rfl (lv_at hl 1 rfl) ?_
  refine lv_aload_n hx hb dL_law_452 rfl (lv_at hl 3 rfl) ?_
  refine lv_iload_n hx hb dL_law_453 rfl (lv_at hl 0 rfl) ?_
  refine lv_iconst (v := nI 1) hx hb dL_law_454 (by decide) ?_
  refine n_iadd hx hb dL_law_455 ?_
  refine z_scr B hS hbl hbA hL hW (i + 1) (by omega) dL_law_456 ?_
  refine lv_aload_n hx hb dL_law_457 rfl (lv_at hl 3 rfl) ?_
  refine lv_iload_n hx hb dL_law_458 rfl (lv_at hl 0 rfl) ?_
  refine lv_iconst (v := nI 2) hx hb dL_law_459 (by decide) ?_
  refine n_iadd hx hb dL_law_460 ?_
  refine z_scr B hS hbl hbA hL hW (i + 2) (by omega) dL_law_461 ?_
  refine call_vi B hA hW (92) (by omega) hM2.1 (r := _) rfl rfl (k_X5_basis l G 111 ad w2 (by decide) σ hM2 hs (xs (i + 1)) (xs (i + 2))) mf_X5_basis hw_538 rfl ⟨⟨rfl, rfl⟩, by decide, by decide⟩ ⟨by decide, by decide⟩ hl.1 rfl (Nat.le_of_ble_eq_true rfl) dL_law_462 (fun r3 w3 H locs hp hW => ?_)
  obtain ⟨rfl, hM3, o3⟩ := hp
  have hX3 := hX2.keep o3
  refine lv_icmp_eq (tgt := 1000) hx hb dL_law_465 (by decide) (fun hc => ?_) (fun hc => ?_)
  · exact hk w3 _ H locs hW hX3 hM3 (ok_basis hs (xs (i + 1)) (xs (i + 2)))
  · exact absurd rfl hc
set_option maxHeartbeats 4000000 in
set_option maxRecDepth 100000 in
theorem lc_drop {p : Program} {l : Launch} {e : Env} {s : State} {m : MethodId} {args : Array Value} {below : List Frame} {meth : Method} {c : Code} {H : Heap} {locs : List Loc} {ls : Array Slot} {Q : State → Prop} {A : Nat → Prop} {G : zG} {ad : Nat → Nat} {w : Nat → va_E} {b L i : Nat} {xs : Nat → Int32} {τ : Nat × Nat × Nat} {σ : zS} (B : Bs G p s m args c cL_law 4 RL) (hA : ∀ q, s.heap.size ≤ q → A q) (hT : Tb τ A s s.heap) (hS : va_X b L xs s s.heap) (hbl : b < s.heap.size) (hbA : ¬ A b) (hL : L ≤ 2560) (hi : i + 5 ≤ L) (hW : Wo G A s.heap 111 ad w H locs) (hl : lv_has ls 4 [(3, .int (nI i)), (2, .ref (ad 92)), (1, .ref (ad 0)), (0, .ref b)]) (hX : XOK G ad w σ) (hM : MOK G ad w σ) (hs : SOK σ)
    (hk : ∀ (w' : Nat → va_E) (σ' : zS) (H : Heap) (locs : List Loc), Wo G A s.heap 111 ad w' H locs → XOK G ad w' σ' → MOK G ad w' σ' → SOK σ' → W p l e room_1 s m args below meth c H locs 111 4997 Q (F0 m 1000 ls [])) :
    W p l e room_1 s m args below meth c H locs 111 4997 Q (F0 m 470 ls []) := by
  have hx := B.1
  have hb := B.2.1
  refine lv_aload_n hx hb dL_law_470 rfl (lv_at hl 2 rfl) ?_
  refine call_vi B hA hW (0) (by omega) hX.2.1 (r := _) rfl rfl (k_X4_drop l G 111 ad w (by decide) σ hX hs ) mf_X4_drop hw_272 rfl ⟨⟨rfl, rfl⟩, by decide, by decide⟩ ⟨by decide, by decide⟩ hl.1 rfl (Nat.le_of_ble_eq_true rfl) dL_law_471 (fun r w2 H locs hp hW => ?_)
  obtain ⟨rfl, hX2, o2⟩ := hp
  have hM2 := hM.keep o2
  refine lv_aload_n hx hb dL_law_474 rfl (lv_at hl 1 rfl) ?_
  refine call_vi B hA hW (92) (by omega) hM2.1 (r := _) rfl rfl (k_X5_drop l G 111 ad w2 (by decide) σ hM2 hs ) mf_X5_drop hw_546 rfl ⟨⟨rfl, rfl⟩, by decide, by decide⟩ ⟨by decide, by decide⟩ hl.1 rfl (Nat.le_of_ble_eq_true rfl) dL_law_475 (fun r3 w3 H locs hp hW => ?_)
  obtain ⟨rfl, hM3, o3⟩ := hp
  have hX3 := hX2.keep o3
  refine lv_icmp_eq (tgt := 1000) hx hb dL_law_478 (by decide) (fun hc => ?_) (fun hc => ?_)
  · exact hk w3 _ H locs hW hX3 hM3 (ok_drop hs )
  · exact absurd rfl hc
set_option maxHeartbeats 4000000 in
set_option maxRecDepth 100000 in
theorem lc_look {p : Program} {l : Launch} {e : Env} {s : State} {m : MethodId} {args : Array Value} {below : List Frame} {meth : Method} {c : Code} {H : Heap} {locs : List Loc} {ls : Array Slot} {Q : State → Prop} {A : Nat → Prop} {G : zG} {ad : Nat → Nat} {w : Nat → va_E} {b L i : Nat} {xs : Nat → Int32} {τ : Nat × Nat × Nat} {σ : zS} (B : Bs G p s m args c cL_law 4 RL) (hA : ∀ q, s.heap.size ≤ q → A q) (hT : Tb τ A s s.heap) (hS : va_X b L xs s s.heap) (hbl : b < s.heap.size) (hbA : ¬ A b) (hL : L ≤ 2560) (hi : i + 5 ≤ L) (hW : Wo G A s.heap 111 ad w H locs) (hl : lv_has ls 4 [(3, .int (nI i)), (2, .ref (ad 92)), (1, .ref (ad 0)), (0, .ref b)]) (hX : XOK G ad w σ) (hM : MOK G ad w σ) (hs : SOK σ)
    (hk : ∀ (w' : Nat → va_E) (σ' : zS) (H : Heap) (locs : List Loc), Wo G A s.heap 111 ad w' H locs → XOK G ad w' σ' → MOK G ad w' σ' → SOK σ' → W p l e room_1 s m args below meth c H locs 111 4997 Q (F0 m 1000 ls [])) :
    W p l e room_1 s m args below meth c H locs 111 4997 Q (F0 m 483 ls []) := by
  have hx := B.1
  have hb := B.2.1
  refine lv_aload_n hx hb dL_law_483 rfl (lv_at hl 2 rfl) ?_
  refine lv_aload_n hx hb dL_law_484 rfl (lv_at hl 3 rfl) ?_
  refine lv_iload_n hx hb dL_law_485 rfl (lv_at hl 0 rfl) ?_
  refine lv_iconst (v := nI 1) hx hb dL_law_486 (by decide) ?_
  refine n_iadd hx hb dL_law_487 ?_
  refine z_scr B hS hbl hbA hL hW (i + 1) (by omega) dL_law_488 ?_
  refine lv_aload_n hx hb dL_law_489 rfl (lv_at hl 3 rfl) ?_
  refine lv_iload_n hx hb dL_law_490 rfl (lv_at hl 0 rfl) ?_
  refine lv_iconst (v := nI 2) hx hb dL_law_491 (by decide) ?_
  refine n_iadd hx hb dL_law_492 ?_
  refine z_scr B hS hbl hbA hL hW (i + 2) (by omega) dL_law_493 ?_
  refine call_vi B hA hW (0) (by omega) hX.2.1 (r := _) rfl rfl (k_X4_look l G 111 ad w (by decide) σ hX hs (xs (i + 1)) (xs (i + 2))) mf_X4_look hw_276 rfl ⟨⟨rfl, rfl⟩, by decide, by decide⟩ ⟨by decide, by decide⟩ hl.1 rfl (Nat.le_of_ble_eq_true rfl) dL_law_494 (fun r w2 H locs hp hW => ?_)
  obtain ⟨rfl, hX2, o2⟩ := hp
  have hM2 := hM.keep o2
  refine lv_aload_n hx hb dL_law_497 rfl (lv_at hl 1 rfl) ?_
  refine lv_aload_n hx hb dL_law_498 rfl (lv_at hl 3 rfl) ?_
  refine lv_iload_n hx hb dL_law_499 rfl (lv_at hl 0 rfl) ?_
  refine lv_iconst (v := nI 1) hx hb dL_law_500 (by decide) ?_
  refine n_iadd hx hb dL_law_501 ?_
  refine z_scr B hS hbl hbA hL hW (i + 1) (by omega) dL_law_502 ?_
  refine lv_aload_n hx hb dL_law_503 rfl (lv_at hl 3 rfl) ?_
  refine lv_iload_n hx hb dL_law_504 rfl (lv_at hl 0 rfl) ?_
  refine lv_iconst (v := nI 2) hx hb dL_law_505 (by decide) ?_
  refine n_iadd hx hb dL_law_506 ?_
  refine z_scr B hS hbl hbA hL hW (i + 2) (by omega) dL_law_507 ?_
  refine call_vi B hA hW (92) (by omega) hM2.1 (r := _) rfl rfl (k_X5_look l G 111 ad w2 (by decide) σ hM2 hs (xs (i + 1)) (xs (i + 2))) mf_X5_look hw_550 rfl ⟨⟨rfl, rfl⟩, by decide, by decide⟩ ⟨by decide, by decide⟩ hl.1 rfl (Nat.le_of_ble_eq_true rfl) dL_law_508 (fun r3 w3 H locs hp hW => ?_)
  obtain ⟨rfl, hM3, o3⟩ := hp
  have hX3 := hX2.keep o3
  refine lv_icmp_eq (tgt := 1000) hx hb dL_law_511 (by decide) (fun hc => ?_) (fun hc => ?_)
  · exact hk w3 _ H locs hW hX3 hM3 (ok_look hs (xs (i + 1)) (xs (i + 2)))
  · exact absurd rfl hc
set_option maxHeartbeats 4000000 in
set_option maxRecDepth 100000 in
theorem lc_at {p : Program} {l : Launch} {e : Env} {s : State} {m : MethodId} {args : Array Value} {below : List Frame} {meth : Method} {c : Code} {H : Heap} {locs : List Loc} {ls : Array Slot} {Q : State → Prop} {A : Nat → Prop} {G : zG} {ad : Nat → Nat} {w : Nat → va_E} {b L i : Nat} {xs : Nat → Int32} {τ : Nat × Nat × Nat} {σ : zS} (B : Bs G p s m args c cL_law 4 RL) (hA : ∀ q, s.heap.size ≤ q → A q) (hT : Tb τ A s s.heap) (hS : va_X b L xs s s.heap) (hbl : b < s.heap.size) (hbA : ¬ A b) (hL : L ≤ 2560) (hi : i + 5 ≤ L) (hW : Wo G A s.heap 111 ad w H locs) (hl : lv_has ls 4 [(3, .int (nI i)), (2, .ref (ad 92)), (1, .ref (ad 0)), (0, .ref b)]) (hX : XOK G ad w σ) (hM : MOK G ad w σ) (hs : SOK σ)
    (hk : ∀ (w' : Nat → va_E) (σ' : zS) (H : Heap) (locs : List Loc), Wo G A s.heap 111 ad w' H locs → XOK G ad w' σ' → MOK G ad w' σ' → SOK σ' → W p l e room_1 s m args below meth c H locs 111 4997 Q (F0 m 1000 ls [])) :
    W p l e room_1 s m args below meth c H locs 111 4997 Q (F0 m 516 ls []) := by
  have hx := B.1
  have hb := B.2.1
  refine lv_aload_n hx hb dL_law_516 rfl (lv_at hl 2 rfl) ?_
  refine lv_aload_n hx hb dL_law_517 rfl (lv_at hl 3 rfl) ?_
  refine lv_iload_n hx hb dL_law_518 rfl (lv_at hl 0 rfl) ?_
  refine lv_iconst (v := nI 1) hx hb dL_law_519 (by decide) ?_
  refine n_iadd hx hb dL_law_520 ?_
  refine z_scr B hS hbl hbA hL hW (i + 1) (by omega) dL_law_521 ?_
  refine lv_aload_n hx hb dL_law_522 rfl (lv_at hl 3 rfl) ?_
  refine lv_iload_n hx hb dL_law_523 rfl (lv_at hl 0 rfl) ?_
  refine lv_iconst (v := nI 2) hx hb dL_law_524 (by decide) ?_
  refine n_iadd hx hb dL_law_525 ?_
  refine z_scr B hS hbl hbA hL hW (i + 2) (by omega) dL_law_526 ?_
  refine call_vi B hA hW (0) (by omega) hX.2.1 (r := _) rfl rfl (k_X4_at l G 111 ad w (by decide) σ hX hs (xs (i + 1)) (xs (i + 2))) mf_X4_at hw_283 rfl ⟨⟨rfl, rfl⟩, by decide, by decide⟩ ⟨by decide, by decide⟩ hl.1 rfl (Nat.le_of_ble_eq_true rfl) dL_law_527 (fun r w2 H locs hp hW => ?_)
  obtain ⟨rfl, hX2, o2⟩ := hp
  have hM2 := hM.keep o2
  refine lv_aload_n hx hb dL_law_530 rfl (lv_at hl 1 rfl) ?_
  refine lv_aload_n hx hb dL_law_531 rfl (lv_at hl 3 rfl) ?_
  refine lv_iload_n hx hb dL_law_532 rfl (lv_at hl 0 rfl) ?_
  refine lv_iconst (v := nI 1) hx hb dL_law_533 (by decide) ?_
  refine n_iadd hx hb dL_law_534 ?_
  refine z_scr B hS hbl hbA hL hW (i + 1) (by omega) dL_law_535 ?_
  refine lv_aload_n hx hb dL_law_536 rfl (lv_at hl 3 rfl) ?_
  refine lv_iload_n hx hb dL_law_537 rfl (lv_at hl 0 rfl) ?_
  refine lv_iconst (v := nI 2) hx hb dL_law_538 (by decide) ?_
  refine n_iadd hx hb dL_law_539 ?_
  refine z_scr B hS hbl hbA hL hW (i + 2) (by omega) dL_law_540 ?_
  refine call_vi B hA hW (92) (by omega) hM2.1 (r := _) rfl rfl (k_X5_at l G 111 ad w2 (by decide) σ hM2 hs (xs (i + 1)) (xs (i + 2))) mf_X5_at hw_558 rfl ⟨⟨rfl, rfl⟩, by decide, by decide⟩ ⟨by decide, by decide⟩ hl.1 rfl (Nat.le_of_ble_eq_true rfl) dL_law_541 (fun r3 w3 H locs hp hW => ?_)
  obtain ⟨rfl, hM3, o3⟩ := hp
  have hX3 := hX2.keep o3
  refine lv_icmp_eq (tgt := 1000) hx hb dL_law_544 (by decide) (fun hc => ?_) (fun hc => ?_)
  · exact hk w3 _ H locs hW hX3 hM3 (ok_at hs (xs (i + 1)) (xs (i + 2)))
  · exact absurd rfl hc
set_option maxHeartbeats 4000000 in
set_option maxRecDepth 100000 in
theorem lc_part {p : Program} {l : Launch} {e : Env} {s : State} {m : MethodId} {args : Array Value} {below : List Frame} {meth : Method} {c : Code} {H : Heap} {locs : List Loc} {ls : Array Slot} {Q : State → Prop} {A : Nat → Prop} {G : zG} {ad : Nat → Nat} {w : Nat → va_E} {b L i : Nat} {xs : Nat → Int32} {τ : Nat × Nat × Nat} {σ : zS} (B : Bs G p s m args c cL_law 4 RL) (hA : ∀ q, s.heap.size ≤ q → A q) (hT : Tb τ A s s.heap) (hS : va_X b L xs s s.heap) (hbl : b < s.heap.size) (hbA : ¬ A b) (hL : L ≤ 2560) (hi : i + 5 ≤ L) (hW : Wo G A s.heap 111 ad w H locs) (hl : lv_has ls 4 [(3, .int (nI i)), (2, .ref (ad 92)), (1, .ref (ad 0)), (0, .ref b)]) (hX : XOK G ad w σ) (hM : MOK G ad w σ) (hs : SOK σ)
    (hk : ∀ (w' : Nat → va_E) (σ' : zS) (H : Heap) (locs : List Loc), Wo G A s.heap 111 ad w' H locs → XOK G ad w' σ' → MOK G ad w' σ' → SOK σ' → W p l e room_1 s m args below meth c H locs 111 4997 Q (F0 m 1000 ls [])) :
    W p l e room_1 s m args below meth c H locs 111 4997 Q (F0 m 549 ls []) := by
  have hx := B.1
  have hb := B.2.1
  refine lv_aload_n hx hb dL_law_549 rfl (lv_at hl 2 rfl) ?_
  refine lv_aload_n hx hb dL_law_550 rfl (lv_at hl 3 rfl) ?_
  refine lv_iload_n hx hb dL_law_551 rfl (lv_at hl 0 rfl) ?_
  refine lv_iconst (v := nI 1) hx hb dL_law_552 (by decide) ?_
  refine n_iadd hx hb dL_law_553 ?_
  refine z_scr B hS hbl hbA hL hW (i + 1) (by omega) dL_law_554 ?_
  refine lv_aload_n hx hb dL_law_555 rfl (lv_at hl 3 rfl) ?_
  refine lv_iload_n hx hb dL_law_556 rfl (lv_at hl 0 rfl) ?_
  refine lv_iconst (v := nI 2) hx hb dL_law_557 (by decide) ?_
  refine n_iadd hx hb dL_law_558 ?_
  refine z_scr B hS hbl hbA hL hW (i + 2) (by omega) dL_law_559 ?_
  refine call_vi B hA hW (0) (by omega) hX.2.1 (r := _) rfl rfl (k_X4_part l G 111 ad w (by decide) σ hX hs (xs (i + 1)) (xs (i + 2))) mf_X4_part hw_287 rfl ⟨⟨rfl, rfl⟩, by decide, by decide⟩ ⟨by decide, by decide⟩ hl.1 rfl (Nat.le_of_ble_eq_true rfl) dL_law_560 (fun r w2 H locs hp hW => ?_)
  obtain ⟨rfl, hX2, o2⟩ := hp
  have hM2 := hM.keep o2
  refine lv_aload_n hx hb dL_law_563 rfl (lv_at hl 1 rfl) ?_
  refine lv_aload_n hx hb dL_law_564 rfl (lv_at hl 3 rfl) ?_
  refine lv_iload_n hx hb dL_law_565 rfl (lv_at hl 0 rfl) ?_
  refine lv_iconst (v := nI 1) hx hb dL_law_566 (by decide) ?_
  refine n_iadd hx hb dL_law_567 ?_
  refine z_scr B hS hbl hbA hL hW (i + 1) (by omega) dL_law_568 ?_
  refine lv_aload_n hx hb dL_law_569 rfl (lv_at hl 3 rfl) ?_
  refine lv_iload_n hx hb dL_law_570 rfl (lv_at hl 0 rfl) ?_
  refine lv_iconst (v := nI 2) hx hb dL_law_571 (by decide) ?_
  refine n_iadd hx hb dL_law_572 ?_
  refine z_scr B hS hbl hbA hL hW (i + 2) (by omega) dL_law_573 ?_
  refine call_vi B hA hW (92) (by omega) hM2.1 (r := _) rfl rfl (k_X5_part l G 111 ad w2 (by decide) σ hM2 hs (xs (i + 1)) (xs (i + 2))) mf_X5_part hw_563 rfl ⟨⟨rfl, rfl⟩, by decide, by decide⟩ ⟨by decide, by decide⟩ hl.1 rfl (Nat.le_of_ble_eq_true rfl) dL_law_574 (fun r3 w3 H locs hp hW => ?_)
  obtain ⟨rfl, hM3, o3⟩ := hp
  have hX3 := hX2.keep o3
  refine lv_icmp_eq (tgt := 1000) hx hb dL_law_577 (by decide) (fun hc => ?_) (fun hc => ?_)
  · exact hk w3 _ H locs hW hX3 hM3 (ok_part hs (xs (i + 1)) (xs (i + 2)))
  · exact absurd rfl hc
set_option maxHeartbeats 4000000 in
set_option maxRecDepth 100000 in
theorem lc_same {p : Program} {l : Launch} {e : Env} {s : State} {m : MethodId} {args : Array Value} {below : List Frame} {meth : Method} {c : Code} {H : Heap} {locs : List Loc} {ls : Array Slot} {Q : State → Prop} {A : Nat → Prop} {G : zG} {ad : Nat → Nat} {w : Nat → va_E} {b L i : Nat} {xs : Nat → Int32} {τ : Nat × Nat × Nat} {σ : zS} (B : Bs G p s m args c cL_law 4 RL) (hA : ∀ q, s.heap.size ≤ q → A q) (hT : Tb τ A s s.heap) (hS : va_X b L xs s s.heap) (hbl : b < s.heap.size) (hbA : ¬ A b) (hL : L ≤ 2560) (hi : i + 5 ≤ L) (hW : Wo G A s.heap 111 ad w H locs) (hl : lv_has ls 4 [(3, .int (nI i)), (2, .ref (ad 92)), (1, .ref (ad 0)), (0, .ref b)]) (hX : XOK G ad w σ) (hM : MOK G ad w σ) (hs : SOK σ)
    (hk : ∀ (w' : Nat → va_E) (σ' : zS) (H : Heap) (locs : List Loc), Wo G A s.heap 111 ad w' H locs → XOK G ad w' σ' → MOK G ad w' σ' → SOK σ' → W p l e room_1 s m args below meth c H locs 111 4997 Q (F0 m 1000 ls [])) :
    W p l e room_1 s m args below meth c H locs 111 4997 Q (F0 m 582 ls []) := by
  have hx := B.1
  have hb := B.2.1
  refine lv_aload_n hx hb dL_law_582 rfl (lv_at hl 2 rfl) ?_
  refine lv_aload_n hx hb dL_law_583 rfl (lv_at hl 3 rfl) ?_
  refine lv_iload_n hx hb dL_law_584 rfl (lv_at hl 0 rfl) ?_
  refine lv_iconst (v := nI 1) hx hb dL_law_585 (by decide) ?_
  refine n_iadd hx hb dL_law_586 ?_
  refine z_scr B hS hbl hbA hL hW (i + 1) (by omega) dL_law_587 ?_
  refine lv_aload_n hx hb dL_law_588 rfl (lv_at hl 3 rfl) ?_
  refine lv_iload_n hx hb dL_law_589 rfl (lv_at hl 0 rfl) ?_
  refine lv_iconst (v := nI 2) hx hb dL_law_590 (by decide) ?_
  refine n_iadd hx hb dL_law_591 ?_
  refine z_scr B hS hbl hbA hL hW (i + 2) (by omega) dL_law_592 ?_
  refine call_vi B hA hW (0) (by omega) hX.2.1 (r := _) rfl rfl (k_X4_same l G 111 ad w (by decide) σ hX hs (xs (i + 1)) (xs (i + 2))) mf_X4_same hw_291 rfl ⟨⟨rfl, rfl⟩, by decide, by decide⟩ ⟨by decide, by decide⟩ hl.1 rfl (Nat.le_of_ble_eq_true rfl) dL_law_593 (fun r w2 H locs hp hW => ?_)
  obtain ⟨rfl, hX2, o2⟩ := hp
  have hM2 := hM.keep o2
  refine lv_aload_n hx hb dL_law_596 rfl (lv_at hl 1 rfl) ?_
  refine lv_aload_n hx hb dL_law_597 rfl (lv_at hl 3 rfl) ?_
  refine lv_iload_n hx hb dL_law_598 rfl (lv_at hl 0 rfl) ?_
  refine lv_iconst (v := nI 1) hx hb dL_law_599 (by decide) ?_
  refine n_iadd hx hb dL_law_600 ?_
  refine z_scr B hS hbl hbA hL hW (i + 1) (by omega) dL_law_601 ?_
  refine lv_aload_n hx hb dL_law_602 rfl (lv_at hl 3 rfl) ?_
  refine lv_iload_n hx hb dL_law_603 rfl (lv_at hl 0 rfl) ?_
  refine lv_iconst (v := nI 2) hx hb dL_law_604 (by decide) ?_
  refine n_iadd hx hb dL_law_605 ?_
  refine z_scr B hS hbl hbA hL hW (i + 2) (by omega) dL_law_606 ?_
  refine call_vi B hA hW (92) (by omega) hM2.1 (r := _) rfl rfl (k_X5_same l G 111 ad w2 (by decide) σ hM2 hs (xs (i + 1)) (xs (i + 2))) mf_X5_same hw_567 rfl ⟨⟨rfl, rfl⟩, by decide, by decide⟩ ⟨by decide, by decide⟩ hl.1 rfl (Nat.le_of_ble_eq_true rfl) dL_law_607 (fun r3 w3 H locs hp hW => ?_)
  obtain ⟨rfl, hM3, o3⟩ := hp
  have hX3 := hX2.keep o3
  refine lv_icmp_eq (tgt := 1000) hx hb dL_law_610 (by decide) (fun hc => ?_) (fun hc => ?_)
  · exact hk w3 _ H locs hW hX3 hM3 (ok_same hs (xs (i + 1)) (xs (i + 2)))
  · exact absurd rfl hc
set_option maxHeartbeats 4000000 in
set_option maxRecDepth 100000 in
theorem lc_apart {p : Program} {l : Launch} {e : Env} {s : State} {m : MethodId} {args : Array Value} {below : List Frame} {meth : Method} {c : Code} {H : Heap} {locs : List Loc} {ls : Array Slot} {Q : State → Prop} {A : Nat → Prop} {G : zG} {ad : Nat → Nat} {w : Nat → va_E} {b L i : Nat} {xs : Nat → Int32} {τ : Nat × Nat × Nat} {σ : zS} (B : Bs G p s m args c cL_law 4 RL) (hA : ∀ q, s.heap.size ≤ q → A q) (hT : Tb τ A s s.heap) (hS : va_X b L xs s s.heap) (hbl : b < s.heap.size) (hbA : ¬ A b) (hL : L ≤ 2560) (hi : i + 5 ≤ L) (hW : Wo G A s.heap 111 ad w H locs) (hl : lv_has ls 4 [(3, .int (nI i)), (2, .ref (ad 92)), (1, .ref (ad 0)), (0, .ref b)]) (hX : XOK G ad w σ) (hM : MOK G ad w σ) (hs : SOK σ)
    (hk : ∀ (w' : Nat → va_E) (σ' : zS) (H : Heap) (locs : List Loc), Wo G A s.heap 111 ad w' H locs → XOK G ad w' σ' → MOK G ad w' σ' → SOK σ' → W p l e room_1 s m args below meth c H locs 111 4997 Q (F0 m 1000 ls [])) :
    W p l e room_1 s m args below meth c H locs 111 4997 Q (F0 m 615 ls []) := by
  have hx := B.1
  have hb := B.2.1
  refine lv_aload_n hx hb dL_law_615 rfl (lv_at hl 2 rfl) ?_
  refine lv_aload_n hx hb dL_law_616 rfl (lv_at hl 3 rfl) ?_
  refine lv_iload_n hx hb dL_law_617 rfl (lv_at hl 0 rfl) ?_
  refine lv_iconst (v := nI 1) hx hb dL_law_618 (by decide) ?_
  refine n_iadd hx hb dL_law_619 ?_
  refine z_scr B hS hbl hbA hL hW (i + 1) (by omega) dL_law_620 ?_
  refine lv_aload_n hx hb dL_law_621 rfl (lv_at hl 3 rfl) ?_
  refine lv_iload_n hx hb dL_law_622 rfl (lv_at hl 0 rfl) ?_
  refine lv_iconst (v := nI 2) hx hb dL_law_623 (by decide) ?_
  refine n_iadd hx hb dL_law_624 ?_
  refine z_scr B hS hbl hbA hL hW (i + 2) (by omega) dL_law_625 ?_
  refine call_vi B hA hW (0) (by omega) hX.2.1 (r := _) rfl rfl (k_X4_apart l G 111 ad w (by decide) σ hX hs (xs (i + 1)) (xs (i + 2))) mf_X4_apart hw_298 rfl ⟨⟨rfl, rfl⟩, by decide, by decide⟩ ⟨by decide, by decide⟩ hl.1 rfl (Nat.le_of_ble_eq_true rfl) dL_law_626 (fun r w2 H locs hp hW => ?_)
  obtain ⟨rfl, hX2, o2⟩ := hp
  have hM2 := hM.keep o2
  refine lv_aload_n hx hb dL_law_629 rfl (lv_at hl 1 rfl) ?_
  refine lv_aload_n hx hb dL_law_630 rfl (lv_at hl 3 rfl) ?_
  refine lv_iload_n hx hb dL_law_631 rfl (lv_at hl 0 rfl) ?_
  refine lv_iconst (v := nI 1) hx hb dL_law_632 (by decide) ?_
  refine n_iadd hx hb dL_law_633 ?_
  refine z_scr B hS hbl hbA hL hW (i + 1) (by omega) dL_law_634 ?_
  refine lv_aload_n hx hb dL_law_635 rfl (lv_at hl 3 rfl) ?_
  refine lv_iload_n hx hb dL_law_636 rfl (lv_at hl 0 rfl) ?_
  refine lv_iconst (v := nI 2) hx hb dL_law_637 (by decide) ?_
  refine n_iadd hx hb dL_law_638 ?_
  refine z_scr B hS hbl hbA hL hW (i + 2) (by omega) dL_law_639 ?_
  refine call_vi B hA hW (92) (by omega) hM2.1 (r := _) rfl rfl (k_X5_apart l G 111 ad w2 (by decide) σ hM2 hs (xs (i + 1)) (xs (i + 2))) mf_X5_apart hw_575 rfl ⟨⟨rfl, rfl⟩, by decide, by decide⟩ ⟨by decide, by decide⟩ hl.1 rfl (Nat.le_of_ble_eq_true rfl) dL_law_640 (fun r3 w3 H locs hp hW => ?_)
  obtain ⟨rfl, hM3, o3⟩ := hp
  have hX3 := hX2.keep o3
  refine lv_icmp_eq (tgt := 1000) hx hb dL_law_643 (by decide) (fun hc => ?_) (fun hc => ?_)
  · exact hk w3 _ H locs hW hX3 hM3 (ok_apart hs (xs (i + 1)) (xs (i + 2)))
  · exact absurd rfl hc
set_option maxHeartbeats 4000000 in
set_option maxRecDepth 100000 in
theorem lc_size {p : Program} {l : Launch} {e : Env} {s : State} {m : MethodId} {args : Array Value} {below : List Frame} {meth : Method} {c : Code} {H : Heap} {locs : List Loc} {ls : Array Slot} {Q : State → Prop} {A : Nat → Prop} {G : zG} {ad : Nat → Nat} {w : Nat → va_E} {b L i : Nat} {xs : Nat → Int32} {τ : Nat × Nat × Nat} {σ : zS} (B : Bs G p s m args c cL_law 4 RL) (hA : ∀ q, s.heap.size ≤ q → A q) (hT : Tb τ A s s.heap) (hS : va_X b L xs s s.heap) (hbl : b < s.heap.size) (hbA : ¬ A b) (hL : L ≤ 2560) (hi : i + 5 ≤ L) (hW : Wo G A s.heap 111 ad w H locs) (hl : lv_has ls 4 [(3, .int (nI i)), (2, .ref (ad 92)), (1, .ref (ad 0)), (0, .ref b)]) (hX : XOK G ad w σ) (hM : MOK G ad w σ) (hs : SOK σ)
    (hk : ∀ (w' : Nat → va_E) (σ' : zS) (H : Heap) (locs : List Loc), Wo G A s.heap 111 ad w' H locs → XOK G ad w' σ' → MOK G ad w' σ' → SOK σ' → W p l e room_1 s m args below meth c H locs 111 4997 Q (F0 m 1000 ls [])) :
    W p l e room_1 s m args below meth c H locs 111 4997 Q (F0 m 648 ls []) := by
  have hx := B.1
  have hb := B.2.1
  refine lv_aload_n hx hb dL_law_648 rfl (lv_at hl 2 rfl) ?_
  refine lv_aload_n hx hb dL_law_649 rfl (lv_at hl 3 rfl) ?_
  refine lv_iload_n hx hb dL_law_650 rfl (lv_at hl 0 rfl) ?_
  refine lv_iconst (v := nI 1) hx hb dL_law_651 (by decide) ?_
  refine n_iadd hx hb dL_law_652 ?_
  refine z_scr B hS hbl hbA hL hW (i + 1) (by omega) dL_law_653 ?_
  refine call_vi B hA hW (0) (by omega) hX.2.1 (r := _) rfl rfl (k_X4_size l G 111 ad w (by decide) σ hX hs (xs (i + 1))) mf_X4_size hw_302 rfl ⟨⟨rfl, rfl⟩, by decide, by decide⟩ ⟨by decide, by decide⟩ hl.1 rfl (Nat.le_of_ble_eq_true rfl) dL_law_654 (fun r w2 H locs hp hW => ?_)
  obtain ⟨rfl, hX2, o2⟩ := hp
  have hM2 := hM.keep o2
  refine lv_aload_n hx hb dL_law_657 rfl (lv_at hl 1 rfl) ?_
  refine lv_aload_n hx hb dL_law_658 rfl (lv_at hl 3 rfl) ?_
  refine lv_iload_n hx hb dL_law_659 rfl (lv_at hl 0 rfl) ?_
  refine lv_iconst (v := nI 1) hx hb dL_law_660 (by decide) ?_
  refine n_iadd hx hb dL_law_661 ?_
  refine z_scr B hS hbl hbA hL hW (i + 1) (by omega) dL_law_662 ?_
  refine call_vi B hA hW (92) (by omega) hM2.1 (r := _) rfl rfl (k_X5_size l G 111 ad w2 (by decide) σ hM2 hs (xs (i + 1))) mf_X5_size hw_579 rfl ⟨⟨rfl, rfl⟩, by decide, by decide⟩ ⟨by decide, by decide⟩ hl.1 rfl (Nat.le_of_ble_eq_true rfl) dL_law_663 (fun r3 w3 H locs hp hW => ?_)
  obtain ⟨rfl, hM3, o3⟩ := hp
  have hX3 := hX2.keep o3
  refine lv_icmp_eq (tgt := 1000) hx hb dL_law_666 (by decide) (fun hc => ?_) (fun hc => ?_)
  · exact hk w3 _ H locs hW hX3 hM3 (ok_size hs (xs (i + 1)))
  · exact absurd rfl hc
set_option maxHeartbeats 4000000 in
set_option maxRecDepth 100000 in
theorem lc_own {p : Program} {l : Launch} {e : Env} {s : State} {m : MethodId} {args : Array Value} {below : List Frame} {meth : Method} {c : Code} {H : Heap} {locs : List Loc} {ls : Array Slot} {Q : State → Prop} {A : Nat → Prop} {G : zG} {ad : Nat → Nat} {w : Nat → va_E} {b L i : Nat} {xs : Nat → Int32} {τ : Nat × Nat × Nat} {σ : zS} (B : Bs G p s m args c cL_law 4 RL) (hA : ∀ q, s.heap.size ≤ q → A q) (hT : Tb τ A s s.heap) (hS : va_X b L xs s s.heap) (hbl : b < s.heap.size) (hbA : ¬ A b) (hL : L ≤ 2560) (hi : i + 5 ≤ L) (hW : Wo G A s.heap 111 ad w H locs) (hl : lv_has ls 4 [(3, .int (nI i)), (2, .ref (ad 92)), (1, .ref (ad 0)), (0, .ref b)]) (hX : XOK G ad w σ) (hM : MOK G ad w σ) (hs : SOK σ)
    (hk : ∀ (w' : Nat → va_E) (σ' : zS) (H : Heap) (locs : List Loc), Wo G A s.heap 111 ad w' H locs → XOK G ad w' σ' → MOK G ad w' σ' → SOK σ' → W p l e room_1 s m args below meth c H locs 111 4997 Q (F0 m 1000 ls [])) :
    W p l e room_1 s m args below meth c H locs 111 4997 Q (F0 m 671 ls []) := by
  have hx := B.1
  have hb := B.2.1
  refine lv_aload_n hx hb dL_law_671 rfl (lv_at hl 2 rfl) ?_
  refine lv_aload_n hx hb dL_law_672 rfl (lv_at hl 3 rfl) ?_
  refine lv_iload_n hx hb dL_law_673 rfl (lv_at hl 0 rfl) ?_
  refine lv_iconst (v := nI 1) hx hb dL_law_674 (by decide) ?_
  refine n_iadd hx hb dL_law_675 ?_
  refine z_scr B hS hbl hbA hL hW (i + 1) (by omega) dL_law_676 ?_
  refine lv_aload_n hx hb dL_law_677 rfl (lv_at hl 3 rfl) ?_
  refine lv_iload_n hx hb dL_law_678 rfl (lv_at hl 0 rfl) ?_
  refine lv_iconst (v := nI 2) hx hb dL_law_679 (by decide) ?_
  refine n_iadd hx hb dL_law_680 ?_
  refine z_scr B hS hbl hbA hL hW (i + 2) (by omega) dL_law_681 ?_
  refine call_vi B hA hW (0) (by omega) hX.2.1 (r := _) rfl rfl (k_X4_own l G 111 ad w (by decide) σ hX hs (xs (i + 1)) (xs (i + 2))) mf_X4_own hw_306 rfl ⟨⟨rfl, rfl⟩, by decide, by decide⟩ ⟨by decide, by decide⟩ hl.1 rfl (Nat.le_of_ble_eq_true rfl) dL_law_682 (fun r w2 H locs hp hW => ?_)
  obtain ⟨rfl, hX2, o2⟩ := hp
  have hM2 := hM.keep o2
  refine lv_aload_n hx hb dL_law_685 rfl (lv_at hl 1 rfl) ?_
  refine lv_aload_n hx hb dL_law_686 rfl (lv_at hl 3 rfl) ?_
  refine lv_iload_n hx hb dL_law_687 rfl (lv_at hl 0 rfl) ?_
  refine lv_iconst (v := nI 1) hx hb dL_law_688 (by decide) ?_
  refine n_iadd hx hb dL_law_689 ?_
  refine z_scr B hS hbl hbA hL hW (i + 1) (by omega) dL_law_690 ?_
  refine lv_aload_n hx hb dL_law_691 rfl (lv_at hl 3 rfl) ?_
  refine lv_iload_n hx hb dL_law_692 rfl (lv_at hl 0 rfl) ?_
  refine lv_iconst (v := nI 2) hx hb dL_law_693 (by decide) ?_
  refine n_iadd hx hb dL_law_694 ?_
  refine z_scr B hS hbl hbA hL hW (i + 2) (by omega) dL_law_695 ?_
  refine call_vi B hA hW (92) (by omega) hM2.1 (r := _) rfl rfl (k_X5_own l G 111 ad w2 (by decide) σ hM2 hs (xs (i + 1)) (xs (i + 2))) mf_X5_own hw_583 rfl ⟨⟨rfl, rfl⟩, by decide, by decide⟩ ⟨by decide, by decide⟩ hl.1 rfl (Nat.le_of_ble_eq_true rfl) dL_law_696 (fun r3 w3 H locs hp hW => ?_)
  obtain ⟨rfl, hM3, o3⟩ := hp
  have hX3 := hX2.keep o3
  refine lv_icmp_eq (tgt := 1000) hx hb dL_law_699 (by decide) (fun hc => ?_) (fun hc => ?_)
  · exact hk w3 _ H locs hW hX3 hM3 (ok_own hs (xs (i + 1)) (xs (i + 2)))
  · exact absurd rfl hc
set_option maxHeartbeats 4000000 in
set_option maxRecDepth 100000 in
theorem lc_trace {p : Program} {l : Launch} {e : Env} {s : State} {m : MethodId} {args : Array Value} {below : List Frame} {meth : Method} {c : Code} {H : Heap} {locs : List Loc} {ls : Array Slot} {Q : State → Prop} {A : Nat → Prop} {G : zG} {ad : Nat → Nat} {w : Nat → va_E} {b L i : Nat} {xs : Nat → Int32} {τ : Nat × Nat × Nat} {σ : zS} (B : Bs G p s m args c cL_law 4 RL) (hA : ∀ q, s.heap.size ≤ q → A q) (hT : Tb τ A s s.heap) (hS : va_X b L xs s s.heap) (hbl : b < s.heap.size) (hbA : ¬ A b) (hL : L ≤ 2560) (hi : i + 5 ≤ L) (hW : Wo G A s.heap 111 ad w H locs) (hl : lv_has ls 4 [(3, .int (nI i)), (2, .ref (ad 92)), (1, .ref (ad 0)), (0, .ref b)]) (hX : XOK G ad w σ) (hM : MOK G ad w σ) (hs : SOK σ)
    (hk : ∀ (w' : Nat → va_E) (σ' : zS) (H : Heap) (locs : List Loc), Wo G A s.heap 111 ad w' H locs → XOK G ad w' σ' → MOK G ad w' σ' → SOK σ' → W p l e room_1 s m args below meth c H locs 111 4997 Q (F0 m 1000 ls [])) :
    W p l e room_1 s m args below meth c H locs 111 4997 Q (F0 m 704 ls []) := by
  have hx := B.1
  have hb := B.2.1
  refine lv_aload_n hx hb dL_law_704 rfl (lv_at hl 2 rfl) ?_
  refine lv_aload_n hx hb dL_law_705 rfl (lv_at hl 3 rfl) ?_
  refine lv_iload_n hx hb dL_law_706 rfl (lv_at hl 0 rfl) ?_
  refine lv_iconst (v := nI 1) hx hb dL_law_707 (by decide) ?_
  refine n_iadd hx hb dL_law_708 ?_
  refine z_scr B hS hbl hbA hL hW (i + 1) (by omega) dL_law_709 ?_
  refine lv_aload_n hx hb dL_law_710 rfl (lv_at hl 3 rfl) ?_
  refine lv_iload_n hx hb dL_law_711 rfl (lv_at hl 0 rfl) ?_
  refine lv_iconst (v := nI 2) hx hb dL_law_712 (by decide) ?_
  refine n_iadd hx hb dL_law_713 ?_
  refine z_scr B hS hbl hbA hL hW (i + 2) (by omega) dL_law_714 ?_
  refine lv_aload_n hx hb dL_law_715 rfl (lv_at hl 3 rfl) ?_
  refine lv_iload_n hx hb dL_law_716 rfl (lv_at hl 0 rfl) ?_
  refine lv_iconst (v := nI 3) hx hb dL_law_717 (by decide) ?_
  refine n_iadd hx hb dL_law_718 ?_
  refine z_scr B hS hbl hbA hL hW (i + 3) (by omega) dL_law_719 ?_
  refine lv_if_eq (tgt := 727) hx hb dL_law_720 (by decide) (fun hz => ?_) (fun hz => ?_)
  · refine lv_iconst (v := nI 0) hx hb dL_law_727 (by decide) ?_
    refine call_vi B hA hW (0) (by omega) hX.2.1 (r := _) rfl rfl (k_X4_trace l G 111 ad w (by decide) σ hX hs (xs (i + 1)) (xs (i + 2)) 0 (by decide)) mf_X4_trace hw_315 rfl ⟨⟨rfl, rfl⟩, by decide, by decide⟩ ⟨by decide, by decide⟩ hl.1 rfl (Nat.le_of_ble_eq_true rfl) dL_law_728 (fun r w2 H locs hp hW => ?_)
    obtain ⟨rfl, hX2, o2⟩ := hp
    have hM2 := hM.keep o2
    refine lv_aload_n hx hb dL_law_731 rfl (lv_at hl 1 rfl) ?_
    refine lv_aload_n hx hb dL_law_732 rfl (lv_at hl 3 rfl) ?_
    refine lv_iload_n hx hb dL_law_733 rfl (lv_at hl 0 rfl) ?_
    refine lv_iconst (v := nI 1) hx hb dL_law_734 (by decide) ?_
    refine n_iadd hx hb dL_law_735 ?_
    refine z_scr B hS hbl hbA hL hW (i + 1) (by omega) dL_law_736 ?_
    refine lv_aload_n hx hb dL_law_737 rfl (lv_at hl 3 rfl) ?_
    refine lv_iload_n hx hb dL_law_738 rfl (lv_at hl 0 rfl) ?_
    refine lv_iconst (v := nI 2) hx hb dL_law_739 (by decide) ?_
    refine n_iadd hx hb dL_law_740 ?_
    refine z_scr B hS hbl hbA hL hW (i + 2) (by omega) dL_law_741 ?_
    refine lv_aload_n hx hb dL_law_742 rfl (lv_at hl 3 rfl) ?_
    refine lv_iload_n hx hb dL_law_743 rfl (lv_at hl 0 rfl) ?_
    refine lv_iconst (v := nI 3) hx hb dL_law_744 (by decide) ?_
    refine n_iadd hx hb dL_law_745 ?_
    refine z_scr B hS hbl hbA hL hW (i + 3) (by omega) dL_law_746 ?_
    refine lv_if_eq (tgt := 754) hx hb dL_law_747 (by decide) (fun hz2 => ?_) (fun hz2 => ?_)
    · refine lv_iconst (v := nI 0) hx hb dL_law_754 (by decide) ?_
      refine call_vi B hA hW (92) (by omega) hM2.1 (r := _) rfl rfl (k_X5_trace l G 111 ad w2 (by decide) σ hM2 hs (xs (i + 1)) (xs (i + 2)) 0 (by decide)) mf_X5_trace hw_587 rfl ⟨⟨rfl, rfl⟩, by decide, by decide⟩ ⟨by decide, by decide⟩ hl.1 rfl (Nat.le_of_ble_eq_true rfl) dL_law_755 (fun r3 w3 H locs hp hW => ?_)
      obtain ⟨rfl, hM3, o3⟩ := hp
      have hX3 := hX2.keep o3
      refine lv_icmp_eq (tgt := 1000) hx hb dL_law_758 (by decide) (fun hc => ?_) (fun hc => ?_)
      · exact hk w3 _ H locs hW hX3 hM3 (ok_trace hs (xs (i + 1)) (xs (i + 2)) 0)
      · exact absurd rfl hc
    · exact absurd hz hz2
  · refine lv_iconst (v := nI 1) hx hb dL_law_723 (by decide) ?_
    refine lv_goto (tgt := 728) hx hb dL_law_724 (by decide) ?_
    refine call_vi B hA hW (0) (by omega) hX.2.1 (r := _) rfl rfl (k_X4_trace l G 111 ad w (by decide) σ hX hs (xs (i + 1)) (xs (i + 2)) 1 (by decide)) mf_X4_trace hw_315 rfl ⟨⟨rfl, rfl⟩, by decide, by decide⟩ ⟨by decide, by decide⟩ hl.1 rfl (Nat.le_of_ble_eq_true rfl) dL_law_728 (fun r w2 H locs hp hW => ?_)
    obtain ⟨rfl, hX2, o2⟩ := hp
    have hM2 := hM.keep o2
    refine lv_aload_n hx hb dL_law_731 rfl (lv_at hl 1 rfl) ?_
    refine lv_aload_n hx hb dL_law_732 rfl (lv_at hl 3 rfl) ?_
    refine lv_iload_n hx hb dL_law_733 rfl (lv_at hl 0 rfl) ?_
    refine lv_iconst (v := nI 1) hx hb dL_law_734 (by decide) ?_
    refine n_iadd hx hb dL_law_735 ?_
    refine z_scr B hS hbl hbA hL hW (i + 1) (by omega) dL_law_736 ?_
    refine lv_aload_n hx hb dL_law_737 rfl (lv_at hl 3 rfl) ?_
    refine lv_iload_n hx hb dL_law_738 rfl (lv_at hl 0 rfl) ?_
    refine lv_iconst (v := nI 2) hx hb dL_law_739 (by decide) ?_
    refine n_iadd hx hb dL_law_740 ?_
    refine z_scr B hS hbl hbA hL hW (i + 2) (by omega) dL_law_741 ?_
    refine lv_aload_n hx hb dL_law_742 rfl (lv_at hl 3 rfl) ?_
    refine lv_iload_n hx hb dL_law_743 rfl (lv_at hl 0 rfl) ?_
    refine lv_iconst (v := nI 3) hx hb dL_law_744 (by decide) ?_
    refine n_iadd hx hb dL_law_745 ?_
    refine z_scr B hS hbl hbA hL hW (i + 3) (by omega) dL_law_746 ?_
    refine lv_if_eq (tgt := 754) hx hb dL_law_747 (by decide) (fun hz2 => ?_) (fun hz2 => ?_)
    · exact absurd hz2 hz
    · refine lv_iconst (v := nI 1) hx hb dL_law_750 (by decide) ?_
      refine lv_goto (tgt := 755) hx hb dL_law_751 (by decide) ?_
      refine call_vi B hA hW (92) (by omega) hM2.1 (r := _) rfl rfl (k_X5_trace l G 111 ad w2 (by decide) σ hM2 hs (xs (i + 1)) (xs (i + 2)) 1 (by decide)) mf_X5_trace hw_587 rfl ⟨⟨rfl, rfl⟩, by decide, by decide⟩ ⟨by decide, by decide⟩ hl.1 rfl (Nat.le_of_ble_eq_true rfl) dL_law_755 (fun r3 w3 H locs hp hW => ?_)
      obtain ⟨rfl, hM3, o3⟩ := hp
      have hX3 := hX2.keep o3
      refine lv_icmp_eq (tgt := 1000) hx hb dL_law_758 (by decide) (fun hc => ?_) (fun hc => ?_)
      · exact hk w3 _ H locs hW hX3 hM3 (ok_trace hs (xs (i + 1)) (xs (i + 2)) 1)
      · exact absurd rfl hc
set_option maxHeartbeats 4000000 in
set_option maxRecDepth 100000 in
theorem lc_squares {p : Program} {l : Launch} {e : Env} {s : State} {m : MethodId} {args : Array Value} {below : List Frame} {meth : Method} {c : Code} {H : Heap} {locs : List Loc} {ls : Array Slot} {Q : State → Prop} {A : Nat → Prop} {G : zG} {ad : Nat → Nat} {w : Nat → va_E} {b L i : Nat} {xs : Nat → Int32} {τ : Nat × Nat × Nat} {σ : zS} (B : Bs G p s m args c cL_law 4 RL) (hA : ∀ q, s.heap.size ≤ q → A q) (hT : Tb τ A s s.heap) (hS : va_X b L xs s s.heap) (hbl : b < s.heap.size) (hbA : ¬ A b) (hL : L ≤ 2560) (hi : i + 5 ≤ L) (hW : Wo G A s.heap 111 ad w H locs) (hl : lv_has ls 4 [(3, .int (nI i)), (2, .ref (ad 92)), (1, .ref (ad 0)), (0, .ref b)]) (hX : XOK G ad w σ) (hM : MOK G ad w σ) (hs : SOK σ)
    (hk : ∀ (w' : Nat → va_E) (σ' : zS) (H : Heap) (locs : List Loc), Wo G A s.heap 111 ad w' H locs → XOK G ad w' σ' → MOK G ad w' σ' → SOK σ' → W p l e room_1 s m args below meth c H locs 111 4997 Q (F0 m 1000 ls [])) :
    W p l e room_1 s m args below meth c H locs 111 4997 Q (F0 m 763 ls []) := by
  have hx := B.1
  have hb := B.2.1
  refine lv_aload_n hx hb dL_law_763 rfl (lv_at hl 2 rfl) ?_
  refine lv_aload_n hx hb dL_law_764 rfl (lv_at hl 3 rfl) ?_
  refine lv_iload_n hx hb dL_law_765 rfl (lv_at hl 0 rfl) ?_
  refine lv_iconst (v := nI 1) hx hb dL_law_766 (by decide) ?_
  refine n_iadd hx hb dL_law_767 ?_
  refine z_scr B hS hbl hbA hL hW (i + 1) (by omega) dL_law_768 ?_
  refine lv_aload_n hx hb dL_law_769 rfl (lv_at hl 3 rfl) ?_
  refine lv_iload_n hx hb dL_law_770 rfl (lv_at hl 0 rfl) ?_
  refine lv_iconst (v := nI 2) hx hb dL_law_771 (by decide) ?_
  refine n_iadd hx hb dL_law_772 ?_
  refine z_scr B hS hbl hbA hL hW (i + 2) (by omega) dL_law_773 ?_
  refine call_vi B hA hW (0) (by omega) hX.2.1 (r := _) rfl rfl (k_X4_squares l G 111 ad w (by decide) σ hX hs (xs (i + 1)) (xs (i + 2))) mf_X4_squares hw_319 rfl ⟨⟨rfl, rfl⟩, by decide, by decide⟩ ⟨by decide, by decide⟩ hl.1 rfl (Nat.le_of_ble_eq_true rfl) dL_law_774 (fun r w2 H locs hp hW => ?_)
  obtain ⟨rfl, hX2, o2⟩ := hp
  have hM2 := hM.keep o2
  refine lv_aload_n hx hb dL_law_777 rfl (lv_at hl 1 rfl) ?_
  refine lv_aload_n hx hb dL_law_778 rfl (lv_at hl 3 rfl) ?_
  refine lv_iload_n hx hb dL_law_779 rfl (lv_at hl 0 rfl) ?_
  refine lv_iconst (v := nI 1) hx hb dL_law_780 (by decide) ?_
  refine n_iadd hx hb dL_law_781 ?_
  refine z_scr B hS hbl hbA hL hW (i + 1) (by omega) dL_law_782 ?_
  refine lv_aload_n hx hb dL_law_783 rfl (lv_at hl 3 rfl) ?_
  refine lv_iload_n hx hb dL_law_784 rfl (lv_at hl 0 rfl) ?_
  refine lv_iconst (v := nI 2) hx hb dL_law_785 (by decide) ?_
  refine n_iadd hx hb dL_law_786 ?_
  refine z_scr B hS hbl hbA hL hW (i + 2) (by omega) dL_law_787 ?_
  refine call_vi B hA hW (92) (by omega) hM2.1 (r := _) rfl rfl (k_X5_squares l G 111 ad w2 (by decide) σ hM2 hs (xs (i + 1)) (xs (i + 2))) mf_X5_squares hw_591 rfl ⟨⟨rfl, rfl⟩, by decide, by decide⟩ ⟨by decide, by decide⟩ hl.1 rfl (Nat.le_of_ble_eq_true rfl) dL_law_788 (fun r3 w3 H locs hp hW => ?_)
  obtain ⟨rfl, hM3, o3⟩ := hp
  have hX3 := hX2.keep o3
  refine lv_icmp_eq (tgt := 1000) hx hb dL_law_791 (by decide) (fun hc => ?_) (fun hc => ?_)
  · exact hk w3 _ H locs hW hX3 hM3 (ok_squares hs (xs (i + 1)) (xs (i + 2)))
  · exact absurd rfl hc
set_option maxHeartbeats 4000000 in
set_option maxRecDepth 100000 in
theorem lc_count {p : Program} {l : Launch} {e : Env} {s : State} {m : MethodId} {args : Array Value} {below : List Frame} {meth : Method} {c : Code} {H : Heap} {locs : List Loc} {ls : Array Slot} {Q : State → Prop} {A : Nat → Prop} {G : zG} {ad : Nat → Nat} {w : Nat → va_E} {b L i : Nat} {xs : Nat → Int32} {τ : Nat × Nat × Nat} {σ : zS} (B : Bs G p s m args c cL_law 4 RL) (hA : ∀ q, s.heap.size ≤ q → A q) (hT : Tb τ A s s.heap) (hS : va_X b L xs s s.heap) (hbl : b < s.heap.size) (hbA : ¬ A b) (hL : L ≤ 2560) (hi : i + 5 ≤ L) (hW : Wo G A s.heap 111 ad w H locs) (hl : lv_has ls 4 [(3, .int (nI i)), (2, .ref (ad 92)), (1, .ref (ad 0)), (0, .ref b)]) (hX : XOK G ad w σ) (hM : MOK G ad w σ) (hs : SOK σ)
    (hk : ∀ (w' : Nat → va_E) (σ' : zS) (H : Heap) (locs : List Loc), Wo G A s.heap 111 ad w' H locs → XOK G ad w' σ' → MOK G ad w' σ' → SOK σ' → W p l e room_1 s m args below meth c H locs 111 4997 Q (F0 m 1000 ls [])) :
    W p l e room_1 s m args below meth c H locs 111 4997 Q (F0 m 796 ls []) := by
  have hx := B.1
  have hb := B.2.1
  refine lv_aload_n hx hb dL_law_796 rfl (lv_at hl 2 rfl) ?_
  refine call_vi B hA hW (0) (by omega) hX.2.1 (r := _) rfl rfl (k_X4_count l G 111 ad w (by decide) σ hX hs ) mf_X4_count hw_327 rfl ⟨⟨rfl, rfl⟩, by decide, by decide⟩ ⟨by decide, by decide⟩ hl.1 rfl (Nat.le_of_ble_eq_true rfl) dL_law_797 (fun r w2 H locs hp hW => ?_)
  obtain ⟨rfl, hX2, o2⟩ := hp
  have hM2 := hM.keep o2
  refine lv_aload_n hx hb dL_law_800 rfl (lv_at hl 1 rfl) ?_
  refine call_vi B hA hW (92) (by omega) hM2.1 (r := _) rfl rfl (k_X5_count l G 111 ad w2 (by decide) σ hM2 hs ) mf_X5_count hw_597 rfl ⟨⟨rfl, rfl⟩, by decide, by decide⟩ ⟨by decide, by decide⟩ hl.1 rfl (Nat.le_of_ble_eq_true rfl) dL_law_801 (fun r3 w3 H locs hp hW => ?_)
  obtain ⟨rfl, hM3, o3⟩ := hp
  have hX3 := hX2.keep o3
  refine lv_icmp_eq (tgt := 1000) hx hb dL_law_804 (by decide) (fun hc => ?_) (fun hc => ?_)
  · exact hk w3 _ H locs hW hX3 hM3 (ok_count hs )
  · exact absurd rfl hc
set_option maxHeartbeats 4000000 in
set_option maxRecDepth 100000 in
theorem lc_lay {p : Program} {l : Launch} {e : Env} {s : State} {m : MethodId} {args : Array Value} {below : List Frame} {meth : Method} {c : Code} {H : Heap} {locs : List Loc} {ls : Array Slot} {Q : State → Prop} {A : Nat → Prop} {G : zG} {ad : Nat → Nat} {w : Nat → va_E} {b L i : Nat} {xs : Nat → Int32} {τ : Nat × Nat × Nat} {σ : zS} (B : Bs G p s m args c cL_law 4 RL) (hA : ∀ q, s.heap.size ≤ q → A q) (hT : Tb τ A s s.heap) (hS : va_X b L xs s s.heap) (hbl : b < s.heap.size) (hbA : ¬ A b) (hL : L ≤ 2560) (hi : i + 5 ≤ L) (hW : Wo G A s.heap 111 ad w H locs) (hl : lv_has ls 4 [(3, .int (nI i)), (2, .ref (ad 92)), (1, .ref (ad 0)), (0, .ref b)]) (hX : XOK G ad w σ) (hM : MOK G ad w σ) (hs : SOK σ)
    (hk : ∀ (w' : Nat → va_E) (σ' : zS) (H : Heap) (locs : List Loc), Wo G A s.heap 111 ad w' H locs → XOK G ad w' σ' → MOK G ad w' σ' → SOK σ' → W p l e room_1 s m args below meth c H locs 111 4997 Q (F0 m 1000 ls [])) :
    W p l e room_1 s m args below meth c H locs 111 4997 Q (F0 m 809 ls []) := by
  have hx := B.1
  have hb := B.2.1
  refine lv_aload_n hx hb dL_law_809 rfl (lv_at hl 2 rfl) ?_
  refine lv_aload_n hx hb dL_law_810 rfl (lv_at hl 3 rfl) ?_
  refine lv_iload_n hx hb dL_law_811 rfl (lv_at hl 0 rfl) ?_
  refine lv_iconst (v := nI 1) hx hb dL_law_812 (by decide) ?_
  refine n_iadd hx hb dL_law_813 ?_
  refine z_scr B hS hbl hbA hL hW (i + 1) (by omega) dL_law_814 ?_
  refine lv_aload_n hx hb dL_law_815 rfl (lv_at hl 3 rfl) ?_
  refine lv_iload_n hx hb dL_law_816 rfl (lv_at hl 0 rfl) ?_
  refine lv_iconst (v := nI 2) hx hb dL_law_817 (by decide) ?_
  refine n_iadd hx hb dL_law_818 ?_
  refine z_scr B hS hbl hbA hL hW (i + 2) (by omega) dL_law_819 ?_
  refine call_vi B hA hW (0) (by omega) hX.2.1 (r := _) rfl rfl (k_X4_lay l G 111 ad w (by decide) σ hX hs (xs (i + 1)) (xs (i + 2))) mf_X4_lay hw_331 rfl ⟨⟨rfl, rfl⟩, by decide, by decide⟩ ⟨by decide, by decide⟩ hl.1 rfl (Nat.le_of_ble_eq_true rfl) dL_law_820 (fun r w2 H locs hp hW => ?_)
  obtain ⟨rfl, hX2, o2⟩ := hp
  have hM2 := hM.keep o2
  refine lv_aload_n hx hb dL_law_823 rfl (lv_at hl 1 rfl) ?_
  refine lv_aload_n hx hb dL_law_824 rfl (lv_at hl 3 rfl) ?_
  refine lv_iload_n hx hb dL_law_825 rfl (lv_at hl 0 rfl) ?_
  refine lv_iconst (v := nI 1) hx hb dL_law_826 (by decide) ?_
  refine n_iadd hx hb dL_law_827 ?_
  refine z_scr B hS hbl hbA hL hW (i + 1) (by omega) dL_law_828 ?_
  refine lv_aload_n hx hb dL_law_829 rfl (lv_at hl 3 rfl) ?_
  refine lv_iload_n hx hb dL_law_830 rfl (lv_at hl 0 rfl) ?_
  refine lv_iconst (v := nI 2) hx hb dL_law_831 (by decide) ?_
  refine n_iadd hx hb dL_law_832 ?_
  refine z_scr B hS hbl hbA hL hW (i + 2) (by omega) dL_law_833 ?_
  refine call_vi B hA hW (92) (by omega) hM2.1 (r := _) rfl rfl (k_X5_lay l G 111 ad w2 (by decide) σ hM2 hs (xs (i + 1)) (xs (i + 2))) mf_X5_lay hw_601 rfl ⟨⟨rfl, rfl⟩, by decide, by decide⟩ ⟨by decide, by decide⟩ hl.1 rfl (Nat.le_of_ble_eq_true rfl) dL_law_834 (fun r3 w3 H locs hp hW => ?_)
  obtain ⟨rfl, hM3, o3⟩ := hp
  have hX3 := hX2.keep o3
  refine lv_icmp_eq (tgt := 1000) hx hb dL_law_837 (by decide) (fun hc => ?_) (fun hc => ?_)
  · exact hk w3 _ H locs hW hX3 hM3 (ok_lay hs (xs (i + 1)) (xs (i + 2)))
  · exact absurd rfl hc
set_option maxHeartbeats 4000000 in
set_option maxRecDepth 100000 in
theorem lc_tell {p : Program} {l : Launch} {e : Env} {s : State} {m : MethodId} {args : Array Value} {below : List Frame} {meth : Method} {c : Code} {H : Heap} {locs : List Loc} {ls : Array Slot} {Q : State → Prop} {A : Nat → Prop} {G : zG} {ad : Nat → Nat} {w : Nat → va_E} {b L i : Nat} {xs : Nat → Int32} {τ : Nat × Nat × Nat} {σ : zS} (B : Bs G p s m args c cL_law 4 RL) (hA : ∀ q, s.heap.size ≤ q → A q) (hT : Tb τ A s s.heap) (hS : va_X b L xs s s.heap) (hbl : b < s.heap.size) (hbA : ¬ A b) (hL : L ≤ 2560) (hi : i + 5 ≤ L) (hW : Wo G A s.heap 111 ad w H locs) (hl : lv_has ls 4 [(3, .int (nI i)), (2, .ref (ad 92)), (1, .ref (ad 0)), (0, .ref b)]) (hX : XOK G ad w σ) (hM : MOK G ad w σ) (hs : SOK σ)
    (hk : ∀ (w' : Nat → va_E) (σ' : zS) (H : Heap) (locs : List Loc), Wo G A s.heap 111 ad w' H locs → XOK G ad w' σ' → MOK G ad w' σ' → SOK σ' → W p l e room_1 s m args below meth c H locs 111 4997 Q (F0 m 1000 ls [])) :
    W p l e room_1 s m args below meth c H locs 111 4997 Q (F0 m 842 ls []) := by
  have hx := B.1
  have hb := B.2.1
  refine lv_aload_n hx hb dL_law_842 rfl (lv_at hl 2 rfl) ?_
  refine lv_aload_n hx hb dL_law_843 rfl (lv_at hl 3 rfl) ?_
  refine lv_iload_n hx hb dL_law_844 rfl (lv_at hl 0 rfl) ?_
  refine lv_iconst (v := nI 1) hx hb dL_law_845 (by decide) ?_
  refine n_iadd hx hb dL_law_846 ?_
  refine z_scr B hS hbl hbA hL hW (i + 1) (by omega) dL_law_847 ?_
  refine lv_aload_n hx hb dL_law_848 rfl (lv_at hl 3 rfl) ?_
  refine lv_iload_n hx hb dL_law_849 rfl (lv_at hl 0 rfl) ?_
  refine lv_iconst (v := nI 2) hx hb dL_law_850 (by decide) ?_
  refine n_iadd hx hb dL_law_851 ?_
  refine z_scr B hS hbl hbA hL hW (i + 2) (by omega) dL_law_852 ?_
  refine call_vi B hA hW (0) (by omega) hX.2.1 (r := _) rfl rfl (k_X4_tell l G 111 ad w (by decide) σ hX hs (xs (i + 1)) (xs (i + 2))) mf_X4_tell hw_335 rfl ⟨⟨rfl, rfl⟩, by decide, by decide⟩ ⟨by decide, by decide⟩ hl.1 rfl (Nat.le_of_ble_eq_true rfl) dL_law_853 (fun r w2 H locs hp hW => ?_)
  obtain ⟨rfl, hX2, o2⟩ := hp
  have hM2 := hM.keep o2
  refine lv_aload_n hx hb dL_law_856 rfl (lv_at hl 1 rfl) ?_
  refine lv_aload_n hx hb dL_law_857 rfl (lv_at hl 3 rfl) ?_
  refine lv_iload_n hx hb dL_law_858 rfl (lv_at hl 0 rfl) ?_
  refine lv_iconst (v := nI 1) hx hb dL_law_859 (by decide) ?_
  refine n_iadd hx hb dL_law_860 ?_
  refine z_scr B hS hbl hbA hL hW (i + 1) (by omega) dL_law_861 ?_
  refine lv_aload_n hx hb dL_law_862 rfl (lv_at hl 3 rfl) ?_
  refine lv_iload_n hx hb dL_law_863 rfl (lv_at hl 0 rfl) ?_
  refine lv_iconst (v := nI 2) hx hb dL_law_864 (by decide) ?_
  refine n_iadd hx hb dL_law_865 ?_
  refine z_scr B hS hbl hbA hL hW (i + 2) (by omega) dL_law_866 ?_
  refine call_vi B hA hW (92) (by omega) hM2.1 (r := _) rfl rfl (k_X5_tell l G 111 ad w2 (by decide) σ hM2 hs (xs (i + 1)) (xs (i + 2))) mf_X5_tell hw_605 rfl ⟨⟨rfl, rfl⟩, by decide, by decide⟩ ⟨by decide, by decide⟩ hl.1 rfl (Nat.le_of_ble_eq_true rfl) dL_law_867 (fun r3 w3 H locs hp hW => ?_)
  obtain ⟨rfl, hM3, o3⟩ := hp
  have hX3 := hX2.keep o3
  refine lv_icmp_eq (tgt := 1000) hx hb dL_law_870 (by decide) (fun hc => ?_) (fun hc => ?_)
  · exact hk w3 _ H locs hW hX3 hM3 (ok_tell hs (xs (i + 1)) (xs (i + 2)))
  · exact absurd rfl hc
set_option maxHeartbeats 4000000 in
set_option maxRecDepth 100000 in
theorem lc_give {p : Program} {l : Launch} {e : Env} {s : State} {m : MethodId} {args : Array Value} {below : List Frame} {meth : Method} {c : Code} {H : Heap} {locs : List Loc} {ls : Array Slot} {Q : State → Prop} {A : Nat → Prop} {G : zG} {ad : Nat → Nat} {w : Nat → va_E} {b L i : Nat} {xs : Nat → Int32} {τ : Nat × Nat × Nat} {σ : zS} (B : Bs G p s m args c cL_law 4 RL) (hA : ∀ q, s.heap.size ≤ q → A q) (hT : Tb τ A s s.heap) (hS : va_X b L xs s s.heap) (hbl : b < s.heap.size) (hbA : ¬ A b) (hL : L ≤ 2560) (hi : i + 5 ≤ L) (hW : Wo G A s.heap 111 ad w H locs) (hl : lv_has ls 4 [(3, .int (nI i)), (2, .ref (ad 92)), (1, .ref (ad 0)), (0, .ref b)]) (hX : XOK G ad w σ) (hM : MOK G ad w σ) (hs : SOK σ)
    (hk : ∀ (w' : Nat → va_E) (σ' : zS) (H : Heap) (locs : List Loc), Wo G A s.heap 111 ad w' H locs → XOK G ad w' σ' → MOK G ad w' σ' → SOK σ' → W p l e room_1 s m args below meth c H locs 111 4997 Q (F0 m 1000 ls [])) :
    W p l e room_1 s m args below meth c H locs 111 4997 Q (F0 m 875 ls []) := by
  have hx := B.1
  have hb := B.2.1
  refine lv_aload_n hx hb dL_law_875 rfl (lv_at hl 2 rfl) ?_
  refine lv_aload_n hx hb dL_law_876 rfl (lv_at hl 3 rfl) ?_
  refine lv_iload_n hx hb dL_law_877 rfl (lv_at hl 0 rfl) ?_
  refine lv_iconst (v := nI 1) hx hb dL_law_878 (by decide) ?_
  refine n_iadd hx hb dL_law_879 ?_
  refine z_scr B hS hbl hbA hL hW (i + 1) (by omega) dL_law_880 ?_
  refine call_vi B hA hW (0) (by omega) hX.2.1 (r := _) rfl rfl (k_X4_give l G 111 ad w (by decide) σ hX hs (xs (i + 1))) mf_X4_give hw_339 rfl ⟨⟨rfl, rfl⟩, by decide, by decide⟩ ⟨by decide, by decide⟩ hl.1 rfl (Nat.le_of_ble_eq_true rfl) dL_law_881 (fun r w2 H locs hp hW => ?_)
  obtain ⟨rfl, hX2, o2⟩ := hp
  have hM2 := hM.keep o2
  refine lv_aload_n hx hb dL_law_884 rfl (lv_at hl 1 rfl) ?_
  refine lv_aload_n hx hb dL_law_885 rfl (lv_at hl 3 rfl) ?_
  refine lv_iload_n hx hb dL_law_886 rfl (lv_at hl 0 rfl) ?_
  refine lv_iconst (v := nI 1) hx hb dL_law_887 (by decide) ?_
  refine n_iadd hx hb dL_law_888 ?_
  refine z_scr B hS hbl hbA hL hW (i + 1) (by omega) dL_law_889 ?_
  refine call_vi B hA hW (92) (by omega) hM2.1 (r := _) rfl rfl (k_X5_give l G 111 ad w2 (by decide) σ hM2 hs (xs (i + 1))) mf_X5_give hw_609 rfl ⟨⟨rfl, rfl⟩, by decide, by decide⟩ ⟨by decide, by decide⟩ hl.1 rfl (Nat.le_of_ble_eq_true rfl) dL_law_890 (fun r3 w3 H locs hp hW => ?_)
  obtain ⟨rfl, hM3, o3⟩ := hp
  have hX3 := hX2.keep o3
  refine lv_icmp_eq (tgt := 1000) hx hb dL_law_893 (by decide) (fun hc => ?_) (fun hc => ?_)
  · exact hk w3 _ H locs hW hX3 hM3 (ok_give hs (xs (i + 1)))
  · exact absurd rfl hc
set_option maxHeartbeats 4000000 in
set_option maxRecDepth 100000 in
theorem lc_tear {p : Program} {l : Launch} {e : Env} {s : State} {m : MethodId} {args : Array Value} {below : List Frame} {meth : Method} {c : Code} {H : Heap} {locs : List Loc} {ls : Array Slot} {Q : State → Prop} {A : Nat → Prop} {G : zG} {ad : Nat → Nat} {w : Nat → va_E} {b L i : Nat} {xs : Nat → Int32} {τ : Nat × Nat × Nat} {σ : zS} (B : Bs G p s m args c cL_law 4 RL) (hA : ∀ q, s.heap.size ≤ q → A q) (hT : Tb τ A s s.heap) (hS : va_X b L xs s s.heap) (hbl : b < s.heap.size) (hbA : ¬ A b) (hL : L ≤ 2560) (hi : i + 5 ≤ L) (hW : Wo G A s.heap 111 ad w H locs) (hl : lv_has ls 4 [(3, .int (nI i)), (2, .ref (ad 92)), (1, .ref (ad 0)), (0, .ref b)]) (hX : XOK G ad w σ) (hM : MOK G ad w σ) (hs : SOK σ)
    (hk : ∀ (w' : Nat → va_E) (σ' : zS) (H : Heap) (locs : List Loc), Wo G A s.heap 111 ad w' H locs → XOK G ad w' σ' → MOK G ad w' σ' → SOK σ' → W p l e room_1 s m args below meth c H locs 111 4997 Q (F0 m 1000 ls [])) :
    W p l e room_1 s m args below meth c H locs 111 4997 Q (F0 m 898 ls []) := by
  have hx := B.1
  have hb := B.2.1
  refine lv_aload_n hx hb dL_law_898 rfl (lv_at hl 2 rfl) ?_
  refine call_vi B hA hW (0) (by omega) hX.2.1 (r := _) rfl rfl (k_X4_tear l G 111 ad w (by decide) σ hX hs ) mf_X4_tear hw_343 rfl ⟨⟨rfl, rfl⟩, by decide, by decide⟩ ⟨by decide, by decide⟩ hl.1 rfl (Nat.le_of_ble_eq_true rfl) dL_law_899 (fun r w2 H locs hp hW => ?_)
  obtain ⟨rfl, hX2, o2⟩ := hp
  have hM2 := hM.keep o2
  refine lv_aload_n hx hb dL_law_902 rfl (lv_at hl 1 rfl) ?_
  refine call_vi B hA hW (92) (by omega) hM2.1 (r := _) rfl rfl (k_X5_tear l G 111 ad w2 (by decide) σ hM2 hs ) mf_X5_tear hw_613 rfl ⟨⟨rfl, rfl⟩, by decide, by decide⟩ ⟨by decide, by decide⟩ hl.1 rfl (Nat.le_of_ble_eq_true rfl) dL_law_903 (fun r3 w3 H locs hp hW => ?_)
  obtain ⟨rfl, hM3, o3⟩ := hp
  have hX3 := hX2.keep o3
  refine lv_icmp_eq (tgt := 1000) hx hb dL_law_906 (by decide) (fun hc => ?_) (fun hc => ?_)
  · exact hk w3 _ H locs hW hX3 hM3 (ok_tear hs )
  · exact absurd rfl hc
set_option maxHeartbeats 4000000 in
set_option maxRecDepth 100000 in
theorem lc_row {p : Program} {l : Launch} {e : Env} {s : State} {m : MethodId} {args : Array Value} {below : List Frame} {meth : Method} {c : Code} {H : Heap} {locs : List Loc} {ls : Array Slot} {Q : State → Prop} {A : Nat → Prop} {G : zG} {ad : Nat → Nat} {w : Nat → va_E} {b L i : Nat} {xs : Nat → Int32} {τ : Nat × Nat × Nat} {σ : zS} (B : Bs G p s m args c cL_law 4 RL) (hA : ∀ q, s.heap.size ≤ q → A q) (hT : Tb τ A s s.heap) (hS : va_X b L xs s s.heap) (hbl : b < s.heap.size) (hbA : ¬ A b) (hL : L ≤ 2560) (hi : i + 5 ≤ L) (hW : Wo G A s.heap 111 ad w H locs) (hl : lv_has ls 4 [(3, .int (nI i)), (2, .ref (ad 92)), (1, .ref (ad 0)), (0, .ref b)]) (hX : XOK G ad w σ) (hM : MOK G ad w σ) (hs : SOK σ)
    (hk : ∀ (w' : Nat → va_E) (σ' : zS) (H : Heap) (locs : List Loc), Wo G A s.heap 111 ad w' H locs → XOK G ad w' σ' → MOK G ad w' σ' → SOK σ' → W p l e room_1 s m args below meth c H locs 111 4997 Q (F0 m 1000 ls [])) :
    W p l e room_1 s m args below meth c H locs 111 4997 Q (F0 m 911 ls []) := by
  have hx := B.1
  have hb := B.2.1
  refine lv_aload_n hx hb dL_law_911 rfl (lv_at hl 2 rfl) ?_
  refine lv_aload_n hx hb dL_law_912 rfl (lv_at hl 3 rfl) ?_
  refine lv_iload_n hx hb dL_law_913 rfl (lv_at hl 0 rfl) ?_
  refine lv_iconst (v := nI 1) hx hb dL_law_914 (by decide) ?_
  refine n_iadd hx hb dL_law_915 ?_
  refine z_scr B hS hbl hbA hL hW (i + 1) (by omega) dL_law_916 ?_
  refine call_vi B hA hW (0) (by omega) hX.2.1 (r := _) rfl rfl (k_X4_row l G 111 ad w (by decide) σ hX hs (xs (i + 1))) mf_X4_row hw_347 rfl ⟨⟨rfl, rfl⟩, by decide, by decide⟩ ⟨by decide, by decide⟩ hl.1 rfl (Nat.le_of_ble_eq_true rfl) dL_law_917 (fun r w2 H locs hp hW => ?_)
  obtain ⟨rfl, hX2, o2⟩ := hp
  have hM2 := hM.keep o2
  refine lv_aload_n hx hb dL_law_920 rfl (lv_at hl 1 rfl) ?_
  refine lv_aload_n hx hb dL_law_921 rfl (lv_at hl 3 rfl) ?_
  refine lv_iload_n hx hb dL_law_922 rfl (lv_at hl 0 rfl) ?_
  refine lv_iconst (v := nI 1) hx hb dL_law_923 (by decide) ?_
  refine n_iadd hx hb dL_law_924 ?_
  refine z_scr B hS hbl hbA hL hW (i + 1) (by omega) dL_law_925 ?_
  refine call_vi B hA hW (92) (by omega) hM2.1 (r := _) rfl rfl (k_X5_row l G 111 ad w2 (by decide) σ hM2 hs (xs (i + 1))) mf_X5_row hw_617 rfl ⟨⟨rfl, rfl⟩, by decide, by decide⟩ ⟨by decide, by decide⟩ hl.1 rfl (Nat.le_of_ble_eq_true rfl) dL_law_926 (fun r3 w3 H locs hp hW => ?_)
  obtain ⟨rfl, hM3, o3⟩ := hp
  have hX3 := hX2.keep o3
  refine lv_icmp_eq (tgt := 1000) hx hb dL_law_929 (by decide) (fun hc => ?_) (fun hc => ?_)
  · exact hk w3 _ H locs hW hX3 hM3 (ok_row hs (xs (i + 1)))
  · exact absurd rfl hc
set_option maxHeartbeats 4000000 in
set_option maxRecDepth 100000 in
theorem lc_copy {p : Program} {l : Launch} {e : Env} {s : State} {m : MethodId} {args : Array Value} {below : List Frame} {meth : Method} {c : Code} {H : Heap} {locs : List Loc} {ls : Array Slot} {Q : State → Prop} {A : Nat → Prop} {G : zG} {ad : Nat → Nat} {w : Nat → va_E} {b L i : Nat} {xs : Nat → Int32} {τ : Nat × Nat × Nat} {σ : zS} (B : Bs G p s m args c cL_law 4 RL) (hA : ∀ q, s.heap.size ≤ q → A q) (hT : Tb τ A s s.heap) (hS : va_X b L xs s s.heap) (hbl : b < s.heap.size) (hbA : ¬ A b) (hL : L ≤ 2560) (hi : i + 5 ≤ L) (hW : Wo G A s.heap 111 ad w H locs) (hl : lv_has ls 4 [(3, .int (nI i)), (2, .ref (ad 92)), (1, .ref (ad 0)), (0, .ref b)]) (hX : XOK G ad w σ) (hM : MOK G ad w σ) (hs : SOK σ)
    (hk : ∀ (w' : Nat → va_E) (σ' : zS) (H : Heap) (locs : List Loc), Wo G A s.heap 111 ad w' H locs → XOK G ad w' σ' → MOK G ad w' σ' → SOK σ' → W p l e room_1 s m args below meth c H locs 111 4997 Q (F0 m 1000 ls [])) :
    W p l e room_1 s m args below meth c H locs 111 4997 Q (F0 m 934 ls []) := by
  have hx := B.1
  have hb := B.2.1
  refine lv_aload_n hx hb dL_law_934 rfl (lv_at hl 2 rfl) ?_
  refine lv_aload_n hx hb dL_law_935 rfl (lv_at hl 3 rfl) ?_
  refine lv_iload_n hx hb dL_law_936 rfl (lv_at hl 0 rfl) ?_
  refine lv_iconst (v := nI 1) hx hb dL_law_937 (by decide) ?_
  refine n_iadd hx hb dL_law_938 ?_
  refine z_scr B hS hbl hbA hL hW (i + 1) (by omega) dL_law_939 ?_
  refine lv_aload_n hx hb dL_law_940 rfl (lv_at hl 3 rfl) ?_
  refine lv_iload_n hx hb dL_law_941 rfl (lv_at hl 0 rfl) ?_
  refine lv_iconst (v := nI 2) hx hb dL_law_942 (by decide) ?_
  refine n_iadd hx hb dL_law_943 ?_
  refine z_scr B hS hbl hbA hL hW (i + 2) (by omega) dL_law_944 ?_
  refine lv_aload_n hx hb dL_law_945 rfl (lv_at hl 3 rfl) ?_
  refine lv_iload_n hx hb dL_law_946 rfl (lv_at hl 0 rfl) ?_
  refine lv_iconst (v := nI 3) hx hb dL_law_947 (by decide) ?_
  refine n_iadd hx hb dL_law_948 ?_
  refine z_scr B hS hbl hbA hL hW (i + 3) (by omega) dL_law_949 ?_
  refine call_vi B hA hW (0) (by omega) hX.2.1 (r := _) rfl rfl (k_X4_copy l G 111 ad w (by decide) σ hX hs (xs (i + 1)) (xs (i + 2)) (xs (i + 3))) mf_X4_copy hw_351 rfl ⟨⟨rfl, rfl⟩, by decide, by decide⟩ ⟨by decide, by decide⟩ hl.1 rfl (Nat.le_of_ble_eq_true rfl) dL_law_950 (fun r w2 H locs hp hW => ?_)
  obtain ⟨rfl, hX2, o2⟩ := hp
  have hM2 := hM.keep o2
  refine lv_aload_n hx hb dL_law_953 rfl (lv_at hl 1 rfl) ?_
  refine lv_aload_n hx hb dL_law_954 rfl (lv_at hl 3 rfl) ?_
  refine lv_iload_n hx hb dL_law_955 rfl (lv_at hl 0 rfl) ?_
  refine lv_iconst (v := nI 1) hx hb dL_law_956 (by decide) ?_
  refine n_iadd hx hb dL_law_957 ?_
  refine z_scr B hS hbl hbA hL hW (i + 1) (by omega) dL_law_958 ?_
  refine lv_aload_n hx hb dL_law_959 rfl (lv_at hl 3 rfl) ?_
  refine lv_iload_n hx hb dL_law_960 rfl (lv_at hl 0 rfl) ?_
  refine lv_iconst (v := nI 2) hx hb dL_law_961 (by decide) ?_
  refine n_iadd hx hb dL_law_962 ?_
  refine z_scr B hS hbl hbA hL hW (i + 2) (by omega) dL_law_963 ?_
  refine lv_aload_n hx hb dL_law_964 rfl (lv_at hl 3 rfl) ?_
  refine lv_iload_n hx hb dL_law_965 rfl (lv_at hl 0 rfl) ?_
  refine lv_iconst (v := nI 3) hx hb dL_law_966 (by decide) ?_
  refine n_iadd hx hb dL_law_967 ?_
  refine z_scr B hS hbl hbA hL hW (i + 3) (by omega) dL_law_968 ?_
  refine call_vi B hA hW (92) (by omega) hM2.1 (r := _) rfl rfl (k_X5_copy l G 111 ad w2 (by decide) σ hM2 hs (xs (i + 1)) (xs (i + 2)) (xs (i + 3))) mf_X5_copy hw_621 rfl ⟨⟨rfl, rfl⟩, by decide, by decide⟩ ⟨by decide, by decide⟩ hl.1 rfl (Nat.le_of_ble_eq_true rfl) dL_law_969 (fun r3 w3 H locs hp hW => ?_)
  obtain ⟨rfl, hM3, o3⟩ := hp
  have hX3 := hX2.keep o3
  refine lv_icmp_eq (tgt := 1000) hx hb dL_law_972 (by decide) (fun hc => ?_) (fun hc => ?_)
  · exact hk w3 _ H locs hW hX3 hM3 (ok_copy hs (xs (i + 1)) (xs (i + 2)) (xs (i + 3)))
  · exact absurd rfl hc
set_option maxHeartbeats 4000000 in
set_option maxRecDepth 100000 in
theorem lc_status {p : Program} {l : Launch} {e : Env} {s : State} {m : MethodId} {args : Array Value} {below : List Frame} {meth : Method} {c : Code} {H : Heap} {locs : List Loc} {ls : Array Slot} {Q : State → Prop} {A : Nat → Prop} {G : zG} {ad : Nat → Nat} {w : Nat → va_E} {b L i : Nat} {xs : Nat → Int32} {τ : Nat × Nat × Nat} {σ : zS} (B : Bs G p s m args c cL_law 4 RL) (hA : ∀ q, s.heap.size ≤ q → A q) (hT : Tb τ A s s.heap) (hS : va_X b L xs s s.heap) (hbl : b < s.heap.size) (hbA : ¬ A b) (hL : L ≤ 2560) (hi : i + 5 ≤ L) (hW : Wo G A s.heap 111 ad w H locs) (hl : lv_has ls 4 [(3, .int (nI i)), (2, .ref (ad 92)), (1, .ref (ad 0)), (0, .ref b)]) (hX : XOK G ad w σ) (hM : MOK G ad w σ) (hs : SOK σ)
    (hk : ∀ (w' : Nat → va_E) (σ' : zS) (H : Heap) (locs : List Loc), Wo G A s.heap 111 ad w' H locs → XOK G ad w' σ' → MOK G ad w' σ' → SOK σ' → W p l e room_1 s m args below meth c H locs 111 4997 Q (F0 m 1000 ls [])) :
    W p l e room_1 s m args below meth c H locs 111 4997 Q (F0 m 977 ls []) := by
  have hx := B.1
  have hb := B.2.1
  refine lv_aload_n hx hb dL_law_977 rfl (lv_at hl 2 rfl) ?_
  refine lv_aload_n hx hb dL_law_978 rfl (lv_at hl 3 rfl) ?_
  refine lv_iload_n hx hb dL_law_979 rfl (lv_at hl 0 rfl) ?_
  refine lv_iconst (v := nI 1) hx hb dL_law_980 (by decide) ?_
  refine n_iadd hx hb dL_law_981 ?_
  refine z_scr B hS hbl hbA hL hW (i + 1) (by omega) dL_law_982 ?_
  refine call_vi B hA hW (0) (by omega) hX.2.1 (r := _) rfl rfl (k_X4_status l G 111 ad w (by decide) σ hX hs (xs (i + 1))) mf_X4_status hw_355 rfl ⟨⟨rfl, rfl⟩, by decide, by decide⟩ ⟨by decide, by decide⟩ hl.1 rfl (Nat.le_of_ble_eq_true rfl) dL_law_983 (fun r w2 H locs hp hW => ?_)
  obtain ⟨rfl, hX2, o2⟩ := hp
  have hM2 := hM.keep o2
  refine lv_aload_n hx hb dL_law_986 rfl (lv_at hl 1 rfl) ?_
  refine lv_aload_n hx hb dL_law_987 rfl (lv_at hl 3 rfl) ?_
  refine lv_iload_n hx hb dL_law_988 rfl (lv_at hl 0 rfl) ?_
  refine lv_iconst (v := nI 1) hx hb dL_law_989 (by decide) ?_
  refine n_iadd hx hb dL_law_990 ?_
  refine z_scr B hS hbl hbA hL hW (i + 1) (by omega) dL_law_991 ?_
  refine call_vi B hA hW (92) (by omega) hM2.1 (r := _) rfl rfl (k_X5_status l G 111 ad w2 (by decide) σ hM2 hs (xs (i + 1))) mf_X5_status hw_625 rfl ⟨⟨rfl, rfl⟩, by decide, by decide⟩ ⟨by decide, by decide⟩ hl.1 rfl (Nat.le_of_ble_eq_true rfl) dL_law_992 (fun r3 w3 H locs hp hW => ?_)
  obtain ⟨rfl, hM3, o3⟩ := hp
  have hX3 := hX2.keep o3
  refine lv_icmp_eq (tgt := 1000) hx hb dL_law_995 (by decide) (fun hc => ?_) (fun hc => ?_)
  · exact hk w3 _ H locs hW hX3 hM3 (ok_status hs (xs (i + 1)))
  · exact absurd rfl hc
