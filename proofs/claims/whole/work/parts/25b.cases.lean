set_option maxRecDepth 100000 in
set_option maxHeartbeats 4000000 in
theorem lwC_0 {p : Program} {l : Launch} {e : Env} {s : State} {m : MethodId} {args : Array Value} {below : List Frame} {meth : Method} {c : Code} {H : Heap} {locs : List Loc} {cells slots : Nat} {Q : State → Prop} {ls : Array Slot} {D : va_G} {A : Nat → Prop} {k0 : Cond} {cI cJ cQ cD : ClassId} {ad am : Nat → Nat} {ra : Nat → Nat → Nat} {adK adV tK : Nat → Nat} {b L o1 o2 : Nat} {xs : Nat → Int32} {f : Nat → Int64} {g : Nat → UInt64} {σ : MS} {τ : CS} {i : Int32} {Rel : MS → CS → Prop} (HR : LawOK Rel) (hl9 : l.stackTraces = false) (S : CallFix p m c cL_law 9 s args (k0 :: wsL_law) RL) (hK : va_K D vwCl [(cI, .int), (cJ, .long), (cQ, .array .long), (cD, .double)] s) (hKS : wKS adK adV tK A s) (hA : ∀ q, s.heap.size ≤ q → A q) (hX : va_X b L xs s s.heap) (hbl : b < s.heap.size) (hbA : ¬ A b) (hi : ∀ k : Int32, 0 ≤ k → k ≤ 5 → vp_in (i + k) L) (hc : cells + 57 ≤ room_1.cells) (hs : slots + 212 ≤ room_1.slots) (hR : Rel σ τ) (hB : gB D vwCl A s.heap (CW cI cJ cQ ad ra τ) (MW cI cJ am σ ++ [(o1, .inl (cJ, 1, .inr (.inl f))), (o2, .inl (cD, 1, .inr (.inr (.inr (.inl g)))))]) H locs) (hl : lv_has ls 9 [(5, .int i), (4, .ref o2), (3, .ref o1), (2, .ref (am 0)), (1, .ref (ad 0)), (0, .ref b)])
    (kk : ∀ (σ : MS) (τ : CS) (f : Nat → Int64) (g : Nat → UInt64) (H : Heap) (locs : List Loc) (ls : Array Slot), Rel σ τ → gB D vwCl A s.heap (CW cI cJ cQ ad ra τ) (MW cI cJ am σ ++ [(o1, .inl (cJ, 1, .inr (.inl f))), (o2, .inl (cD, 1, .inr (.inr (.inr (.inl g)))))]) H locs → lv_has ls 9 [(5, .int i), (4, .ref o2), (3, .ref o1), (2, .ref (am 0)), (1, .ref (ad 0)), (0, .ref b)] → W p l e room_1 s m args below meth c H locs (cells + 57) (slots + 212) Q (F0 m 1505 ls [])) : W p l e room_1 s m args below meth c H locs cells slots Q (F0 m 156 ls []) := by
  refine lv_aload_n S.1 S.2.1 dL_law_156 rfl (lv_at hl 4 rfl) ?_
  refine lv_aload_n S.1 S.2.1 dL_law_157 rfl (lv_at hl 5 rfl) ?_
  refine lv_iload S.1 S.2.1 dL_law_158 (lv_at hl 0 rfl) ?_
  refine lv_iconst (v := (1 : Int32)) S.1 S.2.1 dL_law_160 (by decide) ?_
  refine lv_iadd S.1 S.2.1 dL_law_161 ?_
  refine va_sld S.1 S.2.1 hX hbl hbA hB.2.2 (hi (1 : Int32) (by decide) (by decide)) dL_law_162 ?_
  refine lv_aload_n S.1 S.2.1 dL_law_163 rfl (lv_at hl 5 rfl) ?_
  refine lv_iload S.1 S.2.1 dL_law_164 (lv_at hl 0 rfl) ?_
  refine lv_iconst (v := (2 : Int32)) S.1 S.2.1 dL_law_166 (by decide) ?_
  refine lv_iadd S.1 S.2.1 dL_law_167 ?_
  refine va_sld S.1 S.2.1 hX hbl hbA hB.2.2 (hi (2 : Int32) (by decide) (by decide)) dL_law_168 ?_
  refine lv_aload_n S.1 S.2.1 dL_law_169 rfl (lv_at hl 5 rfl) ?_
  refine lv_iload S.1 S.2.1 dL_law_170 (lv_at hl 0 rfl) ?_
  refine lv_iconst (v := (3 : Int32)) S.1 S.2.1 dL_law_172 (by decide) ?_
  refine lv_iadd S.1 S.2.1 dL_law_173 ?_
  refine va_sld S.1 S.2.1 hX hbl hbA hB.2.2 (hi (3 : Int32) (by decide) (by decide)) dL_law_174 ?_
  refine lv_aload_n S.1 S.2.1 dL_law_175 rfl (lv_at hl 5 rfl) ?_
  refine lv_iload S.1 S.2.1 dL_law_176 (lv_at hl 0 rfl) ?_
  refine lv_iconst (v := (4 : Int32)) S.1 S.2.1 dL_law_178 (by decide) ?_
  refine lv_iadd S.1 S.2.1 dL_law_179 ?_
  refine va_sld S.1 S.2.1 hX hbl hbA hB.2.2 (hi (4 : Int32) (by decide) (by decide)) dL_law_180 ?_
  refine lv_aload_n S.1 S.2.1 dL_law_181 rfl (lv_at hl 5 rfl) ?_
  refine lv_iload S.1 S.2.1 dL_law_182 (lv_at hl 0 rfl) ?_
  refine lv_iconst (v := (5 : Int32)) S.1 S.2.1 dL_law_184 (by decide) ?_
  refine lv_iadd S.1 S.2.1 dL_law_185 ?_
  refine va_sld S.1 S.2.1 hX hbl hbA hB.2.2 (hi (5 : Int32) (by decide) (by decide)) dL_law_186 ?_
  refine lv_aload_n S.1 S.2.1 dL_law_187 rfl (lv_at hl 2 rfl) ?_
  obtain ⟨o, τ1, rr, bb, σ1, eC, eK, eM, eT, eA, hR⟩ := HR.1 σ τ hR (xs (i + (1 : Int32)).toNatClampNeg) (xs (i + (2 : Int32)).toNatClampNeg) (xs (i + (3 : Int32)).toNatClampNeg) (xs (i + (4 : Int32)).toNatClampNeg) (xs (i + (5 : Int32)).toNatClampNeg)
  replace hB := lpA hB
  refine gCallSW S (hK.sub (tys' := [(cI, .int), (cJ, .long), (cQ, .array .long)]) [0, 1, 2] rfl) wKSc hKS hA (kL_feed hl9 eC eK) (vx_cwSW 7 S.2.2.2.2 (gWSW wm_L_86 wst_L_feed wn_L wy_L_feed) rfl rfl rfl (by decide +kernel) ⟨(Nat.le_of_ble_eq_true rfl), (Nat.le_of_ble_eq_true rfl)⟩) hB rfl hl.1 rfl (lv_room (Nat.le_of_ble_eq_true rfl)) dL_law_188 ⟨by omega, by omega⟩ (fun H locs hB => ?_)
  replace hB := lpA2 hB
  refine lv_istore (lv' := [(6, .int (rr)), (5, .int (i)), (4, .ref o2), (3, .ref o1), (2, .ref (am 0)), (1, .ref (ad 0)), (0, .ref b)]) S.1 S.2.1 dL_law_191 hl (by decide) rfl (fun ls hl => ?_)
  refine lv_aload_n S.1 S.2.1 dL_law_193 rfl (lv_at hl 4 rfl) ?_
  refine lv_aload_n S.1 S.2.1 dL_law_194 rfl (lv_at hl 6 rfl) ?_
  refine lv_iload S.1 S.2.1 dL_law_195 (lv_at hl 1 rfl) ?_
  refine lv_iconst (v := (1 : Int32)) S.1 S.2.1 dL_law_197 (by decide) ?_
  refine lv_iadd S.1 S.2.1 dL_law_198 ?_
  refine va_sld S.1 S.2.1 hX hbl hbA hB.2.2 (hi (1 : Int32) (by decide) (by decide)) dL_law_199 ?_
  refine lv_aload_n S.1 S.2.1 dL_law_200 rfl (lv_at hl 6 rfl) ?_
  refine lv_iload S.1 S.2.1 dL_law_201 (lv_at hl 1 rfl) ?_
  refine lv_iconst (v := (2 : Int32)) S.1 S.2.1 dL_law_203 (by decide) ?_
  refine lv_iadd S.1 S.2.1 dL_law_204 ?_
  refine va_sld S.1 S.2.1 hX hbl hbA hB.2.2 (hi (2 : Int32) (by decide) (by decide)) dL_law_205 ?_
  refine lv_aload_n S.1 S.2.1 dL_law_206 rfl (lv_at hl 6 rfl) ?_
  refine lv_iload S.1 S.2.1 dL_law_207 (lv_at hl 1 rfl) ?_
  refine lv_iconst (v := (3 : Int32)) S.1 S.2.1 dL_law_209 (by decide) ?_
  refine lv_iadd S.1 S.2.1 dL_law_210 ?_
  refine va_sld S.1 S.2.1 hX hbl hbA hB.2.2 (hi (3 : Int32) (by decide) (by decide)) dL_law_211 ?_
  refine lv_aload_n S.1 S.2.1 dL_law_212 rfl (lv_at hl 6 rfl) ?_
  refine lv_iload S.1 S.2.1 dL_law_213 (lv_at hl 1 rfl) ?_
  refine lv_iconst (v := (4 : Int32)) S.1 S.2.1 dL_law_215 (by decide) ?_
  refine lv_iadd S.1 S.2.1 dL_law_216 ?_
  refine va_sld S.1 S.2.1 hX hbl hbA hB.2.2 (hi (4 : Int32) (by decide) (by decide)) dL_law_217 ?_
  refine lv_aload_n S.1 S.2.1 dL_law_218 rfl (lv_at hl 6 rfl) ?_
  refine lv_iload S.1 S.2.1 dL_law_219 (lv_at hl 1 rfl) ?_
  refine lv_iconst (v := (5 : Int32)) S.1 S.2.1 dL_law_221 (by decide) ?_
  refine lv_iadd S.1 S.2.1 dL_law_222 ?_
  refine va_sld S.1 S.2.1 hX hbl hbA hB.2.2 (hi (5 : Int32) (by decide) (by decide)) dL_law_223 ?_
  replace hB := lpM hB
  refine gCallV (ci := 11) S (hK.sub (tys' := [(cI, .int), (cJ, .long)]) [0, 1] rfl) wKSc hKS hA (kX11_feed wKSc eM) (cwL_91 S.2.2.2.2 (rm := rmX11_feed) rfl rfl ⟨(Nat.le_of_ble_eq_true rfl), (Nat.le_of_ble_eq_true rfl)⟩) hB 0 rfl rfl rfl hl.1 rfl (lv_room (Nat.le_of_ble_eq_true rfl)) dL_law_224 ⟨by omega, by omega⟩ (fun H locs hB => ?_)
  replace hB := lpM hB
  refine lv_istore (lv' := [(7, .int (bb)), (6, .int (rr)), (5, .int (i)), (4, .ref o2), (3, .ref o1), (2, .ref (am 0)), (1, .ref (ad 0)), (0, .ref b)]) S.1 S.2.1 dL_law_227 hl (by decide) rfl (fun ls hl => ?_)
  refine lv_aload_n S.1 S.2.1 dL_law_229 rfl (lv_at hl 5 rfl) ?_
  replace hB := lpM hB
  refine gCallV (ci := 11) S (hK.sub (tys' := [(cI, .int), (cJ, .long)]) [0, 1] rfl) wKSc hKS hA (kX11_thrown wKSc (show FX11_thrown σ1 = some (σ1.1 0, σ1) from rfl)) (cwL_92 S.2.2.2.2 (rm := rmX11_thrown) rfl rfl ⟨(Nat.le_of_ble_eq_true rfl), (Nat.le_of_ble_eq_true rfl)⟩) hB 0 rfl rfl rfl hl.1 rfl (lv_room (Nat.le_of_ble_eq_true rfl)) dL_law_230 ⟨by omega, by omega⟩ (fun H locs hB => ?_)
  replace hB := lpM hB
  refine lv_iload S.1 S.2.1 dL_law_233 (lv_at hl 1 rfl) ?_
  refine lv_icmp_eq (tgt := 240) S.1 S.2.1 dL_law_235 (by decide) (fun _ => ?_) (fun c9 => absurd eT c9)
  refine lv_iload S.1 S.2.1 dL_law_240 (lv_at hl 1 rfl) ?_
  refine lv_if_ne (tgt := 257) S.1 S.2.1 dL_law_242 (by decide) (fun c8 => ?_) (fun c8 => ?_)
  · refine lv_goto (tgt := 1505) S.1 S.2.1 dL_law_257 (by decide) ?_
    exact W.widen (k := cells + 57) (n := slots + 212) (by omega) (by omega) (kk _ _ _ _ _ _ _ hR hB (lv_sub hl [2, 3, 4, 5, 6, 7] rfl))
  · have c8 : rr = 0 := by first | exact c8 | exact Classical.not_not.mp c8
    refine lv_aload_n S.1 S.2.1 dL_law_245 rfl (lv_at hl 4 rfl) ?_
    refine lv_iconst (v := (0 : Int32)) S.1 S.2.1 dL_law_246 (by decide) ?_
    refine gLald S hK (lpO hB) 0 1 rfl rfl (by unfold vp_in; decide) dL_law_247 ?_
    refine lv_iload S.1 S.2.1 dL_law_248 (lv_at hl 0 rfl) ?_
    refine lv_i2l (v := (bb).toInt64) S.1 S.2.1 dL_law_250 rfl ?_
    refine W.lcmp S.1 S.2.1 dL_law_251 ?_
    refine lv_if_eq (tgt := 257) S.1 S.2.1 dL_law_252 (by decide) (fun _ => ?_) (fun c9 => absurd (lc_eq.mpr (by rw [eA c8]; exact upd0)) c9)
    refine lv_goto (tgt := 1505) S.1 S.2.1 dL_law_257 (by decide) ?_
    exact W.widen (k := cells + 57) (n := slots + 212) (by omega) (by omega) (kk _ _ _ _ _ _ _ hR hB (lv_sub hl [2, 3, 4, 5, 6, 7] rfl))
set_option maxRecDepth 100000 in
set_option maxHeartbeats 4000000 in
theorem lwC_1 {p : Program} {l : Launch} {e : Env} {s : State} {m : MethodId} {args : Array Value} {below : List Frame} {meth : Method} {c : Code} {H : Heap} {locs : List Loc} {cells slots : Nat} {Q : State → Prop} {ls : Array Slot} {D : va_G} {A : Nat → Prop} {k0 : Cond} {cI cJ cQ cD : ClassId} {ad am : Nat → Nat} {ra : Nat → Nat → Nat} {adK adV tK : Nat → Nat} {b L o1 o2 : Nat} {xs : Nat → Int32} {f : Nat → Int64} {g : Nat → UInt64} {σ : MS} {τ : CS} {i : Int32} {Rel : MS → CS → Prop} (HR : LawOK Rel) (hl9 : l.stackTraces = false) (S : CallFix p m c cL_law 9 s args (k0 :: wsL_law) RL) (hK : va_K D vwCl [(cI, .int), (cJ, .long), (cQ, .array .long), (cD, .double)] s) (hKS : wKS adK adV tK A s) (hA : ∀ q, s.heap.size ≤ q → A q) (hX : va_X b L xs s s.heap) (hbl : b < s.heap.size) (hbA : ¬ A b) (hi : ∀ k : Int32, 0 ≤ k → k ≤ 5 → vp_in (i + k) L) (hc : cells + 57 ≤ room_1.cells) (hs : slots + 212 ≤ room_1.slots) (hR : Rel σ τ) (hB : gB D vwCl A s.heap (CW cI cJ cQ ad ra τ) (MW cI cJ am σ ++ [(o1, .inl (cJ, 1, .inr (.inl f))), (o2, .inl (cD, 1, .inr (.inr (.inr (.inl g)))))]) H locs) (hl : lv_has ls 9 [(5, .int i), (4, .ref o2), (3, .ref o1), (2, .ref (am 0)), (1, .ref (ad 0)), (0, .ref b)])
    (kk : ∀ (σ : MS) (τ : CS) (f : Nat → Int64) (g : Nat → UInt64) (H : Heap) (locs : List Loc) (ls : Array Slot), Rel σ τ → gB D vwCl A s.heap (CW cI cJ cQ ad ra τ) (MW cI cJ am σ ++ [(o1, .inl (cJ, 1, .inr (.inl f))), (o2, .inl (cD, 1, .inr (.inr (.inr (.inl g)))))]) H locs → lv_has ls 9 [(5, .int i), (4, .ref o2), (3, .ref o1), (2, .ref (am 0)), (1, .ref (ad 0)), (0, .ref b)] → W p l e room_1 s m args below meth c H locs (cells + 57) (slots + 212) Q (F0 m 1505 ls [])) : W p l e room_1 s m args below meth c H locs cells slots Q (F0 m 260 ls []) := by
  refine lv_aload_n S.1 S.2.1 dL_law_260 rfl (lv_at hl 4 rfl) ?_
  refine lv_aload_n S.1 S.2.1 dL_law_261 rfl (lv_at hl 5 rfl) ?_
  refine lv_iload S.1 S.2.1 dL_law_262 (lv_at hl 0 rfl) ?_
  refine lv_iconst (v := (1 : Int32)) S.1 S.2.1 dL_law_264 (by decide) ?_
  refine lv_iadd S.1 S.2.1 dL_law_265 ?_
  refine va_sld S.1 S.2.1 hX hbl hbA hB.2.2 (hi (1 : Int32) (by decide) (by decide)) dL_law_266 ?_
  refine lv_aload_n S.1 S.2.1 dL_law_267 rfl (lv_at hl 2 rfl) ?_
  obtain ⟨o, τ1, rr, bb, σ1, eC, eK, eM, eT, eA, hR⟩ := HR.2.1 σ τ hR (xs (i + (1 : Int32)).toNatClampNeg)
  replace hB := lpA hB
  refine gCallSW S (hK.sub (tys' := [(cI, .int), (cJ, .long), (cQ, .array .long)]) [0, 1, 2] rfl) wKSc hKS hA (kL_trim hl9 eC eK) (vx_cwSW 3 S.2.2.2.2 (gWSW wm_L_95 wst_L_trim wn_L wy_L_trim) rfl rfl rfl (by decide +kernel) ⟨(Nat.le_of_ble_eq_true rfl), (Nat.le_of_ble_eq_true rfl)⟩) hB rfl hl.1 rfl (lv_room (Nat.le_of_ble_eq_true rfl)) dL_law_268 ⟨by omega, by omega⟩ (fun H locs hB => ?_)
  replace hB := lpA2 hB
  refine lv_istore (lv' := [(6, .int (rr)), (5, .int (i)), (4, .ref o2), (3, .ref o1), (2, .ref (am 0)), (1, .ref (ad 0)), (0, .ref b)]) S.1 S.2.1 dL_law_271 hl (by decide) rfl (fun ls hl => ?_)
  refine lv_aload_n S.1 S.2.1 dL_law_273 rfl (lv_at hl 4 rfl) ?_
  refine lv_aload_n S.1 S.2.1 dL_law_274 rfl (lv_at hl 6 rfl) ?_
  refine lv_iload S.1 S.2.1 dL_law_275 (lv_at hl 1 rfl) ?_
  refine lv_iconst (v := (1 : Int32)) S.1 S.2.1 dL_law_277 (by decide) ?_
  refine lv_iadd S.1 S.2.1 dL_law_278 ?_
  refine va_sld S.1 S.2.1 hX hbl hbA hB.2.2 (hi (1 : Int32) (by decide) (by decide)) dL_law_279 ?_
  replace hB := lpM hB
  refine gCallV (ci := 11) S (hK.sub (tys' := [(cI, .int), (cJ, .long)]) [0, 1] rfl) wKSc hKS hA (kX11_trim wKSc eM) (cwL_98 S.2.2.2.2 (rm := rmX11_trim) rfl rfl ⟨(Nat.le_of_ble_eq_true rfl), (Nat.le_of_ble_eq_true rfl)⟩) hB 0 rfl rfl rfl hl.1 rfl (lv_room (Nat.le_of_ble_eq_true rfl)) dL_law_280 ⟨by omega, by omega⟩ (fun H locs hB => ?_)
  replace hB := lpM hB
  refine lv_istore (lv' := [(7, .int (bb)), (6, .int (rr)), (5, .int (i)), (4, .ref o2), (3, .ref o1), (2, .ref (am 0)), (1, .ref (ad 0)), (0, .ref b)]) S.1 S.2.1 dL_law_283 hl (by decide) rfl (fun ls hl => ?_)
  refine lv_aload_n S.1 S.2.1 dL_law_285 rfl (lv_at hl 5 rfl) ?_
  replace hB := lpM hB
  refine gCallV (ci := 11) S (hK.sub (tys' := [(cI, .int), (cJ, .long)]) [0, 1] rfl) wKSc hKS hA (kX11_thrown wKSc (show FX11_thrown σ1 = some (σ1.1 0, σ1) from rfl)) (cwL_92 S.2.2.2.2 (rm := rmX11_thrown) rfl rfl ⟨(Nat.le_of_ble_eq_true rfl), (Nat.le_of_ble_eq_true rfl)⟩) hB 0 rfl rfl rfl hl.1 rfl (lv_room (Nat.le_of_ble_eq_true rfl)) dL_law_286 ⟨by omega, by omega⟩ (fun H locs hB => ?_)
  replace hB := lpM hB
  refine lv_iload S.1 S.2.1 dL_law_289 (lv_at hl 1 rfl) ?_
  refine lv_icmp_eq (tgt := 296) S.1 S.2.1 dL_law_291 (by decide) (fun _ => ?_) (fun c9 => absurd eT c9)
  refine lv_iload S.1 S.2.1 dL_law_296 (lv_at hl 1 rfl) ?_
  refine lv_if_ne (tgt := 313) S.1 S.2.1 dL_law_298 (by decide) (fun c8 => ?_) (fun c8 => ?_)
  · refine lv_goto (tgt := 1505) S.1 S.2.1 dL_law_313 (by decide) ?_
    exact W.widen (k := cells + 57) (n := slots + 212) (by omega) (by omega) (kk _ _ _ _ _ _ _ hR hB (lv_sub hl [2, 3, 4, 5, 6, 7] rfl))
  · have c8 : rr = 0 := by first | exact c8 | exact Classical.not_not.mp c8
    refine lv_aload_n S.1 S.2.1 dL_law_301 rfl (lv_at hl 4 rfl) ?_
    refine lv_iconst (v := (0 : Int32)) S.1 S.2.1 dL_law_302 (by decide) ?_
    refine gLald S hK (lpO hB) 0 1 rfl rfl (by unfold vp_in; decide) dL_law_303 ?_
    refine lv_iload S.1 S.2.1 dL_law_304 (lv_at hl 0 rfl) ?_
    refine lv_i2l (v := (bb).toInt64) S.1 S.2.1 dL_law_306 rfl ?_
    refine W.lcmp S.1 S.2.1 dL_law_307 ?_
    refine lv_if_eq (tgt := 313) S.1 S.2.1 dL_law_308 (by decide) (fun _ => ?_) (fun c9 => absurd (lc_eq.mpr (by rw [eA c8]; exact upd0)) c9)
    refine lv_goto (tgt := 1505) S.1 S.2.1 dL_law_313 (by decide) ?_
    exact W.widen (k := cells + 57) (n := slots + 212) (by omega) (by omega) (kk _ _ _ _ _ _ _ hR hB (lv_sub hl [2, 3, 4, 5, 6, 7] rfl))
set_option maxRecDepth 100000 in
set_option maxHeartbeats 4000000 in
theorem lwC_2 {p : Program} {l : Launch} {e : Env} {s : State} {m : MethodId} {args : Array Value} {below : List Frame} {meth : Method} {c : Code} {H : Heap} {locs : List Loc} {cells slots : Nat} {Q : State → Prop} {ls : Array Slot} {D : va_G} {A : Nat → Prop} {k0 : Cond} {cI cJ cQ cD : ClassId} {ad am : Nat → Nat} {ra : Nat → Nat → Nat} {adK adV tK : Nat → Nat} {b L o1 o2 : Nat} {xs : Nat → Int32} {f : Nat → Int64} {g : Nat → UInt64} {σ : MS} {τ : CS} {i : Int32} {Rel : MS → CS → Prop} (HR : LawOK Rel) (hl9 : l.stackTraces = false) (S : CallFix p m c cL_law 9 s args (k0 :: wsL_law) RL) (hK : va_K D vwCl [(cI, .int), (cJ, .long), (cQ, .array .long), (cD, .double)] s) (hKS : wKS adK adV tK A s) (hA : ∀ q, s.heap.size ≤ q → A q) (hX : va_X b L xs s s.heap) (hbl : b < s.heap.size) (hbA : ¬ A b) (hi : ∀ k : Int32, 0 ≤ k → k ≤ 5 → vp_in (i + k) L) (hc : cells + 57 ≤ room_1.cells) (hs : slots + 212 ≤ room_1.slots) (hR : Rel σ τ) (hB : gB D vwCl A s.heap (CW cI cJ cQ ad ra τ) (MW cI cJ am σ ++ [(o1, .inl (cJ, 1, .inr (.inl f))), (o2, .inl (cD, 1, .inr (.inr (.inr (.inl g)))))]) H locs) (hl : lv_has ls 9 [(5, .int i), (4, .ref o2), (3, .ref o1), (2, .ref (am 0)), (1, .ref (ad 0)), (0, .ref b)])
    (kk : ∀ (σ : MS) (τ : CS) (f : Nat → Int64) (g : Nat → UInt64) (H : Heap) (locs : List Loc) (ls : Array Slot), Rel σ τ → gB D vwCl A s.heap (CW cI cJ cQ ad ra τ) (MW cI cJ am σ ++ [(o1, .inl (cJ, 1, .inr (.inl f))), (o2, .inl (cD, 1, .inr (.inr (.inr (.inl g)))))]) H locs → lv_has ls 9 [(5, .int i), (4, .ref o2), (3, .ref o1), (2, .ref (am 0)), (1, .ref (ad 0)), (0, .ref b)] → W p l e room_1 s m args below meth c H locs (cells + 57) (slots + 212) Q (F0 m 1505 ls [])) : W p l e room_1 s m args below meth c H locs cells slots Q (F0 m 316 ls []) := by
  refine lv_aload_n S.1 S.2.1 dL_law_316 rfl (lv_at hl 4 rfl) ?_
  obtain ⟨rr, τ1, σ1, eC, eM, hR⟩ := HR.2.2.1 σ τ hR
  refine gCallV (ci := 10) S (hK.sub (tys' := [(cI, .int), (cJ, .long), (cQ, .array .long)]) [0, 1, 2] rfl) wKSc hKS hA (gMet.weak (kX10_compile eC) (fun _ _ q => q.1.1.1)) (cwL_99 S.2.2.2.2 (rm := rmX10_compile) rfl rfl ⟨(Nat.le_of_ble_eq_true rfl), (Nat.le_of_ble_eq_true rfl)⟩) hB 0 rfl rfl rfl hl.1 rfl (lv_room (Nat.le_of_ble_eq_true rfl)) dL_law_317 ⟨by omega, by omega⟩ (fun H locs hB => ?_)
  refine lv_aload_n S.1 S.2.1 dL_law_320 rfl (lv_at hl 3 rfl) ?_
  replace hB := lpM hB
  refine gCallV (ci := 11) S (hK.sub (tys' := [(cI, .int), (cJ, .long)]) [0, 1] rfl) wKSc hKS hA (gMet.weak (kX11_compile eM) (fun _ _ q => q.1.1.1.1)) (cwL_102 S.2.2.2.2 (rm := rmX11_compile) rfl rfl ⟨(Nat.le_of_ble_eq_true rfl), (Nat.le_of_ble_eq_true rfl)⟩) hB 0 rfl rfl rfl hl.1 rfl (lv_room (Nat.le_of_ble_eq_true rfl)) dL_law_321 ⟨by omega, by omega⟩ (fun H locs hB => ?_)
  replace hB := lpM hB
  refine lv_icmp_eq (tgt := 1505) S.1 S.2.1 dL_law_324 (by decide) (fun _ => ?_) (fun c9 => absurd rfl c9)
  exact W.widen (k := cells + 57) (n := slots + 212) (by omega) (by omega) (kk _ _ _ _ _ _ _ hR hB (lv_sub hl [0, 1, 2, 3, 4, 5] rfl))
set_option maxRecDepth 100000 in
set_option maxHeartbeats 4000000 in
theorem lwC_3 {p : Program} {l : Launch} {e : Env} {s : State} {m : MethodId} {args : Array Value} {below : List Frame} {meth : Method} {c : Code} {H : Heap} {locs : List Loc} {cells slots : Nat} {Q : State → Prop} {ls : Array Slot} {D : va_G} {A : Nat → Prop} {k0 : Cond} {cI cJ cQ cD : ClassId} {ad am : Nat → Nat} {ra : Nat → Nat → Nat} {adK adV tK : Nat → Nat} {b L o1 o2 : Nat} {xs : Nat → Int32} {f : Nat → Int64} {g : Nat → UInt64} {σ : MS} {τ : CS} {i : Int32} {Rel : MS → CS → Prop} (HR : LawOK Rel) (hl9 : l.stackTraces = false) (S : CallFix p m c cL_law 9 s args (k0 :: wsL_law) RL) (hK : va_K D vwCl [(cI, .int), (cJ, .long), (cQ, .array .long), (cD, .double)] s) (hKS : wKS adK adV tK A s) (hA : ∀ q, s.heap.size ≤ q → A q) (hX : va_X b L xs s s.heap) (hbl : b < s.heap.size) (hbA : ¬ A b) (hi : ∀ k : Int32, 0 ≤ k → k ≤ 5 → vp_in (i + k) L) (hc : cells + 57 ≤ room_1.cells) (hs : slots + 212 ≤ room_1.slots) (hR : Rel σ τ) (hB : gB D vwCl A s.heap (CW cI cJ cQ ad ra τ) (MW cI cJ am σ ++ [(o1, .inl (cJ, 1, .inr (.inl f))), (o2, .inl (cD, 1, .inr (.inr (.inr (.inl g)))))]) H locs) (hl : lv_has ls 9 [(5, .int i), (4, .ref o2), (3, .ref o1), (2, .ref (am 0)), (1, .ref (ad 0)), (0, .ref b)])
    (kk : ∀ (σ : MS) (τ : CS) (f : Nat → Int64) (g : Nat → UInt64) (H : Heap) (locs : List Loc) (ls : Array Slot), Rel σ τ → gB D vwCl A s.heap (CW cI cJ cQ ad ra τ) (MW cI cJ am σ ++ [(o1, .inl (cJ, 1, .inr (.inl f))), (o2, .inl (cD, 1, .inr (.inr (.inr (.inl g)))))]) H locs → lv_has ls 9 [(5, .int i), (4, .ref o2), (3, .ref o1), (2, .ref (am 0)), (1, .ref (ad 0)), (0, .ref b)] → W p l e room_1 s m args below meth c H locs (cells + 57) (slots + 212) Q (F0 m 1505 ls [])) : W p l e room_1 s m args below meth c H locs cells slots Q (F0 m 329 ls []) := by
  refine lv_aload_n S.1 S.2.1 dL_law_329 rfl (lv_at hl 4 rfl) ?_
  obtain ⟨rr, τ1, σ1, eC, eM, hR⟩ := HR.2.2.2.1 σ τ hR
  refine gCallV (ci := 10) S (hK.sub (tys' := [(cI, .int), (cJ, .long), (cQ, .array .long)]) [0, 1, 2] rfl) wKSc hKS hA (gMet.weak (kX10_errorAt eC) (fun _ _ q => q.1.1.1)) (cwL_103 S.2.2.2.2 (rm := rmX10_errorAt) rfl rfl ⟨(Nat.le_of_ble_eq_true rfl), (Nat.le_of_ble_eq_true rfl)⟩) hB 0 rfl rfl rfl hl.1 rfl (lv_room (Nat.le_of_ble_eq_true rfl)) dL_law_330 ⟨by omega, by omega⟩ (fun H locs hB => ?_)
  refine lv_aload_n S.1 S.2.1 dL_law_333 rfl (lv_at hl 3 rfl) ?_
  replace hB := lpM hB
  refine gCallV (ci := 11) S (hK.sub (tys' := [(cI, .int), (cJ, .long)]) [0, 1] rfl) wKSc hKS hA (kX11_errorAt wKSc eM) (cwL_106 S.2.2.2.2 (rm := rmX11_errorAt) rfl rfl ⟨(Nat.le_of_ble_eq_true rfl), (Nat.le_of_ble_eq_true rfl)⟩) hB 0 rfl rfl rfl hl.1 rfl (lv_room (Nat.le_of_ble_eq_true rfl)) dL_law_334 ⟨by omega, by omega⟩ (fun H locs hB => ?_)
  replace hB := lpM hB
  refine lv_icmp_eq (tgt := 1505) S.1 S.2.1 dL_law_337 (by decide) (fun _ => ?_) (fun c9 => absurd rfl c9)
  exact W.widen (k := cells + 57) (n := slots + 212) (by omega) (by omega) (kk _ _ _ _ _ _ _ hR hB (lv_sub hl [0, 1, 2, 3, 4, 5] rfl))
set_option maxRecDepth 100000 in
set_option maxHeartbeats 4000000 in
theorem lwC_4 {p : Program} {l : Launch} {e : Env} {s : State} {m : MethodId} {args : Array Value} {below : List Frame} {meth : Method} {c : Code} {H : Heap} {locs : List Loc} {cells slots : Nat} {Q : State → Prop} {ls : Array Slot} {D : va_G} {A : Nat → Prop} {k0 : Cond} {cI cJ cQ cD : ClassId} {ad am : Nat → Nat} {ra : Nat → Nat → Nat} {adK adV tK : Nat → Nat} {b L o1 o2 : Nat} {xs : Nat → Int32} {f : Nat → Int64} {g : Nat → UInt64} {σ : MS} {τ : CS} {i : Int32} {Rel : MS → CS → Prop} (HR : LawOK Rel) (hl9 : l.stackTraces = false) (S : CallFix p m c cL_law 9 s args (k0 :: wsL_law) RL) (hK : va_K D vwCl [(cI, .int), (cJ, .long), (cQ, .array .long), (cD, .double)] s) (hKS : wKS adK adV tK A s) (hA : ∀ q, s.heap.size ≤ q → A q) (hX : va_X b L xs s s.heap) (hbl : b < s.heap.size) (hbA : ¬ A b) (hi : ∀ k : Int32, 0 ≤ k → k ≤ 5 → vp_in (i + k) L) (hc : cells + 57 ≤ room_1.cells) (hs : slots + 212 ≤ room_1.slots) (hR : Rel σ τ) (hB : gB D vwCl A s.heap (CW cI cJ cQ ad ra τ) (MW cI cJ am σ ++ [(o1, .inl (cJ, 1, .inr (.inl f))), (o2, .inl (cD, 1, .inr (.inr (.inr (.inl g)))))]) H locs) (hl : lv_has ls 9 [(5, .int i), (4, .ref o2), (3, .ref o1), (2, .ref (am 0)), (1, .ref (ad 0)), (0, .ref b)])
    (kk : ∀ (σ : MS) (τ : CS) (f : Nat → Int64) (g : Nat → UInt64) (H : Heap) (locs : List Loc) (ls : Array Slot), Rel σ τ → gB D vwCl A s.heap (CW cI cJ cQ ad ra τ) (MW cI cJ am σ ++ [(o1, .inl (cJ, 1, .inr (.inl f))), (o2, .inl (cD, 1, .inr (.inr (.inr (.inl g)))))]) H locs → lv_has ls 9 [(5, .int i), (4, .ref o2), (3, .ref o1), (2, .ref (am 0)), (1, .ref (ad 0)), (0, .ref b)] → W p l e room_1 s m args below meth c H locs (cells + 57) (slots + 212) Q (F0 m 1505 ls [])) : W p l e room_1 s m args below meth c H locs cells slots Q (F0 m 342 ls []) := by
  refine lv_aload_n S.1 S.2.1 dL_law_342 rfl (lv_at hl 4 rfl) ?_
  refine lv_aload_n S.1 S.2.1 dL_law_343 rfl (lv_at hl 5 rfl) ?_
  refine lv_iload S.1 S.2.1 dL_law_344 (lv_at hl 0 rfl) ?_
  refine lv_iconst (v := (1 : Int32)) S.1 S.2.1 dL_law_346 (by decide) ?_
  refine lv_iadd S.1 S.2.1 dL_law_347 ?_
  refine va_sld S.1 S.2.1 hX hbl hbA hB.2.2 (hi (1 : Int32) (by decide) (by decide)) dL_law_348 ?_
  refine lv_aload_n S.1 S.2.1 dL_law_349 rfl (lv_at hl 2 rfl) ?_
  obtain ⟨o, τ1, rr, bb, σ1, eC, eK, eM, eT, eA, hR⟩ := HR.2.2.2.2.1 σ τ hR (xs (i + (1 : Int32)).toNatClampNeg)
  replace hB := lpA hB
  refine gCallSW S (hK.sub (tys' := [(cI, .int), (cJ, .long), (cQ, .array .long)]) [0, 1, 2] rfl) wKSc hKS hA (kL_count hl9 eC eK) (vx_cwSW 3 S.2.2.2.2 (gWSW wm_L_107 wst_L_count wn_L wy_L_count) rfl rfl rfl (by decide +kernel) ⟨(Nat.le_of_ble_eq_true rfl), (Nat.le_of_ble_eq_true rfl)⟩) hB rfl hl.1 rfl (lv_room (Nat.le_of_ble_eq_true rfl)) dL_law_350 ⟨by omega, by omega⟩ (fun H locs hB => ?_)
  replace hB := lpA2 hB
  refine lv_istore (lv' := [(6, .int (rr)), (5, .int (i)), (4, .ref o2), (3, .ref o1), (2, .ref (am 0)), (1, .ref (ad 0)), (0, .ref b)]) S.1 S.2.1 dL_law_353 hl (by decide) rfl (fun ls hl => ?_)
  refine lv_aload_n S.1 S.2.1 dL_law_355 rfl (lv_at hl 4 rfl) ?_
  refine lv_aload_n S.1 S.2.1 dL_law_356 rfl (lv_at hl 6 rfl) ?_
  refine lv_iload S.1 S.2.1 dL_law_357 (lv_at hl 1 rfl) ?_
  refine lv_iconst (v := (1 : Int32)) S.1 S.2.1 dL_law_359 (by decide) ?_
  refine lv_iadd S.1 S.2.1 dL_law_360 ?_
  refine va_sld S.1 S.2.1 hX hbl hbA hB.2.2 (hi (1 : Int32) (by decide) (by decide)) dL_law_361 ?_
  replace hB := lpM hB
  refine gCallV (ci := 11) S (hK.sub (tys' := [(cI, .int), (cJ, .long)]) [0, 1] rfl) wKSc hKS hA (kX11_count wKSc eM) (cwL_109 S.2.2.2.2 (rm := rmX11_count) rfl rfl ⟨(Nat.le_of_ble_eq_true rfl), (Nat.le_of_ble_eq_true rfl)⟩) hB 0 rfl rfl rfl hl.1 rfl (lv_room (Nat.le_of_ble_eq_true rfl)) dL_law_362 ⟨by omega, by omega⟩ (fun H locs hB => ?_)
  replace hB := lpM hB
  refine lv_istore (lv' := [(7, .int (bb)), (6, .int (rr)), (5, .int (i)), (4, .ref o2), (3, .ref o1), (2, .ref (am 0)), (1, .ref (ad 0)), (0, .ref b)]) S.1 S.2.1 dL_law_365 hl (by decide) rfl (fun ls hl => ?_)
  refine lv_aload_n S.1 S.2.1 dL_law_367 rfl (lv_at hl 5 rfl) ?_
  replace hB := lpM hB
  refine gCallV (ci := 11) S (hK.sub (tys' := [(cI, .int), (cJ, .long)]) [0, 1] rfl) wKSc hKS hA (kX11_thrown wKSc (show FX11_thrown σ1 = some (σ1.1 0, σ1) from rfl)) (cwL_92 S.2.2.2.2 (rm := rmX11_thrown) rfl rfl ⟨(Nat.le_of_ble_eq_true rfl), (Nat.le_of_ble_eq_true rfl)⟩) hB 0 rfl rfl rfl hl.1 rfl (lv_room (Nat.le_of_ble_eq_true rfl)) dL_law_368 ⟨by omega, by omega⟩ (fun H locs hB => ?_)
  replace hB := lpM hB
  refine lv_iload S.1 S.2.1 dL_law_371 (lv_at hl 1 rfl) ?_
  refine lv_icmp_eq (tgt := 378) S.1 S.2.1 dL_law_373 (by decide) (fun _ => ?_) (fun c9 => absurd eT c9)
  refine lv_iload S.1 S.2.1 dL_law_378 (lv_at hl 1 rfl) ?_
  refine lv_if_ne (tgt := 395) S.1 S.2.1 dL_law_380 (by decide) (fun c8 => ?_) (fun c8 => ?_)
  · refine lv_goto (tgt := 1505) S.1 S.2.1 dL_law_395 (by decide) ?_
    exact W.widen (k := cells + 57) (n := slots + 212) (by omega) (by omega) (kk _ _ _ _ _ _ _ hR hB (lv_sub hl [2, 3, 4, 5, 6, 7] rfl))
  · have c8 : rr = 0 := by first | exact c8 | exact Classical.not_not.mp c8
    refine lv_aload_n S.1 S.2.1 dL_law_383 rfl (lv_at hl 4 rfl) ?_
    refine lv_iconst (v := (0 : Int32)) S.1 S.2.1 dL_law_384 (by decide) ?_
    refine gLald S hK (lpO hB) 0 1 rfl rfl (by unfold vp_in; decide) dL_law_385 ?_
    refine lv_iload S.1 S.2.1 dL_law_386 (lv_at hl 0 rfl) ?_
    refine lv_i2l (v := (bb).toInt64) S.1 S.2.1 dL_law_388 rfl ?_
    refine W.lcmp S.1 S.2.1 dL_law_389 ?_
    refine lv_if_eq (tgt := 395) S.1 S.2.1 dL_law_390 (by decide) (fun _ => ?_) (fun c9 => absurd (lc_eq.mpr (by rw [eA c8]; exact upd0)) c9)
    refine lv_goto (tgt := 1505) S.1 S.2.1 dL_law_395 (by decide) ?_
    exact W.widen (k := cells + 57) (n := slots + 212) (by omega) (by omega) (kk _ _ _ _ _ _ _ hR hB (lv_sub hl [2, 3, 4, 5, 6, 7] rfl))
set_option maxRecDepth 100000 in
set_option maxHeartbeats 4000000 in
theorem lwC_5 {p : Program} {l : Launch} {e : Env} {s : State} {m : MethodId} {args : Array Value} {below : List Frame} {meth : Method} {c : Code} {H : Heap} {locs : List Loc} {cells slots : Nat} {Q : State → Prop} {ls : Array Slot} {D : va_G} {A : Nat → Prop} {k0 : Cond} {cI cJ cQ cD : ClassId} {ad am : Nat → Nat} {ra : Nat → Nat → Nat} {adK adV tK : Nat → Nat} {b L o1 o2 : Nat} {xs : Nat → Int32} {f : Nat → Int64} {g : Nat → UInt64} {σ : MS} {τ : CS} {i : Int32} {Rel : MS → CS → Prop} (HR : LawOK Rel) (hl9 : l.stackTraces = false) (S : CallFix p m c cL_law 9 s args (k0 :: wsL_law) RL) (hK : va_K D vwCl [(cI, .int), (cJ, .long), (cQ, .array .long), (cD, .double)] s) (hKS : wKS adK adV tK A s) (hA : ∀ q, s.heap.size ≤ q → A q) (hX : va_X b L xs s s.heap) (hbl : b < s.heap.size) (hbA : ¬ A b) (hi : ∀ k : Int32, 0 ≤ k → k ≤ 5 → vp_in (i + k) L) (hc : cells + 57 ≤ room_1.cells) (hs : slots + 212 ≤ room_1.slots) (hR : Rel σ τ) (hB : gB D vwCl A s.heap (CW cI cJ cQ ad ra τ) (MW cI cJ am σ ++ [(o1, .inl (cJ, 1, .inr (.inl f))), (o2, .inl (cD, 1, .inr (.inr (.inr (.inl g)))))]) H locs) (hl : lv_has ls 9 [(5, .int i), (4, .ref o2), (3, .ref o1), (2, .ref (am 0)), (1, .ref (ad 0)), (0, .ref b)])
    (kk : ∀ (σ : MS) (τ : CS) (f : Nat → Int64) (g : Nat → UInt64) (H : Heap) (locs : List Loc) (ls : Array Slot), Rel σ τ → gB D vwCl A s.heap (CW cI cJ cQ ad ra τ) (MW cI cJ am σ ++ [(o1, .inl (cJ, 1, .inr (.inl f))), (o2, .inl (cD, 1, .inr (.inr (.inr (.inl g)))))]) H locs → lv_has ls 9 [(5, .int i), (4, .ref o2), (3, .ref o1), (2, .ref (am 0)), (1, .ref (ad 0)), (0, .ref b)] → W p l e room_1 s m args below meth c H locs (cells + 57) (slots + 212) Q (F0 m 1505 ls [])) : W p l e room_1 s m args below meth c H locs cells slots Q (F0 m 398 ls []) := by
  refine lv_aload_n S.1 S.2.1 dL_law_398 rfl (lv_at hl 4 rfl) ?_
  refine lv_aload_n S.1 S.2.1 dL_law_399 rfl (lv_at hl 5 rfl) ?_
  refine lv_iload S.1 S.2.1 dL_law_400 (lv_at hl 0 rfl) ?_
  refine lv_iconst (v := (1 : Int32)) S.1 S.2.1 dL_law_402 (by decide) ?_
  refine lv_iadd S.1 S.2.1 dL_law_403 ?_
  refine va_sld S.1 S.2.1 hX hbl hbA hB.2.2 (hi (1 : Int32) (by decide) (by decide)) dL_law_404 ?_
  refine lv_aload_n S.1 S.2.1 dL_law_405 rfl (lv_at hl 5 rfl) ?_
  refine lv_iload S.1 S.2.1 dL_law_406 (lv_at hl 0 rfl) ?_
  refine lv_iconst (v := (2 : Int32)) S.1 S.2.1 dL_law_408 (by decide) ?_
  refine lv_iadd S.1 S.2.1 dL_law_409 ?_
  refine va_sld S.1 S.2.1 hX hbl hbA hB.2.2 (hi (2 : Int32) (by decide) (by decide)) dL_law_410 ?_
  refine lv_i2l (v := (xs (i + (2 : Int32)).toNatClampNeg).toInt64) S.1 S.2.1 dL_law_411 rfl ?_
  refine lv_bipush (v := (32 : Int32)) S.1 S.2.1 dL_law_412 (by decide) ?_
  refine lv_lshl (v := ((xs (i + (2 : Int32)).toNatClampNeg).toInt64 <<< ((32 : Int32).toInt64 &&& 63))) S.1 S.2.1 dL_law_414 rfl ?_
  refine lv_aload_n S.1 S.2.1 dL_law_415 rfl (lv_at hl 5 rfl) ?_
  refine lv_iload S.1 S.2.1 dL_law_416 (lv_at hl 0 rfl) ?_
  refine lv_iconst (v := (3 : Int32)) S.1 S.2.1 dL_law_418 (by decide) ?_
  refine lv_iadd S.1 S.2.1 dL_law_419 ?_
  refine va_sld S.1 S.2.1 hX hbl hbA hB.2.2 (hi (3 : Int32) (by decide) (by decide)) dL_law_420 ?_
  refine lv_i2l (v := (xs (i + (3 : Int32)).toNatClampNeg).toInt64) S.1 S.2.1 dL_law_421 rfl ?_
  refine lv_ldc2 (v := (4294967295)) S.1 S.2.1 S.2.2.2.1 (S.2.2.2.2 _ (List.mem_cons_of_mem _ wk_L_110)) dL_law_422 ?_
  refine lv_land S.1 S.2.1 dL_law_425 ?_
  refine lv_lor S.1 S.2.1 dL_law_426 ?_
  refine lv_aload_n S.1 S.2.1 dL_law_427 rfl (lv_at hl 2 rfl) ?_
  obtain ⟨o, τ1, rr, bb, σ1, eC, eK, eM, eT, eA, hR⟩ := HR.2.2.2.2.2.1 σ τ hR (xs (i + (1 : Int32)).toNatClampNeg) ((((xs (i + (2 : Int32)).toNatClampNeg).toInt64 <<< ((32 : Int32).toInt64 &&& 63)) ||| ((xs (i + (3 : Int32)).toNatClampNeg).toInt64 &&& (4294967295 : Int64))))
  replace hB := lpA hB
  refine gCallSW S (hK.sub (tys' := [(cI, .int), (cJ, .long), (cQ, .array .long)]) [0, 1, 2] rfl) wKSc hKS hA (kL_set hl9 eC eK) (vx_cwSW 4 S.2.2.2.2 (gWSW wm_L_112 wst_L_set wn_L wy_L_set) rfl rfl rfl (by decide +kernel) ⟨(Nat.le_of_ble_eq_true rfl), (Nat.le_of_ble_eq_true rfl)⟩) hB rfl hl.1 rfl (lv_room (Nat.le_of_ble_eq_true rfl)) dL_law_428 ⟨by omega, by omega⟩ (fun H locs hB => ?_)
  replace hB := lpA2 hB
  refine lv_istore (lv' := [(6, .int (rr)), (5, .int (i)), (4, .ref o2), (3, .ref o1), (2, .ref (am 0)), (1, .ref (ad 0)), (0, .ref b)]) S.1 S.2.1 dL_law_431 hl (by decide) rfl (fun ls hl => ?_)
  refine lv_aload_n S.1 S.2.1 dL_law_433 rfl (lv_at hl 4 rfl) ?_
  refine lv_aload_n S.1 S.2.1 dL_law_434 rfl (lv_at hl 6 rfl) ?_
  refine lv_iload S.1 S.2.1 dL_law_435 (lv_at hl 1 rfl) ?_
  refine lv_iconst (v := (1 : Int32)) S.1 S.2.1 dL_law_437 (by decide) ?_
  refine lv_iadd S.1 S.2.1 dL_law_438 ?_
  refine va_sld S.1 S.2.1 hX hbl hbA hB.2.2 (hi (1 : Int32) (by decide) (by decide)) dL_law_439 ?_
  refine lv_aload_n S.1 S.2.1 dL_law_440 rfl (lv_at hl 6 rfl) ?_
  refine lv_iload S.1 S.2.1 dL_law_441 (lv_at hl 1 rfl) ?_
  refine lv_iconst (v := (2 : Int32)) S.1 S.2.1 dL_law_443 (by decide) ?_
  refine lv_iadd S.1 S.2.1 dL_law_444 ?_
  refine va_sld S.1 S.2.1 hX hbl hbA hB.2.2 (hi (2 : Int32) (by decide) (by decide)) dL_law_445 ?_
  refine lv_i2l (v := (xs (i + (2 : Int32)).toNatClampNeg).toInt64) S.1 S.2.1 dL_law_446 rfl ?_
  refine lv_bipush (v := (32 : Int32)) S.1 S.2.1 dL_law_447 (by decide) ?_
  refine lv_lshl (v := ((xs (i + (2 : Int32)).toNatClampNeg).toInt64 <<< ((32 : Int32).toInt64 &&& 63))) S.1 S.2.1 dL_law_449 rfl ?_
  refine lv_aload_n S.1 S.2.1 dL_law_450 rfl (lv_at hl 6 rfl) ?_
  refine lv_iload S.1 S.2.1 dL_law_451 (lv_at hl 1 rfl) ?_
  refine lv_iconst (v := (3 : Int32)) S.1 S.2.1 dL_law_453 (by decide) ?_
  refine lv_iadd S.1 S.2.1 dL_law_454 ?_
  refine va_sld S.1 S.2.1 hX hbl hbA hB.2.2 (hi (3 : Int32) (by decide) (by decide)) dL_law_455 ?_
  refine lv_i2l (v := (xs (i + (3 : Int32)).toNatClampNeg).toInt64) S.1 S.2.1 dL_law_456 rfl ?_
  refine lv_ldc2 (v := (4294967295)) S.1 S.2.1 S.2.2.2.1 (S.2.2.2.2 _ (List.mem_cons_of_mem _ wk_L_110)) dL_law_457 ?_
  refine lv_land S.1 S.2.1 dL_law_460 ?_
  refine lv_lor S.1 S.2.1 dL_law_461 ?_
  replace hB := lpM hB
  refine gCallV (ci := 11) S (hK.sub (tys' := [(cI, .int), (cJ, .long)]) [0, 1] rfl) wKSc hKS hA (kX11_set wKSc eM) (cwL_115 S.2.2.2.2 (rm := rmX11_set) rfl rfl ⟨(Nat.le_of_ble_eq_true rfl), (Nat.le_of_ble_eq_true rfl)⟩) hB 0 rfl rfl rfl hl.1 rfl (lv_room (Nat.le_of_ble_eq_true rfl)) dL_law_462 ⟨by omega, by omega⟩ (fun H locs hB => ?_)
  replace hB := lpM hB
  refine lv_lstore (lv' := [(7, .long (bb)), (6, .int (rr)), (5, .int (i)), (4, .ref o2), (3, .ref o1), (2, .ref (am 0)), (1, .ref (ad 0)), (0, .ref b)]) S.1 S.2.1 dL_law_465 hl (by decide) rfl (fun ls hl => ?_)
  refine lv_aload_n S.1 S.2.1 dL_law_467 rfl (lv_at hl 5 rfl) ?_
  replace hB := lpM hB
  refine gCallV (ci := 11) S (hK.sub (tys' := [(cI, .int), (cJ, .long)]) [0, 1] rfl) wKSc hKS hA (kX11_thrown wKSc (show FX11_thrown σ1 = some (σ1.1 0, σ1) from rfl)) (cwL_92 S.2.2.2.2 (rm := rmX11_thrown) rfl rfl ⟨(Nat.le_of_ble_eq_true rfl), (Nat.le_of_ble_eq_true rfl)⟩) hB 0 rfl rfl rfl hl.1 rfl (lv_room (Nat.le_of_ble_eq_true rfl)) dL_law_468 ⟨by omega, by omega⟩ (fun H locs hB => ?_)
  replace hB := lpM hB
  refine lv_iload S.1 S.2.1 dL_law_471 (lv_at hl 1 rfl) ?_
  refine lv_icmp_eq (tgt := 478) S.1 S.2.1 dL_law_473 (by decide) (fun _ => ?_) (fun c9 => absurd eT c9)
  refine lv_iload S.1 S.2.1 dL_law_478 (lv_at hl 1 rfl) ?_
  refine lv_if_ne (tgt := 494) S.1 S.2.1 dL_law_480 (by decide) (fun c8 => ?_) (fun c8 => ?_)
  · refine lv_goto (tgt := 1505) S.1 S.2.1 dL_law_494 (by decide) ?_
    exact W.widen (k := cells + 57) (n := slots + 212) (by omega) (by omega) (kk _ _ _ _ _ _ _ hR hB (lv_sub hl [2, 3, 4, 5, 6, 7] rfl))
  · have c8 : rr = 0 := by first | exact c8 | exact Classical.not_not.mp c8
    refine lv_aload_n S.1 S.2.1 dL_law_483 rfl (lv_at hl 4 rfl) ?_
    refine lv_iconst (v := (0 : Int32)) S.1 S.2.1 dL_law_484 (by decide) ?_
    refine gLald S hK (lpO hB) 0 1 rfl rfl (by unfold vp_in; decide) dL_law_485 ?_
    refine lv_lload S.1 S.2.1 dL_law_486 (lv_at hl 0 rfl) ?_
    refine W.lcmp S.1 S.2.1 dL_law_488 ?_
    refine lv_if_eq (tgt := 494) S.1 S.2.1 dL_law_489 (by decide) (fun _ => ?_) (fun c9 => absurd (lc_eq.mpr (by rw [eA c8]; exact upd0)) c9)
    refine lv_goto (tgt := 1505) S.1 S.2.1 dL_law_494 (by decide) ?_
    exact W.widen (k := cells + 57) (n := slots + 212) (by omega) (by omega) (kk _ _ _ _ _ _ _ hR hB (lv_sub hl [2, 3, 4, 5, 6, 7] rfl))
set_option maxRecDepth 100000 in
set_option maxHeartbeats 4000000 in
theorem lwC_6 {p : Program} {l : Launch} {e : Env} {s : State} {m : MethodId} {args : Array Value} {below : List Frame} {meth : Method} {c : Code} {H : Heap} {locs : List Loc} {cells slots : Nat} {Q : State → Prop} {ls : Array Slot} {D : va_G} {A : Nat → Prop} {k0 : Cond} {cI cJ cQ cD : ClassId} {ad am : Nat → Nat} {ra : Nat → Nat → Nat} {adK adV tK : Nat → Nat} {b L o1 o2 : Nat} {xs : Nat → Int32} {f : Nat → Int64} {g : Nat → UInt64} {σ : MS} {τ : CS} {i : Int32} {Rel : MS → CS → Prop} (HR : LawOK Rel) (hl9 : l.stackTraces = false) (S : CallFix p m c cL_law 9 s args (k0 :: wsL_law) RL) (hK : va_K D vwCl [(cI, .int), (cJ, .long), (cQ, .array .long), (cD, .double)] s) (hKS : wKS adK adV tK A s) (hA : ∀ q, s.heap.size ≤ q → A q) (hX : va_X b L xs s s.heap) (hbl : b < s.heap.size) (hbA : ¬ A b) (hi : ∀ k : Int32, 0 ≤ k → k ≤ 5 → vp_in (i + k) L) (hc : cells + 57 ≤ room_1.cells) (hs : slots + 212 ≤ room_1.slots) (hR : Rel σ τ) (hB : gB D vwCl A s.heap (CW cI cJ cQ ad ra τ) (MW cI cJ am σ ++ [(o1, .inl (cJ, 1, .inr (.inl f))), (o2, .inl (cD, 1, .inr (.inr (.inr (.inl g)))))]) H locs) (hl : lv_has ls 9 [(5, .int i), (4, .ref o2), (3, .ref o1), (2, .ref (am 0)), (1, .ref (ad 0)), (0, .ref b)])
    (kk : ∀ (σ : MS) (τ : CS) (f : Nat → Int64) (g : Nat → UInt64) (H : Heap) (locs : List Loc) (ls : Array Slot), Rel σ τ → gB D vwCl A s.heap (CW cI cJ cQ ad ra τ) (MW cI cJ am σ ++ [(o1, .inl (cJ, 1, .inr (.inl f))), (o2, .inl (cD, 1, .inr (.inr (.inr (.inl g)))))]) H locs → lv_has ls 9 [(5, .int i), (4, .ref o2), (3, .ref o1), (2, .ref (am 0)), (1, .ref (ad 0)), (0, .ref b)] → W p l e room_1 s m args below meth c H locs (cells + 57) (slots + 212) Q (F0 m 1505 ls [])) : W p l e room_1 s m args below meth c H locs cells slots Q (F0 m 497 ls []) := by
  refine lv_aload_n S.1 S.2.1 dL_law_497 rfl (lv_at hl 4 rfl) ?_
  refine lv_aload_n S.1 S.2.1 dL_law_498 rfl (lv_at hl 5 rfl) ?_
  refine lv_iload S.1 S.2.1 dL_law_499 (lv_at hl 0 rfl) ?_
  refine lv_iconst (v := (1 : Int32)) S.1 S.2.1 dL_law_501 (by decide) ?_
  refine lv_iadd S.1 S.2.1 dL_law_502 ?_
  refine va_sld S.1 S.2.1 hX hbl hbA hB.2.2 (hi (1 : Int32) (by decide) (by decide)) dL_law_503 ?_
  refine lv_aload_n S.1 S.2.1 dL_law_504 rfl (lv_at hl 2 rfl) ?_
  obtain ⟨o, τ1, rr, bb, σ1, eC, eK, eM, eT, eA, hR⟩ := HR.2.2.2.2.2.2.1 σ τ hR (xs (i + (1 : Int32)).toNatClampNeg)
  replace hB := lpA hB
  refine gCallSW S (hK.sub (tys' := [(cI, .int), (cJ, .long), (cQ, .array .long)]) [0, 1, 2] rfl) wKSc hKS hA (kL_tick hl9 eC eK) (vx_cwSW 3 S.2.2.2.2 (gWSW wm_L_116 wst_L_tick wn_L wy_L_tick) rfl rfl rfl (by decide +kernel) ⟨(Nat.le_of_ble_eq_true rfl), (Nat.le_of_ble_eq_true rfl)⟩) hB rfl hl.1 rfl (lv_room (Nat.le_of_ble_eq_true rfl)) dL_law_505 ⟨by omega, by omega⟩ (fun H locs hB => ?_)
  replace hB := lpA2 hB
  refine lv_istore (lv' := [(6, .int (rr)), (5, .int (i)), (4, .ref o2), (3, .ref o1), (2, .ref (am 0)), (1, .ref (ad 0)), (0, .ref b)]) S.1 S.2.1 dL_law_508 hl (by decide) rfl (fun ls hl => ?_)
  refine lv_aload_n S.1 S.2.1 dL_law_510 rfl (lv_at hl 4 rfl) ?_
  refine lv_aload_n S.1 S.2.1 dL_law_511 rfl (lv_at hl 6 rfl) ?_
  refine lv_iload S.1 S.2.1 dL_law_512 (lv_at hl 1 rfl) ?_
  refine lv_iconst (v := (1 : Int32)) S.1 S.2.1 dL_law_514 (by decide) ?_
  refine lv_iadd S.1 S.2.1 dL_law_515 ?_
  refine va_sld S.1 S.2.1 hX hbl hbA hB.2.2 (hi (1 : Int32) (by decide) (by decide)) dL_law_516 ?_
  replace hB := lpM hB
  refine gCallV (ci := 11) S (hK.sub (tys' := [(cI, .int), (cJ, .long)]) [0, 1] rfl) wKSc hKS hA (kX11_tick wKSc eM) (cwL_118 S.2.2.2.2 (rm := rmX11_tick) rfl rfl ⟨(Nat.le_of_ble_eq_true rfl), (Nat.le_of_ble_eq_true rfl)⟩) hB 0 rfl rfl rfl hl.1 rfl (lv_room (Nat.le_of_ble_eq_true rfl)) dL_law_517 ⟨by omega, by omega⟩ (fun H locs hB => ?_)
  replace hB := lpM hB
  refine lv_istore (lv' := [(7, .int (bb)), (6, .int (rr)), (5, .int (i)), (4, .ref o2), (3, .ref o1), (2, .ref (am 0)), (1, .ref (ad 0)), (0, .ref b)]) S.1 S.2.1 dL_law_520 hl (by decide) rfl (fun ls hl => ?_)
  refine lv_aload_n S.1 S.2.1 dL_law_522 rfl (lv_at hl 5 rfl) ?_
  replace hB := lpM hB
  refine gCallV (ci := 11) S (hK.sub (tys' := [(cI, .int), (cJ, .long)]) [0, 1] rfl) wKSc hKS hA (kX11_thrown wKSc (show FX11_thrown σ1 = some (σ1.1 0, σ1) from rfl)) (cwL_92 S.2.2.2.2 (rm := rmX11_thrown) rfl rfl ⟨(Nat.le_of_ble_eq_true rfl), (Nat.le_of_ble_eq_true rfl)⟩) hB 0 rfl rfl rfl hl.1 rfl (lv_room (Nat.le_of_ble_eq_true rfl)) dL_law_523 ⟨by omega, by omega⟩ (fun H locs hB => ?_)
  replace hB := lpM hB
  refine lv_iload S.1 S.2.1 dL_law_526 (lv_at hl 1 rfl) ?_
  refine lv_icmp_eq (tgt := 533) S.1 S.2.1 dL_law_528 (by decide) (fun _ => ?_) (fun c9 => absurd eT c9)
  refine lv_iload S.1 S.2.1 dL_law_533 (lv_at hl 1 rfl) ?_
  refine lv_if_ne (tgt := 550) S.1 S.2.1 dL_law_535 (by decide) (fun c8 => ?_) (fun c8 => ?_)
  · refine lv_goto (tgt := 1505) S.1 S.2.1 dL_law_550 (by decide) ?_
    exact W.widen (k := cells + 57) (n := slots + 212) (by omega) (by omega) (kk _ _ _ _ _ _ _ hR hB (lv_sub hl [2, 3, 4, 5, 6, 7] rfl))
  · have c8 : rr = 0 := by first | exact c8 | exact Classical.not_not.mp c8
    refine lv_aload_n S.1 S.2.1 dL_law_538 rfl (lv_at hl 4 rfl) ?_
    refine lv_iconst (v := (0 : Int32)) S.1 S.2.1 dL_law_539 (by decide) ?_
    refine gLald S hK (lpO hB) 0 1 rfl rfl (by unfold vp_in; decide) dL_law_540 ?_
    refine lv_iload S.1 S.2.1 dL_law_541 (lv_at hl 0 rfl) ?_
    refine lv_i2l (v := (bb).toInt64) S.1 S.2.1 dL_law_543 rfl ?_
    refine W.lcmp S.1 S.2.1 dL_law_544 ?_
    refine lv_if_eq (tgt := 550) S.1 S.2.1 dL_law_545 (by decide) (fun _ => ?_) (fun c9 => absurd (lc_eq.mpr (by rw [eA c8]; exact upd0)) c9)
    refine lv_goto (tgt := 1505) S.1 S.2.1 dL_law_550 (by decide) ?_
    exact W.widen (k := cells + 57) (n := slots + 212) (by omega) (by omega) (kk _ _ _ _ _ _ _ hR hB (lv_sub hl [2, 3, 4, 5, 6, 7] rfl))
set_option maxRecDepth 100000 in
set_option maxHeartbeats 4000000 in
theorem lwC_7 {p : Program} {l : Launch} {e : Env} {s : State} {m : MethodId} {args : Array Value} {below : List Frame} {meth : Method} {c : Code} {H : Heap} {locs : List Loc} {cells slots : Nat} {Q : State → Prop} {ls : Array Slot} {D : va_G} {A : Nat → Prop} {k0 : Cond} {cI cJ cQ cD : ClassId} {ad am : Nat → Nat} {ra : Nat → Nat → Nat} {adK adV tK : Nat → Nat} {b L o1 o2 : Nat} {xs : Nat → Int32} {f : Nat → Int64} {g : Nat → UInt64} {σ : MS} {τ : CS} {i : Int32} {Rel : MS → CS → Prop} (HR : LawOK Rel) (hl9 : l.stackTraces = false) (S : CallFix p m c cL_law 9 s args (k0 :: wsL_law) RL) (hK : va_K D vwCl [(cI, .int), (cJ, .long), (cQ, .array .long), (cD, .double)] s) (hKS : wKS adK adV tK A s) (hA : ∀ q, s.heap.size ≤ q → A q) (hX : va_X b L xs s s.heap) (hbl : b < s.heap.size) (hbA : ¬ A b) (hi : ∀ k : Int32, 0 ≤ k → k ≤ 5 → vp_in (i + k) L) (hc : cells + 57 ≤ room_1.cells) (hs : slots + 212 ≤ room_1.slots) (hR : Rel σ τ) (hB : gB D vwCl A s.heap (CW cI cJ cQ ad ra τ) (MW cI cJ am σ ++ [(o1, .inl (cJ, 1, .inr (.inl f))), (o2, .inl (cD, 1, .inr (.inr (.inr (.inl g)))))]) H locs) (hl : lv_has ls 9 [(5, .int i), (4, .ref o2), (3, .ref o1), (2, .ref (am 0)), (1, .ref (ad 0)), (0, .ref b)])
    (kk : ∀ (σ : MS) (τ : CS) (f : Nat → Int64) (g : Nat → UInt64) (H : Heap) (locs : List Loc) (ls : Array Slot), Rel σ τ → gB D vwCl A s.heap (CW cI cJ cQ ad ra τ) (MW cI cJ am σ ++ [(o1, .inl (cJ, 1, .inr (.inl f))), (o2, .inl (cD, 1, .inr (.inr (.inr (.inl g)))))]) H locs → lv_has ls 9 [(5, .int i), (4, .ref o2), (3, .ref o1), (2, .ref (am 0)), (1, .ref (ad 0)), (0, .ref b)] → W p l e room_1 s m args below meth c H locs (cells + 57) (slots + 212) Q (F0 m 1505 ls [])) : W p l e room_1 s m args below meth c H locs cells slots Q (F0 m 553 ls []) := by
  refine lv_aload_n S.1 S.2.1 dL_law_553 rfl (lv_at hl 4 rfl) ?_
  refine lv_aload_n S.1 S.2.1 dL_law_554 rfl (lv_at hl 5 rfl) ?_
  refine lv_iload S.1 S.2.1 dL_law_555 (lv_at hl 0 rfl) ?_
  refine lv_iconst (v := (1 : Int32)) S.1 S.2.1 dL_law_557 (by decide) ?_
  refine lv_iadd S.1 S.2.1 dL_law_558 ?_
  refine va_sld S.1 S.2.1 hX hbl hbA hB.2.2 (hi (1 : Int32) (by decide) (by decide)) dL_law_559 ?_
  refine lv_aload_n S.1 S.2.1 dL_law_560 rfl (lv_at hl 2 rfl) ?_
  obtain ⟨o, τ1, rr, bb, σ1, eC, eK, eM, eT, eA, hR⟩ := HR.2.2.2.2.2.2.2.1 σ τ hR (xs (i + (1 : Int32)).toNatClampNeg)
  replace hB := lpA hB
  refine gCallSW S (hK.sub (tys' := [(cI, .int), (cJ, .long), (cQ, .array .long)]) [0, 1, 2] rfl) wKSc hKS hA (kL_back hl9 eC eK) (vx_cwSW 3 S.2.2.2.2 (gWSW wm_L_119 wst_L_back wn_L wy_L_back) rfl rfl rfl (by decide +kernel) ⟨(Nat.le_of_ble_eq_true rfl), (Nat.le_of_ble_eq_true rfl)⟩) hB rfl hl.1 rfl (lv_room (Nat.le_of_ble_eq_true rfl)) dL_law_561 ⟨by omega, by omega⟩ (fun H locs hB => ?_)
  replace hB := lpA2 hB
  refine lv_istore (lv' := [(6, .int (rr)), (5, .int (i)), (4, .ref o2), (3, .ref o1), (2, .ref (am 0)), (1, .ref (ad 0)), (0, .ref b)]) S.1 S.2.1 dL_law_564 hl (by decide) rfl (fun ls hl => ?_)
  refine lv_aload_n S.1 S.2.1 dL_law_566 rfl (lv_at hl 4 rfl) ?_
  refine lv_aload_n S.1 S.2.1 dL_law_567 rfl (lv_at hl 6 rfl) ?_
  refine lv_iload S.1 S.2.1 dL_law_568 (lv_at hl 1 rfl) ?_
  refine lv_iconst (v := (1 : Int32)) S.1 S.2.1 dL_law_570 (by decide) ?_
  refine lv_iadd S.1 S.2.1 dL_law_571 ?_
  refine va_sld S.1 S.2.1 hX hbl hbA hB.2.2 (hi (1 : Int32) (by decide) (by decide)) dL_law_572 ?_
  replace hB := lpM hB
  refine gCallV (ci := 11) S (hK.sub (tys' := [(cI, .int), (cJ, .long)]) [0, 1] rfl) wKSc hKS hA (kX11_back wKSc eM) (cwL_121 S.2.2.2.2 (rm := rmX11_back) rfl rfl ⟨(Nat.le_of_ble_eq_true rfl), (Nat.le_of_ble_eq_true rfl)⟩) hB 0 rfl rfl rfl hl.1 rfl (lv_room (Nat.le_of_ble_eq_true rfl)) dL_law_573 ⟨by omega, by omega⟩ (fun H locs hB => ?_)
  replace hB := lpM hB
  refine lv_istore (lv' := [(7, .int (bb)), (6, .int (rr)), (5, .int (i)), (4, .ref o2), (3, .ref o1), (2, .ref (am 0)), (1, .ref (ad 0)), (0, .ref b)]) S.1 S.2.1 dL_law_576 hl (by decide) rfl (fun ls hl => ?_)
  refine lv_aload_n S.1 S.2.1 dL_law_578 rfl (lv_at hl 5 rfl) ?_
  replace hB := lpM hB
  refine gCallV (ci := 11) S (hK.sub (tys' := [(cI, .int), (cJ, .long)]) [0, 1] rfl) wKSc hKS hA (kX11_thrown wKSc (show FX11_thrown σ1 = some (σ1.1 0, σ1) from rfl)) (cwL_92 S.2.2.2.2 (rm := rmX11_thrown) rfl rfl ⟨(Nat.le_of_ble_eq_true rfl), (Nat.le_of_ble_eq_true rfl)⟩) hB 0 rfl rfl rfl hl.1 rfl (lv_room (Nat.le_of_ble_eq_true rfl)) dL_law_579 ⟨by omega, by omega⟩ (fun H locs hB => ?_)
  replace hB := lpM hB
  refine lv_iload S.1 S.2.1 dL_law_582 (lv_at hl 1 rfl) ?_
  refine lv_icmp_eq (tgt := 589) S.1 S.2.1 dL_law_584 (by decide) (fun _ => ?_) (fun c9 => absurd eT c9)
  refine lv_iload S.1 S.2.1 dL_law_589 (lv_at hl 1 rfl) ?_
  refine lv_if_ne (tgt := 606) S.1 S.2.1 dL_law_591 (by decide) (fun c8 => ?_) (fun c8 => ?_)
  · refine lv_goto (tgt := 1505) S.1 S.2.1 dL_law_606 (by decide) ?_
    exact W.widen (k := cells + 57) (n := slots + 212) (by omega) (by omega) (kk _ _ _ _ _ _ _ hR hB (lv_sub hl [2, 3, 4, 5, 6, 7] rfl))
  · have c8 : rr = 0 := by first | exact c8 | exact Classical.not_not.mp c8
    refine lv_aload_n S.1 S.2.1 dL_law_594 rfl (lv_at hl 4 rfl) ?_
    refine lv_iconst (v := (0 : Int32)) S.1 S.2.1 dL_law_595 (by decide) ?_
    refine gLald S hK (lpO hB) 0 1 rfl rfl (by unfold vp_in; decide) dL_law_596 ?_
    refine lv_iload S.1 S.2.1 dL_law_597 (lv_at hl 0 rfl) ?_
    refine lv_i2l (v := (bb).toInt64) S.1 S.2.1 dL_law_599 rfl ?_
    refine W.lcmp S.1 S.2.1 dL_law_600 ?_
    refine lv_if_eq (tgt := 606) S.1 S.2.1 dL_law_601 (by decide) (fun _ => ?_) (fun c9 => absurd (lc_eq.mpr (by rw [eA c8]; exact upd0)) c9)
    refine lv_goto (tgt := 1505) S.1 S.2.1 dL_law_606 (by decide) ?_
    exact W.widen (k := cells + 57) (n := slots + 212) (by omega) (by omega) (kk _ _ _ _ _ _ _ hR hB (lv_sub hl [2, 3, 4, 5, 6, 7] rfl))
set_option maxRecDepth 100000 in
set_option maxHeartbeats 4000000 in
theorem lwC_8 {p : Program} {l : Launch} {e : Env} {s : State} {m : MethodId} {args : Array Value} {below : List Frame} {meth : Method} {c : Code} {H : Heap} {locs : List Loc} {cells slots : Nat} {Q : State → Prop} {ls : Array Slot} {D : va_G} {A : Nat → Prop} {k0 : Cond} {cI cJ cQ cD : ClassId} {ad am : Nat → Nat} {ra : Nat → Nat → Nat} {adK adV tK : Nat → Nat} {b L o1 o2 : Nat} {xs : Nat → Int32} {f : Nat → Int64} {g : Nat → UInt64} {σ : MS} {τ : CS} {i : Int32} {Rel : MS → CS → Prop} (HR : LawOK Rel) (hl9 : l.stackTraces = false) (S : CallFix p m c cL_law 9 s args (k0 :: wsL_law) RL) (hK : va_K D vwCl [(cI, .int), (cJ, .long), (cQ, .array .long), (cD, .double)] s) (hKS : wKS adK adV tK A s) (hA : ∀ q, s.heap.size ≤ q → A q) (hX : va_X b L xs s s.heap) (hbl : b < s.heap.size) (hbA : ¬ A b) (hi : ∀ k : Int32, 0 ≤ k → k ≤ 5 → vp_in (i + k) L) (hc : cells + 57 ≤ room_1.cells) (hs : slots + 212 ≤ room_1.slots) (hR : Rel σ τ) (hB : gB D vwCl A s.heap (CW cI cJ cQ ad ra τ) (MW cI cJ am σ ++ [(o1, .inl (cJ, 1, .inr (.inl f))), (o2, .inl (cD, 1, .inr (.inr (.inr (.inl g)))))]) H locs) (hl : lv_has ls 9 [(5, .int i), (4, .ref o2), (3, .ref o1), (2, .ref (am 0)), (1, .ref (ad 0)), (0, .ref b)])
    (kk : ∀ (σ : MS) (τ : CS) (f : Nat → Int64) (g : Nat → UInt64) (H : Heap) (locs : List Loc) (ls : Array Slot), Rel σ τ → gB D vwCl A s.heap (CW cI cJ cQ ad ra τ) (MW cI cJ am σ ++ [(o1, .inl (cJ, 1, .inr (.inl f))), (o2, .inl (cD, 1, .inr (.inr (.inr (.inl g)))))]) H locs → lv_has ls 9 [(5, .int i), (4, .ref o2), (3, .ref o1), (2, .ref (am 0)), (1, .ref (ad 0)), (0, .ref b)] → W p l e room_1 s m args below meth c H locs (cells + 57) (slots + 212) Q (F0 m 1505 ls [])) : W p l e room_1 s m args below meth c H locs cells slots Q (F0 m 609 ls []) := by
  refine lv_aload_n S.1 S.2.1 dL_law_609 rfl (lv_at hl 4 rfl) ?_
  refine lv_aload_n S.1 S.2.1 dL_law_610 rfl (lv_at hl 2 rfl) ?_
  obtain ⟨o, τ1, rr, bb, σ1, eC, eK, eM, eT, eA, hR⟩ := HR.2.2.2.2.2.2.2.2.1 σ τ hR 
  replace hB := lpA hB
  refine gCallSW S (hK.sub (tys' := [(cI, .int), (cJ, .long), (cQ, .array .long)]) [0, 1, 2] rfl) wKSc hKS hA (kL_restart hl9 eC eK) (vx_cwSW 2 S.2.2.2.2 (gWSW wm_L_122 wst_L_restart wn_L wy_L_restart) rfl rfl rfl (by decide +kernel) ⟨(Nat.le_of_ble_eq_true rfl), (Nat.le_of_ble_eq_true rfl)⟩) hB rfl hl.1 rfl (lv_room (Nat.le_of_ble_eq_true rfl)) dL_law_611 ⟨by omega, by omega⟩ (fun H locs hB => ?_)
  replace hB := lpA2 hB
  refine lv_istore (lv' := [(6, .int (rr)), (5, .int (i)), (4, .ref o2), (3, .ref o1), (2, .ref (am 0)), (1, .ref (ad 0)), (0, .ref b)]) S.1 S.2.1 dL_law_614 hl (by decide) rfl (fun ls hl => ?_)
  refine lv_aload_n S.1 S.2.1 dL_law_616 rfl (lv_at hl 4 rfl) ?_
  replace hB := lpM hB
  refine gCallV (ci := 11) S (hK.sub (tys' := [(cI, .int), (cJ, .long)]) [0, 1] rfl) wKSc hKS hA (kX11_restart wKSc eM) (cwL_125 S.2.2.2.2 (rm := rmX11_restart) rfl rfl ⟨(Nat.le_of_ble_eq_true rfl), (Nat.le_of_ble_eq_true rfl)⟩) hB 0 rfl rfl rfl hl.1 rfl (lv_room (Nat.le_of_ble_eq_true rfl)) dL_law_617 ⟨by omega, by omega⟩ (fun H locs hB => ?_)
  replace hB := lpM hB
  refine lv_istore (lv' := [(7, .int (bb)), (6, .int (rr)), (5, .int (i)), (4, .ref o2), (3, .ref o1), (2, .ref (am 0)), (1, .ref (ad 0)), (0, .ref b)]) S.1 S.2.1 dL_law_620 hl (by decide) rfl (fun ls hl => ?_)
  refine lv_aload_n S.1 S.2.1 dL_law_622 rfl (lv_at hl 5 rfl) ?_
  replace hB := lpM hB
  refine gCallV (ci := 11) S (hK.sub (tys' := [(cI, .int), (cJ, .long)]) [0, 1] rfl) wKSc hKS hA (kX11_thrown wKSc (show FX11_thrown σ1 = some (σ1.1 0, σ1) from rfl)) (cwL_92 S.2.2.2.2 (rm := rmX11_thrown) rfl rfl ⟨(Nat.le_of_ble_eq_true rfl), (Nat.le_of_ble_eq_true rfl)⟩) hB 0 rfl rfl rfl hl.1 rfl (lv_room (Nat.le_of_ble_eq_true rfl)) dL_law_623 ⟨by omega, by omega⟩ (fun H locs hB => ?_)
  replace hB := lpM hB
  refine lv_iload S.1 S.2.1 dL_law_626 (lv_at hl 1 rfl) ?_
  refine lv_icmp_eq (tgt := 633) S.1 S.2.1 dL_law_628 (by decide) (fun _ => ?_) (fun c9 => absurd eT c9)
  refine lv_iload S.1 S.2.1 dL_law_633 (lv_at hl 1 rfl) ?_
  refine lv_if_ne (tgt := 650) S.1 S.2.1 dL_law_635 (by decide) (fun c8 => ?_) (fun c8 => ?_)
  · refine lv_goto (tgt := 1505) S.1 S.2.1 dL_law_650 (by decide) ?_
    exact W.widen (k := cells + 57) (n := slots + 212) (by omega) (by omega) (kk _ _ _ _ _ _ _ hR hB (lv_sub hl [2, 3, 4, 5, 6, 7] rfl))
  · have c8 : rr = 0 := by first | exact c8 | exact Classical.not_not.mp c8
    refine lv_aload_n S.1 S.2.1 dL_law_638 rfl (lv_at hl 4 rfl) ?_
    refine lv_iconst (v := (0 : Int32)) S.1 S.2.1 dL_law_639 (by decide) ?_
    refine gLald S hK (lpO hB) 0 1 rfl rfl (by unfold vp_in; decide) dL_law_640 ?_
    refine lv_iload S.1 S.2.1 dL_law_641 (lv_at hl 0 rfl) ?_
    refine lv_i2l (v := (bb).toInt64) S.1 S.2.1 dL_law_643 rfl ?_
    refine W.lcmp S.1 S.2.1 dL_law_644 ?_
    refine lv_if_eq (tgt := 650) S.1 S.2.1 dL_law_645 (by decide) (fun _ => ?_) (fun c9 => absurd (lc_eq.mpr (by rw [eA c8]; exact upd0)) c9)
    refine lv_goto (tgt := 1505) S.1 S.2.1 dL_law_650 (by decide) ?_
    exact W.widen (k := cells + 57) (n := slots + 212) (by omega) (by omega) (kk _ _ _ _ _ _ _ hR hB (lv_sub hl [2, 3, 4, 5, 6, 7] rfl))
set_option maxRecDepth 100000 in
set_option maxHeartbeats 4000000 in
theorem lwC_9 {p : Program} {l : Launch} {e : Env} {s : State} {m : MethodId} {args : Array Value} {below : List Frame} {meth : Method} {c : Code} {H : Heap} {locs : List Loc} {cells slots : Nat} {Q : State → Prop} {ls : Array Slot} {D : va_G} {A : Nat → Prop} {k0 : Cond} {cI cJ cQ cD : ClassId} {ad am : Nat → Nat} {ra : Nat → Nat → Nat} {adK adV tK : Nat → Nat} {b L o1 o2 : Nat} {xs : Nat → Int32} {f : Nat → Int64} {g : Nat → UInt64} {σ : MS} {τ : CS} {i : Int32} {Rel : MS → CS → Prop} (HR : LawOK Rel) (hl9 : l.stackTraces = false) (S : CallFix p m c cL_law 9 s args (k0 :: wsL_law) RL) (hK : va_K D vwCl [(cI, .int), (cJ, .long), (cQ, .array .long), (cD, .double)] s) (hKS : wKS adK adV tK A s) (hA : ∀ q, s.heap.size ≤ q → A q) (hX : va_X b L xs s s.heap) (hbl : b < s.heap.size) (hbA : ¬ A b) (hi : ∀ k : Int32, 0 ≤ k → k ≤ 5 → vp_in (i + k) L) (hc : cells + 57 ≤ room_1.cells) (hs : slots + 212 ≤ room_1.slots) (hR : Rel σ τ) (hB : gB D vwCl A s.heap (CW cI cJ cQ ad ra τ) (MW cI cJ am σ ++ [(o1, .inl (cJ, 1, .inr (.inl f))), (o2, .inl (cD, 1, .inr (.inr (.inr (.inl g)))))]) H locs) (hl : lv_has ls 9 [(5, .int i), (4, .ref o2), (3, .ref o1), (2, .ref (am 0)), (1, .ref (ad 0)), (0, .ref b)])
    (kk : ∀ (σ : MS) (τ : CS) (f : Nat → Int64) (g : Nat → UInt64) (H : Heap) (locs : List Loc) (ls : Array Slot), Rel σ τ → gB D vwCl A s.heap (CW cI cJ cQ ad ra τ) (MW cI cJ am σ ++ [(o1, .inl (cJ, 1, .inr (.inl f))), (o2, .inl (cD, 1, .inr (.inr (.inr (.inl g)))))]) H locs → lv_has ls 9 [(5, .int i), (4, .ref o2), (3, .ref o1), (2, .ref (am 0)), (1, .ref (ad 0)), (0, .ref b)] → W p l e room_1 s m args below meth c H locs (cells + 57) (slots + 212) Q (F0 m 1505 ls [])) : W p l e room_1 s m args below meth c H locs cells slots Q (F0 m 653 ls []) := by
  refine lv_aload_n S.1 S.2.1 dL_law_653 rfl (lv_at hl 4 rfl) ?_
  obtain ⟨rr, τ1, σ1, eC, eM, hR⟩ := HR.2.2.2.2.2.2.2.2.2.1 σ τ hR
  refine gCallV (ci := 10) S (hK.sub (tys' := [(cI, .int), (cJ, .long), (cQ, .array .long)]) [0, 1, 2] rfl) wKSc hKS hA (gMet.weak (kX10_keep eC) (fun _ _ q => q.1.1.1)) (cwL_126 S.2.2.2.2 (rm := rmX10_keep) rfl rfl ⟨(Nat.le_of_ble_eq_true rfl), (Nat.le_of_ble_eq_true rfl)⟩) hB 0 rfl rfl rfl hl.1 rfl (lv_room (Nat.le_of_ble_eq_true rfl)) dL_law_654 ⟨by omega, by omega⟩ (fun H locs hB => ?_)
  refine lv_aload_n S.1 S.2.1 dL_law_657 rfl (lv_at hl 3 rfl) ?_
  replace hB := lpM hB
  refine gCallV (ci := 11) S (hK.sub (tys' := [(cI, .int), (cJ, .long)]) [0, 1] rfl) wKSc hKS hA (kX11_keep wKSc eM) (cwL_129 S.2.2.2.2 (rm := rmX11_keep) rfl rfl ⟨(Nat.le_of_ble_eq_true rfl), (Nat.le_of_ble_eq_true rfl)⟩) hB 0 rfl rfl rfl hl.1 rfl (lv_room (Nat.le_of_ble_eq_true rfl)) dL_law_658 ⟨by omega, by omega⟩ (fun H locs hB => ?_)
  replace hB := lpM hB
  refine lv_icmp_eq (tgt := 1505) S.1 S.2.1 dL_law_661 (by decide) (fun _ => ?_) (fun c9 => absurd rfl c9)
  exact W.widen (k := cells + 57) (n := slots + 212) (by omega) (by omega) (kk _ _ _ _ _ _ _ hR hB (lv_sub hl [0, 1, 2, 3, 4, 5] rfl))
set_option maxRecDepth 100000 in
set_option maxHeartbeats 4000000 in
theorem lwC_10 {p : Program} {l : Launch} {e : Env} {s : State} {m : MethodId} {args : Array Value} {below : List Frame} {meth : Method} {c : Code} {H : Heap} {locs : List Loc} {cells slots : Nat} {Q : State → Prop} {ls : Array Slot} {D : va_G} {A : Nat → Prop} {k0 : Cond} {cI cJ cQ cD : ClassId} {ad am : Nat → Nat} {ra : Nat → Nat → Nat} {adK adV tK : Nat → Nat} {b L o1 o2 : Nat} {xs : Nat → Int32} {f : Nat → Int64} {g : Nat → UInt64} {σ : MS} {τ : CS} {i : Int32} {Rel : MS → CS → Prop} (HR : LawOK Rel) (hl9 : l.stackTraces = false) (S : CallFix p m c cL_law 9 s args (k0 :: wsL_law) RL) (hK : va_K D vwCl [(cI, .int), (cJ, .long), (cQ, .array .long), (cD, .double)] s) (hKS : wKS adK adV tK A s) (hA : ∀ q, s.heap.size ≤ q → A q) (hX : va_X b L xs s s.heap) (hbl : b < s.heap.size) (hbA : ¬ A b) (hi : ∀ k : Int32, 0 ≤ k → k ≤ 5 → vp_in (i + k) L) (hc : cells + 57 ≤ room_1.cells) (hs : slots + 212 ≤ room_1.slots) (hR : Rel σ τ) (hB : gB D vwCl A s.heap (CW cI cJ cQ ad ra τ) (MW cI cJ am σ ++ [(o1, .inl (cJ, 1, .inr (.inl f))), (o2, .inl (cD, 1, .inr (.inr (.inr (.inl g)))))]) H locs) (hl : lv_has ls 9 [(5, .int i), (4, .ref o2), (3, .ref o1), (2, .ref (am 0)), (1, .ref (ad 0)), (0, .ref b)])
    (kk : ∀ (σ : MS) (τ : CS) (f : Nat → Int64) (g : Nat → UInt64) (H : Heap) (locs : List Loc) (ls : Array Slot), Rel σ τ → gB D vwCl A s.heap (CW cI cJ cQ ad ra τ) (MW cI cJ am σ ++ [(o1, .inl (cJ, 1, .inr (.inl f))), (o2, .inl (cD, 1, .inr (.inr (.inr (.inl g)))))]) H locs → lv_has ls 9 [(5, .int i), (4, .ref o2), (3, .ref o1), (2, .ref (am 0)), (1, .ref (ad 0)), (0, .ref b)] → W p l e room_1 s m args below meth c H locs (cells + 57) (slots + 212) Q (F0 m 1505 ls [])) : W p l e room_1 s m args below meth c H locs cells slots Q (F0 m 666 ls []) := by
  refine lv_aload_n S.1 S.2.1 dL_law_666 rfl (lv_at hl 4 rfl) ?_
  refine lv_aload_n S.1 S.2.1 dL_law_667 rfl (lv_at hl 2 rfl) ?_
  obtain ⟨o, τ1, rr, bb, σ1, eC, eK, eM, eT, eA, hR⟩ := HR.2.2.2.2.2.2.2.2.2.2.1 σ τ hR 
  replace hB := lpA hB
  refine gCallSW S (hK.sub (tys' := [(cI, .int), (cJ, .long), (cQ, .array .long)]) [0, 1, 2] rfl) wKSc hKS hA (kL_replay hl9 eC eK) (vx_cwSW 2 S.2.2.2.2 (gWSW wm_L_130 wst_L_replay wn_L wy_L_replay) rfl rfl rfl (by decide +kernel) ⟨(Nat.le_of_ble_eq_true rfl), (Nat.le_of_ble_eq_true rfl)⟩) hB rfl hl.1 rfl (lv_room (Nat.le_of_ble_eq_true rfl)) dL_law_668 ⟨by omega, by omega⟩ (fun H locs hB => ?_)
  replace hB := lpA2 hB
  refine lv_istore (lv' := [(6, .int (rr)), (5, .int (i)), (4, .ref o2), (3, .ref o1), (2, .ref (am 0)), (1, .ref (ad 0)), (0, .ref b)]) S.1 S.2.1 dL_law_671 hl (by decide) rfl (fun ls hl => ?_)
  refine lv_aload_n S.1 S.2.1 dL_law_673 rfl (lv_at hl 4 rfl) ?_
  replace hB := lpM hB
  refine gCallV (ci := 11) S (hK.sub (tys' := [(cI, .int), (cJ, .long)]) [0, 1] rfl) wKSc hKS hA (kX11_replay wKSc eM) (cwL_132 S.2.2.2.2 (rm := rmX11_replay) rfl rfl ⟨(Nat.le_of_ble_eq_true rfl), (Nat.le_of_ble_eq_true rfl)⟩) hB 0 rfl rfl rfl hl.1 rfl (lv_room (Nat.le_of_ble_eq_true rfl)) dL_law_674 ⟨by omega, by omega⟩ (fun H locs hB => ?_)
  replace hB := lpM hB
  refine lv_istore (lv' := [(7, .int (bb)), (6, .int (rr)), (5, .int (i)), (4, .ref o2), (3, .ref o1), (2, .ref (am 0)), (1, .ref (ad 0)), (0, .ref b)]) S.1 S.2.1 dL_law_677 hl (by decide) rfl (fun ls hl => ?_)
  refine lv_aload_n S.1 S.2.1 dL_law_679 rfl (lv_at hl 5 rfl) ?_
  replace hB := lpM hB
  refine gCallV (ci := 11) S (hK.sub (tys' := [(cI, .int), (cJ, .long)]) [0, 1] rfl) wKSc hKS hA (kX11_thrown wKSc (show FX11_thrown σ1 = some (σ1.1 0, σ1) from rfl)) (cwL_92 S.2.2.2.2 (rm := rmX11_thrown) rfl rfl ⟨(Nat.le_of_ble_eq_true rfl), (Nat.le_of_ble_eq_true rfl)⟩) hB 0 rfl rfl rfl hl.1 rfl (lv_room (Nat.le_of_ble_eq_true rfl)) dL_law_680 ⟨by omega, by omega⟩ (fun H locs hB => ?_)
  replace hB := lpM hB
  refine lv_iload S.1 S.2.1 dL_law_683 (lv_at hl 1 rfl) ?_
  refine lv_icmp_eq (tgt := 690) S.1 S.2.1 dL_law_685 (by decide) (fun _ => ?_) (fun c9 => absurd eT c9)
  refine lv_iload S.1 S.2.1 dL_law_690 (lv_at hl 1 rfl) ?_
  refine lv_if_ne (tgt := 707) S.1 S.2.1 dL_law_692 (by decide) (fun c8 => ?_) (fun c8 => ?_)
  · refine lv_goto (tgt := 1505) S.1 S.2.1 dL_law_707 (by decide) ?_
    exact W.widen (k := cells + 57) (n := slots + 212) (by omega) (by omega) (kk _ _ _ _ _ _ _ hR hB (lv_sub hl [2, 3, 4, 5, 6, 7] rfl))
  · have c8 : rr = 0 := by first | exact c8 | exact Classical.not_not.mp c8
    refine lv_aload_n S.1 S.2.1 dL_law_695 rfl (lv_at hl 4 rfl) ?_
    refine lv_iconst (v := (0 : Int32)) S.1 S.2.1 dL_law_696 (by decide) ?_
    refine gLald S hK (lpO hB) 0 1 rfl rfl (by unfold vp_in; decide) dL_law_697 ?_
    refine lv_iload S.1 S.2.1 dL_law_698 (lv_at hl 0 rfl) ?_
    refine lv_i2l (v := (bb).toInt64) S.1 S.2.1 dL_law_700 rfl ?_
    refine W.lcmp S.1 S.2.1 dL_law_701 ?_
    refine lv_if_eq (tgt := 707) S.1 S.2.1 dL_law_702 (by decide) (fun _ => ?_) (fun c9 => absurd (lc_eq.mpr (by rw [eA c8]; exact upd0)) c9)
    refine lv_goto (tgt := 1505) S.1 S.2.1 dL_law_707 (by decide) ?_
    exact W.widen (k := cells + 57) (n := slots + 212) (by omega) (by omega) (kk _ _ _ _ _ _ _ hR hB (lv_sub hl [2, 3, 4, 5, 6, 7] rfl))
set_option maxRecDepth 100000 in
set_option maxHeartbeats 4000000 in
theorem lwC_11 {p : Program} {l : Launch} {e : Env} {s : State} {m : MethodId} {args : Array Value} {below : List Frame} {meth : Method} {c : Code} {H : Heap} {locs : List Loc} {cells slots : Nat} {Q : State → Prop} {ls : Array Slot} {D : va_G} {A : Nat → Prop} {k0 : Cond} {cI cJ cQ cD : ClassId} {ad am : Nat → Nat} {ra : Nat → Nat → Nat} {adK adV tK : Nat → Nat} {b L o1 o2 : Nat} {xs : Nat → Int32} {f : Nat → Int64} {g : Nat → UInt64} {σ : MS} {τ : CS} {i : Int32} {Rel : MS → CS → Prop} (HR : LawOK Rel) (hl9 : l.stackTraces = false) (S : CallFix p m c cL_law 9 s args (k0 :: wsL_law) RL) (hK : va_K D vwCl [(cI, .int), (cJ, .long), (cQ, .array .long), (cD, .double)] s) (hKS : wKS adK adV tK A s) (hA : ∀ q, s.heap.size ≤ q → A q) (hX : va_X b L xs s s.heap) (hbl : b < s.heap.size) (hbA : ¬ A b) (hi : ∀ k : Int32, 0 ≤ k → k ≤ 5 → vp_in (i + k) L) (hc : cells + 57 ≤ room_1.cells) (hs : slots + 212 ≤ room_1.slots) (hR : Rel σ τ) (hB : gB D vwCl A s.heap (CW cI cJ cQ ad ra τ) (MW cI cJ am σ ++ [(o1, .inl (cJ, 1, .inr (.inl f))), (o2, .inl (cD, 1, .inr (.inr (.inr (.inl g)))))]) H locs) (hl : lv_has ls 9 [(5, .int i), (4, .ref o2), (3, .ref o1), (2, .ref (am 0)), (1, .ref (ad 0)), (0, .ref b)])
    (kk : ∀ (σ : MS) (τ : CS) (f : Nat → Int64) (g : Nat → UInt64) (H : Heap) (locs : List Loc) (ls : Array Slot), Rel σ τ → gB D vwCl A s.heap (CW cI cJ cQ ad ra τ) (MW cI cJ am σ ++ [(o1, .inl (cJ, 1, .inr (.inl f))), (o2, .inl (cD, 1, .inr (.inr (.inr (.inl g)))))]) H locs → lv_has ls 9 [(5, .int i), (4, .ref o2), (3, .ref o1), (2, .ref (am 0)), (1, .ref (ad 0)), (0, .ref b)] → W p l e room_1 s m args below meth c H locs (cells + 57) (slots + 212) Q (F0 m 1505 ls [])) : W p l e room_1 s m args below meth c H locs cells slots Q (F0 m 710 ls []) := by
  refine lv_aload_n S.1 S.2.1 dL_law_710 rfl (lv_at hl 4 rfl) ?_
  refine lv_aload_n S.1 S.2.1 dL_law_711 rfl (lv_at hl 5 rfl) ?_
  refine lv_iload S.1 S.2.1 dL_law_712 (lv_at hl 0 rfl) ?_
  refine lv_iconst (v := (1 : Int32)) S.1 S.2.1 dL_law_714 (by decide) ?_
  refine lv_iadd S.1 S.2.1 dL_law_715 ?_
  refine va_sld S.1 S.2.1 hX hbl hbA hB.2.2 (hi (1 : Int32) (by decide) (by decide)) dL_law_716 ?_
  refine lv_aload_n S.1 S.2.1 dL_law_717 rfl (lv_at hl 2 rfl) ?_
  obtain ⟨o, τ1, rr, bb, σ1, eC, eK, eM, eT, eA, hR⟩ := HR.2.2.2.2.2.2.2.2.2.2.2.1 σ τ hR (xs (i + (1 : Int32)).toNatClampNeg)
  replace hB := lpA hB
  refine gCallSW S (hK.sub (tys' := [(cI, .int), (cJ, .long), (cQ, .array .long)]) [0, 1, 2] rfl) wKSc hKS hA (kL_time hl9 eC eK) (vx_cwSW 3 S.2.2.2.2 (gWSW wm_L_133 wst_L_time wn_L wy_L_time) rfl rfl rfl (by decide +kernel) ⟨(Nat.le_of_ble_eq_true rfl), (Nat.le_of_ble_eq_true rfl)⟩) hB rfl hl.1 rfl (lv_room (Nat.le_of_ble_eq_true rfl)) dL_law_718 ⟨by omega, by omega⟩ (fun H locs hB => ?_)
  replace hB := lpA2 hB
  refine lv_istore (lv' := [(6, .int (rr)), (5, .int (i)), (4, .ref o2), (3, .ref o1), (2, .ref (am 0)), (1, .ref (ad 0)), (0, .ref b)]) S.1 S.2.1 dL_law_721 hl (by decide) rfl (fun ls hl => ?_)
  refine lv_aload_n S.1 S.2.1 dL_law_723 rfl (lv_at hl 4 rfl) ?_
  refine lv_aload_n S.1 S.2.1 dL_law_724 rfl (lv_at hl 6 rfl) ?_
  refine lv_iload S.1 S.2.1 dL_law_725 (lv_at hl 1 rfl) ?_
  refine lv_iconst (v := (1 : Int32)) S.1 S.2.1 dL_law_727 (by decide) ?_
  refine lv_iadd S.1 S.2.1 dL_law_728 ?_
  refine va_sld S.1 S.2.1 hX hbl hbA hB.2.2 (hi (1 : Int32) (by decide) (by decide)) dL_law_729 ?_
  replace hB := lpM hB
  refine gCallV (ci := 11) S (hK.sub (tys' := [(cI, .int), (cJ, .long)]) [0, 1] rfl) wKSc hKS hA (kX11_time wKSc eM) (cwL_135 S.2.2.2.2 (rm := rmX11_time) rfl rfl ⟨(Nat.le_of_ble_eq_true rfl), (Nat.le_of_ble_eq_true rfl)⟩) hB 0 rfl rfl rfl hl.1 rfl (lv_room (Nat.le_of_ble_eq_true rfl)) dL_law_730 ⟨by omega, by omega⟩ (fun H locs hB => ?_)
  replace hB := lpM hB
  refine lv_istore (lv' := [(7, .int (bb)), (6, .int (rr)), (5, .int (i)), (4, .ref o2), (3, .ref o1), (2, .ref (am 0)), (1, .ref (ad 0)), (0, .ref b)]) S.1 S.2.1 dL_law_733 hl (by decide) rfl (fun ls hl => ?_)
  refine lv_aload_n S.1 S.2.1 dL_law_735 rfl (lv_at hl 5 rfl) ?_
  replace hB := lpM hB
  refine gCallV (ci := 11) S (hK.sub (tys' := [(cI, .int), (cJ, .long)]) [0, 1] rfl) wKSc hKS hA (kX11_thrown wKSc (show FX11_thrown σ1 = some (σ1.1 0, σ1) from rfl)) (cwL_92 S.2.2.2.2 (rm := rmX11_thrown) rfl rfl ⟨(Nat.le_of_ble_eq_true rfl), (Nat.le_of_ble_eq_true rfl)⟩) hB 0 rfl rfl rfl hl.1 rfl (lv_room (Nat.le_of_ble_eq_true rfl)) dL_law_736 ⟨by omega, by omega⟩ (fun H locs hB => ?_)
  replace hB := lpM hB
  refine lv_iload S.1 S.2.1 dL_law_739 (lv_at hl 1 rfl) ?_
  refine lv_icmp_eq (tgt := 746) S.1 S.2.1 dL_law_741 (by decide) (fun _ => ?_) (fun c9 => absurd eT c9)
  refine lv_iload S.1 S.2.1 dL_law_746 (lv_at hl 1 rfl) ?_
  refine lv_if_ne (tgt := 763) S.1 S.2.1 dL_law_748 (by decide) (fun c8 => ?_) (fun c8 => ?_)
  · refine lv_goto (tgt := 1505) S.1 S.2.1 dL_law_763 (by decide) ?_
    exact W.widen (k := cells + 57) (n := slots + 212) (by omega) (by omega) (kk _ _ _ _ _ _ _ hR hB (lv_sub hl [2, 3, 4, 5, 6, 7] rfl))
  · have c8 : rr = 0 := by first | exact c8 | exact Classical.not_not.mp c8
    refine lv_aload_n S.1 S.2.1 dL_law_751 rfl (lv_at hl 4 rfl) ?_
    refine lv_iconst (v := (0 : Int32)) S.1 S.2.1 dL_law_752 (by decide) ?_
    refine gLald S hK (lpO hB) 0 1 rfl rfl (by unfold vp_in; decide) dL_law_753 ?_
    refine lv_iload S.1 S.2.1 dL_law_754 (lv_at hl 0 rfl) ?_
    refine lv_i2l (v := (bb).toInt64) S.1 S.2.1 dL_law_756 rfl ?_
    refine W.lcmp S.1 S.2.1 dL_law_757 ?_
    refine lv_if_eq (tgt := 763) S.1 S.2.1 dL_law_758 (by decide) (fun _ => ?_) (fun c9 => absurd (lc_eq.mpr (by rw [eA c8]; exact upd0)) c9)
    refine lv_goto (tgt := 1505) S.1 S.2.1 dL_law_763 (by decide) ?_
    exact W.widen (k := cells + 57) (n := slots + 212) (by omega) (by omega) (kk _ _ _ _ _ _ _ hR hB (lv_sub hl [2, 3, 4, 5, 6, 7] rfl))
set_option maxRecDepth 100000 in
set_option maxHeartbeats 4000000 in
theorem lwC_12 {p : Program} {l : Launch} {e : Env} {s : State} {m : MethodId} {args : Array Value} {below : List Frame} {meth : Method} {c : Code} {H : Heap} {locs : List Loc} {cells slots : Nat} {Q : State → Prop} {ls : Array Slot} {D : va_G} {A : Nat → Prop} {k0 : Cond} {cI cJ cQ cD : ClassId} {ad am : Nat → Nat} {ra : Nat → Nat → Nat} {adK adV tK : Nat → Nat} {b L o1 o2 : Nat} {xs : Nat → Int32} {f : Nat → Int64} {g : Nat → UInt64} {σ : MS} {τ : CS} {i : Int32} {Rel : MS → CS → Prop} (HR : LawOK Rel) (hl9 : l.stackTraces = false) (S : CallFix p m c cL_law 9 s args (k0 :: wsL_law) RL) (hK : va_K D vwCl [(cI, .int), (cJ, .long), (cQ, .array .long), (cD, .double)] s) (hKS : wKS adK adV tK A s) (hA : ∀ q, s.heap.size ≤ q → A q) (hX : va_X b L xs s s.heap) (hbl : b < s.heap.size) (hbA : ¬ A b) (hi : ∀ k : Int32, 0 ≤ k → k ≤ 5 → vp_in (i + k) L) (hc : cells + 57 ≤ room_1.cells) (hs : slots + 212 ≤ room_1.slots) (hR : Rel σ τ) (hB : gB D vwCl A s.heap (CW cI cJ cQ ad ra τ) (MW cI cJ am σ ++ [(o1, .inl (cJ, 1, .inr (.inl f))), (o2, .inl (cD, 1, .inr (.inr (.inr (.inl g)))))]) H locs) (hl : lv_has ls 9 [(5, .int i), (4, .ref o2), (3, .ref o1), (2, .ref (am 0)), (1, .ref (ad 0)), (0, .ref b)])
    (kk : ∀ (σ : MS) (τ : CS) (f : Nat → Int64) (g : Nat → UInt64) (H : Heap) (locs : List Loc) (ls : Array Slot), Rel σ τ → gB D vwCl A s.heap (CW cI cJ cQ ad ra τ) (MW cI cJ am σ ++ [(o1, .inl (cJ, 1, .inr (.inl f))), (o2, .inl (cD, 1, .inr (.inr (.inr (.inl g)))))]) H locs → lv_has ls 9 [(5, .int i), (4, .ref o2), (3, .ref o1), (2, .ref (am 0)), (1, .ref (ad 0)), (0, .ref b)] → W p l e room_1 s m args below meth c H locs (cells + 57) (slots + 212) Q (F0 m 1505 ls [])) : W p l e room_1 s m args below meth c H locs cells slots Q (F0 m 766 ls []) := by
  refine lv_aload_n S.1 S.2.1 dL_law_766 rfl (lv_at hl 4 rfl) ?_
  refine lv_aload_n S.1 S.2.1 dL_law_767 rfl (lv_at hl 5 rfl) ?_
  refine lv_iload S.1 S.2.1 dL_law_768 (lv_at hl 0 rfl) ?_
  refine lv_iconst (v := (1 : Int32)) S.1 S.2.1 dL_law_770 (by decide) ?_
  refine lv_iadd S.1 S.2.1 dL_law_771 ?_
  refine va_sld S.1 S.2.1 hX hbl hbA hB.2.2 (hi (1 : Int32) (by decide) (by decide)) dL_law_772 ?_
  refine lv_aload_n S.1 S.2.1 dL_law_773 rfl (lv_at hl 5 rfl) ?_
  refine lv_iload S.1 S.2.1 dL_law_774 (lv_at hl 0 rfl) ?_
  refine lv_iconst (v := (2 : Int32)) S.1 S.2.1 dL_law_776 (by decide) ?_
  refine lv_iadd S.1 S.2.1 dL_law_777 ?_
  refine va_sld S.1 S.2.1 hX hbl hbA hB.2.2 (hi (2 : Int32) (by decide) (by decide)) dL_law_778 ?_
  refine lv_aload_n S.1 S.2.1 dL_law_779 rfl (lv_at hl 2 rfl) ?_
  obtain ⟨o, τ1, rr, bb, σ1, eC, eK, eM, eT, eA, hR⟩ := HR.2.2.2.2.2.2.2.2.2.2.2.2.1 σ τ hR (xs (i + (1 : Int32)).toNatClampNeg) (xs (i + (2 : Int32)).toNatClampNeg)
  replace hB := lpA hB
  refine gCallSW S (hK.sub (tys' := [(cI, .int), (cJ, .long), (cQ, .array .long)]) [0, 1, 2] rfl) wKSc hKS hA (kL_signal hl9 eC eK) (vx_cwSW 4 S.2.2.2.2 (gWSW wm_L_136 wst_L_signal wn_L wy_L_signal) rfl rfl rfl (by decide +kernel) ⟨(Nat.le_of_ble_eq_true rfl), (Nat.le_of_ble_eq_true rfl)⟩) hB rfl hl.1 rfl (lv_room (Nat.le_of_ble_eq_true rfl)) dL_law_780 ⟨by omega, by omega⟩ (fun H locs hB => ?_)
  replace hB := lpA2 hB
  refine lv_istore (lv' := [(6, .int (rr)), (5, .int (i)), (4, .ref o2), (3, .ref o1), (2, .ref (am 0)), (1, .ref (ad 0)), (0, .ref b)]) S.1 S.2.1 dL_law_783 hl (by decide) rfl (fun ls hl => ?_)
  refine lv_aload_n S.1 S.2.1 dL_law_785 rfl (lv_at hl 4 rfl) ?_
  refine lv_aload_n S.1 S.2.1 dL_law_786 rfl (lv_at hl 6 rfl) ?_
  refine lv_iload S.1 S.2.1 dL_law_787 (lv_at hl 1 rfl) ?_
  refine lv_iconst (v := (1 : Int32)) S.1 S.2.1 dL_law_789 (by decide) ?_
  refine lv_iadd S.1 S.2.1 dL_law_790 ?_
  refine va_sld S.1 S.2.1 hX hbl hbA hB.2.2 (hi (1 : Int32) (by decide) (by decide)) dL_law_791 ?_
  refine lv_aload_n S.1 S.2.1 dL_law_792 rfl (lv_at hl 6 rfl) ?_
  refine lv_iload S.1 S.2.1 dL_law_793 (lv_at hl 1 rfl) ?_
  refine lv_iconst (v := (2 : Int32)) S.1 S.2.1 dL_law_795 (by decide) ?_
  refine lv_iadd S.1 S.2.1 dL_law_796 ?_
  refine va_sld S.1 S.2.1 hX hbl hbA hB.2.2 (hi (2 : Int32) (by decide) (by decide)) dL_law_797 ?_
  replace hB := lpM hB
  refine gCallV (ci := 11) S (hK.sub (tys' := [(cI, .int), (cJ, .long)]) [0, 1] rfl) wKSc hKS hA (kX11_signal wKSc eM) (cwL_139 S.2.2.2.2 (rm := rmX11_signal) rfl rfl ⟨(Nat.le_of_ble_eq_true rfl), (Nat.le_of_ble_eq_true rfl)⟩) hB 0 rfl rfl rfl hl.1 rfl (lv_room (Nat.le_of_ble_eq_true rfl)) dL_law_798 ⟨by omega, by omega⟩ (fun H locs hB => ?_)
  replace hB := lpM hB
  refine lv_lstore (lv' := [(7, .long (bb)), (6, .int (rr)), (5, .int (i)), (4, .ref o2), (3, .ref o1), (2, .ref (am 0)), (1, .ref (ad 0)), (0, .ref b)]) S.1 S.2.1 dL_law_801 hl (by decide) rfl (fun ls hl => ?_)
  refine lv_aload_n S.1 S.2.1 dL_law_803 rfl (lv_at hl 5 rfl) ?_
  replace hB := lpM hB
  refine gCallV (ci := 11) S (hK.sub (tys' := [(cI, .int), (cJ, .long)]) [0, 1] rfl) wKSc hKS hA (kX11_thrown wKSc (show FX11_thrown σ1 = some (σ1.1 0, σ1) from rfl)) (cwL_92 S.2.2.2.2 (rm := rmX11_thrown) rfl rfl ⟨(Nat.le_of_ble_eq_true rfl), (Nat.le_of_ble_eq_true rfl)⟩) hB 0 rfl rfl rfl hl.1 rfl (lv_room (Nat.le_of_ble_eq_true rfl)) dL_law_804 ⟨by omega, by omega⟩ (fun H locs hB => ?_)
  replace hB := lpM hB
  refine lv_iload S.1 S.2.1 dL_law_807 (lv_at hl 1 rfl) ?_
  refine lv_icmp_eq (tgt := 814) S.1 S.2.1 dL_law_809 (by decide) (fun _ => ?_) (fun c9 => absurd eT c9)
  refine lv_iload S.1 S.2.1 dL_law_814 (lv_at hl 1 rfl) ?_
  refine lv_if_ne (tgt := 830) S.1 S.2.1 dL_law_816 (by decide) (fun c8 => ?_) (fun c8 => ?_)
  · refine lv_goto (tgt := 1505) S.1 S.2.1 dL_law_830 (by decide) ?_
    exact W.widen (k := cells + 57) (n := slots + 212) (by omega) (by omega) (kk _ _ _ _ _ _ _ hR hB (lv_sub hl [2, 3, 4, 5, 6, 7] rfl))
  · have c8 : rr = 0 := by first | exact c8 | exact Classical.not_not.mp c8
    refine lv_aload_n S.1 S.2.1 dL_law_819 rfl (lv_at hl 4 rfl) ?_
    refine lv_iconst (v := (0 : Int32)) S.1 S.2.1 dL_law_820 (by decide) ?_
    refine gLald S hK (lpO hB) 0 1 rfl rfl (by unfold vp_in; decide) dL_law_821 ?_
    refine lv_lload S.1 S.2.1 dL_law_822 (lv_at hl 0 rfl) ?_
    refine W.lcmp S.1 S.2.1 dL_law_824 ?_
    refine lv_if_eq (tgt := 830) S.1 S.2.1 dL_law_825 (by decide) (fun _ => ?_) (fun c9 => absurd (lc_eq.mpr (by rw [eA c8]; exact upd0)) c9)
    refine lv_goto (tgt := 1505) S.1 S.2.1 dL_law_830 (by decide) ?_
    exact W.widen (k := cells + 57) (n := slots + 212) (by omega) (by omega) (kk _ _ _ _ _ _ _ hR hB (lv_sub hl [2, 3, 4, 5, 6, 7] rfl))
set_option maxRecDepth 100000 in
set_option maxHeartbeats 4000000 in
theorem lwC_13 {p : Program} {l : Launch} {e : Env} {s : State} {m : MethodId} {args : Array Value} {below : List Frame} {meth : Method} {c : Code} {H : Heap} {locs : List Loc} {cells slots : Nat} {Q : State → Prop} {ls : Array Slot} {D : va_G} {A : Nat → Prop} {k0 : Cond} {cI cJ cQ cD : ClassId} {ad am : Nat → Nat} {ra : Nat → Nat → Nat} {adK adV tK : Nat → Nat} {b L o1 o2 : Nat} {xs : Nat → Int32} {f : Nat → Int64} {g : Nat → UInt64} {σ : MS} {τ : CS} {i : Int32} {Rel : MS → CS → Prop} (HR : LawOK Rel) (hl9 : l.stackTraces = false) (S : CallFix p m c cL_law 9 s args (k0 :: wsL_law) RL) (hK : va_K D vwCl [(cI, .int), (cJ, .long), (cQ, .array .long), (cD, .double)] s) (hKS : wKS adK adV tK A s) (hA : ∀ q, s.heap.size ≤ q → A q) (hX : va_X b L xs s s.heap) (hbl : b < s.heap.size) (hbA : ¬ A b) (hi : ∀ k : Int32, 0 ≤ k → k ≤ 5 → vp_in (i + k) L) (hc : cells + 57 ≤ room_1.cells) (hs : slots + 212 ≤ room_1.slots) (hR : Rel σ τ) (hB : gB D vwCl A s.heap (CW cI cJ cQ ad ra τ) (MW cI cJ am σ ++ [(o1, .inl (cJ, 1, .inr (.inl f))), (o2, .inl (cD, 1, .inr (.inr (.inr (.inl g)))))]) H locs) (hl : lv_has ls 9 [(5, .int i), (4, .ref o2), (3, .ref o1), (2, .ref (am 0)), (1, .ref (ad 0)), (0, .ref b)])
    (kk : ∀ (σ : MS) (τ : CS) (f : Nat → Int64) (g : Nat → UInt64) (H : Heap) (locs : List Loc) (ls : Array Slot), Rel σ τ → gB D vwCl A s.heap (CW cI cJ cQ ad ra τ) (MW cI cJ am σ ++ [(o1, .inl (cJ, 1, .inr (.inl f))), (o2, .inl (cD, 1, .inr (.inr (.inr (.inl g)))))]) H locs → lv_has ls 9 [(5, .int i), (4, .ref o2), (3, .ref o1), (2, .ref (am 0)), (1, .ref (ad 0)), (0, .ref b)] → W p l e room_1 s m args below meth c H locs (cells + 57) (slots + 212) Q (F0 m 1505 ls [])) : W p l e room_1 s m args below meth c H locs cells slots Q (F0 m 833 ls []) := by
  refine lv_aload_n S.1 S.2.1 dL_law_833 rfl (lv_at hl 4 rfl) ?_
  refine lv_aload_n S.1 S.2.1 dL_law_834 rfl (lv_at hl 5 rfl) ?_
  refine lv_iload S.1 S.2.1 dL_law_835 (lv_at hl 0 rfl) ?_
  refine lv_iconst (v := (1 : Int32)) S.1 S.2.1 dL_law_837 (by decide) ?_
  refine lv_iadd S.1 S.2.1 dL_law_838 ?_
  refine va_sld S.1 S.2.1 hX hbl hbA hB.2.2 (hi (1 : Int32) (by decide) (by decide)) dL_law_839 ?_
  refine lv_aload_n S.1 S.2.1 dL_law_840 rfl (lv_at hl 5 rfl) ?_
  refine lv_iload S.1 S.2.1 dL_law_841 (lv_at hl 0 rfl) ?_
  refine lv_iconst (v := (2 : Int32)) S.1 S.2.1 dL_law_843 (by decide) ?_
  refine lv_iadd S.1 S.2.1 dL_law_844 ?_
  refine va_sld S.1 S.2.1 hX hbl hbA hB.2.2 (hi (2 : Int32) (by decide) (by decide)) dL_law_845 ?_
  refine lv_aload_n S.1 S.2.1 dL_law_846 rfl (lv_at hl 2 rfl) ?_
  obtain ⟨o, τ1, rr, bb, σ1, eC, eK, eM, eT, eA, hR⟩ := HR.2.2.2.2.2.2.2.2.2.2.2.2.2.1 σ τ hR (xs (i + (1 : Int32)).toNatClampNeg) (xs (i + (2 : Int32)).toNatClampNeg)
  replace hB := lpA hB
  refine gCallSW S (hK.sub (tys' := [(cI, .int), (cJ, .long), (cQ, .array .long)]) [0, 1, 2] rfl) wKSc hKS hA (kL_value hl9 eC eK) (vx_cwSW 4 S.2.2.2.2 (gWSW wm_L_140 wst_L_value wn_L wy_L_value) rfl rfl rfl (by decide +kernel) ⟨(Nat.le_of_ble_eq_true rfl), (Nat.le_of_ble_eq_true rfl)⟩) hB rfl hl.1 rfl (lv_room (Nat.le_of_ble_eq_true rfl)) dL_law_847 ⟨by omega, by omega⟩ (fun H locs hB => ?_)
  replace hB := lpA2 hB
  refine lv_istore (lv' := [(6, .int (rr)), (5, .int (i)), (4, .ref o2), (3, .ref o1), (2, .ref (am 0)), (1, .ref (ad 0)), (0, .ref b)]) S.1 S.2.1 dL_law_850 hl (by decide) rfl (fun ls hl => ?_)
  refine lv_aload_n S.1 S.2.1 dL_law_852 rfl (lv_at hl 4 rfl) ?_
  refine lv_aload_n S.1 S.2.1 dL_law_853 rfl (lv_at hl 6 rfl) ?_
  refine lv_iload S.1 S.2.1 dL_law_854 (lv_at hl 1 rfl) ?_
  refine lv_iconst (v := (1 : Int32)) S.1 S.2.1 dL_law_856 (by decide) ?_
  refine lv_iadd S.1 S.2.1 dL_law_857 ?_
  refine va_sld S.1 S.2.1 hX hbl hbA hB.2.2 (hi (1 : Int32) (by decide) (by decide)) dL_law_858 ?_
  refine lv_aload_n S.1 S.2.1 dL_law_859 rfl (lv_at hl 6 rfl) ?_
  refine lv_iload S.1 S.2.1 dL_law_860 (lv_at hl 1 rfl) ?_
  refine lv_iconst (v := (2 : Int32)) S.1 S.2.1 dL_law_862 (by decide) ?_
  refine lv_iadd S.1 S.2.1 dL_law_863 ?_
  refine va_sld S.1 S.2.1 hX hbl hbA hB.2.2 (hi (2 : Int32) (by decide) (by decide)) dL_law_864 ?_
  replace hB := lpM hB
  refine gCallV (ci := 11) S (hK.sub (tys' := [(cI, .int), (cJ, .long)]) [0, 1] rfl) wKSc hKS hA (kX11_value wKSc eM) (cwL_142 S.2.2.2.2 (rm := rmX11_value) rfl rfl ⟨(Nat.le_of_ble_eq_true rfl), (Nat.le_of_ble_eq_true rfl)⟩) hB 0 rfl rfl rfl hl.1 rfl (lv_room (Nat.le_of_ble_eq_true rfl)) dL_law_865 ⟨by omega, by omega⟩ (fun H locs hB => ?_)
  replace hB := lpM hB
  refine lv_lstore (lv' := [(7, .long (bb)), (6, .int (rr)), (5, .int (i)), (4, .ref o2), (3, .ref o1), (2, .ref (am 0)), (1, .ref (ad 0)), (0, .ref b)]) S.1 S.2.1 dL_law_868 hl (by decide) rfl (fun ls hl => ?_)
  refine lv_aload_n S.1 S.2.1 dL_law_870 rfl (lv_at hl 5 rfl) ?_
  replace hB := lpM hB
  refine gCallV (ci := 11) S (hK.sub (tys' := [(cI, .int), (cJ, .long)]) [0, 1] rfl) wKSc hKS hA (kX11_thrown wKSc (show FX11_thrown σ1 = some (σ1.1 0, σ1) from rfl)) (cwL_92 S.2.2.2.2 (rm := rmX11_thrown) rfl rfl ⟨(Nat.le_of_ble_eq_true rfl), (Nat.le_of_ble_eq_true rfl)⟩) hB 0 rfl rfl rfl hl.1 rfl (lv_room (Nat.le_of_ble_eq_true rfl)) dL_law_871 ⟨by omega, by omega⟩ (fun H locs hB => ?_)
  replace hB := lpM hB
  refine lv_iload S.1 S.2.1 dL_law_874 (lv_at hl 1 rfl) ?_
  refine lv_icmp_eq (tgt := 881) S.1 S.2.1 dL_law_876 (by decide) (fun _ => ?_) (fun c9 => absurd eT c9)
  refine lv_iload S.1 S.2.1 dL_law_881 (lv_at hl 1 rfl) ?_
  refine lv_if_ne (tgt := 897) S.1 S.2.1 dL_law_883 (by decide) (fun c8 => ?_) (fun c8 => ?_)
  · refine lv_goto (tgt := 1505) S.1 S.2.1 dL_law_897 (by decide) ?_
    exact W.widen (k := cells + 57) (n := slots + 212) (by omega) (by omega) (kk _ _ _ _ _ _ _ hR hB (lv_sub hl [2, 3, 4, 5, 6, 7] rfl))
  · have c8 : rr = 0 := by first | exact c8 | exact Classical.not_not.mp c8
    refine lv_aload_n S.1 S.2.1 dL_law_886 rfl (lv_at hl 4 rfl) ?_
    refine lv_iconst (v := (0 : Int32)) S.1 S.2.1 dL_law_887 (by decide) ?_
    refine gLald S hK (lpO hB) 0 1 rfl rfl (by unfold vp_in; decide) dL_law_888 ?_
    refine lv_lload S.1 S.2.1 dL_law_889 (lv_at hl 0 rfl) ?_
    refine W.lcmp S.1 S.2.1 dL_law_891 ?_
    refine lv_if_eq (tgt := 897) S.1 S.2.1 dL_law_892 (by decide) (fun _ => ?_) (fun c9 => absurd (lc_eq.mpr (by rw [eA c8]; exact upd0)) c9)
    refine lv_goto (tgt := 1505) S.1 S.2.1 dL_law_897 (by decide) ?_
    exact W.widen (k := cells + 57) (n := slots + 212) (by omega) (by omega) (kk _ _ _ _ _ _ _ hR hB (lv_sub hl [2, 3, 4, 5, 6, 7] rfl))
set_option maxRecDepth 100000 in
set_option maxHeartbeats 4000000 in
theorem lwC_14 {p : Program} {l : Launch} {e : Env} {s : State} {m : MethodId} {args : Array Value} {below : List Frame} {meth : Method} {c : Code} {H : Heap} {locs : List Loc} {cells slots : Nat} {Q : State → Prop} {ls : Array Slot} {D : va_G} {A : Nat → Prop} {k0 : Cond} {cI cJ cQ cD : ClassId} {ad am : Nat → Nat} {ra : Nat → Nat → Nat} {adK adV tK : Nat → Nat} {b L o1 o2 : Nat} {xs : Nat → Int32} {f : Nat → Int64} {g : Nat → UInt64} {σ : MS} {τ : CS} {i : Int32} {Rel : MS → CS → Prop} (HR : LawOK Rel) (hl9 : l.stackTraces = false) (S : CallFix p m c cL_law 9 s args (k0 :: wsL_law) RL) (hK : va_K D vwCl [(cI, .int), (cJ, .long), (cQ, .array .long), (cD, .double)] s) (hKS : wKS adK adV tK A s) (hA : ∀ q, s.heap.size ≤ q → A q) (hX : va_X b L xs s s.heap) (hbl : b < s.heap.size) (hbA : ¬ A b) (hi : ∀ k : Int32, 0 ≤ k → k ≤ 5 → vp_in (i + k) L) (hc : cells + 57 ≤ room_1.cells) (hs : slots + 212 ≤ room_1.slots) (hR : Rel σ τ) (hB : gB D vwCl A s.heap (CW cI cJ cQ ad ra τ) (MW cI cJ am σ ++ [(o1, .inl (cJ, 1, .inr (.inl f))), (o2, .inl (cD, 1, .inr (.inr (.inr (.inl g)))))]) H locs) (hl : lv_has ls 9 [(5, .int i), (4, .ref o2), (3, .ref o1), (2, .ref (am 0)), (1, .ref (ad 0)), (0, .ref b)])
    (kk : ∀ (σ : MS) (τ : CS) (f : Nat → Int64) (g : Nat → UInt64) (H : Heap) (locs : List Loc) (ls : Array Slot), Rel σ τ → gB D vwCl A s.heap (CW cI cJ cQ ad ra τ) (MW cI cJ am σ ++ [(o1, .inl (cJ, 1, .inr (.inl f))), (o2, .inl (cD, 1, .inr (.inr (.inr (.inl g)))))]) H locs → lv_has ls 9 [(5, .int i), (4, .ref o2), (3, .ref o1), (2, .ref (am 0)), (1, .ref (ad 0)), (0, .ref b)] → W p l e room_1 s m args below meth c H locs (cells + 57) (slots + 212) Q (F0 m 1505 ls [])) : W p l e room_1 s m args below meth c H locs cells slots Q (F0 m 900 ls []) := by
  refine lv_aload_n S.1 S.2.1 dL_law_900 rfl (lv_at hl 4 rfl) ?_
  refine lv_aload_n S.1 S.2.1 dL_law_901 rfl (lv_at hl 5 rfl) ?_
  refine lv_iload S.1 S.2.1 dL_law_902 (lv_at hl 0 rfl) ?_
  refine lv_iconst (v := (1 : Int32)) S.1 S.2.1 dL_law_904 (by decide) ?_
  refine lv_iadd S.1 S.2.1 dL_law_905 ?_
  refine va_sld S.1 S.2.1 hX hbl hbA hB.2.2 (hi (1 : Int32) (by decide) (by decide)) dL_law_906 ?_
  refine lv_aload_n S.1 S.2.1 dL_law_907 rfl (lv_at hl 5 rfl) ?_
  refine lv_iload S.1 S.2.1 dL_law_908 (lv_at hl 0 rfl) ?_
  refine lv_iconst (v := (2 : Int32)) S.1 S.2.1 dL_law_910 (by decide) ?_
  refine lv_iadd S.1 S.2.1 dL_law_911 ?_
  refine va_sld S.1 S.2.1 hX hbl hbA hB.2.2 (hi (2 : Int32) (by decide) (by decide)) dL_law_912 ?_
  refine lv_aload_n S.1 S.2.1 dL_law_913 rfl (lv_at hl 2 rfl) ?_
  obtain ⟨o, τ1, rr, bb, σ1, eC, eK, eM, eT, eA, hR⟩ := HR.2.2.2.2.2.2.2.2.2.2.2.2.2.2.1 σ τ hR (xs (i + (1 : Int32)).toNatClampNeg) (xs (i + (2 : Int32)).toNatClampNeg)
  replace hB := lpA hB
  refine gCallSW S (hK.sub (tys' := [(cI, .int), (cJ, .long), (cQ, .array .long)]) [0, 1, 2] rfl) wKSc hKS hA (kL_let hl9 eC eK) (vx_cwSW 4 S.2.2.2.2 (gWSW wm_L_143 wst_L_let wn_L wy_L_let) rfl rfl rfl (by decide +kernel) ⟨(Nat.le_of_ble_eq_true rfl), (Nat.le_of_ble_eq_true rfl)⟩) hB rfl hl.1 rfl (lv_room (Nat.le_of_ble_eq_true rfl)) dL_law_914 ⟨by omega, by omega⟩ (fun H locs hB => ?_)
  replace hB := lpA2 hB
  refine lv_istore (lv' := [(6, .int (rr)), (5, .int (i)), (4, .ref o2), (3, .ref o1), (2, .ref (am 0)), (1, .ref (ad 0)), (0, .ref b)]) S.1 S.2.1 dL_law_917 hl (by decide) rfl (fun ls hl => ?_)
  refine lv_aload_n S.1 S.2.1 dL_law_919 rfl (lv_at hl 4 rfl) ?_
  refine lv_aload_n S.1 S.2.1 dL_law_920 rfl (lv_at hl 6 rfl) ?_
  refine lv_iload S.1 S.2.1 dL_law_921 (lv_at hl 1 rfl) ?_
  refine lv_iconst (v := (1 : Int32)) S.1 S.2.1 dL_law_923 (by decide) ?_
  refine lv_iadd S.1 S.2.1 dL_law_924 ?_
  refine va_sld S.1 S.2.1 hX hbl hbA hB.2.2 (hi (1 : Int32) (by decide) (by decide)) dL_law_925 ?_
  refine lv_aload_n S.1 S.2.1 dL_law_926 rfl (lv_at hl 6 rfl) ?_
  refine lv_iload S.1 S.2.1 dL_law_927 (lv_at hl 1 rfl) ?_
  refine lv_iconst (v := (2 : Int32)) S.1 S.2.1 dL_law_929 (by decide) ?_
  refine lv_iadd S.1 S.2.1 dL_law_930 ?_
  refine va_sld S.1 S.2.1 hX hbl hbA hB.2.2 (hi (2 : Int32) (by decide) (by decide)) dL_law_931 ?_
  replace hB := lpM hB
  refine gCallV (ci := 11) S (hK.sub (tys' := [(cI, .int), (cJ, .long)]) [0, 1] rfl) wKSc hKS hA (kX11_let wKSc eM) (cwL_145 S.2.2.2.2 (rm := rmX11_let) rfl rfl ⟨(Nat.le_of_ble_eq_true rfl), (Nat.le_of_ble_eq_true rfl)⟩) hB 0 rfl rfl rfl hl.1 rfl (lv_room (Nat.le_of_ble_eq_true rfl)) dL_law_932 ⟨by omega, by omega⟩ (fun H locs hB => ?_)
  replace hB := lpM hB
  refine lv_istore (lv' := [(7, .int (bb)), (6, .int (rr)), (5, .int (i)), (4, .ref o2), (3, .ref o1), (2, .ref (am 0)), (1, .ref (ad 0)), (0, .ref b)]) S.1 S.2.1 dL_law_935 hl (by decide) rfl (fun ls hl => ?_)
  refine lv_aload_n S.1 S.2.1 dL_law_937 rfl (lv_at hl 5 rfl) ?_
  replace hB := lpM hB
  refine gCallV (ci := 11) S (hK.sub (tys' := [(cI, .int), (cJ, .long)]) [0, 1] rfl) wKSc hKS hA (kX11_thrown wKSc (show FX11_thrown σ1 = some (σ1.1 0, σ1) from rfl)) (cwL_92 S.2.2.2.2 (rm := rmX11_thrown) rfl rfl ⟨(Nat.le_of_ble_eq_true rfl), (Nat.le_of_ble_eq_true rfl)⟩) hB 0 rfl rfl rfl hl.1 rfl (lv_room (Nat.le_of_ble_eq_true rfl)) dL_law_938 ⟨by omega, by omega⟩ (fun H locs hB => ?_)
  replace hB := lpM hB
  refine lv_iload S.1 S.2.1 dL_law_941 (lv_at hl 1 rfl) ?_
  refine lv_icmp_eq (tgt := 948) S.1 S.2.1 dL_law_943 (by decide) (fun _ => ?_) (fun c9 => absurd eT c9)
  refine lv_iload S.1 S.2.1 dL_law_948 (lv_at hl 1 rfl) ?_
  refine lv_if_ne (tgt := 972) S.1 S.2.1 dL_law_950 (by decide) (fun c8 => ?_) (fun c8 => ?_)
  · refine lv_goto (tgt := 1505) S.1 S.2.1 dL_law_972 (by decide) ?_
    exact W.widen (k := cells + 57) (n := slots + 212) (by omega) (by omega) (kk _ _ _ _ _ _ _ hR hB (lv_sub hl [2, 3, 4, 5, 6, 7] rfl))
  · have c8 : rr = 0 := by first | exact c8 | exact Classical.not_not.mp c8
    refine lv_aload_n S.1 S.2.1 dL_law_953 rfl (lv_at hl 4 rfl) ?_
    refine lv_iconst (v := (0 : Int32)) S.1 S.2.1 dL_law_954 (by decide) ?_
    refine gLald S hK (lpO hB) 0 1 rfl rfl (by unfold vp_in; decide) dL_law_955 ?_
    refine lv_iload S.1 S.2.1 dL_law_956 (lv_at hl 0 rfl) ?_
    refine lv_if_eq (tgt := 965) S.1 S.2.1 dL_law_958 (by decide) (fun cb1 => ?_) (fun cb1 => ?_)
    · refine lv_lconst (v := 0) S.1 S.2.1 dL_law_965 (by decide) ?_
      refine W.lcmp S.1 S.2.1 dL_law_966 ?_
      refine lv_if_eq (tgt := 972) S.1 S.2.1 dL_law_967 (by decide) (fun _ => ?_) (fun c9 => absurd (lc_eq.mpr (by rw [eA c8]; show (if bb = 0 then (0 : Int64) else 1) = _; rw [if_pos cb1])) c9)
      refine lv_goto (tgt := 1505) S.1 S.2.1 dL_law_972 (by decide) ?_
      exact W.widen (k := cells + 57) (n := slots + 212) (by omega) (by omega) (kk _ _ _ _ _ _ _ hR hB (lv_sub hl [2, 3, 4, 5, 6, 7] rfl))
    · refine lv_lconst (v := 1) S.1 S.2.1 dL_law_961 (by decide) ?_
      refine lv_goto (tgt := 966) S.1 S.2.1 dL_law_962 (by decide) ?_
      refine W.lcmp S.1 S.2.1 dL_law_966 ?_
      refine lv_if_eq (tgt := 972) S.1 S.2.1 dL_law_967 (by decide) (fun _ => ?_) (fun c9 => absurd (lc_eq.mpr (by rw [eA c8]; show (if bb = 0 then (0 : Int64) else 1) = _; rw [if_neg cb1])) c9)
      refine lv_goto (tgt := 1505) S.1 S.2.1 dL_law_972 (by decide) ?_
      exact W.widen (k := cells + 57) (n := slots + 212) (by omega) (by omega) (kk _ _ _ _ _ _ _ hR hB (lv_sub hl [2, 3, 4, 5, 6, 7] rfl))
set_option maxRecDepth 100000 in
set_option maxHeartbeats 4000000 in
theorem lwC_15 {p : Program} {l : Launch} {e : Env} {s : State} {m : MethodId} {args : Array Value} {below : List Frame} {meth : Method} {c : Code} {H : Heap} {locs : List Loc} {cells slots : Nat} {Q : State → Prop} {ls : Array Slot} {D : va_G} {A : Nat → Prop} {k0 : Cond} {cI cJ cQ cD : ClassId} {ad am : Nat → Nat} {ra : Nat → Nat → Nat} {adK adV tK : Nat → Nat} {b L o1 o2 : Nat} {xs : Nat → Int32} {f : Nat → Int64} {g : Nat → UInt64} {σ : MS} {τ : CS} {i : Int32} {Rel : MS → CS → Prop} (HR : LawOK Rel) (hl9 : l.stackTraces = false) (S : CallFix p m c cL_law 9 s args (k0 :: wsL_law) RL) (hK : va_K D vwCl [(cI, .int), (cJ, .long), (cQ, .array .long), (cD, .double)] s) (hKS : wKS adK adV tK A s) (hA : ∀ q, s.heap.size ≤ q → A q) (hX : va_X b L xs s s.heap) (hbl : b < s.heap.size) (hbA : ¬ A b) (hi : ∀ k : Int32, 0 ≤ k → k ≤ 5 → vp_in (i + k) L) (hc : cells + 57 ≤ room_1.cells) (hs : slots + 212 ≤ room_1.slots) (hR : Rel σ τ) (hB : gB D vwCl A s.heap (CW cI cJ cQ ad ra τ) (MW cI cJ am σ ++ [(o1, .inl (cJ, 1, .inr (.inl f))), (o2, .inl (cD, 1, .inr (.inr (.inr (.inl g)))))]) H locs) (hl : lv_has ls 9 [(5, .int i), (4, .ref o2), (3, .ref o1), (2, .ref (am 0)), (1, .ref (ad 0)), (0, .ref b)])
    (kk : ∀ (σ : MS) (τ : CS) (f : Nat → Int64) (g : Nat → UInt64) (H : Heap) (locs : List Loc) (ls : Array Slot), Rel σ τ → gB D vwCl A s.heap (CW cI cJ cQ ad ra τ) (MW cI cJ am σ ++ [(o1, .inl (cJ, 1, .inr (.inl f))), (o2, .inl (cD, 1, .inr (.inr (.inr (.inl g)))))]) H locs → lv_has ls 9 [(5, .int i), (4, .ref o2), (3, .ref o1), (2, .ref (am 0)), (1, .ref (ad 0)), (0, .ref b)] → W p l e room_1 s m args below meth c H locs (cells + 57) (slots + 212) Q (F0 m 1505 ls [])) : W p l e room_1 s m args below meth c H locs cells slots Q (F0 m 975 ls []) := by
  refine lv_aload_n S.1 S.2.1 dL_law_975 rfl (lv_at hl 4 rfl) ?_
  refine lv_aload_n S.1 S.2.1 dL_law_976 rfl (lv_at hl 5 rfl) ?_
  refine lv_iload S.1 S.2.1 dL_law_977 (lv_at hl 0 rfl) ?_
  refine lv_iconst (v := (1 : Int32)) S.1 S.2.1 dL_law_979 (by decide) ?_
  refine lv_iadd S.1 S.2.1 dL_law_980 ?_
  refine va_sld S.1 S.2.1 hX hbl hbA hB.2.2 (hi (1 : Int32) (by decide) (by decide)) dL_law_981 ?_
  refine lv_aload_n S.1 S.2.1 dL_law_982 rfl (lv_at hl 5 rfl) ?_
  refine lv_iload S.1 S.2.1 dL_law_983 (lv_at hl 0 rfl) ?_
  refine lv_iconst (v := (2 : Int32)) S.1 S.2.1 dL_law_985 (by decide) ?_
  refine lv_iadd S.1 S.2.1 dL_law_986 ?_
  refine va_sld S.1 S.2.1 hX hbl hbA hB.2.2 (hi (2 : Int32) (by decide) (by decide)) dL_law_987 ?_
  refine lv_aload_n S.1 S.2.1 dL_law_988 rfl (lv_at hl 2 rfl) ?_
  obtain ⟨o, τ1, rr, bb, σ1, eC, eK, eM, eT, eA, hR⟩ := HR.2.2.2.2.2.2.2.2.2.2.2.2.2.2.2.1 σ τ hR (xs (i + (1 : Int32)).toNatClampNeg) (xs (i + (2 : Int32)).toNatClampNeg)
  replace hB := lpA hB
  refine gCallSW S (hK.sub (tys' := [(cI, .int), (cJ, .long), (cQ, .array .long)]) [0, 1, 2] rfl) wKSc hKS hA (kL_watch hl9 eC eK) (vx_cwSW 4 S.2.2.2.2 (gWSW wm_L_146 wst_L_watch wn_L wy_L_watch) rfl rfl rfl (by decide +kernel) ⟨(Nat.le_of_ble_eq_true rfl), (Nat.le_of_ble_eq_true rfl)⟩) hB rfl hl.1 rfl (lv_room (Nat.le_of_ble_eq_true rfl)) dL_law_989 ⟨by omega, by omega⟩ (fun H locs hB => ?_)
  replace hB := lpA2 hB
  refine lv_istore (lv' := [(6, .int (rr)), (5, .int (i)), (4, .ref o2), (3, .ref o1), (2, .ref (am 0)), (1, .ref (ad 0)), (0, .ref b)]) S.1 S.2.1 dL_law_992 hl (by decide) rfl (fun ls hl => ?_)
  refine lv_aload_n S.1 S.2.1 dL_law_994 rfl (lv_at hl 4 rfl) ?_
  refine lv_aload_n S.1 S.2.1 dL_law_995 rfl (lv_at hl 6 rfl) ?_
  refine lv_iload S.1 S.2.1 dL_law_996 (lv_at hl 1 rfl) ?_
  refine lv_iconst (v := (1 : Int32)) S.1 S.2.1 dL_law_998 (by decide) ?_
  refine lv_iadd S.1 S.2.1 dL_law_999 ?_
  refine va_sld S.1 S.2.1 hX hbl hbA hB.2.2 (hi (1 : Int32) (by decide) (by decide)) dL_law_1000 ?_
  refine lv_aload_n S.1 S.2.1 dL_law_1001 rfl (lv_at hl 6 rfl) ?_
  refine lv_iload S.1 S.2.1 dL_law_1002 (lv_at hl 1 rfl) ?_
  refine lv_iconst (v := (2 : Int32)) S.1 S.2.1 dL_law_1004 (by decide) ?_
  refine lv_iadd S.1 S.2.1 dL_law_1005 ?_
  refine va_sld S.1 S.2.1 hX hbl hbA hB.2.2 (hi (2 : Int32) (by decide) (by decide)) dL_law_1006 ?_
  replace hB := lpM hB
  refine gCallV (ci := 11) S (hK.sub (tys' := [(cI, .int), (cJ, .long)]) [0, 1] rfl) wKSc hKS hA (kX11_watch wKSc eM) (cwL_148 S.2.2.2.2 (rm := rmX11_watch) rfl rfl ⟨(Nat.le_of_ble_eq_true rfl), (Nat.le_of_ble_eq_true rfl)⟩) hB 0 rfl rfl rfl hl.1 rfl (lv_room (Nat.le_of_ble_eq_true rfl)) dL_law_1007 ⟨by omega, by omega⟩ (fun H locs hB => ?_)
  replace hB := lpM hB
  refine lv_istore (lv' := [(7, .int (bb)), (6, .int (rr)), (5, .int (i)), (4, .ref o2), (3, .ref o1), (2, .ref (am 0)), (1, .ref (ad 0)), (0, .ref b)]) S.1 S.2.1 dL_law_1010 hl (by decide) rfl (fun ls hl => ?_)
  refine lv_aload_n S.1 S.2.1 dL_law_1012 rfl (lv_at hl 5 rfl) ?_
  replace hB := lpM hB
  refine gCallV (ci := 11) S (hK.sub (tys' := [(cI, .int), (cJ, .long)]) [0, 1] rfl) wKSc hKS hA (kX11_thrown wKSc (show FX11_thrown σ1 = some (σ1.1 0, σ1) from rfl)) (cwL_92 S.2.2.2.2 (rm := rmX11_thrown) rfl rfl ⟨(Nat.le_of_ble_eq_true rfl), (Nat.le_of_ble_eq_true rfl)⟩) hB 0 rfl rfl rfl hl.1 rfl (lv_room (Nat.le_of_ble_eq_true rfl)) dL_law_1013 ⟨by omega, by omega⟩ (fun H locs hB => ?_)
  replace hB := lpM hB
  refine lv_iload S.1 S.2.1 dL_law_1016 (lv_at hl 1 rfl) ?_
  refine lv_icmp_eq (tgt := 1023) S.1 S.2.1 dL_law_1018 (by decide) (fun _ => ?_) (fun c9 => absurd eT c9)
  refine lv_iload S.1 S.2.1 dL_law_1023 (lv_at hl 1 rfl) ?_
  refine lv_if_ne (tgt := 1047) S.1 S.2.1 dL_law_1025 (by decide) (fun c8 => ?_) (fun c8 => ?_)
  · refine lv_goto (tgt := 1505) S.1 S.2.1 dL_law_1047 (by decide) ?_
    exact W.widen (k := cells + 57) (n := slots + 212) (by omega) (by omega) (kk _ _ _ _ _ _ _ hR hB (lv_sub hl [2, 3, 4, 5, 6, 7] rfl))
  · have c8 : rr = 0 := by first | exact c8 | exact Classical.not_not.mp c8
    refine lv_aload_n S.1 S.2.1 dL_law_1028 rfl (lv_at hl 4 rfl) ?_
    refine lv_iconst (v := (0 : Int32)) S.1 S.2.1 dL_law_1029 (by decide) ?_
    refine gLald S hK (lpO hB) 0 1 rfl rfl (by unfold vp_in; decide) dL_law_1030 ?_
    refine lv_iload S.1 S.2.1 dL_law_1031 (lv_at hl 0 rfl) ?_
    refine lv_if_eq (tgt := 1040) S.1 S.2.1 dL_law_1033 (by decide) (fun cb1 => ?_) (fun cb1 => ?_)
    · refine lv_lconst (v := 0) S.1 S.2.1 dL_law_1040 (by decide) ?_
      refine W.lcmp S.1 S.2.1 dL_law_1041 ?_
      refine lv_if_eq (tgt := 1047) S.1 S.2.1 dL_law_1042 (by decide) (fun _ => ?_) (fun c9 => absurd (lc_eq.mpr (by rw [eA c8]; show (if bb = 0 then (0 : Int64) else 1) = _; rw [if_pos cb1])) c9)
      refine lv_goto (tgt := 1505) S.1 S.2.1 dL_law_1047 (by decide) ?_
      exact W.widen (k := cells + 57) (n := slots + 212) (by omega) (by omega) (kk _ _ _ _ _ _ _ hR hB (lv_sub hl [2, 3, 4, 5, 6, 7] rfl))
    · refine lv_lconst (v := 1) S.1 S.2.1 dL_law_1036 (by decide) ?_
      refine lv_goto (tgt := 1041) S.1 S.2.1 dL_law_1037 (by decide) ?_
      refine W.lcmp S.1 S.2.1 dL_law_1041 ?_
      refine lv_if_eq (tgt := 1047) S.1 S.2.1 dL_law_1042 (by decide) (fun _ => ?_) (fun c9 => absurd (lc_eq.mpr (by rw [eA c8]; show (if bb = 0 then (0 : Int64) else 1) = _; rw [if_neg cb1])) c9)
      refine lv_goto (tgt := 1505) S.1 S.2.1 dL_law_1047 (by decide) ?_
      exact W.widen (k := cells + 57) (n := slots + 212) (by omega) (by omega) (kk _ _ _ _ _ _ _ hR hB (lv_sub hl [2, 3, 4, 5, 6, 7] rfl))
set_option maxRecDepth 100000 in
set_option maxHeartbeats 4000000 in
theorem lwC_16 {p : Program} {l : Launch} {e : Env} {s : State} {m : MethodId} {args : Array Value} {below : List Frame} {meth : Method} {c : Code} {H : Heap} {locs : List Loc} {cells slots : Nat} {Q : State → Prop} {ls : Array Slot} {D : va_G} {A : Nat → Prop} {k0 : Cond} {cI cJ cQ cD : ClassId} {ad am : Nat → Nat} {ra : Nat → Nat → Nat} {adK adV tK : Nat → Nat} {b L o1 o2 : Nat} {xs : Nat → Int32} {f : Nat → Int64} {g : Nat → UInt64} {σ : MS} {τ : CS} {i : Int32} {Rel : MS → CS → Prop} (HR : LawOK Rel) (hl9 : l.stackTraces = false) (S : CallFix p m c cL_law 9 s args (k0 :: wsL_law) RL) (hK : va_K D vwCl [(cI, .int), (cJ, .long), (cQ, .array .long), (cD, .double)] s) (hKS : wKS adK adV tK A s) (hA : ∀ q, s.heap.size ≤ q → A q) (hX : va_X b L xs s s.heap) (hbl : b < s.heap.size) (hbA : ¬ A b) (hi : ∀ k : Int32, 0 ≤ k → k ≤ 5 → vp_in (i + k) L) (hc : cells + 57 ≤ room_1.cells) (hs : slots + 212 ≤ room_1.slots) (hR : Rel σ τ) (hB : gB D vwCl A s.heap (CW cI cJ cQ ad ra τ) (MW cI cJ am σ ++ [(o1, .inl (cJ, 1, .inr (.inl f))), (o2, .inl (cD, 1, .inr (.inr (.inr (.inl g)))))]) H locs) (hl : lv_has ls 9 [(5, .int i), (4, .ref o2), (3, .ref o1), (2, .ref (am 0)), (1, .ref (ad 0)), (0, .ref b)])
    (kk : ∀ (σ : MS) (τ : CS) (f : Nat → Int64) (g : Nat → UInt64) (H : Heap) (locs : List Loc) (ls : Array Slot), Rel σ τ → gB D vwCl A s.heap (CW cI cJ cQ ad ra τ) (MW cI cJ am σ ++ [(o1, .inl (cJ, 1, .inr (.inl f))), (o2, .inl (cD, 1, .inr (.inr (.inr (.inl g)))))]) H locs → lv_has ls 9 [(5, .int i), (4, .ref o2), (3, .ref o1), (2, .ref (am 0)), (1, .ref (ad 0)), (0, .ref b)] → W p l e room_1 s m args below meth c H locs (cells + 57) (slots + 212) Q (F0 m 1505 ls [])) : W p l e room_1 s m args below meth c H locs cells slots Q (F0 m 1050 ls []) := by
  refine lv_aload_n S.1 S.2.1 dL_law_1050 rfl (lv_at hl 4 rfl) ?_
  refine lv_aload_n S.1 S.2.1 dL_law_1051 rfl (lv_at hl 5 rfl) ?_
  refine lv_iload S.1 S.2.1 dL_law_1052 (lv_at hl 0 rfl) ?_
  refine lv_iconst (v := (1 : Int32)) S.1 S.2.1 dL_law_1054 (by decide) ?_
  refine lv_iadd S.1 S.2.1 dL_law_1055 ?_
  refine va_sld S.1 S.2.1 hX hbl hbA hB.2.2 (hi (1 : Int32) (by decide) (by decide)) dL_law_1056 ?_
  refine lv_aload_n S.1 S.2.1 dL_law_1057 rfl (lv_at hl 5 rfl) ?_
  refine lv_iload S.1 S.2.1 dL_law_1058 (lv_at hl 0 rfl) ?_
  refine lv_iconst (v := (2 : Int32)) S.1 S.2.1 dL_law_1060 (by decide) ?_
  refine lv_iadd S.1 S.2.1 dL_law_1061 ?_
  refine va_sld S.1 S.2.1 hX hbl hbA hB.2.2 (hi (2 : Int32) (by decide) (by decide)) dL_law_1062 ?_
  refine lv_aload_n S.1 S.2.1 dL_law_1063 rfl (lv_at hl 2 rfl) ?_
  obtain ⟨o, τ1, rr, bb, σ1, eC, eK, eM, eT, eA, hR⟩ := HR.2.2.2.2.2.2.2.2.2.2.2.2.2.2.2.2.1 σ τ hR (xs (i + (1 : Int32)).toNatClampNeg) (xs (i + (2 : Int32)).toNatClampNeg)
  replace hB := lpA hB
  refine gCallSW S (hK.sub (tys' := [(cI, .int), (cJ, .long), (cQ, .array .long)]) [0, 1, 2] rfl) wKSc hKS hA (kL_told hl9 eC eK) (vx_cwSW 4 S.2.2.2.2 (gWSW wm_L_149 wst_L_told wn_L wy_L_told) rfl rfl rfl (by decide +kernel) ⟨(Nat.le_of_ble_eq_true rfl), (Nat.le_of_ble_eq_true rfl)⟩) hB rfl hl.1 rfl (lv_room (Nat.le_of_ble_eq_true rfl)) dL_law_1064 ⟨by omega, by omega⟩ (fun H locs hB => ?_)
  replace hB := lpA2 hB
  refine lv_istore (lv' := [(6, .int (rr)), (5, .int (i)), (4, .ref o2), (3, .ref o1), (2, .ref (am 0)), (1, .ref (ad 0)), (0, .ref b)]) S.1 S.2.1 dL_law_1067 hl (by decide) rfl (fun ls hl => ?_)
  refine lv_aload_n S.1 S.2.1 dL_law_1069 rfl (lv_at hl 4 rfl) ?_
  refine lv_aload_n S.1 S.2.1 dL_law_1070 rfl (lv_at hl 6 rfl) ?_
  refine lv_iload S.1 S.2.1 dL_law_1071 (lv_at hl 1 rfl) ?_
  refine lv_iconst (v := (1 : Int32)) S.1 S.2.1 dL_law_1073 (by decide) ?_
  refine lv_iadd S.1 S.2.1 dL_law_1074 ?_
  refine va_sld S.1 S.2.1 hX hbl hbA hB.2.2 (hi (1 : Int32) (by decide) (by decide)) dL_law_1075 ?_
  refine lv_aload_n S.1 S.2.1 dL_law_1076 rfl (lv_at hl 6 rfl) ?_
  refine lv_iload S.1 S.2.1 dL_law_1077 (lv_at hl 1 rfl) ?_
  refine lv_iconst (v := (2 : Int32)) S.1 S.2.1 dL_law_1079 (by decide) ?_
  refine lv_iadd S.1 S.2.1 dL_law_1080 ?_
  refine va_sld S.1 S.2.1 hX hbl hbA hB.2.2 (hi (2 : Int32) (by decide) (by decide)) dL_law_1081 ?_
  replace hB := lpM hB
  refine gCallV (ci := 11) S (hK.sub (tys' := [(cI, .int), (cJ, .long)]) [0, 1] rfl) wKSc hKS hA (kX11_told wKSc eM) (cwL_151 S.2.2.2.2 (rm := rmX11_told) rfl rfl ⟨(Nat.le_of_ble_eq_true rfl), (Nat.le_of_ble_eq_true rfl)⟩) hB 0 rfl rfl rfl hl.1 rfl (lv_room (Nat.le_of_ble_eq_true rfl)) dL_law_1082 ⟨by omega, by omega⟩ (fun H locs hB => ?_)
  replace hB := lpM hB
  refine lv_istore (lv' := [(7, .int (bb)), (6, .int (rr)), (5, .int (i)), (4, .ref o2), (3, .ref o1), (2, .ref (am 0)), (1, .ref (ad 0)), (0, .ref b)]) S.1 S.2.1 dL_law_1085 hl (by decide) rfl (fun ls hl => ?_)
  refine lv_aload_n S.1 S.2.1 dL_law_1087 rfl (lv_at hl 5 rfl) ?_
  replace hB := lpM hB
  refine gCallV (ci := 11) S (hK.sub (tys' := [(cI, .int), (cJ, .long)]) [0, 1] rfl) wKSc hKS hA (kX11_thrown wKSc (show FX11_thrown σ1 = some (σ1.1 0, σ1) from rfl)) (cwL_92 S.2.2.2.2 (rm := rmX11_thrown) rfl rfl ⟨(Nat.le_of_ble_eq_true rfl), (Nat.le_of_ble_eq_true rfl)⟩) hB 0 rfl rfl rfl hl.1 rfl (lv_room (Nat.le_of_ble_eq_true rfl)) dL_law_1088 ⟨by omega, by omega⟩ (fun H locs hB => ?_)
  replace hB := lpM hB
  refine lv_iload S.1 S.2.1 dL_law_1091 (lv_at hl 1 rfl) ?_
  refine lv_icmp_eq (tgt := 1098) S.1 S.2.1 dL_law_1093 (by decide) (fun _ => ?_) (fun c9 => absurd eT c9)
  refine lv_iload S.1 S.2.1 dL_law_1098 (lv_at hl 1 rfl) ?_
  refine lv_if_ne (tgt := 1115) S.1 S.2.1 dL_law_1100 (by decide) (fun c8 => ?_) (fun c8 => ?_)
  · refine lv_goto (tgt := 1505) S.1 S.2.1 dL_law_1115 (by decide) ?_
    exact W.widen (k := cells + 57) (n := slots + 212) (by omega) (by omega) (kk _ _ _ _ _ _ _ hR hB (lv_sub hl [2, 3, 4, 5, 6, 7] rfl))
  · have c8 : rr = 0 := by first | exact c8 | exact Classical.not_not.mp c8
    refine lv_aload_n S.1 S.2.1 dL_law_1103 rfl (lv_at hl 4 rfl) ?_
    refine lv_iconst (v := (0 : Int32)) S.1 S.2.1 dL_law_1104 (by decide) ?_
    refine gLald S hK (lpO hB) 0 1 rfl rfl (by unfold vp_in; decide) dL_law_1105 ?_
    refine lv_iload S.1 S.2.1 dL_law_1106 (lv_at hl 0 rfl) ?_
    refine lv_i2l (v := (bb).toInt64) S.1 S.2.1 dL_law_1108 rfl ?_
    refine W.lcmp S.1 S.2.1 dL_law_1109 ?_
    refine lv_if_eq (tgt := 1115) S.1 S.2.1 dL_law_1110 (by decide) (fun _ => ?_) (fun c9 => absurd (lc_eq.mpr (by rw [eA c8]; exact upd0)) c9)
    refine lv_goto (tgt := 1505) S.1 S.2.1 dL_law_1115 (by decide) ?_
    exact W.widen (k := cells + 57) (n := slots + 212) (by omega) (by omega) (kk _ _ _ _ _ _ _ hR hB (lv_sub hl [2, 3, 4, 5, 6, 7] rfl))
set_option maxRecDepth 100000 in
set_option maxHeartbeats 4000000 in
theorem lwC_17 {p : Program} {l : Launch} {e : Env} {s : State} {m : MethodId} {args : Array Value} {below : List Frame} {meth : Method} {c : Code} {H : Heap} {locs : List Loc} {cells slots : Nat} {Q : State → Prop} {ls : Array Slot} {D : va_G} {A : Nat → Prop} {k0 : Cond} {cI cJ cQ cD : ClassId} {ad am : Nat → Nat} {ra : Nat → Nat → Nat} {adK adV tK : Nat → Nat} {b L o1 o2 : Nat} {xs : Nat → Int32} {f : Nat → Int64} {g : Nat → UInt64} {σ : MS} {τ : CS} {i : Int32} {Rel : MS → CS → Prop} (HR : LawOK Rel) (hl9 : l.stackTraces = false) (S : CallFix p m c cL_law 9 s args (k0 :: wsL_law) RL) (hK : va_K D vwCl [(cI, .int), (cJ, .long), (cQ, .array .long), (cD, .double)] s) (hKS : wKS adK adV tK A s) (hA : ∀ q, s.heap.size ≤ q → A q) (hX : va_X b L xs s s.heap) (hbl : b < s.heap.size) (hbA : ¬ A b) (hi : ∀ k : Int32, 0 ≤ k → k ≤ 5 → vp_in (i + k) L) (hc : cells + 57 ≤ room_1.cells) (hs : slots + 212 ≤ room_1.slots) (hR : Rel σ τ) (hB : gB D vwCl A s.heap (CW cI cJ cQ ad ra τ) (MW cI cJ am σ ++ [(o1, .inl (cJ, 1, .inr (.inl f))), (o2, .inl (cD, 1, .inr (.inr (.inr (.inl g)))))]) H locs) (hl : lv_has ls 9 [(5, .int i), (4, .ref o2), (3, .ref o1), (2, .ref (am 0)), (1, .ref (ad 0)), (0, .ref b)])
    (kk : ∀ (σ : MS) (τ : CS) (f : Nat → Int64) (g : Nat → UInt64) (H : Heap) (locs : List Loc) (ls : Array Slot), Rel σ τ → gB D vwCl A s.heap (CW cI cJ cQ ad ra τ) (MW cI cJ am σ ++ [(o1, .inl (cJ, 1, .inr (.inl f))), (o2, .inl (cD, 1, .inr (.inr (.inr (.inl g)))))]) H locs → lv_has ls 9 [(5, .int i), (4, .ref o2), (3, .ref o1), (2, .ref (am 0)), (1, .ref (ad 0)), (0, .ref b)] → W p l e room_1 s m args below meth c H locs (cells + 57) (slots + 212) Q (F0 m 1505 ls [])) : W p l e room_1 s m args below meth c H locs cells slots Q (F0 m 1118 ls []) := by
  refine lv_aload_n S.1 S.2.1 dL_law_1118 rfl (lv_at hl 4 rfl) ?_
  refine lv_aload_n S.1 S.2.1 dL_law_1119 rfl (lv_at hl 5 rfl) ?_
  refine lv_iload S.1 S.2.1 dL_law_1120 (lv_at hl 0 rfl) ?_
  refine lv_iconst (v := (1 : Int32)) S.1 S.2.1 dL_law_1122 (by decide) ?_
  refine lv_iadd S.1 S.2.1 dL_law_1123 ?_
  refine va_sld S.1 S.2.1 hX hbl hbA hB.2.2 (hi (1 : Int32) (by decide) (by decide)) dL_law_1124 ?_
  refine lv_aload_n S.1 S.2.1 dL_law_1125 rfl (lv_at hl 2 rfl) ?_
  obtain ⟨o, τ1, rr, bb, σ1, eC, eK, eM, eT, eA, hR⟩ := HR.2.2.2.2.2.2.2.2.2.2.2.2.2.2.2.2.2.1 σ τ hR (xs (i + (1 : Int32)).toNatClampNeg)
  replace hB := lpA hB
  refine gCallSW S (hK.sub (tys' := [(cI, .int), (cJ, .long), (cQ, .array .long)]) [0, 1, 2] rfl) wKSc hKS hA (kL_alarms hl9 eC eK) (vx_cwSW 3 S.2.2.2.2 (gWSW wm_L_152 wst_L_alarms wn_L wy_L_alarms) rfl rfl rfl (by decide +kernel) ⟨(Nat.le_of_ble_eq_true rfl), (Nat.le_of_ble_eq_true rfl)⟩) hB rfl hl.1 rfl (lv_room (Nat.le_of_ble_eq_true rfl)) dL_law_1126 ⟨by omega, by omega⟩ (fun H locs hB => ?_)
  replace hB := lpA2 hB
  refine lv_istore (lv' := [(6, .int (rr)), (5, .int (i)), (4, .ref o2), (3, .ref o1), (2, .ref (am 0)), (1, .ref (ad 0)), (0, .ref b)]) S.1 S.2.1 dL_law_1129 hl (by decide) rfl (fun ls hl => ?_)
  refine lv_aload_n S.1 S.2.1 dL_law_1131 rfl (lv_at hl 4 rfl) ?_
  refine lv_aload_n S.1 S.2.1 dL_law_1132 rfl (lv_at hl 6 rfl) ?_
  refine lv_iload S.1 S.2.1 dL_law_1133 (lv_at hl 1 rfl) ?_
  refine lv_iconst (v := (1 : Int32)) S.1 S.2.1 dL_law_1135 (by decide) ?_
  refine lv_iadd S.1 S.2.1 dL_law_1136 ?_
  refine va_sld S.1 S.2.1 hX hbl hbA hB.2.2 (hi (1 : Int32) (by decide) (by decide)) dL_law_1137 ?_
  replace hB := lpM hB
  refine gCallV (ci := 11) S (hK.sub (tys' := [(cI, .int), (cJ, .long)]) [0, 1] rfl) wKSc hKS hA (kX11_alarms wKSc eM) (cwL_154 S.2.2.2.2 (rm := rmX11_alarms) rfl rfl ⟨(Nat.le_of_ble_eq_true rfl), (Nat.le_of_ble_eq_true rfl)⟩) hB 0 rfl rfl rfl hl.1 rfl (lv_room (Nat.le_of_ble_eq_true rfl)) dL_law_1138 ⟨by omega, by omega⟩ (fun H locs hB => ?_)
  replace hB := lpM hB
  refine lv_istore (lv' := [(7, .int (bb)), (6, .int (rr)), (5, .int (i)), (4, .ref o2), (3, .ref o1), (2, .ref (am 0)), (1, .ref (ad 0)), (0, .ref b)]) S.1 S.2.1 dL_law_1141 hl (by decide) rfl (fun ls hl => ?_)
  refine lv_aload_n S.1 S.2.1 dL_law_1143 rfl (lv_at hl 5 rfl) ?_
  replace hB := lpM hB
  refine gCallV (ci := 11) S (hK.sub (tys' := [(cI, .int), (cJ, .long)]) [0, 1] rfl) wKSc hKS hA (kX11_thrown wKSc (show FX11_thrown σ1 = some (σ1.1 0, σ1) from rfl)) (cwL_92 S.2.2.2.2 (rm := rmX11_thrown) rfl rfl ⟨(Nat.le_of_ble_eq_true rfl), (Nat.le_of_ble_eq_true rfl)⟩) hB 0 rfl rfl rfl hl.1 rfl (lv_room (Nat.le_of_ble_eq_true rfl)) dL_law_1144 ⟨by omega, by omega⟩ (fun H locs hB => ?_)
  replace hB := lpM hB
  refine lv_iload S.1 S.2.1 dL_law_1147 (lv_at hl 1 rfl) ?_
  refine lv_icmp_eq (tgt := 1154) S.1 S.2.1 dL_law_1149 (by decide) (fun _ => ?_) (fun c9 => absurd eT c9)
  refine lv_iload S.1 S.2.1 dL_law_1154 (lv_at hl 1 rfl) ?_
  refine lv_if_ne (tgt := 1171) S.1 S.2.1 dL_law_1156 (by decide) (fun c8 => ?_) (fun c8 => ?_)
  · refine lv_goto (tgt := 1505) S.1 S.2.1 dL_law_1171 (by decide) ?_
    exact W.widen (k := cells + 57) (n := slots + 212) (by omega) (by omega) (kk _ _ _ _ _ _ _ hR hB (lv_sub hl [2, 3, 4, 5, 6, 7] rfl))
  · have c8 : rr = 0 := by first | exact c8 | exact Classical.not_not.mp c8
    refine lv_aload_n S.1 S.2.1 dL_law_1159 rfl (lv_at hl 4 rfl) ?_
    refine lv_iconst (v := (0 : Int32)) S.1 S.2.1 dL_law_1160 (by decide) ?_
    refine gLald S hK (lpO hB) 0 1 rfl rfl (by unfold vp_in; decide) dL_law_1161 ?_
    refine lv_iload S.1 S.2.1 dL_law_1162 (lv_at hl 0 rfl) ?_
    refine lv_i2l (v := (bb).toInt64) S.1 S.2.1 dL_law_1164 rfl ?_
    refine W.lcmp S.1 S.2.1 dL_law_1165 ?_
    refine lv_if_eq (tgt := 1171) S.1 S.2.1 dL_law_1166 (by decide) (fun _ => ?_) (fun c9 => absurd (lc_eq.mpr (by rw [eA c8]; exact upd0)) c9)
    refine lv_goto (tgt := 1505) S.1 S.2.1 dL_law_1171 (by decide) ?_
    exact W.widen (k := cells + 57) (n := slots + 212) (by omega) (by omega) (kk _ _ _ _ _ _ _ hR hB (lv_sub hl [2, 3, 4, 5, 6, 7] rfl))
set_option maxRecDepth 100000 in
set_option maxHeartbeats 4000000 in
theorem lwC_18 {p : Program} {l : Launch} {e : Env} {s : State} {m : MethodId} {args : Array Value} {below : List Frame} {meth : Method} {c : Code} {H : Heap} {locs : List Loc} {cells slots : Nat} {Q : State → Prop} {ls : Array Slot} {D : va_G} {A : Nat → Prop} {k0 : Cond} {cI cJ cQ cD : ClassId} {ad am : Nat → Nat} {ra : Nat → Nat → Nat} {adK adV tK : Nat → Nat} {b L o1 o2 : Nat} {xs : Nat → Int32} {f : Nat → Int64} {g : Nat → UInt64} {σ : MS} {τ : CS} {i : Int32} {Rel : MS → CS → Prop} (HR : LawOK Rel) (hl9 : l.stackTraces = false) (S : CallFix p m c cL_law 9 s args (k0 :: wsL_law) RL) (hK : va_K D vwCl [(cI, .int), (cJ, .long), (cQ, .array .long), (cD, .double)] s) (hKS : wKS adK adV tK A s) (hA : ∀ q, s.heap.size ≤ q → A q) (hX : va_X b L xs s s.heap) (hbl : b < s.heap.size) (hbA : ¬ A b) (hi : ∀ k : Int32, 0 ≤ k → k ≤ 5 → vp_in (i + k) L) (hc : cells + 57 ≤ room_1.cells) (hs : slots + 212 ≤ room_1.slots) (hR : Rel σ τ) (hB : gB D vwCl A s.heap (CW cI cJ cQ ad ra τ) (MW cI cJ am σ ++ [(o1, .inl (cJ, 1, .inr (.inl f))), (o2, .inl (cD, 1, .inr (.inr (.inr (.inl g)))))]) H locs) (hl : lv_has ls 9 [(5, .int i), (4, .ref o2), (3, .ref o1), (2, .ref (am 0)), (1, .ref (ad 0)), (0, .ref b)])
    (kk : ∀ (σ : MS) (τ : CS) (f : Nat → Int64) (g : Nat → UInt64) (H : Heap) (locs : List Loc) (ls : Array Slot), Rel σ τ → gB D vwCl A s.heap (CW cI cJ cQ ad ra τ) (MW cI cJ am σ ++ [(o1, .inl (cJ, 1, .inr (.inl f))), (o2, .inl (cD, 1, .inr (.inr (.inr (.inl g)))))]) H locs → lv_has ls 9 [(5, .int i), (4, .ref o2), (3, .ref o1), (2, .ref (am 0)), (1, .ref (ad 0)), (0, .ref b)] → W p l e room_1 s m args below meth c H locs (cells + 57) (slots + 212) Q (F0 m 1505 ls [])) : W p l e room_1 s m args below meth c H locs cells slots Q (F0 m 1174 ls []) := by
  refine lv_aload_n S.1 S.2.1 dL_law_1174 rfl (lv_at hl 4 rfl) ?_
  refine lv_aload_n S.1 S.2.1 dL_law_1175 rfl (lv_at hl 5 rfl) ?_
  refine lv_iload S.1 S.2.1 dL_law_1176 (lv_at hl 0 rfl) ?_
  refine lv_iconst (v := (1 : Int32)) S.1 S.2.1 dL_law_1178 (by decide) ?_
  refine lv_iadd S.1 S.2.1 dL_law_1179 ?_
  refine va_sld S.1 S.2.1 hX hbl hbA hB.2.2 (hi (1 : Int32) (by decide) (by decide)) dL_law_1180 ?_
  refine lv_aload_n S.1 S.2.1 dL_law_1181 rfl (lv_at hl 5 rfl) ?_
  refine lv_iload S.1 S.2.1 dL_law_1182 (lv_at hl 0 rfl) ?_
  refine lv_iconst (v := (2 : Int32)) S.1 S.2.1 dL_law_1184 (by decide) ?_
  refine lv_iadd S.1 S.2.1 dL_law_1185 ?_
  refine va_sld S.1 S.2.1 hX hbl hbA hB.2.2 (hi (2 : Int32) (by decide) (by decide)) dL_law_1186 ?_
  refine lv_aload_n S.1 S.2.1 dL_law_1187 rfl (lv_at hl 5 rfl) ?_
  refine lv_iload S.1 S.2.1 dL_law_1188 (lv_at hl 0 rfl) ?_
  refine lv_iconst (v := (3 : Int32)) S.1 S.2.1 dL_law_1190 (by decide) ?_
  refine lv_iadd S.1 S.2.1 dL_law_1191 ?_
  refine va_sld S.1 S.2.1 hX hbl hbA hB.2.2 (hi (3 : Int32) (by decide) (by decide)) dL_law_1192 ?_
  refine lv_if_eq (tgt := 1200) S.1 S.2.1 dL_law_1193 (by decide) (fun cb1 => ?_) (fun cb1 => ?_)
  · refine lv_iconst (v := (0 : Int32)) S.1 S.2.1 dL_law_1200 (by decide) ?_
    refine lv_aload_n S.1 S.2.1 dL_law_1201 rfl (lv_at hl 2 rfl) ?_
    obtain ⟨o, τ1, rr, bb, σ1, eC, eK, eM, eT, eA, hR⟩ := HR.2.2.2.2.2.2.2.2.2.2.2.2.2.2.2.2.2.2.1 σ τ hR (xs (i + (1 : Int32)).toNatClampNeg) (xs (i + (2 : Int32)).toNatClampNeg) ((0 : Int32)) (Or.inl rfl)
    replace hB := lpA hB
    refine gCallSW S (hK.sub (tys' := [(cI, .int), (cJ, .long), (cQ, .array .long)]) [0, 1, 2] rfl) wKSc hKS hA (kL_why hl9 eC eK) (vx_cwSW 5 S.2.2.2.2 (gWSW wm_L_155 wst_L_why wn_L wy_L_why) rfl rfl rfl (by decide +kernel) ⟨(Nat.le_of_ble_eq_true rfl), (Nat.le_of_ble_eq_true rfl)⟩) hB rfl hl.1 rfl (lv_room (Nat.le_of_ble_eq_true rfl)) dL_law_1202 ⟨by omega, by omega⟩ (fun H locs hB => ?_)
    replace hB := lpA2 hB
    refine lv_istore (lv' := [(6, .int (rr)), (5, .int (i)), (4, .ref o2), (3, .ref o1), (2, .ref (am 0)), (1, .ref (ad 0)), (0, .ref b)]) S.1 S.2.1 dL_law_1205 hl (by decide) rfl (fun ls hl => ?_)
    refine lv_aload_n S.1 S.2.1 dL_law_1207 rfl (lv_at hl 4 rfl) ?_
    refine lv_aload_n S.1 S.2.1 dL_law_1208 rfl (lv_at hl 6 rfl) ?_
    refine lv_iload S.1 S.2.1 dL_law_1209 (lv_at hl 1 rfl) ?_
    refine lv_iconst (v := (1 : Int32)) S.1 S.2.1 dL_law_1211 (by decide) ?_
    refine lv_iadd S.1 S.2.1 dL_law_1212 ?_
    refine va_sld S.1 S.2.1 hX hbl hbA hB.2.2 (hi (1 : Int32) (by decide) (by decide)) dL_law_1213 ?_
    refine lv_aload_n S.1 S.2.1 dL_law_1214 rfl (lv_at hl 6 rfl) ?_
    refine lv_iload S.1 S.2.1 dL_law_1215 (lv_at hl 1 rfl) ?_
    refine lv_iconst (v := (2 : Int32)) S.1 S.2.1 dL_law_1217 (by decide) ?_
    refine lv_iadd S.1 S.2.1 dL_law_1218 ?_
    refine va_sld S.1 S.2.1 hX hbl hbA hB.2.2 (hi (2 : Int32) (by decide) (by decide)) dL_law_1219 ?_
    refine lv_aload_n S.1 S.2.1 dL_law_1220 rfl (lv_at hl 6 rfl) ?_
    refine lv_iload S.1 S.2.1 dL_law_1221 (lv_at hl 1 rfl) ?_
    refine lv_iconst (v := (3 : Int32)) S.1 S.2.1 dL_law_1223 (by decide) ?_
    refine lv_iadd S.1 S.2.1 dL_law_1224 ?_
    refine va_sld S.1 S.2.1 hX hbl hbA hB.2.2 (hi (3 : Int32) (by decide) (by decide)) dL_law_1225 ?_
    refine lv_if_eq (tgt := 1233) S.1 S.2.1 dL_law_1226 (by decide) (fun _ => ?_) (fun c9 => absurd cb1 c9)
    refine lv_iconst (v := (0 : Int32)) S.1 S.2.1 dL_law_1233 (by decide) ?_
    replace hB := lpM hB
    refine gCallV (ci := 11) S (hK.sub (tys' := [(cI, .int), (cJ, .long)]) [0, 1] rfl) wKSc hKS hA (gMet.weak (kX11_why eM) (fun _ _ q => q.1.1.1.1.1)) (cwL_158 S.2.2.2.2 (rm := rmX11_why) rfl rfl ⟨(Nat.le_of_ble_eq_true rfl), (Nat.le_of_ble_eq_true rfl)⟩) hB 0 rfl rfl rfl hl.1 rfl (lv_room (Nat.le_of_ble_eq_true rfl)) dL_law_1234 ⟨by omega, by omega⟩ (fun H locs hB => ?_)
    replace hB := lpM hB
    refine lv_istore (lv' := [(7, .int (bb)), (6, .int (rr)), (5, .int (i)), (4, .ref o2), (3, .ref o1), (2, .ref (am 0)), (1, .ref (ad 0)), (0, .ref b)]) S.1 S.2.1 dL_law_1237 hl (by decide) rfl (fun ls hl => ?_)
    refine lv_aload_n S.1 S.2.1 dL_law_1239 rfl (lv_at hl 5 rfl) ?_
    replace hB := lpM hB
    refine gCallV (ci := 11) S (hK.sub (tys' := [(cI, .int), (cJ, .long)]) [0, 1] rfl) wKSc hKS hA (kX11_thrown wKSc (show FX11_thrown σ1 = some (σ1.1 0, σ1) from rfl)) (cwL_92 S.2.2.2.2 (rm := rmX11_thrown) rfl rfl ⟨(Nat.le_of_ble_eq_true rfl), (Nat.le_of_ble_eq_true rfl)⟩) hB 0 rfl rfl rfl hl.1 rfl (lv_room (Nat.le_of_ble_eq_true rfl)) dL_law_1240 ⟨by omega, by omega⟩ (fun H locs hB => ?_)
    replace hB := lpM hB
    refine lv_iload S.1 S.2.1 dL_law_1243 (lv_at hl 1 rfl) ?_
    refine lv_icmp_eq (tgt := 1250) S.1 S.2.1 dL_law_1245 (by decide) (fun _ => ?_) (fun c9 => absurd eT c9)
    refine lv_iload S.1 S.2.1 dL_law_1250 (lv_at hl 1 rfl) ?_
    refine lv_if_ne (tgt := 1267) S.1 S.2.1 dL_law_1252 (by decide) (fun c8 => ?_) (fun c8 => ?_)
    · refine lv_goto (tgt := 1505) S.1 S.2.1 dL_law_1267 (by decide) ?_
      exact W.widen (k := cells + 57) (n := slots + 212) (by omega) (by omega) (kk _ _ _ _ _ _ _ hR hB (lv_sub hl [2, 3, 4, 5, 6, 7] rfl))
    · have c8 : rr = 0 := by first | exact c8 | exact Classical.not_not.mp c8
      refine lv_aload_n S.1 S.2.1 dL_law_1255 rfl (lv_at hl 4 rfl) ?_
      refine lv_iconst (v := (0 : Int32)) S.1 S.2.1 dL_law_1256 (by decide) ?_
      refine gLald S hK (lpO hB) 0 1 rfl rfl (by unfold vp_in; decide) dL_law_1257 ?_
      refine lv_iload S.1 S.2.1 dL_law_1258 (lv_at hl 0 rfl) ?_
      refine lv_i2l (v := (bb).toInt64) S.1 S.2.1 dL_law_1260 rfl ?_
      refine W.lcmp S.1 S.2.1 dL_law_1261 ?_
      refine lv_if_eq (tgt := 1267) S.1 S.2.1 dL_law_1262 (by decide) (fun _ => ?_) (fun c9 => absurd (lc_eq.mpr (by rw [eA c8]; exact upd0)) c9)
      refine lv_goto (tgt := 1505) S.1 S.2.1 dL_law_1267 (by decide) ?_
      exact W.widen (k := cells + 57) (n := slots + 212) (by omega) (by omega) (kk _ _ _ _ _ _ _ hR hB (lv_sub hl [2, 3, 4, 5, 6, 7] rfl))
  · refine lv_iconst (v := (1 : Int32)) S.1 S.2.1 dL_law_1196 (by decide) ?_
    refine lv_goto (tgt := 1201) S.1 S.2.1 dL_law_1197 (by decide) ?_
    refine lv_aload_n S.1 S.2.1 dL_law_1201 rfl (lv_at hl 2 rfl) ?_
    obtain ⟨o, τ1, rr, bb, σ1, eC, eK, eM, eT, eA, hR⟩ := HR.2.2.2.2.2.2.2.2.2.2.2.2.2.2.2.2.2.2.1 σ τ hR (xs (i + (1 : Int32)).toNatClampNeg) (xs (i + (2 : Int32)).toNatClampNeg) ((1 : Int32)) (Or.inr rfl)
    replace hB := lpA hB
    refine gCallSW S (hK.sub (tys' := [(cI, .int), (cJ, .long), (cQ, .array .long)]) [0, 1, 2] rfl) wKSc hKS hA (kL_why hl9 eC eK) (vx_cwSW 5 S.2.2.2.2 (gWSW wm_L_155 wst_L_why wn_L wy_L_why) rfl rfl rfl (by decide +kernel) ⟨(Nat.le_of_ble_eq_true rfl), (Nat.le_of_ble_eq_true rfl)⟩) hB rfl hl.1 rfl (lv_room (Nat.le_of_ble_eq_true rfl)) dL_law_1202 ⟨by omega, by omega⟩ (fun H locs hB => ?_)
    replace hB := lpA2 hB
    refine lv_istore (lv' := [(6, .int (rr)), (5, .int (i)), (4, .ref o2), (3, .ref o1), (2, .ref (am 0)), (1, .ref (ad 0)), (0, .ref b)]) S.1 S.2.1 dL_law_1205 hl (by decide) rfl (fun ls hl => ?_)
    refine lv_aload_n S.1 S.2.1 dL_law_1207 rfl (lv_at hl 4 rfl) ?_
    refine lv_aload_n S.1 S.2.1 dL_law_1208 rfl (lv_at hl 6 rfl) ?_
    refine lv_iload S.1 S.2.1 dL_law_1209 (lv_at hl 1 rfl) ?_
    refine lv_iconst (v := (1 : Int32)) S.1 S.2.1 dL_law_1211 (by decide) ?_
    refine lv_iadd S.1 S.2.1 dL_law_1212 ?_
    refine va_sld S.1 S.2.1 hX hbl hbA hB.2.2 (hi (1 : Int32) (by decide) (by decide)) dL_law_1213 ?_
    refine lv_aload_n S.1 S.2.1 dL_law_1214 rfl (lv_at hl 6 rfl) ?_
    refine lv_iload S.1 S.2.1 dL_law_1215 (lv_at hl 1 rfl) ?_
    refine lv_iconst (v := (2 : Int32)) S.1 S.2.1 dL_law_1217 (by decide) ?_
    refine lv_iadd S.1 S.2.1 dL_law_1218 ?_
    refine va_sld S.1 S.2.1 hX hbl hbA hB.2.2 (hi (2 : Int32) (by decide) (by decide)) dL_law_1219 ?_
    refine lv_aload_n S.1 S.2.1 dL_law_1220 rfl (lv_at hl 6 rfl) ?_
    refine lv_iload S.1 S.2.1 dL_law_1221 (lv_at hl 1 rfl) ?_
    refine lv_iconst (v := (3 : Int32)) S.1 S.2.1 dL_law_1223 (by decide) ?_
    refine lv_iadd S.1 S.2.1 dL_law_1224 ?_
    refine va_sld S.1 S.2.1 hX hbl hbA hB.2.2 (hi (3 : Int32) (by decide) (by decide)) dL_law_1225 ?_
    refine lv_if_eq (tgt := 1233) S.1 S.2.1 dL_law_1226 (by decide) (fun c9 => absurd c9 cb1) (fun _ => ?_)
    refine lv_iconst (v := (1 : Int32)) S.1 S.2.1 dL_law_1229 (by decide) ?_
    refine lv_goto (tgt := 1234) S.1 S.2.1 dL_law_1230 (by decide) ?_
    replace hB := lpM hB
    refine gCallV (ci := 11) S (hK.sub (tys' := [(cI, .int), (cJ, .long)]) [0, 1] rfl) wKSc hKS hA (gMet.weak (kX11_why eM) (fun _ _ q => q.1.1.1.1.1)) (cwL_158 S.2.2.2.2 (rm := rmX11_why) rfl rfl ⟨(Nat.le_of_ble_eq_true rfl), (Nat.le_of_ble_eq_true rfl)⟩) hB 0 rfl rfl rfl hl.1 rfl (lv_room (Nat.le_of_ble_eq_true rfl)) dL_law_1234 ⟨by omega, by omega⟩ (fun H locs hB => ?_)
    replace hB := lpM hB
    refine lv_istore (lv' := [(7, .int (bb)), (6, .int (rr)), (5, .int (i)), (4, .ref o2), (3, .ref o1), (2, .ref (am 0)), (1, .ref (ad 0)), (0, .ref b)]) S.1 S.2.1 dL_law_1237 hl (by decide) rfl (fun ls hl => ?_)
    refine lv_aload_n S.1 S.2.1 dL_law_1239 rfl (lv_at hl 5 rfl) ?_
    replace hB := lpM hB
    refine gCallV (ci := 11) S (hK.sub (tys' := [(cI, .int), (cJ, .long)]) [0, 1] rfl) wKSc hKS hA (kX11_thrown wKSc (show FX11_thrown σ1 = some (σ1.1 0, σ1) from rfl)) (cwL_92 S.2.2.2.2 (rm := rmX11_thrown) rfl rfl ⟨(Nat.le_of_ble_eq_true rfl), (Nat.le_of_ble_eq_true rfl)⟩) hB 0 rfl rfl rfl hl.1 rfl (lv_room (Nat.le_of_ble_eq_true rfl)) dL_law_1240 ⟨by omega, by omega⟩ (fun H locs hB => ?_)
    replace hB := lpM hB
    refine lv_iload S.1 S.2.1 dL_law_1243 (lv_at hl 1 rfl) ?_
    refine lv_icmp_eq (tgt := 1250) S.1 S.2.1 dL_law_1245 (by decide) (fun _ => ?_) (fun c9 => absurd eT c9)
    refine lv_iload S.1 S.2.1 dL_law_1250 (lv_at hl 1 rfl) ?_
    refine lv_if_ne (tgt := 1267) S.1 S.2.1 dL_law_1252 (by decide) (fun c8 => ?_) (fun c8 => ?_)
    · refine lv_goto (tgt := 1505) S.1 S.2.1 dL_law_1267 (by decide) ?_
      exact W.widen (k := cells + 57) (n := slots + 212) (by omega) (by omega) (kk _ _ _ _ _ _ _ hR hB (lv_sub hl [2, 3, 4, 5, 6, 7] rfl))
    · have c8 : rr = 0 := by first | exact c8 | exact Classical.not_not.mp c8
      refine lv_aload_n S.1 S.2.1 dL_law_1255 rfl (lv_at hl 4 rfl) ?_
      refine lv_iconst (v := (0 : Int32)) S.1 S.2.1 dL_law_1256 (by decide) ?_
      refine gLald S hK (lpO hB) 0 1 rfl rfl (by unfold vp_in; decide) dL_law_1257 ?_
      refine lv_iload S.1 S.2.1 dL_law_1258 (lv_at hl 0 rfl) ?_
      refine lv_i2l (v := (bb).toInt64) S.1 S.2.1 dL_law_1260 rfl ?_
      refine W.lcmp S.1 S.2.1 dL_law_1261 ?_
      refine lv_if_eq (tgt := 1267) S.1 S.2.1 dL_law_1262 (by decide) (fun _ => ?_) (fun c9 => absurd (lc_eq.mpr (by rw [eA c8]; exact upd0)) c9)
      refine lv_goto (tgt := 1505) S.1 S.2.1 dL_law_1267 (by decide) ?_
      exact W.widen (k := cells + 57) (n := slots + 212) (by omega) (by omega) (kk _ _ _ _ _ _ _ hR hB (lv_sub hl [2, 3, 4, 5, 6, 7] rfl))
set_option maxRecDepth 100000 in
set_option maxHeartbeats 4000000 in
theorem lwC_19 {p : Program} {l : Launch} {e : Env} {s : State} {m : MethodId} {args : Array Value} {below : List Frame} {meth : Method} {c : Code} {H : Heap} {locs : List Loc} {cells slots : Nat} {Q : State → Prop} {ls : Array Slot} {D : va_G} {A : Nat → Prop} {k0 : Cond} {cI cJ cQ cD : ClassId} {ad am : Nat → Nat} {ra : Nat → Nat → Nat} {adK adV tK : Nat → Nat} {b L o1 o2 : Nat} {xs : Nat → Int32} {f : Nat → Int64} {g : Nat → UInt64} {σ : MS} {τ : CS} {i : Int32} {Rel : MS → CS → Prop} (HR : LawOK Rel) (hl9 : l.stackTraces = false) (S : CallFix p m c cL_law 9 s args (k0 :: wsL_law) RL) (hK : va_K D vwCl [(cI, .int), (cJ, .long), (cQ, .array .long), (cD, .double)] s) (hKS : wKS adK adV tK A s) (hA : ∀ q, s.heap.size ≤ q → A q) (hX : va_X b L xs s s.heap) (hbl : b < s.heap.size) (hbA : ¬ A b) (hi : ∀ k : Int32, 0 ≤ k → k ≤ 5 → vp_in (i + k) L) (hc : cells + 57 ≤ room_1.cells) (hs : slots + 212 ≤ room_1.slots) (hR : Rel σ τ) (hB : gB D vwCl A s.heap (CW cI cJ cQ ad ra τ) (MW cI cJ am σ ++ [(o1, .inl (cJ, 1, .inr (.inl f))), (o2, .inl (cD, 1, .inr (.inr (.inr (.inl g)))))]) H locs) (hl : lv_has ls 9 [(5, .int i), (4, .ref o2), (3, .ref o1), (2, .ref (am 0)), (1, .ref (ad 0)), (0, .ref b)])
    (kk : ∀ (σ : MS) (τ : CS) (f : Nat → Int64) (g : Nat → UInt64) (H : Heap) (locs : List Loc) (ls : Array Slot), Rel σ τ → gB D vwCl A s.heap (CW cI cJ cQ ad ra τ) (MW cI cJ am σ ++ [(o1, .inl (cJ, 1, .inr (.inl f))), (o2, .inl (cD, 1, .inr (.inr (.inr (.inl g)))))]) H locs → lv_has ls 9 [(5, .int i), (4, .ref o2), (3, .ref o1), (2, .ref (am 0)), (1, .ref (ad 0)), (0, .ref b)] → W p l e room_1 s m args below meth c H locs (cells + 57) (slots + 212) Q (F0 m 1505 ls [])) : W p l e room_1 s m args below meth c H locs cells slots Q (F0 m 1270 ls []) := by
  refine lv_aload_n S.1 S.2.1 dL_law_1270 rfl (lv_at hl 4 rfl) ?_
  refine lv_aload_n S.1 S.2.1 dL_law_1271 rfl (lv_at hl 5 rfl) ?_
  refine lv_iload S.1 S.2.1 dL_law_1272 (lv_at hl 0 rfl) ?_
  refine lv_iconst (v := (1 : Int32)) S.1 S.2.1 dL_law_1274 (by decide) ?_
  refine lv_iadd S.1 S.2.1 dL_law_1275 ?_
  refine va_sld S.1 S.2.1 hX hbl hbA hB.2.2 (hi (1 : Int32) (by decide) (by decide)) dL_law_1276 ?_
  refine lv_aload_n S.1 S.2.1 dL_law_1277 rfl (lv_at hl 5 rfl) ?_
  refine lv_iload S.1 S.2.1 dL_law_1278 (lv_at hl 0 rfl) ?_
  refine lv_iconst (v := (2 : Int32)) S.1 S.2.1 dL_law_1280 (by decide) ?_
  refine lv_iadd S.1 S.2.1 dL_law_1281 ?_
  refine va_sld S.1 S.2.1 hX hbl hbA hB.2.2 (hi (2 : Int32) (by decide) (by decide)) dL_law_1282 ?_
  refine lv_aload_n S.1 S.2.1 dL_law_1283 rfl (lv_at hl 2 rfl) ?_
  obtain ⟨o, τ1, rr, bb, σ1, eC, eK, eM, eT, eA, hR⟩ := HR.2.2.2.2.2.2.2.2.2.2.2.2.2.2.2.2.2.2.2.1 σ τ hR (xs (i + (1 : Int32)).toNatClampNeg) (xs (i + (2 : Int32)).toNatClampNeg)
  replace hB := lpA hB
  refine gCallSW S (hK.sub (tys' := [(cI, .int), (cJ, .long), (cQ, .array .long)]) [0, 1, 2] rfl) wKSc hKS hA (kL_differ hl9 eC eK) (vx_cwSW 4 S.2.2.2.2 (gWSW wm_L_159 wst_L_differ wn_L wy_L_differ) rfl rfl rfl (by decide +kernel) ⟨(Nat.le_of_ble_eq_true rfl), (Nat.le_of_ble_eq_true rfl)⟩) hB rfl hl.1 rfl (lv_room (Nat.le_of_ble_eq_true rfl)) dL_law_1284 ⟨by omega, by omega⟩ (fun H locs hB => ?_)
  replace hB := lpA2 hB
  refine lv_istore (lv' := [(6, .int (rr)), (5, .int (i)), (4, .ref o2), (3, .ref o1), (2, .ref (am 0)), (1, .ref (ad 0)), (0, .ref b)]) S.1 S.2.1 dL_law_1287 hl (by decide) rfl (fun ls hl => ?_)
  refine lv_aload_n S.1 S.2.1 dL_law_1289 rfl (lv_at hl 4 rfl) ?_
  refine lv_aload_n S.1 S.2.1 dL_law_1290 rfl (lv_at hl 6 rfl) ?_
  refine lv_iload S.1 S.2.1 dL_law_1291 (lv_at hl 1 rfl) ?_
  refine lv_iconst (v := (1 : Int32)) S.1 S.2.1 dL_law_1293 (by decide) ?_
  refine lv_iadd S.1 S.2.1 dL_law_1294 ?_
  refine va_sld S.1 S.2.1 hX hbl hbA hB.2.2 (hi (1 : Int32) (by decide) (by decide)) dL_law_1295 ?_
  refine lv_aload_n S.1 S.2.1 dL_law_1296 rfl (lv_at hl 6 rfl) ?_
  refine lv_iload S.1 S.2.1 dL_law_1297 (lv_at hl 1 rfl) ?_
  refine lv_iconst (v := (2 : Int32)) S.1 S.2.1 dL_law_1299 (by decide) ?_
  refine lv_iadd S.1 S.2.1 dL_law_1300 ?_
  refine va_sld S.1 S.2.1 hX hbl hbA hB.2.2 (hi (2 : Int32) (by decide) (by decide)) dL_law_1301 ?_
  replace hB := lpM hB
  refine gCallV (ci := 11) S (hK.sub (tys' := [(cI, .int), (cJ, .long)]) [0, 1] rfl) wKSc hKS hA (kX11_differ wKSc eM) (cwL_161 S.2.2.2.2 (rm := rmX11_differ) rfl rfl ⟨(Nat.le_of_ble_eq_true rfl), (Nat.le_of_ble_eq_true rfl)⟩) hB 0 rfl rfl rfl hl.1 rfl (lv_room (Nat.le_of_ble_eq_true rfl)) dL_law_1302 ⟨by omega, by omega⟩ (fun H locs hB => ?_)
  replace hB := lpM hB
  refine lv_istore (lv' := [(7, .int (bb)), (6, .int (rr)), (5, .int (i)), (4, .ref o2), (3, .ref o1), (2, .ref (am 0)), (1, .ref (ad 0)), (0, .ref b)]) S.1 S.2.1 dL_law_1305 hl (by decide) rfl (fun ls hl => ?_)
  refine lv_aload_n S.1 S.2.1 dL_law_1307 rfl (lv_at hl 5 rfl) ?_
  replace hB := lpM hB
  refine gCallV (ci := 11) S (hK.sub (tys' := [(cI, .int), (cJ, .long)]) [0, 1] rfl) wKSc hKS hA (kX11_thrown wKSc (show FX11_thrown σ1 = some (σ1.1 0, σ1) from rfl)) (cwL_92 S.2.2.2.2 (rm := rmX11_thrown) rfl rfl ⟨(Nat.le_of_ble_eq_true rfl), (Nat.le_of_ble_eq_true rfl)⟩) hB 0 rfl rfl rfl hl.1 rfl (lv_room (Nat.le_of_ble_eq_true rfl)) dL_law_1308 ⟨by omega, by omega⟩ (fun H locs hB => ?_)
  replace hB := lpM hB
  refine lv_iload S.1 S.2.1 dL_law_1311 (lv_at hl 1 rfl) ?_
  refine lv_icmp_eq (tgt := 1318) S.1 S.2.1 dL_law_1313 (by decide) (fun _ => ?_) (fun c9 => absurd eT c9)
  refine lv_iload S.1 S.2.1 dL_law_1318 (lv_at hl 1 rfl) ?_
  refine lv_if_ne (tgt := 1335) S.1 S.2.1 dL_law_1320 (by decide) (fun c8 => ?_) (fun c8 => ?_)
  · refine lv_goto (tgt := 1505) S.1 S.2.1 dL_law_1335 (by decide) ?_
    exact W.widen (k := cells + 57) (n := slots + 212) (by omega) (by omega) (kk _ _ _ _ _ _ _ hR hB (lv_sub hl [2, 3, 4, 5, 6, 7] rfl))
  · have c8 : rr = 0 := by first | exact c8 | exact Classical.not_not.mp c8
    refine lv_aload_n S.1 S.2.1 dL_law_1323 rfl (lv_at hl 4 rfl) ?_
    refine lv_iconst (v := (0 : Int32)) S.1 S.2.1 dL_law_1324 (by decide) ?_
    refine gLald S hK (lpO hB) 0 1 rfl rfl (by unfold vp_in; decide) dL_law_1325 ?_
    refine lv_iload S.1 S.2.1 dL_law_1326 (lv_at hl 0 rfl) ?_
    refine lv_i2l (v := (bb).toInt64) S.1 S.2.1 dL_law_1328 rfl ?_
    refine W.lcmp S.1 S.2.1 dL_law_1329 ?_
    refine lv_if_eq (tgt := 1335) S.1 S.2.1 dL_law_1330 (by decide) (fun _ => ?_) (fun c9 => absurd (lc_eq.mpr (by rw [eA c8]; exact upd0)) c9)
    refine lv_goto (tgt := 1505) S.1 S.2.1 dL_law_1335 (by decide) ?_
    exact W.widen (k := cells + 57) (n := slots + 212) (by omega) (by omega) (kk _ _ _ _ _ _ _ hR hB (lv_sub hl [2, 3, 4, 5, 6, 7] rfl))
set_option maxRecDepth 100000 in
set_option maxHeartbeats 4000000 in
theorem lwC_20 {p : Program} {l : Launch} {e : Env} {s : State} {m : MethodId} {args : Array Value} {below : List Frame} {meth : Method} {c : Code} {H : Heap} {locs : List Loc} {cells slots : Nat} {Q : State → Prop} {ls : Array Slot} {D : va_G} {A : Nat → Prop} {k0 : Cond} {cI cJ cQ cD : ClassId} {ad am : Nat → Nat} {ra : Nat → Nat → Nat} {adK adV tK : Nat → Nat} {b L o1 o2 : Nat} {xs : Nat → Int32} {f : Nat → Int64} {g : Nat → UInt64} {σ : MS} {τ : CS} {i : Int32} {Rel : MS → CS → Prop} (HR : LawOK Rel) (hl9 : l.stackTraces = false) (S : CallFix p m c cL_law 9 s args (k0 :: wsL_law) RL) (hK : va_K D vwCl [(cI, .int), (cJ, .long), (cQ, .array .long), (cD, .double)] s) (hKS : wKS adK adV tK A s) (hA : ∀ q, s.heap.size ≤ q → A q) (hX : va_X b L xs s s.heap) (hbl : b < s.heap.size) (hbA : ¬ A b) (hi : ∀ k : Int32, 0 ≤ k → k ≤ 5 → vp_in (i + k) L) (hc : cells + 57 ≤ room_1.cells) (hs : slots + 212 ≤ room_1.slots) (hR : Rel σ τ) (hB : gB D vwCl A s.heap (CW cI cJ cQ ad ra τ) (MW cI cJ am σ ++ [(o1, .inl (cJ, 1, .inr (.inl f))), (o2, .inl (cD, 1, .inr (.inr (.inr (.inl g)))))]) H locs) (hl : lv_has ls 9 [(5, .int i), (4, .ref o2), (3, .ref o1), (2, .ref (am 0)), (1, .ref (ad 0)), (0, .ref b)])
    (kk : ∀ (σ : MS) (τ : CS) (f : Nat → Int64) (g : Nat → UInt64) (H : Heap) (locs : List Loc) (ls : Array Slot), Rel σ τ → gB D vwCl A s.heap (CW cI cJ cQ ad ra τ) (MW cI cJ am σ ++ [(o1, .inl (cJ, 1, .inr (.inl f))), (o2, .inl (cD, 1, .inr (.inr (.inr (.inl g)))))]) H locs → lv_has ls 9 [(5, .int i), (4, .ref o2), (3, .ref o1), (2, .ref (am 0)), (1, .ref (ad 0)), (0, .ref b)] → W p l e room_1 s m args below meth c H locs (cells + 57) (slots + 212) Q (F0 m 1505 ls [])) : W p l e room_1 s m args below meth c H locs cells slots Q (F0 m 1338 ls []) := by
  refine lv_aload_n S.1 S.2.1 dL_law_1338 rfl (lv_at hl 4 rfl) ?_
  refine lv_aload_n S.1 S.2.1 dL_law_1339 rfl (lv_at hl 5 rfl) ?_
  refine lv_iload S.1 S.2.1 dL_law_1340 (lv_at hl 0 rfl) ?_
  refine lv_iconst (v := (1 : Int32)) S.1 S.2.1 dL_law_1342 (by decide) ?_
  refine lv_iadd S.1 S.2.1 dL_law_1343 ?_
  refine va_sld S.1 S.2.1 hX hbl hbA hB.2.2 (hi (1 : Int32) (by decide) (by decide)) dL_law_1344 ?_
  refine lv_aload S.1 S.2.1 dL_law_1345 (lv_at hl 1 rfl) ?_
  obtain ⟨o, τ1, rr, bb, σ1, eC, eK, eM, eT, eA, hR⟩ := HR.2.2.2.2.2.2.2.2.2.2.2.2.2.2.2.2.2.2.2.2.1 σ τ hR (xs (i + (1 : Int32)).toNatClampNeg)
  replace hB := lpD hB
  refine gCallSW S hK wKSc hKS hA (kL_share hl9 eC eK) (vx_cwSW 3 S.2.2.2.2 (gWSW wm_L_162 wst_L_share wn_L wy_L_share) rfl rfl rfl (by decide +kernel) ⟨(Nat.le_of_ble_eq_true rfl), (Nat.le_of_ble_eq_true rfl)⟩) hB rfl hl.1 rfl (lv_room (Nat.le_of_ble_eq_true rfl)) dL_law_1347 ⟨by omega, by omega⟩ (fun H locs hB => ?_)
  replace hB := lpD2 hB
  refine lv_istore (lv' := [(6, .int (rr)), (5, .int (i)), (4, .ref o2), (3, .ref o1), (2, .ref (am 0)), (1, .ref (ad 0)), (0, .ref b)]) S.1 S.2.1 dL_law_1350 hl (by decide) rfl (fun ls hl => ?_)
  refine lv_aload_n S.1 S.2.1 dL_law_1352 rfl (lv_at hl 4 rfl) ?_
  refine lv_aload_n S.1 S.2.1 dL_law_1353 rfl (lv_at hl 6 rfl) ?_
  refine lv_iload S.1 S.2.1 dL_law_1354 (lv_at hl 1 rfl) ?_
  refine lv_iconst (v := (1 : Int32)) S.1 S.2.1 dL_law_1356 (by decide) ?_
  refine lv_iadd S.1 S.2.1 dL_law_1357 ?_
  refine va_sld S.1 S.2.1 hX hbl hbA hB.2.2 (hi (1 : Int32) (by decide) (by decide)) dL_law_1358 ?_
  replace hB := lpM hB
  refine gCallV (ci := 11) S (hK.sub (tys' := [(cI, .int), (cJ, .long)]) [0, 1] rfl) wKSc hKS hA (kX11_share wKSc eM) (cwL_165 S.2.2.2.2 (rm := rmX11_share) rfl rfl ⟨(Nat.le_of_ble_eq_true rfl), (Nat.le_of_ble_eq_true rfl)⟩) hB 0 rfl rfl rfl hl.1 rfl (lv_room (Nat.le_of_ble_eq_true rfl)) dL_law_1359 ⟨by omega, by omega⟩ (fun H locs hB => ?_)
  replace hB := lpM hB
  refine lv_dstore (lv' := [(7, .double (bb)), (6, .int (rr)), (5, .int (i)), (4, .ref o2), (3, .ref o1), (2, .ref (am 0)), (1, .ref (ad 0)), (0, .ref b)]) S.1 S.2.1 dL_law_1362 hl (by decide) rfl (fun ls hl => ?_)
  refine lv_aload_n S.1 S.2.1 dL_law_1364 rfl (lv_at hl 5 rfl) ?_
  replace hB := lpM hB
  refine gCallV (ci := 11) S (hK.sub (tys' := [(cI, .int), (cJ, .long)]) [0, 1] rfl) wKSc hKS hA (kX11_thrown wKSc (show FX11_thrown σ1 = some (σ1.1 0, σ1) from rfl)) (cwL_92 S.2.2.2.2 (rm := rmX11_thrown) rfl rfl ⟨(Nat.le_of_ble_eq_true rfl), (Nat.le_of_ble_eq_true rfl)⟩) hB 0 rfl rfl rfl hl.1 rfl (lv_room (Nat.le_of_ble_eq_true rfl)) dL_law_1365 ⟨by omega, by omega⟩ (fun H locs hB => ?_)
  replace hB := lpM hB
  refine lv_iload S.1 S.2.1 dL_law_1368 (lv_at hl 1 rfl) ?_
  refine lv_icmp_eq (tgt := 1375) S.1 S.2.1 dL_law_1370 (by decide) (fun _ => ?_) (fun c9 => absurd eT c9)
  refine lv_iload S.1 S.2.1 dL_law_1375 (lv_at hl 1 rfl) ?_
  refine lv_if_ne (tgt := 1412) S.1 S.2.1 dL_law_1377 (by decide) (fun c8 => ?_) (fun c8 => ?_)
  · refine lv_goto (tgt := 1505) S.1 S.2.1 dL_law_1412 (by decide) ?_
    exact W.widen (k := cells + 57) (n := slots + 212) (by omega) (by omega) (kk _ _ _ _ _ _ _ hR hB (lv_sub hl [2, 3, 4, 5, 6, 7] rfl))
  · have c8 : rr = 0 := by first | exact c8 | exact Classical.not_not.mp c8
    refine lv_aload S.1 S.2.1 dL_law_1380 (lv_at hl 3 rfl) ?_
    refine lv_iconst (v := (0 : Int32)) S.1 S.2.1 dL_law_1382 (by decide) ?_
    refine va_dald S.1 S.2.1 hK (lpO hB).1 1 3 rfl rfl (by unfold vp_in; decide) dL_law_1383 ?_
    refine lv_dload S.1 S.2.1 dL_law_1384 (lv_at hl 0 rfl) ?_
    refine lv_dcmp S.1 S.2.1 dL_law_1386 ?_
    rw [eA c8]
    have eq9 : vf_upd g 0 bb (0 : Int32).toNatClampNeg = bb := rfl
    change W p l e room_1 s m args below meth c H locs _ _ Q (F0 m 1387 ls [.int (Op.cmpValue (FP.dcmp bb bb) CmpOp.l)])
    obtain ⟨v, hv0⟩ : ∃ v, v = Op.cmpValue (FP.dcmp bb bb) CmpOp.l := ⟨_, rfl⟩
    rw [← hv0]
    refine lv_if_eq (tgt := 1412) S.1 S.2.1 dL_law_1387 (by decide) (fun hv => ?_) (fun hv => ?_)
    · refine lv_goto (tgt := 1505) S.1 S.2.1 dL_law_1412 (by decide) ?_
      exact W.widen (k := cells + 57) (n := slots + 212) (by omega) (by omega) (kk _ _ _ _ _ _ _ hR hB (lv_sub hl [2, 3, 4, 5, 6, 7] rfl))
    · refine lv_aload S.1 S.2.1 dL_law_1390 (lv_at hl 3 rfl) ?_
      refine lv_iconst (v := (0 : Int32)) S.1 S.2.1 dL_law_1392 (by decide) ?_
      refine va_dald S.1 S.2.1 hK (lpO hB).1 1 3 rfl rfl (by unfold vp_in; decide) dL_law_1393 ?_
      refine lv_aload S.1 S.2.1 dL_law_1394 (lv_at hl 3 rfl) ?_
      refine lv_iconst (v := (0 : Int32)) S.1 S.2.1 dL_law_1396 (by decide) ?_
      refine va_dald S.1 S.2.1 hK (lpO hB).1 1 3 rfl rfl (by unfold vp_in; decide) dL_law_1397 ?_
      refine lv_dcmp S.1 S.2.1 dL_law_1398 ?_
      try rw [eA c8]
      change W p l e room_1 s m args below meth c H locs _ _ Q (F0 m 1399 ls [.int (Op.cmpValue (FP.dcmp bb bb) CmpOp.l)])
      rw [← hv0]
      refine lv_if_eq (tgt := 1410) S.1 S.2.1 dL_law_1399 (by decide) (fun h9 => absurd h9 hv) (fun _ => ?_)
      refine lv_dload S.1 S.2.1 dL_law_1402 (lv_at hl 0 rfl) ?_
      refine lv_dload S.1 S.2.1 dL_law_1404 (lv_at hl 0 rfl) ?_
      refine lv_dcmp S.1 S.2.1 dL_law_1406 ?_
      try rw [eA c8]
      change W p l e room_1 s m args below meth c H locs _ _ Q (F0 m 1407 ls [.int (Op.cmpValue (FP.dcmp bb bb) CmpOp.l)])
      rw [← hv0]
      refine lv_if_ne (tgt := 1412) S.1 S.2.1 dL_law_1407 (by decide) (fun _ => ?_) (fun h9 => absurd h9 hv)
      refine lv_goto (tgt := 1505) S.1 S.2.1 dL_law_1412 (by decide) ?_
      exact W.widen (k := cells + 57) (n := slots + 212) (by omega) (by omega) (kk _ _ _ _ _ _ _ hR hB (lv_sub hl [2, 3, 4, 5, 6, 7] rfl))
set_option maxRecDepth 100000 in
set_option maxHeartbeats 4000000 in
theorem lwC_21 {p : Program} {l : Launch} {e : Env} {s : State} {m : MethodId} {args : Array Value} {below : List Frame} {meth : Method} {c : Code} {H : Heap} {locs : List Loc} {cells slots : Nat} {Q : State → Prop} {ls : Array Slot} {D : va_G} {A : Nat → Prop} {k0 : Cond} {cI cJ cQ cD : ClassId} {ad am : Nat → Nat} {ra : Nat → Nat → Nat} {adK adV tK : Nat → Nat} {b L o1 o2 : Nat} {xs : Nat → Int32} {f : Nat → Int64} {g : Nat → UInt64} {σ : MS} {τ : CS} {i : Int32} {Rel : MS → CS → Prop} (HR : LawOK Rel) (hl9 : l.stackTraces = false) (S : CallFix p m c cL_law 9 s args (k0 :: wsL_law) RL) (hK : va_K D vwCl [(cI, .int), (cJ, .long), (cQ, .array .long), (cD, .double)] s) (hKS : wKS adK adV tK A s) (hA : ∀ q, s.heap.size ≤ q → A q) (hX : va_X b L xs s s.heap) (hbl : b < s.heap.size) (hbA : ¬ A b) (hi : ∀ k : Int32, 0 ≤ k → k ≤ 5 → vp_in (i + k) L) (hc : cells + 57 ≤ room_1.cells) (hs : slots + 212 ≤ room_1.slots) (hR : Rel σ τ) (hB : gB D vwCl A s.heap (CW cI cJ cQ ad ra τ) (MW cI cJ am σ ++ [(o1, .inl (cJ, 1, .inr (.inl f))), (o2, .inl (cD, 1, .inr (.inr (.inr (.inl g)))))]) H locs) (hl : lv_has ls 9 [(5, .int i), (4, .ref o2), (3, .ref o1), (2, .ref (am 0)), (1, .ref (ad 0)), (0, .ref b)])
    (kk : ∀ (σ : MS) (τ : CS) (f : Nat → Int64) (g : Nat → UInt64) (H : Heap) (locs : List Loc) (ls : Array Slot), Rel σ τ → gB D vwCl A s.heap (CW cI cJ cQ ad ra τ) (MW cI cJ am σ ++ [(o1, .inl (cJ, 1, .inr (.inl f))), (o2, .inl (cD, 1, .inr (.inr (.inr (.inl g)))))]) H locs → lv_has ls 9 [(5, .int i), (4, .ref o2), (3, .ref o1), (2, .ref (am 0)), (1, .ref (ad 0)), (0, .ref b)] → W p l e room_1 s m args below meth c H locs (cells + 57) (slots + 212) Q (F0 m 1505 ls [])) : W p l e room_1 s m args below meth c H locs cells slots Q (F0 m 1415 ls []) := by
  refine lv_aload_n S.1 S.2.1 dL_law_1415 rfl (lv_at hl 4 rfl) ?_
  obtain ⟨rr, τ1, σ1, eC, eM, hR⟩ := HR.2.2.2.2.2.2.2.2.2.2.2.2.2.2.2.2.2.2.2.2.2.1 σ τ hR
  refine gCallV (ci := 10) S (hK.sub (tys' := [(cI, .int), (cJ, .long), (cQ, .array .long)]) [0, 1, 2] rfl) wKSc hKS hA (gMet.weak (kX10_ask eC) (fun _ _ q => q.1.1.1)) (cwL_166 S.2.2.2.2 (rm := rmX10_ask) rfl rfl ⟨(Nat.le_of_ble_eq_true rfl), (Nat.le_of_ble_eq_true rfl)⟩) hB 0 rfl rfl rfl hl.1 rfl (lv_room (Nat.le_of_ble_eq_true rfl)) dL_law_1416 ⟨by omega, by omega⟩ (fun H locs hB => ?_)
  refine lv_aload_n S.1 S.2.1 dL_law_1419 rfl (lv_at hl 3 rfl) ?_
  replace hB := lpM hB
  refine gCallV (ci := 11) S (hK.sub (tys' := [(cI, .int), (cJ, .long)]) [0, 1] rfl) wKSc hKS hA (gMet.weak (kX11_ask eM) (fun _ _ q => q.1.1.1.1.1)) (cwL_169 S.2.2.2.2 (rm := rmX11_ask) rfl rfl ⟨(Nat.le_of_ble_eq_true rfl), (Nat.le_of_ble_eq_true rfl)⟩) hB 0 rfl rfl rfl hl.1 rfl (lv_room (Nat.le_of_ble_eq_true rfl)) dL_law_1420 ⟨by omega, by omega⟩ (fun H locs hB => ?_)
  replace hB := lpM hB
  refine lv_icmp_eq (tgt := 1505) S.1 S.2.1 dL_law_1423 (by decide) (fun _ => ?_) (fun c9 => absurd rfl c9)
  exact W.widen (k := cells + 57) (n := slots + 212) (by omega) (by omega) (kk _ _ _ _ _ _ _ hR hB (lv_sub hl [0, 1, 2, 3, 4, 5] rfl))
set_option maxRecDepth 100000 in
set_option maxHeartbeats 4000000 in
theorem lwC_22 {p : Program} {l : Launch} {e : Env} {s : State} {m : MethodId} {args : Array Value} {below : List Frame} {meth : Method} {c : Code} {H : Heap} {locs : List Loc} {cells slots : Nat} {Q : State → Prop} {ls : Array Slot} {D : va_G} {A : Nat → Prop} {k0 : Cond} {cI cJ cQ cD : ClassId} {ad am : Nat → Nat} {ra : Nat → Nat → Nat} {adK adV tK : Nat → Nat} {b L o1 o2 : Nat} {xs : Nat → Int32} {f : Nat → Int64} {g : Nat → UInt64} {σ : MS} {τ : CS} {i : Int32} {Rel : MS → CS → Prop} (HR : LawOK Rel) (hl9 : l.stackTraces = false) (S : CallFix p m c cL_law 9 s args (k0 :: wsL_law) RL) (hK : va_K D vwCl [(cI, .int), (cJ, .long), (cQ, .array .long), (cD, .double)] s) (hKS : wKS adK adV tK A s) (hA : ∀ q, s.heap.size ≤ q → A q) (hX : va_X b L xs s s.heap) (hbl : b < s.heap.size) (hbA : ¬ A b) (hi : ∀ k : Int32, 0 ≤ k → k ≤ 5 → vp_in (i + k) L) (hc : cells + 57 ≤ room_1.cells) (hs : slots + 212 ≤ room_1.slots) (hR : Rel σ τ) (hB : gB D vwCl A s.heap (CW cI cJ cQ ad ra τ) (MW cI cJ am σ ++ [(o1, .inl (cJ, 1, .inr (.inl f))), (o2, .inl (cD, 1, .inr (.inr (.inr (.inl g)))))]) H locs) (hl : lv_has ls 9 [(5, .int i), (4, .ref o2), (3, .ref o1), (2, .ref (am 0)), (1, .ref (ad 0)), (0, .ref b)])
    (kk : ∀ (σ : MS) (τ : CS) (f : Nat → Int64) (g : Nat → UInt64) (H : Heap) (locs : List Loc) (ls : Array Slot), Rel σ τ → gB D vwCl A s.heap (CW cI cJ cQ ad ra τ) (MW cI cJ am σ ++ [(o1, .inl (cJ, 1, .inr (.inl f))), (o2, .inl (cD, 1, .inr (.inr (.inr (.inl g)))))]) H locs → lv_has ls 9 [(5, .int i), (4, .ref o2), (3, .ref o1), (2, .ref (am 0)), (1, .ref (ad 0)), (0, .ref b)] → W p l e room_1 s m args below meth c H locs (cells + 57) (slots + 212) Q (F0 m 1505 ls [])) : W p l e room_1 s m args below meth c H locs cells slots Q (F0 m 1428 ls []) := by
  refine lv_aload_n S.1 S.2.1 dL_law_1428 rfl (lv_at hl 4 rfl) ?_
  refine lv_aload_n S.1 S.2.1 dL_law_1429 rfl (lv_at hl 5 rfl) ?_
  refine lv_iload S.1 S.2.1 dL_law_1430 (lv_at hl 0 rfl) ?_
  refine lv_iconst (v := (1 : Int32)) S.1 S.2.1 dL_law_1432 (by decide) ?_
  refine lv_iadd S.1 S.2.1 dL_law_1433 ?_
  refine va_sld S.1 S.2.1 hX hbl hbA hB.2.2 (hi (1 : Int32) (by decide) (by decide)) dL_law_1434 ?_
  refine lv_aload_n S.1 S.2.1 dL_law_1435 rfl (lv_at hl 2 rfl) ?_
  obtain ⟨o, τ1, rr, bb, σ1, eC, eK, eM, eT, eA, hR⟩ := HR.2.2.2.2.2.2.2.2.2.2.2.2.2.2.2.2.2.2.2.2.2.2.1 σ τ hR (xs (i + (1 : Int32)).toNatClampNeg)
  replace hB := lpA hB
  refine gCallSW S (hK.sub (tys' := [(cI, .int), (cJ, .long), (cQ, .array .long)]) [0, 1, 2] rfl) wKSc hKS hA (kL_answer hl9 eC eK) (vx_cwSW 3 S.2.2.2.2 (gWSW wm_L_170 wst_L_answer wn_L wy_L_answer) rfl rfl rfl (by decide +kernel) ⟨(Nat.le_of_ble_eq_true rfl), (Nat.le_of_ble_eq_true rfl)⟩) hB rfl hl.1 rfl (lv_room (Nat.le_of_ble_eq_true rfl)) dL_law_1436 ⟨by omega, by omega⟩ (fun H locs hB => ?_)
  replace hB := lpA2 hB
  refine lv_istore (lv' := [(6, .int (rr)), (5, .int (i)), (4, .ref o2), (3, .ref o1), (2, .ref (am 0)), (1, .ref (ad 0)), (0, .ref b)]) S.1 S.2.1 dL_law_1439 hl (by decide) rfl (fun ls hl => ?_)
  refine lv_aload_n S.1 S.2.1 dL_law_1441 rfl (lv_at hl 4 rfl) ?_
  refine lv_aload_n S.1 S.2.1 dL_law_1442 rfl (lv_at hl 6 rfl) ?_
  refine lv_iload S.1 S.2.1 dL_law_1443 (lv_at hl 1 rfl) ?_
  refine lv_iconst (v := (1 : Int32)) S.1 S.2.1 dL_law_1445 (by decide) ?_
  refine lv_iadd S.1 S.2.1 dL_law_1446 ?_
  refine va_sld S.1 S.2.1 hX hbl hbA hB.2.2 (hi (1 : Int32) (by decide) (by decide)) dL_law_1447 ?_
  replace hB := lpM hB
  refine gCallV (ci := 11) S (hK.sub (tys' := [(cI, .int), (cJ, .long)]) [0, 1] rfl) wKSc hKS hA (kX11_answer wKSc eM) (cwL_172 S.2.2.2.2 (rm := rmX11_answer) rfl rfl ⟨(Nat.le_of_ble_eq_true rfl), (Nat.le_of_ble_eq_true rfl)⟩) hB 0 rfl rfl rfl hl.1 rfl (lv_room (Nat.le_of_ble_eq_true rfl)) dL_law_1448 ⟨by omega, by omega⟩ (fun H locs hB => ?_)
  replace hB := lpM hB
  refine lv_istore (lv' := [(7, .int (bb)), (6, .int (rr)), (5, .int (i)), (4, .ref o2), (3, .ref o1), (2, .ref (am 0)), (1, .ref (ad 0)), (0, .ref b)]) S.1 S.2.1 dL_law_1451 hl (by decide) rfl (fun ls hl => ?_)
  refine lv_aload_n S.1 S.2.1 dL_law_1453 rfl (lv_at hl 5 rfl) ?_
  replace hB := lpM hB
  refine gCallV (ci := 11) S (hK.sub (tys' := [(cI, .int), (cJ, .long)]) [0, 1] rfl) wKSc hKS hA (kX11_thrown wKSc (show FX11_thrown σ1 = some (σ1.1 0, σ1) from rfl)) (cwL_92 S.2.2.2.2 (rm := rmX11_thrown) rfl rfl ⟨(Nat.le_of_ble_eq_true rfl), (Nat.le_of_ble_eq_true rfl)⟩) hB 0 rfl rfl rfl hl.1 rfl (lv_room (Nat.le_of_ble_eq_true rfl)) dL_law_1454 ⟨by omega, by omega⟩ (fun H locs hB => ?_)
  replace hB := lpM hB
  refine lv_iload S.1 S.2.1 dL_law_1457 (lv_at hl 1 rfl) ?_
  refine lv_icmp_eq (tgt := 1464) S.1 S.2.1 dL_law_1459 (by decide) (fun _ => ?_) (fun c9 => absurd eT c9)
  refine lv_iload S.1 S.2.1 dL_law_1464 (lv_at hl 1 rfl) ?_
  refine lv_if_ne (tgt := 1488) S.1 S.2.1 dL_law_1466 (by decide) (fun c8 => ?_) (fun c8 => ?_)
  · refine lv_goto (tgt := 1505) S.1 S.2.1 dL_law_1488 (by decide) ?_
    exact W.widen (k := cells + 57) (n := slots + 212) (by omega) (by omega) (kk _ _ _ _ _ _ _ hR hB (lv_sub hl [2, 3, 4, 5, 6, 7] rfl))
  · have c8 : rr = 0 := by first | exact c8 | exact Classical.not_not.mp c8
    refine lv_aload_n S.1 S.2.1 dL_law_1469 rfl (lv_at hl 4 rfl) ?_
    refine lv_iconst (v := (0 : Int32)) S.1 S.2.1 dL_law_1470 (by decide) ?_
    refine gLald S hK (lpO hB) 0 1 rfl rfl (by unfold vp_in; decide) dL_law_1471 ?_
    refine lv_iload S.1 S.2.1 dL_law_1472 (lv_at hl 0 rfl) ?_
    refine lv_if_eq (tgt := 1481) S.1 S.2.1 dL_law_1474 (by decide) (fun cb1 => ?_) (fun cb1 => ?_)
    · refine lv_lconst (v := 0) S.1 S.2.1 dL_law_1481 (by decide) ?_
      refine W.lcmp S.1 S.2.1 dL_law_1482 ?_
      refine lv_if_eq (tgt := 1488) S.1 S.2.1 dL_law_1483 (by decide) (fun _ => ?_) (fun c9 => absurd (lc_eq.mpr (by rw [eA c8]; show (if bb = 0 then (0 : Int64) else 1) = _; rw [if_pos cb1])) c9)
      refine lv_goto (tgt := 1505) S.1 S.2.1 dL_law_1488 (by decide) ?_
      exact W.widen (k := cells + 57) (n := slots + 212) (by omega) (by omega) (kk _ _ _ _ _ _ _ hR hB (lv_sub hl [2, 3, 4, 5, 6, 7] rfl))
    · refine lv_lconst (v := 1) S.1 S.2.1 dL_law_1477 (by decide) ?_
      refine lv_goto (tgt := 1482) S.1 S.2.1 dL_law_1478 (by decide) ?_
      refine W.lcmp S.1 S.2.1 dL_law_1482 ?_
      refine lv_if_eq (tgt := 1488) S.1 S.2.1 dL_law_1483 (by decide) (fun _ => ?_) (fun c9 => absurd (lc_eq.mpr (by rw [eA c8]; show (if bb = 0 then (0 : Int64) else 1) = _; rw [if_neg cb1])) c9)
      refine lv_goto (tgt := 1505) S.1 S.2.1 dL_law_1488 (by decide) ?_
      exact W.widen (k := cells + 57) (n := slots + 212) (by omega) (by omega) (kk _ _ _ _ _ _ _ hR hB (lv_sub hl [2, 3, 4, 5, 6, 7] rfl))
set_option maxRecDepth 100000 in
set_option maxHeartbeats 4000000 in
theorem lwC_23 {p : Program} {l : Launch} {e : Env} {s : State} {m : MethodId} {args : Array Value} {below : List Frame} {meth : Method} {c : Code} {H : Heap} {locs : List Loc} {cells slots : Nat} {Q : State → Prop} {ls : Array Slot} {D : va_G} {A : Nat → Prop} {k0 : Cond} {cI cJ cQ cD : ClassId} {ad am : Nat → Nat} {ra : Nat → Nat → Nat} {adK adV tK : Nat → Nat} {b L o1 o2 : Nat} {xs : Nat → Int32} {f : Nat → Int64} {g : Nat → UInt64} {σ : MS} {τ : CS} {i : Int32} {Rel : MS → CS → Prop} (HR : LawOK Rel) (hl9 : l.stackTraces = false) (S : CallFix p m c cL_law 9 s args (k0 :: wsL_law) RL) (hK : va_K D vwCl [(cI, .int), (cJ, .long), (cQ, .array .long), (cD, .double)] s) (hKS : wKS adK adV tK A s) (hA : ∀ q, s.heap.size ≤ q → A q) (hX : va_X b L xs s s.heap) (hbl : b < s.heap.size) (hbA : ¬ A b) (hi : ∀ k : Int32, 0 ≤ k → k ≤ 5 → vp_in (i + k) L) (hc : cells + 57 ≤ room_1.cells) (hs : slots + 212 ≤ room_1.slots) (hR : Rel σ τ) (hB : gB D vwCl A s.heap (CW cI cJ cQ ad ra τ) (MW cI cJ am σ ++ [(o1, .inl (cJ, 1, .inr (.inl f))), (o2, .inl (cD, 1, .inr (.inr (.inr (.inl g)))))]) H locs) (hl : lv_has ls 9 [(5, .int i), (4, .ref o2), (3, .ref o1), (2, .ref (am 0)), (1, .ref (ad 0)), (0, .ref b)])
    (kk : ∀ (σ : MS) (τ : CS) (f : Nat → Int64) (g : Nat → UInt64) (H : Heap) (locs : List Loc) (ls : Array Slot), Rel σ τ → gB D vwCl A s.heap (CW cI cJ cQ ad ra τ) (MW cI cJ am σ ++ [(o1, .inl (cJ, 1, .inr (.inl f))), (o2, .inl (cD, 1, .inr (.inr (.inr (.inl g)))))]) H locs → lv_has ls 9 [(5, .int i), (4, .ref o2), (3, .ref o1), (2, .ref (am 0)), (1, .ref (ad 0)), (0, .ref b)] → W p l e room_1 s m args below meth c H locs (cells + 57) (slots + 212) Q (F0 m 1505 ls [])) : W p l e room_1 s m args below meth c H locs cells slots Q (F0 m 1491 ls []) := by
  refine lv_aload_n S.1 S.2.1 dL_law_1491 rfl (lv_at hl 4 rfl) ?_
  obtain ⟨rr, τ1, σ1, eC, eM, hR⟩ := HR.2.2.2.2.2.2.2.2.2.2.2.2.2.2.2.2.2.2.2.2.2.2.2 σ τ hR
  refine gCallV (ci := 10) S (hK.sub (tys' := [(cI, .int), (cJ, .long), (cQ, .array .long)]) [0, 1, 2] rfl) wKSc hKS hA (gMet.weak (kX10_digest eC) (fun _ _ q => q.1.1.1)) (cwL_173 S.2.2.2.2 (rm := rmX10_digest) rfl rfl ⟨(Nat.le_of_ble_eq_true rfl), (Nat.le_of_ble_eq_true rfl)⟩) hB 0 rfl rfl rfl hl.1 rfl (lv_room (Nat.le_of_ble_eq_true rfl)) dL_law_1492 ⟨by omega, by omega⟩ (fun H locs hB => ?_)
  refine lv_aload_n S.1 S.2.1 dL_law_1495 rfl (lv_at hl 3 rfl) ?_
  replace hB := lpM hB
  refine gCallV (ci := 11) S (hK.sub (tys' := [(cI, .int), (cJ, .long)]) [0, 1] rfl) wKSc hKS hA (kX11_digest wKSc eM) (cwL_177 S.2.2.2.2 (rm := rmX11_digest) rfl rfl ⟨(Nat.le_of_ble_eq_true rfl), (Nat.le_of_ble_eq_true rfl)⟩) hB 0 rfl rfl rfl hl.1 rfl (lv_room (Nat.le_of_ble_eq_true rfl)) dL_law_1496 ⟨by omega, by omega⟩ (fun H locs hB => ?_)
  replace hB := lpM hB
  refine W.lcmp S.1 S.2.1 dL_law_1499 ?_
  refine lv_if_eq (tgt := 1505) S.1 S.2.1 dL_law_1500 (by decide) (fun _ => ?_) (fun c9 => absurd (lc_eq.mpr rfl) c9)
  exact W.widen (k := cells + 57) (n := slots + 212) (by omega) (by omega) (kk _ _ _ _ _ _ _ hR hB (lv_sub hl [0, 1, 2, 3, 4, 5] rfl))
