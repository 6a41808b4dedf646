theorem lg_same (x : Int64) : lg_cmp x x = 0 := by simp [lg_cmp]
section
variable {p : Program} {l : Launch} {e : Env} {s : State} {m : MethodId} {below : List Frame} {meth : Method} {c : Code} {D : va_G} {cy : Nat → ClassId} {st : Nat → Nat} {b L : Nat} {xs : Nat → Int32} {Q : State → Prop}
set_option maxRecDepth 100000 in
set_option maxHeartbeats 4000000 in
theorem lk_0 (C : mx p s m #[Value.ref b] meth c ⟨"ManyHandsLaw", meth.name, ""⟩ cL_law 4 (some .boolean) (fun q => s.heap.size ≤ q) D cy st) (hX : va_X b L xs s s.heap) (hbl : b < s.heap.size) {x mm sz ns sz9 ns9 : Nat} {shC shM shC9 : Sh} {dC dM dC9 dM9 : Dt} {iv : Int32} {r : Int32} {cu su : Nat} (kx : shC.1 x = 8) (km : shM.1 mm = 9) (fx : fX6_hand (st 1) (st 2) x  sz ns shC dC = some (r, sz9, ns9, shC9, dC9)) (fm : fX7_hand shM dM mm  = some (r, dM9)) (hcu : cu + (sz9 - sz) ≤ 600000) (hsu : su + (ns9 - ns) ≤ 7302250) {H : Heap} {locs : List Loc} {ls : Array Slot} (hw : LW2 s.heap.size sz D cy shC dC shM dM H) (hS : va_S (fun q => s.heap.size ≤ q) s.heap H locs) (hl : lv_has ls 4 [(0, .ref b), (1, .ref x), (2, .ref mm), (3, .int iv)])
    (kk : ∀ (H : Heap) (locs : List Loc) (ls : Array Slot), LW2 s.heap.size sz9 D cy shC9 dC9 shM dM9 H → va_S (fun q => s.heap.size ≤ q) s.heap H locs → lv_has ls 4 [(3, .int (iv + 6)), (0, .ref b), (1, .ref x), (2, .ref mm)] → W p l e room_1 s m #[Value.ref b] below meth c H locs (cu + (sz9 - sz)) (su + (ns9 - ns)) Q (F0 m 18 ls [])) : W p l e room_1 s m #[Value.ref b] below meth c H locs cu su Q (F0 m 204 ls []) := by
  have hx := C.1
  have hb := C.2.1
  refine lv_aload_n hx hb dL_law_204 rfl (lv_at hl 1 rfl) ?_
  refine lx_V C hw hS (fun A => tX6_hand l A D cy st x  sz ns shC dC fx) cvX6_hand kw_103 kx ⟨(Nat.le_of_ble_eq_true rfl), (Nat.le_of_ble_eq_true rfl)⟩ hl.1 rfl (Nat.le_of_ble_eq_true rfl) dL_law_205 ⟨hcu, hsu⟩ (fun H locs hw hS => ?_)
  refine lv_aload_n hx hb dL_law_208 rfl (lv_at hl 2 rfl) ?_
  refine lx_V0 C hw.swap hS (fun A => tX7_hand l A D cy st sz9 shM dM mm  fm) cvX7_hand kw_893 km ⟨(Nat.le_of_ble_eq_true rfl), (Nat.le_of_ble_eq_true rfl)⟩ hl.1 rfl (Nat.le_of_ble_eq_true rfl) dL_law_209 ⟨hcu, hsu⟩ (fun H locs hw hS => ?_)
  have hw := hw.swap
  refine lv_icmp_eq (tgt := 1715) hx hb dL_law_212 (by decide) (fun _ => ?_) (fun c9 => absurd rfl c9)
  refine lv_iinc (v := iv + 6) (lv' := [(3, .int (iv + 6)), (0, .ref b), (1, .ref x), (2, .ref mm)]) hx hb dL_law_1715 hl (k := 3) rfl rfl (by decide) rfl (fun ls hl => ?_)
  refine lv_goto (tgt := 18) hx hb dL_law_1718 (by decide) ?_
  exact kk _ _ _ hw hS hl
set_option maxRecDepth 100000 in
set_option maxHeartbeats 4000000 in
theorem lk_1 (C : mx p s m #[Value.ref b] meth c ⟨"ManyHandsLaw", meth.name, ""⟩ cL_law 4 (some .boolean) (fun q => s.heap.size ≤ q) D cy st) (hX : va_X b L xs s s.heap) (hbl : b < s.heap.size) {x mm sz ns sz9 ns9 : Nat} {shC shM shC9 : Sh} {dC dM dC9 dM9 : Dt} {iv : Int32} {r : Int32} {cu su : Nat} (i1 : vp_in (iv + 1) L) (kx : shC.1 x = 8) (km : shM.1 mm = 9) (fx : fX6_page (st 1) (st 2) x (xs (iv + 1).toNatClampNeg) sz ns shC dC = some (r, sz9, ns9, shC9, dC9)) (fm : fX7_page shM dM mm (xs (iv + 1).toNatClampNeg) = some (r, dM9)) (hcu : cu + (sz9 - sz) ≤ 600000) (hsu : su + (ns9 - ns) ≤ 7302250) {H : Heap} {locs : List Loc} {ls : Array Slot} (hw : LW2 s.heap.size sz D cy shC dC shM dM H) (hS : va_S (fun q => s.heap.size ≤ q) s.heap H locs) (hl : lv_has ls 4 [(0, .ref b), (1, .ref x), (2, .ref mm), (3, .int iv)])
    (kk : ∀ (H : Heap) (locs : List Loc) (ls : Array Slot), LW2 s.heap.size sz9 D cy shC9 dC9 shM dM9 H → va_S (fun q => s.heap.size ≤ q) s.heap H locs → lv_has ls 4 [(3, .int (iv + 6)), (0, .ref b), (1, .ref x), (2, .ref mm)] → W p l e room_1 s m #[Value.ref b] below meth c H locs (cu + (sz9 - sz)) (su + (ns9 - ns)) Q (F0 m 18 ls [])) : W p l e room_1 s m #[Value.ref b] below meth c H locs cu su Q (F0 m 217 ls []) := by
  have hx := C.1
  have hb := C.2.1
  refine lv_aload_n hx hb dL_law_217 rfl (lv_at hl 1 rfl) ?_
  refine lv_aload_n hx hb dL_law_218 rfl (lv_at hl 0 rfl) ?_
  refine lv_iload_n hx hb dL_law_219 rfl (lv_at hl 3 rfl) ?_
  refine lv_iconst (v := 1) hx hb dL_law_220 (by decide) ?_
  refine lv_iadd hx hb dL_law_221 ?_
  refine va_sld hx hb hX hbl (Nat.not_le.mpr hbl) hS i1 dL_law_222 ?_
  refine lx_V C hw hS (fun A => tX6_page l A D cy st x (xs (iv + 1).toNatClampNeg) sz ns shC dC fx) cvX6_page kw_179 kx ⟨(Nat.le_of_ble_eq_true rfl), (Nat.le_of_ble_eq_true rfl)⟩ hl.1 rfl (Nat.le_of_ble_eq_true rfl) dL_law_223 ⟨hcu, hsu⟩ (fun H locs hw hS => ?_)
  refine lv_aload_n hx hb dL_law_226 rfl (lv_at hl 2 rfl) ?_
  refine lv_aload_n hx hb dL_law_227 rfl (lv_at hl 0 rfl) ?_
  refine lv_iload_n hx hb dL_law_228 rfl (lv_at hl 3 rfl) ?_
  refine lv_iconst (v := 1) hx hb dL_law_229 (by decide) ?_
  refine lv_iadd hx hb dL_law_230 ?_
  refine va_sld hx hb hX hbl (Nat.not_le.mpr hbl) hS i1 dL_law_231 ?_
  refine lx_V0 C hw.swap hS (fun A => tX7_page l A D cy st sz9 shM dM mm (xs (iv + 1).toNatClampNeg) fm) cvX7_page kw_897 km ⟨(Nat.le_of_ble_eq_true rfl), (Nat.le_of_ble_eq_true rfl)⟩ hl.1 rfl (Nat.le_of_ble_eq_true rfl) dL_law_232 ⟨hcu, hsu⟩ (fun H locs hw hS => ?_)
  have hw := hw.swap
  refine lv_icmp_eq (tgt := 1715) hx hb dL_law_235 (by decide) (fun _ => ?_) (fun c9 => absurd rfl c9)
  refine lv_iinc (v := iv + 6) (lv' := [(3, .int (iv + 6)), (0, .ref b), (1, .ref x), (2, .ref mm)]) hx hb dL_law_1715 hl (k := 3) rfl rfl (by decide) rfl (fun ls hl => ?_)
  refine lv_goto (tgt := 18) hx hb dL_law_1718 (by decide) ?_
  exact kk _ _ _ hw hS hl
set_option maxRecDepth 100000 in
set_option maxHeartbeats 4000000 in
theorem lk_2 (C : mx p s m #[Value.ref b] meth c ⟨"ManyHandsLaw", meth.name, ""⟩ cL_law 4 (some .boolean) (fun q => s.heap.size ≤ q) D cy st) (hX : va_X b L xs s s.heap) (hbl : b < s.heap.size) {x mm sz : Nat} {shC shM : Sh} {dC dM : Dt} {iv : Int32} {r : Int32} {cu su : Nat} (i1 : vp_in (iv + 1) L) (i2 : vp_in (iv + 2) L) (kx : shC.1 x = 8) (km : shM.1 mm = 9) (fx : fX6_is shC dC x (xs (iv + 1).toNatClampNeg) (xs (iv + 2).toNatClampNeg) = some r) (fm : fX7_is shM dM mm (xs (iv + 1).toNatClampNeg) (xs (iv + 2).toNatClampNeg) = some r) (hcu : cu ≤ 600000) (hsu : su ≤ 7302250) {H : Heap} {locs : List Loc} {ls : Array Slot} (hw : LW2 s.heap.size sz D cy shC dC shM dM H) (hS : va_S (fun q => s.heap.size ≤ q) s.heap H locs) (hl : lv_has ls 4 [(0, .ref b), (1, .ref x), (2, .ref mm), (3, .int iv)])
    (kk : ∀ (H : Heap) (locs : List Loc) (ls : Array Slot), LW2 s.heap.size sz D cy shC dC shM dM H → va_S (fun q => s.heap.size ≤ q) s.heap H locs → lv_has ls 4 [(3, .int (iv + 6)), (0, .ref b), (1, .ref x), (2, .ref mm)] → W p l e room_1 s m #[Value.ref b] below meth c H locs (cu) (su) Q (F0 m 18 ls [])) : W p l e room_1 s m #[Value.ref b] below meth c H locs cu su Q (F0 m 240 ls []) := by
  have hx := C.1
  have hb := C.2.1
  refine lv_aload_n hx hb dL_law_240 rfl (lv_at hl 1 rfl) ?_
  refine lv_aload_n hx hb dL_law_241 rfl (lv_at hl 0 rfl) ?_
  refine lv_iload_n hx hb dL_law_242 rfl (lv_at hl 3 rfl) ?_
  refine lv_iconst (v := 1) hx hb dL_law_243 (by decide) ?_
  refine lv_iadd hx hb dL_law_244 ?_
  refine va_sld hx hb hX hbl (Nat.not_le.mpr hbl) hS i1 dL_law_245 ?_
  refine lv_aload_n hx hb dL_law_246 rfl (lv_at hl 0 rfl) ?_
  refine lv_iload_n hx hb dL_law_247 rfl (lv_at hl 3 rfl) ?_
  refine lv_iconst (v := 2) hx hb dL_law_248 (by decide) ?_
  refine lv_iadd hx hb dL_law_249 ?_
  refine va_sld hx hb hX hbl (Nat.not_le.mpr hbl) hS i2 dL_law_250 ?_
  refine lx_V0 C hw hS (fun A => tX6_is l A D cy st sz shC dC x (xs (iv + 1).toNatClampNeg) (xs (iv + 2).toNatClampNeg) fx) cvX6_is kw_212 kx ⟨(Nat.le_of_ble_eq_true rfl), (Nat.le_of_ble_eq_true rfl)⟩ hl.1 rfl (Nat.le_of_ble_eq_true rfl) dL_law_251 ⟨hcu, hsu⟩ (fun H locs hw hS => ?_)
  refine lv_aload_n hx hb dL_law_254 rfl (lv_at hl 2 rfl) ?_
  refine lv_aload_n hx hb dL_law_255 rfl (lv_at hl 0 rfl) ?_
  refine lv_iload_n hx hb dL_law_256 rfl (lv_at hl 3 rfl) ?_
  refine lv_iconst (v := 1) hx hb dL_law_257 (by decide) ?_
  refine lv_iadd hx hb dL_law_258 ?_
  refine va_sld hx hb hX hbl (Nat.not_le.mpr hbl) hS i1 dL_law_259 ?_
  refine lv_aload_n hx hb dL_law_260 rfl (lv_at hl 0 rfl) ?_
  refine lv_iload_n hx hb dL_law_261 rfl (lv_at hl 3 rfl) ?_
  refine lv_iconst (v := 2) hx hb dL_law_262 (by decide) ?_
  refine lv_iadd hx hb dL_law_263 ?_
  refine va_sld hx hb hX hbl (Nat.not_le.mpr hbl) hS i2 dL_law_264 ?_
  refine lx_V0 C hw.swap hS (fun A => tX7_is l A D cy st sz shM dM mm (xs (iv + 1).toNatClampNeg) (xs (iv + 2).toNatClampNeg) fm) cvX7_is kw_901 km ⟨(Nat.le_of_ble_eq_true rfl), (Nat.le_of_ble_eq_true rfl)⟩ hl.1 rfl (Nat.le_of_ble_eq_true rfl) dL_law_265 ⟨hcu, hsu⟩ (fun H locs hw hS => ?_)
  have hw := hw.swap
  refine lv_icmp_eq (tgt := 1715) hx hb dL_law_268 (by decide) (fun _ => ?_) (fun c9 => absurd rfl c9)
  refine lv_iinc (v := iv + 6) (lv' := [(3, .int (iv + 6)), (0, .ref b), (1, .ref x), (2, .ref mm)]) hx hb dL_law_1715 hl (k := 3) rfl rfl (by decide) rfl (fun ls hl => ?_)
  refine lv_goto (tgt := 18) hx hb dL_law_1718 (by decide) ?_
  exact kk _ _ _ hw hS hl
set_option maxRecDepth 100000 in
set_option maxHeartbeats 4000000 in
theorem lk_3 (C : mx p s m #[Value.ref b] meth c ⟨"ManyHandsLaw", meth.name, ""⟩ cL_law 4 (some .boolean) (fun q => s.heap.size ≤ q) D cy st) (hX : va_X b L xs s s.heap) (hbl : b < s.heap.size) {x mm sz : Nat} {shC shM : Sh} {dC dM dC9 dM9 : Dt} {iv : Int32} {r : Int32} {cu su : Nat} (i1 : vp_in (iv + 1) L) (i2 : vp_in (iv + 2) L) (i3 : vp_in (iv + 3) L) (kx : shC.1 x = 8) (km : shM.1 mm = 9) (fx : fX6_keep shC dC x (xs (iv + 1).toNatClampNeg) (xs (iv + 2).toNatClampNeg) (if xs (iv + 3).toNatClampNeg = 0 then (0 : Int32) else 1) = some (r, dC9)) (fm : fX7_keep shM dM mm (xs (iv + 1).toNatClampNeg) (xs (iv + 2).toNatClampNeg) (if xs (iv + 3).toNatClampNeg = 0 then (0 : Int32) else 1) = some (r, dM9)) (hcu : cu ≤ 600000) (hsu : su ≤ 7302250) {H : Heap} {locs : List Loc} {ls : Array Slot} (hw : LW2 s.heap.size sz D cy shC dC shM dM H) (hS : va_S (fun q => s.heap.size ≤ q) s.heap H locs) (hl : lv_has ls 4 [(0, .ref b), (1, .ref x), (2, .ref mm), (3, .int iv)])
    (kk : ∀ (H : Heap) (locs : List Loc) (ls : Array Slot), LW2 s.heap.size sz D cy shC dC9 shM dM9 H → va_S (fun q => s.heap.size ≤ q) s.heap H locs → lv_has ls 4 [(3, .int (iv + 6)), (0, .ref b), (1, .ref x), (2, .ref mm)] → W p l e room_1 s m #[Value.ref b] below meth c H locs (cu) (su) Q (F0 m 18 ls [])) : W p l e room_1 s m #[Value.ref b] below meth c H locs cu su Q (F0 m 273 ls []) := by
  have hx := C.1
  have hb := C.2.1
  refine lv_aload_n hx hb dL_law_273 rfl (lv_at hl 1 rfl) ?_
  refine lv_aload_n hx hb dL_law_274 rfl (lv_at hl 0 rfl) ?_
  refine lv_iload_n hx hb dL_law_275 rfl (lv_at hl 3 rfl) ?_
  refine lv_iconst (v := 1) hx hb dL_law_276 (by decide) ?_
  refine lv_iadd hx hb dL_law_277 ?_
  refine va_sld hx hb hX hbl (Nat.not_le.mpr hbl) hS i1 dL_law_278 ?_
  refine lv_aload_n hx hb dL_law_279 rfl (lv_at hl 0 rfl) ?_
  refine lv_iload_n hx hb dL_law_280 rfl (lv_at hl 3 rfl) ?_
  refine lv_iconst (v := 2) hx hb dL_law_281 (by decide) ?_
  refine lv_iadd hx hb dL_law_282 ?_
  refine va_sld hx hb hX hbl (Nat.not_le.mpr hbl) hS i2 dL_law_283 ?_
  refine lv_aload_n hx hb dL_law_284 rfl (lv_at hl 0 rfl) ?_
  refine lv_iload_n hx hb dL_law_285 rfl (lv_at hl 3 rfl) ?_
  refine lv_iconst (v := 3) hx hb dL_law_286 (by decide) ?_
  refine lv_iadd hx hb dL_law_287 ?_
  refine va_sld hx hb hX hbl (Nat.not_le.mpr hbl) hS i3 dL_law_288 ?_
  refine lv_if_eq (tgt := 296) hx hb dL_law_289 (by decide) (fun cb => ?_) (fun cb => ?_)
  · rw [if_pos cb] at fx fm
    refine lv_iconst (v := 0) hx hb dL_law_296 (by decide) ?_
    refine lx_V0 C hw hS (fun A => tX6_keep l A D cy st sz shC dC x (xs (iv + 1).toNatClampNeg) (xs (iv + 2).toNatClampNeg) (0 : Int32) fx) cvX6_keep kw_229 kx ⟨(Nat.le_of_ble_eq_true rfl), (Nat.le_of_ble_eq_true rfl)⟩ hl.1 rfl (Nat.le_of_ble_eq_true rfl) dL_law_297 ⟨hcu, hsu⟩ (fun H locs hw hS => ?_)
    refine lv_aload_n hx hb dL_law_300 rfl (lv_at hl 2 rfl) ?_
    refine lv_aload_n hx hb dL_law_301 rfl (lv_at hl 0 rfl) ?_
    refine lv_iload_n hx hb dL_law_302 rfl (lv_at hl 3 rfl) ?_
    refine lv_iconst (v := 1) hx hb dL_law_303 (by decide) ?_
    refine lv_iadd hx hb dL_law_304 ?_
    refine va_sld hx hb hX hbl (Nat.not_le.mpr hbl) hS i1 dL_law_305 ?_
    refine lv_aload_n hx hb dL_law_306 rfl (lv_at hl 0 rfl) ?_
    refine lv_iload_n hx hb dL_law_307 rfl (lv_at hl 3 rfl) ?_
    refine lv_iconst (v := 2) hx hb dL_law_308 (by decide) ?_
    refine lv_iadd hx hb dL_law_309 ?_
    refine va_sld hx hb hX hbl (Nat.not_le.mpr hbl) hS i2 dL_law_310 ?_
    refine lv_aload_n hx hb dL_law_311 rfl (lv_at hl 0 rfl) ?_
    refine lv_iload_n hx hb dL_law_312 rfl (lv_at hl 3 rfl) ?_
    refine lv_iconst (v := 3) hx hb dL_law_313 (by decide) ?_
    refine lv_iadd hx hb dL_law_314 ?_
    refine va_sld hx hb hX hbl (Nat.not_le.mpr hbl) hS i3 dL_law_315 ?_
    refine lv_if_eq (tgt := 323) hx hb dL_law_316 (by decide) (fun _ => ?_) (fun c2 => absurd cb c2)
    refine lv_iconst (v := 0) hx hb dL_law_323 (by decide) ?_
    refine lx_V0 C hw.swap hS (fun A => tX7_keep l A D cy st sz shM dM mm (xs (iv + 1).toNatClampNeg) (xs (iv + 2).toNatClampNeg) (0 : Int32) fm) cvX7_keep kw_913 km ⟨(Nat.le_of_ble_eq_true rfl), (Nat.le_of_ble_eq_true rfl)⟩ hl.1 rfl (Nat.le_of_ble_eq_true rfl) dL_law_324 ⟨hcu, hsu⟩ (fun H locs hw hS => ?_)
    have hw := hw.swap
    refine lv_icmp_eq (tgt := 1715) hx hb dL_law_327 (by decide) (fun _ => ?_) (fun c9 => absurd rfl c9)
    refine lv_iinc (v := iv + 6) (lv' := [(3, .int (iv + 6)), (0, .ref b), (1, .ref x), (2, .ref mm)]) hx hb dL_law_1715 hl (k := 3) rfl rfl (by decide) rfl (fun ls hl => ?_)
    refine lv_goto (tgt := 18) hx hb dL_law_1718 (by decide) ?_
    exact kk _ _ _ hw hS hl
  · rw [if_neg cb] at fx fm
    refine lv_iconst (v := 1) hx hb dL_law_292 (by decide) ?_
    refine lv_goto (tgt := 297) hx hb dL_law_293 (by decide) ?_
    refine lx_V0 C hw hS (fun A => tX6_keep l A D cy st sz shC dC x (xs (iv + 1).toNatClampNeg) (xs (iv + 2).toNatClampNeg) (1 : Int32) fx) cvX6_keep kw_229 kx ⟨(Nat.le_of_ble_eq_true rfl), (Nat.le_of_ble_eq_true rfl)⟩ hl.1 rfl (Nat.le_of_ble_eq_true rfl) dL_law_297 ⟨hcu, hsu⟩ (fun H locs hw hS => ?_)
    refine lv_aload_n hx hb dL_law_300 rfl (lv_at hl 2 rfl) ?_
    refine lv_aload_n hx hb dL_law_301 rfl (lv_at hl 0 rfl) ?_
    refine lv_iload_n hx hb dL_law_302 rfl (lv_at hl 3 rfl) ?_
    refine lv_iconst (v := 1) hx hb dL_law_303 (by decide) ?_
    refine lv_iadd hx hb dL_law_304 ?_
    refine va_sld hx hb hX hbl (Nat.not_le.mpr hbl) hS i1 dL_law_305 ?_
    refine lv_aload_n hx hb dL_law_306 rfl (lv_at hl 0 rfl) ?_
    refine lv_iload_n hx hb dL_law_307 rfl (lv_at hl 3 rfl) ?_
    refine lv_iconst (v := 2) hx hb dL_law_308 (by decide) ?_
    refine lv_iadd hx hb dL_law_309 ?_
    refine va_sld hx hb hX hbl (Nat.not_le.mpr hbl) hS i2 dL_law_310 ?_
    refine lv_aload_n hx hb dL_law_311 rfl (lv_at hl 0 rfl) ?_
    refine lv_iload_n hx hb dL_law_312 rfl (lv_at hl 3 rfl) ?_
    refine lv_iconst (v := 3) hx hb dL_law_313 (by decide) ?_
    refine lv_iadd hx hb dL_law_314 ?_
    refine va_sld hx hb hX hbl (Nat.not_le.mpr hbl) hS i3 dL_law_315 ?_
    refine lv_if_eq (tgt := 323) hx hb dL_law_316 (by decide) (fun c2 => absurd c2 cb) (fun _ => ?_)
    refine lv_iconst (v := 1) hx hb dL_law_319 (by decide) ?_
    refine lv_goto (tgt := 324) hx hb dL_law_320 (by decide) ?_
    refine lx_V0 C hw.swap hS (fun A => tX7_keep l A D cy st sz shM dM mm (xs (iv + 1).toNatClampNeg) (xs (iv + 2).toNatClampNeg) (1 : Int32) fm) cvX7_keep kw_913 km ⟨(Nat.le_of_ble_eq_true rfl), (Nat.le_of_ble_eq_true rfl)⟩ hl.1 rfl (Nat.le_of_ble_eq_true rfl) dL_law_324 ⟨hcu, hsu⟩ (fun H locs hw hS => ?_)
    have hw := hw.swap
    refine lv_icmp_eq (tgt := 1715) hx hb dL_law_327 (by decide) (fun _ => ?_) (fun c9 => absurd rfl c9)
    refine lv_iinc (v := iv + 6) (lv' := [(3, .int (iv + 6)), (0, .ref b), (1, .ref x), (2, .ref mm)]) hx hb dL_law_1715 hl (k := 3) rfl rfl (by decide) rfl (fun ls hl => ?_)
    refine lv_goto (tgt := 18) hx hb dL_law_1718 (by decide) ?_
    exact kk _ _ _ hw hS hl
set_option maxRecDepth 100000 in
set_option maxHeartbeats 4000000 in
theorem lk_4 (C : mx p s m #[Value.ref b] meth c ⟨"ManyHandsLaw", meth.name, ""⟩ cL_law 4 (some .boolean) (fun q => s.heap.size ≤ q) D cy st) (hX : va_X b L xs s s.heap) (hbl : b < s.heap.size) {x mm sz ns sz9 ns9 : Nat} {shC shM shC9 : Sh} {dC dM dC9 dM9 : Dt} {iv : Int32} {r : Int32} {cu su : Nat} (i1 : vp_in (iv + 1) L) (i2 : vp_in (iv + 2) L) (i3 : vp_in (iv + 3) L) (i4 : vp_in (iv + 4) L) (kx : shC.1 x = 8) (km : shM.1 mm = 9) (fx : fX6_write (st 1) (st 2) x (xs (iv + 1).toNatClampNeg) (xs (iv + 2).toNatClampNeg) ((xs (iv + 3).toNatClampNeg).toInt64 <<< ((32 : Int32).toInt64 &&& 63) ||| (xs (iv + 4).toNatClampNeg).toInt64 &&& (4294967295 : Int64)) sz ns shC dC = some (r, sz9, ns9, shC9, dC9)) (fm : fX7_write shM dM mm (xs (iv + 1).toNatClampNeg) (xs (iv + 2).toNatClampNeg) ((xs (iv + 3).toNatClampNeg).toInt64 <<< ((32 : Int32).toInt64 &&& 63) ||| (xs (iv + 4).toNatClampNeg).toInt64 &&& (4294967295 : Int64)) = some (r, dM9)) (hcu : cu + (sz9 - sz) ≤ 600000) (hsu : su + (ns9 - ns) ≤ 7302250) {H : Heap} {locs : List Loc} {ls : Array Slot} (hw : LW2 s.heap.size sz D cy shC dC shM dM H) (hS : va_S (fun q => s.heap.size ≤ q) s.heap H locs) (hl : lv_has ls 4 [(0, .ref b), (1, .ref x), (2, .ref mm), (3, .int iv)])
    (kk : ∀ (H : Heap) (locs : List Loc) (ls : Array Slot), LW2 s.heap.size sz9 D cy shC9 dC9 shM dM9 H → va_S (fun q => s.heap.size ≤ q) s.heap H locs → lv_has ls 4 [(3, .int (iv + 6)), (0, .ref b), (1, .ref x), (2, .ref mm)] → W p l e room_1 s m #[Value.ref b] below meth c H locs (cu + (sz9 - sz)) (su + (ns9 - ns)) Q (F0 m 18 ls [])) : W p l e room_1 s m #[Value.ref b] below meth c H locs cu su Q (F0 m 332 ls []) := by
  have hx := C.1
  have hb := C.2.1
  refine lv_aload_n hx hb dL_law_332 rfl (lv_at hl 1 rfl) ?_
  refine lv_aload_n hx hb dL_law_333 rfl (lv_at hl 0 rfl) ?_
  refine lv_iload_n hx hb dL_law_334 rfl (lv_at hl 3 rfl) ?_
  refine lv_iconst (v := 1) hx hb dL_law_335 (by decide) ?_
  refine lv_iadd hx hb dL_law_336 ?_
  refine va_sld hx hb hX hbl (Nat.not_le.mpr hbl) hS i1 dL_law_337 ?_
  refine lv_aload_n hx hb dL_law_338 rfl (lv_at hl 0 rfl) ?_
  refine lv_iload_n hx hb dL_law_339 rfl (lv_at hl 3 rfl) ?_
  refine lv_iconst (v := 2) hx hb dL_law_340 (by decide) ?_
  refine lv_iadd hx hb dL_law_341 ?_
  refine va_sld hx hb hX hbl (Nat.not_le.mpr hbl) hS i2 dL_law_342 ?_
  refine lv_aload_n hx hb dL_law_343 rfl (lv_at hl 0 rfl) ?_
  refine lv_iload_n hx hb dL_law_344 rfl (lv_at hl 3 rfl) ?_
  refine lv_iconst (v := 3) hx hb dL_law_345 (by decide) ?_
  refine lv_iadd hx hb dL_law_346 ?_
  refine va_sld hx hb hX hbl (Nat.not_le.mpr hbl) hS i3 dL_law_347 ?_
  refine lv_i2l hx hb dL_law_348 rfl ?_
  refine lv_bipush (v := 32) hx hb dL_law_349 (by decide) ?_
  refine lv_lshl hx hb dL_law_351 rfl ?_
  refine lv_aload_n hx hb dL_law_352 rfl (lv_at hl 0 rfl) ?_
  refine lv_iload_n hx hb dL_law_353 rfl (lv_at hl 3 rfl) ?_
  refine lv_iconst (v := 4) hx hb dL_law_354 (by decide) ?_
  refine lv_iadd hx hb dL_law_355 ?_
  refine va_sld hx hb hX hbl (Nat.not_le.mpr hbl) hS i4 dL_law_356 ?_
  refine lv_i2l hx hb dL_law_357 rfl ?_
  refine lv_ldc2 (v := 4294967295) hx hb C.2.2.2.2.2.1 (C.2.2.2.2.1 _ kw_1177) dL_law_358 ?_
  refine lv_land hx hb dL_law_361 ?_
  refine lv_lor hx hb dL_law_362 ?_
  refine lx_V C hw hS (fun A => tX6_write l A D cy st x (xs (iv + 1).toNatClampNeg) (xs (iv + 2).toNatClampNeg) (((xs (iv + 3).toNatClampNeg).toInt64 <<< ((32 : Int32).toInt64 &&& 63)) ||| ((xs (iv + 4).toNatClampNeg).toInt64 &&& (4294967295 : Int64))) sz ns shC dC fx) cvX6_write kw_237 kx ⟨(Nat.le_of_ble_eq_true rfl), (Nat.le_of_ble_eq_true rfl)⟩ hl.1 rfl (Nat.le_of_ble_eq_true rfl) dL_law_363 ⟨hcu, hsu⟩ (fun H locs hw hS => ?_)
  refine lv_aload_n hx hb dL_law_366 rfl (lv_at hl 2 rfl) ?_
  refine lv_aload_n hx hb dL_law_367 rfl (lv_at hl 0 rfl) ?_
  refine lv_iload_n hx hb dL_law_368 rfl (lv_at hl 3 rfl) ?_
  refine lv_iconst (v := 1) hx hb dL_law_369 (by decide) ?_
  refine lv_iadd hx hb dL_law_370 ?_
  refine va_sld hx hb hX hbl (Nat.not_le.mpr hbl) hS i1 dL_law_371 ?_
  refine lv_aload_n hx hb dL_law_372 rfl (lv_at hl 0 rfl) ?_
  refine lv_iload_n hx hb dL_law_373 rfl (lv_at hl 3 rfl) ?_
  refine lv_iconst (v := 2) hx hb dL_law_374 (by decide) ?_
  refine lv_iadd hx hb dL_law_375 ?_
  refine va_sld hx hb hX hbl (Nat.not_le.mpr hbl) hS i2 dL_law_376 ?_
  refine lv_aload_n hx hb dL_law_377 rfl (lv_at hl 0 rfl) ?_
  refine lv_iload_n hx hb dL_law_378 rfl (lv_at hl 3 rfl) ?_
  refine lv_iconst (v := 3) hx hb dL_law_379 (by decide) ?_
  refine lv_iadd hx hb dL_law_380 ?_
  refine va_sld hx hb hX hbl (Nat.not_le.mpr hbl) hS i3 dL_law_381 ?_
  refine lv_i2l hx hb dL_law_382 rfl ?_
  refine lv_bipush (v := 32) hx hb dL_law_383 (by decide) ?_
  refine lv_lshl hx hb dL_law_385 rfl ?_
  refine lv_aload_n hx hb dL_law_386 rfl (lv_at hl 0 rfl) ?_
  refine lv_iload_n hx hb dL_law_387 rfl (lv_at hl 3 rfl) ?_
  refine lv_iconst (v := 4) hx hb dL_law_388 (by decide) ?_
  refine lv_iadd hx hb dL_law_389 ?_
  refine va_sld hx hb hX hbl (Nat.not_le.mpr hbl) hS i4 dL_law_390 ?_
  refine lv_i2l hx hb dL_law_391 rfl ?_
  refine lv_ldc2 (v := 4294967295) hx hb C.2.2.2.2.2.1 (C.2.2.2.2.1 _ kw_1177) dL_law_392 ?_
  refine lv_land hx hb dL_law_395 ?_
  refine lv_lor hx hb dL_law_396 ?_
  refine lx_V0 C hw.swap hS (fun A => tX7_write l A D cy st sz9 shM dM mm (xs (iv + 1).toNatClampNeg) (xs (iv + 2).toNatClampNeg) (((xs (iv + 3).toNatClampNeg).toInt64 <<< ((32 : Int32).toInt64 &&& 63)) ||| ((xs (iv + 4).toNatClampNeg).toInt64 &&& (4294967295 : Int64))) fm) cvX7_write kw_921 km ⟨(Nat.le_of_ble_eq_true rfl), (Nat.le_of_ble_eq_true rfl)⟩ hl.1 rfl (Nat.le_of_ble_eq_true rfl) dL_law_397 ⟨hcu, hsu⟩ (fun H locs hw hS => ?_)
  have hw := hw.swap
  refine lv_icmp_eq (tgt := 1715) hx hb dL_law_400 (by decide) (fun _ => ?_) (fun c9 => absurd rfl c9)
  refine lv_iinc (v := iv + 6) (lv' := [(3, .int (iv + 6)), (0, .ref b), (1, .ref x), (2, .ref mm)]) hx hb dL_law_1715 hl (k := 3) rfl rfl (by decide) rfl (fun ls hl => ?_)
  refine lv_goto (tgt := 18) hx hb dL_law_1718 (by decide) ?_
  exact kk _ _ _ hw hS hl
set_option maxRecDepth 100000 in
set_option maxHeartbeats 4000000 in
theorem lk_5 (C : mx p s m #[Value.ref b] meth c ⟨"ManyHandsLaw", meth.name, ""⟩ cL_law 4 (some .boolean) (fun q => s.heap.size ≤ q) D cy st) (hX : va_X b L xs s s.heap) (hbl : b < s.heap.size) {x mm sz ns sz9 ns9 : Nat} {shC shM shC9 : Sh} {dC dM dC9 dM9 : Dt} {iv : Int32} {r : Int32} {cu su : Nat} (i1 : vp_in (iv + 1) L) (i2 : vp_in (iv + 2) L) (i3 : vp_in (iv + 3) L) (i4 : vp_in (iv + 4) L) (kx : shC.1 x = 8) (km : shM.1 mm = 9) (fx : fX6_add (st 1) (st 2) x (xs (iv + 1).toNatClampNeg) (xs (iv + 2).toNatClampNeg) ((xs (iv + 3).toNatClampNeg).toInt64 <<< ((32 : Int32).toInt64 &&& 63) ||| (xs (iv + 4).toNatClampNeg).toInt64 &&& (4294967295 : Int64)) sz ns shC dC = some (r, sz9, ns9, shC9, dC9)) (fm : fX7_add shM dM mm (xs (iv + 1).toNatClampNeg) (xs (iv + 2).toNatClampNeg) ((xs (iv + 3).toNatClampNeg).toInt64 <<< ((32 : Int32).toInt64 &&& 63) ||| (xs (iv + 4).toNatClampNeg).toInt64 &&& (4294967295 : Int64)) = some (r, dM9)) (hcu : cu + (sz9 - sz) ≤ 600000) (hsu : su + (ns9 - ns) ≤ 7302250) {H : Heap} {locs : List Loc} {ls : Array Slot} (hw : LW2 s.heap.size sz D cy shC dC shM dM H) (hS : va_S (fun q => s.heap.size ≤ q) s.heap H locs) (hl : lv_has ls 4 [(0, .ref b), (1, .ref x), (2, .ref mm), (3, .int iv)])
    (kk : ∀ (H : Heap) (locs : List Loc) (ls : Array Slot), LW2 s.heap.size sz9 D cy shC9 dC9 shM dM9 H → va_S (fun q => s.heap.size ≤ q) s.heap H locs → lv_has ls 4 [(3, .int (iv + 6)), (0, .ref b), (1, .ref x), (2, .ref mm)] → W p l e room_1 s m #[Value.ref b] below meth c H locs (cu + (sz9 - sz)) (su + (ns9 - ns)) Q (F0 m 18 ls [])) : W p l e room_1 s m #[Value.ref b] below meth c H locs cu su Q (F0 m 405 ls []) := by
  have hx := C.1
  have hb := C.2.1
  refine lv_aload_n hx hb dL_law_405 rfl (lv_at hl 1 rfl) ?_
  refine lv_aload_n hx hb dL_law_406 rfl (lv_at hl 0 rfl) ?_
  refine lv_iload_n hx hb dL_law_407 rfl (lv_at hl 3 rfl) ?_
  refine lv_iconst (v := 1) hx hb dL_law_408 (by decide) ?_
  refine lv_iadd hx hb dL_law_409 ?_
  refine va_sld hx hb hX hbl (Nat.not_le.mpr hbl) hS i1 dL_law_410 ?_
  refine lv_aload_n hx hb dL_law_411 rfl (lv_at hl 0 rfl) ?_
  refine lv_iload_n hx hb dL_law_412 rfl (lv_at hl 3 rfl) ?_
  refine lv_iconst (v := 2) hx hb dL_law_413 (by decide) ?_
  refine lv_iadd hx hb dL_law_414 ?_
  refine va_sld hx hb hX hbl (Nat.not_le.mpr hbl) hS i2 dL_law_415 ?_
  refine lv_aload_n hx hb dL_law_416 rfl (lv_at hl 0 rfl) ?_
  refine lv_iload_n hx hb dL_law_417 rfl (lv_at hl 3 rfl) ?_
  refine lv_iconst (v := 3) hx hb dL_law_418 (by decide) ?_
  refine lv_iadd hx hb dL_law_419 ?_
  refine va_sld hx hb hX hbl (Nat.not_le.mpr hbl) hS i3 dL_law_420 ?_
  refine lv_i2l hx hb dL_law_421 rfl ?_
  refine lv_bipush (v := 32) hx hb dL_law_422 (by decide) ?_
  refine lv_lshl hx hb dL_law_424 rfl ?_
  refine lv_aload_n hx hb dL_law_425 rfl (lv_at hl 0 rfl) ?_
  refine lv_iload_n hx hb dL_law_426 rfl (lv_at hl 3 rfl) ?_
  refine lv_iconst (v := 4) hx hb dL_law_427 (by decide) ?_
  refine lv_iadd hx hb dL_law_428 ?_
  refine va_sld hx hb hX hbl (Nat.not_le.mpr hbl) hS i4 dL_law_429 ?_
  refine lv_i2l hx hb dL_law_430 rfl ?_
  refine lv_ldc2 (v := 4294967295) hx hb C.2.2.2.2.2.1 (C.2.2.2.2.1 _ kw_1177) dL_law_431 ?_
  refine lv_land hx hb dL_law_434 ?_
  refine lv_lor hx hb dL_law_435 ?_
  refine lx_V C hw hS (fun A => tX6_add l A D cy st x (xs (iv + 1).toNatClampNeg) (xs (iv + 2).toNatClampNeg) (((xs (iv + 3).toNatClampNeg).toInt64 <<< ((32 : Int32).toInt64 &&& 63)) ||| ((xs (iv + 4).toNatClampNeg).toInt64 &&& (4294967295 : Int64))) sz ns shC dC fx) cvX6_add kw_399 kx ⟨(Nat.le_of_ble_eq_true rfl), (Nat.le_of_ble_eq_true rfl)⟩ hl.1 rfl (Nat.le_of_ble_eq_true rfl) dL_law_436 ⟨hcu, hsu⟩ (fun H locs hw hS => ?_)
  refine lv_aload_n hx hb dL_law_439 rfl (lv_at hl 2 rfl) ?_
  refine lv_aload_n hx hb dL_law_440 rfl (lv_at hl 0 rfl) ?_
  refine lv_iload_n hx hb dL_law_441 rfl (lv_at hl 3 rfl) ?_
  refine lv_iconst (v := 1) hx hb dL_law_442 (by decide) ?_
  refine lv_iadd hx hb dL_law_443 ?_
  refine va_sld hx hb hX hbl (Nat.not_le.mpr hbl) hS i1 dL_law_444 ?_
  refine lv_aload_n hx hb dL_law_445 rfl (lv_at hl 0 rfl) ?_
  refine lv_iload_n hx hb dL_law_446 rfl (lv_at hl 3 rfl) ?_
  refine lv_iconst (v := 2) hx hb dL_law_447 (by decide) ?_
  refine lv_iadd hx hb dL_law_448 ?_
  refine va_sld hx hb hX hbl (Nat.not_le.mpr hbl) hS i2 dL_law_449 ?_
  refine lv_aload_n hx hb dL_law_450 rfl (lv_at hl 0 rfl) ?_
  refine lv_iload_n hx hb dL_law_451 rfl (lv_at hl 3 rfl) ?_
  refine lv_iconst (v := 3) hx hb dL_law_452 (by decide) ?_
  refine lv_iadd hx hb dL_law_453 ?_
  refine va_sld hx hb hX hbl (Nat.not_le.mpr hbl) hS i3 dL_law_454 ?_
  refine lv_i2l hx hb dL_law_455 rfl ?_
  refine lv_bipush (v := 32) hx hb dL_law_456 (by decide) ?_
  refine lv_lshl hx hb dL_law_458 rfl ?_
  refine lv_aload_n hx hb dL_law_459 rfl (lv_at hl 0 rfl) ?_
  refine lv_iload_n hx hb dL_law_460 rfl (lv_at hl 3 rfl) ?_
  refine lv_iconst (v := 4) hx hb dL_law_461 (by decide) ?_
  refine lv_iadd hx hb dL_law_462 ?_
  refine va_sld hx hb hX hbl (Nat.not_le.mpr hbl) hS i4 dL_law_463 ?_
  refine lv_i2l hx hb dL_law_464 rfl ?_
  refine lv_ldc2 (v := 4294967295) hx hb C.2.2.2.2.2.1 (C.2.2.2.2.1 _ kw_1177) dL_law_465 ?_
  refine lv_land hx hb dL_law_468 ?_
  refine lv_lor hx hb dL_law_469 ?_
  refine lx_V0 C hw.swap hS (fun A => tX7_add l A D cy st sz9 shM dM mm (xs (iv + 1).toNatClampNeg) (xs (iv + 2).toNatClampNeg) (((xs (iv + 3).toNatClampNeg).toInt64 <<< ((32 : Int32).toInt64 &&& 63)) ||| ((xs (iv + 4).toNatClampNeg).toInt64 &&& (4294967295 : Int64))) fm) cvX7_add kw_955 km ⟨(Nat.le_of_ble_eq_true rfl), (Nat.le_of_ble_eq_true rfl)⟩ hl.1 rfl (Nat.le_of_ble_eq_true rfl) dL_law_470 ⟨hcu, hsu⟩ (fun H locs hw hS => ?_)
  have hw := hw.swap
  refine lv_icmp_eq (tgt := 1715) hx hb dL_law_473 (by decide) (fun _ => ?_) (fun c9 => absurd rfl c9)
  refine lv_iinc (v := iv + 6) (lv' := [(3, .int (iv + 6)), (0, .ref b), (1, .ref x), (2, .ref mm)]) hx hb dL_law_1715 hl (k := 3) rfl rfl (by decide) rfl (fun ls hl => ?_)
  refine lv_goto (tgt := 18) hx hb dL_law_1718 (by decide) ?_
  exact kk _ _ _ hw hS hl
set_option maxRecDepth 100000 in
set_option maxHeartbeats 4000000 in
theorem lk_6 (C : mx p s m #[Value.ref b] meth c ⟨"ManyHandsLaw", meth.name, ""⟩ cL_law 4 (some .boolean) (fun q => s.heap.size ≤ q) D cy st) (hX : va_X b L xs s s.heap) (hbl : b < s.heap.size) {x mm sz ns sz9 ns9 : Nat} {shC shM shC9 : Sh} {dC dM dC9 dM9 : Dt} {iv : Int32} {r : Int32} {cu su : Nat} (i1 : vp_in (iv + 1) L) (i2 : vp_in (iv + 2) L) (i3 : vp_in (iv + 3) L) (kx : shC.1 x = 8) (km : shM.1 mm = 9) (fx : fX6_put (st 1) (st 2) x (xs (iv + 1).toNatClampNeg) (xs (iv + 2).toNatClampNeg) (xs (iv + 3).toNatClampNeg) sz ns shC dC = some (r, sz9, ns9, shC9, dC9)) (fm : fX7_put shM dM mm (xs (iv + 1).toNatClampNeg) (xs (iv + 2).toNatClampNeg) (xs (iv + 3).toNatClampNeg) = some (r, dM9)) (hcu : cu + (sz9 - sz) ≤ 600000) (hsu : su + (ns9 - ns) ≤ 7302250) {H : Heap} {locs : List Loc} {ls : Array Slot} (hw : LW2 s.heap.size sz D cy shC dC shM dM H) (hS : va_S (fun q => s.heap.size ≤ q) s.heap H locs) (hl : lv_has ls 4 [(0, .ref b), (1, .ref x), (2, .ref mm), (3, .int iv)])
    (kk : ∀ (H : Heap) (locs : List Loc) (ls : Array Slot), LW2 s.heap.size sz9 D cy shC9 dC9 shM dM9 H → va_S (fun q => s.heap.size ≤ q) s.heap H locs → lv_has ls 4 [(3, .int (iv + 6)), (0, .ref b), (1, .ref x), (2, .ref mm)] → W p l e room_1 s m #[Value.ref b] below meth c H locs (cu + (sz9 - sz)) (su + (ns9 - ns)) Q (F0 m 18 ls [])) : W p l e room_1 s m #[Value.ref b] below meth c H locs cu su Q (F0 m 478 ls []) := by
  have hx := C.1
  have hb := C.2.1
  refine lv_aload_n hx hb dL_law_478 rfl (lv_at hl 1 rfl) ?_
  refine lv_aload_n hx hb dL_law_479 rfl (lv_at hl 0 rfl) ?_
  refine lv_iload_n hx hb dL_law_480 rfl (lv_at hl 3 rfl) ?_
  refine lv_iconst (v := 1) hx hb dL_law_481 (by decide) ?_
  refine lv_iadd hx hb dL_law_482 ?_
  refine va_sld hx hb hX hbl (Nat.not_le.mpr hbl) hS i1 dL_law_483 ?_
  refine lv_aload_n hx hb dL_law_484 rfl (lv_at hl 0 rfl) ?_
  refine lv_iload_n hx hb dL_law_485 rfl (lv_at hl 3 rfl) ?_
  refine lv_iconst (v := 2) hx hb dL_law_486 (by decide) ?_
  refine lv_iadd hx hb dL_law_487 ?_
  refine va_sld hx hb hX hbl (Nat.not_le.mpr hbl) hS i2 dL_law_488 ?_
  refine lv_aload_n hx hb dL_law_489 rfl (lv_at hl 0 rfl) ?_
  refine lv_iload_n hx hb dL_law_490 rfl (lv_at hl 3 rfl) ?_
  refine lv_iconst (v := 3) hx hb dL_law_491 (by decide) ?_
  refine lv_iadd hx hb dL_law_492 ?_
  refine va_sld hx hb hX hbl (Nat.not_le.mpr hbl) hS i3 dL_law_493 ?_
  refine lx_V C hw hS (fun A => tX6_put l A D cy st x (xs (iv + 1).toNatClampNeg) (xs (iv + 2).toNatClampNeg) (xs (iv + 3).toNatClampNeg) sz ns shC dC fx) cvX6_put kw_407 kx ⟨(Nat.le_of_ble_eq_true rfl), (Nat.le_of_ble_eq_true rfl)⟩ hl.1 rfl (Nat.le_of_ble_eq_true rfl) dL_law_494 ⟨hcu, hsu⟩ (fun H locs hw hS => ?_)
  refine lv_aload_n hx hb dL_law_497 rfl (lv_at hl 2 rfl) ?_
  refine lv_aload_n hx hb dL_law_498 rfl (lv_at hl 0 rfl) ?_
  refine lv_iload_n hx hb dL_law_499 rfl (lv_at hl 3 rfl) ?_
  refine lv_iconst (v := 1) hx hb dL_law_500 (by decide) ?_
  refine lv_iadd hx hb dL_law_501 ?_
  refine va_sld hx hb hX hbl (Nat.not_le.mpr hbl) hS i1 dL_law_502 ?_
  refine lv_aload_n hx hb dL_law_503 rfl (lv_at hl 0 rfl) ?_
  refine lv_iload_n hx hb dL_law_504 rfl (lv_at hl 3 rfl) ?_
  refine lv_iconst (v := 2) hx hb dL_law_505 (by decide) ?_
  refine lv_iadd hx hb dL_law_506 ?_
  refine va_sld hx hb hX hbl (Nat.not_le.mpr hbl) hS i2 dL_law_507 ?_
  refine lv_aload_n hx hb dL_law_508 rfl (lv_at hl 0 rfl) ?_
  refine lv_iload_n hx hb dL_law_509 rfl (lv_at hl 3 rfl) ?_
  refine lv_iconst (v := 3) hx hb dL_law_510 (by decide) ?_
  refine lv_iadd hx hb dL_law_511 ?_
  refine va_sld hx hb hX hbl (Nat.not_le.mpr hbl) hS i3 dL_law_512 ?_
  refine lx_V0 C hw.swap hS (fun A => tX7_put l A D cy st sz9 shM dM mm (xs (iv + 1).toNatClampNeg) (xs (iv + 2).toNatClampNeg) (xs (iv + 3).toNatClampNeg) fm) cvX7_put kw_963 km ⟨(Nat.le_of_ble_eq_true rfl), (Nat.le_of_ble_eq_true rfl)⟩ hl.1 rfl (Nat.le_of_ble_eq_true rfl) dL_law_513 ⟨hcu, hsu⟩ (fun H locs hw hS => ?_)
  have hw := hw.swap
  refine lv_icmp_eq (tgt := 1715) hx hb dL_law_516 (by decide) (fun _ => ?_) (fun c9 => absurd rfl c9)
  refine lv_iinc (v := iv + 6) (lv' := [(3, .int (iv + 6)), (0, .ref b), (1, .ref x), (2, .ref mm)]) hx hb dL_law_1715 hl (k := 3) rfl rfl (by decide) rfl (fun ls hl => ?_)
  refine lv_goto (tgt := 18) hx hb dL_law_1718 (by decide) ?_
  exact kk _ _ _ hw hS hl
set_option maxRecDepth 100000 in
set_option maxHeartbeats 4000000 in
theorem lk_7 (C : mx p s m #[Value.ref b] meth c ⟨"ManyHandsLaw", meth.name, ""⟩ cL_law 4 (some .boolean) (fun q => s.heap.size ≤ q) D cy st) (hX : va_X b L xs s s.heap) (hbl : b < s.heap.size) {x mm sz ns sz9 ns9 : Nat} {shC shM shC9 : Sh} {dC dM dC9 dM9 : Dt} {iv : Int32} {r : Int32} {cu su : Nat} (i1 : vp_in (iv + 1) L) (i2 : vp_in (iv + 2) L) (i3 : vp_in (iv + 3) L) (kx : shC.1 x = 8) (km : shM.1 mm = 9) (fx : fX6_take (st 1) (st 2) x (xs (iv + 1).toNatClampNeg) (xs (iv + 2).toNatClampNeg) (xs (iv + 3).toNatClampNeg) sz ns shC dC = some (r, sz9, ns9, shC9, dC9)) (fm : fX7_take shM dM mm (xs (iv + 1).toNatClampNeg) (xs (iv + 2).toNatClampNeg) (xs (iv + 3).toNatClampNeg) = some (r, dM9)) (hcu : cu + (sz9 - sz) ≤ 600000) (hsu : su + (ns9 - ns) ≤ 7302250) {H : Heap} {locs : List Loc} {ls : Array Slot} (hw : LW2 s.heap.size sz D cy shC dC shM dM H) (hS : va_S (fun q => s.heap.size ≤ q) s.heap H locs) (hl : lv_has ls 4 [(0, .ref b), (1, .ref x), (2, .ref mm), (3, .int iv)])
    (kk : ∀ (H : Heap) (locs : List Loc) (ls : Array Slot), LW2 s.heap.size sz9 D cy shC9 dC9 shM dM9 H → va_S (fun q => s.heap.size ≤ q) s.heap H locs → lv_has ls 4 [(3, .int (iv + 6)), (0, .ref b), (1, .ref x), (2, .ref mm)] → W p l e room_1 s m #[Value.ref b] below meth c H locs (cu + (sz9 - sz)) (su + (ns9 - ns)) Q (F0 m 18 ls [])) : W p l e room_1 s m #[Value.ref b] below meth c H locs cu su Q (F0 m 521 ls []) := by
  have hx := C.1
  have hb := C.2.1
  refine lv_aload_n hx hb dL_law_521 rfl (lv_at hl 1 rfl) ?_
  refine lv_aload_n hx hb dL_law_522 rfl (lv_at hl 0 rfl) ?_
  refine lv_iload_n hx hb dL_law_523 rfl (lv_at hl 3 rfl) ?_
  refine lv_iconst (v := 1) hx hb dL_law_524 (by decide) ?_
  refine lv_iadd hx hb dL_law_525 ?_
  refine va_sld hx hb hX hbl (Nat.not_le.mpr hbl) hS i1 dL_law_526 ?_
  refine lv_aload_n hx hb dL_law_527 rfl (lv_at hl 0 rfl) ?_
  refine lv_iload_n hx hb dL_law_528 rfl (lv_at hl 3 rfl) ?_
  refine lv_iconst (v := 2) hx hb dL_law_529 (by decide) ?_
  refine lv_iadd hx hb dL_law_530 ?_
  refine va_sld hx hb hX hbl (Nat.not_le.mpr hbl) hS i2 dL_law_531 ?_
  refine lv_aload_n hx hb dL_law_532 rfl (lv_at hl 0 rfl) ?_
  refine lv_iload_n hx hb dL_law_533 rfl (lv_at hl 3 rfl) ?_
  refine lv_iconst (v := 3) hx hb dL_law_534 (by decide) ?_
  refine lv_iadd hx hb dL_law_535 ?_
  refine va_sld hx hb hX hbl (Nat.not_le.mpr hbl) hS i3 dL_law_536 ?_
  refine lx_V C hw hS (fun A => tX6_take l A D cy st x (xs (iv + 1).toNatClampNeg) (xs (iv + 2).toNatClampNeg) (xs (iv + 3).toNatClampNeg) sz ns shC dC fx) cvX6_take kw_414 kx ⟨(Nat.le_of_ble_eq_true rfl), (Nat.le_of_ble_eq_true rfl)⟩ hl.1 rfl (Nat.le_of_ble_eq_true rfl) dL_law_537 ⟨hcu, hsu⟩ (fun H locs hw hS => ?_)
  refine lv_aload_n hx hb dL_law_540 rfl (lv_at hl 2 rfl) ?_
  refine lv_aload_n hx hb dL_law_541 rfl (lv_at hl 0 rfl) ?_
  refine lv_iload_n hx hb dL_law_542 rfl (lv_at hl 3 rfl) ?_
  refine lv_iconst (v := 1) hx hb dL_law_543 (by decide) ?_
  refine lv_iadd hx hb dL_law_544 ?_
  refine va_sld hx hb hX hbl (Nat.not_le.mpr hbl) hS i1 dL_law_545 ?_
  refine lv_aload_n hx hb dL_law_546 rfl (lv_at hl 0 rfl) ?_
  refine lv_iload_n hx hb dL_law_547 rfl (lv_at hl 3 rfl) ?_
  refine lv_iconst (v := 2) hx hb dL_law_548 (by decide) ?_
  refine lv_iadd hx hb dL_law_549 ?_
  refine va_sld hx hb hX hbl (Nat.not_le.mpr hbl) hS i2 dL_law_550 ?_
  refine lv_aload_n hx hb dL_law_551 rfl (lv_at hl 0 rfl) ?_
  refine lv_iload_n hx hb dL_law_552 rfl (lv_at hl 3 rfl) ?_
  refine lv_iconst (v := 3) hx hb dL_law_553 (by decide) ?_
  refine lv_iadd hx hb dL_law_554 ?_
  refine va_sld hx hb hX hbl (Nat.not_le.mpr hbl) hS i3 dL_law_555 ?_
  refine lx_V0 C hw.swap hS (fun A => tX7_take l A D cy st sz9 shM dM mm (xs (iv + 1).toNatClampNeg) (xs (iv + 2).toNatClampNeg) (xs (iv + 3).toNatClampNeg) fm) cvX7_take kw_967 km ⟨(Nat.le_of_ble_eq_true rfl), (Nat.le_of_ble_eq_true rfl)⟩ hl.1 rfl (Nat.le_of_ble_eq_true rfl) dL_law_556 ⟨hcu, hsu⟩ (fun H locs hw hS => ?_)
  have hw := hw.swap
  refine lv_icmp_eq (tgt := 1715) hx hb dL_law_559 (by decide) (fun _ => ?_) (fun c9 => absurd rfl c9)
  refine lv_iinc (v := iv + 6) (lv' := [(3, .int (iv + 6)), (0, .ref b), (1, .ref x), (2, .ref mm)]) hx hb dL_law_1715 hl (k := 3) rfl rfl (by decide) rfl (fun ls hl => ?_)
  refine lv_goto (tgt := 18) hx hb dL_law_1718 (by decide) ?_
  exact kk _ _ _ hw hS hl
set_option maxRecDepth 100000 in
set_option maxHeartbeats 4000000 in
theorem lk_8 (C : mx p s m #[Value.ref b] meth c ⟨"ManyHandsLaw", meth.name, ""⟩ cL_law 4 (some .boolean) (fun q => s.heap.size ≤ q) D cy st) (hX : va_X b L xs s s.heap) (hbl : b < s.heap.size) {x mm sz ns sz9 ns9 : Nat} {shC shM shC9 : Sh} {dC dM dC9 dM9 : Dt} {iv : Int32} {r : Int32} {cu su : Nat} (i1 : vp_in (iv + 1) L) (i2 : vp_in (iv + 2) L) (i3 : vp_in (iv + 3) L) (i4 : vp_in (iv + 4) L) (i5 : vp_in (iv + 5) L) (kx : shC.1 x = 8) (km : shM.1 mm = 9) (fx : fX6_give (st 1) (st 2) x (xs (iv + 1).toNatClampNeg) (xs (iv + 2).toNatClampNeg) (xs (iv + 3).toNatClampNeg) ((xs (iv + 4).toNatClampNeg).toInt64 <<< ((32 : Int32).toInt64 &&& 63) ||| (xs (iv + 5).toNatClampNeg).toInt64 &&& (4294967295 : Int64)) sz ns shC dC = some (r, sz9, ns9, shC9, dC9)) (fm : fX7_give shM dM mm (xs (iv + 1).toNatClampNeg) (xs (iv + 2).toNatClampNeg) (xs (iv + 3).toNatClampNeg) ((xs (iv + 4).toNatClampNeg).toInt64 <<< ((32 : Int32).toInt64 &&& 63) ||| (xs (iv + 5).toNatClampNeg).toInt64 &&& (4294967295 : Int64)) = some (r, dM9)) (hcu : cu + (sz9 - sz) ≤ 600000) (hsu : su + (ns9 - ns) ≤ 7302250) {H : Heap} {locs : List Loc} {ls : Array Slot} (hw : LW2 s.heap.size sz D cy shC dC shM dM H) (hS : va_S (fun q => s.heap.size ≤ q) s.heap H locs) (hl : lv_has ls 4 [(0, .ref b), (1, .ref x), (2, .ref mm), (3, .int iv)])
    (kk : ∀ (H : Heap) (locs : List Loc) (ls : Array Slot), LW2 s.heap.size sz9 D cy shC9 dC9 shM dM9 H → va_S (fun q => s.heap.size ≤ q) s.heap H locs → lv_has ls 4 [(3, .int (iv + 6)), (0, .ref b), (1, .ref x), (2, .ref mm)] → W p l e room_1 s m #[Value.ref b] below meth c H locs (cu + (sz9 - sz)) (su + (ns9 - ns)) Q (F0 m 18 ls [])) : W p l e room_1 s m #[Value.ref b] below meth c H locs cu su Q (F0 m 564 ls []) := by
  have hx := C.1
  have hb := C.2.1
  refine lv_aload_n hx hb dL_law_564 rfl (lv_at hl 1 rfl) ?_
  refine lv_aload_n hx hb dL_law_565 rfl (lv_at hl 0 rfl) ?_
  refine lv_iload_n hx hb dL_law_566 rfl (lv_at hl 3 rfl) ?_
  refine lv_iconst (v := 1) hx hb dL_law_567 (by decide) ?_
  refine lv_iadd hx hb dL_law_568 ?_
  refine va_sld hx hb hX hbl (Nat.not_le.mpr hbl) hS i1 dL_law_569 ?_
  refine lv_aload_n hx hb dL_law_570 rfl (lv_at hl 0 rfl) ?_
  refine lv_iload_n hx hb dL_law_571 rfl (lv_at hl 3 rfl) ?_
  refine lv_iconst (v := 2) hx hb dL_law_572 (by decide) ?_
  refine lv_iadd hx hb dL_law_573 ?_
  refine va_sld hx hb hX hbl (Nat.not_le.mpr hbl) hS i2 dL_law_574 ?_
  refine lv_aload_n hx hb dL_law_575 rfl (lv_at hl 0 rfl) ?_
  refine lv_iload_n hx hb dL_law_576 rfl (lv_at hl 3 rfl) ?_
  refine lv_iconst (v := 3) hx hb dL_law_577 (by decide) ?_
  refine lv_iadd hx hb dL_law_578 ?_
  refine va_sld hx hb hX hbl (Nat.not_le.mpr hbl) hS i3 dL_law_579 ?_
  refine lv_aload_n hx hb dL_law_580 rfl (lv_at hl 0 rfl) ?_
  refine lv_iload_n hx hb dL_law_581 rfl (lv_at hl 3 rfl) ?_
  refine lv_iconst (v := 4) hx hb dL_law_582 (by decide) ?_
  refine lv_iadd hx hb dL_law_583 ?_
  refine va_sld hx hb hX hbl (Nat.not_le.mpr hbl) hS i4 dL_law_584 ?_
  refine lv_i2l hx hb dL_law_585 rfl ?_
  refine lv_bipush (v := 32) hx hb dL_law_586 (by decide) ?_
  refine lv_lshl hx hb dL_law_588 rfl ?_
  refine lv_aload_n hx hb dL_law_589 rfl (lv_at hl 0 rfl) ?_
  refine lv_iload_n hx hb dL_law_590 rfl (lv_at hl 3 rfl) ?_
  refine lv_iconst (v := 5) hx hb dL_law_591 (by decide) ?_
  refine lv_iadd hx hb dL_law_592 ?_
  refine va_sld hx hb hX hbl (Nat.not_le.mpr hbl) hS i5 dL_law_593 ?_
  refine lv_i2l hx hb dL_law_594 rfl ?_
  refine lv_ldc2 (v := 4294967295) hx hb C.2.2.2.2.2.1 (C.2.2.2.2.1 _ kw_1177) dL_law_595 ?_
  refine lv_land hx hb dL_law_598 ?_
  refine lv_lor hx hb dL_law_599 ?_
  refine lx_V C hw hS (fun A => tX6_give l A D cy st x (xs (iv + 1).toNatClampNeg) (xs (iv + 2).toNatClampNeg) (xs (iv + 3).toNatClampNeg) (((xs (iv + 4).toNatClampNeg).toInt64 <<< ((32 : Int32).toInt64 &&& 63)) ||| ((xs (iv + 5).toNatClampNeg).toInt64 &&& (4294967295 : Int64))) sz ns shC dC fx) cvX6_give kw_439 kx ⟨(Nat.le_of_ble_eq_true rfl), (Nat.le_of_ble_eq_true rfl)⟩ hl.1 rfl (Nat.le_of_ble_eq_true rfl) dL_law_600 ⟨hcu, hsu⟩ (fun H locs hw hS => ?_)
  refine lv_aload_n hx hb dL_law_603 rfl (lv_at hl 2 rfl) ?_
  refine lv_aload_n hx hb dL_law_604 rfl (lv_at hl 0 rfl) ?_
  refine lv_iload_n hx hb dL_law_605 rfl (lv_at hl 3 rfl) ?_
  refine lv_iconst (v := 1) hx hb dL_law_606 (by decide) ?_
  refine lv_iadd hx hb dL_law_607 ?_
  refine va_sld hx hb hX hbl (Nat.not_le.mpr hbl) hS i1 dL_law_608 ?_
  refine lv_aload_n hx hb dL_law_609 rfl (lv_at hl 0 rfl) ?_
  refine lv_iload_n hx hb dL_law_610 rfl (lv_at hl 3 rfl) ?_
  refine lv_iconst (v := 2) hx hb dL_law_611 (by decide) ?_
  refine lv_iadd hx hb dL_law_612 ?_
  refine va_sld hx hb hX hbl (Nat.not_le.mpr hbl) hS i2 dL_law_613 ?_
  refine lv_aload_n hx hb dL_law_614 rfl (lv_at hl 0 rfl) ?_
  refine lv_iload_n hx hb dL_law_615 rfl (lv_at hl 3 rfl) ?_
  refine lv_iconst (v := 3) hx hb dL_law_616 (by decide) ?_
  refine lv_iadd hx hb dL_law_617 ?_
  refine va_sld hx hb hX hbl (Nat.not_le.mpr hbl) hS i3 dL_law_618 ?_
  refine lv_aload_n hx hb dL_law_619 rfl (lv_at hl 0 rfl) ?_
  refine lv_iload_n hx hb dL_law_620 rfl (lv_at hl 3 rfl) ?_
  refine lv_iconst (v := 4) hx hb dL_law_621 (by decide) ?_
  refine lv_iadd hx hb dL_law_622 ?_
  refine va_sld hx hb hX hbl (Nat.not_le.mpr hbl) hS i4 dL_law_623 ?_
  refine lv_i2l hx hb dL_law_624 rfl ?_
  refine lv_bipush (v := 32) hx hb dL_law_625 (by decide) ?_
  refine lv_lshl hx hb dL_law_627 rfl ?_
  refine lv_aload_n hx hb dL_law_628 rfl (lv_at hl 0 rfl) ?_
  refine lv_iload_n hx hb dL_law_629 rfl (lv_at hl 3 rfl) ?_
  refine lv_iconst (v := 5) hx hb dL_law_630 (by decide) ?_
  refine lv_iadd hx hb dL_law_631 ?_
  refine va_sld hx hb hX hbl (Nat.not_le.mpr hbl) hS i5 dL_law_632 ?_
  refine lv_i2l hx hb dL_law_633 rfl ?_
  refine lv_ldc2 (v := 4294967295) hx hb C.2.2.2.2.2.1 (C.2.2.2.2.1 _ kw_1177) dL_law_634 ?_
  refine lv_land hx hb dL_law_637 ?_
  refine lv_lor hx hb dL_law_638 ?_
  refine lx_V0 C hw.swap hS (fun A => tX7_give l A D cy st sz9 shM dM mm (xs (iv + 1).toNatClampNeg) (xs (iv + 2).toNatClampNeg) (xs (iv + 3).toNatClampNeg) (((xs (iv + 4).toNatClampNeg).toInt64 <<< ((32 : Int32).toInt64 &&& 63)) ||| ((xs (iv + 5).toNatClampNeg).toInt64 &&& (4294967295 : Int64))) fm) cvX7_give kw_979 km ⟨(Nat.le_of_ble_eq_true rfl), (Nat.le_of_ble_eq_true rfl)⟩ hl.1 rfl (Nat.le_of_ble_eq_true rfl) dL_law_639 ⟨hcu, hsu⟩ (fun H locs hw hS => ?_)
  have hw := hw.swap
  refine lv_icmp_eq (tgt := 1715) hx hb dL_law_642 (by decide) (fun _ => ?_) (fun c9 => absurd rfl c9)
  refine lv_iinc (v := iv + 6) (lv' := [(3, .int (iv + 6)), (0, .ref b), (1, .ref x), (2, .ref mm)]) hx hb dL_law_1715 hl (k := 3) rfl rfl (by decide) rfl (fun ls hl => ?_)
  refine lv_goto (tgt := 18) hx hb dL_law_1718 (by decide) ?_
  exact kk _ _ _ hw hS hl
set_option maxRecDepth 100000 in
set_option maxHeartbeats 4000000 in
theorem lk_9 (C : mx p s m #[Value.ref b] meth c ⟨"ManyHandsLaw", meth.name, ""⟩ cL_law 4 (some .boolean) (fun q => s.heap.size ≤ q) D cy st) (hX : va_X b L xs s s.heap) (hbl : b < s.heap.size) {x mm sz ns sz9 ns9 : Nat} {shC shM shC9 : Sh} {dC dM dC9 dM9 : Dt} {iv : Int32} {r : Int32} {cu su : Nat} (i1 : vp_in (iv + 1) L) (i2 : vp_in (iv + 2) L) (i3 : vp_in (iv + 3) L) (i4 : vp_in (iv + 4) L) (kx : shC.1 x = 8) (km : shM.1 mm = 9) (fx : fX6_spend (st 1) (st 2) x (xs (iv + 1).toNatClampNeg) (xs (iv + 2).toNatClampNeg) ((xs (iv + 3).toNatClampNeg).toInt64 <<< ((32 : Int32).toInt64 &&& 63) ||| (xs (iv + 4).toNatClampNeg).toInt64 &&& (4294967295 : Int64)) sz ns shC dC = some (r, sz9, ns9, shC9, dC9)) (fm : fX7_spend shM dM mm (xs (iv + 1).toNatClampNeg) (xs (iv + 2).toNatClampNeg) ((xs (iv + 3).toNatClampNeg).toInt64 <<< ((32 : Int32).toInt64 &&& 63) ||| (xs (iv + 4).toNatClampNeg).toInt64 &&& (4294967295 : Int64)) = some (r, dM9)) (hcu : cu + (sz9 - sz) ≤ 600000) (hsu : su + (ns9 - ns) ≤ 7302250) {H : Heap} {locs : List Loc} {ls : Array Slot} (hw : LW2 s.heap.size sz D cy shC dC shM dM H) (hS : va_S (fun q => s.heap.size ≤ q) s.heap H locs) (hl : lv_has ls 4 [(0, .ref b), (1, .ref x), (2, .ref mm), (3, .int iv)])
    (kk : ∀ (H : Heap) (locs : List Loc) (ls : Array Slot), LW2 s.heap.size sz9 D cy shC9 dC9 shM dM9 H → va_S (fun q => s.heap.size ≤ q) s.heap H locs → lv_has ls 4 [(3, .int (iv + 6)), (0, .ref b), (1, .ref x), (2, .ref mm)] → W p l e room_1 s m #[Value.ref b] below meth c H locs (cu + (sz9 - sz)) (su + (ns9 - ns)) Q (F0 m 18 ls [])) : W p l e room_1 s m #[Value.ref b] below meth c H locs cu su Q (F0 m 647 ls []) := by
  have hx := C.1
  have hb := C.2.1
  refine lv_aload_n hx hb dL_law_647 rfl (lv_at hl 1 rfl) ?_
  refine lv_aload_n hx hb dL_law_648 rfl (lv_at hl 0 rfl) ?_
  refine lv_iload_n hx hb dL_law_649 rfl (lv_at hl 3 rfl) ?_
  refine lv_iconst (v := 1) hx hb dL_law_650 (by decide) ?_
  refine lv_iadd hx hb dL_law_651 ?_
  refine va_sld hx hb hX hbl (Nat.not_le.mpr hbl) hS i1 dL_law_652 ?_
  refine lv_aload_n hx hb dL_law_653 rfl (lv_at hl 0 rfl) ?_
  refine lv_iload_n hx hb dL_law_654 rfl (lv_at hl 3 rfl) ?_
  refine lv_iconst (v := 2) hx hb dL_law_655 (by decide) ?_
  refine lv_iadd hx hb dL_law_656 ?_
  refine va_sld hx hb hX hbl (Nat.not_le.mpr hbl) hS i2 dL_law_657 ?_
  refine lv_aload_n hx hb dL_law_658 rfl (lv_at hl 0 rfl) ?_
  refine lv_iload_n hx hb dL_law_659 rfl (lv_at hl 3 rfl) ?_
  refine lv_iconst (v := 3) hx hb dL_law_660 (by decide) ?_
  refine lv_iadd hx hb dL_law_661 ?_
  refine va_sld hx hb hX hbl (Nat.not_le.mpr hbl) hS i3 dL_law_662 ?_
  refine lv_i2l hx hb dL_law_663 rfl ?_
  refine lv_bipush (v := 32) hx hb dL_law_664 (by decide) ?_
  refine lv_lshl hx hb dL_law_666 rfl ?_
  refine lv_aload_n hx hb dL_law_667 rfl (lv_at hl 0 rfl) ?_
  refine lv_iload_n hx hb dL_law_668 rfl (lv_at hl 3 rfl) ?_
  refine lv_iconst (v := 4) hx hb dL_law_669 (by decide) ?_
  refine lv_iadd hx hb dL_law_670 ?_
  refine va_sld hx hb hX hbl (Nat.not_le.mpr hbl) hS i4 dL_law_671 ?_
  refine lv_i2l hx hb dL_law_672 rfl ?_
  refine lv_ldc2 (v := 4294967295) hx hb C.2.2.2.2.2.1 (C.2.2.2.2.1 _ kw_1177) dL_law_673 ?_
  refine lv_land hx hb dL_law_676 ?_
  refine lv_lor hx hb dL_law_677 ?_
  refine lx_V C hw hS (fun A => tX6_spend l A D cy st x (xs (iv + 1).toNatClampNeg) (xs (iv + 2).toNatClampNeg) (((xs (iv + 3).toNatClampNeg).toInt64 <<< ((32 : Int32).toInt64 &&& 63)) ||| ((xs (iv + 4).toNatClampNeg).toInt64 &&& (4294967295 : Int64))) sz ns shC dC fx) cvX6_spend kw_455 kx ⟨(Nat.le_of_ble_eq_true rfl), (Nat.le_of_ble_eq_true rfl)⟩ hl.1 rfl (Nat.le_of_ble_eq_true rfl) dL_law_678 ⟨hcu, hsu⟩ (fun H locs hw hS => ?_)
  refine lv_aload_n hx hb dL_law_681 rfl (lv_at hl 2 rfl) ?_
  refine lv_aload_n hx hb dL_law_682 rfl (lv_at hl 0 rfl) ?_
  refine lv_iload_n hx hb dL_law_683 rfl (lv_at hl 3 rfl) ?_
  refine lv_iconst (v := 1) hx hb dL_law_684 (by decide) ?_
  refine lv_iadd hx hb dL_law_685 ?_
  refine va_sld hx hb hX hbl (Nat.not_le.mpr hbl) hS i1 dL_law_686 ?_
  refine lv_aload_n hx hb dL_law_687 rfl (lv_at hl 0 rfl) ?_
  refine lv_iload_n hx hb dL_law_688 rfl (lv_at hl 3 rfl) ?_
  refine lv_iconst (v := 2) hx hb dL_law_689 (by decide) ?_
  refine lv_iadd hx hb dL_law_690 ?_
  refine va_sld hx hb hX hbl (Nat.not_le.mpr hbl) hS i2 dL_law_691 ?_
  refine lv_aload_n hx hb dL_law_692 rfl (lv_at hl 0 rfl) ?_
  refine lv_iload_n hx hb dL_law_693 rfl (lv_at hl 3 rfl) ?_
  refine lv_iconst (v := 3) hx hb dL_law_694 (by decide) ?_
  refine lv_iadd hx hb dL_law_695 ?_
  refine va_sld hx hb hX hbl (Nat.not_le.mpr hbl) hS i3 dL_law_696 ?_
  refine lv_i2l hx hb dL_law_697 rfl ?_
  refine lv_bipush (v := 32) hx hb dL_law_698 (by decide) ?_
  refine lv_lshl hx hb dL_law_700 rfl ?_
  refine lv_aload_n hx hb dL_law_701 rfl (lv_at hl 0 rfl) ?_
  refine lv_iload_n hx hb dL_law_702 rfl (lv_at hl 3 rfl) ?_
  refine lv_iconst (v := 4) hx hb dL_law_703 (by decide) ?_
  refine lv_iadd hx hb dL_law_704 ?_
  refine va_sld hx hb hX hbl (Nat.not_le.mpr hbl) hS i4 dL_law_705 ?_
  refine lv_i2l hx hb dL_law_706 rfl ?_
  refine lv_ldc2 (v := 4294967295) hx hb C.2.2.2.2.2.1 (C.2.2.2.2.1 _ kw_1177) dL_law_707 ?_
  refine lv_land hx hb dL_law_710 ?_
  refine lv_lor hx hb dL_law_711 ?_
  refine lx_V0 C hw.swap hS (fun A => tX7_spend l A D cy st sz9 shM dM mm (xs (iv + 1).toNatClampNeg) (xs (iv + 2).toNatClampNeg) (((xs (iv + 3).toNatClampNeg).toInt64 <<< ((32 : Int32).toInt64 &&& 63)) ||| ((xs (iv + 4).toNatClampNeg).toInt64 &&& (4294967295 : Int64))) fm) cvX7_spend kw_987 km ⟨(Nat.le_of_ble_eq_true rfl), (Nat.le_of_ble_eq_true rfl)⟩ hl.1 rfl (Nat.le_of_ble_eq_true rfl) dL_law_712 ⟨hcu, hsu⟩ (fun H locs hw hS => ?_)
  have hw := hw.swap
  refine lv_icmp_eq (tgt := 1715) hx hb dL_law_715 (by decide) (fun _ => ?_) (fun c9 => absurd rfl c9)
  refine lv_iinc (v := iv + 6) (lv' := [(3, .int (iv + 6)), (0, .ref b), (1, .ref x), (2, .ref mm)]) hx hb dL_law_1715 hl (k := 3) rfl rfl (by decide) rfl (fun ls hl => ?_)
  refine lv_goto (tgt := 18) hx hb dL_law_1718 (by decide) ?_
  exact kk _ _ _ hw hS hl
set_option maxRecDepth 100000 in
set_option maxHeartbeats 4000000 in
theorem lk_10 (C : mx p s m #[Value.ref b] meth c ⟨"ManyHandsLaw", meth.name, ""⟩ cL_law 4 (some .boolean) (fun q => s.heap.size ≤ q) D cy st) (hX : va_X b L xs s s.heap) (hbl : b < s.heap.size) {x mm sz ns sz9 ns9 : Nat} {shC shM shC9 : Sh} {dC dM dC9 dM9 : Dt} {iv : Int32} {r : Int32} {cu su : Nat} (i1 : vp_in (iv + 1) L) (i2 : vp_in (iv + 2) L) (i3 : vp_in (iv + 3) L) (kx : shC.1 x = 8) (km : shM.1 mm = 9) (fx : fX6_raise (st 1) (st 2) x (xs (iv + 1).toNatClampNeg) (xs (iv + 2).toNatClampNeg) (if xs (iv + 3).toNatClampNeg = 0 then (0 : Int32) else 1) sz ns shC dC = some (r, sz9, ns9, shC9, dC9)) (fm : fX7_raise shM dM mm (xs (iv + 1).toNatClampNeg) (xs (iv + 2).toNatClampNeg) (if xs (iv + 3).toNatClampNeg = 0 then (0 : Int32) else 1) = some (r, dM9)) (hcu : cu + (sz9 - sz) ≤ 600000) (hsu : su + (ns9 - ns) ≤ 7302250) {H : Heap} {locs : List Loc} {ls : Array Slot} (hw : LW2 s.heap.size sz D cy shC dC shM dM H) (hS : va_S (fun q => s.heap.size ≤ q) s.heap H locs) (hl : lv_has ls 4 [(0, .ref b), (1, .ref x), (2, .ref mm), (3, .int iv)])
    (kk : ∀ (H : Heap) (locs : List Loc) (ls : Array Slot), LW2 s.heap.size sz9 D cy shC9 dC9 shM dM9 H → va_S (fun q => s.heap.size ≤ q) s.heap H locs → lv_has ls 4 [(3, .int (iv + 6)), (0, .ref b), (1, .ref x), (2, .ref mm)] → W p l e room_1 s m #[Value.ref b] below meth c H locs (cu + (sz9 - sz)) (su + (ns9 - ns)) Q (F0 m 18 ls [])) : W p l e room_1 s m #[Value.ref b] below meth c H locs cu su Q (F0 m 720 ls []) := by
  have hx := C.1
  have hb := C.2.1
  refine lv_aload_n hx hb dL_law_720 rfl (lv_at hl 1 rfl) ?_
  refine lv_aload_n hx hb dL_law_721 rfl (lv_at hl 0 rfl) ?_
  refine lv_iload_n hx hb dL_law_722 rfl (lv_at hl 3 rfl) ?_
  refine lv_iconst (v := 1) hx hb dL_law_723 (by decide) ?_
  refine lv_iadd hx hb dL_law_724 ?_
  refine va_sld hx hb hX hbl (Nat.not_le.mpr hbl) hS i1 dL_law_725 ?_
  refine lv_aload_n hx hb dL_law_726 rfl (lv_at hl 0 rfl) ?_
  refine lv_iload_n hx hb dL_law_727 rfl (lv_at hl 3 rfl) ?_
  refine lv_iconst (v := 2) hx hb dL_law_728 (by decide) ?_
  refine lv_iadd hx hb dL_law_729 ?_
  refine va_sld hx hb hX hbl (Nat.not_le.mpr hbl) hS i2 dL_law_730 ?_
  refine lv_aload_n hx hb dL_law_731 rfl (lv_at hl 0 rfl) ?_
  refine lv_iload_n hx hb dL_law_732 rfl (lv_at hl 3 rfl) ?_
  refine lv_iconst (v := 3) hx hb dL_law_733 (by decide) ?_
  refine lv_iadd hx hb dL_law_734 ?_
  refine va_sld hx hb hX hbl (Nat.not_le.mpr hbl) hS i3 dL_law_735 ?_
  refine lv_if_eq (tgt := 743) hx hb dL_law_736 (by decide) (fun cb => ?_) (fun cb => ?_)
  · rw [if_pos cb] at fx fm
    refine lv_iconst (v := 0) hx hb dL_law_743 (by decide) ?_
    refine lx_V C hw hS (fun A => tX6_raise l A D cy st x (xs (iv + 1).toNatClampNeg) (xs (iv + 2).toNatClampNeg) (0 : Int32) sz ns shC dC fx) cvX6_raise kw_459 kx ⟨(Nat.le_of_ble_eq_true rfl), (Nat.le_of_ble_eq_true rfl)⟩ hl.1 rfl (Nat.le_of_ble_eq_true rfl) dL_law_744 ⟨hcu, hsu⟩ (fun H locs hw hS => ?_)
    refine lv_aload_n hx hb dL_law_747 rfl (lv_at hl 2 rfl) ?_
    refine lv_aload_n hx hb dL_law_748 rfl (lv_at hl 0 rfl) ?_
    refine lv_iload_n hx hb dL_law_749 rfl (lv_at hl 3 rfl) ?_
    refine lv_iconst (v := 1) hx hb dL_law_750 (by decide) ?_
    refine lv_iadd hx hb dL_law_751 ?_
    refine va_sld hx hb hX hbl (Nat.not_le.mpr hbl) hS i1 dL_law_752 ?_
    refine lv_aload_n hx hb dL_law_753 rfl (lv_at hl 0 rfl) ?_
    refine lv_iload_n hx hb dL_law_754 rfl (lv_at hl 3 rfl) ?_
    refine lv_iconst (v := 2) hx hb dL_law_755 (by decide) ?_
    refine lv_iadd hx hb dL_law_756 ?_
    refine va_sld hx hb hX hbl (Nat.not_le.mpr hbl) hS i2 dL_law_757 ?_
    refine lv_aload_n hx hb dL_law_758 rfl (lv_at hl 0 rfl) ?_
    refine lv_iload_n hx hb dL_law_759 rfl (lv_at hl 3 rfl) ?_
    refine lv_iconst (v := 3) hx hb dL_law_760 (by decide) ?_
    refine lv_iadd hx hb dL_law_761 ?_
    refine va_sld hx hb hX hbl (Nat.not_le.mpr hbl) hS i3 dL_law_762 ?_
    refine lv_if_eq (tgt := 770) hx hb dL_law_763 (by decide) (fun _ => ?_) (fun c2 => absurd cb c2)
    refine lv_iconst (v := 0) hx hb dL_law_770 (by decide) ?_
    refine lx_V0 C hw.swap hS (fun A => tX7_raise l A D cy st sz9 shM dM mm (xs (iv + 1).toNatClampNeg) (xs (iv + 2).toNatClampNeg) (0 : Int32) fm) cvX7_raise kw_991 km ⟨(Nat.le_of_ble_eq_true rfl), (Nat.le_of_ble_eq_true rfl)⟩ hl.1 rfl (Nat.le_of_ble_eq_true rfl) dL_law_771 ⟨hcu, hsu⟩ (fun H locs hw hS => ?_)
    have hw := hw.swap
    refine lv_icmp_eq (tgt := 1715) hx hb dL_law_774 (by decide) (fun _ => ?_) (fun c9 => absurd rfl c9)
    refine lv_iinc (v := iv + 6) (lv' := [(3, .int (iv + 6)), (0, .ref b), (1, .ref x), (2, .ref mm)]) hx hb dL_law_1715 hl (k := 3) rfl rfl (by decide) rfl (fun ls hl => ?_)
    refine lv_goto (tgt := 18) hx hb dL_law_1718 (by decide) ?_
    exact kk _ _ _ hw hS hl
  · rw [if_neg cb] at fx fm
    refine lv_iconst (v := 1) hx hb dL_law_739 (by decide) ?_
    refine lv_goto (tgt := 744) hx hb dL_law_740 (by decide) ?_
    refine lx_V C hw hS (fun A => tX6_raise l A D cy st x (xs (iv + 1).toNatClampNeg) (xs (iv + 2).toNatClampNeg) (1 : Int32) sz ns shC dC fx) cvX6_raise kw_459 kx ⟨(Nat.le_of_ble_eq_true rfl), (Nat.le_of_ble_eq_true rfl)⟩ hl.1 rfl (Nat.le_of_ble_eq_true rfl) dL_law_744 ⟨hcu, hsu⟩ (fun H locs hw hS => ?_)
    refine lv_aload_n hx hb dL_law_747 rfl (lv_at hl 2 rfl) ?_
    refine lv_aload_n hx hb dL_law_748 rfl (lv_at hl 0 rfl) ?_
    refine lv_iload_n hx hb dL_law_749 rfl (lv_at hl 3 rfl) ?_
    refine lv_iconst (v := 1) hx hb dL_law_750 (by decide) ?_
    refine lv_iadd hx hb dL_law_751 ?_
    refine va_sld hx hb hX hbl (Nat.not_le.mpr hbl) hS i1 dL_law_752 ?_
    refine lv_aload_n hx hb dL_law_753 rfl (lv_at hl 0 rfl) ?_
    refine lv_iload_n hx hb dL_law_754 rfl (lv_at hl 3 rfl) ?_
    refine lv_iconst (v := 2) hx hb dL_law_755 (by decide) ?_
    refine lv_iadd hx hb dL_law_756 ?_
    refine va_sld hx hb hX hbl (Nat.not_le.mpr hbl) hS i2 dL_law_757 ?_
    refine lv_aload_n hx hb dL_law_758 rfl (lv_at hl 0 rfl) ?_
    refine lv_iload_n hx hb dL_law_759 rfl (lv_at hl 3 rfl) ?_
    refine lv_iconst (v := 3) hx hb dL_law_760 (by decide) ?_
    refine lv_iadd hx hb dL_law_761 ?_
    refine va_sld hx hb hX hbl (Nat.not_le.mpr hbl) hS i3 dL_law_762 ?_
    refine lv_if_eq (tgt := 770) hx hb dL_law_763 (by decide) (fun c2 => absurd c2 cb) (fun _ => ?_)
    refine lv_iconst (v := 1) hx hb dL_law_766 (by decide) ?_
    refine lv_goto (tgt := 771) hx hb dL_law_767 (by decide) ?_
    refine lx_V0 C hw.swap hS (fun A => tX7_raise l A D cy st sz9 shM dM mm (xs (iv + 1).toNatClampNeg) (xs (iv + 2).toNatClampNeg) (1 : Int32) fm) cvX7_raise kw_991 km ⟨(Nat.le_of_ble_eq_true rfl), (Nat.le_of_ble_eq_true rfl)⟩ hl.1 rfl (Nat.le_of_ble_eq_true rfl) dL_law_771 ⟨hcu, hsu⟩ (fun H locs hw hS => ?_)
    have hw := hw.swap
    refine lv_icmp_eq (tgt := 1715) hx hb dL_law_774 (by decide) (fun _ => ?_) (fun c9 => absurd rfl c9)
    refine lv_iinc (v := iv + 6) (lv' := [(3, .int (iv + 6)), (0, .ref b), (1, .ref x), (2, .ref mm)]) hx hb dL_law_1715 hl (k := 3) rfl rfl (by decide) rfl (fun ls hl => ?_)
    refine lv_goto (tgt := 18) hx hb dL_law_1718 (by decide) ?_
    exact kk _ _ _ hw hS hl
set_option maxRecDepth 100000 in
set_option maxHeartbeats 4000000 in
theorem lk_11 (C : mx p s m #[Value.ref b] meth c ⟨"ManyHandsLaw", meth.name, ""⟩ cL_law 4 (some .boolean) (fun q => s.heap.size ≤ q) D cy st) (hX : va_X b L xs s s.heap) (hbl : b < s.heap.size) {x mm sz : Nat} {shC shM : Sh} {dC dM : Dt} {iv : Int32} {r : Int32} {cu su : Nat} (i1 : vp_in (iv + 1) L) (i2 : vp_in (iv + 2) L) (kx : shC.1 x = 8) (km : shM.1 mm = 9) (fx : fX6_change shC dC x (xs (iv + 1).toNatClampNeg) (xs (iv + 2).toNatClampNeg) = some r) (fm : fX7_change shM dM mm (xs (iv + 1).toNatClampNeg) (xs (iv + 2).toNatClampNeg) = some r) (hcu : cu ≤ 600000) (hsu : su ≤ 7302250) {H : Heap} {locs : List Loc} {ls : Array Slot} (hw : LW2 s.heap.size sz D cy shC dC shM dM H) (hS : va_S (fun q => s.heap.size ≤ q) s.heap H locs) (hl : lv_has ls 4 [(0, .ref b), (1, .ref x), (2, .ref mm), (3, .int iv)])
    (kk : ∀ (H : Heap) (locs : List Loc) (ls : Array Slot), LW2 s.heap.size sz D cy shC dC shM dM H → va_S (fun q => s.heap.size ≤ q) s.heap H locs → lv_has ls 4 [(3, .int (iv + 6)), (0, .ref b), (1, .ref x), (2, .ref mm)] → W p l e room_1 s m #[Value.ref b] below meth c H locs (cu) (su) Q (F0 m 18 ls [])) : W p l e room_1 s m #[Value.ref b] below meth c H locs cu su Q (F0 m 779 ls []) := by
  have hx := C.1
  have hb := C.2.1
  refine lv_aload_n hx hb dL_law_779 rfl (lv_at hl 1 rfl) ?_
  refine lv_aload_n hx hb dL_law_780 rfl (lv_at hl 0 rfl) ?_
  refine lv_iload_n hx hb dL_law_781 rfl (lv_at hl 3 rfl) ?_
  refine lv_iconst (v := 1) hx hb dL_law_782 (by decide) ?_
  refine lv_iadd hx hb dL_law_783 ?_
  refine va_sld hx hb hX hbl (Nat.not_le.mpr hbl) hS i1 dL_law_784 ?_
  refine lv_aload_n hx hb dL_law_785 rfl (lv_at hl 0 rfl) ?_
  refine lv_iload_n hx hb dL_law_786 rfl (lv_at hl 3 rfl) ?_
  refine lv_iconst (v := 2) hx hb dL_law_787 (by decide) ?_
  refine lv_iadd hx hb dL_law_788 ?_
  refine va_sld hx hb hX hbl (Nat.not_le.mpr hbl) hS i2 dL_law_789 ?_
  refine lx_V0 C hw hS (fun A => tX6_change l A D cy st sz shC dC x (xs (iv + 1).toNatClampNeg) (xs (iv + 2).toNatClampNeg) fx) cvX6_change kw_463 kx ⟨(Nat.le_of_ble_eq_true rfl), (Nat.le_of_ble_eq_true rfl)⟩ hl.1 rfl (Nat.le_of_ble_eq_true rfl) dL_law_790 ⟨hcu, hsu⟩ (fun H locs hw hS => ?_)
  refine lv_aload_n hx hb dL_law_793 rfl (lv_at hl 2 rfl) ?_
  refine lv_aload_n hx hb dL_law_794 rfl (lv_at hl 0 rfl) ?_
  refine lv_iload_n hx hb dL_law_795 rfl (lv_at hl 3 rfl) ?_
  refine lv_iconst (v := 1) hx hb dL_law_796 (by decide) ?_
  refine lv_iadd hx hb dL_law_797 ?_
  refine va_sld hx hb hX hbl (Nat.not_le.mpr hbl) hS i1 dL_law_798 ?_
  refine lv_aload_n hx hb dL_law_799 rfl (lv_at hl 0 rfl) ?_
  refine lv_iload_n hx hb dL_law_800 rfl (lv_at hl 3 rfl) ?_
  refine lv_iconst (v := 2) hx hb dL_law_801 (by decide) ?_
  refine lv_iadd hx hb dL_law_802 ?_
  refine va_sld hx hb hX hbl (Nat.not_le.mpr hbl) hS i2 dL_law_803 ?_
  refine lx_V0 C hw.swap hS (fun A => tX7_change l A D cy st sz shM dM mm (xs (iv + 1).toNatClampNeg) (xs (iv + 2).toNatClampNeg) fm) cvX7_change kw_995 km ⟨(Nat.le_of_ble_eq_true rfl), (Nat.le_of_ble_eq_true rfl)⟩ hl.1 rfl (Nat.le_of_ble_eq_true rfl) dL_law_804 ⟨hcu, hsu⟩ (fun H locs hw hS => ?_)
  have hw := hw.swap
  refine lv_icmp_eq (tgt := 1715) hx hb dL_law_807 (by decide) (fun _ => ?_) (fun c9 => absurd rfl c9)
  refine lv_iinc (v := iv + 6) (lv' := [(3, .int (iv + 6)), (0, .ref b), (1, .ref x), (2, .ref mm)]) hx hb dL_law_1715 hl (k := 3) rfl rfl (by decide) rfl (fun ls hl => ?_)
  refine lv_goto (tgt := 18) hx hb dL_law_1718 (by decide) ?_
  exact kk _ _ _ hw hS hl
set_option maxRecDepth 100000 in
set_option maxHeartbeats 4000000 in
theorem lk_12 (C : mx p s m #[Value.ref b] meth c ⟨"ManyHandsLaw", meth.name, ""⟩ cL_law 4 (some .boolean) (fun q => s.heap.size ≤ q) D cy st) (hX : va_X b L xs s s.heap) (hbl : b < s.heap.size) {x mm sz : Nat} {shC shM : Sh} {dC dM : Dt} {iv : Int32} {r : Int32} {cu su : Nat} (i1 : vp_in (iv + 1) L) (i2 : vp_in (iv + 2) L) (kx : shC.1 x = 8) (km : shM.1 mm = 9) (fx : fX6_knows shC dC x (xs (iv + 1).toNatClampNeg) (xs (iv + 2).toNatClampNeg) = some r) (fm : fX7_knows shM dM mm (xs (iv + 1).toNatClampNeg) (xs (iv + 2).toNatClampNeg) = some r) (hcu : cu ≤ 600000) (hsu : su ≤ 7302250) {H : Heap} {locs : List Loc} {ls : Array Slot} (hw : LW2 s.heap.size sz D cy shC dC shM dM H) (hS : va_S (fun q => s.heap.size ≤ q) s.heap H locs) (hl : lv_has ls 4 [(0, .ref b), (1, .ref x), (2, .ref mm), (3, .int iv)])
    (kk : ∀ (H : Heap) (locs : List Loc) (ls : Array Slot), LW2 s.heap.size sz D cy shC dC shM dM H → va_S (fun q => s.heap.size ≤ q) s.heap H locs → lv_has ls 4 [(3, .int (iv + 6)), (0, .ref b), (1, .ref x), (2, .ref mm)] → W p l e room_1 s m #[Value.ref b] below meth c H locs (cu) (su) Q (F0 m 18 ls [])) : W p l e room_1 s m #[Value.ref b] below meth c H locs cu su Q (F0 m 812 ls []) := by
  have hx := C.1
  have hb := C.2.1
  refine lv_aload_n hx hb dL_law_812 rfl (lv_at hl 1 rfl) ?_
  refine lv_aload_n hx hb dL_law_813 rfl (lv_at hl 0 rfl) ?_
  refine lv_iload_n hx hb dL_law_814 rfl (lv_at hl 3 rfl) ?_
  refine lv_iconst (v := 1) hx hb dL_law_815 (by decide) ?_
  refine lv_iadd hx hb dL_law_816 ?_
  refine va_sld hx hb hX hbl (Nat.not_le.mpr hbl) hS i1 dL_law_817 ?_
  refine lv_aload_n hx hb dL_law_818 rfl (lv_at hl 0 rfl) ?_
  refine lv_iload_n hx hb dL_law_819 rfl (lv_at hl 3 rfl) ?_
  refine lv_iconst (v := 2) hx hb dL_law_820 (by decide) ?_
  refine lv_iadd hx hb dL_law_821 ?_
  refine va_sld hx hb hX hbl (Nat.not_le.mpr hbl) hS i2 dL_law_822 ?_
  refine lx_V0 C hw hS (fun A => tX6_knows l A D cy st sz shC dC x (xs (iv + 1).toNatClampNeg) (xs (iv + 2).toNatClampNeg) fx) cvX6_knows kw_494 kx ⟨(Nat.le_of_ble_eq_true rfl), (Nat.le_of_ble_eq_true rfl)⟩ hl.1 rfl (Nat.le_of_ble_eq_true rfl) dL_law_823 ⟨hcu, hsu⟩ (fun H locs hw hS => ?_)
  refine lv_aload_n hx hb dL_law_826 rfl (lv_at hl 2 rfl) ?_
  refine lv_aload_n hx hb dL_law_827 rfl (lv_at hl 0 rfl) ?_
  refine lv_iload_n hx hb dL_law_828 rfl (lv_at hl 3 rfl) ?_
  refine lv_iconst (v := 1) hx hb dL_law_829 (by decide) ?_
  refine lv_iadd hx hb dL_law_830 ?_
  refine va_sld hx hb hX hbl (Nat.not_le.mpr hbl) hS i1 dL_law_831 ?_
  refine lv_aload_n hx hb dL_law_832 rfl (lv_at hl 0 rfl) ?_
  refine lv_iload_n hx hb dL_law_833 rfl (lv_at hl 3 rfl) ?_
  refine lv_iconst (v := 2) hx hb dL_law_834 (by decide) ?_
  refine lv_iadd hx hb dL_law_835 ?_
  refine va_sld hx hb hX hbl (Nat.not_le.mpr hbl) hS i2 dL_law_836 ?_
  refine lx_V0 C hw.swap hS (fun A => tX7_knows l A D cy st sz shM dM mm (xs (iv + 1).toNatClampNeg) (xs (iv + 2).toNatClampNeg) fm) cvX7_knows kw_1007 km ⟨(Nat.le_of_ble_eq_true rfl), (Nat.le_of_ble_eq_true rfl)⟩ hl.1 rfl (Nat.le_of_ble_eq_true rfl) dL_law_837 ⟨hcu, hsu⟩ (fun H locs hw hS => ?_)
  have hw := hw.swap
  refine lv_icmp_eq (tgt := 1715) hx hb dL_law_840 (by decide) (fun _ => ?_) (fun c9 => absurd rfl c9)
  refine lv_iinc (v := iv + 6) (lv' := [(3, .int (iv + 6)), (0, .ref b), (1, .ref x), (2, .ref mm)]) hx hb dL_law_1715 hl (k := 3) rfl rfl (by decide) rfl (fun ls hl => ?_)
  refine lv_goto (tgt := 18) hx hb dL_law_1718 (by decide) ?_
  exact kk _ _ _ hw hS hl
set_option maxRecDepth 100000 in
set_option maxHeartbeats 4000000 in
theorem lk_13 (C : mx p s m #[Value.ref b] meth c ⟨"ManyHandsLaw", meth.name, ""⟩ cL_law 4 (some .boolean) (fun q => s.heap.size ≤ q) D cy st) (hX : va_X b L xs s s.heap) (hbl : b < s.heap.size) {x mm sz ns sz9 ns9 : Nat} {shC shM shC9 : Sh} {dC dM dC9 dM9 : Dt} {iv : Int32} {r : Int32} {cu su : Nat} (i1 : vp_in (iv + 1) L) (i2 : vp_in (iv + 2) L) (kx : shC.1 x = 8) (km : shM.1 mm = 9) (fx : fX6_come (st 1) (st 2) x (xs (iv + 1).toNatClampNeg) (xs (iv + 2).toNatClampNeg) sz ns shC dC = some (r, sz9, ns9, shC9, dC9)) (fm : fX7_come shM dM mm (xs (iv + 1).toNatClampNeg) (xs (iv + 2).toNatClampNeg) = some (r, dM9)) (hcu : cu + (sz9 - sz) ≤ 600000) (hsu : su + (ns9 - ns) ≤ 7302250) {H : Heap} {locs : List Loc} {ls : Array Slot} (hw : LW2 s.heap.size sz D cy shC dC shM dM H) (hS : va_S (fun q => s.heap.size ≤ q) s.heap H locs) (hl : lv_has ls 4 [(0, .ref b), (1, .ref x), (2, .ref mm), (3, .int iv)])
    (kk : ∀ (H : Heap) (locs : List Loc) (ls : Array Slot), LW2 s.heap.size sz9 D cy shC9 dC9 shM dM9 H → va_S (fun q => s.heap.size ≤ q) s.heap H locs → lv_has ls 4 [(3, .int (iv + 6)), (0, .ref b), (1, .ref x), (2, .ref mm)] → W p l e room_1 s m #[Value.ref b] below meth c H locs (cu + (sz9 - sz)) (su + (ns9 - ns)) Q (F0 m 18 ls [])) : W p l e room_1 s m #[Value.ref b] below meth c H locs cu su Q (F0 m 845 ls []) := by
  have hx := C.1
  have hb := C.2.1
  refine lv_aload_n hx hb dL_law_845 rfl (lv_at hl 1 rfl) ?_
  refine lv_aload_n hx hb dL_law_846 rfl (lv_at hl 0 rfl) ?_
  refine lv_iload_n hx hb dL_law_847 rfl (lv_at hl 3 rfl) ?_
  refine lv_iconst (v := 1) hx hb dL_law_848 (by decide) ?_
  refine lv_iadd hx hb dL_law_849 ?_
  refine va_sld hx hb hX hbl (Nat.not_le.mpr hbl) hS i1 dL_law_850 ?_
  refine lv_aload_n hx hb dL_law_851 rfl (lv_at hl 0 rfl) ?_
  refine lv_iload_n hx hb dL_law_852 rfl (lv_at hl 3 rfl) ?_
  refine lv_iconst (v := 2) hx hb dL_law_853 (by decide) ?_
  refine lv_iadd hx hb dL_law_854 ?_
  refine va_sld hx hb hX hbl (Nat.not_le.mpr hbl) hS i2 dL_law_855 ?_
  refine lx_V C hw hS (fun A => tX6_come l A D cy st x (xs (iv + 1).toNatClampNeg) (xs (iv + 2).toNatClampNeg) sz ns shC dC fx) cvX6_come kw_498 kx ⟨(Nat.le_of_ble_eq_true rfl), (Nat.le_of_ble_eq_true rfl)⟩ hl.1 rfl (Nat.le_of_ble_eq_true rfl) dL_law_856 ⟨hcu, hsu⟩ (fun H locs hw hS => ?_)
  refine lv_aload_n hx hb dL_law_859 rfl (lv_at hl 2 rfl) ?_
  refine lv_aload_n hx hb dL_law_860 rfl (lv_at hl 0 rfl) ?_
  refine lv_iload_n hx hb dL_law_861 rfl (lv_at hl 3 rfl) ?_
  refine lv_iconst (v := 1) hx hb dL_law_862 (by decide) ?_
  refine lv_iadd hx hb dL_law_863 ?_
  refine va_sld hx hb hX hbl (Nat.not_le.mpr hbl) hS i1 dL_law_864 ?_
  refine lv_aload_n hx hb dL_law_865 rfl (lv_at hl 0 rfl) ?_
  refine lv_iload_n hx hb dL_law_866 rfl (lv_at hl 3 rfl) ?_
  refine lv_iconst (v := 2) hx hb dL_law_867 (by decide) ?_
  refine lv_iadd hx hb dL_law_868 ?_
  refine va_sld hx hb hX hbl (Nat.not_le.mpr hbl) hS i2 dL_law_869 ?_
  refine lx_V0 C hw.swap hS (fun A => tX7_come l A D cy st sz9 shM dM mm (xs (iv + 1).toNatClampNeg) (xs (iv + 2).toNatClampNeg) fm) cvX7_come kw_1011 km ⟨(Nat.le_of_ble_eq_true rfl), (Nat.le_of_ble_eq_true rfl)⟩ hl.1 rfl (Nat.le_of_ble_eq_true rfl) dL_law_870 ⟨hcu, hsu⟩ (fun H locs hw hS => ?_)
  have hw := hw.swap
  refine lv_icmp_eq (tgt := 1715) hx hb dL_law_873 (by decide) (fun _ => ?_) (fun c9 => absurd rfl c9)
  refine lv_iinc (v := iv + 6) (lv' := [(3, .int (iv + 6)), (0, .ref b), (1, .ref x), (2, .ref mm)]) hx hb dL_law_1715 hl (k := 3) rfl rfl (by decide) rfl (fun ls hl => ?_)
  refine lv_goto (tgt := 18) hx hb dL_law_1718 (by decide) ?_
  exact kk _ _ _ hw hS hl
set_option maxRecDepth 100000 in
set_option maxHeartbeats 4000000 in
theorem lk_14 (C : mx p s m #[Value.ref b] meth c ⟨"ManyHandsLaw", meth.name, ""⟩ cL_law 4 (some .boolean) (fun q => s.heap.size ≤ q) D cy st) (hX : va_X b L xs s s.heap) (hbl : b < s.heap.size) {x mm sz ns sz9 ns9 : Nat} {shC shM shC9 : Sh} {dC dM dC9 dM9 : Dt} {iv : Int32} {r : Int32} {cu su : Nat} (i1 : vp_in (iv + 1) L) (i2 : vp_in (iv + 2) L) (i3 : vp_in (iv + 3) L) (kx : shC.1 x = 8) (km : shM.1 mm = 9) (fx : fX6_meet (st 1) (st 2) x (xs (iv + 1).toNatClampNeg) (xs (iv + 2).toNatClampNeg) (xs (iv + 3).toNatClampNeg) sz ns shC dC = some (r, sz9, ns9, shC9, dC9)) (fm : fX7_meet shM dM mm (xs (iv + 1).toNatClampNeg) (xs (iv + 2).toNatClampNeg) (xs (iv + 3).toNatClampNeg) = some (r, dM9)) (hcu : cu + (sz9 - sz) ≤ 600000) (hsu : su + (ns9 - ns) ≤ 7302250) {H : Heap} {locs : List Loc} {ls : Array Slot} (hw : LW2 s.heap.size sz D cy shC dC shM dM H) (hS : va_S (fun q => s.heap.size ≤ q) s.heap H locs) (hl : lv_has ls 4 [(0, .ref b), (1, .ref x), (2, .ref mm), (3, .int iv)])
    (kk : ∀ (H : Heap) (locs : List Loc) (ls : Array Slot), LW2 s.heap.size sz9 D cy shC9 dC9 shM dM9 H → va_S (fun q => s.heap.size ≤ q) s.heap H locs → lv_has ls 4 [(3, .int (iv + 6)), (0, .ref b), (1, .ref x), (2, .ref mm)] → W p l e room_1 s m #[Value.ref b] below meth c H locs (cu + (sz9 - sz)) (su + (ns9 - ns)) Q (F0 m 18 ls [])) : W p l e room_1 s m #[Value.ref b] below meth c H locs cu su Q (F0 m 878 ls []) := by
  have hx := C.1
  have hb := C.2.1
  refine lv_aload_n hx hb dL_law_878 rfl (lv_at hl 1 rfl) ?_
  refine lv_aload_n hx hb dL_law_879 rfl (lv_at hl 0 rfl) ?_
  refine lv_iload_n hx hb dL_law_880 rfl (lv_at hl 3 rfl) ?_
  refine lv_iconst (v := 1) hx hb dL_law_881 (by decide) ?_
  refine lv_iadd hx hb dL_law_882 ?_
  refine va_sld hx hb hX hbl (Nat.not_le.mpr hbl) hS i1 dL_law_883 ?_
  refine lv_aload_n hx hb dL_law_884 rfl (lv_at hl 0 rfl) ?_
  refine lv_iload_n hx hb dL_law_885 rfl (lv_at hl 3 rfl) ?_
  refine lv_iconst (v := 2) hx hb dL_law_886 (by decide) ?_
  refine lv_iadd hx hb dL_law_887 ?_
  refine va_sld hx hb hX hbl (Nat.not_le.mpr hbl) hS i2 dL_law_888 ?_
  refine lv_aload_n hx hb dL_law_889 rfl (lv_at hl 0 rfl) ?_
  refine lv_iload_n hx hb dL_law_890 rfl (lv_at hl 3 rfl) ?_
  refine lv_iconst (v := 3) hx hb dL_law_891 (by decide) ?_
  refine lv_iadd hx hb dL_law_892 ?_
  refine va_sld hx hb hX hbl (Nat.not_le.mpr hbl) hS i3 dL_law_893 ?_
  refine lx_V C hw hS (fun A => tX6_meet l A D cy st x (xs (iv + 1).toNatClampNeg) (xs (iv + 2).toNatClampNeg) (xs (iv + 3).toNatClampNeg) sz ns shC dC fx) cvX6_meet kw_546 kx ⟨(Nat.le_of_ble_eq_true rfl), (Nat.le_of_ble_eq_true rfl)⟩ hl.1 rfl (Nat.le_of_ble_eq_true rfl) dL_law_894 ⟨hcu, hsu⟩ (fun H locs hw hS => ?_)
  refine lv_aload_n hx hb dL_law_897 rfl (lv_at hl 2 rfl) ?_
  refine lv_aload_n hx hb dL_law_898 rfl (lv_at hl 0 rfl) ?_
  refine lv_iload_n hx hb dL_law_899 rfl (lv_at hl 3 rfl) ?_
  refine lv_iconst (v := 1) hx hb dL_law_900 (by decide) ?_
  refine lv_iadd hx hb dL_law_901 ?_
  refine va_sld hx hb hX hbl (Nat.not_le.mpr hbl) hS i1 dL_law_902 ?_
  refine lv_aload_n hx hb dL_law_903 rfl (lv_at hl 0 rfl) ?_
  refine lv_iload_n hx hb dL_law_904 rfl (lv_at hl 3 rfl) ?_
  refine lv_iconst (v := 2) hx hb dL_law_905 (by decide) ?_
  refine lv_iadd hx hb dL_law_906 ?_
  refine va_sld hx hb hX hbl (Nat.not_le.mpr hbl) hS i2 dL_law_907 ?_
  refine lv_aload_n hx hb dL_law_908 rfl (lv_at hl 0 rfl) ?_
  refine lv_iload_n hx hb dL_law_909 rfl (lv_at hl 3 rfl) ?_
  refine lv_iconst (v := 3) hx hb dL_law_910 (by decide) ?_
  refine lv_iadd hx hb dL_law_911 ?_
  refine va_sld hx hb hX hbl (Nat.not_le.mpr hbl) hS i3 dL_law_912 ?_
  refine lx_V0 C hw.swap hS (fun A => tX7_meet l A D cy st sz9 shM dM mm (xs (iv + 1).toNatClampNeg) (xs (iv + 2).toNatClampNeg) (xs (iv + 3).toNatClampNeg) fm) cvX7_meet kw_1038 km ⟨(Nat.le_of_ble_eq_true rfl), (Nat.le_of_ble_eq_true rfl)⟩ hl.1 rfl (Nat.le_of_ble_eq_true rfl) dL_law_913 ⟨hcu, hsu⟩ (fun H locs hw hS => ?_)
  have hw := hw.swap
  refine lv_icmp_eq (tgt := 1715) hx hb dL_law_916 (by decide) (fun _ => ?_) (fun c9 => absurd rfl c9)
  refine lv_iinc (v := iv + 6) (lv' := [(3, .int (iv + 6)), (0, .ref b), (1, .ref x), (2, .ref mm)]) hx hb dL_law_1715 hl (k := 3) rfl rfl (by decide) rfl (fun ls hl => ?_)
  refine lv_goto (tgt := 18) hx hb dL_law_1718 (by decide) ?_
  exact kk _ _ _ hw hS hl
set_option maxRecDepth 100000 in
set_option maxHeartbeats 4000000 in
theorem lk_15 (C : mx p s m #[Value.ref b] meth c ⟨"ManyHandsLaw", meth.name, ""⟩ cL_law 4 (some .boolean) (fun q => s.heap.size ≤ q) D cy st) (hX : va_X b L xs s s.heap) (hbl : b < s.heap.size) {x mm sz : Nat} {shC shM : Sh} {dC dM dC9 dM9 : Dt} {iv : Int32} {r : Int32} {cu su : Nat} (i1 : vp_in (iv + 1) L) (kx : shC.1 x = 8) (km : shM.1 mm = 9) (fx : fX6_lose shC dC x (xs (iv + 1).toNatClampNeg) = some (r, dC9)) (fm : fX7_lose shM dM mm (xs (iv + 1).toNatClampNeg) = some (r, dM9)) (hcu : cu ≤ 600000) (hsu : su ≤ 7302250) {H : Heap} {locs : List Loc} {ls : Array Slot} (hw : LW2 s.heap.size sz D cy shC dC shM dM H) (hS : va_S (fun q => s.heap.size ≤ q) s.heap H locs) (hl : lv_has ls 4 [(0, .ref b), (1, .ref x), (2, .ref mm), (3, .int iv)])
    (kk : ∀ (H : Heap) (locs : List Loc) (ls : Array Slot), LW2 s.heap.size sz D cy shC dC9 shM dM9 H → va_S (fun q => s.heap.size ≤ q) s.heap H locs → lv_has ls 4 [(3, .int (iv + 6)), (0, .ref b), (1, .ref x), (2, .ref mm)] → W p l e room_1 s m #[Value.ref b] below meth c H locs (cu) (su) Q (F0 m 18 ls [])) : W p l e room_1 s m #[Value.ref b] below meth c H locs cu su Q (F0 m 921 ls []) := by
  have hx := C.1
  have hb := C.2.1
  refine lv_aload_n hx hb dL_law_921 rfl (lv_at hl 1 rfl) ?_
  refine lv_aload_n hx hb dL_law_922 rfl (lv_at hl 0 rfl) ?_
  refine lv_iload_n hx hb dL_law_923 rfl (lv_at hl 3 rfl) ?_
  refine lv_iconst (v := 1) hx hb dL_law_924 (by decide) ?_
  refine lv_iadd hx hb dL_law_925 ?_
  refine va_sld hx hb hX hbl (Nat.not_le.mpr hbl) hS i1 dL_law_926 ?_
  refine lx_V0 C hw hS (fun A => tX6_lose l A D cy st sz shC dC x (xs (iv + 1).toNatClampNeg) fx) cvX6_lose kw_560 kx ⟨(Nat.le_of_ble_eq_true rfl), (Nat.le_of_ble_eq_true rfl)⟩ hl.1 rfl (Nat.le_of_ble_eq_true rfl) dL_law_927 ⟨hcu, hsu⟩ (fun H locs hw hS => ?_)
  refine lv_aload_n hx hb dL_law_930 rfl (lv_at hl 2 rfl) ?_
  refine lv_aload_n hx hb dL_law_931 rfl (lv_at hl 0 rfl) ?_
  refine lv_iload_n hx hb dL_law_932 rfl (lv_at hl 3 rfl) ?_
  refine lv_iconst (v := 1) hx hb dL_law_933 (by decide) ?_
  refine lv_iadd hx hb dL_law_934 ?_
  refine va_sld hx hb hX hbl (Nat.not_le.mpr hbl) hS i1 dL_law_935 ?_
  refine lx_V0 C hw.swap hS (fun A => tX7_lose l A D cy st sz shM dM mm (xs (iv + 1).toNatClampNeg) fm) cvX7_lose kw_1043 km ⟨(Nat.le_of_ble_eq_true rfl), (Nat.le_of_ble_eq_true rfl)⟩ hl.1 rfl (Nat.le_of_ble_eq_true rfl) dL_law_936 ⟨hcu, hsu⟩ (fun H locs hw hS => ?_)
  have hw := hw.swap
  refine lv_icmp_eq (tgt := 1715) hx hb dL_law_939 (by decide) (fun _ => ?_) (fun c9 => absurd rfl c9)
  refine lv_iinc (v := iv + 6) (lv' := [(3, .int (iv + 6)), (0, .ref b), (1, .ref x), (2, .ref mm)]) hx hb dL_law_1715 hl (k := 3) rfl rfl (by decide) rfl (fun ls hl => ?_)
  refine lv_goto (tgt := 18) hx hb dL_law_1718 (by decide) ?_
  exact kk _ _ _ hw hS hl
set_option maxRecDepth 100000 in
set_option maxHeartbeats 4000000 in
theorem lk_16 (C : mx p s m #[Value.ref b] meth c ⟨"ManyHandsLaw", meth.name, ""⟩ cL_law 4 (some .boolean) (fun q => s.heap.size ≤ q) D cy st) (hX : va_X b L xs s s.heap) (hbl : b < s.heap.size) {x mm sz : Nat} {shC shM : Sh} {dC dM : Dt} {iv : Int32} {r : Int32} {cu su : Nat} (i1 : vp_in (iv + 1) L) (i2 : vp_in (iv + 2) L) (kx : shC.1 x = 8) (km : shM.1 mm = 9) (fx : fX6_told shC dC x (xs (iv + 1).toNatClampNeg) (xs (iv + 2).toNatClampNeg) = some r) (fm : fX7_told shM dM mm (xs (iv + 1).toNatClampNeg) (xs (iv + 2).toNatClampNeg) = some r) (hcu : cu ≤ 600000) (hsu : su ≤ 7302250) {H : Heap} {locs : List Loc} {ls : Array Slot} (hw : LW2 s.heap.size sz D cy shC dC shM dM H) (hS : va_S (fun q => s.heap.size ≤ q) s.heap H locs) (hl : lv_has ls 4 [(0, .ref b), (1, .ref x), (2, .ref mm), (3, .int iv)])
    (kk : ∀ (H : Heap) (locs : List Loc) (ls : Array Slot), LW2 s.heap.size sz D cy shC dC shM dM H → va_S (fun q => s.heap.size ≤ q) s.heap H locs → lv_has ls 4 [(3, .int (iv + 6)), (0, .ref b), (1, .ref x), (2, .ref mm)] → W p l e room_1 s m #[Value.ref b] below meth c H locs (cu) (su) Q (F0 m 18 ls [])) : W p l e room_1 s m #[Value.ref b] below meth c H locs cu su Q (F0 m 944 ls []) := by
  have hx := C.1
  have hb := C.2.1
  refine lv_aload_n hx hb dL_law_944 rfl (lv_at hl 1 rfl) ?_
  refine lv_aload_n hx hb dL_law_945 rfl (lv_at hl 0 rfl) ?_
  refine lv_iload_n hx hb dL_law_946 rfl (lv_at hl 3 rfl) ?_
  refine lv_iconst (v := 1) hx hb dL_law_947 (by decide) ?_
  refine lv_iadd hx hb dL_law_948 ?_
  refine va_sld hx hb hX hbl (Nat.not_le.mpr hbl) hS i1 dL_law_949 ?_
  refine lv_aload_n hx hb dL_law_950 rfl (lv_at hl 0 rfl) ?_
  refine lv_iload_n hx hb dL_law_951 rfl (lv_at hl 3 rfl) ?_
  refine lv_iconst (v := 2) hx hb dL_law_952 (by decide) ?_
  refine lv_iadd hx hb dL_law_953 ?_
  refine va_sld hx hb hX hbl (Nat.not_le.mpr hbl) hS i2 dL_law_954 ?_
  refine lx_V0 C hw hS (fun A => tX6_told l A D cy st sz shC dC x (xs (iv + 1).toNatClampNeg) (xs (iv + 2).toNatClampNeg) fx) cvX6_told kw_574 kx ⟨(Nat.le_of_ble_eq_true rfl), (Nat.le_of_ble_eq_true rfl)⟩ hl.1 rfl (Nat.le_of_ble_eq_true rfl) dL_law_955 ⟨hcu, hsu⟩ (fun H locs hw hS => ?_)
  refine lv_aload_n hx hb dL_law_958 rfl (lv_at hl 2 rfl) ?_
  refine lv_aload_n hx hb dL_law_959 rfl (lv_at hl 0 rfl) ?_
  refine lv_iload_n hx hb dL_law_960 rfl (lv_at hl 3 rfl) ?_
  refine lv_iconst (v := 1) hx hb dL_law_961 (by decide) ?_
  refine lv_iadd hx hb dL_law_962 ?_
  refine va_sld hx hb hX hbl (Nat.not_le.mpr hbl) hS i1 dL_law_963 ?_
  refine lv_aload_n hx hb dL_law_964 rfl (lv_at hl 0 rfl) ?_
  refine lv_iload_n hx hb dL_law_965 rfl (lv_at hl 3 rfl) ?_
  refine lv_iconst (v := 2) hx hb dL_law_966 (by decide) ?_
  refine lv_iadd hx hb dL_law_967 ?_
  refine va_sld hx hb hX hbl (Nat.not_le.mpr hbl) hS i2 dL_law_968 ?_
  refine lx_V0 C hw.swap hS (fun A => tX7_told l A D cy st sz shM dM mm (xs (iv + 1).toNatClampNeg) (xs (iv + 2).toNatClampNeg) fm) cvX7_told kw_1050 km ⟨(Nat.le_of_ble_eq_true rfl), (Nat.le_of_ble_eq_true rfl)⟩ hl.1 rfl (Nat.le_of_ble_eq_true rfl) dL_law_969 ⟨hcu, hsu⟩ (fun H locs hw hS => ?_)
  have hw := hw.swap
  refine lv_icmp_eq (tgt := 1715) hx hb dL_law_972 (by decide) (fun _ => ?_) (fun c9 => absurd rfl c9)
  refine lv_iinc (v := iv + 6) (lv' := [(3, .int (iv + 6)), (0, .ref b), (1, .ref x), (2, .ref mm)]) hx hb dL_law_1715 hl (k := 3) rfl rfl (by decide) rfl (fun ls hl => ?_)
  refine lv_goto (tgt := 18) hx hb dL_law_1718 (by decide) ?_
  exact kk _ _ _ hw hS hl
set_option maxRecDepth 100000 in
set_option maxHeartbeats 4000000 in
theorem lk_17 (C : mx p s m #[Value.ref b] meth c ⟨"ManyHandsLaw", meth.name, ""⟩ cL_law 4 (some .boolean) (fun q => s.heap.size ≤ q) D cy st) (hX : va_X b L xs s s.heap) (hbl : b < s.heap.size) {x mm sz : Nat} {shC shM : Sh} {dC dM : Dt} {iv : Int32} {r : Int32} {cu su : Nat} (i1 : vp_in (iv + 1) L) (i2 : vp_in (iv + 2) L) (kx : shC.1 x = 8) (km : shM.1 mm = 9) (fx : fX6_has shC dC x (xs (iv + 1).toNatClampNeg) (xs (iv + 2).toNatClampNeg) = some r) (fm : fX7_has shM dM mm (xs (iv + 1).toNatClampNeg) (xs (iv + 2).toNatClampNeg) = some r) (hcu : cu ≤ 600000) (hsu : su ≤ 7302250) {H : Heap} {locs : List Loc} {ls : Array Slot} (hw : LW2 s.heap.size sz D cy shC dC shM dM H) (hS : va_S (fun q => s.heap.size ≤ q) s.heap H locs) (hl : lv_has ls 4 [(0, .ref b), (1, .ref x), (2, .ref mm), (3, .int iv)])
    (kk : ∀ (H : Heap) (locs : List Loc) (ls : Array Slot), LW2 s.heap.size sz D cy shC dC shM dM H → va_S (fun q => s.heap.size ≤ q) s.heap H locs → lv_has ls 4 [(3, .int (iv + 6)), (0, .ref b), (1, .ref x), (2, .ref mm)] → W p l e room_1 s m #[Value.ref b] below meth c H locs (cu) (su) Q (F0 m 18 ls [])) : W p l e room_1 s m #[Value.ref b] below meth c H locs cu su Q (F0 m 977 ls []) := by
  have hx := C.1
  have hb := C.2.1
  refine lv_aload_n hx hb dL_law_977 rfl (lv_at hl 1 rfl) ?_
  refine lv_aload_n hx hb dL_law_978 rfl (lv_at hl 0 rfl) ?_
  refine lv_iload_n hx hb dL_law_979 rfl (lv_at hl 3 rfl) ?_
  refine lv_iconst (v := 1) hx hb dL_law_980 (by decide) ?_
  refine lv_iadd hx hb dL_law_981 ?_
  refine va_sld hx hb hX hbl (Nat.not_le.mpr hbl) hS i1 dL_law_982 ?_
  refine lv_aload_n hx hb dL_law_983 rfl (lv_at hl 0 rfl) ?_
  refine lv_iload_n hx hb dL_law_984 rfl (lv_at hl 3 rfl) ?_
  refine lv_iconst (v := 2) hx hb dL_law_985 (by decide) ?_
  refine lv_iadd hx hb dL_law_986 ?_
  refine va_sld hx hb hX hbl (Nat.not_le.mpr hbl) hS i2 dL_law_987 ?_
  refine lx_V0 C hw hS (fun A => tX6_has l A D cy st sz shC dC x (xs (iv + 1).toNatClampNeg) (xs (iv + 2).toNatClampNeg) fx) cvX6_has kw_582 kx ⟨(Nat.le_of_ble_eq_true rfl), (Nat.le_of_ble_eq_true rfl)⟩ hl.1 rfl (Nat.le_of_ble_eq_true rfl) dL_law_988 ⟨hcu, hsu⟩ (fun H locs hw hS => ?_)
  refine lv_aload_n hx hb dL_law_991 rfl (lv_at hl 2 rfl) ?_
  refine lv_aload_n hx hb dL_law_992 rfl (lv_at hl 0 rfl) ?_
  refine lv_iload_n hx hb dL_law_993 rfl (lv_at hl 3 rfl) ?_
  refine lv_iconst (v := 1) hx hb dL_law_994 (by decide) ?_
  refine lv_iadd hx hb dL_law_995 ?_
  refine va_sld hx hb hX hbl (Nat.not_le.mpr hbl) hS i1 dL_law_996 ?_
  refine lv_aload_n hx hb dL_law_997 rfl (lv_at hl 0 rfl) ?_
  refine lv_iload_n hx hb dL_law_998 rfl (lv_at hl 3 rfl) ?_
  refine lv_iconst (v := 2) hx hb dL_law_999 (by decide) ?_
  refine lv_iadd hx hb dL_law_1000 ?_
  refine va_sld hx hb hX hbl (Nat.not_le.mpr hbl) hS i2 dL_law_1001 ?_
  refine lx_V0 C hw.swap hS (fun A => tX7_has l A D cy st sz shM dM mm (xs (iv + 1).toNatClampNeg) (xs (iv + 2).toNatClampNeg) fm) cvX7_has kw_1054 km ⟨(Nat.le_of_ble_eq_true rfl), (Nat.le_of_ble_eq_true rfl)⟩ hl.1 rfl (Nat.le_of_ble_eq_true rfl) dL_law_1002 ⟨hcu, hsu⟩ (fun H locs hw hS => ?_)
  have hw := hw.swap
  refine lv_icmp_eq (tgt := 1715) hx hb dL_law_1005 (by decide) (fun _ => ?_) (fun c9 => absurd rfl c9)
  refine lv_iinc (v := iv + 6) (lv' := [(3, .int (iv + 6)), (0, .ref b), (1, .ref x), (2, .ref mm)]) hx hb dL_law_1715 hl (k := 3) rfl rfl (by decide) rfl (fun ls hl => ?_)
  refine lv_goto (tgt := 18) hx hb dL_law_1718 (by decide) ?_
  exact kk _ _ _ hw hS hl
set_option maxRecDepth 100000 in
set_option maxHeartbeats 4000000 in
theorem lk_18 (C : mx p s m #[Value.ref b] meth c ⟨"ManyHandsLaw", meth.name, ""⟩ cL_law 4 (some .boolean) (fun q => s.heap.size ≤ q) D cy st) (hX : va_X b L xs s s.heap) (hbl : b < s.heap.size) {x mm sz : Nat} {shC shM : Sh} {dC dM : Dt} {iv : Int32} {r : Int32} {cu su : Nat} (i1 : vp_in (iv + 1) L) (i2 : vp_in (iv + 2) L) (kx : shC.1 x = 8) (km : shM.1 mm = 9) (fx : fX6_compare shC dC x (xs (iv + 1).toNatClampNeg) (xs (iv + 2).toNatClampNeg) = some r) (fm : fX7_compare shM dM mm (xs (iv + 1).toNatClampNeg) (xs (iv + 2).toNatClampNeg) = some r) (hcu : cu ≤ 600000) (hsu : su ≤ 7302250) {H : Heap} {locs : List Loc} {ls : Array Slot} (hw : LW2 s.heap.size sz D cy shC dC shM dM H) (hS : va_S (fun q => s.heap.size ≤ q) s.heap H locs) (hl : lv_has ls 4 [(0, .ref b), (1, .ref x), (2, .ref mm), (3, .int iv)])
    (kk : ∀ (H : Heap) (locs : List Loc) (ls : Array Slot), LW2 s.heap.size sz D cy shC dC shM dM H → va_S (fun q => s.heap.size ≤ q) s.heap H locs → lv_has ls 4 [(3, .int (iv + 6)), (0, .ref b), (1, .ref x), (2, .ref mm)] → W p l e room_1 s m #[Value.ref b] below meth c H locs (cu) (su) Q (F0 m 18 ls [])) : W p l e room_1 s m #[Value.ref b] below meth c H locs cu su Q (F0 m 1010 ls []) := by
  have hx := C.1
  have hb := C.2.1
  refine lv_aload_n hx hb dL_law_1010 rfl (lv_at hl 1 rfl) ?_
  refine lv_aload_n hx hb dL_law_1011 rfl (lv_at hl 0 rfl) ?_
  refine lv_iload_n hx hb dL_law_1012 rfl (lv_at hl 3 rfl) ?_
  refine lv_iconst (v := 1) hx hb dL_law_1013 (by decide) ?_
  refine lv_iadd hx hb dL_law_1014 ?_
  refine va_sld hx hb hX hbl (Nat.not_le.mpr hbl) hS i1 dL_law_1015 ?_
  refine lv_aload_n hx hb dL_law_1016 rfl (lv_at hl 0 rfl) ?_
  refine lv_iload_n hx hb dL_law_1017 rfl (lv_at hl 3 rfl) ?_
  refine lv_iconst (v := 2) hx hb dL_law_1018 (by decide) ?_
  refine lv_iadd hx hb dL_law_1019 ?_
  refine va_sld hx hb hX hbl (Nat.not_le.mpr hbl) hS i2 dL_law_1020 ?_
  refine lx_V0 C hw hS (fun A => tX6_compare l A D cy st sz shC dC x (xs (iv + 1).toNatClampNeg) (xs (iv + 2).toNatClampNeg) fx) cvX6_compare kw_587 kx ⟨(Nat.le_of_ble_eq_true rfl), (Nat.le_of_ble_eq_true rfl)⟩ hl.1 rfl (Nat.le_of_ble_eq_true rfl) dL_law_1021 ⟨hcu, hsu⟩ (fun H locs hw hS => ?_)
  refine lv_aload_n hx hb dL_law_1024 rfl (lv_at hl 2 rfl) ?_
  refine lv_aload_n hx hb dL_law_1025 rfl (lv_at hl 0 rfl) ?_
  refine lv_iload_n hx hb dL_law_1026 rfl (lv_at hl 3 rfl) ?_
  refine lv_iconst (v := 1) hx hb dL_law_1027 (by decide) ?_
  refine lv_iadd hx hb dL_law_1028 ?_
  refine va_sld hx hb hX hbl (Nat.not_le.mpr hbl) hS i1 dL_law_1029 ?_
  refine lv_aload_n hx hb dL_law_1030 rfl (lv_at hl 0 rfl) ?_
  refine lv_iload_n hx hb dL_law_1031 rfl (lv_at hl 3 rfl) ?_
  refine lv_iconst (v := 2) hx hb dL_law_1032 (by decide) ?_
  refine lv_iadd hx hb dL_law_1033 ?_
  refine va_sld hx hb hX hbl (Nat.not_le.mpr hbl) hS i2 dL_law_1034 ?_
  refine lx_V0 C hw.swap hS (fun A => tX7_compare l A D cy st sz shM dM mm (xs (iv + 1).toNatClampNeg) (xs (iv + 2).toNatClampNeg) fm) cvX7_compare kw_1058 km ⟨(Nat.le_of_ble_eq_true rfl), (Nat.le_of_ble_eq_true rfl)⟩ hl.1 rfl (Nat.le_of_ble_eq_true rfl) dL_law_1035 ⟨hcu, hsu⟩ (fun H locs hw hS => ?_)
  have hw := hw.swap
  refine lv_icmp_eq (tgt := 1715) hx hb dL_law_1038 (by decide) (fun _ => ?_) (fun c9 => absurd rfl c9)
  refine lv_iinc (v := iv + 6) (lv' := [(3, .int (iv + 6)), (0, .ref b), (1, .ref x), (2, .ref mm)]) hx hb dL_law_1715 hl (k := 3) rfl rfl (by decide) rfl (fun ls hl => ?_)
  refine lv_goto (tgt := 18) hx hb dL_law_1718 (by decide) ?_
  exact kk _ _ _ hw hS hl
set_option maxRecDepth 100000 in
set_option maxHeartbeats 4000000 in
theorem lk_19 (C : mx p s m #[Value.ref b] meth c ⟨"ManyHandsLaw", meth.name, ""⟩ cL_law 4 (some .boolean) (fun q => s.heap.size ≤ q) D cy st) (hX : va_X b L xs s s.heap) (hbl : b < s.heap.size) {x mm sz : Nat} {shC shM : Sh} {dC dM dC9 dM9 : Dt} {iv : Int32} {r : Int32} {cu su : Nat} (i1 : vp_in (iv + 1) L) (i2 : vp_in (iv + 2) L) (kx : shC.1 x = 8) (km : shM.1 mm = 9) (fx : fX6_value shC dC x (xs (iv + 1).toNatClampNeg) (xs (iv + 2).toNatClampNeg) = some (r, dC9)) (fm : fX7_value shM dM mm (xs (iv + 1).toNatClampNeg) (xs (iv + 2).toNatClampNeg) = some (r, dM9)) (hcu : cu ≤ 600000) (hsu : su ≤ 7302250) {H : Heap} {locs : List Loc} {ls : Array Slot} (hw : LW2 s.heap.size sz D cy shC dC shM dM H) (hS : va_S (fun q => s.heap.size ≤ q) s.heap H locs) (hl : lv_has ls 4 [(0, .ref b), (1, .ref x), (2, .ref mm), (3, .int iv)])
    (kk : ∀ (H : Heap) (locs : List Loc) (ls : Array Slot), LW2 s.heap.size sz D cy shC dC9 shM dM9 H → va_S (fun q => s.heap.size ≤ q) s.heap H locs → lv_has ls 4 [(3, .int (iv + 6)), (0, .ref b), (1, .ref x), (2, .ref mm)] → W p l e room_1 s m #[Value.ref b] below meth c H locs (cu) (su) Q (F0 m 18 ls [])) : W p l e room_1 s m #[Value.ref b] below meth c H locs cu su Q (F0 m 1043 ls []) := by
  have hx := C.1
  have hb := C.2.1
  refine lv_aload_n hx hb dL_law_1043 rfl (lv_at hl 1 rfl) ?_
  refine lv_aload_n hx hb dL_law_1044 rfl (lv_at hl 0 rfl) ?_
  refine lv_iload_n hx hb dL_law_1045 rfl (lv_at hl 3 rfl) ?_
  refine lv_iconst (v := 1) hx hb dL_law_1046 (by decide) ?_
  refine lv_iadd hx hb dL_law_1047 ?_
  refine va_sld hx hb hX hbl (Nat.not_le.mpr hbl) hS i1 dL_law_1048 ?_
  refine lv_aload_n hx hb dL_law_1049 rfl (lv_at hl 0 rfl) ?_
  refine lv_iload_n hx hb dL_law_1050 rfl (lv_at hl 3 rfl) ?_
  refine lv_iconst (v := 2) hx hb dL_law_1051 (by decide) ?_
  refine lv_iadd hx hb dL_law_1052 ?_
  refine va_sld hx hb hX hbl (Nat.not_le.mpr hbl) hS i2 dL_law_1053 ?_
  refine lx_V0 C hw hS (fun A => tX6_value l A D cy st sz shC dC x (xs (iv + 1).toNatClampNeg) (xs (iv + 2).toNatClampNeg) fx) cvX6_value kw_592 kx ⟨(Nat.le_of_ble_eq_true rfl), (Nat.le_of_ble_eq_true rfl)⟩ hl.1 rfl (Nat.le_of_ble_eq_true rfl) dL_law_1054 ⟨hcu, hsu⟩ (fun H locs hw hS => ?_)
  refine lv_aload_n hx hb dL_law_1057 rfl (lv_at hl 2 rfl) ?_
  refine lv_aload_n hx hb dL_law_1058 rfl (lv_at hl 0 rfl) ?_
  refine lv_iload_n hx hb dL_law_1059 rfl (lv_at hl 3 rfl) ?_
  refine lv_iconst (v := 1) hx hb dL_law_1060 (by decide) ?_
  refine lv_iadd hx hb dL_law_1061 ?_
  refine va_sld hx hb hX hbl (Nat.not_le.mpr hbl) hS i1 dL_law_1062 ?_
  refine lv_aload_n hx hb dL_law_1063 rfl (lv_at hl 0 rfl) ?_
  refine lv_iload_n hx hb dL_law_1064 rfl (lv_at hl 3 rfl) ?_
  refine lv_iconst (v := 2) hx hb dL_law_1065 (by decide) ?_
  refine lv_iadd hx hb dL_law_1066 ?_
  refine va_sld hx hb hX hbl (Nat.not_le.mpr hbl) hS i2 dL_law_1067 ?_
  refine lx_V0 C hw.swap hS (fun A => tX7_value l A D cy st sz shM dM mm (xs (iv + 1).toNatClampNeg) (xs (iv + 2).toNatClampNeg) fm) cvX7_value kw_1062 km ⟨(Nat.le_of_ble_eq_true rfl), (Nat.le_of_ble_eq_true rfl)⟩ hl.1 rfl (Nat.le_of_ble_eq_true rfl) dL_law_1068 ⟨hcu, hsu⟩ (fun H locs hw hS => ?_)
  have hw := hw.swap
  refine lv_icmp_eq (tgt := 1715) hx hb dL_law_1071 (by decide) (fun _ => ?_) (fun c9 => absurd rfl c9)
  refine lv_iinc (v := iv + 6) (lv' := [(3, .int (iv + 6)), (0, .ref b), (1, .ref x), (2, .ref mm)]) hx hb dL_law_1715 hl (k := 3) rfl rfl (by decide) rfl (fun ls hl => ?_)
  refine lv_goto (tgt := 18) hx hb dL_law_1718 (by decide) ?_
  exact kk _ _ _ hw hS hl
set_option maxRecDepth 100000 in
set_option maxHeartbeats 4000000 in
theorem lk_20 (C : mx p s m #[Value.ref b] meth c ⟨"ManyHandsLaw", meth.name, ""⟩ cL_law 4 (some .boolean) (fun q => s.heap.size ≤ q) D cy st) (hX : va_X b L xs s s.heap) (hbl : b < s.heap.size) {x mm sz : Nat} {shC shM : Sh} {dC dM dC9 dM9 : Dt} {iv : Int32} {r : Int32} {cu su : Nat} (i1 : vp_in (iv + 1) L) (i2 : vp_in (iv + 2) L) (kx : shC.1 x = 8) (km : shM.1 mm = 9) (fx : fX6_sum shC dC x (xs (iv + 1).toNatClampNeg) (xs (iv + 2).toNatClampNeg) = some (r, dC9)) (fm : fX7_sum shM dM mm (xs (iv + 1).toNatClampNeg) (xs (iv + 2).toNatClampNeg) = some (r, dM9)) (hcu : cu ≤ 600000) (hsu : su ≤ 7302250) {H : Heap} {locs : List Loc} {ls : Array Slot} (hw : LW2 s.heap.size sz D cy shC dC shM dM H) (hS : va_S (fun q => s.heap.size ≤ q) s.heap H locs) (hl : lv_has ls 4 [(0, .ref b), (1, .ref x), (2, .ref mm), (3, .int iv)])
    (kk : ∀ (H : Heap) (locs : List Loc) (ls : Array Slot), LW2 s.heap.size sz D cy shC dC9 shM dM9 H → va_S (fun q => s.heap.size ≤ q) s.heap H locs → lv_has ls 4 [(3, .int (iv + 6)), (0, .ref b), (1, .ref x), (2, .ref mm)] → W p l e room_1 s m #[Value.ref b] below meth c H locs (cu) (su) Q (F0 m 18 ls [])) : W p l e room_1 s m #[Value.ref b] below meth c H locs cu su Q (F0 m 1076 ls []) := by
  have hx := C.1
  have hb := C.2.1
  refine lv_aload_n hx hb dL_law_1076 rfl (lv_at hl 1 rfl) ?_
  refine lv_aload_n hx hb dL_law_1077 rfl (lv_at hl 0 rfl) ?_
  refine lv_iload_n hx hb dL_law_1078 rfl (lv_at hl 3 rfl) ?_
  refine lv_iconst (v := 1) hx hb dL_law_1079 (by decide) ?_
  refine lv_iadd hx hb dL_law_1080 ?_
  refine va_sld hx hb hX hbl (Nat.not_le.mpr hbl) hS i1 dL_law_1081 ?_
  refine lv_aload_n hx hb dL_law_1082 rfl (lv_at hl 0 rfl) ?_
  refine lv_iload_n hx hb dL_law_1083 rfl (lv_at hl 3 rfl) ?_
  refine lv_iconst (v := 2) hx hb dL_law_1084 (by decide) ?_
  refine lv_iadd hx hb dL_law_1085 ?_
  refine va_sld hx hb hX hbl (Nat.not_le.mpr hbl) hS i2 dL_law_1086 ?_
  refine lx_V0 C hw hS (fun A => tX6_sum l A D cy st sz shC dC x (xs (iv + 1).toNatClampNeg) (xs (iv + 2).toNatClampNeg) fx) cvX6_sum kw_605 kx ⟨(Nat.le_of_ble_eq_true rfl), (Nat.le_of_ble_eq_true rfl)⟩ hl.1 rfl (Nat.le_of_ble_eq_true rfl) dL_law_1087 ⟨hcu, hsu⟩ (fun H locs hw hS => ?_)
  refine lv_aload_n hx hb dL_law_1090 rfl (lv_at hl 2 rfl) ?_
  refine lv_aload_n hx hb dL_law_1091 rfl (lv_at hl 0 rfl) ?_
  refine lv_iload_n hx hb dL_law_1092 rfl (lv_at hl 3 rfl) ?_
  refine lv_iconst (v := 1) hx hb dL_law_1093 (by decide) ?_
  refine lv_iadd hx hb dL_law_1094 ?_
  refine va_sld hx hb hX hbl (Nat.not_le.mpr hbl) hS i1 dL_law_1095 ?_
  refine lv_aload_n hx hb dL_law_1096 rfl (lv_at hl 0 rfl) ?_
  refine lv_iload_n hx hb dL_law_1097 rfl (lv_at hl 3 rfl) ?_
  refine lv_iconst (v := 2) hx hb dL_law_1098 (by decide) ?_
  refine lv_iadd hx hb dL_law_1099 ?_
  refine va_sld hx hb hX hbl (Nat.not_le.mpr hbl) hS i2 dL_law_1100 ?_
  refine lx_V0 C hw.swap hS (fun A => tX7_sum l A D cy st sz shM dM mm (xs (iv + 1).toNatClampNeg) (xs (iv + 2).toNatClampNeg) fm) cvX7_sum kw_1074 km ⟨(Nat.le_of_ble_eq_true rfl), (Nat.le_of_ble_eq_true rfl)⟩ hl.1 rfl (Nat.le_of_ble_eq_true rfl) dL_law_1101 ⟨hcu, hsu⟩ (fun H locs hw hS => ?_)
  have hw := hw.swap
  refine lv_icmp_eq (tgt := 1715) hx hb dL_law_1104 (by decide) (fun _ => ?_) (fun c9 => absurd rfl c9)
  refine lv_iinc (v := iv + 6) (lv' := [(3, .int (iv + 6)), (0, .ref b), (1, .ref x), (2, .ref mm)]) hx hb dL_law_1715 hl (k := 3) rfl rfl (by decide) rfl (fun ls hl => ?_)
  refine lv_goto (tgt := 18) hx hb dL_law_1718 (by decide) ?_
  exact kk _ _ _ hw hS hl
set_option maxRecDepth 100000 in
set_option maxHeartbeats 4000000 in
theorem lk_21 (C : mx p s m #[Value.ref b] meth c ⟨"ManyHandsLaw", meth.name, ""⟩ cL_law 4 (some .boolean) (fun q => s.heap.size ≤ q) D cy st) (hX : va_X b L xs s s.heap) (hbl : b < s.heap.size) {x mm sz : Nat} {shC shM : Sh} {dC dM dC9 dM9 : Dt} {iv : Int32} {r : Int32} {cu su : Nat} (i1 : vp_in (iv + 1) L) (i2 : vp_in (iv + 2) L) (kx : shC.1 x = 8) (km : shM.1 mm = 9) (fx : fX6_mean shC dC x (xs (iv + 1).toNatClampNeg) (xs (iv + 2).toNatClampNeg) = some (r, dC9)) (fm : fX7_mean shM dM mm (xs (iv + 1).toNatClampNeg) (xs (iv + 2).toNatClampNeg) = some (r, dM9)) (hcu : cu ≤ 600000) (hsu : su ≤ 7302250) {H : Heap} {locs : List Loc} {ls : Array Slot} (hw : LW2 s.heap.size sz D cy shC dC shM dM H) (hS : va_S (fun q => s.heap.size ≤ q) s.heap H locs) (hl : lv_has ls 4 [(0, .ref b), (1, .ref x), (2, .ref mm), (3, .int iv)])
    (kk : ∀ (H : Heap) (locs : List Loc) (ls : Array Slot), LW2 s.heap.size sz D cy shC dC9 shM dM9 H → va_S (fun q => s.heap.size ≤ q) s.heap H locs → lv_has ls 4 [(3, .int (iv + 6)), (0, .ref b), (1, .ref x), (2, .ref mm)] → W p l e room_1 s m #[Value.ref b] below meth c H locs (cu) (su) Q (F0 m 18 ls [])) : W p l e room_1 s m #[Value.ref b] below meth c H locs cu su Q (F0 m 1109 ls []) := by
  have hx := C.1
  have hb := C.2.1
  refine lv_aload_n hx hb dL_law_1109 rfl (lv_at hl 1 rfl) ?_
  refine lv_aload_n hx hb dL_law_1110 rfl (lv_at hl 0 rfl) ?_
  refine lv_iload_n hx hb dL_law_1111 rfl (lv_at hl 3 rfl) ?_
  refine lv_iconst (v := 1) hx hb dL_law_1112 (by decide) ?_
  refine lv_iadd hx hb dL_law_1113 ?_
  refine va_sld hx hb hX hbl (Nat.not_le.mpr hbl) hS i1 dL_law_1114 ?_
  refine lv_aload_n hx hb dL_law_1115 rfl (lv_at hl 0 rfl) ?_
  refine lv_iload_n hx hb dL_law_1116 rfl (lv_at hl 3 rfl) ?_
  refine lv_iconst (v := 2) hx hb dL_law_1117 (by decide) ?_
  refine lv_iadd hx hb dL_law_1118 ?_
  refine va_sld hx hb hX hbl (Nat.not_le.mpr hbl) hS i2 dL_law_1119 ?_
  refine lx_V0 C hw hS (fun A => tX6_mean l A D cy st sz shC dC x (xs (iv + 1).toNatClampNeg) (xs (iv + 2).toNatClampNeg) fx) cvX6_mean kw_621 kx ⟨(Nat.le_of_ble_eq_true rfl), (Nat.le_of_ble_eq_true rfl)⟩ hl.1 rfl (Nat.le_of_ble_eq_true rfl) dL_law_1120 ⟨hcu, hsu⟩ (fun H locs hw hS => ?_)
  refine lv_aload_n hx hb dL_law_1123 rfl (lv_at hl 2 rfl) ?_
  refine lv_aload_n hx hb dL_law_1124 rfl (lv_at hl 0 rfl) ?_
  refine lv_iload_n hx hb dL_law_1125 rfl (lv_at hl 3 rfl) ?_
  refine lv_iconst (v := 1) hx hb dL_law_1126 (by decide) ?_
  refine lv_iadd hx hb dL_law_1127 ?_
  refine va_sld hx hb hX hbl (Nat.not_le.mpr hbl) hS i1 dL_law_1128 ?_
  refine lv_aload_n hx hb dL_law_1129 rfl (lv_at hl 0 rfl) ?_
  refine lv_iload_n hx hb dL_law_1130 rfl (lv_at hl 3 rfl) ?_
  refine lv_iconst (v := 2) hx hb dL_law_1131 (by decide) ?_
  refine lv_iadd hx hb dL_law_1132 ?_
  refine va_sld hx hb hX hbl (Nat.not_le.mpr hbl) hS i2 dL_law_1133 ?_
  refine lx_V0 C hw.swap hS (fun A => tX7_mean l A D cy st sz shM dM mm (xs (iv + 1).toNatClampNeg) (xs (iv + 2).toNatClampNeg) fm) cvX7_mean kw_1086 km ⟨(Nat.le_of_ble_eq_true rfl), (Nat.le_of_ble_eq_true rfl)⟩ hl.1 rfl (Nat.le_of_ble_eq_true rfl) dL_law_1134 ⟨hcu, hsu⟩ (fun H locs hw hS => ?_)
  have hw := hw.swap
  refine lv_icmp_eq (tgt := 1715) hx hb dL_law_1137 (by decide) (fun _ => ?_) (fun c9 => absurd rfl c9)
  refine lv_iinc (v := iv + 6) (lv' := [(3, .int (iv + 6)), (0, .ref b), (1, .ref x), (2, .ref mm)]) hx hb dL_law_1715 hl (k := 3) rfl rfl (by decide) rfl (fun ls hl => ?_)
  refine lv_goto (tgt := 18) hx hb dL_law_1718 (by decide) ?_
  exact kk _ _ _ hw hS hl
set_option maxRecDepth 100000 in
set_option maxHeartbeats 4000000 in
theorem lk_22 (C : mx p s m #[Value.ref b] meth c ⟨"ManyHandsLaw", meth.name, ""⟩ cL_law 4 (some .boolean) (fun q => s.heap.size ≤ q) D cy st) (hX : va_X b L xs s s.heap) (hbl : b < s.heap.size) {x mm sz : Nat} {shC shM : Sh} {dC dM dC9 dM9 : Dt} {iv : Int32} {r : Int32} {cu su : Nat} (i1 : vp_in (iv + 1) L) (i2 : vp_in (iv + 2) L) (i3 : vp_in (iv + 3) L) (kx : shC.1 x = 8) (km : shM.1 mm = 9) (fx : fX6_often shC dC x (xs (iv + 1).toNatClampNeg) (xs (iv + 2).toNatClampNeg) (xs (iv + 3).toNatClampNeg) = some (r, dC9)) (fm : fX7_often shM dM mm (xs (iv + 1).toNatClampNeg) (xs (iv + 2).toNatClampNeg) (xs (iv + 3).toNatClampNeg) = some (r, dM9)) (hcu : cu ≤ 600000) (hsu : su ≤ 7302250) {H : Heap} {locs : List Loc} {ls : Array Slot} (hw : LW2 s.heap.size sz D cy shC dC shM dM H) (hS : va_S (fun q => s.heap.size ≤ q) s.heap H locs) (hl : lv_has ls 4 [(0, .ref b), (1, .ref x), (2, .ref mm), (3, .int iv)])
    (kk : ∀ (H : Heap) (locs : List Loc) (ls : Array Slot), LW2 s.heap.size sz D cy shC dC9 shM dM9 H → va_S (fun q => s.heap.size ≤ q) s.heap H locs → lv_has ls 4 [(3, .int (iv + 6)), (0, .ref b), (1, .ref x), (2, .ref mm)] → W p l e room_1 s m #[Value.ref b] below meth c H locs (cu) (su) Q (F0 m 18 ls [])) : W p l e room_1 s m #[Value.ref b] below meth c H locs cu su Q (F0 m 1142 ls []) := by
  have hx := C.1
  have hb := C.2.1
  refine lv_aload_n hx hb dL_law_1142 rfl (lv_at hl 1 rfl) ?_
  refine lv_aload_n hx hb dL_law_1143 rfl (lv_at hl 0 rfl) ?_
  refine lv_iload_n hx hb dL_law_1144 rfl (lv_at hl 3 rfl) ?_
  refine lv_iconst (v := 1) hx hb dL_law_1145 (by decide) ?_
  refine lv_iadd hx hb dL_law_1146 ?_
  refine va_sld hx hb hX hbl (Nat.not_le.mpr hbl) hS i1 dL_law_1147 ?_
  refine lv_aload_n hx hb dL_law_1148 rfl (lv_at hl 0 rfl) ?_
  refine lv_iload_n hx hb dL_law_1149 rfl (lv_at hl 3 rfl) ?_
  refine lv_iconst (v := 2) hx hb dL_law_1150 (by decide) ?_
  refine lv_iadd hx hb dL_law_1151 ?_
  refine va_sld hx hb hX hbl (Nat.not_le.mpr hbl) hS i2 dL_law_1152 ?_
  refine lv_aload_n hx hb dL_law_1153 rfl (lv_at hl 0 rfl) ?_
  refine lv_iload_n hx hb dL_law_1154 rfl (lv_at hl 3 rfl) ?_
  refine lv_iconst (v := 3) hx hb dL_law_1155 (by decide) ?_
  refine lv_iadd hx hb dL_law_1156 ?_
  refine va_sld hx hb hX hbl (Nat.not_le.mpr hbl) hS i3 dL_law_1157 ?_
  refine lx_V0 C hw hS (fun A => tX6_often l A D cy st sz shC dC x (xs (iv + 1).toNatClampNeg) (xs (iv + 2).toNatClampNeg) (xs (iv + 3).toNatClampNeg) fx) cvX6_often kw_625 kx ⟨(Nat.le_of_ble_eq_true rfl), (Nat.le_of_ble_eq_true rfl)⟩ hl.1 rfl (Nat.le_of_ble_eq_true rfl) dL_law_1158 ⟨hcu, hsu⟩ (fun H locs hw hS => ?_)
  refine lv_aload_n hx hb dL_law_1161 rfl (lv_at hl 2 rfl) ?_
  refine lv_aload_n hx hb dL_law_1162 rfl (lv_at hl 0 rfl) ?_
  refine lv_iload_n hx hb dL_law_1163 rfl (lv_at hl 3 rfl) ?_
  refine lv_iconst (v := 1) hx hb dL_law_1164 (by decide) ?_
  refine lv_iadd hx hb dL_law_1165 ?_
  refine va_sld hx hb hX hbl (Nat.not_le.mpr hbl) hS i1 dL_law_1166 ?_
  refine lv_aload_n hx hb dL_law_1167 rfl (lv_at hl 0 rfl) ?_
  refine lv_iload_n hx hb dL_law_1168 rfl (lv_at hl 3 rfl) ?_
  refine lv_iconst (v := 2) hx hb dL_law_1169 (by decide) ?_
  refine lv_iadd hx hb dL_law_1170 ?_
  refine va_sld hx hb hX hbl (Nat.not_le.mpr hbl) hS i2 dL_law_1171 ?_
  refine lv_aload_n hx hb dL_law_1172 rfl (lv_at hl 0 rfl) ?_
  refine lv_iload_n hx hb dL_law_1173 rfl (lv_at hl 3 rfl) ?_
  refine lv_iconst (v := 3) hx hb dL_law_1174 (by decide) ?_
  refine lv_iadd hx hb dL_law_1175 ?_
  refine va_sld hx hb hX hbl (Nat.not_le.mpr hbl) hS i3 dL_law_1176 ?_
  refine lx_V0 C hw.swap hS (fun A => tX7_often l A D cy st sz shM dM mm (xs (iv + 1).toNatClampNeg) (xs (iv + 2).toNatClampNeg) (xs (iv + 3).toNatClampNeg) fm) cvX7_often kw_1090 km ⟨(Nat.le_of_ble_eq_true rfl), (Nat.le_of_ble_eq_true rfl)⟩ hl.1 rfl (Nat.le_of_ble_eq_true rfl) dL_law_1177 ⟨hcu, hsu⟩ (fun H locs hw hS => ?_)
  have hw := hw.swap
  refine lv_icmp_eq (tgt := 1715) hx hb dL_law_1180 (by decide) (fun _ => ?_) (fun c9 => absurd rfl c9)
  refine lv_iinc (v := iv + 6) (lv' := [(3, .int (iv + 6)), (0, .ref b), (1, .ref x), (2, .ref mm)]) hx hb dL_law_1715 hl (k := 3) rfl rfl (by decide) rfl (fun ls hl => ?_)
  refine lv_goto (tgt := 18) hx hb dL_law_1718 (by decide) ?_
  exact kk _ _ _ hw hS hl
set_option maxRecDepth 100000 in
set_option maxHeartbeats 4000000 in
theorem lk_23 (C : mx p s m #[Value.ref b] meth c ⟨"ManyHandsLaw", meth.name, ""⟩ cL_law 4 (some .boolean) (fun q => s.heap.size ≤ q) D cy st) (hX : va_X b L xs s s.heap) (hbl : b < s.heap.size) {x mm sz : Nat} {shC shM : Sh} {dC dM dC9 dM9 : Dt} {iv : Int32} {r : Int32} {cu su : Nat} (i1 : vp_in (iv + 1) L) (i2 : vp_in (iv + 2) L) (i3 : vp_in (iv + 3) L) (kx : shC.1 x = 8) (km : shM.1 mm = 9) (fx : fX6_inside shC dC x (xs (iv + 1).toNatClampNeg) (xs (iv + 2).toNatClampNeg) (xs (iv + 3).toNatClampNeg) = some (r, dC9)) (fm : fX7_inside shM dM mm (xs (iv + 1).toNatClampNeg) (xs (iv + 2).toNatClampNeg) (xs (iv + 3).toNatClampNeg) = some (r, dM9)) (hcu : cu ≤ 600000) (hsu : su ≤ 7302250) {H : Heap} {locs : List Loc} {ls : Array Slot} (hw : LW2 s.heap.size sz D cy shC dC shM dM H) (hS : va_S (fun q => s.heap.size ≤ q) s.heap H locs) (hl : lv_has ls 4 [(0, .ref b), (1, .ref x), (2, .ref mm), (3, .int iv)])
    (kk : ∀ (H : Heap) (locs : List Loc) (ls : Array Slot), LW2 s.heap.size sz D cy shC dC9 shM dM9 H → va_S (fun q => s.heap.size ≤ q) s.heap H locs → lv_has ls 4 [(3, .int (iv + 6)), (0, .ref b), (1, .ref x), (2, .ref mm)] → W p l e room_1 s m #[Value.ref b] below meth c H locs (cu) (su) Q (F0 m 18 ls [])) : W p l e room_1 s m #[Value.ref b] below meth c H locs cu su Q (F0 m 1185 ls []) := by
  have hx := C.1
  have hb := C.2.1
  refine lv_aload_n hx hb dL_law_1185 rfl (lv_at hl 1 rfl) ?_
  refine lv_aload_n hx hb dL_law_1186 rfl (lv_at hl 0 rfl) ?_
  refine lv_iload_n hx hb dL_law_1187 rfl (lv_at hl 3 rfl) ?_
  refine lv_iconst (v := 1) hx hb dL_law_1188 (by decide) ?_
  refine lv_iadd hx hb dL_law_1189 ?_
  refine va_sld hx hb hX hbl (Nat.not_le.mpr hbl) hS i1 dL_law_1190 ?_
  refine lv_aload_n hx hb dL_law_1191 rfl (lv_at hl 0 rfl) ?_
  refine lv_iload_n hx hb dL_law_1192 rfl (lv_at hl 3 rfl) ?_
  refine lv_iconst (v := 2) hx hb dL_law_1193 (by decide) ?_
  refine lv_iadd hx hb dL_law_1194 ?_
  refine va_sld hx hb hX hbl (Nat.not_le.mpr hbl) hS i2 dL_law_1195 ?_
  refine lv_aload_n hx hb dL_law_1196 rfl (lv_at hl 0 rfl) ?_
  refine lv_iload_n hx hb dL_law_1197 rfl (lv_at hl 3 rfl) ?_
  refine lv_iconst (v := 3) hx hb dL_law_1198 (by decide) ?_
  refine lv_iadd hx hb dL_law_1199 ?_
  refine va_sld hx hb hX hbl (Nat.not_le.mpr hbl) hS i3 dL_law_1200 ?_
  refine lx_V0 C hw hS (fun A => tX6_inside l A D cy st sz shC dC x (xs (iv + 1).toNatClampNeg) (xs (iv + 2).toNatClampNeg) (xs (iv + 3).toNatClampNeg) fx) cvX6_inside kw_629 kx ⟨(Nat.le_of_ble_eq_true rfl), (Nat.le_of_ble_eq_true rfl)⟩ hl.1 rfl (Nat.le_of_ble_eq_true rfl) dL_law_1201 ⟨hcu, hsu⟩ (fun H locs hw hS => ?_)
  refine lv_aload_n hx hb dL_law_1204 rfl (lv_at hl 2 rfl) ?_
  refine lv_aload_n hx hb dL_law_1205 rfl (lv_at hl 0 rfl) ?_
  refine lv_iload_n hx hb dL_law_1206 rfl (lv_at hl 3 rfl) ?_
  refine lv_iconst (v := 1) hx hb dL_law_1207 (by decide) ?_
  refine lv_iadd hx hb dL_law_1208 ?_
  refine va_sld hx hb hX hbl (Nat.not_le.mpr hbl) hS i1 dL_law_1209 ?_
  refine lv_aload_n hx hb dL_law_1210 rfl (lv_at hl 0 rfl) ?_
  refine lv_iload_n hx hb dL_law_1211 rfl (lv_at hl 3 rfl) ?_
  refine lv_iconst (v := 2) hx hb dL_law_1212 (by decide) ?_
  refine lv_iadd hx hb dL_law_1213 ?_
  refine va_sld hx hb hX hbl (Nat.not_le.mpr hbl) hS i2 dL_law_1214 ?_
  refine lv_aload_n hx hb dL_law_1215 rfl (lv_at hl 0 rfl) ?_
  refine lv_iload_n hx hb dL_law_1216 rfl (lv_at hl 3 rfl) ?_
  refine lv_iconst (v := 3) hx hb dL_law_1217 (by decide) ?_
  refine lv_iadd hx hb dL_law_1218 ?_
  refine va_sld hx hb hX hbl (Nat.not_le.mpr hbl) hS i3 dL_law_1219 ?_
  refine lx_V0 C hw.swap hS (fun A => tX7_inside l A D cy st sz shM dM mm (xs (iv + 1).toNatClampNeg) (xs (iv + 2).toNatClampNeg) (xs (iv + 3).toNatClampNeg) fm) cvX7_inside kw_1094 km ⟨(Nat.le_of_ble_eq_true rfl), (Nat.le_of_ble_eq_true rfl)⟩ hl.1 rfl (Nat.le_of_ble_eq_true rfl) dL_law_1220 ⟨hcu, hsu⟩ (fun H locs hw hS => ?_)
  have hw := hw.swap
  refine lv_icmp_eq (tgt := 1715) hx hb dL_law_1223 (by decide) (fun _ => ?_) (fun c9 => absurd rfl c9)
  refine lv_iinc (v := iv + 6) (lv' := [(3, .int (iv + 6)), (0, .ref b), (1, .ref x), (2, .ref mm)]) hx hb dL_law_1715 hl (k := 3) rfl rfl (by decide) rfl (fun ls hl => ?_)
  refine lv_goto (tgt := 18) hx hb dL_law_1718 (by decide) ?_
  exact kk _ _ _ hw hS hl
set_option maxRecDepth 100000 in
set_option maxHeartbeats 4000000 in
theorem lk_24 (C : mx p s m #[Value.ref b] meth c ⟨"ManyHandsLaw", meth.name, ""⟩ cL_law 4 (some .boolean) (fun q => s.heap.size ≤ q) D cy st) (hX : va_X b L xs s s.heap) (hbl : b < s.heap.size) {x mm sz : Nat} {shC shM : Sh} {dC dM dC9 dM9 : Dt} {iv : Int32} {r : Int32} {cu su : Nat} (i1 : vp_in (iv + 1) L) (i2 : vp_in (iv + 2) L) (kx : shC.1 x = 8) (km : shM.1 mm = 9) (fx : fX6_heads shC dC x (xs (iv + 1).toNatClampNeg) (xs (iv + 2).toNatClampNeg) = some (r, dC9)) (fm : fX7_heads shM dM mm (xs (iv + 1).toNatClampNeg) (xs (iv + 2).toNatClampNeg) = some (r, dM9)) (hcu : cu ≤ 600000) (hsu : su ≤ 7302250) {H : Heap} {locs : List Loc} {ls : Array Slot} (hw : LW2 s.heap.size sz D cy shC dC shM dM H) (hS : va_S (fun q => s.heap.size ≤ q) s.heap H locs) (hl : lv_has ls 4 [(0, .ref b), (1, .ref x), (2, .ref mm), (3, .int iv)])
    (kk : ∀ (H : Heap) (locs : List Loc) (ls : Array Slot), LW2 s.heap.size sz D cy shC dC9 shM dM9 H → va_S (fun q => s.heap.size ≤ q) s.heap H locs → lv_has ls 4 [(3, .int (iv + 6)), (0, .ref b), (1, .ref x), (2, .ref mm)] → W p l e room_1 s m #[Value.ref b] below meth c H locs (cu) (su) Q (F0 m 18 ls [])) : W p l e room_1 s m #[Value.ref b] below meth c H locs cu su Q (F0 m 1228 ls []) := by
  have hx := C.1
  have hb := C.2.1
  refine lv_aload_n hx hb dL_law_1228 rfl (lv_at hl 1 rfl) ?_
  refine lv_aload_n hx hb dL_law_1229 rfl (lv_at hl 0 rfl) ?_
  refine lv_iload_n hx hb dL_law_1230 rfl (lv_at hl 3 rfl) ?_
  refine lv_iconst (v := 1) hx hb dL_law_1231 (by decide) ?_
  refine lv_iadd hx hb dL_law_1232 ?_
  refine va_sld hx hb hX hbl (Nat.not_le.mpr hbl) hS i1 dL_law_1233 ?_
  refine lv_aload_n hx hb dL_law_1234 rfl (lv_at hl 0 rfl) ?_
  refine lv_iload_n hx hb dL_law_1235 rfl (lv_at hl 3 rfl) ?_
  refine lv_iconst (v := 2) hx hb dL_law_1236 (by decide) ?_
  refine lv_iadd hx hb dL_law_1237 ?_
  refine va_sld hx hb hX hbl (Nat.not_le.mpr hbl) hS i2 dL_law_1238 ?_
  refine lx_V0 C hw hS (fun A => tX6_heads l A D cy st sz shC dC x (xs (iv + 1).toNatClampNeg) (xs (iv + 2).toNatClampNeg) fx) cvX6_heads kw_638 kx ⟨(Nat.le_of_ble_eq_true rfl), (Nat.le_of_ble_eq_true rfl)⟩ hl.1 rfl (Nat.le_of_ble_eq_true rfl) dL_law_1239 ⟨hcu, hsu⟩ (fun H locs hw hS => ?_)
  refine lv_aload_n hx hb dL_law_1242 rfl (lv_at hl 2 rfl) ?_
  refine lv_aload_n hx hb dL_law_1243 rfl (lv_at hl 0 rfl) ?_
  refine lv_iload_n hx hb dL_law_1244 rfl (lv_at hl 3 rfl) ?_
  refine lv_iconst (v := 1) hx hb dL_law_1245 (by decide) ?_
  refine lv_iadd hx hb dL_law_1246 ?_
  refine va_sld hx hb hX hbl (Nat.not_le.mpr hbl) hS i1 dL_law_1247 ?_
  refine lv_aload_n hx hb dL_law_1248 rfl (lv_at hl 0 rfl) ?_
  refine lv_iload_n hx hb dL_law_1249 rfl (lv_at hl 3 rfl) ?_
  refine lv_iconst (v := 2) hx hb dL_law_1250 (by decide) ?_
  refine lv_iadd hx hb dL_law_1251 ?_
  refine va_sld hx hb hX hbl (Nat.not_le.mpr hbl) hS i2 dL_law_1252 ?_
  refine lx_V0 C hw.swap hS (fun A => tX7_heads l A D cy st sz shM dM mm (xs (iv + 1).toNatClampNeg) (xs (iv + 2).toNatClampNeg) fm) cvX7_heads kw_1098 km ⟨(Nat.le_of_ble_eq_true rfl), (Nat.le_of_ble_eq_true rfl)⟩ hl.1 rfl (Nat.le_of_ble_eq_true rfl) dL_law_1253 ⟨hcu, hsu⟩ (fun H locs hw hS => ?_)
  have hw := hw.swap
  refine lv_icmp_eq (tgt := 1715) hx hb dL_law_1256 (by decide) (fun _ => ?_) (fun c9 => absurd rfl c9)
  refine lv_iinc (v := iv + 6) (lv' := [(3, .int (iv + 6)), (0, .ref b), (1, .ref x), (2, .ref mm)]) hx hb dL_law_1715 hl (k := 3) rfl rfl (by decide) rfl (fun ls hl => ?_)
  refine lv_goto (tgt := 18) hx hb dL_law_1718 (by decide) ?_
  exact kk _ _ _ hw hS hl
set_option maxRecDepth 100000 in
set_option maxHeartbeats 4000000 in
theorem lk_25 (C : mx p s m #[Value.ref b] meth c ⟨"ManyHandsLaw", meth.name, ""⟩ cL_law 4 (some .boolean) (fun q => s.heap.size ≤ q) D cy st) (hX : va_X b L xs s s.heap) (hbl : b < s.heap.size) {x mm sz : Nat} {shC shM : Sh} {dC dM dC9 dM9 : Dt} {iv : Int32} {r : Int32} {cu su : Nat} (i1 : vp_in (iv + 1) L) (i2 : vp_in (iv + 2) L) (i3 : vp_in (iv + 3) L) (kx : shC.1 x = 8) (km : shM.1 mm = 9) (fx : fX6_head shC dC x (xs (iv + 1).toNatClampNeg) (xs (iv + 2).toNatClampNeg) (xs (iv + 3).toNatClampNeg) = some (r, dC9)) (fm : fX7_head shM dM mm (xs (iv + 1).toNatClampNeg) (xs (iv + 2).toNatClampNeg) (xs (iv + 3).toNatClampNeg) = some (r, dM9)) (hcu : cu ≤ 600000) (hsu : su ≤ 7302250) {H : Heap} {locs : List Loc} {ls : Array Slot} (hw : LW2 s.heap.size sz D cy shC dC shM dM H) (hS : va_S (fun q => s.heap.size ≤ q) s.heap H locs) (hl : lv_has ls 4 [(0, .ref b), (1, .ref x), (2, .ref mm), (3, .int iv)])
    (kk : ∀ (H : Heap) (locs : List Loc) (ls : Array Slot), LW2 s.heap.size sz D cy shC dC9 shM dM9 H → va_S (fun q => s.heap.size ≤ q) s.heap H locs → lv_has ls 4 [(3, .int (iv + 6)), (0, .ref b), (1, .ref x), (2, .ref mm)] → W p l e room_1 s m #[Value.ref b] below meth c H locs (cu) (su) Q (F0 m 18 ls [])) : W p l e room_1 s m #[Value.ref b] below meth c H locs cu su Q (F0 m 1261 ls []) := by
  have hx := C.1
  have hb := C.2.1
  refine lv_aload_n hx hb dL_law_1261 rfl (lv_at hl 1 rfl) ?_
  refine lv_aload_n hx hb dL_law_1262 rfl (lv_at hl 0 rfl) ?_
  refine lv_iload_n hx hb dL_law_1263 rfl (lv_at hl 3 rfl) ?_
  refine lv_iconst (v := 1) hx hb dL_law_1264 (by decide) ?_
  refine lv_iadd hx hb dL_law_1265 ?_
  refine va_sld hx hb hX hbl (Nat.not_le.mpr hbl) hS i1 dL_law_1266 ?_
  refine lv_aload_n hx hb dL_law_1267 rfl (lv_at hl 0 rfl) ?_
  refine lv_iload_n hx hb dL_law_1268 rfl (lv_at hl 3 rfl) ?_
  refine lv_iconst (v := 2) hx hb dL_law_1269 (by decide) ?_
  refine lv_iadd hx hb dL_law_1270 ?_
  refine va_sld hx hb hX hbl (Nat.not_le.mpr hbl) hS i2 dL_law_1271 ?_
  refine lv_aload_n hx hb dL_law_1272 rfl (lv_at hl 0 rfl) ?_
  refine lv_iload_n hx hb dL_law_1273 rfl (lv_at hl 3 rfl) ?_
  refine lv_iconst (v := 3) hx hb dL_law_1274 (by decide) ?_
  refine lv_iadd hx hb dL_law_1275 ?_
  refine va_sld hx hb hX hbl (Nat.not_le.mpr hbl) hS i3 dL_law_1276 ?_
  refine lx_V0 C hw hS (fun A => tX6_head l A D cy st sz shC dC x (xs (iv + 1).toNatClampNeg) (xs (iv + 2).toNatClampNeg) (xs (iv + 3).toNatClampNeg) fx) cvX6_head kw_646 kx ⟨(Nat.le_of_ble_eq_true rfl), (Nat.le_of_ble_eq_true rfl)⟩ hl.1 rfl (Nat.le_of_ble_eq_true rfl) dL_law_1277 ⟨hcu, hsu⟩ (fun H locs hw hS => ?_)
  refine lv_aload_n hx hb dL_law_1280 rfl (lv_at hl 2 rfl) ?_
  refine lv_aload_n hx hb dL_law_1281 rfl (lv_at hl 0 rfl) ?_
  refine lv_iload_n hx hb dL_law_1282 rfl (lv_at hl 3 rfl) ?_
  refine lv_iconst (v := 1) hx hb dL_law_1283 (by decide) ?_
  refine lv_iadd hx hb dL_law_1284 ?_
  refine va_sld hx hb hX hbl (Nat.not_le.mpr hbl) hS i1 dL_law_1285 ?_
  refine lv_aload_n hx hb dL_law_1286 rfl (lv_at hl 0 rfl) ?_
  refine lv_iload_n hx hb dL_law_1287 rfl (lv_at hl 3 rfl) ?_
  refine lv_iconst (v := 2) hx hb dL_law_1288 (by decide) ?_
  refine lv_iadd hx hb dL_law_1289 ?_
  refine va_sld hx hb hX hbl (Nat.not_le.mpr hbl) hS i2 dL_law_1290 ?_
  refine lv_aload_n hx hb dL_law_1291 rfl (lv_at hl 0 rfl) ?_
  refine lv_iload_n hx hb dL_law_1292 rfl (lv_at hl 3 rfl) ?_
  refine lv_iconst (v := 3) hx hb dL_law_1293 (by decide) ?_
  refine lv_iadd hx hb dL_law_1294 ?_
  refine va_sld hx hb hX hbl (Nat.not_le.mpr hbl) hS i3 dL_law_1295 ?_
  refine lx_V0 C hw.swap hS (fun A => tX7_head l A D cy st sz shM dM mm (xs (iv + 1).toNatClampNeg) (xs (iv + 2).toNatClampNeg) (xs (iv + 3).toNatClampNeg) fm) cvX7_head kw_1110 km ⟨(Nat.le_of_ble_eq_true rfl), (Nat.le_of_ble_eq_true rfl)⟩ hl.1 rfl (Nat.le_of_ble_eq_true rfl) dL_law_1296 ⟨hcu, hsu⟩ (fun H locs hw hS => ?_)
  have hw := hw.swap
  refine lv_icmp_eq (tgt := 1715) hx hb dL_law_1299 (by decide) (fun _ => ?_) (fun c9 => absurd rfl c9)
  refine lv_iinc (v := iv + 6) (lv' := [(3, .int (iv + 6)), (0, .ref b), (1, .ref x), (2, .ref mm)]) hx hb dL_law_1715 hl (k := 3) rfl rfl (by decide) rfl (fun ls hl => ?_)
  refine lv_goto (tgt := 18) hx hb dL_law_1718 (by decide) ?_
  exact kk _ _ _ hw hS hl
set_option maxRecDepth 100000 in
set_option maxHeartbeats 4000000 in
theorem lk_26 (C : mx p s m #[Value.ref b] meth c ⟨"ManyHandsLaw", meth.name, ""⟩ cL_law 4 (some .boolean) (fun q => s.heap.size ≤ q) D cy st) (hX : va_X b L xs s s.heap) (hbl : b < s.heap.size) {x mm sz : Nat} {shC shM : Sh} {dC dM dC9 dM9 : Dt} {iv : Int32} {r : Int32} {cu su : Nat} (i1 : vp_in (iv + 1) L) (i2 : vp_in (iv + 2) L) (i3 : vp_in (iv + 3) L) (kx : shC.1 x = 8) (km : shM.1 mm = 9) (fx : fX6_rights shC dC x (xs (iv + 1).toNatClampNeg) (xs (iv + 2).toNatClampNeg) (xs (iv + 3).toNatClampNeg) = some (r, dC9)) (fm : fX7_rights shM dM mm (xs (iv + 1).toNatClampNeg) (xs (iv + 2).toNatClampNeg) (xs (iv + 3).toNatClampNeg) = some (r, dM9)) (hcu : cu ≤ 600000) (hsu : su ≤ 7302250) {H : Heap} {locs : List Loc} {ls : Array Slot} (hw : LW2 s.heap.size sz D cy shC dC shM dM H) (hS : va_S (fun q => s.heap.size ≤ q) s.heap H locs) (hl : lv_has ls 4 [(0, .ref b), (1, .ref x), (2, .ref mm), (3, .int iv)])
    (kk : ∀ (H : Heap) (locs : List Loc) (ls : Array Slot), LW2 s.heap.size sz D cy shC dC9 shM dM9 H → va_S (fun q => s.heap.size ≤ q) s.heap H locs → lv_has ls 4 [(3, .int (iv + 6)), (0, .ref b), (1, .ref x), (2, .ref mm)] → W p l e room_1 s m #[Value.ref b] below meth c H locs (cu) (su) Q (F0 m 18 ls [])) : W p l e room_1 s m #[Value.ref b] below meth c H locs cu su Q (F0 m 1304 ls []) := by
  have hx := C.1
  have hb := C.2.1
  refine lv_aload_n hx hb dL_law_1304 rfl (lv_at hl 1 rfl) ?_
  refine lv_aload_n hx hb dL_law_1305 rfl (lv_at hl 0 rfl) ?_
  refine lv_iload_n hx hb dL_law_1306 rfl (lv_at hl 3 rfl) ?_
  refine lv_iconst (v := 1) hx hb dL_law_1307 (by decide) ?_
  refine lv_iadd hx hb dL_law_1308 ?_
  refine va_sld hx hb hX hbl (Nat.not_le.mpr hbl) hS i1 dL_law_1309 ?_
  refine lv_aload_n hx hb dL_law_1310 rfl (lv_at hl 0 rfl) ?_
  refine lv_iload_n hx hb dL_law_1311 rfl (lv_at hl 3 rfl) ?_
  refine lv_iconst (v := 2) hx hb dL_law_1312 (by decide) ?_
  refine lv_iadd hx hb dL_law_1313 ?_
  refine va_sld hx hb hX hbl (Nat.not_le.mpr hbl) hS i2 dL_law_1314 ?_
  refine lv_aload_n hx hb dL_law_1315 rfl (lv_at hl 0 rfl) ?_
  refine lv_iload_n hx hb dL_law_1316 rfl (lv_at hl 3 rfl) ?_
  refine lv_iconst (v := 3) hx hb dL_law_1317 (by decide) ?_
  refine lv_iadd hx hb dL_law_1318 ?_
  refine va_sld hx hb hX hbl (Nat.not_le.mpr hbl) hS i3 dL_law_1319 ?_
  refine lx_V0 C hw hS (fun A => tX6_rights l A D cy st sz shC dC x (xs (iv + 1).toNatClampNeg) (xs (iv + 2).toNatClampNeg) (xs (iv + 3).toNatClampNeg) fx) cvX6_rights kw_659 kx ⟨(Nat.le_of_ble_eq_true rfl), (Nat.le_of_ble_eq_true rfl)⟩ hl.1 rfl (Nat.le_of_ble_eq_true rfl) dL_law_1320 ⟨hcu, hsu⟩ (fun H locs hw hS => ?_)
  refine lv_aload_n hx hb dL_law_1323 rfl (lv_at hl 2 rfl) ?_
  refine lv_aload_n hx hb dL_law_1324 rfl (lv_at hl 0 rfl) ?_
  refine lv_iload_n hx hb dL_law_1325 rfl (lv_at hl 3 rfl) ?_
  refine lv_iconst (v := 1) hx hb dL_law_1326 (by decide) ?_
  refine lv_iadd hx hb dL_law_1327 ?_
  refine va_sld hx hb hX hbl (Nat.not_le.mpr hbl) hS i1 dL_law_1328 ?_
  refine lv_aload_n hx hb dL_law_1329 rfl (lv_at hl 0 rfl) ?_
  refine lv_iload_n hx hb dL_law_1330 rfl (lv_at hl 3 rfl) ?_
  refine lv_iconst (v := 2) hx hb dL_law_1331 (by decide) ?_
  refine lv_iadd hx hb dL_law_1332 ?_
  refine va_sld hx hb hX hbl (Nat.not_le.mpr hbl) hS i2 dL_law_1333 ?_
  refine lv_aload_n hx hb dL_law_1334 rfl (lv_at hl 0 rfl) ?_
  refine lv_iload_n hx hb dL_law_1335 rfl (lv_at hl 3 rfl) ?_
  refine lv_iconst (v := 3) hx hb dL_law_1336 (by decide) ?_
  refine lv_iadd hx hb dL_law_1337 ?_
  refine va_sld hx hb hX hbl (Nat.not_le.mpr hbl) hS i3 dL_law_1338 ?_
  refine lx_V0 C hw.swap hS (fun A => tX7_rights l A D cy st sz shM dM mm (xs (iv + 1).toNatClampNeg) (xs (iv + 2).toNatClampNeg) (xs (iv + 3).toNatClampNeg) fm) cvX7_rights kw_1114 km ⟨(Nat.le_of_ble_eq_true rfl), (Nat.le_of_ble_eq_true rfl)⟩ hl.1 rfl (Nat.le_of_ble_eq_true rfl) dL_law_1339 ⟨hcu, hsu⟩ (fun H locs hw hS => ?_)
  have hw := hw.swap
  refine lv_icmp_eq (tgt := 1715) hx hb dL_law_1342 (by decide) (fun _ => ?_) (fun c9 => absurd rfl c9)
  refine lv_iinc (v := iv + 6) (lv' := [(3, .int (iv + 6)), (0, .ref b), (1, .ref x), (2, .ref mm)]) hx hb dL_law_1715 hl (k := 3) rfl rfl (by decide) rfl (fun ls hl => ?_)
  refine lv_goto (tgt := 18) hx hb dL_law_1718 (by decide) ?_
  exact kk _ _ _ hw hS hl
set_option maxRecDepth 100000 in
set_option maxHeartbeats 4000000 in
theorem lk_27 (C : mx p s m #[Value.ref b] meth c ⟨"ManyHandsLaw", meth.name, ""⟩ cL_law 4 (some .boolean) (fun q => s.heap.size ≤ q) D cy st) (hX : va_X b L xs s s.heap) (hbl : b < s.heap.size) {x mm sz : Nat} {shC shM : Sh} {dC dM dC9 dM9 : Dt} {iv : Int32} {r : Int32} {cu su : Nat} (i1 : vp_in (iv + 1) L) (i2 : vp_in (iv + 2) L) (kx : shC.1 x = 8) (km : shM.1 mm = 9) (fx : fX6_up shC dC x (xs (iv + 1).toNatClampNeg) (xs (iv + 2).toNatClampNeg) = some (r, dC9)) (fm : fX7_up shM dM mm (xs (iv + 1).toNatClampNeg) (xs (iv + 2).toNatClampNeg) = some (r, dM9)) (hcu : cu ≤ 600000) (hsu : su ≤ 7302250) {H : Heap} {locs : List Loc} {ls : Array Slot} (hw : LW2 s.heap.size sz D cy shC dC shM dM H) (hS : va_S (fun q => s.heap.size ≤ q) s.heap H locs) (hl : lv_has ls 4 [(0, .ref b), (1, .ref x), (2, .ref mm), (3, .int iv)])
    (kk : ∀ (H : Heap) (locs : List Loc) (ls : Array Slot), LW2 s.heap.size sz D cy shC dC9 shM dM9 H → va_S (fun q => s.heap.size ≤ q) s.heap H locs → lv_has ls 4 [(3, .int (iv + 6)), (0, .ref b), (1, .ref x), (2, .ref mm)] → W p l e room_1 s m #[Value.ref b] below meth c H locs (cu) (su) Q (F0 m 18 ls [])) : W p l e room_1 s m #[Value.ref b] below meth c H locs cu su Q (F0 m 1347 ls []) := by
  have hx := C.1
  have hb := C.2.1
  refine lv_aload_n hx hb dL_law_1347 rfl (lv_at hl 1 rfl) ?_
  refine lv_aload_n hx hb dL_law_1348 rfl (lv_at hl 0 rfl) ?_
  refine lv_iload_n hx hb dL_law_1349 rfl (lv_at hl 3 rfl) ?_
  refine lv_iconst (v := 1) hx hb dL_law_1350 (by decide) ?_
  refine lv_iadd hx hb dL_law_1351 ?_
  refine va_sld hx hb hX hbl (Nat.not_le.mpr hbl) hS i1 dL_law_1352 ?_
  refine lv_aload_n hx hb dL_law_1353 rfl (lv_at hl 0 rfl) ?_
  refine lv_iload_n hx hb dL_law_1354 rfl (lv_at hl 3 rfl) ?_
  refine lv_iconst (v := 2) hx hb dL_law_1355 (by decide) ?_
  refine lv_iadd hx hb dL_law_1356 ?_
  refine va_sld hx hb hX hbl (Nat.not_le.mpr hbl) hS i2 dL_law_1357 ?_
  refine lx_V0 C hw hS (fun A => tX6_up l A D cy st sz shC dC x (xs (iv + 1).toNatClampNeg) (xs (iv + 2).toNatClampNeg) fx) cvX6_up kw_663 kx ⟨(Nat.le_of_ble_eq_true rfl), (Nat.le_of_ble_eq_true rfl)⟩ hl.1 rfl (Nat.le_of_ble_eq_true rfl) dL_law_1358 ⟨hcu, hsu⟩ (fun H locs hw hS => ?_)
  refine lv_aload_n hx hb dL_law_1361 rfl (lv_at hl 2 rfl) ?_
  refine lv_aload_n hx hb dL_law_1362 rfl (lv_at hl 0 rfl) ?_
  refine lv_iload_n hx hb dL_law_1363 rfl (lv_at hl 3 rfl) ?_
  refine lv_iconst (v := 1) hx hb dL_law_1364 (by decide) ?_
  refine lv_iadd hx hb dL_law_1365 ?_
  refine va_sld hx hb hX hbl (Nat.not_le.mpr hbl) hS i1 dL_law_1366 ?_
  refine lv_aload_n hx hb dL_law_1367 rfl (lv_at hl 0 rfl) ?_
  refine lv_iload_n hx hb dL_law_1368 rfl (lv_at hl 3 rfl) ?_
  refine lv_iconst (v := 2) hx hb dL_law_1369 (by decide) ?_
  refine lv_iadd hx hb dL_law_1370 ?_
  refine va_sld hx hb hX hbl (Nat.not_le.mpr hbl) hS i2 dL_law_1371 ?_
  refine lx_V0 C hw.swap hS (fun A => tX7_up l A D cy st sz shM dM mm (xs (iv + 1).toNatClampNeg) (xs (iv + 2).toNatClampNeg) fm) cvX7_up kw_1118 km ⟨(Nat.le_of_ble_eq_true rfl), (Nat.le_of_ble_eq_true rfl)⟩ hl.1 rfl (Nat.le_of_ble_eq_true rfl) dL_law_1372 ⟨hcu, hsu⟩ (fun H locs hw hS => ?_)
  have hw := hw.swap
  refine lv_icmp_eq (tgt := 1715) hx hb dL_law_1375 (by decide) (fun _ => ?_) (fun c9 => absurd rfl c9)
  refine lv_iinc (v := iv + 6) (lv' := [(3, .int (iv + 6)), (0, .ref b), (1, .ref x), (2, .ref mm)]) hx hb dL_law_1715 hl (k := 3) rfl rfl (by decide) rfl (fun ls hl => ?_)
  refine lv_goto (tgt := 18) hx hb dL_law_1718 (by decide) ?_
  exact kk _ _ _ hw hS hl
set_option maxRecDepth 100000 in
set_option maxHeartbeats 4000000 in
theorem lk_28 (C : mx p s m #[Value.ref b] meth c ⟨"ManyHandsLaw", meth.name, ""⟩ cL_law 4 (some .boolean) (fun q => s.heap.size ≤ q) D cy st) (hX : va_X b L xs s s.heap) (hbl : b < s.heap.size) {x mm sz : Nat} {shC shM : Sh} {dC dM dC9 dM9 : Dt} {iv : Int32} {r : Int32} {cu su : Nat} (i1 : vp_in (iv + 1) L) (i2 : vp_in (iv + 2) L) (i3 : vp_in (iv + 3) L) (kx : shC.1 x = 8) (km : shM.1 mm = 9) (fx : fX6_alike shC dC x (xs (iv + 1).toNatClampNeg) (xs (iv + 2).toNatClampNeg) (xs (iv + 3).toNatClampNeg) = some (r, dC9)) (fm : fX7_alike shM dM mm (xs (iv + 1).toNatClampNeg) (xs (iv + 2).toNatClampNeg) (xs (iv + 3).toNatClampNeg) = some (r, dM9)) (hcu : cu ≤ 600000) (hsu : su ≤ 7302250) {H : Heap} {locs : List Loc} {ls : Array Slot} (hw : LW2 s.heap.size sz D cy shC dC shM dM H) (hS : va_S (fun q => s.heap.size ≤ q) s.heap H locs) (hl : lv_has ls 4 [(0, .ref b), (1, .ref x), (2, .ref mm), (3, .int iv)])
    (kk : ∀ (H : Heap) (locs : List Loc) (ls : Array Slot), LW2 s.heap.size sz D cy shC dC9 shM dM9 H → va_S (fun q => s.heap.size ≤ q) s.heap H locs → lv_has ls 4 [(3, .int (iv + 6)), (0, .ref b), (1, .ref x), (2, .ref mm)] → W p l e room_1 s m #[Value.ref b] below meth c H locs (cu) (su) Q (F0 m 18 ls [])) : W p l e room_1 s m #[Value.ref b] below meth c H locs cu su Q (F0 m 1380 ls []) := by
  have hx := C.1
  have hb := C.2.1
  refine lv_aload_n hx hb dL_law_1380 rfl (lv_at hl 1 rfl) ?_
  refine lv_aload_n hx hb dL_law_1381 rfl (lv_at hl 0 rfl) ?_
  refine lv_iload_n hx hb dL_law_1382 rfl (lv_at hl 3 rfl) ?_
  refine lv_iconst (v := 1) hx hb dL_law_1383 (by decide) ?_
  refine lv_iadd hx hb dL_law_1384 ?_
  refine va_sld hx hb hX hbl (Nat.not_le.mpr hbl) hS i1 dL_law_1385 ?_
  refine lv_aload_n hx hb dL_law_1386 rfl (lv_at hl 0 rfl) ?_
  refine lv_iload_n hx hb dL_law_1387 rfl (lv_at hl 3 rfl) ?_
  refine lv_iconst (v := 2) hx hb dL_law_1388 (by decide) ?_
  refine lv_iadd hx hb dL_law_1389 ?_
  refine va_sld hx hb hX hbl (Nat.not_le.mpr hbl) hS i2 dL_law_1390 ?_
  refine lv_aload_n hx hb dL_law_1391 rfl (lv_at hl 0 rfl) ?_
  refine lv_iload_n hx hb dL_law_1392 rfl (lv_at hl 3 rfl) ?_
  refine lv_iconst (v := 3) hx hb dL_law_1393 (by decide) ?_
  refine lv_iadd hx hb dL_law_1394 ?_
  refine va_sld hx hb hX hbl (Nat.not_le.mpr hbl) hS i3 dL_law_1395 ?_
  refine lx_V0 C hw hS (fun A => tX6_alike l A D cy st sz shC dC x (xs (iv + 1).toNatClampNeg) (xs (iv + 2).toNatClampNeg) (xs (iv + 3).toNatClampNeg) fx) cvX6_alike kw_675 kx ⟨(Nat.le_of_ble_eq_true rfl), (Nat.le_of_ble_eq_true rfl)⟩ hl.1 rfl (Nat.le_of_ble_eq_true rfl) dL_law_1396 ⟨hcu, hsu⟩ (fun H locs hw hS => ?_)
  refine lv_aload_n hx hb dL_law_1399 rfl (lv_at hl 2 rfl) ?_
  refine lv_aload_n hx hb dL_law_1400 rfl (lv_at hl 0 rfl) ?_
  refine lv_iload_n hx hb dL_law_1401 rfl (lv_at hl 3 rfl) ?_
  refine lv_iconst (v := 1) hx hb dL_law_1402 (by decide) ?_
  refine lv_iadd hx hb dL_law_1403 ?_
  refine va_sld hx hb hX hbl (Nat.not_le.mpr hbl) hS i1 dL_law_1404 ?_
  refine lv_aload_n hx hb dL_law_1405 rfl (lv_at hl 0 rfl) ?_
  refine lv_iload_n hx hb dL_law_1406 rfl (lv_at hl 3 rfl) ?_
  refine lv_iconst (v := 2) hx hb dL_law_1407 (by decide) ?_
  refine lv_iadd hx hb dL_law_1408 ?_
  refine va_sld hx hb hX hbl (Nat.not_le.mpr hbl) hS i2 dL_law_1409 ?_
  refine lv_aload_n hx hb dL_law_1410 rfl (lv_at hl 0 rfl) ?_
  refine lv_iload_n hx hb dL_law_1411 rfl (lv_at hl 3 rfl) ?_
  refine lv_iconst (v := 3) hx hb dL_law_1412 (by decide) ?_
  refine lv_iadd hx hb dL_law_1413 ?_
  refine va_sld hx hb hX hbl (Nat.not_le.mpr hbl) hS i3 dL_law_1414 ?_
  refine lx_V0 C hw.swap hS (fun A => tX7_alike l A D cy st sz shM dM mm (xs (iv + 1).toNatClampNeg) (xs (iv + 2).toNatClampNeg) (xs (iv + 3).toNatClampNeg) fm) cvX7_alike kw_1130 km ⟨(Nat.le_of_ble_eq_true rfl), (Nat.le_of_ble_eq_true rfl)⟩ hl.1 rfl (Nat.le_of_ble_eq_true rfl) dL_law_1415 ⟨hcu, hsu⟩ (fun H locs hw hS => ?_)
  have hw := hw.swap
  refine lv_icmp_eq (tgt := 1715) hx hb dL_law_1418 (by decide) (fun _ => ?_) (fun c9 => absurd rfl c9)
  refine lv_iinc (v := iv + 6) (lv' := [(3, .int (iv + 6)), (0, .ref b), (1, .ref x), (2, .ref mm)]) hx hb dL_law_1715 hl (k := 3) rfl rfl (by decide) rfl (fun ls hl => ?_)
  refine lv_goto (tgt := 18) hx hb dL_law_1718 (by decide) ?_
  exact kk _ _ _ hw hS hl
set_option maxRecDepth 100000 in
set_option maxHeartbeats 4000000 in
theorem lk_29 (C : mx p s m #[Value.ref b] meth c ⟨"ManyHandsLaw", meth.name, ""⟩ cL_law 4 (some .boolean) (fun q => s.heap.size ≤ q) D cy st) (hX : va_X b L xs s s.heap) (hbl : b < s.heap.size) {x mm sz : Nat} {shC shM : Sh} {dC dM dC9 dM9 : Dt} {iv : Int32} {r : Int32} {cu su : Nat} (i1 : vp_in (iv + 1) L) (i2 : vp_in (iv + 2) L) (kx : shC.1 x = 8) (km : shM.1 mm = 9) (fx : fX6_leaves shC dC x (xs (iv + 1).toNatClampNeg) (xs (iv + 2).toNatClampNeg) = some (r, dC9)) (fm : fX7_leaves shM dM mm (xs (iv + 1).toNatClampNeg) (xs (iv + 2).toNatClampNeg) = some (r, dM9)) (hcu : cu ≤ 600000) (hsu : su ≤ 7302250) {H : Heap} {locs : List Loc} {ls : Array Slot} (hw : LW2 s.heap.size sz D cy shC dC shM dM H) (hS : va_S (fun q => s.heap.size ≤ q) s.heap H locs) (hl : lv_has ls 4 [(0, .ref b), (1, .ref x), (2, .ref mm), (3, .int iv)])
    (kk : ∀ (H : Heap) (locs : List Loc) (ls : Array Slot), LW2 s.heap.size sz D cy shC dC9 shM dM9 H → va_S (fun q => s.heap.size ≤ q) s.heap H locs → lv_has ls 4 [(3, .int (iv + 6)), (0, .ref b), (1, .ref x), (2, .ref mm)] → W p l e room_1 s m #[Value.ref b] below meth c H locs (cu) (su) Q (F0 m 18 ls [])) : W p l e room_1 s m #[Value.ref b] below meth c H locs cu su Q (F0 m 1423 ls []) := by
  have hx := C.1
  have hb := C.2.1
  refine lv_aload_n hx hb dL_law_1423 rfl (lv_at hl 1 rfl) ?_
  refine lv_aload_n hx hb dL_law_1424 rfl (lv_at hl 0 rfl) ?_
  refine lv_iload_n hx hb dL_law_1425 rfl (lv_at hl 3 rfl) ?_
  refine lv_iconst (v := 1) hx hb dL_law_1426 (by decide) ?_
  refine lv_iadd hx hb dL_law_1427 ?_
  refine va_sld hx hb hX hbl (Nat.not_le.mpr hbl) hS i1 dL_law_1428 ?_
  refine lv_aload_n hx hb dL_law_1429 rfl (lv_at hl 0 rfl) ?_
  refine lv_iload_n hx hb dL_law_1430 rfl (lv_at hl 3 rfl) ?_
  refine lv_iconst (v := 2) hx hb dL_law_1431 (by decide) ?_
  refine lv_iadd hx hb dL_law_1432 ?_
  refine va_sld hx hb hX hbl (Nat.not_le.mpr hbl) hS i2 dL_law_1433 ?_
  refine lx_V0 C hw hS (fun A => tX6_leaves l A D cy st sz shC dC x (xs (iv + 1).toNatClampNeg) (xs (iv + 2).toNatClampNeg) fx) cvX6_leaves kw_706 kx ⟨(Nat.le_of_ble_eq_true rfl), (Nat.le_of_ble_eq_true rfl)⟩ hl.1 rfl (Nat.le_of_ble_eq_true rfl) dL_law_1434 ⟨hcu, hsu⟩ (fun H locs hw hS => ?_)
  refine lv_aload_n hx hb dL_law_1437 rfl (lv_at hl 2 rfl) ?_
  refine lv_aload_n hx hb dL_law_1438 rfl (lv_at hl 0 rfl) ?_
  refine lv_iload_n hx hb dL_law_1439 rfl (lv_at hl 3 rfl) ?_
  refine lv_iconst (v := 1) hx hb dL_law_1440 (by decide) ?_
  refine lv_iadd hx hb dL_law_1441 ?_
  refine va_sld hx hb hX hbl (Nat.not_le.mpr hbl) hS i1 dL_law_1442 ?_
  refine lv_aload_n hx hb dL_law_1443 rfl (lv_at hl 0 rfl) ?_
  refine lv_iload_n hx hb dL_law_1444 rfl (lv_at hl 3 rfl) ?_
  refine lv_iconst (v := 2) hx hb dL_law_1445 (by decide) ?_
  refine lv_iadd hx hb dL_law_1446 ?_
  refine va_sld hx hb hX hbl (Nat.not_le.mpr hbl) hS i2 dL_law_1447 ?_
  refine lx_V0 C hw.swap hS (fun A => tX7_leaves l A D cy st sz shM dM mm (xs (iv + 1).toNatClampNeg) (xs (iv + 2).toNatClampNeg) fm) cvX7_leaves kw_1138 km ⟨(Nat.le_of_ble_eq_true rfl), (Nat.le_of_ble_eq_true rfl)⟩ hl.1 rfl (Nat.le_of_ble_eq_true rfl) dL_law_1448 ⟨hcu, hsu⟩ (fun H locs hw hS => ?_)
  have hw := hw.swap
  refine lv_icmp_eq (tgt := 1715) hx hb dL_law_1451 (by decide) (fun _ => ?_) (fun c9 => absurd rfl c9)
  refine lv_iinc (v := iv + 6) (lv' := [(3, .int (iv + 6)), (0, .ref b), (1, .ref x), (2, .ref mm)]) hx hb dL_law_1715 hl (k := 3) rfl rfl (by decide) rfl (fun ls hl => ?_)
  refine lv_goto (tgt := 18) hx hb dL_law_1718 (by decide) ?_
  exact kk _ _ _ hw hS hl
set_option maxRecDepth 100000 in
set_option maxHeartbeats 4000000 in
theorem lk_30 (C : mx p s m #[Value.ref b] meth c ⟨"ManyHandsLaw", meth.name, ""⟩ cL_law 4 (some .boolean) (fun q => s.heap.size ≤ q) D cy st) (hX : va_X b L xs s s.heap) (hbl : b < s.heap.size) {x mm sz : Nat} {shC shM : Sh} {dC dM dC9 dM9 : Dt} {iv : Int32} {r : Int32} {cu su : Nat} (i1 : vp_in (iv + 1) L) (i2 : vp_in (iv + 2) L) (kx : shC.1 x = 8) (km : shM.1 mm = 9) (fx : fX6_save shC dC x (xs (iv + 1).toNatClampNeg) (xs (iv + 2).toNatClampNeg) = some (r, dC9)) (fm : fX7_save shM dM mm (xs (iv + 1).toNatClampNeg) (xs (iv + 2).toNatClampNeg) = some (r, dM9)) (hcu : cu ≤ 600000) (hsu : su ≤ 7302250) {H : Heap} {locs : List Loc} {ls : Array Slot} (hw : LW2 s.heap.size sz D cy shC dC shM dM H) (hS : va_S (fun q => s.heap.size ≤ q) s.heap H locs) (hl : lv_has ls 4 [(0, .ref b), (1, .ref x), (2, .ref mm), (3, .int iv)])
    (kk : ∀ (H : Heap) (locs : List Loc) (ls : Array Slot), LW2 s.heap.size sz D cy shC dC9 shM dM9 H → va_S (fun q => s.heap.size ≤ q) s.heap H locs → lv_has ls 4 [(3, .int (iv + 6)), (0, .ref b), (1, .ref x), (2, .ref mm)] → W p l e room_1 s m #[Value.ref b] below meth c H locs (cu) (su) Q (F0 m 18 ls [])) : W p l e room_1 s m #[Value.ref b] below meth c H locs cu su Q (F0 m 1456 ls []) := by
  have hx := C.1
  have hb := C.2.1
  refine lv_aload_n hx hb dL_law_1456 rfl (lv_at hl 1 rfl) ?_
  refine lv_aload_n hx hb dL_law_1457 rfl (lv_at hl 0 rfl) ?_
  refine lv_iload_n hx hb dL_law_1458 rfl (lv_at hl 3 rfl) ?_
  refine lv_iconst (v := 1) hx hb dL_law_1459 (by decide) ?_
  refine lv_iadd hx hb dL_law_1460 ?_
  refine va_sld hx hb hX hbl (Nat.not_le.mpr hbl) hS i1 dL_law_1461 ?_
  refine lv_aload_n hx hb dL_law_1462 rfl (lv_at hl 0 rfl) ?_
  refine lv_iload_n hx hb dL_law_1463 rfl (lv_at hl 3 rfl) ?_
  refine lv_iconst (v := 2) hx hb dL_law_1464 (by decide) ?_
  refine lv_iadd hx hb dL_law_1465 ?_
  refine va_sld hx hb hX hbl (Nat.not_le.mpr hbl) hS i2 dL_law_1466 ?_
  refine lx_V0 C hw hS (fun A => tX6_save l A D cy st sz shC dC x (xs (iv + 1).toNatClampNeg) (xs (iv + 2).toNatClampNeg) fx) cvX6_save kw_714 kx ⟨(Nat.le_of_ble_eq_true rfl), (Nat.le_of_ble_eq_true rfl)⟩ hl.1 rfl (Nat.le_of_ble_eq_true rfl) dL_law_1467 ⟨hcu, hsu⟩ (fun H locs hw hS => ?_)
  refine lv_aload_n hx hb dL_law_1470 rfl (lv_at hl 2 rfl) ?_
  refine lv_aload_n hx hb dL_law_1471 rfl (lv_at hl 0 rfl) ?_
  refine lv_iload_n hx hb dL_law_1472 rfl (lv_at hl 3 rfl) ?_
  refine lv_iconst (v := 1) hx hb dL_law_1473 (by decide) ?_
  refine lv_iadd hx hb dL_law_1474 ?_
  refine va_sld hx hb hX hbl (Nat.not_le.mpr hbl) hS i1 dL_law_1475 ?_
  refine lv_aload_n hx hb dL_law_1476 rfl (lv_at hl 0 rfl) ?_
  refine lv_iload_n hx hb dL_law_1477 rfl (lv_at hl 3 rfl) ?_
  refine lv_iconst (v := 2) hx hb dL_law_1478 (by decide) ?_
  refine lv_iadd hx hb dL_law_1479 ?_
  refine va_sld hx hb hX hbl (Nat.not_le.mpr hbl) hS i2 dL_law_1480 ?_
  refine lx_V0 C hw.swap hS (fun A => tX7_save l A D cy st sz shM dM mm (xs (iv + 1).toNatClampNeg) (xs (iv + 2).toNatClampNeg) fm) cvX7_save kw_1142 km ⟨(Nat.le_of_ble_eq_true rfl), (Nat.le_of_ble_eq_true rfl)⟩ hl.1 rfl (Nat.le_of_ble_eq_true rfl) dL_law_1481 ⟨hcu, hsu⟩ (fun H locs hw hS => ?_)
  have hw := hw.swap
  refine lv_icmp_eq (tgt := 1715) hx hb dL_law_1484 (by decide) (fun _ => ?_) (fun c9 => absurd rfl c9)
  refine lv_iinc (v := iv + 6) (lv' := [(3, .int (iv + 6)), (0, .ref b), (1, .ref x), (2, .ref mm)]) hx hb dL_law_1715 hl (k := 3) rfl rfl (by decide) rfl (fun ls hl => ?_)
  refine lv_goto (tgt := 18) hx hb dL_law_1718 (by decide) ?_
  exact kk _ _ _ hw hS hl
set_option maxRecDepth 100000 in
set_option maxHeartbeats 4000000 in
theorem lk_31 (C : mx p s m #[Value.ref b] meth c ⟨"ManyHandsLaw", meth.name, ""⟩ cL_law 4 (some .boolean) (fun q => s.heap.size ≤ q) D cy st) (hX : va_X b L xs s s.heap) (hbl : b < s.heap.size) {x mm sz : Nat} {shC shM : Sh} {dC dM dC9 dM9 : Dt} {iv : Int32} {r : Int32} {cu su : Nat} (i1 : vp_in (iv + 1) L) (i2 : vp_in (iv + 2) L) (kx : shC.1 x = 8) (km : shM.1 mm = 9) (fx : fX6_tear shC dC x (xs (iv + 1).toNatClampNeg) (xs (iv + 2).toNatClampNeg) = some (r, dC9)) (fm : fX7_tear shM dM mm (xs (iv + 1).toNatClampNeg) (xs (iv + 2).toNatClampNeg) = some (r, dM9)) (hcu : cu ≤ 600000) (hsu : su ≤ 7302250) {H : Heap} {locs : List Loc} {ls : Array Slot} (hw : LW2 s.heap.size sz D cy shC dC shM dM H) (hS : va_S (fun q => s.heap.size ≤ q) s.heap H locs) (hl : lv_has ls 4 [(0, .ref b), (1, .ref x), (2, .ref mm), (3, .int iv)])
    (kk : ∀ (H : Heap) (locs : List Loc) (ls : Array Slot), LW2 s.heap.size sz D cy shC dC9 shM dM9 H → va_S (fun q => s.heap.size ≤ q) s.heap H locs → lv_has ls 4 [(3, .int (iv + 6)), (0, .ref b), (1, .ref x), (2, .ref mm)] → W p l e room_1 s m #[Value.ref b] below meth c H locs (cu) (su) Q (F0 m 18 ls [])) : W p l e room_1 s m #[Value.ref b] below meth c H locs cu su Q (F0 m 1489 ls []) := by
  have hx := C.1
  have hb := C.2.1
  refine lv_aload_n hx hb dL_law_1489 rfl (lv_at hl 1 rfl) ?_
  refine lv_aload_n hx hb dL_law_1490 rfl (lv_at hl 0 rfl) ?_
  refine lv_iload_n hx hb dL_law_1491 rfl (lv_at hl 3 rfl) ?_
  refine lv_iconst (v := 1) hx hb dL_law_1492 (by decide) ?_
  refine lv_iadd hx hb dL_law_1493 ?_
  refine va_sld hx hb hX hbl (Nat.not_le.mpr hbl) hS i1 dL_law_1494 ?_
  refine lv_aload_n hx hb dL_law_1495 rfl (lv_at hl 0 rfl) ?_
  refine lv_iload_n hx hb dL_law_1496 rfl (lv_at hl 3 rfl) ?_
  refine lv_iconst (v := 2) hx hb dL_law_1497 (by decide) ?_
  refine lv_iadd hx hb dL_law_1498 ?_
  refine va_sld hx hb hX hbl (Nat.not_le.mpr hbl) hS i2 dL_law_1499 ?_
  refine lx_V0 C hw hS (fun A => tX6_tear l A D cy st sz shC dC x (xs (iv + 1).toNatClampNeg) (xs (iv + 2).toNatClampNeg) fx) cvX6_tear kw_726 kx ⟨(Nat.le_of_ble_eq_true rfl), (Nat.le_of_ble_eq_true rfl)⟩ hl.1 rfl (Nat.le_of_ble_eq_true rfl) dL_law_1500 ⟨hcu, hsu⟩ (fun H locs hw hS => ?_)
  refine lv_aload_n hx hb dL_law_1503 rfl (lv_at hl 2 rfl) ?_
  refine lv_aload_n hx hb dL_law_1504 rfl (lv_at hl 0 rfl) ?_
  refine lv_iload_n hx hb dL_law_1505 rfl (lv_at hl 3 rfl) ?_
  refine lv_iconst (v := 1) hx hb dL_law_1506 (by decide) ?_
  refine lv_iadd hx hb dL_law_1507 ?_
  refine va_sld hx hb hX hbl (Nat.not_le.mpr hbl) hS i1 dL_law_1508 ?_
  refine lv_aload_n hx hb dL_law_1509 rfl (lv_at hl 0 rfl) ?_
  refine lv_iload_n hx hb dL_law_1510 rfl (lv_at hl 3 rfl) ?_
  refine lv_iconst (v := 2) hx hb dL_law_1511 (by decide) ?_
  refine lv_iadd hx hb dL_law_1512 ?_
  refine va_sld hx hb hX hbl (Nat.not_le.mpr hbl) hS i2 dL_law_1513 ?_
  refine lx_V0 C hw.swap hS (fun A => tX7_tear l A D cy st sz shM dM mm (xs (iv + 1).toNatClampNeg) (xs (iv + 2).toNatClampNeg) fm) cvX7_tear kw_1146 km ⟨(Nat.le_of_ble_eq_true rfl), (Nat.le_of_ble_eq_true rfl)⟩ hl.1 rfl (Nat.le_of_ble_eq_true rfl) dL_law_1514 ⟨hcu, hsu⟩ (fun H locs hw hS => ?_)
  have hw := hw.swap
  refine lv_icmp_eq (tgt := 1715) hx hb dL_law_1517 (by decide) (fun _ => ?_) (fun c9 => absurd rfl c9)
  refine lv_iinc (v := iv + 6) (lv' := [(3, .int (iv + 6)), (0, .ref b), (1, .ref x), (2, .ref mm)]) hx hb dL_law_1715 hl (k := 3) rfl rfl (by decide) rfl (fun ls hl => ?_)
  refine lv_goto (tgt := 18) hx hb dL_law_1718 (by decide) ?_
  exact kk _ _ _ hw hS hl
set_option maxRecDepth 100000 in
set_option maxHeartbeats 4000000 in
theorem lk_32 (C : mx p s m #[Value.ref b] meth c ⟨"ManyHandsLaw", meth.name, ""⟩ cL_law 4 (some .boolean) (fun q => s.heap.size ≤ q) D cy st) (hX : va_X b L xs s s.heap) (hbl : b < s.heap.size) {x mm sz : Nat} {shC shM : Sh} {dC dM dC9 dM9 : Dt} {iv : Int32} {r : Int32} {cu su : Nat} (i1 : vp_in (iv + 1) L) (i2 : vp_in (iv + 2) L) (kx : shC.1 x = 8) (km : shM.1 mm = 9) (fx : fX6_leaf shC dC x (xs (iv + 1).toNatClampNeg) (xs (iv + 2).toNatClampNeg) = some (r, dC9)) (fm : fX7_leaf shM dM mm (xs (iv + 1).toNatClampNeg) (xs (iv + 2).toNatClampNeg) = some (r, dM9)) (hcu : cu ≤ 600000) (hsu : su ≤ 7302250) {H : Heap} {locs : List Loc} {ls : Array Slot} (hw : LW2 s.heap.size sz D cy shC dC shM dM H) (hS : va_S (fun q => s.heap.size ≤ q) s.heap H locs) (hl : lv_has ls 4 [(0, .ref b), (1, .ref x), (2, .ref mm), (3, .int iv)])
    (kk : ∀ (H : Heap) (locs : List Loc) (ls : Array Slot), LW2 s.heap.size sz D cy shC dC9 shM dM9 H → va_S (fun q => s.heap.size ≤ q) s.heap H locs → lv_has ls 4 [(3, .int (iv + 6)), (0, .ref b), (1, .ref x), (2, .ref mm)] → W p l e room_1 s m #[Value.ref b] below meth c H locs (cu) (su) Q (F0 m 18 ls [])) : W p l e room_1 s m #[Value.ref b] below meth c H locs cu su Q (F0 m 1522 ls []) := by
  have hx := C.1
  have hb := C.2.1
  refine lv_aload_n hx hb dL_law_1522 rfl (lv_at hl 1 rfl) ?_
  refine lv_aload_n hx hb dL_law_1523 rfl (lv_at hl 0 rfl) ?_
  refine lv_iload_n hx hb dL_law_1524 rfl (lv_at hl 3 rfl) ?_
  refine lv_iconst (v := 1) hx hb dL_law_1525 (by decide) ?_
  refine lv_iadd hx hb dL_law_1526 ?_
  refine va_sld hx hb hX hbl (Nat.not_le.mpr hbl) hS i1 dL_law_1527 ?_
  refine lv_aload_n hx hb dL_law_1528 rfl (lv_at hl 0 rfl) ?_
  refine lv_iload_n hx hb dL_law_1529 rfl (lv_at hl 3 rfl) ?_
  refine lv_iconst (v := 2) hx hb dL_law_1530 (by decide) ?_
  refine lv_iadd hx hb dL_law_1531 ?_
  refine va_sld hx hb hX hbl (Nat.not_le.mpr hbl) hS i2 dL_law_1532 ?_
  refine lx_V0 C hw hS (fun A => tX6_leaf l A D cy st sz shC dC x (xs (iv + 1).toNatClampNeg) (xs (iv + 2).toNatClampNeg) fx) cvX6_leaf kw_742 kx ⟨(Nat.le_of_ble_eq_true rfl), (Nat.le_of_ble_eq_true rfl)⟩ hl.1 rfl (Nat.le_of_ble_eq_true rfl) dL_law_1533 ⟨hcu, hsu⟩ (fun H locs hw hS => ?_)
  refine lv_aload_n hx hb dL_law_1536 rfl (lv_at hl 2 rfl) ?_
  refine lv_aload_n hx hb dL_law_1537 rfl (lv_at hl 0 rfl) ?_
  refine lv_iload_n hx hb dL_law_1538 rfl (lv_at hl 3 rfl) ?_
  refine lv_iconst (v := 1) hx hb dL_law_1539 (by decide) ?_
  refine lv_iadd hx hb dL_law_1540 ?_
  refine va_sld hx hb hX hbl (Nat.not_le.mpr hbl) hS i1 dL_law_1541 ?_
  refine lv_aload_n hx hb dL_law_1542 rfl (lv_at hl 0 rfl) ?_
  refine lv_iload_n hx hb dL_law_1543 rfl (lv_at hl 3 rfl) ?_
  refine lv_iconst (v := 2) hx hb dL_law_1544 (by decide) ?_
  refine lv_iadd hx hb dL_law_1545 ?_
  refine va_sld hx hb hX hbl (Nat.not_le.mpr hbl) hS i2 dL_law_1546 ?_
  refine lx_V0 C hw.swap hS (fun A => tX7_leaf l A D cy st sz shM dM mm (xs (iv + 1).toNatClampNeg) (xs (iv + 2).toNatClampNeg) fm) cvX7_leaf kw_1154 km ⟨(Nat.le_of_ble_eq_true rfl), (Nat.le_of_ble_eq_true rfl)⟩ hl.1 rfl (Nat.le_of_ble_eq_true rfl) dL_law_1547 ⟨hcu, hsu⟩ (fun H locs hw hS => ?_)
  have hw := hw.swap
  refine lv_icmp_eq (tgt := 1715) hx hb dL_law_1550 (by decide) (fun _ => ?_) (fun c9 => absurd rfl c9)
  refine lv_iinc (v := iv + 6) (lv' := [(3, .int (iv + 6)), (0, .ref b), (1, .ref x), (2, .ref mm)]) hx hb dL_law_1715 hl (k := 3) rfl rfl (by decide) rfl (fun ls hl => ?_)
  refine lv_goto (tgt := 18) hx hb dL_law_1718 (by decide) ?_
  exact kk _ _ _ hw hS hl
set_option maxRecDepth 100000 in
set_option maxHeartbeats 4000000 in
theorem lk_33 (C : mx p s m #[Value.ref b] meth c ⟨"ManyHandsLaw", meth.name, ""⟩ cL_law 4 (some .boolean) (fun q => s.heap.size ≤ q) D cy st) (hX : va_X b L xs s s.heap) (hbl : b < s.heap.size) {x mm sz : Nat} {shC shM : Sh} {dC dM dC9 dM9 : Dt} {iv : Int32} {r : Int32} {cu su : Nat} (i1 : vp_in (iv + 1) L) (i2 : vp_in (iv + 2) L) (i3 : vp_in (iv + 3) L) (i4 : vp_in (iv + 4) L) (i5 : vp_in (iv + 5) L) (kx : shC.1 x = 8) (km : shM.1 mm = 9) (fx : fX6_copy shC dC x (xs (iv + 1).toNatClampNeg) (xs (iv + 2).toNatClampNeg) (xs (iv + 3).toNatClampNeg) (xs (iv + 4).toNatClampNeg) (xs (iv + 5).toNatClampNeg) = some (r, dC9)) (fm : fX7_copy shM dM mm (xs (iv + 1).toNatClampNeg) (xs (iv + 2).toNatClampNeg) (xs (iv + 3).toNatClampNeg) (xs (iv + 4).toNatClampNeg) (xs (iv + 5).toNatClampNeg) = some (r, dM9)) (hcu : cu ≤ 600000) (hsu : su ≤ 7302250) {H : Heap} {locs : List Loc} {ls : Array Slot} (hw : LW2 s.heap.size sz D cy shC dC shM dM H) (hS : va_S (fun q => s.heap.size ≤ q) s.heap H locs) (hl : lv_has ls 4 [(0, .ref b), (1, .ref x), (2, .ref mm), (3, .int iv)])
    (kk : ∀ (H : Heap) (locs : List Loc) (ls : Array Slot), LW2 s.heap.size sz D cy shC dC9 shM dM9 H → va_S (fun q => s.heap.size ≤ q) s.heap H locs → lv_has ls 4 [(3, .int (iv + 6)), (0, .ref b), (1, .ref x), (2, .ref mm)] → W p l e room_1 s m #[Value.ref b] below meth c H locs (cu) (su) Q (F0 m 18 ls [])) : W p l e room_1 s m #[Value.ref b] below meth c H locs cu su Q (F0 m 1555 ls []) := by
  have hx := C.1
  have hb := C.2.1
  refine lv_aload_n hx hb dL_law_1555 rfl (lv_at hl 1 rfl) ?_
  refine lv_aload_n hx hb dL_law_1556 rfl (lv_at hl 0 rfl) ?_
  refine lv_iload_n hx hb dL_law_1557 rfl (lv_at hl 3 rfl) ?_
  refine lv_iconst (v := 1) hx hb dL_law_1558 (by decide) ?_
  refine lv_iadd hx hb dL_law_1559 ?_
  refine va_sld hx hb hX hbl (Nat.not_le.mpr hbl) hS i1 dL_law_1560 ?_
  refine lv_aload_n hx hb dL_law_1561 rfl (lv_at hl 0 rfl) ?_
  refine lv_iload_n hx hb dL_law_1562 rfl (lv_at hl 3 rfl) ?_
  refine lv_iconst (v := 2) hx hb dL_law_1563 (by decide) ?_
  refine lv_iadd hx hb dL_law_1564 ?_
  refine va_sld hx hb hX hbl (Nat.not_le.mpr hbl) hS i2 dL_law_1565 ?_
  refine lv_aload_n hx hb dL_law_1566 rfl (lv_at hl 0 rfl) ?_
  refine lv_iload_n hx hb dL_law_1567 rfl (lv_at hl 3 rfl) ?_
  refine lv_iconst (v := 3) hx hb dL_law_1568 (by decide) ?_
  refine lv_iadd hx hb dL_law_1569 ?_
  refine va_sld hx hb hX hbl (Nat.not_le.mpr hbl) hS i3 dL_law_1570 ?_
  refine lv_aload_n hx hb dL_law_1571 rfl (lv_at hl 0 rfl) ?_
  refine lv_iload_n hx hb dL_law_1572 rfl (lv_at hl 3 rfl) ?_
  refine lv_iconst (v := 4) hx hb dL_law_1573 (by decide) ?_
  refine lv_iadd hx hb dL_law_1574 ?_
  refine va_sld hx hb hX hbl (Nat.not_le.mpr hbl) hS i4 dL_law_1575 ?_
  refine lv_aload_n hx hb dL_law_1576 rfl (lv_at hl 0 rfl) ?_
  refine lv_iload_n hx hb dL_law_1577 rfl (lv_at hl 3 rfl) ?_
  refine lv_iconst (v := 5) hx hb dL_law_1578 (by decide) ?_
  refine lv_iadd hx hb dL_law_1579 ?_
  refine va_sld hx hb hX hbl (Nat.not_le.mpr hbl) hS i5 dL_law_1580 ?_
  refine lx_V0 C hw hS (fun A => tX6_copy l A D cy st sz shC dC x (xs (iv + 1).toNatClampNeg) (xs (iv + 2).toNatClampNeg) (xs (iv + 3).toNatClampNeg) (xs (iv + 4).toNatClampNeg) (xs (iv + 5).toNatClampNeg) fx) cvX6_copy kw_746 kx ⟨(Nat.le_of_ble_eq_true rfl), (Nat.le_of_ble_eq_true rfl)⟩ hl.1 rfl (Nat.le_of_ble_eq_true rfl) dL_law_1581 ⟨hcu, hsu⟩ (fun H locs hw hS => ?_)
  refine lv_aload_n hx hb dL_law_1584 rfl (lv_at hl 2 rfl) ?_
  refine lv_aload_n hx hb dL_law_1585 rfl (lv_at hl 0 rfl) ?_
  refine lv_iload_n hx hb dL_law_1586 rfl (lv_at hl 3 rfl) ?_
  refine lv_iconst (v := 1) hx hb dL_law_1587 (by decide) ?_
  refine lv_iadd hx hb dL_law_1588 ?_
  refine va_sld hx hb hX hbl (Nat.not_le.mpr hbl) hS i1 dL_law_1589 ?_
  refine lv_aload_n hx hb dL_law_1590 rfl (lv_at hl 0 rfl) ?_
  refine lv_iload_n hx hb dL_law_1591 rfl (lv_at hl 3 rfl) ?_
  refine lv_iconst (v := 2) hx hb dL_law_1592 (by decide) ?_
  refine lv_iadd hx hb dL_law_1593 ?_
  refine va_sld hx hb hX hbl (Nat.not_le.mpr hbl) hS i2 dL_law_1594 ?_
  refine lv_aload_n hx hb dL_law_1595 rfl (lv_at hl 0 rfl) ?_
  refine lv_iload_n hx hb dL_law_1596 rfl (lv_at hl 3 rfl) ?_
  refine lv_iconst (v := 3) hx hb dL_law_1597 (by decide) ?_
  refine lv_iadd hx hb dL_law_1598 ?_
  refine va_sld hx hb hX hbl (Nat.not_le.mpr hbl) hS i3 dL_law_1599 ?_
  refine lv_aload_n hx hb dL_law_1600 rfl (lv_at hl 0 rfl) ?_
  refine lv_iload_n hx hb dL_law_1601 rfl (lv_at hl 3 rfl) ?_
  refine lv_iconst (v := 4) hx hb dL_law_1602 (by decide) ?_
  refine lv_iadd hx hb dL_law_1603 ?_
  refine va_sld hx hb hX hbl (Nat.not_le.mpr hbl) hS i4 dL_law_1604 ?_
  refine lv_aload_n hx hb dL_law_1605 rfl (lv_at hl 0 rfl) ?_
  refine lv_iload_n hx hb dL_law_1606 rfl (lv_at hl 3 rfl) ?_
  refine lv_iconst (v := 5) hx hb dL_law_1607 (by decide) ?_
  refine lv_iadd hx hb dL_law_1608 ?_
  refine va_sld hx hb hX hbl (Nat.not_le.mpr hbl) hS i5 dL_law_1609 ?_
  refine lx_V0 C hw.swap hS (fun A => tX7_copy l A D cy st sz shM dM mm (xs (iv + 1).toNatClampNeg) (xs (iv + 2).toNatClampNeg) (xs (iv + 3).toNatClampNeg) (xs (iv + 4).toNatClampNeg) (xs (iv + 5).toNatClampNeg) fm) cvX7_copy kw_1158 km ⟨(Nat.le_of_ble_eq_true rfl), (Nat.le_of_ble_eq_true rfl)⟩ hl.1 rfl (Nat.le_of_ble_eq_true rfl) dL_law_1610 ⟨hcu, hsu⟩ (fun H locs hw hS => ?_)
  have hw := hw.swap
  refine lv_icmp_eq (tgt := 1715) hx hb dL_law_1613 (by decide) (fun _ => ?_) (fun c9 => absurd rfl c9)
  refine lv_iinc (v := iv + 6) (lv' := [(3, .int (iv + 6)), (0, .ref b), (1, .ref x), (2, .ref mm)]) hx hb dL_law_1715 hl (k := 3) rfl rfl (by decide) rfl (fun ls hl => ?_)
  refine lv_goto (tgt := 18) hx hb dL_law_1718 (by decide) ?_
  exact kk _ _ _ hw hS hl
set_option maxRecDepth 100000 in
set_option maxHeartbeats 4000000 in
theorem lk_34 (C : mx p s m #[Value.ref b] meth c ⟨"ManyHandsLaw", meth.name, ""⟩ cL_law 4 (some .boolean) (fun q => s.heap.size ≤ q) D cy st) (hX : va_X b L xs s s.heap) (hbl : b < s.heap.size) {x mm sz : Nat} {shC shM : Sh} {dC dM : Dt} {iv : Int32} {r : Int64} {cu su : Nat} (kx : shC.1 x = 8) (km : shM.1 mm = 9) (fx : fX6_asked shC dC x  = some r) (fm : fX7_asked shM dM mm  = some r) (hcu : cu ≤ 600000) (hsu : su ≤ 7302250) {H : Heap} {locs : List Loc} {ls : Array Slot} (hw : LW2 s.heap.size sz D cy shC dC shM dM H) (hS : va_S (fun q => s.heap.size ≤ q) s.heap H locs) (hl : lv_has ls 4 [(0, .ref b), (1, .ref x), (2, .ref mm), (3, .int iv)])
    (kk : ∀ (H : Heap) (locs : List Loc) (ls : Array Slot), LW2 s.heap.size sz D cy shC dC shM dM H → va_S (fun q => s.heap.size ≤ q) s.heap H locs → lv_has ls 4 [(3, .int (iv + 6)), (0, .ref b), (1, .ref x), (2, .ref mm)] → W p l e room_1 s m #[Value.ref b] below meth c H locs (cu) (su) Q (F0 m 18 ls [])) : W p l e room_1 s m #[Value.ref b] below meth c H locs cu su Q (F0 m 1618 ls []) := by
  have hx := C.1
  have hb := C.2.1
  refine lv_aload_n hx hb dL_law_1618 rfl (lv_at hl 1 rfl) ?_
  refine lx_V0 C hw hS (fun A => tX6_asked l A D cy st sz shC dC x  fx) cvX6_asked kw_755 kx ⟨(Nat.le_of_ble_eq_true rfl), (Nat.le_of_ble_eq_true rfl)⟩ hl.1 rfl (Nat.le_of_ble_eq_true rfl) dL_law_1619 ⟨hcu, hsu⟩ (fun H locs hw hS => ?_)
  refine lv_aload_n hx hb dL_law_1622 rfl (lv_at hl 2 rfl) ?_
  refine lx_V0 C hw.swap hS (fun A => tX7_asked l A D cy st sz shM dM mm  fm) cvX7_asked kw_1162 km ⟨(Nat.le_of_ble_eq_true rfl), (Nat.le_of_ble_eq_true rfl)⟩ hl.1 rfl (Nat.le_of_ble_eq_true rfl) dL_law_1623 ⟨hcu, hsu⟩ (fun H locs hw hS => ?_)
  have hw := hw.swap
  refine W.lcmp hx hb dL_law_1626 ?_
  refine lv_if_eq (tgt := 1715) hx hb dL_law_1627 (by decide) (fun _ => ?_) (fun c9 => absurd (lg_same r) c9)
  refine lv_iinc (v := iv + 6) (lv' := [(3, .int (iv + 6)), (0, .ref b), (1, .ref x), (2, .ref mm)]) hx hb dL_law_1715 hl (k := 3) rfl rfl (by decide) rfl (fun ls hl => ?_)
  refine lv_goto (tgt := 18) hx hb dL_law_1718 (by decide) ?_
  exact kk _ _ _ hw hS hl
set_option maxRecDepth 100000 in
set_option maxHeartbeats 4000000 in
theorem lk_35 (C : mx p s m #[Value.ref b] meth c ⟨"ManyHandsLaw", meth.name, ""⟩ cL_law 4 (some .boolean) (fun q => s.heap.size ≤ q) D cy st) (hX : va_X b L xs s s.heap) (hbl : b < s.heap.size) {x mm sz : Nat} {shC shM : Sh} {dC dM : Dt} {iv : Int32} {r : Int32} {cu su : Nat} (i1 : vp_in (iv + 1) L) (kx : shC.1 x = 8) (km : shM.1 mm = 9) (fx : fX6_count shC dC x (xs (iv + 1).toNatClampNeg) = some r) (fm : fX7_count shM dM mm (xs (iv + 1).toNatClampNeg) = some r) (hcu : cu ≤ 600000) (hsu : su ≤ 7302250) {H : Heap} {locs : List Loc} {ls : Array Slot} (hw : LW2 s.heap.size sz D cy shC dC shM dM H) (hS : va_S (fun q => s.heap.size ≤ q) s.heap H locs) (hl : lv_has ls 4 [(0, .ref b), (1, .ref x), (2, .ref mm), (3, .int iv)])
    (kk : ∀ (H : Heap) (locs : List Loc) (ls : Array Slot), LW2 s.heap.size sz D cy shC dC shM dM H → va_S (fun q => s.heap.size ≤ q) s.heap H locs → lv_has ls 4 [(3, .int (iv + 6)), (0, .ref b), (1, .ref x), (2, .ref mm)] → W p l e room_1 s m #[Value.ref b] below meth c H locs (cu) (su) Q (F0 m 18 ls [])) : W p l e room_1 s m #[Value.ref b] below meth c H locs cu su Q (F0 m 1632 ls []) := by
  have hx := C.1
  have hb := C.2.1
  refine lv_aload_n hx hb dL_law_1632 rfl (lv_at hl 1 rfl) ?_
  refine lv_aload_n hx hb dL_law_1633 rfl (lv_at hl 0 rfl) ?_
  refine lv_iload_n hx hb dL_law_1634 rfl (lv_at hl 3 rfl) ?_
  refine lv_iconst (v := 1) hx hb dL_law_1635 (by decide) ?_
  refine lv_iadd hx hb dL_law_1636 ?_
  refine va_sld hx hb hX hbl (Nat.not_le.mpr hbl) hS i1 dL_law_1637 ?_
  refine lx_V0 C hw hS (fun A => tX6_count l A D cy st sz shC dC x (xs (iv + 1).toNatClampNeg) fx) cvX6_count kw_759 kx ⟨(Nat.le_of_ble_eq_true rfl), (Nat.le_of_ble_eq_true rfl)⟩ hl.1 rfl (Nat.le_of_ble_eq_true rfl) dL_law_1638 ⟨hcu, hsu⟩ (fun H locs hw hS => ?_)
  refine lv_aload_n hx hb dL_law_1641 rfl (lv_at hl 2 rfl) ?_
  refine lv_aload_n hx hb dL_law_1642 rfl (lv_at hl 0 rfl) ?_
  refine lv_iload_n hx hb dL_law_1643 rfl (lv_at hl 3 rfl) ?_
  refine lv_iconst (v := 1) hx hb dL_law_1644 (by decide) ?_
  refine lv_iadd hx hb dL_law_1645 ?_
  refine va_sld hx hb hX hbl (Nat.not_le.mpr hbl) hS i1 dL_law_1646 ?_
  refine lx_V0 C hw.swap hS (fun A => tX7_count l A D cy st sz shM dM mm (xs (iv + 1).toNatClampNeg) fm) cvX7_count kw_1166 km ⟨(Nat.le_of_ble_eq_true rfl), (Nat.le_of_ble_eq_true rfl)⟩ hl.1 rfl (Nat.le_of_ble_eq_true rfl) dL_law_1647 ⟨hcu, hsu⟩ (fun H locs hw hS => ?_)
  have hw := hw.swap
  refine lv_icmp_eq (tgt := 1715) hx hb dL_law_1650 (by decide) (fun _ => ?_) (fun c9 => absurd rfl c9)
  refine lv_iinc (v := iv + 6) (lv' := [(3, .int (iv + 6)), (0, .ref b), (1, .ref x), (2, .ref mm)]) hx hb dL_law_1715 hl (k := 3) rfl rfl (by decide) rfl (fun ls hl => ?_)
  refine lv_goto (tgt := 18) hx hb dL_law_1718 (by decide) ?_
  exact kk _ _ _ hw hS hl
set_option maxRecDepth 100000 in
set_option maxHeartbeats 4000000 in
theorem lk_36 (C : mx p s m #[Value.ref b] meth c ⟨"ManyHandsLaw", meth.name, ""⟩ cL_law 4 (some .boolean) (fun q => s.heap.size ≤ q) D cy st) (hX : va_X b L xs s s.heap) (hbl : b < s.heap.size) {x mm sz : Nat} {shC shM : Sh} {dC dM : Dt} {iv : Int32} {r : Int32} {cu su : Nat} (kx : shC.1 x = 8) (km : shM.1 mm = 9) (fx : fX6_finding shC dC x  = some r) (fm : fX7_finding shM dM mm  = some r) (hcu : cu ≤ 600000) (hsu : su ≤ 7302250) {H : Heap} {locs : List Loc} {ls : Array Slot} (hw : LW2 s.heap.size sz D cy shC dC shM dM H) (hS : va_S (fun q => s.heap.size ≤ q) s.heap H locs) (hl : lv_has ls 4 [(0, .ref b), (1, .ref x), (2, .ref mm), (3, .int iv)])
    (kk : ∀ (H : Heap) (locs : List Loc) (ls : Array Slot), LW2 s.heap.size sz D cy shC dC shM dM H → va_S (fun q => s.heap.size ≤ q) s.heap H locs → lv_has ls 4 [(3, .int (iv + 6)), (0, .ref b), (1, .ref x), (2, .ref mm)] → W p l e room_1 s m #[Value.ref b] below meth c H locs (cu) (su) Q (F0 m 18 ls [])) : W p l e room_1 s m #[Value.ref b] below meth c H locs cu su Q (F0 m 1655 ls []) := by
  have hx := C.1
  have hb := C.2.1
  refine lv_aload_n hx hb dL_law_1655 rfl (lv_at hl 1 rfl) ?_
  refine lx_V0 C hw hS (fun A => tX6_finding l A D cy st sz shC dC x  fx) cvX6_finding kw_763 kx ⟨(Nat.le_of_ble_eq_true rfl), (Nat.le_of_ble_eq_true rfl)⟩ hl.1 rfl (Nat.le_of_ble_eq_true rfl) dL_law_1656 ⟨hcu, hsu⟩ (fun H locs hw hS => ?_)
  refine lv_aload_n hx hb dL_law_1659 rfl (lv_at hl 2 rfl) ?_
  refine lx_V0 C hw.swap hS (fun A => tX7_finding l A D cy st sz shM dM mm  fm) cvX7_finding kw_882 km ⟨(Nat.le_of_ble_eq_true rfl), (Nat.le_of_ble_eq_true rfl)⟩ hl.1 rfl (Nat.le_of_ble_eq_true rfl) dL_law_1660 ⟨hcu, hsu⟩ (fun H locs hw hS => ?_)
  have hw := hw.swap
  refine lv_icmp_eq (tgt := 1715) hx hb dL_law_1663 (by decide) (fun _ => ?_) (fun c9 => absurd rfl c9)
  refine lv_iinc (v := iv + 6) (lv' := [(3, .int (iv + 6)), (0, .ref b), (1, .ref x), (2, .ref mm)]) hx hb dL_law_1715 hl (k := 3) rfl rfl (by decide) rfl (fun ls hl => ?_)
  refine lv_goto (tgt := 18) hx hb dL_law_1718 (by decide) ?_
  exact kk _ _ _ hw hS hl
set_option maxRecDepth 100000 in
set_option maxHeartbeats 4000000 in
theorem lk_37 (C : mx p s m #[Value.ref b] meth c ⟨"ManyHandsLaw", meth.name, ""⟩ cL_law 4 (some .boolean) (fun q => s.heap.size ≤ q) D cy st) (hX : va_X b L xs s s.heap) (hbl : b < s.heap.size) {x mm sz : Nat} {shC shM : Sh} {dC dM : Dt} {iv : Int32} {r : Int32} {cu su : Nat} (i1 : vp_in (iv + 1) L) (kx : shC.1 x = 8) (km : shM.1 mm = 9) (fx : fX6_findings shC dC x (xs (iv + 1).toNatClampNeg) = some r) (fm : fX7_findings shM dM mm (xs (iv + 1).toNatClampNeg) = some r) (hcu : cu ≤ 600000) (hsu : su ≤ 7302250) {H : Heap} {locs : List Loc} {ls : Array Slot} (hw : LW2 s.heap.size sz D cy shC dC shM dM H) (hS : va_S (fun q => s.heap.size ≤ q) s.heap H locs) (hl : lv_has ls 4 [(0, .ref b), (1, .ref x), (2, .ref mm), (3, .int iv)])
    (kk : ∀ (H : Heap) (locs : List Loc) (ls : Array Slot), LW2 s.heap.size sz D cy shC dC shM dM H → va_S (fun q => s.heap.size ≤ q) s.heap H locs → lv_has ls 4 [(3, .int (iv + 6)), (0, .ref b), (1, .ref x), (2, .ref mm)] → W p l e room_1 s m #[Value.ref b] below meth c H locs (cu) (su) Q (F0 m 18 ls [])) : W p l e room_1 s m #[Value.ref b] below meth c H locs cu su Q (F0 m 1668 ls []) := by
  have hx := C.1
  have hb := C.2.1
  refine lv_aload_n hx hb dL_law_1668 rfl (lv_at hl 1 rfl) ?_
  refine lv_aload_n hx hb dL_law_1669 rfl (lv_at hl 0 rfl) ?_
  refine lv_iload_n hx hb dL_law_1670 rfl (lv_at hl 3 rfl) ?_
  refine lv_iconst (v := 1) hx hb dL_law_1671 (by decide) ?_
  refine lv_iadd hx hb dL_law_1672 ?_
  refine va_sld hx hb hX hbl (Nat.not_le.mpr hbl) hS i1 dL_law_1673 ?_
  refine lx_V0 C hw hS (fun A => tX6_findings l A D cy st sz shC dC x (xs (iv + 1).toNatClampNeg) fx) cvX6_findings kw_767 kx ⟨(Nat.le_of_ble_eq_true rfl), (Nat.le_of_ble_eq_true rfl)⟩ hl.1 rfl (Nat.le_of_ble_eq_true rfl) dL_law_1674 ⟨hcu, hsu⟩ (fun H locs hw hS => ?_)
  refine lv_aload_n hx hb dL_law_1677 rfl (lv_at hl 2 rfl) ?_
  refine lv_aload_n hx hb dL_law_1678 rfl (lv_at hl 0 rfl) ?_
  refine lv_iload_n hx hb dL_law_1679 rfl (lv_at hl 3 rfl) ?_
  refine lv_iconst (v := 1) hx hb dL_law_1680 (by decide) ?_
  refine lv_iadd hx hb dL_law_1681 ?_
  refine va_sld hx hb hX hbl (Nat.not_le.mpr hbl) hS i1 dL_law_1682 ?_
  refine lx_V0 C hw.swap hS (fun A => tX7_findings l A D cy st sz shM dM mm (xs (iv + 1).toNatClampNeg) fm) cvX7_findings kw_886 km ⟨(Nat.le_of_ble_eq_true rfl), (Nat.le_of_ble_eq_true rfl)⟩ hl.1 rfl (Nat.le_of_ble_eq_true rfl) dL_law_1683 ⟨hcu, hsu⟩ (fun H locs hw hS => ?_)
  have hw := hw.swap
  refine lv_icmp_eq (tgt := 1715) hx hb dL_law_1686 (by decide) (fun _ => ?_) (fun c9 => absurd rfl c9)
  refine lv_iinc (v := iv + 6) (lv' := [(3, .int (iv + 6)), (0, .ref b), (1, .ref x), (2, .ref mm)]) hx hb dL_law_1715 hl (k := 3) rfl rfl (by decide) rfl (fun ls hl => ?_)
  refine lv_goto (tgt := 18) hx hb dL_law_1718 (by decide) ?_
  exact kk _ _ _ hw hS hl
set_option maxRecDepth 100000 in
set_option maxHeartbeats 4000000 in
theorem lk_38 (C : mx p s m #[Value.ref b] meth c ⟨"ManyHandsLaw", meth.name, ""⟩ cL_law 4 (some .boolean) (fun q => s.heap.size ≤ q) D cy st) (hX : va_X b L xs s s.heap) (hbl : b < s.heap.size) {x mm sz : Nat} {shC shM : Sh} {dC dM dC9 dM9 : Dt} {iv : Int32} {r : Int64} {cu su : Nat} (i1 : vp_in (iv + 1) L) (kx : shC.1 x = 8) (km : shM.1 mm = 9) (fx : fX6_digest shC dC x (xs (iv + 1).toNatClampNeg) = some (r, dC9)) (fm : fX7_digest shM dM mm (xs (iv + 1).toNatClampNeg) = some (r, dM9)) (hcu : cu ≤ 600000) (hsu : su ≤ 7302250) {H : Heap} {locs : List Loc} {ls : Array Slot} (hw : LW2 s.heap.size sz D cy shC dC shM dM H) (hS : va_S (fun q => s.heap.size ≤ q) s.heap H locs) (hl : lv_has ls 4 [(0, .ref b), (1, .ref x), (2, .ref mm), (3, .int iv)])
    (kk : ∀ (H : Heap) (locs : List Loc) (ls : Array Slot), LW2 s.heap.size sz D cy shC dC9 shM dM9 H → va_S (fun q => s.heap.size ≤ q) s.heap H locs → lv_has ls 4 [(3, .int (iv + 6)), (0, .ref b), (1, .ref x), (2, .ref mm)] → W p l e room_1 s m #[Value.ref b] below meth c H locs (cu) (su) Q (F0 m 18 ls [])) : W p l e room_1 s m #[Value.ref b] below meth c H locs cu su Q (F0 m 1691 ls []) := by
  have hx := C.1
  have hb := C.2.1
  refine lv_aload_n hx hb dL_law_1691 rfl (lv_at hl 1 rfl) ?_
  refine lv_aload_n hx hb dL_law_1692 rfl (lv_at hl 0 rfl) ?_
  refine lv_iload_n hx hb dL_law_1693 rfl (lv_at hl 3 rfl) ?_
  refine lv_iconst (v := 1) hx hb dL_law_1694 (by decide) ?_
  refine lv_iadd hx hb dL_law_1695 ?_
  refine va_sld hx hb hX hbl (Nat.not_le.mpr hbl) hS i1 dL_law_1696 ?_
  refine lx_V0 C hw hS (fun A => tX6_digest l A D cy st sz shC dC x (xs (iv + 1).toNatClampNeg) fx) cvX6_digest kw_771 kx ⟨(Nat.le_of_ble_eq_true rfl), (Nat.le_of_ble_eq_true rfl)⟩ hl.1 rfl (Nat.le_of_ble_eq_true rfl) dL_law_1697 ⟨hcu, hsu⟩ (fun H locs hw hS => ?_)
  refine lv_aload_n hx hb dL_law_1700 rfl (lv_at hl 2 rfl) ?_
  refine lv_aload_n hx hb dL_law_1701 rfl (lv_at hl 0 rfl) ?_
  refine lv_iload_n hx hb dL_law_1702 rfl (lv_at hl 3 rfl) ?_
  refine lv_iconst (v := 1) hx hb dL_law_1703 (by decide) ?_
  refine lv_iadd hx hb dL_law_1704 ?_
  refine va_sld hx hb hX hbl (Nat.not_le.mpr hbl) hS i1 dL_law_1705 ?_
  refine lx_V0 C hw.swap hS (fun A => tX7_digest l A D cy st sz shM dM mm (xs (iv + 1).toNatClampNeg) fm) cvX7_digest kw_1170 km ⟨(Nat.le_of_ble_eq_true rfl), (Nat.le_of_ble_eq_true rfl)⟩ hl.1 rfl (Nat.le_of_ble_eq_true rfl) dL_law_1706 ⟨hcu, hsu⟩ (fun H locs hw hS => ?_)
  have hw := hw.swap
  refine W.lcmp hx hb dL_law_1709 ?_
  refine lv_if_eq (tgt := 1715) hx hb dL_law_1710 (by decide) (fun _ => ?_) (fun c9 => absurd (lg_same r) c9)
  refine lv_iinc (v := iv + 6) (lv' := [(3, .int (iv + 6)), (0, .ref b), (1, .ref x), (2, .ref mm)]) hx hb dL_law_1715 hl (k := 3) rfl rfl (by decide) rfl (fun ls hl => ?_)
  refine lv_goto (tgt := 18) hx hb dL_law_1718 (by decide) ?_
  exact kk _ _ _ hw hS hl
end
