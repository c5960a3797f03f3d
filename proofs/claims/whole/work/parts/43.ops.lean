/-! PART 43 (written by wip/whole/gen43.py): each call of the law -/
theorem vin5 {i L c : Nat} (hi : i + 5 ≤ L) (hL : L ≤ 2560) (hc : c < 5) : vp_in (nI i + nI c) L := by
  rw [nI_add]
  exact vp_in_nI (by omega) (by omega)
section OP
variable {p : Program} {l : Launch} {e : Env} {s : State} {m : MethodId} {below : List Frame} {meth : Method} {c : Code} {D : va_G} {tc : Nat → ClassId} {A : Nat → Prop} {Q : State → Prop} {b L i : Nat} {xs : Nat → Int32} {adX adM : Oid → Nat} {σ ρ : Mem} {T : Nat} {d : Dst} {f : Nat → Nat} {ds : Nat → Dst} {n : Nat} {t : Nat → Nat}
set_option maxHeartbeats 1000000 in
set_option maxRecDepth 100000 in
theorem O_addDitch (C : CL p s m #[Value.ref b] c D vwCl (tysX tc) A code 4 RL lw_tbl) (hX : va_X b L xs s s.heap) (hbl : b < s.heap.size) (hbA : ¬ A b) (hL : L ≤ 2560) (hi : i + 5 ≤ L) (hS : IS T d f ds n t) (hT : T + 48 ≤ 30000) (hWX : WX σ d f ds n t) (hWM : WM ρ d f ds n t) (kk : ∀ (σ ρ : Mem) (d : Dst) (f : Nat → Nat) (ds : Nat → Dst) (n : Nat) (t : Nat → Nat), IS (T + 48) d f ds n t → WX σ d f ds n t → WM ρ d f ds n t → GV p l e room_1 s m #[Value.ref b] below meth c D vwCl A Q 4 1155 [(3, .int (nI i)), (2, .ref (adM (0, 0, 0))), (1, .ref (adX (0, 0, 0))), (0, .ref b)] [] (wl idsX adX (ceX tc adX) σ ++ wl idsM adM (ceM tc adM) ρ) 134 2188) : GV p l e room_1 s m #[Value.ref b] below meth c D vwCl A Q 4 200 [(3, .int (nI i)), (2, .ref (adM (0, 0, 0))), (1, .ref (adX (0, 0, 0))), (0, .ref b)] [] (wl idsX adX (ceX tc adX) σ ++ wl idsM adM (ceM tc adM) ρ) 134 2188 := by
  obtain ⟨r, d1, f1, ds1, n1, t1, hI1, hF1, hG1⟩ := P_addDitch hS hT hWX hWM (xs (nI i + 1).toNatClampNeg) (xs (nI i + 2).toNatClampNeg) (xs (nI i + 3).toNatClampNeg)
  have v1 : vp_in (nI i + 1) L := vin5 hi hL (c := 1) (by decide)
  have v2 : vp_in (nI i + 2) L := vin5 hi hL (c := 2) (by decide)
  have v3 : vp_in (nI i + 3) L := vin5 hi hL (c := 3) (by decide)
  refine L_aload_n C dL_law_200 2 rfl ?_
  refine L_aload_n C dL_law_201 3 rfl ?_
  refine L_iload_n C dL_law_202 0 rfl ?_
  refine L_iconst (v := 1) C dL_law_203 ci_1 ?_
  refine L_iadd C dL_law_204 ?_
  refine L_sld C hX hbl hbA v1 dL_law_205 ?_
  refine L_aload_n C dL_law_206 3 rfl ?_
  refine L_iload_n C dL_law_207 0 rfl ?_
  refine L_iconst (v := 2) C dL_law_208 ci_2 ?_
  refine L_iadd C dL_law_209 ?_
  refine L_sld C hX hbl hbA v2 dL_law_210 ?_
  refine L_aload_n C dL_law_211 3 rfl ?_
  refine L_iload_n C dL_law_212 0 rfl ?_
  refine L_iconst (v := 3) C dL_law_213 ci_3 ?_
  refine L_iadd C dL_law_214 ?_
  refine L_sld C hX hbl hbA v3 dL_law_215 ?_
  refine L_cXi (As := [.int (xs (nI i + 1).toNatClampNeg), .int (xs (nI i + 2).toNatClampNeg), .int (xs (nI i + 3).toNatClampNeg)]) C okX_0_0 (M_X5_addDitch l D tc adX (AW idsX adX) (xs (nI i + 1).toNatClampNeg) (xs (nI i + 2).toNatClampNeg) (xs (nI i + 3).toNatClampNeg) hF1) (cwV 3 C.1.2.2.2.2 gT_X5_addDitch rfl rfl rfl (by decide +kernel) ⟨(Nat.le_of_ble_eq_true rfl), (Nat.le_of_ble_eq_true rfl)⟩) (ci := 5) rfl rfl rfl rfl (Nat.le_of_ble_eq_true rfl) (Nat.le_of_ble_eq_true rfl) (Nat.le_of_ble_eq_true rfl) dL_law_216 (fun r1 τ hr1 => ?_)
  obtain ⟨e1, h1⟩ := hr1
  subst e1
  refine L_aload_n C dL_law_219 1 rfl ?_
  refine L_aload_n C dL_law_220 3 rfl ?_
  refine L_iload_n C dL_law_221 0 rfl ?_
  refine L_iconst (v := 1) C dL_law_222 ci_1 ?_
  refine L_iadd C dL_law_223 ?_
  refine L_sld C hX hbl hbA v1 dL_law_224 ?_
  refine L_aload_n C dL_law_225 3 rfl ?_
  refine L_iload_n C dL_law_226 0 rfl ?_
  refine L_iconst (v := 2) C dL_law_227 ci_2 ?_
  refine L_iadd C dL_law_228 ?_
  refine L_sld C hX hbl hbA v2 dL_law_229 ?_
  refine L_aload_n C dL_law_230 3 rfl ?_
  refine L_iload_n C dL_law_231 0 rfl ?_
  refine L_iconst (v := 3) C dL_law_232 ci_3 ?_
  refine L_iadd C dL_law_233 ?_
  refine L_sld C hX hbl hbA v3 dL_law_234 ?_
  refine L_cMi (As := [.int (xs (nI i + 1).toNatClampNeg), .int (xs (nI i + 2).toNatClampNeg), .int (xs (nI i + 3).toNatClampNeg)]) C okM_0 (M_X6_addDitch l D tc adM (AW idsM adM) (xs (nI i + 1).toNatClampNeg) (xs (nI i + 2).toNatClampNeg) (xs (nI i + 3).toNatClampNeg) hG1) (cwV 3 C.1.2.2.2.2 gT_X6_addDitch rfl rfl rfl (by decide +kernel) ⟨(Nat.le_of_ble_eq_true rfl), (Nat.le_of_ble_eq_true rfl)⟩) (ci := 6) rfl rfl rfl rfl (Nat.le_of_ble_eq_true rfl) (Nat.le_of_ble_eq_true rfl) (Nat.le_of_ble_eq_true rfl) dL_law_235 (fun r2 τ2 hr2 => ?_)
  obtain ⟨e2, h2⟩ := hr2
  subst e2
  refine L_icmp_eq (tgt := 1155) C dL_law_238 rfl (fun _ => ?_) (fun h => absurd rfl h)
  exact kk τ τ2 d1 f1 ds1 n1 t1 hI1 h1 h2
set_option maxHeartbeats 1000000 in
set_option maxRecDepth 100000 in
theorem O_setDitch (C : CL p s m #[Value.ref b] c D vwCl (tysX tc) A code 4 RL lw_tbl) (hX : va_X b L xs s s.heap) (hbl : b < s.heap.size) (hbA : ¬ A b) (hL : L ≤ 2560) (hi : i + 5 ≤ L) (hS : IS T d f ds n t) (hT : T + 48 ≤ 30000) (hWX : WX σ d f ds n t) (hWM : WM ρ d f ds n t) (kk : ∀ (σ ρ : Mem) (d : Dst) (f : Nat → Nat) (ds : Nat → Dst) (n : Nat) (t : Nat → Nat), IS (T + 48) d f ds n t → WX σ d f ds n t → WM ρ d f ds n t → GV p l e room_1 s m #[Value.ref b] below meth c D vwCl A Q 4 1155 [(3, .int (nI i)), (2, .ref (adM (0, 0, 0))), (1, .ref (adX (0, 0, 0))), (0, .ref b)] [] (wl idsX adX (ceX tc adX) σ ++ wl idsM adM (ceM tc adM) ρ) 134 2188) : GV p l e room_1 s m #[Value.ref b] below meth c D vwCl A Q 4 243 [(3, .int (nI i)), (2, .ref (adM (0, 0, 0))), (1, .ref (adX (0, 0, 0))), (0, .ref b)] [] (wl idsX adX (ceX tc adX) σ ++ wl idsM adM (ceM tc adM) ρ) 134 2188 := by
  obtain ⟨r, d1, f1, ds1, n1, t1, hI1, hF1, hG1⟩ := P_setDitch hS hT hWX hWM (xs (nI i + 1).toNatClampNeg) (xs (nI i + 2).toNatClampNeg) (xs (nI i + 3).toNatClampNeg)
  have v1 : vp_in (nI i + 1) L := vin5 hi hL (c := 1) (by decide)
  have v2 : vp_in (nI i + 2) L := vin5 hi hL (c := 2) (by decide)
  have v3 : vp_in (nI i + 3) L := vin5 hi hL (c := 3) (by decide)
  refine L_aload_n C dL_law_243 2 rfl ?_
  refine L_aload_n C dL_law_244 3 rfl ?_
  refine L_iload_n C dL_law_245 0 rfl ?_
  refine L_iconst (v := 1) C dL_law_246 ci_1 ?_
  refine L_iadd C dL_law_247 ?_
  refine L_sld C hX hbl hbA v1 dL_law_248 ?_
  refine L_aload_n C dL_law_249 3 rfl ?_
  refine L_iload_n C dL_law_250 0 rfl ?_
  refine L_iconst (v := 2) C dL_law_251 ci_2 ?_
  refine L_iadd C dL_law_252 ?_
  refine L_sld C hX hbl hbA v2 dL_law_253 ?_
  refine L_aload_n C dL_law_254 3 rfl ?_
  refine L_iload_n C dL_law_255 0 rfl ?_
  refine L_iconst (v := 3) C dL_law_256 ci_3 ?_
  refine L_iadd C dL_law_257 ?_
  refine L_sld C hX hbl hbA v3 dL_law_258 ?_
  refine L_cXi (As := [.int (xs (nI i + 1).toNatClampNeg), .int (xs (nI i + 2).toNatClampNeg), .int (xs (nI i + 3).toNatClampNeg)]) C okX_0_0 (M_X5_setDitch l D tc adX (AW idsX adX) (xs (nI i + 1).toNatClampNeg) (xs (nI i + 2).toNatClampNeg) (xs (nI i + 3).toNatClampNeg) hF1) (cwV 3 C.1.2.2.2.2 gT_X5_setDitch rfl rfl rfl (by decide +kernel) ⟨(Nat.le_of_ble_eq_true rfl), (Nat.le_of_ble_eq_true rfl)⟩) (ci := 5) rfl rfl rfl rfl (Nat.le_of_ble_eq_true rfl) (Nat.le_of_ble_eq_true rfl) (Nat.le_of_ble_eq_true rfl) dL_law_259 (fun r1 τ hr1 => ?_)
  obtain ⟨e1, h1⟩ := hr1
  subst e1
  refine L_aload_n C dL_law_262 1 rfl ?_
  refine L_aload_n C dL_law_263 3 rfl ?_
  refine L_iload_n C dL_law_264 0 rfl ?_
  refine L_iconst (v := 1) C dL_law_265 ci_1 ?_
  refine L_iadd C dL_law_266 ?_
  refine L_sld C hX hbl hbA v1 dL_law_267 ?_
  refine L_aload_n C dL_law_268 3 rfl ?_
  refine L_iload_n C dL_law_269 0 rfl ?_
  refine L_iconst (v := 2) C dL_law_270 ci_2 ?_
  refine L_iadd C dL_law_271 ?_
  refine L_sld C hX hbl hbA v2 dL_law_272 ?_
  refine L_aload_n C dL_law_273 3 rfl ?_
  refine L_iload_n C dL_law_274 0 rfl ?_
  refine L_iconst (v := 3) C dL_law_275 ci_3 ?_
  refine L_iadd C dL_law_276 ?_
  refine L_sld C hX hbl hbA v3 dL_law_277 ?_
  refine L_cMi (As := [.int (xs (nI i + 1).toNatClampNeg), .int (xs (nI i + 2).toNatClampNeg), .int (xs (nI i + 3).toNatClampNeg)]) C okM_0 (M_X6_setDitch l D tc adM (AW idsM adM) (xs (nI i + 1).toNatClampNeg) (xs (nI i + 2).toNatClampNeg) (xs (nI i + 3).toNatClampNeg) hG1) (cwV 3 C.1.2.2.2.2 gT_X6_setDitch rfl rfl rfl (by decide +kernel) ⟨(Nat.le_of_ble_eq_true rfl), (Nat.le_of_ble_eq_true rfl)⟩) (ci := 6) rfl rfl rfl rfl (Nat.le_of_ble_eq_true rfl) (Nat.le_of_ble_eq_true rfl) (Nat.le_of_ble_eq_true rfl) dL_law_278 (fun r2 τ2 hr2 => ?_)
  obtain ⟨e2, h2⟩ := hr2
  subst e2
  refine L_icmp_eq (tgt := 1155) C dL_law_281 rfl (fun _ => ?_) (fun h => absurd rfl h)
  exact kk τ τ2 d1 f1 ds1 n1 t1 hI1 h1 h2
set_option maxHeartbeats 1000000 in
set_option maxRecDepth 100000 in
theorem O_addUser (C : CL p s m #[Value.ref b] c D vwCl (tysX tc) A code 4 RL lw_tbl) (hX : va_X b L xs s s.heap) (hbl : b < s.heap.size) (hbA : ¬ A b) (hL : L ≤ 2560) (hi : i + 5 ≤ L) (hS : IS T d f ds n t) (hT : T + 48 ≤ 30000) (hWX : WX σ d f ds n t) (hWM : WM ρ d f ds n t) (kk : ∀ (σ ρ : Mem) (d : Dst) (f : Nat → Nat) (ds : Nat → Dst) (n : Nat) (t : Nat → Nat), IS (T + 48) d f ds n t → WX σ d f ds n t → WM ρ d f ds n t → GV p l e room_1 s m #[Value.ref b] below meth c D vwCl A Q 4 1155 [(3, .int (nI i)), (2, .ref (adM (0, 0, 0))), (1, .ref (adX (0, 0, 0))), (0, .ref b)] [] (wl idsX adX (ceX tc adX) σ ++ wl idsM adM (ceM tc adM) ρ) 134 2188) : GV p l e room_1 s m #[Value.ref b] below meth c D vwCl A Q 4 286 [(3, .int (nI i)), (2, .ref (adM (0, 0, 0))), (1, .ref (adX (0, 0, 0))), (0, .ref b)] [] (wl idsX adX (ceX tc adX) σ ++ wl idsM adM (ceM tc adM) ρ) 134 2188 := by
  obtain ⟨r, d1, f1, ds1, n1, t1, hI1, hF1, hG1⟩ := P_addUser hS hT hWX hWM (xs (nI i + 1).toNatClampNeg) (xs (nI i + 2).toNatClampNeg) (xs (nI i + 3).toNatClampNeg)
  have v1 : vp_in (nI i + 1) L := vin5 hi hL (c := 1) (by decide)
  have v2 : vp_in (nI i + 2) L := vin5 hi hL (c := 2) (by decide)
  have v3 : vp_in (nI i + 3) L := vin5 hi hL (c := 3) (by decide)
  refine L_aload_n C dL_law_286 2 rfl ?_
  refine L_aload_n C dL_law_287 3 rfl ?_
  refine L_iload_n C dL_law_288 0 rfl ?_
  refine L_iconst (v := 1) C dL_law_289 ci_1 ?_
  refine L_iadd C dL_law_290 ?_
  refine L_sld C hX hbl hbA v1 dL_law_291 ?_
  refine L_aload_n C dL_law_292 3 rfl ?_
  refine L_iload_n C dL_law_293 0 rfl ?_
  refine L_iconst (v := 2) C dL_law_294 ci_2 ?_
  refine L_iadd C dL_law_295 ?_
  refine L_sld C hX hbl hbA v2 dL_law_296 ?_
  refine L_aload_n C dL_law_297 3 rfl ?_
  refine L_iload_n C dL_law_298 0 rfl ?_
  refine L_iconst (v := 3) C dL_law_299 ci_3 ?_
  refine L_iadd C dL_law_300 ?_
  refine L_sld C hX hbl hbA v3 dL_law_301 ?_
  refine L_cXi (As := [.int (xs (nI i + 1).toNatClampNeg), .int (xs (nI i + 2).toNatClampNeg), .int (xs (nI i + 3).toNatClampNeg)]) C okX_0_0 (M_X5_addUser l D tc adX (AW idsX adX) (xs (nI i + 1).toNatClampNeg) (xs (nI i + 2).toNatClampNeg) (xs (nI i + 3).toNatClampNeg) hF1) (cwV 3 C.1.2.2.2.2 gT_X5_addUser rfl rfl rfl (by decide +kernel) ⟨(Nat.le_of_ble_eq_true rfl), (Nat.le_of_ble_eq_true rfl)⟩) (ci := 5) rfl rfl rfl rfl (Nat.le_of_ble_eq_true rfl) (Nat.le_of_ble_eq_true rfl) (Nat.le_of_ble_eq_true rfl) dL_law_302 (fun r1 τ hr1 => ?_)
  obtain ⟨e1, h1⟩ := hr1
  subst e1
  refine L_aload_n C dL_law_305 1 rfl ?_
  refine L_aload_n C dL_law_306 3 rfl ?_
  refine L_iload_n C dL_law_307 0 rfl ?_
  refine L_iconst (v := 1) C dL_law_308 ci_1 ?_
  refine L_iadd C dL_law_309 ?_
  refine L_sld C hX hbl hbA v1 dL_law_310 ?_
  refine L_aload_n C dL_law_311 3 rfl ?_
  refine L_iload_n C dL_law_312 0 rfl ?_
  refine L_iconst (v := 2) C dL_law_313 ci_2 ?_
  refine L_iadd C dL_law_314 ?_
  refine L_sld C hX hbl hbA v2 dL_law_315 ?_
  refine L_aload_n C dL_law_316 3 rfl ?_
  refine L_iload_n C dL_law_317 0 rfl ?_
  refine L_iconst (v := 3) C dL_law_318 ci_3 ?_
  refine L_iadd C dL_law_319 ?_
  refine L_sld C hX hbl hbA v3 dL_law_320 ?_
  refine L_cMi (As := [.int (xs (nI i + 1).toNatClampNeg), .int (xs (nI i + 2).toNatClampNeg), .int (xs (nI i + 3).toNatClampNeg)]) C okM_0 (M_X6_addUser l D tc adM (AW idsM adM) (xs (nI i + 1).toNatClampNeg) (xs (nI i + 2).toNatClampNeg) (xs (nI i + 3).toNatClampNeg) hG1) (cwV 3 C.1.2.2.2.2 gT_X6_addUser rfl rfl rfl (by decide +kernel) ⟨(Nat.le_of_ble_eq_true rfl), (Nat.le_of_ble_eq_true rfl)⟩) (ci := 6) rfl rfl rfl rfl (Nat.le_of_ble_eq_true rfl) (Nat.le_of_ble_eq_true rfl) (Nat.le_of_ble_eq_true rfl) dL_law_321 (fun r2 τ2 hr2 => ?_)
  obtain ⟨e2, h2⟩ := hr2
  subst e2
  refine L_icmp_eq (tgt := 1155) C dL_law_324 rfl (fun _ => ?_) (fun h => absurd rfl h)
  exact kk τ τ2 d1 f1 ds1 n1 t1 hI1 h1 h2
set_option maxHeartbeats 1000000 in
set_option maxRecDepth 100000 in
theorem O_setField (C : CL p s m #[Value.ref b] c D vwCl (tysX tc) A code 4 RL lw_tbl) (hX : va_X b L xs s s.heap) (hbl : b < s.heap.size) (hbA : ¬ A b) (hL : L ≤ 2560) (hi : i + 5 ≤ L) (hS : IS T d f ds n t) (hT : T + 48 ≤ 30000) (hWX : WX σ d f ds n t) (hWM : WM ρ d f ds n t) (kk : ∀ (σ ρ : Mem) (d : Dst) (f : Nat → Nat) (ds : Nat → Dst) (n : Nat) (t : Nat → Nat), IS (T + 48) d f ds n t → WX σ d f ds n t → WM ρ d f ds n t → GV p l e room_1 s m #[Value.ref b] below meth c D vwCl A Q 4 1155 [(3, .int (nI i)), (2, .ref (adM (0, 0, 0))), (1, .ref (adX (0, 0, 0))), (0, .ref b)] [] (wl idsX adX (ceX tc adX) σ ++ wl idsM adM (ceM tc adM) ρ) 134 2188) : GV p l e room_1 s m #[Value.ref b] below meth c D vwCl A Q 4 329 [(3, .int (nI i)), (2, .ref (adM (0, 0, 0))), (1, .ref (adX (0, 0, 0))), (0, .ref b)] [] (wl idsX adX (ceX tc adX) σ ++ wl idsM adM (ceM tc adM) ρ) 134 2188 := by
  obtain ⟨r, d1, f1, ds1, n1, t1, hI1, hF1, hG1⟩ := P_setField hS hT hWX hWM (xs (nI i + 1).toNatClampNeg) (xs (nI i + 2).toNatClampNeg) (xs (nI i + 3).toNatClampNeg) (xs (nI i + 4).toNatClampNeg)
  have v1 : vp_in (nI i + 1) L := vin5 hi hL (c := 1) (by decide)
  have v2 : vp_in (nI i + 2) L := vin5 hi hL (c := 2) (by decide)
  have v3 : vp_in (nI i + 3) L := vin5 hi hL (c := 3) (by decide)
  have v4 : vp_in (nI i + 4) L := vin5 hi hL (c := 4) (by decide)
  refine L_aload_n C dL_law_329 2 rfl ?_
  refine L_aload_n C dL_law_330 3 rfl ?_
  refine L_iload_n C dL_law_331 0 rfl ?_
  refine L_iconst (v := 1) C dL_law_332 ci_1 ?_
  refine L_iadd C dL_law_333 ?_
  refine L_sld C hX hbl hbA v1 dL_law_334 ?_
  refine L_aload_n C dL_law_335 3 rfl ?_
  refine L_iload_n C dL_law_336 0 rfl ?_
  refine L_iconst (v := 2) C dL_law_337 ci_2 ?_
  refine L_iadd C dL_law_338 ?_
  refine L_sld C hX hbl hbA v2 dL_law_339 ?_
  refine L_aload_n C dL_law_340 3 rfl ?_
  refine L_iload_n C dL_law_341 0 rfl ?_
  refine L_iconst (v := 3) C dL_law_342 ci_3 ?_
  refine L_iadd C dL_law_343 ?_
  refine L_sld C hX hbl hbA v3 dL_law_344 ?_
  refine L_aload_n C dL_law_345 3 rfl ?_
  refine L_iload_n C dL_law_346 0 rfl ?_
  refine L_iconst (v := 4) C dL_law_347 ci_4 ?_
  refine L_iadd C dL_law_348 ?_
  refine L_sld C hX hbl hbA v4 dL_law_349 ?_
  refine L_cXi (As := [.int (xs (nI i + 1).toNatClampNeg), .int (xs (nI i + 2).toNatClampNeg), .int (xs (nI i + 3).toNatClampNeg), .int (xs (nI i + 4).toNatClampNeg)]) C okX_0_0 (M_X5_setField l D tc adX (AW idsX adX) (xs (nI i + 1).toNatClampNeg) (xs (nI i + 2).toNatClampNeg) (xs (nI i + 3).toNatClampNeg) (xs (nI i + 4).toNatClampNeg) hF1) (cwV 4 C.1.2.2.2.2 gT_X5_setField rfl rfl rfl (by decide +kernel) ⟨(Nat.le_of_ble_eq_true rfl), (Nat.le_of_ble_eq_true rfl)⟩) (ci := 5) rfl rfl rfl rfl (Nat.le_of_ble_eq_true rfl) (Nat.le_of_ble_eq_true rfl) (Nat.le_of_ble_eq_true rfl) dL_law_350 (fun r1 τ hr1 => ?_)
  obtain ⟨e1, h1⟩ := hr1
  subst e1
  refine L_aload_n C dL_law_353 1 rfl ?_
  refine L_aload_n C dL_law_354 3 rfl ?_
  refine L_iload_n C dL_law_355 0 rfl ?_
  refine L_iconst (v := 1) C dL_law_356 ci_1 ?_
  refine L_iadd C dL_law_357 ?_
  refine L_sld C hX hbl hbA v1 dL_law_358 ?_
  refine L_aload_n C dL_law_359 3 rfl ?_
  refine L_iload_n C dL_law_360 0 rfl ?_
  refine L_iconst (v := 2) C dL_law_361 ci_2 ?_
  refine L_iadd C dL_law_362 ?_
  refine L_sld C hX hbl hbA v2 dL_law_363 ?_
  refine L_aload_n C dL_law_364 3 rfl ?_
  refine L_iload_n C dL_law_365 0 rfl ?_
  refine L_iconst (v := 3) C dL_law_366 ci_3 ?_
  refine L_iadd C dL_law_367 ?_
  refine L_sld C hX hbl hbA v3 dL_law_368 ?_
  refine L_aload_n C dL_law_369 3 rfl ?_
  refine L_iload_n C dL_law_370 0 rfl ?_
  refine L_iconst (v := 4) C dL_law_371 ci_4 ?_
  refine L_iadd C dL_law_372 ?_
  refine L_sld C hX hbl hbA v4 dL_law_373 ?_
  refine L_cMi (As := [.int (xs (nI i + 1).toNatClampNeg), .int (xs (nI i + 2).toNatClampNeg), .int (xs (nI i + 3).toNatClampNeg), .int (xs (nI i + 4).toNatClampNeg)]) C okM_0 (M_X6_setField l D tc adM (AW idsM adM) (xs (nI i + 1).toNatClampNeg) (xs (nI i + 2).toNatClampNeg) (xs (nI i + 3).toNatClampNeg) (xs (nI i + 4).toNatClampNeg) hG1) (cwV 4 C.1.2.2.2.2 gT_X6_setField rfl rfl rfl (by decide +kernel) ⟨(Nat.le_of_ble_eq_true rfl), (Nat.le_of_ble_eq_true rfl)⟩) (ci := 6) rfl rfl rfl rfl (Nat.le_of_ble_eq_true rfl) (Nat.le_of_ble_eq_true rfl) (Nat.le_of_ble_eq_true rfl) dL_law_374 (fun r2 τ2 hr2 => ?_)
  obtain ⟨e2, h2⟩ := hr2
  subst e2
  refine L_icmp_eq (tgt := 1155) C dL_law_377 rfl (fun _ => ?_) (fun h => absurd rfl h)
  exact kk τ τ2 d1 f1 ds1 n1 t1 hI1 h1 h2
set_option maxHeartbeats 1000000 in
set_option maxRecDepth 100000 in
theorem O_setPond (C : CL p s m #[Value.ref b] c D vwCl (tysX tc) A code 4 RL lw_tbl) (hX : va_X b L xs s s.heap) (hbl : b < s.heap.size) (hbA : ¬ A b) (hL : L ≤ 2560) (hi : i + 5 ≤ L) (hS : IS T d f ds n t) (hT : T + 48 ≤ 30000) (hWX : WX σ d f ds n t) (hWM : WM ρ d f ds n t) (kk : ∀ (σ ρ : Mem) (d : Dst) (f : Nat → Nat) (ds : Nat → Dst) (n : Nat) (t : Nat → Nat), IS (T + 48) d f ds n t → WX σ d f ds n t → WM ρ d f ds n t → GV p l e room_1 s m #[Value.ref b] below meth c D vwCl A Q 4 1155 [(3, .int (nI i)), (2, .ref (adM (0, 0, 0))), (1, .ref (adX (0, 0, 0))), (0, .ref b)] [] (wl idsX adX (ceX tc adX) σ ++ wl idsM adM (ceM tc adM) ρ) 134 2188) : GV p l e room_1 s m #[Value.ref b] below meth c D vwCl A Q 4 382 [(3, .int (nI i)), (2, .ref (adM (0, 0, 0))), (1, .ref (adX (0, 0, 0))), (0, .ref b)] [] (wl idsX adX (ceX tc adX) σ ++ wl idsM adM (ceM tc adM) ρ) 134 2188 := by
  obtain ⟨r, d1, f1, ds1, n1, t1, hI1, hF1, hG1⟩ := P_setPond hS hT hWX hWM (xs (nI i + 1).toNatClampNeg) (xs (nI i + 2).toNatClampNeg) (xs (nI i + 3).toNatClampNeg)
  have v1 : vp_in (nI i + 1) L := vin5 hi hL (c := 1) (by decide)
  have v2 : vp_in (nI i + 2) L := vin5 hi hL (c := 2) (by decide)
  have v3 : vp_in (nI i + 3) L := vin5 hi hL (c := 3) (by decide)
  refine L_aload_n C dL_law_382 2 rfl ?_
  refine L_aload_n C dL_law_383 3 rfl ?_
  refine L_iload_n C dL_law_384 0 rfl ?_
  refine L_iconst (v := 1) C dL_law_385 ci_1 ?_
  refine L_iadd C dL_law_386 ?_
  refine L_sld C hX hbl hbA v1 dL_law_387 ?_
  refine L_aload_n C dL_law_388 3 rfl ?_
  refine L_iload_n C dL_law_389 0 rfl ?_
  refine L_iconst (v := 2) C dL_law_390 ci_2 ?_
  refine L_iadd C dL_law_391 ?_
  refine L_sld C hX hbl hbA v2 dL_law_392 ?_
  refine L_aload_n C dL_law_393 3 rfl ?_
  refine L_iload_n C dL_law_394 0 rfl ?_
  refine L_iconst (v := 3) C dL_law_395 ci_3 ?_
  refine L_iadd C dL_law_396 ?_
  refine L_sld C hX hbl hbA v3 dL_law_397 ?_
  refine L_cXi (As := [.int (xs (nI i + 1).toNatClampNeg), .int (xs (nI i + 2).toNatClampNeg), .int (xs (nI i + 3).toNatClampNeg)]) C okX_0_0 (M_X5_setPond l D tc adX (AW idsX adX) (xs (nI i + 1).toNatClampNeg) (xs (nI i + 2).toNatClampNeg) (xs (nI i + 3).toNatClampNeg) hF1) (cwV 3 C.1.2.2.2.2 gT_X5_setPond rfl rfl rfl (by decide +kernel) ⟨(Nat.le_of_ble_eq_true rfl), (Nat.le_of_ble_eq_true rfl)⟩) (ci := 5) rfl rfl rfl rfl (Nat.le_of_ble_eq_true rfl) (Nat.le_of_ble_eq_true rfl) (Nat.le_of_ble_eq_true rfl) dL_law_398 (fun r1 τ hr1 => ?_)
  obtain ⟨e1, h1⟩ := hr1
  subst e1
  refine L_aload_n C dL_law_401 1 rfl ?_
  refine L_aload_n C dL_law_402 3 rfl ?_
  refine L_iload_n C dL_law_403 0 rfl ?_
  refine L_iconst (v := 1) C dL_law_404 ci_1 ?_
  refine L_iadd C dL_law_405 ?_
  refine L_sld C hX hbl hbA v1 dL_law_406 ?_
  refine L_aload_n C dL_law_407 3 rfl ?_
  refine L_iload_n C dL_law_408 0 rfl ?_
  refine L_iconst (v := 2) C dL_law_409 ci_2 ?_
  refine L_iadd C dL_law_410 ?_
  refine L_sld C hX hbl hbA v2 dL_law_411 ?_
  refine L_aload_n C dL_law_412 3 rfl ?_
  refine L_iload_n C dL_law_413 0 rfl ?_
  refine L_iconst (v := 3) C dL_law_414 ci_3 ?_
  refine L_iadd C dL_law_415 ?_
  refine L_sld C hX hbl hbA v3 dL_law_416 ?_
  refine L_cMi (As := [.int (xs (nI i + 1).toNatClampNeg), .int (xs (nI i + 2).toNatClampNeg), .int (xs (nI i + 3).toNatClampNeg)]) C okM_0 (M_X6_setPond l D tc adM (AW idsM adM) (xs (nI i + 1).toNatClampNeg) (xs (nI i + 2).toNatClampNeg) (xs (nI i + 3).toNatClampNeg) hG1) (cwV 3 C.1.2.2.2.2 gT_X6_setPond rfl rfl rfl (by decide +kernel) ⟨(Nat.le_of_ble_eq_true rfl), (Nat.le_of_ble_eq_true rfl)⟩) (ci := 6) rfl rfl rfl rfl (Nat.le_of_ble_eq_true rfl) (Nat.le_of_ble_eq_true rfl) (Nat.le_of_ble_eq_true rfl) dL_law_417 (fun r2 τ2 hr2 => ?_)
  obtain ⟨e2, h2⟩ := hr2
  subst e2
  refine L_icmp_eq (tgt := 1155) C dL_law_420 rfl (fun _ => ?_) (fun h => absurd rfl h)
  exact kk τ τ2 d1 f1 ds1 n1 t1 hI1 h1 h2
set_option maxHeartbeats 1000000 in
set_option maxRecDepth 100000 in
theorem O_setTurn (C : CL p s m #[Value.ref b] c D vwCl (tysX tc) A code 4 RL lw_tbl) (hX : va_X b L xs s s.heap) (hbl : b < s.heap.size) (hbA : ¬ A b) (hL : L ≤ 2560) (hi : i + 5 ≤ L) (hS : IS T d f ds n t) (hT : T + 48 ≤ 30000) (hWX : WX σ d f ds n t) (hWM : WM ρ d f ds n t) (kk : ∀ (σ ρ : Mem) (d : Dst) (f : Nat → Nat) (ds : Nat → Dst) (n : Nat) (t : Nat → Nat), IS (T + 48) d f ds n t → WX σ d f ds n t → WM ρ d f ds n t → GV p l e room_1 s m #[Value.ref b] below meth c D vwCl A Q 4 1155 [(3, .int (nI i)), (2, .ref (adM (0, 0, 0))), (1, .ref (adX (0, 0, 0))), (0, .ref b)] [] (wl idsX adX (ceX tc adX) σ ++ wl idsM adM (ceM tc adM) ρ) 134 2188) : GV p l e room_1 s m #[Value.ref b] below meth c D vwCl A Q 4 425 [(3, .int (nI i)), (2, .ref (adM (0, 0, 0))), (1, .ref (adX (0, 0, 0))), (0, .ref b)] [] (wl idsX adX (ceX tc adX) σ ++ wl idsM adM (ceM tc adM) ρ) 134 2188 := by
  obtain ⟨r, d1, f1, ds1, n1, t1, hI1, hF1, hG1⟩ := P_setTurn hS hT hWX hWM (xs (nI i + 1).toNatClampNeg) (xs (nI i + 2).toNatClampNeg)
  have v1 : vp_in (nI i + 1) L := vin5 hi hL (c := 1) (by decide)
  have v2 : vp_in (nI i + 2) L := vin5 hi hL (c := 2) (by decide)
  refine L_aload_n C dL_law_425 2 rfl ?_
  refine L_aload_n C dL_law_426 3 rfl ?_
  refine L_iload_n C dL_law_427 0 rfl ?_
  refine L_iconst (v := 1) C dL_law_428 ci_1 ?_
  refine L_iadd C dL_law_429 ?_
  refine L_sld C hX hbl hbA v1 dL_law_430 ?_
  refine L_aload_n C dL_law_431 3 rfl ?_
  refine L_iload_n C dL_law_432 0 rfl ?_
  refine L_iconst (v := 2) C dL_law_433 ci_2 ?_
  refine L_iadd C dL_law_434 ?_
  refine L_sld C hX hbl hbA v2 dL_law_435 ?_
  refine L_cXi (As := [.int (xs (nI i + 1).toNatClampNeg), .int (xs (nI i + 2).toNatClampNeg)]) C okX_0_0 (M_X5_setTurn l D tc adX (AW idsX adX) (xs (nI i + 1).toNatClampNeg) (xs (nI i + 2).toNatClampNeg) hF1) (cwV 2 C.1.2.2.2.2 gT_X5_setTurn rfl rfl rfl (by decide +kernel) ⟨(Nat.le_of_ble_eq_true rfl), (Nat.le_of_ble_eq_true rfl)⟩) (ci := 5) rfl rfl rfl rfl (Nat.le_of_ble_eq_true rfl) (Nat.le_of_ble_eq_true rfl) (Nat.le_of_ble_eq_true rfl) dL_law_436 (fun r1 τ hr1 => ?_)
  obtain ⟨e1, h1⟩ := hr1
  subst e1
  refine L_aload_n C dL_law_439 1 rfl ?_
  refine L_aload_n C dL_law_440 3 rfl ?_
  refine L_iload_n C dL_law_441 0 rfl ?_
  refine L_iconst (v := 1) C dL_law_442 ci_1 ?_
  refine L_iadd C dL_law_443 ?_
  refine L_sld C hX hbl hbA v1 dL_law_444 ?_
  refine L_aload_n C dL_law_445 3 rfl ?_
  refine L_iload_n C dL_law_446 0 rfl ?_
  refine L_iconst (v := 2) C dL_law_447 ci_2 ?_
  refine L_iadd C dL_law_448 ?_
  refine L_sld C hX hbl hbA v2 dL_law_449 ?_
  refine L_cMi (As := [.int (xs (nI i + 1).toNatClampNeg), .int (xs (nI i + 2).toNatClampNeg)]) C okM_0 (M_X6_setTurn l D tc adM (AW idsM adM) (xs (nI i + 1).toNatClampNeg) (xs (nI i + 2).toNatClampNeg) hG1) (cwV 2 C.1.2.2.2.2 gT_X6_setTurn rfl rfl rfl (by decide +kernel) ⟨(Nat.le_of_ble_eq_true rfl), (Nat.le_of_ble_eq_true rfl)⟩) (ci := 6) rfl rfl rfl rfl (Nat.le_of_ble_eq_true rfl) (Nat.le_of_ble_eq_true rfl) (Nat.le_of_ble_eq_true rfl) dL_law_450 (fun r2 τ2 hr2 => ?_)
  obtain ⟨e2, h2⟩ := hr2
  subst e2
  refine L_icmp_eq (tgt := 1155) C dL_law_453 rfl (fun _ => ?_) (fun h => absurd rfl h)
  exact kk τ τ2 d1 f1 ds1 n1 t1 hI1 h1 h2
set_option maxHeartbeats 1000000 in
set_option maxRecDepth 100000 in
theorem O_setSupply (C : CL p s m #[Value.ref b] c D vwCl (tysX tc) A code 4 RL lw_tbl) (hX : va_X b L xs s s.heap) (hbl : b < s.heap.size) (hbA : ¬ A b) (hL : L ≤ 2560) (hi : i + 5 ≤ L) (hS : IS T d f ds n t) (hT : T + 48 ≤ 30000) (hWX : WX σ d f ds n t) (hWM : WM ρ d f ds n t) (kk : ∀ (σ ρ : Mem) (d : Dst) (f : Nat → Nat) (ds : Nat → Dst) (n : Nat) (t : Nat → Nat), IS (T + 48) d f ds n t → WX σ d f ds n t → WM ρ d f ds n t → GV p l e room_1 s m #[Value.ref b] below meth c D vwCl A Q 4 1155 [(3, .int (nI i)), (2, .ref (adM (0, 0, 0))), (1, .ref (adX (0, 0, 0))), (0, .ref b)] [] (wl idsX adX (ceX tc adX) σ ++ wl idsM adM (ceM tc adM) ρ) 134 2188) : GV p l e room_1 s m #[Value.ref b] below meth c D vwCl A Q 4 458 [(3, .int (nI i)), (2, .ref (adM (0, 0, 0))), (1, .ref (adX (0, 0, 0))), (0, .ref b)] [] (wl idsX adX (ceX tc adX) σ ++ wl idsM adM (ceM tc adM) ρ) 134 2188 := by
  obtain ⟨r, d1, f1, ds1, n1, t1, hI1, hF1, hG1⟩ := P_setSupply hS hT hWX hWM (xs (nI i + 1).toNatClampNeg) (xs (nI i + 2).toNatClampNeg) (xs (nI i + 3).toNatClampNeg)
  have v1 : vp_in (nI i + 1) L := vin5 hi hL (c := 1) (by decide)
  have v2 : vp_in (nI i + 2) L := vin5 hi hL (c := 2) (by decide)
  have v3 : vp_in (nI i + 3) L := vin5 hi hL (c := 3) (by decide)
  refine L_aload_n C dL_law_458 2 rfl ?_
  refine L_aload_n C dL_law_459 3 rfl ?_
  refine L_iload_n C dL_law_460 0 rfl ?_
  refine L_iconst (v := 1) C dL_law_461 ci_1 ?_
  refine L_iadd C dL_law_462 ?_
  refine L_sld C hX hbl hbA v1 dL_law_463 ?_
  refine L_aload_n C dL_law_464 3 rfl ?_
  refine L_iload_n C dL_law_465 0 rfl ?_
  refine L_iconst (v := 2) C dL_law_466 ci_2 ?_
  refine L_iadd C dL_law_467 ?_
  refine L_sld C hX hbl hbA v2 dL_law_468 ?_
  refine L_aload_n C dL_law_469 3 rfl ?_
  refine L_iload_n C dL_law_470 0 rfl ?_
  refine L_iconst (v := 3) C dL_law_471 ci_3 ?_
  refine L_iadd C dL_law_472 ?_
  refine L_sld C hX hbl hbA v3 dL_law_473 ?_
  refine L_cXi (As := [.int (xs (nI i + 1).toNatClampNeg), .int (xs (nI i + 2).toNatClampNeg), .int (xs (nI i + 3).toNatClampNeg)]) C okX_0_0 (M_X5_setSupply l D tc adX (AW idsX adX) (xs (nI i + 1).toNatClampNeg) (xs (nI i + 2).toNatClampNeg) (xs (nI i + 3).toNatClampNeg) hF1) (cwV 3 C.1.2.2.2.2 gT_X5_setSupply rfl rfl rfl (by decide +kernel) ⟨(Nat.le_of_ble_eq_true rfl), (Nat.le_of_ble_eq_true rfl)⟩) (ci := 5) rfl rfl rfl rfl (Nat.le_of_ble_eq_true rfl) (Nat.le_of_ble_eq_true rfl) (Nat.le_of_ble_eq_true rfl) dL_law_474 (fun r1 τ hr1 => ?_)
  obtain ⟨e1, h1⟩ := hr1
  subst e1
  refine L_aload_n C dL_law_477 1 rfl ?_
  refine L_aload_n C dL_law_478 3 rfl ?_
  refine L_iload_n C dL_law_479 0 rfl ?_
  refine L_iconst (v := 1) C dL_law_480 ci_1 ?_
  refine L_iadd C dL_law_481 ?_
  refine L_sld C hX hbl hbA v1 dL_law_482 ?_
  refine L_aload_n C dL_law_483 3 rfl ?_
  refine L_iload_n C dL_law_484 0 rfl ?_
  refine L_iconst (v := 2) C dL_law_485 ci_2 ?_
  refine L_iadd C dL_law_486 ?_
  refine L_sld C hX hbl hbA v2 dL_law_487 ?_
  refine L_aload_n C dL_law_488 3 rfl ?_
  refine L_iload_n C dL_law_489 0 rfl ?_
  refine L_iconst (v := 3) C dL_law_490 ci_3 ?_
  refine L_iadd C dL_law_491 ?_
  refine L_sld C hX hbl hbA v3 dL_law_492 ?_
  refine L_cMi (As := [.int (xs (nI i + 1).toNatClampNeg), .int (xs (nI i + 2).toNatClampNeg), .int (xs (nI i + 3).toNatClampNeg)]) C okM_0 (M_X6_setSupply l D tc adM (AW idsM adM) (xs (nI i + 1).toNatClampNeg) (xs (nI i + 2).toNatClampNeg) (xs (nI i + 3).toNatClampNeg) hG1) (cwV 3 C.1.2.2.2.2 gT_X6_setSupply rfl rfl rfl (by decide +kernel) ⟨(Nat.le_of_ble_eq_true rfl), (Nat.le_of_ble_eq_true rfl)⟩) (ci := 6) rfl rfl rfl rfl (Nat.le_of_ble_eq_true rfl) (Nat.le_of_ble_eq_true rfl) (Nat.le_of_ble_eq_true rfl) dL_law_493 (fun r2 τ2 hr2 => ?_)
  obtain ⟨e2, h2⟩ := hr2
  subst e2
  refine L_icmp_eq (tgt := 1155) C dL_law_496 rfl (fun _ => ?_) (fun h => absurd rfl h)
  exact kk τ τ2 d1 f1 ds1 n1 t1 hI1 h1 h2
set_option maxHeartbeats 1000000 in
set_option maxRecDepth 100000 in
theorem O_setRule (C : CL p s m #[Value.ref b] c D vwCl (tysX tc) A code 4 RL lw_tbl) (hX : va_X b L xs s s.heap) (hbl : b < s.heap.size) (hbA : ¬ A b) (hL : L ≤ 2560) (hi : i + 5 ≤ L) (hS : IS T d f ds n t) (hT : T + 48 ≤ 30000) (hWX : WX σ d f ds n t) (hWM : WM ρ d f ds n t) (kk : ∀ (σ ρ : Mem) (d : Dst) (f : Nat → Nat) (ds : Nat → Dst) (n : Nat) (t : Nat → Nat), IS (T + 48) d f ds n t → WX σ d f ds n t → WM ρ d f ds n t → GV p l e room_1 s m #[Value.ref b] below meth c D vwCl A Q 4 1155 [(3, .int (nI i)), (2, .ref (adM (0, 0, 0))), (1, .ref (adX (0, 0, 0))), (0, .ref b)] [] (wl idsX adX (ceX tc adX) σ ++ wl idsM adM (ceM tc adM) ρ) 134 2188) : GV p l e room_1 s m #[Value.ref b] below meth c D vwCl A Q 4 501 [(3, .int (nI i)), (2, .ref (adM (0, 0, 0))), (1, .ref (adX (0, 0, 0))), (0, .ref b)] [] (wl idsX adX (ceX tc adX) σ ++ wl idsM adM (ceM tc adM) ρ) 134 2188 := by
  obtain ⟨r, d1, f1, ds1, n1, t1, hI1, hF1, hG1⟩ := P_setRule hS hT hWX hWM (xs (nI i + 1).toNatClampNeg)
  have v1 : vp_in (nI i + 1) L := vin5 hi hL (c := 1) (by decide)
  refine L_aload_n C dL_law_501 2 rfl ?_
  refine L_aload_n C dL_law_502 3 rfl ?_
  refine L_iload_n C dL_law_503 0 rfl ?_
  refine L_iconst (v := 1) C dL_law_504 ci_1 ?_
  refine L_iadd C dL_law_505 ?_
  refine L_sld C hX hbl hbA v1 dL_law_506 ?_
  refine L_cXi (As := [.int (xs (nI i + 1).toNatClampNeg)]) C okX_0_0 (M_X5_setRule l D tc adX (AW idsX adX) (xs (nI i + 1).toNatClampNeg) hF1) (cwV 1 C.1.2.2.2.2 gT_X5_setRule rfl rfl rfl (by decide +kernel) ⟨(Nat.le_of_ble_eq_true rfl), (Nat.le_of_ble_eq_true rfl)⟩) (ci := 5) rfl rfl rfl rfl (Nat.le_of_ble_eq_true rfl) (Nat.le_of_ble_eq_true rfl) (Nat.le_of_ble_eq_true rfl) dL_law_507 (fun r1 τ hr1 => ?_)
  obtain ⟨e1, h1⟩ := hr1
  subst e1
  refine L_aload_n C dL_law_510 1 rfl ?_
  refine L_aload_n C dL_law_511 3 rfl ?_
  refine L_iload_n C dL_law_512 0 rfl ?_
  refine L_iconst (v := 1) C dL_law_513 ci_1 ?_
  refine L_iadd C dL_law_514 ?_
  refine L_sld C hX hbl hbA v1 dL_law_515 ?_
  refine L_cMi (As := [.int (xs (nI i + 1).toNatClampNeg)]) C okM_0 (M_X6_setRule l D tc adM (AW idsM adM) (xs (nI i + 1).toNatClampNeg) hG1) (cwV 1 C.1.2.2.2.2 gT_X6_setRule rfl rfl rfl (by decide +kernel) ⟨(Nat.le_of_ble_eq_true rfl), (Nat.le_of_ble_eq_true rfl)⟩) (ci := 6) rfl rfl rfl rfl (Nat.le_of_ble_eq_true rfl) (Nat.le_of_ble_eq_true rfl) (Nat.le_of_ble_eq_true rfl) dL_law_516 (fun r2 τ2 hr2 => ?_)
  obtain ⟨e2, h2⟩ := hr2
  subst e2
  refine L_icmp_eq (tgt := 1155) C dL_law_519 rfl (fun _ => ?_) (fun h => absurd rfl h)
  exact kk τ τ2 d1 f1 ds1 n1 t1 hI1 h1 h2
set_option maxHeartbeats 1000000 in
set_option maxRecDepth 100000 in
theorem O_setFutile (C : CL p s m #[Value.ref b] c D vwCl (tysX tc) A code 4 RL lw_tbl) (hX : va_X b L xs s s.heap) (hbl : b < s.heap.size) (hbA : ¬ A b) (hL : L ≤ 2560) (hi : i + 5 ≤ L) (hS : IS T d f ds n t) (hT : T + 48 ≤ 30000) (hWX : WX σ d f ds n t) (hWM : WM ρ d f ds n t) (kk : ∀ (σ ρ : Mem) (d : Dst) (f : Nat → Nat) (ds : Nat → Dst) (n : Nat) (t : Nat → Nat), IS (T + 48) d f ds n t → WX σ d f ds n t → WM ρ d f ds n t → GV p l e room_1 s m #[Value.ref b] below meth c D vwCl A Q 4 1155 [(3, .int (nI i)), (2, .ref (adM (0, 0, 0))), (1, .ref (adX (0, 0, 0))), (0, .ref b)] [] (wl idsX adX (ceX tc adX) σ ++ wl idsM adM (ceM tc adM) ρ) 134 2188) : GV p l e room_1 s m #[Value.ref b] below meth c D vwCl A Q 4 524 [(3, .int (nI i)), (2, .ref (adM (0, 0, 0))), (1, .ref (adX (0, 0, 0))), (0, .ref b)] [] (wl idsX adX (ceX tc adX) σ ++ wl idsM adM (ceM tc adM) ρ) 134 2188 := by
  obtain ⟨r, d1, f1, ds1, n1, t1, hI1, hF1, hG1⟩ := P_setFutile hS hT hWX hWM (xs (nI i + 1).toNatClampNeg)
  have v1 : vp_in (nI i + 1) L := vin5 hi hL (c := 1) (by decide)
  refine L_aload_n C dL_law_524 2 rfl ?_
  refine L_aload_n C dL_law_525 3 rfl ?_
  refine L_iload_n C dL_law_526 0 rfl ?_
  refine L_iconst (v := 1) C dL_law_527 ci_1 ?_
  refine L_iadd C dL_law_528 ?_
  refine L_sld C hX hbl hbA v1 dL_law_529 ?_
  refine L_cXi (As := [.int (xs (nI i + 1).toNatClampNeg)]) C okX_0_0 (M_X5_setFutile l D tc adX (AW idsX adX) (xs (nI i + 1).toNatClampNeg) hF1) (cwV 1 C.1.2.2.2.2 gT_X5_setFutile rfl rfl rfl (by decide +kernel) ⟨(Nat.le_of_ble_eq_true rfl), (Nat.le_of_ble_eq_true rfl)⟩) (ci := 5) rfl rfl rfl rfl (Nat.le_of_ble_eq_true rfl) (Nat.le_of_ble_eq_true rfl) (Nat.le_of_ble_eq_true rfl) dL_law_530 (fun r1 τ hr1 => ?_)
  obtain ⟨e1, h1⟩ := hr1
  subst e1
  refine L_aload_n C dL_law_533 1 rfl ?_
  refine L_aload_n C dL_law_534 3 rfl ?_
  refine L_iload_n C dL_law_535 0 rfl ?_
  refine L_iconst (v := 1) C dL_law_536 ci_1 ?_
  refine L_iadd C dL_law_537 ?_
  refine L_sld C hX hbl hbA v1 dL_law_538 ?_
  refine L_cMi (As := [.int (xs (nI i + 1).toNatClampNeg)]) C okM_0 (M_X6_setFutile l D tc adM (AW idsM adM) (xs (nI i + 1).toNatClampNeg) hG1) (cwV 1 C.1.2.2.2.2 gT_X6_setFutile rfl rfl rfl (by decide +kernel) ⟨(Nat.le_of_ble_eq_true rfl), (Nat.le_of_ble_eq_true rfl)⟩) (ci := 6) rfl rfl rfl rfl (Nat.le_of_ble_eq_true rfl) (Nat.le_of_ble_eq_true rfl) (Nat.le_of_ble_eq_true rfl) dL_law_539 (fun r2 τ2 hr2 => ?_)
  obtain ⟨e2, h2⟩ := hr2
  subst e2
  refine L_icmp_eq (tgt := 1155) C dL_law_542 rfl (fun _ => ?_) (fun h => absurd rfl h)
  exact kk τ τ2 d1 f1 ds1 n1 t1 hI1 h1 h2
set_option maxHeartbeats 1000000 in
set_option maxRecDepth 100000 in
theorem O_ditches (C : CL p s m #[Value.ref b] c D vwCl (tysX tc) A code 4 RL lw_tbl) (hX : va_X b L xs s s.heap) (hbl : b < s.heap.size) (hbA : ¬ A b) (hL : L ≤ 2560) (hi : i + 5 ≤ L) (hS : IS T d f ds n t) (hT : T + 48 ≤ 30000) (hWX : WX σ d f ds n t) (hWM : WM ρ d f ds n t) (kk : ∀ (σ ρ : Mem) (d : Dst) (f : Nat → Nat) (ds : Nat → Dst) (n : Nat) (t : Nat → Nat), IS (T + 48) d f ds n t → WX σ d f ds n t → WM ρ d f ds n t → GV p l e room_1 s m #[Value.ref b] below meth c D vwCl A Q 4 1155 [(3, .int (nI i)), (2, .ref (adM (0, 0, 0))), (1, .ref (adX (0, 0, 0))), (0, .ref b)] [] (wl idsX adX (ceX tc adX) σ ++ wl idsM adM (ceM tc adM) ρ) 134 2188) : GV p l e room_1 s m #[Value.ref b] below meth c D vwCl A Q 4 547 [(3, .int (nI i)), (2, .ref (adM (0, 0, 0))), (1, .ref (adX (0, 0, 0))), (0, .ref b)] [] (wl idsX adX (ceX tc adX) σ ++ wl idsM adM (ceM tc adM) ρ) 134 2188 := by
  obtain ⟨r, d1, f1, ds1, n1, t1, hI1, hF1, hG1⟩ := P_ditches hS hT hWX hWM 
  refine L_aload_n C dL_law_547 2 rfl ?_
  refine L_cXi (As := []) C okX_0_0 (M_X5_ditches l D tc adX (AW idsX adX)  hF1) (cwV 0 C.1.2.2.2.2 gT_X5_ditches rfl rfl rfl (by decide +kernel) ⟨(Nat.le_of_ble_eq_true rfl), (Nat.le_of_ble_eq_true rfl)⟩) (ci := 5) rfl rfl rfl rfl (Nat.le_of_ble_eq_true rfl) (Nat.le_of_ble_eq_true rfl) (Nat.le_of_ble_eq_true rfl) dL_law_548 (fun r1 τ hr1 => ?_)
  obtain ⟨e1, h1⟩ := hr1
  subst e1
  refine L_aload_n C dL_law_551 1 rfl ?_
  refine L_cMi (As := []) C okM_0 (M_X6_ditches l D tc adM (AW idsM adM)  hG1) (cwV 0 C.1.2.2.2.2 gT_X6_ditches rfl rfl rfl (by decide +kernel) ⟨(Nat.le_of_ble_eq_true rfl), (Nat.le_of_ble_eq_true rfl)⟩) (ci := 6) rfl rfl rfl rfl (Nat.le_of_ble_eq_true rfl) (Nat.le_of_ble_eq_true rfl) (Nat.le_of_ble_eq_true rfl) dL_law_552 (fun r2 τ2 hr2 => ?_)
  obtain ⟨e2, h2⟩ := hr2
  subst e2
  refine L_icmp_eq (tgt := 1155) C dL_law_555 rfl (fun _ => ?_) (fun h => absurd rfl h)
  exact kk τ τ2 d1 f1 ds1 n1 t1 hI1 h1 h2
set_option maxHeartbeats 1000000 in
set_option maxRecDepth 100000 in
theorem O_users (C : CL p s m #[Value.ref b] c D vwCl (tysX tc) A code 4 RL lw_tbl) (hX : va_X b L xs s s.heap) (hbl : b < s.heap.size) (hbA : ¬ A b) (hL : L ≤ 2560) (hi : i + 5 ≤ L) (hS : IS T d f ds n t) (hT : T + 48 ≤ 30000) (hWX : WX σ d f ds n t) (hWM : WM ρ d f ds n t) (kk : ∀ (σ ρ : Mem) (d : Dst) (f : Nat → Nat) (ds : Nat → Dst) (n : Nat) (t : Nat → Nat), IS (T + 48) d f ds n t → WX σ d f ds n t → WM ρ d f ds n t → GV p l e room_1 s m #[Value.ref b] below meth c D vwCl A Q 4 1155 [(3, .int (nI i)), (2, .ref (adM (0, 0, 0))), (1, .ref (adX (0, 0, 0))), (0, .ref b)] [] (wl idsX adX (ceX tc adX) σ ++ wl idsM adM (ceM tc adM) ρ) 134 2188) : GV p l e room_1 s m #[Value.ref b] below meth c D vwCl A Q 4 560 [(3, .int (nI i)), (2, .ref (adM (0, 0, 0))), (1, .ref (adX (0, 0, 0))), (0, .ref b)] [] (wl idsX adX (ceX tc adX) σ ++ wl idsM adM (ceM tc adM) ρ) 134 2188 := by
  obtain ⟨r, d1, f1, ds1, n1, t1, hI1, hF1, hG1⟩ := P_users hS hT hWX hWM 
  refine L_aload_n C dL_law_560 2 rfl ?_
  refine L_cXi (As := []) C okX_0_0 (M_X5_users l D tc adX (AW idsX adX)  hF1) (cwV 0 C.1.2.2.2.2 gT_X5_users rfl rfl rfl (by decide +kernel) ⟨(Nat.le_of_ble_eq_true rfl), (Nat.le_of_ble_eq_true rfl)⟩) (ci := 5) rfl rfl rfl rfl (Nat.le_of_ble_eq_true rfl) (Nat.le_of_ble_eq_true rfl) (Nat.le_of_ble_eq_true rfl) dL_law_561 (fun r1 τ hr1 => ?_)
  obtain ⟨e1, h1⟩ := hr1
  subst e1
  refine L_aload_n C dL_law_564 1 rfl ?_
  refine L_cMi (As := []) C okM_0 (M_X6_users l D tc adM (AW idsM adM)  hG1) (cwV 0 C.1.2.2.2.2 gT_X6_users rfl rfl rfl (by decide +kernel) ⟨(Nat.le_of_ble_eq_true rfl), (Nat.le_of_ble_eq_true rfl)⟩) (ci := 6) rfl rfl rfl rfl (Nat.le_of_ble_eq_true rfl) (Nat.le_of_ble_eq_true rfl) (Nat.le_of_ble_eq_true rfl) dL_law_565 (fun r2 τ2 hr2 => ?_)
  obtain ⟨e2, h2⟩ := hr2
  subst e2
  refine L_icmp_eq (tgt := 1155) C dL_law_568 rfl (fun _ => ?_) (fun h => absurd rfl h)
  exact kk τ τ2 d1 f1 ds1 n1 t1 hI1 h1 h2
set_option maxHeartbeats 1000000 in
set_option maxRecDepth 100000 in
theorem O_userByAge (C : CL p s m #[Value.ref b] c D vwCl (tysX tc) A code 4 RL lw_tbl) (hX : va_X b L xs s s.heap) (hbl : b < s.heap.size) (hbA : ¬ A b) (hL : L ≤ 2560) (hi : i + 5 ≤ L) (hS : IS T d f ds n t) (hT : T + 48 ≤ 30000) (hWX : WX σ d f ds n t) (hWM : WM ρ d f ds n t) (kk : ∀ (σ ρ : Mem) (d : Dst) (f : Nat → Nat) (ds : Nat → Dst) (n : Nat) (t : Nat → Nat), IS (T + 48) d f ds n t → WX σ d f ds n t → WM ρ d f ds n t → GV p l e room_1 s m #[Value.ref b] below meth c D vwCl A Q 4 1155 [(3, .int (nI i)), (2, .ref (adM (0, 0, 0))), (1, .ref (adX (0, 0, 0))), (0, .ref b)] [] (wl idsX adX (ceX tc adX) σ ++ wl idsM adM (ceM tc adM) ρ) 134 2188) : GV p l e room_1 s m #[Value.ref b] below meth c D vwCl A Q 4 573 [(3, .int (nI i)), (2, .ref (adM (0, 0, 0))), (1, .ref (adX (0, 0, 0))), (0, .ref b)] [] (wl idsX adX (ceX tc adX) σ ++ wl idsM adM (ceM tc adM) ρ) 134 2188 := by
  obtain ⟨r, d1, f1, ds1, n1, t1, hI1, hF1, hG1⟩ := P_userByAge hS hT hWX hWM (xs (nI i + 1).toNatClampNeg)
  have v1 : vp_in (nI i + 1) L := vin5 hi hL (c := 1) (by decide)
  refine L_aload_n C dL_law_573 2 rfl ?_
  refine L_aload_n C dL_law_574 3 rfl ?_
  refine L_iload_n C dL_law_575 0 rfl ?_
  refine L_iconst (v := 1) C dL_law_576 ci_1 ?_
  refine L_iadd C dL_law_577 ?_
  refine L_sld C hX hbl hbA v1 dL_law_578 ?_
  refine L_cXi (As := [.int (xs (nI i + 1).toNatClampNeg)]) C okX_0_0 (M_X5_userByAge l D tc adX (AW idsX adX) (xs (nI i + 1).toNatClampNeg) hF1) (cwV 1 C.1.2.2.2.2 gT_X5_userByAge rfl rfl rfl (by decide +kernel) ⟨(Nat.le_of_ble_eq_true rfl), (Nat.le_of_ble_eq_true rfl)⟩) (ci := 5) rfl rfl rfl rfl (Nat.le_of_ble_eq_true rfl) (Nat.le_of_ble_eq_true rfl) (Nat.le_of_ble_eq_true rfl) dL_law_579 (fun r1 τ hr1 => ?_)
  obtain ⟨e1, h1⟩ := hr1
  subst e1
  refine L_aload_n C dL_law_582 1 rfl ?_
  refine L_aload_n C dL_law_583 3 rfl ?_
  refine L_iload_n C dL_law_584 0 rfl ?_
  refine L_iconst (v := 1) C dL_law_585 ci_1 ?_
  refine L_iadd C dL_law_586 ?_
  refine L_sld C hX hbl hbA v1 dL_law_587 ?_
  refine L_cMi (As := [.int (xs (nI i + 1).toNatClampNeg)]) C okM_0 (M_X6_userByAge l D tc adM (AW idsM adM) (xs (nI i + 1).toNatClampNeg) hG1) (cwV 1 C.1.2.2.2.2 gT_X6_userByAge rfl rfl rfl (by decide +kernel) ⟨(Nat.le_of_ble_eq_true rfl), (Nat.le_of_ble_eq_true rfl)⟩) (ci := 6) rfl rfl rfl rfl (Nat.le_of_ble_eq_true rfl) (Nat.le_of_ble_eq_true rfl) (Nat.le_of_ble_eq_true rfl) dL_law_588 (fun r2 τ2 hr2 => ?_)
  obtain ⟨e2, h2⟩ := hr2
  subst e2
  refine L_icmp_eq (tgt := 1155) C dL_law_591 rfl (fun _ => ?_) (fun h => absurd rfl h)
  exact kk τ τ2 d1 f1 ds1 n1 t1 hI1 h1 h2
set_option maxHeartbeats 1000000 in
set_option maxRecDepth 100000 in
theorem O_time (C : CL p s m #[Value.ref b] c D vwCl (tysX tc) A code 4 RL lw_tbl) (hX : va_X b L xs s s.heap) (hbl : b < s.heap.size) (hbA : ¬ A b) (hL : L ≤ 2560) (hi : i + 5 ≤ L) (hS : IS T d f ds n t) (hT : T + 48 ≤ 30000) (hWX : WX σ d f ds n t) (hWM : WM ρ d f ds n t) (kk : ∀ (σ ρ : Mem) (d : Dst) (f : Nat → Nat) (ds : Nat → Dst) (n : Nat) (t : Nat → Nat), IS (T + 48) d f ds n t → WX σ d f ds n t → WM ρ d f ds n t → GV p l e room_1 s m #[Value.ref b] below meth c D vwCl A Q 4 1155 [(3, .int (nI i)), (2, .ref (adM (0, 0, 0))), (1, .ref (adX (0, 0, 0))), (0, .ref b)] [] (wl idsX adX (ceX tc adX) σ ++ wl idsM adM (ceM tc adM) ρ) 134 2188) : GV p l e room_1 s m #[Value.ref b] below meth c D vwCl A Q 4 596 [(3, .int (nI i)), (2, .ref (adM (0, 0, 0))), (1, .ref (adX (0, 0, 0))), (0, .ref b)] [] (wl idsX adX (ceX tc adX) σ ++ wl idsM adM (ceM tc adM) ρ) 134 2188 := by
  obtain ⟨r, d1, f1, ds1, n1, t1, hI1, hF1, hG1⟩ := P_time hS hT hWX hWM 
  refine L_aload_n C dL_law_596 2 rfl ?_
  refine L_cXi (As := []) C okX_0_0 (M_X5_time l D tc adX (AW idsX adX)  hF1) (cwV 0 C.1.2.2.2.2 gT_X5_time rfl rfl rfl (by decide +kernel) ⟨(Nat.le_of_ble_eq_true rfl), (Nat.le_of_ble_eq_true rfl)⟩) (ci := 5) rfl rfl rfl rfl (Nat.le_of_ble_eq_true rfl) (Nat.le_of_ble_eq_true rfl) (Nat.le_of_ble_eq_true rfl) dL_law_597 (fun r1 τ hr1 => ?_)
  obtain ⟨e1, h1⟩ := hr1
  subst e1
  refine L_aload_n C dL_law_600 1 rfl ?_
  refine L_cMi (As := []) C okM_0 (M_X6_time l D tc adM (AW idsM adM)  hG1) (cwV 0 C.1.2.2.2.2 gT_X6_time rfl rfl rfl (by decide +kernel) ⟨(Nat.le_of_ble_eq_true rfl), (Nat.le_of_ble_eq_true rfl)⟩) (ci := 6) rfl rfl rfl rfl (Nat.le_of_ble_eq_true rfl) (Nat.le_of_ble_eq_true rfl) (Nat.le_of_ble_eq_true rfl) dL_law_601 (fun r2 τ2 hr2 => ?_)
  obtain ⟨e2, h2⟩ := hr2
  subst e2
  refine L_icmp_eq (tgt := 1155) C dL_law_604 rfl (fun _ => ?_) (fun h => absurd rfl h)
  exact kk τ τ2 d1 f1 ds1 n1 t1 hI1 h1 h2
set_option maxHeartbeats 1000000 in
set_option maxRecDepth 100000 in
theorem O_asks (C : CL p s m #[Value.ref b] c D vwCl (tysX tc) A code 4 RL lw_tbl) (hX : va_X b L xs s s.heap) (hbl : b < s.heap.size) (hbA : ¬ A b) (hL : L ≤ 2560) (hi : i + 5 ≤ L) (hS : IS T d f ds n t) (hT : T + 48 ≤ 30000) (hWX : WX σ d f ds n t) (hWM : WM ρ d f ds n t) (kk : ∀ (σ ρ : Mem) (d : Dst) (f : Nat → Nat) (ds : Nat → Dst) (n : Nat) (t : Nat → Nat), IS (T + 48) d f ds n t → WX σ d f ds n t → WM ρ d f ds n t → GV p l e room_1 s m #[Value.ref b] below meth c D vwCl A Q 4 1155 [(3, .int (nI i)), (2, .ref (adM (0, 0, 0))), (1, .ref (adX (0, 0, 0))), (0, .ref b)] [] (wl idsX adX (ceX tc adX) σ ++ wl idsM adM (ceM tc adM) ρ) 134 2188) : GV p l e room_1 s m #[Value.ref b] below meth c D vwCl A Q 4 609 [(3, .int (nI i)), (2, .ref (adM (0, 0, 0))), (1, .ref (adX (0, 0, 0))), (0, .ref b)] [] (wl idsX adX (ceX tc adX) σ ++ wl idsM adM (ceM tc adM) ρ) 134 2188 := by
  obtain ⟨r, d1, f1, ds1, n1, t1, hI1, hF1, hG1⟩ := P_asks hS hT hWX hWM (xs (nI i + 1).toNatClampNeg)
  have v1 : vp_in (nI i + 1) L := vin5 hi hL (c := 1) (by decide)
  refine L_aload_n C dL_law_609 2 rfl ?_
  refine L_aload_n C dL_law_610 3 rfl ?_
  refine L_iload_n C dL_law_611 0 rfl ?_
  refine L_iconst (v := 1) C dL_law_612 ci_1 ?_
  refine L_iadd C dL_law_613 ?_
  refine L_sld C hX hbl hbA v1 dL_law_614 ?_
  refine L_cXi (As := [.int (xs (nI i + 1).toNatClampNeg)]) C okX_0_0 (M_X5_asks l D tc adX (AW idsX adX) (xs (nI i + 1).toNatClampNeg) hF1) (cwV 1 C.1.2.2.2.2 gT_X5_asks rfl rfl rfl (by decide +kernel) ⟨(Nat.le_of_ble_eq_true rfl), (Nat.le_of_ble_eq_true rfl)⟩) (ci := 5) rfl rfl rfl rfl (Nat.le_of_ble_eq_true rfl) (Nat.le_of_ble_eq_true rfl) (Nat.le_of_ble_eq_true rfl) dL_law_615 (fun r1 τ hr1 => ?_)
  obtain ⟨e1, h1⟩ := hr1
  subst e1
  refine L_aload_n C dL_law_618 1 rfl ?_
  refine L_aload_n C dL_law_619 3 rfl ?_
  refine L_iload_n C dL_law_620 0 rfl ?_
  refine L_iconst (v := 1) C dL_law_621 ci_1 ?_
  refine L_iadd C dL_law_622 ?_
  refine L_sld C hX hbl hbA v1 dL_law_623 ?_
  refine L_cMi (As := [.int (xs (nI i + 1).toNatClampNeg)]) C okM_0 (M_X6_asks l D tc adM (AW idsM adM) (xs (nI i + 1).toNatClampNeg) hG1) (cwV 1 C.1.2.2.2.2 gT_X6_asks rfl rfl rfl (by decide +kernel) ⟨(Nat.le_of_ble_eq_true rfl), (Nat.le_of_ble_eq_true rfl)⟩) (ci := 6) rfl rfl rfl rfl (Nat.le_of_ble_eq_true rfl) (Nat.le_of_ble_eq_true rfl) (Nat.le_of_ble_eq_true rfl) dL_law_624 (fun r2 τ2 hr2 => ?_)
  obtain ⟨e2, h2⟩ := hr2
  subst e2
  refine L_icmp_eq (tgt := 1155) C dL_law_627 rfl (fun _ => ?_) (fun h => absurd rfl h)
  exact kk τ τ2 d1 f1 ds1 n1 t1 hI1 h1 h2
set_option maxHeartbeats 1000000 in
set_option maxRecDepth 100000 in
theorem O_gets (C : CL p s m #[Value.ref b] c D vwCl (tysX tc) A code 4 RL lw_tbl) (hX : va_X b L xs s s.heap) (hbl : b < s.heap.size) (hbA : ¬ A b) (hL : L ≤ 2560) (hi : i + 5 ≤ L) (hS : IS T d f ds n t) (hT : T + 48 ≤ 30000) (hWX : WX σ d f ds n t) (hWM : WM ρ d f ds n t) (kk : ∀ (σ ρ : Mem) (d : Dst) (f : Nat → Nat) (ds : Nat → Dst) (n : Nat) (t : Nat → Nat), IS (T + 48) d f ds n t → WX σ d f ds n t → WM ρ d f ds n t → GV p l e room_1 s m #[Value.ref b] below meth c D vwCl A Q 4 1155 [(3, .int (nI i)), (2, .ref (adM (0, 0, 0))), (1, .ref (adX (0, 0, 0))), (0, .ref b)] [] (wl idsX adX (ceX tc adX) σ ++ wl idsM adM (ceM tc adM) ρ) 134 2188) : GV p l e room_1 s m #[Value.ref b] below meth c D vwCl A Q 4 632 [(3, .int (nI i)), (2, .ref (adM (0, 0, 0))), (1, .ref (adX (0, 0, 0))), (0, .ref b)] [] (wl idsX adX (ceX tc adX) σ ++ wl idsM adM (ceM tc adM) ρ) 134 2188 := by
  obtain ⟨r, d1, f1, ds1, n1, t1, hI1, hF1, hG1⟩ := P_gets hS hT hWX hWM (xs (nI i + 1).toNatClampNeg)
  have v1 : vp_in (nI i + 1) L := vin5 hi hL (c := 1) (by decide)
  refine L_aload_n C dL_law_632 2 rfl ?_
  refine L_aload_n C dL_law_633 3 rfl ?_
  refine L_iload_n C dL_law_634 0 rfl ?_
  refine L_iconst (v := 1) C dL_law_635 ci_1 ?_
  refine L_iadd C dL_law_636 ?_
  refine L_sld C hX hbl hbA v1 dL_law_637 ?_
  refine L_cXi (As := [.int (xs (nI i + 1).toNatClampNeg)]) C okX_0_0 (M_X5_gets l D tc adX (AW idsX adX) (xs (nI i + 1).toNatClampNeg) hF1) (cwV 1 C.1.2.2.2.2 gT_X5_gets rfl rfl rfl (by decide +kernel) ⟨(Nat.le_of_ble_eq_true rfl), (Nat.le_of_ble_eq_true rfl)⟩) (ci := 5) rfl rfl rfl rfl (Nat.le_of_ble_eq_true rfl) (Nat.le_of_ble_eq_true rfl) (Nat.le_of_ble_eq_true rfl) dL_law_638 (fun r1 τ hr1 => ?_)
  obtain ⟨e1, h1⟩ := hr1
  subst e1
  refine L_aload_n C dL_law_641 1 rfl ?_
  refine L_aload_n C dL_law_642 3 rfl ?_
  refine L_iload_n C dL_law_643 0 rfl ?_
  refine L_iconst (v := 1) C dL_law_644 ci_1 ?_
  refine L_iadd C dL_law_645 ?_
  refine L_sld C hX hbl hbA v1 dL_law_646 ?_
  refine L_cMi (As := [.int (xs (nI i + 1).toNatClampNeg)]) C okM_0 (M_X6_gets l D tc adM (AW idsM adM) (xs (nI i + 1).toNatClampNeg) hG1) (cwV 1 C.1.2.2.2.2 gT_X6_gets rfl rfl rfl (by decide +kernel) ⟨(Nat.le_of_ble_eq_true rfl), (Nat.le_of_ble_eq_true rfl)⟩) (ci := 6) rfl rfl rfl rfl (Nat.le_of_ble_eq_true rfl) (Nat.le_of_ble_eq_true rfl) (Nat.le_of_ble_eq_true rfl) dL_law_647 (fun r2 τ2 hr2 => ?_)
  obtain ⟨e2, h2⟩ := hr2
  subst e2
  refine L_icmp_eq (tgt := 1155) C dL_law_650 rfl (fun _ => ?_) (fun h => absurd rfl h)
  exact kk τ τ2 d1 f1 ds1 n1 t1 hI1 h1 h2
set_option maxHeartbeats 1000000 in
set_option maxRecDepth 100000 in
theorem O_inflow (C : CL p s m #[Value.ref b] c D vwCl (tysX tc) A code 4 RL lw_tbl) (hX : va_X b L xs s s.heap) (hbl : b < s.heap.size) (hbA : ¬ A b) (hL : L ≤ 2560) (hi : i + 5 ≤ L) (hS : IS T d f ds n t) (hT : T + 48 ≤ 30000) (hWX : WX σ d f ds n t) (hWM : WM ρ d f ds n t) (kk : ∀ (σ ρ : Mem) (d : Dst) (f : Nat → Nat) (ds : Nat → Dst) (n : Nat) (t : Nat → Nat), IS (T + 48) d f ds n t → WX σ d f ds n t → WM ρ d f ds n t → GV p l e room_1 s m #[Value.ref b] below meth c D vwCl A Q 4 1155 [(3, .int (nI i)), (2, .ref (adM (0, 0, 0))), (1, .ref (adX (0, 0, 0))), (0, .ref b)] [] (wl idsX adX (ceX tc adX) σ ++ wl idsM adM (ceM tc adM) ρ) 134 2188) : GV p l e room_1 s m #[Value.ref b] below meth c D vwCl A Q 4 655 [(3, .int (nI i)), (2, .ref (adM (0, 0, 0))), (1, .ref (adX (0, 0, 0))), (0, .ref b)] [] (wl idsX adX (ceX tc adX) σ ++ wl idsM adM (ceM tc adM) ρ) 134 2188 := by
  obtain ⟨r, d1, f1, ds1, n1, t1, hI1, hF1, hG1⟩ := P_inflow hS hT hWX hWM (xs (nI i + 1).toNatClampNeg)
  have v1 : vp_in (nI i + 1) L := vin5 hi hL (c := 1) (by decide)
  refine L_aload_n C dL_law_655 2 rfl ?_
  refine L_aload_n C dL_law_656 3 rfl ?_
  refine L_iload_n C dL_law_657 0 rfl ?_
  refine L_iconst (v := 1) C dL_law_658 ci_1 ?_
  refine L_iadd C dL_law_659 ?_
  refine L_sld C hX hbl hbA v1 dL_law_660 ?_
  refine L_cXi (As := [.int (xs (nI i + 1).toNatClampNeg)]) C okX_0_0 (M_X5_inflow l D tc adX (AW idsX adX) (xs (nI i + 1).toNatClampNeg) hF1) (cwV 1 C.1.2.2.2.2 gT_X5_inflow rfl rfl rfl (by decide +kernel) ⟨(Nat.le_of_ble_eq_true rfl), (Nat.le_of_ble_eq_true rfl)⟩) (ci := 5) rfl rfl rfl rfl (Nat.le_of_ble_eq_true rfl) (Nat.le_of_ble_eq_true rfl) (Nat.le_of_ble_eq_true rfl) dL_law_661 (fun r1 τ hr1 => ?_)
  obtain ⟨e1, h1⟩ := hr1
  subst e1
  refine L_aload_n C dL_law_664 1 rfl ?_
  refine L_aload_n C dL_law_665 3 rfl ?_
  refine L_iload_n C dL_law_666 0 rfl ?_
  refine L_iconst (v := 1) C dL_law_667 ci_1 ?_
  refine L_iadd C dL_law_668 ?_
  refine L_sld C hX hbl hbA v1 dL_law_669 ?_
  refine L_cMi (As := [.int (xs (nI i + 1).toNatClampNeg)]) C okM_0 (M_X6_inflow l D tc adM (AW idsM adM) (xs (nI i + 1).toNatClampNeg) hG1) (cwV 1 C.1.2.2.2.2 gT_X6_inflow rfl rfl rfl (by decide +kernel) ⟨(Nat.le_of_ble_eq_true rfl), (Nat.le_of_ble_eq_true rfl)⟩) (ci := 6) rfl rfl rfl rfl (Nat.le_of_ble_eq_true rfl) (Nat.le_of_ble_eq_true rfl) (Nat.le_of_ble_eq_true rfl) dL_law_670 (fun r2 τ2 hr2 => ?_)
  obtain ⟨e2, h2⟩ := hr2
  subst e2
  refine L_icmp_eq (tgt := 1155) C dL_law_673 rfl (fun _ => ?_) (fun h => absurd rfl h)
  exact kk τ τ2 d1 f1 ds1 n1 t1 hI1 h1 h2
set_option maxHeartbeats 1000000 in
set_option maxRecDepth 100000 in
theorem O_loses (C : CL p s m #[Value.ref b] c D vwCl (tysX tc) A code 4 RL lw_tbl) (hX : va_X b L xs s s.heap) (hbl : b < s.heap.size) (hbA : ¬ A b) (hL : L ≤ 2560) (hi : i + 5 ≤ L) (hS : IS T d f ds n t) (hT : T + 48 ≤ 30000) (hWX : WX σ d f ds n t) (hWM : WM ρ d f ds n t) (kk : ∀ (σ ρ : Mem) (d : Dst) (f : Nat → Nat) (ds : Nat → Dst) (n : Nat) (t : Nat → Nat), IS (T + 48) d f ds n t → WX σ d f ds n t → WM ρ d f ds n t → GV p l e room_1 s m #[Value.ref b] below meth c D vwCl A Q 4 1155 [(3, .int (nI i)), (2, .ref (adM (0, 0, 0))), (1, .ref (adX (0, 0, 0))), (0, .ref b)] [] (wl idsX adX (ceX tc adX) σ ++ wl idsM adM (ceM tc adM) ρ) 134 2188) : GV p l e room_1 s m #[Value.ref b] below meth c D vwCl A Q 4 678 [(3, .int (nI i)), (2, .ref (adM (0, 0, 0))), (1, .ref (adX (0, 0, 0))), (0, .ref b)] [] (wl idsX adX (ceX tc adX) σ ++ wl idsM adM (ceM tc adM) ρ) 134 2188 := by
  obtain ⟨r, d1, f1, ds1, n1, t1, hI1, hF1, hG1⟩ := P_loses hS hT hWX hWM (xs (nI i + 1).toNatClampNeg)
  have v1 : vp_in (nI i + 1) L := vin5 hi hL (c := 1) (by decide)
  refine L_aload_n C dL_law_678 2 rfl ?_
  refine L_aload_n C dL_law_679 3 rfl ?_
  refine L_iload_n C dL_law_680 0 rfl ?_
  refine L_iconst (v := 1) C dL_law_681 ci_1 ?_
  refine L_iadd C dL_law_682 ?_
  refine L_sld C hX hbl hbA v1 dL_law_683 ?_
  refine L_cXi (As := [.int (xs (nI i + 1).toNatClampNeg)]) C okX_0_0 (M_X5_loses l D tc adX (AW idsX adX) (xs (nI i + 1).toNatClampNeg) hF1) (cwV 1 C.1.2.2.2.2 gT_X5_loses rfl rfl rfl (by decide +kernel) ⟨(Nat.le_of_ble_eq_true rfl), (Nat.le_of_ble_eq_true rfl)⟩) (ci := 5) rfl rfl rfl rfl (Nat.le_of_ble_eq_true rfl) (Nat.le_of_ble_eq_true rfl) (Nat.le_of_ble_eq_true rfl) dL_law_684 (fun r1 τ hr1 => ?_)
  obtain ⟨e1, h1⟩ := hr1
  subst e1
  refine L_aload_n C dL_law_687 1 rfl ?_
  refine L_aload_n C dL_law_688 3 rfl ?_
  refine L_iload_n C dL_law_689 0 rfl ?_
  refine L_iconst (v := 1) C dL_law_690 ci_1 ?_
  refine L_iadd C dL_law_691 ?_
  refine L_sld C hX hbl hbA v1 dL_law_692 ?_
  refine L_cMi (As := [.int (xs (nI i + 1).toNatClampNeg)]) C okM_0 (M_X6_loses l D tc adM (AW idsM adM) (xs (nI i + 1).toNatClampNeg) hG1) (cwV 1 C.1.2.2.2.2 gT_X6_loses rfl rfl rfl (by decide +kernel) ⟨(Nat.le_of_ble_eq_true rfl), (Nat.le_of_ble_eq_true rfl)⟩) (ci := 6) rfl rfl rfl rfl (Nat.le_of_ble_eq_true rfl) (Nat.le_of_ble_eq_true rfl) (Nat.le_of_ble_eq_true rfl) dL_law_693 (fun r2 τ2 hr2 => ?_)
  obtain ⟨e2, h2⟩ := hr2
  subst e2
  refine L_icmp_eq (tgt := 1155) C dL_law_696 rfl (fun _ => ?_) (fun h => absurd rfl h)
  exact kk τ τ2 d1 f1 ds1 n1 t1 hI1 h1 h2
set_option maxHeartbeats 1000000 in
set_option maxRecDepth 100000 in
theorem O_turn (C : CL p s m #[Value.ref b] c D vwCl (tysX tc) A code 4 RL lw_tbl) (hX : va_X b L xs s s.heap) (hbl : b < s.heap.size) (hbA : ¬ A b) (hL : L ≤ 2560) (hi : i + 5 ≤ L) (hS : IS T d f ds n t) (hT : T + 48 ≤ 30000) (hWX : WX σ d f ds n t) (hWM : WM ρ d f ds n t) (kk : ∀ (σ ρ : Mem) (d : Dst) (f : Nat → Nat) (ds : Nat → Dst) (n : Nat) (t : Nat → Nat), IS (T + 48) d f ds n t → WX σ d f ds n t → WM ρ d f ds n t → GV p l e room_1 s m #[Value.ref b] below meth c D vwCl A Q 4 1155 [(3, .int (nI i)), (2, .ref (adM (0, 0, 0))), (1, .ref (adX (0, 0, 0))), (0, .ref b)] [] (wl idsX adX (ceX tc adX) σ ++ wl idsM adM (ceM tc adM) ρ) 134 2188) : GV p l e room_1 s m #[Value.ref b] below meth c D vwCl A Q 4 701 [(3, .int (nI i)), (2, .ref (adM (0, 0, 0))), (1, .ref (adX (0, 0, 0))), (0, .ref b)] [] (wl idsX adX (ceX tc adX) σ ++ wl idsM adM (ceM tc adM) ρ) 134 2188 := by
  obtain ⟨r, d1, f1, ds1, n1, t1, hI1, hF1, hG1⟩ := P_turn hS hT hWX hWM 
  refine L_aload_n C dL_law_701 2 rfl ?_
  refine L_cXi (As := []) C okX_0_0 (M_X5_turn l D tc adX (AW idsX adX)  hF1) (cwV 0 C.1.2.2.2.2 gT_X5_turn rfl rfl rfl (by decide +kernel) ⟨(Nat.le_of_ble_eq_true rfl), (Nat.le_of_ble_eq_true rfl)⟩) (ci := 5) rfl rfl rfl rfl (Nat.le_of_ble_eq_true rfl) (Nat.le_of_ble_eq_true rfl) (Nat.le_of_ble_eq_true rfl) dL_law_702 (fun r1 τ hr1 => ?_)
  obtain ⟨e1, h1⟩ := hr1
  subst e1
  refine L_aload_n C dL_law_705 1 rfl ?_
  refine L_cMi (As := []) C okM_0 (M_X6_turn l D tc adM (AW idsM adM)  hG1) (cwV 0 C.1.2.2.2.2 gT_X6_turn rfl rfl rfl (by decide +kernel) ⟨(Nat.le_of_ble_eq_true rfl), (Nat.le_of_ble_eq_true rfl)⟩) (ci := 6) rfl rfl rfl rfl (Nat.le_of_ble_eq_true rfl) (Nat.le_of_ble_eq_true rfl) (Nat.le_of_ble_eq_true rfl) dL_law_706 (fun r2 τ2 hr2 => ?_)
  obtain ⟨e2, h2⟩ := hr2
  subst e2
  refine L_icmp_eq (tgt := 1155) C dL_law_709 rfl (fun _ => ?_) (fun h => absurd rfl h)
  exact kk τ τ2 d1 f1 ds1 n1 t1 hI1 h1 h2
set_option maxHeartbeats 1000000 in
set_option maxRecDepth 100000 in
theorem O_limit (C : CL p s m #[Value.ref b] c D vwCl (tysX tc) A code 4 RL lw_tbl) (hX : va_X b L xs s s.heap) (hbl : b < s.heap.size) (hbA : ¬ A b) (hL : L ≤ 2560) (hi : i + 5 ≤ L) (hS : IS T d f ds n t) (hT : T + 48 ≤ 30000) (hWX : WX σ d f ds n t) (hWM : WM ρ d f ds n t) (kk : ∀ (σ ρ : Mem) (d : Dst) (f : Nat → Nat) (ds : Nat → Dst) (n : Nat) (t : Nat → Nat), IS (T + 48) d f ds n t → WX σ d f ds n t → WM ρ d f ds n t → GV p l e room_1 s m #[Value.ref b] below meth c D vwCl A Q 4 1155 [(3, .int (nI i)), (2, .ref (adM (0, 0, 0))), (1, .ref (adX (0, 0, 0))), (0, .ref b)] [] (wl idsX adX (ceX tc adX) σ ++ wl idsM adM (ceM tc adM) ρ) 134 2188) : GV p l e room_1 s m #[Value.ref b] below meth c D vwCl A Q 4 714 [(3, .int (nI i)), (2, .ref (adM (0, 0, 0))), (1, .ref (adX (0, 0, 0))), (0, .ref b)] [] (wl idsX adX (ceX tc adX) σ ++ wl idsM adM (ceM tc adM) ρ) 134 2188 := by
  obtain ⟨r, d1, f1, ds1, n1, t1, hI1, hF1, hG1⟩ := P_limit hS hT hWX hWM (xs (nI i + 1).toNatClampNeg)
  have v1 : vp_in (nI i + 1) L := vin5 hi hL (c := 1) (by decide)
  refine L_aload_n C dL_law_714 2 rfl ?_
  refine L_aload_n C dL_law_715 3 rfl ?_
  refine L_iload_n C dL_law_716 0 rfl ?_
  refine L_iconst (v := 1) C dL_law_717 ci_1 ?_
  refine L_iadd C dL_law_718 ?_
  refine L_sld C hX hbl hbA v1 dL_law_719 ?_
  refine L_cXi (As := [.int (xs (nI i + 1).toNatClampNeg)]) C okX_0_0 (M_X5_limit l D tc adX (AW idsX adX) (xs (nI i + 1).toNatClampNeg) hF1) (cwV 1 C.1.2.2.2.2 gT_X5_limit rfl rfl rfl (by decide +kernel) ⟨(Nat.le_of_ble_eq_true rfl), (Nat.le_of_ble_eq_true rfl)⟩) (ci := 5) rfl rfl rfl rfl (Nat.le_of_ble_eq_true rfl) (Nat.le_of_ble_eq_true rfl) (Nat.le_of_ble_eq_true rfl) dL_law_720 (fun r1 τ hr1 => ?_)
  obtain ⟨e1, h1⟩ := hr1
  subst e1
  refine L_aload_n C dL_law_723 1 rfl ?_
  refine L_aload_n C dL_law_724 3 rfl ?_
  refine L_iload_n C dL_law_725 0 rfl ?_
  refine L_iconst (v := 1) C dL_law_726 ci_1 ?_
  refine L_iadd C dL_law_727 ?_
  refine L_sld C hX hbl hbA v1 dL_law_728 ?_
  refine L_cMi (As := [.int (xs (nI i + 1).toNatClampNeg)]) C okM_0 (M_X6_limit l D tc adM (AW idsM adM) (xs (nI i + 1).toNatClampNeg) hG1) (cwV 1 C.1.2.2.2.2 gT_X6_limit rfl rfl rfl (by decide +kernel) ⟨(Nat.le_of_ble_eq_true rfl), (Nat.le_of_ble_eq_true rfl)⟩) (ci := 6) rfl rfl rfl rfl (Nat.le_of_ble_eq_true rfl) (Nat.le_of_ble_eq_true rfl) (Nat.le_of_ble_eq_true rfl) dL_law_729 (fun r2 τ2 hr2 => ?_)
  obtain ⟨e2, h2⟩ := hr2
  subst e2
  refine L_icmp_eq (tgt := 1155) C dL_law_732 rfl (fun _ => ?_) (fun h => absurd rfl h)
  exact kk τ τ2 d1 f1 ds1 n1 t1 hI1 h1 h2
set_option maxHeartbeats 1000000 in
set_option maxRecDepth 100000 in
theorem O_leastSupply (C : CL p s m #[Value.ref b] c D vwCl (tysX tc) A code 4 RL lw_tbl) (hX : va_X b L xs s s.heap) (hbl : b < s.heap.size) (hbA : ¬ A b) (hL : L ≤ 2560) (hi : i + 5 ≤ L) (hS : IS T d f ds n t) (hT : T + 48 ≤ 30000) (hWX : WX σ d f ds n t) (hWM : WM ρ d f ds n t) (kk : ∀ (σ ρ : Mem) (d : Dst) (f : Nat → Nat) (ds : Nat → Dst) (n : Nat) (t : Nat → Nat), IS (T + 48) d f ds n t → WX σ d f ds n t → WM ρ d f ds n t → GV p l e room_1 s m #[Value.ref b] below meth c D vwCl A Q 4 1155 [(3, .int (nI i)), (2, .ref (adM (0, 0, 0))), (1, .ref (adX (0, 0, 0))), (0, .ref b)] [] (wl idsX adX (ceX tc adX) σ ++ wl idsM adM (ceM tc adM) ρ) 134 2188) : GV p l e room_1 s m #[Value.ref b] below meth c D vwCl A Q 4 737 [(3, .int (nI i)), (2, .ref (adM (0, 0, 0))), (1, .ref (adX (0, 0, 0))), (0, .ref b)] [] (wl idsX adX (ceX tc adX) σ ++ wl idsM adM (ceM tc adM) ρ) 134 2188 := by
  obtain ⟨r, d1, f1, ds1, n1, t1, hI1, hF1, hG1⟩ := P_leastSupply hS hT hWX hWM (xs (nI i + 1).toNatClampNeg)
  have v1 : vp_in (nI i + 1) L := vin5 hi hL (c := 1) (by decide)
  refine L_aload_n C dL_law_737 2 rfl ?_
  refine L_aload_n C dL_law_738 3 rfl ?_
  refine L_iload_n C dL_law_739 0 rfl ?_
  refine L_iconst (v := 1) C dL_law_740 ci_1 ?_
  refine L_iadd C dL_law_741 ?_
  refine L_sld C hX hbl hbA v1 dL_law_742 ?_
  refine L_cXi (As := [.int (xs (nI i + 1).toNatClampNeg)]) C okX_0_0 (M_X5_leastSupply l D tc adX (AW idsX adX) (xs (nI i + 1).toNatClampNeg) hF1) (cwV 1 C.1.2.2.2.2 gT_X5_leastSupply rfl rfl rfl (by decide +kernel) ⟨(Nat.le_of_ble_eq_true rfl), (Nat.le_of_ble_eq_true rfl)⟩) (ci := 5) rfl rfl rfl rfl (Nat.le_of_ble_eq_true rfl) (Nat.le_of_ble_eq_true rfl) (Nat.le_of_ble_eq_true rfl) dL_law_743 (fun r1 τ hr1 => ?_)
  obtain ⟨e1, h1⟩ := hr1
  subst e1
  refine L_aload_n C dL_law_746 1 rfl ?_
  refine L_aload_n C dL_law_747 3 rfl ?_
  refine L_iload_n C dL_law_748 0 rfl ?_
  refine L_iconst (v := 1) C dL_law_749 ci_1 ?_
  refine L_iadd C dL_law_750 ?_
  refine L_sld C hX hbl hbA v1 dL_law_751 ?_
  refine L_cMi (As := [.int (xs (nI i + 1).toNatClampNeg)]) C okM_0 (M_X6_leastSupply l D tc adM (AW idsM adM) (xs (nI i + 1).toNatClampNeg) hG1) (cwV 1 C.1.2.2.2.2 gT_X6_leastSupply rfl rfl rfl (by decide +kernel) ⟨(Nat.le_of_ble_eq_true rfl), (Nat.le_of_ble_eq_true rfl)⟩) (ci := 6) rfl rfl rfl rfl (Nat.le_of_ble_eq_true rfl) (Nat.le_of_ble_eq_true rfl) (Nat.le_of_ble_eq_true rfl) dL_law_752 (fun r2 τ2 hr2 => ?_)
  obtain ⟨e2, h2⟩ := hr2
  subst e2
  refine L_icmp_eq (tgt := 1155) C dL_law_755 rfl (fun _ => ?_) (fun h => absurd rfl h)
  exact kk τ τ2 d1 f1 ds1 n1 t1 hI1 h1 h2
set_option maxHeartbeats 1000000 in
set_option maxRecDepth 100000 in
theorem O_usefulGate (C : CL p s m #[Value.ref b] c D vwCl (tysX tc) A code 4 RL lw_tbl) (hX : va_X b L xs s s.heap) (hbl : b < s.heap.size) (hbA : ¬ A b) (hL : L ≤ 2560) (hi : i + 5 ≤ L) (hS : IS T d f ds n t) (hT : T + 48 ≤ 30000) (hWX : WX σ d f ds n t) (hWM : WM ρ d f ds n t) (kk : ∀ (σ ρ : Mem) (d : Dst) (f : Nat → Nat) (ds : Nat → Dst) (n : Nat) (t : Nat → Nat), IS (T + 48) d f ds n t → WX σ d f ds n t → WM ρ d f ds n t → GV p l e room_1 s m #[Value.ref b] below meth c D vwCl A Q 4 1155 [(3, .int (nI i)), (2, .ref (adM (0, 0, 0))), (1, .ref (adX (0, 0, 0))), (0, .ref b)] [] (wl idsX adX (ceX tc adX) σ ++ wl idsM adM (ceM tc adM) ρ) 134 2188) : GV p l e room_1 s m #[Value.ref b] below meth c D vwCl A Q 4 760 [(3, .int (nI i)), (2, .ref (adM (0, 0, 0))), (1, .ref (adX (0, 0, 0))), (0, .ref b)] [] (wl idsX adX (ceX tc adX) σ ++ wl idsM adM (ceM tc adM) ρ) 134 2188 := by
  obtain ⟨r, d1, f1, ds1, n1, t1, hI1, hF1, hG1⟩ := P_usefulGate hS hT hWX hWM (xs (nI i + 1).toNatClampNeg)
  have v1 : vp_in (nI i + 1) L := vin5 hi hL (c := 1) (by decide)
  refine L_aload_n C dL_law_760 2 rfl ?_
  refine L_aload_n C dL_law_761 3 rfl ?_
  refine L_iload_n C dL_law_762 0 rfl ?_
  refine L_iconst (v := 1) C dL_law_763 ci_1 ?_
  refine L_iadd C dL_law_764 ?_
  refine L_sld C hX hbl hbA v1 dL_law_765 ?_
  refine L_cXi (As := [.int (xs (nI i + 1).toNatClampNeg)]) C okX_0_0 (M_X5_usefulGate l D tc adX (AW idsX adX) (xs (nI i + 1).toNatClampNeg) hF1) (cwV 1 C.1.2.2.2.2 gT_X5_usefulGate rfl rfl rfl (by decide +kernel) ⟨(Nat.le_of_ble_eq_true rfl), (Nat.le_of_ble_eq_true rfl)⟩) (ci := 5) rfl rfl rfl rfl (Nat.le_of_ble_eq_true rfl) (Nat.le_of_ble_eq_true rfl) (Nat.le_of_ble_eq_true rfl) dL_law_766 (fun r1 τ hr1 => ?_)
  obtain ⟨e1, h1⟩ := hr1
  subst e1
  refine L_aload_n C dL_law_769 1 rfl ?_
  refine L_aload_n C dL_law_770 3 rfl ?_
  refine L_iload_n C dL_law_771 0 rfl ?_
  refine L_iconst (v := 1) C dL_law_772 ci_1 ?_
  refine L_iadd C dL_law_773 ?_
  refine L_sld C hX hbl hbA v1 dL_law_774 ?_
  refine L_cMi (As := [.int (xs (nI i + 1).toNatClampNeg)]) C okM_0 (M_X6_usefulGate l D tc adM (AW idsM adM) (xs (nI i + 1).toNatClampNeg) hG1) (cwV 1 C.1.2.2.2.2 gT_X6_usefulGate rfl rfl rfl (by decide +kernel) ⟨(Nat.le_of_ble_eq_true rfl), (Nat.le_of_ble_eq_true rfl)⟩) (ci := 6) rfl rfl rfl rfl (Nat.le_of_ble_eq_true rfl) (Nat.le_of_ble_eq_true rfl) (Nat.le_of_ble_eq_true rfl) dL_law_775 (fun r2 τ2 hr2 => ?_)
  obtain ⟨e2, h2⟩ := hr2
  subst e2
  refine L_icmp_eq (tgt := 1155) C dL_law_778 rfl (fun _ => ?_) (fun h => absurd rfl h)
  exact kk τ τ2 d1 f1 ds1 n1 t1 hI1 h1 h2
set_option maxHeartbeats 1000000 in
set_option maxRecDepth 100000 in
theorem O_advance (C : CL p s m #[Value.ref b] c D vwCl (tysX tc) A code 4 RL lw_tbl) (hX : va_X b L xs s s.heap) (hbl : b < s.heap.size) (hbA : ¬ A b) (hL : L ≤ 2560) (hi : i + 5 ≤ L) (hS : IS T d f ds n t) (hT : T + 48 ≤ 30000) (hWX : WX σ d f ds n t) (hWM : WM ρ d f ds n t) (kk : ∀ (σ ρ : Mem) (d : Dst) (f : Nat → Nat) (ds : Nat → Dst) (n : Nat) (t : Nat → Nat), IS (T + 48) d f ds n t → WX σ d f ds n t → WM ρ d f ds n t → GV p l e room_1 s m #[Value.ref b] below meth c D vwCl A Q 4 1155 [(3, .int (nI i)), (2, .ref (adM (0, 0, 0))), (1, .ref (adX (0, 0, 0))), (0, .ref b)] [] (wl idsX adX (ceX tc adX) σ ++ wl idsM adM (ceM tc adM) ρ) 134 2188) : GV p l e room_1 s m #[Value.ref b] below meth c D vwCl A Q 4 783 [(3, .int (nI i)), (2, .ref (adM (0, 0, 0))), (1, .ref (adX (0, 0, 0))), (0, .ref b)] [] (wl idsX adX (ceX tc adX) σ ++ wl idsM adM (ceM tc adM) ρ) 134 2188 := by
  obtain ⟨r, d1, f1, ds1, n1, t1, hI1, hF1, hG1⟩ := P_advance hS hT hWX hWM (xs (nI i + 1).toNatClampNeg)
  have v1 : vp_in (nI i + 1) L := vin5 hi hL (c := 1) (by decide)
  refine L_aload_n C dL_law_783 2 rfl ?_
  refine L_aload_n C dL_law_784 3 rfl ?_
  refine L_iload_n C dL_law_785 0 rfl ?_
  refine L_iconst (v := 1) C dL_law_786 ci_1 ?_
  refine L_iadd C dL_law_787 ?_
  refine L_sld C hX hbl hbA v1 dL_law_788 ?_
  refine L_cXi (As := [.int (xs (nI i + 1).toNatClampNeg)]) C okX_0_0 (M_X5_advance l D tc adX (AW idsX adX) (xs (nI i + 1).toNatClampNeg) hF1) (cwV 1 C.1.2.2.2.2 gT_X5_advance rfl rfl rfl (by decide +kernel) ⟨(Nat.le_of_ble_eq_true rfl), (Nat.le_of_ble_eq_true rfl)⟩) (ci := 5) rfl rfl rfl rfl (Nat.le_of_ble_eq_true rfl) (Nat.le_of_ble_eq_true rfl) (Nat.le_of_ble_eq_true rfl) dL_law_789 (fun r1 τ hr1 => ?_)
  obtain ⟨e1, h1⟩ := hr1
  subst e1
  refine L_aload_n C dL_law_792 1 rfl ?_
  refine L_aload_n C dL_law_793 3 rfl ?_
  refine L_iload_n C dL_law_794 0 rfl ?_
  refine L_iconst (v := 1) C dL_law_795 ci_1 ?_
  refine L_iadd C dL_law_796 ?_
  refine L_sld C hX hbl hbA v1 dL_law_797 ?_
  refine L_cMi (As := [.int (xs (nI i + 1).toNatClampNeg)]) C okM_0 (M_X6_advance l D tc adM (AW idsM adM) (xs (nI i + 1).toNatClampNeg) hG1) (cwV 1 C.1.2.2.2.2 gT_X6_advance rfl rfl rfl (by decide +kernel) ⟨(Nat.le_of_ble_eq_true rfl), (Nat.le_of_ble_eq_true rfl)⟩) (ci := 6) rfl rfl rfl rfl (Nat.le_of_ble_eq_true rfl) (Nat.le_of_ble_eq_true rfl) (Nat.le_of_ble_eq_true rfl) dL_law_798 (fun r2 τ2 hr2 => ?_)
  obtain ⟨e2, h2⟩ := hr2
  subst e2
  refine L_icmp_eq (tgt := 1155) C dL_law_801 rfl (fun _ => ?_) (fun h => absurd rfl h)
  exact kk τ τ2 d1 f1 ds1 n1 t1 hI1 h1 h2
set_option maxHeartbeats 1000000 in
set_option maxRecDepth 100000 in
theorem O_account (C : CL p s m #[Value.ref b] c D vwCl (tysX tc) A code 4 RL lw_tbl) (hX : va_X b L xs s s.heap) (hbl : b < s.heap.size) (hbA : ¬ A b) (hL : L ≤ 2560) (hi : i + 5 ≤ L) (hS : IS T d f ds n t) (hT : T + 48 ≤ 30000) (hWX : WX σ d f ds n t) (hWM : WM ρ d f ds n t) (kk : ∀ (σ ρ : Mem) (d : Dst) (f : Nat → Nat) (ds : Nat → Dst) (n : Nat) (t : Nat → Nat), IS (T + 48) d f ds n t → WX σ d f ds n t → WM ρ d f ds n t → GV p l e room_1 s m #[Value.ref b] below meth c D vwCl A Q 4 1155 [(3, .int (nI i)), (2, .ref (adM (0, 0, 0))), (1, .ref (adX (0, 0, 0))), (0, .ref b)] [] (wl idsX adX (ceX tc adX) σ ++ wl idsM adM (ceM tc adM) ρ) 134 2188) : GV p l e room_1 s m #[Value.ref b] below meth c D vwCl A Q 4 806 [(3, .int (nI i)), (2, .ref (adM (0, 0, 0))), (1, .ref (adX (0, 0, 0))), (0, .ref b)] [] (wl idsX adX (ceX tc adX) σ ++ wl idsM adM (ceM tc adM) ρ) 134 2188 := by
  obtain ⟨r, d1, f1, ds1, n1, t1, hI1, hF1, hG1⟩ := P_account hS hT hWX hWM (xs (nI i + 1).toNatClampNeg)
  have v1 : vp_in (nI i + 1) L := vin5 hi hL (c := 1) (by decide)
  refine L_aload_n C dL_law_806 2 rfl ?_
  refine L_aload_n C dL_law_807 3 rfl ?_
  refine L_iload_n C dL_law_808 0 rfl ?_
  refine L_iconst (v := 1) C dL_law_809 ci_1 ?_
  refine L_iadd C dL_law_810 ?_
  refine L_sld C hX hbl hbA v1 dL_law_811 ?_
  refine L_cXi (As := [.int (xs (nI i + 1).toNatClampNeg)]) C okX_0_0 (M_X5_account l D tc adX (AW idsX adX) (xs (nI i + 1).toNatClampNeg) hF1) (cwV 1 C.1.2.2.2.2 gT_X5_account rfl rfl rfl (by decide +kernel) ⟨(Nat.le_of_ble_eq_true rfl), (Nat.le_of_ble_eq_true rfl)⟩) (ci := 5) rfl rfl rfl rfl (Nat.le_of_ble_eq_true rfl) (Nat.le_of_ble_eq_true rfl) (Nat.le_of_ble_eq_true rfl) dL_law_812 (fun r1 τ hr1 => ?_)
  obtain ⟨e1, h1⟩ := hr1
  subst e1
  refine L_aload_n C dL_law_815 1 rfl ?_
  refine L_aload_n C dL_law_816 3 rfl ?_
  refine L_iload_n C dL_law_817 0 rfl ?_
  refine L_iconst (v := 1) C dL_law_818 ci_1 ?_
  refine L_iadd C dL_law_819 ?_
  refine L_sld C hX hbl hbA v1 dL_law_820 ?_
  refine L_cMi (As := [.int (xs (nI i + 1).toNatClampNeg)]) C okM_0 (M_X6_account l D tc adM (AW idsM adM) (xs (nI i + 1).toNatClampNeg) hG1) (cwV 1 C.1.2.2.2.2 gT_X6_account rfl rfl rfl (by decide +kernel) ⟨(Nat.le_of_ble_eq_true rfl), (Nat.le_of_ble_eq_true rfl)⟩) (ci := 6) rfl rfl rfl rfl (Nat.le_of_ble_eq_true rfl) (Nat.le_of_ble_eq_true rfl) (Nat.le_of_ble_eq_true rfl) dL_law_821 (fun r2 τ2 hr2 => ?_)
  obtain ⟨e2, h2⟩ := hr2
  subst e2
  refine L_icmp_eq (tgt := 1155) C dL_law_824 rfl (fun _ => ?_) (fun h => absurd rfl h)
  exact kk τ τ2 d1 f1 ds1 n1 t1 hI1 h1 h2
set_option maxHeartbeats 1000000 in
set_option maxRecDepth 100000 in
theorem O_pond (C : CL p s m #[Value.ref b] c D vwCl (tysX tc) A code 4 RL lw_tbl) (hX : va_X b L xs s s.heap) (hbl : b < s.heap.size) (hbA : ¬ A b) (hL : L ≤ 2560) (hi : i + 5 ≤ L) (hS : IS T d f ds n t) (hT : T + 48 ≤ 30000) (hWX : WX σ d f ds n t) (hWM : WM ρ d f ds n t) (kk : ∀ (σ ρ : Mem) (d : Dst) (f : Nat → Nat) (ds : Nat → Dst) (n : Nat) (t : Nat → Nat), IS (T + 48) d f ds n t → WX σ d f ds n t → WM ρ d f ds n t → GV p l e room_1 s m #[Value.ref b] below meth c D vwCl A Q 4 1155 [(3, .int (nI i)), (2, .ref (adM (0, 0, 0))), (1, .ref (adX (0, 0, 0))), (0, .ref b)] [] (wl idsX adX (ceX tc adX) σ ++ wl idsM adM (ceM tc adM) ρ) 134 2188) : GV p l e room_1 s m #[Value.ref b] below meth c D vwCl A Q 4 829 [(3, .int (nI i)), (2, .ref (adM (0, 0, 0))), (1, .ref (adX (0, 0, 0))), (0, .ref b)] [] (wl idsX adX (ceX tc adX) σ ++ wl idsM adM (ceM tc adM) ρ) 134 2188 := by
  obtain ⟨r, d1, f1, ds1, n1, t1, hI1, hF1, hG1⟩ := P_pond hS hT hWX hWM (xs (nI i + 1).toNatClampNeg)
  have v1 : vp_in (nI i + 1) L := vin5 hi hL (c := 1) (by decide)
  refine L_aload_n C dL_law_829 2 rfl ?_
  refine L_aload_n C dL_law_830 3 rfl ?_
  refine L_iload_n C dL_law_831 0 rfl ?_
  refine L_iconst (v := 1) C dL_law_832 ci_1 ?_
  refine L_iadd C dL_law_833 ?_
  refine L_sld C hX hbl hbA v1 dL_law_834 ?_
  refine L_cXi (As := [.int (xs (nI i + 1).toNatClampNeg)]) C okX_0_0 (M_X5_pond l D tc adX (AW idsX adX) (xs (nI i + 1).toNatClampNeg) hF1) (cwV 1 C.1.2.2.2.2 gT_X5_pond rfl rfl rfl (by decide +kernel) ⟨(Nat.le_of_ble_eq_true rfl), (Nat.le_of_ble_eq_true rfl)⟩) (ci := 5) rfl rfl rfl rfl (Nat.le_of_ble_eq_true rfl) (Nat.le_of_ble_eq_true rfl) (Nat.le_of_ble_eq_true rfl) dL_law_835 (fun r1 τ hr1 => ?_)
  obtain ⟨e1, h1⟩ := hr1
  subst e1
  refine L_aload_n C dL_law_838 1 rfl ?_
  refine L_aload_n C dL_law_839 3 rfl ?_
  refine L_iload_n C dL_law_840 0 rfl ?_
  refine L_iconst (v := 1) C dL_law_841 ci_1 ?_
  refine L_iadd C dL_law_842 ?_
  refine L_sld C hX hbl hbA v1 dL_law_843 ?_
  refine L_cMi (As := [.int (xs (nI i + 1).toNatClampNeg)]) C okM_0 (M_X6_pond l D tc adM (AW idsM adM) (xs (nI i + 1).toNatClampNeg) hG1) (cwV 1 C.1.2.2.2.2 gT_X6_pond rfl rfl rfl (by decide +kernel) ⟨(Nat.le_of_ble_eq_true rfl), (Nat.le_of_ble_eq_true rfl)⟩) (ci := 6) rfl rfl rfl rfl (Nat.le_of_ble_eq_true rfl) (Nat.le_of_ble_eq_true rfl) (Nat.le_of_ble_eq_true rfl) dL_law_844 (fun r2 τ2 hr2 => ?_)
  obtain ⟨e2, h2⟩ := hr2
  subst e2
  refine L_icmp_eq (tgt := 1155) C dL_law_847 rfl (fun _ => ?_) (fun h => absurd rfl h)
  exact kk τ τ2 d1 f1 ds1 n1 t1 hI1 h1 h2
set_option maxHeartbeats 1000000 in
set_option maxRecDepth 100000 in
theorem O_missed (C : CL p s m #[Value.ref b] c D vwCl (tysX tc) A code 4 RL lw_tbl) (hX : va_X b L xs s s.heap) (hbl : b < s.heap.size) (hbA : ¬ A b) (hL : L ≤ 2560) (hi : i + 5 ≤ L) (hS : IS T d f ds n t) (hT : T + 48 ≤ 30000) (hWX : WX σ d f ds n t) (hWM : WM ρ d f ds n t) (kk : ∀ (σ ρ : Mem) (d : Dst) (f : Nat → Nat) (ds : Nat → Dst) (n : Nat) (t : Nat → Nat), IS (T + 48) d f ds n t → WX σ d f ds n t → WM ρ d f ds n t → GV p l e room_1 s m #[Value.ref b] below meth c D vwCl A Q 4 1155 [(3, .int (nI i)), (2, .ref (adM (0, 0, 0))), (1, .ref (adX (0, 0, 0))), (0, .ref b)] [] (wl idsX adX (ceX tc adX) σ ++ wl idsM adM (ceM tc adM) ρ) 134 2188) : GV p l e room_1 s m #[Value.ref b] below meth c D vwCl A Q 4 852 [(3, .int (nI i)), (2, .ref (adM (0, 0, 0))), (1, .ref (adX (0, 0, 0))), (0, .ref b)] [] (wl idsX adX (ceX tc adX) σ ++ wl idsM adM (ceM tc adM) ρ) 134 2188 := by
  obtain ⟨r, d1, f1, ds1, n1, t1, hI1, hF1, hG1⟩ := P_missed hS hT hWX hWM (xs (nI i + 1).toNatClampNeg)
  have v1 : vp_in (nI i + 1) L := vin5 hi hL (c := 1) (by decide)
  refine L_aload_n C dL_law_852 2 rfl ?_
  refine L_aload_n C dL_law_853 3 rfl ?_
  refine L_iload_n C dL_law_854 0 rfl ?_
  refine L_iconst (v := 1) C dL_law_855 ci_1 ?_
  refine L_iadd C dL_law_856 ?_
  refine L_sld C hX hbl hbA v1 dL_law_857 ?_
  refine L_cXi (As := [.int (xs (nI i + 1).toNatClampNeg)]) C okX_0_0 (M_X5_missed l D tc adX (AW idsX adX) (xs (nI i + 1).toNatClampNeg) hF1) (cwV 1 C.1.2.2.2.2 gT_X5_missed rfl rfl rfl (by decide +kernel) ⟨(Nat.le_of_ble_eq_true rfl), (Nat.le_of_ble_eq_true rfl)⟩) (ci := 5) rfl rfl rfl rfl (Nat.le_of_ble_eq_true rfl) (Nat.le_of_ble_eq_true rfl) (Nat.le_of_ble_eq_true rfl) dL_law_858 (fun r1 τ hr1 => ?_)
  obtain ⟨e1, h1⟩ := hr1
  subst e1
  refine L_aload_n C dL_law_861 1 rfl ?_
  refine L_aload_n C dL_law_862 3 rfl ?_
  refine L_iload_n C dL_law_863 0 rfl ?_
  refine L_iconst (v := 1) C dL_law_864 ci_1 ?_
  refine L_iadd C dL_law_865 ?_
  refine L_sld C hX hbl hbA v1 dL_law_866 ?_
  refine L_cMi (As := [.int (xs (nI i + 1).toNatClampNeg)]) C okM_0 (M_X6_missed l D tc adM (AW idsM adM) (xs (nI i + 1).toNatClampNeg) hG1) (cwV 1 C.1.2.2.2.2 gT_X6_missed rfl rfl rfl (by decide +kernel) ⟨(Nat.le_of_ble_eq_true rfl), (Nat.le_of_ble_eq_true rfl)⟩) (ci := 6) rfl rfl rfl rfl (Nat.le_of_ble_eq_true rfl) (Nat.le_of_ble_eq_true rfl) (Nat.le_of_ble_eq_true rfl) dL_law_867 (fun r2 τ2 hr2 => ?_)
  obtain ⟨e2, h2⟩ := hr2
  subst e2
  refine L_icmp_eq (tgt := 1155) C dL_law_870 rfl (fun _ => ?_) (fun h => absurd rfl h)
  exact kk τ τ2 d1 f1 ds1 n1 t1 hI1 h1 h2
set_option maxHeartbeats 1000000 in
set_option maxRecDepth 100000 in
theorem O_willMiss (C : CL p s m #[Value.ref b] c D vwCl (tysX tc) A code 4 RL lw_tbl) (hX : va_X b L xs s s.heap) (hbl : b < s.heap.size) (hbA : ¬ A b) (hL : L ≤ 2560) (hi : i + 5 ≤ L) (hS : IS T d f ds n t) (hT : T + 48 ≤ 30000) (hWX : WX σ d f ds n t) (hWM : WM ρ d f ds n t) (kk : ∀ (σ ρ : Mem) (d : Dst) (f : Nat → Nat) (ds : Nat → Dst) (n : Nat) (t : Nat → Nat), IS (T + 48) d f ds n t → WX σ d f ds n t → WM ρ d f ds n t → GV p l e room_1 s m #[Value.ref b] below meth c D vwCl A Q 4 1155 [(3, .int (nI i)), (2, .ref (adM (0, 0, 0))), (1, .ref (adX (0, 0, 0))), (0, .ref b)] [] (wl idsX adX (ceX tc adX) σ ++ wl idsM adM (ceM tc adM) ρ) 134 2188) : GV p l e room_1 s m #[Value.ref b] below meth c D vwCl A Q 4 875 [(3, .int (nI i)), (2, .ref (adM (0, 0, 0))), (1, .ref (adX (0, 0, 0))), (0, .ref b)] [] (wl idsX adX (ceX tc adX) σ ++ wl idsM adM (ceM tc adM) ρ) 134 2188 := by
  obtain ⟨r, d1, f1, ds1, n1, t1, hI1, hF1, hG1⟩ := P_willMiss hS hT hWX hWM (xs (nI i + 1).toNatClampNeg) (xs (nI i + 2).toNatClampNeg)
  have v1 : vp_in (nI i + 1) L := vin5 hi hL (c := 1) (by decide)
  have v2 : vp_in (nI i + 2) L := vin5 hi hL (c := 2) (by decide)
  refine L_aload_n C dL_law_875 2 rfl ?_
  refine L_aload_n C dL_law_876 3 rfl ?_
  refine L_iload_n C dL_law_877 0 rfl ?_
  refine L_iconst (v := 1) C dL_law_878 ci_1 ?_
  refine L_iadd C dL_law_879 ?_
  refine L_sld C hX hbl hbA v1 dL_law_880 ?_
  refine L_aload_n C dL_law_881 3 rfl ?_
  refine L_iload_n C dL_law_882 0 rfl ?_
  refine L_iconst (v := 2) C dL_law_883 ci_2 ?_
  refine L_iadd C dL_law_884 ?_
  refine L_sld C hX hbl hbA v2 dL_law_885 ?_
  refine L_cXi (As := [.int (xs (nI i + 1).toNatClampNeg), .int (xs (nI i + 2).toNatClampNeg)]) C okX_0_0 (M_X5_willMiss l D tc adX (AW idsX adX) (xs (nI i + 1).toNatClampNeg) (xs (nI i + 2).toNatClampNeg) hF1) (cwV 2 C.1.2.2.2.2 gT_X5_willMiss rfl rfl rfl (by decide +kernel) ⟨(Nat.le_of_ble_eq_true rfl), (Nat.le_of_ble_eq_true rfl)⟩) (ci := 5) rfl rfl rfl rfl (Nat.le_of_ble_eq_true rfl) (Nat.le_of_ble_eq_true rfl) (Nat.le_of_ble_eq_true rfl) dL_law_886 (fun r1 τ hr1 => ?_)
  obtain ⟨e1, h1⟩ := hr1
  subst e1
  refine L_aload_n C dL_law_889 1 rfl ?_
  refine L_aload_n C dL_law_890 3 rfl ?_
  refine L_iload_n C dL_law_891 0 rfl ?_
  refine L_iconst (v := 1) C dL_law_892 ci_1 ?_
  refine L_iadd C dL_law_893 ?_
  refine L_sld C hX hbl hbA v1 dL_law_894 ?_
  refine L_aload_n C dL_law_895 3 rfl ?_
  refine L_iload_n C dL_law_896 0 rfl ?_
  refine L_iconst (v := 2) C dL_law_897 ci_2 ?_
  refine L_iadd C dL_law_898 ?_
  refine L_sld C hX hbl hbA v2 dL_law_899 ?_
  refine L_cMi (As := [.int (xs (nI i + 1).toNatClampNeg), .int (xs (nI i + 2).toNatClampNeg)]) C okM_0 (M_X6_willMiss l D tc adM (AW idsM adM) (xs (nI i + 1).toNatClampNeg) (xs (nI i + 2).toNatClampNeg) hG1) (cwV 2 C.1.2.2.2.2 gT_X6_willMiss rfl rfl rfl (by decide +kernel) ⟨(Nat.le_of_ble_eq_true rfl), (Nat.le_of_ble_eq_true rfl)⟩) (ci := 6) rfl rfl rfl rfl (Nat.le_of_ble_eq_true rfl) (Nat.le_of_ble_eq_true rfl) (Nat.le_of_ble_eq_true rfl) dL_law_900 (fun r2 τ2 hr2 => ?_)
  obtain ⟨e2, h2⟩ := hr2
  subst e2
  refine L_icmp_eq (tgt := 1155) C dL_law_903 rfl (fun _ => ?_) (fun h => absurd rfl h)
  exact kk τ τ2 d1 f1 ds1 n1 t1 hI1 h1 h2
set_option maxHeartbeats 1000000 in
set_option maxRecDepth 100000 in
theorem O_hoursToFull (C : CL p s m #[Value.ref b] c D vwCl (tysX tc) A code 4 RL lw_tbl) (hX : va_X b L xs s s.heap) (hbl : b < s.heap.size) (hbA : ¬ A b) (hL : L ≤ 2560) (hi : i + 5 ≤ L) (hS : IS T d f ds n t) (hT : T + 48 ≤ 30000) (hWX : WX σ d f ds n t) (hWM : WM ρ d f ds n t) (kk : ∀ (σ ρ : Mem) (d : Dst) (f : Nat → Nat) (ds : Nat → Dst) (n : Nat) (t : Nat → Nat), IS (T + 48) d f ds n t → WX σ d f ds n t → WM ρ d f ds n t → GV p l e room_1 s m #[Value.ref b] below meth c D vwCl A Q 4 1155 [(3, .int (nI i)), (2, .ref (adM (0, 0, 0))), (1, .ref (adX (0, 0, 0))), (0, .ref b)] [] (wl idsX adX (ceX tc adX) σ ++ wl idsM adM (ceM tc adM) ρ) 134 2188) : GV p l e room_1 s m #[Value.ref b] below meth c D vwCl A Q 4 908 [(3, .int (nI i)), (2, .ref (adM (0, 0, 0))), (1, .ref (adX (0, 0, 0))), (0, .ref b)] [] (wl idsX adX (ceX tc adX) σ ++ wl idsM adM (ceM tc adM) ρ) 134 2188 := by
  obtain ⟨r, d1, f1, ds1, n1, t1, hI1, hF1, hG1⟩ := P_hoursToFull hS hT hWX hWM (xs (nI i + 1).toNatClampNeg)
  have v1 : vp_in (nI i + 1) L := vin5 hi hL (c := 1) (by decide)
  refine L_aload_n C dL_law_908 2 rfl ?_
  refine L_aload_n C dL_law_909 3 rfl ?_
  refine L_iload_n C dL_law_910 0 rfl ?_
  refine L_iconst (v := 1) C dL_law_911 ci_1 ?_
  refine L_iadd C dL_law_912 ?_
  refine L_sld C hX hbl hbA v1 dL_law_913 ?_
  refine L_cXi (As := [.int (xs (nI i + 1).toNatClampNeg)]) C okX_0_0 (M_X5_hoursToFull l D tc adX (AW idsX adX) (xs (nI i + 1).toNatClampNeg) hF1) (cwV 1 C.1.2.2.2.2 gT_X5_hoursToFull rfl rfl rfl (by decide +kernel) ⟨(Nat.le_of_ble_eq_true rfl), (Nat.le_of_ble_eq_true rfl)⟩) (ci := 5) rfl rfl rfl rfl (Nat.le_of_ble_eq_true rfl) (Nat.le_of_ble_eq_true rfl) (Nat.le_of_ble_eq_true rfl) dL_law_914 (fun r1 τ hr1 => ?_)
  obtain ⟨e1, h1⟩ := hr1
  subst e1
  refine L_aload_n C dL_law_917 1 rfl ?_
  refine L_aload_n C dL_law_918 3 rfl ?_
  refine L_iload_n C dL_law_919 0 rfl ?_
  refine L_iconst (v := 1) C dL_law_920 ci_1 ?_
  refine L_iadd C dL_law_921 ?_
  refine L_sld C hX hbl hbA v1 dL_law_922 ?_
  refine L_cMi (As := [.int (xs (nI i + 1).toNatClampNeg)]) C okM_0 (M_X6_hoursToFull l D tc adM (AW idsM adM) (xs (nI i + 1).toNatClampNeg) hG1) (cwV 1 C.1.2.2.2.2 gT_X6_hoursToFull rfl rfl rfl (by decide +kernel) ⟨(Nat.le_of_ble_eq_true rfl), (Nat.le_of_ble_eq_true rfl)⟩) (ci := 6) rfl rfl rfl rfl (Nat.le_of_ble_eq_true rfl) (Nat.le_of_ble_eq_true rfl) (Nat.le_of_ble_eq_true rfl) dL_law_923 (fun r2 τ2 hr2 => ?_)
  obtain ⟨e2, h2⟩ := hr2
  subst e2
  refine L_icmp_eq (tgt := 1155) C dL_law_926 rfl (fun _ => ?_) (fun h => absurd rfl h)
  exact kk τ τ2 d1 f1 ds1 n1 t1 hI1 h1 h2
set_option maxHeartbeats 1000000 in
set_option maxRecDepth 100000 in
theorem O_gain (C : CL p s m #[Value.ref b] c D vwCl (tysX tc) A code 4 RL lw_tbl) (hX : va_X b L xs s s.heap) (hbl : b < s.heap.size) (hbA : ¬ A b) (hL : L ≤ 2560) (hi : i + 5 ≤ L) (hS : IS T d f ds n t) (hT : T + 48 ≤ 30000) (hWX : WX σ d f ds n t) (hWM : WM ρ d f ds n t) (kk : ∀ (σ ρ : Mem) (d : Dst) (f : Nat → Nat) (ds : Nat → Dst) (n : Nat) (t : Nat → Nat), IS (T + 48) d f ds n t → WX σ d f ds n t → WM ρ d f ds n t → GV p l e room_1 s m #[Value.ref b] below meth c D vwCl A Q 4 1155 [(3, .int (nI i)), (2, .ref (adM (0, 0, 0))), (1, .ref (adX (0, 0, 0))), (0, .ref b)] [] (wl idsX adX (ceX tc adX) σ ++ wl idsM adM (ceM tc adM) ρ) 134 2188) : GV p l e room_1 s m #[Value.ref b] below meth c D vwCl A Q 4 931 [(3, .int (nI i)), (2, .ref (adM (0, 0, 0))), (1, .ref (adX (0, 0, 0))), (0, .ref b)] [] (wl idsX adX (ceX tc adX) σ ++ wl idsM adM (ceM tc adM) ρ) 134 2188 := by
  obtain ⟨r, d1, f1, ds1, n1, t1, hI1, hF1, hG1⟩ := P_gain hS hT hWX hWM (xs (nI i + 1).toNatClampNeg) (xs (nI i + 2).toNatClampNeg)
  have v1 : vp_in (nI i + 1) L := vin5 hi hL (c := 1) (by decide)
  have v2 : vp_in (nI i + 2) L := vin5 hi hL (c := 2) (by decide)
  refine L_aload_n C dL_law_931 2 rfl ?_
  refine L_aload_n C dL_law_932 3 rfl ?_
  refine L_iload_n C dL_law_933 0 rfl ?_
  refine L_iconst (v := 1) C dL_law_934 ci_1 ?_
  refine L_iadd C dL_law_935 ?_
  refine L_sld C hX hbl hbA v1 dL_law_936 ?_
  refine L_aload_n C dL_law_937 3 rfl ?_
  refine L_iload_n C dL_law_938 0 rfl ?_
  refine L_iconst (v := 2) C dL_law_939 ci_2 ?_
  refine L_iadd C dL_law_940 ?_
  refine L_sld C hX hbl hbA v2 dL_law_941 ?_
  refine L_cXi (As := [.int (xs (nI i + 1).toNatClampNeg), .int (xs (nI i + 2).toNatClampNeg)]) C okX_0_0 (M_X5_gain l D tc adX (AW idsX adX) (xs (nI i + 1).toNatClampNeg) (xs (nI i + 2).toNatClampNeg) hF1) (cwV 2 C.1.2.2.2.2 gT_X5_gain rfl rfl rfl (by decide +kernel) ⟨(Nat.le_of_ble_eq_true rfl), (Nat.le_of_ble_eq_true rfl)⟩) (ci := 5) rfl rfl rfl rfl (Nat.le_of_ble_eq_true rfl) (Nat.le_of_ble_eq_true rfl) (Nat.le_of_ble_eq_true rfl) dL_law_942 (fun r1 τ hr1 => ?_)
  obtain ⟨e1, h1⟩ := hr1
  subst e1
  refine L_aload_n C dL_law_945 1 rfl ?_
  refine L_aload_n C dL_law_946 3 rfl ?_
  refine L_iload_n C dL_law_947 0 rfl ?_
  refine L_iconst (v := 1) C dL_law_948 ci_1 ?_
  refine L_iadd C dL_law_949 ?_
  refine L_sld C hX hbl hbA v1 dL_law_950 ?_
  refine L_aload_n C dL_law_951 3 rfl ?_
  refine L_iload_n C dL_law_952 0 rfl ?_
  refine L_iconst (v := 2) C dL_law_953 ci_2 ?_
  refine L_iadd C dL_law_954 ?_
  refine L_sld C hX hbl hbA v2 dL_law_955 ?_
  refine L_cMi (As := [.int (xs (nI i + 1).toNatClampNeg), .int (xs (nI i + 2).toNatClampNeg)]) C okM_0 (M_X6_gain l D tc adM (AW idsM adM) (xs (nI i + 1).toNatClampNeg) (xs (nI i + 2).toNatClampNeg) hG1) (cwV 2 C.1.2.2.2.2 gT_X6_gain rfl rfl rfl (by decide +kernel) ⟨(Nat.le_of_ble_eq_true rfl), (Nat.le_of_ble_eq_true rfl)⟩) (ci := 6) rfl rfl rfl rfl (Nat.le_of_ble_eq_true rfl) (Nat.le_of_ble_eq_true rfl) (Nat.le_of_ble_eq_true rfl) dL_law_956 (fun r2 τ2 hr2 => ?_)
  obtain ⟨e2, h2⟩ := hr2
  subst e2
  refine L_icmp_eq (tgt := 1155) C dL_law_959 rfl (fun _ => ?_) (fun h => absurd rfl h)
  exact kk τ τ2 d1 f1 ds1 n1 t1 hI1 h1 h2
set_option maxHeartbeats 1000000 in
set_option maxRecDepth 100000 in
theorem O_complaint (C : CL p s m #[Value.ref b] c D vwCl (tysX tc) A code 4 RL lw_tbl) (hX : va_X b L xs s s.heap) (hbl : b < s.heap.size) (hbA : ¬ A b) (hL : L ≤ 2560) (hi : i + 5 ≤ L) (hS : IS T d f ds n t) (hT : T + 48 ≤ 30000) (hWX : WX σ d f ds n t) (hWM : WM ρ d f ds n t) (kk : ∀ (σ ρ : Mem) (d : Dst) (f : Nat → Nat) (ds : Nat → Dst) (n : Nat) (t : Nat → Nat), IS (T + 48) d f ds n t → WX σ d f ds n t → WM ρ d f ds n t → GV p l e room_1 s m #[Value.ref b] below meth c D vwCl A Q 4 1155 [(3, .int (nI i)), (2, .ref (adM (0, 0, 0))), (1, .ref (adX (0, 0, 0))), (0, .ref b)] [] (wl idsX adX (ceX tc adX) σ ++ wl idsM adM (ceM tc adM) ρ) 134 2188) : GV p l e room_1 s m #[Value.ref b] below meth c D vwCl A Q 4 964 [(3, .int (nI i)), (2, .ref (adM (0, 0, 0))), (1, .ref (adX (0, 0, 0))), (0, .ref b)] [] (wl idsX adX (ceX tc adX) σ ++ wl idsM adM (ceM tc adM) ρ) 134 2188 := by
  obtain ⟨r, d1, f1, ds1, n1, t1, hI1, hF1, hG1⟩ := P_complaint hS hT hWX hWM (xs (nI i + 1).toNatClampNeg) (xs (nI i + 2).toNatClampNeg)
  have v1 : vp_in (nI i + 1) L := vin5 hi hL (c := 1) (by decide)
  have v2 : vp_in (nI i + 2) L := vin5 hi hL (c := 2) (by decide)
  refine L_aload_n C dL_law_964 2 rfl ?_
  refine L_aload_n C dL_law_965 3 rfl ?_
  refine L_iload_n C dL_law_966 0 rfl ?_
  refine L_iconst (v := 1) C dL_law_967 ci_1 ?_
  refine L_iadd C dL_law_968 ?_
  refine L_sld C hX hbl hbA v1 dL_law_969 ?_
  refine L_aload_n C dL_law_970 3 rfl ?_
  refine L_iload_n C dL_law_971 0 rfl ?_
  refine L_iconst (v := 2) C dL_law_972 ci_2 ?_
  refine L_iadd C dL_law_973 ?_
  refine L_sld C hX hbl hbA v2 dL_law_974 ?_
  refine L_cXi (As := [.int (xs (nI i + 1).toNatClampNeg), .int (xs (nI i + 2).toNatClampNeg)]) C okX_0_0 (M_X5_complaint l D tc adX (AW idsX adX) (xs (nI i + 1).toNatClampNeg) (xs (nI i + 2).toNatClampNeg) hF1) (cwV 2 C.1.2.2.2.2 gT_X5_complaint rfl rfl rfl (by decide +kernel) ⟨(Nat.le_of_ble_eq_true rfl), (Nat.le_of_ble_eq_true rfl)⟩) (ci := 5) rfl rfl rfl rfl (Nat.le_of_ble_eq_true rfl) (Nat.le_of_ble_eq_true rfl) (Nat.le_of_ble_eq_true rfl) dL_law_975 (fun r1 τ hr1 => ?_)
  obtain ⟨e1, h1⟩ := hr1
  subst e1
  refine L_aload_n C dL_law_978 1 rfl ?_
  refine L_aload_n C dL_law_979 3 rfl ?_
  refine L_iload_n C dL_law_980 0 rfl ?_
  refine L_iconst (v := 1) C dL_law_981 ci_1 ?_
  refine L_iadd C dL_law_982 ?_
  refine L_sld C hX hbl hbA v1 dL_law_983 ?_
  refine L_aload_n C dL_law_984 3 rfl ?_
  refine L_iload_n C dL_law_985 0 rfl ?_
  refine L_iconst (v := 2) C dL_law_986 ci_2 ?_
  refine L_iadd C dL_law_987 ?_
  refine L_sld C hX hbl hbA v2 dL_law_988 ?_
  refine L_cMi (As := [.int (xs (nI i + 1).toNatClampNeg), .int (xs (nI i + 2).toNatClampNeg)]) C okM_0 (M_X6_complaint l D tc adM (AW idsM adM) (xs (nI i + 1).toNatClampNeg) (xs (nI i + 2).toNatClampNeg) hG1) (cwV 2 C.1.2.2.2.2 gT_X6_complaint rfl rfl rfl (by decide +kernel) ⟨(Nat.le_of_ble_eq_true rfl), (Nat.le_of_ble_eq_true rfl)⟩) (ci := 6) rfl rfl rfl rfl (Nat.le_of_ble_eq_true rfl) (Nat.le_of_ble_eq_true rfl) (Nat.le_of_ble_eq_true rfl) dL_law_989 (fun r2 τ2 hr2 => ?_)
  obtain ⟨e2, h2⟩ := hr2
  subst e2
  refine L_icmp_eq (tgt := 1155) C dL_law_992 rfl (fun _ => ?_) (fun h => absurd rfl h)
  exact kk τ τ2 d1 f1 ds1 n1 t1 hI1 h1 h2
set_option maxHeartbeats 1000000 in
set_option maxRecDepth 100000 in
theorem O_settle (C : CL p s m #[Value.ref b] c D vwCl (tysX tc) A code 4 RL lw_tbl) (hX : va_X b L xs s s.heap) (hbl : b < s.heap.size) (hbA : ¬ A b) (hL : L ≤ 2560) (hi : i + 5 ≤ L) (hS : IS T d f ds n t) (hT : T + 48 ≤ 30000) (hWX : WX σ d f ds n t) (hWM : WM ρ d f ds n t) (kk : ∀ (σ ρ : Mem) (d : Dst) (f : Nat → Nat) (ds : Nat → Dst) (n : Nat) (t : Nat → Nat), IS (T + 48) d f ds n t → WX σ d f ds n t → WM ρ d f ds n t → GV p l e room_1 s m #[Value.ref b] below meth c D vwCl A Q 4 1155 [(3, .int (nI i)), (2, .ref (adM (0, 0, 0))), (1, .ref (adX (0, 0, 0))), (0, .ref b)] [] (wl idsX adX (ceX tc adX) σ ++ wl idsM adM (ceM tc adM) ρ) 134 2188) : GV p l e room_1 s m #[Value.ref b] below meth c D vwCl A Q 4 997 [(3, .int (nI i)), (2, .ref (adM (0, 0, 0))), (1, .ref (adX (0, 0, 0))), (0, .ref b)] [] (wl idsX adX (ceX tc adX) σ ++ wl idsM adM (ceM tc adM) ρ) 134 2188 := by
  obtain ⟨r, d1, f1, ds1, n1, t1, hI1, hF1, hG1⟩ := P_settle hS hT hWX hWM 
  refine L_aload_n C dL_law_997 2 rfl ?_
  refine L_cXi (As := []) C okX_0_0 (M_X5_settle l D tc adX (AW idsX adX)  hF1) (cwV 0 C.1.2.2.2.2 gT_X5_settle rfl rfl rfl (by decide +kernel) ⟨(Nat.le_of_ble_eq_true rfl), (Nat.le_of_ble_eq_true rfl)⟩) (ci := 5) rfl rfl rfl rfl (Nat.le_of_ble_eq_true rfl) (Nat.le_of_ble_eq_true rfl) (Nat.le_of_ble_eq_true rfl) dL_law_998 (fun r1 τ hr1 => ?_)
  obtain ⟨e1, h1⟩ := hr1
  subst e1
  refine L_aload_n C dL_law_1001 1 rfl ?_
  refine L_cMi (As := []) C okM_0 (M_X6_settle l D tc adM (AW idsM adM)  hG1) (cwV 0 C.1.2.2.2.2 gT_X6_settle rfl rfl rfl (by decide +kernel) ⟨(Nat.le_of_ble_eq_true rfl), (Nat.le_of_ble_eq_true rfl)⟩) (ci := 6) rfl rfl rfl rfl (Nat.le_of_ble_eq_true rfl) (Nat.le_of_ble_eq_true rfl) (Nat.le_of_ble_eq_true rfl) dL_law_1002 (fun r2 τ2 hr2 => ?_)
  obtain ⟨e2, h2⟩ := hr2
  subst e2
  refine L_icmp_eq (tgt := 1155) C dL_law_1005 rfl (fun _ => ?_) (fun h => absurd rfl h)
  exact kk τ τ2 d1 f1 ds1 n1 t1 hI1 h1 h2
set_option maxHeartbeats 1000000 in
set_option maxRecDepth 100000 in
theorem O_isShut (C : CL p s m #[Value.ref b] c D vwCl (tysX tc) A code 4 RL lw_tbl) (hX : va_X b L xs s s.heap) (hbl : b < s.heap.size) (hbA : ¬ A b) (hL : L ≤ 2560) (hi : i + 5 ≤ L) (hS : IS T d f ds n t) (hT : T + 48 ≤ 30000) (hWX : WX σ d f ds n t) (hWM : WM ρ d f ds n t) (kk : ∀ (σ ρ : Mem) (d : Dst) (f : Nat → Nat) (ds : Nat → Dst) (n : Nat) (t : Nat → Nat), IS (T + 48) d f ds n t → WX σ d f ds n t → WM ρ d f ds n t → GV p l e room_1 s m #[Value.ref b] below meth c D vwCl A Q 4 1155 [(3, .int (nI i)), (2, .ref (adM (0, 0, 0))), (1, .ref (adX (0, 0, 0))), (0, .ref b)] [] (wl idsX adX (ceX tc adX) σ ++ wl idsM adM (ceM tc adM) ρ) 134 2188) : GV p l e room_1 s m #[Value.ref b] below meth c D vwCl A Q 4 1010 [(3, .int (nI i)), (2, .ref (adM (0, 0, 0))), (1, .ref (adX (0, 0, 0))), (0, .ref b)] [] (wl idsX adX (ceX tc adX) σ ++ wl idsM adM (ceM tc adM) ρ) 134 2188 := by
  obtain ⟨r, d1, f1, ds1, n1, t1, hI1, hF1, hG1⟩ := P_isShut hS hT hWX hWM (xs (nI i + 1).toNatClampNeg)
  have v1 : vp_in (nI i + 1) L := vin5 hi hL (c := 1) (by decide)
  refine L_aload_n C dL_law_1010 2 rfl ?_
  refine L_aload_n C dL_law_1011 3 rfl ?_
  refine L_iload_n C dL_law_1012 0 rfl ?_
  refine L_iconst (v := 1) C dL_law_1013 ci_1 ?_
  refine L_iadd C dL_law_1014 ?_
  refine L_sld C hX hbl hbA v1 dL_law_1015 ?_
  refine L_cXi (As := [.int (xs (nI i + 1).toNatClampNeg)]) C okX_0_0 (M_X5_isShut l D tc adX (AW idsX adX) (xs (nI i + 1).toNatClampNeg) hF1) (cwV 1 C.1.2.2.2.2 gT_X5_isShut rfl rfl rfl (by decide +kernel) ⟨(Nat.le_of_ble_eq_true rfl), (Nat.le_of_ble_eq_true rfl)⟩) (ci := 5) rfl rfl rfl rfl (Nat.le_of_ble_eq_true rfl) (Nat.le_of_ble_eq_true rfl) (Nat.le_of_ble_eq_true rfl) dL_law_1016 (fun r1 τ hr1 => ?_)
  obtain ⟨e1, h1⟩ := hr1
  subst e1
  refine L_aload_n C dL_law_1019 1 rfl ?_
  refine L_aload_n C dL_law_1020 3 rfl ?_
  refine L_iload_n C dL_law_1021 0 rfl ?_
  refine L_iconst (v := 1) C dL_law_1022 ci_1 ?_
  refine L_iadd C dL_law_1023 ?_
  refine L_sld C hX hbl hbA v1 dL_law_1024 ?_
  refine L_cMi (As := [.int (xs (nI i + 1).toNatClampNeg)]) C okM_0 (M_X6_isShut l D tc adM (AW idsM adM) (xs (nI i + 1).toNatClampNeg) hG1) (cwV 1 C.1.2.2.2.2 gT_X6_isShut rfl rfl rfl (by decide +kernel) ⟨(Nat.le_of_ble_eq_true rfl), (Nat.le_of_ble_eq_true rfl)⟩) (ci := 6) rfl rfl rfl rfl (Nat.le_of_ble_eq_true rfl) (Nat.le_of_ble_eq_true rfl) (Nat.le_of_ble_eq_true rfl) dL_law_1025 (fun r2 τ2 hr2 => ?_)
  obtain ⟨e2, h2⟩ := hr2
  subst e2
  refine L_icmp_eq (tgt := 1155) C dL_law_1028 rfl (fun _ => ?_) (fun h => absurd rfl h)
  exact kk τ τ2 d1 f1 ds1 n1 t1 hI1 h1 h2
set_option maxHeartbeats 1000000 in
set_option maxRecDepth 100000 in
theorem O_append (C : CL p s m #[Value.ref b] c D vwCl (tysX tc) A code 4 RL lw_tbl) (hX : va_X b L xs s s.heap) (hbl : b < s.heap.size) (hbA : ¬ A b) (hL : L ≤ 2560) (hi : i + 5 ≤ L) (hS : IS T d f ds n t) (hT : T + 48 ≤ 30000) (hWX : WX σ d f ds n t) (hWM : WM ρ d f ds n t) (kk : ∀ (σ ρ : Mem) (d : Dst) (f : Nat → Nat) (ds : Nat → Dst) (n : Nat) (t : Nat → Nat), IS (T + 48) d f ds n t → WX σ d f ds n t → WM ρ d f ds n t → GV p l e room_1 s m #[Value.ref b] below meth c D vwCl A Q 4 1155 [(3, .int (nI i)), (2, .ref (adM (0, 0, 0))), (1, .ref (adX (0, 0, 0))), (0, .ref b)] [] (wl idsX adX (ceX tc adX) σ ++ wl idsM adM (ceM tc adM) ρ) 134 2188) : GV p l e room_1 s m #[Value.ref b] below meth c D vwCl A Q 4 1033 [(3, .int (nI i)), (2, .ref (adM (0, 0, 0))), (1, .ref (adX (0, 0, 0))), (0, .ref b)] [] (wl idsX adX (ceX tc adX) σ ++ wl idsM adM (ceM tc adM) ρ) 134 2188 := by
  obtain ⟨r, d1, f1, ds1, n1, t1, hI1, hF1, hG1⟩ := P_append hS hT hWX hWM (xs (nI i + 1).toNatClampNeg)
  have v1 : vp_in (nI i + 1) L := vin5 hi hL (c := 1) (by decide)
  refine L_aload_n C dL_law_1033 2 rfl ?_
  refine L_aload_n C dL_law_1034 3 rfl ?_
  refine L_iload_n C dL_law_1035 0 rfl ?_
  refine L_iconst (v := 1) C dL_law_1036 ci_1 ?_
  refine L_iadd C dL_law_1037 ?_
  refine L_sld C hX hbl hbA v1 dL_law_1038 ?_
  refine L_cXi (As := [.int (xs (nI i + 1).toNatClampNeg)]) C okX_0_0 (M_X5_append l D tc adX (AW idsX adX) (xs (nI i + 1).toNatClampNeg) hF1) (cwV 1 C.1.2.2.2.2 gT_X5_append rfl rfl rfl (by decide +kernel) ⟨(Nat.le_of_ble_eq_true rfl), (Nat.le_of_ble_eq_true rfl)⟩) (ci := 5) rfl rfl rfl rfl (Nat.le_of_ble_eq_true rfl) (Nat.le_of_ble_eq_true rfl) (Nat.le_of_ble_eq_true rfl) dL_law_1039 (fun r1 τ hr1 => ?_)
  obtain ⟨e1, h1⟩ := hr1
  subst e1
  refine L_aload_n C dL_law_1042 1 rfl ?_
  refine L_aload_n C dL_law_1043 3 rfl ?_
  refine L_iload_n C dL_law_1044 0 rfl ?_
  refine L_iconst (v := 1) C dL_law_1045 ci_1 ?_
  refine L_iadd C dL_law_1046 ?_
  refine L_sld C hX hbl hbA v1 dL_law_1047 ?_
  refine L_cMi (As := [.int (xs (nI i + 1).toNatClampNeg)]) C okM_0 (M_X6_append l D tc adM (AW idsM adM) (xs (nI i + 1).toNatClampNeg) hG1) (cwV 1 C.1.2.2.2.2 gT_X6_append rfl rfl rfl (by decide +kernel) ⟨(Nat.le_of_ble_eq_true rfl), (Nat.le_of_ble_eq_true rfl)⟩) (ci := 6) rfl rfl rfl rfl (Nat.le_of_ble_eq_true rfl) (Nat.le_of_ble_eq_true rfl) (Nat.le_of_ble_eq_true rfl) dL_law_1048 (fun r2 τ2 hr2 => ?_)
  obtain ⟨e2, h2⟩ := hr2
  subst e2
  refine L_icmp_eq (tgt := 1155) C dL_law_1051 rfl (fun _ => ?_) (fun h => absurd rfl h)
  exact kk τ τ2 d1 f1 ds1 n1 t1 hI1 h1 h2
set_option maxHeartbeats 1000000 in
set_option maxRecDepth 100000 in
theorem O_clearText (C : CL p s m #[Value.ref b] c D vwCl (tysX tc) A code 4 RL lw_tbl) (hX : va_X b L xs s s.heap) (hbl : b < s.heap.size) (hbA : ¬ A b) (hL : L ≤ 2560) (hi : i + 5 ≤ L) (hS : IS T d f ds n t) (hT : T + 48 ≤ 30000) (hWX : WX σ d f ds n t) (hWM : WM ρ d f ds n t) (kk : ∀ (σ ρ : Mem) (d : Dst) (f : Nat → Nat) (ds : Nat → Dst) (n : Nat) (t : Nat → Nat), IS (T + 48) d f ds n t → WX σ d f ds n t → WM ρ d f ds n t → GV p l e room_1 s m #[Value.ref b] below meth c D vwCl A Q 4 1155 [(3, .int (nI i)), (2, .ref (adM (0, 0, 0))), (1, .ref (adX (0, 0, 0))), (0, .ref b)] [] (wl idsX adX (ceX tc adX) σ ++ wl idsM adM (ceM tc adM) ρ) 134 2188) : GV p l e room_1 s m #[Value.ref b] below meth c D vwCl A Q 4 1056 [(3, .int (nI i)), (2, .ref (adM (0, 0, 0))), (1, .ref (adX (0, 0, 0))), (0, .ref b)] [] (wl idsX adX (ceX tc adX) σ ++ wl idsM adM (ceM tc adM) ρ) 134 2188 := by
  obtain ⟨r, d1, f1, ds1, n1, t1, hI1, hF1, hG1⟩ := P_clearText hS hT hWX hWM 
  refine L_aload_n C dL_law_1056 2 rfl ?_
  refine L_cXi (As := []) C okX_0_0 (M_X5_clearText l D tc adX (AW idsX adX)  hF1) (cwV 0 C.1.2.2.2.2 gT_X5_clearText rfl rfl rfl (by decide +kernel) ⟨(Nat.le_of_ble_eq_true rfl), (Nat.le_of_ble_eq_true rfl)⟩) (ci := 5) rfl rfl rfl rfl (Nat.le_of_ble_eq_true rfl) (Nat.le_of_ble_eq_true rfl) (Nat.le_of_ble_eq_true rfl) dL_law_1057 (fun r1 τ hr1 => ?_)
  obtain ⟨e1, h1⟩ := hr1
  subst e1
  refine L_aload_n C dL_law_1060 1 rfl ?_
  refine L_cMi (As := []) C okM_0 (M_X6_clearText l D tc adM (AW idsM adM)  hG1) (cwV 0 C.1.2.2.2.2 gT_X6_clearText rfl rfl rfl (by decide +kernel) ⟨(Nat.le_of_ble_eq_true rfl), (Nat.le_of_ble_eq_true rfl)⟩) (ci := 6) rfl rfl rfl rfl (Nat.le_of_ble_eq_true rfl) (Nat.le_of_ble_eq_true rfl) (Nat.le_of_ble_eq_true rfl) dL_law_1061 (fun r2 τ2 hr2 => ?_)
  obtain ⟨e2, h2⟩ := hr2
  subst e2
  refine L_icmp_eq (tgt := 1155) C dL_law_1064 rfl (fun _ => ?_) (fun h => absurd rfl h)
  exact kk τ τ2 d1 f1 ds1 n1 t1 hI1 h1 h2
set_option maxHeartbeats 1000000 in
set_option maxRecDepth 100000 in
theorem O_faultPosition (C : CL p s m #[Value.ref b] c D vwCl (tysX tc) A code 4 RL lw_tbl) (hX : va_X b L xs s s.heap) (hbl : b < s.heap.size) (hbA : ¬ A b) (hL : L ≤ 2560) (hi : i + 5 ≤ L) (hS : IS T d f ds n t) (hT : T + 48 ≤ 30000) (hWX : WX σ d f ds n t) (hWM : WM ρ d f ds n t) (kk : ∀ (σ ρ : Mem) (d : Dst) (f : Nat → Nat) (ds : Nat → Dst) (n : Nat) (t : Nat → Nat), IS (T + 48) d f ds n t → WX σ d f ds n t → WM ρ d f ds n t → GV p l e room_1 s m #[Value.ref b] below meth c D vwCl A Q 4 1155 [(3, .int (nI i)), (2, .ref (adM (0, 0, 0))), (1, .ref (adX (0, 0, 0))), (0, .ref b)] [] (wl idsX adX (ceX tc adX) σ ++ wl idsM adM (ceM tc adM) ρ) 134 2188) : GV p l e room_1 s m #[Value.ref b] below meth c D vwCl A Q 4 1069 [(3, .int (nI i)), (2, .ref (adM (0, 0, 0))), (1, .ref (adX (0, 0, 0))), (0, .ref b)] [] (wl idsX adX (ceX tc adX) σ ++ wl idsM adM (ceM tc adM) ρ) 134 2188 := by
  obtain ⟨r, d1, f1, ds1, n1, t1, hI1, hF1, hG1⟩ := P_faultPosition hS hT hWX hWM 
  refine L_aload_n C dL_law_1069 2 rfl ?_
  refine L_cXi (As := []) C okX_0_0 (M_X5_faultPosition l D tc adX (AW idsX adX)  hF1) (cwV 0 C.1.2.2.2.2 gT_X5_faultPosition rfl rfl rfl (by decide +kernel) ⟨(Nat.le_of_ble_eq_true rfl), (Nat.le_of_ble_eq_true rfl)⟩) (ci := 5) rfl rfl rfl rfl (Nat.le_of_ble_eq_true rfl) (Nat.le_of_ble_eq_true rfl) (Nat.le_of_ble_eq_true rfl) dL_law_1070 (fun r1 τ hr1 => ?_)
  obtain ⟨e1, h1⟩ := hr1
  subst e1
  refine L_aload_n C dL_law_1073 1 rfl ?_
  refine L_cMi (As := []) C okM_0 (M_X6_faultPosition l D tc adM (AW idsM adM)  hG1) (cwV 0 C.1.2.2.2.2 gT_X6_faultPosition rfl rfl rfl (by decide +kernel) ⟨(Nat.le_of_ble_eq_true rfl), (Nat.le_of_ble_eq_true rfl)⟩) (ci := 6) rfl rfl rfl rfl (Nat.le_of_ble_eq_true rfl) (Nat.le_of_ble_eq_true rfl) (Nat.le_of_ble_eq_true rfl) dL_law_1074 (fun r2 τ2 hr2 => ?_)
  obtain ⟨e2, h2⟩ := hr2
  subst e2
  refine L_icmp_eq (tgt := 1155) C dL_law_1077 rfl (fun _ => ?_) (fun h => absurd rfl h)
  exact kk τ τ2 d1 f1 ds1 n1 t1 hI1 h1 h2
set_option maxHeartbeats 1000000 in
set_option maxRecDepth 100000 in
theorem O_read (C : CL p s m #[Value.ref b] c D vwCl (tysX tc) A code 4 RL lw_tbl) (hX : va_X b L xs s s.heap) (hbl : b < s.heap.size) (hbA : ¬ A b) (hL : L ≤ 2560) (hi : i + 5 ≤ L) (hS : IS T d f ds n t) (hT : T + 48 ≤ 30000) (hWX : WX σ d f ds n t) (hWM : WM ρ d f ds n t) (kk : ∀ (σ ρ : Mem) (d : Dst) (f : Nat → Nat) (ds : Nat → Dst) (n : Nat) (t : Nat → Nat), IS (T + 48) d f ds n t → WX σ d f ds n t → WM ρ d f ds n t → GV p l e room_1 s m #[Value.ref b] below meth c D vwCl A Q 4 1155 [(3, .int (nI i)), (2, .ref (adM (0, 0, 0))), (1, .ref (adX (0, 0, 0))), (0, .ref b)] [] (wl idsX adX (ceX tc adX) σ ++ wl idsM adM (ceM tc adM) ρ) 134 2188) : GV p l e room_1 s m #[Value.ref b] below meth c D vwCl A Q 4 1082 [(3, .int (nI i)), (2, .ref (adM (0, 0, 0))), (1, .ref (adX (0, 0, 0))), (0, .ref b)] [] (wl idsX adX (ceX tc adX) σ ++ wl idsM adM (ceM tc adM) ρ) 134 2188 := by
  obtain ⟨r, d1, f1, ds1, n1, t1, hI1, hF1, hG1⟩ := P_read hS hT hWX hWM 
  refine L_aload_n C dL_law_1082 2 rfl ?_
  refine L_cXi (As := []) C okX_0_0 (M_X5_read l D tc adX (AW idsX adX)  hF1) (cwV 0 C.1.2.2.2.2 gT_X5_read rfl rfl rfl (by decide +kernel) ⟨(Nat.le_of_ble_eq_true rfl), (Nat.le_of_ble_eq_true rfl)⟩) (ci := 5) rfl rfl rfl rfl (Nat.le_of_ble_eq_true rfl) (Nat.le_of_ble_eq_true rfl) (Nat.le_of_ble_eq_true rfl) dL_law_1083 (fun r1 τ hr1 => ?_)
  obtain ⟨e1, h1⟩ := hr1
  subst e1
  refine L_aload_n C dL_law_1086 1 rfl ?_
  refine L_cMi (As := []) C okM_0 (M_X6_read l D tc adM (AW idsM adM)  hG1) (cwV 0 C.1.2.2.2.2 gT_X6_read rfl rfl rfl (by decide +kernel) ⟨(Nat.le_of_ble_eq_true rfl), (Nat.le_of_ble_eq_true rfl)⟩) (ci := 6) rfl rfl rfl rfl (Nat.le_of_ble_eq_true rfl) (Nat.le_of_ble_eq_true rfl) (Nat.le_of_ble_eq_true rfl) dL_law_1087 (fun r2 τ2 hr2 => ?_)
  obtain ⟨e2, h2⟩ := hr2
  subst e2
  refine L_icmp_eq (tgt := 1155) C dL_law_1090 rfl (fun _ => ?_) (fun h => absurd rfl h)
  exact kk τ τ2 d1 f1 ds1 n1 t1 hI1 h1 h2
set_option maxHeartbeats 1000000 in
set_option maxRecDepth 100000 in
theorem O_save (C : CL p s m #[Value.ref b] c D vwCl (tysX tc) A code 4 RL lw_tbl) (hX : va_X b L xs s s.heap) (hbl : b < s.heap.size) (hbA : ¬ A b) (hL : L ≤ 2560) (hi : i + 5 ≤ L) (hS : IS T d f ds n t) (hT : T + 48 ≤ 30000) (hWX : WX σ d f ds n t) (hWM : WM ρ d f ds n t) (kk : ∀ (σ ρ : Mem) (d : Dst) (f : Nat → Nat) (ds : Nat → Dst) (n : Nat) (t : Nat → Nat), IS (T + 48) d f ds n t → WX σ d f ds n t → WM ρ d f ds n t → GV p l e room_1 s m #[Value.ref b] below meth c D vwCl A Q 4 1155 [(3, .int (nI i)), (2, .ref (adM (0, 0, 0))), (1, .ref (adX (0, 0, 0))), (0, .ref b)] [] (wl idsX adX (ceX tc adX) σ ++ wl idsM adM (ceM tc adM) ρ) 134 2188) : GV p l e room_1 s m #[Value.ref b] below meth c D vwCl A Q 4 1095 [(3, .int (nI i)), (2, .ref (adM (0, 0, 0))), (1, .ref (adX (0, 0, 0))), (0, .ref b)] [] (wl idsX adX (ceX tc adX) σ ++ wl idsM adM (ceM tc adM) ρ) 134 2188 := by
  obtain ⟨r, d1, f1, ds1, n1, t1, hI1, hF1, hG1⟩ := P_save hS hT hWX hWM (xs (nI i + 1).toNatClampNeg)
  have v1 : vp_in (nI i + 1) L := vin5 hi hL (c := 1) (by decide)
  refine L_aload_n C dL_law_1095 2 rfl ?_
  refine L_aload_n C dL_law_1096 3 rfl ?_
  refine L_iload_n C dL_law_1097 0 rfl ?_
  refine L_iconst (v := 1) C dL_law_1098 ci_1 ?_
  refine L_iadd C dL_law_1099 ?_
  refine L_sld C hX hbl hbA v1 dL_law_1100 ?_
  refine L_cXi (As := [.int (xs (nI i + 1).toNatClampNeg)]) C okX_0_0 (M_X5_save l D tc adX (AW idsX adX) (xs (nI i + 1).toNatClampNeg) hF1) (cwV 1 C.1.2.2.2.2 gT_X5_save rfl rfl rfl (by decide +kernel) ⟨(Nat.le_of_ble_eq_true rfl), (Nat.le_of_ble_eq_true rfl)⟩) (ci := 5) rfl rfl rfl rfl (Nat.le_of_ble_eq_true rfl) (Nat.le_of_ble_eq_true rfl) (Nat.le_of_ble_eq_true rfl) dL_law_1101 (fun r1 τ hr1 => ?_)
  obtain ⟨e1, h1⟩ := hr1
  subst e1
  refine L_aload_n C dL_law_1104 1 rfl ?_
  refine L_aload_n C dL_law_1105 3 rfl ?_
  refine L_iload_n C dL_law_1106 0 rfl ?_
  refine L_iconst (v := 1) C dL_law_1107 ci_1 ?_
  refine L_iadd C dL_law_1108 ?_
  refine L_sld C hX hbl hbA v1 dL_law_1109 ?_
  refine L_cMi (As := [.int (xs (nI i + 1).toNatClampNeg)]) C okM_0 (M_X6_save l D tc adM (AW idsM adM) (xs (nI i + 1).toNatClampNeg) hG1) (cwV 1 C.1.2.2.2.2 gT_X6_save rfl rfl rfl (by decide +kernel) ⟨(Nat.le_of_ble_eq_true rfl), (Nat.le_of_ble_eq_true rfl)⟩) (ci := 6) rfl rfl rfl rfl (Nat.le_of_ble_eq_true rfl) (Nat.le_of_ble_eq_true rfl) (Nat.le_of_ble_eq_true rfl) dL_law_1110 (fun r2 τ2 hr2 => ?_)
  obtain ⟨e2, h2⟩ := hr2
  subst e2
  refine L_icmp_eq (tgt := 1155) C dL_law_1113 rfl (fun _ => ?_) (fun h => absurd rfl h)
  exact kk τ τ2 d1 f1 ds1 n1 t1 hI1 h1 h2
set_option maxHeartbeats 1000000 in
set_option maxRecDepth 100000 in
theorem O_restore (C : CL p s m #[Value.ref b] c D vwCl (tysX tc) A code 4 RL lw_tbl) (hX : va_X b L xs s s.heap) (hbl : b < s.heap.size) (hbA : ¬ A b) (hL : L ≤ 2560) (hi : i + 5 ≤ L) (hS : IS T d f ds n t) (hT : T + 48 ≤ 30000) (hWX : WX σ d f ds n t) (hWM : WM ρ d f ds n t) (kk : ∀ (σ ρ : Mem) (d : Dst) (f : Nat → Nat) (ds : Nat → Dst) (n : Nat) (t : Nat → Nat), IS (T + 48) d f ds n t → WX σ d f ds n t → WM ρ d f ds n t → GV p l e room_1 s m #[Value.ref b] below meth c D vwCl A Q 4 1155 [(3, .int (nI i)), (2, .ref (adM (0, 0, 0))), (1, .ref (adX (0, 0, 0))), (0, .ref b)] [] (wl idsX adX (ceX tc adX) σ ++ wl idsM adM (ceM tc adM) ρ) 134 2188) : GV p l e room_1 s m #[Value.ref b] below meth c D vwCl A Q 4 1118 [(3, .int (nI i)), (2, .ref (adM (0, 0, 0))), (1, .ref (adX (0, 0, 0))), (0, .ref b)] [] (wl idsX adX (ceX tc adX) σ ++ wl idsM adM (ceM tc adM) ρ) 134 2188 := by
  obtain ⟨r, d1, f1, ds1, n1, t1, hI1, hF1, hG1⟩ := P_restore hS hT hWX hWM (xs (nI i + 1).toNatClampNeg)
  have v1 : vp_in (nI i + 1) L := vin5 hi hL (c := 1) (by decide)
  refine L_aload_n C dL_law_1118 2 rfl ?_
  refine L_aload_n C dL_law_1119 3 rfl ?_
  refine L_iload_n C dL_law_1120 0 rfl ?_
  refine L_iconst (v := 1) C dL_law_1121 ci_1 ?_
  refine L_iadd C dL_law_1122 ?_
  refine L_sld C hX hbl hbA v1 dL_law_1123 ?_
  refine L_cXi (As := [.int (xs (nI i + 1).toNatClampNeg)]) C okX_0_0 (M_X5_restore l D tc adX (AW idsX adX) (xs (nI i + 1).toNatClampNeg) hF1) (cwV 1 C.1.2.2.2.2 gT_X5_restore rfl rfl rfl (by decide +kernel) ⟨(Nat.le_of_ble_eq_true rfl), (Nat.le_of_ble_eq_true rfl)⟩) (ci := 5) rfl rfl rfl rfl (Nat.le_of_ble_eq_true rfl) (Nat.le_of_ble_eq_true rfl) (Nat.le_of_ble_eq_true rfl) dL_law_1124 (fun r1 τ hr1 => ?_)
  obtain ⟨e1, h1⟩ := hr1
  subst e1
  refine L_aload_n C dL_law_1127 1 rfl ?_
  refine L_aload_n C dL_law_1128 3 rfl ?_
  refine L_iload_n C dL_law_1129 0 rfl ?_
  refine L_iconst (v := 1) C dL_law_1130 ci_1 ?_
  refine L_iadd C dL_law_1131 ?_
  refine L_sld C hX hbl hbA v1 dL_law_1132 ?_
  refine L_cMi (As := [.int (xs (nI i + 1).toNatClampNeg)]) C okM_0 (M_X6_restore l D tc adM (AW idsM adM) (xs (nI i + 1).toNatClampNeg) hG1) (cwV 1 C.1.2.2.2.2 gT_X6_restore rfl rfl rfl (by decide +kernel) ⟨(Nat.le_of_ble_eq_true rfl), (Nat.le_of_ble_eq_true rfl)⟩) (ci := 6) rfl rfl rfl rfl (Nat.le_of_ble_eq_true rfl) (Nat.le_of_ble_eq_true rfl) (Nat.le_of_ble_eq_true rfl) dL_law_1133 (fun r2 τ2 hr2 => ?_)
  obtain ⟨e2, h2⟩ := hr2
  subst e2
  refine L_icmp_eq (tgt := 1155) C dL_law_1136 rfl (fun _ => ?_) (fun h => absurd rfl h)
  exact kk τ τ2 d1 f1 ds1 n1 t1 hI1 h1 h2
set_option maxHeartbeats 1000000 in
set_option maxRecDepth 100000 in
theorem O_checksum (C : CL p s m #[Value.ref b] c D vwCl (tysX tc) A code 4 RL lw_tbl) (hX : va_X b L xs s s.heap) (hbl : b < s.heap.size) (hbA : ¬ A b) (hL : L ≤ 2560) (hi : i + 5 ≤ L) (hS : IS T d f ds n t) (hT : T + 48 ≤ 30000) (hWX : WX σ d f ds n t) (hWM : WM ρ d f ds n t) (kk : ∀ (σ ρ : Mem) (d : Dst) (f : Nat → Nat) (ds : Nat → Dst) (n : Nat) (t : Nat → Nat), IS (T + 48) d f ds n t → WX σ d f ds n t → WM ρ d f ds n t → GV p l e room_1 s m #[Value.ref b] below meth c D vwCl A Q 4 1155 [(3, .int (nI i)), (2, .ref (adM (0, 0, 0))), (1, .ref (adX (0, 0, 0))), (0, .ref b)] [] (wl idsX adX (ceX tc adX) σ ++ wl idsM adM (ceM tc adM) ρ) 134 2188) : GV p l e room_1 s m #[Value.ref b] below meth c D vwCl A Q 4 1141 [(3, .int (nI i)), (2, .ref (adM (0, 0, 0))), (1, .ref (adX (0, 0, 0))), (0, .ref b)] [] (wl idsX adX (ceX tc adX) σ ++ wl idsM adM (ceM tc adM) ρ) 134 2188 := by
  obtain ⟨r, d1, f1, ds1, n1, t1, hI1, hF1, hG1⟩ := P_checksum hS hT hWX hWM 
  refine L_aload_n C dL_law_1141 2 rfl ?_
  refine L_cXl (As := []) C okX_0_0 (M_X5_checksum l D tc adX (AW idsX adX)  hF1) (cwV 0 C.1.2.2.2.2 gT_X5_checksum rfl rfl rfl (by decide +kernel) ⟨(Nat.le_of_ble_eq_true rfl), (Nat.le_of_ble_eq_true rfl)⟩) (ci := 5) rfl rfl rfl rfl (Nat.le_of_ble_eq_true rfl) (Nat.le_of_ble_eq_true rfl) (Nat.le_of_ble_eq_true rfl) dL_law_1142 (fun r1 τ hr1 => ?_)
  obtain ⟨e1, h1⟩ := hr1
  subst e1
  refine L_aload_n C dL_law_1145 1 rfl ?_
  refine L_cMl (As := []) C okM_0 (M_X6_checksum l D tc adM (AW idsM adM)  hG1) (cwV 0 C.1.2.2.2.2 gT_X6_checksum rfl rfl rfl (by decide +kernel) ⟨(Nat.le_of_ble_eq_true rfl), (Nat.le_of_ble_eq_true rfl)⟩) (ci := 6) rfl rfl rfl rfl (Nat.le_of_ble_eq_true rfl) (Nat.le_of_ble_eq_true rfl) (Nat.le_of_ble_eq_true rfl) dL_law_1146 (fun r2 τ2 hr2 => ?_)
  obtain ⟨e2, h2⟩ := hr2
  subst e2
  refine L_lcmp C dL_law_1149 ?_
  refine L_if_eq (tgt := 1155) C dL_law_1150 rfl (fun _ => ?_) (fun h => absurd ((lg_cmp_eq _ _).mpr rfl) h)
  exact kk τ τ2 d1 f1 ds1 n1 t1 hI1 h1 h2
end OP
