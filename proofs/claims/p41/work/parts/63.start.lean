/-! PART 63 (written by wip/p41/gen63.py): the start of the law -/
theorem inT_X0 : ∀ w ∈ u_ws RX0 TX0 3, w ∈ lw_tbl := fun w h => (goodIn_r (big := lw_tbl) (u_ws RX0 TX0 3) [52, 54, 56] (by decide +kernel) (by decide +kernel) w h).1
theorem inT_X1 : ∀ w ∈ u_ws RX1 TX1 6, w ∈ lw_tbl := fun w h => (goodIn_r (big := lw_tbl) (u_ws RX1 TX1 6) [203, 205, 207, 209, 211, 213] (by decide +kernel) (by decide +kernel) w h).1
theorem inT_X2 : ∀ w ∈ u_ws RX2 TX2 10, w ∈ lw_tbl := fun w h => (goodIn_r (big := lw_tbl) (u_ws RX2 TX2 10) [164, 166, 168, 170, 172, 174, 176, 178, 180, 182] (by decide +kernel) (by decide +kernel) w h).1
theorem inT_X3 : ∀ w ∈ u_ws RX3 TX3 5, w ∈ lw_tbl := fun w h => (goodIn_r (big := lw_tbl) (u_ws RX3 TX3 5) [227, 229, 231, 233, 235] (by decide +kernel) (by decide +kernel) w h).1
theorem inT_X4 : ∀ w ∈ u_ws RX4 TX4 12, w ∈ lw_tbl := fun w h => (goodIn_r (big := lw_tbl) (u_ws RX4 TX4 12) [94, 96, 98, 100, 102, 104, 106, 108, 110, 112, 114, 116] (by decide +kernel) (by decide +kernel) w h).1
theorem inT_X5 : ∀ w ∈ u_ws RX5 TX5 6, w ∈ lw_tbl := fun w h => (goodIn_r (big := lw_tbl) (u_ws RX5 TX5 6) [245, 247, 249, 251, 253, 255] (by decide +kernel) (by decide +kernel) w h).1
theorem gT_init5 : GoodIn lw_tbl wsX5_init := goodIn_r _ [23, 24, 25, 26, 27, 28, 13, 239, 240, 241, 216, 242, 186, 187, 17, 243, 217, 218, 18, 244, 29, 30, 31, 32, 33, 138, 35, 141, 59, 144, 147, 149, 157, 160, 37, 14, 60, 15, 39, 40, 41, 62, 63, 64, 119, 120, 121, 122, 123, 124, 16, 125, 126, 127, 128, 129, 151, 130, 131, 132, 133, 134, 135, 136, 137, 42, 45, 49, 189, 190, 191, 192, 194, 197, 200, 201, 220, 221, 222, 225, 238, 226, 164, 166, 168, 170, 172, 174, 176, 178, 180, 182, 245, 247, 249, 251, 253, 255, 203, 205, 207, 209, 211, 213, 227, 229, 231, 233, 235, 52, 54, 56, 94, 96, 98, 100, 102, 104, 106, 108, 110, 112, 114, 116] (by decide +kernel) (by decide +kernel)
theorem ao_K {C : String} {s : State} {a : Array Value} (h : (Cond.arrayOver (.object C)).before a s = true) : ∃ cA, ArrOfT s cA (.object C) ∧ va_RA s cA (.object C) := by
  obtain ⟨comp, cA, kA, h1, h2, h3, h4, h5⟩ := Cond.arrayOver_spec h
  exact ⟨cA, fun N z => ⟨(fun k h => by cases h), kA, h3, comp, h4⟩, kA, comp, h3, h4, h1, h5⟩
theorem ac_K {ty : FieldType} {s : State} {a : Array Value} (hty : ∀ cA, s.vm.findClass ("[" ++ ty.toString) = some cA → va_RA s cA ty) (h : (Cond.arrayClass ty).before a s = true) : ∃ cA, ArrOfT s cA ty ∧ va_RA s cA ty := by
  obtain ⟨cA, kA, comp, h1, h2, h3⟩ := Cond.arrayClass_spec h
  exact ⟨cA, fun N z => ⟨(fun k h => by cases h), kA, h2, comp, h3⟩, hty cA h1⟩
theorem Inv_d0 : Inv 0 d0 := by
  have e2 : d0 2 = 0 := rfl
  have e1 : d0 1 = 1 := rfl
  refine ⟨⟨by decide, by decide, fun c h1 h2 => ?_, fun i hi => ?_, fun u hu => ?_⟩, by decide, by decide, by decide, by decide, by decide, by decide, fun i hi => ?_, fun h hh => ?_, fun i hi => ?_, fun u hu => ?_, fun r hr => ?_⟩
  · rw [e1] at h2; omega
  · rw [e1] at hi
    obtain rfl : i = 0 := by omega
    decide
  · rw [e2] at hu; omega
  · rcases (by omega : i = 0 ∨ i = 1 ∨ i = 2 ∨ i = 3 ∨ i = 4 ∨ i = 5 ∨ i = 6) with rfl | rfl | rfl | rfl | rfl | rfl | rfl <;> decide
  · unfold d0
    rw [if_neg (by omega), if_neg (by omega), if_pos (by omega)]
    decide
  · rw [e1] at hi
    obtain rfl : i = 0 := by omega
    decide
  · rw [e2] at hu; omega
  · rw [e2] at hr; omega
set_option maxHeartbeats 4000000 in
set_option maxRecDepth 100000 in
theorem whole_start {p : Program} {e : Env} {s : State} {m : MethodId} {below : List Frame} {meth : Method} {c : Code} (l : Launch) (hflags : l.flags = flags0) {b L : Nat} {xs : Nat → Int32} (hL : L ≤ 260) (C0 : lw_At p s m meth c b L xs) : W p l e room_1 s m #[Value.ref b] below meth c s.heap [] 0 0 (lw_Z below #[Value.ref b] s) (entryFrame m ([Value.ref b] : List Value).toArray 12) := by
  obtain ⟨hx, hb, hr, hml, hown, hts, hX, hbl, hlocks, hgv⟩ := C0
  obtain ⟨c0, i0, hk0⟩ := u_known (C := RX0) (T := TX0) (N := 3) (n := 3) hts inT_X0 (hts (.instantiable RX0 3) (List.mem_of_getElem? (i := 37) (by decide +kernel)))
  obtain ⟨c1, i1, hk1⟩ := u_known (C := RX1) (T := TX1) (N := 6) (n := 6) hts inT_X1 (hts (.instantiable RX1 6) (List.mem_of_getElem? (i := 187) (by decide +kernel)))
  obtain ⟨c2, i2, hk2⟩ := u_known (C := RX2) (T := TX2) (N := 10) (n := 10) hts inT_X2 (hts (.instantiable RX2 10) (List.mem_of_getElem? (i := 28) (by decide +kernel)))
  obtain ⟨c3, i3, hk3⟩ := u_known (C := RX3) (T := TX3) (N := 5) (n := 5) hts inT_X3 (hts (.instantiable RX3 5) (List.mem_of_getElem? (i := 218) (by decide +kernel)))
  obtain ⟨c4, i4, hk4⟩ := u_known (C := RX4) (T := TX4) (N := 12) (n := 12) hts inT_X4 (hts (.instantiable RX4 12) (List.mem_of_getElem? (i := 60) (by decide +kernel)))
  obtain ⟨c5, i5, hk5⟩ := u_known (C := RX5) (T := TX5) (N := 6) (n := 6) hts inT_X5 (hts (.instantiable RX5 6) (List.mem_of_getElem? (i := 20) (by decide +kernel)))
  obtain ⟨D, hKc⟩ : ∃ D : va_G, ∀ (k : Nat) (q : vw_C), vwCl[k]? = some q → u_Kn s q.1 q.2.1 q.2.2 (D.1 k) (D.2 k) := by
    refine ⟨(fun k => if k = 0 then c0 else if k = 1 then c1 else if k = 2 then c2 else if k = 3 then c3 else if k = 4 then c4 else c5, fun k => if k = 0 then i0 else if k = 1 then i1 else if k = 2 then i2 else if k = 3 then i3 else if k = 4 then i4 else i5), fun k q hq => ?_⟩
    match k, hq with
    | 0, hq => cases hq; exact hk0
    | 1, hq => cases hq; exact hk1
    | 2, hq => cases hq; exact hk2
    | 3, hq => cases hq; exact hk3
    | 4, hq => cases hq; exact hk4
    | 5, hq => cases hq; exact hk5
    | k + 6, hq => simp [vwCl] at hq
  obtain ⟨t0, a0⟩ := ac_K (ty := .int) (fun _ h => h) (hts (.arrayClass .int) (List.mem_of_getElem? (i := 59) (by decide +kernel)))
  obtain ⟨t1, a1⟩ := ac_K (ty := .boolean) (fun _ h => h) (hts (.arrayClass .boolean) (List.mem_of_getElem? (i := 216) (by decide +kernel)))
  obtain ⟨t2, a2⟩ := ac_K (ty := .char) (fun _ h => h) (hts (.arrayClass .char) (List.mem_of_getElem? (i := 238) (by decide +kernel)))
  obtain ⟨t3, a3⟩ := ao_K (C := RX0) (hts (.arrayOver (.object RX0)) (List.mem_of_getElem? (i := 34) (by decide +kernel)))
  obtain ⟨t4, a4⟩ := ao_K (C := RX4) (hts (.arrayOver (.object RX4)) (List.mem_of_getElem? (i := 36) (by decide +kernel)))
  obtain ⟨t5, a5⟩ := ao_K (C := RX2) (hts (.arrayOver (.object RX2)) (List.mem_of_getElem? (i := 185) (by decide +kernel)))
  obtain ⟨tc, hK⟩ : ∃ tc : Nat → ClassId, va_K D vwCl (tysX tc) s := by
    refine ⟨fun k => if k = 0 then t0 else if k = 1 then t1 else if k = 2 then t2 else if k = 3 then t3 else if k = 4 then t4 else t5, hKc, fun k q hq => ?_⟩
    match k, hq with
    | 0, hq => cases hq; exact a0
    | 1, hq => cases hq; exact a1
    | 2, hq => cases hq; exact a2
    | 3, hq => cases hq; exact a3
    | 4, hq => cases hq; exact a4
    | 5, hq => cases hq; exact a5
    | k + 6, hq => simp [tysX] at hq
  have hNX : NXA s := ⟨trivial, va_AO.of (hts _ (List.mem_of_getElem? (i := 34) (by decide +kernel))), va_AO.of (hts _ (List.mem_of_getElem? (i := 36) (by decide +kernel))), va_AO.of (hts _ (List.mem_of_getElem? (i := 185) (by decide +kernel))), va_Nw.of rfl (hts _ (List.mem_of_getElem? (i := 38) (by decide +kernel))), va_Nw.of rfl (hts _ (List.mem_of_getElem? (i := 61) (by decide +kernel))), va_Nw.of rfl (hts _ (List.mem_of_getElem? (i := 188) (by decide +kernel))), va_Nw.of rfl (hts _ (List.mem_of_getElem? (i := 219) (by decide +kernel)))⟩
  have C : CL p s m #[Value.ref b] c D vwCl (tysX tc) (fun q => s.heap.size ≤ q) code 12 RL lw_tbl := ⟨⟨hx, hb, hml, hown, hts⟩, hK, hNX, fun _ h => h, trivial⟩
  have hbA : ¬ (fun q : Nat => s.heap.size ≤ q) b := Nat.not_le.mpr hbl
  have K : GV p l e room_1 s m #[Value.ref b] below meth c D vwCl (fun q => s.heap.size ≤ q) (lw_Z below #[Value.ref b] s) 12 0 [(0, .ref b)] [] [] 0 0 := by
    refine L_new C inT_X5 tyX5 tyX5_ok (List.mem_of_getElem? (i := 19) (by decide +kernel)) (List.mem_of_getElem? (i := 20) (by decide +kernel)) (List.mem_of_getElem? (i := 12) (by decide +kernel)) (ci := 5) rfl [.null, .null, .null, .null, .null, .null] (fun j hj => by rcases (by omega : j = 0 ∨ j = 1 ∨ j = 2 ∨ j = 3 ∨ j = 4 ∨ j = 5) with rfl | rfl | rfl | rfl | rfl | rfl <;> rfl) (Nat.le_of_ble_eq_true rfl) (Nat.le_of_ble_eq_true rfl) dL_law_0 (fun a => ?_)
    refine L_dup C dL_law_3 rfl ?_
    refine L_cI C (y := yX5_init) (wy := wsX5_init) (fun sz => K_X5 l D tc a sz) (cwI 0 C.1.2.2.2.2 gT_init5 rfl rfl rfl (C.1.2.2.2.2 _ (List.mem_of_getElem? (i := 12) (by decide +kernel))) (C.1.2.2.2.2 _ (List.mem_of_getElem? (i := 21) (by decide +kernel))) (C.1.2.2.2.2 _ (List.mem_of_getElem? (i := 22) (by decide +kernel))) rfl (by decide +kernel) ⟨(Nat.le_of_ble_eq_true rfl), (Nat.le_of_ble_eq_true rfl)⟩) (Nat.le_of_ble_eq_true rfl) (Nat.le_of_ble_eq_true rfl) (Nat.le_of_ble_eq_true rfl) dL_law_4 (fun u hu => ?_)
    obtain ⟨adX, σ⟩ := u
    obtain ⟨hq, hRX, hRb⟩ := hu
    subst hq
    refine L_astore_n (lv' := [(1, .ref (adX (0, 0, 0))), (0, .ref b)]) C dL_law_7 (by decide) rfl ?_
    refine G_ws (ws' := wl idsX0 adX (ceX tc adX) σ) rfl ?_
    refine L_bipush (v := 32) C dL_law_8 (by decide +kernel) ?_
    refine L_newi C 0 32 rfl (List.mem_of_getElem? (i := 59) (by decide +kernel)) (by decide) (by decide +kernel) (by decide +kernel) (Nat.le_of_ble_eq_true rfl) (Nat.le_of_ble_eq_true rfl) dL_law_10 (fun q1 => ?_)
    refine L_astore_n (lv' := [(2, .ref q1), (1, .ref (adX (0, 0, 0))), (0, .ref b)]) C dL_law_12 (by decide) rfl ?_
    refine L_bipush (v := 64) C dL_law_13 (by decide +kernel) ?_
    refine L_newi C 0 64 rfl (List.mem_of_getElem? (i := 59) (by decide +kernel)) (by decide) (by decide +kernel) (by decide +kernel) (Nat.le_of_ble_eq_true rfl) (Nat.le_of_ble_eq_true rfl) dL_law_15 (fun q2 => ?_)
    refine L_astore_n (lv' := [(3, .ref q2), (2, .ref q1), (1, .ref (adX (0, 0, 0))), (0, .ref b)]) C dL_law_17 (by decide) rfl ?_
    refine L_iconst (v := 4) C dL_law_18 (by decide +kernel) ?_
    refine L_newi C 0 4 rfl (List.mem_of_getElem? (i := 59) (by decide +kernel)) (by decide) (by decide +kernel) (by decide +kernel) (Nat.le_of_ble_eq_true rfl) (Nat.le_of_ble_eq_true rfl) dL_law_19 (fun q3 => ?_)
    refine L_astore (lv' := [(4, .ref q3), (3, .ref q2), (2, .ref q1), (1, .ref (adX (0, 0, 0))), (0, .ref b)]) C dL_law_21 (by decide) rfl ?_
    refine G_ws (wl_law tc adX σ q1 q2 q3).symm ?_
    have hZ : WZ (mL σ) d0 (fun _ => 0) (fun _ => d0) (mL σ) := by
      refine ⟨hRX.row (fun o h1 h2 _ => if_neg (by omega)), fun s hs => ⟨?_, fun h => absurd (show (0 : Nat) = 1 from h) (by decide)⟩, fun o _ => rfl⟩
      rw [show mL σ (2, 0, 0) = σ (2, 0, 0) from if_neg (by decide)]
      exact hRb s
    have hJ : J_L_law L xs (mL σ) (fun r _ => r = 1) := K_law (ds := fun _ => d0) Inv_d0 hZ rfl rfl rfl rfl (fun i hi => by rcases (by omega : i = 0 ∨ i = 1 ∨ i = 2 ∨ i = 3 ∨ i = 4 ∨ i = 5 ∨ i = 6) with rfl | rfl | rfl | rfl | rfl | rfl | rfl <;> rfl) rfl rfl hL (fun _ => rfl)
    have C2 : CX p s m #[Value.ref b] c D vwCl (tysX tc) NX cL_law 12 RL lw_tbl := ⟨⟨hx, hb, hml, hown, hts⟩, hK, trivial⟩
    exact M_L_law (kn := (126, 1271)) l D tc (adL adX q1 q2 q3) (fun q => s.heap.size ≤ q) L xs b C2 hX hbl hbA ⟨Nat.le_of_ble_eq_true rfl, Nat.le_of_ble_eq_true rfl⟩ (fun r τ hr1 => by
      subst hr1
      intro H locs ls hP hD hS hl
      refine va_forget (fun q hq => hS.2.2 q hq) ?_
      refine W.widen (k := 600000) (n := 7302250) (by decide) (by decide) ?_
      exact lw_ret hx hb hr hlocks dL_law_433) hJ
  have hl := lv_entry ([.ref b]) (n := 12) (Nat.le_of_ble_eq_true rfl)
  rw [lg_entry_eq]
  generalize (lg_sl ([.ref b]) ++ List.replicate (12 - (lg_sl ([.ref b])).length) Slot.unset).toArray = ls at hl ⊢
  have hl : lv_has ls 12 [(0, .ref b)] := hl
  exact K s.heap [] ls (fun k q h => by simp at h) ⟨fun i j p q h => by simp at h, fun k q h => by simp at h⟩ va_S.rf hl
