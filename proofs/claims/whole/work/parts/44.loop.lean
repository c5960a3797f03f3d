/-! PART 44 (written by wip/whole/gen43.py): the loop of the law -/
theorem stop5 {i L : Nat} (hL : L ≤ 2560) (hiL : i ≤ L) (h : ¬ Int32.ofNat L - 5 < nI i) : i + 5 ≤ L := by
  rcases Nat.lt_or_ge L (i + 5) with q | q
  · refine absurd ?_ h
    rcases Nat.lt_or_ge L 5 with w | w
    · rw [Int32.lt_iff_toInt_lt, nI_toInt (by omega)]
      have : (Int32.ofNat L - 5).toInt < 0 := by
        rcases (by omega : L = 0 ∨ L = 1 ∨ L = 2 ∨ L = 3 ∨ L = 4) with rfl | rfl | rfl | rfl | rfl <;> decide
      omega
    · have e1 : Int32.ofNat L = nI (L - 5) + 5 := by
        show nI L = nI (L - 5) + nI 5
        rw [nI_add]
        congr 1
        omega
      rw [e1, Int32.add_sub_cancel]
      exact nI_lt (by omega) (by omega)
  · exact q
section LP
variable {p : Program} {l : Launch} {e : Env} {s : State} {m : MethodId} {below : List Frame} {meth : Method} {c : Code} {D : va_G} {tc : Nat → ClassId} {A : Nat → Prop} {Q : State → Prop} {b L : Nat} {xs : Nat → Int32} {adX adM : Oid → Nat} {σ ρ : Mem} {T : Nat} {d : Dst} {f : Nat → Nat} {ds : Nat → Dst} {n : Nat} {t : Nat → Nat}
set_option maxHeartbeats 4000000 in
set_option maxRecDepth 100000 in
theorem law_op (C : CL p s m #[Value.ref b] c D vwCl (tysX tc) A code 4 RL lw_tbl) (hX : va_X b L xs s s.heap) (hbl : b < s.heap.size) (hbA : ¬ A b) (hL : L ≤ 2560) {i : Nat} (hi : i + 5 ≤ L) (hS : IS T d f ds n t) (hT : T + 48 ≤ 30000) (hWX : WX σ d f ds n t) (hWM : WM ρ d f ds n t) {j : Nat} (hj : j < 64) (kk : ∀ (σ ρ : Mem) (d : Dst) (f : Nat → Nat) (ds : Nat → Dst) (n : Nat) (t : Nat → Nat), IS (T + 48) d f ds n t → WX σ d f ds n t → WM ρ d f ds n t → GV p l e room_1 s m #[Value.ref b] below meth c D vwCl A Q 4 1155 [(3, .int (nI i)), (2, .ref (adM (0, 0, 0))), (1, .ref (adX (0, 0, 0))), (0, .ref b)] [] (wl idsX adX (ceX tc adX) σ ++ wl idsM adM (ceM tc adM) ρ) 134 2188) : GV p l e room_1 s m #[Value.ref b] below meth c D vwCl A Q 4 32 [(3, .int (nI i)), (2, .ref (adM (0, 0, 0))), (1, .ref (adX (0, 0, 0))), (0, .ref b)] [.int (nI j)] (wl idsX adX (ceX tc adX) σ ++ wl idsM adM (ceM tc adM) ρ) 134 2188 := by
  rcases (by omega : j = 0 ∨ j = 1 ∨ j = 2 ∨ j = 3 ∨ j = 4 ∨ j = 5 ∨ j = 6 ∨ j = 7 ∨ j = 8 ∨ j = 9 ∨ j = 10 ∨ j = 11 ∨ j = 12 ∨ j = 13 ∨ j = 14 ∨ j = 15 ∨ j = 16 ∨ j = 17 ∨ j = 18 ∨ j = 19 ∨ j = 20 ∨ j = 21 ∨ j = 22 ∨ j = 23 ∨ j = 24 ∨ j = 25 ∨ j = 26 ∨ j = 27 ∨ j = 28 ∨ j = 29 ∨ j = 30 ∨ j = 31 ∨ j = 32 ∨ j = 33 ∨ j = 34 ∨ j = 35 ∨ j = 36 ∨ j = 37 ∨ 38 ≤ j) with rfl | rfl | rfl | rfl | rfl | rfl | rfl | rfl | rfl | rfl | rfl | rfl | rfl | rfl | rfl | rfl | rfl | rfl | rfl | rfl | rfl | rfl | rfl | rfl | rfl | rfl | rfl | rfl | rfl | rfl | rfl | rfl | rfl | rfl | rfl | rfl | rfl | rfl | h
  · exact L_tabIn (tgt := 200) C (by decide) (by decide) rfl rfl dL_law_32 (O_addDitch C hX hbl hbA hL hi hS hT hWX hWM kk)
  · exact L_tabIn (tgt := 243) C (by decide) (by decide) rfl rfl dL_law_32 (O_setDitch C hX hbl hbA hL hi hS hT hWX hWM kk)
  · exact L_tabIn (tgt := 286) C (by decide) (by decide) rfl rfl dL_law_32 (O_addUser C hX hbl hbA hL hi hS hT hWX hWM kk)
  · exact L_tabIn (tgt := 329) C (by decide) (by decide) rfl rfl dL_law_32 (O_setField C hX hbl hbA hL hi hS hT hWX hWM kk)
  · exact L_tabIn (tgt := 382) C (by decide) (by decide) rfl rfl dL_law_32 (O_setPond C hX hbl hbA hL hi hS hT hWX hWM kk)
  · exact L_tabIn (tgt := 425) C (by decide) (by decide) rfl rfl dL_law_32 (O_setTurn C hX hbl hbA hL hi hS hT hWX hWM kk)
  · exact L_tabIn (tgt := 458) C (by decide) (by decide) rfl rfl dL_law_32 (O_setSupply C hX hbl hbA hL hi hS hT hWX hWM kk)
  · exact L_tabIn (tgt := 501) C (by decide) (by decide) rfl rfl dL_law_32 (O_setRule C hX hbl hbA hL hi hS hT hWX hWM kk)
  · exact L_tabIn (tgt := 524) C (by decide) (by decide) rfl rfl dL_law_32 (O_setFutile C hX hbl hbA hL hi hS hT hWX hWM kk)
  · exact L_tabIn (tgt := 547) C (by decide) (by decide) rfl rfl dL_law_32 (O_ditches C hX hbl hbA hL hi hS hT hWX hWM kk)
  · exact L_tabIn (tgt := 560) C (by decide) (by decide) rfl rfl dL_law_32 (O_users C hX hbl hbA hL hi hS hT hWX hWM kk)
  · exact L_tabIn (tgt := 573) C (by decide) (by decide) rfl rfl dL_law_32 (O_userByAge C hX hbl hbA hL hi hS hT hWX hWM kk)
  · exact L_tabIn (tgt := 596) C (by decide) (by decide) rfl rfl dL_law_32 (O_time C hX hbl hbA hL hi hS hT hWX hWM kk)
  · exact L_tabIn (tgt := 609) C (by decide) (by decide) rfl rfl dL_law_32 (O_asks C hX hbl hbA hL hi hS hT hWX hWM kk)
  · exact L_tabIn (tgt := 632) C (by decide) (by decide) rfl rfl dL_law_32 (O_gets C hX hbl hbA hL hi hS hT hWX hWM kk)
  · exact L_tabIn (tgt := 655) C (by decide) (by decide) rfl rfl dL_law_32 (O_inflow C hX hbl hbA hL hi hS hT hWX hWM kk)
  · exact L_tabIn (tgt := 678) C (by decide) (by decide) rfl rfl dL_law_32 (O_loses C hX hbl hbA hL hi hS hT hWX hWM kk)
  · exact L_tabIn (tgt := 701) C (by decide) (by decide) rfl rfl dL_law_32 (O_turn C hX hbl hbA hL hi hS hT hWX hWM kk)
  · exact L_tabIn (tgt := 714) C (by decide) (by decide) rfl rfl dL_law_32 (O_limit C hX hbl hbA hL hi hS hT hWX hWM kk)
  · exact L_tabIn (tgt := 737) C (by decide) (by decide) rfl rfl dL_law_32 (O_leastSupply C hX hbl hbA hL hi hS hT hWX hWM kk)
  · exact L_tabIn (tgt := 760) C (by decide) (by decide) rfl rfl dL_law_32 (O_usefulGate C hX hbl hbA hL hi hS hT hWX hWM kk)
  · exact L_tabIn (tgt := 783) C (by decide) (by decide) rfl rfl dL_law_32 (O_advance C hX hbl hbA hL hi hS hT hWX hWM kk)
  · exact L_tabIn (tgt := 806) C (by decide) (by decide) rfl rfl dL_law_32 (O_account C hX hbl hbA hL hi hS hT hWX hWM kk)
  · exact L_tabIn (tgt := 829) C (by decide) (by decide) rfl rfl dL_law_32 (O_pond C hX hbl hbA hL hi hS hT hWX hWM kk)
  · exact L_tabIn (tgt := 852) C (by decide) (by decide) rfl rfl dL_law_32 (O_missed C hX hbl hbA hL hi hS hT hWX hWM kk)
  · exact L_tabIn (tgt := 875) C (by decide) (by decide) rfl rfl dL_law_32 (O_willMiss C hX hbl hbA hL hi hS hT hWX hWM kk)
  · exact L_tabIn (tgt := 908) C (by decide) (by decide) rfl rfl dL_law_32 (O_hoursToFull C hX hbl hbA hL hi hS hT hWX hWM kk)
  · exact L_tabIn (tgt := 931) C (by decide) (by decide) rfl rfl dL_law_32 (O_gain C hX hbl hbA hL hi hS hT hWX hWM kk)
  · exact L_tabIn (tgt := 964) C (by decide) (by decide) rfl rfl dL_law_32 (O_complaint C hX hbl hbA hL hi hS hT hWX hWM kk)
  · exact L_tabIn (tgt := 997) C (by decide) (by decide) rfl rfl dL_law_32 (O_settle C hX hbl hbA hL hi hS hT hWX hWM kk)
  · exact L_tabIn (tgt := 1010) C (by decide) (by decide) rfl rfl dL_law_32 (O_isShut C hX hbl hbA hL hi hS hT hWX hWM kk)
  · exact L_tabIn (tgt := 1033) C (by decide) (by decide) rfl rfl dL_law_32 (O_append C hX hbl hbA hL hi hS hT hWX hWM kk)
  · exact L_tabIn (tgt := 1056) C (by decide) (by decide) rfl rfl dL_law_32 (O_clearText C hX hbl hbA hL hi hS hT hWX hWM kk)
  · exact L_tabIn (tgt := 1069) C (by decide) (by decide) rfl rfl dL_law_32 (O_faultPosition C hX hbl hbA hL hi hS hT hWX hWM kk)
  · exact L_tabIn (tgt := 1082) C (by decide) (by decide) rfl rfl dL_law_32 (O_read C hX hbl hbA hL hi hS hT hWX hWM kk)
  · exact L_tabIn (tgt := 1095) C (by decide) (by decide) rfl rfl dL_law_32 (O_save C hX hbl hbA hL hi hS hT hWX hWM kk)
  · exact L_tabIn (tgt := 1118) C (by decide) (by decide) rfl rfl dL_law_32 (O_restore C hX hbl hbA hL hi hS hT hWX hWM kk)
  · exact L_tabIn (tgt := 1141) C (by decide) (by decide) rfl rfl dL_law_32 (O_checksum C hX hbl hbA hL hi hS hT hWX hWM kk)
  · refine L_tabOut (tgt := 1155) C (Or.inr ?_) rfl dL_law_32 ?_
    · rw [nI_toInt (by omega)]
      omega
    · exact kk σ ρ d f ds n t (hS.up (Nat.le_add_right _ _) hT) hWX hWM
set_option maxHeartbeats 4000000 in
set_option maxRecDepth 100000 in
theorem law_loop (C : CL p s m #[Value.ref b] c D vwCl (tysX tc) A code 4 RL lw_tbl) (hX : va_X b L xs s s.heap) (hbl : b < s.heap.size) (hbA : ¬ A b) (hL : L ≤ 2560) (hE : ∀ (i : Nat) (σ ρ : Mem), GV p l e room_1 s m #[Value.ref b] below meth c D vwCl A Q 4 1161 [(3, .int (nI i)), (2, .ref (adM (0, 0, 0))), (1, .ref (adX (0, 0, 0))), (0, .ref b)] [] (wl idsX adX (ceX tc adX) σ ++ wl idsM adM (ceM tc adM) ρ) 134 2188) : ∀ (N k : Nat), 5 * k ≤ L → L + 1 ≤ 5 * k + N → ∀ (σ ρ : Mem) (d : Dst) (f : Nat → Nat) (ds : Nat → Dst) (n : Nat) (t : Nat → Nat), IS (48 * k) d f ds n t → WX σ d f ds n t → WM ρ d f ds n t → GV p l e room_1 s m #[Value.ref b] below meth c D vwCl A Q 4 18 [(3, .int (nI (5 * k))), (2, .ref (adM (0, 0, 0))), (1, .ref (adX (0, 0, 0))), (0, .ref b)] [] (wl idsX adX (ceX tc adX) σ ++ wl idsM adM (ceM tc adM) ρ) 134 2188 := by
  intro N
  induction N with
  | zero => intro k h1 h2; exact absurd h2 (by omega)
  | succ N ih =>
    intro k hk hN σ ρ d f ds n t hS hWX hWM
    refine L_iload_n C dL_law_18 0 rfl ?_
    refine L_aload_n C dL_law_19 3 rfl ?_
    refine L_slen C hX hbl hbA dL_law_20 ?_
    refine L_iconst (v := 5) C dL_law_21 ci_5 ?_
    refine L_isub C dL_law_22 ?_
    refine L_icmp_gt (tgt := 1161) C dL_law_23 rfl (fun _ => hE (5 * k) σ ρ) (fun h => ?_)
    have h5 : 5 * k + 5 ≤ L := stop5 hL hk h
    refine L_aload_n C dL_law_26 3 rfl ?_
    refine L_iload_n C dL_law_27 0 rfl ?_
    refine L_sld C hX hbl hbA (vp_in_nI (by omega) (by omega)) dL_law_28 ?_
    refine L_bipush (v := 63) C dL_law_29 (by decide +kernel) ?_
    refine L_iand C dL_law_31 ?_
    obtain ⟨j, hj, ej⟩ := pk_andE (xs (nI (5 * k)).toNatClampNeg) (m := 63) 6 (by decide)
    rw [ej]
    refine law_op C hX hbl hbA hL h5 hS (by omega) hWX hWM hj (fun σ ρ d f ds n t hS hWX hWM => ?_)
    refine L_iinc (v := nI (5 * (k + 1))) C dL_law_1155 0 rfl (by rw [ci_5]; exact nI_add (5 * k) 5) (by decide) rfl ?_
    refine L_goto (tgt := 18) C dL_law_1158 rfl ?_
    exact ih (k + 1) h5 (by omega) σ ρ d f ds n t hS hWX hWM
end LP
