/-! PART 53 (written by wip/p41/gen40.py): the constructor of the class -/
theorem G_by {p : Program} {l : Launch} {e : Env} {R : Room} {s : State} {m : MethodId} {args : Array Value} {below : List Frame} {meth : Method} {c : Code} {D : va_G} {cl : List vw_C} {A : Nat → Prop} {Q : State → Prop} {nL pc k n : Nat} {lv : List (Nat × Value)} {st : List Value} {ws ws' : va_W} (g : Nat → Nat) (hg : ∀ (k : Nat) (q : Nat × va_E), ws'[k]? = some q → ws[g k]? = some q) (hi : ∀ i j : Nat, i < ws'.length → j < ws'.length → g i = g j → i = j) (kk : GV p l e R s m args below meth c D cl A Q nL pc lv st ws' k n) : GV p l e R s m args below meth c D cl A Q nL pc lv st ws k n := fun H locs ls hP hD hS hl => kk H locs ls (hP.by g hg) (hD.by g hg hi) hS hl
theorem ceX_cg {tc : Nat → ClassId} {ad ad' : Oid → Nat} {j : Nat} (h : ∀ k i, 7 ≤ k → k ≤ 14 → ad (k, j, i) = ad' (k, j, i)) (k i : Nat) (h1 : 7 ≤ k) (h2 : k ≤ 14) (f : Nat → Int32) : ceX tc ad (k, j, i) f = ceX tc ad' (k, j, i) f := by
  have g := fun k i h1 h2 => h k i (Nat.le_of_ble_eq_true h1) (Nat.le_of_ble_eq_true h2)
  have hk : k = 7 ∨ k = 8 ∨ k = 9 ∨ k = 10 ∨ k = 11 ∨ k = 12 ∨ k = 13 ∨ k = 14 := by omega
  rcases hk with rfl | rfl | rfl | rfl | rfl | rfl | rfl | rfl
  · show (Sum.inr (2, [.ref (ad (8, j, 0)), .ref (ad (9, j, 0)), .ref (ad (10, j, 0)), .ref (ad (11, j, 0)), .ref (ad (12, j, 0)), .int (f 5), .int (f 6), .int (f 7), .int (f 8), .int (f 9)]) : va_E) = _
    rw [g 8 0 rfl rfl, g 9 0 rfl rfl, g 10 0 rfl rfl, g 11 0 rfl rfl, g 12 0 rfl rfl]
    rfl
  · have e : (fun i => some (ad (13, j, i))) = fun i => some (ad' (13, j, i)) := funext fun i => by rw [g 13 i rfl rfl]
    show (Sum.inl (tc 3, 10, .inr (.inr (.inr (.inr (fun i => some (ad (13, j, i))))))) : va_E) = _
    rw [e]
    rfl
  · have e : (fun i => some (ad (14, j, i))) = fun i => some (ad' (14, j, i)) := funext fun i => by rw [g 14 i rfl rfl]
    show (Sum.inl (tc 4, 12, .inr (.inr (.inr (.inr (fun i => some (ad (14, j, i))))))) : va_E) = _
    rw [e]
    rfl
  all_goals rfl
theorem idsS_in {j : Nat} {o : Oid} (h : o ∈ idsS j) : ∃ k i, 7 ≤ k ∧ k ≤ 14 ∧ o = (k, j, i) := by
  unfold idsS at h
  simp only [List.mem_append, List.mem_cons, List.mem_map, List.mem_range, List.not_mem_nil, or_false] at h
  rcases h with (rfl | rfl | rfl | rfl | rfl | rfl) | ⟨i, _, rfl⟩ | ⟨i, _, rfl⟩
  · exact ⟨7, 0, by decide, by decide, rfl⟩
  · exact ⟨8, 0, by decide, by decide, rfl⟩
  · exact ⟨9, 0, by decide, by decide, rfl⟩
  · exact ⟨10, 0, by decide, by decide, rfl⟩
  · exact ⟨11, 0, by decide, by decide, rfl⟩
  · exact ⟨12, 0, by decide, by decide, rfl⟩
  · exact ⟨13, i, by decide, by decide, rfl⟩
  · exact ⟨14, i, by decide, by decide, rfl⟩
theorem wlS_cg {tc : Nat → ClassId} {ad ad' : Oid → Nat} {σ σ' : Mem} {j : Nat} (h : ∀ k i, 7 ≤ k → k ≤ 14 → ad (k, j, i) = ad' (k, j, i)) (hs : ∀ k i, 7 ≤ k → k ≤ 14 → σ (k, j, i) = σ' (k, j, i)) : wl (idsS j) ad (ceX tc ad) σ = wl (idsS j) ad' (ceX tc ad') σ' := by
  unfold wl
  apply List.map_congr_left
  intro o ho
  obtain ⟨k, i, h1, h2, rfl⟩ := idsS_in ho
  rw [h k i h1 h2, hs k i h1 h2, ceX_cg h k i h1 h2]
def pick4 {α : Type} (j : Nat) (x0 x1 x2 x3 : α) : α := if j = 0 then x0 else if j = 1 then x1 else if j = 2 then x2 else x3
def adC (a q1 q2 : Nat) (adF adT ad0 ad1 ad2 ad3 : Oid → Nat) : Oid → Nat := fun o => if o.1 = 0 then a else if o.1 = 1 then q1 else if o.1 = 2 then q2 else if o.1 = 3 ∨ o.1 = 4 ∨ o.1 = 15 then adF o else if o.1 = 5 ∨ o.1 = 6 then adT o else pick4 o.2.1 (ad0 o) (ad1 o) (ad2 o) (ad3 o)
def mC (τ0 τ1 τ2 τ3 : Mem) : Mem := fun o => if o.1 = 5 ∨ o.1 = 6 then tmem o else if 7 ≤ o.1 ∧ o.1 ≤ 14 then pick4 o.2.1 (τ0 o) (τ1 o) (τ2 o) (τ3 o) else fun _ => 0
theorem adC_S {a q1 q2 : Nat} {adF adT ad0 ad1 ad2 ad3 : Oid → Nat} (k j i : Nat) (h1 : 7 ≤ k) (h2 : k ≤ 14) : adC a q1 q2 adF adT ad0 ad1 ad2 ad3 (k, j, i) = pick4 j (ad0 (k, j, i)) (ad1 (k, j, i)) (ad2 (k, j, i)) (ad3 (k, j, i)) := by
  unfold adC
  rw [if_neg (show ¬ k = 0 by omega), if_neg (show ¬ k = 1 by omega), if_neg (show ¬ k = 2 by omega), if_neg (show ¬ (k = 3 ∨ k = 4 ∨ k = 15) by omega), if_neg (show ¬ (k = 5 ∨ k = 6) by omega)]
theorem mC_S {τ0 τ1 τ2 τ3 : Mem} (k j i : Nat) (h1 : 7 ≤ k) (h2 : k ≤ 14) : mC τ0 τ1 τ2 τ3 (k, j, i) = pick4 j (τ0 (k, j, i)) (τ1 (k, j, i)) (τ2 (k, j, i)) (τ3 (k, j, i)) := by
  unfold mC
  rw [if_neg (show ¬ (k = 5 ∨ k = 6) by omega), if_pos (show 7 ≤ k ∧ k ≤ 14 from ⟨h1, h2⟩)]
def idsB : List Oid := (((((((([((0, 0, 0) : Oid)] ++ idsS 0) ++ idsS 1) ++ [(1, 0, 0)]) ++ idsS 2) ++ idsS 3) ++ [(2, 0, 0)]) ++ ids1) ++ ids3)
def gB : List Nat := [0, 57, 114, 115, 116, 117, 121, 122, 118, 119, 120] ++ ((List.range 28).map (· + 1) ++ ((List.range 28).map (· + 29) ++ ((List.range 28).map (· + 58) ++ (List.range 28).map (· + 86))))
theorem gB_ok : ∀ k, k < 123 → idsX0[k]? = idsB[gB.getD k 0]? := by decide +kernel
theorem gB_nd : ∀ i, i < 123 → ∀ j, j < 123 → gB.getD i 0 = gB.getD j 0 → i = j := by decide +kernel
theorem gX_len : idsX0.length = 123 := by decide +kernel
theorem wl_get (ids : List Oid) (ad : Oid → Nat) (ce : Cel) (σ : Mem) (k : Nat) : (wl ids ad ce σ)[k]? = (ids[k]?).map (fun o => (ad o, ce o (σ o))) := by
  unfold wl
  exact List.getElem?_map
theorem wl_gB {ad : Oid → Nat} {ce : Cel} {σ : Mem} (k : Nat) (q : Nat × va_E) (h : (wl idsX0 ad ce σ)[k]? = some q) : (wl idsB ad ce σ)[gB.getD k 0]? = some q := by
  rw [wl_get] at h ⊢
  by_cases hk : k < 123
  · rw [← gB_ok k hk]; exact h
  · have : idsX0[k]? = none := List.getElem?_eq_none (by rw [gX_len]; omega)
    rw [this] at h
    exact absurd h (by simp)
theorem wl_gBi {ad : Oid → Nat} {ce : Cel} {σ : Mem} (i j : Nat) (hi : i < (wl idsX0 ad ce σ).length) (hj : j < (wl idsX0 ad ce σ).length) (h : gB.getD i 0 = gB.getD j 0) : i = j := by
  have e : (wl idsX0 ad ce σ).length = 123 := by
    unfold wl
    rw [List.length_map, gX_len]
  rw [e] at hi hj
  exact gB_nd i hi j hj h
def cU (tc : Nat → ClassId) (q1 : Nat) (f : Nat → Option Nat) : Nat × va_E := (q1, .inl (tc 5, 2, rfs f))
theorem wB_eq (tc : Nat → ClassId) (a q1 q2 : Nat) (adF adT ad0 ad1 ad2 ad3 : Oid → Nat) (τ0 τ1 τ2 τ3 : Mem) : wl idsB (adC a q1 q2 adF adT ad0 ad1 ad2 ad3) (ceX tc (adC a q1 q2 adF adT ad0 ad1 ad2 ad3)) (mC τ0 τ1 τ2 τ3) = (((((((([(a, .inr (5, [.ref (ad0 (7, 0, 0)), .ref (ad1 (7, 1, 0)), .ref q1, .ref q2, .ref (adF (3, 0, 0)), .ref (adT (5, 0, 0))]))] ++ wl (idsS 0) ad0 (ceX tc ad0) τ0) ++ wl (idsS 1) ad1 (ceX tc ad1) τ1) ++ [cU tc q1 (fun i => some (adC a q1 q2 adF adT ad0 ad1 ad2 ad3 (7, 2 + i, 0)))]) ++ wl (idsS 2) ad2 (ceX tc ad2) τ2) ++ wl (idsS 3) ad3 (ceX tc ad3) τ3) ++ [(q2, .inl (tc 1, 2, .inl (fun _ => 0)))]) ++ wl ids1 adF (ceX tc adF) zmem) ++ wl ids3 adT (ceX tc adT) tmem) := by
  rw [← wlS_cg (ad := adC a q1 q2 adF adT ad0 ad1 ad2 ad3) (σ := mC τ0 τ1 τ2 τ3) (j := 0) (fun k i h1 h2 => adC_S k 0 i h1 h2) (fun k i h1 h2 => mC_S k 0 i h1 h2),
    ← wlS_cg (ad := adC a q1 q2 adF adT ad0 ad1 ad2 ad3) (σ := mC τ0 τ1 τ2 τ3) (j := 1) (fun k i h1 h2 => adC_S k 1 i h1 h2) (fun k i h1 h2 => mC_S k 1 i h1 h2),
    ← wlS_cg (ad := adC a q1 q2 adF adT ad0 ad1 ad2 ad3) (σ := mC τ0 τ1 τ2 τ3) (j := 2) (fun k i h1 h2 => adC_S k 2 i h1 h2) (fun k i h1 h2 => mC_S k 2 i h1 h2),
    ← wlS_cg (ad := adC a q1 q2 adF adT ad0 ad1 ad2 ad3) (σ := mC τ0 τ1 τ2 τ3) (j := 3) (fun k i h1 h2 => adC_S k 3 i h1 h2) (fun k i h1 h2 => mC_S k 3 i h1 h2)]
  unfold idsB wl
  rw [List.map_append, List.map_append, List.map_append, List.map_append, List.map_append, List.map_append, List.map_append, List.map_append]
  rfl
set_option maxHeartbeats 8000000 in
set_option maxRecDepth 100000 in
theorem K_X5 (l : Launch) (D : va_G) (tc : Nat → ClassId) (a sz : Nat) : Met l yX5_init wsX5_init ({ frames := 3, cells := 122, slots := 1165, locals := 67 }) (va_Pc [.ref a] (IniP D vwCl (tysX tc) a 5 [.null, .null, .null, .null, .null, .null] sz)) (va_Qv (fun u : (Oid → Nat) × Mem => u.1 (0, 0, 0) = a ∧ RepX u.2 0 d0 ∧ ∀ k, u.2 (2, 0, 0) k = nI 0) (IniB D vwCl (fun u => wl idsX0 u.1 (ceX tc u.1) u.2) (AF a sz)) (AF a sz)) 122 1165 (AF a sz) := by
  refine G_met (cc := cX5_init) (own := RX5) (maxL := 1) rfl rfl (by decide) rfl (Nat.le_of_ble_eq_true rfl) ?_
  intro p e s m below meth c C hr hlocks
  have uX5 : ∀ w ∈ u_ws RX5 TX5 6, w ∈ wsX5_init := by decide +kernel
  have uX2 : ∀ w ∈ u_ws RX2 TX2 10, w ∈ wsX5_init := by decide +kernel
  have uX1 : ∀ w ∈ u_ws RX1 TX1 6, w ∈ wsX5_init := by decide +kernel
  have uX3 : ∀ w ∈ u_ws RX3 TX3 5, w ∈ wsX5_init := by decide +kernel
  refine G_aload_n C dX5_init_0 0 rfl ?_
  refine G_obj C (List.mem_of_getElem? (i := 1) rfl) (List.mem_of_getElem? (i := 2) rfl) (List.mem_of_getElem? (i := 3) rfl) (Nat.le_of_ble_eq_true rfl) (Nat.le_of_ble_eq_true rfl) dX5_init_1 ?_
  refine G_aload_n C dX5_init_4 0 rfl ?_
  refine G_new C uX2 tyX2 tyX2_ok (List.mem_of_getElem? (i := 4) rfl) (List.mem_of_getElem? (i := 5) rfl) (List.mem_of_getElem? (i := 6) rfl) (ci := 2) rfl [.null, .null, .null, .null, .null, .int 0, .int 0, .int 0, .int 0, .int 0] (fun j hj => by rcases (by omega : j = 0 ∨ j = 1 ∨ j = 2 ∨ j = 3 ∨ j = 4 ∨ j = 5 ∨ j = 6 ∨ j = 7 ∨ j = 8 ∨ j = 9) with rfl | rfl | rfl | rfl | rfl | rfl | rfl | rfl | rfl | rfl <;> rfl) (Nat.le_of_ble_eq_true rfl) (Nat.le_of_ble_eq_true rfl) dX5_init_5 (fun q => ?_)
  refine G_dup C dX5_init_8 rfl ?_
  refine G_ws (ws' := [(a, .inr (5, [.null, .null, .null, .null, .null, .null]))] ++ [(q, .inr (2, [.null, .null, .null, .null, .null, .int 0, .int 0, .int 0, .int 0, .int 0]))]) rfl ?_
  refine G_cI C (y := yX2_init) (wy := wsX2_init) (fun sz => K_X2 l D tc q sz 0 (by decide)) (cwI 0 C.1.2.2.2.2 gX5_init_X2_init rfl rfl rfl (C.1.2.2.2.2 _ (List.mem_of_getElem? (i := 6) rfl)) (C.1.2.2.2.2 _ (List.mem_of_getElem? (i := 20) rfl)) (C.1.2.2.2.2 _ (List.mem_of_getElem? (i := 21) rfl)) rfl (by decide +kernel) ⟨(Nat.le_of_ble_eq_true rfl), (Nat.le_of_ble_eq_true rfl)⟩) (Nat.le_of_ble_eq_true rfl) (Nat.le_of_ble_eq_true rfl) (Nat.le_of_ble_eq_true rfl) dX5_init_9 (fun u0 hu0 => ?_)
  obtain ⟨ad0, τ0⟩ := u0
  obtain ⟨hq, hR0⟩ := hu0
  subst hq
  refine G_putF C 0 (ws' := ([(a, .inr (5, [.ref (ad0 (7, 0, 0)), .null, .null, .null, .null, .null]))] ++ wl (idsS 0) ad0 (ceX tc ad0) τ0)) rfl uX5 tyX5 tyX5_ok nmX5 (ci := 5) rfl 0 (by decide) (List.mem_of_getElem? (i := 7) rfl) rfl rfl (ty := .object "IrrigationDistrict$State") (by decide +kernel) rfl rfl (Nat.le_of_ble_eq_true rfl) rfl dX5_init_12 ?_
  refine G_aload_n C dX5_init_15 0 rfl ?_
  refine G_new C uX2 tyX2 tyX2_ok (List.mem_of_getElem? (i := 4) rfl) (List.mem_of_getElem? (i := 5) rfl) (List.mem_of_getElem? (i := 6) rfl) (ci := 2) rfl [.null, .null, .null, .null, .null, .int 0, .int 0, .int 0, .int 0, .int 0] (fun j hj => by rcases (by omega : j = 0 ∨ j = 1 ∨ j = 2 ∨ j = 3 ∨ j = 4 ∨ j = 5 ∨ j = 6 ∨ j = 7 ∨ j = 8 ∨ j = 9) with rfl | rfl | rfl | rfl | rfl | rfl | rfl | rfl | rfl | rfl <;> rfl) (Nat.le_of_ble_eq_true rfl) (Nat.le_of_ble_eq_true rfl) dX5_init_16 (fun q => ?_)
  refine G_dup C dX5_init_19 rfl ?_
  refine G_ws (ws' := ([(a, .inr (5, [.ref (ad0 (7, 0, 0)), .null, .null, .null, .null, .null]))] ++ wl (idsS 0) ad0 (ceX tc ad0) τ0) ++ [(q, .inr (2, [.null, .null, .null, .null, .null, .int 0, .int 0, .int 0, .int 0, .int 0]))]) rfl ?_
  refine G_cI C (y := yX2_init) (wy := wsX2_init) (fun sz => K_X2 l D tc q sz 1 (by decide)) (cwI 0 C.1.2.2.2.2 gX5_init_X2_init rfl rfl rfl (C.1.2.2.2.2 _ (List.mem_of_getElem? (i := 6) rfl)) (C.1.2.2.2.2 _ (List.mem_of_getElem? (i := 20) rfl)) (C.1.2.2.2.2 _ (List.mem_of_getElem? (i := 21) rfl)) rfl (by decide +kernel) ⟨(Nat.le_of_ble_eq_true rfl), (Nat.le_of_ble_eq_true rfl)⟩) (Nat.le_of_ble_eq_true rfl) (Nat.le_of_ble_eq_true rfl) (Nat.le_of_ble_eq_true rfl) dX5_init_20 (fun u1 hu1 => ?_)
  obtain ⟨ad1, τ1⟩ := u1
  obtain ⟨hq, hR1⟩ := hu1
  subst hq
  refine G_putF C 0 (ws' := (([(a, .inr (5, [.ref (ad0 (7, 0, 0)), .ref (ad1 (7, 1, 0)), .null, .null, .null, .null]))] ++ wl (idsS 0) ad0 (ceX tc ad0) τ0) ++ wl (idsS 1) ad1 (ceX tc ad1) τ1)) rfl uX5 tyX5 tyX5_ok nmX5 (ci := 5) rfl 1 (by decide) (List.mem_of_getElem? (i := 8) rfl) rfl rfl (ty := .object "IrrigationDistrict$State") (by decide +kernel) rfl rfl (Nat.le_of_ble_eq_true rfl) rfl dX5_init_23 ?_
  refine G_aload_n C dX5_init_26 0 rfl ?_
  refine G_iconst (v := 2) C dX5_init_27 ci_2 ?_
  refine G_newq C 5 2 rfl C.2.2.1.2.2.2.1 (List.mem_of_getElem? (i := 4) rfl) (by decide) (by decide) (by decide) (Nat.le_of_ble_eq_true rfl) (Nat.le_of_ble_eq_true rfl) dX5_init_28 (fun q1 => ?_)
  refine G_ws (ws' := ((([(a, .inr (5, [.ref (ad0 (7, 0, 0)), .ref (ad1 (7, 1, 0)), .null, .null, .null, .null]))] ++ wl (idsS 0) ad0 (ceX tc ad0) τ0) ++ wl (idsS 1) ad1 (ceX tc ad1) τ1) ++ [cU tc q1 (fun _ => none)])) rfl ?_
  refine G_dup C dX5_init_31 rfl ?_
  refine G_iconst (v := 0) C dX5_init_32 ci_0 ?_
  refine G_new C uX2 tyX2 tyX2_ok (List.mem_of_getElem? (i := 4) rfl) (List.mem_of_getElem? (i := 5) rfl) (List.mem_of_getElem? (i := 6) rfl) (ci := 2) rfl [.null, .null, .null, .null, .null, .int 0, .int 0, .int 0, .int 0, .int 0] (fun j hj => by rcases (by omega : j = 0 ∨ j = 1 ∨ j = 2 ∨ j = 3 ∨ j = 4 ∨ j = 5 ∨ j = 6 ∨ j = 7 ∨ j = 8 ∨ j = 9) with rfl | rfl | rfl | rfl | rfl | rfl | rfl | rfl | rfl | rfl <;> rfl) (Nat.le_of_ble_eq_true rfl) (Nat.le_of_ble_eq_true rfl) dX5_init_33 (fun q => ?_)
  refine G_dup C dX5_init_36 rfl ?_
  refine G_ws (ws' := ((([(a, .inr (5, [.ref (ad0 (7, 0, 0)), .ref (ad1 (7, 1, 0)), .null, .null, .null, .null]))] ++ wl (idsS 0) ad0 (ceX tc ad0) τ0) ++ wl (idsS 1) ad1 (ceX tc ad1) τ1) ++ [cU tc q1 (fun _ => none)]) ++ [(q, .inr (2, [.null, .null, .null, .null, .null, .int 0, .int 0, .int 0, .int 0, .int 0]))]) rfl ?_
  refine G_cI C (y := yX2_init) (wy := wsX2_init) (fun sz => K_X2 l D tc q sz 2 (by decide)) (cwI 0 C.1.2.2.2.2 gX5_init_X2_init rfl rfl rfl (C.1.2.2.2.2 _ (List.mem_of_getElem? (i := 6) rfl)) (C.1.2.2.2.2 _ (List.mem_of_getElem? (i := 20) rfl)) (C.1.2.2.2.2 _ (List.mem_of_getElem? (i := 21) rfl)) rfl (by decide +kernel) ⟨(Nat.le_of_ble_eq_true rfl), (Nat.le_of_ble_eq_true rfl)⟩) (Nat.le_of_ble_eq_true rfl) (Nat.le_of_ble_eq_true rfl) (Nat.le_of_ble_eq_true rfl) dX5_init_37 (fun u2 hu2 => ?_)
  obtain ⟨ad2, τ2⟩ := u2
  obtain ⟨hq, hR2⟩ := hu2
  subst hq
  refine G_astq C 57 5 58 2 (r := (RX2, TX2, 10)) (a := q1) (v := ad2 (7, 2, 0)) (cA := tc 5) (N := 2) (f := (fun _ => none)) rfl rfl rfl rfl (i := 0) (by unfold vp_in; decide +kernel) (ws' := (((([(a, .inr (5, [.ref (ad0 (7, 0, 0)), .ref (ad1 (7, 1, 0)), .null, .null, .null, .null]))] ++ wl (idsS 0) ad0 (ceX tc ad0) τ0) ++ wl (idsS 1) ad1 (ceX tc ad1) τ1) ++ [cU tc q1 (va_up (fun _ => none) 0 (some (ad2 (7, 2, 0))))]) ++ wl (idsS 2) ad2 (ceX tc ad2) τ2)) (by rw [(by decide : ((0 : Int32)).toNatClampNeg = 0)]; rfl) dX5_init_40 ?_
  refine G_dup C dX5_init_41 rfl ?_
  refine G_iconst (v := 1) C dX5_init_42 ci_1 ?_
  refine G_new C uX2 tyX2 tyX2_ok (List.mem_of_getElem? (i := 4) rfl) (List.mem_of_getElem? (i := 5) rfl) (List.mem_of_getElem? (i := 6) rfl) (ci := 2) rfl [.null, .null, .null, .null, .null, .int 0, .int 0, .int 0, .int 0, .int 0] (fun j hj => by rcases (by omega : j = 0 ∨ j = 1 ∨ j = 2 ∨ j = 3 ∨ j = 4 ∨ j = 5 ∨ j = 6 ∨ j = 7 ∨ j = 8 ∨ j = 9) with rfl | rfl | rfl | rfl | rfl | rfl | rfl | rfl | rfl | rfl <;> rfl) (Nat.le_of_ble_eq_true rfl) (Nat.le_of_ble_eq_true rfl) dX5_init_43 (fun q => ?_)
  refine G_dup C dX5_init_46 rfl ?_
  refine G_ws (ws' := (((([(a, .inr (5, [.ref (ad0 (7, 0, 0)), .ref (ad1 (7, 1, 0)), .null, .null, .null, .null]))] ++ wl (idsS 0) ad0 (ceX tc ad0) τ0) ++ wl (idsS 1) ad1 (ceX tc ad1) τ1) ++ [cU tc q1 (va_up (fun _ => none) 0 (some (ad2 (7, 2, 0))))]) ++ wl (idsS 2) ad2 (ceX tc ad2) τ2) ++ [(q, .inr (2, [.null, .null, .null, .null, .null, .int 0, .int 0, .int 0, .int 0, .int 0]))]) rfl ?_
  refine G_cI C (y := yX2_init) (wy := wsX2_init) (fun sz => K_X2 l D tc q sz 3 (by decide)) (cwI 0 C.1.2.2.2.2 gX5_init_X2_init rfl rfl rfl (C.1.2.2.2.2 _ (List.mem_of_getElem? (i := 6) rfl)) (C.1.2.2.2.2 _ (List.mem_of_getElem? (i := 20) rfl)) (C.1.2.2.2.2 _ (List.mem_of_getElem? (i := 21) rfl)) rfl (by decide +kernel) ⟨(Nat.le_of_ble_eq_true rfl), (Nat.le_of_ble_eq_true rfl)⟩) (Nat.le_of_ble_eq_true rfl) (Nat.le_of_ble_eq_true rfl) (Nat.le_of_ble_eq_true rfl) dX5_init_47 (fun u3 hu3 => ?_)
  obtain ⟨ad3, τ3⟩ := u3
  obtain ⟨hq, hR3⟩ := hu3
  subst hq
  refine G_astq C 57 5 86 2 (r := (RX2, TX2, 10)) (a := q1) (v := ad3 (7, 3, 0)) (cA := tc 5) (N := 2) (f := (va_up (fun _ => none) 0 (some (ad2 (7, 2, 0))))) rfl rfl rfl rfl (i := 1) (by unfold vp_in; decide +kernel) (ws' := ((((([(a, .inr (5, [.ref (ad0 (7, 0, 0)), .ref (ad1 (7, 1, 0)), .null, .null, .null, .null]))] ++ wl (idsS 0) ad0 (ceX tc ad0) τ0) ++ wl (idsS 1) ad1 (ceX tc ad1) τ1) ++ [cU tc q1 (va_up (va_up (fun _ => none) 0 (some (ad2 (7, 2, 0)))) 1 (some (ad3 (7, 3, 0))))]) ++ wl (idsS 2) ad2 (ceX tc ad2) τ2) ++ wl (idsS 3) ad3 (ceX tc ad3) τ3)) (by rw [(by decide : ((1 : Int32)).toNatClampNeg = 1)]; rfl) dX5_init_50 ?_
  refine G_putF C 0 (ws' := ((((([(a, .inr (5, [.ref (ad0 (7, 0, 0)), .ref (ad1 (7, 1, 0)), .ref q1, .null, .null, .null]))] ++ wl (idsS 0) ad0 (ceX tc ad0) τ0) ++ wl (idsS 1) ad1 (ceX tc ad1) τ1) ++ [cU tc q1 (va_up (va_up (fun _ => none) 0 (some (ad2 (7, 2, 0)))) 1 (some (ad3 (7, 3, 0))))]) ++ wl (idsS 2) ad2 (ceX tc ad2) τ2) ++ wl (idsS 3) ad3 (ceX tc ad3) τ3)) rfl uX5 tyX5 tyX5_ok nmX5 (ci := 5) rfl 2 (by decide) (List.mem_of_getElem? (i := 9) rfl) rfl rfl (ty := .array (.object "IrrigationDistrict$State")) (by decide +kernel) rfl rfl (Nat.le_of_ble_eq_true rfl) rfl dX5_init_51 ?_
  refine G_aload_n C dX5_init_54 0 rfl ?_
  refine G_iconst (v := 2) C dX5_init_55 ci_2 ?_
  refine G_newz C 1 2 rfl (List.mem_of_getElem? (i := 10) rfl) (by decide) (by decide) (by decide) (Nat.le_of_ble_eq_true rfl) (Nat.le_of_ble_eq_true rfl) dX5_init_56 (fun q2 => ?_)
  refine G_putF C 0 (ws' := (((((([(a, .inr (5, [.ref (ad0 (7, 0, 0)), .ref (ad1 (7, 1, 0)), .ref q1, .ref q2, .null, .null]))] ++ wl (idsS 0) ad0 (ceX tc ad0) τ0) ++ wl (idsS 1) ad1 (ceX tc ad1) τ1) ++ [cU tc q1 (va_up (va_up (fun _ => none) 0 (some (ad2 (7, 2, 0)))) 1 (some (ad3 (7, 3, 0))))]) ++ wl (idsS 2) ad2 (ceX tc ad2) τ2) ++ wl (idsS 3) ad3 (ceX tc ad3) τ3) ++ [(q2, .inl (tc 1, 2, .inl (fun _ => 0)))])) rfl uX5 tyX5 tyX5_ok nmX5 (ci := 5) rfl 3 (by decide) (List.mem_of_getElem? (i := 11) rfl) rfl rfl (ty := .array .boolean) (by decide +kernel) rfl rfl (Nat.le_of_ble_eq_true rfl) rfl dX5_init_58 ?_
  refine G_aload_n C dX5_init_61 0 rfl ?_
  refine G_new C uX1 tyX1 tyX1_ok (List.mem_of_getElem? (i := 12) rfl) (List.mem_of_getElem? (i := 13) rfl) (List.mem_of_getElem? (i := 14) rfl) (ci := 1) rfl [.null, .null, .null, .null, .null, .int 0] (fun j hj => by rcases (by omega : j = 0 ∨ j = 1 ∨ j = 2 ∨ j = 3 ∨ j = 4 ∨ j = 5) with rfl | rfl | rfl | rfl | rfl | rfl <;> rfl) (Nat.le_of_ble_eq_true rfl) (Nat.le_of_ble_eq_true rfl) dX5_init_62 (fun q => ?_)
  refine G_dup C dX5_init_65 rfl ?_
  refine G_cIN C (y := yX1_init) (wy := wsX1_init) (fun sz => K_X1 l D tc q sz) ⟨va_cnB 0 C.1.2.2.2.2 gX5_init_X1_init_n29 rfl rfl rfl C.2.2.1.2.2.2.2.2.2.1 (C.1.2.2.2.2 _ (List.mem_of_getElem? (i := 14) rfl)) (by decide +kernel) ⟨(Nat.le_of_ble_eq_true rfl), (Nat.le_of_ble_eq_true rfl)⟩, rfl, C.1.2.2.2.2 _ (List.mem_of_getElem? (i := 68) rfl)⟩ (Nat.le_of_ble_eq_true rfl) (Nat.le_of_ble_eq_true rfl) (Nat.le_of_ble_eq_true rfl) dX5_init_66 (fun adF hq => ?_)
  subst hq
  refine G_putF C 0 (ws' := ((((((([(a, .inr (5, [.ref (ad0 (7, 0, 0)), .ref (ad1 (7, 1, 0)), .ref q1, .ref q2, .ref (adF (3, 0, 0)), .null]))] ++ wl (idsS 0) ad0 (ceX tc ad0) τ0) ++ wl (idsS 1) ad1 (ceX tc ad1) τ1) ++ [cU tc q1 (va_up (va_up (fun _ => none) 0 (some (ad2 (7, 2, 0)))) 1 (some (ad3 (7, 3, 0))))]) ++ wl (idsS 2) ad2 (ceX tc ad2) τ2) ++ wl (idsS 3) ad3 (ceX tc ad3) τ3) ++ [(q2, .inl (tc 1, 2, .inl (fun _ => 0)))]) ++ wl ids1 adF (ceX tc adF) zmem)) rfl uX5 tyX5 tyX5_ok nmX5 (ci := 5) rfl 4 (by decide) (List.mem_of_getElem? (i := 15) rfl) rfl rfl (ty := .object "IrrigationDistrict$Flow") (by decide +kernel) rfl rfl (Nat.le_of_ble_eq_true rfl) rfl dX5_init_69 ?_
  refine G_aload_n C dX5_init_72 0 rfl ?_
  refine G_new C uX3 tyX3 tyX3_ok (List.mem_of_getElem? (i := 16) rfl) (List.mem_of_getElem? (i := 17) rfl) (List.mem_of_getElem? (i := 18) rfl) (ci := 3) rfl [.int 0, .int 0, .int 0, .null, .int 0] (fun j hj => by rcases (by omega : j = 0 ∨ j = 1 ∨ j = 2 ∨ j = 3 ∨ j = 4) with rfl | rfl | rfl | rfl | rfl <;> rfl) (Nat.le_of_ble_eq_true rfl) (Nat.le_of_ble_eq_true rfl) dX5_init_73 (fun q => ?_)
  refine G_dup C dX5_init_76 rfl ?_
  refine G_cIN C (y := yX3_init) (wy := wsX3_init) (fun sz => K_X3 l D tc q sz) ⟨va_cnB 0 C.1.2.2.2.2 gX5_init_X3_init_n36 rfl rfl rfl C.2.2.1.2.2.2.2.2.2.2 (C.1.2.2.2.2 _ (List.mem_of_getElem? (i := 18) rfl)) (by decide +kernel) ⟨(Nat.le_of_ble_eq_true rfl), (Nat.le_of_ble_eq_true rfl)⟩, rfl, C.1.2.2.2.2 _ (List.mem_of_getElem? (i := 76) rfl)⟩ (Nat.le_of_ble_eq_true rfl) (Nat.le_of_ble_eq_true rfl) (Nat.le_of_ble_eq_true rfl) dX5_init_77 (fun adT hq => ?_)
  subst hq
  refine G_putF C 0 (ws' := (((((((([(a, .inr (5, [.ref (ad0 (7, 0, 0)), .ref (ad1 (7, 1, 0)), .ref q1, .ref q2, .ref (adF (3, 0, 0)), .ref (adT (5, 0, 0))]))] ++ wl (idsS 0) ad0 (ceX tc ad0) τ0) ++ wl (idsS 1) ad1 (ceX tc ad1) τ1) ++ [cU tc q1 (va_up (va_up (fun _ => none) 0 (some (ad2 (7, 2, 0)))) 1 (some (ad3 (7, 3, 0))))]) ++ wl (idsS 2) ad2 (ceX tc ad2) τ2) ++ wl (idsS 3) ad3 (ceX tc ad3) τ3) ++ [(q2, .inl (tc 1, 2, .inl (fun _ => 0)))]) ++ wl ids1 adF (ceX tc adF) zmem) ++ wl ids3 adT (ceX tc adT) tmem)) rfl uX5 tyX5 tyX5_ok nmX5 (ci := 5) rfl 5 (by decide) (List.mem_of_getElem? (i := 19) rfl) rfl rfl (ty := .object "IrrigationDistrict$Text") (by decide +kernel) rfl rfl (Nat.le_of_ble_eq_true rfl) rfl dX5_init_80 ?_
  refine G_cell 57 (a := q1) (e1 := .inl (tc 5, 2, rfs (va_up (va_up (fun _ => none) 0 (some (ad2 (7, 2, 0)))) 1 (some (ad3 (7, 3, 0)))))) (e2 := .inl (tc 5, 2, rfs (fun i => some (adC a q1 q2 adF adT ad0 ad1 ad2 ad3 (7, 2 + i, 0))))) rfl (va_at_refs (fun i hi => ?_)) (ws' := (((((((([(a, .inr (5, [.ref (ad0 (7, 0, 0)), .ref (ad1 (7, 1, 0)), .ref q1, .ref q2, .ref (adF (3, 0, 0)), .ref (adT (5, 0, 0))]))] ++ wl (idsS 0) ad0 (ceX tc ad0) τ0) ++ wl (idsS 1) ad1 (ceX tc ad1) τ1) ++ [cU tc q1 (fun i => some (adC a q1 q2 adF adT ad0 ad1 ad2 ad3 (7, 2 + i, 0)))]) ++ wl (idsS 2) ad2 (ceX tc ad2) τ2) ++ wl (idsS 3) ad3 (ceX tc ad3) τ3) ++ [(q2, .inl (tc 1, 2, .inl (fun _ => 0)))]) ++ wl ids1 adF (ceX tc adF) zmem) ++ wl ids3 adT (ceX tc adT) tmem)) rfl ?_
  · rcases (by omega : i = 0 ∨ i = 1) with rfl | rfl
    · rw [adC_S 7 (2 + 0) 0 (by decide) (by decide)]; rfl
    · rw [adC_S 7 (2 + 1) 0 (by decide) (by decide)]; rfl
  refine G_ws (wB_eq tc a q1 q2 adF adT ad0 ad1 ad2 ad3 τ0 τ1 τ2 τ3).symm ?_
  refine G_by (fun k => gB.getD k 0) wl_gB wl_gBi ?_
  refine G_vret C hr hlocks dX5_init_83 (adC a q1 q2 adF adT ad0 ad1 ad2 ad3, mC τ0 τ1 τ2 τ3) ⟨rfl, hR0.row (fun o h1 h2 h3 => ?_), fun k => rfl⟩ rfl
  obtain ⟨k, j, i⟩ := o
  replace h3 : j = 0 := h3
  subst h3
  exact mC_S k 0 i h1 h2
