theorem fl_left {D : va_G} {cl : List vw_C} {w1 w2 : va_W} {H : Heap} (h : va_P D cl (w1 ++ w2) H) : va_P D cl w1 H ∧ va_P D cl w2 H := by
  refine ⟨fun k q hk => h k q ?_, fun k q hk => h (w1.length + k) q ?_⟩
  · rw [List.getElem?_append_left (List.getElem?_eq_some_iff.mp hk).1]
    exact hk
  · rw [List.getElem?_append_right (Nat.le_add_right _ _), Nat.add_sub_cancel_left]
    exact hk
theorem fl_NW {args : Array Value} {s : State} (hts : ∀ w ∈ lw_tbl, w.before args s = true) : fo_NW s :=
  ⟨va_AO.of (hts _ (List.mem_append_right _ (List.mem_of_getElem? (i := 38) (by decide +kernel)))), va_Nw.of rfl (hts _ (List.mem_append_right _ (List.mem_of_getElem? (i := 22) (by decide +kernel)))), va_Nw.of rfl (hts _ (List.mem_append_right _ (List.mem_of_getElem? (i := 41) (by decide +kernel)))), va_Nw.of rfl (hts _ (List.mem_append_right _ (List.mem_of_getElem? (i := 59) (by decide +kernel)))), va_Nw.of rfl (hts _ (List.mem_append_right _ (List.mem_of_getElem? (i := 69) (by decide +kernel)))), va_Nw.of rfl (hts _ (List.mem_append_right _ (List.mem_of_getElem? (i := 91) (by decide +kernel))))⟩
theorem fo_Pre1_blind {D : va_G} {ca : Nat → ClassId} {h0 sz : Nat} : FrameBlind (fo_Pre1 D ca h0 sz) := by
  intro a U g mk q
  obtain ⟨q0, q1, qP, qK, qD, qN⟩ := q
  exact ⟨q0, q1, qP, va_K.moved (u := U) (U := U.calling g mk a) (Vm.Alike.refl U.vm) qK, qD, fo_NW_same rfl qN⟩
theorem fr_Pre1_blind {D : va_G} {ca : Nat → ClassId} {h0 sz : Nat} : FrameBlind (fr_Pre1 D ca h0 sz) := by
  intro a U g mk q
  obtain ⟨q0, q1, qP, qK, qD⟩ := q
  exact ⟨q0, q1, qP, va_K.moved (u := U) (U := U.calling g mk a) (Vm.Alike.refl U.vm) qK, qD⟩
theorem fl_arr {args : Array Value} {s : State} (ty : FieldType) (h : (Cond.arrayClass ty).before args s = true) : ∃ cA : ClassId, ArrOfT s cA ty ∧ s.vm.findClass ("[" ++ ty.toString) = some cA := by
  obtain ⟨cA, kA, comp, hfind, hk, hkind⟩ := Cond.arrayClass_spec h
  exact ⟨cA, fun N z => ⟨(fun k h => by cases h), kA, hk, comp, hkind⟩, hfind⟩
theorem fl_arrO {C : String} {s : State} (h : va_AO C s) : ∃ cA : ClassId, ArrOfT s cA (.object C) ∧ va_RA s cA (.object C) := by
  obtain ⟨comp, c, k, h1, h2, h3, h4, h5⟩ := Cond.arrayOver_spec h
  exact ⟨c, fun N z => ⟨(fun k h => by cases h), k, h3, comp, h4⟩, k, comp, h3, h4, h1, h5⟩
theorem fl_ci9 {R : Room} {args : Array Value} {s : State} (hT : ∀ w ∈ fo_T, w.before args s = true) (hR : (rm_q_FairOrder_init).frames + 1 ≤ R.frames ∧ 8 + (2 + 11) + (rm_q_FairOrder_init).locals ≤ R.locals) : CallB R s args RX9 9 yX0_init cX0_init 2 none ws_q_FairOrder_init rm_q_FairOrder_init 50 402 0 ∧ yX0_init.name = "<init>" ∧ (Cond.instanceMethod yX0_init).before args s = true :=
  ⟨callB_of 0 hT (fo_good (fo_tb 16 (by decide +kernel) rfl)) rfl rfl rfl (hT _ (fo_tb 1 (by decide +kernel) rfl)) (hT _ (fo_tb 14 (by decide +kernel) rfl)) ⟨by decide +kernel, by decide +kernel, by decide +kernel⟩ hR, rfl, hT _ (fo_tb 15 (by decide +kernel) rfl)⟩
theorem fl_ci12 {R : Room} {args : Array Value} {s : State} (hT : ∀ w ∈ fo_T, w.before args s = true) (hR : (rm_r_init).frames + 1 ≤ R.frames ∧ 8 + (1 + 11) + (rm_r_init).locals ≤ R.locals) : CallB R s args RX9 12 yX6_init cX6_init 1 none ws_r_init rm_r_init 24 400 0 ∧ yX6_init.name = "<init>" ∧ (Cond.instanceMethod yX6_init).before args s = true :=
  ⟨callB_of 0 hT (fo_good (fo_tb 528 (by decide +kernel) rfl)) rfl rfl rfl (hT _ (fo_tb 7 (by decide +kernel) rfl)) (hT _ (fo_tb 526 (by decide +kernel) rfl)) ⟨by decide +kernel, by decide +kernel, by decide +kernel⟩ hR, rfl, hT _ (fo_tb 527 (by decide +kernel) rfl)⟩
set_option maxHeartbeats 40000000 in
set_option maxRecDepth 100000 in
/-- THE LAW, from its entry -/
theorem whole_start {p : Program} {e : Env} {s : State} {m : MethodId} {below : List Frame} {meth : Method} {c : Code} (l : Launch) {b L : Nat} {xs : Nat → Int32} (hL : L ≤ 3072) (C0 : lw_At p s m meth c b L xs) : W p l e room_1 s m #[Value.ref b] below meth c s.heap [] 0 0 (lw_Z below #[Value.ref b] s) (entryFrame m ([Value.ref b] : List Value).toArray 4) := by
  obtain ⟨hx, hb, hr, hml, hown, hts, hX, hbl, hlocks, hgv⟩ := id C0
  have hT : ∀ w ∈ fo_T, w.before #[Value.ref b] s = true := fun w h => hts w (List.mem_filter.mp h).1
  have hown : s.vm.findClass RX9 = some m.cls := hown
  have hA : ∀ q : Nat, s.heap.size ≤ q → (fun q : Nat => s.heap.size ≤ q) q := fun _ h => h
  obtain ⟨c0, iS0, hKn0⟩ := u_known (C := RX0) (T := TX0) (N := 15) (n := 15) hT fo_in0 (hT _ (fo_tb 13 (by decide +kernel) rfl))
  obtain ⟨c1, iS1, hKn1⟩ := u_known (C := RX1) (T := TX1) (N := 10) (n := 10) hT fo_in1 (hT _ (fo_tb 90 (by decide +kernel) rfl))
  obtain ⟨c2, iS2, hKn2⟩ := u_known (C := RX2) (T := TX2) (N := 2) (n := 2) hT fo_in2 (hT _ (fo_tb 21 (by decide +kernel) rfl))
  obtain ⟨c3, iS3, hKn3⟩ := u_known (C := RX3) (T := TX3) (N := 2) (n := 2) hT fo_in3 (hT _ (fo_tb 40 (by decide +kernel) rfl))
  obtain ⟨c4, iS4, hKn4⟩ := u_known (C := RX4) (T := TX4) (N := 1) (n := 1) hT fo_in4 (hT _ (fo_tb 58 (by decide +kernel) rfl))
  obtain ⟨c5, iS5, hKn5⟩ := u_known (C := RX5) (T := TX5) (N := 5) (n := 5) hT fo_in5 (hT _ (fo_tb 68 (by decide +kernel) rfl))
  obtain ⟨c6, iS6, hKn6⟩ := u_known (C := RX6) (T := TX6) (N := 37) (n := 37) hT fo_in6 (hT _ (fo_tb 525 (by decide +kernel) rfl))
  obtain ⟨D, hKc⟩ : ∃ D : va_G, ∀ (k : Nat) (q : vw_C), vwCl[k]? = some q → u_Kn s q.1 q.2.1 q.2.2 (D.1 k) (D.2 k) := by
    refine ⟨(fun k => match k with | 0 => c0 | 1 => c1 | 2 => c2 | 3 => c3 | 4 => c4 | 5 => c5 | _ => c6, fun k => match k with | 0 => iS0 | 1 => iS1 | 2 => iS2 | 3 => iS3 | 4 => iS4 | 5 => iS5 | _ => iS6), ?_⟩
    intro k q hq
    match k, hq with
    | 0, hq => cases hq; exact hKn0
    | 1, hq => cases hq; exact hKn1
    | 2, hq => cases hq; exact hKn2
    | 3, hq => cases hq; exact hKn3
    | 4, hq => cases hq; exact hKn4
    | 5, hq => cases hq; exact hKn5
    | 6, hq => cases hq; exact hKn6
    | k + 7, hq => simp [vwCl] at hq
  have hNW := fl_NW hts
  obtain ⟨aI, hI1, hI2⟩ := fl_arr .int (fo_acI hT)
  obtain ⟨aJ, hJ1, hJ2⟩ := fl_arr .long (fo_acJ hT)
  obtain ⟨aZ, hZ1, hZ2⟩ := fl_arr .boolean (fo_acZ hT)
  obtain ⟨aR, hR1, hR2⟩ := fl_arrO hNW.1
  obtain ⟨ca, hca⟩ : ∃ ca : Nat → ClassId, ca 0 = aI ∧ ca 1 = aJ ∧ ca 2 = aZ ∧ ca 3 = aR := ⟨fun k => match k with | 0 => aI | 1 => aJ | 2 => aZ | _ => aR, rfl, rfl, rfl, rfl⟩
  obtain ⟨rfl, rfl, rfl, rfl⟩ := hca
  have hKF : va_K D vwCl (fo_tys ca) s := by
    refine ⟨hKc, fun k q h => ?_⟩
    match k, h with
    | 0, h => cases h; exact ⟨hI1, hI2⟩
    | 1, h => cases h; exact ⟨hJ1, hJ2⟩
    | 2, h => cases h; exact ⟨hZ1, hZ2⟩
    | 3, h => cases h; exact ⟨hR1, hR2⟩
    | k + 4, h => simp [fo_tys] at h
  have hKM : va_K D vwCl (fr_tys ca) s := hKF.sub [0, 1, 2] rfl
  have hS : va_S (fun q : Nat => s.heap.size ≤ q) s.heap s.heap [] := va_S.rf
  have hP : va_P D vwCl [] s.heap := fun k q h => by simp at h
  have hD : va_D (fun q : Nat => s.heap.size ≤ q) [] := ⟨fun i j p q h => by simp at h, fun k q h => by simp at h⟩
  have hl := lv_entry ([.ref b]) (n := 4) (Nat.le_of_ble_eq_true rfl)
  rw [lg_entry_eq]
  generalize (lg_sl ([.ref b]) ++ List.replicate (4 - (lg_sl ([.ref b])).length) Slot.unset).toArray = ls at hl ⊢
  have hl : lv_has ls 4 [(0, .ref b)] := hl
  refine va_new (ci := 0) (fs := [.null, .null, .null, .null, .null, .null, .null, .null, .int 0, .int 0, .int 0, .int 0, .long 0, .int 0, .int 0]) (C := RX0) (T := TX0) (N := 15) hx hb hT fo_in0 tyX0 tyX0_ok hown (hT _ (fo_tb 12 (by decide +kernel) rfl)) (hT _ (fo_tb 13 (by decide +kernel) rfl)) (hT _ (fo_tb 1 (by decide +kernel) rfl)) hKF hP hD hS hA rfl (fun j hj => by rcases (show j = 0 ∨ j = 1 ∨ j = 2 ∨ j = 3 ∨ j = 4 ∨ j = 5 ∨ j = 6 ∨ j = 7 ∨ j = 8 ∨ j = 9 ∨ j = 10 ∨ j = 11 ∨ j = 12 ∨ j = 13 ∨ j = 14 by omega) with rfl | rfl | rfl | rfl | rfl | rfl | rfl | rfl | rfl | rfl | rfl | rfl | rfl | rfl | rfl <;> rfl) (Nat.le_of_ble_eq_true rfl) (Nat.le_of_ble_eq_true rfl) dX9_law_0 (fun q0 H hP hD hS => ?_)
  replace hP : va_P D vwCl (fo_vx 1 (fun _ => q0) (fun _ => .inr (0, [.null, .null, .null, .null, .null, .null, .null, .null, .int 0, .int 0, .int 0, .int 0, .long 0, .int 0, .int 0]))) H := hP
  replace hD : va_D (fun q : Nat => s.heap.size ≤ q) (fo_vx 1 (fun _ => q0) (fun _ => .inr (0, [.null, .null, .null, .null, .null, .null, .null, .null, .int 0, .int 0, .int 0, .int 0, .long 0, .int 0, .int 0]))) := hD
  refine lv_dup hx hb dX9_law_3 rfl ?_
  refine va_callv (va_runI (As := []) (rest := [.ref q0]) ⟨hx, hb, hml, hown, hT⟩ (c_q_FairOrder_init l D ca q0 H.size) (fl_ci9 hT ⟨Nat.le_of_ble_eq_true rfl, Nat.le_of_ble_eq_true rfl⟩) ⟨fo_Pre1_blind, fun U hU hW => ⟨rfl, by rw [hU], by rw [hU]; exact hP, va_K.moved hW.alike hKF, hD.weaken (fun _ _ _ _ => trivial), fo_NW_warm hW hNW⟩⟩ rfl rfl hl.1 rfl (lv_room (Nat.le_of_ble_eq_true rfl)) dX9_law_4 ⟨Nat.le_of_ble_eq_true rfl, Nat.le_of_ble_eq_true rfl⟩) hS (fun q _ h => fo_A_sub hD hS hA q h) (fo_A_sub hD hS hA) (fun adF t H1 locs1 ht hvm hw hB hz1 hk1 hS1 => ?_)
  obtain ⟨haF, hPF, -, hDF0⟩ := hB
  rw [ht] at hPF
  have hDF : va_D (fun q : Nat => s.heap.size ≤ q) (fo_vx 51 adF (fo_ce ca adF (fun _ _ _ => 0, fun _ _ _ => 0))) := hDF0.weaken (fun k q _ h => fo_A_sub hD hS hA q.1 h)
  subst haF
  refine lv_astore_n (lv' := [(1, .ref (adF 0)), (0, .ref b)]) hx hb dX9_law_7 rfl hl (by decide) rfl (fun ls hl => ?_)
  refine va_new (ci := 6) (fs := [.int 0, .null, .null, .long 0, .long 0, .long 0, .int 0, .int 0, .int 0, .null, .null, .null, .null, .null, .null, .null, .null, .int 0, .null, .int 0, .null, .null, .null, .null, .null, .long 0, .long 0, .null, .null, .null, .null, .null, .null, .null, .null, .long 0, .long 0]) (C := RX6) (T := TX6) (N := 37) hx hb hT fo_in6 tyX6 tyX6_ok hown (hT _ (fo_tb 524 (by decide +kernel) rfl)) (hT _ (fo_tb 525 (by decide +kernel) rfl)) (hT _ (fo_tb 7 (by decide +kernel) rfl)) hKF hPF hDF hS1 hA rfl (fun j hj => by rcases (show j = 0 ∨ j = 1 ∨ j = 2 ∨ j = 3 ∨ j = 4 ∨ j = 5 ∨ j = 6 ∨ j = 7 ∨ j = 8 ∨ j = 9 ∨ j = 10 ∨ j = 11 ∨ j = 12 ∨ j = 13 ∨ j = 14 ∨ j = 15 ∨ j = 16 ∨ j = 17 ∨ j = 18 ∨ j = 19 ∨ j = 20 ∨ j = 21 ∨ j = 22 ∨ j = 23 ∨ j = 24 ∨ j = 25 ∨ j = 26 ∨ j = 27 ∨ j = 28 ∨ j = 29 ∨ j = 30 ∨ j = 31 ∨ j = 32 ∨ j = 33 ∨ j = 34 ∨ j = 35 ∨ j = 36 by omega) with rfl | rfl | rfl | rfl | rfl | rfl | rfl | rfl | rfl | rfl | rfl | rfl | rfl | rfl | rfl | rfl | rfl | rfl | rfl | rfl | rfl | rfl | rfl | rfl | rfl | rfl | rfl | rfl | rfl | rfl | rfl | rfl | rfl | rfl | rfl | rfl | rfl <;> rfl) (Nat.le_of_ble_eq_true rfl) (Nat.le_of_ble_eq_true rfl) dX9_law_8 (fun q1 H2 hP2 hD2 hS2 => ?_)
  obtain ⟨hPF2, hPM2⟩ := fl_left hP2
  replace hPM2 : va_P D vwCl (fo_vx 1 (fun _ => q1) (fun _ => .inr (6, [.int 0, .null, .null, .long 0, .long 0, .long 0, .int 0, .int 0, .int 0, .null, .null, .null, .null, .null, .null, .null, .null, .int 0, .null, .int 0, .null, .null, .null, .null, .null, .long 0, .long 0, .null, .null, .null, .null, .null, .null, .null, .null, .long 0, .long 0]))) H2 := hPM2
  have hne : ∀ j, j < 51 → q1 ≠ adF j := by
    intro j hj h
    have g1 : (fo_vx 51 adF (fo_ce ca adF (fun _ _ _ => 0, fun _ _ _ => 0)) ++ [(q1, Sum.inr (6, [.int 0, .null, .null, .long 0, .long 0, .long 0, .int 0, .int 0, .int 0, .null, .null, .null, .null, .null, .null, .null, .null, .int 0, .null, .int 0, .null, .null, .null, .null, .null, .long 0, .long 0, .null, .null, .null, .null, .null, .null, .null, .null, .long 0, .long 0]))])[j]? = some (adF j, fo_ce ca adF (fun _ _ _ => 0, fun _ _ _ => 0) j) := by
      rw [List.getElem?_append_left (by rw [fo_vx_len]; exact hj)]
      exact fo_vx_at hj
    have g2 : (fo_vx 51 adF (fo_ce ca adF (fun _ _ _ => 0, fun _ _ _ => 0)) ++ [(q1, Sum.inr (6, [.int 0, .null, .null, .long 0, .long 0, .long 0, .int 0, .int 0, .int 0, .null, .null, .null, .null, .null, .null, .null, .null, .int 0, .null, .int 0, .null, .null, .null, .null, .null, .long 0, .long 0, .null, .null, .null, .null, .null, .null, .null, .null, .long 0, .long 0]))])[51]? = some (q1, Sum.inr (6, [.int 0, .null, .null, .long 0, .long 0, .long 0, .int 0, .int 0, .int 0, .null, .null, .null, .null, .null, .null, .null, .null, .int 0, .null, .int 0, .null, .null, .null, .null, .null, .long 0, .long 0, .null, .null, .null, .null, .null, .null, .null, .null, .long 0, .long 0])) := by
      rw [List.getElem?_append_right (by rw [fo_vx_len]; omega), fo_vx_len]
      rfl
    have := hD2.1 j 51 _ _ g1 g2 h.symm
    omega
  have hDM2 : va_D (fun q : Nat => s.heap.size ≤ q) (fo_vx 1 (fun _ => q1) (fun _ => .inr (6, [.int 0, .null, .null, .long 0, .long 0, .long 0, .int 0, .int 0, .int 0, .null, .null, .null, .null, .null, .null, .null, .null, .int 0, .null, .int 0, .null, .null, .null, .null, .null, .long 0, .long 0, .null, .null, .null, .null, .null, .null, .null, .null, .long 0, .long 0]))) := by
    refine ⟨fun i j p q hp hq _ => ?_, fun k q hk => ?_⟩
    · have a1 := (fo_vx_get hp).1
      have a2 := (fo_vx_get hq).1
      omega
    · obtain ⟨_, rfl⟩ := fo_vx_get hk
      have g2 : (fo_vx 51 adF (fo_ce ca adF (fun _ _ _ => 0, fun _ _ _ => 0)) ++ [(q1, Sum.inr (6, [.int 0, .null, .null, .long 0, .long 0, .long 0, .int 0, .int 0, .int 0, .null, .null, .null, .null, .null, .null, .null, .null, .int 0, .null, .int 0, .null, .null, .null, .null, .null, .long 0, .long 0, .null, .null, .null, .null, .null, .null, .null, .null, .long 0, .long 0]))])[51]? = some (q1, Sum.inr (6, [.int 0, .null, .null, .long 0, .long 0, .long 0, .int 0, .int 0, .int 0, .null, .null, .null, .null, .null, .null, .null, .null, .int 0, .null, .int 0, .null, .null, .null, .null, .null, .long 0, .long 0, .null, .null, .null, .null, .null, .null, .null, .null, .long 0, .long 0])) := by
        rw [List.getElem?_append_right (by rw [fo_vx_len]; omega), fo_vx_len]
        rfl
      exact hD2.2 51 _ g2
  refine lv_dup hx hb dX9_law_11 rfl ?_
  refine va_callv (va_runI (As := []) (rest := [.ref q1]) ⟨hx, hb, hml, hown, hT⟩ (c_r_init l D ca q1 H2.size) (fl_ci12 hT ⟨Nat.le_of_ble_eq_true rfl, Nat.le_of_ble_eq_true rfl⟩) ⟨fr_Pre1_blind, fun U hU hW => ⟨rfl, by rw [hU], by rw [hU]; exact hPM2, va_K.moved hW.alike hKM, hDM2.weaken (fun _ _ _ _ => trivial)⟩⟩ rfl rfl hl.1 rfl (lv_room (Nat.le_of_ble_eq_true rfl)) dX9_law_12 ⟨Nat.le_of_ble_eq_true rfl, Nat.le_of_ble_eq_true rfl⟩) hS2 (fun q _ h => fo_A_sub hDM2 hS2 hA q h) (fo_A_sub hDM2 hS2 hA) (fun adM t2 H3 locs3 ht2 hvm2 hw2 hB2 hz2 hk2 hS3 => ?_)
  obtain ⟨haM, hPM, -, hDM0⟩ := hB2
  rw [ht2] at hPM
  have hPF3 := fl_kept (K1 := 1) (ad1 := fun _ => q1) hPF2 (fun i j _ hj => hne j hj) hk2
  have hJ : ∀ i j, i < 51 → j < 25 → adF i ≠ adM j := by
    intro i j hi hj h
    have h1 := hDM0.2 j _ (fo_vx_at hj)
    have h2 := (hPF2 i _ (fo_vx_at hi)).lt
    rcases h1 with ⟨_, _, h1⟩ | h1
    · exact hne i hi (h1.symm.trans h.symm)
    · have h3 : adF i < H2.size := h2
      have h4 : H2.size ≤ adM j := h1
      omega
  have hDM : va_D (fun q : Nat => s.heap.size ≤ q) (fo_vx 25 adM (fr_ce ca adM fr_s0)) := hDM0.weaken (fun k q _ h => fo_A_sub hDM2 hS2 hA q.1 h)
  subst haM
  refine lv_astore_n (lv' := [(2, .ref (adM 0)), (1, .ref (adF 0)), (0, .ref b)]) hx hb dX9_law_15 rfl hl (by decide) rfl (fun ls hl => ?_)
  refine lv_iconst (v := 0) hx hb dX9_law_16 (by decide) ?_
  refine lv_istore_n (lv' := [(3, .int 0), (2, .ref (adM 0)), (1, .ref (adF 0)), (0, .ref b)]) hx hb dX9_law_17 rfl hl (by decide) rfl (fun ls hl => ?_)
  refine W.widen (k := 600000) (n := 7302250) (Nat.le_of_ble_eq_true rfl) (Nat.le_of_ble_eq_true rfl) ?_
  exact fl_loop hL C0 hKF hKM (fun i hi => hDF.2 i _ (fo_vx_at hi)) (fun i hi => hDM.2 i _ (fo_vx_at hi)) hJ (fun _ => fo_vx_D hDF) (fun _ => fo_vx_D hDM) (L + 1) 0 (by omega) (by omega) _ _ s_init _ _ ls hPF3 hPM hS3 (lv_sub hl [3, 2, 1, 0] rfl)
