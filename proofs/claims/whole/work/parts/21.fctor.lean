def fo_NW (U : State) : Prop := va_AO "FairOrder$Call" U ∧ va_Nw (Cond.methodLinkNest RX0 11 yX2_init "FairOrder") U ∧ va_Nw (Cond.methodLinkNest RX0 27 yX3_init "FairOrder") U ∧ va_Nw (Cond.methodLinkNest RX0 41 yX4_init "FairOrder") U ∧ va_Nw (Cond.methodLinkNest RX0 48 yX5_init "FairOrder") U ∧ va_Nw (Cond.methodLinkNest RX0 53 yX1_init "FairOrder") U
theorem fo_NW_same {u U : State} (h : u.vm = U.vm) (hN : fo_NW u) : fo_NW U := by
  obtain ⟨hAO, hN11, hN27, hN41, hN48, hN53⟩ := hN
  exact ⟨va_AO.moved (by rw [h]; exact Vm.Alike.refl U.vm) hAO, va_Nw.same rfl h hN11, va_Nw.same rfl h hN27, va_Nw.same rfl h hN41, va_Nw.same rfl h hN48, va_Nw.same rfl h hN53⟩
theorem fo_NW_warm {s U : State} (hW : s.WarmedH U.vm) (hN : fo_NW s) : fo_NW U := by
  obtain ⟨hAO, hN11, hN27, hN41, hN48, hN53⟩ := hN
  exact ⟨va_AO.moved hW.alike hAO, va_Nw.warmM hW hN11, va_Nw.warmM hW hN27, va_Nw.warmM hW hN41, va_Nw.warmM hW hN48, va_Nw.warmM hW hN53⟩
def fo_Pre1 (D : va_G) (ca : Nat → ClassId) (h0 sz : Nat) : Array Value → State → Prop := va_Pc [.ref h0] (fun U => U.heap.size = sz ∧ va_P D vwCl (fo_vx 1 (fun _ => h0) (fun _ => .inr (0, [.null, .null, .null, .null, .null, .null, .null, .null, .int 0, .int 0, .int 0, .int 0, .long 0, .int 0, .int 0]))) U.heap ∧ va_K D vwCl (fo_tys ca) U ∧ va_D (fun _ => True) (fo_vx 1 (fun _ => h0) (fun _ => .inr (0, [.null, .null, .null, .null, .null, .null, .null, .null, .int 0, .int 0, .int 0, .int 0, .long 0, .int 0, .int 0]))) ∧ fo_NW U)
set_option maxHeartbeats 40000000 in
set_option maxRecDepth 100000 in
theorem c_q_FairOrder_init (l : Launch) (D : va_G) (ca : Nat → ClassId) (h0 sz : Nat) : Met l yX0_init ws_q_FairOrder_init rm_q_FairOrder_init (fo_Pre1 D ca h0 sz) (va_Qv (fun (_ : Nat → Nat) => True) (fun ad t => ad 0 = h0 ∧ va_P D vwCl (fo_vx 51 ad (fo_ce ca ad (fun _ _ _ => 0, fun _ _ _ => 0))) t.heap ∧ va_K D vwCl (fo_tys ca) t ∧ va_D (fo_A 1 (fun _ => h0) sz) (fo_vx 51 ad (fo_ce ca ad (fun _ _ _ => 0, fun _ _ _ => 0)))) (fo_A 1 (fun _ => h0) sz)) 50 402 (fo_A 1 (fun _ => h0) sz) := by
  refine Met.ofW (cc := cX0_init) (maxL := 2) (ret := none) (by decide) rfl ?_
  intro p e s m args below meth c s₁ B hml hv
  obtain ⟨rfl, hsz, hP, hK, hD0, hAO, hN11, hN27, hN41, hN48, hN53⟩ := hv
  subst hsz
  have hx := B.exec
  have hb := B.bytes
  have hr := B.returns
  have hlocks := B.notSynchronized
  have hts := atoms_spec (ws := ws_q_FairOrder_init) B.pre
  have hT : ∀ w ∈ fo_T, w.before _ s = true := fun w h => hts w (List.mem_cons_of_mem _ h)
  have hown : s.vm.findClass RX0 = some m.cls := findClass_of_methodNamed B.named
  have hin : meth.name = "<init>" := (name_of_methodNamed B.named B.method).1
  have hD : va_D (fo_A 1 (fun _ => h0) s.heap.size) (fo_vx 1 (fun _ => h0) (fun _ => .inr (0, [.null, .null, .null, .null, .null, .null, .null, .null, .int 0, .int 0, .int 0, .int 0, .long 0, .int 0, .int 0]))) := fo_A_D hD0
  generalize hAe : fo_A 1 (fun _ => h0) s.heap.size = A at hD ⊢
  have hA : ∀ q, s.heap.size ≤ q → A q := fun q h => by rw [← hAe]; exact Or.inr h
  have hS : va_S A s.heap s.heap [] := va_S.rf
  have hl := lv_entry ([.ref h0]) (n := 2) (Nat.le_of_ble_eq_true rfl)
  rw [lg_entry_eq]
  generalize (lg_sl ([.ref h0]) ++ List.replicate (2 - (lg_sl ([.ref h0])).length) Slot.unset).toArray = ls at hl ⊢
  have hl : lv_has ls 2 [(0, .ref h0)] := hl
  refine lv_aload_n hx hb dX0_init_0 rfl (lv_at hl 0 rfl) ?_
  refine W.objInit hx hb hown (fo_o0 hT) (fo_oi hT) (fo_oc hT) rfl (by rw [hml]; exact hl.1) rfl dX0_init_1 (Nat.le_of_ble_eq_true rfl) (Nat.le_of_ble_eq_true rfl) ?_
  refine W.eq (g2 := F0 m 4 ls []) rfl ?_
  refine lv_aload_n hx hb dX0_init_4 rfl (lv_at hl 0 rfl) ?_
  refine fo_new (C := RX2) (T := TX2) (N := 2) (ci := 2) (fs := [.null, .null]) hx hb hT fo_in2 tyX2 tyX2_ok hown (hT _ (fo_tb 20 (by decide +kernel) rfl)) (hT _ (fo_tb 21 (by decide +kernel) rfl)) (hT _ (fo_tb 2 (by decide +kernel) rfl)) hK hP hD hS hA rfl (fun j hj => by rcases (show j = 0 ∨ j = 1 by omega) with rfl | rfl <;> rfl) (Nat.le_of_ble_eq_true rfl) (Nat.le_of_ble_eq_true rfl) dX0_init_5 (fun q0 H hP hD hS => ?_)
  refine lv_dup hx hb dX0_init_8 rfl ?_
  refine va_callv (va_runIN (As := []) (rest := [.ref q0, .ref h0]) ⟨hx, hb, hml, hown, hT⟩ (c_q_Market_init l D ca 2 _ _ 1 _ (by decide) fo_up_eq) (fo_c0_11 hT hN11 ⟨Nat.le_of_ble_eq_true rfl, Nat.le_of_ble_eq_true rfl⟩) ⟨fo_Pre_blind, fo_Pre_at hP hK hD⟩ rfl rfl hl.1 rfl (lv_room (Nat.le_of_ble_eq_true rfl)) dX0_init_9 ⟨Nat.le_of_ble_eq_true rfl, Nat.le_of_ble_eq_true rfl⟩) hS (fun q _ h => fo_A_sub hD hS hA q h) (fo_A_sub hD hS hA) (fun u1 t H1 locs1 ht hvm hw hB hz1 hk1 hS1 => ?_)
  obtain ⟨hP1, hK1, hD1⟩ := hB
  rw [ht] at hP1
  replace hD := va_D.weaken hD1 (fun k q _ h => fo_A_sub hD hS hA q.1 h)
  replace hP := hP1
  replace hS := hS1
  refine fo_putF (C := RX0) (T := TX0) (N := 15) (ci := 0) (v := .ref q0) (ty := .object "FairOrder$Market") hx hb hT fo_in0 tyX0 tyX0_ok nmX0 hown hK hP hD hS 0 (by decide) rfl rfl rfl 0 (by decide) (hT _ (fo_tb 143 (by decide +kernel) rfl)) (fun _ h => h) rfl hin rfl (by decide +kernel) rfl rfl (Nat.le_of_ble_eq_true rfl) dX0_init_12 (fun H locs hP hD hS => ?_)
  refine lv_aload_n hx hb dX0_init_15 rfl (lv_at hl 0 rfl) ?_
  refine fo_new (C := RX2) (T := TX2) (N := 2) (ci := 2) (fs := [.null, .null]) hx hb hT fo_in2 tyX2 tyX2_ok hown (hT _ (fo_tb 20 (by decide +kernel) rfl)) (hT _ (fo_tb 21 (by decide +kernel) rfl)) (hT _ (fo_tb 2 (by decide +kernel) rfl)) hK hP hD hS hA rfl (fun j hj => by rcases (show j = 0 ∨ j = 1 by omega) with rfl | rfl <;> rfl) (Nat.le_of_ble_eq_true rfl) (Nat.le_of_ble_eq_true rfl) dX0_init_16 (fun q2 H hP hD hS => ?_)
  refine lv_dup hx hb dX0_init_19 rfl ?_
  refine va_callv (va_runIN (As := []) (rest := [.ref q2, .ref h0]) ⟨hx, hb, hml, hown, hT⟩ (c_q_Market_init l D ca 5 _ _ 4 _ (by decide) fo_up_eq) (fo_c0_11 hT hN11 ⟨Nat.le_of_ble_eq_true rfl, Nat.le_of_ble_eq_true rfl⟩) ⟨fo_Pre_blind, fo_Pre_at hP hK hD⟩ rfl rfl hl.1 rfl (lv_room (Nat.le_of_ble_eq_true rfl)) dX0_init_20 ⟨Nat.le_of_ble_eq_true rfl, Nat.le_of_ble_eq_true rfl⟩) hS (fun q _ h => fo_A_sub hD hS hA q h) (fo_A_sub hD hS hA) (fun u3 t H1 locs1 ht hvm hw hB hz1 hk1 hS1 => ?_)
  obtain ⟨hP1, hK1, hD1⟩ := hB
  rw [ht] at hP1
  replace hD := va_D.weaken hD1 (fun k q _ h => fo_A_sub hD hS hA q.1 h)
  replace hP := hP1
  replace hS := hS1
  refine fo_putF (C := RX0) (T := TX0) (N := 15) (ci := 0) (v := .ref q2) (ty := .object "FairOrder$Market") hx hb hT fo_in0 tyX0 tyX0_ok nmX0 hown hK hP hD hS 0 (by decide) rfl rfl rfl 1 (by decide) (hT _ (fo_tb 144 (by decide +kernel) rfl)) (fun _ h => h) rfl hin rfl (by decide +kernel) rfl rfl (Nat.le_of_ble_eq_true rfl) dX0_init_23 (fun H locs hP hD hS => ?_)
  refine lv_aload_n hx hb dX0_init_26 rfl (lv_at hl 0 rfl) ?_
  refine lv_bipush (v := 16) hx hb dX0_init_27 (by decide) ?_
  refine fo_newq (C := "FairOrder$Call") (cA0 := ca 3) (N' := 16) hx hb hown (hT _ (fo_tb 37 (by decide +kernel) rfl)) hAO hK 3 rfl hP hD hS hA (by decide) (by decide) (by decide) (Nat.le_of_ble_eq_true rfl) (Nat.le_of_ble_eq_true rfl) dX0_init_29 (fun q4 H hP hD hS => ?_)
  refine fo_putF (C := RX0) (T := TX0) (N := 15) (ci := 0) (v := .ref q4) (ty := .array (.object "FairOrder$Call")) hx hb hT fo_in0 tyX0 tyX0_ok nmX0 hown hK hP hD hS 0 (by decide) rfl rfl rfl 2 (by decide) (hT _ (fo_tb 145 (by decide +kernel) rfl)) (fun _ h => h) rfl hin rfl (by decide +kernel) rfl rfl (Nat.le_of_ble_eq_true rfl) dX0_init_32 (fun H locs hP hD hS => ?_)
  refine lv_aload_n hx hb dX0_init_35 rfl (lv_at hl 0 rfl) ?_
  refine fo_new (C := RX3) (T := TX3) (N := 2) (ci := 3) (fs := [.null, .int 0]) hx hb hT fo_in3 tyX3 tyX3_ok hown (hT _ (fo_tb 39 (by decide +kernel) rfl)) (hT _ (fo_tb 40 (by decide +kernel) rfl)) (hT _ (fo_tb 3 (by decide +kernel) rfl)) hK hP hD hS hA rfl (fun j hj => by rcases (show j = 0 ∨ j = 1 by omega) with rfl | rfl <;> rfl) (Nat.le_of_ble_eq_true rfl) (Nat.le_of_ble_eq_true rfl) dX0_init_36 (fun q5 H hP hD hS => ?_)
  refine lv_dup hx hb dX0_init_39 rfl ?_
  refine va_callv (va_runIN (As := []) (rest := [.ref q5, .ref h0]) ⟨hx, hb, hml, hown, hT⟩ (c_q_Row_init l D ca 9 _ _ 8 _ (by decide) fo_up_eq) (fo_c0_27 hT hN27 ⟨Nat.le_of_ble_eq_true rfl, Nat.le_of_ble_eq_true rfl⟩) ⟨fo_Pre_blind, fo_Pre_at hP hK hD⟩ rfl rfl hl.1 rfl (lv_room (Nat.le_of_ble_eq_true rfl)) dX0_init_40 ⟨Nat.le_of_ble_eq_true rfl, Nat.le_of_ble_eq_true rfl⟩) hS (fun q _ h => fo_A_sub hD hS hA q h) (fo_A_sub hD hS hA) (fun u6 t H1 locs1 ht hvm hw hB hz1 hk1 hS1 => ?_)
  obtain ⟨hP1, hK1, hD1⟩ := hB
  rw [ht] at hP1
  replace hD := va_D.weaken hD1 (fun k q _ h => fo_A_sub hD hS hA q.1 h)
  replace hP := hP1
  replace hS := hS1
  refine fo_putF (C := RX0) (T := TX0) (N := 15) (ci := 0) (v := .ref q5) (ty := .object "FairOrder$Row") hx hb hT fo_in0 tyX0 tyX0_ok nmX0 hown hK hP hD hS 0 (by decide) rfl rfl rfl 3 (by decide) (hT _ (fo_tb 146 (by decide +kernel) rfl)) (fun _ h => h) rfl hin rfl (by decide +kernel) rfl rfl (Nat.le_of_ble_eq_true rfl) dX0_init_43 (fun H locs hP hD hS => ?_)
  refine lv_aload_n hx hb dX0_init_46 rfl (lv_at hl 0 rfl) ?_
  refine fo_new (C := RX3) (T := TX3) (N := 2) (ci := 3) (fs := [.null, .int 0]) hx hb hT fo_in3 tyX3 tyX3_ok hown (hT _ (fo_tb 39 (by decide +kernel) rfl)) (hT _ (fo_tb 40 (by decide +kernel) rfl)) (hT _ (fo_tb 3 (by decide +kernel) rfl)) hK hP hD hS hA rfl (fun j hj => by rcases (show j = 0 ∨ j = 1 by omega) with rfl | rfl <;> rfl) (Nat.le_of_ble_eq_true rfl) (Nat.le_of_ble_eq_true rfl) dX0_init_47 (fun q7 H hP hD hS => ?_)
  refine lv_dup hx hb dX0_init_50 rfl ?_
  refine va_callv (va_runIN (As := []) (rest := [.ref q7, .ref h0]) ⟨hx, hb, hml, hown, hT⟩ (c_q_Row_init l D ca 11 _ _ 10 _ (by decide) fo_up_eq) (fo_c0_27 hT hN27 ⟨Nat.le_of_ble_eq_true rfl, Nat.le_of_ble_eq_true rfl⟩) ⟨fo_Pre_blind, fo_Pre_at hP hK hD⟩ rfl rfl hl.1 rfl (lv_room (Nat.le_of_ble_eq_true rfl)) dX0_init_51 ⟨Nat.le_of_ble_eq_true rfl, Nat.le_of_ble_eq_true rfl⟩) hS (fun q _ h => fo_A_sub hD hS hA q h) (fo_A_sub hD hS hA) (fun u8 t H1 locs1 ht hvm hw hB hz1 hk1 hS1 => ?_)
  obtain ⟨hP1, hK1, hD1⟩ := hB
  rw [ht] at hP1
  replace hD := va_D.weaken hD1 (fun k q _ h => fo_A_sub hD hS hA q.1 h)
  replace hP := hP1
  replace hS := hS1
  refine fo_putF (C := RX0) (T := TX0) (N := 15) (ci := 0) (v := .ref q7) (ty := .object "FairOrder$Row") hx hb hT fo_in0 tyX0 tyX0_ok nmX0 hown hK hP hD hS 0 (by decide) rfl rfl rfl 4 (by decide) (hT _ (fo_tb 147 (by decide +kernel) rfl)) (fun _ h => h) rfl hin rfl (by decide +kernel) rfl rfl (Nat.le_of_ble_eq_true rfl) dX0_init_54 (fun H locs hP hD hS => ?_)
  refine lv_aload_n hx hb dX0_init_57 rfl (lv_at hl 0 rfl) ?_
  refine lv_bipush (v := 16) hx hb dX0_init_58 (by decide) ?_
  refine fo_newa (atype := .int) (ty := .int) (cA0 := ca 0) (N' := 16) (a0 := (16, .inl (fun _ => 0))) hx hb (fo_acI hT) rfl hK 0 rfl (fun cA h1 h2 => Option.some.inj ((show s.vm.findClass _ = some cA from h1).symm.trans h2)) hP hD hS hA (fun _ => rfl) (by decide) (by decide) (by decide) (Nat.le_of_ble_eq_true rfl) (Nat.le_of_ble_eq_true rfl) dX0_init_60 (fun q9 H hP hD hS => ?_)
  refine fo_putF (C := RX0) (T := TX0) (N := 15) (ci := 0) (v := .ref q9) (ty := .array .int) hx hb hT fo_in0 tyX0 tyX0_ok nmX0 hown hK hP hD hS 0 (by decide) rfl rfl rfl 5 (by decide) (hT _ (fo_tb 148 (by decide +kernel) rfl)) (fun _ h => h) rfl hin rfl (by decide +kernel) rfl rfl (Nat.le_of_ble_eq_true rfl) dX0_init_62 (fun H locs hP hD hS => ?_)
  refine lv_aload_n hx hb dX0_init_65 rfl (lv_at hl 0 rfl) ?_
  refine fo_new (C := RX4) (T := TX4) (N := 1) (ci := 4) (fs := [.null]) hx hb hT fo_in4 tyX4 tyX4_ok hown (hT _ (fo_tb 57 (by decide +kernel) rfl)) (hT _ (fo_tb 58 (by decide +kernel) rfl)) (hT _ (fo_tb 4 (by decide +kernel) rfl)) hK hP hD hS hA rfl (fun j hj => by rcases (show j = 0 by omega) with rfl <;> rfl) (Nat.le_of_ble_eq_true rfl) (Nat.le_of_ble_eq_true rfl) dX0_init_66 (fun q10 H hP hD hS => ?_)
  refine lv_dup hx hb dX0_init_69 rfl ?_
  refine va_callv (va_runIN (As := []) (rest := [.ref q10, .ref h0]) ⟨hx, hb, hml, hown, hT⟩ (c_q_Links_init l D ca 14 _ _ 13 _ (by decide) fo_up_eq) (fo_c0_41 hT hN41 ⟨Nat.le_of_ble_eq_true rfl, Nat.le_of_ble_eq_true rfl⟩) ⟨fo_Pre_blind, fo_Pre_at hP hK hD⟩ rfl rfl hl.1 rfl (lv_room (Nat.le_of_ble_eq_true rfl)) dX0_init_70 ⟨Nat.le_of_ble_eq_true rfl, Nat.le_of_ble_eq_true rfl⟩) hS (fun q _ h => fo_A_sub hD hS hA q h) (fo_A_sub hD hS hA) (fun u11 t H1 locs1 ht hvm hw hB hz1 hk1 hS1 => ?_)
  obtain ⟨hP1, hK1, hD1⟩ := hB
  rw [ht] at hP1
  replace hD := va_D.weaken hD1 (fun k q _ h => fo_A_sub hD hS hA q.1 h)
  replace hP := hP1
  replace hS := hS1
  refine fo_putF (C := RX0) (T := TX0) (N := 15) (ci := 0) (v := .ref q10) (ty := .object "FairOrder$Links") hx hb hT fo_in0 tyX0 tyX0_ok nmX0 hown hK hP hD hS 0 (by decide) rfl rfl rfl 6 (by decide) (hT _ (fo_tb 149 (by decide +kernel) rfl)) (fun _ h => h) rfl hin rfl (by decide +kernel) rfl rfl (Nat.le_of_ble_eq_true rfl) dX0_init_73 (fun H locs hP hD hS => ?_)
  refine lv_aload_n hx hb dX0_init_76 rfl (lv_at hl 0 rfl) ?_
  refine fo_new (C := RX5) (T := TX5) (N := 5) (ci := 5) (fs := [.null, .null, .null, .long 0, .long 0]) hx hb hT fo_in5 tyX5 tyX5_ok hown (hT _ (fo_tb 67 (by decide +kernel) rfl)) (hT _ (fo_tb 68 (by decide +kernel) rfl)) (hT _ (fo_tb 5 (by decide +kernel) rfl)) hK hP hD hS hA rfl (fun j hj => by rcases (show j = 0 ∨ j = 1 ∨ j = 2 ∨ j = 3 ∨ j = 4 by omega) with rfl | rfl | rfl | rfl | rfl <;> rfl) (Nat.le_of_ble_eq_true rfl) (Nat.le_of_ble_eq_true rfl) dX0_init_77 (fun q12 H hP hD hS => ?_)
  refine lv_dup hx hb dX0_init_80 rfl ?_
  refine va_callv (va_runIN (As := []) (rest := [.ref q12, .ref h0]) ⟨hx, hb, hml, hown, hT⟩ (c_q_Auction_init l D ca 16 _ _ 15 _ (by decide) fo_up_eq) (fo_c0_48 hT hN48 ⟨Nat.le_of_ble_eq_true rfl, Nat.le_of_ble_eq_true rfl⟩) ⟨fo_Pre_blind, fo_Pre_at hP hK hD⟩ rfl rfl hl.1 rfl (lv_room (Nat.le_of_ble_eq_true rfl)) dX0_init_81 ⟨Nat.le_of_ble_eq_true rfl, Nat.le_of_ble_eq_true rfl⟩) hS (fun q _ h => fo_A_sub hD hS hA q h) (fo_A_sub hD hS hA) (fun u13 t H1 locs1 ht hvm hw hB hz1 hk1 hS1 => ?_)
  obtain ⟨hP1, hK1, hD1⟩ := hB
  rw [ht] at hP1
  replace hD := va_D.weaken hD1 (fun k q _ h => fo_A_sub hD hS hA q.1 h)
  replace hP := hP1
  replace hS := hS1
  refine fo_putF (C := RX0) (T := TX0) (N := 15) (ci := 0) (v := .ref q12) (ty := .object "FairOrder$Auction") hx hb hT fo_in0 tyX0 tyX0_ok nmX0 hown hK hP hD hS 0 (by decide) rfl rfl rfl 7 (by decide) (hT _ (fo_tb 150 (by decide +kernel) rfl)) (fun _ h => h) rfl hin rfl (by decide +kernel) rfl rfl (Nat.le_of_ble_eq_true rfl) dX0_init_84 (fun H locs hP hD hS => ?_)
  refine lv_iconst (v := 0) hx hb dX0_init_87 (by decide) ?_
  refine lv_istore_n (lv' := [(1, .int 0), (0, .ref h0)]) hx hb dX0_init_88 rfl hl (by decide) rfl (fun ls hl => ?_)
  refine lv_iload_n hx hb dX0_init_89 rfl (lv_at hl 0 rfl) ?_
  refine lv_bipush (v := 16) hx hb dX0_init_90 (by decide) ?_
  refine lv_icmp_ge (tgt := 114) hx hb dX0_init_92 (by decide) (fun c1 => absurd c1 (by decide)) (fun _ => ?_)
  refine lv_aload_n hx hb dX0_init_95 rfl (lv_at hl 1 rfl) ?_
  refine va_get (C := RX0) (T := TX0) (N := 15) (ci := 0) (v := .ref q4) hx hb hT fo_in0 hown hK hP 0 (fo_vx_at (by decide)) rfl 2 (by decide) (hT _ (fo_tb 145 (by decide +kernel) rfl)) (fun _ h => h) rfl dX0_init_96 ?_
  refine lv_iload_n hx hb dX0_init_99 rfl (lv_at hl 0 rfl) ?_
  refine fo_new (C := RX1) (T := TX1) (N := 10) (ci := 1) (fs := [.null, .int 0, .long 0, .long 0, .int 0, .int 0, .int 0, .int 0, .int 0, .long 0]) hx hb hT fo_in1 tyX1 tyX1_ok hown (hT _ (fo_tb 37 (by decide +kernel) rfl)) (hT _ (fo_tb 90 (by decide +kernel) rfl)) (hT _ (fo_tb 6 (by decide +kernel) rfl)) hK hP hD hS hA rfl (fun j hj => by rcases (show j = 0 ∨ j = 1 ∨ j = 2 ∨ j = 3 ∨ j = 4 ∨ j = 5 ∨ j = 6 ∨ j = 7 ∨ j = 8 ∨ j = 9 by omega) with rfl | rfl | rfl | rfl | rfl | rfl | rfl | rfl | rfl | rfl <;> rfl) (Nat.le_of_ble_eq_true rfl) (Nat.le_of_ble_eq_true rfl) dX0_init_100 (fun q14 H hP hD hS => ?_)
  refine lv_dup hx hb dX0_init_103 rfl ?_
  refine va_callv (va_runIN (As := []) (rest := [.ref q14, .int 0, .ref q4]) ⟨hx, hb, hml, hown, hT⟩ (c_q_Call_init l D ca 20 _ _ 19 _ (by decide) fo_up_eq) (fo_c0_53 hT hN53 ⟨Nat.le_of_ble_eq_true rfl, Nat.le_of_ble_eq_true rfl⟩) ⟨fo_Pre_blind, fo_Pre_at hP hK hD⟩ rfl rfl hl.1 rfl (lv_room (Nat.le_of_ble_eq_true rfl)) dX0_init_104 ⟨Nat.le_of_ble_eq_true rfl, Nat.le_of_ble_eq_true rfl⟩) hS (fun q _ h => fo_A_sub hD hS hA q h) (fo_A_sub hD hS hA) (fun u15 t H1 locs1 ht hvm hw hB hz1 hk1 hS1 => ?_)
  obtain ⟨hP1, hK1, hD1⟩ := hB
  rw [ht] at hP1
  replace hD := va_D.weaken hD1 (fun k q _ h => fo_A_sub hD hS hA q.1 h)
  replace hP := hP1
  replace hS := hS1
  refine fo_astq hx hb hK hP hD hS 7 19 3 1 (by decide) (by decide) rfl rfl rfl rfl rfl rfl (show fo_vi 0 16 by decide) dX0_init_107 (fun H locs hP hD hS => ?_)
  refine lv_iinc (v := 1) (lv' := [(1, .int 1), (0, .ref h0)]) hx hb dX0_init_108 hl (k := 0) rfl (by decide) (by decide) rfl (fun ls hl => ?_)
  refine lv_goto (tgt := 89) hx hb dX0_init_111 (by decide) ?_
  refine lv_iload_n hx hb dX0_init_89 rfl (lv_at hl 0 rfl) ?_
  refine lv_bipush (v := 16) hx hb dX0_init_90 (by decide) ?_
  refine lv_icmp_ge (tgt := 114) hx hb dX0_init_92 (by decide) (fun c1 => absurd c1 (by decide)) (fun _ => ?_)
  refine lv_aload_n hx hb dX0_init_95 rfl (lv_at hl 1 rfl) ?_
  refine va_get (C := RX0) (T := TX0) (N := 15) (ci := 0) (v := .ref q4) hx hb hT fo_in0 hown hK hP 0 (fo_vx_at (by decide)) rfl 2 (by decide) (hT _ (fo_tb 145 (by decide +kernel) rfl)) (fun _ h => h) rfl dX0_init_96 ?_
  refine lv_iload_n hx hb dX0_init_99 rfl (lv_at hl 0 rfl) ?_
  refine fo_new (C := RX1) (T := TX1) (N := 10) (ci := 1) (fs := [.null, .int 0, .long 0, .long 0, .int 0, .int 0, .int 0, .int 0, .int 0, .long 0]) hx hb hT fo_in1 tyX1 tyX1_ok hown (hT _ (fo_tb 37 (by decide +kernel) rfl)) (hT _ (fo_tb 90 (by decide +kernel) rfl)) (hT _ (fo_tb 6 (by decide +kernel) rfl)) hK hP hD hS hA rfl (fun j hj => by rcases (show j = 0 ∨ j = 1 ∨ j = 2 ∨ j = 3 ∨ j = 4 ∨ j = 5 ∨ j = 6 ∨ j = 7 ∨ j = 8 ∨ j = 9 by omega) with rfl | rfl | rfl | rfl | rfl | rfl | rfl | rfl | rfl | rfl <;> rfl) (Nat.le_of_ble_eq_true rfl) (Nat.le_of_ble_eq_true rfl) dX0_init_100 (fun q16 H hP hD hS => ?_)
  refine lv_dup hx hb dX0_init_103 rfl ?_
  refine va_callv (va_runIN (As := []) (rest := [.ref q16, .int 1, .ref q4]) ⟨hx, hb, hml, hown, hT⟩ (c_q_Call_init l D ca 22 _ _ 21 _ (by decide) fo_up_eq) (fo_c0_53 hT hN53 ⟨Nat.le_of_ble_eq_true rfl, Nat.le_of_ble_eq_true rfl⟩) ⟨fo_Pre_blind, fo_Pre_at hP hK hD⟩ rfl rfl hl.1 rfl (lv_room (Nat.le_of_ble_eq_true rfl)) dX0_init_104 ⟨Nat.le_of_ble_eq_true rfl, Nat.le_of_ble_eq_true rfl⟩) hS (fun q _ h => fo_A_sub hD hS hA q h) (fo_A_sub hD hS hA) (fun u17 t H1 locs1 ht hvm hw hB hz1 hk1 hS1 => ?_)
  obtain ⟨hP1, hK1, hD1⟩ := hB
  rw [ht] at hP1
  replace hD := va_D.weaken hD1 (fun k q _ h => fo_A_sub hD hS hA q.1 h)
  replace hP := hP1
  replace hS := hS1
  refine fo_astq hx hb hK hP hD hS 7 21 3 1 (by decide) (by decide) rfl rfl rfl rfl rfl rfl (show fo_vi 1 16 by decide) dX0_init_107 (fun H locs hP hD hS => ?_)
  refine lv_iinc (v := 2) (lv' := [(1, .int 2), (0, .ref h0)]) hx hb dX0_init_108 hl (k := 0) rfl (by decide) (by decide) rfl (fun ls hl => ?_)
  refine lv_goto (tgt := 89) hx hb dX0_init_111 (by decide) ?_
  refine lv_iload_n hx hb dX0_init_89 rfl (lv_at hl 0 rfl) ?_
  refine lv_bipush (v := 16) hx hb dX0_init_90 (by decide) ?_
  refine lv_icmp_ge (tgt := 114) hx hb dX0_init_92 (by decide) (fun c1 => absurd c1 (by decide)) (fun _ => ?_)
  refine lv_aload_n hx hb dX0_init_95 rfl (lv_at hl 1 rfl) ?_
  refine va_get (C := RX0) (T := TX0) (N := 15) (ci := 0) (v := .ref q4) hx hb hT fo_in0 hown hK hP 0 (fo_vx_at (by decide)) rfl 2 (by decide) (hT _ (fo_tb 145 (by decide +kernel) rfl)) (fun _ h => h) rfl dX0_init_96 ?_
  refine lv_iload_n hx hb dX0_init_99 rfl (lv_at hl 0 rfl) ?_
  refine fo_new (C := RX1) (T := TX1) (N := 10) (ci := 1) (fs := [.null, .int 0, .long 0, .long 0, .int 0, .int 0, .int 0, .int 0, .int 0, .long 0]) hx hb hT fo_in1 tyX1 tyX1_ok hown (hT _ (fo_tb 37 (by decide +kernel) rfl)) (hT _ (fo_tb 90 (by decide +kernel) rfl)) (hT _ (fo_tb 6 (by decide +kernel) rfl)) hK hP hD hS hA rfl (fun j hj => by rcases (show j = 0 ∨ j = 1 ∨ j = 2 ∨ j = 3 ∨ j = 4 ∨ j = 5 ∨ j = 6 ∨ j = 7 ∨ j = 8 ∨ j = 9 by omega) with rfl | rfl | rfl | rfl | rfl | rfl | rfl | rfl | rfl | rfl <;> rfl) (Nat.le_of_ble_eq_true rfl) (Nat.le_of_ble_eq_true rfl) dX0_init_100 (fun q18 H hP hD hS => ?_)
  refine lv_dup hx hb dX0_init_103 rfl ?_
  refine va_callv (va_runIN (As := []) (rest := [.ref q18, .int 2, .ref q4]) ⟨hx, hb, hml, hown, hT⟩ (c_q_Call_init l D ca 24 _ _ 23 _ (by decide) fo_up_eq) (fo_c0_53 hT hN53 ⟨Nat.le_of_ble_eq_true rfl, Nat.le_of_ble_eq_true rfl⟩) ⟨fo_Pre_blind, fo_Pre_at hP hK hD⟩ rfl rfl hl.1 rfl (lv_room (Nat.le_of_ble_eq_true rfl)) dX0_init_104 ⟨Nat.le_of_ble_eq_true rfl, Nat.le_of_ble_eq_true rfl⟩) hS (fun q _ h => fo_A_sub hD hS hA q h) (fo_A_sub hD hS hA) (fun u19 t H1 locs1 ht hvm hw hB hz1 hk1 hS1 => ?_)
  obtain ⟨hP1, hK1, hD1⟩ := hB
  rw [ht] at hP1
  replace hD := va_D.weaken hD1 (fun k q _ h => fo_A_sub hD hS hA q.1 h)
  replace hP := hP1
  replace hS := hS1
  refine fo_astq hx hb hK hP hD hS 7 23 3 1 (by decide) (by decide) rfl rfl rfl rfl rfl rfl (show fo_vi 2 16 by decide) dX0_init_107 (fun H locs hP hD hS => ?_)
  refine lv_iinc (v := 3) (lv' := [(1, .int 3), (0, .ref h0)]) hx hb dX0_init_108 hl (k := 0) rfl (by decide) (by decide) rfl (fun ls hl => ?_)
  refine lv_goto (tgt := 89) hx hb dX0_init_111 (by decide) ?_
  refine lv_iload_n hx hb dX0_init_89 rfl (lv_at hl 0 rfl) ?_
  refine lv_bipush (v := 16) hx hb dX0_init_90 (by decide) ?_
  refine lv_icmp_ge (tgt := 114) hx hb dX0_init_92 (by decide) (fun c1 => absurd c1 (by decide)) (fun _ => ?_)
  refine lv_aload_n hx hb dX0_init_95 rfl (lv_at hl 1 rfl) ?_
  refine va_get (C := RX0) (T := TX0) (N := 15) (ci := 0) (v := .ref q4) hx hb hT fo_in0 hown hK hP 0 (fo_vx_at (by decide)) rfl 2 (by decide) (hT _ (fo_tb 145 (by decide +kernel) rfl)) (fun _ h => h) rfl dX0_init_96 ?_
  refine lv_iload_n hx hb dX0_init_99 rfl (lv_at hl 0 rfl) ?_
  refine fo_new (C := RX1) (T := TX1) (N := 10) (ci := 1) (fs := [.null, .int 0, .long 0, .long 0, .int 0, .int 0, .int 0, .int 0, .int 0, .long 0]) hx hb hT fo_in1 tyX1 tyX1_ok hown (hT _ (fo_tb 37 (by decide +kernel) rfl)) (hT _ (fo_tb 90 (by decide +kernel) rfl)) (hT _ (fo_tb 6 (by decide +kernel) rfl)) hK hP hD hS hA rfl (fun j hj => by rcases (show j = 0 ∨ j = 1 ∨ j = 2 ∨ j = 3 ∨ j = 4 ∨ j = 5 ∨ j = 6 ∨ j = 7 ∨ j = 8 ∨ j = 9 by omega) with rfl | rfl | rfl | rfl | rfl | rfl | rfl | rfl | rfl | rfl <;> rfl) (Nat.le_of_ble_eq_true rfl) (Nat.le_of_ble_eq_true rfl) dX0_init_100 (fun q20 H hP hD hS => ?_)
  refine lv_dup hx hb dX0_init_103 rfl ?_
  refine va_callv (va_runIN (As := []) (rest := [.ref q20, .int 3, .ref q4]) ⟨hx, hb, hml, hown, hT⟩ (c_q_Call_init l D ca 26 _ _ 25 _ (by decide) fo_up_eq) (fo_c0_53 hT hN53 ⟨Nat.le_of_ble_eq_true rfl, Nat.le_of_ble_eq_true rfl⟩) ⟨fo_Pre_blind, fo_Pre_at hP hK hD⟩ rfl rfl hl.1 rfl (lv_room (Nat.le_of_ble_eq_true rfl)) dX0_init_104 ⟨Nat.le_of_ble_eq_true rfl, Nat.le_of_ble_eq_true rfl⟩) hS (fun q _ h => fo_A_sub hD hS hA q h) (fo_A_sub hD hS hA) (fun u21 t H1 locs1 ht hvm hw hB hz1 hk1 hS1 => ?_)
  obtain ⟨hP1, hK1, hD1⟩ := hB
  rw [ht] at hP1
  replace hD := va_D.weaken hD1 (fun k q _ h => fo_A_sub hD hS hA q.1 h)
  replace hP := hP1
  replace hS := hS1
  refine fo_astq hx hb hK hP hD hS 7 25 3 1 (by decide) (by decide) rfl rfl rfl rfl rfl rfl (show fo_vi 3 16 by decide) dX0_init_107 (fun H locs hP hD hS => ?_)
  refine lv_iinc (v := 4) (lv' := [(1, .int 4), (0, .ref h0)]) hx hb dX0_init_108 hl (k := 0) rfl (by decide) (by decide) rfl (fun ls hl => ?_)
  refine lv_goto (tgt := 89) hx hb dX0_init_111 (by decide) ?_
  refine lv_iload_n hx hb dX0_init_89 rfl (lv_at hl 0 rfl) ?_
  refine lv_bipush (v := 16) hx hb dX0_init_90 (by decide) ?_
  refine lv_icmp_ge (tgt := 114) hx hb dX0_init_92 (by decide) (fun c1 => absurd c1 (by decide)) (fun _ => ?_)
  refine lv_aload_n hx hb dX0_init_95 rfl (lv_at hl 1 rfl) ?_
  refine va_get (C := RX0) (T := TX0) (N := 15) (ci := 0) (v := .ref q4) hx hb hT fo_in0 hown hK hP 0 (fo_vx_at (by decide)) rfl 2 (by decide) (hT _ (fo_tb 145 (by decide +kernel) rfl)) (fun _ h => h) rfl dX0_init_96 ?_
  refine lv_iload_n hx hb dX0_init_99 rfl (lv_at hl 0 rfl) ?_
  refine fo_new (C := RX1) (T := TX1) (N := 10) (ci := 1) (fs := [.null, .int 0, .long 0, .long 0, .int 0, .int 0, .int 0, .int 0, .int 0, .long 0]) hx hb hT fo_in1 tyX1 tyX1_ok hown (hT _ (fo_tb 37 (by decide +kernel) rfl)) (hT _ (fo_tb 90 (by decide +kernel) rfl)) (hT _ (fo_tb 6 (by decide +kernel) rfl)) hK hP hD hS hA rfl (fun j hj => by rcases (show j = 0 ∨ j = 1 ∨ j = 2 ∨ j = 3 ∨ j = 4 ∨ j = 5 ∨ j = 6 ∨ j = 7 ∨ j = 8 ∨ j = 9 by omega) with rfl | rfl | rfl | rfl | rfl | rfl | rfl | rfl | rfl | rfl <;> rfl) (Nat.le_of_ble_eq_true rfl) (Nat.le_of_ble_eq_true rfl) dX0_init_100 (fun q22 H hP hD hS => ?_)
  refine lv_dup hx hb dX0_init_103 rfl ?_
  refine va_callv (va_runIN (As := []) (rest := [.ref q22, .int 4, .ref q4]) ⟨hx, hb, hml, hown, hT⟩ (c_q_Call_init l D ca 28 _ _ 27 _ (by decide) fo_up_eq) (fo_c0_53 hT hN53 ⟨Nat.le_of_ble_eq_true rfl, Nat.le_of_ble_eq_true rfl⟩) ⟨fo_Pre_blind, fo_Pre_at hP hK hD⟩ rfl rfl hl.1 rfl (lv_room (Nat.le_of_ble_eq_true rfl)) dX0_init_104 ⟨Nat.le_of_ble_eq_true rfl, Nat.le_of_ble_eq_true rfl⟩) hS (fun q _ h => fo_A_sub hD hS hA q h) (fo_A_sub hD hS hA) (fun u23 t H1 locs1 ht hvm hw hB hz1 hk1 hS1 => ?_)
  obtain ⟨hP1, hK1, hD1⟩ := hB
  rw [ht] at hP1
  replace hD := va_D.weaken hD1 (fun k q _ h => fo_A_sub hD hS hA q.1 h)
  replace hP := hP1
  replace hS := hS1
  refine fo_astq hx hb hK hP hD hS 7 27 3 1 (by decide) (by decide) rfl rfl rfl rfl rfl rfl (show fo_vi 4 16 by decide) dX0_init_107 (fun H locs hP hD hS => ?_)
  refine lv_iinc (v := 5) (lv' := [(1, .int 5), (0, .ref h0)]) hx hb dX0_init_108 hl (k := 0) rfl (by decide) (by decide) rfl (fun ls hl => ?_)
  refine lv_goto (tgt := 89) hx hb dX0_init_111 (by decide) ?_
  refine lv_iload_n hx hb dX0_init_89 rfl (lv_at hl 0 rfl) ?_
  refine lv_bipush (v := 16) hx hb dX0_init_90 (by decide) ?_
  refine lv_icmp_ge (tgt := 114) hx hb dX0_init_92 (by decide) (fun c1 => absurd c1 (by decide)) (fun _ => ?_)
  refine lv_aload_n hx hb dX0_init_95 rfl (lv_at hl 1 rfl) ?_
  refine va_get (C := RX0) (T := TX0) (N := 15) (ci := 0) (v := .ref q4) hx hb hT fo_in0 hown hK hP 0 (fo_vx_at (by decide)) rfl 2 (by decide) (hT _ (fo_tb 145 (by decide +kernel) rfl)) (fun _ h => h) rfl dX0_init_96 ?_
  refine lv_iload_n hx hb dX0_init_99 rfl (lv_at hl 0 rfl) ?_
  refine fo_new (C := RX1) (T := TX1) (N := 10) (ci := 1) (fs := [.null, .int 0, .long 0, .long 0, .int 0, .int 0, .int 0, .int 0, .int 0, .long 0]) hx hb hT fo_in1 tyX1 tyX1_ok hown (hT _ (fo_tb 37 (by decide +kernel) rfl)) (hT _ (fo_tb 90 (by decide +kernel) rfl)) (hT _ (fo_tb 6 (by decide +kernel) rfl)) hK hP hD hS hA rfl (fun j hj => by rcases (show j = 0 ∨ j = 1 ∨ j = 2 ∨ j = 3 ∨ j = 4 ∨ j = 5 ∨ j = 6 ∨ j = 7 ∨ j = 8 ∨ j = 9 by omega) with rfl | rfl | rfl | rfl | rfl | rfl | rfl | rfl | rfl | rfl <;> rfl) (Nat.le_of_ble_eq_true rfl) (Nat.le_of_ble_eq_true rfl) dX0_init_100 (fun q24 H hP hD hS => ?_)
  refine lv_dup hx hb dX0_init_103 rfl ?_
  refine va_callv (va_runIN (As := []) (rest := [.ref q24, .int 5, .ref q4]) ⟨hx, hb, hml, hown, hT⟩ (c_q_Call_init l D ca 30 _ _ 29 _ (by decide) fo_up_eq) (fo_c0_53 hT hN53 ⟨Nat.le_of_ble_eq_true rfl, Nat.le_of_ble_eq_true rfl⟩) ⟨fo_Pre_blind, fo_Pre_at hP hK hD⟩ rfl rfl hl.1 rfl (lv_room (Nat.le_of_ble_eq_true rfl)) dX0_init_104 ⟨Nat.le_of_ble_eq_true rfl, Nat.le_of_ble_eq_true rfl⟩) hS (fun q _ h => fo_A_sub hD hS hA q h) (fo_A_sub hD hS hA) (fun u25 t H1 locs1 ht hvm hw hB hz1 hk1 hS1 => ?_)
  obtain ⟨hP1, hK1, hD1⟩ := hB
  rw [ht] at hP1
  replace hD := va_D.weaken hD1 (fun k q _ h => fo_A_sub hD hS hA q.1 h)
  replace hP := hP1
  replace hS := hS1
  refine fo_astq hx hb hK hP hD hS 7 29 3 1 (by decide) (by decide) rfl rfl rfl rfl rfl rfl (show fo_vi 5 16 by decide) dX0_init_107 (fun H locs hP hD hS => ?_)
  refine lv_iinc (v := 6) (lv' := [(1, .int 6), (0, .ref h0)]) hx hb dX0_init_108 hl (k := 0) rfl (by decide) (by decide) rfl (fun ls hl => ?_)
  refine lv_goto (tgt := 89) hx hb dX0_init_111 (by decide) ?_
  refine lv_iload_n hx hb dX0_init_89 rfl (lv_at hl 0 rfl) ?_
  refine lv_bipush (v := 16) hx hb dX0_init_90 (by decide) ?_
  refine lv_icmp_ge (tgt := 114) hx hb dX0_init_92 (by decide) (fun c1 => absurd c1 (by decide)) (fun _ => ?_)
  refine lv_aload_n hx hb dX0_init_95 rfl (lv_at hl 1 rfl) ?_
  refine va_get (C := RX0) (T := TX0) (N := 15) (ci := 0) (v := .ref q4) hx hb hT fo_in0 hown hK hP 0 (fo_vx_at (by decide)) rfl 2 (by decide) (hT _ (fo_tb 145 (by decide +kernel) rfl)) (fun _ h => h) rfl dX0_init_96 ?_
  refine lv_iload_n hx hb dX0_init_99 rfl (lv_at hl 0 rfl) ?_
  refine fo_new (C := RX1) (T := TX1) (N := 10) (ci := 1) (fs := [.null, .int 0, .long 0, .long 0, .int 0, .int 0, .int 0, .int 0, .int 0, .long 0]) hx hb hT fo_in1 tyX1 tyX1_ok hown (hT _ (fo_tb 37 (by decide +kernel) rfl)) (hT _ (fo_tb 90 (by decide +kernel) rfl)) (hT _ (fo_tb 6 (by decide +kernel) rfl)) hK hP hD hS hA rfl (fun j hj => by rcases (show j = 0 ∨ j = 1 ∨ j = 2 ∨ j = 3 ∨ j = 4 ∨ j = 5 ∨ j = 6 ∨ j = 7 ∨ j = 8 ∨ j = 9 by omega) with rfl | rfl | rfl | rfl | rfl | rfl | rfl | rfl | rfl | rfl <;> rfl) (Nat.le_of_ble_eq_true rfl) (Nat.le_of_ble_eq_true rfl) dX0_init_100 (fun q26 H hP hD hS => ?_)
  refine lv_dup hx hb dX0_init_103 rfl ?_
  refine va_callv (va_runIN (As := []) (rest := [.ref q26, .int 6, .ref q4]) ⟨hx, hb, hml, hown, hT⟩ (c_q_Call_init l D ca 32 _ _ 31 _ (by decide) fo_up_eq) (fo_c0_53 hT hN53 ⟨Nat.le_of_ble_eq_true rfl, Nat.le_of_ble_eq_true rfl⟩) ⟨fo_Pre_blind, fo_Pre_at hP hK hD⟩ rfl rfl hl.1 rfl (lv_room (Nat.le_of_ble_eq_true rfl)) dX0_init_104 ⟨Nat.le_of_ble_eq_true rfl, Nat.le_of_ble_eq_true rfl⟩) hS (fun q _ h => fo_A_sub hD hS hA q h) (fo_A_sub hD hS hA) (fun u27 t H1 locs1 ht hvm hw hB hz1 hk1 hS1 => ?_)
  obtain ⟨hP1, hK1, hD1⟩ := hB
  rw [ht] at hP1
  replace hD := va_D.weaken hD1 (fun k q _ h => fo_A_sub hD hS hA q.1 h)
  replace hP := hP1
  replace hS := hS1
  refine fo_astq hx hb hK hP hD hS 7 31 3 1 (by decide) (by decide) rfl rfl rfl rfl rfl rfl (show fo_vi 6 16 by decide) dX0_init_107 (fun H locs hP hD hS => ?_)
  refine lv_iinc (v := 7) (lv' := [(1, .int 7), (0, .ref h0)]) hx hb dX0_init_108 hl (k := 0) rfl (by decide) (by decide) rfl (fun ls hl => ?_)
  refine lv_goto (tgt := 89) hx hb dX0_init_111 (by decide) ?_
  refine lv_iload_n hx hb dX0_init_89 rfl (lv_at hl 0 rfl) ?_
  refine lv_bipush (v := 16) hx hb dX0_init_90 (by decide) ?_
  refine lv_icmp_ge (tgt := 114) hx hb dX0_init_92 (by decide) (fun c1 => absurd c1 (by decide)) (fun _ => ?_)
  refine lv_aload_n hx hb dX0_init_95 rfl (lv_at hl 1 rfl) ?_
  refine va_get (C := RX0) (T := TX0) (N := 15) (ci := 0) (v := .ref q4) hx hb hT fo_in0 hown hK hP 0 (fo_vx_at (by decide)) rfl 2 (by decide) (hT _ (fo_tb 145 (by decide +kernel) rfl)) (fun _ h => h) rfl dX0_init_96 ?_
  refine lv_iload_n hx hb dX0_init_99 rfl (lv_at hl 0 rfl) ?_
  refine fo_new (C := RX1) (T := TX1) (N := 10) (ci := 1) (fs := [.null, .int 0, .long 0, .long 0, .int 0, .int 0, .int 0, .int 0, .int 0, .long 0]) hx hb hT fo_in1 tyX1 tyX1_ok hown (hT _ (fo_tb 37 (by decide +kernel) rfl)) (hT _ (fo_tb 90 (by decide +kernel) rfl)) (hT _ (fo_tb 6 (by decide +kernel) rfl)) hK hP hD hS hA rfl (fun j hj => by rcases (show j = 0 ∨ j = 1 ∨ j = 2 ∨ j = 3 ∨ j = 4 ∨ j = 5 ∨ j = 6 ∨ j = 7 ∨ j = 8 ∨ j = 9 by omega) with rfl | rfl | rfl | rfl | rfl | rfl | rfl | rfl | rfl | rfl <;> rfl) (Nat.le_of_ble_eq_true rfl) (Nat.le_of_ble_eq_true rfl) dX0_init_100 (fun q28 H hP hD hS => ?_)
  refine lv_dup hx hb dX0_init_103 rfl ?_
  refine va_callv (va_runIN (As := []) (rest := [.ref q28, .int 7, .ref q4]) ⟨hx, hb, hml, hown, hT⟩ (c_q_Call_init l D ca 34 _ _ 33 _ (by decide) fo_up_eq) (fo_c0_53 hT hN53 ⟨Nat.le_of_ble_eq_true rfl, Nat.le_of_ble_eq_true rfl⟩) ⟨fo_Pre_blind, fo_Pre_at hP hK hD⟩ rfl rfl hl.1 rfl (lv_room (Nat.le_of_ble_eq_true rfl)) dX0_init_104 ⟨Nat.le_of_ble_eq_true rfl, Nat.le_of_ble_eq_true rfl⟩) hS (fun q _ h => fo_A_sub hD hS hA q h) (fo_A_sub hD hS hA) (fun u29 t H1 locs1 ht hvm hw hB hz1 hk1 hS1 => ?_)
  obtain ⟨hP1, hK1, hD1⟩ := hB
  rw [ht] at hP1
  replace hD := va_D.weaken hD1 (fun k q _ h => fo_A_sub hD hS hA q.1 h)
  replace hP := hP1
  replace hS := hS1
  refine fo_astq hx hb hK hP hD hS 7 33 3 1 (by decide) (by decide) rfl rfl rfl rfl rfl rfl (show fo_vi 7 16 by decide) dX0_init_107 (fun H locs hP hD hS => ?_)
  refine lv_iinc (v := 8) (lv' := [(1, .int 8), (0, .ref h0)]) hx hb dX0_init_108 hl (k := 0) rfl (by decide) (by decide) rfl (fun ls hl => ?_)
  refine lv_goto (tgt := 89) hx hb dX0_init_111 (by decide) ?_
  refine lv_iload_n hx hb dX0_init_89 rfl (lv_at hl 0 rfl) ?_
  refine lv_bipush (v := 16) hx hb dX0_init_90 (by decide) ?_
  refine lv_icmp_ge (tgt := 114) hx hb dX0_init_92 (by decide) (fun c1 => absurd c1 (by decide)) (fun _ => ?_)
  refine lv_aload_n hx hb dX0_init_95 rfl (lv_at hl 1 rfl) ?_
  refine va_get (C := RX0) (T := TX0) (N := 15) (ci := 0) (v := .ref q4) hx hb hT fo_in0 hown hK hP 0 (fo_vx_at (by decide)) rfl 2 (by decide) (hT _ (fo_tb 145 (by decide +kernel) rfl)) (fun _ h => h) rfl dX0_init_96 ?_
  refine lv_iload_n hx hb dX0_init_99 rfl (lv_at hl 0 rfl) ?_
  refine fo_new (C := RX1) (T := TX1) (N := 10) (ci := 1) (fs := [.null, .int 0, .long 0, .long 0, .int 0, .int 0, .int 0, .int 0, .int 0, .long 0]) hx hb hT fo_in1 tyX1 tyX1_ok hown (hT _ (fo_tb 37 (by decide +kernel) rfl)) (hT _ (fo_tb 90 (by decide +kernel) rfl)) (hT _ (fo_tb 6 (by decide +kernel) rfl)) hK hP hD hS hA rfl (fun j hj => by rcases (show j = 0 ∨ j = 1 ∨ j = 2 ∨ j = 3 ∨ j = 4 ∨ j = 5 ∨ j = 6 ∨ j = 7 ∨ j = 8 ∨ j = 9 by omega) with rfl | rfl | rfl | rfl | rfl | rfl | rfl | rfl | rfl | rfl <;> rfl) (Nat.le_of_ble_eq_true rfl) (Nat.le_of_ble_eq_true rfl) dX0_init_100 (fun q30 H hP hD hS => ?_)
  refine lv_dup hx hb dX0_init_103 rfl ?_
  refine va_callv (va_runIN (As := []) (rest := [.ref q30, .int 8, .ref q4]) ⟨hx, hb, hml, hown, hT⟩ (c_q_Call_init l D ca 36 _ _ 35 _ (by decide) fo_up_eq) (fo_c0_53 hT hN53 ⟨Nat.le_of_ble_eq_true rfl, Nat.le_of_ble_eq_true rfl⟩) ⟨fo_Pre_blind, fo_Pre_at hP hK hD⟩ rfl rfl hl.1 rfl (lv_room (Nat.le_of_ble_eq_true rfl)) dX0_init_104 ⟨Nat.le_of_ble_eq_true rfl, Nat.le_of_ble_eq_true rfl⟩) hS (fun q _ h => fo_A_sub hD hS hA q h) (fo_A_sub hD hS hA) (fun u31 t H1 locs1 ht hvm hw hB hz1 hk1 hS1 => ?_)
  obtain ⟨hP1, hK1, hD1⟩ := hB
  rw [ht] at hP1
  replace hD := va_D.weaken hD1 (fun k q _ h => fo_A_sub hD hS hA q.1 h)
  replace hP := hP1
  replace hS := hS1
  refine fo_astq hx hb hK hP hD hS 7 35 3 1 (by decide) (by decide) rfl rfl rfl rfl rfl rfl (show fo_vi 8 16 by decide) dX0_init_107 (fun H locs hP hD hS => ?_)
  refine lv_iinc (v := 9) (lv' := [(1, .int 9), (0, .ref h0)]) hx hb dX0_init_108 hl (k := 0) rfl (by decide) (by decide) rfl (fun ls hl => ?_)
  refine lv_goto (tgt := 89) hx hb dX0_init_111 (by decide) ?_
  refine lv_iload_n hx hb dX0_init_89 rfl (lv_at hl 0 rfl) ?_
  refine lv_bipush (v := 16) hx hb dX0_init_90 (by decide) ?_
  refine lv_icmp_ge (tgt := 114) hx hb dX0_init_92 (by decide) (fun c1 => absurd c1 (by decide)) (fun _ => ?_)
  refine lv_aload_n hx hb dX0_init_95 rfl (lv_at hl 1 rfl) ?_
  refine va_get (C := RX0) (T := TX0) (N := 15) (ci := 0) (v := .ref q4) hx hb hT fo_in0 hown hK hP 0 (fo_vx_at (by decide)) rfl 2 (by decide) (hT _ (fo_tb 145 (by decide +kernel) rfl)) (fun _ h => h) rfl dX0_init_96 ?_
  refine lv_iload_n hx hb dX0_init_99 rfl (lv_at hl 0 rfl) ?_
  refine fo_new (C := RX1) (T := TX1) (N := 10) (ci := 1) (fs := [.null, .int 0, .long 0, .long 0, .int 0, .int 0, .int 0, .int 0, .int 0, .long 0]) hx hb hT fo_in1 tyX1 tyX1_ok hown (hT _ (fo_tb 37 (by decide +kernel) rfl)) (hT _ (fo_tb 90 (by decide +kernel) rfl)) (hT _ (fo_tb 6 (by decide +kernel) rfl)) hK hP hD hS hA rfl (fun j hj => by rcases (show j = 0 ∨ j = 1 ∨ j = 2 ∨ j = 3 ∨ j = 4 ∨ j = 5 ∨ j = 6 ∨ j = 7 ∨ j = 8 ∨ j = 9 by omega) with rfl | rfl | rfl | rfl | rfl | rfl | rfl | rfl | rfl | rfl <;> rfl) (Nat.le_of_ble_eq_true rfl) (Nat.le_of_ble_eq_true rfl) dX0_init_100 (fun q32 H hP hD hS => ?_)
  refine lv_dup hx hb dX0_init_103 rfl ?_
  refine va_callv (va_runIN (As := []) (rest := [.ref q32, .int 9, .ref q4]) ⟨hx, hb, hml, hown, hT⟩ (c_q_Call_init l D ca 38 _ _ 37 _ (by decide) fo_up_eq) (fo_c0_53 hT hN53 ⟨Nat.le_of_ble_eq_true rfl, Nat.le_of_ble_eq_true rfl⟩) ⟨fo_Pre_blind, fo_Pre_at hP hK hD⟩ rfl rfl hl.1 rfl (lv_room (Nat.le_of_ble_eq_true rfl)) dX0_init_104 ⟨Nat.le_of_ble_eq_true rfl, Nat.le_of_ble_eq_true rfl⟩) hS (fun q _ h => fo_A_sub hD hS hA q h) (fo_A_sub hD hS hA) (fun u33 t H1 locs1 ht hvm hw hB hz1 hk1 hS1 => ?_)
  obtain ⟨hP1, hK1, hD1⟩ := hB
  rw [ht] at hP1
  replace hD := va_D.weaken hD1 (fun k q _ h => fo_A_sub hD hS hA q.1 h)
  replace hP := hP1
  replace hS := hS1
  refine fo_astq hx hb hK hP hD hS 7 37 3 1 (by decide) (by decide) rfl rfl rfl rfl rfl rfl (show fo_vi 9 16 by decide) dX0_init_107 (fun H locs hP hD hS => ?_)
  refine lv_iinc (v := 10) (lv' := [(1, .int 10), (0, .ref h0)]) hx hb dX0_init_108 hl (k := 0) rfl (by decide) (by decide) rfl (fun ls hl => ?_)
  refine lv_goto (tgt := 89) hx hb dX0_init_111 (by decide) ?_
  refine lv_iload_n hx hb dX0_init_89 rfl (lv_at hl 0 rfl) ?_
  refine lv_bipush (v := 16) hx hb dX0_init_90 (by decide) ?_
  refine lv_icmp_ge (tgt := 114) hx hb dX0_init_92 (by decide) (fun c1 => absurd c1 (by decide)) (fun _ => ?_)
  refine lv_aload_n hx hb dX0_init_95 rfl (lv_at hl 1 rfl) ?_
  refine va_get (C := RX0) (T := TX0) (N := 15) (ci := 0) (v := .ref q4) hx hb hT fo_in0 hown hK hP 0 (fo_vx_at (by decide)) rfl 2 (by decide) (hT _ (fo_tb 145 (by decide +kernel) rfl)) (fun _ h => h) rfl dX0_init_96 ?_
  refine lv_iload_n hx hb dX0_init_99 rfl (lv_at hl 0 rfl) ?_
  refine fo_new (C := RX1) (T := TX1) (N := 10) (ci := 1) (fs := [.null, .int 0, .long 0, .long 0, .int 0, .int 0, .int 0, .int 0, .int 0, .long 0]) hx hb hT fo_in1 tyX1 tyX1_ok hown (hT _ (fo_tb 37 (by decide +kernel) rfl)) (hT _ (fo_tb 90 (by decide +kernel) rfl)) (hT _ (fo_tb 6 (by decide +kernel) rfl)) hK hP hD hS hA rfl (fun j hj => by rcases (show j = 0 ∨ j = 1 ∨ j = 2 ∨ j = 3 ∨ j = 4 ∨ j = 5 ∨ j = 6 ∨ j = 7 ∨ j = 8 ∨ j = 9 by omega) with rfl | rfl | rfl | rfl | rfl | rfl | rfl | rfl | rfl | rfl <;> rfl) (Nat.le_of_ble_eq_true rfl) (Nat.le_of_ble_eq_true rfl) dX0_init_100 (fun q34 H hP hD hS => ?_)
  refine lv_dup hx hb dX0_init_103 rfl ?_
  refine va_callv (va_runIN (As := []) (rest := [.ref q34, .int 10, .ref q4]) ⟨hx, hb, hml, hown, hT⟩ (c_q_Call_init l D ca 40 _ _ 39 _ (by decide) fo_up_eq) (fo_c0_53 hT hN53 ⟨Nat.le_of_ble_eq_true rfl, Nat.le_of_ble_eq_true rfl⟩) ⟨fo_Pre_blind, fo_Pre_at hP hK hD⟩ rfl rfl hl.1 rfl (lv_room (Nat.le_of_ble_eq_true rfl)) dX0_init_104 ⟨Nat.le_of_ble_eq_true rfl, Nat.le_of_ble_eq_true rfl⟩) hS (fun q _ h => fo_A_sub hD hS hA q h) (fo_A_sub hD hS hA) (fun u35 t H1 locs1 ht hvm hw hB hz1 hk1 hS1 => ?_)
  obtain ⟨hP1, hK1, hD1⟩ := hB
  rw [ht] at hP1
  replace hD := va_D.weaken hD1 (fun k q _ h => fo_A_sub hD hS hA q.1 h)
  replace hP := hP1
  replace hS := hS1
  refine fo_astq hx hb hK hP hD hS 7 39 3 1 (by decide) (by decide) rfl rfl rfl rfl rfl rfl (show fo_vi 10 16 by decide) dX0_init_107 (fun H locs hP hD hS => ?_)
  refine lv_iinc (v := 11) (lv' := [(1, .int 11), (0, .ref h0)]) hx hb dX0_init_108 hl (k := 0) rfl (by decide) (by decide) rfl (fun ls hl => ?_)
  refine lv_goto (tgt := 89) hx hb dX0_init_111 (by decide) ?_
  refine lv_iload_n hx hb dX0_init_89 rfl (lv_at hl 0 rfl) ?_
  refine lv_bipush (v := 16) hx hb dX0_init_90 (by decide) ?_
  refine lv_icmp_ge (tgt := 114) hx hb dX0_init_92 (by decide) (fun c1 => absurd c1 (by decide)) (fun _ => ?_)
  refine lv_aload_n hx hb dX0_init_95 rfl (lv_at hl 1 rfl) ?_
  refine va_get (C := RX0) (T := TX0) (N := 15) (ci := 0) (v := .ref q4) hx hb hT fo_in0 hown hK hP 0 (fo_vx_at (by decide)) rfl 2 (by decide) (hT _ (fo_tb 145 (by decide +kernel) rfl)) (fun _ h => h) rfl dX0_init_96 ?_
  refine lv_iload_n hx hb dX0_init_99 rfl (lv_at hl 0 rfl) ?_
  refine fo_new (C := RX1) (T := TX1) (N := 10) (ci := 1) (fs := [.null, .int 0, .long 0, .long 0, .int 0, .int 0, .int 0, .int 0, .int 0, .long 0]) hx hb hT fo_in1 tyX1 tyX1_ok hown (hT _ (fo_tb 37 (by decide +kernel) rfl)) (hT _ (fo_tb 90 (by decide +kernel) rfl)) (hT _ (fo_tb 6 (by decide +kernel) rfl)) hK hP hD hS hA rfl (fun j hj => by rcases (show j = 0 ∨ j = 1 ∨ j = 2 ∨ j = 3 ∨ j = 4 ∨ j = 5 ∨ j = 6 ∨ j = 7 ∨ j = 8 ∨ j = 9 by omega) with rfl | rfl | rfl | rfl | rfl | rfl | rfl | rfl | rfl | rfl <;> rfl) (Nat.le_of_ble_eq_true rfl) (Nat.le_of_ble_eq_true rfl) dX0_init_100 (fun q36 H hP hD hS => ?_)
  refine lv_dup hx hb dX0_init_103 rfl ?_
  refine va_callv (va_runIN (As := []) (rest := [.ref q36, .int 11, .ref q4]) ⟨hx, hb, hml, hown, hT⟩ (c_q_Call_init l D ca 42 _ _ 41 _ (by decide) fo_up_eq) (fo_c0_53 hT hN53 ⟨Nat.le_of_ble_eq_true rfl, Nat.le_of_ble_eq_true rfl⟩) ⟨fo_Pre_blind, fo_Pre_at hP hK hD⟩ rfl rfl hl.1 rfl (lv_room (Nat.le_of_ble_eq_true rfl)) dX0_init_104 ⟨Nat.le_of_ble_eq_true rfl, Nat.le_of_ble_eq_true rfl⟩) hS (fun q _ h => fo_A_sub hD hS hA q h) (fo_A_sub hD hS hA) (fun u37 t H1 locs1 ht hvm hw hB hz1 hk1 hS1 => ?_)
  obtain ⟨hP1, hK1, hD1⟩ := hB
  rw [ht] at hP1
  replace hD := va_D.weaken hD1 (fun k q _ h => fo_A_sub hD hS hA q.1 h)
  replace hP := hP1
  replace hS := hS1
  refine fo_astq hx hb hK hP hD hS 7 41 3 1 (by decide) (by decide) rfl rfl rfl rfl rfl rfl (show fo_vi 11 16 by decide) dX0_init_107 (fun H locs hP hD hS => ?_)
  refine lv_iinc (v := 12) (lv' := [(1, .int 12), (0, .ref h0)]) hx hb dX0_init_108 hl (k := 0) rfl (by decide) (by decide) rfl (fun ls hl => ?_)
  refine lv_goto (tgt := 89) hx hb dX0_init_111 (by decide) ?_
  refine lv_iload_n hx hb dX0_init_89 rfl (lv_at hl 0 rfl) ?_
  refine lv_bipush (v := 16) hx hb dX0_init_90 (by decide) ?_
  refine lv_icmp_ge (tgt := 114) hx hb dX0_init_92 (by decide) (fun c1 => absurd c1 (by decide)) (fun _ => ?_)
  refine lv_aload_n hx hb dX0_init_95 rfl (lv_at hl 1 rfl) ?_
  refine va_get (C := RX0) (T := TX0) (N := 15) (ci := 0) (v := .ref q4) hx hb hT fo_in0 hown hK hP 0 (fo_vx_at (by decide)) rfl 2 (by decide) (hT _ (fo_tb 145 (by decide +kernel) rfl)) (fun _ h => h) rfl dX0_init_96 ?_
  refine lv_iload_n hx hb dX0_init_99 rfl (lv_at hl 0 rfl) ?_
  refine fo_new (C := RX1) (T := TX1) (N := 10) (ci := 1) (fs := [.null, .int 0, .long 0, .long 0, .int 0, .int 0, .int 0, .int 0, .int 0, .long 0]) hx hb hT fo_in1 tyX1 tyX1_ok hown (hT _ (fo_tb 37 (by decide +kernel) rfl)) (hT _ (fo_tb 90 (by decide +kernel) rfl)) (hT _ (fo_tb 6 (by decide +kernel) rfl)) hK hP hD hS hA rfl (fun j hj => by rcases (show j = 0 ∨ j = 1 ∨ j = 2 ∨ j = 3 ∨ j = 4 ∨ j = 5 ∨ j = 6 ∨ j = 7 ∨ j = 8 ∨ j = 9 by omega) with rfl | rfl | rfl | rfl | rfl | rfl | rfl | rfl | rfl | rfl <;> rfl) (Nat.le_of_ble_eq_true rfl) (Nat.le_of_ble_eq_true rfl) dX0_init_100 (fun q38 H hP hD hS => ?_)
  refine lv_dup hx hb dX0_init_103 rfl ?_
  refine va_callv (va_runIN (As := []) (rest := [.ref q38, .int 12, .ref q4]) ⟨hx, hb, hml, hown, hT⟩ (c_q_Call_init l D ca 44 _ _ 43 _ (by decide) fo_up_eq) (fo_c0_53 hT hN53 ⟨Nat.le_of_ble_eq_true rfl, Nat.le_of_ble_eq_true rfl⟩) ⟨fo_Pre_blind, fo_Pre_at hP hK hD⟩ rfl rfl hl.1 rfl (lv_room (Nat.le_of_ble_eq_true rfl)) dX0_init_104 ⟨Nat.le_of_ble_eq_true rfl, Nat.le_of_ble_eq_true rfl⟩) hS (fun q _ h => fo_A_sub hD hS hA q h) (fo_A_sub hD hS hA) (fun u39 t H1 locs1 ht hvm hw hB hz1 hk1 hS1 => ?_)
  obtain ⟨hP1, hK1, hD1⟩ := hB
  rw [ht] at hP1
  replace hD := va_D.weaken hD1 (fun k q _ h => fo_A_sub hD hS hA q.1 h)
  replace hP := hP1
  replace hS := hS1
  refine fo_astq hx hb hK hP hD hS 7 43 3 1 (by decide) (by decide) rfl rfl rfl rfl rfl rfl (show fo_vi 12 16 by decide) dX0_init_107 (fun H locs hP hD hS => ?_)
  refine lv_iinc (v := 13) (lv' := [(1, .int 13), (0, .ref h0)]) hx hb dX0_init_108 hl (k := 0) rfl (by decide) (by decide) rfl (fun ls hl => ?_)
  refine lv_goto (tgt := 89) hx hb dX0_init_111 (by decide) ?_
  refine lv_iload_n hx hb dX0_init_89 rfl (lv_at hl 0 rfl) ?_
  refine lv_bipush (v := 16) hx hb dX0_init_90 (by decide) ?_
  refine lv_icmp_ge (tgt := 114) hx hb dX0_init_92 (by decide) (fun c1 => absurd c1 (by decide)) (fun _ => ?_)
  refine lv_aload_n hx hb dX0_init_95 rfl (lv_at hl 1 rfl) ?_
  refine va_get (C := RX0) (T := TX0) (N := 15) (ci := 0) (v := .ref q4) hx hb hT fo_in0 hown hK hP 0 (fo_vx_at (by decide)) rfl 2 (by decide) (hT _ (fo_tb 145 (by decide +kernel) rfl)) (fun _ h => h) rfl dX0_init_96 ?_
  refine lv_iload_n hx hb dX0_init_99 rfl (lv_at hl 0 rfl) ?_
  refine fo_new (C := RX1) (T := TX1) (N := 10) (ci := 1) (fs := [.null, .int 0, .long 0, .long 0, .int 0, .int 0, .int 0, .int 0, .int 0, .long 0]) hx hb hT fo_in1 tyX1 tyX1_ok hown (hT _ (fo_tb 37 (by decide +kernel) rfl)) (hT _ (fo_tb 90 (by decide +kernel) rfl)) (hT _ (fo_tb 6 (by decide +kernel) rfl)) hK hP hD hS hA rfl (fun j hj => by rcases (show j = 0 ∨ j = 1 ∨ j = 2 ∨ j = 3 ∨ j = 4 ∨ j = 5 ∨ j = 6 ∨ j = 7 ∨ j = 8 ∨ j = 9 by omega) with rfl | rfl | rfl | rfl | rfl | rfl | rfl | rfl | rfl | rfl <;> rfl) (Nat.le_of_ble_eq_true rfl) (Nat.le_of_ble_eq_true rfl) dX0_init_100 (fun q40 H hP hD hS => ?_)
  refine lv_dup hx hb dX0_init_103 rfl ?_
  refine va_callv (va_runIN (As := []) (rest := [.ref q40, .int 13, .ref q4]) ⟨hx, hb, hml, hown, hT⟩ (c_q_Call_init l D ca 46 _ _ 45 _ (by decide) fo_up_eq) (fo_c0_53 hT hN53 ⟨Nat.le_of_ble_eq_true rfl, Nat.le_of_ble_eq_true rfl⟩) ⟨fo_Pre_blind, fo_Pre_at hP hK hD⟩ rfl rfl hl.1 rfl (lv_room (Nat.le_of_ble_eq_true rfl)) dX0_init_104 ⟨Nat.le_of_ble_eq_true rfl, Nat.le_of_ble_eq_true rfl⟩) hS (fun q _ h => fo_A_sub hD hS hA q h) (fo_A_sub hD hS hA) (fun u41 t H1 locs1 ht hvm hw hB hz1 hk1 hS1 => ?_)
  obtain ⟨hP1, hK1, hD1⟩ := hB
  rw [ht] at hP1
  replace hD := va_D.weaken hD1 (fun k q _ h => fo_A_sub hD hS hA q.1 h)
  replace hP := hP1
  replace hS := hS1
  refine fo_astq hx hb hK hP hD hS 7 45 3 1 (by decide) (by decide) rfl rfl rfl rfl rfl rfl (show fo_vi 13 16 by decide) dX0_init_107 (fun H locs hP hD hS => ?_)
  refine lv_iinc (v := 14) (lv' := [(1, .int 14), (0, .ref h0)]) hx hb dX0_init_108 hl (k := 0) rfl (by decide) (by decide) rfl (fun ls hl => ?_)
  refine lv_goto (tgt := 89) hx hb dX0_init_111 (by decide) ?_
  refine lv_iload_n hx hb dX0_init_89 rfl (lv_at hl 0 rfl) ?_
  refine lv_bipush (v := 16) hx hb dX0_init_90 (by decide) ?_
  refine lv_icmp_ge (tgt := 114) hx hb dX0_init_92 (by decide) (fun c1 => absurd c1 (by decide)) (fun _ => ?_)
  refine lv_aload_n hx hb dX0_init_95 rfl (lv_at hl 1 rfl) ?_
  refine va_get (C := RX0) (T := TX0) (N := 15) (ci := 0) (v := .ref q4) hx hb hT fo_in0 hown hK hP 0 (fo_vx_at (by decide)) rfl 2 (by decide) (hT _ (fo_tb 145 (by decide +kernel) rfl)) (fun _ h => h) rfl dX0_init_96 ?_
  refine lv_iload_n hx hb dX0_init_99 rfl (lv_at hl 0 rfl) ?_
  refine fo_new (C := RX1) (T := TX1) (N := 10) (ci := 1) (fs := [.null, .int 0, .long 0, .long 0, .int 0, .int 0, .int 0, .int 0, .int 0, .long 0]) hx hb hT fo_in1 tyX1 tyX1_ok hown (hT _ (fo_tb 37 (by decide +kernel) rfl)) (hT _ (fo_tb 90 (by decide +kernel) rfl)) (hT _ (fo_tb 6 (by decide +kernel) rfl)) hK hP hD hS hA rfl (fun j hj => by rcases (show j = 0 ∨ j = 1 ∨ j = 2 ∨ j = 3 ∨ j = 4 ∨ j = 5 ∨ j = 6 ∨ j = 7 ∨ j = 8 ∨ j = 9 by omega) with rfl | rfl | rfl | rfl | rfl | rfl | rfl | rfl | rfl | rfl <;> rfl) (Nat.le_of_ble_eq_true rfl) (Nat.le_of_ble_eq_true rfl) dX0_init_100 (fun q42 H hP hD hS => ?_)
  refine lv_dup hx hb dX0_init_103 rfl ?_
  refine va_callv (va_runIN (As := []) (rest := [.ref q42, .int 14, .ref q4]) ⟨hx, hb, hml, hown, hT⟩ (c_q_Call_init l D ca 48 _ _ 47 _ (by decide) fo_up_eq) (fo_c0_53 hT hN53 ⟨Nat.le_of_ble_eq_true rfl, Nat.le_of_ble_eq_true rfl⟩) ⟨fo_Pre_blind, fo_Pre_at hP hK hD⟩ rfl rfl hl.1 rfl (lv_room (Nat.le_of_ble_eq_true rfl)) dX0_init_104 ⟨Nat.le_of_ble_eq_true rfl, Nat.le_of_ble_eq_true rfl⟩) hS (fun q _ h => fo_A_sub hD hS hA q h) (fo_A_sub hD hS hA) (fun u43 t H1 locs1 ht hvm hw hB hz1 hk1 hS1 => ?_)
  obtain ⟨hP1, hK1, hD1⟩ := hB
  rw [ht] at hP1
  replace hD := va_D.weaken hD1 (fun k q _ h => fo_A_sub hD hS hA q.1 h)
  replace hP := hP1
  replace hS := hS1
  refine fo_astq hx hb hK hP hD hS 7 47 3 1 (by decide) (by decide) rfl rfl rfl rfl rfl rfl (show fo_vi 14 16 by decide) dX0_init_107 (fun H locs hP hD hS => ?_)
  refine lv_iinc (v := 15) (lv' := [(1, .int 15), (0, .ref h0)]) hx hb dX0_init_108 hl (k := 0) rfl (by decide) (by decide) rfl (fun ls hl => ?_)
  refine lv_goto (tgt := 89) hx hb dX0_init_111 (by decide) ?_
  refine lv_iload_n hx hb dX0_init_89 rfl (lv_at hl 0 rfl) ?_
  refine lv_bipush (v := 16) hx hb dX0_init_90 (by decide) ?_
  refine lv_icmp_ge (tgt := 114) hx hb dX0_init_92 (by decide) (fun c1 => absurd c1 (by decide)) (fun _ => ?_)
  refine lv_aload_n hx hb dX0_init_95 rfl (lv_at hl 1 rfl) ?_
  refine va_get (C := RX0) (T := TX0) (N := 15) (ci := 0) (v := .ref q4) hx hb hT fo_in0 hown hK hP 0 (fo_vx_at (by decide)) rfl 2 (by decide) (hT _ (fo_tb 145 (by decide +kernel) rfl)) (fun _ h => h) rfl dX0_init_96 ?_
  refine lv_iload_n hx hb dX0_init_99 rfl (lv_at hl 0 rfl) ?_
  refine fo_new (C := RX1) (T := TX1) (N := 10) (ci := 1) (fs := [.null, .int 0, .long 0, .long 0, .int 0, .int 0, .int 0, .int 0, .int 0, .long 0]) hx hb hT fo_in1 tyX1 tyX1_ok hown (hT _ (fo_tb 37 (by decide +kernel) rfl)) (hT _ (fo_tb 90 (by decide +kernel) rfl)) (hT _ (fo_tb 6 (by decide +kernel) rfl)) hK hP hD hS hA rfl (fun j hj => by rcases (show j = 0 ∨ j = 1 ∨ j = 2 ∨ j = 3 ∨ j = 4 ∨ j = 5 ∨ j = 6 ∨ j = 7 ∨ j = 8 ∨ j = 9 by omega) with rfl | rfl | rfl | rfl | rfl | rfl | rfl | rfl | rfl | rfl <;> rfl) (Nat.le_of_ble_eq_true rfl) (Nat.le_of_ble_eq_true rfl) dX0_init_100 (fun q44 H hP hD hS => ?_)
  refine lv_dup hx hb dX0_init_103 rfl ?_
  refine va_callv (va_runIN (As := []) (rest := [.ref q44, .int 15, .ref q4]) ⟨hx, hb, hml, hown, hT⟩ (c_q_Call_init l D ca 50 _ _ 49 _ (by decide) fo_up_eq) (fo_c0_53 hT hN53 ⟨Nat.le_of_ble_eq_true rfl, Nat.le_of_ble_eq_true rfl⟩) ⟨fo_Pre_blind, fo_Pre_at hP hK hD⟩ rfl rfl hl.1 rfl (lv_room (Nat.le_of_ble_eq_true rfl)) dX0_init_104 ⟨Nat.le_of_ble_eq_true rfl, Nat.le_of_ble_eq_true rfl⟩) hS (fun q _ h => fo_A_sub hD hS hA q h) (fo_A_sub hD hS hA) (fun u45 t H1 locs1 ht hvm hw hB hz1 hk1 hS1 => ?_)
  obtain ⟨hP1, hK1, hD1⟩ := hB
  rw [ht] at hP1
  replace hD := va_D.weaken hD1 (fun k q _ h => fo_A_sub hD hS hA q.1 h)
  replace hP := hP1
  replace hS := hS1
  refine fo_astq hx hb hK hP hD hS 7 49 3 1 (by decide) (by decide) rfl rfl rfl rfl rfl rfl (show fo_vi 15 16 by decide) dX0_init_107 (fun H locs hP hD hS => ?_)
  refine lv_iinc (v := 16) (lv' := [(1, .int 16), (0, .ref h0)]) hx hb dX0_init_108 hl (k := 0) rfl (by decide) (by decide) rfl (fun ls hl => ?_)
  refine lv_goto (tgt := 89) hx hb dX0_init_111 (by decide) ?_
  refine lv_iload_n hx hb dX0_init_89 rfl (lv_at hl 0 rfl) ?_
  refine lv_bipush (v := 16) hx hb dX0_init_90 (by decide) ?_
  refine lv_icmp_ge (tgt := 114) hx hb dX0_init_92 (by decide) (fun _ => ?_) (fun c1 => absurd (by decide) c1)
  have hfin : ∃ ad : Nat → Nat, ad 0 = h0 ∧ va_P D vwCl (fo_vx 51 ad (fo_ce ca ad (fun _ _ _ => 0, fun _ _ _ => 0))) H ∧ va_D A (fo_vx 51 ad (fo_ce ca ad (fun _ _ _ => 0, fun _ _ _ => 0))) := by
    refine ⟨_, ?_, fo_P_at hP ?_, fo_vx_D hD⟩
    · rfl
    intro j hj
    rcases (show j = 0 ∨ j = 1 ∨ j = 2 ∨ j = 3 ∨ j = 4 ∨ j = 5 ∨ j = 6 ∨ j = 7 ∨ j = 8 ∨ j = 9 ∨ j = 10 ∨ j = 11 ∨ j = 12 ∨ j = 13 ∨ j = 14 ∨ j = 15 ∨ j = 16 ∨ j = 17 ∨ j = 18 ∨ j = 19 ∨ j = 20 ∨ j = 21 ∨ j = 22 ∨ j = 23 ∨ j = 24 ∨ j = 25 ∨ j = 26 ∨ j = 27 ∨ j = 28 ∨ j = 29 ∨ j = 30 ∨ j = 31 ∨ j = 32 ∨ j = 33 ∨ j = 34 ∨ j = 35 ∨ j = 36 ∨ j = 37 ∨ j = 38 ∨ j = 39 ∨ j = 40 ∨ j = 41 ∨ j = 42 ∨ j = 43 ∨ j = 44 ∨ j = 45 ∨ j = 46 ∨ j = 47 ∨ j = 48 ∨ j = 49 ∨ j = 50 by omega) with rfl | rfl | rfl | rfl | rfl | rfl | rfl | rfl | rfl | rfl | rfl | rfl | rfl | rfl | rfl | rfl | rfl | rfl | rfl | rfl | rfl | rfl | rfl | rfl | rfl | rfl | rfl | rfl | rfl | rfl | rfl | rfl | rfl | rfl | rfl | rfl | rfl | rfl | rfl | rfl | rfl | rfl | rfl | rfl | rfl | rfl | rfl | rfl | rfl | rfl | rfl
    · exact Or.inl rfl
    · exact Or.inl rfl
    · exact Or.inl rfl
    · exact Or.inl rfl
    · exact Or.inl rfl
    · exact Or.inl rfl
    · exact Or.inl rfl
    · exact Or.inr ⟨_, _, _, _, rfl, rfl, fun q hq => by rcases (show q = 0 ∨ q = 1 ∨ q = 2 ∨ q = 3 ∨ q = 4 ∨ q = 5 ∨ q = 6 ∨ q = 7 ∨ q = 8 ∨ q = 9 ∨ q = 10 ∨ q = 11 ∨ q = 12 ∨ q = 13 ∨ q = 14 ∨ q = 15 by omega) with rfl | rfl | rfl | rfl | rfl | rfl | rfl | rfl | rfl | rfl | rfl | rfl | rfl | rfl | rfl | rfl <;> rfl⟩
    · exact Or.inl rfl
    · exact Or.inl rfl
    · exact Or.inl rfl
    · exact Or.inl rfl
    · exact Or.inl rfl
    · exact Or.inl rfl
    · exact Or.inl rfl
    · exact Or.inl rfl
    · exact Or.inl rfl
    · exact Or.inl rfl
    · exact Or.inl rfl
    · exact Or.inl rfl
    · exact Or.inl rfl
    · exact Or.inl rfl
    · exact Or.inl rfl
    · exact Or.inl rfl
    · exact Or.inl rfl
    · exact Or.inl rfl
    · exact Or.inl rfl
    · exact Or.inl rfl
    · exact Or.inl rfl
    · exact Or.inl rfl
    · exact Or.inl rfl
    · exact Or.inl rfl
    · exact Or.inl rfl
    · exact Or.inl rfl
    · exact Or.inl rfl
    · exact Or.inl rfl
    · exact Or.inl rfl
    · exact Or.inl rfl
    · exact Or.inl rfl
    · exact Or.inl rfl
    · exact Or.inl rfl
    · exact Or.inl rfl
    · exact Or.inl rfl
    · exact Or.inl rfl
    · exact Or.inl rfl
    · exact Or.inl rfl
    · exact Or.inl rfl
    · exact Or.inl rfl
    · exact Or.inl rfl
    · exact Or.inl rfl
    · exact Or.inl rfl
  obtain ⟨ad, ha0, hP9, hD9⟩ := hfin
  exact W.vret hx hb hr (fun t ht hW => ⟨⟨ad, rfl, trivial, ha0, by rw [ht]; exact hP9, va_K.moved hW.alike hK, hD9⟩, hS.F ht⟩) hS.2.2 dX0_init_114
