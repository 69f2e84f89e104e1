abbrev ad_q_Call (K : Nat) (ad : Nat → Nat) (u : Nat) : Nat → Nat := va_up (ad) (K) (u)
abbrev e_q_Call (ca : Nat → ClassId) (K j0 : Nat) (e1 : Nat → va_E) (u : Nat) : Nat → va_E := va_up (va_up (e1) (K) (.inl (ca 0, 5, .inl (fun _ => 0)))) j0 (.inr (1, [.ref u, .int 0, .long 0, .long 0, .int 0, .int 0, .int 0, .int 0, .int 0, .long 0]))
set_option maxHeartbeats 4000000 in
set_option maxRecDepth 100000 in
theorem c_q_Call_init (l : Launch) (D : va_G) (ca : Nat → ClassId) (K : Nat) (ad : Nat → Nat) (e1 : Nat → va_E) (j0 sz : Nat) (hj : j0 < K) (he : e1 j0 = .inr (1, [.null, .int 0, .long 0, .long 0, .int 0, .int 0, .int 0, .int 0, .int 0, .long 0])) : Met l yX1_init ws_q_Call_init rm_q_Call_init (fo_Pre K D vwCl (fo_tys ca) ad e1 sz [.ref (ad j0)]) (va_Qv (fun (_ : Nat) => True) (fun u t => va_P D vwCl (fo_vx (K + 1) (ad_q_Call K ad u) (e_q_Call ca K j0 e1 u)) t.heap ∧ va_K D vwCl (fo_tys ca) t ∧ va_D (fo_A K ad sz) (fo_vx (K + 1) (ad_q_Call K ad u) (e_q_Call ca K j0 e1 u))) (fo_A K ad sz)) 1 5 (fo_A K ad sz) := by
  refine Met.ofW (cc := cX1_init) (maxL := 1) (ret := none) (by decide) rfl ?_
  intro p e s m args below meth c s₁ B hml hv
  obtain ⟨rfl, hsz, hP, hK, hD0⟩ := hv
  subst hsz
  have hx := B.exec
  have hb := B.bytes
  have hr := B.returns
  have hlocks := B.notSynchronized
  have hts := atoms_spec (ws := ws_q_Call_init) B.pre
  have hT : ∀ w ∈ fo_T, w.before _ s = true := fun w h => hts w (List.mem_cons_of_mem _ h)
  have hown : s.vm.findClass RX1 = some m.cls := findClass_of_methodNamed B.named
  have hin : meth.name = "<init>" := (name_of_methodNamed B.named B.method).1
  have hD : va_D (fo_A K ad s.heap.size) (fo_vx K ad e1) := fo_A_D hD0
  have hA : ∀ q, s.heap.size ≤ q → fo_A K ad s.heap.size q := fun q h => Or.inr h
  have hS : va_S (fo_A K ad s.heap.size) s.heap s.heap [] := va_S.rf
  have hl := lv_entry ([.ref (ad j0)]) (n := 1) (Nat.le_of_ble_eq_true rfl)
  rw [lg_entry_eq]
  generalize (lg_sl ([.ref (ad j0)]) ++ List.replicate (1 - (lg_sl ([.ref (ad j0)])).length) Slot.unset).toArray = ls at hl ⊢
  have hl : lv_has ls 1 [(0, .ref (ad j0))] := hl
  refine lv_aload_n hx hb dX1_init_0 rfl (lv_at hl 0 rfl) ?_
  refine W.objInit hx hb hown (fo_o1 hT) (fo_oi hT) (fo_oc hT) rfl (by rw [hml]; exact hl.1) rfl dX1_init_1 (Nat.le_of_ble_eq_true rfl) (Nat.le_of_ble_eq_true rfl) ?_
  refine W.eq (g2 := F0 m 4 ls []) rfl ?_
  refine lv_aload_n hx hb dX1_init_4 rfl (lv_at hl 0 rfl) ?_
  refine lv_iconst (v := 5) hx hb dX1_init_5 (by decide) ?_
  refine fo_newa (atype := .int) (ty := .int) (cA0 := ca 0) (N' := 5) (a0 := (5, .inl (fun _ => 0))) hx hb (fo_acI hT) rfl hK 0 rfl (fun cA h1 h2 => Option.some.inj ((show s.vm.findClass _ = some cA from h1).symm.trans h2)) hP hD hS hA (fun _ => rfl) (by decide) (by decide) (by decide) (Nat.le_of_ble_eq_true rfl) (Nat.le_of_ble_eq_true rfl) dX1_init_6 (fun q0 H hP hD hS => ?_)
  refine fo_putF (C := RX1) (T := TX1) (N := 10) (ci := 1) (v := .ref q0) (ty := .array .int) hx hb hT fo_in1 tyX1 tyX1_ok nmX1 hown hK hP hD hS j0 (Nat.lt_succ_of_lt hj) (fo_up_lt hj) ((fo_up_lt hj).trans he) rfl 0 (by decide) (hT _ (fo_tb 95 (by decide +kernel) rfl)) (fun _ h => h) rfl hin rfl (by decide +kernel) rfl rfl (Nat.le_of_ble_eq_true rfl) dX1_init_8 (fun H locs hP hD hS => ?_)
  exact W.vret hx hb hr (fun t ht hW => ⟨⟨q0, rfl, trivial, by rw [ht]; exact hP, va_K.moved hW.alike hK, hD⟩, hS.F ht⟩) hS.2.2 dX1_init_11
abbrev ad_q_Market (K : Nat) (ad : Nat → Nat) (u : Nat × Nat) : Nat → Nat := va_up (va_up (ad) (K) (u.1)) (K + 1) (u.2)
abbrev e_q_Market (ca : Nat → ClassId) (K j0 : Nat) (e1 : Nat → va_E) (u : Nat × Nat) : Nat → va_E := va_up (va_up (va_up (va_up (e1) (K) (.inl (ca 1, 9, .inr (.inl (fun _ => 0))))) j0 (.inr (2, [.ref u.1, .null]))) (K + 1) (.inl (ca 1, 9, .inr (.inl (fun _ => 0))))) j0 (.inr (2, [.ref u.1, .ref u.2]))
set_option maxHeartbeats 4000000 in
set_option maxRecDepth 100000 in
theorem c_q_Market_init (l : Launch) (D : va_G) (ca : Nat → ClassId) (K : Nat) (ad : Nat → Nat) (e1 : Nat → va_E) (j0 sz : Nat) (hj : j0 < K) (he : e1 j0 = .inr (2, [.null, .null])) : Met l yX2_init ws_q_Market_init rm_q_Market_init (fo_Pre K D vwCl (fo_tys ca) ad e1 sz [.ref (ad j0)]) (va_Qv (fun (_ : Nat × Nat) => True) (fun u t => va_P D vwCl (fo_vx (K + 1 + 1) (ad_q_Market K ad u) (e_q_Market ca K j0 e1 u)) t.heap ∧ va_K D vwCl (fo_tys ca) t ∧ va_D (fo_A K ad sz) (fo_vx (K + 1 + 1) (ad_q_Market K ad u) (e_q_Market ca K j0 e1 u))) (fo_A K ad sz)) 2 18 (fo_A K ad sz) := by
  refine Met.ofW (cc := cX2_init) (maxL := 1) (ret := none) (by decide) rfl ?_
  intro p e s m args below meth c s₁ B hml hv
  obtain ⟨rfl, hsz, hP, hK, hD0⟩ := hv
  subst hsz
  have hx := B.exec
  have hb := B.bytes
  have hr := B.returns
  have hlocks := B.notSynchronized
  have hts := atoms_spec (ws := ws_q_Market_init) B.pre
  have hT : ∀ w ∈ fo_T, w.before _ s = true := fun w h => hts w (List.mem_cons_of_mem _ h)
  have hown : s.vm.findClass RX2 = some m.cls := findClass_of_methodNamed B.named
  have hin : meth.name = "<init>" := (name_of_methodNamed B.named B.method).1
  have hD : va_D (fo_A K ad s.heap.size) (fo_vx K ad e1) := fo_A_D hD0
  have hA : ∀ q, s.heap.size ≤ q → fo_A K ad s.heap.size q := fun q h => Or.inr h
  have hS : va_S (fo_A K ad s.heap.size) s.heap s.heap [] := va_S.rf
  have hl := lv_entry ([.ref (ad j0)]) (n := 1) (Nat.le_of_ble_eq_true rfl)
  rw [lg_entry_eq]
  generalize (lg_sl ([.ref (ad j0)]) ++ List.replicate (1 - (lg_sl ([.ref (ad j0)])).length) Slot.unset).toArray = ls at hl ⊢
  have hl : lv_has ls 1 [(0, .ref (ad j0))] := hl
  refine lv_aload_n hx hb dX2_init_0 rfl (lv_at hl 0 rfl) ?_
  refine W.objInit hx hb hown (fo_o2 hT) (fo_oi hT) (fo_oc hT) rfl (by rw [hml]; exact hl.1) rfl dX2_init_1 (Nat.le_of_ble_eq_true rfl) (Nat.le_of_ble_eq_true rfl) ?_
  refine W.eq (g2 := F0 m 4 ls []) rfl ?_
  refine lv_aload_n hx hb dX2_init_4 rfl (lv_at hl 0 rfl) ?_
  refine lv_bipush (v := 9) hx hb dX2_init_5 (by decide) ?_
  refine fo_newa (atype := .long) (ty := .long) (cA0 := ca 1) (N' := 9) (a0 := (9, .inr (.inl (fun _ => 0)))) hx hb (fo_acJ hT) rfl hK 1 rfl (fun cA h1 h2 => Option.some.inj ((show s.vm.findClass _ = some cA from h1).symm.trans h2)) hP hD hS hA (fun _ => rfl) (by decide) (by decide) (by decide) (Nat.le_of_ble_eq_true rfl) (Nat.le_of_ble_eq_true rfl) dX2_init_7 (fun q0 H hP hD hS => ?_)
  refine fo_putF (C := RX2) (T := TX2) (N := 2) (ci := 2) (v := .ref q0) (ty := .array .long) hx hb hT fo_in2 tyX2 tyX2_ok nmX2 hown hK hP hD hS j0 (Nat.lt_succ_of_lt hj) (fo_up_lt hj) ((fo_up_lt hj).trans he) rfl 0 (by decide) (hT _ (fo_tb 26 (by decide +kernel) rfl)) (fun _ h => h) rfl hin rfl (by decide +kernel) rfl rfl (Nat.le_of_ble_eq_true rfl) dX2_init_9 (fun H locs hP hD hS => ?_)
  refine lv_aload_n hx hb dX2_init_12 rfl (lv_at hl 0 rfl) ?_
  refine lv_bipush (v := 9) hx hb dX2_init_13 (by decide) ?_
  refine fo_newa (atype := .long) (ty := .long) (cA0 := ca 1) (N' := 9) (a0 := (9, .inr (.inl (fun _ => 0)))) hx hb (fo_acJ hT) rfl hK 1 rfl (fun cA h1 h2 => Option.some.inj ((show s.vm.findClass _ = some cA from h1).symm.trans h2)) hP hD hS hA (fun _ => rfl) (by decide) (by decide) (by decide) (Nat.le_of_ble_eq_true rfl) (Nat.le_of_ble_eq_true rfl) dX2_init_15 (fun q1 H hP hD hS => ?_)
  refine fo_putF (C := RX2) (T := TX2) (N := 2) (ci := 2) (v := .ref q1) (ty := .array .long) hx hb hT fo_in2 tyX2 tyX2_ok nmX2 hown hK hP hD hS j0 (Nat.lt_succ_of_lt (Nat.lt_succ_of_lt hj)) ((fo_up_lt (Nat.lt_succ_of_lt hj)).trans (fo_up_lt hj)) ((fo_up_lt (Nat.lt_succ_of_lt hj)).trans fo_up_eq) rfl 1 (by decide) (hT _ (fo_tb 29 (by decide +kernel) rfl)) (fun _ h => h) rfl hin rfl (by decide +kernel) rfl rfl (Nat.le_of_ble_eq_true rfl) dX2_init_17 (fun H locs hP hD hS => ?_)
  exact W.vret hx hb hr (fun t ht hW => ⟨⟨(q0, q1), rfl, trivial, by rw [ht]; exact hP, va_K.moved hW.alike hK, hD⟩, hS.F ht⟩) hS.2.2 dX2_init_20
abbrev ad_q_Row (K : Nat) (ad : Nat → Nat) (u : Nat) : Nat → Nat := va_up (ad) (K) (u)
abbrev e_q_Row (ca : Nat → ClassId) (K j0 : Nat) (e1 : Nat → va_E) (u : Nat) : Nat → va_E := va_up (va_up (e1) (K) (.inl (ca 0, 16, .inl (fun _ => 0)))) j0 (.inr (3, [.ref u, .int 0]))
set_option maxHeartbeats 4000000 in
set_option maxRecDepth 100000 in
theorem c_q_Row_init (l : Launch) (D : va_G) (ca : Nat → ClassId) (K : Nat) (ad : Nat → Nat) (e1 : Nat → va_E) (j0 sz : Nat) (hj : j0 < K) (he : e1 j0 = .inr (3, [.null, .int 0])) : Met l yX3_init ws_q_Row_init rm_q_Row_init (fo_Pre K D vwCl (fo_tys ca) ad e1 sz [.ref (ad j0)]) (va_Qv (fun (_ : Nat) => True) (fun u t => va_P D vwCl (fo_vx (K + 1) (ad_q_Row K ad u) (e_q_Row ca K j0 e1 u)) t.heap ∧ va_K D vwCl (fo_tys ca) t ∧ va_D (fo_A K ad sz) (fo_vx (K + 1) (ad_q_Row K ad u) (e_q_Row ca K j0 e1 u))) (fo_A K ad sz)) 1 16 (fo_A K ad sz) := by
  refine Met.ofW (cc := cX3_init) (maxL := 1) (ret := none) (by decide) rfl ?_
  intro p e s m args below meth c s₁ B hml hv
  obtain ⟨rfl, hsz, hP, hK, hD0⟩ := hv
  subst hsz
  have hx := B.exec
  have hb := B.bytes
  have hr := B.returns
  have hlocks := B.notSynchronized
  have hts := atoms_spec (ws := ws_q_Row_init) B.pre
  have hT : ∀ w ∈ fo_T, w.before _ s = true := fun w h => hts w (List.mem_cons_of_mem _ h)
  have hown : s.vm.findClass RX3 = some m.cls := findClass_of_methodNamed B.named
  have hin : meth.name = "<init>" := (name_of_methodNamed B.named B.method).1
  have hD : va_D (fo_A K ad s.heap.size) (fo_vx K ad e1) := fo_A_D hD0
  have hA : ∀ q, s.heap.size ≤ q → fo_A K ad s.heap.size q := fun q h => Or.inr h
  have hS : va_S (fo_A K ad s.heap.size) s.heap s.heap [] := va_S.rf
  have hl := lv_entry ([.ref (ad j0)]) (n := 1) (Nat.le_of_ble_eq_true rfl)
  rw [lg_entry_eq]
  generalize (lg_sl ([.ref (ad j0)]) ++ List.replicate (1 - (lg_sl ([.ref (ad j0)])).length) Slot.unset).toArray = ls at hl ⊢
  have hl : lv_has ls 1 [(0, .ref (ad j0))] := hl
  refine lv_aload_n hx hb dX3_init_0 rfl (lv_at hl 0 rfl) ?_
  refine W.objInit hx hb hown (fo_o3 hT) (fo_oi hT) (fo_oc hT) rfl (by rw [hml]; exact hl.1) rfl dX3_init_1 (Nat.le_of_ble_eq_true rfl) (Nat.le_of_ble_eq_true rfl) ?_
  refine W.eq (g2 := F0 m 4 ls []) rfl ?_
  refine lv_aload_n hx hb dX3_init_4 rfl (lv_at hl 0 rfl) ?_
  refine lv_bipush (v := 16) hx hb dX3_init_5 (by decide) ?_
  refine fo_newa (atype := .int) (ty := .int) (cA0 := ca 0) (N' := 16) (a0 := (16, .inl (fun _ => 0))) hx hb (fo_acI hT) rfl hK 0 rfl (fun cA h1 h2 => Option.some.inj ((show s.vm.findClass _ = some cA from h1).symm.trans h2)) hP hD hS hA (fun _ => rfl) (by decide) (by decide) (by decide) (Nat.le_of_ble_eq_true rfl) (Nat.le_of_ble_eq_true rfl) dX3_init_7 (fun q0 H hP hD hS => ?_)
  refine fo_putF (C := RX3) (T := TX3) (N := 2) (ci := 3) (v := .ref q0) (ty := .array .int) hx hb hT fo_in3 tyX3 tyX3_ok nmX3 hown hK hP hD hS j0 (Nat.lt_succ_of_lt hj) (fo_up_lt hj) ((fo_up_lt hj).trans he) rfl 0 (by decide) (hT _ (fo_tb 45 (by decide +kernel) rfl)) (fun _ h => h) rfl hin rfl (by decide +kernel) rfl rfl (Nat.le_of_ble_eq_true rfl) dX3_init_9 (fun H locs hP hD hS => ?_)
  exact W.vret hx hb hr (fun t ht hW => ⟨⟨q0, rfl, trivial, by rw [ht]; exact hP, va_K.moved hW.alike hK, hD⟩, hS.F ht⟩) hS.2.2 dX3_init_12
abbrev ad_q_Links (K : Nat) (ad : Nat → Nat) (u : Nat) : Nat → Nat := va_up (ad) (K) (u)
abbrev e_q_Links (ca : Nat → ClassId) (K j0 : Nat) (e1 : Nat → va_E) (u : Nat) : Nat → va_E := va_up (va_up (e1) (K) (.inl (ca 0, 16, .inl (fun _ => 0)))) j0 (.inr (4, [.ref u]))
set_option maxHeartbeats 4000000 in
set_option maxRecDepth 100000 in
theorem c_q_Links_init (l : Launch) (D : va_G) (ca : Nat → ClassId) (K : Nat) (ad : Nat → Nat) (e1 : Nat → va_E) (j0 sz : Nat) (hj : j0 < K) (he : e1 j0 = .inr (4, [.null])) : Met l yX4_init ws_q_Links_init rm_q_Links_init (fo_Pre K D vwCl (fo_tys ca) ad e1 sz [.ref (ad j0)]) (va_Qv (fun (_ : Nat) => True) (fun u t => va_P D vwCl (fo_vx (K + 1) (ad_q_Links K ad u) (e_q_Links ca K j0 e1 u)) t.heap ∧ va_K D vwCl (fo_tys ca) t ∧ va_D (fo_A K ad sz) (fo_vx (K + 1) (ad_q_Links K ad u) (e_q_Links ca K j0 e1 u))) (fo_A K ad sz)) 1 16 (fo_A K ad sz) := by
  refine Met.ofW (cc := cX4_init) (maxL := 1) (ret := none) (by decide) rfl ?_
  intro p e s m args below meth c s₁ B hml hv
  obtain ⟨rfl, hsz, hP, hK, hD0⟩ := hv
  subst hsz
  have hx := B.exec
  have hb := B.bytes
  have hr := B.returns
  have hlocks := B.notSynchronized
  have hts := atoms_spec (ws := ws_q_Links_init) B.pre
  have hT : ∀ w ∈ fo_T, w.before _ s = true := fun w h => hts w (List.mem_cons_of_mem _ h)
  have hown : s.vm.findClass RX4 = some m.cls := findClass_of_methodNamed B.named
  have hin : meth.name = "<init>" := (name_of_methodNamed B.named B.method).1
  have hD : va_D (fo_A K ad s.heap.size) (fo_vx K ad e1) := fo_A_D hD0
  have hA : ∀ q, s.heap.size ≤ q → fo_A K ad s.heap.size q := fun q h => Or.inr h
  have hS : va_S (fo_A K ad s.heap.size) s.heap s.heap [] := va_S.rf
  have hl := lv_entry ([.ref (ad j0)]) (n := 1) (Nat.le_of_ble_eq_true rfl)
  rw [lg_entry_eq]
  generalize (lg_sl ([.ref (ad j0)]) ++ List.replicate (1 - (lg_sl ([.ref (ad j0)])).length) Slot.unset).toArray = ls at hl ⊢
  have hl : lv_has ls 1 [(0, .ref (ad j0))] := hl
  refine lv_aload_n hx hb dX4_init_0 rfl (lv_at hl 0 rfl) ?_
  refine W.objInit hx hb hown (fo_o4 hT) (fo_oi hT) (fo_oc hT) rfl (by rw [hml]; exact hl.1) rfl dX4_init_1 (Nat.le_of_ble_eq_true rfl) (Nat.le_of_ble_eq_true rfl) ?_
  refine W.eq (g2 := F0 m 4 ls []) rfl ?_
  refine lv_aload_n hx hb dX4_init_4 rfl (lv_at hl 0 rfl) ?_
  refine lv_bipush (v := 16) hx hb dX4_init_5 (by decide) ?_
  refine fo_newa (atype := .int) (ty := .int) (cA0 := ca 0) (N' := 16) (a0 := (16, .inl (fun _ => 0))) hx hb (fo_acI hT) rfl hK 0 rfl (fun cA h1 h2 => Option.some.inj ((show s.vm.findClass _ = some cA from h1).symm.trans h2)) hP hD hS hA (fun _ => rfl) (by decide) (by decide) (by decide) (Nat.le_of_ble_eq_true rfl) (Nat.le_of_ble_eq_true rfl) dX4_init_7 (fun q0 H hP hD hS => ?_)
  refine fo_putF (C := RX4) (T := TX4) (N := 1) (ci := 4) (v := .ref q0) (ty := .array .int) hx hb hT fo_in4 tyX4 tyX4_ok nmX4 hown hK hP hD hS j0 (Nat.lt_succ_of_lt hj) (fo_up_lt hj) ((fo_up_lt hj).trans he) rfl 0 (by decide) (hT _ (fo_tb 63 (by decide +kernel) rfl)) (fun _ h => h) rfl hin rfl (by decide +kernel) rfl rfl (Nat.le_of_ble_eq_true rfl) dX4_init_9 (fun H locs hP hD hS => ?_)
  exact W.vret hx hb hr (fun t ht hW => ⟨⟨q0, rfl, trivial, by rw [ht]; exact hP, va_K.moved hW.alike hK, hD⟩, hS.F ht⟩) hS.2.2 dX4_init_12
abbrev ad_q_Auction (K : Nat) (ad : Nat → Nat) (u : Nat × Nat × Nat) : Nat → Nat := va_up (va_up (va_up (ad) (K) (u.1)) (K + 1) (u.2.1)) (K + 1 + 1) (u.2.2)
abbrev e_q_Auction (ca : Nat → ClassId) (K j0 : Nat) (e1 : Nat → va_E) (u : Nat × Nat × Nat) : Nat → va_E := va_up (va_up (va_up (va_up (va_up (va_up (e1) (K) (.inl (ca 2, 16, .inl (fun _ => 0)))) j0 (.inr (5, [.ref u.1, .null, .null, .long 0, .long 0]))) (K + 1) (.inl (ca 1, 8, .inr (.inl (fun _ => 0))))) j0 (.inr (5, [.ref u.1, .ref u.2.1, .null, .long 0, .long 0]))) (K + 1 + 1) (.inl (ca 1, 8, .inr (.inl (fun _ => 0))))) j0 (.inr (5, [.ref u.1, .ref u.2.1, .ref u.2.2, .long 0, .long 0]))
set_option maxHeartbeats 4000000 in
set_option maxRecDepth 100000 in
theorem c_q_Auction_init (l : Launch) (D : va_G) (ca : Nat → ClassId) (K : Nat) (ad : Nat → Nat) (e1 : Nat → va_E) (j0 sz : Nat) (hj : j0 < K) (he : e1 j0 = .inr (5, [.null, .null, .null, .long 0, .long 0])) : Met l yX5_init ws_q_Auction_init rm_q_Auction_init (fo_Pre K D vwCl (fo_tys ca) ad e1 sz [.ref (ad j0)]) (va_Qv (fun (_ : Nat × Nat × Nat) => True) (fun u t => va_P D vwCl (fo_vx (K + 1 + 1 + 1) (ad_q_Auction K ad u) (e_q_Auction ca K j0 e1 u)) t.heap ∧ va_K D vwCl (fo_tys ca) t ∧ va_D (fo_A K ad sz) (fo_vx (K + 1 + 1 + 1) (ad_q_Auction K ad u) (e_q_Auction ca K j0 e1 u))) (fo_A K ad sz)) 3 32 (fo_A K ad sz) := by
  refine Met.ofW (cc := cX5_init) (maxL := 1) (ret := none) (by decide) rfl ?_
  intro p e s m args below meth c s₁ B hml hv
  obtain ⟨rfl, hsz, hP, hK, hD0⟩ := hv
  subst hsz
  have hx := B.exec
  have hb := B.bytes
  have hr := B.returns
  have hlocks := B.notSynchronized
  have hts := atoms_spec (ws := ws_q_Auction_init) B.pre
  have hT : ∀ w ∈ fo_T, w.before _ s = true := fun w h => hts w (List.mem_cons_of_mem _ h)
  have hown : s.vm.findClass RX5 = some m.cls := findClass_of_methodNamed B.named
  have hin : meth.name = "<init>" := (name_of_methodNamed B.named B.method).1
  have hD : va_D (fo_A K ad s.heap.size) (fo_vx K ad e1) := fo_A_D hD0
  have hA : ∀ q, s.heap.size ≤ q → fo_A K ad s.heap.size q := fun q h => Or.inr h
  have hS : va_S (fo_A K ad s.heap.size) s.heap s.heap [] := va_S.rf
  have hl := lv_entry ([.ref (ad j0)]) (n := 1) (Nat.le_of_ble_eq_true rfl)
  rw [lg_entry_eq]
  generalize (lg_sl ([.ref (ad j0)]) ++ List.replicate (1 - (lg_sl ([.ref (ad j0)])).length) Slot.unset).toArray = ls at hl ⊢
  have hl : lv_has ls 1 [(0, .ref (ad j0))] := hl
  refine lv_aload_n hx hb dX5_init_0 rfl (lv_at hl 0 rfl) ?_
  refine W.objInit hx hb hown (fo_o5 hT) (fo_oi hT) (fo_oc hT) rfl (by rw [hml]; exact hl.1) rfl dX5_init_1 (Nat.le_of_ble_eq_true rfl) (Nat.le_of_ble_eq_true rfl) ?_
  refine W.eq (g2 := F0 m 4 ls []) rfl ?_
  refine lv_aload_n hx hb dX5_init_4 rfl (lv_at hl 0 rfl) ?_
  refine lv_bipush (v := 16) hx hb dX5_init_5 (by decide) ?_
  refine fo_newa (atype := .boolean) (ty := .boolean) (cA0 := ca 2) (N' := 16) (a0 := (16, .inl (fun _ => 0))) hx hb (fo_acZ hT) rfl hK 2 rfl (fun cA h1 h2 => Option.some.inj ((show s.vm.findClass _ = some cA from h1).symm.trans h2)) hP hD hS hA (fun _ => rfl) (by decide) (by decide) (by decide) (Nat.le_of_ble_eq_true rfl) (Nat.le_of_ble_eq_true rfl) dX5_init_7 (fun q0 H hP hD hS => ?_)
  refine fo_putF (C := RX5) (T := TX5) (N := 5) (ci := 5) (v := .ref q0) (ty := .array .boolean) hx hb hT fo_in5 tyX5 tyX5_ok nmX5 hown hK hP hD hS j0 (Nat.lt_succ_of_lt hj) (fo_up_lt hj) ((fo_up_lt hj).trans he) rfl 0 (by decide) (hT _ (fo_tb 73 (by decide +kernel) rfl)) (fun _ h => h) rfl hin rfl (by decide +kernel) rfl rfl (Nat.le_of_ble_eq_true rfl) dX5_init_9 (fun H locs hP hD hS => ?_)
  refine lv_aload_n hx hb dX5_init_12 rfl (lv_at hl 0 rfl) ?_
  refine lv_bipush (v := 8) hx hb dX5_init_13 (by decide) ?_
  refine fo_newa (atype := .long) (ty := .long) (cA0 := ca 1) (N' := 8) (a0 := (8, .inr (.inl (fun _ => 0)))) hx hb (fo_acJ hT) rfl hK 1 rfl (fun cA h1 h2 => Option.some.inj ((show s.vm.findClass _ = some cA from h1).symm.trans h2)) hP hD hS hA (fun _ => rfl) (by decide) (by decide) (by decide) (Nat.le_of_ble_eq_true rfl) (Nat.le_of_ble_eq_true rfl) dX5_init_15 (fun q1 H hP hD hS => ?_)
  refine fo_putF (C := RX5) (T := TX5) (N := 5) (ci := 5) (v := .ref q1) (ty := .array .long) hx hb hT fo_in5 tyX5 tyX5_ok nmX5 hown hK hP hD hS j0 (Nat.lt_succ_of_lt (Nat.lt_succ_of_lt hj)) ((fo_up_lt (Nat.lt_succ_of_lt hj)).trans (fo_up_lt hj)) ((fo_up_lt (Nat.lt_succ_of_lt hj)).trans fo_up_eq) rfl 1 (by decide) (hT _ (fo_tb 74 (by decide +kernel) rfl)) (fun _ h => h) rfl hin rfl (by decide +kernel) rfl rfl (Nat.le_of_ble_eq_true rfl) dX5_init_17 (fun H locs hP hD hS => ?_)
  refine lv_aload_n hx hb dX5_init_20 rfl (lv_at hl 0 rfl) ?_
  refine lv_bipush (v := 8) hx hb dX5_init_21 (by decide) ?_
  refine fo_newa (atype := .long) (ty := .long) (cA0 := ca 1) (N' := 8) (a0 := (8, .inr (.inl (fun _ => 0)))) hx hb (fo_acJ hT) rfl hK 1 rfl (fun cA h1 h2 => Option.some.inj ((show s.vm.findClass _ = some cA from h1).symm.trans h2)) hP hD hS hA (fun _ => rfl) (by decide) (by decide) (by decide) (Nat.le_of_ble_eq_true rfl) (Nat.le_of_ble_eq_true rfl) dX5_init_23 (fun q2 H hP hD hS => ?_)
  refine fo_putF (C := RX5) (T := TX5) (N := 5) (ci := 5) (v := .ref q2) (ty := .array .long) hx hb hT fo_in5 tyX5 tyX5_ok nmX5 hown hK hP hD hS j0 (Nat.lt_succ_of_lt (Nat.lt_succ_of_lt (Nat.lt_succ_of_lt hj))) ((fo_up_lt (Nat.lt_succ_of_lt (Nat.lt_succ_of_lt hj))).trans ((fo_up_lt (Nat.lt_succ_of_lt hj)).trans (fo_up_lt hj))) ((fo_up_lt (Nat.lt_succ_of_lt (Nat.lt_succ_of_lt hj))).trans fo_up_eq) rfl 2 (by decide) (hT _ (fo_tb 75 (by decide +kernel) rfl)) (fun _ h => h) rfl hin rfl (by decide +kernel) rfl rfl (Nat.le_of_ble_eq_true rfl) dX5_init_25 (fun H locs hP hD hS => ?_)
  exact W.vret hx hb hr (fun t ht hW => ⟨⟨(q0, q1, q2), rfl, trivial, by rw [ht]; exact hP, va_K.moved hW.alike hK, hD⟩, hS.F ht⟩) hS.2.2 dX5_init_28
