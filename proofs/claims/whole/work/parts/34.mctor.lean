def fr_s0 : fo_S := (fun k _ j => if k = 0 ∧ j = 17 then -1 else 0, fun _ _ _ => 0)
def fr_Pre1 (D : va_G) (ca : Nat → ClassId) (h0 sz : Nat) : Array Value → State → Prop := va_Pc [.ref h0] (fun U => U.heap.size = sz ∧ va_P D vwCl (fo_vx 1 (fun _ => h0) (fun _ => .inr (6, [.int 0, .null, .null, .long 0, .long 0, .long 0, .int 0, .int 0, .int 0, .null, .null, .null, .null, .null, .null, .null, .null, .int 0, .null, .int 0, .null, .null, .null, .null, .null, .long 0, .long 0, .null, .null, .null, .null, .null, .null, .null, .null, .long 0, .long 0]))) U.heap ∧ va_K D vwCl (fr_tys ca) U ∧ va_D (fun _ => True) (fo_vx 1 (fun _ => h0) (fun _ => .inr (6, [.int 0, .null, .null, .long 0, .long 0, .long 0, .int 0, .int 0, .int 0, .null, .null, .null, .null, .null, .null, .null, .null, .int 0, .null, .int 0, .null, .null, .null, .null, .null, .long 0, .long 0, .null, .null, .null, .null, .null, .null, .null, .null, .long 0, .long 0]))))
abbrev ws_r_init : List Cond := .code yX6_init cX6_init 1 none :: fo_T
abbrev rm_r_init : Room := { frames := 1, cells := 24, slots := 400, locals := 12 }
set_option maxHeartbeats 40000000 in
set_option maxRecDepth 100000 in
theorem c_r_init (l : Launch) (D : va_G) (ca : Nat → ClassId) (h0 sz : Nat) : Met l yX6_init ws_r_init rm_r_init (fr_Pre1 D ca h0 sz) (va_Qv (fun (_ : Nat → Nat) => True) (fun ad t => ad 0 = h0 ∧ va_P D vwCl (fo_vx 25 ad (fr_ce ca ad fr_s0)) t.heap ∧ va_K D vwCl (fr_tys ca) t ∧ va_D (fo_A 1 (fun _ => h0) sz) (fo_vx 25 ad (fr_ce ca ad fr_s0))) (fo_A 1 (fun _ => h0) sz)) 24 400 (fo_A 1 (fun _ => h0) sz) := by
  refine Met.ofW (cc := cX6_init) (maxL := 1) (ret := none) (by decide) rfl ?_
  intro p e s m args below meth c s₁ B hml hv
  obtain ⟨rfl, hsz, hP, hK, hD0⟩ := hv
  subst hsz
  have hx := B.exec
  have hb := B.bytes
  have hr := B.returns
  have hlocks := B.notSynchronized
  have hts := atoms_spec (ws := ws_r_init) B.pre
  have hT : ∀ w ∈ fo_T, w.before _ s = true := fun w h => hts w (List.mem_cons_of_mem _ h)
  have hown : s.vm.findClass RX6 = some m.cls := findClass_of_methodNamed B.named
  have hin : meth.name = "<init>" := (name_of_methodNamed B.named B.method).1
  have hD : va_D (fo_A 1 (fun _ => h0) s.heap.size) (fo_vx 1 (fun _ => h0) (fun _ => .inr (6, [.int 0, .null, .null, .long 0, .long 0, .long 0, .int 0, .int 0, .int 0, .null, .null, .null, .null, .null, .null, .null, .null, .int 0, .null, .int 0, .null, .null, .null, .null, .null, .long 0, .long 0, .null, .null, .null, .null, .null, .null, .null, .null, .long 0, .long 0]))) := fo_A_D hD0
  generalize hAe : fo_A 1 (fun _ => h0) s.heap.size = A at hD ⊢
  have hA : ∀ q, s.heap.size ≤ q → A q := fun q h => by rw [← hAe]; exact Or.inr h
  have hS : va_S A s.heap s.heap [] := va_S.rf
  have hl := lv_entry ([.ref h0]) (n := 1) (Nat.le_of_ble_eq_true rfl)
  rw [lg_entry_eq]
  generalize (lg_sl ([.ref h0]) ++ List.replicate (1 - (lg_sl ([.ref h0])).length) Slot.unset).toArray = ls at hl ⊢
  have hl : lv_has ls 1 [(0, .ref h0)] := hl
  refine lv_aload_n hx hb dX6_init_0 rfl (lv_at hl 0 rfl) ?_
  refine W.objInit hx hb hown (fo_o6 hT) (fo_oi hT) (fo_oc hT) rfl (by rw [hml]; exact hl.1) rfl dX6_init_1 (Nat.le_of_ble_eq_true rfl) (Nat.le_of_ble_eq_true rfl) ?_
  refine W.eq (g2 := F0 m 4 ls []) rfl ?_
  refine lv_aload_n hx hb dX6_init_4 rfl (lv_at hl 0 rfl) ?_
  refine lv_bipush (v := 8) hx hb dX6_init_5 (by decide) ?_
  refine fo_newa (atype := .long) (ty := .long) (cA0 := ca 1) (N' := 8) (a0 := (8, .inr (.inl (fun _ => 0)))) hx hb (fo_acJ hT) rfl hK 1 rfl (fun cA h1 h2 => Option.some.inj ((show s.vm.findClass _ = some cA from h1).symm.trans h2)) hP hD hS hA (fun _ => rfl) (by decide) (by decide) (by decide) (Nat.le_of_ble_eq_true rfl) (Nat.le_of_ble_eq_true rfl) dX6_init_7 (fun q0 H hP hD hS => ?_)
  refine fo_putF (C := RX6) (T := TX6) (N := 37) (ci := 6) (v := .ref q0) (ty := .array .long) hx hb hT fo_in6 tyX6 tyX6_ok nmX6 hown hK hP hD hS 0 (by decide) rfl rfl rfl 1 (by decide) (hT _ (fo_tb 531 (by decide +kernel) rfl)) (fun _ h => h) rfl hin rfl (by decide +kernel) rfl rfl (Nat.le_of_ble_eq_true rfl) dX6_init_9 (fun H locs hP hD hS => ?_)
  refine lv_aload_n hx hb dX6_init_12 rfl (lv_at hl 0 rfl) ?_
  refine lv_bipush (v := 8) hx hb dX6_init_13 (by decide) ?_
  refine fo_newa (atype := .long) (ty := .long) (cA0 := ca 1) (N' := 8) (a0 := (8, .inr (.inl (fun _ => 0)))) hx hb (fo_acJ hT) rfl hK 1 rfl (fun cA h1 h2 => Option.some.inj ((show s.vm.findClass _ = some cA from h1).symm.trans h2)) hP hD hS hA (fun _ => rfl) (by decide) (by decide) (by decide) (Nat.le_of_ble_eq_true rfl) (Nat.le_of_ble_eq_true rfl) dX6_init_15 (fun q1 H hP hD hS => ?_)
  refine fo_putF (C := RX6) (T := TX6) (N := 37) (ci := 6) (v := .ref q1) (ty := .array .long) hx hb hT fo_in6 tyX6 tyX6_ok nmX6 hown hK hP hD hS 0 (by decide) rfl rfl rfl 2 (by decide) (hT _ (fo_tb 532 (by decide +kernel) rfl)) (fun _ h => h) rfl hin rfl (by decide +kernel) rfl rfl (Nat.le_of_ble_eq_true rfl) dX6_init_17 (fun H locs hP hD hS => ?_)
  refine lv_aload_n hx hb dX6_init_20 rfl (lv_at hl 0 rfl) ?_
  refine lv_bipush (v := 16) hx hb dX6_init_21 (by decide) ?_
  refine fo_newa (atype := .int) (ty := .int) (cA0 := ca 0) (N' := 16) (a0 := (16, .inl (fun _ => 0))) hx hb (fo_acI hT) rfl hK 0 rfl (fun cA h1 h2 => Option.some.inj ((show s.vm.findClass _ = some cA from h1).symm.trans h2)) hP hD hS hA (fun _ => rfl) (by decide) (by decide) (by decide) (Nat.le_of_ble_eq_true rfl) (Nat.le_of_ble_eq_true rfl) dX6_init_23 (fun q2 H hP hD hS => ?_)
  refine fo_putF (C := RX6) (T := TX6) (N := 37) (ci := 6) (v := .ref q2) (ty := .array .int) hx hb hT fo_in6 tyX6 tyX6_ok nmX6 hown hK hP hD hS 0 (by decide) rfl rfl rfl 9 (by decide) (hT _ (fo_tb 539 (by decide +kernel) rfl)) (fun _ h => h) rfl hin rfl (by decide +kernel) rfl rfl (Nat.le_of_ble_eq_true rfl) dX6_init_25 (fun H locs hP hD hS => ?_)
  refine lv_aload_n hx hb dX6_init_28 rfl (lv_at hl 0 rfl) ?_
  refine lv_bipush (v := 16) hx hb dX6_init_29 (by decide) ?_
  refine fo_newa (atype := .long) (ty := .long) (cA0 := ca 1) (N' := 16) (a0 := (16, .inr (.inl (fun _ => 0)))) hx hb (fo_acJ hT) rfl hK 1 rfl (fun cA h1 h2 => Option.some.inj ((show s.vm.findClass _ = some cA from h1).symm.trans h2)) hP hD hS hA (fun _ => rfl) (by decide) (by decide) (by decide) (Nat.le_of_ble_eq_true rfl) (Nat.le_of_ble_eq_true rfl) dX6_init_31 (fun q3 H hP hD hS => ?_)
  refine fo_putF (C := RX6) (T := TX6) (N := 37) (ci := 6) (v := .ref q3) (ty := .array .long) hx hb hT fo_in6 tyX6 tyX6_ok nmX6 hown hK hP hD hS 0 (by decide) rfl rfl rfl 10 (by decide) (hT _ (fo_tb 540 (by decide +kernel) rfl)) (fun _ h => h) rfl hin rfl (by decide +kernel) rfl rfl (Nat.le_of_ble_eq_true rfl) dX6_init_33 (fun H locs hP hD hS => ?_)
  refine lv_aload_n hx hb dX6_init_36 rfl (lv_at hl 0 rfl) ?_
  refine lv_bipush (v := 16) hx hb dX6_init_37 (by decide) ?_
  refine fo_newa (atype := .long) (ty := .long) (cA0 := ca 1) (N' := 16) (a0 := (16, .inr (.inl (fun _ => 0)))) hx hb (fo_acJ hT) rfl hK 1 rfl (fun cA h1 h2 => Option.some.inj ((show s.vm.findClass _ = some cA from h1).symm.trans h2)) hP hD hS hA (fun _ => rfl) (by decide) (by decide) (by decide) (Nat.le_of_ble_eq_true rfl) (Nat.le_of_ble_eq_true rfl) dX6_init_39 (fun q4 H hP hD hS => ?_)
  refine fo_putF (C := RX6) (T := TX6) (N := 37) (ci := 6) (v := .ref q4) (ty := .array .long) hx hb hT fo_in6 tyX6 tyX6_ok nmX6 hown hK hP hD hS 0 (by decide) rfl rfl rfl 11 (by decide) (hT _ (fo_tb 541 (by decide +kernel) rfl)) (fun _ h => h) rfl hin rfl (by decide +kernel) rfl rfl (Nat.le_of_ble_eq_true rfl) dX6_init_41 (fun H locs hP hD hS => ?_)
  refine lv_aload_n hx hb dX6_init_44 rfl (lv_at hl 0 rfl) ?_
  refine lv_bipush (v := 16) hx hb dX6_init_45 (by decide) ?_
  refine fo_newa (atype := .boolean) (ty := .boolean) (cA0 := ca 2) (N' := 16) (a0 := (16, .inl (fun _ => 0))) hx hb (fo_acZ hT) rfl hK 2 rfl (fun cA h1 h2 => Option.some.inj ((show s.vm.findClass _ = some cA from h1).symm.trans h2)) hP hD hS hA (fun _ => rfl) (by decide) (by decide) (by decide) (Nat.le_of_ble_eq_true rfl) (Nat.le_of_ble_eq_true rfl) dX6_init_47 (fun q5 H hP hD hS => ?_)
  refine fo_putF (C := RX6) (T := TX6) (N := 37) (ci := 6) (v := .ref q5) (ty := .array .boolean) hx hb hT fo_in6 tyX6 tyX6_ok nmX6 hown hK hP hD hS 0 (by decide) rfl rfl rfl 12 (by decide) (hT _ (fo_tb 542 (by decide +kernel) rfl)) (fun _ h => h) rfl hin rfl (by decide +kernel) rfl rfl (Nat.le_of_ble_eq_true rfl) dX6_init_49 (fun H locs hP hD hS => ?_)
  refine lv_aload_n hx hb dX6_init_52 rfl (lv_at hl 0 rfl) ?_
  refine lv_bipush (v := 16) hx hb dX6_init_53 (by decide) ?_
  refine fo_newa (atype := .int) (ty := .int) (cA0 := ca 0) (N' := 16) (a0 := (16, .inl (fun _ => 0))) hx hb (fo_acI hT) rfl hK 0 rfl (fun cA h1 h2 => Option.some.inj ((show s.vm.findClass _ = some cA from h1).symm.trans h2)) hP hD hS hA (fun _ => rfl) (by decide) (by decide) (by decide) (Nat.le_of_ble_eq_true rfl) (Nat.le_of_ble_eq_true rfl) dX6_init_55 (fun q6 H hP hD hS => ?_)
  refine fo_putF (C := RX6) (T := TX6) (N := 37) (ci := 6) (v := .ref q6) (ty := .array .int) hx hb hT fo_in6 tyX6 tyX6_ok nmX6 hown hK hP hD hS 0 (by decide) rfl rfl rfl 13 (by decide) (hT _ (fo_tb 543 (by decide +kernel) rfl)) (fun _ h => h) rfl hin rfl (by decide +kernel) rfl rfl (Nat.le_of_ble_eq_true rfl) dX6_init_57 (fun H locs hP hD hS => ?_)
  refine lv_aload_n hx hb dX6_init_60 rfl (lv_at hl 0 rfl) ?_
  refine lv_bipush (v := 16) hx hb dX6_init_61 (by decide) ?_
  refine fo_newa (atype := .int) (ty := .int) (cA0 := ca 0) (N' := 16) (a0 := (16, .inl (fun _ => 0))) hx hb (fo_acI hT) rfl hK 0 rfl (fun cA h1 h2 => Option.some.inj ((show s.vm.findClass _ = some cA from h1).symm.trans h2)) hP hD hS hA (fun _ => rfl) (by decide) (by decide) (by decide) (Nat.le_of_ble_eq_true rfl) (Nat.le_of_ble_eq_true rfl) dX6_init_63 (fun q7 H hP hD hS => ?_)
  refine fo_putF (C := RX6) (T := TX6) (N := 37) (ci := 6) (v := .ref q7) (ty := .array .int) hx hb hT fo_in6 tyX6 tyX6_ok nmX6 hown hK hP hD hS 0 (by decide) rfl rfl rfl 14 (by decide) (hT _ (fo_tb 544 (by decide +kernel) rfl)) (fun _ h => h) rfl hin rfl (by decide +kernel) rfl rfl (Nat.le_of_ble_eq_true rfl) dX6_init_65 (fun H locs hP hD hS => ?_)
  refine lv_aload_n hx hb dX6_init_68 rfl (lv_at hl 0 rfl) ?_
  refine lv_bipush (v := 16) hx hb dX6_init_69 (by decide) ?_
  refine fo_newa (atype := .int) (ty := .int) (cA0 := ca 0) (N' := 16) (a0 := (16, .inl (fun _ => 0))) hx hb (fo_acI hT) rfl hK 0 rfl (fun cA h1 h2 => Option.some.inj ((show s.vm.findClass _ = some cA from h1).symm.trans h2)) hP hD hS hA (fun _ => rfl) (by decide) (by decide) (by decide) (Nat.le_of_ble_eq_true rfl) (Nat.le_of_ble_eq_true rfl) dX6_init_71 (fun q8 H hP hD hS => ?_)
  refine fo_putF (C := RX6) (T := TX6) (N := 37) (ci := 6) (v := .ref q8) (ty := .array .int) hx hb hT fo_in6 tyX6 tyX6_ok nmX6 hown hK hP hD hS 0 (by decide) rfl rfl rfl 15 (by decide) (hT _ (fo_tb 545 (by decide +kernel) rfl)) (fun _ h => h) rfl hin rfl (by decide +kernel) rfl rfl (Nat.le_of_ble_eq_true rfl) dX6_init_73 (fun H locs hP hD hS => ?_)
  refine lv_aload_n hx hb dX6_init_76 rfl (lv_at hl 0 rfl) ?_
  refine lv_bipush (v := 80) hx hb dX6_init_77 (by decide) ?_
  refine fo_newa (atype := .int) (ty := .int) (cA0 := ca 0) (N' := 80) (a0 := (80, .inl (fun _ => 0))) hx hb (fo_acI hT) rfl hK 0 rfl (fun cA h1 h2 => Option.some.inj ((show s.vm.findClass _ = some cA from h1).symm.trans h2)) hP hD hS hA (fun _ => rfl) (by decide) (by decide) (by decide) (Nat.le_of_ble_eq_true rfl) (Nat.le_of_ble_eq_true rfl) dX6_init_79 (fun q9 H hP hD hS => ?_)
  refine fo_putF (C := RX6) (T := TX6) (N := 37) (ci := 6) (v := .ref q9) (ty := .array .int) hx hb hT fo_in6 tyX6 tyX6_ok nmX6 hown hK hP hD hS 0 (by decide) rfl rfl rfl 16 (by decide) (hT _ (fo_tb 546 (by decide +kernel) rfl)) (fun _ h => h) rfl hin rfl (by decide +kernel) rfl rfl (Nat.le_of_ble_eq_true rfl) dX6_init_81 (fun H locs hP hD hS => ?_)
  refine lv_aload_n hx hb dX6_init_84 rfl (lv_at hl 0 rfl) ?_
  refine lv_iconst (v := -1) hx hb dX6_init_85 (by decide) ?_
  refine fo_put (C := RX6) (T := TX6) (N := 37) (ci := 6) (v := .int (-1)) (ty := .int) hx hb hT fo_in6 tyX6 tyX6_ok nmX6 hown hK hP hD hS 0 (by decide) rfl rfl rfl 17 (by decide) (hT _ (fo_tb 547 (by decide +kernel) rfl)) (fun _ h => h) rfl (by decide +kernel) rfl rfl (Nat.le_of_ble_eq_true rfl) dX6_init_86 (fun H locs hP hD hS => ?_)
  refine lv_aload_n hx hb dX6_init_89 rfl (lv_at hl 0 rfl) ?_
  refine lv_bipush (v := 16) hx hb dX6_init_90 (by decide) ?_
  refine fo_newa (atype := .int) (ty := .int) (cA0 := ca 0) (N' := 16) (a0 := (16, .inl (fun _ => 0))) hx hb (fo_acI hT) rfl hK 0 rfl (fun cA h1 h2 => Option.some.inj ((show s.vm.findClass _ = some cA from h1).symm.trans h2)) hP hD hS hA (fun _ => rfl) (by decide) (by decide) (by decide) (Nat.le_of_ble_eq_true rfl) (Nat.le_of_ble_eq_true rfl) dX6_init_92 (fun q10 H hP hD hS => ?_)
  refine fo_putF (C := RX6) (T := TX6) (N := 37) (ci := 6) (v := .ref q10) (ty := .array .int) hx hb hT fo_in6 tyX6 tyX6_ok nmX6 hown hK hP hD hS 0 (by decide) rfl rfl rfl 18 (by decide) (hT _ (fo_tb 548 (by decide +kernel) rfl)) (fun _ h => h) rfl hin rfl (by decide +kernel) rfl rfl (Nat.le_of_ble_eq_true rfl) dX6_init_94 (fun H locs hP hD hS => ?_)
  refine lv_aload_n hx hb dX6_init_97 rfl (lv_at hl 0 rfl) ?_
  refine lv_bipush (v := 16) hx hb dX6_init_98 (by decide) ?_
  refine fo_newa (atype := .int) (ty := .int) (cA0 := ca 0) (N' := 16) (a0 := (16, .inl (fun _ => 0))) hx hb (fo_acI hT) rfl hK 0 rfl (fun cA h1 h2 => Option.some.inj ((show s.vm.findClass _ = some cA from h1).symm.trans h2)) hP hD hS hA (fun _ => rfl) (by decide) (by decide) (by decide) (Nat.le_of_ble_eq_true rfl) (Nat.le_of_ble_eq_true rfl) dX6_init_100 (fun q11 H hP hD hS => ?_)
  refine fo_putF (C := RX6) (T := TX6) (N := 37) (ci := 6) (v := .ref q11) (ty := .array .int) hx hb hT fo_in6 tyX6 tyX6_ok nmX6 hown hK hP hD hS 0 (by decide) rfl rfl rfl 20 (by decide) (hT _ (fo_tb 550 (by decide +kernel) rfl)) (fun _ h => h) rfl hin rfl (by decide +kernel) rfl rfl (Nat.le_of_ble_eq_true rfl) dX6_init_102 (fun H locs hP hD hS => ?_)
  refine lv_aload_n hx hb dX6_init_105 rfl (lv_at hl 0 rfl) ?_
  refine lv_bipush (v := 16) hx hb dX6_init_106 (by decide) ?_
  refine fo_newa (atype := .long) (ty := .long) (cA0 := ca 1) (N' := 16) (a0 := (16, .inr (.inl (fun _ => 0)))) hx hb (fo_acJ hT) rfl hK 1 rfl (fun cA h1 h2 => Option.some.inj ((show s.vm.findClass _ = some cA from h1).symm.trans h2)) hP hD hS hA (fun _ => rfl) (by decide) (by decide) (by decide) (Nat.le_of_ble_eq_true rfl) (Nat.le_of_ble_eq_true rfl) dX6_init_108 (fun q12 H hP hD hS => ?_)
  refine fo_putF (C := RX6) (T := TX6) (N := 37) (ci := 6) (v := .ref q12) (ty := .array .long) hx hb hT fo_in6 tyX6 tyX6_ok nmX6 hown hK hP hD hS 0 (by decide) rfl rfl rfl 21 (by decide) (hT _ (fo_tb 551 (by decide +kernel) rfl)) (fun _ h => h) rfl hin rfl (by decide +kernel) rfl rfl (Nat.le_of_ble_eq_true rfl) dX6_init_110 (fun H locs hP hD hS => ?_)
  refine lv_aload_n hx hb dX6_init_113 rfl (lv_at hl 0 rfl) ?_
  refine lv_bipush (v := 16) hx hb dX6_init_114 (by decide) ?_
  refine fo_newa (atype := .int) (ty := .int) (cA0 := ca 0) (N' := 16) (a0 := (16, .inl (fun _ => 0))) hx hb (fo_acI hT) rfl hK 0 rfl (fun cA h1 h2 => Option.some.inj ((show s.vm.findClass _ = some cA from h1).symm.trans h2)) hP hD hS hA (fun _ => rfl) (by decide) (by decide) (by decide) (Nat.le_of_ble_eq_true rfl) (Nat.le_of_ble_eq_true rfl) dX6_init_116 (fun q13 H hP hD hS => ?_)
  refine fo_putF (C := RX6) (T := TX6) (N := 37) (ci := 6) (v := .ref q13) (ty := .array .int) hx hb hT fo_in6 tyX6 tyX6_ok nmX6 hown hK hP hD hS 0 (by decide) rfl rfl rfl 22 (by decide) (hT _ (fo_tb 552 (by decide +kernel) rfl)) (fun _ h => h) rfl hin rfl (by decide +kernel) rfl rfl (Nat.le_of_ble_eq_true rfl) dX6_init_118 (fun H locs hP hD hS => ?_)
  refine lv_aload_n hx hb dX6_init_121 rfl (lv_at hl 0 rfl) ?_
  refine lv_bipush (v := 8) hx hb dX6_init_122 (by decide) ?_
  refine fo_newa (atype := .long) (ty := .long) (cA0 := ca 1) (N' := 8) (a0 := (8, .inr (.inl (fun _ => 0)))) hx hb (fo_acJ hT) rfl hK 1 rfl (fun cA h1 h2 => Option.some.inj ((show s.vm.findClass _ = some cA from h1).symm.trans h2)) hP hD hS hA (fun _ => rfl) (by decide) (by decide) (by decide) (Nat.le_of_ble_eq_true rfl) (Nat.le_of_ble_eq_true rfl) dX6_init_124 (fun q14 H hP hD hS => ?_)
  refine fo_putF (C := RX6) (T := TX6) (N := 37) (ci := 6) (v := .ref q14) (ty := .array .long) hx hb hT fo_in6 tyX6 tyX6_ok nmX6 hown hK hP hD hS 0 (by decide) rfl rfl rfl 23 (by decide) (hT _ (fo_tb 553 (by decide +kernel) rfl)) (fun _ h => h) rfl hin rfl (by decide +kernel) rfl rfl (Nat.le_of_ble_eq_true rfl) dX6_init_126 (fun H locs hP hD hS => ?_)
  refine lv_aload_n hx hb dX6_init_129 rfl (lv_at hl 0 rfl) ?_
  refine lv_bipush (v := 8) hx hb dX6_init_130 (by decide) ?_
  refine fo_newa (atype := .long) (ty := .long) (cA0 := ca 1) (N' := 8) (a0 := (8, .inr (.inl (fun _ => 0)))) hx hb (fo_acJ hT) rfl hK 1 rfl (fun cA h1 h2 => Option.some.inj ((show s.vm.findClass _ = some cA from h1).symm.trans h2)) hP hD hS hA (fun _ => rfl) (by decide) (by decide) (by decide) (Nat.le_of_ble_eq_true rfl) (Nat.le_of_ble_eq_true rfl) dX6_init_132 (fun q15 H hP hD hS => ?_)
  refine fo_putF (C := RX6) (T := TX6) (N := 37) (ci := 6) (v := .ref q15) (ty := .array .long) hx hb hT fo_in6 tyX6 tyX6_ok nmX6 hown hK hP hD hS 0 (by decide) rfl rfl rfl 24 (by decide) (hT _ (fo_tb 554 (by decide +kernel) rfl)) (fun _ h => h) rfl hin rfl (by decide +kernel) rfl rfl (Nat.le_of_ble_eq_true rfl) dX6_init_134 (fun H locs hP hD hS => ?_)
  refine lv_aload_n hx hb dX6_init_137 rfl (lv_at hl 0 rfl) ?_
  refine lv_bipush (v := 16) hx hb dX6_init_138 (by decide) ?_
  refine fo_newa (atype := .int) (ty := .int) (cA0 := ca 0) (N' := 16) (a0 := (16, .inl (fun _ => 0))) hx hb (fo_acI hT) rfl hK 0 rfl (fun cA h1 h2 => Option.some.inj ((show s.vm.findClass _ = some cA from h1).symm.trans h2)) hP hD hS hA (fun _ => rfl) (by decide) (by decide) (by decide) (Nat.le_of_ble_eq_true rfl) (Nat.le_of_ble_eq_true rfl) dX6_init_140 (fun q16 H hP hD hS => ?_)
  refine fo_putF (C := RX6) (T := TX6) (N := 37) (ci := 6) (v := .ref q16) (ty := .array .int) hx hb hT fo_in6 tyX6 tyX6_ok nmX6 hown hK hP hD hS 0 (by decide) rfl rfl rfl 27 (by decide) (hT _ (fo_tb 557 (by decide +kernel) rfl)) (fun _ h => h) rfl hin rfl (by decide +kernel) rfl rfl (Nat.le_of_ble_eq_true rfl) dX6_init_142 (fun H locs hP hD hS => ?_)
  refine lv_aload_n hx hb dX6_init_145 rfl (lv_at hl 0 rfl) ?_
  refine lv_bipush (v := 16) hx hb dX6_init_146 (by decide) ?_
  refine fo_newa (atype := .long) (ty := .long) (cA0 := ca 1) (N' := 16) (a0 := (16, .inr (.inl (fun _ => 0)))) hx hb (fo_acJ hT) rfl hK 1 rfl (fun cA h1 h2 => Option.some.inj ((show s.vm.findClass _ = some cA from h1).symm.trans h2)) hP hD hS hA (fun _ => rfl) (by decide) (by decide) (by decide) (Nat.le_of_ble_eq_true rfl) (Nat.le_of_ble_eq_true rfl) dX6_init_148 (fun q17 H hP hD hS => ?_)
  refine fo_putF (C := RX6) (T := TX6) (N := 37) (ci := 6) (v := .ref q17) (ty := .array .long) hx hb hT fo_in6 tyX6 tyX6_ok nmX6 hown hK hP hD hS 0 (by decide) rfl rfl rfl 28 (by decide) (hT _ (fo_tb 558 (by decide +kernel) rfl)) (fun _ h => h) rfl hin rfl (by decide +kernel) rfl rfl (Nat.le_of_ble_eq_true rfl) dX6_init_150 (fun H locs hP hD hS => ?_)
  refine lv_aload_n hx hb dX6_init_153 rfl (lv_at hl 0 rfl) ?_
  refine lv_bipush (v := 16) hx hb dX6_init_154 (by decide) ?_
  refine fo_newa (atype := .boolean) (ty := .boolean) (cA0 := ca 2) (N' := 16) (a0 := (16, .inl (fun _ => 0))) hx hb (fo_acZ hT) rfl hK 2 rfl (fun cA h1 h2 => Option.some.inj ((show s.vm.findClass _ = some cA from h1).symm.trans h2)) hP hD hS hA (fun _ => rfl) (by decide) (by decide) (by decide) (Nat.le_of_ble_eq_true rfl) (Nat.le_of_ble_eq_true rfl) dX6_init_156 (fun q18 H hP hD hS => ?_)
  refine fo_putF (C := RX6) (T := TX6) (N := 37) (ci := 6) (v := .ref q18) (ty := .array .boolean) hx hb hT fo_in6 tyX6 tyX6_ok nmX6 hown hK hP hD hS 0 (by decide) rfl rfl rfl 29 (by decide) (hT _ (fo_tb 559 (by decide +kernel) rfl)) (fun _ h => h) rfl hin rfl (by decide +kernel) rfl rfl (Nat.le_of_ble_eq_true rfl) dX6_init_158 (fun H locs hP hD hS => ?_)
  refine lv_aload_n hx hb dX6_init_161 rfl (lv_at hl 0 rfl) ?_
  refine lv_bipush (v := 16) hx hb dX6_init_162 (by decide) ?_
  refine fo_newa (atype := .boolean) (ty := .boolean) (cA0 := ca 2) (N' := 16) (a0 := (16, .inl (fun _ => 0))) hx hb (fo_acZ hT) rfl hK 2 rfl (fun cA h1 h2 => Option.some.inj ((show s.vm.findClass _ = some cA from h1).symm.trans h2)) hP hD hS hA (fun _ => rfl) (by decide) (by decide) (by decide) (Nat.le_of_ble_eq_true rfl) (Nat.le_of_ble_eq_true rfl) dX6_init_164 (fun q19 H hP hD hS => ?_)
  refine fo_putF (C := RX6) (T := TX6) (N := 37) (ci := 6) (v := .ref q19) (ty := .array .boolean) hx hb hT fo_in6 tyX6 tyX6_ok nmX6 hown hK hP hD hS 0 (by decide) rfl rfl rfl 30 (by decide) (hT _ (fo_tb 560 (by decide +kernel) rfl)) (fun _ h => h) rfl hin rfl (by decide +kernel) rfl rfl (Nat.le_of_ble_eq_true rfl) dX6_init_166 (fun H locs hP hD hS => ?_)
  refine lv_aload_n hx hb dX6_init_169 rfl (lv_at hl 0 rfl) ?_
  refine lv_bipush (v := 16) hx hb dX6_init_170 (by decide) ?_
  refine fo_newa (atype := .boolean) (ty := .boolean) (cA0 := ca 2) (N' := 16) (a0 := (16, .inl (fun _ => 0))) hx hb (fo_acZ hT) rfl hK 2 rfl (fun cA h1 h2 => Option.some.inj ((show s.vm.findClass _ = some cA from h1).symm.trans h2)) hP hD hS hA (fun _ => rfl) (by decide) (by decide) (by decide) (Nat.le_of_ble_eq_true rfl) (Nat.le_of_ble_eq_true rfl) dX6_init_172 (fun q20 H hP hD hS => ?_)
  refine fo_putF (C := RX6) (T := TX6) (N := 37) (ci := 6) (v := .ref q20) (ty := .array .boolean) hx hb hT fo_in6 tyX6 tyX6_ok nmX6 hown hK hP hD hS 0 (by decide) rfl rfl rfl 31 (by decide) (hT _ (fo_tb 561 (by decide +kernel) rfl)) (fun _ h => h) rfl hin rfl (by decide +kernel) rfl rfl (Nat.le_of_ble_eq_true rfl) dX6_init_174 (fun H locs hP hD hS => ?_)
  refine lv_aload_n hx hb dX6_init_177 rfl (lv_at hl 0 rfl) ?_
  refine lv_bipush (v := 16) hx hb dX6_init_178 (by decide) ?_
  refine fo_newa (atype := .boolean) (ty := .boolean) (cA0 := ca 2) (N' := 16) (a0 := (16, .inl (fun _ => 0))) hx hb (fo_acZ hT) rfl hK 2 rfl (fun cA h1 h2 => Option.some.inj ((show s.vm.findClass _ = some cA from h1).symm.trans h2)) hP hD hS hA (fun _ => rfl) (by decide) (by decide) (by decide) (Nat.le_of_ble_eq_true rfl) (Nat.le_of_ble_eq_true rfl) dX6_init_180 (fun q21 H hP hD hS => ?_)
  refine fo_putF (C := RX6) (T := TX6) (N := 37) (ci := 6) (v := .ref q21) (ty := .array .boolean) hx hb hT fo_in6 tyX6 tyX6_ok nmX6 hown hK hP hD hS 0 (by decide) rfl rfl rfl 32 (by decide) (hT _ (fo_tb 562 (by decide +kernel) rfl)) (fun _ h => h) rfl hin rfl (by decide +kernel) rfl rfl (Nat.le_of_ble_eq_true rfl) dX6_init_182 (fun H locs hP hD hS => ?_)
  refine lv_aload_n hx hb dX6_init_185 rfl (lv_at hl 0 rfl) ?_
  refine lv_bipush (v := 8) hx hb dX6_init_186 (by decide) ?_
  refine fo_newa (atype := .long) (ty := .long) (cA0 := ca 1) (N' := 8) (a0 := (8, .inr (.inl (fun _ => 0)))) hx hb (fo_acJ hT) rfl hK 1 rfl (fun cA h1 h2 => Option.some.inj ((show s.vm.findClass _ = some cA from h1).symm.trans h2)) hP hD hS hA (fun _ => rfl) (by decide) (by decide) (by decide) (Nat.le_of_ble_eq_true rfl) (Nat.le_of_ble_eq_true rfl) dX6_init_188 (fun q22 H hP hD hS => ?_)
  refine fo_putF (C := RX6) (T := TX6) (N := 37) (ci := 6) (v := .ref q22) (ty := .array .long) hx hb hT fo_in6 tyX6 tyX6_ok nmX6 hown hK hP hD hS 0 (by decide) rfl rfl rfl 33 (by decide) (hT _ (fo_tb 563 (by decide +kernel) rfl)) (fun _ h => h) rfl hin rfl (by decide +kernel) rfl rfl (Nat.le_of_ble_eq_true rfl) dX6_init_190 (fun H locs hP hD hS => ?_)
  refine lv_aload_n hx hb dX6_init_193 rfl (lv_at hl 0 rfl) ?_
  refine lv_bipush (v := 8) hx hb dX6_init_194 (by decide) ?_
  refine fo_newa (atype := .long) (ty := .long) (cA0 := ca 1) (N' := 8) (a0 := (8, .inr (.inl (fun _ => 0)))) hx hb (fo_acJ hT) rfl hK 1 rfl (fun cA h1 h2 => Option.some.inj ((show s.vm.findClass _ = some cA from h1).symm.trans h2)) hP hD hS hA (fun _ => rfl) (by decide) (by decide) (by decide) (Nat.le_of_ble_eq_true rfl) (Nat.le_of_ble_eq_true rfl) dX6_init_196 (fun q23 H hP hD hS => ?_)
  refine fo_putF (C := RX6) (T := TX6) (N := 37) (ci := 6) (v := .ref q23) (ty := .array .long) hx hb hT fo_in6 tyX6 tyX6_ok nmX6 hown hK hP hD hS 0 (by decide) rfl rfl rfl 34 (by decide) (hT _ (fo_tb 564 (by decide +kernel) rfl)) (fun _ h => h) rfl hin rfl (by decide +kernel) rfl rfl (Nat.le_of_ble_eq_true rfl) dX6_init_198 (fun H locs hP hD hS => ?_)
  have hfin : ∃ ad : Nat → Nat, ad 0 = h0 ∧ va_P D vwCl (fo_vx 25 ad (fr_ce ca ad fr_s0)) H ∧ va_D A (fo_vx 25 ad (fr_ce ca ad fr_s0)) := by
    refine ⟨_, ?_, fo_P_at hP ?_, fo_vx_D hD⟩
    · rfl
    intro j hj
    rcases (show j = 0 ∨ j = 1 ∨ j = 2 ∨ j = 3 ∨ j = 4 ∨ j = 5 ∨ j = 6 ∨ j = 7 ∨ j = 8 ∨ j = 9 ∨ j = 10 ∨ j = 11 ∨ j = 12 ∨ j = 13 ∨ j = 14 ∨ j = 15 ∨ j = 16 ∨ j = 17 ∨ j = 18 ∨ j = 19 ∨ j = 20 ∨ j = 21 ∨ j = 22 ∨ j = 23 ∨ j = 24 by omega) with rfl | rfl | rfl | rfl | rfl | rfl | rfl | rfl | rfl | rfl | rfl | rfl | rfl | rfl | rfl | rfl | rfl | rfl | rfl | rfl | rfl | rfl | rfl | rfl | rfl
    · exact Or.inl rfl
    · exact Or.inl rfl
    · exact Or.inl rfl
    · exact Or.inl rfl
    · exact Or.inl rfl
    · exact Or.inl rfl
    · exact Or.inl rfl
    · exact Or.inl rfl
    · exact Or.inl rfl
    · exact Or.inl rfl
    · exact Or.inl rfl
    · exact Or.inl rfl
    · exact Or.inl rfl
    · exact Or.inl rfl
    · exact Or.inl rfl
    · exact Or.inl rfl
    · exact Or.inl rfl
    · exact Or.inl rfl
    · exact Or.inl rfl
    · exact Or.inl rfl
    · exact Or.inl rfl
    · exact Or.inl rfl
    · exact Or.inl rfl
    · exact Or.inl rfl
    · exact Or.inl rfl
  obtain ⟨ad, ha0, hP9, hD9⟩ := hfin
  exact W.vret hx hb hr (fun t ht hW => ⟨⟨ad, rfl, trivial, ha0, by rw [ht]; exact hP9, va_K.moved hW.alike hK, hD9⟩, hS.F ht⟩) hS.2.2 dX6_init_201
