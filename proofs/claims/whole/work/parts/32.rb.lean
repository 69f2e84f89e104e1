def r_hear (σ : fo_S) (a1 : Int32) (a2 : Int32) (a3 : Int32) : Option (Int32 × fo_S) :=
  (r_in σ a1.toInt64 (0 : Int64) (4 : Int64)).bind (fun x1 => if x1 = 0 then (some ((-2 : Int32), σ)) else ((r_isCall σ a2).bind (fun x4 => if x4 = 0 then (some ((-2 : Int32), σ)) else ((r_in σ a3.toInt64 (0 : Int64) (1000000 : Int64)).bind (fun x7 => if x7 = 0 then (some ((-2 : Int32), σ)) else (if (σ.1 0 0 6) = 0 then (if fo_vi (((5 : Int32) * a2) + a1) 80 then (if (σ.1 10 0 (((5 : Int32) * a2) + a1).toNatClampNeg) < 0 then (if fo_vi (((5 : Int32) * a2) + a1) 80 then (some ((1 : Int32), fo_pI σ 10 0 (((5 : Int32) * a2) + a1).toNatClampNeg a3)) else none) else (some ((-6 : Int32), σ))) else none) else (some ((-4 : Int32), σ))))))))
set_option maxHeartbeats 4000000 in
set_option maxRecDepth 100000 in
theorem b_r_hear {p : Program} {l : Launch} {e : Env} {R : Room} {s : State} {m : MethodId} {args : Array Value} {below : List Frame} {meth : Method} {c : Code} {Q : State → Prop} {D : va_G} {ca : Nat → ClassId} {ad : Nat → Nat} (C0 : fr_CX p s m args c cX6_hear 4 RX6 D ca ad) (hRf : 2 ≤ R.frames) (hRl : 46 ≤ R.locals) (hRc : 0 ≤ R.cells) {σ : fo_S} {a1 : Int32} {a2 : Int32} {a3 : Int32}  {res : Int32 × fo_S} (h0 : r_hear σ a1 a2 a3 = some res) (kr : ∀ (pc : Nat) (ls : Array Slot) (H : Heap) (locs : List Loc), decode cX6_hear pc = .ok (.ireturn, 1) → va_P D vwCl (fo_vx 25 ad (fr_ce ca ad res.2)) H → va_S (fo_A 25 ad s.heap.size) s.heap H locs → W p l e R s m args below meth c H locs 0 0 Q (F0 m pc ls [.int res.1])) (hP : va_P D vwCl (fo_vx 25 ad (fr_ce ca ad σ)) s.heap) : W p l e R s m args below meth c s.heap [] 0 0 Q (entryFrame m ([.ref (ad (fr_lay 0 0)), .int a1, .int a2, .int a3] : List Value).toArray 4) := by
  obtain ⟨hx, hb, hml, hown, hT, hK, hD⟩ := C0
  have hN0 : (some res) ≠ none := fun q => by cases q
  unfold r_hear at h0
  have hS : va_S (fo_A 25 ad s.heap.size) s.heap s.heap [] := va_S.rf
  have hl := lv_entry ([.ref (ad (fr_lay 0 0)), .int a1, .int a2, .int a3]) (n := 4) (Nat.le_of_ble_eq_true rfl)
  rw [lg_entry_eq]
  generalize (lg_sl ([.ref (ad (fr_lay 0 0)), .int a1, .int a2, .int a3]) ++ List.replicate (4 - (lg_sl ([.ref (ad (fr_lay 0 0)), .int a1, .int a2, .int a3])).length) Slot.unset).toArray = ls at hl ⊢
  have hl : lv_has ls 4 [(0, .ref (ad (fr_lay 0 0))), (1, .int a1), (2, .int a2), (3, .int a3)] := hl
  refine lv_iload_n hx hb dX6_hear_0 rfl (lv_at hl 1 rfl) ?_
  refine lv_i2l hx hb dX6_hear_1 rfl ?_
  refine lv_lconst (v := 0) hx hb dX6_hear_2 (by decide) ?_
  refine lv_ldc2 (v := 4) hx hb hown (fr_k6_139 hT) dX6_hear_3 ?_
  obtain ⟨x1, hx1, h0⟩ := fo_bd h0 hN0
  refine fo_calli (va_runS (H := _) (As := [.long a1.toInt64, .long (0 : Int64), .long (4 : Int64)]) (rest := []) ⟨hx, hb, hml, hown, hT⟩ (c_r_in l D ca ad _ hx1) (fr_c6_91 hT ⟨Nat.le_trans (Nat.le_of_ble_eq_true rfl) hRf, Nat.le_trans (Nat.le_of_ble_eq_true rfl) hRl⟩) ⟨fo_Pre_blind, fo_Pre_at hP hK (hD _)⟩ rfl rfl hl.1 rfl (lv_room (Nat.le_of_ble_eq_true rfl)) dX6_hear_6 ⟨Nat.zero_le _, Nat.zero_le _⟩) hS (fun H locs hP hS => ?_)
  refine lv_if_eq (tgt := 32) hx hb dX6_hear_9 (by decide) (fun c2 => ?_) (fun c2 => ?_)
  · replace h0 := fo_itT c2 h0
    refine lv_bipush (v := -2) hx hb dX6_hear_32 (by decide) ?_
    have hr3 := Option.some.inj h0
    subst hr3
    exact kr _ ls _ _ dX6_hear_34 hP hS
  · replace h0 := fo_itF c2 h0
    refine lv_aload_n hx hb dX6_hear_12 rfl (lv_at hl 0 rfl) ?_
    refine lv_iload_n hx hb dX6_hear_13 rfl (lv_at hl 2 rfl) ?_
    obtain ⟨x4, hx4, h0⟩ := fo_bd h0 hN0
    refine fo_calli (va_runV (H := _) (As := [.int a2]) (rest := []) ⟨hx, hb, hml, hown, hT⟩ (c_r_isCall l D ca ad _ hx4) (fr_c6_141 hT ⟨Nat.le_trans (Nat.le_of_ble_eq_true rfl) hRf, Nat.le_trans (Nat.le_of_ble_eq_true rfl) hRl⟩) ⟨fo_Pre_blind, fr_rc0 hK hP (by decide), fo_Pre_at hP hK (hD _)⟩ rfl rfl hl.1 rfl (lv_room (Nat.le_of_ble_eq_true rfl)) dX6_hear_14 ⟨Nat.zero_le _, Nat.zero_le _⟩) hS (fun H locs hP hS => ?_)
    refine lv_if_eq (tgt := 32) hx hb dX6_hear_17 (by decide) (fun c5 => ?_) (fun c5 => ?_)
    · replace h0 := fo_itT c5 h0
      refine lv_bipush (v := -2) hx hb dX6_hear_32 (by decide) ?_
      have hr6 := Option.some.inj h0
      subst hr6
      exact kr _ ls _ _ dX6_hear_34 hP hS
    · replace h0 := fo_itF c5 h0
      refine lv_iload_n hx hb dX6_hear_20 rfl (lv_at hl 3 rfl) ?_
      refine lv_i2l hx hb dX6_hear_21 rfl ?_
      refine lv_lconst (v := 0) hx hb dX6_hear_22 (by decide) ?_
      refine lv_ldc2 (v := 1000000) hx hb hown (fr_k6_137 hT) dX6_hear_23 ?_
      obtain ⟨x7, hx7, h0⟩ := fo_bd h0 hN0
      refine fo_calli (va_runS (H := _) (As := [.long a3.toInt64, .long (0 : Int64), .long (1000000 : Int64)]) (rest := []) ⟨hx, hb, hml, hown, hT⟩ (c_r_in l D ca ad _ hx7) (fr_c6_91 hT ⟨Nat.le_trans (Nat.le_of_ble_eq_true rfl) hRf, Nat.le_trans (Nat.le_of_ble_eq_true rfl) hRl⟩) ⟨fo_Pre_blind, fo_Pre_at hP hK (hD _)⟩ rfl rfl hl.1 rfl (lv_room (Nat.le_of_ble_eq_true rfl)) dX6_hear_26 ⟨Nat.zero_le _, Nat.zero_le _⟩) hS (fun H locs hP hS => ?_)
      refine lv_if_ne (tgt := 35) hx hb dX6_hear_29 (by decide) (fun c8 => ?_) (fun c8 => ?_)
      · replace h0 := fo_itF c8 h0
        refine lv_aload_n hx hb dX6_hear_35 rfl (lv_at hl 0 rfl) ?_
        refine fr_g6_99 hx hb hT hown hK hP (by decide) dX6_hear_36 ?_
        refine lv_if_eq (tgt := 45) hx hb dX6_hear_39 (by decide) (fun c9 => ?_) (fun c9 => ?_)
        · replace h0 := fo_itT c9 h0
          refine lv_aload_n hx hb dX6_hear_45 rfl (lv_at hl 0 rfl) ?_
          refine fr_g6_39 hx hb hT hown hK hP (by decide) dX6_hear_46 ?_
          refine lv_iconst (v := 5) hx hb dX6_hear_49 (by decide) ?_
          refine lv_iload_n hx hb dX6_hear_50 rfl (lv_at hl 2 rfl) ?_
          refine lv_imul hx hb dX6_hear_51 ?_
          refine lv_iload_n hx hb dX6_hear_52 rfl (lv_at hl 1 rfl) ?_
          refine lv_iadd hx hb dX6_hear_53 ?_
          obtain ⟨g10, h0⟩ := fo_gd h0 hN0
          refine fr_iald (k := 10) (n := 80) hx hb hK hP (by decide) (by decide) (fun _ _ => rfl) g10 dX6_hear_54 ?_
          refine lv_if_lt (tgt := 61) hx hb dX6_hear_55 (by decide) (fun c11 => ?_) (fun c11 => ?_)
          · replace h0 := fo_itT c11 h0
            refine lv_aload_n hx hb dX6_hear_61 rfl (lv_at hl 0 rfl) ?_
            refine fr_g6_39 hx hb hT hown hK hP (by decide) dX6_hear_62 ?_
            refine lv_iconst (v := 5) hx hb dX6_hear_65 (by decide) ?_
            refine lv_iload_n hx hb dX6_hear_66 rfl (lv_at hl 2 rfl) ?_
            refine lv_imul hx hb dX6_hear_67 ?_
            refine lv_iload_n hx hb dX6_hear_68 rfl (lv_at hl 1 rfl) ?_
            refine lv_iadd hx hb dX6_hear_69 ?_
            refine lv_iload_n hx hb dX6_hear_70 rfl (lv_at hl 3 rfl) ?_
            obtain ⟨g12, h0⟩ := fo_gd h0 hN0
            refine fr_iast (k := 10) (n := 80) hx hb hK hP hD hS (by decide) (by decide) (fun _ _ => rfl) g12 dX6_hear_71 (fun H locs hP hS => ?_)
            refine lv_iconst (v := 1) hx hb dX6_hear_72 (by decide) ?_
            have hr13 := Option.some.inj h0
            subst hr13
            exact kr _ ls _ _ dX6_hear_73 hP hS
          · replace h0 := fo_itF c11 h0
            refine lv_bipush (v := -6) hx hb dX6_hear_58 (by decide) ?_
            have hr14 := Option.some.inj h0
            subst hr14
            exact kr _ ls _ _ dX6_hear_60 hP hS
        · replace h0 := fo_itF c9 h0
          refine lv_bipush (v := -4) hx hb dX6_hear_42 (by decide) ?_
          have hr15 := Option.some.inj h0
          subst hr15
          exact kr _ ls _ _ dX6_hear_44 hP hS
      · replace h0 := fo_itT c8 h0
        refine lv_bipush (v := -2) hx hb dX6_hear_32 (by decide) ?_
        have hr16 := Option.some.inj h0
        subst hr16
        exact kr _ ls _ _ dX6_hear_34 hP hS
theorem c_r_hear (l : Launch) (D : va_G) (ca : Nat → ClassId) (ad : Nat → Nat) (sz : Nat) {σ : fo_S} {a1 : Int32} {a2 : Int32} {a3 : Int32}  {res : Int32 × fo_S} (h0 : r_hear σ a1 a2 a3 = some res) : Met l yX6_hear ws_r_hear rm_r_hear (fo_Pre 25 D vwCl (fr_tys ca) ad (fr_ce ca ad σ) sz [.ref (ad (fr_lay 0 0)), .int a1, .int a2, .int a3]) (fo_PoI 25 D vwCl (fr_tys ca) ad (fr_ce ca ad res.2) sz res.1) 0 0 (fo_A 25 ad sz) :=
  fr_mkI (by decide) (fun C0 kr hP => b_r_hear C0 (Nat.le_refl _) (Nat.le_refl _) (Nat.zero_le _)  h0 kr hP)
def r_open (σ : fo_S) (a1 : Int32) (a2 : Int32) (a3 : Int32) (a4 : Int32) (a5 : Int32) : Option (Int32 × fo_S) :=
  (r_isOffer σ a2 a3 a4).bind (fun x1 => if x1 = 0 then (some ((-2 : Int32), σ)) else ((r_isCall σ a1).bind (fun x4 => if x4 = 0 then (some ((-2 : Int32), σ)) else (if (σ.1 0 0 6) = (1 : Int32) then (if fo_vi a1 16 then (if (σ.1 6 0 a1.toNatClampNeg) = 0 then ((r_seal σ a2 a3 a4 a5).bind (fun x10 =>  if fo_vi a1 16 then (if (lg_cmp x10 (σ.2 5 0 a1.toNatClampNeg)) = 0 then (if fo_vi a1 16 then ( if fo_vi a1 16 then ( if fo_vi a1 16 then ( if fo_vi a1 16 then ( if fo_vi a1 16 then ( if fo_vi ((fo_pI (fo_pI (fo_pI (fo_pI σ 6 0 a1.toNatClampNeg (vp_nar .boolean (1 : Int32))) 7 0 a1.toNatClampNeg a2) 8 0 a1.toNatClampNeg a3) 9 0 a1.toNatClampNeg a4).1 3 0 a1.toNatClampNeg) 8 then ( if fo_vi a1 16 then ( if fo_vi ((fo_pI (fo_pI (fo_pI (fo_pI σ 6 0 a1.toNatClampNeg (vp_nar .boolean (1 : Int32))) 7 0 a1.toNatClampNeg a2) 8 0 a1.toNatClampNeg a3) 9 0 a1.toNatClampNeg a4).1 3 0 a1.toNatClampNeg) 8 then (some ((1 : Int32), fo_pJ (fo_pI (fo_pI (fo_pI (fo_pI σ 6 0 a1.toNatClampNeg (vp_nar .boolean (1 : Int32))) 7 0 a1.toNatClampNeg a2) 8 0 a1.toNatClampNeg a3) 9 0 a1.toNatClampNeg a4) 1 0 ((fo_pI (fo_pI (fo_pI (fo_pI σ 6 0 a1.toNatClampNeg (vp_nar .boolean (1 : Int32))) 7 0 a1.toNatClampNeg a2) 8 0 a1.toNatClampNeg a3) 9 0 a1.toNatClampNeg a4).1 3 0 a1.toNatClampNeg).toNatClampNeg (((fo_pI (fo_pI (fo_pI (fo_pI σ 6 0 a1.toNatClampNeg (vp_nar .boolean (1 : Int32))) 7 0 a1.toNatClampNeg a2) 8 0 a1.toNatClampNeg a3) 9 0 a1.toNatClampNeg a4).2 1 0 ((fo_pI (fo_pI (fo_pI (fo_pI σ 6 0 a1.toNatClampNeg (vp_nar .boolean (1 : Int32))) 7 0 a1.toNatClampNeg a2) 8 0 a1.toNatClampNeg a3) 9 0 a1.toNatClampNeg a4).1 3 0 a1.toNatClampNeg).toNatClampNeg) + ((fo_pI (fo_pI (fo_pI (fo_pI σ 6 0 a1.toNatClampNeg (vp_nar .boolean (1 : Int32))) 7 0 a1.toNatClampNeg a2) 8 0 a1.toNatClampNeg a3) 9 0 a1.toNatClampNeg a4).2 4 0 a1.toNatClampNeg)))) else none) else none) else none) else none) else none) else none) else none) else none) else (some ((-6 : Int32), σ))) else none)) else (some ((-4 : Int32), σ))) else none) else (some ((-4 : Int32), σ))))))
set_option maxHeartbeats 4000000 in
set_option maxRecDepth 100000 in
theorem b_r_open {p : Program} {l : Launch} {e : Env} {R : Room} {s : State} {m : MethodId} {args : Array Value} {below : List Frame} {meth : Method} {c : Code} {Q : State → Prop} {D : va_G} {ca : Nat → ClassId} {ad : Nat → Nat} (C0 : fr_CX p s m args c cX6_open 6 RX6 D ca ad) (hRf : 3 ≤ R.frames) (hRl : 73 ≤ R.locals) (hRc : 0 ≤ R.cells) {σ : fo_S} {a1 : Int32} {a2 : Int32} {a3 : Int32} {a4 : Int32} {a5 : Int32}  {res : Int32 × fo_S} (h0 : r_open σ a1 a2 a3 a4 a5 = some res) (kr : ∀ (pc : Nat) (ls : Array Slot) (H : Heap) (locs : List Loc), decode cX6_open pc = .ok (.ireturn, 1) → va_P D vwCl (fo_vx 25 ad (fr_ce ca ad res.2)) H → va_S (fo_A 25 ad s.heap.size) s.heap H locs → W p l e R s m args below meth c H locs 0 0 Q (F0 m pc ls [.int res.1])) (hP : va_P D vwCl (fo_vx 25 ad (fr_ce ca ad σ)) s.heap) : W p l e R s m args below meth c s.heap [] 0 0 Q (entryFrame m ([.ref (ad (fr_lay 0 0)), .int a1, .int a2, .int a3, .int a4, .int a5] : List Value).toArray 6) := by
  obtain ⟨hx, hb, hml, hown, hT, hK, hD⟩ := C0
  have hN0 : (some res) ≠ none := fun q => by cases q
  unfold r_open at h0
  have hS : va_S (fo_A 25 ad s.heap.size) s.heap s.heap [] := va_S.rf
  have hl := lv_entry ([.ref (ad (fr_lay 0 0)), .int a1, .int a2, .int a3, .int a4, .int a5]) (n := 6) (Nat.le_of_ble_eq_true rfl)
  rw [lg_entry_eq]
  generalize (lg_sl ([.ref (ad (fr_lay 0 0)), .int a1, .int a2, .int a3, .int a4, .int a5]) ++ List.replicate (6 - (lg_sl ([.ref (ad (fr_lay 0 0)), .int a1, .int a2, .int a3, .int a4, .int a5])).length) Slot.unset).toArray = ls at hl ⊢
  have hl : lv_has ls 6 [(0, .ref (ad (fr_lay 0 0))), (1, .int a1), (2, .int a2), (3, .int a3), (4, .int a4), (5, .int a5)] := hl
  refine lv_iload_n hx hb dX6_open_0 rfl (lv_at hl 2 rfl) ?_
  refine lv_iload_n hx hb dX6_open_1 rfl (lv_at hl 3 rfl) ?_
  refine lv_iload hx hb dX6_open_2 (lv_at hl 4 rfl) ?_
  obtain ⟨x1, hx1, h0⟩ := fo_bd h0 hN0
  refine fo_calli (va_runS (H := _) (As := [.int a2, .int a3, .int a4]) (rest := []) ⟨hx, hb, hml, hown, hT⟩ (c_r_isOffer l D ca ad _ hx1) (fr_c6_125 hT ⟨Nat.le_trans (Nat.le_of_ble_eq_true rfl) hRf, Nat.le_trans (Nat.le_of_ble_eq_true rfl) hRl⟩) ⟨fo_Pre_blind, fo_Pre_at hP hK (hD _)⟩ rfl rfl hl.1 rfl (lv_room (Nat.le_of_ble_eq_true rfl)) dX6_open_4 ⟨Nat.zero_le _, Nat.zero_le _⟩) hS (fun H locs hP hS => ?_)
  refine lv_if_eq (tgt := 18) hx hb dX6_open_7 (by decide) (fun c2 => ?_) (fun c2 => ?_)
  · replace h0 := fo_itT c2 h0
    refine lv_bipush (v := -2) hx hb dX6_open_18 (by decide) ?_
    have hr3 := Option.some.inj h0
    subst hr3
    exact kr _ ls _ _ dX6_open_20 hP hS
  · replace h0 := fo_itF c2 h0
    refine lv_aload_n hx hb dX6_open_10 rfl (lv_at hl 0 rfl) ?_
    refine lv_iload_n hx hb dX6_open_11 rfl (lv_at hl 1 rfl) ?_
    obtain ⟨x4, hx4, h0⟩ := fo_bd h0 hN0
    refine fo_calli (va_runV (H := _) (As := [.int a1]) (rest := []) ⟨hx, hb, hml, hown, hT⟩ (c_r_isCall l D ca ad _ hx4) (fr_c6_141 hT ⟨Nat.le_trans (Nat.le_of_ble_eq_true rfl) hRf, Nat.le_trans (Nat.le_of_ble_eq_true rfl) hRl⟩) ⟨fo_Pre_blind, fr_rc0 hK hP (by decide), fo_Pre_at hP hK (hD _)⟩ rfl rfl hl.1 rfl (lv_room (Nat.le_of_ble_eq_true rfl)) dX6_open_12 ⟨Nat.zero_le _, Nat.zero_le _⟩) hS (fun H locs hP hS => ?_)
    refine lv_if_ne (tgt := 21) hx hb dX6_open_15 (by decide) (fun c5 => ?_) (fun c5 => ?_)
    · replace h0 := fo_itF c5 h0
      refine lv_aload_n hx hb dX6_open_21 rfl (lv_at hl 0 rfl) ?_
      refine fr_g6_99 hx hb hT hown hK hP (by decide) dX6_open_22 ?_
      refine lv_iconst (v := 1) hx hb dX6_open_25 (by decide) ?_
      refine lv_icmp_ne (tgt := 38) hx hb dX6_open_26 (by decide) (fun c6 => ?_) (fun c6 => ?_)
      · replace h0 := fo_itF c6 h0
        refine lv_bipush (v := -4) hx hb dX6_open_38 (by decide) ?_
        have hr7 := Option.some.inj h0
        subst hr7
        exact kr _ ls _ _ dX6_open_40 hP hS
      · replace h0 := fo_itT c6 h0
        refine lv_aload_n hx hb dX6_open_29 rfl (lv_at hl 0 rfl) ?_
        refine fr_g6_26 hx hb hT hown hK hP (by decide) dX6_open_30 ?_
        refine lv_iload_n hx hb dX6_open_33 rfl (lv_at hl 1 rfl) ?_
        obtain ⟨g8, h0⟩ := fo_gd h0 hN0
        refine fr_zald (k := 6) (n := 16) hx hb hK hP (by decide) (by decide) (fun _ _ => rfl) g8 dX6_open_34 ?_
        refine lv_if_eq (tgt := 41) hx hb dX6_open_35 (by decide) (fun c9 => ?_) (fun c9 => ?_)
        · replace h0 := fo_itT c9 h0
          refine lv_aload_n hx hb dX6_open_41 rfl (lv_at hl 0 rfl) ?_
          refine lv_iload_n hx hb dX6_open_42 rfl (lv_at hl 2 rfl) ?_
          refine lv_iload_n hx hb dX6_open_43 rfl (lv_at hl 3 rfl) ?_
          refine lv_iload hx hb dX6_open_44 (lv_at hl 4 rfl) ?_
          refine lv_iload hx hb dX6_open_46 (lv_at hl 5 rfl) ?_
          obtain ⟨x10, hx10, h0⟩ := fo_bd h0 hN0
          refine fo_calll (va_runV (H := _) (As := [.int a2, .int a3, .int a4, .int a5]) (rest := []) ⟨hx, hb, hml, hown, hT⟩ (c_r_seal l D ca ad _ hx10) (fr_c6_145 hT ⟨Nat.le_trans (Nat.le_of_ble_eq_true rfl) hRf, Nat.le_trans (Nat.le_of_ble_eq_true rfl) hRl⟩) ⟨fo_Pre_blind, fr_rc0 hK hP (by decide), fo_Pre_at hP hK (hD _)⟩ rfl rfl hl.1 rfl (lv_room (Nat.le_of_ble_eq_true rfl)) dX6_open_48 ⟨Nat.zero_le _, Nat.zero_le _⟩) hS (fun H locs hP hS => ?_)
          refine lv_aload_n hx hb dX6_open_51 rfl (lv_at hl 0 rfl) ?_
          refine fr_g6_23 hx hb hT hown hK hP (by decide) dX6_open_52 ?_
          refine lv_iload_n hx hb dX6_open_55 rfl (lv_at hl 1 rfl) ?_
          obtain ⟨g11, h0⟩ := fo_gd h0 hN0
          refine fr_lald (k := 5) (n := 16) hx hb hK hP (by decide) (by decide) (fun _ _ => rfl) g11 dX6_open_56 ?_
          refine W.lcmp hx hb dX6_open_57 ?_
          refine lv_if_eq (tgt := 64) hx hb dX6_open_58 (by decide) (fun c12 => ?_) (fun c12 => ?_)
          · replace h0 := fo_itT c12 h0
            refine lv_aload_n hx hb dX6_open_64 rfl (lv_at hl 0 rfl) ?_
            refine fr_g6_26 hx hb hT hown hK hP (by decide) dX6_open_65 ?_
            refine lv_iload_n hx hb dX6_open_68 rfl (lv_at hl 1 rfl) ?_
            refine lv_iconst (v := 1) hx hb dX6_open_69 (by decide) ?_
            obtain ⟨g13, h0⟩ := fo_gd h0 hN0
            refine fr_zast (k := 6) (n := 16) hx hb hK hP hD hS (by decide) (by decide) (fun _ _ => rfl) g13 dX6_open_70 (fun H locs hP hS => ?_)
            refine lv_aload_n hx hb dX6_open_71 rfl (lv_at hl 0 rfl) ?_
            refine fr_g6_30 hx hb hT hown hK hP (by decide) dX6_open_72 ?_
            refine lv_iload_n hx hb dX6_open_75 rfl (lv_at hl 1 rfl) ?_
            refine lv_iload_n hx hb dX6_open_76 rfl (lv_at hl 2 rfl) ?_
            obtain ⟨g14, h0⟩ := fo_gd h0 hN0
            refine fr_iast (k := 7) (n := 16) hx hb hK hP hD hS (by decide) (by decide) (fun _ _ => rfl) g14 dX6_open_77 (fun H locs hP hS => ?_)
            refine lv_aload_n hx hb dX6_open_78 rfl (lv_at hl 0 rfl) ?_
            refine fr_g6_33 hx hb hT hown hK hP (by decide) dX6_open_79 ?_
            refine lv_iload_n hx hb dX6_open_82 rfl (lv_at hl 1 rfl) ?_
            refine lv_iload_n hx hb dX6_open_83 rfl (lv_at hl 3 rfl) ?_
            obtain ⟨g15, h0⟩ := fo_gd h0 hN0
            refine fr_iast (k := 8) (n := 16) hx hb hK hP hD hS (by decide) (by decide) (fun _ _ => rfl) g15 dX6_open_84 (fun H locs hP hS => ?_)
            refine lv_aload_n hx hb dX6_open_85 rfl (lv_at hl 0 rfl) ?_
            refine fr_g6_36 hx hb hT hown hK hP (by decide) dX6_open_86 ?_
            refine lv_iload_n hx hb dX6_open_89 rfl (lv_at hl 1 rfl) ?_
            refine lv_iload hx hb dX6_open_90 (lv_at hl 4 rfl) ?_
            obtain ⟨g16, h0⟩ := fo_gd h0 hN0
            refine fr_iast (k := 9) (n := 16) hx hb hK hP hD hS (by decide) (by decide) (fun _ _ => rfl) g16 dX6_open_92 (fun H locs hP hS => ?_)
            refine lv_aload_n hx hb dX6_open_93 rfl (lv_at hl 0 rfl) ?_
            refine fr_g6_7 hx hb hT hown hK hP (by decide) dX6_open_94 ?_
            refine lv_aload_n hx hb dX6_open_97 rfl (lv_at hl 0 rfl) ?_
            refine fr_g6_16 hx hb hT hown hK hP (by decide) dX6_open_98 ?_
            refine lv_iload_n hx hb dX6_open_101 rfl (lv_at hl 1 rfl) ?_
            obtain ⟨g17, h0⟩ := fo_gd h0 hN0
            refine fr_iald (k := 3) (n := 16) hx hb hK hP (by decide) (by decide) (fun _ _ => rfl) g17 dX6_open_102 ?_
            refine lv_dup2_11 hx hb dX6_open_103 rfl rfl ?_
            obtain ⟨g18, h0⟩ := fo_gd h0 hN0
            refine fr_lald (k := 1) (n := 8) hx hb hK hP (by decide) (by decide) (fun _ _ => rfl) g18 dX6_open_104 ?_
            refine lv_aload_n hx hb dX6_open_105 rfl (lv_at hl 0 rfl) ?_
            refine fr_g6_20 hx hb hT hown hK hP (by decide) dX6_open_106 ?_
            refine lv_iload_n hx hb dX6_open_109 rfl (lv_at hl 1 rfl) ?_
            obtain ⟨g19, h0⟩ := fo_gd h0 hN0
            refine fr_lald (k := 4) (n := 16) hx hb hK hP (by decide) (by decide) (fun _ _ => rfl) g19 dX6_open_110 ?_
            refine lv_ladd hx hb dX6_open_111 ?_
            obtain ⟨g20, h0⟩ := fo_gd h0 hN0
            refine fr_last (k := 1) (n := 8) hx hb hK hP hD hS (by decide) (by decide) (fun _ _ => rfl) g20 dX6_open_112 (fun H locs hP hS => ?_)
            refine lv_iconst (v := 1) hx hb dX6_open_113 (by decide) ?_
            have hr21 := Option.some.inj h0
            subst hr21
            exact kr _ ls _ _ dX6_open_114 hP hS
          · replace h0 := fo_itF c12 h0
            refine lv_bipush (v := -6) hx hb dX6_open_61 (by decide) ?_
            have hr22 := Option.some.inj h0
            subst hr22
            exact kr _ ls _ _ dX6_open_63 hP hS
        · replace h0 := fo_itF c9 h0
          refine lv_bipush (v := -4) hx hb dX6_open_38 (by decide) ?_
          have hr23 := Option.some.inj h0
          subst hr23
          exact kr _ ls _ _ dX6_open_40 hP hS
    · replace h0 := fo_itT c5 h0
      refine lv_bipush (v := -2) hx hb dX6_open_18 (by decide) ?_
      have hr24 := Option.some.inj h0
      subst hr24
      exact kr _ ls _ _ dX6_open_20 hP hS
theorem c_r_open (l : Launch) (D : va_G) (ca : Nat → ClassId) (ad : Nat → Nat) (sz : Nat) {σ : fo_S} {a1 : Int32} {a2 : Int32} {a3 : Int32} {a4 : Int32} {a5 : Int32}  {res : Int32 × fo_S} (h0 : r_open σ a1 a2 a3 a4 a5 = some res) : Met l yX6_open ws_r_open rm_r_open (fo_Pre 25 D vwCl (fr_tys ca) ad (fr_ce ca ad σ) sz [.ref (ad (fr_lay 0 0)), .int a1, .int a2, .int a3, .int a4, .int a5]) (fo_PoI 25 D vwCl (fr_tys ca) ad (fr_ce ca ad res.2) sz res.1) 0 0 (fo_A 25 ad sz) :=
  fr_mkI (by decide) (fun C0 kr hP => b_r_open C0 (Nat.le_refl _) (Nat.le_refl _) (Nat.zero_le _)  h0 kr hP)
def r_next_L36  (s36 : Int32 × fo_S) : Option ((Int32 × fo_S) ⊕ (Int32 × fo_S)) :=
  if (s36.2.1 0 0 6) = (2 : Int32) then (if (s36.2.1 0 0 8) ≤ s36.1 then (some (.inr (s36.1, s36.2))) else (if fo_vi s36.1 16 then (if (s36.2.1 6 0 s36.1.toNatClampNeg) = 0 then (if fo_vi s36.1 16 then (some (.inl (s36.1 + (1 : Int32), fo_pJ s36.2 0 0 5 ((s36.2.2 0 0 5) + (s36.2.2 4 0 s36.1.toNatClampNeg))))) else none) else (some (.inl (s36.1 + (1 : Int32), fo_pJ s36.2 0 0 5 ((s36.2.2 0 0 5) + (0 : Int64)))))) else none)) else (some (.inr (s36.1, s36.2)))
def r_next (σ : fo_S)  : Option (Int32 × fo_S) :=
  if (σ.1 0 0 6) = (2 : Int32) then ((r_newBlock (fo_pI σ 0 0 7 ((σ.1 0 0 7) + (1 : Int32)))).bind (fun x10 => some ((0 : Int32), x10))) else ((fo_lp (r_next_L36) fo_FU ((0 : Int32), fo_pI σ 0 0 6 ((σ.1 0 0 6) + (1 : Int32)))).bind (fun y36 => some (y36.2.1 0 0 6, y36.2)))
set_option maxHeartbeats 4000000 in
set_option maxRecDepth 100000 in
theorem b_r_next {p : Program} {l : Launch} {e : Env} {R : Room} {s : State} {m : MethodId} {args : Array Value} {below : List Frame} {meth : Method} {c : Code} {Q : State → Prop} {D : va_G} {ca : Nat → ClassId} {ad : Nat → Nat} (C0 : fr_CX p s m args c cX6_next 2 RX6 D ca ad) (hRf : 1 ≤ R.frames) (hRl : 20 ≤ R.locals) (hRc : 0 ≤ R.cells) {σ : fo_S}   {res : Int32 × fo_S} (h0 : r_next σ = some res) (kr : ∀ (pc : Nat) (ls : Array Slot) (H : Heap) (locs : List Loc), decode cX6_next pc = .ok (.ireturn, 1) → va_P D vwCl (fo_vx 25 ad (fr_ce ca ad res.2)) H → va_S (fo_A 25 ad s.heap.size) s.heap H locs → W p l e R s m args below meth c H locs 0 0 Q (F0 m pc ls [.int res.1])) (hP : va_P D vwCl (fo_vx 25 ad (fr_ce ca ad σ)) s.heap) : W p l e R s m args below meth c s.heap [] 0 0 Q (entryFrame m ([.ref (ad (fr_lay 0 0))] : List Value).toArray 2) := by
  obtain ⟨hx, hb, hml, hown, hT, hK, hD⟩ := C0
  have hN0 : (some res) ≠ none := fun q => by cases q
  unfold r_next at h0
  have hS : va_S (fo_A 25 ad s.heap.size) s.heap s.heap [] := va_S.rf
  have hl := lv_entry ([.ref (ad (fr_lay 0 0))]) (n := 2) (Nat.le_of_ble_eq_true rfl)
  rw [lg_entry_eq]
  generalize (lg_sl ([.ref (ad (fr_lay 0 0))]) ++ List.replicate (2 - (lg_sl ([.ref (ad (fr_lay 0 0))])).length) Slot.unset).toArray = ls at hl ⊢
  have hl : lv_has ls 2 [(0, .ref (ad (fr_lay 0 0)))] := hl
  refine lv_aload_n hx hb dX6_next_0 rfl (lv_at hl 0 rfl) ?_
  refine fr_g6_99 hx hb hT hown hK hP (by decide) dX6_next_1 ?_
  refine lv_iconst (v := 2) hx hb dX6_next_4 (by decide) ?_
  refine lv_icmp_ne (tgt := 24) hx hb dX6_next_5 (by decide) (fun c1 => ?_) (fun c1 => ?_)
  · replace h0 := fo_itF c1 h0
    refine lv_aload_n hx hb dX6_next_24 rfl (lv_at hl 0 rfl) ?_
    refine lv_dup hx hb dX6_next_25 rfl ?_
    refine fr_g6_99 hx hb hT hown hK hP (by decide) dX6_next_26 ?_
    refine lv_iconst (v := 1) hx hb dX6_next_29 (by decide) ?_
    refine lv_iadd hx hb dX6_next_30 ?_
    refine fr_p6_99 hx hb hT hown hK hP hD hS (by decide) dX6_next_31 (fun H locs hP hS => ?_)
    refine lv_iconst (v := 0) hx hb dX6_next_34 (by decide) ?_
    refine lv_istore_n (lv' := [(1, .int (0 : Int32)), (0, .ref (ad (fr_lay 0 0)))]) hx hb dX6_next_35 rfl hl (by decide) rfl (fun ls hl => ?_)
    obtain ⟨y36, hy36, h0⟩ := fo_bd h0 hN0
    have ex36 : ∀ (H : Heap) (locs : List Loc) (ls : Array Slot), va_P D vwCl (fo_vx 25 ad (fr_ce ca ad y36.2)) H → va_S (fo_A 25 ad s.heap.size) s.heap H locs → lv_has ls 2 [(0, .ref (ad (fr_lay 0 0)))] → W p l e R s m args below meth c H locs 0 0 Q (F0 m 86 ls []) := by
      intro H locs ls hP hS hl
      refine lv_aload_n hx hb dX6_next_86 rfl (lv_at hl 0 rfl) ?_
      refine fr_g6_99 hx hb hT hown hK hP (by decide) dX6_next_87 ?_
      have hr9 := Option.some.inj h0
      subst hr9
      exact kr _ ls _ _ dX6_next_90 hP hS
    have lp36 := fo_lp_ind (fun (s36 : Int32 × fo_S) => ∀ (H : Heap) (locs : List Loc) (ls : Array Slot), va_P D vwCl (fo_vx 25 ad (fr_ce ca ad s36.2)) H → va_S (fo_A 25 ad s.heap.size) s.heap H locs → lv_has ls 2 [(0, .ref (ad (fr_lay 0 0))), (1, .int s36.1)] → W p l e R s m args below meth c H locs 0 0 Q (F0 m 36 ls [])) (by
        intro s36 o1 h1 hN1 hL1 hE1 H locs ls hP hS hl
        unfold r_next_L36 at h1
        refine lv_aload_n hx hb dX6_next_36 rfl (lv_at hl 0 rfl) ?_
        refine fr_g6_99 hx hb hT hown hK hP (by decide) dX6_next_37 ?_
        refine lv_iconst (v := 2) hx hb dX6_next_40 (by decide) ?_
        refine lv_icmp_ne (tgt := 86) hx hb dX6_next_41 (by decide) (fun c2 => ?_) (fun c2 => ?_)
        · replace h1 := fo_itF c2 h1
          have hy3 := hE1 _ h1
          subst hy3
          exact ex36 _ _ ls hP hS (lv_sub hl [0] rfl)
        · replace h1 := fo_itT c2 h1
          refine lv_iload_n hx hb dX6_next_44 rfl (lv_at hl 1 rfl) ?_
          refine lv_aload_n hx hb dX6_next_45 rfl (lv_at hl 0 rfl) ?_
          refine fr_g6_88 hx hb hT hown hK hP (by decide) dX6_next_46 ?_
          refine lv_icmp_ge (tgt := 86) hx hb dX6_next_49 (by decide) (fun c4 => ?_) (fun c4 => ?_)
          · replace h1 := fo_itT c4 h1
            have hy5 := hE1 _ h1
            subst hy5
            exact ex36 _ _ ls hP hS (lv_sub hl [0] rfl)
          · replace h1 := fo_itF c4 h1
            refine lv_aload_n hx hb dX6_next_52 rfl (lv_at hl 0 rfl) ?_
            refine lv_dup hx hb dX6_next_53 rfl ?_
            refine fr_g6_112 hx hb hT hown hK hP (by decide) dX6_next_54 ?_
            refine lv_aload_n hx hb dX6_next_57 rfl (lv_at hl 0 rfl) ?_
            refine fr_g6_26 hx hb hT hown hK hP (by decide) dX6_next_58 ?_
            refine lv_iload_n hx hb dX6_next_61 rfl (lv_at hl 1 rfl) ?_
            obtain ⟨g6, h1⟩ := fo_gd h1 hN1
            refine fr_zald (k := 6) (n := 16) hx hb hK hP (by decide) (by decide) (fun _ _ => rfl) g6 dX6_next_62 ?_
            refine lv_if_eq (tgt := 70) hx hb dX6_next_63 (by decide) (fun c7 => ?_) (fun c7 => ?_)
            · replace h1 := fo_itT c7 h1
              refine lv_aload_n hx hb dX6_next_70 rfl (lv_at hl 0 rfl) ?_
              refine fr_g6_20 hx hb hT hown hK hP (by decide) dX6_next_71 ?_
              refine lv_iload_n hx hb dX6_next_74 rfl (lv_at hl 1 rfl) ?_
              obtain ⟨g8, h1⟩ := fo_gd h1 hN1
              refine fr_lald (k := 4) (n := 16) hx hb hK hP (by decide) (by decide) (fun _ _ => rfl) g8 dX6_next_75 ?_
              refine lv_ladd hx hb dX6_next_76 ?_
              refine fr_p6_112 hx hb hT hown hK hP hD hS (by decide) dX6_next_77 (fun H locs hP hS => ?_)
              refine lv_iinc (v := s36.1 + (1 : Int32)) (lv' := [(1, .int (s36.1 + (1 : Int32))), (0, .ref (ad (fr_lay 0 0)))]) hx hb dX6_next_80 hl (k := 1) rfl rfl (by decide) rfl (fun ls hl => ?_)
              refine lv_goto (tgt := 36) hx hb dX6_next_83 (by decide) ?_
              exact hL1 _ h1 _ _ ls hP hS (lv_sub hl [1, 0] rfl)
            · replace h1 := fo_itF c7 h1
              refine lv_lconst (v := 0) hx hb dX6_next_66 (by decide) ?_
              refine lv_goto (tgt := 76) hx hb dX6_next_67 (by decide) ?_
              refine lv_ladd hx hb dX6_next_76 ?_
              refine fr_p6_112 hx hb hT hown hK hP hD hS (by decide) dX6_next_77 (fun H locs hP hS => ?_)
              refine lv_iinc (v := s36.1 + (1 : Int32)) (lv' := [(1, .int (s36.1 + (1 : Int32))), (0, .ref (ad (fr_lay 0 0)))]) hx hb dX6_next_80 hl (k := 1) rfl rfl (by decide) rfl (fun ls hl => ?_)
              refine lv_goto (tgt := 36) hx hb dX6_next_83 (by decide) ?_
              exact hL1 _ h1 _ _ ls hP hS (lv_sub hl [1, 0] rfl)) _ _ hy36
    exact lp36 _ _ ls hP hS (lv_sub hl [1, 0] rfl)
  · replace h0 := fo_itT c1 h0
    refine lv_aload_n hx hb dX6_next_8 rfl (lv_at hl 0 rfl) ?_
    refine lv_dup hx hb dX6_next_9 rfl ?_
    refine fr_g6_115 hx hb hT hown hK hP (by decide) dX6_next_10 ?_
    refine lv_iconst (v := 1) hx hb dX6_next_13 (by decide) ?_
    refine lv_iadd hx hb dX6_next_14 ?_
    refine fr_p6_115 hx hb hT hown hK hP hD hS (by decide) dX6_next_15 (fun H locs hP hS => ?_)
    refine lv_aload_n hx hb dX6_next_18 rfl (lv_at hl 0 rfl) ?_
    obtain ⟨x10, hx10, h0⟩ := fo_bd h0 hN0
    refine fo_callv (va_runV (H := _) (As := []) (rest := []) ⟨hx, hb, hml, hown, hT⟩ (c_r_newBlock l D ca ad _ hx10) (fr_c6_118 hT ⟨Nat.le_trans (Nat.le_of_ble_eq_true rfl) hRf, Nat.le_trans (Nat.le_of_ble_eq_true rfl) hRl⟩) ⟨fo_Pre_blind, fr_rc0 hK hP (by decide), fo_Pre_at hP hK (hD _)⟩ rfl rfl hl.1 rfl (lv_room (Nat.le_of_ble_eq_true rfl)) dX6_next_19 ⟨Nat.zero_le _, Nat.zero_le _⟩) hS (fun H locs hP hS => ?_)
    refine lv_iconst (v := 0) hx hb dX6_next_22 (by decide) ?_
    have hr11 := Option.some.inj h0
    subst hr11
    exact kr _ ls _ _ dX6_next_23 hP hS
theorem c_r_next (l : Launch) (D : va_G) (ca : Nat → ClassId) (ad : Nat → Nat) (sz : Nat) {σ : fo_S}   {res : Int32 × fo_S} (h0 : r_next σ = some res) : Met l yX6_next ws_r_next rm_r_next (fo_Pre 25 D vwCl (fr_tys ca) ad (fr_ce ca ad σ) sz [.ref (ad (fr_lay 0 0))]) (fo_PoI 25 D vwCl (fr_tys ca) ad (fr_ce ca ad res.2) sz res.1) 0 0 (fo_A 25 ad sz) :=
  fr_mkI (by decide) (fun C0 kr hP => b_r_next C0 (Nat.le_refl _) (Nat.le_refl _) (Nat.zero_le _)  h0 kr hP)
def r_third_J64 (σ : fo_S) (a1 : Int32) (s2 : Int32) (s27 : Int32 × Int32 × Int32) (j64 : Int32) : Option ((Int32 × Int32 × Int32) ⊕ (Int32 × Int32 × Int32)) :=
  if (σ.1 10 0 (((5 : Int32) * a1) + s27.2.2).toNatClampNeg) = (σ.1 10 0 (((5 : Int32) * a1) + s2).toNatClampNeg) then (some (.inl (s27.1 + j64, s27.2.1 + (1 : Int32), s27.2.2 + (1 : Int32)))) else (some (.inl (s27.1 + j64, s27.2.1 + (0 : Int32), s27.2.2 + (1 : Int32))))
def r_third_L27 (σ : fo_S) (a1 : Int32) (s2 : Int32) (s27 : Int32 × Int32 × Int32) : Option ((Int32 × Int32 × Int32) ⊕ (Int32 × Int32 × Int32)) :=
  if (5 : Int32) ≤ s27.2.2 then (some (.inr (s27.1, s27.2.1, s27.2.2))) else (if fo_vi (((5 : Int32) * a1) + s27.2.2) 80 then (if (σ.1 10 0 (((5 : Int32) * a1) + s27.2.2).toNatClampNeg) < 0 then (r_third_J64 σ a1 s2 s27 (0 : Int32)) else (if (σ.1 10 0 (((5 : Int32) * a1) + s2).toNatClampNeg) ≤ (σ.1 10 0 (((5 : Int32) * a1) + s27.2.2).toNatClampNeg) then (r_third_J64 σ a1 s2 s27 (0 : Int32)) else (r_third_J64 σ a1 s2 s27 (1 : Int32)))) else none)
def r_third_L2 (σ : fo_S) (a1 : Int32) (s2 : Int32) : Option ((Int32) ⊕ ((Int32) ⊕ (Int32))) :=
  if (5 : Int32) ≤ s2 then (some (.inr (.inl s2))) else (if fo_vi (((5 : Int32) * a1) + s2) 80 then ((fo_lp (r_third_L27 σ a1 s2) fo_FU ((0 : Int32), (0 : Int32), (0 : Int32))).bind (fun y27 => if (σ.1 10 0 (((5 : Int32) * a1) + s2).toNatClampNeg) < 0 then (some (.inl (s2 + (1 : Int32)))) else (if (2 : Int32) < y27.1 then (some (.inl (s2 + (1 : Int32)))) else (if (y27.1 + y27.2.1) ≤ (2 : Int32) then (some (.inl (s2 + (1 : Int32)))) else (some (.inr (.inr (σ.1 10 0 (((5 : Int32) * a1) + s2).toNatClampNeg)))))))) else none)
def r_third (σ : fo_S) (a1 : Int32) : Option (Int32) :=
  (fo_lp (r_third_L2 σ a1) fo_FU (0 : Int32)).bind (fun y2 => match y2 with | .inl z2 => (some (1000001 : Int32)) | .inr r2 => some r2)
set_option maxHeartbeats 4000000 in
set_option maxRecDepth 100000 in
theorem b_r_third {p : Program} {l : Launch} {e : Env} {R : Room} {s : State} {m : MethodId} {args : Array Value} {below : List Frame} {meth : Method} {c : Code} {Q : State → Prop} {D : va_G} {ca : Nat → ClassId} {ad : Nat → Nat} (C0 : fr_CX p s m args c cX6_third 8 RX6 D ca ad) (hRf : 0 ≤ R.frames) (hRl : 0 ≤ R.locals) (hRc : 0 ≤ R.cells) {σ : fo_S} {a1 : Int32}  {res : Int32} (h0 : r_third σ a1 = some res) (kr : ∀ (pc : Nat) (ls : Array Slot) (H : Heap) (locs : List Loc), decode cX6_third pc = .ok (.ireturn, 1) → va_P D vwCl (fo_vx 25 ad (fr_ce ca ad σ)) H → va_S (fo_A 25 ad s.heap.size) s.heap H locs → W p l e R s m args below meth c H locs 0 0 Q (F0 m pc ls [.int res])) (hP : va_P D vwCl (fo_vx 25 ad (fr_ce ca ad σ)) s.heap) : W p l e R s m args below meth c s.heap [] 0 0 Q (entryFrame m ([.ref (ad (fr_lay 0 0)), .int a1] : List Value).toArray 8) := by
  obtain ⟨hx, hb, hml, hown, hT, hK, hD⟩ := C0
  have hN0 : (some res) ≠ none := fun q => by cases q
  unfold r_third at h0
  have hS : va_S (fo_A 25 ad s.heap.size) s.heap s.heap [] := va_S.rf
  have hl := lv_entry ([.ref (ad (fr_lay 0 0)), .int a1]) (n := 8) (Nat.le_of_ble_eq_true rfl)
  rw [lg_entry_eq]
  generalize (lg_sl ([.ref (ad (fr_lay 0 0)), .int a1]) ++ List.replicate (8 - (lg_sl ([.ref (ad (fr_lay 0 0)), .int a1])).length) Slot.unset).toArray = ls at hl ⊢
  have hl : lv_has ls 8 [(0, .ref (ad (fr_lay 0 0))), (1, .int a1)] := hl
  refine lv_iconst (v := 0) hx hb dX6_third_0 (by decide) ?_
  refine lv_istore_n (lv' := [(2, .int (0 : Int32)), (0, .ref (ad (fr_lay 0 0))), (1, .int a1)]) hx hb dX6_third_1 rfl hl (by decide) rfl (fun ls hl => ?_)
  obtain ⟨y2, hy2, h0⟩ := fo_bd h0 hN0
  have ex2 : ∀ z2 : Int32, y2 = .inl z2 → ∀ (H : Heap) (locs : List Loc) (ls : Array Slot), va_P D vwCl (fo_vx 25 ad (fr_ce ca ad σ)) H → va_S (fo_A 25 ad s.heap.size) s.heap H locs → lv_has ls 8 [] → W p l e R s m args below meth c H locs 0 0 Q (F0 m 116 ls []) := by
    intro z2 hq2 H locs ls hP hS hl
    subst hq2
    refine lv_ldc (v := 1000001) hx hb hown (fr_k6_149 hT) dX6_third_116 ?_
    have hr15 := Option.some.inj h0
    subst hr15
    exact kr _ ls _ _ dX6_third_118 hP hS
  have lp2 := fo_lp_ind (fun (s2 : Int32) => ∀ (H : Heap) (locs : List Loc) (ls : Array Slot), va_P D vwCl (fo_vx 25 ad (fr_ce ca ad σ)) H → va_S (fo_A 25 ad s.heap.size) s.heap H locs → lv_has ls 8 [(0, .ref (ad (fr_lay 0 0))), (1, .int a1), (2, .int s2)] → W p l e R s m args below meth c H locs 0 0 Q (F0 m 2 ls [])) (by
      intro s2 o1 h1 hN1 hL1 hE1 H locs ls hP hS hl
      unfold r_third_L2 at h1
      refine lv_iload_n hx hb dX6_third_2 rfl (lv_at hl 2 rfl) ?_
      refine lv_iconst (v := 5) hx hb dX6_third_3 (by decide) ?_
      refine lv_icmp_ge (tgt := 116) hx hb dX6_third_4 (by decide) (fun c1 => ?_) (fun c1 => ?_)
      · replace h1 := fo_itT c1 h1
        have hy2 := hE1 _ h1
        exact ex2 _ hy2.symm _ _ ls hP hS (lv_sub hl [] rfl)
      · replace h1 := fo_itF c1 h1
        refine lv_aload_n hx hb dX6_third_7 rfl (lv_at hl 0 rfl) ?_
        refine fr_g6_39 hx hb hT hown hK hP (by decide) dX6_third_8 ?_
        refine lv_iconst (v := 5) hx hb dX6_third_11 (by decide) ?_
        refine lv_iload_n hx hb dX6_third_12 rfl (lv_at hl 1 rfl) ?_
        refine lv_imul hx hb dX6_third_13 ?_
        refine lv_iload_n hx hb dX6_third_14 rfl (lv_at hl 2 rfl) ?_
        refine lv_iadd hx hb dX6_third_15 ?_
        obtain ⟨g3, h1⟩ := fo_gd h1 hN1
        refine fr_iald (k := 10) (n := 80) hx hb hK hP (by decide) (by decide) (fun _ _ => rfl) g3 dX6_third_16 ?_
        refine lv_istore_n (lv' := [(3, .int (σ.1 10 0 (((5 : Int32) * a1) + s2).toNatClampNeg)), (0, .ref (ad (fr_lay 0 0))), (1, .int a1), (2, .int s2)]) hx hb dX6_third_17 rfl hl (by decide) rfl (fun ls hl => ?_)
        refine lv_iconst (v := 0) hx hb dX6_third_18 (by decide) ?_
        refine lv_istore (lv' := [(4, .int (0 : Int32)), (3, .int (σ.1 10 0 (((5 : Int32) * a1) + s2).toNatClampNeg)), (0, .ref (ad (fr_lay 0 0))), (1, .int a1), (2, .int s2)]) hx hb dX6_third_19 hl (by decide) rfl (fun ls hl => ?_)
        refine lv_iconst (v := 0) hx hb dX6_third_21 (by decide) ?_
        refine lv_istore (lv' := [(5, .int (0 : Int32)), (4, .int (0 : Int32)), (3, .int (σ.1 10 0 (((5 : Int32) * a1) + s2).toNatClampNeg)), (0, .ref (ad (fr_lay 0 0))), (1, .int a1), (2, .int s2)]) hx hb dX6_third_22 hl (by decide) rfl (fun ls hl => ?_)
        refine lv_iconst (v := 0) hx hb dX6_third_24 (by decide) ?_
        refine lv_istore (lv' := [(6, .int (0 : Int32)), (5, .int (0 : Int32)), (4, .int (0 : Int32)), (3, .int (σ.1 10 0 (((5 : Int32) * a1) + s2).toNatClampNeg)), (0, .ref (ad (fr_lay 0 0))), (1, .int a1), (2, .int s2)]) hx hb dX6_third_25 hl (by decide) rfl (fun ls hl => ?_)
        obtain ⟨y27, hy27, h1⟩ := fo_bd h1 hN1
        have ex27 : ∀ (H : Heap) (locs : List Loc) (ls : Array Slot), va_P D vwCl (fo_vx 25 ad (fr_ce ca ad σ)) H → va_S (fo_A 25 ad s.heap.size) s.heap H locs → lv_has ls 8 [(0, .ref (ad (fr_lay 0 0))), (1, .int a1), (2, .int s2), (3, .int (σ.1 10 0 (((5 : Int32) * a1) + s2).toNatClampNeg)), (4, .int y27.1), (5, .int y27.2.1)] → W p l e R s m args below meth c H locs 0 0 Q (F0 m 89 ls []) := by
          intro H locs ls hP hS hl
          refine lv_iload_n hx hb dX6_third_89 rfl (lv_at hl 3 rfl) ?_
          refine lv_if_lt (tgt := 110) hx hb dX6_third_90 (by decide) (fun c10 => ?_) (fun c10 => ?_)
          · replace h1 := fo_itT c10 h1
            refine lv_iinc (v := s2 + (1 : Int32)) (lv' := [(2, .int (s2 + (1 : Int32))), (0, .ref (ad (fr_lay 0 0))), (1, .int a1), (3, .int (σ.1 10 0 (((5 : Int32) * a1) + s2).toNatClampNeg)), (4, .int y27.1), (5, .int y27.2.1)]) hx hb dX6_third_110 hl (k := 2) rfl rfl (by decide) rfl (fun ls hl => ?_)
            refine lv_goto (tgt := 2) hx hb dX6_third_113 (by decide) ?_
            exact hL1 _ h1 _ _ ls hP hS (lv_sub hl [1, 2, 0] rfl)
          · replace h1 := fo_itF c10 h1
            refine lv_iload hx hb dX6_third_93 (lv_at hl 4 rfl) ?_
            refine lv_iconst (v := 2) hx hb dX6_third_95 (by decide) ?_
            refine lv_icmp_gt (tgt := 110) hx hb dX6_third_96 (by decide) (fun c11 => ?_) (fun c11 => ?_)
            · replace h1 := fo_itT c11 h1
              refine lv_iinc (v := s2 + (1 : Int32)) (lv' := [(2, .int (s2 + (1 : Int32))), (0, .ref (ad (fr_lay 0 0))), (1, .int a1), (3, .int (σ.1 10 0 (((5 : Int32) * a1) + s2).toNatClampNeg)), (4, .int y27.1), (5, .int y27.2.1)]) hx hb dX6_third_110 hl (k := 2) rfl rfl (by decide) rfl (fun ls hl => ?_)
              refine lv_goto (tgt := 2) hx hb dX6_third_113 (by decide) ?_
              exact hL1 _ h1 _ _ ls hP hS (lv_sub hl [1, 2, 0] rfl)
            · replace h1 := fo_itF c11 h1
              refine lv_iload hx hb dX6_third_99 (lv_at hl 4 rfl) ?_
              refine lv_iload hx hb dX6_third_101 (lv_at hl 5 rfl) ?_
              refine lv_iadd hx hb dX6_third_103 ?_
              refine lv_iconst (v := 2) hx hb dX6_third_104 (by decide) ?_
              refine lv_icmp_le (tgt := 110) hx hb dX6_third_105 (by decide) (fun c12 => ?_) (fun c12 => ?_)
              · replace h1 := fo_itT c12 h1
                refine lv_iinc (v := s2 + (1 : Int32)) (lv' := [(2, .int (s2 + (1 : Int32))), (0, .ref (ad (fr_lay 0 0))), (1, .int a1), (3, .int (σ.1 10 0 (((5 : Int32) * a1) + s2).toNatClampNeg)), (4, .int y27.1), (5, .int y27.2.1)]) hx hb dX6_third_110 hl (k := 2) rfl rfl (by decide) rfl (fun ls hl => ?_)
                refine lv_goto (tgt := 2) hx hb dX6_third_113 (by decide) ?_
                exact hL1 _ h1 _ _ ls hP hS (lv_sub hl [1, 2, 0] rfl)
              · replace h1 := fo_itF c12 h1
                refine lv_iload_n hx hb dX6_third_108 rfl (lv_at hl 3 rfl) ?_
                have hy13 := hE1 _ h1
                subst hy13
                have hr14 := Option.some.inj h0
                subst hr14
                exact kr _ ls _ _ dX6_third_109 hP hS
        have lp27 := fo_lp_ind (fun (s27 : Int32 × Int32 × Int32) => ∀ (H : Heap) (locs : List Loc) (ls : Array Slot), va_P D vwCl (fo_vx 25 ad (fr_ce ca ad σ)) H → va_S (fo_A 25 ad s.heap.size) s.heap H locs → lv_has ls 8 [(0, .ref (ad (fr_lay 0 0))), (1, .int a1), (2, .int s2), (3, .int (σ.1 10 0 (((5 : Int32) * a1) + s2).toNatClampNeg)), (4, .int s27.1), (5, .int s27.2.1), (6, .int s27.2.2)] → W p l e R s m args below meth c H locs 0 0 Q (F0 m 27 ls [])) (by
            intro s27 o2 h2 hN2 hL2 hE2 H locs ls hP hS hl
            unfold r_third_L27 at h2
            refine lv_iload hx hb dX6_third_27 (lv_at hl 6 rfl) ?_
            refine lv_iconst (v := 5) hx hb dX6_third_29 (by decide) ?_
            refine lv_icmp_ge (tgt := 89) hx hb dX6_third_30 (by decide) (fun c4 => ?_) (fun c4 => ?_)
            · replace h2 := fo_itT c4 h2
              have hy5 := hE2 _ h2
              subst hy5
              exact ex27 _ _ ls hP hS (lv_sub hl [0, 1, 2, 3, 4, 5] rfl)
            · replace h2 := fo_itF c4 h2
              refine lv_aload_n hx hb dX6_third_33 rfl (lv_at hl 0 rfl) ?_
              refine fr_g6_39 hx hb hT hown hK hP (by decide) dX6_third_34 ?_
              refine lv_iconst (v := 5) hx hb dX6_third_37 (by decide) ?_
              refine lv_iload_n hx hb dX6_third_38 rfl (lv_at hl 1 rfl) ?_
              refine lv_imul hx hb dX6_third_39 ?_
              refine lv_iload hx hb dX6_third_40 (lv_at hl 6 rfl) ?_
              refine lv_iadd hx hb dX6_third_42 ?_
              obtain ⟨g6, h2⟩ := fo_gd h2 hN2
              refine fr_iald (k := 10) (n := 80) hx hb hK hP (by decide) (by decide) (fun _ _ => rfl) g6 dX6_third_43 ?_
              refine lv_istore (lv' := [(7, .int (σ.1 10 0 (((5 : Int32) * a1) + s27.2.2).toNatClampNeg)), (0, .ref (ad (fr_lay 0 0))), (1, .int a1), (2, .int s2), (3, .int (σ.1 10 0 (((5 : Int32) * a1) + s2).toNatClampNeg)), (4, .int s27.1), (5, .int s27.2.1), (6, .int s27.2.2)]) hx hb dX6_third_44 hl (by decide) rfl (fun ls hl => ?_)
              refine lv_iload hx hb dX6_third_46 (lv_at hl 5 rfl) ?_
              refine lv_iload hx hb dX6_third_48 (lv_at hl 0 rfl) ?_
              have J64 : ∀ j64 : Int32, r_third_J64 σ a1 s2 s27 j64 = o2 → ∀ (H : Heap) (locs : List Loc) (ls : Array Slot), va_P D vwCl (fo_vx 25 ad (fr_ce ca ad σ)) H → va_S (fo_A 25 ad s.heap.size) s.heap H locs → lv_has ls 8 [(0, .ref (ad (fr_lay 0 0))), (1, .int a1), (2, .int s2), (3, .int (σ.1 10 0 (((5 : Int32) * a1) + s2).toNatClampNeg)), (5, .int s27.2.1), (6, .int s27.2.2), (7, .int (σ.1 10 0 (((5 : Int32) * a1) + s27.2.2).toNatClampNeg))] → W p l e R s m args below meth c H locs 0 0 Q (F0 m 64 ls [.int j64, .int s27.1]) := by
                intro j64 h2 H locs ls hP hS hl
                unfold r_third_J64 at h2
                refine lv_iadd hx hb dX6_third_64 ?_
                refine lv_istore (lv' := [(4, .int (s27.1 + j64)), (0, .ref (ad (fr_lay 0 0))), (1, .int a1), (2, .int s2), (3, .int (σ.1 10 0 (((5 : Int32) * a1) + s2).toNatClampNeg)), (5, .int s27.2.1), (6, .int s27.2.2), (7, .int (σ.1 10 0 (((5 : Int32) * a1) + s27.2.2).toNatClampNeg))]) hx hb dX6_third_65 hl (by decide) rfl (fun ls hl => ?_)
                refine lv_iload hx hb dX6_third_67 (lv_at hl 5 rfl) ?_
                refine lv_iload hx hb dX6_third_69 (lv_at hl 7 rfl) ?_
                refine lv_iload_n hx hb dX6_third_71 rfl (lv_at hl 4 rfl) ?_
                refine lv_icmp_ne (tgt := 79) hx hb dX6_third_72 (by decide) (fun c7 => ?_) (fun c7 => ?_)
                · replace h2 := fo_itF c7 h2
                  refine lv_iconst (v := 0) hx hb dX6_third_79 (by decide) ?_
                  refine lv_iadd hx hb dX6_third_80 ?_
                  refine lv_istore (lv' := [(5, .int (s27.2.1 + (0 : Int32))), (4, .int (s27.1 + j64)), (0, .ref (ad (fr_lay 0 0))), (1, .int a1), (2, .int s2), (3, .int (σ.1 10 0 (((5 : Int32) * a1) + s2).toNatClampNeg)), (6, .int s27.2.2), (7, .int (σ.1 10 0 (((5 : Int32) * a1) + s27.2.2).toNatClampNeg))]) hx hb dX6_third_81 hl (by decide) rfl (fun ls hl => ?_)
                  refine lv_iinc (v := s27.2.2 + (1 : Int32)) (lv' := [(6, .int (s27.2.2 + (1 : Int32))), (5, .int (s27.2.1 + (0 : Int32))), (4, .int (s27.1 + j64)), (0, .ref (ad (fr_lay 0 0))), (1, .int a1), (2, .int s2), (3, .int (σ.1 10 0 (((5 : Int32) * a1) + s2).toNatClampNeg)), (7, .int (σ.1 10 0 (((5 : Int32) * a1) + s27.2.2).toNatClampNeg))]) hx hb dX6_third_83 hl (k := 6) rfl rfl (by decide) rfl (fun ls hl => ?_)
                  refine lv_goto (tgt := 27) hx hb dX6_third_86 (by decide) ?_
                  exact hL2 _ h2 _ _ ls hP hS (lv_sub hl [3, 4, 5, 6, 2, 1, 0] rfl)
                · replace h2 := fo_itT c7 h2
                  refine lv_iconst (v := 1) hx hb dX6_third_75 (by decide) ?_
                  refine lv_goto (tgt := 80) hx hb dX6_third_76 (by decide) ?_
                  refine lv_iadd hx hb dX6_third_80 ?_
                  refine lv_istore (lv' := [(5, .int (s27.2.1 + (1 : Int32))), (4, .int (s27.1 + j64)), (0, .ref (ad (fr_lay 0 0))), (1, .int a1), (2, .int s2), (3, .int (σ.1 10 0 (((5 : Int32) * a1) + s2).toNatClampNeg)), (6, .int s27.2.2), (7, .int (σ.1 10 0 (((5 : Int32) * a1) + s27.2.2).toNatClampNeg))]) hx hb dX6_third_81 hl (by decide) rfl (fun ls hl => ?_)
                  refine lv_iinc (v := s27.2.2 + (1 : Int32)) (lv' := [(6, .int (s27.2.2 + (1 : Int32))), (5, .int (s27.2.1 + (1 : Int32))), (4, .int (s27.1 + j64)), (0, .ref (ad (fr_lay 0 0))), (1, .int a1), (2, .int s2), (3, .int (σ.1 10 0 (((5 : Int32) * a1) + s2).toNatClampNeg)), (7, .int (σ.1 10 0 (((5 : Int32) * a1) + s27.2.2).toNatClampNeg))]) hx hb dX6_third_83 hl (k := 6) rfl rfl (by decide) rfl (fun ls hl => ?_)
                  refine lv_goto (tgt := 27) hx hb dX6_third_86 (by decide) ?_
                  exact hL2 _ h2 _ _ ls hP hS (lv_sub hl [3, 4, 5, 6, 2, 1, 0] rfl)
              refine lv_if_lt (tgt := 63) hx hb dX6_third_50 (by decide) (fun c8 => ?_) (fun c8 => ?_)
              · replace h2 := fo_itT c8 h2
                refine lv_iconst (v := 0) hx hb dX6_third_63 (by decide) ?_
                exact J64 _ h2 _ _ ls hP hS (lv_sub hl [1, 2, 3, 4, 6, 7, 0] rfl)
              · replace h2 := fo_itF c8 h2
                refine lv_iload hx hb dX6_third_53 (lv_at hl 0 rfl) ?_
                refine lv_iload_n hx hb dX6_third_55 rfl (lv_at hl 4 rfl) ?_
                refine lv_icmp_ge (tgt := 63) hx hb dX6_third_56 (by decide) (fun c9 => ?_) (fun c9 => ?_)
                · replace h2 := fo_itT c9 h2
                  refine lv_iconst (v := 0) hx hb dX6_third_63 (by decide) ?_
                  exact J64 _ h2 _ _ ls hP hS (lv_sub hl [1, 2, 3, 4, 6, 7, 0] rfl)
                · replace h2 := fo_itF c9 h2
                  refine lv_iconst (v := 1) hx hb dX6_third_59 (by decide) ?_
                  refine lv_goto (tgt := 64) hx hb dX6_third_60 (by decide) ?_
                  exact J64 _ h2 _ _ ls hP hS (lv_sub hl [1, 2, 3, 4, 6, 7, 0] rfl)) _ _ hy27
        exact lp27 _ _ ls hP hS (lv_sub hl [4, 5, 6, 3, 2, 1, 0] rfl)) _ _ hy2
  exact lp2 _ _ ls hP hS (lv_sub hl [1, 2, 0] rfl)
theorem c_r_third (l : Launch) (D : va_G) (ca : Nat → ClassId) (ad : Nat → Nat) (sz : Nat) {σ : fo_S} {a1 : Int32}  {res : Int32} (h0 : r_third σ a1 = some res) : Met l yX6_third ws_r_third rm_r_third (fo_Pre 25 D vwCl (fr_tys ca) ad (fr_ce ca ad σ) sz [.ref (ad (fr_lay 0 0)), .int a1]) (fo_PoI 25 D vwCl (fr_tys ca) ad (fr_ce ca ad σ) sz res) 0 0 (fo_A 25 ad sz) :=
  fr_mkI (by decide) (fun C0 kr hP => b_r_third C0 (Nat.le_refl _) (Nat.le_refl _) (Nat.zero_le _)  h0 kr hP)
