def q_FairOrder_has (σ : fo_S) (a1 : Int32) (a2 : Int32) : Option (Int64) :=
  (q_FairOrder_isHolding σ a2).bind (fun x1 => if x1 = 0 then (some (0 : Int64)) else (if a1 = (-1 : Int32) then ((q_Market_held σ 0 (8 : Int32) a2).bind (fun x13 => some x13)) else (if a1 = (-2 : Int32) then (if a2 = 0 then (some (σ.2 0 0 12)) else (some (0 : Int64))) else ((q_FairOrder_isAccount σ a1).bind (fun x5 => if x5 = 0 then (some (0 : Int64)) else ((q_Market_held σ 0 a1 a2).bind (fun x8 => some x8)))))))
set_option maxHeartbeats 4000000 in
set_option maxRecDepth 100000 in
theorem b_q_FairOrder_has {p : Program} {l : Launch} {e : Env} {R : Room} {s : State} {m : MethodId} {args : Array Value} {below : List Frame} {meth : Method} {c : Code} {Q : State → Prop} {D : va_G} {ca : Nat → ClassId} {ad : Nat → Nat} (C0 : fo_CX p s m args c cX0_has 3 RX0 D ca ad) (hRf : 1 ≤ R.frames) (hRl : 22 ≤ R.locals) (hRc : 0 ≤ R.cells) {σ : fo_S} {a1 : Int32} {a2 : Int32}  {res : Int64} (h0 : q_FairOrder_has σ a1 a2 = some res) (kr : ∀ (pc : Nat) (ls : Array Slot) (H : Heap) (locs : List Loc), decode cX0_has pc = .ok (.lreturn, 1) → va_P D vwCl (fo_vx 51 ad (fo_ce ca ad σ)) H → va_S (fo_A 51 ad s.heap.size) s.heap H locs → W p l e R s m args below meth c H locs 0 0 Q (F0 m pc ls [.long res])) (hP : va_P D vwCl (fo_vx 51 ad (fo_ce ca ad σ)) s.heap) : W p l e R s m args below meth c s.heap [] 0 0 Q (entryFrame m ([.ref (ad (fo_lay 0 0)), .int a1, .int a2] : List Value).toArray 3) := by
  obtain ⟨hx, hb, hml, hown, hT, hK, hD⟩ := C0
  have hN0 : (some res) ≠ none := fun q => by cases q
  unfold q_FairOrder_has at h0
  have hS : va_S (fo_A 51 ad s.heap.size) s.heap s.heap [] := va_S.rf
  have hl := lv_entry ([.ref (ad (fo_lay 0 0)), .int a1, .int a2]) (n := 3) (Nat.le_of_ble_eq_true rfl)
  rw [lg_entry_eq]
  generalize (lg_sl ([.ref (ad (fo_lay 0 0)), .int a1, .int a2]) ++ List.replicate (3 - (lg_sl ([.ref (ad (fo_lay 0 0)), .int a1, .int a2])).length) Slot.unset).toArray = ls at hl ⊢
  have hl : lv_has ls 3 [(0, .ref (ad (fo_lay 0 0))), (1, .int a1), (2, .int a2)] := hl
  refine lv_iload_n hx hb dX0_has_0 rfl (lv_at hl 2 rfl) ?_
  obtain ⟨x1, hx1, h0⟩ := fo_bd h0 hN0
  refine fo_calli (va_runS (H := _) (As := [.int a2]) (rest := []) ⟨hx, hb, hml, hown, hT⟩ (c_q_FairOrder_isHolding l D ca ad _ hx1) (fo_c0_210 hT ⟨Nat.le_trans (Nat.le_of_ble_eq_true rfl) hRf, Nat.le_trans (Nat.le_of_ble_eq_true rfl) hRl⟩) ⟨fo_Pre_blind, fo_Pre_at hP hK (hD _)⟩ rfl rfl hl.1 rfl (lv_room (Nat.le_of_ble_eq_true rfl)) dX0_has_1 ⟨Nat.zero_le _, Nat.zero_le _⟩) hS (fun H locs hP hS => ?_)
  refine lv_if_ne (tgt := 9) hx hb dX0_has_4 (by decide) (fun c2 => ?_) (fun c2 => ?_)
  · replace h0 := fo_itF c2 h0
    refine lv_iload_n hx hb dX0_has_9 rfl (lv_at hl 1 rfl) ?_
    refine lv_iconst (v := -1) hx hb dX0_has_10 (by decide) ?_
    refine lv_icmp_ne (tgt := 25) hx hb dX0_has_11 (by decide) (fun c3 => ?_) (fun c3 => ?_)
    · replace h0 := fo_itF c3 h0
      refine lv_iload_n hx hb dX0_has_25 rfl (lv_at hl 1 rfl) ?_
      refine lv_bipush (v := -2) hx hb dX0_has_26 (by decide) ?_
      refine lv_icmp_ne (tgt := 44) hx hb dX0_has_28 (by decide) (fun c4 => ?_) (fun c4 => ?_)
      · replace h0 := fo_itF c4 h0
        refine lv_aload_n hx hb dX0_has_44 rfl (lv_at hl 0 rfl) ?_
        refine lv_iload_n hx hb dX0_has_45 rfl (lv_at hl 1 rfl) ?_
        obtain ⟨x5, hx5, h0⟩ := fo_bd h0 hN0
        refine fo_calli (va_runV (H := _) (As := [.int a1]) (rest := []) ⟨hx, hb, hml, hown, hT⟩ (c_q_FairOrder_isAccount l D ca ad _ hx5) (fo_c0_87 hT ⟨Nat.le_trans (Nat.le_of_ble_eq_true rfl) hRf, Nat.le_trans (Nat.le_of_ble_eq_true rfl) hRl⟩) ⟨fo_Pre_blind, fo_rc0 hK hP (by decide), fo_Pre_at hP hK (hD _)⟩ rfl rfl hl.1 rfl (lv_room (Nat.le_of_ble_eq_true rfl)) dX0_has_46 ⟨Nat.zero_le _, Nat.zero_le _⟩) hS (fun H locs hP hS => ?_)
        refine lv_if_eq (tgt := 64) hx hb dX0_has_49 (by decide) (fun c6 => ?_) (fun c6 => ?_)
        · replace h0 := fo_itT c6 h0
          refine lv_lconst (v := 0) hx hb dX0_has_64 (by decide) ?_
          have hr7 := Option.some.inj h0
          subst hr7
          exact kr _ ls _ _ dX0_has_65 hP hS
        · replace h0 := fo_itF c6 h0
          refine lv_aload_n hx hb dX0_has_52 rfl (lv_at hl 0 rfl) ?_
          refine fo_g0_12 hx hb hT hown hK hP (by decide) dX0_has_53 ?_
          refine lv_iload_n hx hb dX0_has_56 rfl (lv_at hl 1 rfl) ?_
          refine lv_iload_n hx hb dX0_has_57 rfl (lv_at hl 2 rfl) ?_
          obtain ⟨x8, hx8, h0⟩ := fo_bd h0 hN0
          refine fo_calll (va_runV (H := _) (As := [.int a1, .int a2]) (rest := []) ⟨hx, hb, hml, hown, hT⟩ (c_q_Market_held l D ca ad _ (by decide) hx8) (fo_c0_225 hT ⟨Nat.le_trans (Nat.le_of_ble_eq_true rfl) hRf, Nat.le_trans (Nat.le_of_ble_eq_true rfl) hRl⟩) ⟨fo_Pre_blind, fo_rc1 hK hP (by decide), fo_Pre_at hP hK (hD _)⟩ rfl rfl hl.1 rfl (lv_room (Nat.le_of_ble_eq_true rfl)) dX0_has_58 ⟨Nat.zero_le _, Nat.zero_le _⟩) hS (fun H locs hP hS => ?_)
          refine lv_goto (tgt := 65) hx hb dX0_has_61 (by decide) ?_
          have hr9 := Option.some.inj h0
          subst hr9
          exact kr _ ls _ _ dX0_has_65 hP hS
      · replace h0 := fo_itT c4 h0
        refine lv_iload_n hx hb dX0_has_31 rfl (lv_at hl 2 rfl) ?_
        refine lv_if_ne (tgt := 42) hx hb dX0_has_32 (by decide) (fun c10 => ?_) (fun c10 => ?_)
        · replace h0 := fo_itF c10 h0
          refine lv_lconst (v := 0) hx hb dX0_has_42 (by decide) ?_
          have hr11 := Option.some.inj h0
          subst hr11
          exact kr _ ls _ _ dX0_has_43 hP hS
        · replace h0 := fo_itT c10 h0
          refine lv_aload_n hx hb dX0_has_35 rfl (lv_at hl 0 rfl) ?_
          refine fo_g0_61 hx hb hT hown hK hP (by decide) dX0_has_36 ?_
          refine lv_goto (tgt := 43) hx hb dX0_has_39 (by decide) ?_
          have hr12 := Option.some.inj h0
          subst hr12
          exact kr _ ls _ _ dX0_has_43 hP hS
    · replace h0 := fo_itT c3 h0
      refine lv_aload_n hx hb dX0_has_14 rfl (lv_at hl 0 rfl) ?_
      refine fo_g0_12 hx hb hT hown hK hP (by decide) dX0_has_15 ?_
      refine lv_bipush (v := 8) hx hb dX0_has_18 (by decide) ?_
      refine lv_iload_n hx hb dX0_has_20 rfl (lv_at hl 2 rfl) ?_
      obtain ⟨x13, hx13, h0⟩ := fo_bd h0 hN0
      refine fo_calll (va_runV (H := _) (As := [.int (8 : Int32), .int a2]) (rest := []) ⟨hx, hb, hml, hown, hT⟩ (c_q_Market_held l D ca ad _ (by decide) hx13) (fo_c0_225 hT ⟨Nat.le_trans (Nat.le_of_ble_eq_true rfl) hRf, Nat.le_trans (Nat.le_of_ble_eq_true rfl) hRl⟩) ⟨fo_Pre_blind, fo_rc1 hK hP (by decide), fo_Pre_at hP hK (hD _)⟩ rfl rfl hl.1 rfl (lv_room (Nat.le_of_ble_eq_true rfl)) dX0_has_21 ⟨Nat.zero_le _, Nat.zero_le _⟩) hS (fun H locs hP hS => ?_)
      have hr14 := Option.some.inj h0
      subst hr14
      exact kr _ ls _ _ dX0_has_24 hP hS
  · replace h0 := fo_itT c2 h0
    refine lv_lconst (v := 0) hx hb dX0_has_7 (by decide) ?_
    have hr15 := Option.some.inj h0
    subst hr15
    exact kr _ ls _ _ dX0_has_8 hP hS
theorem c_q_FairOrder_has (l : Launch) (D : va_G) (ca : Nat → ClassId) (ad : Nat → Nat) (sz : Nat) {σ : fo_S} {a1 : Int32} {a2 : Int32}  {res : Int64} (h0 : q_FairOrder_has σ a1 a2 = some res) : Met l yX0_has ws_q_FairOrder_has rm_q_FairOrder_has (fo_Pre 51 D vwCl (fo_tys ca) ad (fo_ce ca ad σ) sz [.ref (ad (fo_lay 0 0)), .int a1, .int a2]) (fo_PoL 51 D vwCl (fo_tys ca) ad (fo_ce ca ad σ) sz res) 0 0 (fo_A 51 ad sz) :=
  fo_mkL (by decide) (fun C0 kr hP => b_q_FairOrder_has C0 (Nat.le_refl _) (Nat.le_refl _) (Nat.zero_le _)  h0 kr hP)
def q_Call_term (σ : fo_S) (i0 : Nat) (a1 : Int32) : Option (Int32) :=
  if a1 = (2 : Int32) then (some (σ.1 14 i0 5)) else (if a1 = (3 : Int32) then (some (σ.1 14 i0 6)) else (some (σ.1 14 i0 7)))
set_option maxHeartbeats 4000000 in
set_option maxRecDepth 100000 in
theorem b_q_Call_term {p : Program} {l : Launch} {e : Env} {R : Room} {s : State} {m : MethodId} {args : Array Value} {below : List Frame} {meth : Method} {c : Code} {Q : State → Prop} {D : va_G} {ca : Nat → ClassId} {ad : Nat → Nat} (C0 : fo_CX p s m args c cX1_term 2 RX1 D ca ad) (hRf : 0 ≤ R.frames) (hRl : 0 ≤ R.locals) (hRc : 0 ≤ R.cells) {σ : fo_S} {i0 : Nat} {a1 : Int32} (hi0 : i0 < 16) {res : Int32} (h0 : q_Call_term σ i0 a1 = some res) (kr : ∀ (pc : Nat) (ls : Array Slot) (H : Heap) (locs : List Loc), decode cX1_term pc = .ok (.ireturn, 1) → va_P D vwCl (fo_vx 51 ad (fo_ce ca ad σ)) H → va_S (fo_A 51 ad s.heap.size) s.heap H locs → W p l e R s m args below meth c H locs 0 0 Q (F0 m pc ls [.int res])) (hP : va_P D vwCl (fo_vx 51 ad (fo_ce ca ad σ)) s.heap) : W p l e R s m args below meth c s.heap [] 0 0 Q (entryFrame m ([.ref (ad (fo_lay 14 i0)), .int a1] : List Value).toArray 2) := by
  obtain ⟨hx, hb, hml, hown, hT, hK, hD⟩ := C0
  have hN0 : (some res) ≠ none := fun q => by cases q
  unfold q_Call_term at h0
  have hS : va_S (fo_A 51 ad s.heap.size) s.heap s.heap [] := va_S.rf
  have hl := lv_entry ([.ref (ad (fo_lay 14 i0)), .int a1]) (n := 2) (Nat.le_of_ble_eq_true rfl)
  rw [lg_entry_eq]
  generalize (lg_sl ([.ref (ad (fo_lay 14 i0)), .int a1]) ++ List.replicate (2 - (lg_sl ([.ref (ad (fo_lay 14 i0)), .int a1])).length) Slot.unset).toArray = ls at hl ⊢
  have hl : lv_has ls 2 [(0, .ref (ad (fo_lay 14 i0))), (1, .int a1)] := hl
  refine lv_iload_n hx hb dX1_term_0 rfl (lv_at hl 1 rfl) ?_
  refine lv_iconst (v := 2) hx hb dX1_term_1 (by decide) ?_
  refine lv_icmp_ne (tgt := 12) hx hb dX1_term_2 (by decide) (fun c1 => ?_) (fun c1 => ?_)
  · replace h0 := fo_itF c1 h0
    refine lv_iload_n hx hb dX1_term_12 rfl (lv_at hl 1 rfl) ?_
    refine lv_iconst (v := 3) hx hb dX1_term_13 (by decide) ?_
    refine lv_icmp_ne (tgt := 24) hx hb dX1_term_14 (by decide) (fun c2 => ?_) (fun c2 => ?_)
    · replace h0 := fo_itF c2 h0
      refine lv_aload_n hx hb dX1_term_24 rfl (lv_at hl 0 rfl) ?_
      refine fo_g1_47 hx hb hT hown hK hP hi0 dX1_term_25 ?_
      have hr3 := Option.some.inj h0
      subst hr3
      exact kr _ ls _ _ dX1_term_28 hP hS
    · replace h0 := fo_itT c2 h0
      refine lv_aload_n hx hb dX1_term_17 rfl (lv_at hl 0 rfl) ?_
      refine fo_g1_44 hx hb hT hown hK hP hi0 dX1_term_18 ?_
      refine lv_goto (tgt := 28) hx hb dX1_term_21 (by decide) ?_
      have hr4 := Option.some.inj h0
      subst hr4
      exact kr _ ls _ _ dX1_term_28 hP hS
  · replace h0 := fo_itT c1 h0
    refine lv_aload_n hx hb dX1_term_5 rfl (lv_at hl 0 rfl) ?_
    refine fo_g1_41 hx hb hT hown hK hP hi0 dX1_term_6 ?_
    refine lv_goto (tgt := 28) hx hb dX1_term_9 (by decide) ?_
    have hr5 := Option.some.inj h0
    subst hr5
    exact kr _ ls _ _ dX1_term_28 hP hS
theorem c_q_Call_term (l : Launch) (D : va_G) (ca : Nat → ClassId) (ad : Nat → Nat) (sz : Nat) {σ : fo_S} {i0 : Nat} {a1 : Int32} (hi0 : i0 < 16) {res : Int32} (h0 : q_Call_term σ i0 a1 = some res) : Met l yX1_term ws_q_Call_term rm_q_Call_term (fo_Pre 51 D vwCl (fo_tys ca) ad (fo_ce ca ad σ) sz [.ref (ad (fo_lay 14 i0)), .int a1]) (fo_PoI 51 D vwCl (fo_tys ca) ad (fo_ce ca ad σ) sz res) 0 0 (fo_A 51 ad sz) :=
  fo_mkI (by decide) (fun C0 kr hP => b_q_Call_term C0 (Nat.le_refl _) (Nat.le_refl _) (Nat.zero_le _) hi0 h0 kr hP)
def q_FairOrder_of (σ : fo_S) (a1 : Int32) (a2 : Int32) : Option (Int32) :=
  (q_FairOrder_isCall σ a1).bind (fun x1 => if x1 = 0 then (some (-2 : Int32)) else (if a2 < 0 then (some (-2 : Int32)) else (if a2 ≤ (4 : Int32) then (if fo_vi a1 16 then (if a2 = 0 then (some (σ.1 14 a1.toNatClampNeg 1)) else (if a2 = (1 : Int32) then (if (σ.1 14 a1.toNatClampNeg 4) = 0 then (some (0 : Int32)) else (some (1 : Int32))) else (if (σ.1 14 a1.toNatClampNeg 4) = 0 then (some (-1 : Int32)) else ((q_Call_term σ a1.toNatClampNeg a2).bind (fun x12 => some x12))))) else none) else (some (-2 : Int32)))))
set_option maxHeartbeats 4000000 in
set_option maxRecDepth 100000 in
theorem b_q_FairOrder_of {p : Program} {l : Launch} {e : Env} {R : Room} {s : State} {m : MethodId} {args : Array Value} {below : List Frame} {meth : Method} {c : Code} {Q : State → Prop} {D : va_G} {ca : Nat → ClassId} {ad : Nat → Nat} (C0 : fo_CX p s m args c cX0_of 4 RX0 D ca ad) (hRf : 1 ≤ R.frames) (hRl : 21 ≤ R.locals) (hRc : 0 ≤ R.cells) {σ : fo_S} {a1 : Int32} {a2 : Int32}  {res : Int32} (h0 : q_FairOrder_of σ a1 a2 = some res) (kr : ∀ (pc : Nat) (ls : Array Slot) (H : Heap) (locs : List Loc), decode cX0_of pc = .ok (.ireturn, 1) → va_P D vwCl (fo_vx 51 ad (fo_ce ca ad σ)) H → va_S (fo_A 51 ad s.heap.size) s.heap H locs → W p l e R s m args below meth c H locs 0 0 Q (F0 m pc ls [.int res])) (hP : va_P D vwCl (fo_vx 51 ad (fo_ce ca ad σ)) s.heap) : W p l e R s m args below meth c s.heap [] 0 0 Q (entryFrame m ([.ref (ad (fo_lay 0 0)), .int a1, .int a2] : List Value).toArray 4) := by
  obtain ⟨hx, hb, hml, hown, hT, hK, hD⟩ := C0
  have hN0 : (some res) ≠ none := fun q => by cases q
  unfold q_FairOrder_of at h0
  have hS : va_S (fo_A 51 ad s.heap.size) s.heap s.heap [] := va_S.rf
  have hl := lv_entry ([.ref (ad (fo_lay 0 0)), .int a1, .int a2]) (n := 4) (Nat.le_of_ble_eq_true rfl)
  rw [lg_entry_eq]
  generalize (lg_sl ([.ref (ad (fo_lay 0 0)), .int a1, .int a2]) ++ List.replicate (4 - (lg_sl ([.ref (ad (fo_lay 0 0)), .int a1, .int a2])).length) Slot.unset).toArray = ls at hl ⊢
  have hl : lv_has ls 4 [(0, .ref (ad (fo_lay 0 0))), (1, .int a1), (2, .int a2)] := hl
  refine lv_aload_n hx hb dX0_of_0 rfl (lv_at hl 0 rfl) ?_
  refine lv_iload_n hx hb dX0_of_1 rfl (lv_at hl 1 rfl) ?_
  obtain ⟨x1, hx1, h0⟩ := fo_bd h0 hN0
  refine fo_calli (va_runV (H := _) (As := [.int a1]) (rest := []) ⟨hx, hb, hml, hown, hT⟩ (c_q_FairOrder_isCall l D ca ad _ hx1) (fo_c0_106 hT ⟨Nat.le_trans (Nat.le_of_ble_eq_true rfl) hRf, Nat.le_trans (Nat.le_of_ble_eq_true rfl) hRl⟩) ⟨fo_Pre_blind, fo_rc0 hK hP (by decide), fo_Pre_at hP hK (hD _)⟩ rfl rfl hl.1 rfl (lv_room (Nat.le_of_ble_eq_true rfl)) dX0_of_2 ⟨Nat.zero_le _, Nat.zero_le _⟩) hS (fun H locs hP hS => ?_)
  refine lv_if_eq (tgt := 17) hx hb dX0_of_5 (by decide) (fun c2 => ?_) (fun c2 => ?_)
  · replace h0 := fo_itT c2 h0
    refine lv_bipush (v := -2) hx hb dX0_of_17 (by decide) ?_
    have hr3 := Option.some.inj h0
    subst hr3
    exact kr _ ls _ _ dX0_of_19 hP hS
  · replace h0 := fo_itF c2 h0
    refine lv_iload_n hx hb dX0_of_8 rfl (lv_at hl 2 rfl) ?_
    refine lv_if_lt (tgt := 17) hx hb dX0_of_9 (by decide) (fun c4 => ?_) (fun c4 => ?_)
    · replace h0 := fo_itT c4 h0
      refine lv_bipush (v := -2) hx hb dX0_of_17 (by decide) ?_
      have hr5 := Option.some.inj h0
      subst hr5
      exact kr _ ls _ _ dX0_of_19 hP hS
    · replace h0 := fo_itF c4 h0
      refine lv_iload_n hx hb dX0_of_12 rfl (lv_at hl 2 rfl) ?_
      refine lv_iconst (v := 4) hx hb dX0_of_13 (by decide) ?_
      refine lv_icmp_le (tgt := 20) hx hb dX0_of_14 (by decide) (fun c6 => ?_) (fun c6 => ?_)
      · replace h0 := fo_itT c6 h0
        refine lv_aload_n hx hb dX0_of_20 rfl (lv_at hl 0 rfl) ?_
        refine fo_g0_21 hx hb hT hown hK hP (by decide) dX0_of_21 ?_
        refine lv_iload_n hx hb dX0_of_24 rfl (lv_at hl 1 rfl) ?_
        obtain ⟨g7, h0⟩ := fo_gd h0 hN0
        refine fo_aald_4 hx hb hK hP (by decide) g7 dX0_of_25 ?_
        refine lv_astore_n (lv' := [(3, .ref (ad (fo_lay 14 a1.toNatClampNeg))), (0, .ref (ad (fo_lay 0 0))), (1, .int a1), (2, .int a2)]) hx hb dX0_of_26 rfl hl (by decide) rfl (fun ls hl => ?_)
        refine lv_iload_n hx hb dX0_of_27 rfl (lv_at hl 3 rfl) ?_
        refine lv_if_ne (tgt := 36) hx hb dX0_of_28 (by decide) (fun c8 => ?_) (fun c8 => ?_)
        · replace h0 := fo_itF c8 h0
          refine lv_iload_n hx hb dX0_of_36 rfl (lv_at hl 3 rfl) ?_
          refine lv_iconst (v := 1) hx hb dX0_of_37 (by decide) ?_
          refine lv_icmp_ne (tgt := 54) hx hb dX0_of_38 (by decide) (fun c9 => ?_) (fun c9 => ?_)
          · replace h0 := fo_itF c9 h0
            refine lv_aload_n hx hb dX0_of_54 rfl (lv_at hl 0 rfl) ?_
            refine fo_g0_114 hx hb hT hown hK hP (fo_in g7) dX0_of_55 ?_
            refine lv_if_eq (tgt := 69) hx hb dX0_of_58 (by decide) (fun c10 => ?_) (fun c10 => ?_)
            · replace h0 := fo_itT c10 h0
              refine lv_iconst (v := -1) hx hb dX0_of_69 (by decide) ?_
              have hr11 := Option.some.inj h0
              subst hr11
              exact kr _ ls _ _ dX0_of_70 hP hS
            · replace h0 := fo_itF c10 h0
              refine lv_aload_n hx hb dX0_of_61 rfl (lv_at hl 0 rfl) ?_
              refine lv_iload_n hx hb dX0_of_62 rfl (lv_at hl 3 rfl) ?_
              obtain ⟨x12, hx12, h0⟩ := fo_bd h0 hN0
              refine fo_calli (va_runV (H := _) (As := [.int a2]) (rest := []) ⟨hx, hb, hml, hown, hT⟩ (c_q_Call_term l D ca ad _ (fo_in g7) hx12) (fo_c0_229 hT ⟨Nat.le_trans (Nat.le_of_ble_eq_true rfl) hRf, Nat.le_trans (Nat.le_of_ble_eq_true rfl) hRl⟩) ⟨fo_Pre_blind, fo_rc14 hK hP (fo_in g7), fo_Pre_at hP hK (hD _)⟩ rfl rfl hl.1 rfl (lv_room (Nat.le_of_ble_eq_true rfl)) dX0_of_63 ⟨Nat.zero_le _, Nat.zero_le _⟩) hS (fun H locs hP hS => ?_)
              refine lv_goto (tgt := 70) hx hb dX0_of_66 (by decide) ?_
              have hr13 := Option.some.inj h0
              subst hr13
              exact kr _ ls _ _ dX0_of_70 hP hS
          · replace h0 := fo_itT c9 h0
            refine lv_aload_n hx hb dX0_of_41 rfl (lv_at hl 0 rfl) ?_
            refine fo_g0_114 hx hb hT hown hK hP (fo_in g7) dX0_of_42 ?_
            refine lv_if_eq (tgt := 52) hx hb dX0_of_45 (by decide) (fun c14 => ?_) (fun c14 => ?_)
            · replace h0 := fo_itT c14 h0
              refine lv_iconst (v := 0) hx hb dX0_of_52 (by decide) ?_
              have hr15 := Option.some.inj h0
              subst hr15
              exact kr _ ls _ _ dX0_of_53 hP hS
            · replace h0 := fo_itF c14 h0
              refine lv_iconst (v := 1) hx hb dX0_of_48 (by decide) ?_
              refine lv_goto (tgt := 53) hx hb dX0_of_49 (by decide) ?_
              have hr16 := Option.some.inj h0
              subst hr16
              exact kr _ ls _ _ dX0_of_53 hP hS
        · replace h0 := fo_itT c8 h0
          refine lv_aload_n hx hb dX0_of_31 rfl (lv_at hl 0 rfl) ?_
          refine fo_g0_125 hx hb hT hown hK hP (fo_in g7) dX0_of_32 ?_
          have hr17 := Option.some.inj h0
          subst hr17
          exact kr _ ls _ _ dX0_of_35 hP hS
      · replace h0 := fo_itF c6 h0
        refine lv_bipush (v := -2) hx hb dX0_of_17 (by decide) ?_
        have hr18 := Option.some.inj h0
        subst hr18
        exact kr _ ls _ _ dX0_of_19 hP hS
theorem c_q_FairOrder_of (l : Launch) (D : va_G) (ca : Nat → ClassId) (ad : Nat → Nat) (sz : Nat) {σ : fo_S} {a1 : Int32} {a2 : Int32}  {res : Int32} (h0 : q_FairOrder_of σ a1 a2 = some res) : Met l yX0_of ws_q_FairOrder_of rm_q_FairOrder_of (fo_Pre 51 D vwCl (fo_tys ca) ad (fo_ce ca ad σ) sz [.ref (ad (fo_lay 0 0)), .int a1, .int a2]) (fo_PoI 51 D vwCl (fo_tys ca) ad (fo_ce ca ad σ) sz res) 0 0 (fo_A 51 ad sz) :=
  fo_mkI (by decide) (fun C0 kr hP => b_q_FairOrder_of C0 (Nat.le_refl _) (Nat.le_refl _) (Nat.zero_le _)  h0 kr hP)
def q_Integer_bitCount (σ : fo_S) (a0 : Int32) : Option (Int32) :=
  some ((((((((a0 - (((a0.toUInt32 >>> ((1 : Int32).toUInt32 &&& Int32.toUInt32 31)).toInt32) &&& (1431655765 : Int32))) &&& (858993459 : Int32)) + ((((a0 - (((a0.toUInt32 >>> ((1 : Int32).toUInt32 &&& Int32.toUInt32 31)).toInt32) &&& (1431655765 : Int32))).toUInt32 >>> ((2 : Int32).toUInt32 &&& Int32.toUInt32 31)).toInt32) &&& (858993459 : Int32))) + (((((a0 - (((a0.toUInt32 >>> ((1 : Int32).toUInt32 &&& Int32.toUInt32 31)).toInt32) &&& (1431655765 : Int32))) &&& (858993459 : Int32)) + ((((a0 - (((a0.toUInt32 >>> ((1 : Int32).toUInt32 &&& Int32.toUInt32 31)).toInt32) &&& (1431655765 : Int32))).toUInt32 >>> ((2 : Int32).toUInt32 &&& Int32.toUInt32 31)).toInt32) &&& (858993459 : Int32))).toUInt32 >>> ((4 : Int32).toUInt32 &&& Int32.toUInt32 31)).toInt32)) &&& (252645135 : Int32)) + (((((((a0 - (((a0.toUInt32 >>> ((1 : Int32).toUInt32 &&& Int32.toUInt32 31)).toInt32) &&& (1431655765 : Int32))) &&& (858993459 : Int32)) + ((((a0 - (((a0.toUInt32 >>> ((1 : Int32).toUInt32 &&& Int32.toUInt32 31)).toInt32) &&& (1431655765 : Int32))).toUInt32 >>> ((2 : Int32).toUInt32 &&& Int32.toUInt32 31)).toInt32) &&& (858993459 : Int32))) + (((((a0 - (((a0.toUInt32 >>> ((1 : Int32).toUInt32 &&& Int32.toUInt32 31)).toInt32) &&& (1431655765 : Int32))) &&& (858993459 : Int32)) + ((((a0 - (((a0.toUInt32 >>> ((1 : Int32).toUInt32 &&& Int32.toUInt32 31)).toInt32) &&& (1431655765 : Int32))).toUInt32 >>> ((2 : Int32).toUInt32 &&& Int32.toUInt32 31)).toInt32) &&& (858993459 : Int32))).toUInt32 >>> ((4 : Int32).toUInt32 &&& Int32.toUInt32 31)).toInt32)) &&& (252645135 : Int32)).toUInt32 >>> ((8 : Int32).toUInt32 &&& Int32.toUInt32 31)).toInt32)) + ((((((((a0 - (((a0.toUInt32 >>> ((1 : Int32).toUInt32 &&& Int32.toUInt32 31)).toInt32) &&& (1431655765 : Int32))) &&& (858993459 : Int32)) + ((((a0 - (((a0.toUInt32 >>> ((1 : Int32).toUInt32 &&& Int32.toUInt32 31)).toInt32) &&& (1431655765 : Int32))).toUInt32 >>> ((2 : Int32).toUInt32 &&& Int32.toUInt32 31)).toInt32) &&& (858993459 : Int32))) + (((((a0 - (((a0.toUInt32 >>> ((1 : Int32).toUInt32 &&& Int32.toUInt32 31)).toInt32) &&& (1431655765 : Int32))) &&& (858993459 : Int32)) + ((((a0 - (((a0.toUInt32 >>> ((1 : Int32).toUInt32 &&& Int32.toUInt32 31)).toInt32) &&& (1431655765 : Int32))).toUInt32 >>> ((2 : Int32).toUInt32 &&& Int32.toUInt32 31)).toInt32) &&& (858993459 : Int32))).toUInt32 >>> ((4 : Int32).toUInt32 &&& Int32.toUInt32 31)).toInt32)) &&& (252645135 : Int32)) + (((((((a0 - (((a0.toUInt32 >>> ((1 : Int32).toUInt32 &&& Int32.toUInt32 31)).toInt32) &&& (1431655765 : Int32))) &&& (858993459 : Int32)) + ((((a0 - (((a0.toUInt32 >>> ((1 : Int32).toUInt32 &&& Int32.toUInt32 31)).toInt32) &&& (1431655765 : Int32))).toUInt32 >>> ((2 : Int32).toUInt32 &&& Int32.toUInt32 31)).toInt32) &&& (858993459 : Int32))) + (((((a0 - (((a0.toUInt32 >>> ((1 : Int32).toUInt32 &&& Int32.toUInt32 31)).toInt32) &&& (1431655765 : Int32))) &&& (858993459 : Int32)) + ((((a0 - (((a0.toUInt32 >>> ((1 : Int32).toUInt32 &&& Int32.toUInt32 31)).toInt32) &&& (1431655765 : Int32))).toUInt32 >>> ((2 : Int32).toUInt32 &&& Int32.toUInt32 31)).toInt32) &&& (858993459 : Int32))).toUInt32 >>> ((4 : Int32).toUInt32 &&& Int32.toUInt32 31)).toInt32)) &&& (252645135 : Int32)).toUInt32 >>> ((8 : Int32).toUInt32 &&& Int32.toUInt32 31)).toInt32)).toUInt32 >>> ((16 : Int32).toUInt32 &&& Int32.toUInt32 31)).toInt32)) &&& (63 : Int32))
set_option maxHeartbeats 4000000 in
set_option maxRecDepth 100000 in
theorem b_q_Integer_bitCount {p : Program} {l : Launch} {e : Env} {R : Room} {s : State} {m : MethodId} {args : Array Value} {below : List Frame} {meth : Method} {c : Code} {Q : State → Prop} {D : va_G} {ca : Nat → ClassId} {ad : Nat → Nat} (C0 : fo_CX p s m args c cX7_bitCount 1 RX7 D ca ad) (hRf : 0 ≤ R.frames) (hRl : 0 ≤ R.locals) (hRc : 0 ≤ R.cells) {σ : fo_S} {a0 : Int32}  {res : Int32} (h0 : q_Integer_bitCount σ a0 = some res) (kr : ∀ (pc : Nat) (ls : Array Slot) (H : Heap) (locs : List Loc), decode cX7_bitCount pc = .ok (.ireturn, 1) → va_P D vwCl (fo_vx 51 ad (fo_ce ca ad σ)) H → va_S (fo_A 51 ad s.heap.size) s.heap H locs → W p l e R s m args below meth c H locs 0 0 Q (F0 m pc ls [.int res])) (hP : va_P D vwCl (fo_vx 51 ad (fo_ce ca ad σ)) s.heap) : W p l e R s m args below meth c s.heap [] 0 0 Q (entryFrame m ([.int a0] : List Value).toArray 1) := by
  obtain ⟨hx, hb, hml, hown, hT, hK, hD⟩ := C0
  have hN0 : (some res) ≠ none := fun q => by cases q
  unfold q_Integer_bitCount at h0
  have hS : va_S (fo_A 51 ad s.heap.size) s.heap s.heap [] := va_S.rf
  have hl := lv_entry ([.int a0]) (n := 1) (Nat.le_of_ble_eq_true rfl)
  rw [lg_entry_eq]
  generalize (lg_sl ([.int a0]) ++ List.replicate (1 - (lg_sl ([.int a0])).length) Slot.unset).toArray = ls at hl ⊢
  have hl : lv_has ls 1 [(0, .int a0)] := hl
  refine lv_iload_n hx hb dX7_bitCount_0 rfl (lv_at hl 0 rfl) ?_
  refine lv_iload_n hx hb dX7_bitCount_1 rfl (lv_at hl 0 rfl) ?_
  refine lv_iconst (v := 1) hx hb dX7_bitCount_2 (by decide) ?_
  refine lv_iushr hx hb dX7_bitCount_3 rfl ?_
  refine lv_ldcw (v := 1431655765) hx hb hown (fo_k7_265 hT) dX7_bitCount_4 ?_
  refine lv_iand hx hb dX7_bitCount_7 ?_
  refine lv_isub hx hb dX7_bitCount_8 ?_
  refine lv_istore_n (lv' := [(0, .int (a0 - (((a0.toUInt32 >>> ((1 : Int32).toUInt32 &&& Int32.toUInt32 31)).toInt32) &&& (1431655765 : Int32))))]) hx hb dX7_bitCount_9 rfl hl (by decide) rfl (fun ls hl => ?_)
  refine lv_iload_n hx hb dX7_bitCount_10 rfl (lv_at hl 0 rfl) ?_
  refine lv_ldcw (v := 858993459) hx hb hown (fo_k7_266 hT) dX7_bitCount_11 ?_
  refine lv_iand hx hb dX7_bitCount_14 ?_
  refine lv_iload_n hx hb dX7_bitCount_15 rfl (lv_at hl 0 rfl) ?_
  refine lv_iconst (v := 2) hx hb dX7_bitCount_16 (by decide) ?_
  refine lv_iushr hx hb dX7_bitCount_17 rfl ?_
  refine lv_ldcw (v := 858993459) hx hb hown (fo_k7_266 hT) dX7_bitCount_18 ?_
  refine lv_iand hx hb dX7_bitCount_21 ?_
  refine lv_iadd hx hb dX7_bitCount_22 ?_
  refine lv_istore_n (lv' := [(0, .int (((a0 - (((a0.toUInt32 >>> ((1 : Int32).toUInt32 &&& Int32.toUInt32 31)).toInt32) &&& (1431655765 : Int32))) &&& (858993459 : Int32)) + ((((a0 - (((a0.toUInt32 >>> ((1 : Int32).toUInt32 &&& Int32.toUInt32 31)).toInt32) &&& (1431655765 : Int32))).toUInt32 >>> ((2 : Int32).toUInt32 &&& Int32.toUInt32 31)).toInt32) &&& (858993459 : Int32))))]) hx hb dX7_bitCount_23 rfl hl (by decide) rfl (fun ls hl => ?_)
  refine lv_iload_n hx hb dX7_bitCount_24 rfl (lv_at hl 0 rfl) ?_
  refine lv_iload_n hx hb dX7_bitCount_25 rfl (lv_at hl 0 rfl) ?_
  refine lv_iconst (v := 4) hx hb dX7_bitCount_26 (by decide) ?_
  refine lv_iushr hx hb dX7_bitCount_27 rfl ?_
  refine lv_iadd hx hb dX7_bitCount_28 ?_
  refine lv_ldcw (v := 252645135) hx hb hown (fo_k7_267 hT) dX7_bitCount_29 ?_
  refine lv_iand hx hb dX7_bitCount_32 ?_
  refine lv_istore_n (lv' := [(0, .int (((((a0 - (((a0.toUInt32 >>> ((1 : Int32).toUInt32 &&& Int32.toUInt32 31)).toInt32) &&& (1431655765 : Int32))) &&& (858993459 : Int32)) + ((((a0 - (((a0.toUInt32 >>> ((1 : Int32).toUInt32 &&& Int32.toUInt32 31)).toInt32) &&& (1431655765 : Int32))).toUInt32 >>> ((2 : Int32).toUInt32 &&& Int32.toUInt32 31)).toInt32) &&& (858993459 : Int32))) + (((((a0 - (((a0.toUInt32 >>> ((1 : Int32).toUInt32 &&& Int32.toUInt32 31)).toInt32) &&& (1431655765 : Int32))) &&& (858993459 : Int32)) + ((((a0 - (((a0.toUInt32 >>> ((1 : Int32).toUInt32 &&& Int32.toUInt32 31)).toInt32) &&& (1431655765 : Int32))).toUInt32 >>> ((2 : Int32).toUInt32 &&& Int32.toUInt32 31)).toInt32) &&& (858993459 : Int32))).toUInt32 >>> ((4 : Int32).toUInt32 &&& Int32.toUInt32 31)).toInt32)) &&& (252645135 : Int32)))]) hx hb dX7_bitCount_33 rfl hl (by decide) rfl (fun ls hl => ?_)
  refine lv_iload_n hx hb dX7_bitCount_34 rfl (lv_at hl 0 rfl) ?_
  refine lv_iload_n hx hb dX7_bitCount_35 rfl (lv_at hl 0 rfl) ?_
  refine lv_bipush (v := 8) hx hb dX7_bitCount_36 (by decide) ?_
  refine lv_iushr hx hb dX7_bitCount_38 rfl ?_
  refine lv_iadd hx hb dX7_bitCount_39 ?_
  refine lv_istore_n (lv' := [(0, .int ((((((a0 - (((a0.toUInt32 >>> ((1 : Int32).toUInt32 &&& Int32.toUInt32 31)).toInt32) &&& (1431655765 : Int32))) &&& (858993459 : Int32)) + ((((a0 - (((a0.toUInt32 >>> ((1 : Int32).toUInt32 &&& Int32.toUInt32 31)).toInt32) &&& (1431655765 : Int32))).toUInt32 >>> ((2 : Int32).toUInt32 &&& Int32.toUInt32 31)).toInt32) &&& (858993459 : Int32))) + (((((a0 - (((a0.toUInt32 >>> ((1 : Int32).toUInt32 &&& Int32.toUInt32 31)).toInt32) &&& (1431655765 : Int32))) &&& (858993459 : Int32)) + ((((a0 - (((a0.toUInt32 >>> ((1 : Int32).toUInt32 &&& Int32.toUInt32 31)).toInt32) &&& (1431655765 : Int32))).toUInt32 >>> ((2 : Int32).toUInt32 &&& Int32.toUInt32 31)).toInt32) &&& (858993459 : Int32))).toUInt32 >>> ((4 : Int32).toUInt32 &&& Int32.toUInt32 31)).toInt32)) &&& (252645135 : Int32)) + (((((((a0 - (((a0.toUInt32 >>> ((1 : Int32).toUInt32 &&& Int32.toUInt32 31)).toInt32) &&& (1431655765 : Int32))) &&& (858993459 : Int32)) + ((((a0 - (((a0.toUInt32 >>> ((1 : Int32).toUInt32 &&& Int32.toUInt32 31)).toInt32) &&& (1431655765 : Int32))).toUInt32 >>> ((2 : Int32).toUInt32 &&& Int32.toUInt32 31)).toInt32) &&& (858993459 : Int32))) + (((((a0 - (((a0.toUInt32 >>> ((1 : Int32).toUInt32 &&& Int32.toUInt32 31)).toInt32) &&& (1431655765 : Int32))) &&& (858993459 : Int32)) + ((((a0 - (((a0.toUInt32 >>> ((1 : Int32).toUInt32 &&& Int32.toUInt32 31)).toInt32) &&& (1431655765 : Int32))).toUInt32 >>> ((2 : Int32).toUInt32 &&& Int32.toUInt32 31)).toInt32) &&& (858993459 : Int32))).toUInt32 >>> ((4 : Int32).toUInt32 &&& Int32.toUInt32 31)).toInt32)) &&& (252645135 : Int32)).toUInt32 >>> ((8 : Int32).toUInt32 &&& Int32.toUInt32 31)).toInt32)))]) hx hb dX7_bitCount_40 rfl hl (by decide) rfl (fun ls hl => ?_)
  refine lv_iload_n hx hb dX7_bitCount_41 rfl (lv_at hl 0 rfl) ?_
  refine lv_iload_n hx hb dX7_bitCount_42 rfl (lv_at hl 0 rfl) ?_
  refine lv_bipush (v := 16) hx hb dX7_bitCount_43 (by decide) ?_
  refine lv_iushr hx hb dX7_bitCount_45 rfl ?_
  refine lv_iadd hx hb dX7_bitCount_46 ?_
  refine lv_istore_n (lv' := [(0, .int (((((((a0 - (((a0.toUInt32 >>> ((1 : Int32).toUInt32 &&& Int32.toUInt32 31)).toInt32) &&& (1431655765 : Int32))) &&& (858993459 : Int32)) + ((((a0 - (((a0.toUInt32 >>> ((1 : Int32).toUInt32 &&& Int32.toUInt32 31)).toInt32) &&& (1431655765 : Int32))).toUInt32 >>> ((2 : Int32).toUInt32 &&& Int32.toUInt32 31)).toInt32) &&& (858993459 : Int32))) + (((((a0 - (((a0.toUInt32 >>> ((1 : Int32).toUInt32 &&& Int32.toUInt32 31)).toInt32) &&& (1431655765 : Int32))) &&& (858993459 : Int32)) + ((((a0 - (((a0.toUInt32 >>> ((1 : Int32).toUInt32 &&& Int32.toUInt32 31)).toInt32) &&& (1431655765 : Int32))).toUInt32 >>> ((2 : Int32).toUInt32 &&& Int32.toUInt32 31)).toInt32) &&& (858993459 : Int32))).toUInt32 >>> ((4 : Int32).toUInt32 &&& Int32.toUInt32 31)).toInt32)) &&& (252645135 : Int32)) + (((((((a0 - (((a0.toUInt32 >>> ((1 : Int32).toUInt32 &&& Int32.toUInt32 31)).toInt32) &&& (1431655765 : Int32))) &&& (858993459 : Int32)) + ((((a0 - (((a0.toUInt32 >>> ((1 : Int32).toUInt32 &&& Int32.toUInt32 31)).toInt32) &&& (1431655765 : Int32))).toUInt32 >>> ((2 : Int32).toUInt32 &&& Int32.toUInt32 31)).toInt32) &&& (858993459 : Int32))) + (((((a0 - (((a0.toUInt32 >>> ((1 : Int32).toUInt32 &&& Int32.toUInt32 31)).toInt32) &&& (1431655765 : Int32))) &&& (858993459 : Int32)) + ((((a0 - (((a0.toUInt32 >>> ((1 : Int32).toUInt32 &&& Int32.toUInt32 31)).toInt32) &&& (1431655765 : Int32))).toUInt32 >>> ((2 : Int32).toUInt32 &&& Int32.toUInt32 31)).toInt32) &&& (858993459 : Int32))).toUInt32 >>> ((4 : Int32).toUInt32 &&& Int32.toUInt32 31)).toInt32)) &&& (252645135 : Int32)).toUInt32 >>> ((8 : Int32).toUInt32 &&& Int32.toUInt32 31)).toInt32)) + ((((((((a0 - (((a0.toUInt32 >>> ((1 : Int32).toUInt32 &&& Int32.toUInt32 31)).toInt32) &&& (1431655765 : Int32))) &&& (858993459 : Int32)) + ((((a0 - (((a0.toUInt32 >>> ((1 : Int32).toUInt32 &&& Int32.toUInt32 31)).toInt32) &&& (1431655765 : Int32))).toUInt32 >>> ((2 : Int32).toUInt32 &&& Int32.toUInt32 31)).toInt32) &&& (858993459 : Int32))) + (((((a0 - (((a0.toUInt32 >>> ((1 : Int32).toUInt32 &&& Int32.toUInt32 31)).toInt32) &&& (1431655765 : Int32))) &&& (858993459 : Int32)) + ((((a0 - (((a0.toUInt32 >>> ((1 : Int32).toUInt32 &&& Int32.toUInt32 31)).toInt32) &&& (1431655765 : Int32))).toUInt32 >>> ((2 : Int32).toUInt32 &&& Int32.toUInt32 31)).toInt32) &&& (858993459 : Int32))).toUInt32 >>> ((4 : Int32).toUInt32 &&& Int32.toUInt32 31)).toInt32)) &&& (252645135 : Int32)) + (((((((a0 - (((a0.toUInt32 >>> ((1 : Int32).toUInt32 &&& Int32.toUInt32 31)).toInt32) &&& (1431655765 : Int32))) &&& (858993459 : Int32)) + ((((a0 - (((a0.toUInt32 >>> ((1 : Int32).toUInt32 &&& Int32.toUInt32 31)).toInt32) &&& (1431655765 : Int32))).toUInt32 >>> ((2 : Int32).toUInt32 &&& Int32.toUInt32 31)).toInt32) &&& (858993459 : Int32))) + (((((a0 - (((a0.toUInt32 >>> ((1 : Int32).toUInt32 &&& Int32.toUInt32 31)).toInt32) &&& (1431655765 : Int32))) &&& (858993459 : Int32)) + ((((a0 - (((a0.toUInt32 >>> ((1 : Int32).toUInt32 &&& Int32.toUInt32 31)).toInt32) &&& (1431655765 : Int32))).toUInt32 >>> ((2 : Int32).toUInt32 &&& Int32.toUInt32 31)).toInt32) &&& (858993459 : Int32))).toUInt32 >>> ((4 : Int32).toUInt32 &&& Int32.toUInt32 31)).toInt32)) &&& (252645135 : Int32)).toUInt32 >>> ((8 : Int32).toUInt32 &&& Int32.toUInt32 31)).toInt32)).toUInt32 >>> ((16 : Int32).toUInt32 &&& Int32.toUInt32 31)).toInt32)))]) hx hb dX7_bitCount_47 rfl hl (by decide) rfl (fun ls hl => ?_)
  refine lv_iload_n hx hb dX7_bitCount_48 rfl (lv_at hl 0 rfl) ?_
  refine lv_bipush (v := 63) hx hb dX7_bitCount_49 (by decide) ?_
  refine lv_iand hx hb dX7_bitCount_51 ?_
  have hr1 := Option.some.inj h0
  subst hr1
  exact kr _ ls _ _ dX7_bitCount_52 hP hS
theorem c_q_Integer_bitCount (l : Launch) (D : va_G) (ca : Nat → ClassId) (ad : Nat → Nat) (sz : Nat) {σ : fo_S} {a0 : Int32}  {res : Int32} (h0 : q_Integer_bitCount σ a0 = some res) : Met l yX7_bitCount ws_q_Integer_bitCount rm_q_Integer_bitCount (fo_Pre 51 D vwCl (fo_tys ca) ad (fo_ce ca ad σ) sz [.int a0]) (fo_PoI 51 D vwCl (fo_tys ca) ad (fo_ce ca ad σ) sz res) 0 0 (fo_A 51 ad sz) :=
  fo_mkI (by decide) (fun C0 kr hP => b_q_Integer_bitCount C0 (Nat.le_refl _) (Nat.le_refl _) (Nat.zero_le _)  h0 kr hP)
def q_FairOrder_count (σ : fo_S) (a1 : Int32) : Option (Int32) :=
  if a1 = (0 : Int32) then (some (σ.1 0 0 8)) else (if a1 = (1 : Int32) then (some (σ.1 0 0 9)) else (if a1 = (2 : Int32) then (some (σ.1 0 0 10)) else (if a1 = (3 : Int32) then ((q_FairOrder_openedSet σ).bind (fun x8 =>  (q_Integer_bitCount σ x8).bind (fun x9 => some x9))) else (if a1 = (4 : Int32) then (some (σ.1 0 0 11)) else (if a1 = (5 : Int32) then (some (σ.1 5 0 1)) else (some (-2 : Int32)))))))
set_option maxHeartbeats 4000000 in
set_option maxRecDepth 100000 in
theorem b_q_FairOrder_count {p : Program} {l : Launch} {e : Env} {R : Room} {s : State} {m : MethodId} {args : Array Value} {below : List Frame} {meth : Method} {c : Code} {Q : State → Prop} {D : va_G} {ca : Nat → ClassId} {ad : Nat → Nat} (C0 : fo_CX p s m args c cX0_count 2 RX0 D ca ad) (hRf : 1 ≤ R.frames) (hRl : 22 ≤ R.locals) (hRc : 0 ≤ R.cells) {σ : fo_S} {a1 : Int32}  {res : Int32} (h0 : q_FairOrder_count σ a1 = some res) (kr : ∀ (pc : Nat) (ls : Array Slot) (H : Heap) (locs : List Loc), decode cX0_count pc = .ok (.ireturn, 1) → va_P D vwCl (fo_vx 51 ad (fo_ce ca ad σ)) H → va_S (fo_A 51 ad s.heap.size) s.heap H locs → W p l e R s m args below meth c H locs 0 0 Q (F0 m pc ls [.int res])) (hP : va_P D vwCl (fo_vx 51 ad (fo_ce ca ad σ)) s.heap) : W p l e R s m args below meth c s.heap [] 0 0 Q (entryFrame m ([.ref (ad (fo_lay 0 0)), .int a1] : List Value).toArray 2) := by
  obtain ⟨hx, hb, hml, hown, hT, hK, hD⟩ := C0
  have hN0 : (some res) ≠ none := fun q => by cases q
  unfold q_FairOrder_count at h0
  have hS : va_S (fo_A 51 ad s.heap.size) s.heap s.heap [] := va_S.rf
  have hl := lv_entry ([.ref (ad (fo_lay 0 0)), .int a1]) (n := 2) (Nat.le_of_ble_eq_true rfl)
  rw [lg_entry_eq]
  generalize (lg_sl ([.ref (ad (fo_lay 0 0)), .int a1]) ++ List.replicate (2 - (lg_sl ([.ref (ad (fo_lay 0 0)), .int a1])).length) Slot.unset).toArray = ls at hl ⊢
  have hl : lv_has ls 2 [(0, .ref (ad (fo_lay 0 0))), (1, .int a1)] := hl
  refine lv_iload_n hx hb dX0_count_0 rfl (lv_at hl 1 rfl) ?_
  by_cases c1 : a1 = (0 : Int32)
  · replace h0 := fo_itT c1 h0
    refine lv_tableIn (tgt := 40) hx hb dX0_count_1 (by rw [c1]; decide) (by rw [c1]; decide) (by rw [c1]; rfl) (by decide) ?_
    refine lv_aload_n hx hb dX0_count_40 rfl (lv_at hl 0 rfl) ?_
    refine fo_g0_54 hx hb hT hown hK hP (by decide) dX0_count_41 ?_
    have hr2 := Option.some.inj h0
    subst hr2
    exact kr _ ls _ _ dX0_count_44 hP hS
  replace h0 := fo_itF c1 h0
  by_cases c3 : a1 = (1 : Int32)
  · replace h0 := fo_itT c3 h0
    refine lv_tableIn (tgt := 45) hx hb dX0_count_1 (by rw [c3]; decide) (by rw [c3]; decide) (by rw [c3]; rfl) (by decide) ?_
    refine lv_aload_n hx hb dX0_count_45 rfl (lv_at hl 0 rfl) ?_
    refine fo_g0_96 hx hb hT hown hK hP (by decide) dX0_count_46 ?_
    have hr4 := Option.some.inj h0
    subst hr4
    exact kr _ ls _ _ dX0_count_49 hP hS
  replace h0 := fo_itF c3 h0
  by_cases c5 : a1 = (2 : Int32)
  · replace h0 := fo_itT c5 h0
    refine lv_tableIn (tgt := 50) hx hb dX0_count_1 (by rw [c5]; decide) (by rw [c5]; decide) (by rw [c5]; rfl) (by decide) ?_
    refine lv_aload_n hx hb dX0_count_50 rfl (lv_at hl 0 rfl) ?_
    refine fo_g0_93 hx hb hT hown hK hP (by decide) dX0_count_51 ?_
    have hr6 := Option.some.inj h0
    subst hr6
    exact kr _ ls _ _ dX0_count_54 hP hS
  replace h0 := fo_itF c5 h0
  by_cases c7 : a1 = (3 : Int32)
  · replace h0 := fo_itT c7 h0
    refine lv_tableIn (tgt := 55) hx hb dX0_count_1 (by rw [c7]; decide) (by rw [c7]; decide) (by rw [c7]; rfl) (by decide) ?_
    refine lv_aload_n hx hb dX0_count_55 rfl (lv_at hl 0 rfl) ?_
    obtain ⟨x8, hx8, h0⟩ := fo_bd h0 hN0
    refine fo_calli (va_runV (H := _) (As := []) (rest := []) ⟨hx, hb, hml, hown, hT⟩ (c_q_FairOrder_openedSet l D ca ad _ hx8) (fo_c0_141 hT ⟨Nat.le_trans (Nat.le_of_ble_eq_true rfl) hRf, Nat.le_trans (Nat.le_of_ble_eq_true rfl) hRl⟩) ⟨fo_Pre_blind, fo_rc0 hK hP (by decide), fo_Pre_at hP hK (hD _)⟩ rfl rfl hl.1 rfl (lv_room (Nat.le_of_ble_eq_true rfl)) dX0_count_56 ⟨Nat.zero_le _, Nat.zero_le _⟩) hS (fun H locs hP hS => ?_)
    obtain ⟨x9, hx9, h0⟩ := fo_bd h0 hN0
    refine fo_calli (va_runS (H := _) (As := [.int x8]) (rest := []) ⟨hx, hb, hml, hown, hT⟩ (c_q_Integer_bitCount l D ca ad _ hx9) (fo_c0_233 hT ⟨Nat.le_trans (Nat.le_of_ble_eq_true rfl) hRf, Nat.le_trans (Nat.le_of_ble_eq_true rfl) hRl⟩) ⟨fo_Pre_blind, fo_Pre_at hP hK (hD _)⟩ rfl rfl hl.1 rfl (lv_room (Nat.le_of_ble_eq_true rfl)) dX0_count_59 ⟨Nat.zero_le _, Nat.zero_le _⟩) hS (fun H locs hP hS => ?_)
    have hr10 := Option.some.inj h0
    subst hr10
    exact kr _ ls _ _ dX0_count_62 hP hS
  replace h0 := fo_itF c7 h0
  by_cases c11 : a1 = (4 : Int32)
  · replace h0 := fo_itT c11 h0
    refine lv_tableIn (tgt := 63) hx hb dX0_count_1 (by rw [c11]; decide) (by rw [c11]; decide) (by rw [c11]; rfl) (by decide) ?_
    refine lv_aload_n hx hb dX0_count_63 rfl (lv_at hl 0 rfl) ?_
    refine fo_g0_65 hx hb hT hown hK hP (by decide) dX0_count_64 ?_
    have hr12 := Option.some.inj h0
    subst hr12
    exact kr _ ls _ _ dX0_count_67 hP hS
  replace h0 := fo_itF c11 h0
  by_cases c13 : a1 = (5 : Int32)
  · replace h0 := fo_itT c13 h0
    refine lv_tableIn (tgt := 68) hx hb dX0_count_1 (by rw [c13]; decide) (by rw [c13]; decide) (by rw [c13]; rfl) (by decide) ?_
    refine lv_aload_n hx hb dX0_count_68 rfl (lv_at hl 0 rfl) ?_
    refine fo_g0_28 hx hb hT hown hK hP (by decide) dX0_count_69 ?_
    refine fo_g0_134 hx hb hT hown hK hP (by decide) dX0_count_72 ?_
    have hr14 := Option.some.inj h0
    subst hr14
    exact kr _ ls _ _ dX0_count_75 hP hS
  replace h0 := fo_itF c13 h0
  refine lv_tableOut (tgt := 76) hx hb dX0_count_1 (by have e0 := lv_neT c1 (k := (0 : Int32)) (a := 0) (by decide); have e1 := lv_neT c3 (k := (1 : Int32)) (a := 1) (by decide); have e2 := lv_neT c5 (k := (2 : Int32)) (a := 2) (by decide); have e3 := lv_neT c7 (k := (3 : Int32)) (a := 3) (by decide); have e4 := lv_neT c11 (k := (4 : Int32)) (a := 4) (by decide); have e5 := lv_neT c13 (k := (5 : Int32)) (a := 5) (by decide); omega) (by decide) ?_
  refine lv_bipush (v := -2) hx hb dX0_count_76 (by decide) ?_
  have hr15 := Option.some.inj h0
  subst hr15
  exact kr _ ls _ _ dX0_count_78 hP hS
theorem c_q_FairOrder_count (l : Launch) (D : va_G) (ca : Nat → ClassId) (ad : Nat → Nat) (sz : Nat) {σ : fo_S} {a1 : Int32}  {res : Int32} (h0 : q_FairOrder_count σ a1 = some res) : Met l yX0_count ws_q_FairOrder_count rm_q_FairOrder_count (fo_Pre 51 D vwCl (fo_tys ca) ad (fo_ce ca ad σ) sz [.ref (ad (fo_lay 0 0)), .int a1]) (fo_PoI 51 D vwCl (fo_tys ca) ad (fo_ce ca ad σ) sz res) 0 0 (fo_A 51 ad sz) :=
  fo_mkI (by decide) (fun C0 kr hP => b_q_FairOrder_count C0 (Nat.le_refl _) (Nat.le_refl _) (Nat.zero_le _)  h0 kr hP)
