def r_linked (σ : fo_S) (a1 : Int32) (a2 : Int32) : Option (Int32 × fo_S) :=
  (r_isCall σ a1).bind (fun x1 => if x1 = 0 then (some ((-2 : Int32), σ)) else ((r_isCall σ a2).bind (fun x4 => if x4 = 0 then (some ((-2 : Int32), σ)) else (if fo_vi a1 16 then (if (σ.1 6 0 a1.toNatClampNeg) = 0 then (some ((-2 : Int32), σ)) else (if fo_vi a2 16 then (if (σ.1 6 0 a2.toNatClampNeg) = 0 then (some ((-2 : Int32), σ)) else ((r_leads σ a1 a2).bind (fun x12 => if x12.1 = 0 then (some ((0 : Int32), x12.2)) else (some ((1 : Int32), x12.2))))) else none)) else none))))
set_option maxHeartbeats 4000000 in
set_option maxRecDepth 100000 in
theorem b_r_linked {p : Program} {l : Launch} {e : Env} {R : Room} {s : State} {m : MethodId} {args : Array Value} {below : List Frame} {meth : Method} {c : Code} {Q : State → Prop} {D : va_G} {ca : Nat → ClassId} {ad : Nat → Nat} (C0 : fr_CX p s m args c cX6_linked 3 RX6 D ca ad) (hRf : 2 ≤ R.frames) (hRl : 51 ≤ R.locals) (hRc : 0 ≤ R.cells) {σ : fo_S} {a1 : Int32} {a2 : Int32}  {res : Int32 × fo_S} (h0 : r_linked σ a1 a2 = some res) (kr : ∀ (pc : Nat) (ls : Array Slot) (H : Heap) (locs : List Loc), decode cX6_linked pc = .ok (.ireturn, 1) → va_P D vwCl (fo_vx 25 ad (fr_ce ca ad res.2)) H → va_S (fo_A 25 ad s.heap.size) s.heap H locs → W p l e R s m args below meth c H locs 0 0 Q (F0 m pc ls [.int res.1])) (hP : va_P D vwCl (fo_vx 25 ad (fr_ce ca ad σ)) s.heap) : W p l e R s m args below meth c s.heap [] 0 0 Q (entryFrame m ([.ref (ad (fr_lay 0 0)), .int a1, .int a2] : List Value).toArray 3) := by
  obtain ⟨hx, hb, hml, hown, hT, hK, hD⟩ := C0
  have hN0 : (some res) ≠ none := fun q => by cases q
  unfold r_linked at h0
  have hS : va_S (fo_A 25 ad s.heap.size) s.heap s.heap [] := va_S.rf
  have hl := lv_entry ([.ref (ad (fr_lay 0 0)), .int a1, .int a2]) (n := 3) (Nat.le_of_ble_eq_true rfl)
  rw [lg_entry_eq]
  generalize (lg_sl ([.ref (ad (fr_lay 0 0)), .int a1, .int a2]) ++ List.replicate (3 - (lg_sl ([.ref (ad (fr_lay 0 0)), .int a1, .int a2])).length) Slot.unset).toArray = ls at hl ⊢
  have hl : lv_has ls 3 [(0, .ref (ad (fr_lay 0 0))), (1, .int a1), (2, .int a2)] := hl
  refine lv_aload_n hx hb dX6_linked_0 rfl (lv_at hl 0 rfl) ?_
  refine lv_iload_n hx hb dX6_linked_1 rfl (lv_at hl 1 rfl) ?_
  obtain ⟨x1, hx1, h0⟩ := fo_bd h0 hN0
  refine fo_calli (va_runV (H := _) (As := [.int a1]) (rest := []) ⟨hx, hb, hml, hown, hT⟩ (c_r_isCall l D ca ad _ hx1) (fr_c6_141 hT ⟨Nat.le_trans (Nat.le_of_ble_eq_true rfl) hRf, Nat.le_trans (Nat.le_of_ble_eq_true rfl) hRl⟩) ⟨fo_Pre_blind, fr_rc0 hK hP (by decide), fo_Pre_at hP hK (hD _)⟩ rfl rfl hl.1 rfl (lv_room (Nat.le_of_ble_eq_true rfl)) dX6_linked_2 ⟨Nat.zero_le _, Nat.zero_le _⟩) hS (fun H locs hP hS => ?_)
  refine lv_if_eq (tgt := 34) hx hb dX6_linked_5 (by decide) (fun c2 => ?_) (fun c2 => ?_)
  · replace h0 := fo_itT c2 h0
    refine lv_bipush (v := -2) hx hb dX6_linked_34 (by decide) ?_
    have hr3 := Option.some.inj h0
    subst hr3
    exact kr _ ls _ _ dX6_linked_36 hP hS
  · replace h0 := fo_itF c2 h0
    refine lv_aload_n hx hb dX6_linked_8 rfl (lv_at hl 0 rfl) ?_
    refine lv_iload_n hx hb dX6_linked_9 rfl (lv_at hl 2 rfl) ?_
    obtain ⟨x4, hx4, h0⟩ := fo_bd h0 hN0
    refine fo_calli (va_runV (H := _) (As := [.int a2]) (rest := []) ⟨hx, hb, hml, hown, hT⟩ (c_r_isCall l D ca ad _ hx4) (fr_c6_141 hT ⟨Nat.le_trans (Nat.le_of_ble_eq_true rfl) hRf, Nat.le_trans (Nat.le_of_ble_eq_true rfl) hRl⟩) ⟨fo_Pre_blind, fr_rc0 hK hP (by decide), fo_Pre_at hP hK (hD _)⟩ rfl rfl hl.1 rfl (lv_room (Nat.le_of_ble_eq_true rfl)) dX6_linked_10 ⟨Nat.zero_le _, Nat.zero_le _⟩) hS (fun H locs hP hS => ?_)
    refine lv_if_eq (tgt := 34) hx hb dX6_linked_13 (by decide) (fun c5 => ?_) (fun c5 => ?_)
    · replace h0 := fo_itT c5 h0
      refine lv_bipush (v := -2) hx hb dX6_linked_34 (by decide) ?_
      have hr6 := Option.some.inj h0
      subst hr6
      exact kr _ ls _ _ dX6_linked_36 hP hS
    · replace h0 := fo_itF c5 h0
      refine lv_aload_n hx hb dX6_linked_16 rfl (lv_at hl 0 rfl) ?_
      refine fr_g6_26 hx hb hT hown hK hP (by decide) dX6_linked_17 ?_
      refine lv_iload_n hx hb dX6_linked_20 rfl (lv_at hl 1 rfl) ?_
      obtain ⟨g7, h0⟩ := fo_gd h0 hN0
      refine fr_zald (k := 6) (n := 16) hx hb hK hP (by decide) (by decide) (fun _ _ => rfl) g7 dX6_linked_21 ?_
      refine lv_if_eq (tgt := 34) hx hb dX6_linked_22 (by decide) (fun c8 => ?_) (fun c8 => ?_)
      · replace h0 := fo_itT c8 h0
        refine lv_bipush (v := -2) hx hb dX6_linked_34 (by decide) ?_
        have hr9 := Option.some.inj h0
        subst hr9
        exact kr _ ls _ _ dX6_linked_36 hP hS
      · replace h0 := fo_itF c8 h0
        refine lv_aload_n hx hb dX6_linked_25 rfl (lv_at hl 0 rfl) ?_
        refine fr_g6_26 hx hb hT hown hK hP (by decide) dX6_linked_26 ?_
        refine lv_iload_n hx hb dX6_linked_29 rfl (lv_at hl 2 rfl) ?_
        obtain ⟨g10, h0⟩ := fo_gd h0 hN0
        refine fr_zald (k := 6) (n := 16) hx hb hK hP (by decide) (by decide) (fun _ _ => rfl) g10 dX6_linked_30 ?_
        refine lv_if_ne (tgt := 37) hx hb dX6_linked_31 (by decide) (fun c11 => ?_) (fun c11 => ?_)
        · replace h0 := fo_itF c11 h0
          refine lv_aload_n hx hb dX6_linked_37 rfl (lv_at hl 0 rfl) ?_
          refine lv_iload_n hx hb dX6_linked_38 rfl (lv_at hl 1 rfl) ?_
          refine lv_iload_n hx hb dX6_linked_39 rfl (lv_at hl 2 rfl) ?_
          obtain ⟨x12, hx12, h0⟩ := fo_bd h0 hN0
          refine fo_calli (va_runV (H := _) (As := [.int a1, .int a2]) (rest := []) ⟨hx, hb, hml, hown, hT⟩ (c_r_leads l D ca ad _ hx12) (fr_c6_154 hT ⟨Nat.le_trans (Nat.le_of_ble_eq_true rfl) hRf, Nat.le_trans (Nat.le_of_ble_eq_true rfl) hRl⟩) ⟨fo_Pre_blind, fr_rc0 hK hP (by decide), fo_Pre_at hP hK (hD _)⟩ rfl rfl hl.1 rfl (lv_room (Nat.le_of_ble_eq_true rfl)) dX6_linked_40 ⟨Nat.zero_le _, Nat.zero_le _⟩) hS (fun H locs hP hS => ?_)
          refine lv_if_eq (tgt := 50) hx hb dX6_linked_43 (by decide) (fun c13 => ?_) (fun c13 => ?_)
          · replace h0 := fo_itT c13 h0
            refine lv_iconst (v := 0) hx hb dX6_linked_50 (by decide) ?_
            have hr14 := Option.some.inj h0
            subst hr14
            exact kr _ ls _ _ dX6_linked_51 hP hS
          · replace h0 := fo_itF c13 h0
            refine lv_iconst (v := 1) hx hb dX6_linked_46 (by decide) ?_
            refine lv_goto (tgt := 51) hx hb dX6_linked_47 (by decide) ?_
            have hr15 := Option.some.inj h0
            subst hr15
            exact kr _ ls _ _ dX6_linked_51 hP hS
        · replace h0 := fo_itT c11 h0
          refine lv_bipush (v := -2) hx hb dX6_linked_34 (by decide) ?_
          have hr16 := Option.some.inj h0
          subst hr16
          exact kr _ ls _ _ dX6_linked_36 hP hS
theorem c_r_linked (l : Launch) (D : va_G) (ca : Nat → ClassId) (ad : Nat → Nat) (sz : Nat) {σ : fo_S} {a1 : Int32} {a2 : Int32}  {res : Int32 × fo_S} (h0 : r_linked σ a1 a2 = some res) : Met l yX6_linked ws_r_linked rm_r_linked (fo_Pre 25 D vwCl (fr_tys ca) ad (fr_ce ca ad σ) sz [.ref (ad (fr_lay 0 0)), .int a1, .int a2]) (fo_PoI 25 D vwCl (fr_tys ca) ad (fr_ce ca ad res.2) sz res.1) 0 0 (fo_A 25 ad sz) :=
  fr_mkI (by decide) (fun C0 kr hP => b_r_linked C0 (Nat.le_refl _) (Nat.le_refl _) (Nat.zero_le _)  h0 kr hP)
def r_heard (σ : fo_S) (a1 : Int32) : Option (Int32) :=
  (r_isCall σ a1).bind (fun x1 => if x1 = 0 then (some (-2 : Int32)) else ((r_third σ a1).bind (fun x3 => if x3 = (1000001 : Int32) then (some (-1 : Int32)) else ((r_third σ a1).bind (fun x5 => some x5)))))
set_option maxHeartbeats 4000000 in
set_option maxRecDepth 100000 in
theorem b_r_heard {p : Program} {l : Launch} {e : Env} {R : Room} {s : State} {m : MethodId} {args : Array Value} {below : List Frame} {meth : Method} {c : Code} {Q : State → Prop} {D : va_G} {ca : Nat → ClassId} {ad : Nat → Nat} (C0 : fr_CX p s m args c cX6_heard 2 RX6 D ca ad) (hRf : 2 ≤ R.frames) (hRl : 46 ≤ R.locals) (hRc : 0 ≤ R.cells) {σ : fo_S} {a1 : Int32}  {res : Int32} (h0 : r_heard σ a1 = some res) (kr : ∀ (pc : Nat) (ls : Array Slot) (H : Heap) (locs : List Loc), decode cX6_heard pc = .ok (.ireturn, 1) → va_P D vwCl (fo_vx 25 ad (fr_ce ca ad σ)) H → va_S (fo_A 25 ad s.heap.size) s.heap H locs → W p l e R s m args below meth c H locs 0 0 Q (F0 m pc ls [.int res])) (hP : va_P D vwCl (fo_vx 25 ad (fr_ce ca ad σ)) s.heap) : W p l e R s m args below meth c s.heap [] 0 0 Q (entryFrame m ([.ref (ad (fr_lay 0 0)), .int a1] : List Value).toArray 2) := by
  obtain ⟨hx, hb, hml, hown, hT, hK, hD⟩ := C0
  have hN0 : (some res) ≠ none := fun q => by cases q
  unfold r_heard at h0
  have hS : va_S (fo_A 25 ad s.heap.size) s.heap s.heap [] := va_S.rf
  have hl := lv_entry ([.ref (ad (fr_lay 0 0)), .int a1]) (n := 2) (Nat.le_of_ble_eq_true rfl)
  rw [lg_entry_eq]
  generalize (lg_sl ([.ref (ad (fr_lay 0 0)), .int a1]) ++ List.replicate (2 - (lg_sl ([.ref (ad (fr_lay 0 0)), .int a1])).length) Slot.unset).toArray = ls at hl ⊢
  have hl : lv_has ls 2 [(0, .ref (ad (fr_lay 0 0))), (1, .int a1)] := hl
  refine lv_aload_n hx hb dX6_heard_0 rfl (lv_at hl 0 rfl) ?_
  refine lv_iload_n hx hb dX6_heard_1 rfl (lv_at hl 1 rfl) ?_
  obtain ⟨x1, hx1, h0⟩ := fo_bd h0 hN0
  refine fo_calli (va_runV (H := _) (As := [.int a1]) (rest := []) ⟨hx, hb, hml, hown, hT⟩ (c_r_isCall l D ca ad _ hx1) (fr_c6_141 hT ⟨Nat.le_trans (Nat.le_of_ble_eq_true rfl) hRf, Nat.le_trans (Nat.le_of_ble_eq_true rfl) hRl⟩) ⟨fo_Pre_blind, fr_rc0 hK hP (by decide), fo_Pre_at hP hK (hD _)⟩ rfl rfl hl.1 rfl (lv_room (Nat.le_of_ble_eq_true rfl)) dX6_heard_2 ⟨Nat.zero_le _, Nat.zero_le _⟩) hS (fun H locs hP hS => ?_)
  refine lv_if_ne (tgt := 11) hx hb dX6_heard_5 (by decide) (fun c2 => ?_) (fun c2 => ?_)
  · replace h0 := fo_itF c2 h0
    refine lv_aload_n hx hb dX6_heard_11 rfl (lv_at hl 0 rfl) ?_
    refine lv_iload_n hx hb dX6_heard_12 rfl (lv_at hl 1 rfl) ?_
    obtain ⟨x3, hx3, h0⟩ := fo_bd h0 hN0
    refine fo_calli (va_runV (H := _) (As := [.int a1]) (rest := []) ⟨hx, hb, hml, hown, hT⟩ (c_r_third l D ca ad _ hx3) (fr_c6_167 hT ⟨Nat.le_trans (Nat.le_of_ble_eq_true rfl) hRf, Nat.le_trans (Nat.le_of_ble_eq_true rfl) hRl⟩) ⟨fo_Pre_blind, fr_rc0 hK hP (by decide), fo_Pre_at hP hK (hD _)⟩ rfl rfl hl.1 rfl (lv_room (Nat.le_of_ble_eq_true rfl)) dX6_heard_13 ⟨Nat.zero_le _, Nat.zero_le _⟩) hS (fun H locs hP hS => ?_)
    refine lv_ldc (v := 1000001) hx hb hown (fr_k6_149 hT) dX6_heard_16 ?_
    refine lv_icmp_ne (tgt := 25) hx hb dX6_heard_18 (by decide) (fun c4 => ?_) (fun c4 => ?_)
    · replace h0 := fo_itF c4 h0
      refine lv_aload_n hx hb dX6_heard_25 rfl (lv_at hl 0 rfl) ?_
      refine lv_iload_n hx hb dX6_heard_26 rfl (lv_at hl 1 rfl) ?_
      obtain ⟨x5, hx5, h0⟩ := fo_bd h0 hN0
      refine fo_calli (va_runV (H := _) (As := [.int a1]) (rest := []) ⟨hx, hb, hml, hown, hT⟩ (c_r_third l D ca ad _ hx5) (fr_c6_167 hT ⟨Nat.le_trans (Nat.le_of_ble_eq_true rfl) hRf, Nat.le_trans (Nat.le_of_ble_eq_true rfl) hRl⟩) ⟨fo_Pre_blind, fr_rc0 hK hP (by decide), fo_Pre_at hP hK (hD _)⟩ rfl rfl hl.1 rfl (lv_room (Nat.le_of_ble_eq_true rfl)) dX6_heard_27 ⟨Nat.zero_le _, Nat.zero_le _⟩) hS (fun H locs hP hS => ?_)
      have hr6 := Option.some.inj h0
      subst hr6
      exact kr _ ls _ _ dX6_heard_30 hP hS
    · replace h0 := fo_itT c4 h0
      refine lv_iconst (v := -1) hx hb dX6_heard_21 (by decide) ?_
      refine lv_goto (tgt := 30) hx hb dX6_heard_22 (by decide) ?_
      have hr7 := Option.some.inj h0
      subst hr7
      exact kr _ ls _ _ dX6_heard_30 hP hS
  · replace h0 := fo_itT c2 h0
    refine lv_bipush (v := -2) hx hb dX6_heard_8 (by decide) ?_
    have hr8 := Option.some.inj h0
    subst hr8
    exact kr _ ls _ _ dX6_heard_10 hP hS
theorem c_r_heard (l : Launch) (D : va_G) (ca : Nat → ClassId) (ad : Nat → Nat) (sz : Nat) {σ : fo_S} {a1 : Int32}  {res : Int32} (h0 : r_heard σ a1 = some res) : Met l yX6_heard ws_r_heard rm_r_heard (fo_Pre 25 D vwCl (fr_tys ca) ad (fr_ce ca ad σ) sz [.ref (ad (fr_lay 0 0)), .int a1]) (fo_PoI 25 D vwCl (fr_tys ca) ad (fr_ce ca ad σ) sz res) 0 0 (fo_A 25 ad sz) :=
  fr_mkI (by decide) (fun C0 kr hP => b_r_heard C0 (Nat.le_refl _) (Nat.le_refl _) (Nat.zero_le _)  h0 kr hP)
def r_mayPlay (σ : fo_S)  : Option (Int32) :=
  if (σ.1 0 0 17) < 0 then (some (0 : Int32)) else (if (σ.1 0 0 19) = 0 then (some (1 : Int32)) else (some (0 : Int32)))
set_option maxHeartbeats 4000000 in
set_option maxRecDepth 100000 in
theorem b_r_mayPlay {p : Program} {l : Launch} {e : Env} {R : Room} {s : State} {m : MethodId} {args : Array Value} {below : List Frame} {meth : Method} {c : Code} {Q : State → Prop} {D : va_G} {ca : Nat → ClassId} {ad : Nat → Nat} (C0 : fr_CX p s m args c cX6_mayPlay 1 RX6 D ca ad) (hRf : 0 ≤ R.frames) (hRl : 0 ≤ R.locals) (hRc : 0 ≤ R.cells) {σ : fo_S}   {res : Int32} (h0 : r_mayPlay σ = some res) (kr : ∀ (pc : Nat) (ls : Array Slot) (H : Heap) (locs : List Loc), narrow .boolean (.int res) = .int res → decode cX6_mayPlay pc = .ok (.ireturn, 1) → va_P D vwCl (fo_vx 25 ad (fr_ce ca ad σ)) H → va_S (fo_A 25 ad s.heap.size) s.heap H locs → W p l e R s m args below meth c H locs 0 0 Q (F0 m pc ls [.int res])) (hP : va_P D vwCl (fo_vx 25 ad (fr_ce ca ad σ)) s.heap) : W p l e R s m args below meth c s.heap [] 0 0 Q (entryFrame m ([.ref (ad (fr_lay 0 0))] : List Value).toArray 1) := by
  obtain ⟨hx, hb, hml, hown, hT, hK, hD⟩ := C0
  have hN0 : (some res) ≠ none := fun q => by cases q
  unfold r_mayPlay at h0
  have hS : va_S (fo_A 25 ad s.heap.size) s.heap s.heap [] := va_S.rf
  have hl := lv_entry ([.ref (ad (fr_lay 0 0))]) (n := 1) (Nat.le_of_ble_eq_true rfl)
  rw [lg_entry_eq]
  generalize (lg_sl ([.ref (ad (fr_lay 0 0))]) ++ List.replicate (1 - (lg_sl ([.ref (ad (fr_lay 0 0))])).length) Slot.unset).toArray = ls at hl ⊢
  have hl : lv_has ls 1 [(0, .ref (ad (fr_lay 0 0)))] := hl
  refine lv_aload_n hx hb dX6_mayPlay_0 rfl (lv_at hl 0 rfl) ?_
  refine fr_g6_42 hx hb hT hown hK hP (by decide) dX6_mayPlay_1 ?_
  refine lv_if_lt (tgt := 18) hx hb dX6_mayPlay_4 (by decide) (fun c1 => ?_) (fun c1 => ?_)
  · replace h0 := fo_itT c1 h0
    refine lv_iconst (v := 0) hx hb dX6_mayPlay_18 (by decide) ?_
    have hr2 := Option.some.inj h0
    subst hr2
    exact kr _ ls _ _ (fo_zn (Or.inl rfl)) dX6_mayPlay_19 hP hS
  · replace h0 := fo_itF c1 h0
    refine lv_aload_n hx hb dX6_mayPlay_7 rfl (lv_at hl 0 rfl) ?_
    refine fr_g6_95 hx hb hT hown hK hP (by decide) dX6_mayPlay_8 ?_
    refine lv_if_ne (tgt := 18) hx hb dX6_mayPlay_11 (by decide) (fun c3 => ?_) (fun c3 => ?_)
    · replace h0 := fo_itF c3 h0
      refine lv_iconst (v := 0) hx hb dX6_mayPlay_18 (by decide) ?_
      have hr4 := Option.some.inj h0
      subst hr4
      exact kr _ ls _ _ (fo_zn (Or.inl rfl)) dX6_mayPlay_19 hP hS
    · replace h0 := fo_itT c3 h0
      refine lv_iconst (v := 1) hx hb dX6_mayPlay_14 (by decide) ?_
      refine lv_goto (tgt := 19) hx hb dX6_mayPlay_15 (by decide) ?_
      have hr5 := Option.some.inj h0
      subst hr5
      exact kr _ ls _ _ (fo_zn (Or.inr rfl)) dX6_mayPlay_19 hP hS
theorem c_r_mayPlay (l : Launch) (D : va_G) (ca : Nat → ClassId) (ad : Nat → Nat) (sz : Nat) {σ : fo_S}   {res : Int32} (h0 : r_mayPlay σ = some res) : Met l yX6_mayPlay ws_r_mayPlay rm_r_mayPlay (fo_Pre 25 D vwCl (fr_tys ca) ad (fr_ce ca ad σ) sz [.ref (ad (fr_lay 0 0))]) (fo_PoI 25 D vwCl (fr_tys ca) ad (fr_ce ca ad σ) sz res) 0 0 (fo_A 25 ad sz) :=
  fr_mkZ (by decide) (fun C0 kr hP => b_r_mayPlay C0 (Nat.le_refl _) (Nat.le_refl _) (Nat.zero_le _)  h0 kr hP)
def r_tryOne_J175 (σ : fo_S) (a1 : Int32) (j175 : fo_S) : Option (fo_S) :=
  if fo_vi a1 16 then (if (j175.1 7 0 a1.toNatClampNeg) = (1 : Int32) then (if fo_vi (σ.1 3 0 a1.toNatClampNeg) 8 then (if (lg_cmp (j175.2 16 0 (σ.1 3 0 a1.toNatClampNeg).toNatClampNeg) ((σ.1 9 0 a1.toNatClampNeg).toInt64)) < 0 then (some j175) else (if ¬ ((j175.2 0 0 26) + ((σ.1 9 0 a1.toNatClampNeg).toInt64)) = 0 then (if (lg_cmp (((σ.2 0 0 25) * ((σ.1 9 0 a1.toNatClampNeg).toInt64)) / ((j175.2 0 0 26) + ((σ.1 9 0 a1.toNatClampNeg).toInt64))) (((σ.1 8 0 a1.toNatClampNeg).toInt64) * ((σ.1 9 0 a1.toNatClampNeg).toInt64))) < 0 then (some j175) else (if fo_vi a1 16 then ( (some (fo_pI j175 17 0 a1.toNatClampNeg (((σ.1 9 0 a1.toNatClampNeg).toInt64).toInt32))).bind (fun w19 =>  if fo_vi a1 16 then ( (some (fo_pJ w19 18 0 a1.toNatClampNeg (((σ.2 0 0 25) * ((σ.1 9 0 a1.toNatClampNeg).toInt64)) / ((j175.2 0 0 26) + ((σ.1 9 0 a1.toNatClampNeg).toInt64))))).bind (fun w21 =>  if fo_vi (σ.1 3 0 a1.toNatClampNeg) 8 then ( if fo_vi (σ.1 3 0 a1.toNatClampNeg) 8 then ( (some (fo_pJ w21 15 0 (σ.1 3 0 a1.toNatClampNeg).toNatClampNeg ((w21.2 15 0 (σ.1 3 0 a1.toNatClampNeg).toNatClampNeg) + (((σ.2 0 0 25) * ((σ.1 9 0 a1.toNatClampNeg).toInt64)) / ((j175.2 0 0 26) + ((σ.1 9 0 a1.toNatClampNeg).toInt64)))))).bind (fun w24 =>  if fo_vi (σ.1 3 0 a1.toNatClampNeg) 8 then ( if fo_vi (σ.1 3 0 a1.toNatClampNeg) 8 then ( (some (fo_pJ w24 16 0 (σ.1 3 0 a1.toNatClampNeg).toNatClampNeg ((w24.2 16 0 (σ.1 3 0 a1.toNatClampNeg).toNatClampNeg) - ((σ.1 9 0 a1.toNatClampNeg).toInt64)))).bind (fun w27 =>  (some (fo_pJ w27 0 0 25 ((w27.2 0 0 25) - (((σ.2 0 0 25) * ((σ.1 9 0 a1.toNatClampNeg).toInt64)) / ((j175.2 0 0 26) + ((σ.1 9 0 a1.toNatClampNeg).toInt64)))))).bind (fun w28 =>  (some (fo_pJ w28 0 0 26 ((w28.2 0 0 26) + ((σ.1 9 0 a1.toNatClampNeg).toInt64)))).bind (fun w29 => some w29)))) else none) else none)) else none) else none)) else none)) else none)) else none)) else none) else (some j175)) else none
def r_tryOne_J94 (σ : fo_S) (a1 : Int32) (w7 : fo_S) (j94 : Int64) : Option (fo_S) :=
  if 0 < (lg_cmp ((((σ.2 0 0 25) * ((σ.1 9 0 a1.toNatClampNeg).toInt64)) / ((w7.2 0 0 26) - ((σ.1 9 0 a1.toNatClampNeg).toInt64))) + j94) (((σ.1 8 0 a1.toNatClampNeg).toInt64) * ((σ.1 9 0 a1.toNatClampNeg).toInt64))) then (r_tryOne_J175 σ a1 w7) else (if fo_vi (σ.1 3 0 a1.toNatClampNeg) 8 then (if 0 < (lg_cmp ((((σ.2 0 0 25) * ((σ.1 9 0 a1.toNatClampNeg).toInt64)) / ((w7.2 0 0 26) - ((σ.1 9 0 a1.toNatClampNeg).toInt64))) + j94) (w7.2 15 0 (σ.1 3 0 a1.toNatClampNeg).toNatClampNeg)) then (r_tryOne_J175 σ a1 w7) else (if fo_vi a1 16 then ( (some (fo_pI w7 17 0 a1.toNatClampNeg (((σ.1 9 0 a1.toNatClampNeg).toInt64).toInt32))).bind (fun w39 =>  if fo_vi a1 16 then ( (some (fo_pJ w39 18 0 a1.toNatClampNeg ((((σ.2 0 0 25) * ((σ.1 9 0 a1.toNatClampNeg).toInt64)) / ((w7.2 0 0 26) - ((σ.1 9 0 a1.toNatClampNeg).toInt64))) + j94))).bind (fun w41 =>  if fo_vi (σ.1 3 0 a1.toNatClampNeg) 8 then ( if fo_vi (σ.1 3 0 a1.toNatClampNeg) 8 then ( (some (fo_pJ w41 15 0 (σ.1 3 0 a1.toNatClampNeg).toNatClampNeg ((w41.2 15 0 (σ.1 3 0 a1.toNatClampNeg).toNatClampNeg) - ((((σ.2 0 0 25) * ((σ.1 9 0 a1.toNatClampNeg).toInt64)) / ((w7.2 0 0 26) - ((σ.1 9 0 a1.toNatClampNeg).toInt64))) + j94)))).bind (fun w44 =>  if fo_vi (σ.1 3 0 a1.toNatClampNeg) 8 then ( if fo_vi (σ.1 3 0 a1.toNatClampNeg) 8 then ( (some (fo_pJ w44 16 0 (σ.1 3 0 a1.toNatClampNeg).toNatClampNeg ((w44.2 16 0 (σ.1 3 0 a1.toNatClampNeg).toNatClampNeg) + ((σ.1 9 0 a1.toNatClampNeg).toInt64)))).bind (fun w47 =>  (some (fo_pJ w47 0 0 25 ((w47.2 0 0 25) + ((((σ.2 0 0 25) * ((σ.1 9 0 a1.toNatClampNeg).toInt64)) / ((w7.2 0 0 26) - ((σ.1 9 0 a1.toNatClampNeg).toInt64))) + j94)))).bind (fun w48 =>  (some (fo_pJ w48 0 0 26 ((w48.2 0 0 26) - ((σ.1 9 0 a1.toNatClampNeg).toInt64)))).bind (fun w49 => r_tryOne_J175 σ a1 w49)))) else none) else none)) else none) else none)) else none)) else none)) else none)
def r_tryOne (σ : fo_S) (a1 : Int32) : Option (fo_S) :=
  if fo_vi a1 16 then ( if fo_vi a1 16 then ( if fo_vi a1 16 then ( if fo_vi a1 16 then ( (some (fo_pI σ 17 0 a1.toNatClampNeg (0 : Int32))).bind (fun w5 =>  if fo_vi a1 16 then ( (some (fo_pJ w5 18 0 a1.toNatClampNeg (0 : Int64))).bind (fun w7 =>  if fo_vi a1 16 then (if (w7.1 7 0 a1.toNatClampNeg) = 0 then (if 0 ≤ (lg_cmp ((σ.1 9 0 a1.toNatClampNeg).toInt64) (w7.2 0 0 26)) then (r_tryOne_J175 σ a1 w7) else (if ¬ ((w7.2 0 0 26) - ((σ.1 9 0 a1.toNatClampNeg).toInt64)) = 0 then ( if ¬ ((w7.2 0 0 26) - ((σ.1 9 0 a1.toNatClampNeg).toInt64)) = 0 then (if (lg_cmp (((σ.2 0 0 25) * ((σ.1 9 0 a1.toNatClampNeg).toInt64)) - ((σ.2 0 0 25) * ((σ.1 9 0 a1.toNatClampNeg).toInt64)) / ((w7.2 0 0 26) - ((σ.1 9 0 a1.toNatClampNeg).toInt64)) * ((w7.2 0 0 26) - ((σ.1 9 0 a1.toNatClampNeg).toInt64))) (0 : Int64)) ≤ 0 then (r_tryOne_J94 σ a1 w7 (0 : Int64)) else (r_tryOne_J94 σ a1 w7 (1 : Int64))) else none) else none)) else (r_tryOne_J175 σ a1 w7)) else none)) else none)) else none) else none) else none) else none
set_option maxHeartbeats 4000000 in
set_option maxRecDepth 100000 in
theorem b_r_tryOne {p : Program} {l : Launch} {e : Env} {R : Room} {s : State} {m : MethodId} {args : Array Value} {below : List Frame} {meth : Method} {c : Code} {Q : State → Prop} {D : va_G} {ca : Nat → ClassId} {ad : Nat → Nat} (C0 : fr_CX p s m args c cX6_tryOne 13 RX6 D ca ad) (hRf : 0 ≤ R.frames) (hRl : 0 ≤ R.locals) (hRc : 0 ≤ R.cells) {σ : fo_S} {a1 : Int32}  {res : fo_S} (h0 : r_tryOne σ a1 = some res) (kr : ∀ (pc : Nat) (ls : Array Slot) (H : Heap) (locs : List Loc), decode cX6_tryOne pc = .ok (.return_, 1) → va_P D vwCl (fo_vx 25 ad (fr_ce ca ad res)) H → va_S (fo_A 25 ad s.heap.size) s.heap H locs → W p l e R s m args below meth c H locs 0 0 Q (F0 m pc ls [])) (hP : va_P D vwCl (fo_vx 25 ad (fr_ce ca ad σ)) s.heap) : W p l e R s m args below meth c s.heap [] 0 0 Q (entryFrame m ([.ref (ad (fr_lay 0 0)), .int a1] : List Value).toArray 13) := by
  obtain ⟨hx, hb, hml, hown, hT, hK, hD⟩ := C0
  have hN0 : (some res) ≠ none := fun q => by cases q
  unfold r_tryOne at h0
  have hS : va_S (fo_A 25 ad s.heap.size) s.heap s.heap [] := va_S.rf
  have hl := lv_entry ([.ref (ad (fr_lay 0 0)), .int a1]) (n := 13) (Nat.le_of_ble_eq_true rfl)
  rw [lg_entry_eq]
  generalize (lg_sl ([.ref (ad (fr_lay 0 0)), .int a1]) ++ List.replicate (13 - (lg_sl ([.ref (ad (fr_lay 0 0)), .int a1])).length) Slot.unset).toArray = ls at hl ⊢
  have hl : lv_has ls 13 [(0, .ref (ad (fr_lay 0 0))), (1, .int a1)] := hl
  refine lv_aload_n hx hb dX6_tryOne_0 rfl (lv_at hl 0 rfl) ?_
  refine fr_g6_16 hx hb hT hown hK hP (by decide) dX6_tryOne_1 ?_
  refine lv_iload_n hx hb dX6_tryOne_4 rfl (lv_at hl 1 rfl) ?_
  obtain ⟨g1, h0⟩ := fo_gd h0 hN0
  refine fr_iald (k := 3) (n := 16) hx hb hK hP (by decide) (by decide) (fun _ _ => rfl) g1 dX6_tryOne_5 ?_
  refine lv_istore_n (lv' := [(2, .int (σ.1 3 0 a1.toNatClampNeg)), (0, .ref (ad (fr_lay 0 0))), (1, .int a1)]) hx hb dX6_tryOne_6 rfl hl (by decide) rfl (fun ls hl => ?_)
  refine lv_aload_n hx hb dX6_tryOne_7 rfl (lv_at hl 1 rfl) ?_
  refine fr_g6_36 hx hb hT hown hK hP (by decide) dX6_tryOne_8 ?_
  refine lv_iload_n hx hb dX6_tryOne_11 rfl (lv_at hl 2 rfl) ?_
  obtain ⟨g2, h0⟩ := fo_gd h0 hN0
  refine fr_iald (k := 9) (n := 16) hx hb hK hP (by decide) (by decide) (fun _ _ => rfl) g2 dX6_tryOne_12 ?_
  refine lv_i2l hx hb dX6_tryOne_13 rfl ?_
  refine lv_lstore_n (lv' := [(3, .long ((σ.1 9 0 a1.toNatClampNeg).toInt64)), (2, .int (σ.1 3 0 a1.toNatClampNeg)), (0, .ref (ad (fr_lay 0 0))), (1, .int a1)]) hx hb dX6_tryOne_14 rfl hl (by decide) rfl (fun ls hl => ?_)
  refine lv_aload_n hx hb dX6_tryOne_15 rfl (lv_at hl 2 rfl) ?_
  refine fr_g6_33 hx hb hT hown hK hP (by decide) dX6_tryOne_16 ?_
  refine lv_iload_n hx hb dX6_tryOne_19 rfl (lv_at hl 3 rfl) ?_
  obtain ⟨g3, h0⟩ := fo_gd h0 hN0
  refine fr_iald (k := 8) (n := 16) hx hb hK hP (by decide) (by decide) (fun _ _ => rfl) g3 dX6_tryOne_20 ?_
  refine lv_i2l hx hb dX6_tryOne_21 rfl ?_
  refine lv_lload_n hx hb dX6_tryOne_22 rfl (lv_at hl 0 rfl) ?_
  refine lv_lmul hx hb dX6_tryOne_23 ?_
  refine lv_lstore (lv' := [(5, .long (((σ.1 8 0 a1.toNatClampNeg).toInt64) * ((σ.1 9 0 a1.toNatClampNeg).toInt64))), (3, .long ((σ.1 9 0 a1.toNatClampNeg).toInt64)), (2, .int (σ.1 3 0 a1.toNatClampNeg)), (0, .ref (ad (fr_lay 0 0))), (1, .int a1)]) hx hb dX6_tryOne_24 hl (by decide) rfl (fun ls hl => ?_)
  refine lv_aload_n hx hb dX6_tryOne_26 rfl (lv_at hl 3 rfl) ?_
  refine fr_g6_182 hx hb hT hown hK hP (by decide) dX6_tryOne_27 ?_
  refine lv_lload_n hx hb dX6_tryOne_30 rfl (lv_at hl 1 rfl) ?_
  refine lv_lmul hx hb dX6_tryOne_31 ?_
  refine lv_lstore (lv' := [(7, .long ((σ.2 0 0 25) * ((σ.1 9 0 a1.toNatClampNeg).toInt64))), (5, .long (((σ.1 8 0 a1.toNatClampNeg).toInt64) * ((σ.1 9 0 a1.toNatClampNeg).toInt64))), (3, .long ((σ.1 9 0 a1.toNatClampNeg).toInt64)), (2, .int (σ.1 3 0 a1.toNatClampNeg)), (0, .ref (ad (fr_lay 0 0))), (1, .int a1)]) hx hb dX6_tryOne_32 hl (by decide) rfl (fun ls hl => ?_)
  refine lv_aload_n hx hb dX6_tryOne_34 rfl (lv_at hl 4 rfl) ?_
  refine fr_g6_64 hx hb hT hown hK hP (by decide) dX6_tryOne_35 ?_
  refine lv_iload_n hx hb dX6_tryOne_38 rfl (lv_at hl 5 rfl) ?_
  refine lv_iconst (v := 0) hx hb dX6_tryOne_39 (by decide) ?_
  obtain ⟨g4, h0⟩ := fo_gd h0 hN0
  refine fr_iast (k := 17) (n := 16) hx hb hK hP hD hS (by decide) (by decide) (fun _ _ => rfl) g4 dX6_tryOne_40 (fun H locs hP hS => ?_)
  obtain ⟨w5, hw5, h0⟩ := fo_bd h0 hN0
  replace hw5 := Option.some.inj hw5
  rw [hw5] at hP
  refine lv_aload_n hx hb dX6_tryOne_41 rfl (lv_at hl 4 rfl) ?_
  refine fr_g6_67 hx hb hT hown hK hP (by decide) dX6_tryOne_42 ?_
  refine lv_iload_n hx hb dX6_tryOne_45 rfl (lv_at hl 5 rfl) ?_
  refine lv_lconst (v := 0) hx hb dX6_tryOne_46 (by decide) ?_
  obtain ⟨g6, h0⟩ := fo_gd h0 hN0
  refine fr_last (k := 18) (n := 16) hx hb hK hP hD hS (by decide) (by decide) (fun _ _ => rfl) g6 dX6_tryOne_47 (fun H locs hP hS => ?_)
  obtain ⟨w7, hw7, h0⟩ := fo_bd h0 hN0
  replace hw7 := Option.some.inj hw7
  rw [hw7] at hP
  refine lv_aload_n hx hb dX6_tryOne_48 rfl (lv_at hl 4 rfl) ?_
  refine fr_g6_30 hx hb hT hown hK hP (by decide) dX6_tryOne_49 ?_
  refine lv_iload_n hx hb dX6_tryOne_52 rfl (lv_at hl 5 rfl) ?_
  obtain ⟨g8, h0⟩ := fo_gd h0 hN0
  refine fr_iald (k := 7) (n := 16) hx hb hK hP (by decide) (by decide) (fun _ _ => rfl) g8 dX6_tryOne_53 ?_
  have J175 : ∀ j175 : fo_S, r_tryOne_J175 σ a1 j175 = some res → ∀ (H : Heap) (locs : List Loc) (ls : Array Slot), va_P D vwCl (fo_vx 25 ad (fr_ce ca ad j175)) H → va_S (fo_A 25 ad s.heap.size) s.heap H locs → lv_has ls 13 [(0, .ref (ad (fr_lay 0 0))), (1, .int a1), (2, .int (σ.1 3 0 a1.toNatClampNeg)), (3, .long ((σ.1 9 0 a1.toNatClampNeg).toInt64)), (5, .long (((σ.1 8 0 a1.toNatClampNeg).toInt64) * ((σ.1 9 0 a1.toNatClampNeg).toInt64))), (7, .long ((σ.2 0 0 25) * ((σ.1 9 0 a1.toNatClampNeg).toInt64)))] → W p l e R s m args below meth c H locs 0 0 Q (F0 m 175 ls []) := by
    intro j175 h0 H locs ls hP hS hl
    unfold r_tryOne_J175 at h0
    refine lv_aload_n hx hb dX6_tryOne_175 rfl (lv_at hl 0 rfl) ?_
    refine fr_g6_30 hx hb hT hown hK hP (by decide) dX6_tryOne_176 ?_
    refine lv_iload_n hx hb dX6_tryOne_179 rfl (lv_at hl 1 rfl) ?_
    obtain ⟨g9, h0⟩ := fo_gd h0 hN0
    refine fr_iald (k := 7) (n := 16) hx hb hK hP (by decide) (by decide) (fun _ _ => rfl) g9 dX6_tryOne_180 ?_
    refine lv_iconst (v := 1) hx hb dX6_tryOne_181 (by decide) ?_
    refine lv_icmp_ne (tgt := 273) hx hb dX6_tryOne_182 (by decide) (fun c10 => ?_) (fun c10 => ?_)
    · replace h0 := fo_itF c10 h0
      have hr11 := Option.some.inj h0
      subst hr11
      exact kr _ ls _ _ dX6_tryOne_273 hP hS
    · replace h0 := fo_itT c10 h0
      refine lv_aload_n hx hb dX6_tryOne_185 rfl (lv_at hl 0 rfl) ?_
      refine fr_g6_61 hx hb hT hown hK hP (by decide) dX6_tryOne_186 ?_
      refine lv_iload_n hx hb dX6_tryOne_189 rfl (lv_at hl 2 rfl) ?_
      obtain ⟨g12, h0⟩ := fo_gd h0 hN0
      refine fr_lald (k := 16) (n := 8) hx hb hK hP (by decide) (by decide) (fun _ _ => rfl) g12 dX6_tryOne_190 ?_
      refine lv_lload_n hx hb dX6_tryOne_191 rfl (lv_at hl 3 rfl) ?_
      refine W.lcmp hx hb dX6_tryOne_192 ?_
      refine lv_if_lt (tgt := 273) hx hb dX6_tryOne_193 (by decide) (fun c13 => ?_) (fun c13 => ?_)
      · replace h0 := fo_itT c13 h0
        have hr14 := Option.some.inj h0
        subst hr14
        exact kr _ ls _ _ dX6_tryOne_273 hP hS
      · replace h0 := fo_itF c13 h0
        refine lv_lload hx hb dX6_tryOne_196 (lv_at hl 5 rfl) ?_
        refine lv_aload_n hx hb dX6_tryOne_198 rfl (lv_at hl 0 rfl) ?_
        refine fr_g6_185 hx hb hT hown hK hP (by decide) dX6_tryOne_199 ?_
        refine lv_lload_n hx hb dX6_tryOne_202 rfl (lv_at hl 3 rfl) ?_
        refine lv_ladd hx hb dX6_tryOne_203 ?_
        obtain ⟨g15, h0⟩ := fo_gd h0 hN0
        refine lv_ldiv hx hb dX6_tryOne_204 g15 ?_
        refine lv_lstore (lv' := [(9, .long (((σ.2 0 0 25) * ((σ.1 9 0 a1.toNatClampNeg).toInt64)) / ((j175.2 0 0 26) + ((σ.1 9 0 a1.toNatClampNeg).toInt64)))), (0, .ref (ad (fr_lay 0 0))), (1, .int a1), (2, .int (σ.1 3 0 a1.toNatClampNeg)), (3, .long ((σ.1 9 0 a1.toNatClampNeg).toInt64)), (5, .long (((σ.1 8 0 a1.toNatClampNeg).toInt64) * ((σ.1 9 0 a1.toNatClampNeg).toInt64))), (7, .long ((σ.2 0 0 25) * ((σ.1 9 0 a1.toNatClampNeg).toInt64)))]) hx hb dX6_tryOne_205 hl (by decide) rfl (fun ls hl => ?_)
        refine lv_lload hx hb dX6_tryOne_207 (lv_at hl 0 rfl) ?_
        refine lv_lload hx hb dX6_tryOne_209 (lv_at hl 5 rfl) ?_
        refine W.lcmp hx hb dX6_tryOne_211 ?_
        refine lv_if_lt (tgt := 273) hx hb dX6_tryOne_212 (by decide) (fun c16 => ?_) (fun c16 => ?_)
        · replace h0 := fo_itT c16 h0
          have hr17 := Option.some.inj h0
          subst hr17
          exact kr _ ls _ _ dX6_tryOne_273 hP hS
        · replace h0 := fo_itF c16 h0
          refine lv_aload_n hx hb dX6_tryOne_215 rfl (lv_at hl 1 rfl) ?_
          refine fr_g6_64 hx hb hT hown hK hP (by decide) dX6_tryOne_216 ?_
          refine lv_iload_n hx hb dX6_tryOne_219 rfl (lv_at hl 2 rfl) ?_
          refine lv_lload_n hx hb dX6_tryOne_220 rfl (lv_at hl 4 rfl) ?_
          refine lv_l2i hx hb dX6_tryOne_221 rfl ?_
          obtain ⟨g18, h0⟩ := fo_gd h0 hN0
          refine fr_iast (k := 17) (n := 16) hx hb hK hP hD hS (by decide) (by decide) (fun _ _ => rfl) g18 dX6_tryOne_222 (fun H locs hP hS => ?_)
          obtain ⟨w19, hw19, h0⟩ := fo_bd h0 hN0
          replace hw19 := Option.some.inj hw19
          rw [hw19] at hP
          refine lv_aload_n hx hb dX6_tryOne_223 rfl (lv_at hl 1 rfl) ?_
          refine fr_g6_67 hx hb hT hown hK hP (by decide) dX6_tryOne_224 ?_
          refine lv_iload_n hx hb dX6_tryOne_227 rfl (lv_at hl 2 rfl) ?_
          refine lv_lload hx hb dX6_tryOne_228 (lv_at hl 0 rfl) ?_
          obtain ⟨g20, h0⟩ := fo_gd h0 hN0
          refine fr_last (k := 18) (n := 16) hx hb hK hP hD hS (by decide) (by decide) (fun _ _ => rfl) g20 dX6_tryOne_230 (fun H locs hP hS => ?_)
          obtain ⟨w21, hw21, h0⟩ := fo_bd h0 hN0
          replace hw21 := Option.some.inj hw21
          rw [hw21] at hP
          refine lv_aload_n hx hb dX6_tryOne_231 rfl (lv_at hl 1 rfl) ?_
          refine fr_g6_58 hx hb hT hown hK hP (by decide) dX6_tryOne_232 ?_
          refine lv_iload_n hx hb dX6_tryOne_235 rfl (lv_at hl 3 rfl) ?_
          refine lv_dup2_11 hx hb dX6_tryOne_236 rfl rfl ?_
          obtain ⟨g22, h0⟩ := fo_gd h0 hN0
          refine fr_lald (k := 15) (n := 8) hx hb hK hP (by decide) (by decide) (fun _ _ => rfl) g22 dX6_tryOne_237 ?_
          refine lv_lload hx hb dX6_tryOne_238 (lv_at hl 0 rfl) ?_
          refine lv_ladd hx hb dX6_tryOne_240 ?_
          obtain ⟨g23, h0⟩ := fo_gd h0 hN0
          refine fr_last (k := 15) (n := 8) hx hb hK hP hD hS (by decide) (by decide) (fun _ _ => rfl) g23 dX6_tryOne_241 (fun H locs hP hS => ?_)
          obtain ⟨w24, hw24, h0⟩ := fo_bd h0 hN0
          replace hw24 := Option.some.inj hw24
          rw [hw24] at hP
          refine lv_aload_n hx hb dX6_tryOne_242 rfl (lv_at hl 1 rfl) ?_
          refine fr_g6_61 hx hb hT hown hK hP (by decide) dX6_tryOne_243 ?_
          refine lv_iload_n hx hb dX6_tryOne_246 rfl (lv_at hl 3 rfl) ?_
          refine lv_dup2_11 hx hb dX6_tryOne_247 rfl rfl ?_
          obtain ⟨g25, h0⟩ := fo_gd h0 hN0
          refine fr_lald (k := 16) (n := 8) hx hb hK hP (by decide) (by decide) (fun _ _ => rfl) g25 dX6_tryOne_248 ?_
          refine lv_lload_n hx hb dX6_tryOne_249 rfl (lv_at hl 4 rfl) ?_
          refine lv_lsub hx hb dX6_tryOne_250 ?_
          obtain ⟨g26, h0⟩ := fo_gd h0 hN0
          refine fr_last (k := 16) (n := 8) hx hb hK hP hD hS (by decide) (by decide) (fun _ _ => rfl) g26 dX6_tryOne_251 (fun H locs hP hS => ?_)
          obtain ⟨w27, hw27, h0⟩ := fo_bd h0 hN0
          replace hw27 := Option.some.inj hw27
          rw [hw27] at hP
          refine lv_aload_n hx hb dX6_tryOne_252 rfl (lv_at hl 1 rfl) ?_
          refine lv_dup hx hb dX6_tryOne_253 rfl ?_
          refine fr_g6_182 hx hb hT hown hK hP (by decide) dX6_tryOne_254 ?_
          refine lv_lload hx hb dX6_tryOne_257 (lv_at hl 0 rfl) ?_
          refine lv_lsub hx hb dX6_tryOne_259 ?_
          refine fr_p6_182 hx hb hT hown hK hP hD hS (by decide) dX6_tryOne_260 (fun H locs hP hS => ?_)
          obtain ⟨w28, hw28, h0⟩ := fo_bd h0 hN0
          replace hw28 := Option.some.inj hw28
          rw [hw28] at hP
          refine lv_aload_n hx hb dX6_tryOne_263 rfl (lv_at hl 1 rfl) ?_
          refine lv_dup hx hb dX6_tryOne_264 rfl ?_
          refine fr_g6_185 hx hb hT hown hK hP (by decide) dX6_tryOne_265 ?_
          refine lv_lload_n hx hb dX6_tryOne_268 rfl (lv_at hl 4 rfl) ?_
          refine lv_ladd hx hb dX6_tryOne_269 ?_
          refine fr_p6_185 hx hb hT hown hK hP hD hS (by decide) dX6_tryOne_270 (fun H locs hP hS => ?_)
          obtain ⟨w29, hw29, h0⟩ := fo_bd h0 hN0
          replace hw29 := Option.some.inj hw29
          rw [hw29] at hP
          have hr30 := Option.some.inj h0
          subst hr30
          exact kr _ ls _ _ dX6_tryOne_273 hP hS
  refine lv_if_ne (tgt := 175) hx hb dX6_tryOne_54 (by decide) (fun c31 => ?_) (fun c31 => ?_)
  · replace h0 := fo_itF c31 h0
    exact J175 _ h0 _ _ ls hP hS (lv_sub hl [4, 5, 3, 2, 1, 0] rfl)
  · replace h0 := fo_itT c31 h0
    refine lv_lload_n hx hb dX6_tryOne_57 rfl (lv_at hl 2 rfl) ?_
    refine lv_aload_n hx hb dX6_tryOne_58 rfl (lv_at hl 4 rfl) ?_
    refine fr_g6_185 hx hb hT hown hK hP (by decide) dX6_tryOne_59 ?_
    refine W.lcmp hx hb dX6_tryOne_62 ?_
    refine lv_if_ge (tgt := 175) hx hb dX6_tryOne_63 (by decide) (fun c32 => ?_) (fun c32 => ?_)
    · replace h0 := fo_itT c32 h0
      exact J175 _ h0 _ _ ls hP hS (lv_sub hl [4, 5, 3, 2, 1, 0] rfl)
    · replace h0 := fo_itF c32 h0
      refine lv_aload_n hx hb dX6_tryOne_66 rfl (lv_at hl 4 rfl) ?_
      refine fr_g6_185 hx hb hT hown hK hP (by decide) dX6_tryOne_67 ?_
      refine lv_lload_n hx hb dX6_tryOne_70 rfl (lv_at hl 2 rfl) ?_
      refine lv_lsub hx hb dX6_tryOne_71 ?_
      refine lv_lstore (lv' := [(9, .long ((w7.2 0 0 26) - ((σ.1 9 0 a1.toNatClampNeg).toInt64))), (7, .long ((σ.2 0 0 25) * ((σ.1 9 0 a1.toNatClampNeg).toInt64))), (5, .long (((σ.1 8 0 a1.toNatClampNeg).toInt64) * ((σ.1 9 0 a1.toNatClampNeg).toInt64))), (3, .long ((σ.1 9 0 a1.toNatClampNeg).toInt64)), (2, .int (σ.1 3 0 a1.toNatClampNeg)), (0, .ref (ad (fr_lay 0 0))), (1, .int a1)]) hx hb dX6_tryOne_72 hl (by decide) rfl (fun ls hl => ?_)
      refine lv_lload hx hb dX6_tryOne_74 (lv_at hl 1 rfl) ?_
      refine lv_lload hx hb dX6_tryOne_76 (lv_at hl 0 rfl) ?_
      obtain ⟨g33, h0⟩ := fo_gd h0 hN0
      refine lv_ldiv hx hb dX6_tryOne_78 g33 ?_
      refine lv_lload hx hb dX6_tryOne_79 (lv_at hl 1 rfl) ?_
      refine lv_lload hx hb dX6_tryOne_81 (lv_at hl 0 rfl) ?_
      obtain ⟨g34, h0⟩ := fo_gd h0 hN0
      refine lv_lrem hx hb dX6_tryOne_83 g34 ?_
      refine lv_lconst (v := 0) hx hb dX6_tryOne_84 (by decide) ?_
      refine W.lcmp hx hb dX6_tryOne_85 ?_
      have J94 : ∀ j94 : Int64, r_tryOne_J94 σ a1 w7 j94 = some res → ∀ (H : Heap) (locs : List Loc) (ls : Array Slot), va_P D vwCl (fo_vx 25 ad (fr_ce ca ad w7)) H → va_S (fo_A 25 ad s.heap.size) s.heap H locs → lv_has ls 13 [(0, .ref (ad (fr_lay 0 0))), (1, .int a1), (2, .int (σ.1 3 0 a1.toNatClampNeg)), (3, .long ((σ.1 9 0 a1.toNatClampNeg).toInt64)), (5, .long (((σ.1 8 0 a1.toNatClampNeg).toInt64) * ((σ.1 9 0 a1.toNatClampNeg).toInt64))), (7, .long ((σ.2 0 0 25) * ((σ.1 9 0 a1.toNatClampNeg).toInt64)))] → W p l e R s m args below meth c H locs 0 0 Q (F0 m 94 ls [.long j94, .long (((σ.2 0 0 25) * ((σ.1 9 0 a1.toNatClampNeg).toInt64)) / ((w7.2 0 0 26) - ((σ.1 9 0 a1.toNatClampNeg).toInt64)))]) := by
        intro j94 h0 H locs ls hP hS hl
        unfold r_tryOne_J94 at h0
        refine lv_ladd hx hb dX6_tryOne_94 ?_
        refine lv_lstore (lv' := [(11, .long ((((σ.2 0 0 25) * ((σ.1 9 0 a1.toNatClampNeg).toInt64)) / ((w7.2 0 0 26) - ((σ.1 9 0 a1.toNatClampNeg).toInt64))) + j94)), (0, .ref (ad (fr_lay 0 0))), (1, .int a1), (2, .int (σ.1 3 0 a1.toNatClampNeg)), (3, .long ((σ.1 9 0 a1.toNatClampNeg).toInt64)), (5, .long (((σ.1 8 0 a1.toNatClampNeg).toInt64) * ((σ.1 9 0 a1.toNatClampNeg).toInt64))), (7, .long ((σ.2 0 0 25) * ((σ.1 9 0 a1.toNatClampNeg).toInt64)))]) hx hb dX6_tryOne_95 hl (by decide) rfl (fun ls hl => ?_)
        refine lv_lload hx hb dX6_tryOne_97 (lv_at hl 0 rfl) ?_
        refine lv_lload hx hb dX6_tryOne_99 (lv_at hl 5 rfl) ?_
        refine W.lcmp hx hb dX6_tryOne_101 ?_
        refine lv_if_gt (tgt := 175) hx hb dX6_tryOne_102 (by decide) (fun c35 => ?_) (fun c35 => ?_)
        · replace h0 := fo_itT c35 h0
          exact J175 _ h0 _ _ ls hP hS (lv_sub hl [1, 2, 3, 4, 5, 6] rfl)
        · replace h0 := fo_itF c35 h0
          refine lv_lload hx hb dX6_tryOne_105 (lv_at hl 0 rfl) ?_
          refine lv_aload_n hx hb dX6_tryOne_107 rfl (lv_at hl 1 rfl) ?_
          refine fr_g6_58 hx hb hT hown hK hP (by decide) dX6_tryOne_108 ?_
          refine lv_iload_n hx hb dX6_tryOne_111 rfl (lv_at hl 3 rfl) ?_
          obtain ⟨g36, h0⟩ := fo_gd h0 hN0
          refine fr_lald (k := 15) (n := 8) hx hb hK hP (by decide) (by decide) (fun _ _ => rfl) g36 dX6_tryOne_112 ?_
          refine W.lcmp hx hb dX6_tryOne_113 ?_
          refine lv_if_gt (tgt := 175) hx hb dX6_tryOne_114 (by decide) (fun c37 => ?_) (fun c37 => ?_)
          · replace h0 := fo_itT c37 h0
            exact J175 _ h0 _ _ ls hP hS (lv_sub hl [1, 2, 3, 4, 5, 6] rfl)
          · replace h0 := fo_itF c37 h0
            refine lv_aload_n hx hb dX6_tryOne_117 rfl (lv_at hl 1 rfl) ?_
            refine fr_g6_64 hx hb hT hown hK hP (by decide) dX6_tryOne_118 ?_
            refine lv_iload_n hx hb dX6_tryOne_121 rfl (lv_at hl 2 rfl) ?_
            refine lv_lload_n hx hb dX6_tryOne_122 rfl (lv_at hl 4 rfl) ?_
            refine lv_l2i hx hb dX6_tryOne_123 rfl ?_
            obtain ⟨g38, h0⟩ := fo_gd h0 hN0
            refine fr_iast (k := 17) (n := 16) hx hb hK hP hD hS (by decide) (by decide) (fun _ _ => rfl) g38 dX6_tryOne_124 (fun H locs hP hS => ?_)
            obtain ⟨w39, hw39, h0⟩ := fo_bd h0 hN0
            replace hw39 := Option.some.inj hw39
            rw [hw39] at hP
            refine lv_aload_n hx hb dX6_tryOne_125 rfl (lv_at hl 1 rfl) ?_
            refine fr_g6_67 hx hb hT hown hK hP (by decide) dX6_tryOne_126 ?_
            refine lv_iload_n hx hb dX6_tryOne_129 rfl (lv_at hl 2 rfl) ?_
            refine lv_lload hx hb dX6_tryOne_130 (lv_at hl 0 rfl) ?_
            obtain ⟨g40, h0⟩ := fo_gd h0 hN0
            refine fr_last (k := 18) (n := 16) hx hb hK hP hD hS (by decide) (by decide) (fun _ _ => rfl) g40 dX6_tryOne_132 (fun H locs hP hS => ?_)
            obtain ⟨w41, hw41, h0⟩ := fo_bd h0 hN0
            replace hw41 := Option.some.inj hw41
            rw [hw41] at hP
            refine lv_aload_n hx hb dX6_tryOne_133 rfl (lv_at hl 1 rfl) ?_
            refine fr_g6_58 hx hb hT hown hK hP (by decide) dX6_tryOne_134 ?_
            refine lv_iload_n hx hb dX6_tryOne_137 rfl (lv_at hl 3 rfl) ?_
            refine lv_dup2_11 hx hb dX6_tryOne_138 rfl rfl ?_
            obtain ⟨g42, h0⟩ := fo_gd h0 hN0
            refine fr_lald (k := 15) (n := 8) hx hb hK hP (by decide) (by decide) (fun _ _ => rfl) g42 dX6_tryOne_139 ?_
            refine lv_lload hx hb dX6_tryOne_140 (lv_at hl 0 rfl) ?_
            refine lv_lsub hx hb dX6_tryOne_142 ?_
            obtain ⟨g43, h0⟩ := fo_gd h0 hN0
            refine fr_last (k := 15) (n := 8) hx hb hK hP hD hS (by decide) (by decide) (fun _ _ => rfl) g43 dX6_tryOne_143 (fun H locs hP hS => ?_)
            obtain ⟨w44, hw44, h0⟩ := fo_bd h0 hN0
            replace hw44 := Option.some.inj hw44
            rw [hw44] at hP
            refine lv_aload_n hx hb dX6_tryOne_144 rfl (lv_at hl 1 rfl) ?_
            refine fr_g6_61 hx hb hT hown hK hP (by decide) dX6_tryOne_145 ?_
            refine lv_iload_n hx hb dX6_tryOne_148 rfl (lv_at hl 3 rfl) ?_
            refine lv_dup2_11 hx hb dX6_tryOne_149 rfl rfl ?_
            obtain ⟨g45, h0⟩ := fo_gd h0 hN0
            refine fr_lald (k := 16) (n := 8) hx hb hK hP (by decide) (by decide) (fun _ _ => rfl) g45 dX6_tryOne_150 ?_
            refine lv_lload_n hx hb dX6_tryOne_151 rfl (lv_at hl 4 rfl) ?_
            refine lv_ladd hx hb dX6_tryOne_152 ?_
            obtain ⟨g46, h0⟩ := fo_gd h0 hN0
            refine fr_last (k := 16) (n := 8) hx hb hK hP hD hS (by decide) (by decide) (fun _ _ => rfl) g46 dX6_tryOne_153 (fun H locs hP hS => ?_)
            obtain ⟨w47, hw47, h0⟩ := fo_bd h0 hN0
            replace hw47 := Option.some.inj hw47
            rw [hw47] at hP
            refine lv_aload_n hx hb dX6_tryOne_154 rfl (lv_at hl 1 rfl) ?_
            refine lv_dup hx hb dX6_tryOne_155 rfl ?_
            refine fr_g6_182 hx hb hT hown hK hP (by decide) dX6_tryOne_156 ?_
            refine lv_lload hx hb dX6_tryOne_159 (lv_at hl 0 rfl) ?_
            refine lv_ladd hx hb dX6_tryOne_161 ?_
            refine fr_p6_182 hx hb hT hown hK hP hD hS (by decide) dX6_tryOne_162 (fun H locs hP hS => ?_)
            obtain ⟨w48, hw48, h0⟩ := fo_bd h0 hN0
            replace hw48 := Option.some.inj hw48
            rw [hw48] at hP
            refine lv_aload_n hx hb dX6_tryOne_165 rfl (lv_at hl 1 rfl) ?_
            refine lv_dup hx hb dX6_tryOne_166 rfl ?_
            refine fr_g6_185 hx hb hT hown hK hP (by decide) dX6_tryOne_167 ?_
            refine lv_lload_n hx hb dX6_tryOne_170 rfl (lv_at hl 4 rfl) ?_
            refine lv_lsub hx hb dX6_tryOne_171 ?_
            refine fr_p6_185 hx hb hT hown hK hP hD hS (by decide) dX6_tryOne_172 (fun H locs hP hS => ?_)
            obtain ⟨w49, hw49, h0⟩ := fo_bd h0 hN0
            replace hw49 := Option.some.inj hw49
            rw [hw49] at hP
            exact J175 _ h0 _ _ ls hP hS (lv_sub hl [1, 2, 3, 4, 5, 6] rfl)
      refine lv_if_le (tgt := 93) hx hb dX6_tryOne_86 (by decide) (fun c50 => ?_) (fun c50 => ?_)
      · replace h0 := fo_itT c50 h0
        refine lv_lconst (v := 0) hx hb dX6_tryOne_93 (by decide) ?_
        exact J94 _ h0 _ _ ls hP hS (lv_sub hl [5, 6, 4, 3, 2, 1] rfl)
      · replace h0 := fo_itF c50 h0
        refine lv_lconst (v := 1) hx hb dX6_tryOne_89 (by decide) ?_
        refine lv_goto (tgt := 94) hx hb dX6_tryOne_90 (by decide) ?_
        exact J94 _ h0 _ _ ls hP hS (lv_sub hl [5, 6, 4, 3, 2, 1] rfl)
theorem c_r_tryOne (l : Launch) (D : va_G) (ca : Nat → ClassId) (ad : Nat → Nat) (sz : Nat) {σ : fo_S} {a1 : Int32}  {res : fo_S} (h0 : r_tryOne σ a1 = some res) : Met l yX6_tryOne ws_r_tryOne rm_r_tryOne (fo_Pre 25 D vwCl (fr_tys ca) ad (fr_ce ca ad σ) sz [.ref (ad (fr_lay 0 0)), .int a1]) (fo_PoV 25 D vwCl (fr_tys ca) ad (fr_ce ca ad res) sz) 0 0 (fo_A 25 ad sz) :=
  fr_mkV (by decide) (fun C0 kr hP => b_r_tryOne C0 (Nat.le_refl _) (Nat.le_refl _) (Nat.zero_le _)  h0 kr hP)
def r_tryAll_L2  (s2 : Int32 × fo_S) : Option ((Int32 × fo_S) ⊕ (Int32 × fo_S)) :=
  if (s2.2.1 0 0 0) ≤ s2.1 then (some (.inr (s2.1, s2.2))) else (if fo_vi s2.1 8 then ( if fo_vi s2.1 8 then ( if fo_vi s2.1 8 then ( if fo_vi s2.1 8 then (some (.inl (s2.1 + (1 : Int32), fo_pJ (fo_pJ s2.2 15 0 s2.1.toNatClampNeg (s2.2.2 1 0 s2.1.toNatClampNeg)) 16 0 s2.1.toNatClampNeg ((fo_pJ s2.2 15 0 s2.1.toNatClampNeg (s2.2.2 1 0 s2.1.toNatClampNeg)).2 2 0 s2.1.toNatClampNeg)))) else none) else none) else none) else none)
def r_tryAll_L58  (s58 : Int32 × fo_S) : Option ((Int32 × fo_S) ⊕ (Int32 × fo_S)) :=
  if (s58.2.1 0 0 17) ≤ s58.1 then (some (.inr (s58.1, s58.2))) else (if fo_vi s58.1 16 then ( (r_tryOne s58.2 (s58.2.1 14 0 s58.1.toNatClampNeg)).bind (fun x10 => some (.inl (s58.1 + (1 : Int32), x10)))) else none)
def r_tryAll (σ : fo_S)  : Option (fo_S) :=
  (fo_lp (r_tryAll_L2) fo_FU ((0 : Int32), σ)).bind (fun y2 => (fo_lp (r_tryAll_L58) fo_FU ((0 : Int32), fo_pJ (fo_pJ y2.2 0 0 25 (y2.2.2 0 0 3)) 0 0 26 ((fo_pJ y2.2 0 0 25 (y2.2.2 0 0 3)).2 0 0 4))).bind (fun y58 => some y58.2))
set_option maxHeartbeats 4000000 in
set_option maxRecDepth 100000 in
theorem b_r_tryAll {p : Program} {l : Launch} {e : Env} {R : Room} {s : State} {m : MethodId} {args : Array Value} {below : List Frame} {meth : Method} {c : Code} {Q : State → Prop} {D : va_G} {ca : Nat → ClassId} {ad : Nat → Nat} (C0 : fr_CX p s m args c cX6_tryAll 2 RX6 D ca ad) (hRf : 1 ≤ R.frames) (hRl : 32 ≤ R.locals) (hRc : 0 ≤ R.cells) {σ : fo_S}   {res : fo_S} (h0 : r_tryAll σ = some res) (kr : ∀ (pc : Nat) (ls : Array Slot) (H : Heap) (locs : List Loc), decode cX6_tryAll pc = .ok (.return_, 1) → va_P D vwCl (fo_vx 25 ad (fr_ce ca ad res)) H → va_S (fo_A 25 ad s.heap.size) s.heap H locs → W p l e R s m args below meth c H locs 0 0 Q (F0 m pc ls [])) (hP : va_P D vwCl (fo_vx 25 ad (fr_ce ca ad σ)) s.heap) : W p l e R s m args below meth c s.heap [] 0 0 Q (entryFrame m ([.ref (ad (fr_lay 0 0))] : List Value).toArray 2) := by
  obtain ⟨hx, hb, hml, hown, hT, hK, hD⟩ := C0
  have hN0 : (some res) ≠ none := fun q => by cases q
  unfold r_tryAll at h0
  have hS : va_S (fo_A 25 ad s.heap.size) s.heap s.heap [] := va_S.rf
  have hl := lv_entry ([.ref (ad (fr_lay 0 0))]) (n := 2) (Nat.le_of_ble_eq_true rfl)
  rw [lg_entry_eq]
  generalize (lg_sl ([.ref (ad (fr_lay 0 0))]) ++ List.replicate (2 - (lg_sl ([.ref (ad (fr_lay 0 0))])).length) Slot.unset).toArray = ls at hl ⊢
  have hl : lv_has ls 2 [(0, .ref (ad (fr_lay 0 0)))] := hl
  refine lv_iconst (v := 0) hx hb dX6_tryAll_0 (by decide) ?_
  refine lv_istore_n (lv' := [(1, .int (0 : Int32)), (0, .ref (ad (fr_lay 0 0)))]) hx hb dX6_tryAll_1 rfl hl (by decide) rfl (fun ls hl => ?_)
  obtain ⟨y2, hy2, h0⟩ := fo_bd h0 hN0
  have ex2 : ∀ (H : Heap) (locs : List Loc) (ls : Array Slot), va_P D vwCl (fo_vx 25 ad (fr_ce ca ad y2.2)) H → va_S (fo_A 25 ad s.heap.size) s.heap H locs → lv_has ls 2 [(0, .ref (ad (fr_lay 0 0)))] → W p l e R s m args below meth c H locs 0 0 Q (F0 m 40 ls []) := by
    intro H locs ls hP hS hl
    refine lv_aload_n hx hb dX6_tryAll_40 rfl (lv_at hl 0 rfl) ?_
    refine lv_aload_n hx hb dX6_tryAll_41 rfl (lv_at hl 0 rfl) ?_
    refine fr_g6_105 hx hb hT hown hK hP (by decide) dX6_tryAll_42 ?_
    refine fr_p6_182 hx hb hT hown hK hP hD hS (by decide) dX6_tryAll_45 (fun H locs hP hS => ?_)
    refine lv_aload_n hx hb dX6_tryAll_48 rfl (lv_at hl 0 rfl) ?_
    refine lv_aload_n hx hb dX6_tryAll_49 rfl (lv_at hl 0 rfl) ?_
    refine fr_g6_109 hx hb hT hown hK hP (by decide) dX6_tryAll_50 ?_
    refine fr_p6_185 hx hb hT hown hK hP hD hS (by decide) dX6_tryAll_53 (fun H locs hP hS => ?_)
    refine lv_iconst (v := 0) hx hb dX6_tryAll_56 (by decide) ?_
    refine lv_istore_n (lv' := [(1, .int (0 : Int32)), (0, .ref (ad (fr_lay 0 0)))]) hx hb dX6_tryAll_57 rfl hl (by decide) rfl (fun ls hl => ?_)
    obtain ⟨y58, hy58, h0⟩ := fo_bd h0 hN0
    have ex58 : ∀ (H : Heap) (locs : List Loc) (ls : Array Slot), va_P D vwCl (fo_vx 25 ad (fr_ce ca ad y58.2)) H → va_S (fo_A 25 ad s.heap.size) s.heap H locs → lv_has ls 2 [] → W p l e R s m args below meth c H locs 0 0 Q (F0 m 82 ls []) := by
      intro H locs ls hP hS hl
      have hr11 := Option.some.inj h0
      subst hr11
      exact kr _ ls _ _ dX6_tryAll_82 hP hS
    have lp58 := fo_lp_ind (fun (s58 : Int32 × fo_S) => ∀ (H : Heap) (locs : List Loc) (ls : Array Slot), va_P D vwCl (fo_vx 25 ad (fr_ce ca ad s58.2)) H → va_S (fo_A 25 ad s.heap.size) s.heap H locs → lv_has ls 2 [(0, .ref (ad (fr_lay 0 0))), (1, .int s58.1)] → W p l e R s m args below meth c H locs 0 0 Q (F0 m 58 ls [])) (by
        intro s58 o1 h1 hN1 hL1 hE1 H locs ls hP hS hl
        unfold r_tryAll_L58 at h1
        refine lv_iload_n hx hb dX6_tryAll_58 rfl (lv_at hl 1 rfl) ?_
        refine lv_aload_n hx hb dX6_tryAll_59 rfl (lv_at hl 0 rfl) ?_
        refine fr_g6_42 hx hb hT hown hK hP (by decide) dX6_tryAll_60 ?_
        refine lv_icmp_ge (tgt := 82) hx hb dX6_tryAll_63 (by decide) (fun c7 => ?_) (fun c7 => ?_)
        · replace h1 := fo_itT c7 h1
          have hy8 := hE1 _ h1
          subst hy8
          exact ex58 _ _ ls hP hS (lv_sub hl [] rfl)
        · replace h1 := fo_itF c7 h1
          refine lv_aload_n hx hb dX6_tryAll_66 rfl (lv_at hl 0 rfl) ?_
          refine lv_aload_n hx hb dX6_tryAll_67 rfl (lv_at hl 0 rfl) ?_
          refine fr_g6_55 hx hb hT hown hK hP (by decide) dX6_tryAll_68 ?_
          refine lv_iload_n hx hb dX6_tryAll_71 rfl (lv_at hl 1 rfl) ?_
          obtain ⟨g9, h1⟩ := fo_gd h1 hN1
          refine fr_iald (k := 14) (n := 16) hx hb hK hP (by decide) (by decide) (fun _ _ => rfl) g9 dX6_tryAll_72 ?_
          obtain ⟨x10, hx10, h1⟩ := fo_bd h1 hN1
          refine fo_callv (va_runV (H := _) (As := [.int (s58.2.1 14 0 s58.1.toNatClampNeg)]) (rest := []) ⟨hx, hb, hml, hown, hT⟩ (c_r_tryOne l D ca ad _ hx10) (fr_c6_188 hT ⟨Nat.le_trans (Nat.le_of_ble_eq_true rfl) hRf, Nat.le_trans (Nat.le_of_ble_eq_true rfl) hRl⟩) ⟨fo_Pre_blind, fr_rc0 hK hP (by decide), fo_Pre_at hP hK (hD _)⟩ rfl rfl hl.1 rfl (lv_room (Nat.le_of_ble_eq_true rfl)) dX6_tryAll_73 ⟨Nat.zero_le _, Nat.zero_le _⟩) hS (fun H locs hP hS => ?_)
          refine lv_iinc (v := s58.1 + (1 : Int32)) (lv' := [(1, .int (s58.1 + (1 : Int32))), (0, .ref (ad (fr_lay 0 0)))]) hx hb dX6_tryAll_76 hl (k := 1) rfl rfl (by decide) rfl (fun ls hl => ?_)
          refine lv_goto (tgt := 58) hx hb dX6_tryAll_79 (by decide) ?_
          exact hL1 _ h1 _ _ ls hP hS (lv_sub hl [1, 0] rfl)) _ _ hy58
    exact lp58 _ _ ls hP hS (lv_sub hl [1, 0] rfl)
  have lp2 := fo_lp_ind (fun (s2 : Int32 × fo_S) => ∀ (H : Heap) (locs : List Loc) (ls : Array Slot), va_P D vwCl (fo_vx 25 ad (fr_ce ca ad s2.2)) H → va_S (fo_A 25 ad s.heap.size) s.heap H locs → lv_has ls 2 [(0, .ref (ad (fr_lay 0 0))), (1, .int s2.1)] → W p l e R s m args below meth c H locs 0 0 Q (F0 m 2 ls [])) (by
      intro s2 o1 h1 hN1 hL1 hE1 H locs ls hP hS hl
      unfold r_tryAll_L2 at h1
      refine lv_iload_n hx hb dX6_tryAll_2 rfl (lv_at hl 1 rfl) ?_
      refine lv_aload_n hx hb dX6_tryAll_3 rfl (lv_at hl 0 rfl) ?_
      refine fr_g6_102 hx hb hT hown hK hP (by decide) dX6_tryAll_4 ?_
      refine lv_icmp_ge (tgt := 40) hx hb dX6_tryAll_7 (by decide) (fun c1 => ?_) (fun c1 => ?_)
      · replace h1 := fo_itT c1 h1
        have hy2 := hE1 _ h1
        subst hy2
        exact ex2 _ _ ls hP hS (lv_sub hl [0] rfl)
      · replace h1 := fo_itF c1 h1
        refine lv_aload_n hx hb dX6_tryAll_10 rfl (lv_at hl 0 rfl) ?_
        refine fr_g6_58 hx hb hT hown hK hP (by decide) dX6_tryAll_11 ?_
        refine lv_iload_n hx hb dX6_tryAll_14 rfl (lv_at hl 1 rfl) ?_
        refine lv_aload_n hx hb dX6_tryAll_15 rfl (lv_at hl 0 rfl) ?_
        refine fr_g6_7 hx hb hT hown hK hP (by decide) dX6_tryAll_16 ?_
        refine lv_iload_n hx hb dX6_tryAll_19 rfl (lv_at hl 1 rfl) ?_
        obtain ⟨g3, h1⟩ := fo_gd h1 hN1
        refine fr_lald (k := 1) (n := 8) hx hb hK hP (by decide) (by decide) (fun _ _ => rfl) g3 dX6_tryAll_20 ?_
        obtain ⟨g4, h1⟩ := fo_gd h1 hN1
        refine fr_last (k := 15) (n := 8) hx hb hK hP hD hS (by decide) (by decide) (fun _ _ => rfl) g4 dX6_tryAll_21 (fun H locs hP hS => ?_)
        refine lv_aload_n hx hb dX6_tryAll_22 rfl (lv_at hl 0 rfl) ?_
        refine fr_g6_61 hx hb hT hown hK hP (by decide) dX6_tryAll_23 ?_
        refine lv_iload_n hx hb dX6_tryAll_26 rfl (lv_at hl 1 rfl) ?_
        refine lv_aload_n hx hb dX6_tryAll_27 rfl (lv_at hl 0 rfl) ?_
        refine fr_g6_13 hx hb hT hown hK hP (by decide) dX6_tryAll_28 ?_
        refine lv_iload_n hx hb dX6_tryAll_31 rfl (lv_at hl 1 rfl) ?_
        obtain ⟨g5, h1⟩ := fo_gd h1 hN1
        refine fr_lald (k := 2) (n := 8) hx hb hK hP (by decide) (by decide) (fun _ _ => rfl) g5 dX6_tryAll_32 ?_
        obtain ⟨g6, h1⟩ := fo_gd h1 hN1
        refine fr_last (k := 16) (n := 8) hx hb hK hP hD hS (by decide) (by decide) (fun _ _ => rfl) g6 dX6_tryAll_33 (fun H locs hP hS => ?_)
        refine lv_iinc (v := s2.1 + (1 : Int32)) (lv' := [(1, .int (s2.1 + (1 : Int32))), (0, .ref (ad (fr_lay 0 0)))]) hx hb dX6_tryAll_34 hl (k := 1) rfl rfl (by decide) rfl (fun ls hl => ?_)
        refine lv_goto (tgt := 2) hx hb dX6_tryAll_37 (by decide) ?_
        exact hL1 _ h1 _ _ ls hP hS (lv_sub hl [1, 0] rfl)) _ _ hy2
  exact lp2 _ _ ls hP hS (lv_sub hl [1, 0] rfl)
theorem c_r_tryAll (l : Launch) (D : va_G) (ca : Nat → ClassId) (ad : Nat → Nat) (sz : Nat) {σ : fo_S}   {res : fo_S} (h0 : r_tryAll σ = some res) : Met l yX6_tryAll ws_r_tryAll rm_r_tryAll (fo_Pre 25 D vwCl (fr_tys ca) ad (fr_ce ca ad σ) sz [.ref (ad (fr_lay 0 0))]) (fo_PoV 25 D vwCl (fr_tys ca) ad (fr_ce ca ad res) sz) 0 0 (fo_A 25 ad sz) :=
  fr_mkV (by decide) (fun C0 kr hP => b_r_tryAll C0 (Nat.le_refl _) (Nat.le_refl _) (Nat.zero_le _)  h0 kr hP)
def r_begin_L7  (s7 : Int32 × fo_S) : Option ((Int32 × fo_S) ⊕ (Int32 × fo_S)) :=
  if (s7.2.1 0 0 8) ≤ s7.1 then (some (.inr (s7.1, s7.2))) else (if fo_vi s7.1 16 then ( if fo_vi s7.1 16 then (some (.inl (s7.1 + (1 : Int32), fo_pJ (fo_pI s7.2 12 0 s7.1.toNatClampNeg (0 : Int32)) 13 0 s7.1.toNatClampNeg (0 : Int64)))) else none) else none)
def r_begin (σ : fo_S)  : Option (fo_S) :=
  (fo_lp (r_begin_L7) fo_FU ((0 : Int32), fo_pI σ 0 0 19 (1 : Int32))).bind (fun y7 => some y7.2)
set_option maxHeartbeats 4000000 in
set_option maxRecDepth 100000 in
theorem b_r_begin {p : Program} {l : Launch} {e : Env} {R : Room} {s : State} {m : MethodId} {args : Array Value} {below : List Frame} {meth : Method} {c : Code} {Q : State → Prop} {D : va_G} {ca : Nat → ClassId} {ad : Nat → Nat} (C0 : fr_CX p s m args c cX6_begin 2 RX6 D ca ad) (hRf : 0 ≤ R.frames) (hRl : 0 ≤ R.locals) (hRc : 0 ≤ R.cells) {σ : fo_S}   {res : fo_S} (h0 : r_begin σ = some res) (kr : ∀ (pc : Nat) (ls : Array Slot) (H : Heap) (locs : List Loc), decode cX6_begin pc = .ok (.return_, 1) → va_P D vwCl (fo_vx 25 ad (fr_ce ca ad res)) H → va_S (fo_A 25 ad s.heap.size) s.heap H locs → W p l e R s m args below meth c H locs 0 0 Q (F0 m pc ls [])) (hP : va_P D vwCl (fo_vx 25 ad (fr_ce ca ad σ)) s.heap) : W p l e R s m args below meth c s.heap [] 0 0 Q (entryFrame m ([.ref (ad (fr_lay 0 0))] : List Value).toArray 2) := by
  obtain ⟨hx, hb, hml, hown, hT, hK, hD⟩ := C0
  have hN0 : (some res) ≠ none := fun q => by cases q
  unfold r_begin at h0
  have hS : va_S (fo_A 25 ad s.heap.size) s.heap s.heap [] := va_S.rf
  have hl := lv_entry ([.ref (ad (fr_lay 0 0))]) (n := 2) (Nat.le_of_ble_eq_true rfl)
  rw [lg_entry_eq]
  generalize (lg_sl ([.ref (ad (fr_lay 0 0))]) ++ List.replicate (2 - (lg_sl ([.ref (ad (fr_lay 0 0))])).length) Slot.unset).toArray = ls at hl ⊢
  have hl : lv_has ls 2 [(0, .ref (ad (fr_lay 0 0)))] := hl
  refine lv_aload_n hx hb dX6_begin_0 rfl (lv_at hl 0 rfl) ?_
  refine lv_iconst (v := 1) hx hb dX6_begin_1 (by decide) ?_
  refine fr_p6_95 hx hb hT hown hK hP hD hS (by decide) rfl rfl dX6_begin_2 (fun H locs hP hS => ?_)
  refine lv_iconst (v := 0) hx hb dX6_begin_5 (by decide) ?_
  refine lv_istore_n (lv' := [(1, .int (0 : Int32)), (0, .ref (ad (fr_lay 0 0)))]) hx hb dX6_begin_6 rfl hl (by decide) rfl (fun ls hl => ?_)
  obtain ⟨y7, hy7, h0⟩ := fo_bd h0 hN0
  have ex7 : ∀ (H : Heap) (locs : List Loc) (ls : Array Slot), va_P D vwCl (fo_vx 25 ad (fr_ce ca ad y7.2)) H → va_S (fo_A 25 ad s.heap.size) s.heap H locs → lv_has ls 2 [] → W p l e R s m args below meth c H locs 0 0 Q (F0 m 35 ls []) := by
    intro H locs ls hP hS hl
    have hr5 := Option.some.inj h0
    subst hr5
    exact kr _ ls _ _ dX6_begin_35 hP hS
  have lp7 := fo_lp_ind (fun (s7 : Int32 × fo_S) => ∀ (H : Heap) (locs : List Loc) (ls : Array Slot), va_P D vwCl (fo_vx 25 ad (fr_ce ca ad s7.2)) H → va_S (fo_A 25 ad s.heap.size) s.heap H locs → lv_has ls 2 [(0, .ref (ad (fr_lay 0 0))), (1, .int s7.1)] → W p l e R s m args below meth c H locs 0 0 Q (F0 m 7 ls [])) (by
      intro s7 o1 h1 hN1 hL1 hE1 H locs ls hP hS hl
      unfold r_begin_L7 at h1
      refine lv_iload_n hx hb dX6_begin_7 rfl (lv_at hl 1 rfl) ?_
      refine lv_aload_n hx hb dX6_begin_8 rfl (lv_at hl 0 rfl) ?_
      refine fr_g6_88 hx hb hT hown hK hP (by decide) dX6_begin_9 ?_
      refine lv_icmp_ge (tgt := 35) hx hb dX6_begin_12 (by decide) (fun c1 => ?_) (fun c1 => ?_)
      · replace h1 := fo_itT c1 h1
        have hy2 := hE1 _ h1
        subst hy2
        exact ex7 _ _ ls hP hS (lv_sub hl [] rfl)
      · replace h1 := fo_itF c1 h1
        refine lv_aload_n hx hb dX6_begin_15 rfl (lv_at hl 0 rfl) ?_
        refine fr_g6_49 hx hb hT hown hK hP (by decide) dX6_begin_16 ?_
        refine lv_iload_n hx hb dX6_begin_19 rfl (lv_at hl 1 rfl) ?_
        refine lv_iconst (v := 0) hx hb dX6_begin_20 (by decide) ?_
        obtain ⟨g3, h1⟩ := fo_gd h1 hN1
        refine fr_iast (k := 12) (n := 16) hx hb hK hP hD hS (by decide) (by decide) (fun _ _ => rfl) g3 dX6_begin_21 (fun H locs hP hS => ?_)
        refine lv_aload_n hx hb dX6_begin_22 rfl (lv_at hl 0 rfl) ?_
        refine fr_g6_52 hx hb hT hown hK hP (by decide) dX6_begin_23 ?_
        refine lv_iload_n hx hb dX6_begin_26 rfl (lv_at hl 1 rfl) ?_
        refine lv_lconst (v := 0) hx hb dX6_begin_27 (by decide) ?_
        obtain ⟨g4, h1⟩ := fo_gd h1 hN1
        refine fr_last (k := 13) (n := 16) hx hb hK hP hD hS (by decide) (by decide) (fun _ _ => rfl) g4 dX6_begin_28 (fun H locs hP hS => ?_)
        refine lv_iinc (v := s7.1 + (1 : Int32)) (lv' := [(1, .int (s7.1 + (1 : Int32))), (0, .ref (ad (fr_lay 0 0)))]) hx hb dX6_begin_29 hl (k := 1) rfl rfl (by decide) rfl (fun ls hl => ?_)
        refine lv_goto (tgt := 7) hx hb dX6_begin_32 (by decide) ?_
        exact hL1 _ h1 _ _ ls hP hS (lv_sub hl [1, 0] rfl)) _ _ hy7
  exact lp7 _ _ ls hP hS (lv_sub hl [1, 0] rfl)
theorem c_r_begin (l : Launch) (D : va_G) (ca : Nat → ClassId) (ad : Nat → Nat) (sz : Nat) {σ : fo_S}   {res : fo_S} (h0 : r_begin σ = some res) : Met l yX6_begin ws_r_begin rm_r_begin (fo_Pre 25 D vwCl (fr_tys ca) ad (fr_ce ca ad σ) sz [.ref (ad (fr_lay 0 0))]) (fo_PoV 25 D vwCl (fr_tys ca) ad (fr_ce ca ad res) sz) 0 0 (fo_A 25 ad sz) :=
  fr_mkV (by decide) (fun C0 kr hP => b_r_begin C0 (Nat.le_refl _) (Nat.le_refl _) (Nat.zero_le _)  h0 kr hP)
