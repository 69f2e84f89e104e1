def q_Market_makeEmpty (σ : fo_S) (i0 : Nat) : Option (fo_S) :=
  some (fo_rJ (fo_rJ σ 2 i0 (fo_fil (σ.2 2 i0) 9 (0 : Int64))) 3 i0 (fo_fil ((fo_rJ σ 2 i0 (fo_fil (σ.2 2 i0) 9 (0 : Int64))).2 3 i0) 9 (0 : Int64)))
set_option maxHeartbeats 4000000 in
set_option maxRecDepth 100000 in
theorem b_q_Market_makeEmpty {p : Program} {l : Launch} {e : Env} {R : Room} {s : State} {m : MethodId} {args : Array Value} {below : List Frame} {meth : Method} {c : Code} {Q : State → Prop} {D : va_G} {ca : Nat → ClassId} {ad : Nat → Nat} (C0 : fo_CX p s m args c cX2_makeEmpty 1 RX2 D ca ad) (hRf : 1 ≤ R.frames) (hRl : 24 ≤ R.locals) (hRc : 0 ≤ R.cells) {σ : fo_S} {i0 : Nat} (hi0 : i0 < 2) {res : fo_S} (h0 : q_Market_makeEmpty σ i0 = some res) (kr : ∀ (pc : Nat) (ls : Array Slot) (H : Heap) (locs : List Loc), decode cX2_makeEmpty pc = .ok (.return_, 1) → va_P D vwCl (fo_vx 51 ad (fo_ce ca ad res)) H → va_S (fo_A 51 ad s.heap.size) s.heap H locs → W p l e R s m args below meth c H locs 0 0 Q (F0 m pc ls [])) (hP : va_P D vwCl (fo_vx 51 ad (fo_ce ca ad σ)) s.heap) : W p l e R s m args below meth c s.heap [] 0 0 Q (entryFrame m ([.ref (ad (fo_lay 1 i0))] : List Value).toArray 1) := by
  obtain ⟨hx, hb, hml, hown, hT, hK, hD⟩ := C0
  have hN0 : (some res) ≠ none := fun q => by cases q
  unfold q_Market_makeEmpty at h0
  have hS : va_S (fo_A 51 ad s.heap.size) s.heap s.heap [] := va_S.rf
  have hl := lv_entry ([.ref (ad (fo_lay 1 i0))]) (n := 1) (Nat.le_of_ble_eq_true rfl)
  rw [lg_entry_eq]
  generalize (lg_sl ([.ref (ad (fo_lay 1 i0))]) ++ List.replicate (1 - (lg_sl ([.ref (ad (fo_lay 1 i0))])).length) Slot.unset).toArray = ls at hl ⊢
  have hl : lv_has ls 1 [(0, .ref (ad (fo_lay 1 i0)))] := hl
  refine lv_aload_n hx hb dX2_makeEmpty_0 rfl (lv_at hl 0 rfl) ?_
  refine fo_g2_9 hx hb hT hown hK hP hi0 dX2_makeEmpty_1 ?_
  refine lv_lconst (v := 0) hx hb dX2_makeEmpty_4 (by decide) ?_
  refine fo_callv (va_runS (H := _) (As := [.ref (ad (fo_lay 2 i0)), .long (0 : Int64)]) (rest := []) ⟨hx, hb, hml, hown, hT⟩ (c_q_fillJ l D ca ad _ (k := 2) (n := 9) (by decide) hi0 (fun _ _ => rfl) (by decide)) (fo_c2_18 hT ⟨Nat.le_trans (Nat.le_of_ble_eq_true rfl) hRf, Nat.le_trans (Nat.le_of_ble_eq_true rfl) hRl⟩) ⟨fo_Pre_blind, fo_Pre_at hP hK (hD _)⟩ rfl rfl hl.1 rfl (lv_room (Nat.le_of_ble_eq_true rfl)) dX2_makeEmpty_5 ⟨Nat.zero_le _, Nat.zero_le _⟩) hS (fun H locs hP hS => ?_)
  refine lv_aload_n hx hb dX2_makeEmpty_8 rfl (lv_at hl 0 rfl) ?_
  refine fo_g2_15 hx hb hT hown hK hP hi0 dX2_makeEmpty_9 ?_
  refine lv_lconst (v := 0) hx hb dX2_makeEmpty_12 (by decide) ?_
  refine fo_callv (va_runS (H := _) (As := [.ref (ad (fo_lay 3 i0)), .long (0 : Int64)]) (rest := []) ⟨hx, hb, hml, hown, hT⟩ (c_q_fillJ l D ca ad _ (k := 3) (n := 9) (by decide) hi0 (fun _ _ => rfl) (by decide)) (fo_c2_18 hT ⟨Nat.le_trans (Nat.le_of_ble_eq_true rfl) hRf, Nat.le_trans (Nat.le_of_ble_eq_true rfl) hRl⟩) ⟨fo_Pre_blind, fo_Pre_at hP hK (hD _)⟩ rfl rfl hl.1 rfl (lv_room (Nat.le_of_ble_eq_true rfl)) dX2_makeEmpty_13 ⟨Nat.zero_le _, Nat.zero_le _⟩) hS (fun H locs hP hS => ?_)
  have hr1 := Option.some.inj h0
  subst hr1
  exact kr _ ls _ _ dX2_makeEmpty_16 hP hS
theorem c_q_Market_makeEmpty (l : Launch) (D : va_G) (ca : Nat → ClassId) (ad : Nat → Nat) (sz : Nat) {σ : fo_S} {i0 : Nat} (hi0 : i0 < 2) {res : fo_S} (h0 : q_Market_makeEmpty σ i0 = some res) : Met l yX2_makeEmpty ws_q_Market_makeEmpty rm_q_Market_makeEmpty (fo_Pre 51 D vwCl (fo_tys ca) ad (fo_ce ca ad σ) sz [.ref (ad (fo_lay 1 i0))]) (fo_PoV 51 D vwCl (fo_tys ca) ad (fo_ce ca ad res) sz) 0 0 (fo_A 51 ad sz) :=
  fo_mkV (by decide) (fun C0 kr hP => b_q_Market_makeEmpty C0 (Nat.le_refl _) (Nat.le_refl _) (Nat.zero_le _) hi0 h0 kr hP)
def q_FairOrder_beginBlock (σ : fo_S)  : Option (fo_S) :=
  some (fo_pI (fo_pI (fo_pI (fo_pI (fo_pI σ 0 0 9 (0 : Int32)) 0 0 10 (0 : Int32)) 5 0 1 (0 : Int32)) 0 0 13 (0 : Int32)) 0 0 14 (0 : Int32))
set_option maxHeartbeats 4000000 in
set_option maxRecDepth 100000 in
theorem b_q_FairOrder_beginBlock {p : Program} {l : Launch} {e : Env} {R : Room} {s : State} {m : MethodId} {args : Array Value} {below : List Frame} {meth : Method} {c : Code} {Q : State → Prop} {D : va_G} {ca : Nat → ClassId} {ad : Nat → Nat} (C0 : fo_CX p s m args c cX0_beginBlock 1 RX0 D ca ad) (hRf : 0 ≤ R.frames) (hRl : 0 ≤ R.locals) (hRc : 0 ≤ R.cells) {σ : fo_S}   {res : fo_S} (h0 : q_FairOrder_beginBlock σ = some res) (kr : ∀ (pc : Nat) (ls : Array Slot) (H : Heap) (locs : List Loc), decode cX0_beginBlock pc = .ok (.return_, 1) → va_P D vwCl (fo_vx 51 ad (fo_ce ca ad res)) H → va_S (fo_A 51 ad s.heap.size) s.heap H locs → W p l e R s m args below meth c H locs 0 0 Q (F0 m pc ls [])) (hP : va_P D vwCl (fo_vx 51 ad (fo_ce ca ad σ)) s.heap) : W p l e R s m args below meth c s.heap [] 0 0 Q (entryFrame m ([.ref (ad (fo_lay 0 0))] : List Value).toArray 1) := by
  obtain ⟨hx, hb, hml, hown, hT, hK, hD⟩ := C0
  have hN0 : (some res) ≠ none := fun q => by cases q
  unfold q_FairOrder_beginBlock at h0
  have hS : va_S (fo_A 51 ad s.heap.size) s.heap s.heap [] := va_S.rf
  have hl := lv_entry ([.ref (ad (fo_lay 0 0))]) (n := 1) (Nat.le_of_ble_eq_true rfl)
  rw [lg_entry_eq]
  generalize (lg_sl ([.ref (ad (fo_lay 0 0))]) ++ List.replicate (1 - (lg_sl ([.ref (ad (fo_lay 0 0))])).length) Slot.unset).toArray = ls at hl ⊢
  have hl : lv_has ls 1 [(0, .ref (ad (fo_lay 0 0)))] := hl
  refine lv_aload_n hx hb dX0_beginBlock_0 rfl (lv_at hl 0 rfl) ?_
  refine lv_iconst (v := 0) hx hb dX0_beginBlock_1 (by decide) ?_
  refine fo_p0_96 hx hb hT hown hK hP hD hS (by decide) dX0_beginBlock_2 (fun H locs hP hS => ?_)
  refine lv_aload_n hx hb dX0_beginBlock_5 rfl (lv_at hl 0 rfl) ?_
  refine lv_iconst (v := 0) hx hb dX0_beginBlock_6 (by decide) ?_
  refine fo_p0_93 hx hb hT hown hK hP hD hS (by decide) dX0_beginBlock_7 (fun H locs hP hS => ?_)
  refine lv_aload_n hx hb dX0_beginBlock_10 rfl (lv_at hl 0 rfl) ?_
  refine fo_g0_28 hx hb hT hown hK hP (by decide) dX0_beginBlock_11 ?_
  refine lv_iconst (v := 0) hx hb dX0_beginBlock_14 (by decide) ?_
  refine fo_p0_134 hx hb hT hown hK hP hD hS (by decide) dX0_beginBlock_15 (fun H locs hP hS => ?_)
  refine lv_aload_n hx hb dX0_beginBlock_18 rfl (lv_at hl 0 rfl) ?_
  refine lv_iconst (v := 0) hx hb dX0_beginBlock_19 (by decide) ?_
  refine fo_p0_156 hx hb hT hown hK hP hD hS (by decide) rfl rfl dX0_beginBlock_20 (fun H locs hP hS => ?_)
  refine lv_aload_n hx hb dX0_beginBlock_23 rfl (lv_at hl 0 rfl) ?_
  refine lv_iconst (v := 0) hx hb dX0_beginBlock_24 (by decide) ?_
  refine fo_p0_179 hx hb hT hown hK hP hD hS (by decide) rfl rfl dX0_beginBlock_25 (fun H locs hP hS => ?_)
  have hr1 := Option.some.inj h0
  subst hr1
  exact kr _ ls _ _ dX0_beginBlock_28 hP hS
theorem c_q_FairOrder_beginBlock (l : Launch) (D : va_G) (ca : Nat → ClassId) (ad : Nat → Nat) (sz : Nat) {σ : fo_S}   {res : fo_S} (h0 : q_FairOrder_beginBlock σ = some res) : Met l yX0_beginBlock ws_q_FairOrder_beginBlock rm_q_FairOrder_beginBlock (fo_Pre 51 D vwCl (fo_tys ca) ad (fo_ce ca ad σ) sz [.ref (ad (fo_lay 0 0))]) (fo_PoV 51 D vwCl (fo_tys ca) ad (fo_ce ca ad res) sz) 0 0 (fo_A 51 ad sz) :=
  fo_mkV (by decide) (fun C0 kr hP => b_q_FairOrder_beginBlock C0 (Nat.le_refl _) (Nat.le_refl _) (Nat.zero_le _)  h0 kr hP)
def q_FairOrder_clear (σ : fo_S)  : Option (Int32 × fo_S) :=
  (q_Market_makeEmpty (fo_pI σ 0 0 8 (0 : Int32)) 0).bind (fun x1 =>  (q_FairOrder_beginBlock (fo_pI (fo_pJ x1 0 0 12 (0 : Int64)) 0 0 11 (0 : Int32))).bind (fun x2 => some (σ.1 0 0 8, x2)))
set_option maxHeartbeats 4000000 in
set_option maxRecDepth 100000 in
theorem b_q_FairOrder_clear {p : Program} {l : Launch} {e : Env} {R : Room} {s : State} {m : MethodId} {args : Array Value} {below : List Frame} {meth : Method} {c : Code} {Q : State → Prop} {D : va_G} {ca : Nat → ClassId} {ad : Nat → Nat} (C0 : fo_CX p s m args c cX0_clear 2 RX0 D ca ad) (hRf : 2 ≤ R.frames) (hRl : 44 ≤ R.locals) (hRc : 0 ≤ R.cells) {σ : fo_S}   {res : Int32 × fo_S} (h0 : q_FairOrder_clear σ = some res) (kr : ∀ (pc : Nat) (ls : Array Slot) (H : Heap) (locs : List Loc), decode cX0_clear pc = .ok (.ireturn, 1) → va_P D vwCl (fo_vx 51 ad (fo_ce ca ad res.2)) H → va_S (fo_A 51 ad s.heap.size) s.heap H locs → W p l e R s m args below meth c H locs 0 0 Q (F0 m pc ls [.int res.1])) (hP : va_P D vwCl (fo_vx 51 ad (fo_ce ca ad σ)) s.heap) : W p l e R s m args below meth c s.heap [] 0 0 Q (entryFrame m ([.ref (ad (fo_lay 0 0))] : List Value).toArray 2) := by
  obtain ⟨hx, hb, hml, hown, hT, hK, hD⟩ := C0
  have hN0 : (some res) ≠ none := fun q => by cases q
  unfold q_FairOrder_clear at h0
  have hS : va_S (fo_A 51 ad s.heap.size) s.heap s.heap [] := va_S.rf
  have hl := lv_entry ([.ref (ad (fo_lay 0 0))]) (n := 2) (Nat.le_of_ble_eq_true rfl)
  rw [lg_entry_eq]
  generalize (lg_sl ([.ref (ad (fo_lay 0 0))]) ++ List.replicate (2 - (lg_sl ([.ref (ad (fo_lay 0 0))])).length) Slot.unset).toArray = ls at hl ⊢
  have hl : lv_has ls 2 [(0, .ref (ad (fo_lay 0 0)))] := hl
  refine lv_aload_n hx hb dX0_clear_0 rfl (lv_at hl 0 rfl) ?_
  refine fo_g0_54 hx hb hT hown hK hP (by decide) dX0_clear_1 ?_
  refine lv_istore_n (lv' := [(1, .int (σ.1 0 0 8)), (0, .ref (ad (fo_lay 0 0)))]) hx hb dX0_clear_4 rfl hl (by decide) rfl (fun ls hl => ?_)
  refine lv_aload_n hx hb dX0_clear_5 rfl (lv_at hl 1 rfl) ?_
  refine lv_iconst (v := 0) hx hb dX0_clear_6 (by decide) ?_
  refine fo_p0_54 hx hb hT hown hK hP hD hS (by decide) dX0_clear_7 (fun H locs hP hS => ?_)
  refine lv_aload_n hx hb dX0_clear_10 rfl (lv_at hl 1 rfl) ?_
  refine fo_g0_12 hx hb hT hown hK hP (by decide) dX0_clear_11 ?_
  obtain ⟨x1, hx1, h0⟩ := fo_bd h0 hN0
  refine fo_callv (va_runV (H := _) (As := []) (rest := []) ⟨hx, hb, hml, hown, hT⟩ (c_q_Market_makeEmpty l D ca ad _ (by decide) hx1) (fo_c0_58 hT ⟨Nat.le_trans (Nat.le_of_ble_eq_true rfl) hRf, Nat.le_trans (Nat.le_of_ble_eq_true rfl) hRl⟩) ⟨fo_Pre_blind, fo_rc1 hK hP (by decide), fo_Pre_at hP hK (hD _)⟩ rfl rfl hl.1 rfl (lv_room (Nat.le_of_ble_eq_true rfl)) dX0_clear_14 ⟨Nat.zero_le _, Nat.zero_le _⟩) hS (fun H locs hP hS => ?_)
  refine lv_aload_n hx hb dX0_clear_17 rfl (lv_at hl 1 rfl) ?_
  refine lv_lconst (v := 0) hx hb dX0_clear_18 (by decide) ?_
  refine fo_p0_61 hx hb hT hown hK hP hD hS (by decide) dX0_clear_19 (fun H locs hP hS => ?_)
  refine lv_aload_n hx hb dX0_clear_22 rfl (lv_at hl 1 rfl) ?_
  refine lv_iconst (v := 0) hx hb dX0_clear_23 (by decide) ?_
  refine fo_p0_65 hx hb hT hown hK hP hD hS (by decide) dX0_clear_24 (fun H locs hP hS => ?_)
  refine lv_aload_n hx hb dX0_clear_27 rfl (lv_at hl 1 rfl) ?_
  obtain ⟨x2, hx2, h0⟩ := fo_bd h0 hN0
  refine fo_callv (va_runV (H := _) (As := []) (rest := []) ⟨hx, hb, hml, hown, hT⟩ (c_q_FairOrder_beginBlock l D ca ad _ hx2) (fo_c0_68 hT ⟨Nat.le_trans (Nat.le_of_ble_eq_true rfl) hRf, Nat.le_trans (Nat.le_of_ble_eq_true rfl) hRl⟩) ⟨fo_Pre_blind, fo_rc0 hK hP (by decide), fo_Pre_at hP hK (hD _)⟩ rfl rfl hl.1 rfl (lv_room (Nat.le_of_ble_eq_true rfl)) dX0_clear_28 ⟨Nat.zero_le _, Nat.zero_le _⟩) hS (fun H locs hP hS => ?_)
  refine lv_iload_n hx hb dX0_clear_31 rfl (lv_at hl 0 rfl) ?_
  have hr3 := Option.some.inj h0
  subst hr3
  exact kr _ ls _ _ dX0_clear_32 hP hS
theorem c_q_FairOrder_clear (l : Launch) (D : va_G) (ca : Nat → ClassId) (ad : Nat → Nat) (sz : Nat) {σ : fo_S}   {res : Int32 × fo_S} (h0 : q_FairOrder_clear σ = some res) : Met l yX0_clear ws_q_FairOrder_clear rm_q_FairOrder_clear (fo_Pre 51 D vwCl (fo_tys ca) ad (fo_ce ca ad σ) sz [.ref (ad (fo_lay 0 0))]) (fo_PoI 51 D vwCl (fo_tys ca) ad (fo_ce ca ad res.2) sz res.1) 0 0 (fo_A 51 ad sz) :=
  fo_mkI (by decide) (fun C0 kr hP => b_q_FairOrder_clear C0 (Nat.le_refl _) (Nat.le_refl _) (Nat.zero_le _)  h0 kr hP)
def q_FairOrder_mayBeginWith (σ : fo_S) (a0 : Int64) : Option (Int32) :=
  if (lg_cmp a0 (0 : Int64)) < 0 then (some (0 : Int32)) else (if 0 < (lg_cmp a0 (1000000000 : Int64)) then (some (0 : Int32)) else (some (1 : Int32)))
set_option maxHeartbeats 4000000 in
set_option maxRecDepth 100000 in
theorem b_q_FairOrder_mayBeginWith {p : Program} {l : Launch} {e : Env} {R : Room} {s : State} {m : MethodId} {args : Array Value} {below : List Frame} {meth : Method} {c : Code} {Q : State → Prop} {D : va_G} {ca : Nat → ClassId} {ad : Nat → Nat} (C0 : fo_CX p s m args c cX0_mayBeginWith 2 RX0 D ca ad) (hRf : 0 ≤ R.frames) (hRl : 0 ≤ R.locals) (hRc : 0 ≤ R.cells) {σ : fo_S} {a0 : Int64}  {res : Int32} (h0 : q_FairOrder_mayBeginWith σ a0 = some res) (kr : ∀ (pc : Nat) (ls : Array Slot) (H : Heap) (locs : List Loc), narrow .boolean (.int res) = .int res → decode cX0_mayBeginWith pc = .ok (.ireturn, 1) → va_P D vwCl (fo_vx 51 ad (fo_ce ca ad σ)) H → va_S (fo_A 51 ad s.heap.size) s.heap H locs → W p l e R s m args below meth c H locs 0 0 Q (F0 m pc ls [.int res])) (hP : va_P D vwCl (fo_vx 51 ad (fo_ce ca ad σ)) s.heap) : W p l e R s m args below meth c s.heap [] 0 0 Q (entryFrame m ([.long a0] : List Value).toArray 2) := by
  obtain ⟨hx, hb, hml, hown, hT, hK, hD⟩ := C0
  have hN0 : (some res) ≠ none := fun q => by cases q
  unfold q_FairOrder_mayBeginWith at h0
  have hS : va_S (fo_A 51 ad s.heap.size) s.heap s.heap [] := va_S.rf
  have hl := lv_entry ([.long a0]) (n := 2) (Nat.le_of_ble_eq_true rfl)
  rw [lg_entry_eq]
  generalize (lg_sl ([.long a0]) ++ List.replicate (2 - (lg_sl ([.long a0])).length) Slot.unset).toArray = ls at hl ⊢
  have hl : lv_has ls 2 [(0, .long a0)] := hl
  refine lv_lload_n hx hb dX0_mayBeginWith_0 rfl (lv_at hl 0 rfl) ?_
  refine lv_lconst (v := 0) hx hb dX0_mayBeginWith_1 (by decide) ?_
  refine W.lcmp hx hb dX0_mayBeginWith_2 ?_
  refine lv_if_lt (tgt := 18) hx hb dX0_mayBeginWith_3 (by decide) (fun c1 => ?_) (fun c1 => ?_)
  · replace h0 := fo_itT c1 h0
    refine lv_iconst (v := 0) hx hb dX0_mayBeginWith_18 (by decide) ?_
    have hr2 := Option.some.inj h0
    subst hr2
    exact kr _ ls _ _ (fo_zn (Or.inl rfl)) dX0_mayBeginWith_19 hP hS
  · replace h0 := fo_itF c1 h0
    refine lv_lload_n hx hb dX0_mayBeginWith_6 rfl (lv_at hl 0 rfl) ?_
    refine lv_ldc2 (v := 1000000000) hx hb hown (fo_k0_238 hT) dX0_mayBeginWith_7 ?_
    refine W.lcmp hx hb dX0_mayBeginWith_10 ?_
    refine lv_if_gt (tgt := 18) hx hb dX0_mayBeginWith_11 (by decide) (fun c3 => ?_) (fun c3 => ?_)
    · replace h0 := fo_itT c3 h0
      refine lv_iconst (v := 0) hx hb dX0_mayBeginWith_18 (by decide) ?_
      have hr4 := Option.some.inj h0
      subst hr4
      exact kr _ ls _ _ (fo_zn (Or.inl rfl)) dX0_mayBeginWith_19 hP hS
    · replace h0 := fo_itF c3 h0
      refine lv_iconst (v := 1) hx hb dX0_mayBeginWith_14 (by decide) ?_
      refine lv_goto (tgt := 19) hx hb dX0_mayBeginWith_15 (by decide) ?_
      have hr5 := Option.some.inj h0
      subst hr5
      exact kr _ ls _ _ (fo_zn (Or.inr rfl)) dX0_mayBeginWith_19 hP hS
theorem c_q_FairOrder_mayBeginWith (l : Launch) (D : va_G) (ca : Nat → ClassId) (ad : Nat → Nat) (sz : Nat) {σ : fo_S} {a0 : Int64}  {res : Int32} (h0 : q_FairOrder_mayBeginWith σ a0 = some res) : Met l yX0_mayBeginWith ws_q_FairOrder_mayBeginWith rm_q_FairOrder_mayBeginWith (fo_Pre 51 D vwCl (fo_tys ca) ad (fo_ce ca ad σ) sz [.long a0]) (fo_PoI 51 D vwCl (fo_tys ca) ad (fo_ce ca ad σ) sz res) 0 0 (fo_A 51 ad sz) :=
  fo_mkZ (by decide) (fun C0 kr hP => b_q_FairOrder_mayBeginWith C0 (Nat.le_refl _) (Nat.le_refl _) (Nat.zero_le _)  h0 kr hP)
def q_Market_put (σ : fo_S) (i0 : Nat) (a1 : Int32) (a2 : Int64) (a3 : Int64) : Option (fo_S) :=
  if fo_vi a1 9 then ( if fo_vi a1 9 then (some (fo_pJ (fo_pJ σ 2 i0 a1.toNatClampNeg a2) 3 i0 a1.toNatClampNeg a3)) else none) else none
set_option maxHeartbeats 4000000 in
set_option maxRecDepth 100000 in
theorem b_q_Market_put {p : Program} {l : Launch} {e : Env} {R : Room} {s : State} {m : MethodId} {args : Array Value} {below : List Frame} {meth : Method} {c : Code} {Q : State → Prop} {D : va_G} {ca : Nat → ClassId} {ad : Nat → Nat} (C0 : fo_CX p s m args c cX2_put 6 RX2 D ca ad) (hRf : 0 ≤ R.frames) (hRl : 0 ≤ R.locals) (hRc : 0 ≤ R.cells) {σ : fo_S} {i0 : Nat} {a1 : Int32} {a2 : Int64} {a3 : Int64} (hi0 : i0 < 2) {res : fo_S} (h0 : q_Market_put σ i0 a1 a2 a3 = some res) (kr : ∀ (pc : Nat) (ls : Array Slot) (H : Heap) (locs : List Loc), decode cX2_put pc = .ok (.return_, 1) → va_P D vwCl (fo_vx 51 ad (fo_ce ca ad res)) H → va_S (fo_A 51 ad s.heap.size) s.heap H locs → W p l e R s m args below meth c H locs 0 0 Q (F0 m pc ls [])) (hP : va_P D vwCl (fo_vx 51 ad (fo_ce ca ad σ)) s.heap) : W p l e R s m args below meth c s.heap [] 0 0 Q (entryFrame m ([.ref (ad (fo_lay 1 i0)), .int a1, .long a2, .long a3] : List Value).toArray 6) := by
  obtain ⟨hx, hb, hml, hown, hT, hK, hD⟩ := C0
  have hN0 : (some res) ≠ none := fun q => by cases q
  unfold q_Market_put at h0
  have hS : va_S (fo_A 51 ad s.heap.size) s.heap s.heap [] := va_S.rf
  have hl := lv_entry ([.ref (ad (fo_lay 1 i0)), .int a1, .long a2, .long a3]) (n := 6) (Nat.le_of_ble_eq_true rfl)
  rw [lg_entry_eq]
  generalize (lg_sl ([.ref (ad (fo_lay 1 i0)), .int a1, .long a2, .long a3]) ++ List.replicate (6 - (lg_sl ([.ref (ad (fo_lay 1 i0)), .int a1, .long a2, .long a3])).length) Slot.unset).toArray = ls at hl ⊢
  have hl : lv_has ls 6 [(0, .ref (ad (fo_lay 1 i0))), (1, .int a1), (2, .long a2), (4, .long a3)] := hl
  refine lv_aload_n hx hb dX2_put_0 rfl (lv_at hl 0 rfl) ?_
  refine fo_g2_9 hx hb hT hown hK hP hi0 dX2_put_1 ?_
  refine lv_iload_n hx hb dX2_put_4 rfl (lv_at hl 1 rfl) ?_
  refine lv_lload_n hx hb dX2_put_5 rfl (lv_at hl 2 rfl) ?_
  obtain ⟨g1, h0⟩ := fo_gd h0 hN0
  refine fo_last (k := 2) (n := 9) hx hb hK hP hD hS (by decide) hi0 (fun _ _ => rfl) g1 dX2_put_6 (fun H locs hP hS => ?_)
  refine lv_aload_n hx hb dX2_put_7 rfl (lv_at hl 0 rfl) ?_
  refine fo_g2_15 hx hb hT hown hK hP hi0 dX2_put_8 ?_
  refine lv_iload_n hx hb dX2_put_11 rfl (lv_at hl 1 rfl) ?_
  refine lv_lload hx hb dX2_put_12 (lv_at hl 3 rfl) ?_
  obtain ⟨g2, h0⟩ := fo_gd h0 hN0
  refine fo_last (k := 3) (n := 9) hx hb hK hP hD hS (by decide) hi0 (fun _ _ => rfl) g2 dX2_put_14 (fun H locs hP hS => ?_)
  have hr3 := Option.some.inj h0
  subst hr3
  exact kr _ ls _ _ dX2_put_15 hP hS
theorem c_q_Market_put (l : Launch) (D : va_G) (ca : Nat → ClassId) (ad : Nat → Nat) (sz : Nat) {σ : fo_S} {i0 : Nat} {a1 : Int32} {a2 : Int64} {a3 : Int64} (hi0 : i0 < 2) {res : fo_S} (h0 : q_Market_put σ i0 a1 a2 a3 = some res) : Met l yX2_put ws_q_Market_put rm_q_Market_put (fo_Pre 51 D vwCl (fo_tys ca) ad (fo_ce ca ad σ) sz [.ref (ad (fo_lay 1 i0)), .int a1, .long a2, .long a3]) (fo_PoV 51 D vwCl (fo_tys ca) ad (fo_ce ca ad res) sz) 0 0 (fo_A 51 ad sz) :=
  fo_mkV (by decide) (fun C0 kr hP => b_q_Market_put C0 (Nat.le_refl _) (Nat.le_refl _) (Nat.zero_le _) hi0 h0 kr hP)
def q_FairOrder_account (σ : fo_S) (a1 : Int64) (a2 : Int64) : Option (Int32 × fo_S) :=
  (q_FairOrder_mayBeginWith σ a1).bind (fun x1 => if x1 = 0 then (some ((-2 : Int32), σ)) else ((q_FairOrder_mayBeginWith σ a2).bind (fun x4 => if x4 = 0 then (some ((-2 : Int32), σ)) else (if (σ.1 0 0 8) < (8 : Int32) then ((q_Market_put σ 0 (σ.1 0 0 8) a1 a2).bind (fun x7 => some (((fo_pI x7 0 0 8 ((x7.1 0 0 8) + (1 : Int32))).1 0 0 8) - (1 : Int32), fo_pI x7 0 0 8 ((x7.1 0 0 8) + (1 : Int32))))) else (some ((-3 : Int32), σ))))))
set_option maxHeartbeats 4000000 in
set_option maxRecDepth 100000 in
theorem b_q_FairOrder_account {p : Program} {l : Launch} {e : Env} {R : Room} {s : State} {m : MethodId} {args : Array Value} {below : List Frame} {meth : Method} {c : Code} {Q : State → Prop} {D : va_G} {ca : Nat → ClassId} {ad : Nat → Nat} (C0 : fo_CX p s m args c cX0_account 5 RX0 D ca ad) (hRf : 1 ≤ R.frames) (hRl : 25 ≤ R.locals) (hRc : 0 ≤ R.cells) {σ : fo_S} {a1 : Int64} {a2 : Int64}  {res : Int32 × fo_S} (h0 : q_FairOrder_account σ a1 a2 = some res) (kr : ∀ (pc : Nat) (ls : Array Slot) (H : Heap) (locs : List Loc), decode cX0_account pc = .ok (.ireturn, 1) → va_P D vwCl (fo_vx 51 ad (fo_ce ca ad res.2)) H → va_S (fo_A 51 ad s.heap.size) s.heap H locs → W p l e R s m args below meth c H locs 0 0 Q (F0 m pc ls [.int res.1])) (hP : va_P D vwCl (fo_vx 51 ad (fo_ce ca ad σ)) s.heap) : W p l e R s m args below meth c s.heap [] 0 0 Q (entryFrame m ([.ref (ad (fo_lay 0 0)), .long a1, .long a2] : List Value).toArray 5) := by
  obtain ⟨hx, hb, hml, hown, hT, hK, hD⟩ := C0
  have hN0 : (some res) ≠ none := fun q => by cases q
  unfold q_FairOrder_account at h0
  have hS : va_S (fo_A 51 ad s.heap.size) s.heap s.heap [] := va_S.rf
  have hl := lv_entry ([.ref (ad (fo_lay 0 0)), .long a1, .long a2]) (n := 5) (Nat.le_of_ble_eq_true rfl)
  rw [lg_entry_eq]
  generalize (lg_sl ([.ref (ad (fo_lay 0 0)), .long a1, .long a2]) ++ List.replicate (5 - (lg_sl ([.ref (ad (fo_lay 0 0)), .long a1, .long a2])).length) Slot.unset).toArray = ls at hl ⊢
  have hl : lv_has ls 5 [(0, .ref (ad (fo_lay 0 0))), (1, .long a1), (3, .long a2)] := hl
  refine lv_lload_n hx hb dX0_account_0 rfl (lv_at hl 1 rfl) ?_
  obtain ⟨x1, hx1, h0⟩ := fo_bd h0 hN0
  refine fo_calli (va_runS (H := _) (As := [.long a1]) (rest := []) ⟨hx, hb, hml, hown, hT⟩ (c_q_FairOrder_mayBeginWith l D ca ad _ hx1) (fo_c0_71 hT ⟨Nat.le_trans (Nat.le_of_ble_eq_true rfl) hRf, Nat.le_trans (Nat.le_of_ble_eq_true rfl) hRl⟩) ⟨fo_Pre_blind, fo_Pre_at hP hK (hD _)⟩ rfl rfl hl.1 rfl (lv_room (Nat.le_of_ble_eq_true rfl)) dX0_account_1 ⟨Nat.zero_le _, Nat.zero_le _⟩) hS (fun H locs hP hS => ?_)
  refine lv_if_eq (tgt := 14) hx hb dX0_account_4 (by decide) (fun c2 => ?_) (fun c2 => ?_)
  · replace h0 := fo_itT c2 h0
    refine lv_bipush (v := -2) hx hb dX0_account_14 (by decide) ?_
    have hr3 := Option.some.inj h0
    subst hr3
    exact kr _ ls _ _ dX0_account_16 hP hS
  · replace h0 := fo_itF c2 h0
    refine lv_lload_n hx hb dX0_account_7 rfl (lv_at hl 2 rfl) ?_
    obtain ⟨x4, hx4, h0⟩ := fo_bd h0 hN0
    refine fo_calli (va_runS (H := _) (As := [.long a2]) (rest := []) ⟨hx, hb, hml, hown, hT⟩ (c_q_FairOrder_mayBeginWith l D ca ad _ hx4) (fo_c0_71 hT ⟨Nat.le_trans (Nat.le_of_ble_eq_true rfl) hRf, Nat.le_trans (Nat.le_of_ble_eq_true rfl) hRl⟩) ⟨fo_Pre_blind, fo_Pre_at hP hK (hD _)⟩ rfl rfl hl.1 rfl (lv_room (Nat.le_of_ble_eq_true rfl)) dX0_account_8 ⟨Nat.zero_le _, Nat.zero_le _⟩) hS (fun H locs hP hS => ?_)
    refine lv_if_ne (tgt := 17) hx hb dX0_account_11 (by decide) (fun c5 => ?_) (fun c5 => ?_)
    · replace h0 := fo_itF c5 h0
      refine lv_aload_n hx hb dX0_account_17 rfl (lv_at hl 0 rfl) ?_
      refine fo_g0_54 hx hb hT hown hK hP (by decide) dX0_account_18 ?_
      refine lv_bipush (v := 8) hx hb dX0_account_21 (by decide) ?_
      refine lv_icmp_lt (tgt := 29) hx hb dX0_account_23 (by decide) (fun c6 => ?_) (fun c6 => ?_)
      · replace h0 := fo_itT c6 h0
        refine lv_aload_n hx hb dX0_account_29 rfl (lv_at hl 0 rfl) ?_
        refine fo_g0_12 hx hb hT hown hK hP (by decide) dX0_account_30 ?_
        refine lv_aload_n hx hb dX0_account_33 rfl (lv_at hl 0 rfl) ?_
        refine fo_g0_54 hx hb hT hown hK hP (by decide) dX0_account_34 ?_
        refine lv_lload_n hx hb dX0_account_37 rfl (lv_at hl 1 rfl) ?_
        refine lv_lload_n hx hb dX0_account_38 rfl (lv_at hl 2 rfl) ?_
        obtain ⟨x7, hx7, h0⟩ := fo_bd h0 hN0
        refine fo_callv (va_runV (H := _) (As := [.int (σ.1 0 0 8), .long a1, .long a2]) (rest := []) ⟨hx, hb, hml, hown, hT⟩ (c_q_Market_put l D ca ad _ (by decide) hx7) (fo_c0_75 hT ⟨Nat.le_trans (Nat.le_of_ble_eq_true rfl) hRf, Nat.le_trans (Nat.le_of_ble_eq_true rfl) hRl⟩) ⟨fo_Pre_blind, fo_rc1 hK hP (by decide), fo_Pre_at hP hK (hD _)⟩ rfl rfl hl.1 rfl (lv_room (Nat.le_of_ble_eq_true rfl)) dX0_account_39 ⟨Nat.zero_le _, Nat.zero_le _⟩) hS (fun H locs hP hS => ?_)
        refine lv_aload_n hx hb dX0_account_42 rfl (lv_at hl 0 rfl) ?_
        refine lv_dup hx hb dX0_account_43 rfl ?_
        refine fo_g0_54 hx hb hT hown hK hP (by decide) dX0_account_44 ?_
        refine lv_iconst (v := 1) hx hb dX0_account_47 (by decide) ?_
        refine lv_iadd hx hb dX0_account_48 ?_
        refine fo_p0_54 hx hb hT hown hK hP hD hS (by decide) dX0_account_49 (fun H locs hP hS => ?_)
        refine lv_aload_n hx hb dX0_account_52 rfl (lv_at hl 0 rfl) ?_
        refine fo_g0_54 hx hb hT hown hK hP (by decide) dX0_account_53 ?_
        refine lv_iconst (v := 1) hx hb dX0_account_56 (by decide) ?_
        refine lv_isub hx hb dX0_account_57 ?_
        have hr8 := Option.some.inj h0
        subst hr8
        exact kr _ ls _ _ dX0_account_58 hP hS
      · replace h0 := fo_itF c6 h0
        refine lv_bipush (v := -3) hx hb dX0_account_26 (by decide) ?_
        have hr9 := Option.some.inj h0
        subst hr9
        exact kr _ ls _ _ dX0_account_28 hP hS
    · replace h0 := fo_itT c5 h0
      refine lv_bipush (v := -2) hx hb dX0_account_14 (by decide) ?_
      have hr10 := Option.some.inj h0
      subst hr10
      exact kr _ ls _ _ dX0_account_16 hP hS
theorem c_q_FairOrder_account (l : Launch) (D : va_G) (ca : Nat → ClassId) (ad : Nat → Nat) (sz : Nat) {σ : fo_S} {a1 : Int64} {a2 : Int64}  {res : Int32 × fo_S} (h0 : q_FairOrder_account σ a1 a2 = some res) : Met l yX0_account ws_q_FairOrder_account rm_q_FairOrder_account (fo_Pre 51 D vwCl (fo_tys ca) ad (fo_ce ca ad σ) sz [.ref (ad (fo_lay 0 0)), .long a1, .long a2]) (fo_PoI 51 D vwCl (fo_tys ca) ad (fo_ce ca ad res.2) sz res.1) 0 0 (fo_A 51 ad sz) :=
  fo_mkI (by decide) (fun C0 kr hP => b_q_FairOrder_account C0 (Nat.le_refl _) (Nat.le_refl _) (Nat.zero_le _)  h0 kr hP)
def q_FairOrder_pool (σ : fo_S) (a1 : Int64) (a2 : Int64) : Option (Int32 × fo_S) :=
  (q_FairOrder_mayBeginWith σ a1).bind (fun x1 => if x1 = 0 then (some ((-2 : Int32), σ)) else ((q_FairOrder_mayBeginWith σ a2).bind (fun x4 => if x4 = 0 then (some ((-2 : Int32), σ)) else ((q_Market_put σ 0 (8 : Int32) a1 a2).bind (fun x6 => some ((1 : Int32), x6))))))
set_option maxHeartbeats 4000000 in
set_option maxRecDepth 100000 in
theorem b_q_FairOrder_pool {p : Program} {l : Launch} {e : Env} {R : Room} {s : State} {m : MethodId} {args : Array Value} {below : List Frame} {meth : Method} {c : Code} {Q : State → Prop} {D : va_G} {ca : Nat → ClassId} {ad : Nat → Nat} (C0 : fo_CX p s m args c cX0_pool 5 RX0 D ca ad) (hRf : 1 ≤ R.frames) (hRl : 25 ≤ R.locals) (hRc : 0 ≤ R.cells) {σ : fo_S} {a1 : Int64} {a2 : Int64}  {res : Int32 × fo_S} (h0 : q_FairOrder_pool σ a1 a2 = some res) (kr : ∀ (pc : Nat) (ls : Array Slot) (H : Heap) (locs : List Loc), decode cX0_pool pc = .ok (.ireturn, 1) → va_P D vwCl (fo_vx 51 ad (fo_ce ca ad res.2)) H → va_S (fo_A 51 ad s.heap.size) s.heap H locs → W p l e R s m args below meth c H locs 0 0 Q (F0 m pc ls [.int res.1])) (hP : va_P D vwCl (fo_vx 51 ad (fo_ce ca ad σ)) s.heap) : W p l e R s m args below meth c s.heap [] 0 0 Q (entryFrame m ([.ref (ad (fo_lay 0 0)), .long a1, .long a2] : List Value).toArray 5) := by
  obtain ⟨hx, hb, hml, hown, hT, hK, hD⟩ := C0
  have hN0 : (some res) ≠ none := fun q => by cases q
  unfold q_FairOrder_pool at h0
  have hS : va_S (fo_A 51 ad s.heap.size) s.heap s.heap [] := va_S.rf
  have hl := lv_entry ([.ref (ad (fo_lay 0 0)), .long a1, .long a2]) (n := 5) (Nat.le_of_ble_eq_true rfl)
  rw [lg_entry_eq]
  generalize (lg_sl ([.ref (ad (fo_lay 0 0)), .long a1, .long a2]) ++ List.replicate (5 - (lg_sl ([.ref (ad (fo_lay 0 0)), .long a1, .long a2])).length) Slot.unset).toArray = ls at hl ⊢
  have hl : lv_has ls 5 [(0, .ref (ad (fo_lay 0 0))), (1, .long a1), (3, .long a2)] := hl
  refine lv_lload_n hx hb dX0_pool_0 rfl (lv_at hl 1 rfl) ?_
  obtain ⟨x1, hx1, h0⟩ := fo_bd h0 hN0
  refine fo_calli (va_runS (H := _) (As := [.long a1]) (rest := []) ⟨hx, hb, hml, hown, hT⟩ (c_q_FairOrder_mayBeginWith l D ca ad _ hx1) (fo_c0_71 hT ⟨Nat.le_trans (Nat.le_of_ble_eq_true rfl) hRf, Nat.le_trans (Nat.le_of_ble_eq_true rfl) hRl⟩) ⟨fo_Pre_blind, fo_Pre_at hP hK (hD _)⟩ rfl rfl hl.1 rfl (lv_room (Nat.le_of_ble_eq_true rfl)) dX0_pool_1 ⟨Nat.zero_le _, Nat.zero_le _⟩) hS (fun H locs hP hS => ?_)
  refine lv_if_eq (tgt := 14) hx hb dX0_pool_4 (by decide) (fun c2 => ?_) (fun c2 => ?_)
  · replace h0 := fo_itT c2 h0
    refine lv_bipush (v := -2) hx hb dX0_pool_14 (by decide) ?_
    have hr3 := Option.some.inj h0
    subst hr3
    exact kr _ ls _ _ dX0_pool_16 hP hS
  · replace h0 := fo_itF c2 h0
    refine lv_lload_n hx hb dX0_pool_7 rfl (lv_at hl 2 rfl) ?_
    obtain ⟨x4, hx4, h0⟩ := fo_bd h0 hN0
    refine fo_calli (va_runS (H := _) (As := [.long a2]) (rest := []) ⟨hx, hb, hml, hown, hT⟩ (c_q_FairOrder_mayBeginWith l D ca ad _ hx4) (fo_c0_71 hT ⟨Nat.le_trans (Nat.le_of_ble_eq_true rfl) hRf, Nat.le_trans (Nat.le_of_ble_eq_true rfl) hRl⟩) ⟨fo_Pre_blind, fo_Pre_at hP hK (hD _)⟩ rfl rfl hl.1 rfl (lv_room (Nat.le_of_ble_eq_true rfl)) dX0_pool_8 ⟨Nat.zero_le _, Nat.zero_le _⟩) hS (fun H locs hP hS => ?_)
    refine lv_if_ne (tgt := 17) hx hb dX0_pool_11 (by decide) (fun c5 => ?_) (fun c5 => ?_)
    · replace h0 := fo_itF c5 h0
      refine lv_aload_n hx hb dX0_pool_17 rfl (lv_at hl 0 rfl) ?_
      refine fo_g0_12 hx hb hT hown hK hP (by decide) dX0_pool_18 ?_
      refine lv_bipush (v := 8) hx hb dX0_pool_21 (by decide) ?_
      refine lv_lload_n hx hb dX0_pool_23 rfl (lv_at hl 1 rfl) ?_
      refine lv_lload_n hx hb dX0_pool_24 rfl (lv_at hl 2 rfl) ?_
      obtain ⟨x6, hx6, h0⟩ := fo_bd h0 hN0
      refine fo_callv (va_runV (H := _) (As := [.int (8 : Int32), .long a1, .long a2]) (rest := []) ⟨hx, hb, hml, hown, hT⟩ (c_q_Market_put l D ca ad _ (by decide) hx6) (fo_c0_75 hT ⟨Nat.le_trans (Nat.le_of_ble_eq_true rfl) hRf, Nat.le_trans (Nat.le_of_ble_eq_true rfl) hRl⟩) ⟨fo_Pre_blind, fo_rc1 hK hP (by decide), fo_Pre_at hP hK (hD _)⟩ rfl rfl hl.1 rfl (lv_room (Nat.le_of_ble_eq_true rfl)) dX0_pool_25 ⟨Nat.zero_le _, Nat.zero_le _⟩) hS (fun H locs hP hS => ?_)
      refine lv_iconst (v := 1) hx hb dX0_pool_28 (by decide) ?_
      have hr7 := Option.some.inj h0
      subst hr7
      exact kr _ ls _ _ dX0_pool_29 hP hS
    · replace h0 := fo_itT c5 h0
      refine lv_bipush (v := -2) hx hb dX0_pool_14 (by decide) ?_
      have hr8 := Option.some.inj h0
      subst hr8
      exact kr _ ls _ _ dX0_pool_16 hP hS
theorem c_q_FairOrder_pool (l : Launch) (D : va_G) (ca : Nat → ClassId) (ad : Nat → Nat) (sz : Nat) {σ : fo_S} {a1 : Int64} {a2 : Int64}  {res : Int32 × fo_S} (h0 : q_FairOrder_pool σ a1 a2 = some res) : Met l yX0_pool ws_q_FairOrder_pool rm_q_FairOrder_pool (fo_Pre 51 D vwCl (fo_tys ca) ad (fo_ce ca ad σ) sz [.ref (ad (fo_lay 0 0)), .long a1, .long a2]) (fo_PoI 51 D vwCl (fo_tys ca) ad (fo_ce ca ad res.2) sz res.1) 0 0 (fo_A 51 ad sz) :=
  fo_mkI (by decide) (fun C0 kr hP => b_q_FairOrder_pool C0 (Nat.le_refl _) (Nat.le_refl _) (Nat.zero_le _)  h0 kr hP)
def q_FairOrder_areTerms_J9 (a1 : Int32) (a2 : Int32) : Option (Int32) :=
  if a1 < (1 : Int32) then (some (0 : Int32)) else (if (1000 : Int32) < a1 then (some (0 : Int32)) else (if a2 < (1 : Int32) then (some (0 : Int32)) else (if (1000 : Int32) < a2 then (some (0 : Int32)) else (some (1 : Int32)))))
def q_FairOrder_areTerms (σ : fo_S) (a0 : Int32) (a1 : Int32) (a2 : Int32) : Option (Int32) :=
  if a0 = 0 then (q_FairOrder_areTerms_J9 a1 a2) else (if a0 = (1 : Int32) then (q_FairOrder_areTerms_J9 a1 a2) else (some (0 : Int32)))
set_option maxHeartbeats 4000000 in
set_option maxRecDepth 100000 in
theorem b_q_FairOrder_areTerms {p : Program} {l : Launch} {e : Env} {R : Room} {s : State} {m : MethodId} {args : Array Value} {below : List Frame} {meth : Method} {c : Code} {Q : State → Prop} {D : va_G} {ca : Nat → ClassId} {ad : Nat → Nat} (C0 : fo_CX p s m args c cX0_areTerms 3 RX0 D ca ad) (hRf : 0 ≤ R.frames) (hRl : 0 ≤ R.locals) (hRc : 0 ≤ R.cells) {σ : fo_S} {a0 : Int32} {a1 : Int32} {a2 : Int32}  {res : Int32} (h0 : q_FairOrder_areTerms σ a0 a1 a2 = some res) (kr : ∀ (pc : Nat) (ls : Array Slot) (H : Heap) (locs : List Loc), narrow .boolean (.int res) = .int res → decode cX0_areTerms pc = .ok (.ireturn, 1) → va_P D vwCl (fo_vx 51 ad (fo_ce ca ad σ)) H → va_S (fo_A 51 ad s.heap.size) s.heap H locs → W p l e R s m args below meth c H locs 0 0 Q (F0 m pc ls [.int res])) (hP : va_P D vwCl (fo_vx 51 ad (fo_ce ca ad σ)) s.heap) : W p l e R s m args below meth c s.heap [] 0 0 Q (entryFrame m ([.int a0, .int a1, .int a2] : List Value).toArray 3) := by
  obtain ⟨hx, hb, hml, hown, hT, hK, hD⟩ := C0
  have hN0 : (some res) ≠ none := fun q => by cases q
  unfold q_FairOrder_areTerms at h0
  have hS : va_S (fo_A 51 ad s.heap.size) s.heap s.heap [] := va_S.rf
  have hl := lv_entry ([.int a0, .int a1, .int a2]) (n := 3) (Nat.le_of_ble_eq_true rfl)
  rw [lg_entry_eq]
  generalize (lg_sl ([.int a0, .int a1, .int a2]) ++ List.replicate (3 - (lg_sl ([.int a0, .int a1, .int a2])).length) Slot.unset).toArray = ls at hl ⊢
  have hl : lv_has ls 3 [(0, .int a0), (1, .int a1), (2, .int a2)] := hl
  refine lv_iload_n hx hb dX0_areTerms_0 rfl (lv_at hl 0 rfl) ?_
  have J9 : q_FairOrder_areTerms_J9 a1 a2 = some res → ∀ (H : Heap) (locs : List Loc) (ls : Array Slot), va_P D vwCl (fo_vx 51 ad (fo_ce ca ad σ)) H → va_S (fo_A 51 ad s.heap.size) s.heap H locs → lv_has ls 3 [(1, .int a1), (2, .int a2)] → W p l e R s m args below meth c H locs 0 0 Q (F0 m 9 ls []) := by
    intro h0 H locs ls hP hS hl
    unfold q_FairOrder_areTerms_J9 at h0
    refine lv_iload_n hx hb dX0_areTerms_9 rfl (lv_at hl 0 rfl) ?_
    refine lv_iconst (v := 1) hx hb dX0_areTerms_10 (by decide) ?_
    refine lv_icmp_lt (tgt := 37) hx hb dX0_areTerms_11 (by decide) (fun c1 => ?_) (fun c1 => ?_)
    · replace h0 := fo_itT c1 h0
      refine lv_iconst (v := 0) hx hb dX0_areTerms_37 (by decide) ?_
      have hr2 := Option.some.inj h0
      subst hr2
      exact kr _ ls _ _ (fo_zn (Or.inl rfl)) dX0_areTerms_38 hP hS
    · replace h0 := fo_itF c1 h0
      refine lv_iload_n hx hb dX0_areTerms_14 rfl (lv_at hl 0 rfl) ?_
      refine lv_sipush (v := 1000) hx hb dX0_areTerms_15 (by decide) ?_
      refine lv_icmp_gt (tgt := 37) hx hb dX0_areTerms_18 (by decide) (fun c3 => ?_) (fun c3 => ?_)
      · replace h0 := fo_itT c3 h0
        refine lv_iconst (v := 0) hx hb dX0_areTerms_37 (by decide) ?_
        have hr4 := Option.some.inj h0
        subst hr4
        exact kr _ ls _ _ (fo_zn (Or.inl rfl)) dX0_areTerms_38 hP hS
      · replace h0 := fo_itF c3 h0
        refine lv_iload_n hx hb dX0_areTerms_21 rfl (lv_at hl 1 rfl) ?_
        refine lv_iconst (v := 1) hx hb dX0_areTerms_22 (by decide) ?_
        refine lv_icmp_lt (tgt := 37) hx hb dX0_areTerms_23 (by decide) (fun c5 => ?_) (fun c5 => ?_)
        · replace h0 := fo_itT c5 h0
          refine lv_iconst (v := 0) hx hb dX0_areTerms_37 (by decide) ?_
          have hr6 := Option.some.inj h0
          subst hr6
          exact kr _ ls _ _ (fo_zn (Or.inl rfl)) dX0_areTerms_38 hP hS
        · replace h0 := fo_itF c5 h0
          refine lv_iload_n hx hb dX0_areTerms_26 rfl (lv_at hl 1 rfl) ?_
          refine lv_sipush (v := 1000) hx hb dX0_areTerms_27 (by decide) ?_
          refine lv_icmp_gt (tgt := 37) hx hb dX0_areTerms_30 (by decide) (fun c7 => ?_) (fun c7 => ?_)
          · replace h0 := fo_itT c7 h0
            refine lv_iconst (v := 0) hx hb dX0_areTerms_37 (by decide) ?_
            have hr8 := Option.some.inj h0
            subst hr8
            exact kr _ ls _ _ (fo_zn (Or.inl rfl)) dX0_areTerms_38 hP hS
          · replace h0 := fo_itF c7 h0
            refine lv_iconst (v := 1) hx hb dX0_areTerms_33 (by decide) ?_
            refine lv_goto (tgt := 38) hx hb dX0_areTerms_34 (by decide) ?_
            have hr9 := Option.some.inj h0
            subst hr9
            exact kr _ ls _ _ (fo_zn (Or.inr rfl)) dX0_areTerms_38 hP hS
  refine lv_if_eq (tgt := 9) hx hb dX0_areTerms_1 (by decide) (fun c10 => ?_) (fun c10 => ?_)
  · replace h0 := fo_itT c10 h0
    exact J9 h0 _ _ ls hP hS (lv_sub hl [1, 2] rfl)
  · replace h0 := fo_itF c10 h0
    refine lv_iload_n hx hb dX0_areTerms_4 rfl (lv_at hl 0 rfl) ?_
    refine lv_iconst (v := 1) hx hb dX0_areTerms_5 (by decide) ?_
    refine lv_icmp_ne (tgt := 37) hx hb dX0_areTerms_6 (by decide) (fun c11 => ?_) (fun c11 => ?_)
    · replace h0 := fo_itF c11 h0
      refine lv_iconst (v := 0) hx hb dX0_areTerms_37 (by decide) ?_
      have hr12 := Option.some.inj h0
      subst hr12
      exact kr _ ls _ _ (fo_zn (Or.inl rfl)) dX0_areTerms_38 hP hS
    · replace h0 := fo_itT c11 h0
      exact J9 h0 _ _ ls hP hS (lv_sub hl [1, 2] rfl)
theorem c_q_FairOrder_areTerms (l : Launch) (D : va_G) (ca : Nat → ClassId) (ad : Nat → Nat) (sz : Nat) {σ : fo_S} {a0 : Int32} {a1 : Int32} {a2 : Int32}  {res : Int32} (h0 : q_FairOrder_areTerms σ a0 a1 a2 = some res) : Met l yX0_areTerms ws_q_FairOrder_areTerms rm_q_FairOrder_areTerms (fo_Pre 51 D vwCl (fo_tys ca) ad (fo_ce ca ad σ) sz [.int a0, .int a1, .int a2]) (fo_PoI 51 D vwCl (fo_tys ca) ad (fo_ce ca ad σ) sz res) 0 0 (fo_A 51 ad sz) :=
  fo_mkZ (by decide) (fun C0 kr hP => b_q_FairOrder_areTerms C0 (Nat.le_refl _) (Nat.le_refl _) (Nat.zero_le _)  h0 kr hP)
def q_FairOrder_sealOf (σ : fo_S) (a0 : Int32) (a1 : Int32) (a2 : Int32) (a3 : Int32) : Option (Int64) :=
  some ((((((((a3.toInt64 * (31 : Int64)) + a0.toInt64) * (1009 : Int64)) + a1.toInt64) * (1013 : Int64)) + a2.toInt64) * (6364136223846793005 : Int64)) ^^^ (((((((((a3.toInt64 * (31 : Int64)) + a0.toInt64) * (1009 : Int64)) + a1.toInt64) * (1013 : Int64)) + a2.toInt64) * (6364136223846793005 : Int64)).toUInt64 >>> ((29 : Int32).toInt64.toUInt64 &&& Int64.toUInt64 63)).toInt64))
set_option maxHeartbeats 4000000 in
set_option maxRecDepth 100000 in
theorem b_q_FairOrder_sealOf {p : Program} {l : Launch} {e : Env} {R : Room} {s : State} {m : MethodId} {args : Array Value} {below : List Frame} {meth : Method} {c : Code} {Q : State → Prop} {D : va_G} {ca : Nat → ClassId} {ad : Nat → Nat} (C0 : fo_CX p s m args c cX0_sealOf 6 RX0 D ca ad) (hRf : 0 ≤ R.frames) (hRl : 0 ≤ R.locals) (hRc : 0 ≤ R.cells) {σ : fo_S} {a0 : Int32} {a1 : Int32} {a2 : Int32} {a3 : Int32}  {res : Int64} (h0 : q_FairOrder_sealOf σ a0 a1 a2 a3 = some res) (kr : ∀ (pc : Nat) (ls : Array Slot) (H : Heap) (locs : List Loc), decode cX0_sealOf pc = .ok (.lreturn, 1) → va_P D vwCl (fo_vx 51 ad (fo_ce ca ad σ)) H → va_S (fo_A 51 ad s.heap.size) s.heap H locs → W p l e R s m args below meth c H locs 0 0 Q (F0 m pc ls [.long res])) (hP : va_P D vwCl (fo_vx 51 ad (fo_ce ca ad σ)) s.heap) : W p l e R s m args below meth c s.heap [] 0 0 Q (entryFrame m ([.int a0, .int a1, .int a2, .int a3] : List Value).toArray 6) := by
  obtain ⟨hx, hb, hml, hown, hT, hK, hD⟩ := C0
  have hN0 : (some res) ≠ none := fun q => by cases q
  unfold q_FairOrder_sealOf at h0
  have hS : va_S (fo_A 51 ad s.heap.size) s.heap s.heap [] := va_S.rf
  have hl := lv_entry ([.int a0, .int a1, .int a2, .int a3]) (n := 6) (Nat.le_of_ble_eq_true rfl)
  rw [lg_entry_eq]
  generalize (lg_sl ([.int a0, .int a1, .int a2, .int a3]) ++ List.replicate (6 - (lg_sl ([.int a0, .int a1, .int a2, .int a3])).length) Slot.unset).toArray = ls at hl ⊢
  have hl : lv_has ls 6 [(0, .int a0), (1, .int a1), (2, .int a2), (3, .int a3)] := hl
  refine lv_iload_n hx hb dX0_sealOf_0 rfl (lv_at hl 3 rfl) ?_
  refine lv_i2l hx hb dX0_sealOf_1 rfl ?_
  refine lv_ldc2 (v := 31) hx hb hown (fo_k0_240 hT) dX0_sealOf_2 ?_
  refine lv_lmul hx hb dX0_sealOf_5 ?_
  refine lv_iload_n hx hb dX0_sealOf_6 rfl (lv_at hl 0 rfl) ?_
  refine lv_i2l hx hb dX0_sealOf_7 rfl ?_
  refine lv_ladd hx hb dX0_sealOf_8 ?_
  refine lv_ldc2 (v := 1009) hx hb hown (fo_k0_242 hT) dX0_sealOf_9 ?_
  refine lv_lmul hx hb dX0_sealOf_12 ?_
  refine lv_iload_n hx hb dX0_sealOf_13 rfl (lv_at hl 1 rfl) ?_
  refine lv_i2l hx hb dX0_sealOf_14 rfl ?_
  refine lv_ladd hx hb dX0_sealOf_15 ?_
  refine lv_ldc2 (v := 1013) hx hb hown (fo_k0_244 hT) dX0_sealOf_16 ?_
  refine lv_lmul hx hb dX0_sealOf_19 ?_
  refine lv_iload_n hx hb dX0_sealOf_20 rfl (lv_at hl 2 rfl) ?_
  refine lv_i2l hx hb dX0_sealOf_21 rfl ?_
  refine lv_ladd hx hb dX0_sealOf_22 ?_
  refine lv_lstore (lv' := [(4, .long ((((((a3.toInt64 * (31 : Int64)) + a0.toInt64) * (1009 : Int64)) + a1.toInt64) * (1013 : Int64)) + a2.toInt64)), (0, .int a0), (1, .int a1), (2, .int a2), (3, .int a3)]) hx hb dX0_sealOf_23 hl (by decide) rfl (fun ls hl => ?_)
  refine lv_lload hx hb dX0_sealOf_25 (lv_at hl 0 rfl) ?_
  refine lv_ldc2 (v := 6364136223846793005) hx hb hown (fo_k0_246 hT) dX0_sealOf_27 ?_
  refine lv_lmul hx hb dX0_sealOf_30 ?_
  refine lv_lstore (lv' := [(4, .long (((((((a3.toInt64 * (31 : Int64)) + a0.toInt64) * (1009 : Int64)) + a1.toInt64) * (1013 : Int64)) + a2.toInt64) * (6364136223846793005 : Int64))), (0, .int a0), (1, .int a1), (2, .int a2), (3, .int a3)]) hx hb dX0_sealOf_31 hl (by decide) rfl (fun ls hl => ?_)
  refine lv_lload hx hb dX0_sealOf_33 (lv_at hl 0 rfl) ?_
  refine lv_lload hx hb dX0_sealOf_35 (lv_at hl 0 rfl) ?_
  refine lv_bipush (v := 29) hx hb dX0_sealOf_37 (by decide) ?_
  refine lv_lushr hx hb dX0_sealOf_39 rfl ?_
  refine lv_lxor hx hb dX0_sealOf_40 ?_
  have hr1 := Option.some.inj h0
  subst hr1
  exact kr _ ls _ _ dX0_sealOf_41 hP hS
theorem c_q_FairOrder_sealOf (l : Launch) (D : va_G) (ca : Nat → ClassId) (ad : Nat → Nat) (sz : Nat) {σ : fo_S} {a0 : Int32} {a1 : Int32} {a2 : Int32} {a3 : Int32}  {res : Int64} (h0 : q_FairOrder_sealOf σ a0 a1 a2 a3 = some res) : Met l yX0_sealOf ws_q_FairOrder_sealOf rm_q_FairOrder_sealOf (fo_Pre 51 D vwCl (fo_tys ca) ad (fo_ce ca ad σ) sz [.int a0, .int a1, .int a2, .int a3]) (fo_PoL 51 D vwCl (fo_tys ca) ad (fo_ce ca ad σ) sz res) 0 0 (fo_A 51 ad sz) :=
  fo_mkL (by decide) (fun C0 kr hP => b_q_FairOrder_sealOf C0 (Nat.le_refl _) (Nat.le_refl _) (Nat.zero_le _)  h0 kr hP)
def q_FairOrder_seal (σ : fo_S) (a1 : Int32) (a2 : Int32) (a3 : Int32) (a4 : Int32) : Option (Int64) :=
  (q_FairOrder_areTerms σ a1 a2 a3).bind (fun x1 => if x1 = 0 then (some (0 : Int64)) else ((q_FairOrder_sealOf σ a1 a2 a3 a4).bind (fun x4 => some x4)))
set_option maxHeartbeats 4000000 in
set_option maxRecDepth 100000 in
theorem b_q_FairOrder_seal {p : Program} {l : Launch} {e : Env} {R : Room} {s : State} {m : MethodId} {args : Array Value} {below : List Frame} {meth : Method} {c : Code} {Q : State → Prop} {D : va_G} {ca : Nat → ClassId} {ad : Nat → Nat} (C0 : fo_CX p s m args c cX0_seal 5 RX0 D ca ad) (hRf : 1 ≤ R.frames) (hRl : 25 ≤ R.locals) (hRc : 0 ≤ R.cells) {σ : fo_S} {a1 : Int32} {a2 : Int32} {a3 : Int32} {a4 : Int32}  {res : Int64} (h0 : q_FairOrder_seal σ a1 a2 a3 a4 = some res) (kr : ∀ (pc : Nat) (ls : Array Slot) (H : Heap) (locs : List Loc), decode cX0_seal pc = .ok (.lreturn, 1) → va_P D vwCl (fo_vx 51 ad (fo_ce ca ad σ)) H → va_S (fo_A 51 ad s.heap.size) s.heap H locs → W p l e R s m args below meth c H locs 0 0 Q (F0 m pc ls [.long res])) (hP : va_P D vwCl (fo_vx 51 ad (fo_ce ca ad σ)) s.heap) : W p l e R s m args below meth c s.heap [] 0 0 Q (entryFrame m ([.ref (ad (fo_lay 0 0)), .int a1, .int a2, .int a3, .int a4] : List Value).toArray 5) := by
  obtain ⟨hx, hb, hml, hown, hT, hK, hD⟩ := C0
  have hN0 : (some res) ≠ none := fun q => by cases q
  unfold q_FairOrder_seal at h0
  have hS : va_S (fo_A 51 ad s.heap.size) s.heap s.heap [] := va_S.rf
  have hl := lv_entry ([.ref (ad (fo_lay 0 0)), .int a1, .int a2, .int a3, .int a4]) (n := 5) (Nat.le_of_ble_eq_true rfl)
  rw [lg_entry_eq]
  generalize (lg_sl ([.ref (ad (fo_lay 0 0)), .int a1, .int a2, .int a3, .int a4]) ++ List.replicate (5 - (lg_sl ([.ref (ad (fo_lay 0 0)), .int a1, .int a2, .int a3, .int a4])).length) Slot.unset).toArray = ls at hl ⊢
  have hl : lv_has ls 5 [(0, .ref (ad (fo_lay 0 0))), (1, .int a1), (2, .int a2), (3, .int a3), (4, .int a4)] := hl
  refine lv_iload_n hx hb dX0_seal_0 rfl (lv_at hl 1 rfl) ?_
  refine lv_iload_n hx hb dX0_seal_1 rfl (lv_at hl 2 rfl) ?_
  refine lv_iload_n hx hb dX0_seal_2 rfl (lv_at hl 3 rfl) ?_
  obtain ⟨x1, hx1, h0⟩ := fo_bd h0 hN0
  refine fo_calli (va_runS (H := _) (As := [.int a1, .int a2, .int a3]) (rest := []) ⟨hx, hb, hml, hown, hT⟩ (c_q_FairOrder_areTerms l D ca ad _ hx1) (fo_c0_79 hT ⟨Nat.le_trans (Nat.le_of_ble_eq_true rfl) hRf, Nat.le_trans (Nat.le_of_ble_eq_true rfl) hRl⟩) ⟨fo_Pre_blind, fo_Pre_at hP hK (hD _)⟩ rfl rfl hl.1 rfl (lv_room (Nat.le_of_ble_eq_true rfl)) dX0_seal_3 ⟨Nat.zero_le _, Nat.zero_le _⟩) hS (fun H locs hP hS => ?_)
  refine lv_if_eq (tgt := 20) hx hb dX0_seal_6 (by decide) (fun c2 => ?_) (fun c2 => ?_)
  · replace h0 := fo_itT c2 h0
    refine lv_lconst (v := 0) hx hb dX0_seal_20 (by decide) ?_
    have hr3 := Option.some.inj h0
    subst hr3
    exact kr _ ls _ _ dX0_seal_21 hP hS
  · replace h0 := fo_itF c2 h0
    refine lv_iload_n hx hb dX0_seal_9 rfl (lv_at hl 1 rfl) ?_
    refine lv_iload_n hx hb dX0_seal_10 rfl (lv_at hl 2 rfl) ?_
    refine lv_iload_n hx hb dX0_seal_11 rfl (lv_at hl 3 rfl) ?_
    refine lv_iload hx hb dX0_seal_12 (lv_at hl 4 rfl) ?_
    obtain ⟨x4, hx4, h0⟩ := fo_bd h0 hN0
    refine fo_calll (va_runS (H := _) (As := [.int a1, .int a2, .int a3, .int a4]) (rest := []) ⟨hx, hb, hml, hown, hT⟩ (c_q_FairOrder_sealOf l D ca ad _ hx4) (fo_c0_83 hT ⟨Nat.le_trans (Nat.le_of_ble_eq_true rfl) hRf, Nat.le_trans (Nat.le_of_ble_eq_true rfl) hRl⟩) ⟨fo_Pre_blind, fo_Pre_at hP hK (hD _)⟩ rfl rfl hl.1 rfl (lv_room (Nat.le_of_ble_eq_true rfl)) dX0_seal_14 ⟨Nat.zero_le _, Nat.zero_le _⟩) hS (fun H locs hP hS => ?_)
    refine lv_goto (tgt := 21) hx hb dX0_seal_17 (by decide) ?_
    have hr5 := Option.some.inj h0
    subst hr5
    exact kr _ ls _ _ dX0_seal_21 hP hS
theorem c_q_FairOrder_seal (l : Launch) (D : va_G) (ca : Nat → ClassId) (ad : Nat → Nat) (sz : Nat) {σ : fo_S} {a1 : Int32} {a2 : Int32} {a3 : Int32} {a4 : Int32}  {res : Int64} (h0 : q_FairOrder_seal σ a1 a2 a3 a4 = some res) : Met l yX0_seal ws_q_FairOrder_seal rm_q_FairOrder_seal (fo_Pre 51 D vwCl (fo_tys ca) ad (fo_ce ca ad σ) sz [.ref (ad (fo_lay 0 0)), .int a1, .int a2, .int a3, .int a4]) (fo_PoL 51 D vwCl (fo_tys ca) ad (fo_ce ca ad σ) sz res) 0 0 (fo_A 51 ad sz) :=
  fo_mkL (by decide) (fun C0 kr hP => b_q_FairOrder_seal C0 (Nat.le_refl _) (Nat.le_refl _) (Nat.zero_le _)  h0 kr hP)
def q_FairOrder_isAccount (σ : fo_S) (a1 : Int32) : Option (Int32) :=
  if a1 < 0 then (some (0 : Int32)) else (if (σ.1 0 0 8) ≤ a1 then (some (0 : Int32)) else (some (1 : Int32)))
set_option maxHeartbeats 4000000 in
set_option maxRecDepth 100000 in
theorem b_q_FairOrder_isAccount {p : Program} {l : Launch} {e : Env} {R : Room} {s : State} {m : MethodId} {args : Array Value} {below : List Frame} {meth : Method} {c : Code} {Q : State → Prop} {D : va_G} {ca : Nat → ClassId} {ad : Nat → Nat} (C0 : fo_CX p s m args c cX0_isAccount 2 RX0 D ca ad) (hRf : 0 ≤ R.frames) (hRl : 0 ≤ R.locals) (hRc : 0 ≤ R.cells) {σ : fo_S} {a1 : Int32}  {res : Int32} (h0 : q_FairOrder_isAccount σ a1 = some res) (kr : ∀ (pc : Nat) (ls : Array Slot) (H : Heap) (locs : List Loc), narrow .boolean (.int res) = .int res → decode cX0_isAccount pc = .ok (.ireturn, 1) → va_P D vwCl (fo_vx 51 ad (fo_ce ca ad σ)) H → va_S (fo_A 51 ad s.heap.size) s.heap H locs → W p l e R s m args below meth c H locs 0 0 Q (F0 m pc ls [.int res])) (hP : va_P D vwCl (fo_vx 51 ad (fo_ce ca ad σ)) s.heap) : W p l e R s m args below meth c s.heap [] 0 0 Q (entryFrame m ([.ref (ad (fo_lay 0 0)), .int a1] : List Value).toArray 2) := by
  obtain ⟨hx, hb, hml, hown, hT, hK, hD⟩ := C0
  have hN0 : (some res) ≠ none := fun q => by cases q
  unfold q_FairOrder_isAccount at h0
  have hS : va_S (fo_A 51 ad s.heap.size) s.heap s.heap [] := va_S.rf
  have hl := lv_entry ([.ref (ad (fo_lay 0 0)), .int a1]) (n := 2) (Nat.le_of_ble_eq_true rfl)
  rw [lg_entry_eq]
  generalize (lg_sl ([.ref (ad (fo_lay 0 0)), .int a1]) ++ List.replicate (2 - (lg_sl ([.ref (ad (fo_lay 0 0)), .int a1])).length) Slot.unset).toArray = ls at hl ⊢
  have hl : lv_has ls 2 [(0, .ref (ad (fo_lay 0 0))), (1, .int a1)] := hl
  refine lv_iload_n hx hb dX0_isAccount_0 rfl (lv_at hl 1 rfl) ?_
  refine lv_if_lt (tgt := 16) hx hb dX0_isAccount_1 (by decide) (fun c1 => ?_) (fun c1 => ?_)
  · replace h0 := fo_itT c1 h0
    refine lv_iconst (v := 0) hx hb dX0_isAccount_16 (by decide) ?_
    have hr2 := Option.some.inj h0
    subst hr2
    exact kr _ ls _ _ (fo_zn (Or.inl rfl)) dX0_isAccount_17 hP hS
  · replace h0 := fo_itF c1 h0
    refine lv_iload_n hx hb dX0_isAccount_4 rfl (lv_at hl 1 rfl) ?_
    refine lv_aload_n hx hb dX0_isAccount_5 rfl (lv_at hl 0 rfl) ?_
    refine fo_g0_54 hx hb hT hown hK hP (by decide) dX0_isAccount_6 ?_
    refine lv_icmp_ge (tgt := 16) hx hb dX0_isAccount_9 (by decide) (fun c3 => ?_) (fun c3 => ?_)
    · replace h0 := fo_itT c3 h0
      refine lv_iconst (v := 0) hx hb dX0_isAccount_16 (by decide) ?_
      have hr4 := Option.some.inj h0
      subst hr4
      exact kr _ ls _ _ (fo_zn (Or.inl rfl)) dX0_isAccount_17 hP hS
    · replace h0 := fo_itF c3 h0
      refine lv_iconst (v := 1) hx hb dX0_isAccount_12 (by decide) ?_
      refine lv_goto (tgt := 17) hx hb dX0_isAccount_13 (by decide) ?_
      have hr5 := Option.some.inj h0
      subst hr5
      exact kr _ ls _ _ (fo_zn (Or.inr rfl)) dX0_isAccount_17 hP hS
theorem c_q_FairOrder_isAccount (l : Launch) (D : va_G) (ca : Nat → ClassId) (ad : Nat → Nat) (sz : Nat) {σ : fo_S} {a1 : Int32}  {res : Int32} (h0 : q_FairOrder_isAccount σ a1 = some res) : Met l yX0_isAccount ws_q_FairOrder_isAccount rm_q_FairOrder_isAccount (fo_Pre 51 D vwCl (fo_tys ca) ad (fo_ce ca ad σ) sz [.ref (ad (fo_lay 0 0)), .int a1]) (fo_PoI 51 D vwCl (fo_tys ca) ad (fo_ce ca ad σ) sz res) 0 0 (fo_A 51 ad sz) :=
  fo_mkZ (by decide) (fun C0 kr hP => b_q_FairOrder_isAccount C0 (Nat.le_refl _) (Nat.le_refl _) (Nat.zero_le _)  h0 kr hP)
def q_Call_note (σ : fo_S) (i0 : Nat) (a1 : Int32) (a2 : Int64) : Option (fo_S) :=
  some (fo_pJ (fo_pI σ 14 i0 8 a1) 14 i0 9 a2)
set_option maxHeartbeats 4000000 in
set_option maxRecDepth 100000 in
theorem b_q_Call_note {p : Program} {l : Launch} {e : Env} {R : Room} {s : State} {m : MethodId} {args : Array Value} {below : List Frame} {meth : Method} {c : Code} {Q : State → Prop} {D : va_G} {ca : Nat → ClassId} {ad : Nat → Nat} (C0 : fo_CX p s m args c cX1_note 4 RX1 D ca ad) (hRf : 0 ≤ R.frames) (hRl : 0 ≤ R.locals) (hRc : 0 ≤ R.cells) {σ : fo_S} {i0 : Nat} {a1 : Int32} {a2 : Int64} (hi0 : i0 < 16) {res : fo_S} (h0 : q_Call_note σ i0 a1 a2 = some res) (kr : ∀ (pc : Nat) (ls : Array Slot) (H : Heap) (locs : List Loc), decode cX1_note pc = .ok (.return_, 1) → va_P D vwCl (fo_vx 51 ad (fo_ce ca ad res)) H → va_S (fo_A 51 ad s.heap.size) s.heap H locs → W p l e R s m args below meth c H locs 0 0 Q (F0 m pc ls [])) (hP : va_P D vwCl (fo_vx 51 ad (fo_ce ca ad σ)) s.heap) : W p l e R s m args below meth c s.heap [] 0 0 Q (entryFrame m ([.ref (ad (fo_lay 14 i0)), .int a1, .long a2] : List Value).toArray 4) := by
  obtain ⟨hx, hb, hml, hown, hT, hK, hD⟩ := C0
  have hN0 : (some res) ≠ none := fun q => by cases q
  unfold q_Call_note at h0
  have hS : va_S (fo_A 51 ad s.heap.size) s.heap s.heap [] := va_S.rf
  have hl := lv_entry ([.ref (ad (fo_lay 14 i0)), .int a1, .long a2]) (n := 4) (Nat.le_of_ble_eq_true rfl)
  rw [lg_entry_eq]
  generalize (lg_sl ([.ref (ad (fo_lay 14 i0)), .int a1, .long a2]) ++ List.replicate (4 - (lg_sl ([.ref (ad (fo_lay 14 i0)), .int a1, .long a2])).length) Slot.unset).toArray = ls at hl ⊢
  have hl : lv_has ls 4 [(0, .ref (ad (fo_lay 14 i0))), (1, .int a1), (2, .long a2)] := hl
  refine lv_aload_n hx hb dX1_note_0 rfl (lv_at hl 0 rfl) ?_
  refine lv_iload_n hx hb dX1_note_1 rfl (lv_at hl 1 rfl) ?_
  refine fo_p1_50 hx hb hT hown hK hP hD hS hi0 dX1_note_2 (fun H locs hP hS => ?_)
  refine lv_aload_n hx hb dX1_note_5 rfl (lv_at hl 0 rfl) ?_
  refine lv_lload_n hx hb dX1_note_6 rfl (lv_at hl 2 rfl) ?_
  refine fo_p1_53 hx hb hT hown hK hP hD hS hi0 dX1_note_7 (fun H locs hP hS => ?_)
  have hr1 := Option.some.inj h0
  subst hr1
  exact kr _ ls _ _ dX1_note_10 hP hS
theorem c_q_Call_note (l : Launch) (D : va_G) (ca : Nat → ClassId) (ad : Nat → Nat) (sz : Nat) {σ : fo_S} {i0 : Nat} {a1 : Int32} {a2 : Int64} (hi0 : i0 < 16) {res : fo_S} (h0 : q_Call_note σ i0 a1 a2 = some res) : Met l yX1_note ws_q_Call_note rm_q_Call_note (fo_Pre 51 D vwCl (fo_tys ca) ad (fo_ce ca ad σ) sz [.ref (ad (fo_lay 14 i0)), .int a1, .long a2]) (fo_PoV 51 D vwCl (fo_tys ca) ad (fo_ce ca ad res) sz) 0 0 (fo_A 51 ad sz) :=
  fo_mkV (by decide) (fun C0 kr hP => b_q_Call_note C0 (Nat.le_refl _) (Nat.le_refl _) (Nat.zero_le _) hi0 h0 kr hP)
def q_Call_begin (σ : fo_S) (i0 : Nat) (a1 : Int32) (a2 : Int64) (a3 : Int64) : Option (fo_S) :=
  (q_Call_note (fo_rI (fo_pI (fo_pJ (fo_pJ (fo_pI σ 14 i0 1 a1) 14 i0 2 a2) 14 i0 3 a3) 14 i0 4 (0 : Int32)) 15 i0 (fo_fil ((fo_pI (fo_pJ (fo_pJ (fo_pI σ 14 i0 1 a1) 14 i0 2 a2) 14 i0 3 a3) 14 i0 4 (0 : Int32)).1 15 i0) 5 (1000001 : Int32))) i0 (0 : Int32) (0 : Int64)).bind (fun x1 => some x1)
set_option maxHeartbeats 4000000 in
set_option maxRecDepth 100000 in
theorem b_q_Call_begin {p : Program} {l : Launch} {e : Env} {R : Room} {s : State} {m : MethodId} {args : Array Value} {below : List Frame} {meth : Method} {c : Code} {Q : State → Prop} {D : va_G} {ca : Nat → ClassId} {ad : Nat → Nat} (C0 : fo_CX p s m args c cX1_begin 6 RX1 D ca ad) (hRf : 1 ≤ R.frames) (hRl : 23 ≤ R.locals) (hRc : 0 ≤ R.cells) {σ : fo_S} {i0 : Nat} {a1 : Int32} {a2 : Int64} {a3 : Int64} (hi0 : i0 < 16) {res : fo_S} (h0 : q_Call_begin σ i0 a1 a2 a3 = some res) (kr : ∀ (pc : Nat) (ls : Array Slot) (H : Heap) (locs : List Loc), decode cX1_begin pc = .ok (.return_, 1) → va_P D vwCl (fo_vx 51 ad (fo_ce ca ad res)) H → va_S (fo_A 51 ad s.heap.size) s.heap H locs → W p l e R s m args below meth c H locs 0 0 Q (F0 m pc ls [])) (hP : va_P D vwCl (fo_vx 51 ad (fo_ce ca ad σ)) s.heap) : W p l e R s m args below meth c s.heap [] 0 0 Q (entryFrame m ([.ref (ad (fo_lay 14 i0)), .int a1, .long a2, .long a3] : List Value).toArray 6) := by
  obtain ⟨hx, hb, hml, hown, hT, hK, hD⟩ := C0
  have hN0 : (some res) ≠ none := fun q => by cases q
  unfold q_Call_begin at h0
  have hS : va_S (fo_A 51 ad s.heap.size) s.heap s.heap [] := va_S.rf
  have hl := lv_entry ([.ref (ad (fo_lay 14 i0)), .int a1, .long a2, .long a3]) (n := 6) (Nat.le_of_ble_eq_true rfl)
  rw [lg_entry_eq]
  generalize (lg_sl ([.ref (ad (fo_lay 14 i0)), .int a1, .long a2, .long a3]) ++ List.replicate (6 - (lg_sl ([.ref (ad (fo_lay 14 i0)), .int a1, .long a2, .long a3])).length) Slot.unset).toArray = ls at hl ⊢
  have hl : lv_has ls 6 [(0, .ref (ad (fo_lay 14 i0))), (1, .int a1), (2, .long a2), (4, .long a3)] := hl
  refine lv_aload_n hx hb dX1_begin_0 rfl (lv_at hl 0 rfl) ?_
  refine lv_iload_n hx hb dX1_begin_1 rfl (lv_at hl 1 rfl) ?_
  refine fo_p1_15 hx hb hT hown hK hP hD hS hi0 dX1_begin_2 (fun H locs hP hS => ?_)
  refine lv_aload_n hx hb dX1_begin_5 rfl (lv_at hl 0 rfl) ?_
  refine lv_lload_n hx hb dX1_begin_6 rfl (lv_at hl 2 rfl) ?_
  refine fo_p1_19 hx hb hT hown hK hP hD hS hi0 dX1_begin_7 (fun H locs hP hS => ?_)
  refine lv_aload_n hx hb dX1_begin_10 rfl (lv_at hl 0 rfl) ?_
  refine lv_lload hx hb dX1_begin_11 (lv_at hl 3 rfl) ?_
  refine fo_p1_23 hx hb hT hown hK hP hD hS hi0 dX1_begin_13 (fun H locs hP hS => ?_)
  refine lv_aload_n hx hb dX1_begin_16 rfl (lv_at hl 0 rfl) ?_
  refine lv_iconst (v := 0) hx hb dX1_begin_17 (by decide) ?_
  refine fo_p1_26 hx hb hT hown hK hP hD hS hi0 rfl rfl dX1_begin_18 (fun H locs hP hS => ?_)
  refine lv_aload_n hx hb dX1_begin_21 rfl (lv_at hl 0 rfl) ?_
  refine fo_g1_9 hx hb hT hown hK hP hi0 dX1_begin_22 ?_
  refine lv_ldc (v := 1000001) hx hb hown (fo_k1_30 hT) dX1_begin_25 ?_
  refine fo_callv (va_runS (H := _) (As := [.ref (ad (fo_lay 15 i0)), .int (1000001 : Int32)]) (rest := []) ⟨hx, hb, hml, hown, hT⟩ (c_q_fillI l D ca ad _ (k := 15) (n := 5) (by decide) hi0 (fun _ _ => rfl) (by decide)) (fo_c1_31 hT ⟨Nat.le_trans (Nat.le_of_ble_eq_true rfl) hRf, Nat.le_trans (Nat.le_of_ble_eq_true rfl) hRl⟩) ⟨fo_Pre_blind, fo_Pre_at hP hK (hD _)⟩ rfl rfl hl.1 rfl (lv_room (Nat.le_of_ble_eq_true rfl)) dX1_begin_27 ⟨Nat.zero_le _, Nat.zero_le _⟩) hS (fun H locs hP hS => ?_)
  refine lv_aload_n hx hb dX1_begin_30 rfl (lv_at hl 0 rfl) ?_
  refine lv_iconst (v := 0) hx hb dX1_begin_31 (by decide) ?_
  refine lv_lconst (v := 0) hx hb dX1_begin_32 (by decide) ?_
  obtain ⟨x1, hx1, h0⟩ := fo_bd h0 hN0
  refine fo_callv (va_runV (H := _) (As := [.int (0 : Int32), .long (0 : Int64)]) (rest := []) ⟨hx, hb, hml, hown, hT⟩ (c_q_Call_note l D ca ad _ hi0 hx1) (fo_c1_37 hT ⟨Nat.le_trans (Nat.le_of_ble_eq_true rfl) hRf, Nat.le_trans (Nat.le_of_ble_eq_true rfl) hRl⟩) ⟨fo_Pre_blind, fo_rc14 hK hP hi0, fo_Pre_at hP hK (hD _)⟩ rfl rfl hl.1 rfl (lv_room (Nat.le_of_ble_eq_true rfl)) dX1_begin_33 ⟨Nat.zero_le _, Nat.zero_le _⟩) hS (fun H locs hP hS => ?_)
  have hr2 := Option.some.inj h0
  subst hr2
  exact kr _ ls _ _ dX1_begin_36 hP hS
theorem c_q_Call_begin (l : Launch) (D : va_G) (ca : Nat → ClassId) (ad : Nat → Nat) (sz : Nat) {σ : fo_S} {i0 : Nat} {a1 : Int32} {a2 : Int64} {a3 : Int64} (hi0 : i0 < 16) {res : fo_S} (h0 : q_Call_begin σ i0 a1 a2 a3 = some res) : Met l yX1_begin ws_q_Call_begin rm_q_Call_begin (fo_Pre 51 D vwCl (fo_tys ca) ad (fo_ce ca ad σ) sz [.ref (ad (fo_lay 14 i0)), .int a1, .long a2, .long a3]) (fo_PoV 51 D vwCl (fo_tys ca) ad (fo_ce ca ad res) sz) 0 0 (fo_A 51 ad sz) :=
  fo_mkV (by decide) (fun C0 kr hP => b_q_Call_begin C0 (Nat.le_refl _) (Nat.le_refl _) (Nat.zero_le _) hi0 h0 kr hP)
