def q_FairOrder_batch (σ : fo_S)  : Option (Int32 × fo_S) :=
  (q_FairOrder_mayPlay σ).bind (fun x1 => if x1 = 0 then (some ((-4 : Int32), σ)) else ((q_Auction_findPrice (fo_pI σ 0 0 14 (1 : Int32)) 0 0).bind (fun x3 => if x3.1 = (-1 : Int32) then (some (x3.1, x3.2)) else ((q_Auction_settle x3.2 x3.1 0 0).bind (fun x6 => some (x3.1, x6))))))
set_option maxHeartbeats 4000000 in
set_option maxRecDepth 100000 in
theorem b_q_FairOrder_batch {p : Program} {l : Launch} {e : Env} {R : Room} {s : State} {m : MethodId} {args : Array Value} {below : List Frame} {meth : Method} {c : Code} {Q : State → Prop} {D : va_G} {ca : Nat → ClassId} {ad : Nat → Nat} (C0 : fo_CX p s m args c cX0_batch 2 RX0 D ca ad) (hRf : 3 ≤ R.frames) (hRl : 82 ≤ R.locals) (hRc : 0 ≤ R.cells) {σ : fo_S}   {res : Int32 × fo_S} (h0 : q_FairOrder_batch σ = some res) (kr : ∀ (pc : Nat) (ls : Array Slot) (H : Heap) (locs : List Loc), decode cX0_batch pc = .ok (.ireturn, 1) → va_P D vwCl (fo_vx 51 ad (fo_ce ca ad res.2)) H → va_S (fo_A 51 ad s.heap.size) s.heap H locs → W p l e R s m args below meth c H locs 0 0 Q (F0 m pc ls [.int res.1])) (hP : va_P D vwCl (fo_vx 51 ad (fo_ce ca ad σ)) s.heap) : W p l e R s m args below meth c s.heap [] 0 0 Q (entryFrame m ([.ref (ad (fo_lay 0 0))] : List Value).toArray 2) := by
  obtain ⟨hx, hb, hml, hown, hT, hK, hD⟩ := C0
  have hN0 : (some res) ≠ none := fun q => by cases q
  unfold q_FairOrder_batch at h0
  have hS : va_S (fo_A 51 ad s.heap.size) s.heap s.heap [] := va_S.rf
  have hl := lv_entry ([.ref (ad (fo_lay 0 0))]) (n := 2) (Nat.le_of_ble_eq_true rfl)
  rw [lg_entry_eq]
  generalize (lg_sl ([.ref (ad (fo_lay 0 0))]) ++ List.replicate (2 - (lg_sl ([.ref (ad (fo_lay 0 0))])).length) Slot.unset).toArray = ls at hl ⊢
  have hl : lv_has ls 2 [(0, .ref (ad (fo_lay 0 0)))] := hl
  refine lv_aload_n hx hb dX0_batch_0 rfl (lv_at hl 0 rfl) ?_
  obtain ⟨x1, hx1, h0⟩ := fo_bd h0 hN0
  refine fo_calli (va_runV (H := _) (As := []) (rest := []) ⟨hx, hb, hml, hown, hT⟩ (c_q_FairOrder_mayPlay l D ca ad _ hx1) (fo_c0_175 hT ⟨Nat.le_trans (Nat.le_of_ble_eq_true rfl) hRf, Nat.le_trans (Nat.le_of_ble_eq_true rfl) hRl⟩) ⟨fo_Pre_blind, fo_rc0 hK hP (by decide), fo_Pre_at hP hK (hD _)⟩ rfl rfl hl.1 rfl (lv_room (Nat.le_of_ble_eq_true rfl)) dX0_batch_1 ⟨Nat.zero_le _, Nat.zero_le _⟩) hS (fun H locs hP hS => ?_)
  refine lv_if_ne (tgt := 10) hx hb dX0_batch_4 (by decide) (fun c2 => ?_) (fun c2 => ?_)
  · replace h0 := fo_itF c2 h0
    refine lv_aload_n hx hb dX0_batch_10 rfl (lv_at hl 0 rfl) ?_
    refine lv_iconst (v := 1) hx hb dX0_batch_11 (by decide) ?_
    refine fo_p0_179 hx hb hT hown hK hP hD hS (by decide) rfl rfl dX0_batch_12 (fun H locs hP hS => ?_)
    refine lv_aload_n hx hb dX0_batch_15 rfl (lv_at hl 0 rfl) ?_
    refine fo_g0_49 hx hb hT hown hK hP (by decide) dX0_batch_16 ?_
    refine lv_aload_n hx hb dX0_batch_19 rfl (lv_at hl 0 rfl) ?_
    refine fo_g0_28 hx hb hT hown hK hP (by decide) dX0_batch_20 ?_
    refine lv_aload_n hx hb dX0_batch_23 rfl (lv_at hl 0 rfl) ?_
    refine fo_g0_21 hx hb hT hown hK hP (by decide) dX0_batch_24 ?_
    refine lv_aload_n hx hb dX0_batch_27 rfl (lv_at hl 0 rfl) ?_
    refine fo_g0_12 hx hb hT hown hK hP (by decide) dX0_batch_28 ?_
    obtain ⟨x3, hx3, h0⟩ := fo_bd h0 hN0
    refine fo_calli (va_runV (H := _) (As := [.ref (ad (fo_lay 5 0)), .ref (ad (fo_lay 4 0)), .ref (ad (fo_lay 1 0))]) (rest := []) ⟨hx, hb, hml, hown, hT⟩ (c_q_Auction_findPrice l D ca ad _ (by decide) (by decide) hx3) (fo_c0_194 hT ⟨Nat.le_trans (Nat.le_of_ble_eq_true rfl) hRf, Nat.le_trans (Nat.le_of_ble_eq_true rfl) hRl⟩) ⟨fo_Pre_blind, fo_rc10 hK hP (by decide), fo_Pre_at hP hK (hD _)⟩ rfl rfl hl.1 rfl (lv_room (Nat.le_of_ble_eq_true rfl)) dX0_batch_31 ⟨Nat.zero_le _, Nat.zero_le _⟩) hS (fun H locs hP hS => ?_)
    refine lv_istore_n (lv' := [(1, .int x3.1), (0, .ref (ad (fo_lay 0 0)))]) hx hb dX0_batch_34 rfl hl (by decide) rfl (fun ls hl => ?_)
    refine lv_iload_n hx hb dX0_batch_35 rfl (lv_at hl 0 rfl) ?_
    refine lv_iconst (v := -1) hx hb dX0_batch_36 (by decide) ?_
    refine lv_icmp_eq (tgt := 60) hx hb dX0_batch_37 (by decide) (fun c4 => ?_) (fun c4 => ?_)
    · replace h0 := fo_itT c4 h0
      refine lv_iload_n hx hb dX0_batch_60 rfl (lv_at hl 0 rfl) ?_
      have hr5 := Option.some.inj h0
      subst hr5
      exact kr _ ls _ _ dX0_batch_61 hP hS
    · replace h0 := fo_itF c4 h0
      refine lv_aload_n hx hb dX0_batch_40 rfl (lv_at hl 1 rfl) ?_
      refine fo_g0_49 hx hb hT hown hK hP (by decide) dX0_batch_41 ?_
      refine lv_iload_n hx hb dX0_batch_44 rfl (lv_at hl 0 rfl) ?_
      refine lv_aload_n hx hb dX0_batch_45 rfl (lv_at hl 1 rfl) ?_
      refine fo_g0_28 hx hb hT hown hK hP (by decide) dX0_batch_46 ?_
      refine lv_aload_n hx hb dX0_batch_49 rfl (lv_at hl 1 rfl) ?_
      refine fo_g0_21 hx hb hT hown hK hP (by decide) dX0_batch_50 ?_
      refine lv_aload_n hx hb dX0_batch_53 rfl (lv_at hl 1 rfl) ?_
      refine fo_g0_12 hx hb hT hown hK hP (by decide) dX0_batch_54 ?_
      obtain ⟨x6, hx6, h0⟩ := fo_bd h0 hN0
      refine fo_callv (va_runV (H := _) (As := [.int x3.1, .ref (ad (fo_lay 5 0)), .ref (ad (fo_lay 4 0)), .ref (ad (fo_lay 1 0))]) (rest := []) ⟨hx, hb, hml, hown, hT⟩ (c_q_Auction_settle l D ca ad _ (by decide) (by decide) hx6) (fo_c0_198 hT ⟨Nat.le_trans (Nat.le_of_ble_eq_true rfl) hRf, Nat.le_trans (Nat.le_of_ble_eq_true rfl) hRl⟩) ⟨fo_Pre_blind, fo_rc10 hK hP (by decide), fo_Pre_at hP hK (hD _)⟩ rfl rfl hl.1 rfl (lv_room (Nat.le_of_ble_eq_true rfl)) dX0_batch_57 ⟨Nat.zero_le _, Nat.zero_le _⟩) hS (fun H locs hP hS => ?_)
      refine lv_iload_n hx hb dX0_batch_60 rfl (lv_at hl 0 rfl) ?_
      have hr7 := Option.some.inj h0
      subst hr7
      exact kr _ ls _ _ dX0_batch_61 hP hS
  · replace h0 := fo_itT c2 h0
    refine lv_bipush (v := -4) hx hb dX0_batch_7 (by decide) ?_
    have hr8 := Option.some.inj h0
    subst hr8
    exact kr _ ls _ _ dX0_batch_9 hP hS
theorem c_q_FairOrder_batch (l : Launch) (D : va_G) (ca : Nat → ClassId) (ad : Nat → Nat) (sz : Nat) {σ : fo_S}   {res : Int32 × fo_S} (h0 : q_FairOrder_batch σ = some res) : Met l yX0_batch ws_q_FairOrder_batch rm_q_FairOrder_batch (fo_Pre 51 D vwCl (fo_tys ca) ad (fo_ce ca ad σ) sz [.ref (ad (fo_lay 0 0))]) (fo_PoI 51 D vwCl (fo_tys ca) ad (fo_ce ca ad res.2) sz res.1) 0 0 (fo_A 51 ad sz) :=
  fo_mkI (by decide) (fun C0 kr hP => b_q_FairOrder_batch C0 (Nat.le_refl _) (Nat.le_refl _) (Nat.zero_le _)  h0 kr hP)
def q_FairOrder_done (σ : fo_S) (a1 : Int32) : Option (Int32) :=
  (q_FairOrder_isCall σ a1).bind (fun x1 => if x1 = 0 then (some (-2 : Int32)) else (if (σ.1 0 0 14) = 0 then (some (-1 : Int32)) else (if fo_vi a1 16 then (some (σ.1 14 a1.toNatClampNeg 8)) else none)))
set_option maxHeartbeats 4000000 in
set_option maxRecDepth 100000 in
theorem b_q_FairOrder_done {p : Program} {l : Launch} {e : Env} {R : Room} {s : State} {m : MethodId} {args : Array Value} {below : List Frame} {meth : Method} {c : Code} {Q : State → Prop} {D : va_G} {ca : Nat → ClassId} {ad : Nat → Nat} (C0 : fo_CX p s m args c cX0_done 2 RX0 D ca ad) (hRf : 1 ≤ R.frames) (hRl : 21 ≤ R.locals) (hRc : 0 ≤ R.cells) {σ : fo_S} {a1 : Int32}  {res : Int32} (h0 : q_FairOrder_done σ a1 = some res) (kr : ∀ (pc : Nat) (ls : Array Slot) (H : Heap) (locs : List Loc), decode cX0_done pc = .ok (.ireturn, 1) → va_P D vwCl (fo_vx 51 ad (fo_ce ca ad σ)) H → va_S (fo_A 51 ad s.heap.size) s.heap H locs → W p l e R s m args below meth c H locs 0 0 Q (F0 m pc ls [.int res])) (hP : va_P D vwCl (fo_vx 51 ad (fo_ce ca ad σ)) s.heap) : W p l e R s m args below meth c s.heap [] 0 0 Q (entryFrame m ([.ref (ad (fo_lay 0 0)), .int a1] : List Value).toArray 2) := by
  obtain ⟨hx, hb, hml, hown, hT, hK, hD⟩ := C0
  have hN0 : (some res) ≠ none := fun q => by cases q
  unfold q_FairOrder_done at h0
  have hS : va_S (fo_A 51 ad s.heap.size) s.heap s.heap [] := va_S.rf
  have hl := lv_entry ([.ref (ad (fo_lay 0 0)), .int a1]) (n := 2) (Nat.le_of_ble_eq_true rfl)
  rw [lg_entry_eq]
  generalize (lg_sl ([.ref (ad (fo_lay 0 0)), .int a1]) ++ List.replicate (2 - (lg_sl ([.ref (ad (fo_lay 0 0)), .int a1])).length) Slot.unset).toArray = ls at hl ⊢
  have hl : lv_has ls 2 [(0, .ref (ad (fo_lay 0 0))), (1, .int a1)] := hl
  refine lv_aload_n hx hb dX0_done_0 rfl (lv_at hl 0 rfl) ?_
  refine lv_iload_n hx hb dX0_done_1 rfl (lv_at hl 1 rfl) ?_
  obtain ⟨x1, hx1, h0⟩ := fo_bd h0 hN0
  refine fo_calli (va_runV (H := _) (As := [.int a1]) (rest := []) ⟨hx, hb, hml, hown, hT⟩ (c_q_FairOrder_isCall l D ca ad _ hx1) (fo_c0_106 hT ⟨Nat.le_trans (Nat.le_of_ble_eq_true rfl) hRf, Nat.le_trans (Nat.le_of_ble_eq_true rfl) hRl⟩) ⟨fo_Pre_blind, fo_rc0 hK hP (by decide), fo_Pre_at hP hK (hD _)⟩ rfl rfl hl.1 rfl (lv_room (Nat.le_of_ble_eq_true rfl)) dX0_done_2 ⟨Nat.zero_le _, Nat.zero_le _⟩) hS (fun H locs hP hS => ?_)
  refine lv_if_ne (tgt := 11) hx hb dX0_done_5 (by decide) (fun c2 => ?_) (fun c2 => ?_)
  · replace h0 := fo_itF c2 h0
    refine lv_aload_n hx hb dX0_done_11 rfl (lv_at hl 0 rfl) ?_
    refine fo_g0_179 hx hb hT hown hK hP (by decide) dX0_done_12 ?_
    refine lv_if_eq (tgt := 30) hx hb dX0_done_15 (by decide) (fun c3 => ?_) (fun c3 => ?_)
    · replace h0 := fo_itT c3 h0
      refine lv_iconst (v := -1) hx hb dX0_done_30 (by decide) ?_
      have hr4 := Option.some.inj h0
      subst hr4
      exact kr _ ls _ _ dX0_done_31 hP hS
    · replace h0 := fo_itF c3 h0
      refine lv_aload_n hx hb dX0_done_18 rfl (lv_at hl 0 rfl) ?_
      refine fo_g0_21 hx hb hT hown hK hP (by decide) dX0_done_19 ?_
      refine lv_iload_n hx hb dX0_done_22 rfl (lv_at hl 1 rfl) ?_
      obtain ⟨g5, h0⟩ := fo_gd h0 hN0
      refine fo_aald_4 hx hb hK hP (by decide) g5 dX0_done_23 ?_
      refine fo_g0_202 hx hb hT hown hK hP (fo_in g5) dX0_done_24 ?_
      refine lv_goto (tgt := 31) hx hb dX0_done_27 (by decide) ?_
      have hr6 := Option.some.inj h0
      subst hr6
      exact kr _ ls _ _ dX0_done_31 hP hS
  · replace h0 := fo_itT c2 h0
    refine lv_bipush (v := -2) hx hb dX0_done_8 (by decide) ?_
    have hr7 := Option.some.inj h0
    subst hr7
    exact kr _ ls _ _ dX0_done_10 hP hS
theorem c_q_FairOrder_done (l : Launch) (D : va_G) (ca : Nat → ClassId) (ad : Nat → Nat) (sz : Nat) {σ : fo_S} {a1 : Int32}  {res : Int32} (h0 : q_FairOrder_done σ a1 = some res) : Met l yX0_done ws_q_FairOrder_done rm_q_FairOrder_done (fo_Pre 51 D vwCl (fo_tys ca) ad (fo_ce ca ad σ) sz [.ref (ad (fo_lay 0 0)), .int a1]) (fo_PoI 51 D vwCl (fo_tys ca) ad (fo_ce ca ad σ) sz res) 0 0 (fo_A 51 ad sz) :=
  fo_mkI (by decide) (fun C0 kr hP => b_q_FairOrder_done C0 (Nat.le_refl _) (Nat.le_refl _) (Nat.zero_le _)  h0 kr hP)
def q_FairOrder_passed (σ : fo_S) (a1 : Int32) : Option (Int64) :=
  (q_FairOrder_isCall σ a1).bind (fun x1 => if x1 = 0 then (some (-2 : Int64)) else (if (σ.1 0 0 14) = 0 then (some (-1 : Int64)) else (if fo_vi a1 16 then (some (σ.2 14 a1.toNatClampNeg 9)) else none)))
set_option maxHeartbeats 4000000 in
set_option maxRecDepth 100000 in
theorem b_q_FairOrder_passed {p : Program} {l : Launch} {e : Env} {R : Room} {s : State} {m : MethodId} {args : Array Value} {below : List Frame} {meth : Method} {c : Code} {Q : State → Prop} {D : va_G} {ca : Nat → ClassId} {ad : Nat → Nat} (C0 : fo_CX p s m args c cX0_passed 2 RX0 D ca ad) (hRf : 1 ≤ R.frames) (hRl : 21 ≤ R.locals) (hRc : 0 ≤ R.cells) {σ : fo_S} {a1 : Int32}  {res : Int64} (h0 : q_FairOrder_passed σ a1 = some res) (kr : ∀ (pc : Nat) (ls : Array Slot) (H : Heap) (locs : List Loc), decode cX0_passed pc = .ok (.lreturn, 1) → va_P D vwCl (fo_vx 51 ad (fo_ce ca ad σ)) H → va_S (fo_A 51 ad s.heap.size) s.heap H locs → W p l e R s m args below meth c H locs 0 0 Q (F0 m pc ls [.long res])) (hP : va_P D vwCl (fo_vx 51 ad (fo_ce ca ad σ)) s.heap) : W p l e R s m args below meth c s.heap [] 0 0 Q (entryFrame m ([.ref (ad (fo_lay 0 0)), .int a1] : List Value).toArray 2) := by
  obtain ⟨hx, hb, hml, hown, hT, hK, hD⟩ := C0
  have hN0 : (some res) ≠ none := fun q => by cases q
  unfold q_FairOrder_passed at h0
  have hS : va_S (fo_A 51 ad s.heap.size) s.heap s.heap [] := va_S.rf
  have hl := lv_entry ([.ref (ad (fo_lay 0 0)), .int a1]) (n := 2) (Nat.le_of_ble_eq_true rfl)
  rw [lg_entry_eq]
  generalize (lg_sl ([.ref (ad (fo_lay 0 0)), .int a1]) ++ List.replicate (2 - (lg_sl ([.ref (ad (fo_lay 0 0)), .int a1])).length) Slot.unset).toArray = ls at hl ⊢
  have hl : lv_has ls 2 [(0, .ref (ad (fo_lay 0 0))), (1, .int a1)] := hl
  refine lv_aload_n hx hb dX0_passed_0 rfl (lv_at hl 0 rfl) ?_
  refine lv_iload_n hx hb dX0_passed_1 rfl (lv_at hl 1 rfl) ?_
  obtain ⟨x1, hx1, h0⟩ := fo_bd h0 hN0
  refine fo_calli (va_runV (H := _) (As := [.int a1]) (rest := []) ⟨hx, hb, hml, hown, hT⟩ (c_q_FairOrder_isCall l D ca ad _ hx1) (fo_c0_106 hT ⟨Nat.le_trans (Nat.le_of_ble_eq_true rfl) hRf, Nat.le_trans (Nat.le_of_ble_eq_true rfl) hRl⟩) ⟨fo_Pre_blind, fo_rc0 hK hP (by decide), fo_Pre_at hP hK (hD _)⟩ rfl rfl hl.1 rfl (lv_room (Nat.le_of_ble_eq_true rfl)) dX0_passed_2 ⟨Nat.zero_le _, Nat.zero_le _⟩) hS (fun H locs hP hS => ?_)
  refine lv_if_ne (tgt := 12) hx hb dX0_passed_5 (by decide) (fun c2 => ?_) (fun c2 => ?_)
  · replace h0 := fo_itF c2 h0
    refine lv_aload_n hx hb dX0_passed_12 rfl (lv_at hl 0 rfl) ?_
    refine fo_g0_179 hx hb hT hown hK hP (by decide) dX0_passed_13 ?_
    refine lv_if_eq (tgt := 31) hx hb dX0_passed_16 (by decide) (fun c3 => ?_) (fun c3 => ?_)
    · replace h0 := fo_itT c3 h0
      refine lv_ldc2 (v := -1) hx hb hown (fo_k0_186 hT) dX0_passed_31 ?_
      have hr4 := Option.some.inj h0
      subst hr4
      exact kr _ ls _ _ dX0_passed_34 hP hS
    · replace h0 := fo_itF c3 h0
      refine lv_aload_n hx hb dX0_passed_19 rfl (lv_at hl 0 rfl) ?_
      refine fo_g0_21 hx hb hT hown hK hP (by decide) dX0_passed_20 ?_
      refine lv_iload_n hx hb dX0_passed_23 rfl (lv_at hl 1 rfl) ?_
      obtain ⟨g5, h0⟩ := fo_gd h0 hN0
      refine fo_aald_4 hx hb hK hP (by decide) g5 dX0_passed_24 ?_
      refine fo_g0_207 hx hb hT hown hK hP (fo_in g5) dX0_passed_25 ?_
      refine lv_goto (tgt := 34) hx hb dX0_passed_28 (by decide) ?_
      have hr6 := Option.some.inj h0
      subst hr6
      exact kr _ ls _ _ dX0_passed_34 hP hS
  · replace h0 := fo_itT c2 h0
    refine lv_ldc2 (v := -2) hx hb hown (fo_k0_205 hT) dX0_passed_8 ?_
    have hr7 := Option.some.inj h0
    subst hr7
    exact kr _ ls _ _ dX0_passed_11 hP hS
theorem c_q_FairOrder_passed (l : Launch) (D : va_G) (ca : Nat → ClassId) (ad : Nat → Nat) (sz : Nat) {σ : fo_S} {a1 : Int32}  {res : Int64} (h0 : q_FairOrder_passed σ a1 = some res) : Met l yX0_passed ws_q_FairOrder_passed rm_q_FairOrder_passed (fo_Pre 51 D vwCl (fo_tys ca) ad (fo_ce ca ad σ) sz [.ref (ad (fo_lay 0 0)), .int a1]) (fo_PoL 51 D vwCl (fo_tys ca) ad (fo_ce ca ad σ) sz res) 0 0 (fo_A 51 ad sz) :=
  fo_mkL (by decide) (fun C0 kr hP => b_q_FairOrder_passed C0 (Nat.le_refl _) (Nat.le_refl _) (Nat.zero_le _)  h0 kr hP)
def q_FairOrder_isHolding (σ : fo_S) (a0 : Int32) : Option (Int32) :=
  if a0 = 0 then (some (1 : Int32)) else (if a0 = (1 : Int32) then (some (1 : Int32)) else (some (0 : Int32)))
set_option maxHeartbeats 4000000 in
set_option maxRecDepth 100000 in
theorem b_q_FairOrder_isHolding {p : Program} {l : Launch} {e : Env} {R : Room} {s : State} {m : MethodId} {args : Array Value} {below : List Frame} {meth : Method} {c : Code} {Q : State → Prop} {D : va_G} {ca : Nat → ClassId} {ad : Nat → Nat} (C0 : fo_CX p s m args c cX0_isHolding 1 RX0 D ca ad) (hRf : 0 ≤ R.frames) (hRl : 0 ≤ R.locals) (hRc : 0 ≤ R.cells) {σ : fo_S} {a0 : Int32}  {res : Int32} (h0 : q_FairOrder_isHolding σ a0 = some res) (kr : ∀ (pc : Nat) (ls : Array Slot) (H : Heap) (locs : List Loc), narrow .boolean (.int res) = .int res → decode cX0_isHolding pc = .ok (.ireturn, 1) → va_P D vwCl (fo_vx 51 ad (fo_ce ca ad σ)) H → va_S (fo_A 51 ad s.heap.size) s.heap H locs → W p l e R s m args below meth c H locs 0 0 Q (F0 m pc ls [.int res])) (hP : va_P D vwCl (fo_vx 51 ad (fo_ce ca ad σ)) s.heap) : W p l e R s m args below meth c s.heap [] 0 0 Q (entryFrame m ([.int a0] : List Value).toArray 1) := by
  obtain ⟨hx, hb, hml, hown, hT, hK, hD⟩ := C0
  have hN0 : (some res) ≠ none := fun q => by cases q
  unfold q_FairOrder_isHolding at h0
  have hS : va_S (fo_A 51 ad s.heap.size) s.heap s.heap [] := va_S.rf
  have hl := lv_entry ([.int a0]) (n := 1) (Nat.le_of_ble_eq_true rfl)
  rw [lg_entry_eq]
  generalize (lg_sl ([.int a0]) ++ List.replicate (1 - (lg_sl ([.int a0])).length) Slot.unset).toArray = ls at hl ⊢
  have hl : lv_has ls 1 [(0, .int a0)] := hl
  refine lv_iload_n hx hb dX0_isHolding_0 rfl (lv_at hl 0 rfl) ?_
  refine lv_if_eq (tgt := 9) hx hb dX0_isHolding_1 (by decide) (fun c1 => ?_) (fun c1 => ?_)
  · replace h0 := fo_itT c1 h0
    refine lv_iconst (v := 1) hx hb dX0_isHolding_9 (by decide) ?_
    refine lv_goto (tgt := 14) hx hb dX0_isHolding_10 (by decide) ?_
    have hr2 := Option.some.inj h0
    subst hr2
    exact kr _ ls _ _ (fo_zn (Or.inr rfl)) dX0_isHolding_14 hP hS
  · replace h0 := fo_itF c1 h0
    refine lv_iload_n hx hb dX0_isHolding_4 rfl (lv_at hl 0 rfl) ?_
    refine lv_iconst (v := 1) hx hb dX0_isHolding_5 (by decide) ?_
    refine lv_icmp_ne (tgt := 13) hx hb dX0_isHolding_6 (by decide) (fun c3 => ?_) (fun c3 => ?_)
    · replace h0 := fo_itF c3 h0
      refine lv_iconst (v := 0) hx hb dX0_isHolding_13 (by decide) ?_
      have hr4 := Option.some.inj h0
      subst hr4
      exact kr _ ls _ _ (fo_zn (Or.inl rfl)) dX0_isHolding_14 hP hS
    · replace h0 := fo_itT c3 h0
      refine lv_iconst (v := 1) hx hb dX0_isHolding_9 (by decide) ?_
      refine lv_goto (tgt := 14) hx hb dX0_isHolding_10 (by decide) ?_
      have hr5 := Option.some.inj h0
      subst hr5
      exact kr _ ls _ _ (fo_zn (Or.inr rfl)) dX0_isHolding_14 hP hS
theorem c_q_FairOrder_isHolding (l : Launch) (D : va_G) (ca : Nat → ClassId) (ad : Nat → Nat) (sz : Nat) {σ : fo_S} {a0 : Int32}  {res : Int32} (h0 : q_FairOrder_isHolding σ a0 = some res) : Met l yX0_isHolding ws_q_FairOrder_isHolding rm_q_FairOrder_isHolding (fo_Pre 51 D vwCl (fo_tys ca) ad (fo_ce ca ad σ) sz [.int a0]) (fo_PoI 51 D vwCl (fo_tys ca) ad (fo_ce ca ad σ) sz res) 0 0 (fo_A 51 ad sz) :=
  fo_mkZ (by decide) (fun C0 kr hP => b_q_FairOrder_isHolding C0 (Nat.le_refl _) (Nat.le_refl _) (Nat.zero_le _)  h0 kr hP)
def q_Row_copyFrom (σ : fo_S) (i0 : Nat) (i1 : Nat) : Option (fo_S) :=
  some (fo_pI (fo_rI σ 6 i0 (va_cpy (σ.1 6 i1) (σ.1 6 i0) (0 : Int32).toNatClampNeg (0 : Int32).toNatClampNeg (16 : Int32).toNatClampNeg)) 5 i0 1 ((fo_rI σ 6 i0 (va_cpy (σ.1 6 i1) (σ.1 6 i0) (0 : Int32).toNatClampNeg (0 : Int32).toNatClampNeg (16 : Int32).toNatClampNeg)).1 5 i1 1))
set_option maxHeartbeats 4000000 in
set_option maxRecDepth 100000 in
theorem b_q_Row_copyFrom {p : Program} {l : Launch} {e : Env} {R : Room} {s : State} {m : MethodId} {args : Array Value} {below : List Frame} {meth : Method} {c : Code} {Q : State → Prop} {D : va_G} {ca : Nat → ClassId} {ad : Nat → Nat} (C0 : fo_CX p s m args c cX3_copyFrom 2 RX3 D ca ad) (hRf : 1 ≤ R.frames) (hRl : 40 ≤ R.locals) (hRc : 0 ≤ R.cells) {σ : fo_S} {i0 : Nat} {i1 : Nat} (hi0 : i0 < 2) (hi1 : i1 < 2) {res : fo_S} (h0 : q_Row_copyFrom σ i0 i1 = some res) (kr : ∀ (pc : Nat) (ls : Array Slot) (H : Heap) (locs : List Loc), decode cX3_copyFrom pc = .ok (.return_, 1) → va_P D vwCl (fo_vx 51 ad (fo_ce ca ad res)) H → va_S (fo_A 51 ad s.heap.size) s.heap H locs → W p l e R s m args below meth c H locs 0 0 Q (F0 m pc ls [])) (hP : va_P D vwCl (fo_vx 51 ad (fo_ce ca ad σ)) s.heap) : W p l e R s m args below meth c s.heap [] 0 0 Q (entryFrame m ([.ref (ad (fo_lay 5 i0)), .ref (ad (fo_lay 5 i1))] : List Value).toArray 2) := by
  obtain ⟨hx, hb, hml, hown, hT, hK, hD⟩ := C0
  have hN0 : (some res) ≠ none := fun q => by cases q
  unfold q_Row_copyFrom at h0
  have hS : va_S (fo_A 51 ad s.heap.size) s.heap s.heap [] := va_S.rf
  have hl := lv_entry ([.ref (ad (fo_lay 5 i0)), .ref (ad (fo_lay 5 i1))]) (n := 2) (Nat.le_of_ble_eq_true rfl)
  rw [lg_entry_eq]
  generalize (lg_sl ([.ref (ad (fo_lay 5 i0)), .ref (ad (fo_lay 5 i1))]) ++ List.replicate (2 - (lg_sl ([.ref (ad (fo_lay 5 i0)), .ref (ad (fo_lay 5 i1))])).length) Slot.unset).toArray = ls at hl ⊢
  have hl : lv_has ls 2 [(0, .ref (ad (fo_lay 5 i0))), (1, .ref (ad (fo_lay 5 i1)))] := hl
  refine lv_aload_n hx hb dX3_copyFrom_0 rfl (lv_at hl 1 rfl) ?_
  refine fo_g3_9 hx hb hT hown hK hP hi1 dX3_copyFrom_1 ?_
  refine lv_iconst (v := 0) hx hb dX3_copyFrom_4 (by decide) ?_
  refine lv_aload_n hx hb dX3_copyFrom_5 rfl (lv_at hl 0 rfl) ?_
  refine fo_g3_9 hx hb hT hown hK hP hi0 dX3_copyFrom_6 ?_
  refine lv_iconst (v := 0) hx hb dX3_copyFrom_9 (by decide) ?_
  refine lv_bipush (v := 16) hx hb dX3_copyFrom_10 (by decide) ?_
  refine fo_cpI (k0 := 6) (k := 6) (n0 := 16) (n := 16) hx hb (hml.trans hl.1.symm) hown (fo_c3_19 hT) hT hK hP hD hS (by decide) hi1 (by decide) hi0 (fun _ _ => rfl) (fun _ _ => rfl) (by decide) (by decide) (by decide) (by decide) (by decide) (Nat.le_trans (Nat.le_of_ble_eq_true rfl) hRf) (Nat.le_trans (Nat.le_of_ble_eq_true rfl) hRl) dX3_copyFrom_12 (fun H locs hP hS => ?_)
  refine lv_aload_n hx hb dX3_copyFrom_15 rfl (lv_at hl 0 rfl) ?_
  refine lv_aload_n hx hb dX3_copyFrom_16 rfl (lv_at hl 1 rfl) ?_
  refine fo_g3_15 hx hb hT hown hK hP hi1 dX3_copyFrom_17 ?_
  refine fo_p3_15 hx hb hT hown hK hP hD hS hi0 dX3_copyFrom_20 (fun H locs hP hS => ?_)
  have hr1 := Option.some.inj h0
  subst hr1
  exact kr _ ls _ _ dX3_copyFrom_23 hP hS
theorem c_q_Row_copyFrom (l : Launch) (D : va_G) (ca : Nat → ClassId) (ad : Nat → Nat) (sz : Nat) {σ : fo_S} {i0 : Nat} {i1 : Nat} (hi0 : i0 < 2) (hi1 : i1 < 2) {res : fo_S} (h0 : q_Row_copyFrom σ i0 i1 = some res) : Met l yX3_copyFrom ws_q_Row_copyFrom rm_q_Row_copyFrom (fo_Pre 51 D vwCl (fo_tys ca) ad (fo_ce ca ad σ) sz [.ref (ad (fo_lay 5 i0)), .ref (ad (fo_lay 5 i1))]) (fo_PoV 51 D vwCl (fo_tys ca) ad (fo_ce ca ad res) sz) 0 0 (fo_A 51 ad sz) :=
  fo_mkV (by decide) (fun C0 kr hP => b_q_Row_copyFrom C0 (Nat.le_refl _) (Nat.le_refl _) (Nat.zero_le _) hi0 hi1 h0 kr hP)
def q_Row_move_L2 (i0 : Nat) (a2 : Int32) (s2 : Int32 × fo_S) : Option ((Int32 × fo_S) ⊕ (Int32 × fo_S)) :=
  if a2 ≤ s2.1 then (some (.inr (s2.1, s2.2))) else ((q_Row_swap s2.2 i0 s2.1 (s2.1 + (1 : Int32))).bind (fun x3 => some (.inl (s2.1 + (1 : Int32), x3))))
def q_Row_move_L23 (i0 : Nat) (a2 : Int32) (s23 : Int32 × fo_S) : Option ((Int32 × fo_S) ⊕ (Int32 × fo_S)) :=
  if s23.1 ≤ a2 then (some (.inr (s23.1, s23.2))) else ((q_Row_swap s23.2 i0 s23.1 (s23.1 - (1 : Int32))).bind (fun x6 => some (.inl (s23.1 + (-1 : Int32), x6))))
def q_Row_move (σ : fo_S) (i0 : Nat) (a1 : Int32) (a2 : Int32) : Option (fo_S) :=
  (fo_lp (q_Row_move_L2 i0 a2) fo_FU (a1, σ)).bind (fun y2 => (fo_lp (q_Row_move_L23 i0 a2) fo_FU (a1, y2.2)).bind (fun y23 => some y23.2))
set_option maxHeartbeats 4000000 in
set_option maxRecDepth 100000 in
theorem b_q_Row_move {p : Program} {l : Launch} {e : Env} {R : Room} {s : State} {m : MethodId} {args : Array Value} {below : List Frame} {meth : Method} {c : Code} {Q : State → Prop} {D : va_G} {ca : Nat → ClassId} {ad : Nat → Nat} (C0 : fo_CX p s m args c cX3_move 4 RX3 D ca ad) (hRf : 1 ≤ R.frames) (hRl : 23 ≤ R.locals) (hRc : 0 ≤ R.cells) {σ : fo_S} {i0 : Nat} {a1 : Int32} {a2 : Int32} (hi0 : i0 < 2) {res : fo_S} (h0 : q_Row_move σ i0 a1 a2 = some res) (kr : ∀ (pc : Nat) (ls : Array Slot) (H : Heap) (locs : List Loc), decode cX3_move pc = .ok (.return_, 1) → va_P D vwCl (fo_vx 51 ad (fo_ce ca ad res)) H → va_S (fo_A 51 ad s.heap.size) s.heap H locs → W p l e R s m args below meth c H locs 0 0 Q (F0 m pc ls [])) (hP : va_P D vwCl (fo_vx 51 ad (fo_ce ca ad σ)) s.heap) : W p l e R s m args below meth c s.heap [] 0 0 Q (entryFrame m ([.ref (ad (fo_lay 5 i0)), .int a1, .int a2] : List Value).toArray 4) := by
  obtain ⟨hx, hb, hml, hown, hT, hK, hD⟩ := C0
  have hN0 : (some res) ≠ none := fun q => by cases q
  unfold q_Row_move at h0
  have hS : va_S (fo_A 51 ad s.heap.size) s.heap s.heap [] := va_S.rf
  have hl := lv_entry ([.ref (ad (fo_lay 5 i0)), .int a1, .int a2]) (n := 4) (Nat.le_of_ble_eq_true rfl)
  rw [lg_entry_eq]
  generalize (lg_sl ([.ref (ad (fo_lay 5 i0)), .int a1, .int a2]) ++ List.replicate (4 - (lg_sl ([.ref (ad (fo_lay 5 i0)), .int a1, .int a2])).length) Slot.unset).toArray = ls at hl ⊢
  have hl : lv_has ls 4 [(0, .ref (ad (fo_lay 5 i0))), (1, .int a1), (2, .int a2)] := hl
  refine lv_iload_n hx hb dX3_move_0 rfl (lv_at hl 1 rfl) ?_
  refine lv_istore_n (lv' := [(3, .int a1), (0, .ref (ad (fo_lay 5 i0))), (1, .int a1), (2, .int a2)]) hx hb dX3_move_1 rfl hl (by decide) rfl (fun ls hl => ?_)
  obtain ⟨y2, hy2, h0⟩ := fo_bd h0 hN0
  have ex2 : ∀ (H : Heap) (locs : List Loc) (ls : Array Slot), va_P D vwCl (fo_vx 51 ad (fo_ce ca ad y2.2)) H → va_S (fo_A 51 ad s.heap.size) s.heap H locs → lv_has ls 4 [(0, .ref (ad (fo_lay 5 i0))), (1, .int a1), (2, .int a2)] → W p l e R s m args below meth c H locs 0 0 Q (F0 m 21 ls []) := by
    intro H locs ls hP hS hl
    refine lv_iload_n hx hb dX3_move_21 rfl (lv_at hl 1 rfl) ?_
    refine lv_istore_n (lv' := [(3, .int a1), (0, .ref (ad (fo_lay 5 i0))), (1, .int a1), (2, .int a2)]) hx hb dX3_move_22 rfl hl (by decide) rfl (fun ls hl => ?_)
    obtain ⟨y23, hy23, h0⟩ := fo_bd h0 hN0
    have ex23 : ∀ (H : Heap) (locs : List Loc) (ls : Array Slot), va_P D vwCl (fo_vx 51 ad (fo_ce ca ad y23.2)) H → va_S (fo_A 51 ad s.heap.size) s.heap H locs → lv_has ls 4 [] → W p l e R s m args below meth c H locs 0 0 Q (F0 m 42 ls []) := by
      intro H locs ls hP hS hl
      have hr7 := Option.some.inj h0
      subst hr7
      exact kr _ ls _ _ dX3_move_42 hP hS
    have lp23 := fo_lp_ind (fun (s23 : Int32 × fo_S) => ∀ (H : Heap) (locs : List Loc) (ls : Array Slot), va_P D vwCl (fo_vx 51 ad (fo_ce ca ad s23.2)) H → va_S (fo_A 51 ad s.heap.size) s.heap H locs → lv_has ls 4 [(0, .ref (ad (fo_lay 5 i0))), (2, .int a2), (3, .int s23.1)] → W p l e R s m args below meth c H locs 0 0 Q (F0 m 23 ls [])) (by
        intro s23 o1 h1 hN1 hL1 hE1 H locs ls hP hS hl
        unfold q_Row_move_L23 at h1
        refine lv_iload_n hx hb dX3_move_23 rfl (lv_at hl 2 rfl) ?_
        refine lv_iload_n hx hb dX3_move_24 rfl (lv_at hl 1 rfl) ?_
        refine lv_icmp_le (tgt := 42) hx hb dX3_move_25 (by decide) (fun c4 => ?_) (fun c4 => ?_)
        · replace h1 := fo_itT c4 h1
          have hy5 := hE1 _ h1
          subst hy5
          exact ex23 _ _ ls hP hS (lv_sub hl [] rfl)
        · replace h1 := fo_itF c4 h1
          refine lv_aload_n hx hb dX3_move_28 rfl (lv_at hl 0 rfl) ?_
          refine lv_iload_n hx hb dX3_move_29 rfl (lv_at hl 2 rfl) ?_
          refine lv_iload_n hx hb dX3_move_30 rfl (lv_at hl 2 rfl) ?_
          refine lv_iconst (v := 1) hx hb dX3_move_31 (by decide) ?_
          refine lv_isub hx hb dX3_move_32 ?_
          obtain ⟨x6, hx6, h1⟩ := fo_bd h1 hN1
          refine fo_callv (va_runV (H := _) (As := [.int s23.1, .int (s23.1 - (1 : Int32))]) (rest := []) ⟨hx, hb, hml, hown, hT⟩ (c_q_Row_swap l D ca ad _ hi0 hx6) (fo_c3_25 hT ⟨Nat.le_trans (Nat.le_of_ble_eq_true rfl) hRf, Nat.le_trans (Nat.le_of_ble_eq_true rfl) hRl⟩) ⟨fo_Pre_blind, fo_rc5 hK hP hi0, fo_Pre_at hP hK (hD _)⟩ rfl rfl hl.1 rfl (lv_room (Nat.le_of_ble_eq_true rfl)) dX3_move_33 ⟨Nat.zero_le _, Nat.zero_le _⟩) hS (fun H locs hP hS => ?_)
          refine lv_iinc (v := s23.1 + (-1 : Int32)) (lv' := [(3, .int (s23.1 + (-1 : Int32))), (0, .ref (ad (fo_lay 5 i0))), (2, .int a2)]) hx hb dX3_move_36 hl (k := 2) rfl rfl (by decide) rfl (fun ls hl => ?_)
          refine lv_goto (tgt := 23) hx hb dX3_move_39 (by decide) ?_
          exact hL1 _ h1 _ _ ls hP hS (lv_sub hl [1, 2, 0] rfl)) _ _ hy23
    exact lp23 _ _ ls hP hS (lv_sub hl [1, 3, 0] rfl)
  have lp2 := fo_lp_ind (fun (s2 : Int32 × fo_S) => ∀ (H : Heap) (locs : List Loc) (ls : Array Slot), va_P D vwCl (fo_vx 51 ad (fo_ce ca ad s2.2)) H → va_S (fo_A 51 ad s.heap.size) s.heap H locs → lv_has ls 4 [(0, .ref (ad (fo_lay 5 i0))), (1, .int a1), (2, .int a2), (3, .int s2.1)] → W p l e R s m args below meth c H locs 0 0 Q (F0 m 2 ls [])) (by
      intro s2 o1 h1 hN1 hL1 hE1 H locs ls hP hS hl
      unfold q_Row_move_L2 at h1
      refine lv_iload_n hx hb dX3_move_2 rfl (lv_at hl 3 rfl) ?_
      refine lv_iload_n hx hb dX3_move_3 rfl (lv_at hl 2 rfl) ?_
      refine lv_icmp_ge (tgt := 21) hx hb dX3_move_4 (by decide) (fun c1 => ?_) (fun c1 => ?_)
      · replace h1 := fo_itT c1 h1
        have hy2 := hE1 _ h1
        subst hy2
        exact ex2 _ _ ls hP hS (lv_sub hl [0, 1, 2] rfl)
      · replace h1 := fo_itF c1 h1
        refine lv_aload_n hx hb dX3_move_7 rfl (lv_at hl 0 rfl) ?_
        refine lv_iload_n hx hb dX3_move_8 rfl (lv_at hl 3 rfl) ?_
        refine lv_iload_n hx hb dX3_move_9 rfl (lv_at hl 3 rfl) ?_
        refine lv_iconst (v := 1) hx hb dX3_move_10 (by decide) ?_
        refine lv_iadd hx hb dX3_move_11 ?_
        obtain ⟨x3, hx3, h1⟩ := fo_bd h1 hN1
        refine fo_callv (va_runV (H := _) (As := [.int s2.1, .int (s2.1 + (1 : Int32))]) (rest := []) ⟨hx, hb, hml, hown, hT⟩ (c_q_Row_swap l D ca ad _ hi0 hx3) (fo_c3_25 hT ⟨Nat.le_trans (Nat.le_of_ble_eq_true rfl) hRf, Nat.le_trans (Nat.le_of_ble_eq_true rfl) hRl⟩) ⟨fo_Pre_blind, fo_rc5 hK hP hi0, fo_Pre_at hP hK (hD _)⟩ rfl rfl hl.1 rfl (lv_room (Nat.le_of_ble_eq_true rfl)) dX3_move_12 ⟨Nat.zero_le _, Nat.zero_le _⟩) hS (fun H locs hP hS => ?_)
        refine lv_iinc (v := s2.1 + (1 : Int32)) (lv' := [(3, .int (s2.1 + (1 : Int32))), (0, .ref (ad (fo_lay 5 i0))), (1, .int a1), (2, .int a2)]) hx hb dX3_move_15 hl (k := 3) rfl rfl (by decide) rfl (fun ls hl => ?_)
        refine lv_goto (tgt := 2) hx hb dX3_move_18 (by decide) ?_
        exact hL1 _ h1 _ _ ls hP hS (lv_sub hl [1, 2, 3, 0] rfl)) _ _ hy2
  exact lp2 _ _ ls hP hS (lv_sub hl [1, 2, 3, 0] rfl)
theorem c_q_Row_move (l : Launch) (D : va_G) (ca : Nat → ClassId) (ad : Nat → Nat) (sz : Nat) {σ : fo_S} {i0 : Nat} {a1 : Int32} {a2 : Int32} (hi0 : i0 < 2) {res : fo_S} (h0 : q_Row_move σ i0 a1 a2 = some res) : Met l yX3_move ws_q_Row_move rm_q_Row_move (fo_Pre 51 D vwCl (fo_tys ca) ad (fo_ce ca ad σ) sz [.ref (ad (fo_lay 5 i0)), .int a1, .int a2]) (fo_PoV 51 D vwCl (fo_tys ca) ad (fo_ce ca ad res) sz) 0 0 (fo_A 51 ad sz) :=
  fo_mkV (by decide) (fun C0 kr hP => b_q_Row_move C0 (Nat.le_refl _) (Nat.le_refl _) (Nat.zero_le _) hi0 h0 kr hP)
def q_Market_copyFrom (σ : fo_S) (i0 : Nat) (i1 : Nat) : Option (fo_S) :=
  some (fo_rJ (fo_rJ σ 2 i0 (va_cpy (σ.2 2 i1) (σ.2 2 i0) (0 : Int32).toNatClampNeg (0 : Int32).toNatClampNeg (9 : Int32).toNatClampNeg)) 3 i0 (va_cpy ((fo_rJ σ 2 i0 (va_cpy (σ.2 2 i1) (σ.2 2 i0) (0 : Int32).toNatClampNeg (0 : Int32).toNatClampNeg (9 : Int32).toNatClampNeg)).2 3 i1) ((fo_rJ σ 2 i0 (va_cpy (σ.2 2 i1) (σ.2 2 i0) (0 : Int32).toNatClampNeg (0 : Int32).toNatClampNeg (9 : Int32).toNatClampNeg)).2 3 i0) (0 : Int32).toNatClampNeg (0 : Int32).toNatClampNeg (9 : Int32).toNatClampNeg))
set_option maxHeartbeats 4000000 in
set_option maxRecDepth 100000 in
theorem b_q_Market_copyFrom {p : Program} {l : Launch} {e : Env} {R : Room} {s : State} {m : MethodId} {args : Array Value} {below : List Frame} {meth : Method} {c : Code} {Q : State → Prop} {D : va_G} {ca : Nat → ClassId} {ad : Nat → Nat} (C0 : fo_CX p s m args c cX2_copyFrom 2 RX2 D ca ad) (hRf : 1 ≤ R.frames) (hRl : 40 ≤ R.locals) (hRc : 0 ≤ R.cells) {σ : fo_S} {i0 : Nat} {i1 : Nat} (hi0 : i0 < 2) (hi1 : i1 < 2) {res : fo_S} (h0 : q_Market_copyFrom σ i0 i1 = some res) (kr : ∀ (pc : Nat) (ls : Array Slot) (H : Heap) (locs : List Loc), decode cX2_copyFrom pc = .ok (.return_, 1) → va_P D vwCl (fo_vx 51 ad (fo_ce ca ad res)) H → va_S (fo_A 51 ad s.heap.size) s.heap H locs → W p l e R s m args below meth c H locs 0 0 Q (F0 m pc ls [])) (hP : va_P D vwCl (fo_vx 51 ad (fo_ce ca ad σ)) s.heap) : W p l e R s m args below meth c s.heap [] 0 0 Q (entryFrame m ([.ref (ad (fo_lay 1 i0)), .ref (ad (fo_lay 1 i1))] : List Value).toArray 2) := by
  obtain ⟨hx, hb, hml, hown, hT, hK, hD⟩ := C0
  have hN0 : (some res) ≠ none := fun q => by cases q
  unfold q_Market_copyFrom at h0
  have hS : va_S (fo_A 51 ad s.heap.size) s.heap s.heap [] := va_S.rf
  have hl := lv_entry ([.ref (ad (fo_lay 1 i0)), .ref (ad (fo_lay 1 i1))]) (n := 2) (Nat.le_of_ble_eq_true rfl)
  rw [lg_entry_eq]
  generalize (lg_sl ([.ref (ad (fo_lay 1 i0)), .ref (ad (fo_lay 1 i1))]) ++ List.replicate (2 - (lg_sl ([.ref (ad (fo_lay 1 i0)), .ref (ad (fo_lay 1 i1))])).length) Slot.unset).toArray = ls at hl ⊢
  have hl : lv_has ls 2 [(0, .ref (ad (fo_lay 1 i0))), (1, .ref (ad (fo_lay 1 i1)))] := hl
  refine lv_aload_n hx hb dX2_copyFrom_0 rfl (lv_at hl 1 rfl) ?_
  refine fo_g2_9 hx hb hT hown hK hP hi1 dX2_copyFrom_1 ?_
  refine lv_iconst (v := 0) hx hb dX2_copyFrom_4 (by decide) ?_
  refine lv_aload_n hx hb dX2_copyFrom_5 rfl (lv_at hl 0 rfl) ?_
  refine fo_g2_9 hx hb hT hown hK hP hi0 dX2_copyFrom_6 ?_
  refine lv_iconst (v := 0) hx hb dX2_copyFrom_9 (by decide) ?_
  refine lv_bipush (v := 9) hx hb dX2_copyFrom_10 (by decide) ?_
  refine fo_cpJ (k0 := 2) (k := 2) (n0 := 9) (n := 9) hx hb (hml.trans hl.1.symm) hown (fo_c2_24 hT) hT hK hP hD hS (by decide) hi1 (by decide) hi0 (fun _ _ => rfl) (fun _ _ => rfl) (by decide) (by decide) (by decide) (by decide) (by decide) (Nat.le_trans (Nat.le_of_ble_eq_true rfl) hRf) (Nat.le_trans (Nat.le_of_ble_eq_true rfl) hRl) dX2_copyFrom_12 (fun H locs hP hS => ?_)
  refine lv_aload_n hx hb dX2_copyFrom_15 rfl (lv_at hl 1 rfl) ?_
  refine fo_g2_15 hx hb hT hown hK hP hi1 dX2_copyFrom_16 ?_
  refine lv_iconst (v := 0) hx hb dX2_copyFrom_19 (by decide) ?_
  refine lv_aload_n hx hb dX2_copyFrom_20 rfl (lv_at hl 0 rfl) ?_
  refine fo_g2_15 hx hb hT hown hK hP hi0 dX2_copyFrom_21 ?_
  refine lv_iconst (v := 0) hx hb dX2_copyFrom_24 (by decide) ?_
  refine lv_bipush (v := 9) hx hb dX2_copyFrom_25 (by decide) ?_
  refine fo_cpJ (k0 := 3) (k := 3) (n0 := 9) (n := 9) hx hb (hml.trans hl.1.symm) hown (fo_c2_24 hT) hT hK hP hD hS (by decide) hi1 (by decide) hi0 (fun _ _ => rfl) (fun _ _ => rfl) (by decide) (by decide) (by decide) (by decide) (by decide) (Nat.le_trans (Nat.le_of_ble_eq_true rfl) hRf) (Nat.le_trans (Nat.le_of_ble_eq_true rfl) hRl) dX2_copyFrom_27 (fun H locs hP hS => ?_)
  have hr1 := Option.some.inj h0
  subst hr1
  exact kr _ ls _ _ dX2_copyFrom_30 hP hS
theorem c_q_Market_copyFrom (l : Launch) (D : va_G) (ca : Nat → ClassId) (ad : Nat → Nat) (sz : Nat) {σ : fo_S} {i0 : Nat} {i1 : Nat} (hi0 : i0 < 2) (hi1 : i1 < 2) {res : fo_S} (h0 : q_Market_copyFrom σ i0 i1 = some res) : Met l yX2_copyFrom ws_q_Market_copyFrom rm_q_Market_copyFrom (fo_Pre 51 D vwCl (fo_tys ca) ad (fo_ce ca ad σ) sz [.ref (ad (fo_lay 1 i0)), .ref (ad (fo_lay 1 i1))]) (fo_PoV 51 D vwCl (fo_tys ca) ad (fo_ce ca ad res) sz) 0 0 (fo_A 51 ad sz) :=
  fo_mkV (by decide) (fun C0 kr hP => b_q_Market_copyFrom C0 (Nat.le_refl _) (Nat.le_refl _) (Nat.zero_le _) hi0 hi1 h0 kr hP)
def q_Market_held (σ : fo_S) (i0 : Nat) (a1 : Int32) (a2 : Int32) : Option (Int64) :=
  if a2 = 0 then (if fo_vi a1 9 then (some (σ.2 2 i0 a1.toNatClampNeg)) else none) else (if fo_vi a1 9 then (some (σ.2 3 i0 a1.toNatClampNeg)) else none)
set_option maxHeartbeats 4000000 in
set_option maxRecDepth 100000 in
theorem b_q_Market_held {p : Program} {l : Launch} {e : Env} {R : Room} {s : State} {m : MethodId} {args : Array Value} {below : List Frame} {meth : Method} {c : Code} {Q : State → Prop} {D : va_G} {ca : Nat → ClassId} {ad : Nat → Nat} (C0 : fo_CX p s m args c cX2_held 3 RX2 D ca ad) (hRf : 0 ≤ R.frames) (hRl : 0 ≤ R.locals) (hRc : 0 ≤ R.cells) {σ : fo_S} {i0 : Nat} {a1 : Int32} {a2 : Int32} (hi0 : i0 < 2) {res : Int64} (h0 : q_Market_held σ i0 a1 a2 = some res) (kr : ∀ (pc : Nat) (ls : Array Slot) (H : Heap) (locs : List Loc), decode cX2_held pc = .ok (.lreturn, 1) → va_P D vwCl (fo_vx 51 ad (fo_ce ca ad σ)) H → va_S (fo_A 51 ad s.heap.size) s.heap H locs → W p l e R s m args below meth c H locs 0 0 Q (F0 m pc ls [.long res])) (hP : va_P D vwCl (fo_vx 51 ad (fo_ce ca ad σ)) s.heap) : W p l e R s m args below meth c s.heap [] 0 0 Q (entryFrame m ([.ref (ad (fo_lay 1 i0)), .int a1, .int a2] : List Value).toArray 3) := by
  obtain ⟨hx, hb, hml, hown, hT, hK, hD⟩ := C0
  have hN0 : (some res) ≠ none := fun q => by cases q
  unfold q_Market_held at h0
  have hS : va_S (fo_A 51 ad s.heap.size) s.heap s.heap [] := va_S.rf
  have hl := lv_entry ([.ref (ad (fo_lay 1 i0)), .int a1, .int a2]) (n := 3) (Nat.le_of_ble_eq_true rfl)
  rw [lg_entry_eq]
  generalize (lg_sl ([.ref (ad (fo_lay 1 i0)), .int a1, .int a2]) ++ List.replicate (3 - (lg_sl ([.ref (ad (fo_lay 1 i0)), .int a1, .int a2])).length) Slot.unset).toArray = ls at hl ⊢
  have hl : lv_has ls 3 [(0, .ref (ad (fo_lay 1 i0))), (1, .int a1), (2, .int a2)] := hl
  refine lv_iload_n hx hb dX2_held_0 rfl (lv_at hl 2 rfl) ?_
  refine lv_if_ne (tgt := 13) hx hb dX2_held_1 (by decide) (fun c1 => ?_) (fun c1 => ?_)
  · replace h0 := fo_itF c1 h0
    refine lv_aload_n hx hb dX2_held_13 rfl (lv_at hl 0 rfl) ?_
    refine fo_g2_15 hx hb hT hown hK hP hi0 dX2_held_14 ?_
    refine lv_iload_n hx hb dX2_held_17 rfl (lv_at hl 1 rfl) ?_
    obtain ⟨g2, h0⟩ := fo_gd h0 hN0
    refine fo_lald (k := 3) (n := 9) hx hb hK hP (by decide) hi0 (fun _ _ => rfl) g2 dX2_held_18 ?_
    have hr3 := Option.some.inj h0
    subst hr3
    exact kr _ ls _ _ dX2_held_19 hP hS
  · replace h0 := fo_itT c1 h0
    refine lv_aload_n hx hb dX2_held_4 rfl (lv_at hl 0 rfl) ?_
    refine fo_g2_9 hx hb hT hown hK hP hi0 dX2_held_5 ?_
    refine lv_iload_n hx hb dX2_held_8 rfl (lv_at hl 1 rfl) ?_
    obtain ⟨g4, h0⟩ := fo_gd h0 hN0
    refine fo_lald (k := 2) (n := 9) hx hb hK hP (by decide) hi0 (fun _ _ => rfl) g4 dX2_held_9 ?_
    refine lv_goto (tgt := 19) hx hb dX2_held_10 (by decide) ?_
    have hr5 := Option.some.inj h0
    subst hr5
    exact kr _ ls _ _ dX2_held_19 hP hS
theorem c_q_Market_held (l : Launch) (D : va_G) (ca : Nat → ClassId) (ad : Nat → Nat) (sz : Nat) {σ : fo_S} {i0 : Nat} {a1 : Int32} {a2 : Int32} (hi0 : i0 < 2) {res : Int64} (h0 : q_Market_held σ i0 a1 a2 = some res) : Met l yX2_held ws_q_Market_held rm_q_Market_held (fo_Pre 51 D vwCl (fo_tys ca) ad (fo_ce ca ad σ) sz [.ref (ad (fo_lay 1 i0)), .int a1, .int a2]) (fo_PoL 51 D vwCl (fo_tys ca) ad (fo_ce ca ad σ) sz res) 0 0 (fo_A 51 ad sz) :=
  fo_mkL (by decide) (fun C0 kr hP => b_q_Market_held C0 (Nat.le_refl _) (Nat.le_refl _) (Nat.zero_le _) hi0 h0 kr hP)
def q_FairOrder_heldAfterTrial_L14 (i1 : Nat) (s14 : Int32 × fo_S) : Option ((Int32 × fo_S) ⊕ (Int32 × fo_S)) :=
  if (s14.2.1 5 i1 1) ≤ s14.1 then (some (.inr (s14.1, s14.2))) else (if fo_vi s14.1 16 then ( if fo_vi (s14.2.1 6 i1 s14.1.toNatClampNeg) 16 then ( (q_Market_trade s14.2 1 ((s14.2.1 6 i1 s14.1.toNatClampNeg).toNatClampNeg)).bind (fun x6 => some (.inl (s14.1 + (1 : Int32), x6.2)))) else none) else none)
def q_FairOrder_heldAfterTrial (σ : fo_S) (i1 : Nat) (a2 : Int32) (a3 : Int32) : Option (Int64 × fo_S) :=
  (q_Market_copyFrom σ 1 0).bind (fun x1 => (fo_lp (q_FairOrder_heldAfterTrial_L14 i1) fo_FU ((0 : Int32), x1)).bind (fun y14 => (q_Market_held y14.2 1 a2 a3).bind (fun x7 => some (x7, y14.2))))
set_option maxHeartbeats 4000000 in
set_option maxRecDepth 100000 in
theorem b_q_FairOrder_heldAfterTrial {p : Program} {l : Launch} {e : Env} {R : Room} {s : State} {m : MethodId} {args : Array Value} {below : List Frame} {meth : Method} {c : Code} {Q : State → Prop} {D : va_G} {ca : Nat → ClassId} {ad : Nat → Nat} (C0 : fo_CX p s m args c cX0_heldAfterTrial 5 RX0 D ca ad) (hRf : 3 ≤ R.frames) (hRl : 71 ≤ R.locals) (hRc : 0 ≤ R.cells) {σ : fo_S} {i1 : Nat} {a2 : Int32} {a3 : Int32} (hi1 : i1 < 2) {res : Int64 × fo_S} (h0 : q_FairOrder_heldAfterTrial σ i1 a2 a3 = some res) (kr : ∀ (pc : Nat) (ls : Array Slot) (H : Heap) (locs : List Loc), decode cX0_heldAfterTrial pc = .ok (.lreturn, 1) → va_P D vwCl (fo_vx 51 ad (fo_ce ca ad res.2)) H → va_S (fo_A 51 ad s.heap.size) s.heap H locs → W p l e R s m args below meth c H locs 0 0 Q (F0 m pc ls [.long res.1])) (hP : va_P D vwCl (fo_vx 51 ad (fo_ce ca ad σ)) s.heap) : W p l e R s m args below meth c s.heap [] 0 0 Q (entryFrame m ([.ref (ad (fo_lay 0 0)), .ref (ad (fo_lay 5 i1)), .int a2, .int a3] : List Value).toArray 5) := by
  obtain ⟨hx, hb, hml, hown, hT, hK, hD⟩ := C0
  have hN0 : (some res) ≠ none := fun q => by cases q
  unfold q_FairOrder_heldAfterTrial at h0
  have hS : va_S (fo_A 51 ad s.heap.size) s.heap s.heap [] := va_S.rf
  have hl := lv_entry ([.ref (ad (fo_lay 0 0)), .ref (ad (fo_lay 5 i1)), .int a2, .int a3]) (n := 5) (Nat.le_of_ble_eq_true rfl)
  rw [lg_entry_eq]
  generalize (lg_sl ([.ref (ad (fo_lay 0 0)), .ref (ad (fo_lay 5 i1)), .int a2, .int a3]) ++ List.replicate (5 - (lg_sl ([.ref (ad (fo_lay 0 0)), .ref (ad (fo_lay 5 i1)), .int a2, .int a3])).length) Slot.unset).toArray = ls at hl ⊢
  have hl : lv_has ls 5 [(0, .ref (ad (fo_lay 0 0))), (1, .ref (ad (fo_lay 5 i1))), (2, .int a2), (3, .int a3)] := hl
  refine lv_aload_n hx hb dX0_heldAfterTrial_0 rfl (lv_at hl 0 rfl) ?_
  refine fo_g0_16 hx hb hT hown hK hP (by decide) dX0_heldAfterTrial_1 ?_
  refine lv_aload_n hx hb dX0_heldAfterTrial_4 rfl (lv_at hl 0 rfl) ?_
  refine fo_g0_12 hx hb hT hown hK hP (by decide) dX0_heldAfterTrial_5 ?_
  obtain ⟨x1, hx1, h0⟩ := fo_bd h0 hN0
  refine fo_callv (va_runV (H := _) (As := [.ref (ad (fo_lay 1 0))]) (rest := []) ⟨hx, hb, hml, hown, hT⟩ (c_q_Market_copyFrom l D ca ad _ (by decide) (by decide) hx1) (fo_c0_267 hT ⟨Nat.le_trans (Nat.le_of_ble_eq_true rfl) hRf, Nat.le_trans (Nat.le_of_ble_eq_true rfl) hRl⟩) ⟨fo_Pre_blind, fo_rc1 hK hP (by decide), fo_Pre_at hP hK (hD _)⟩ rfl rfl hl.1 rfl (lv_room (Nat.le_of_ble_eq_true rfl)) dX0_heldAfterTrial_8 ⟨Nat.zero_le _, Nat.zero_le _⟩) hS (fun H locs hP hS => ?_)
  refine lv_iconst (v := 0) hx hb dX0_heldAfterTrial_11 (by decide) ?_
  refine lv_istore (lv' := [(4, .int (0 : Int32)), (0, .ref (ad (fo_lay 0 0))), (1, .ref (ad (fo_lay 5 i1))), (2, .int a2), (3, .int a3)]) hx hb dX0_heldAfterTrial_12 hl (by decide) rfl (fun ls hl => ?_)
  obtain ⟨y14, hy14, h0⟩ := fo_bd h0 hN0
  have ex14 : ∀ (H : Heap) (locs : List Loc) (ls : Array Slot), va_P D vwCl (fo_vx 51 ad (fo_ce ca ad y14.2)) H → va_S (fo_A 51 ad s.heap.size) s.heap H locs → lv_has ls 5 [(0, .ref (ad (fo_lay 0 0))), (2, .int a2), (3, .int a3)] → W p l e R s m args below meth c H locs 0 0 Q (F0 m 49 ls []) := by
    intro H locs ls hP hS hl
    refine lv_aload_n hx hb dX0_heldAfterTrial_49 rfl (lv_at hl 0 rfl) ?_
    refine fo_g0_16 hx hb hT hown hK hP (by decide) dX0_heldAfterTrial_50 ?_
    refine lv_iload_n hx hb dX0_heldAfterTrial_53 rfl (lv_at hl 1 rfl) ?_
    refine lv_iload_n hx hb dX0_heldAfterTrial_54 rfl (lv_at hl 2 rfl) ?_
    obtain ⟨x7, hx7, h0⟩ := fo_bd h0 hN0
    refine fo_calll (va_runV (H := _) (As := [.int a2, .int a3]) (rest := []) ⟨hx, hb, hml, hown, hT⟩ (c_q_Market_held l D ca ad _ (by decide) hx7) (fo_c0_225 hT ⟨Nat.le_trans (Nat.le_of_ble_eq_true rfl) hRf, Nat.le_trans (Nat.le_of_ble_eq_true rfl) hRl⟩) ⟨fo_Pre_blind, fo_rc1 hK hP (by decide), fo_Pre_at hP hK (hD _)⟩ rfl rfl hl.1 rfl (lv_room (Nat.le_of_ble_eq_true rfl)) dX0_heldAfterTrial_55 ⟨Nat.zero_le _, Nat.zero_le _⟩) hS (fun H locs hP hS => ?_)
    have hr8 := Option.some.inj h0
    subst hr8
    exact kr _ ls _ _ dX0_heldAfterTrial_58 hP hS
  have lp14 := fo_lp_ind (fun (s14 : Int32 × fo_S) => ∀ (H : Heap) (locs : List Loc) (ls : Array Slot), va_P D vwCl (fo_vx 51 ad (fo_ce ca ad s14.2)) H → va_S (fo_A 51 ad s.heap.size) s.heap H locs → lv_has ls 5 [(0, .ref (ad (fo_lay 0 0))), (1, .ref (ad (fo_lay 5 i1))), (2, .int a2), (3, .int a3), (4, .int s14.1)] → W p l e R s m args below meth c H locs 0 0 Q (F0 m 14 ls [])) (by
      intro s14 o1 h1 hN1 hL1 hE1 H locs ls hP hS hl
      unfold q_FairOrder_heldAfterTrial_L14 at h1
      refine lv_iload hx hb dX0_heldAfterTrial_14 (lv_at hl 4 rfl) ?_
      refine lv_aload_n hx hb dX0_heldAfterTrial_16 rfl (lv_at hl 1 rfl) ?_
      refine fo_g0_134 hx hb hT hown hK hP hi1 dX0_heldAfterTrial_17 ?_
      refine lv_icmp_ge (tgt := 49) hx hb dX0_heldAfterTrial_20 (by decide) (fun c2 => ?_) (fun c2 => ?_)
      · replace h1 := fo_itT c2 h1
        have hy3 := hE1 _ h1
        subst hy3
        exact ex14 _ _ ls hP hS (lv_sub hl [0, 2, 3] rfl)
      · replace h1 := fo_itF c2 h1
        refine lv_aload_n hx hb dX0_heldAfterTrial_23 rfl (lv_at hl 0 rfl) ?_
        refine fo_g0_16 hx hb hT hown hK hP (by decide) dX0_heldAfterTrial_24 ?_
        refine lv_aload_n hx hb dX0_heldAfterTrial_27 rfl (lv_at hl 0 rfl) ?_
        refine fo_g0_21 hx hb hT hown hK hP (by decide) dX0_heldAfterTrial_28 ?_
        refine lv_aload_n hx hb dX0_heldAfterTrial_31 rfl (lv_at hl 1 rfl) ?_
        refine fo_g0_162 hx hb hT hown hK hP hi1 dX0_heldAfterTrial_32 ?_
        refine lv_iload hx hb dX0_heldAfterTrial_35 (lv_at hl 4 rfl) ?_
        obtain ⟨g4, h1⟩ := fo_gd h1 hN1
        refine fo_iald (k := 6) (n := 16) hx hb hK hP (by decide) hi1 (fun _ _ => rfl) g4 dX0_heldAfterTrial_37 ?_
        obtain ⟨g5, h1⟩ := fo_gd h1 hN1
        refine fo_aald_4 hx hb hK hP (by decide) g5 dX0_heldAfterTrial_38 ?_
        obtain ⟨x6, hx6, h1⟩ := fo_bd h1 hN1
        refine fo_calll (va_runV (H := _) (As := [.ref (ad (fo_lay 14 ((s14.2.1 6 i1 s14.1.toNatClampNeg).toNatClampNeg)))]) (rest := []) ⟨hx, hb, hml, hown, hT⟩ (c_q_Market_trade l D ca ad _ (by decide) (fo_in g5) hx6) (fo_c0_182 hT ⟨Nat.le_trans (Nat.le_of_ble_eq_true rfl) hRf, Nat.le_trans (Nat.le_of_ble_eq_true rfl) hRl⟩) ⟨fo_Pre_blind, fo_rc1 hK hP (by decide), fo_Pre_at hP hK (hD _)⟩ rfl rfl hl.1 rfl (lv_room (Nat.le_of_ble_eq_true rfl)) dX0_heldAfterTrial_39 ⟨Nat.zero_le _, Nat.zero_le _⟩) hS (fun H locs hP hS => ?_)
        refine lv_pop2_2 hx hb dX0_heldAfterTrial_42 rfl ?_
        refine lv_iinc (v := s14.1 + (1 : Int32)) (lv' := [(4, .int (s14.1 + (1 : Int32))), (0, .ref (ad (fo_lay 0 0))), (1, .ref (ad (fo_lay 5 i1))), (2, .int a2), (3, .int a3)]) hx hb dX0_heldAfterTrial_43 hl (k := 4) rfl rfl (by decide) rfl (fun ls hl => ?_)
        refine lv_goto (tgt := 14) hx hb dX0_heldAfterTrial_46 (by decide) ?_
        exact hL1 _ h1 _ _ ls hP hS (lv_sub hl [1, 2, 3, 4, 0] rfl)) _ _ hy14
  exact lp14 _ _ ls hP hS (lv_sub hl [1, 2, 3, 4, 0] rfl)
theorem c_q_FairOrder_heldAfterTrial (l : Launch) (D : va_G) (ca : Nat → ClassId) (ad : Nat → Nat) (sz : Nat) {σ : fo_S} {i1 : Nat} {a2 : Int32} {a3 : Int32} (hi1 : i1 < 2) {res : Int64 × fo_S} (h0 : q_FairOrder_heldAfterTrial σ i1 a2 a3 = some res) : Met l yX0_heldAfterTrial ws_q_FairOrder_heldAfterTrial rm_q_FairOrder_heldAfterTrial (fo_Pre 51 D vwCl (fo_tys ca) ad (fo_ce ca ad σ) sz [.ref (ad (fo_lay 0 0)), .ref (ad (fo_lay 5 i1)), .int a2, .int a3]) (fo_PoL 51 D vwCl (fo_tys ca) ad (fo_ce ca ad res.2) sz res.1) 0 0 (fo_A 51 ad sz) :=
  fo_mkL (by decide) (fun C0 kr hP => b_q_FairOrder_heldAfterTrial C0 (Nat.le_refl _) (Nat.le_refl _) (Nat.zero_le _) hi1 h0 kr hP)
def q_FairOrder_gain (σ : fo_S) (a1 : Int32) (a2 : Int32) (a3 : Int32) : Option (Int64 × fo_S) :=
  (q_FairOrder_mayPlay σ).bind (fun x1 => if x1 = 0 then (some ((0 : Int64), σ)) else ((q_Row_hasPlace σ 0 a1).bind (fun x4 => if x4 = 0 then (some ((0 : Int64), σ)) else ((q_Row_hasPlace σ 0 a2).bind (fun x7 => if x7 = 0 then (some ((0 : Int64), σ)) else ((q_FairOrder_isHolding σ a3).bind (fun x10 => if x10 = 0 then (some ((0 : Int64), σ)) else ((q_Row_copyFrom σ 1 0).bind (fun x12 =>  (q_Row_move x12 1 a1 a2).bind (fun x13 =>  if fo_vi a1 16 then ( if fo_vi (x13.1 6 0 a1.toNatClampNeg) 16 then ( (q_FairOrder_heldAfterTrial x13 0 (x13.1 14 ((x13.1 6 0 a1.toNatClampNeg).toNatClampNeg) 1) a3).bind (fun x16 =>  (q_FairOrder_heldAfterTrial x16.2 1 (x13.1 14 ((x13.1 6 0 a1.toNatClampNeg).toNatClampNeg) 1) a3).bind (fun x17 => some (x17.1 - x16.1, x17.2)))) else none) else none))))))))))
set_option maxHeartbeats 4000000 in
set_option maxRecDepth 100000 in
theorem b_q_FairOrder_gain {p : Program} {l : Launch} {e : Env} {R : Room} {s : State} {m : MethodId} {args : Array Value} {below : List Frame} {meth : Method} {c : Code} {Q : State → Prop} {D : va_G} {ca : Nat → ClassId} {ad : Nat → Nat} (C0 : fo_CX p s m args c cX0_gain 9 RX0 D ca ad) (hRf : 4 ≤ R.frames) (hRl : 95 ≤ R.locals) (hRc : 0 ≤ R.cells) {σ : fo_S} {a1 : Int32} {a2 : Int32} {a3 : Int32}  {res : Int64 × fo_S} (h0 : q_FairOrder_gain σ a1 a2 a3 = some res) (kr : ∀ (pc : Nat) (ls : Array Slot) (H : Heap) (locs : List Loc), decode cX0_gain pc = .ok (.lreturn, 1) → va_P D vwCl (fo_vx 51 ad (fo_ce ca ad res.2)) H → va_S (fo_A 51 ad s.heap.size) s.heap H locs → W p l e R s m args below meth c H locs 0 0 Q (F0 m pc ls [.long res.1])) (hP : va_P D vwCl (fo_vx 51 ad (fo_ce ca ad σ)) s.heap) : W p l e R s m args below meth c s.heap [] 0 0 Q (entryFrame m ([.ref (ad (fo_lay 0 0)), .int a1, .int a2, .int a3] : List Value).toArray 9) := by
  obtain ⟨hx, hb, hml, hown, hT, hK, hD⟩ := C0
  have hN0 : (some res) ≠ none := fun q => by cases q
  unfold q_FairOrder_gain at h0
  have hS : va_S (fo_A 51 ad s.heap.size) s.heap s.heap [] := va_S.rf
  have hl := lv_entry ([.ref (ad (fo_lay 0 0)), .int a1, .int a2, .int a3]) (n := 9) (Nat.le_of_ble_eq_true rfl)
  rw [lg_entry_eq]
  generalize (lg_sl ([.ref (ad (fo_lay 0 0)), .int a1, .int a2, .int a3]) ++ List.replicate (9 - (lg_sl ([.ref (ad (fo_lay 0 0)), .int a1, .int a2, .int a3])).length) Slot.unset).toArray = ls at hl ⊢
  have hl : lv_has ls 9 [(0, .ref (ad (fo_lay 0 0))), (1, .int a1), (2, .int a2), (3, .int a3)] := hl
  refine lv_aload_n hx hb dX0_gain_0 rfl (lv_at hl 0 rfl) ?_
  obtain ⟨x1, hx1, h0⟩ := fo_bd h0 hN0
  refine fo_calli (va_runV (H := _) (As := []) (rest := []) ⟨hx, hb, hml, hown, hT⟩ (c_q_FairOrder_mayPlay l D ca ad _ hx1) (fo_c0_175 hT ⟨Nat.le_trans (Nat.le_of_ble_eq_true rfl) hRf, Nat.le_trans (Nat.le_of_ble_eq_true rfl) hRl⟩) ⟨fo_Pre_blind, fo_rc0 hK hP (by decide), fo_Pre_at hP hK (hD _)⟩ rfl rfl hl.1 rfl (lv_room (Nat.le_of_ble_eq_true rfl)) dX0_gain_1 ⟨Nat.zero_le _, Nat.zero_le _⟩) hS (fun H locs hP hS => ?_)
  refine lv_if_eq (tgt := 36) hx hb dX0_gain_4 (by decide) (fun c2 => ?_) (fun c2 => ?_)
  · replace h0 := fo_itT c2 h0
    refine lv_lconst (v := 0) hx hb dX0_gain_36 (by decide) ?_
    have hr3 := Option.some.inj h0
    subst hr3
    exact kr _ ls _ _ dX0_gain_37 hP hS
  · replace h0 := fo_itF c2 h0
    refine lv_aload_n hx hb dX0_gain_7 rfl (lv_at hl 0 rfl) ?_
    refine fo_g0_28 hx hb hT hown hK hP (by decide) dX0_gain_8 ?_
    refine lv_iload_n hx hb dX0_gain_11 rfl (lv_at hl 1 rfl) ?_
    obtain ⟨x4, hx4, h0⟩ := fo_bd h0 hN0
    refine fo_calli (va_runV (H := _) (As := [.int a1]) (rest := []) ⟨hx, hb, hml, hown, hT⟩ (c_q_Row_hasPlace l D ca ad _ (by decide) hx4) (fo_c0_159 hT ⟨Nat.le_trans (Nat.le_of_ble_eq_true rfl) hRf, Nat.le_trans (Nat.le_of_ble_eq_true rfl) hRl⟩) ⟨fo_Pre_blind, fo_rc5 hK hP (by decide), fo_Pre_at hP hK (hD _)⟩ rfl rfl hl.1 rfl (lv_room (Nat.le_of_ble_eq_true rfl)) dX0_gain_12 ⟨Nat.zero_le _, Nat.zero_le _⟩) hS (fun H locs hP hS => ?_)
    refine lv_if_eq (tgt := 36) hx hb dX0_gain_15 (by decide) (fun c5 => ?_) (fun c5 => ?_)
    · replace h0 := fo_itT c5 h0
      refine lv_lconst (v := 0) hx hb dX0_gain_36 (by decide) ?_
      have hr6 := Option.some.inj h0
      subst hr6
      exact kr _ ls _ _ dX0_gain_37 hP hS
    · replace h0 := fo_itF c5 h0
      refine lv_aload_n hx hb dX0_gain_18 rfl (lv_at hl 0 rfl) ?_
      refine fo_g0_28 hx hb hT hown hK hP (by decide) dX0_gain_19 ?_
      refine lv_iload_n hx hb dX0_gain_22 rfl (lv_at hl 2 rfl) ?_
      obtain ⟨x7, hx7, h0⟩ := fo_bd h0 hN0
      refine fo_calli (va_runV (H := _) (As := [.int a2]) (rest := []) ⟨hx, hb, hml, hown, hT⟩ (c_q_Row_hasPlace l D ca ad _ (by decide) hx7) (fo_c0_159 hT ⟨Nat.le_trans (Nat.le_of_ble_eq_true rfl) hRf, Nat.le_trans (Nat.le_of_ble_eq_true rfl) hRl⟩) ⟨fo_Pre_blind, fo_rc5 hK hP (by decide), fo_Pre_at hP hK (hD _)⟩ rfl rfl hl.1 rfl (lv_room (Nat.le_of_ble_eq_true rfl)) dX0_gain_23 ⟨Nat.zero_le _, Nat.zero_le _⟩) hS (fun H locs hP hS => ?_)
      refine lv_if_eq (tgt := 36) hx hb dX0_gain_26 (by decide) (fun c8 => ?_) (fun c8 => ?_)
      · replace h0 := fo_itT c8 h0
        refine lv_lconst (v := 0) hx hb dX0_gain_36 (by decide) ?_
        have hr9 := Option.some.inj h0
        subst hr9
        exact kr _ ls _ _ dX0_gain_37 hP hS
      · replace h0 := fo_itF c8 h0
        refine lv_iload_n hx hb dX0_gain_29 rfl (lv_at hl 3 rfl) ?_
        obtain ⟨x10, hx10, h0⟩ := fo_bd h0 hN0
        refine fo_calli (va_runS (H := _) (As := [.int a3]) (rest := []) ⟨hx, hb, hml, hown, hT⟩ (c_q_FairOrder_isHolding l D ca ad _ hx10) (fo_c0_210 hT ⟨Nat.le_trans (Nat.le_of_ble_eq_true rfl) hRf, Nat.le_trans (Nat.le_of_ble_eq_true rfl) hRl⟩) ⟨fo_Pre_blind, fo_Pre_at hP hK (hD _)⟩ rfl rfl hl.1 rfl (lv_room (Nat.le_of_ble_eq_true rfl)) dX0_gain_30 ⟨Nat.zero_le _, Nat.zero_le _⟩) hS (fun H locs hP hS => ?_)
        refine lv_if_ne (tgt := 38) hx hb dX0_gain_33 (by decide) (fun c11 => ?_) (fun c11 => ?_)
        · replace h0 := fo_itF c11 h0
          refine lv_aload_n hx hb dX0_gain_38 rfl (lv_at hl 0 rfl) ?_
          refine fo_g0_32 hx hb hT hown hK hP (by decide) dX0_gain_39 ?_
          refine lv_aload_n hx hb dX0_gain_42 rfl (lv_at hl 0 rfl) ?_
          refine fo_g0_28 hx hb hT hown hK hP (by decide) dX0_gain_43 ?_
          obtain ⟨x12, hx12, h0⟩ := fo_bd h0 hN0
          refine fo_callv (va_runV (H := _) (As := [.ref (ad (fo_lay 5 0))]) (rest := []) ⟨hx, hb, hml, hown, hT⟩ (c_q_Row_copyFrom l D ca ad _ (by decide) (by decide) hx12) (fo_c0_213 hT ⟨Nat.le_trans (Nat.le_of_ble_eq_true rfl) hRf, Nat.le_trans (Nat.le_of_ble_eq_true rfl) hRl⟩) ⟨fo_Pre_blind, fo_rc5 hK hP (by decide), fo_Pre_at hP hK (hD _)⟩ rfl rfl hl.1 rfl (lv_room (Nat.le_of_ble_eq_true rfl)) dX0_gain_46 ⟨Nat.zero_le _, Nat.zero_le _⟩) hS (fun H locs hP hS => ?_)
          refine lv_aload_n hx hb dX0_gain_49 rfl (lv_at hl 0 rfl) ?_
          refine fo_g0_32 hx hb hT hown hK hP (by decide) dX0_gain_50 ?_
          refine lv_iload_n hx hb dX0_gain_53 rfl (lv_at hl 1 rfl) ?_
          refine lv_iload_n hx hb dX0_gain_54 rfl (lv_at hl 2 rfl) ?_
          obtain ⟨x13, hx13, h0⟩ := fo_bd h0 hN0
          refine fo_callv (va_runV (H := _) (As := [.int a1, .int a2]) (rest := []) ⟨hx, hb, hml, hown, hT⟩ (c_q_Row_move l D ca ad _ (by decide) hx13) (fo_c0_217 hT ⟨Nat.le_trans (Nat.le_of_ble_eq_true rfl) hRf, Nat.le_trans (Nat.le_of_ble_eq_true rfl) hRl⟩) ⟨fo_Pre_blind, fo_rc5 hK hP (by decide), fo_Pre_at hP hK (hD _)⟩ rfl rfl hl.1 rfl (lv_room (Nat.le_of_ble_eq_true rfl)) dX0_gain_55 ⟨Nat.zero_le _, Nat.zero_le _⟩) hS (fun H locs hP hS => ?_)
          refine lv_aload_n hx hb dX0_gain_58 rfl (lv_at hl 0 rfl) ?_
          refine fo_g0_21 hx hb hT hown hK hP (by decide) dX0_gain_59 ?_
          refine lv_aload_n hx hb dX0_gain_62 rfl (lv_at hl 0 rfl) ?_
          refine fo_g0_28 hx hb hT hown hK hP (by decide) dX0_gain_63 ?_
          refine fo_g0_162 hx hb hT hown hK hP (by decide) dX0_gain_66 ?_
          refine lv_iload_n hx hb dX0_gain_69 rfl (lv_at hl 1 rfl) ?_
          obtain ⟨g14, h0⟩ := fo_gd h0 hN0
          refine fo_iald (k := 6) (n := 16) hx hb hK hP (by decide) (by decide) (fun _ _ => rfl) g14 dX0_gain_70 ?_
          obtain ⟨g15, h0⟩ := fo_gd h0 hN0
          refine fo_aald_4 hx hb hK hP (by decide) g15 dX0_gain_71 ?_
          refine fo_g0_125 hx hb hT hown hK hP (fo_in g15) dX0_gain_72 ?_
          refine lv_istore (lv' := [(4, .int (x13.1 14 ((x13.1 6 0 a1.toNatClampNeg).toNatClampNeg) 1)), (0, .ref (ad (fo_lay 0 0))), (1, .int a1), (2, .int a2), (3, .int a3)]) hx hb dX0_gain_75 hl (by decide) rfl (fun ls hl => ?_)
          refine lv_aload_n hx hb dX0_gain_77 rfl (lv_at hl 1 rfl) ?_
          refine lv_aload_n hx hb dX0_gain_78 rfl (lv_at hl 1 rfl) ?_
          refine fo_g0_28 hx hb hT hown hK hP (by decide) dX0_gain_79 ?_
          refine lv_iload hx hb dX0_gain_82 (lv_at hl 0 rfl) ?_
          refine lv_iload_n hx hb dX0_gain_84 rfl (lv_at hl 4 rfl) ?_
          obtain ⟨x16, hx16, h0⟩ := fo_bd h0 hN0
          refine fo_calll (va_runV (H := _) (As := [.ref (ad (fo_lay 5 0)), .int (x13.1 14 ((x13.1 6 0 a1.toNatClampNeg).toNatClampNeg) 1), .int a3]) (rest := []) ⟨hx, hb, hml, hown, hT⟩ (c_q_FairOrder_heldAfterTrial l D ca ad _ (by decide) hx16) (fo_c0_221 hT ⟨Nat.le_trans (Nat.le_of_ble_eq_true rfl) hRf, Nat.le_trans (Nat.le_of_ble_eq_true rfl) hRl⟩) ⟨fo_Pre_blind, fo_rc0 hK hP (by decide), fo_Pre_at hP hK (hD _)⟩ rfl rfl hl.1 rfl (lv_room (Nat.le_of_ble_eq_true rfl)) dX0_gain_85 ⟨Nat.zero_le _, Nat.zero_le _⟩) hS (fun H locs hP hS => ?_)
          refine lv_lstore (lv' := [(5, .long x16.1), (4, .int (x13.1 14 ((x13.1 6 0 a1.toNatClampNeg).toNatClampNeg) 1)), (0, .ref (ad (fo_lay 0 0))), (1, .int a1), (2, .int a2), (3, .int a3)]) hx hb dX0_gain_88 hl (by decide) rfl (fun ls hl => ?_)
          refine lv_aload_n hx hb dX0_gain_90 rfl (lv_at hl 2 rfl) ?_
          refine lv_aload_n hx hb dX0_gain_91 rfl (lv_at hl 2 rfl) ?_
          refine fo_g0_32 hx hb hT hown hK hP (by decide) dX0_gain_92 ?_
          refine lv_iload hx hb dX0_gain_95 (lv_at hl 1 rfl) ?_
          refine lv_iload_n hx hb dX0_gain_97 rfl (lv_at hl 5 rfl) ?_
          obtain ⟨x17, hx17, h0⟩ := fo_bd h0 hN0
          refine fo_calll (va_runV (H := _) (As := [.ref (ad (fo_lay 5 1)), .int (x13.1 14 ((x13.1 6 0 a1.toNatClampNeg).toNatClampNeg) 1), .int a3]) (rest := []) ⟨hx, hb, hml, hown, hT⟩ (c_q_FairOrder_heldAfterTrial l D ca ad _ (by decide) hx17) (fo_c0_221 hT ⟨Nat.le_trans (Nat.le_of_ble_eq_true rfl) hRf, Nat.le_trans (Nat.le_of_ble_eq_true rfl) hRl⟩) ⟨fo_Pre_blind, fo_rc0 hK hP (by decide), fo_Pre_at hP hK (hD _)⟩ rfl rfl hl.1 rfl (lv_room (Nat.le_of_ble_eq_true rfl)) dX0_gain_98 ⟨Nat.zero_le _, Nat.zero_le _⟩) hS (fun H locs hP hS => ?_)
          refine lv_lstore (lv' := [(7, .long x17.1), (5, .long x16.1), (4, .int (x13.1 14 ((x13.1 6 0 a1.toNatClampNeg).toNatClampNeg) 1)), (0, .ref (ad (fo_lay 0 0))), (1, .int a1), (2, .int a2), (3, .int a3)]) hx hb dX0_gain_101 hl (by decide) rfl (fun ls hl => ?_)
          refine lv_lload hx hb dX0_gain_103 (lv_at hl 0 rfl) ?_
          refine lv_lload hx hb dX0_gain_105 (lv_at hl 1 rfl) ?_
          refine lv_lsub hx hb dX0_gain_107 ?_
          have hr18 := Option.some.inj h0
          subst hr18
          exact kr _ ls _ _ dX0_gain_108 hP hS
        · replace h0 := fo_itT c11 h0
          refine lv_lconst (v := 0) hx hb dX0_gain_36 (by decide) ?_
          have hr19 := Option.some.inj h0
          subst hr19
          exact kr _ ls _ _ dX0_gain_37 hP hS
theorem c_q_FairOrder_gain (l : Launch) (D : va_G) (ca : Nat → ClassId) (ad : Nat → Nat) (sz : Nat) {σ : fo_S} {a1 : Int32} {a2 : Int32} {a3 : Int32}  {res : Int64 × fo_S} (h0 : q_FairOrder_gain σ a1 a2 a3 = some res) : Met l yX0_gain ws_q_FairOrder_gain rm_q_FairOrder_gain (fo_Pre 51 D vwCl (fo_tys ca) ad (fo_ce ca ad σ) sz [.ref (ad (fo_lay 0 0)), .int a1, .int a2, .int a3]) (fo_PoL 51 D vwCl (fo_tys ca) ad (fo_ce ca ad res.2) sz res.1) 0 0 (fo_A 51 ad sz) :=
  fo_mkL (by decide) (fun C0 kr hP => b_q_FairOrder_gain C0 (Nat.le_refl _) (Nat.le_refl _) (Nat.zero_le _)  h0 kr hP)
