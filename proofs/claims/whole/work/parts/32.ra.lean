def r_in (σ : fo_S) (a0 : Int64) (a1 : Int64) (a2 : Int64) : Option (Int32) :=
  if (lg_cmp a0 a1) < 0 then (some (0 : Int32)) else (if 0 < (lg_cmp a0 a2) then (some (0 : Int32)) else (some (1 : Int32)))
set_option maxHeartbeats 4000000 in
set_option maxRecDepth 100000 in
theorem b_r_in {p : Program} {l : Launch} {e : Env} {R : Room} {s : State} {m : MethodId} {args : Array Value} {below : List Frame} {meth : Method} {c : Code} {Q : State → Prop} {D : va_G} {ca : Nat → ClassId} {ad : Nat → Nat} (C0 : fr_CX p s m args c cX6_in 6 RX6 D ca ad) (hRf : 0 ≤ R.frames) (hRl : 0 ≤ R.locals) (hRc : 0 ≤ R.cells) {σ : fo_S} {a0 : Int64} {a1 : Int64} {a2 : Int64}  {res : Int32} (h0 : r_in σ a0 a1 a2 = some res) (kr : ∀ (pc : Nat) (ls : Array Slot) (H : Heap) (locs : List Loc), narrow .boolean (.int res) = .int res → decode cX6_in pc = .ok (.ireturn, 1) → va_P D vwCl (fo_vx 25 ad (fr_ce ca ad σ)) H → va_S (fo_A 25 ad s.heap.size) s.heap H locs → W p l e R s m args below meth c H locs 0 0 Q (F0 m pc ls [.int res])) (hP : va_P D vwCl (fo_vx 25 ad (fr_ce ca ad σ)) s.heap) : W p l e R s m args below meth c s.heap [] 0 0 Q (entryFrame m ([.long a0, .long a1, .long a2] : List Value).toArray 6) := by
  obtain ⟨hx, hb, hml, hown, hT, hK, hD⟩ := C0
  have hN0 : (some res) ≠ none := fun q => by cases q
  unfold r_in at h0
  have hS : va_S (fo_A 25 ad s.heap.size) s.heap s.heap [] := va_S.rf
  have hl := lv_entry ([.long a0, .long a1, .long a2]) (n := 6) (Nat.le_of_ble_eq_true rfl)
  rw [lg_entry_eq]
  generalize (lg_sl ([.long a0, .long a1, .long a2]) ++ List.replicate (6 - (lg_sl ([.long a0, .long a1, .long a2])).length) Slot.unset).toArray = ls at hl ⊢
  have hl : lv_has ls 6 [(0, .long a0), (2, .long a1), (4, .long a2)] := hl
  refine lv_lload_n hx hb dX6_in_0 rfl (lv_at hl 0 rfl) ?_
  refine lv_lload_n hx hb dX6_in_1 rfl (lv_at hl 1 rfl) ?_
  refine W.lcmp hx hb dX6_in_2 ?_
  refine lv_if_lt (tgt := 17) hx hb dX6_in_3 (by decide) (fun c1 => ?_) (fun c1 => ?_)
  · replace h0 := fo_itT c1 h0
    refine lv_iconst (v := 0) hx hb dX6_in_17 (by decide) ?_
    have hr2 := Option.some.inj h0
    subst hr2
    exact kr _ ls _ _ (fo_zn (Or.inl rfl)) dX6_in_18 hP hS
  · replace h0 := fo_itF c1 h0
    refine lv_lload_n hx hb dX6_in_6 rfl (lv_at hl 0 rfl) ?_
    refine lv_lload hx hb dX6_in_7 (lv_at hl 2 rfl) ?_
    refine W.lcmp hx hb dX6_in_9 ?_
    refine lv_if_gt (tgt := 17) hx hb dX6_in_10 (by decide) (fun c3 => ?_) (fun c3 => ?_)
    · replace h0 := fo_itT c3 h0
      refine lv_iconst (v := 0) hx hb dX6_in_17 (by decide) ?_
      have hr4 := Option.some.inj h0
      subst hr4
      exact kr _ ls _ _ (fo_zn (Or.inl rfl)) dX6_in_18 hP hS
    · replace h0 := fo_itF c3 h0
      refine lv_iconst (v := 1) hx hb dX6_in_13 (by decide) ?_
      refine lv_goto (tgt := 18) hx hb dX6_in_14 (by decide) ?_
      have hr5 := Option.some.inj h0
      subst hr5
      exact kr _ ls _ _ (fo_zn (Or.inr rfl)) dX6_in_18 hP hS
theorem c_r_in (l : Launch) (D : va_G) (ca : Nat → ClassId) (ad : Nat → Nat) (sz : Nat) {σ : fo_S} {a0 : Int64} {a1 : Int64} {a2 : Int64}  {res : Int32} (h0 : r_in σ a0 a1 a2 = some res) : Met l yX6_in ws_r_in rm_r_in (fo_Pre 25 D vwCl (fr_tys ca) ad (fr_ce ca ad σ) sz [.long a0, .long a1, .long a2]) (fo_PoI 25 D vwCl (fr_tys ca) ad (fr_ce ca ad σ) sz res) 0 0 (fo_A 25 ad sz) :=
  fr_mkZ (by decide) (fun C0 kr hP => b_r_in C0 (Nat.le_refl _) (Nat.le_refl _) (Nat.zero_le _)  h0 kr hP)
def r_isCall (σ : fo_S) (a1 : Int32) : Option (Int32) :=
  (r_in σ a1.toInt64 (0 : Int64) (((σ.1 0 0 8).toInt64) - (1 : Int64))).bind (fun x1 =>  if x1 = 0 ∨ x1 = 1 then (some x1) else none)
set_option maxHeartbeats 4000000 in
set_option maxRecDepth 100000 in
theorem b_r_isCall {p : Program} {l : Launch} {e : Env} {R : Room} {s : State} {m : MethodId} {args : Array Value} {below : List Frame} {meth : Method} {c : Code} {Q : State → Prop} {D : va_G} {ca : Nat → ClassId} {ad : Nat → Nat} (C0 : fr_CX p s m args c cX6_isCall 2 RX6 D ca ad) (hRf : 1 ≤ R.frames) (hRl : 25 ≤ R.locals) (hRc : 0 ≤ R.cells) {σ : fo_S} {a1 : Int32}  {res : Int32} (h0 : r_isCall σ a1 = some res) (kr : ∀ (pc : Nat) (ls : Array Slot) (H : Heap) (locs : List Loc), narrow .boolean (.int res) = .int res → decode cX6_isCall pc = .ok (.ireturn, 1) → va_P D vwCl (fo_vx 25 ad (fr_ce ca ad σ)) H → va_S (fo_A 25 ad s.heap.size) s.heap H locs → W p l e R s m args below meth c H locs 0 0 Q (F0 m pc ls [.int res])) (hP : va_P D vwCl (fo_vx 25 ad (fr_ce ca ad σ)) s.heap) : W p l e R s m args below meth c s.heap [] 0 0 Q (entryFrame m ([.ref (ad (fr_lay 0 0)), .int a1] : List Value).toArray 2) := by
  obtain ⟨hx, hb, hml, hown, hT, hK, hD⟩ := C0
  have hN0 : (some res) ≠ none := fun q => by cases q
  unfold r_isCall at h0
  have hS : va_S (fo_A 25 ad s.heap.size) s.heap s.heap [] := va_S.rf
  have hl := lv_entry ([.ref (ad (fr_lay 0 0)), .int a1]) (n := 2) (Nat.le_of_ble_eq_true rfl)
  rw [lg_entry_eq]
  generalize (lg_sl ([.ref (ad (fr_lay 0 0)), .int a1]) ++ List.replicate (2 - (lg_sl ([.ref (ad (fr_lay 0 0)), .int a1])).length) Slot.unset).toArray = ls at hl ⊢
  have hl : lv_has ls 2 [(0, .ref (ad (fr_lay 0 0))), (1, .int a1)] := hl
  refine lv_iload_n hx hb dX6_isCall_0 rfl (lv_at hl 1 rfl) ?_
  refine lv_i2l hx hb dX6_isCall_1 rfl ?_
  refine lv_lconst (v := 0) hx hb dX6_isCall_2 (by decide) ?_
  refine lv_aload_n hx hb dX6_isCall_3 rfl (lv_at hl 0 rfl) ?_
  refine fr_g6_88 hx hb hT hown hK hP (by decide) dX6_isCall_4 ?_
  refine lv_i2l hx hb dX6_isCall_7 rfl ?_
  refine lv_lconst (v := 1) hx hb dX6_isCall_8 (by decide) ?_
  refine lv_lsub hx hb dX6_isCall_9 ?_
  obtain ⟨x1, hx1, h0⟩ := fo_bd h0 hN0
  refine fo_calli (va_runS (H := _) (As := [.long a1.toInt64, .long (0 : Int64), .long (((σ.1 0 0 8).toInt64) - (1 : Int64))]) (rest := []) ⟨hx, hb, hml, hown, hT⟩ (c_r_in l D ca ad _ hx1) (fr_c6_91 hT ⟨Nat.le_trans (Nat.le_of_ble_eq_true rfl) hRf, Nat.le_trans (Nat.le_of_ble_eq_true rfl) hRl⟩) ⟨fo_Pre_blind, fo_Pre_at hP hK (hD _)⟩ rfl rfl hl.1 rfl (lv_room (Nat.le_of_ble_eq_true rfl)) dX6_isCall_10 ⟨Nat.zero_le _, Nat.zero_le _⟩) hS (fun H locs hP hS => ?_)
  obtain ⟨g2, h0⟩ := fo_gd h0 hN0
  have hr3 := Option.some.inj h0
  subst hr3
  exact kr _ ls _ _ (fo_zn g2) dX6_isCall_13 hP hS
theorem c_r_isCall (l : Launch) (D : va_G) (ca : Nat → ClassId) (ad : Nat → Nat) (sz : Nat) {σ : fo_S} {a1 : Int32}  {res : Int32} (h0 : r_isCall σ a1 = some res) : Met l yX6_isCall ws_r_isCall rm_r_isCall (fo_Pre 25 D vwCl (fr_tys ca) ad (fr_ce ca ad σ) sz [.ref (ad (fr_lay 0 0)), .int a1]) (fo_PoI 25 D vwCl (fr_tys ca) ad (fr_ce ca ad σ) sz res) 0 0 (fo_A 25 ad sz) :=
  fr_mkZ (by decide) (fun C0 kr hP => b_r_isCall C0 (Nat.le_refl _) (Nat.le_refl _) (Nat.zero_le _)  h0 kr hP)
def r_newBlock (σ : fo_S)  : Option (fo_S) :=
  some (fo_pI (fo_pI (fo_pI (fo_pI σ 0 0 8 (0 : Int32)) 0 0 17 (-1 : Int32)) 0 0 19 (0 : Int32)) 0 0 6 (0 : Int32))
set_option maxHeartbeats 4000000 in
set_option maxRecDepth 100000 in
theorem b_r_newBlock {p : Program} {l : Launch} {e : Env} {R : Room} {s : State} {m : MethodId} {args : Array Value} {below : List Frame} {meth : Method} {c : Code} {Q : State → Prop} {D : va_G} {ca : Nat → ClassId} {ad : Nat → Nat} (C0 : fr_CX p s m args c cX6_newBlock 1 RX6 D ca ad) (hRf : 0 ≤ R.frames) (hRl : 0 ≤ R.locals) (hRc : 0 ≤ R.cells) {σ : fo_S}   {res : fo_S} (h0 : r_newBlock σ = some res) (kr : ∀ (pc : Nat) (ls : Array Slot) (H : Heap) (locs : List Loc), decode cX6_newBlock pc = .ok (.return_, 1) → va_P D vwCl (fo_vx 25 ad (fr_ce ca ad res)) H → va_S (fo_A 25 ad s.heap.size) s.heap H locs → W p l e R s m args below meth c H locs 0 0 Q (F0 m pc ls [])) (hP : va_P D vwCl (fo_vx 25 ad (fr_ce ca ad σ)) s.heap) : W p l e R s m args below meth c s.heap [] 0 0 Q (entryFrame m ([.ref (ad (fr_lay 0 0))] : List Value).toArray 1) := by
  obtain ⟨hx, hb, hml, hown, hT, hK, hD⟩ := C0
  have hN0 : (some res) ≠ none := fun q => by cases q
  unfold r_newBlock at h0
  have hS : va_S (fo_A 25 ad s.heap.size) s.heap s.heap [] := va_S.rf
  have hl := lv_entry ([.ref (ad (fr_lay 0 0))]) (n := 1) (Nat.le_of_ble_eq_true rfl)
  rw [lg_entry_eq]
  generalize (lg_sl ([.ref (ad (fr_lay 0 0))]) ++ List.replicate (1 - (lg_sl ([.ref (ad (fr_lay 0 0))])).length) Slot.unset).toArray = ls at hl ⊢
  have hl : lv_has ls 1 [(0, .ref (ad (fr_lay 0 0)))] := hl
  refine lv_aload_n hx hb dX6_newBlock_0 rfl (lv_at hl 0 rfl) ?_
  refine lv_iconst (v := 0) hx hb dX6_newBlock_1 (by decide) ?_
  refine fr_p6_88 hx hb hT hown hK hP hD hS (by decide) dX6_newBlock_2 (fun H locs hP hS => ?_)
  refine lv_aload_n hx hb dX6_newBlock_5 rfl (lv_at hl 0 rfl) ?_
  refine lv_iconst (v := -1) hx hb dX6_newBlock_6 (by decide) ?_
  refine fr_p6_42 hx hb hT hown hK hP hD hS (by decide) dX6_newBlock_7 (fun H locs hP hS => ?_)
  refine lv_aload_n hx hb dX6_newBlock_10 rfl (lv_at hl 0 rfl) ?_
  refine lv_iconst (v := 0) hx hb dX6_newBlock_11 (by decide) ?_
  refine fr_p6_95 hx hb hT hown hK hP hD hS (by decide) rfl rfl dX6_newBlock_12 (fun H locs hP hS => ?_)
  refine lv_aload_n hx hb dX6_newBlock_15 rfl (lv_at hl 0 rfl) ?_
  refine lv_iconst (v := 0) hx hb dX6_newBlock_16 (by decide) ?_
  refine fr_p6_99 hx hb hT hown hK hP hD hS (by decide) dX6_newBlock_17 (fun H locs hP hS => ?_)
  have hr1 := Option.some.inj h0
  subst hr1
  exact kr _ ls _ _ dX6_newBlock_20 hP hS
theorem c_r_newBlock (l : Launch) (D : va_G) (ca : Nat → ClassId) (ad : Nat → Nat) (sz : Nat) {σ : fo_S}   {res : fo_S} (h0 : r_newBlock σ = some res) : Met l yX6_newBlock ws_r_newBlock rm_r_newBlock (fo_Pre 25 D vwCl (fr_tys ca) ad (fr_ce ca ad σ) sz [.ref (ad (fr_lay 0 0))]) (fo_PoV 25 D vwCl (fr_tys ca) ad (fr_ce ca ad res) sz) 0 0 (fo_A 25 ad sz) :=
  fr_mkV (by decide) (fun C0 kr hP => b_r_newBlock C0 (Nat.le_refl _) (Nat.le_refl _) (Nat.zero_le _)  h0 kr hP)
def r_clear (σ : fo_S)  : Option (Int32 × fo_S) :=
  (r_newBlock (fo_pI (fo_pJ (fo_pJ (fo_pJ (fo_pI σ 0 0 0 (0 : Int32)) 0 0 3 (0 : Int64)) 0 0 4 (0 : Int64)) 0 0 5 (0 : Int64)) 0 0 7 (0 : Int32))).bind (fun x1 => some (σ.1 0 0 0, x1))
set_option maxHeartbeats 4000000 in
set_option maxRecDepth 100000 in
theorem b_r_clear {p : Program} {l : Launch} {e : Env} {R : Room} {s : State} {m : MethodId} {args : Array Value} {below : List Frame} {meth : Method} {c : Code} {Q : State → Prop} {D : va_G} {ca : Nat → ClassId} {ad : Nat → Nat} (C0 : fr_CX p s m args c cX6_clear 2 RX6 D ca ad) (hRf : 1 ≤ R.frames) (hRl : 20 ≤ R.locals) (hRc : 0 ≤ R.cells) {σ : fo_S}   {res : Int32 × fo_S} (h0 : r_clear σ = some res) (kr : ∀ (pc : Nat) (ls : Array Slot) (H : Heap) (locs : List Loc), decode cX6_clear pc = .ok (.ireturn, 1) → va_P D vwCl (fo_vx 25 ad (fr_ce ca ad res.2)) H → va_S (fo_A 25 ad s.heap.size) s.heap H locs → W p l e R s m args below meth c H locs 0 0 Q (F0 m pc ls [.int res.1])) (hP : va_P D vwCl (fo_vx 25 ad (fr_ce ca ad σ)) s.heap) : W p l e R s m args below meth c s.heap [] 0 0 Q (entryFrame m ([.ref (ad (fr_lay 0 0))] : List Value).toArray 2) := by
  obtain ⟨hx, hb, hml, hown, hT, hK, hD⟩ := C0
  have hN0 : (some res) ≠ none := fun q => by cases q
  unfold r_clear at h0
  have hS : va_S (fo_A 25 ad s.heap.size) s.heap s.heap [] := va_S.rf
  have hl := lv_entry ([.ref (ad (fr_lay 0 0))]) (n := 2) (Nat.le_of_ble_eq_true rfl)
  rw [lg_entry_eq]
  generalize (lg_sl ([.ref (ad (fr_lay 0 0))]) ++ List.replicate (2 - (lg_sl ([.ref (ad (fr_lay 0 0))])).length) Slot.unset).toArray = ls at hl ⊢
  have hl : lv_has ls 2 [(0, .ref (ad (fr_lay 0 0)))] := hl
  refine lv_aload_n hx hb dX6_clear_0 rfl (lv_at hl 0 rfl) ?_
  refine fr_g6_102 hx hb hT hown hK hP (by decide) dX6_clear_1 ?_
  refine lv_istore_n (lv' := [(1, .int (σ.1 0 0 0)), (0, .ref (ad (fr_lay 0 0)))]) hx hb dX6_clear_4 rfl hl (by decide) rfl (fun ls hl => ?_)
  refine lv_aload_n hx hb dX6_clear_5 rfl (lv_at hl 1 rfl) ?_
  refine lv_iconst (v := 0) hx hb dX6_clear_6 (by decide) ?_
  refine fr_p6_102 hx hb hT hown hK hP hD hS (by decide) dX6_clear_7 (fun H locs hP hS => ?_)
  refine lv_aload_n hx hb dX6_clear_10 rfl (lv_at hl 1 rfl) ?_
  refine lv_lconst (v := 0) hx hb dX6_clear_11 (by decide) ?_
  refine fr_p6_105 hx hb hT hown hK hP hD hS (by decide) dX6_clear_12 (fun H locs hP hS => ?_)
  refine lv_aload_n hx hb dX6_clear_15 rfl (lv_at hl 1 rfl) ?_
  refine lv_lconst (v := 0) hx hb dX6_clear_16 (by decide) ?_
  refine fr_p6_109 hx hb hT hown hK hP hD hS (by decide) dX6_clear_17 (fun H locs hP hS => ?_)
  refine lv_aload_n hx hb dX6_clear_20 rfl (lv_at hl 1 rfl) ?_
  refine lv_lconst (v := 0) hx hb dX6_clear_21 (by decide) ?_
  refine fr_p6_112 hx hb hT hown hK hP hD hS (by decide) dX6_clear_22 (fun H locs hP hS => ?_)
  refine lv_aload_n hx hb dX6_clear_25 rfl (lv_at hl 1 rfl) ?_
  refine lv_iconst (v := 0) hx hb dX6_clear_26 (by decide) ?_
  refine fr_p6_115 hx hb hT hown hK hP hD hS (by decide) dX6_clear_27 (fun H locs hP hS => ?_)
  refine lv_aload_n hx hb dX6_clear_30 rfl (lv_at hl 1 rfl) ?_
  obtain ⟨x1, hx1, h0⟩ := fo_bd h0 hN0
  refine fo_callv (va_runV (H := _) (As := []) (rest := []) ⟨hx, hb, hml, hown, hT⟩ (c_r_newBlock l D ca ad _ hx1) (fr_c6_118 hT ⟨Nat.le_trans (Nat.le_of_ble_eq_true rfl) hRf, Nat.le_trans (Nat.le_of_ble_eq_true rfl) hRl⟩) ⟨fo_Pre_blind, fr_rc0 hK hP (by decide), fo_Pre_at hP hK (hD _)⟩ rfl rfl hl.1 rfl (lv_room (Nat.le_of_ble_eq_true rfl)) dX6_clear_31 ⟨Nat.zero_le _, Nat.zero_le _⟩) hS (fun H locs hP hS => ?_)
  refine lv_iload_n hx hb dX6_clear_34 rfl (lv_at hl 0 rfl) ?_
  have hr2 := Option.some.inj h0
  subst hr2
  exact kr _ ls _ _ dX6_clear_35 hP hS
theorem c_r_clear (l : Launch) (D : va_G) (ca : Nat → ClassId) (ad : Nat → Nat) (sz : Nat) {σ : fo_S}   {res : Int32 × fo_S} (h0 : r_clear σ = some res) : Met l yX6_clear ws_r_clear rm_r_clear (fo_Pre 25 D vwCl (fr_tys ca) ad (fr_ce ca ad σ) sz [.ref (ad (fr_lay 0 0))]) (fo_PoI 25 D vwCl (fr_tys ca) ad (fr_ce ca ad res.2) sz res.1) 0 0 (fo_A 25 ad sz) :=
  fr_mkI (by decide) (fun C0 kr hP => b_r_clear C0 (Nat.le_refl _) (Nat.le_refl _) (Nat.zero_le _)  h0 kr hP)
def r_account (σ : fo_S) (a1 : Int64) (a2 : Int64) : Option (Int32 × fo_S) :=
  (r_in σ a1 (0 : Int64) (1000000000 : Int64)).bind (fun x1 => if x1 = 0 then (some ((-2 : Int32), σ)) else ((r_in σ a2 (0 : Int64) (1000000000 : Int64)).bind (fun x4 => if x4 = 0 then (some ((-2 : Int32), σ)) else (if (σ.1 0 0 0) = (8 : Int32) then (some ((-3 : Int32), σ)) else (if fo_vi (σ.1 0 0 0) 8 then ( if fo_vi ((fo_pJ σ 1 0 (σ.1 0 0 0).toNatClampNeg a1).1 0 0 0) 8 then (some (((fo_pI (fo_pJ (fo_pJ σ 1 0 (σ.1 0 0 0).toNatClampNeg a1) 2 0 ((fo_pJ σ 1 0 (σ.1 0 0 0).toNatClampNeg a1).1 0 0 0).toNatClampNeg a2) 0 0 0 (((fo_pJ (fo_pJ σ 1 0 (σ.1 0 0 0).toNatClampNeg a1) 2 0 ((fo_pJ σ 1 0 (σ.1 0 0 0).toNatClampNeg a1).1 0 0 0).toNatClampNeg a2).1 0 0 0) + (1 : Int32))).1 0 0 0) - (1 : Int32), fo_pI (fo_pJ (fo_pJ σ 1 0 (σ.1 0 0 0).toNatClampNeg a1) 2 0 ((fo_pJ σ 1 0 (σ.1 0 0 0).toNatClampNeg a1).1 0 0 0).toNatClampNeg a2) 0 0 0 (((fo_pJ (fo_pJ σ 1 0 (σ.1 0 0 0).toNatClampNeg a1) 2 0 ((fo_pJ σ 1 0 (σ.1 0 0 0).toNatClampNeg a1).1 0 0 0).toNatClampNeg a2).1 0 0 0) + (1 : Int32)))) else none) else none)))))
set_option maxHeartbeats 4000000 in
set_option maxRecDepth 100000 in
theorem b_r_account {p : Program} {l : Launch} {e : Env} {R : Room} {s : State} {m : MethodId} {args : Array Value} {below : List Frame} {meth : Method} {c : Code} {Q : State → Prop} {D : va_G} {ca : Nat → ClassId} {ad : Nat → Nat} (C0 : fr_CX p s m args c cX6_account 5 RX6 D ca ad) (hRf : 1 ≤ R.frames) (hRl : 25 ≤ R.locals) (hRc : 0 ≤ R.cells) {σ : fo_S} {a1 : Int64} {a2 : Int64}  {res : Int32 × fo_S} (h0 : r_account σ a1 a2 = some res) (kr : ∀ (pc : Nat) (ls : Array Slot) (H : Heap) (locs : List Loc), decode cX6_account pc = .ok (.ireturn, 1) → va_P D vwCl (fo_vx 25 ad (fr_ce ca ad res.2)) H → va_S (fo_A 25 ad s.heap.size) s.heap H locs → W p l e R s m args below meth c H locs 0 0 Q (F0 m pc ls [.int res.1])) (hP : va_P D vwCl (fo_vx 25 ad (fr_ce ca ad σ)) s.heap) : W p l e R s m args below meth c s.heap [] 0 0 Q (entryFrame m ([.ref (ad (fr_lay 0 0)), .long a1, .long a2] : List Value).toArray 5) := by
  obtain ⟨hx, hb, hml, hown, hT, hK, hD⟩ := C0
  have hN0 : (some res) ≠ none := fun q => by cases q
  unfold r_account at h0
  have hS : va_S (fo_A 25 ad s.heap.size) s.heap s.heap [] := va_S.rf
  have hl := lv_entry ([.ref (ad (fr_lay 0 0)), .long a1, .long a2]) (n := 5) (Nat.le_of_ble_eq_true rfl)
  rw [lg_entry_eq]
  generalize (lg_sl ([.ref (ad (fr_lay 0 0)), .long a1, .long a2]) ++ List.replicate (5 - (lg_sl ([.ref (ad (fr_lay 0 0)), .long a1, .long a2])).length) Slot.unset).toArray = ls at hl ⊢
  have hl : lv_has ls 5 [(0, .ref (ad (fr_lay 0 0))), (1, .long a1), (3, .long a2)] := hl
  refine lv_lload_n hx hb dX6_account_0 rfl (lv_at hl 1 rfl) ?_
  refine lv_lconst (v := 0) hx hb dX6_account_1 (by decide) ?_
  refine lv_ldc2 (v := 1000000000) hx hb hown (fr_k6_121 hT) dX6_account_2 ?_
  obtain ⟨x1, hx1, h0⟩ := fo_bd h0 hN0
  refine fo_calli (va_runS (H := _) (As := [.long a1, .long (0 : Int64), .long (1000000000 : Int64)]) (rest := []) ⟨hx, hb, hml, hown, hT⟩ (c_r_in l D ca ad _ hx1) (fr_c6_91 hT ⟨Nat.le_trans (Nat.le_of_ble_eq_true rfl) hRf, Nat.le_trans (Nat.le_of_ble_eq_true rfl) hRl⟩) ⟨fo_Pre_blind, fo_Pre_at hP hK (hD _)⟩ rfl rfl hl.1 rfl (lv_room (Nat.le_of_ble_eq_true rfl)) dX6_account_5 ⟨Nat.zero_le _, Nat.zero_le _⟩) hS (fun H locs hP hS => ?_)
  refine lv_if_eq (tgt := 22) hx hb dX6_account_8 (by decide) (fun c2 => ?_) (fun c2 => ?_)
  · replace h0 := fo_itT c2 h0
    refine lv_bipush (v := -2) hx hb dX6_account_22 (by decide) ?_
    have hr3 := Option.some.inj h0
    subst hr3
    exact kr _ ls _ _ dX6_account_24 hP hS
  · replace h0 := fo_itF c2 h0
    refine lv_lload_n hx hb dX6_account_11 rfl (lv_at hl 2 rfl) ?_
    refine lv_lconst (v := 0) hx hb dX6_account_12 (by decide) ?_
    refine lv_ldc2 (v := 1000000000) hx hb hown (fr_k6_121 hT) dX6_account_13 ?_
    obtain ⟨x4, hx4, h0⟩ := fo_bd h0 hN0
    refine fo_calli (va_runS (H := _) (As := [.long a2, .long (0 : Int64), .long (1000000000 : Int64)]) (rest := []) ⟨hx, hb, hml, hown, hT⟩ (c_r_in l D ca ad _ hx4) (fr_c6_91 hT ⟨Nat.le_trans (Nat.le_of_ble_eq_true rfl) hRf, Nat.le_trans (Nat.le_of_ble_eq_true rfl) hRl⟩) ⟨fo_Pre_blind, fo_Pre_at hP hK (hD _)⟩ rfl rfl hl.1 rfl (lv_room (Nat.le_of_ble_eq_true rfl)) dX6_account_16 ⟨Nat.zero_le _, Nat.zero_le _⟩) hS (fun H locs hP hS => ?_)
    refine lv_if_ne (tgt := 25) hx hb dX6_account_19 (by decide) (fun c5 => ?_) (fun c5 => ?_)
    · replace h0 := fo_itF c5 h0
      refine lv_aload_n hx hb dX6_account_25 rfl (lv_at hl 0 rfl) ?_
      refine fr_g6_102 hx hb hT hown hK hP (by decide) dX6_account_26 ?_
      refine lv_bipush (v := 8) hx hb dX6_account_29 (by decide) ?_
      refine lv_icmp_ne (tgt := 37) hx hb dX6_account_31 (by decide) (fun c6 => ?_) (fun c6 => ?_)
      · replace h0 := fo_itF c6 h0
        refine lv_aload_n hx hb dX6_account_37 rfl (lv_at hl 0 rfl) ?_
        refine fr_g6_7 hx hb hT hown hK hP (by decide) dX6_account_38 ?_
        refine lv_aload_n hx hb dX6_account_41 rfl (lv_at hl 0 rfl) ?_
        refine fr_g6_102 hx hb hT hown hK hP (by decide) dX6_account_42 ?_
        refine lv_lload_n hx hb dX6_account_45 rfl (lv_at hl 1 rfl) ?_
        obtain ⟨g7, h0⟩ := fo_gd h0 hN0
        refine fr_last (k := 1) (n := 8) hx hb hK hP hD hS (by decide) (by decide) (fun _ _ => rfl) g7 dX6_account_46 (fun H locs hP hS => ?_)
        refine lv_aload_n hx hb dX6_account_47 rfl (lv_at hl 0 rfl) ?_
        refine fr_g6_13 hx hb hT hown hK hP (by decide) dX6_account_48 ?_
        refine lv_aload_n hx hb dX6_account_51 rfl (lv_at hl 0 rfl) ?_
        refine fr_g6_102 hx hb hT hown hK hP (by decide) dX6_account_52 ?_
        refine lv_lload_n hx hb dX6_account_55 rfl (lv_at hl 2 rfl) ?_
        obtain ⟨g8, h0⟩ := fo_gd h0 hN0
        refine fr_last (k := 2) (n := 8) hx hb hK hP hD hS (by decide) (by decide) (fun _ _ => rfl) g8 dX6_account_56 (fun H locs hP hS => ?_)
        refine lv_aload_n hx hb dX6_account_57 rfl (lv_at hl 0 rfl) ?_
        refine lv_dup hx hb dX6_account_58 rfl ?_
        refine fr_g6_102 hx hb hT hown hK hP (by decide) dX6_account_59 ?_
        refine lv_iconst (v := 1) hx hb dX6_account_62 (by decide) ?_
        refine lv_iadd hx hb dX6_account_63 ?_
        refine fr_p6_102 hx hb hT hown hK hP hD hS (by decide) dX6_account_64 (fun H locs hP hS => ?_)
        refine lv_aload_n hx hb dX6_account_67 rfl (lv_at hl 0 rfl) ?_
        refine fr_g6_102 hx hb hT hown hK hP (by decide) dX6_account_68 ?_
        refine lv_iconst (v := 1) hx hb dX6_account_71 (by decide) ?_
        refine lv_isub hx hb dX6_account_72 ?_
        have hr9 := Option.some.inj h0
        subst hr9
        exact kr _ ls _ _ dX6_account_73 hP hS
      · replace h0 := fo_itT c6 h0
        refine lv_bipush (v := -3) hx hb dX6_account_34 (by decide) ?_
        have hr10 := Option.some.inj h0
        subst hr10
        exact kr _ ls _ _ dX6_account_36 hP hS
    · replace h0 := fo_itT c5 h0
      refine lv_bipush (v := -2) hx hb dX6_account_22 (by decide) ?_
      have hr11 := Option.some.inj h0
      subst hr11
      exact kr _ ls _ _ dX6_account_24 hP hS
theorem c_r_account (l : Launch) (D : va_G) (ca : Nat → ClassId) (ad : Nat → Nat) (sz : Nat) {σ : fo_S} {a1 : Int64} {a2 : Int64}  {res : Int32 × fo_S} (h0 : r_account σ a1 a2 = some res) : Met l yX6_account ws_r_account rm_r_account (fo_Pre 25 D vwCl (fr_tys ca) ad (fr_ce ca ad σ) sz [.ref (ad (fr_lay 0 0)), .long a1, .long a2]) (fo_PoI 25 D vwCl (fr_tys ca) ad (fr_ce ca ad res.2) sz res.1) 0 0 (fo_A 25 ad sz) :=
  fr_mkI (by decide) (fun C0 kr hP => b_r_account C0 (Nat.le_refl _) (Nat.le_refl _) (Nat.zero_le _)  h0 kr hP)
def r_pool (σ : fo_S) (a1 : Int64) (a2 : Int64) : Option (Int32 × fo_S) :=
  (r_in σ a1 (0 : Int64) (1000000000 : Int64)).bind (fun x1 => if x1 = 0 then (some ((-2 : Int32), σ)) else ((r_in σ a2 (0 : Int64) (1000000000 : Int64)).bind (fun x4 => if x4 = 0 then (some ((-2 : Int32), σ)) else (some ((1 : Int32), fo_pJ (fo_pJ σ 0 0 3 a1) 0 0 4 a2)))))
set_option maxHeartbeats 4000000 in
set_option maxRecDepth 100000 in
theorem b_r_pool {p : Program} {l : Launch} {e : Env} {R : Room} {s : State} {m : MethodId} {args : Array Value} {below : List Frame} {meth : Method} {c : Code} {Q : State → Prop} {D : va_G} {ca : Nat → ClassId} {ad : Nat → Nat} (C0 : fr_CX p s m args c cX6_pool 5 RX6 D ca ad) (hRf : 1 ≤ R.frames) (hRl : 25 ≤ R.locals) (hRc : 0 ≤ R.cells) {σ : fo_S} {a1 : Int64} {a2 : Int64}  {res : Int32 × fo_S} (h0 : r_pool σ a1 a2 = some res) (kr : ∀ (pc : Nat) (ls : Array Slot) (H : Heap) (locs : List Loc), decode cX6_pool pc = .ok (.ireturn, 1) → va_P D vwCl (fo_vx 25 ad (fr_ce ca ad res.2)) H → va_S (fo_A 25 ad s.heap.size) s.heap H locs → W p l e R s m args below meth c H locs 0 0 Q (F0 m pc ls [.int res.1])) (hP : va_P D vwCl (fo_vx 25 ad (fr_ce ca ad σ)) s.heap) : W p l e R s m args below meth c s.heap [] 0 0 Q (entryFrame m ([.ref (ad (fr_lay 0 0)), .long a1, .long a2] : List Value).toArray 5) := by
  obtain ⟨hx, hb, hml, hown, hT, hK, hD⟩ := C0
  have hN0 : (some res) ≠ none := fun q => by cases q
  unfold r_pool at h0
  have hS : va_S (fo_A 25 ad s.heap.size) s.heap s.heap [] := va_S.rf
  have hl := lv_entry ([.ref (ad (fr_lay 0 0)), .long a1, .long a2]) (n := 5) (Nat.le_of_ble_eq_true rfl)
  rw [lg_entry_eq]
  generalize (lg_sl ([.ref (ad (fr_lay 0 0)), .long a1, .long a2]) ++ List.replicate (5 - (lg_sl ([.ref (ad (fr_lay 0 0)), .long a1, .long a2])).length) Slot.unset).toArray = ls at hl ⊢
  have hl : lv_has ls 5 [(0, .ref (ad (fr_lay 0 0))), (1, .long a1), (3, .long a2)] := hl
  refine lv_lload_n hx hb dX6_pool_0 rfl (lv_at hl 1 rfl) ?_
  refine lv_lconst (v := 0) hx hb dX6_pool_1 (by decide) ?_
  refine lv_ldc2 (v := 1000000000) hx hb hown (fr_k6_121 hT) dX6_pool_2 ?_
  obtain ⟨x1, hx1, h0⟩ := fo_bd h0 hN0
  refine fo_calli (va_runS (H := _) (As := [.long a1, .long (0 : Int64), .long (1000000000 : Int64)]) (rest := []) ⟨hx, hb, hml, hown, hT⟩ (c_r_in l D ca ad _ hx1) (fr_c6_91 hT ⟨Nat.le_trans (Nat.le_of_ble_eq_true rfl) hRf, Nat.le_trans (Nat.le_of_ble_eq_true rfl) hRl⟩) ⟨fo_Pre_blind, fo_Pre_at hP hK (hD _)⟩ rfl rfl hl.1 rfl (lv_room (Nat.le_of_ble_eq_true rfl)) dX6_pool_5 ⟨Nat.zero_le _, Nat.zero_le _⟩) hS (fun H locs hP hS => ?_)
  refine lv_if_eq (tgt := 22) hx hb dX6_pool_8 (by decide) (fun c2 => ?_) (fun c2 => ?_)
  · replace h0 := fo_itT c2 h0
    refine lv_bipush (v := -2) hx hb dX6_pool_22 (by decide) ?_
    have hr3 := Option.some.inj h0
    subst hr3
    exact kr _ ls _ _ dX6_pool_24 hP hS
  · replace h0 := fo_itF c2 h0
    refine lv_lload_n hx hb dX6_pool_11 rfl (lv_at hl 2 rfl) ?_
    refine lv_lconst (v := 0) hx hb dX6_pool_12 (by decide) ?_
    refine lv_ldc2 (v := 1000000000) hx hb hown (fr_k6_121 hT) dX6_pool_13 ?_
    obtain ⟨x4, hx4, h0⟩ := fo_bd h0 hN0
    refine fo_calli (va_runS (H := _) (As := [.long a2, .long (0 : Int64), .long (1000000000 : Int64)]) (rest := []) ⟨hx, hb, hml, hown, hT⟩ (c_r_in l D ca ad _ hx4) (fr_c6_91 hT ⟨Nat.le_trans (Nat.le_of_ble_eq_true rfl) hRf, Nat.le_trans (Nat.le_of_ble_eq_true rfl) hRl⟩) ⟨fo_Pre_blind, fo_Pre_at hP hK (hD _)⟩ rfl rfl hl.1 rfl (lv_room (Nat.le_of_ble_eq_true rfl)) dX6_pool_16 ⟨Nat.zero_le _, Nat.zero_le _⟩) hS (fun H locs hP hS => ?_)
    refine lv_if_ne (tgt := 25) hx hb dX6_pool_19 (by decide) (fun c5 => ?_) (fun c5 => ?_)
    · replace h0 := fo_itF c5 h0
      refine lv_aload_n hx hb dX6_pool_25 rfl (lv_at hl 0 rfl) ?_
      refine lv_lload_n hx hb dX6_pool_26 rfl (lv_at hl 1 rfl) ?_
      refine fr_p6_105 hx hb hT hown hK hP hD hS (by decide) dX6_pool_27 (fun H locs hP hS => ?_)
      refine lv_aload_n hx hb dX6_pool_30 rfl (lv_at hl 0 rfl) ?_
      refine lv_lload_n hx hb dX6_pool_31 rfl (lv_at hl 2 rfl) ?_
      refine fr_p6_109 hx hb hT hown hK hP hD hS (by decide) dX6_pool_32 (fun H locs hP hS => ?_)
      refine lv_iconst (v := 1) hx hb dX6_pool_35 (by decide) ?_
      have hr6 := Option.some.inj h0
      subst hr6
      exact kr _ ls _ _ dX6_pool_36 hP hS
    · replace h0 := fo_itT c5 h0
      refine lv_bipush (v := -2) hx hb dX6_pool_22 (by decide) ?_
      have hr7 := Option.some.inj h0
      subst hr7
      exact kr _ ls _ _ dX6_pool_24 hP hS
theorem c_r_pool (l : Launch) (D : va_G) (ca : Nat → ClassId) (ad : Nat → Nat) (sz : Nat) {σ : fo_S} {a1 : Int64} {a2 : Int64}  {res : Int32 × fo_S} (h0 : r_pool σ a1 a2 = some res) : Met l yX6_pool ws_r_pool rm_r_pool (fo_Pre 25 D vwCl (fr_tys ca) ad (fr_ce ca ad σ) sz [.ref (ad (fr_lay 0 0)), .long a1, .long a2]) (fo_PoI 25 D vwCl (fr_tys ca) ad (fr_ce ca ad res.2) sz res.1) 0 0 (fo_A 25 ad sz) :=
  fr_mkI (by decide) (fun C0 kr hP => b_r_pool C0 (Nat.le_refl _) (Nat.le_refl _) (Nat.zero_le _)  h0 kr hP)
def r_isOffer (σ : fo_S) (a0 : Int32) (a1 : Int32) (a2 : Int32) : Option (Int32) :=
  (r_in σ a0.toInt64 (0 : Int64) (1 : Int64)).bind (fun x1 => if x1 = 0 then (some (0 : Int32)) else ((r_in σ a1.toInt64 (1 : Int64) (1000 : Int64)).bind (fun x4 => if x4 = 0 then (some (0 : Int32)) else ((r_in σ a2.toInt64 (1 : Int64) (1000 : Int64)).bind (fun x7 => if x7 = 0 then (some (0 : Int32)) else (some (1 : Int32)))))))
set_option maxHeartbeats 4000000 in
set_option maxRecDepth 100000 in
theorem b_r_isOffer {p : Program} {l : Launch} {e : Env} {R : Room} {s : State} {m : MethodId} {args : Array Value} {below : List Frame} {meth : Method} {c : Code} {Q : State → Prop} {D : va_G} {ca : Nat → ClassId} {ad : Nat → Nat} (C0 : fr_CX p s m args c cX6_isOffer 3 RX6 D ca ad) (hRf : 1 ≤ R.frames) (hRl : 25 ≤ R.locals) (hRc : 0 ≤ R.cells) {σ : fo_S} {a0 : Int32} {a1 : Int32} {a2 : Int32}  {res : Int32} (h0 : r_isOffer σ a0 a1 a2 = some res) (kr : ∀ (pc : Nat) (ls : Array Slot) (H : Heap) (locs : List Loc), narrow .boolean (.int res) = .int res → decode cX6_isOffer pc = .ok (.ireturn, 1) → va_P D vwCl (fo_vx 25 ad (fr_ce ca ad σ)) H → va_S (fo_A 25 ad s.heap.size) s.heap H locs → W p l e R s m args below meth c H locs 0 0 Q (F0 m pc ls [.int res])) (hP : va_P D vwCl (fo_vx 25 ad (fr_ce ca ad σ)) s.heap) : W p l e R s m args below meth c s.heap [] 0 0 Q (entryFrame m ([.int a0, .int a1, .int a2] : List Value).toArray 3) := by
  obtain ⟨hx, hb, hml, hown, hT, hK, hD⟩ := C0
  have hN0 : (some res) ≠ none := fun q => by cases q
  unfold r_isOffer at h0
  have hS : va_S (fo_A 25 ad s.heap.size) s.heap s.heap [] := va_S.rf
  have hl := lv_entry ([.int a0, .int a1, .int a2]) (n := 3) (Nat.le_of_ble_eq_true rfl)
  rw [lg_entry_eq]
  generalize (lg_sl ([.int a0, .int a1, .int a2]) ++ List.replicate (3 - (lg_sl ([.int a0, .int a1, .int a2])).length) Slot.unset).toArray = ls at hl ⊢
  have hl : lv_has ls 3 [(0, .int a0), (1, .int a1), (2, .int a2)] := hl
  refine lv_iload_n hx hb dX6_isOffer_0 rfl (lv_at hl 0 rfl) ?_
  refine lv_i2l hx hb dX6_isOffer_1 rfl ?_
  refine lv_lconst (v := 0) hx hb dX6_isOffer_2 (by decide) ?_
  refine lv_lconst (v := 1) hx hb dX6_isOffer_3 (by decide) ?_
  obtain ⟨x1, hx1, h0⟩ := fo_bd h0 hN0
  refine fo_calli (va_runS (H := _) (As := [.long a0.toInt64, .long (0 : Int64), .long (1 : Int64)]) (rest := []) ⟨hx, hb, hml, hown, hT⟩ (c_r_in l D ca ad _ hx1) (fr_c6_91 hT ⟨Nat.le_trans (Nat.le_of_ble_eq_true rfl) hRf, Nat.le_trans (Nat.le_of_ble_eq_true rfl) hRl⟩) ⟨fo_Pre_blind, fo_Pre_at hP hK (hD _)⟩ rfl rfl hl.1 rfl (lv_room (Nat.le_of_ble_eq_true rfl)) dX6_isOffer_4 ⟨Nat.zero_le _, Nat.zero_le _⟩) hS (fun H locs hP hS => ?_)
  refine lv_if_eq (tgt := 38) hx hb dX6_isOffer_7 (by decide) (fun c2 => ?_) (fun c2 => ?_)
  · replace h0 := fo_itT c2 h0
    refine lv_iconst (v := 0) hx hb dX6_isOffer_38 (by decide) ?_
    have hr3 := Option.some.inj h0
    subst hr3
    exact kr _ ls _ _ (fo_zn (Or.inl rfl)) dX6_isOffer_39 hP hS
  · replace h0 := fo_itF c2 h0
    refine lv_iload_n hx hb dX6_isOffer_10 rfl (lv_at hl 1 rfl) ?_
    refine lv_i2l hx hb dX6_isOffer_11 rfl ?_
    refine lv_lconst (v := 1) hx hb dX6_isOffer_12 (by decide) ?_
    refine lv_ldc2 (v := 1000) hx hb hown (fr_k6_123 hT) dX6_isOffer_13 ?_
    obtain ⟨x4, hx4, h0⟩ := fo_bd h0 hN0
    refine fo_calli (va_runS (H := _) (As := [.long a1.toInt64, .long (1 : Int64), .long (1000 : Int64)]) (rest := []) ⟨hx, hb, hml, hown, hT⟩ (c_r_in l D ca ad _ hx4) (fr_c6_91 hT ⟨Nat.le_trans (Nat.le_of_ble_eq_true rfl) hRf, Nat.le_trans (Nat.le_of_ble_eq_true rfl) hRl⟩) ⟨fo_Pre_blind, fo_Pre_at hP hK (hD _)⟩ rfl rfl hl.1 rfl (lv_room (Nat.le_of_ble_eq_true rfl)) dX6_isOffer_16 ⟨Nat.zero_le _, Nat.zero_le _⟩) hS (fun H locs hP hS => ?_)
    refine lv_if_eq (tgt := 38) hx hb dX6_isOffer_19 (by decide) (fun c5 => ?_) (fun c5 => ?_)
    · replace h0 := fo_itT c5 h0
      refine lv_iconst (v := 0) hx hb dX6_isOffer_38 (by decide) ?_
      have hr6 := Option.some.inj h0
      subst hr6
      exact kr _ ls _ _ (fo_zn (Or.inl rfl)) dX6_isOffer_39 hP hS
    · replace h0 := fo_itF c5 h0
      refine lv_iload_n hx hb dX6_isOffer_22 rfl (lv_at hl 2 rfl) ?_
      refine lv_i2l hx hb dX6_isOffer_23 rfl ?_
      refine lv_lconst (v := 1) hx hb dX6_isOffer_24 (by decide) ?_
      refine lv_ldc2 (v := 1000) hx hb hown (fr_k6_123 hT) dX6_isOffer_25 ?_
      obtain ⟨x7, hx7, h0⟩ := fo_bd h0 hN0
      refine fo_calli (va_runS (H := _) (As := [.long a2.toInt64, .long (1 : Int64), .long (1000 : Int64)]) (rest := []) ⟨hx, hb, hml, hown, hT⟩ (c_r_in l D ca ad _ hx7) (fr_c6_91 hT ⟨Nat.le_trans (Nat.le_of_ble_eq_true rfl) hRf, Nat.le_trans (Nat.le_of_ble_eq_true rfl) hRl⟩) ⟨fo_Pre_blind, fo_Pre_at hP hK (hD _)⟩ rfl rfl hl.1 rfl (lv_room (Nat.le_of_ble_eq_true rfl)) dX6_isOffer_28 ⟨Nat.zero_le _, Nat.zero_le _⟩) hS (fun H locs hP hS => ?_)
      refine lv_if_eq (tgt := 38) hx hb dX6_isOffer_31 (by decide) (fun c8 => ?_) (fun c8 => ?_)
      · replace h0 := fo_itT c8 h0
        refine lv_iconst (v := 0) hx hb dX6_isOffer_38 (by decide) ?_
        have hr9 := Option.some.inj h0
        subst hr9
        exact kr _ ls _ _ (fo_zn (Or.inl rfl)) dX6_isOffer_39 hP hS
      · replace h0 := fo_itF c8 h0
        refine lv_iconst (v := 1) hx hb dX6_isOffer_34 (by decide) ?_
        refine lv_goto (tgt := 39) hx hb dX6_isOffer_35 (by decide) ?_
        have hr10 := Option.some.inj h0
        subst hr10
        exact kr _ ls _ _ (fo_zn (Or.inr rfl)) dX6_isOffer_39 hP hS
theorem c_r_isOffer (l : Launch) (D : va_G) (ca : Nat → ClassId) (ad : Nat → Nat) (sz : Nat) {σ : fo_S} {a0 : Int32} {a1 : Int32} {a2 : Int32}  {res : Int32} (h0 : r_isOffer σ a0 a1 a2 = some res) : Met l yX6_isOffer ws_r_isOffer rm_r_isOffer (fo_Pre 25 D vwCl (fr_tys ca) ad (fr_ce ca ad σ) sz [.int a0, .int a1, .int a2]) (fo_PoI 25 D vwCl (fr_tys ca) ad (fr_ce ca ad σ) sz res) 0 0 (fo_A 25 ad sz) :=
  fr_mkZ (by decide) (fun C0 kr hP => b_r_isOffer C0 (Nat.le_refl _) (Nat.le_refl _) (Nat.zero_le _)  h0 kr hP)
def r_seal (σ : fo_S) (a1 : Int32) (a2 : Int32) (a3 : Int32) (a4 : Int32) : Option (Int64) :=
  (r_isOffer σ a1 a2 a3).bind (fun x1 => if x1 = 0 then (some (0 : Int64)) else (some ((((((((a4.toInt64 * (31 : Int64)) + a1.toInt64) * (1009 : Int64)) + a2.toInt64) * (1013 : Int64)) + a3.toInt64) * (6364136223846793005 : Int64)) ^^^ (((((((((a4.toInt64 * (31 : Int64)) + a1.toInt64) * (1009 : Int64)) + a2.toInt64) * (1013 : Int64)) + a3.toInt64) * (6364136223846793005 : Int64)).toUInt64 >>> ((29 : Int32).toInt64.toUInt64 &&& Int64.toUInt64 63)).toInt64))))
set_option maxHeartbeats 4000000 in
set_option maxRecDepth 100000 in
theorem b_r_seal {p : Program} {l : Launch} {e : Env} {R : Room} {s : State} {m : MethodId} {args : Array Value} {below : List Frame} {meth : Method} {c : Code} {Q : State → Prop} {D : va_G} {ca : Nat → ClassId} {ad : Nat → Nat} (C0 : fr_CX p s m args c cX6_seal 7 RX6 D ca ad) (hRf : 2 ≤ R.frames) (hRl : 47 ≤ R.locals) (hRc : 0 ≤ R.cells) {σ : fo_S} {a1 : Int32} {a2 : Int32} {a3 : Int32} {a4 : Int32}  {res : Int64} (h0 : r_seal σ a1 a2 a3 a4 = some res) (kr : ∀ (pc : Nat) (ls : Array Slot) (H : Heap) (locs : List Loc), decode cX6_seal pc = .ok (.lreturn, 1) → va_P D vwCl (fo_vx 25 ad (fr_ce ca ad σ)) H → va_S (fo_A 25 ad s.heap.size) s.heap H locs → W p l e R s m args below meth c H locs 0 0 Q (F0 m pc ls [.long res])) (hP : va_P D vwCl (fo_vx 25 ad (fr_ce ca ad σ)) s.heap) : W p l e R s m args below meth c s.heap [] 0 0 Q (entryFrame m ([.ref (ad (fr_lay 0 0)), .int a1, .int a2, .int a3, .int a4] : List Value).toArray 7) := by
  obtain ⟨hx, hb, hml, hown, hT, hK, hD⟩ := C0
  have hN0 : (some res) ≠ none := fun q => by cases q
  unfold r_seal at h0
  have hS : va_S (fo_A 25 ad s.heap.size) s.heap s.heap [] := va_S.rf
  have hl := lv_entry ([.ref (ad (fr_lay 0 0)), .int a1, .int a2, .int a3, .int a4]) (n := 7) (Nat.le_of_ble_eq_true rfl)
  rw [lg_entry_eq]
  generalize (lg_sl ([.ref (ad (fr_lay 0 0)), .int a1, .int a2, .int a3, .int a4]) ++ List.replicate (7 - (lg_sl ([.ref (ad (fr_lay 0 0)), .int a1, .int a2, .int a3, .int a4])).length) Slot.unset).toArray = ls at hl ⊢
  have hl : lv_has ls 7 [(0, .ref (ad (fr_lay 0 0))), (1, .int a1), (2, .int a2), (3, .int a3), (4, .int a4)] := hl
  refine lv_iload_n hx hb dX6_seal_0 rfl (lv_at hl 1 rfl) ?_
  refine lv_iload_n hx hb dX6_seal_1 rfl (lv_at hl 2 rfl) ?_
  refine lv_iload_n hx hb dX6_seal_2 rfl (lv_at hl 3 rfl) ?_
  obtain ⟨x1, hx1, h0⟩ := fo_bd h0 hN0
  refine fo_calli (va_runS (H := _) (As := [.int a1, .int a2, .int a3]) (rest := []) ⟨hx, hb, hml, hown, hT⟩ (c_r_isOffer l D ca ad _ hx1) (fr_c6_125 hT ⟨Nat.le_trans (Nat.le_of_ble_eq_true rfl) hRf, Nat.le_trans (Nat.le_of_ble_eq_true rfl) hRl⟩) ⟨fo_Pre_blind, fo_Pre_at hP hK (hD _)⟩ rfl rfl hl.1 rfl (lv_room (Nat.le_of_ble_eq_true rfl)) dX6_seal_3 ⟨Nat.zero_le _, Nat.zero_le _⟩) hS (fun H locs hP hS => ?_)
  refine lv_if_ne (tgt := 11) hx hb dX6_seal_6 (by decide) (fun c2 => ?_) (fun c2 => ?_)
  · replace h0 := fo_itF c2 h0
    refine lv_iload hx hb dX6_seal_11 (lv_at hl 4 rfl) ?_
    refine lv_i2l hx hb dX6_seal_13 rfl ?_
    refine lv_ldc2 (v := 31) hx hb hown (fr_k6_129 hT) dX6_seal_14 ?_
    refine lv_lmul hx hb dX6_seal_17 ?_
    refine lv_iload_n hx hb dX6_seal_18 rfl (lv_at hl 1 rfl) ?_
    refine lv_i2l hx hb dX6_seal_19 rfl ?_
    refine lv_ladd hx hb dX6_seal_20 ?_
    refine lv_lstore (lv' := [(5, .long ((a4.toInt64 * (31 : Int64)) + a1.toInt64)), (0, .ref (ad (fr_lay 0 0))), (1, .int a1), (2, .int a2), (3, .int a3), (4, .int a4)]) hx hb dX6_seal_21 hl (by decide) rfl (fun ls hl => ?_)
    refine lv_lload hx hb dX6_seal_23 (lv_at hl 0 rfl) ?_
    refine lv_ldc2 (v := 1009) hx hb hown (fr_k6_131 hT) dX6_seal_25 ?_
    refine lv_lmul hx hb dX6_seal_28 ?_
    refine lv_iload_n hx hb dX6_seal_29 rfl (lv_at hl 3 rfl) ?_
    refine lv_i2l hx hb dX6_seal_30 rfl ?_
    refine lv_ladd hx hb dX6_seal_31 ?_
    refine lv_lstore (lv' := [(5, .long ((((a4.toInt64 * (31 : Int64)) + a1.toInt64) * (1009 : Int64)) + a2.toInt64)), (0, .ref (ad (fr_lay 0 0))), (1, .int a1), (2, .int a2), (3, .int a3), (4, .int a4)]) hx hb dX6_seal_32 hl (by decide) rfl (fun ls hl => ?_)
    refine lv_lload hx hb dX6_seal_34 (lv_at hl 0 rfl) ?_
    refine lv_ldc2 (v := 1013) hx hb hown (fr_k6_133 hT) dX6_seal_36 ?_
    refine lv_lmul hx hb dX6_seal_39 ?_
    refine lv_iload_n hx hb dX6_seal_40 rfl (lv_at hl 4 rfl) ?_
    refine lv_i2l hx hb dX6_seal_41 rfl ?_
    refine lv_ladd hx hb dX6_seal_42 ?_
    refine lv_lstore (lv' := [(5, .long ((((((a4.toInt64 * (31 : Int64)) + a1.toInt64) * (1009 : Int64)) + a2.toInt64) * (1013 : Int64)) + a3.toInt64)), (0, .ref (ad (fr_lay 0 0))), (1, .int a1), (2, .int a2), (3, .int a3), (4, .int a4)]) hx hb dX6_seal_43 hl (by decide) rfl (fun ls hl => ?_)
    refine lv_lload hx hb dX6_seal_45 (lv_at hl 0 rfl) ?_
    refine lv_ldc2 (v := 6364136223846793005) hx hb hown (fr_k6_135 hT) dX6_seal_47 ?_
    refine lv_lmul hx hb dX6_seal_50 ?_
    refine lv_lstore (lv' := [(5, .long (((((((a4.toInt64 * (31 : Int64)) + a1.toInt64) * (1009 : Int64)) + a2.toInt64) * (1013 : Int64)) + a3.toInt64) * (6364136223846793005 : Int64))), (0, .ref (ad (fr_lay 0 0))), (1, .int a1), (2, .int a2), (3, .int a3), (4, .int a4)]) hx hb dX6_seal_51 hl (by decide) rfl (fun ls hl => ?_)
    refine lv_lload hx hb dX6_seal_53 (lv_at hl 0 rfl) ?_
    refine lv_lload hx hb dX6_seal_55 (lv_at hl 0 rfl) ?_
    refine lv_bipush (v := 29) hx hb dX6_seal_57 (by decide) ?_
    refine lv_lushr hx hb dX6_seal_59 rfl ?_
    refine lv_lxor hx hb dX6_seal_60 ?_
    have hr3 := Option.some.inj h0
    subst hr3
    exact kr _ ls _ _ dX6_seal_61 hP hS
  · replace h0 := fo_itT c2 h0
    refine lv_lconst (v := 0) hx hb dX6_seal_9 (by decide) ?_
    have hr4 := Option.some.inj h0
    subst hr4
    exact kr _ ls _ _ dX6_seal_10 hP hS
theorem c_r_seal (l : Launch) (D : va_G) (ca : Nat → ClassId) (ad : Nat → Nat) (sz : Nat) {σ : fo_S} {a1 : Int32} {a2 : Int32} {a3 : Int32} {a4 : Int32}  {res : Int64} (h0 : r_seal σ a1 a2 a3 a4 = some res) : Met l yX6_seal ws_r_seal rm_r_seal (fo_Pre 25 D vwCl (fr_tys ca) ad (fr_ce ca ad σ) sz [.ref (ad (fr_lay 0 0)), .int a1, .int a2, .int a3, .int a4]) (fo_PoL 25 D vwCl (fr_tys ca) ad (fr_ce ca ad σ) sz res) 0 0 (fo_A 25 ad sz) :=
  fr_mkL (by decide) (fun C0 kr hP => b_r_seal C0 (Nat.le_refl _) (Nat.le_refl _) (Nat.zero_le _)  h0 kr hP)
def r_commit_L120  (s120 : Int32 × fo_S) : Option ((Int32 × fo_S) ⊕ (Int32 × fo_S)) :=
  if (5 : Int32) ≤ s120.1 then (some (.inr (s120.1, s120.2))) else (if fo_vi (((5 : Int32) * (s120.2.1 0 0 8)) + s120.1) 80 then (some (.inl (s120.1 + (1 : Int32), fo_pI s120.2 10 0 (((5 : Int32) * (s120.2.1 0 0 8)) + s120.1).toNatClampNeg (-1 : Int32)))) else none)
def r_commit (σ : fo_S) (a1 : Int32) (a2 : Int64) (a3 : Int64) : Option (Int32 × fo_S) :=
  (r_in σ a1.toInt64 (0 : Int64) (((σ.1 0 0 0).toInt64) - (1 : Int64))).bind (fun x1 => if x1 = 0 then (some ((-2 : Int32), σ)) else ((r_in σ a2 (0 : Int64) (1000000 : Int64)).bind (fun x4 => if x4 = 0 then (some ((-2 : Int32), σ)) else (if (σ.1 0 0 6) = 0 then (if (σ.1 0 0 8) = (16 : Int32) then (some ((-3 : Int32), σ)) else (if fo_vi a1 8 then (if 0 ≤ (lg_cmp (σ.2 1 0 a1.toNatClampNeg) a2) then (if fo_vi a1 8 then ( if fo_vi a1 8 then ( if fo_vi ((fo_pJ σ 1 0 a1.toNatClampNeg ((σ.2 1 0 a1.toNatClampNeg) - a2)).1 0 0 8) 16 then ( if fo_vi ((fo_pI (fo_pJ σ 1 0 a1.toNatClampNeg ((σ.2 1 0 a1.toNatClampNeg) - a2)) 3 0 ((fo_pJ σ 1 0 a1.toNatClampNeg ((σ.2 1 0 a1.toNatClampNeg) - a2)).1 0 0 8).toNatClampNeg a1).1 0 0 8) 16 then ( if fo_vi ((fo_pJ (fo_pI (fo_pJ σ 1 0 a1.toNatClampNeg ((σ.2 1 0 a1.toNatClampNeg) - a2)) 3 0 ((fo_pJ σ 1 0 a1.toNatClampNeg ((σ.2 1 0 a1.toNatClampNeg) - a2)).1 0 0 8).toNatClampNeg a1) 4 0 ((fo_pI (fo_pJ σ 1 0 a1.toNatClampNeg ((σ.2 1 0 a1.toNatClampNeg) - a2)) 3 0 ((fo_pJ σ 1 0 a1.toNatClampNeg ((σ.2 1 0 a1.toNatClampNeg) - a2)).1 0 0 8).toNatClampNeg a1).1 0 0 8).toNatClampNeg a2).1 0 0 8) 16 then ( if fo_vi ((fo_pJ (fo_pJ (fo_pI (fo_pJ σ 1 0 a1.toNatClampNeg ((σ.2 1 0 a1.toNatClampNeg) - a2)) 3 0 ((fo_pJ σ 1 0 a1.toNatClampNeg ((σ.2 1 0 a1.toNatClampNeg) - a2)).1 0 0 8).toNatClampNeg a1) 4 0 ((fo_pI (fo_pJ σ 1 0 a1.toNatClampNeg ((σ.2 1 0 a1.toNatClampNeg) - a2)) 3 0 ((fo_pJ σ 1 0 a1.toNatClampNeg ((σ.2 1 0 a1.toNatClampNeg) - a2)).1 0 0 8).toNatClampNeg a1).1 0 0 8).toNatClampNeg a2) 5 0 ((fo_pJ (fo_pI (fo_pJ σ 1 0 a1.toNatClampNeg ((σ.2 1 0 a1.toNatClampNeg) - a2)) 3 0 ((fo_pJ σ 1 0 a1.toNatClampNeg ((σ.2 1 0 a1.toNatClampNeg) - a2)).1 0 0 8).toNatClampNeg a1) 4 0 ((fo_pI (fo_pJ σ 1 0 a1.toNatClampNeg ((σ.2 1 0 a1.toNatClampNeg) - a2)) 3 0 ((fo_pJ σ 1 0 a1.toNatClampNeg ((σ.2 1 0 a1.toNatClampNeg) - a2)).1 0 0 8).toNatClampNeg a1).1 0 0 8).toNatClampNeg a2).1 0 0 8).toNatClampNeg a3).1 0 0 8) 16 then ((fo_lp (r_commit_L120) fo_FU ((0 : Int32), fo_pI (fo_pJ (fo_pJ (fo_pI (fo_pJ σ 1 0 a1.toNatClampNeg ((σ.2 1 0 a1.toNatClampNeg) - a2)) 3 0 ((fo_pJ σ 1 0 a1.toNatClampNeg ((σ.2 1 0 a1.toNatClampNeg) - a2)).1 0 0 8).toNatClampNeg a1) 4 0 ((fo_pI (fo_pJ σ 1 0 a1.toNatClampNeg ((σ.2 1 0 a1.toNatClampNeg) - a2)) 3 0 ((fo_pJ σ 1 0 a1.toNatClampNeg ((σ.2 1 0 a1.toNatClampNeg) - a2)).1 0 0 8).toNatClampNeg a1).1 0 0 8).toNatClampNeg a2) 5 0 ((fo_pJ (fo_pI (fo_pJ σ 1 0 a1.toNatClampNeg ((σ.2 1 0 a1.toNatClampNeg) - a2)) 3 0 ((fo_pJ σ 1 0 a1.toNatClampNeg ((σ.2 1 0 a1.toNatClampNeg) - a2)).1 0 0 8).toNatClampNeg a1) 4 0 ((fo_pI (fo_pJ σ 1 0 a1.toNatClampNeg ((σ.2 1 0 a1.toNatClampNeg) - a2)) 3 0 ((fo_pJ σ 1 0 a1.toNatClampNeg ((σ.2 1 0 a1.toNatClampNeg) - a2)).1 0 0 8).toNatClampNeg a1).1 0 0 8).toNatClampNeg a2).1 0 0 8).toNatClampNeg a3) 6 0 ((fo_pJ (fo_pJ (fo_pI (fo_pJ σ 1 0 a1.toNatClampNeg ((σ.2 1 0 a1.toNatClampNeg) - a2)) 3 0 ((fo_pJ σ 1 0 a1.toNatClampNeg ((σ.2 1 0 a1.toNatClampNeg) - a2)).1 0 0 8).toNatClampNeg a1) 4 0 ((fo_pI (fo_pJ σ 1 0 a1.toNatClampNeg ((σ.2 1 0 a1.toNatClampNeg) - a2)) 3 0 ((fo_pJ σ 1 0 a1.toNatClampNeg ((σ.2 1 0 a1.toNatClampNeg) - a2)).1 0 0 8).toNatClampNeg a1).1 0 0 8).toNatClampNeg a2) 5 0 ((fo_pJ (fo_pI (fo_pJ σ 1 0 a1.toNatClampNeg ((σ.2 1 0 a1.toNatClampNeg) - a2)) 3 0 ((fo_pJ σ 1 0 a1.toNatClampNeg ((σ.2 1 0 a1.toNatClampNeg) - a2)).1 0 0 8).toNatClampNeg a1) 4 0 ((fo_pI (fo_pJ σ 1 0 a1.toNatClampNeg ((σ.2 1 0 a1.toNatClampNeg) - a2)) 3 0 ((fo_pJ σ 1 0 a1.toNatClampNeg ((σ.2 1 0 a1.toNatClampNeg) - a2)).1 0 0 8).toNatClampNeg a1).1 0 0 8).toNatClampNeg a2).1 0 0 8).toNatClampNeg a3).1 0 0 8).toNatClampNeg (vp_nar .boolean (0 : Int32)))).bind (fun y120 => some (((fo_pI y120.2 0 0 8 ((y120.2.1 0 0 8) + (1 : Int32))).1 0 0 8) - (1 : Int32), fo_pI y120.2 0 0 8 ((y120.2.1 0 0 8) + (1 : Int32))))) else none) else none) else none) else none) else none) else none) else (some ((-5 : Int32), σ))) else none)) else (some ((-4 : Int32), σ))))))
set_option maxHeartbeats 4000000 in
set_option maxRecDepth 100000 in
theorem b_r_commit {p : Program} {l : Launch} {e : Env} {R : Room} {s : State} {m : MethodId} {args : Array Value} {below : List Frame} {meth : Method} {c : Code} {Q : State → Prop} {D : va_G} {ca : Nat → ClassId} {ad : Nat → Nat} (C0 : fr_CX p s m args c cX6_commit 7 RX6 D ca ad) (hRf : 1 ≤ R.frames) (hRl : 25 ≤ R.locals) (hRc : 0 ≤ R.cells) {σ : fo_S} {a1 : Int32} {a2 : Int64} {a3 : Int64}  {res : Int32 × fo_S} (h0 : r_commit σ a1 a2 a3 = some res) (kr : ∀ (pc : Nat) (ls : Array Slot) (H : Heap) (locs : List Loc), decode cX6_commit pc = .ok (.ireturn, 1) → va_P D vwCl (fo_vx 25 ad (fr_ce ca ad res.2)) H → va_S (fo_A 25 ad s.heap.size) s.heap H locs → W p l e R s m args below meth c H locs 0 0 Q (F0 m pc ls [.int res.1])) (hP : va_P D vwCl (fo_vx 25 ad (fr_ce ca ad σ)) s.heap) : W p l e R s m args below meth c s.heap [] 0 0 Q (entryFrame m ([.ref (ad (fr_lay 0 0)), .int a1, .long a2, .long a3] : List Value).toArray 7) := by
  obtain ⟨hx, hb, hml, hown, hT, hK, hD⟩ := C0
  have hN0 : (some res) ≠ none := fun q => by cases q
  unfold r_commit at h0
  have hS : va_S (fo_A 25 ad s.heap.size) s.heap s.heap [] := va_S.rf
  have hl := lv_entry ([.ref (ad (fr_lay 0 0)), .int a1, .long a2, .long a3]) (n := 7) (Nat.le_of_ble_eq_true rfl)
  rw [lg_entry_eq]
  generalize (lg_sl ([.ref (ad (fr_lay 0 0)), .int a1, .long a2, .long a3]) ++ List.replicate (7 - (lg_sl ([.ref (ad (fr_lay 0 0)), .int a1, .long a2, .long a3])).length) Slot.unset).toArray = ls at hl ⊢
  have hl : lv_has ls 7 [(0, .ref (ad (fr_lay 0 0))), (1, .int a1), (2, .long a2), (4, .long a3)] := hl
  refine lv_iload_n hx hb dX6_commit_0 rfl (lv_at hl 1 rfl) ?_
  refine lv_i2l hx hb dX6_commit_1 rfl ?_
  refine lv_lconst (v := 0) hx hb dX6_commit_2 (by decide) ?_
  refine lv_aload_n hx hb dX6_commit_3 rfl (lv_at hl 0 rfl) ?_
  refine fr_g6_102 hx hb hT hown hK hP (by decide) dX6_commit_4 ?_
  refine lv_i2l hx hb dX6_commit_7 rfl ?_
  refine lv_lconst (v := 1) hx hb dX6_commit_8 (by decide) ?_
  refine lv_lsub hx hb dX6_commit_9 ?_
  obtain ⟨x1, hx1, h0⟩ := fo_bd h0 hN0
  refine fo_calli (va_runS (H := _) (As := [.long a1.toInt64, .long (0 : Int64), .long (((σ.1 0 0 0).toInt64) - (1 : Int64))]) (rest := []) ⟨hx, hb, hml, hown, hT⟩ (c_r_in l D ca ad _ hx1) (fr_c6_91 hT ⟨Nat.le_trans (Nat.le_of_ble_eq_true rfl) hRf, Nat.le_trans (Nat.le_of_ble_eq_true rfl) hRl⟩) ⟨fo_Pre_blind, fo_Pre_at hP hK (hD _)⟩ rfl rfl hl.1 rfl (lv_room (Nat.le_of_ble_eq_true rfl)) dX6_commit_10 ⟨Nat.zero_le _, Nat.zero_le _⟩) hS (fun H locs hP hS => ?_)
  refine lv_if_eq (tgt := 27) hx hb dX6_commit_13 (by decide) (fun c2 => ?_) (fun c2 => ?_)
  · replace h0 := fo_itT c2 h0
    refine lv_bipush (v := -2) hx hb dX6_commit_27 (by decide) ?_
    have hr3 := Option.some.inj h0
    subst hr3
    exact kr _ ls _ _ dX6_commit_29 hP hS
  · replace h0 := fo_itF c2 h0
    refine lv_lload_n hx hb dX6_commit_16 rfl (lv_at hl 2 rfl) ?_
    refine lv_lconst (v := 0) hx hb dX6_commit_17 (by decide) ?_
    refine lv_ldc2 (v := 1000000) hx hb hown (fr_k6_137 hT) dX6_commit_18 ?_
    obtain ⟨x4, hx4, h0⟩ := fo_bd h0 hN0
    refine fo_calli (va_runS (H := _) (As := [.long a2, .long (0 : Int64), .long (1000000 : Int64)]) (rest := []) ⟨hx, hb, hml, hown, hT⟩ (c_r_in l D ca ad _ hx4) (fr_c6_91 hT ⟨Nat.le_trans (Nat.le_of_ble_eq_true rfl) hRf, Nat.le_trans (Nat.le_of_ble_eq_true rfl) hRl⟩) ⟨fo_Pre_blind, fo_Pre_at hP hK (hD _)⟩ rfl rfl hl.1 rfl (lv_room (Nat.le_of_ble_eq_true rfl)) dX6_commit_21 ⟨Nat.zero_le _, Nat.zero_le _⟩) hS (fun H locs hP hS => ?_)
    refine lv_if_ne (tgt := 30) hx hb dX6_commit_24 (by decide) (fun c5 => ?_) (fun c5 => ?_)
    · replace h0 := fo_itF c5 h0
      refine lv_aload_n hx hb dX6_commit_30 rfl (lv_at hl 0 rfl) ?_
      refine fr_g6_99 hx hb hT hown hK hP (by decide) dX6_commit_31 ?_
      refine lv_if_eq (tgt := 40) hx hb dX6_commit_34 (by decide) (fun c6 => ?_) (fun c6 => ?_)
      · replace h0 := fo_itT c6 h0
        refine lv_aload_n hx hb dX6_commit_40 rfl (lv_at hl 0 rfl) ?_
        refine fr_g6_88 hx hb hT hown hK hP (by decide) dX6_commit_41 ?_
        refine lv_bipush (v := 16) hx hb dX6_commit_44 (by decide) ?_
        refine lv_icmp_ne (tgt := 52) hx hb dX6_commit_46 (by decide) (fun c7 => ?_) (fun c7 => ?_)
        · replace h0 := fo_itF c7 h0
          refine lv_aload_n hx hb dX6_commit_52 rfl (lv_at hl 0 rfl) ?_
          refine fr_g6_7 hx hb hT hown hK hP (by decide) dX6_commit_53 ?_
          refine lv_iload_n hx hb dX6_commit_56 rfl (lv_at hl 1 rfl) ?_
          obtain ⟨g8, h0⟩ := fo_gd h0 hN0
          refine fr_lald (k := 1) (n := 8) hx hb hK hP (by decide) (by decide) (fun _ _ => rfl) g8 dX6_commit_57 ?_
          refine lv_lload_n hx hb dX6_commit_58 rfl (lv_at hl 2 rfl) ?_
          refine W.lcmp hx hb dX6_commit_59 ?_
          refine lv_if_ge (tgt := 66) hx hb dX6_commit_60 (by decide) (fun c9 => ?_) (fun c9 => ?_)
          · replace h0 := fo_itT c9 h0
            refine lv_aload_n hx hb dX6_commit_66 rfl (lv_at hl 0 rfl) ?_
            refine fr_g6_7 hx hb hT hown hK hP (by decide) dX6_commit_67 ?_
            refine lv_iload_n hx hb dX6_commit_70 rfl (lv_at hl 1 rfl) ?_
            refine lv_dup2_11 hx hb dX6_commit_71 rfl rfl ?_
            obtain ⟨g10, h0⟩ := fo_gd h0 hN0
            refine fr_lald (k := 1) (n := 8) hx hb hK hP (by decide) (by decide) (fun _ _ => rfl) g10 dX6_commit_72 ?_
            refine lv_lload_n hx hb dX6_commit_73 rfl (lv_at hl 2 rfl) ?_
            refine lv_lsub hx hb dX6_commit_74 ?_
            obtain ⟨g11, h0⟩ := fo_gd h0 hN0
            refine fr_last (k := 1) (n := 8) hx hb hK hP hD hS (by decide) (by decide) (fun _ _ => rfl) g11 dX6_commit_75 (fun H locs hP hS => ?_)
            refine lv_aload_n hx hb dX6_commit_76 rfl (lv_at hl 0 rfl) ?_
            refine fr_g6_16 hx hb hT hown hK hP (by decide) dX6_commit_77 ?_
            refine lv_aload_n hx hb dX6_commit_80 rfl (lv_at hl 0 rfl) ?_
            refine fr_g6_88 hx hb hT hown hK hP (by decide) dX6_commit_81 ?_
            refine lv_iload_n hx hb dX6_commit_84 rfl (lv_at hl 1 rfl) ?_
            obtain ⟨g12, h0⟩ := fo_gd h0 hN0
            refine fr_iast (k := 3) (n := 16) hx hb hK hP hD hS (by decide) (by decide) (fun _ _ => rfl) g12 dX6_commit_85 (fun H locs hP hS => ?_)
            refine lv_aload_n hx hb dX6_commit_86 rfl (lv_at hl 0 rfl) ?_
            refine fr_g6_20 hx hb hT hown hK hP (by decide) dX6_commit_87 ?_
            refine lv_aload_n hx hb dX6_commit_90 rfl (lv_at hl 0 rfl) ?_
            refine fr_g6_88 hx hb hT hown hK hP (by decide) dX6_commit_91 ?_
            refine lv_lload_n hx hb dX6_commit_94 rfl (lv_at hl 2 rfl) ?_
            obtain ⟨g13, h0⟩ := fo_gd h0 hN0
            refine fr_last (k := 4) (n := 16) hx hb hK hP hD hS (by decide) (by decide) (fun _ _ => rfl) g13 dX6_commit_95 (fun H locs hP hS => ?_)
            refine lv_aload_n hx hb dX6_commit_96 rfl (lv_at hl 0 rfl) ?_
            refine fr_g6_23 hx hb hT hown hK hP (by decide) dX6_commit_97 ?_
            refine lv_aload_n hx hb dX6_commit_100 rfl (lv_at hl 0 rfl) ?_
            refine fr_g6_88 hx hb hT hown hK hP (by decide) dX6_commit_101 ?_
            refine lv_lload hx hb dX6_commit_104 (lv_at hl 3 rfl) ?_
            obtain ⟨g14, h0⟩ := fo_gd h0 hN0
            refine fr_last (k := 5) (n := 16) hx hb hK hP hD hS (by decide) (by decide) (fun _ _ => rfl) g14 dX6_commit_106 (fun H locs hP hS => ?_)
            refine lv_aload_n hx hb dX6_commit_107 rfl (lv_at hl 0 rfl) ?_
            refine fr_g6_26 hx hb hT hown hK hP (by decide) dX6_commit_108 ?_
            refine lv_aload_n hx hb dX6_commit_111 rfl (lv_at hl 0 rfl) ?_
            refine fr_g6_88 hx hb hT hown hK hP (by decide) dX6_commit_112 ?_
            refine lv_iconst (v := 0) hx hb dX6_commit_115 (by decide) ?_
            obtain ⟨g15, h0⟩ := fo_gd h0 hN0
            refine fr_zast (k := 6) (n := 16) hx hb hK hP hD hS (by decide) (by decide) (fun _ _ => rfl) g15 dX6_commit_116 (fun H locs hP hS => ?_)
            refine lv_iconst (v := 0) hx hb dX6_commit_117 (by decide) ?_
            refine lv_istore (lv' := [(6, .int (0 : Int32)), (0, .ref (ad (fr_lay 0 0))), (1, .int a1), (2, .long a2), (4, .long a3)]) hx hb dX6_commit_118 hl (by decide) rfl (fun ls hl => ?_)
            obtain ⟨y120, hy120, h0⟩ := fo_bd h0 hN0
            have ex120 : ∀ (H : Heap) (locs : List Loc) (ls : Array Slot), va_P D vwCl (fo_vx 25 ad (fr_ce ca ad y120.2)) H → va_S (fo_A 25 ad s.heap.size) s.heap H locs → lv_has ls 7 [(0, .ref (ad (fr_lay 0 0)))] → W p l e R s m args below meth c H locs 0 0 Q (F0 m 147 ls []) := by
              intro H locs ls hP hS hl
              refine lv_aload_n hx hb dX6_commit_147 rfl (lv_at hl 0 rfl) ?_
              refine lv_dup hx hb dX6_commit_148 rfl ?_
              refine fr_g6_88 hx hb hT hown hK hP (by decide) dX6_commit_149 ?_
              refine lv_iconst (v := 1) hx hb dX6_commit_152 (by decide) ?_
              refine lv_iadd hx hb dX6_commit_153 ?_
              refine fr_p6_88 hx hb hT hown hK hP hD hS (by decide) dX6_commit_154 (fun H locs hP hS => ?_)
              refine lv_aload_n hx hb dX6_commit_157 rfl (lv_at hl 0 rfl) ?_
              refine fr_g6_88 hx hb hT hown hK hP (by decide) dX6_commit_158 ?_
              refine lv_iconst (v := 1) hx hb dX6_commit_161 (by decide) ?_
              refine lv_isub hx hb dX6_commit_162 ?_
              have hr19 := Option.some.inj h0
              subst hr19
              exact kr _ ls _ _ dX6_commit_163 hP hS
            have lp120 := fo_lp_ind (fun (s120 : Int32 × fo_S) => ∀ (H : Heap) (locs : List Loc) (ls : Array Slot), va_P D vwCl (fo_vx 25 ad (fr_ce ca ad s120.2)) H → va_S (fo_A 25 ad s.heap.size) s.heap H locs → lv_has ls 7 [(0, .ref (ad (fr_lay 0 0))), (6, .int s120.1)] → W p l e R s m args below meth c H locs 0 0 Q (F0 m 120 ls [])) (by
                intro s120 o1 h1 hN1 hL1 hE1 H locs ls hP hS hl
                unfold r_commit_L120 at h1
                refine lv_iload hx hb dX6_commit_120 (lv_at hl 1 rfl) ?_
                refine lv_iconst (v := 5) hx hb dX6_commit_122 (by decide) ?_
                refine lv_icmp_ge (tgt := 147) hx hb dX6_commit_123 (by decide) (fun c16 => ?_) (fun c16 => ?_)
                · replace h1 := fo_itT c16 h1
                  have hy17 := hE1 _ h1
                  subst hy17
                  exact ex120 _ _ ls hP hS (lv_sub hl [0] rfl)
                · replace h1 := fo_itF c16 h1
                  refine lv_aload_n hx hb dX6_commit_126 rfl (lv_at hl 0 rfl) ?_
                  refine fr_g6_39 hx hb hT hown hK hP (by decide) dX6_commit_127 ?_
                  refine lv_iconst (v := 5) hx hb dX6_commit_130 (by decide) ?_
                  refine lv_aload_n hx hb dX6_commit_131 rfl (lv_at hl 0 rfl) ?_
                  refine fr_g6_88 hx hb hT hown hK hP (by decide) dX6_commit_132 ?_
                  refine lv_imul hx hb dX6_commit_135 ?_
                  refine lv_iload hx hb dX6_commit_136 (lv_at hl 1 rfl) ?_
                  refine lv_iadd hx hb dX6_commit_138 ?_
                  refine lv_iconst (v := -1) hx hb dX6_commit_139 (by decide) ?_
                  obtain ⟨g18, h1⟩ := fo_gd h1 hN1
                  refine fr_iast (k := 10) (n := 80) hx hb hK hP hD hS (by decide) (by decide) (fun _ _ => rfl) g18 dX6_commit_140 (fun H locs hP hS => ?_)
                  refine lv_iinc (v := s120.1 + (1 : Int32)) (lv' := [(6, .int (s120.1 + (1 : Int32))), (0, .ref (ad (fr_lay 0 0)))]) hx hb dX6_commit_141 hl (k := 1) rfl rfl (by decide) rfl (fun ls hl => ?_)
                  refine lv_goto (tgt := 120) hx hb dX6_commit_144 (by decide) ?_
                  exact hL1 _ h1 _ _ ls hP hS (lv_sub hl [1, 0] rfl)) _ _ hy120
            exact lp120 _ _ ls hP hS (lv_sub hl [1, 0] rfl)
          · replace h0 := fo_itF c9 h0
            refine lv_bipush (v := -5) hx hb dX6_commit_63 (by decide) ?_
            have hr20 := Option.some.inj h0
            subst hr20
            exact kr _ ls _ _ dX6_commit_65 hP hS
        · replace h0 := fo_itT c7 h0
          refine lv_bipush (v := -3) hx hb dX6_commit_49 (by decide) ?_
          have hr21 := Option.some.inj h0
          subst hr21
          exact kr _ ls _ _ dX6_commit_51 hP hS
      · replace h0 := fo_itF c6 h0
        refine lv_bipush (v := -4) hx hb dX6_commit_37 (by decide) ?_
        have hr22 := Option.some.inj h0
        subst hr22
        exact kr _ ls _ _ dX6_commit_39 hP hS
    · replace h0 := fo_itT c5 h0
      refine lv_bipush (v := -2) hx hb dX6_commit_27 (by decide) ?_
      have hr23 := Option.some.inj h0
      subst hr23
      exact kr _ ls _ _ dX6_commit_29 hP hS
theorem c_r_commit (l : Launch) (D : va_G) (ca : Nat → ClassId) (ad : Nat → Nat) (sz : Nat) {σ : fo_S} {a1 : Int32} {a2 : Int64} {a3 : Int64}  {res : Int32 × fo_S} (h0 : r_commit σ a1 a2 a3 = some res) : Met l yX6_commit ws_r_commit rm_r_commit (fo_Pre 25 D vwCl (fr_tys ca) ad (fr_ce ca ad σ) sz [.ref (ad (fr_lay 0 0)), .int a1, .long a2, .long a3]) (fo_PoI 25 D vwCl (fr_tys ca) ad (fr_ce ca ad res.2) sz res.1) 0 0 (fo_A 25 ad sz) :=
  fr_mkI (by decide) (fun C0 kr hP => b_r_commit C0 (Nat.le_refl _) (Nat.le_refl _) (Nat.zero_le _)  h0 kr hP)
