def q_Call_limit (σ : fo_S) (i0 : Nat) : Option (Int64) :=
  some (((σ.1 14 i0 6).toInt64) * ((σ.1 14 i0 7).toInt64))
set_option maxHeartbeats 4000000 in
set_option maxRecDepth 100000 in
theorem b_q_Call_limit {p : Program} {l : Launch} {e : Env} {R : Room} {s : State} {m : MethodId} {args : Array Value} {below : List Frame} {meth : Method} {c : Code} {Q : State → Prop} {D : va_G} {ca : Nat → ClassId} {ad : Nat → Nat} (C0 : fo_CX p s m args c cX1_limit 1 RX1 D ca ad) (hRf : 0 ≤ R.frames) (hRl : 0 ≤ R.locals) (hRc : 0 ≤ R.cells) {σ : fo_S} {i0 : Nat} (hi0 : i0 < 16) {res : Int64} (h0 : q_Call_limit σ i0 = some res) (kr : ∀ (pc : Nat) (ls : Array Slot) (H : Heap) (locs : List Loc), decode cX1_limit pc = .ok (.lreturn, 1) → va_P D vwCl (fo_vx 51 ad (fo_ce ca ad σ)) H → va_S (fo_A 51 ad s.heap.size) s.heap H locs → W p l e R s m args below meth c H locs 0 0 Q (F0 m pc ls [.long res])) (hP : va_P D vwCl (fo_vx 51 ad (fo_ce ca ad σ)) s.heap) : W p l e R s m args below meth c s.heap [] 0 0 Q (entryFrame m ([.ref (ad (fo_lay 14 i0))] : List Value).toArray 1) := by
  obtain ⟨hx, hb, hml, hown, hT, hK, hD⟩ := C0
  have hN0 : (some res) ≠ none := fun q => by cases q
  unfold q_Call_limit at h0
  have hS : va_S (fo_A 51 ad s.heap.size) s.heap s.heap [] := va_S.rf
  have hl := lv_entry ([.ref (ad (fo_lay 14 i0))]) (n := 1) (Nat.le_of_ble_eq_true rfl)
  rw [lg_entry_eq]
  generalize (lg_sl ([.ref (ad (fo_lay 14 i0))]) ++ List.replicate (1 - (lg_sl ([.ref (ad (fo_lay 14 i0))])).length) Slot.unset).toArray = ls at hl ⊢
  have hl : lv_has ls 1 [(0, .ref (ad (fo_lay 14 i0)))] := hl
  refine lv_aload_n hx hb dX1_limit_0 rfl (lv_at hl 0 rfl) ?_
  refine fo_g1_44 hx hb hT hown hK hP hi0 dX1_limit_1 ?_
  refine lv_i2l hx hb dX1_limit_4 rfl ?_
  refine lv_aload_n hx hb dX1_limit_5 rfl (lv_at hl 0 rfl) ?_
  refine fo_g1_47 hx hb hT hown hK hP hi0 dX1_limit_6 ?_
  refine lv_i2l hx hb dX1_limit_9 rfl ?_
  refine lv_lmul hx hb dX1_limit_10 ?_
  have hr1 := Option.some.inj h0
  subst hr1
  exact kr _ ls _ _ dX1_limit_11 hP hS
theorem c_q_Call_limit (l : Launch) (D : va_G) (ca : Nat → ClassId) (ad : Nat → Nat) (sz : Nat) {σ : fo_S} {i0 : Nat} (hi0 : i0 < 16) {res : Int64} (h0 : q_Call_limit σ i0 = some res) : Met l yX1_limit ws_q_Call_limit rm_q_Call_limit (fo_Pre 51 D vwCl (fo_tys ca) ad (fo_ce ca ad σ) sz [.ref (ad (fo_lay 14 i0))]) (fo_PoL 51 D vwCl (fo_tys ca) ad (fo_ce ca ad σ) sz res) 0 0 (fo_A 51 ad sz) :=
  fo_mkL (by decide) (fun C0 kr hP => b_q_Call_limit C0 (Nat.le_refl _) (Nat.le_refl _) (Nat.zero_le _) hi0 h0 kr hP)
def q_Market_take (σ : fo_S) (i0 : Nat) (a1 : Int32) (a2 : Int64) (a3 : Int64) : Option (fo_S) :=
  if fo_vi a1 9 then ( if fo_vi a1 9 then ( if fo_vi a1 9 then ( if fo_vi a1 9 then (some (fo_pJ (fo_pJ σ 2 i0 a1.toNatClampNeg ((σ.2 2 i0 a1.toNatClampNeg) - a2)) 3 i0 a1.toNatClampNeg (((fo_pJ σ 2 i0 a1.toNatClampNeg ((σ.2 2 i0 a1.toNatClampNeg) - a2)).2 3 i0 a1.toNatClampNeg) + a3))) else none) else none) else none) else none
set_option maxHeartbeats 4000000 in
set_option maxRecDepth 100000 in
theorem b_q_Market_take {p : Program} {l : Launch} {e : Env} {R : Room} {s : State} {m : MethodId} {args : Array Value} {below : List Frame} {meth : Method} {c : Code} {Q : State → Prop} {D : va_G} {ca : Nat → ClassId} {ad : Nat → Nat} (C0 : fo_CX p s m args c cX2_take 6 RX2 D ca ad) (hRf : 0 ≤ R.frames) (hRl : 0 ≤ R.locals) (hRc : 0 ≤ R.cells) {σ : fo_S} {i0 : Nat} {a1 : Int32} {a2 : Int64} {a3 : Int64} (hi0 : i0 < 2) {res : fo_S} (h0 : q_Market_take σ i0 a1 a2 a3 = some res) (kr : ∀ (pc : Nat) (ls : Array Slot) (H : Heap) (locs : List Loc), decode cX2_take pc = .ok (.return_, 1) → va_P D vwCl (fo_vx 51 ad (fo_ce ca ad res)) H → va_S (fo_A 51 ad s.heap.size) s.heap H locs → W p l e R s m args below meth c H locs 0 0 Q (F0 m pc ls [])) (hP : va_P D vwCl (fo_vx 51 ad (fo_ce ca ad σ)) s.heap) : W p l e R s m args below meth c s.heap [] 0 0 Q (entryFrame m ([.ref (ad (fo_lay 1 i0)), .int a1, .long a2, .long a3] : List Value).toArray 6) := by
  obtain ⟨hx, hb, hml, hown, hT, hK, hD⟩ := C0
  have hN0 : (some res) ≠ none := fun q => by cases q
  unfold q_Market_take at h0
  have hS : va_S (fo_A 51 ad s.heap.size) s.heap s.heap [] := va_S.rf
  have hl := lv_entry ([.ref (ad (fo_lay 1 i0)), .int a1, .long a2, .long a3]) (n := 6) (Nat.le_of_ble_eq_true rfl)
  rw [lg_entry_eq]
  generalize (lg_sl ([.ref (ad (fo_lay 1 i0)), .int a1, .long a2, .long a3]) ++ List.replicate (6 - (lg_sl ([.ref (ad (fo_lay 1 i0)), .int a1, .long a2, .long a3])).length) Slot.unset).toArray = ls at hl ⊢
  have hl : lv_has ls 6 [(0, .ref (ad (fo_lay 1 i0))), (1, .int a1), (2, .long a2), (4, .long a3)] := hl
  refine lv_aload_n hx hb dX2_take_0 rfl (lv_at hl 0 rfl) ?_
  refine fo_g2_9 hx hb hT hown hK hP hi0 dX2_take_1 ?_
  refine lv_iload_n hx hb dX2_take_4 rfl (lv_at hl 1 rfl) ?_
  refine lv_dup2_11 hx hb dX2_take_5 rfl rfl ?_
  obtain ⟨g1, h0⟩ := fo_gd h0 hN0
  refine fo_lald (k := 2) (n := 9) hx hb hK hP (by decide) hi0 (fun _ _ => rfl) g1 dX2_take_6 ?_
  refine lv_lload_n hx hb dX2_take_7 rfl (lv_at hl 2 rfl) ?_
  refine lv_lsub hx hb dX2_take_8 ?_
  obtain ⟨g2, h0⟩ := fo_gd h0 hN0
  refine fo_last (k := 2) (n := 9) hx hb hK hP hD hS (by decide) hi0 (fun _ _ => rfl) g2 dX2_take_9 (fun H locs hP hS => ?_)
  refine lv_aload_n hx hb dX2_take_10 rfl (lv_at hl 0 rfl) ?_
  refine fo_g2_15 hx hb hT hown hK hP hi0 dX2_take_11 ?_
  refine lv_iload_n hx hb dX2_take_14 rfl (lv_at hl 1 rfl) ?_
  refine lv_dup2_11 hx hb dX2_take_15 rfl rfl ?_
  obtain ⟨g3, h0⟩ := fo_gd h0 hN0
  refine fo_lald (k := 3) (n := 9) hx hb hK hP (by decide) hi0 (fun _ _ => rfl) g3 dX2_take_16 ?_
  refine lv_lload hx hb dX2_take_17 (lv_at hl 3 rfl) ?_
  refine lv_ladd hx hb dX2_take_19 ?_
  obtain ⟨g4, h0⟩ := fo_gd h0 hN0
  refine fo_last (k := 3) (n := 9) hx hb hK hP hD hS (by decide) hi0 (fun _ _ => rfl) g4 dX2_take_20 (fun H locs hP hS => ?_)
  have hr5 := Option.some.inj h0
  subst hr5
  exact kr _ ls _ _ dX2_take_21 hP hS
theorem c_q_Market_take (l : Launch) (D : va_G) (ca : Nat → ClassId) (ad : Nat → Nat) (sz : Nat) {σ : fo_S} {i0 : Nat} {a1 : Int32} {a2 : Int64} {a3 : Int64} (hi0 : i0 < 2) {res : fo_S} (h0 : q_Market_take σ i0 a1 a2 a3 = some res) : Met l yX2_take ws_q_Market_take rm_q_Market_take (fo_Pre 51 D vwCl (fo_tys ca) ad (fo_ce ca ad σ) sz [.ref (ad (fo_lay 1 i0)), .int a1, .long a2, .long a3]) (fo_PoV 51 D vwCl (fo_tys ca) ad (fo_ce ca ad res) sz) 0 0 (fo_A 51 ad sz) :=
  fo_mkV (by decide) (fun C0 kr hP => b_q_Market_take C0 (Nat.le_refl _) (Nat.le_refl _) (Nat.zero_le _) hi0 h0 kr hP)
def q_Market_give (σ : fo_S) (i0 : Nat) (a1 : Int32) (a2 : Int64) (a3 : Int64) : Option (fo_S) :=
  if fo_vi a1 9 then ( if fo_vi a1 9 then ( if fo_vi a1 9 then ( if fo_vi a1 9 then (some (fo_pJ (fo_pJ σ 2 i0 a1.toNatClampNeg ((σ.2 2 i0 a1.toNatClampNeg) + a2)) 3 i0 a1.toNatClampNeg (((fo_pJ σ 2 i0 a1.toNatClampNeg ((σ.2 2 i0 a1.toNatClampNeg) + a2)).2 3 i0 a1.toNatClampNeg) - a3))) else none) else none) else none) else none
set_option maxHeartbeats 4000000 in
set_option maxRecDepth 100000 in
theorem b_q_Market_give {p : Program} {l : Launch} {e : Env} {R : Room} {s : State} {m : MethodId} {args : Array Value} {below : List Frame} {meth : Method} {c : Code} {Q : State → Prop} {D : va_G} {ca : Nat → ClassId} {ad : Nat → Nat} (C0 : fo_CX p s m args c cX2_give 6 RX2 D ca ad) (hRf : 0 ≤ R.frames) (hRl : 0 ≤ R.locals) (hRc : 0 ≤ R.cells) {σ : fo_S} {i0 : Nat} {a1 : Int32} {a2 : Int64} {a3 : Int64} (hi0 : i0 < 2) {res : fo_S} (h0 : q_Market_give σ i0 a1 a2 a3 = some res) (kr : ∀ (pc : Nat) (ls : Array Slot) (H : Heap) (locs : List Loc), decode cX2_give pc = .ok (.return_, 1) → va_P D vwCl (fo_vx 51 ad (fo_ce ca ad res)) H → va_S (fo_A 51 ad s.heap.size) s.heap H locs → W p l e R s m args below meth c H locs 0 0 Q (F0 m pc ls [])) (hP : va_P D vwCl (fo_vx 51 ad (fo_ce ca ad σ)) s.heap) : W p l e R s m args below meth c s.heap [] 0 0 Q (entryFrame m ([.ref (ad (fo_lay 1 i0)), .int a1, .long a2, .long a3] : List Value).toArray 6) := by
  obtain ⟨hx, hb, hml, hown, hT, hK, hD⟩ := C0
  have hN0 : (some res) ≠ none := fun q => by cases q
  unfold q_Market_give at h0
  have hS : va_S (fo_A 51 ad s.heap.size) s.heap s.heap [] := va_S.rf
  have hl := lv_entry ([.ref (ad (fo_lay 1 i0)), .int a1, .long a2, .long a3]) (n := 6) (Nat.le_of_ble_eq_true rfl)
  rw [lg_entry_eq]
  generalize (lg_sl ([.ref (ad (fo_lay 1 i0)), .int a1, .long a2, .long a3]) ++ List.replicate (6 - (lg_sl ([.ref (ad (fo_lay 1 i0)), .int a1, .long a2, .long a3])).length) Slot.unset).toArray = ls at hl ⊢
  have hl : lv_has ls 6 [(0, .ref (ad (fo_lay 1 i0))), (1, .int a1), (2, .long a2), (4, .long a3)] := hl
  refine lv_aload_n hx hb dX2_give_0 rfl (lv_at hl 0 rfl) ?_
  refine fo_g2_9 hx hb hT hown hK hP hi0 dX2_give_1 ?_
  refine lv_iload_n hx hb dX2_give_4 rfl (lv_at hl 1 rfl) ?_
  refine lv_dup2_11 hx hb dX2_give_5 rfl rfl ?_
  obtain ⟨g1, h0⟩ := fo_gd h0 hN0
  refine fo_lald (k := 2) (n := 9) hx hb hK hP (by decide) hi0 (fun _ _ => rfl) g1 dX2_give_6 ?_
  refine lv_lload_n hx hb dX2_give_7 rfl (lv_at hl 2 rfl) ?_
  refine lv_ladd hx hb dX2_give_8 ?_
  obtain ⟨g2, h0⟩ := fo_gd h0 hN0
  refine fo_last (k := 2) (n := 9) hx hb hK hP hD hS (by decide) hi0 (fun _ _ => rfl) g2 dX2_give_9 (fun H locs hP hS => ?_)
  refine lv_aload_n hx hb dX2_give_10 rfl (lv_at hl 0 rfl) ?_
  refine fo_g2_15 hx hb hT hown hK hP hi0 dX2_give_11 ?_
  refine lv_iload_n hx hb dX2_give_14 rfl (lv_at hl 1 rfl) ?_
  refine lv_dup2_11 hx hb dX2_give_15 rfl rfl ?_
  obtain ⟨g3, h0⟩ := fo_gd h0 hN0
  refine fo_lald (k := 3) (n := 9) hx hb hK hP (by decide) hi0 (fun _ _ => rfl) g3 dX2_give_16 ?_
  refine lv_lload hx hb dX2_give_17 (lv_at hl 3 rfl) ?_
  refine lv_lsub hx hb dX2_give_19 ?_
  obtain ⟨g4, h0⟩ := fo_gd h0 hN0
  refine fo_last (k := 3) (n := 9) hx hb hK hP hD hS (by decide) hi0 (fun _ _ => rfl) g4 dX2_give_20 (fun H locs hP hS => ?_)
  have hr5 := Option.some.inj h0
  subst hr5
  exact kr _ ls _ _ dX2_give_21 hP hS
theorem c_q_Market_give (l : Launch) (D : va_G) (ca : Nat → ClassId) (ad : Nat → Nat) (sz : Nat) {σ : fo_S} {i0 : Nat} {a1 : Int32} {a2 : Int64} {a3 : Int64} (hi0 : i0 < 2) {res : fo_S} (h0 : q_Market_give σ i0 a1 a2 a3 = some res) : Met l yX2_give ws_q_Market_give rm_q_Market_give (fo_Pre 51 D vwCl (fo_tys ca) ad (fo_ce ca ad σ) sz [.ref (ad (fo_lay 1 i0)), .int a1, .long a2, .long a3]) (fo_PoV 51 D vwCl (fo_tys ca) ad (fo_ce ca ad res) sz) 0 0 (fo_A 51 ad sz) :=
  fo_mkV (by decide) (fun C0 kr hP => b_q_Market_give C0 (Nat.le_refl _) (Nat.le_refl _) (Nat.zero_le _) hi0 h0 kr hP)
def q_Market_buyFromPool (σ : fo_S) (i0 : Nat) (i1 : Nat) : Option (Int64 × fo_S) :=
  if fo_vi (8 : Int32) 9 then (if 0 < (lg_cmp ((σ.2 3 i0 (8 : Int32).toNatClampNeg) - ((σ.1 14 i1 7).toInt64)) (0 : Int64)) then (if fo_vi (8 : Int32) 9 then ( if ¬ ((σ.2 3 i0 (8 : Int32).toNatClampNeg) - ((σ.1 14 i1 7).toInt64)) = 0 then ( (q_Call_limit σ i1).bind (fun x5 => if 0 < (lg_cmp (((((σ.2 2 i0 (8 : Int32).toNatClampNeg) * ((σ.1 14 i1 7).toInt64)) + ((σ.2 3 i0 (8 : Int32).toNatClampNeg) - ((σ.1 14 i1 7).toInt64))) - (1 : Int64)) / ((σ.2 3 i0 (8 : Int32).toNatClampNeg) - ((σ.1 14 i1 7).toInt64))) x5) then (some ((-1 : Int64), σ)) else (if fo_vi (σ.1 14 i1 1) 9 then (if (lg_cmp (((((σ.2 2 i0 (8 : Int32).toNatClampNeg) * ((σ.1 14 i1 7).toInt64)) + ((σ.2 3 i0 (8 : Int32).toNatClampNeg) - ((σ.1 14 i1 7).toInt64))) - (1 : Int64)) / ((σ.2 3 i0 (8 : Int32).toNatClampNeg) - ((σ.1 14 i1 7).toInt64))) (σ.2 2 i0 (σ.1 14 i1 1).toNatClampNeg)) ≤ 0 then ((q_Market_take σ i0 (σ.1 14 i1 1) (((((σ.2 2 i0 (8 : Int32).toNatClampNeg) * ((σ.1 14 i1 7).toInt64)) + ((σ.2 3 i0 (8 : Int32).toNatClampNeg) - ((σ.1 14 i1 7).toInt64))) - (1 : Int64)) / ((σ.2 3 i0 (8 : Int32).toNatClampNeg) - ((σ.1 14 i1 7).toInt64))) ((σ.1 14 i1 7).toInt64)).bind (fun x10 =>  (q_Market_give x10 i0 (8 : Int32) (((((σ.2 2 i0 (8 : Int32).toNatClampNeg) * ((σ.1 14 i1 7).toInt64)) + ((σ.2 3 i0 (8 : Int32).toNatClampNeg) - ((σ.1 14 i1 7).toInt64))) - (1 : Int64)) / ((σ.2 3 i0 (8 : Int32).toNatClampNeg) - ((σ.1 14 i1 7).toInt64))) ((x10.1 14 i1 7).toInt64)).bind (fun x11 => some (((((σ.2 2 i0 (8 : Int32).toNatClampNeg) * ((σ.1 14 i1 7).toInt64)) + ((σ.2 3 i0 (8 : Int32).toNatClampNeg) - ((σ.1 14 i1 7).toInt64))) - (1 : Int64)) / ((σ.2 3 i0 (8 : Int32).toNatClampNeg) - ((σ.1 14 i1 7).toInt64)), x11)))) else (some ((-1 : Int64), σ))) else none))) else none) else none) else (some ((-1 : Int64), σ))) else none
set_option maxHeartbeats 4000000 in
set_option maxRecDepth 100000 in
theorem b_q_Market_buyFromPool {p : Program} {l : Launch} {e : Env} {R : Room} {s : State} {m : MethodId} {args : Array Value} {below : List Frame} {meth : Method} {c : Code} {Q : State → Prop} {D : va_G} {ca : Nat → ClassId} {ad : Nat → Nat} (C0 : fo_CX p s m args c cX2_buyFromPool 6 RX2 D ca ad) (hRf : 1 ≤ R.frames) (hRl : 25 ≤ R.locals) (hRc : 0 ≤ R.cells) {σ : fo_S} {i0 : Nat} {i1 : Nat} (hi0 : i0 < 2) (hi1 : i1 < 16) {res : Int64 × fo_S} (h0 : q_Market_buyFromPool σ i0 i1 = some res) (kr : ∀ (pc : Nat) (ls : Array Slot) (H : Heap) (locs : List Loc), decode cX2_buyFromPool pc = .ok (.lreturn, 1) → va_P D vwCl (fo_vx 51 ad (fo_ce ca ad res.2)) H → va_S (fo_A 51 ad s.heap.size) s.heap H locs → W p l e R s m args below meth c H locs 0 0 Q (F0 m pc ls [.long res.1])) (hP : va_P D vwCl (fo_vx 51 ad (fo_ce ca ad σ)) s.heap) : W p l e R s m args below meth c s.heap [] 0 0 Q (entryFrame m ([.ref (ad (fo_lay 1 i0)), .ref (ad (fo_lay 14 i1))] : List Value).toArray 6) := by
  obtain ⟨hx, hb, hml, hown, hT, hK, hD⟩ := C0
  have hN0 : (some res) ≠ none := fun q => by cases q
  unfold q_Market_buyFromPool at h0
  have hS : va_S (fo_A 51 ad s.heap.size) s.heap s.heap [] := va_S.rf
  have hl := lv_entry ([.ref (ad (fo_lay 1 i0)), .ref (ad (fo_lay 14 i1))]) (n := 6) (Nat.le_of_ble_eq_true rfl)
  rw [lg_entry_eq]
  generalize (lg_sl ([.ref (ad (fo_lay 1 i0)), .ref (ad (fo_lay 14 i1))]) ++ List.replicate (6 - (lg_sl ([.ref (ad (fo_lay 1 i0)), .ref (ad (fo_lay 14 i1))])).length) Slot.unset).toArray = ls at hl ⊢
  have hl : lv_has ls 6 [(0, .ref (ad (fo_lay 1 i0))), (1, .ref (ad (fo_lay 14 i1)))] := hl
  refine lv_aload_n hx hb dX2_buyFromPool_0 rfl (lv_at hl 0 rfl) ?_
  refine fo_g2_15 hx hb hT hown hK hP hi0 dX2_buyFromPool_1 ?_
  refine lv_bipush (v := 8) hx hb dX2_buyFromPool_4 (by decide) ?_
  obtain ⟨g1, h0⟩ := fo_gd h0 hN0
  refine fo_lald (k := 3) (n := 9) hx hb hK hP (by decide) hi0 (fun _ _ => rfl) g1 dX2_buyFromPool_6 ?_
  refine lv_aload_n hx hb dX2_buyFromPool_7 rfl (lv_at hl 1 rfl) ?_
  refine fo_g2_43 hx hb hT hown hK hP hi1 dX2_buyFromPool_8 ?_
  refine lv_i2l hx hb dX2_buyFromPool_11 rfl ?_
  refine lv_lsub hx hb dX2_buyFromPool_12 ?_
  refine lv_lstore_n (lv' := [(2, .long ((σ.2 3 i0 (8 : Int32).toNatClampNeg) - ((σ.1 14 i1 7).toInt64))), (0, .ref (ad (fo_lay 1 i0))), (1, .ref (ad (fo_lay 14 i1)))]) hx hb dX2_buyFromPool_13 rfl hl (by decide) rfl (fun ls hl => ?_)
  refine lv_lload_n hx hb dX2_buyFromPool_14 rfl (lv_at hl 0 rfl) ?_
  refine lv_lconst (v := 0) hx hb dX2_buyFromPool_15 (by decide) ?_
  refine W.lcmp hx hb dX2_buyFromPool_16 ?_
  refine lv_if_gt (tgt := 24) hx hb dX2_buyFromPool_17 (by decide) (fun c2 => ?_) (fun c2 => ?_)
  · replace h0 := fo_itT c2 h0
    refine lv_aload_n hx hb dX2_buyFromPool_24 rfl (lv_at hl 1 rfl) ?_
    refine fo_g2_9 hx hb hT hown hK hP hi0 dX2_buyFromPool_25 ?_
    refine lv_bipush (v := 8) hx hb dX2_buyFromPool_28 (by decide) ?_
    obtain ⟨g3, h0⟩ := fo_gd h0 hN0
    refine fo_lald (k := 2) (n := 9) hx hb hK hP (by decide) hi0 (fun _ _ => rfl) g3 dX2_buyFromPool_30 ?_
    refine lv_aload_n hx hb dX2_buyFromPool_31 rfl (lv_at hl 2 rfl) ?_
    refine fo_g2_43 hx hb hT hown hK hP hi1 dX2_buyFromPool_32 ?_
    refine lv_i2l hx hb dX2_buyFromPool_35 rfl ?_
    refine lv_lmul hx hb dX2_buyFromPool_36 ?_
    refine lv_lload_n hx hb dX2_buyFromPool_37 rfl (lv_at hl 0 rfl) ?_
    refine lv_ladd hx hb dX2_buyFromPool_38 ?_
    refine lv_lconst (v := 1) hx hb dX2_buyFromPool_39 (by decide) ?_
    refine lv_lsub hx hb dX2_buyFromPool_40 ?_
    refine lv_lload_n hx hb dX2_buyFromPool_41 rfl (lv_at hl 0 rfl) ?_
    obtain ⟨g4, h0⟩ := fo_gd h0 hN0
    refine lv_ldiv hx hb dX2_buyFromPool_42 g4 ?_
    refine lv_lstore (lv' := [(4, .long (((((σ.2 2 i0 (8 : Int32).toNatClampNeg) * ((σ.1 14 i1 7).toInt64)) + ((σ.2 3 i0 (8 : Int32).toNatClampNeg) - ((σ.1 14 i1 7).toInt64))) - (1 : Int64)) / ((σ.2 3 i0 (8 : Int32).toNatClampNeg) - ((σ.1 14 i1 7).toInt64)))), (2, .long ((σ.2 3 i0 (8 : Int32).toNatClampNeg) - ((σ.1 14 i1 7).toInt64))), (0, .ref (ad (fo_lay 1 i0))), (1, .ref (ad (fo_lay 14 i1)))]) hx hb dX2_buyFromPool_43 hl (by decide) rfl (fun ls hl => ?_)
    refine lv_lload hx hb dX2_buyFromPool_45 (lv_at hl 0 rfl) ?_
    refine lv_aload_n hx hb dX2_buyFromPool_47 rfl (lv_at hl 3 rfl) ?_
    obtain ⟨x5, hx5, h0⟩ := fo_bd h0 hN0
    refine fo_calll (va_runV (H := _) (As := []) (rest := [.long (((((σ.2 2 i0 (8 : Int32).toNatClampNeg) * ((σ.1 14 i1 7).toInt64)) + ((σ.2 3 i0 (8 : Int32).toNatClampNeg) - ((σ.1 14 i1 7).toInt64))) - (1 : Int64)) / ((σ.2 3 i0 (8 : Int32).toNatClampNeg) - ((σ.1 14 i1 7).toInt64)))]) ⟨hx, hb, hml, hown, hT⟩ (c_q_Call_limit l D ca ad _ hi1 hx5) (fo_c2_48 hT ⟨Nat.le_trans (Nat.le_of_ble_eq_true rfl) hRf, Nat.le_trans (Nat.le_of_ble_eq_true rfl) hRl⟩) ⟨fo_Pre_blind, fo_rc14 hK hP hi1, fo_Pre_at hP hK (hD _)⟩ rfl rfl hl.1 rfl (lv_room (Nat.le_of_ble_eq_true rfl)) dX2_buyFromPool_48 ⟨Nat.zero_le _, Nat.zero_le _⟩) hS (fun H locs hP hS => ?_)
    refine W.lcmp hx hb dX2_buyFromPool_51 ?_
    refine lv_if_gt (tgt := 70) hx hb dX2_buyFromPool_52 (by decide) (fun c6 => ?_) (fun c6 => ?_)
    · replace h0 := fo_itT c6 h0
      refine lv_ldc2 (v := -1) hx hb hown (fo_k2_46 hT) dX2_buyFromPool_70 ?_
      have hr7 := Option.some.inj h0
      subst hr7
      exact kr _ ls _ _ dX2_buyFromPool_73 hP hS
    · replace h0 := fo_itF c6 h0
      refine lv_lload hx hb dX2_buyFromPool_55 (lv_at hl 0 rfl) ?_
      refine lv_aload_n hx hb dX2_buyFromPool_57 rfl (lv_at hl 2 rfl) ?_
      refine fo_g2_9 hx hb hT hown hK hP hi0 dX2_buyFromPool_58 ?_
      refine lv_aload_n hx hb dX2_buyFromPool_61 rfl (lv_at hl 3 rfl) ?_
      refine fo_g2_52 hx hb hT hown hK hP hi1 dX2_buyFromPool_62 ?_
      obtain ⟨g8, h0⟩ := fo_gd h0 hN0
      refine fo_lald (k := 2) (n := 9) hx hb hK hP (by decide) hi0 (fun _ _ => rfl) g8 dX2_buyFromPool_65 ?_
      refine W.lcmp hx hb dX2_buyFromPool_66 ?_
      refine lv_if_le (tgt := 74) hx hb dX2_buyFromPool_67 (by decide) (fun c9 => ?_) (fun c9 => ?_)
      · replace h0 := fo_itT c9 h0
        refine lv_aload_n hx hb dX2_buyFromPool_74 rfl (lv_at hl 2 rfl) ?_
        refine lv_aload_n hx hb dX2_buyFromPool_75 rfl (lv_at hl 3 rfl) ?_
        refine fo_g2_52 hx hb hT hown hK hP hi1 dX2_buyFromPool_76 ?_
        refine lv_lload hx hb dX2_buyFromPool_79 (lv_at hl 0 rfl) ?_
        refine lv_aload_n hx hb dX2_buyFromPool_81 rfl (lv_at hl 3 rfl) ?_
        refine fo_g2_43 hx hb hT hown hK hP hi1 dX2_buyFromPool_82 ?_
        refine lv_i2l hx hb dX2_buyFromPool_85 rfl ?_
        obtain ⟨x10, hx10, h0⟩ := fo_bd h0 hN0
        refine fo_callv (va_runV (H := _) (As := [.int (σ.1 14 i1 1), .long (((((σ.2 2 i0 (8 : Int32).toNatClampNeg) * ((σ.1 14 i1 7).toInt64)) + ((σ.2 3 i0 (8 : Int32).toNatClampNeg) - ((σ.1 14 i1 7).toInt64))) - (1 : Int64)) / ((σ.2 3 i0 (8 : Int32).toNatClampNeg) - ((σ.1 14 i1 7).toInt64))), .long ((σ.1 14 i1 7).toInt64)]) (rest := []) ⟨hx, hb, hml, hown, hT⟩ (c_q_Market_take l D ca ad _ hi0 hx10) (fo_c2_55 hT ⟨Nat.le_trans (Nat.le_of_ble_eq_true rfl) hRf, Nat.le_trans (Nat.le_of_ble_eq_true rfl) hRl⟩) ⟨fo_Pre_blind, fo_rc1 hK hP hi0, fo_Pre_at hP hK (hD _)⟩ rfl rfl hl.1 rfl (lv_room (Nat.le_of_ble_eq_true rfl)) dX2_buyFromPool_86 ⟨Nat.zero_le _, Nat.zero_le _⟩) hS (fun H locs hP hS => ?_)
        refine lv_aload_n hx hb dX2_buyFromPool_89 rfl (lv_at hl 2 rfl) ?_
        refine lv_bipush (v := 8) hx hb dX2_buyFromPool_90 (by decide) ?_
        refine lv_lload hx hb dX2_buyFromPool_92 (lv_at hl 0 rfl) ?_
        refine lv_aload_n hx hb dX2_buyFromPool_94 rfl (lv_at hl 3 rfl) ?_
        refine fo_g2_43 hx hb hT hown hK hP hi1 dX2_buyFromPool_95 ?_
        refine lv_i2l hx hb dX2_buyFromPool_98 rfl ?_
        obtain ⟨x11, hx11, h0⟩ := fo_bd h0 hN0
        refine fo_callv (va_runV (H := _) (As := [.int (8 : Int32), .long (((((σ.2 2 i0 (8 : Int32).toNatClampNeg) * ((σ.1 14 i1 7).toInt64)) + ((σ.2 3 i0 (8 : Int32).toNatClampNeg) - ((σ.1 14 i1 7).toInt64))) - (1 : Int64)) / ((σ.2 3 i0 (8 : Int32).toNatClampNeg) - ((σ.1 14 i1 7).toInt64))), .long ((x10.1 14 i1 7).toInt64)]) (rest := []) ⟨hx, hb, hml, hown, hT⟩ (c_q_Market_give l D ca ad _ hi0 hx11) (fo_c2_59 hT ⟨Nat.le_trans (Nat.le_of_ble_eq_true rfl) hRf, Nat.le_trans (Nat.le_of_ble_eq_true rfl) hRl⟩) ⟨fo_Pre_blind, fo_rc1 hK hP hi0, fo_Pre_at hP hK (hD _)⟩ rfl rfl hl.1 rfl (lv_room (Nat.le_of_ble_eq_true rfl)) dX2_buyFromPool_99 ⟨Nat.zero_le _, Nat.zero_le _⟩) hS (fun H locs hP hS => ?_)
        refine lv_lload hx hb dX2_buyFromPool_102 (lv_at hl 0 rfl) ?_
        have hr12 := Option.some.inj h0
        subst hr12
        exact kr _ ls _ _ dX2_buyFromPool_104 hP hS
      · replace h0 := fo_itF c9 h0
        refine lv_ldc2 (v := -1) hx hb hown (fo_k2_46 hT) dX2_buyFromPool_70 ?_
        have hr13 := Option.some.inj h0
        subst hr13
        exact kr _ ls _ _ dX2_buyFromPool_73 hP hS
  · replace h0 := fo_itF c2 h0
    refine lv_ldc2 (v := -1) hx hb hown (fo_k2_46 hT) dX2_buyFromPool_20 ?_
    have hr14 := Option.some.inj h0
    subst hr14
    exact kr _ ls _ _ dX2_buyFromPool_23 hP hS
theorem c_q_Market_buyFromPool (l : Launch) (D : va_G) (ca : Nat → ClassId) (ad : Nat → Nat) (sz : Nat) {σ : fo_S} {i0 : Nat} {i1 : Nat} (hi0 : i0 < 2) (hi1 : i1 < 16) {res : Int64 × fo_S} (h0 : q_Market_buyFromPool σ i0 i1 = some res) : Met l yX2_buyFromPool ws_q_Market_buyFromPool rm_q_Market_buyFromPool (fo_Pre 51 D vwCl (fo_tys ca) ad (fo_ce ca ad σ) sz [.ref (ad (fo_lay 1 i0)), .ref (ad (fo_lay 14 i1))]) (fo_PoL 51 D vwCl (fo_tys ca) ad (fo_ce ca ad res.2) sz res.1) 0 0 (fo_A 51 ad sz) :=
  fo_mkL (by decide) (fun C0 kr hP => b_q_Market_buyFromPool C0 (Nat.le_refl _) (Nat.le_refl _) (Nat.zero_le _) hi0 hi1 h0 kr hP)
def q_Market_sellToPool (σ : fo_S) (i0 : Nat) (i1 : Nat) : Option (Int64 × fo_S) :=
  if fo_vi (8 : Int32) 9 then (if (lg_cmp ((σ.2 3 i0 (8 : Int32).toNatClampNeg) + ((σ.1 14 i1 7).toInt64)) (0 : Int64)) ≤ 0 then (some ((-1 : Int64), σ)) else (if fo_vi (σ.1 14 i1 1) 9 then (if 0 ≤ (lg_cmp (σ.2 3 i0 (σ.1 14 i1 1).toNatClampNeg) ((σ.1 14 i1 7).toInt64)) then (if fo_vi (8 : Int32) 9 then ( if ¬ ((σ.2 3 i0 (8 : Int32).toNatClampNeg) + ((σ.1 14 i1 7).toInt64)) = 0 then ( (q_Call_limit σ i1).bind (fun x8 => if 0 ≤ (lg_cmp (((σ.2 2 i0 (8 : Int32).toNatClampNeg) * ((σ.1 14 i1 7).toInt64)) / ((σ.2 3 i0 (8 : Int32).toNatClampNeg) + ((σ.1 14 i1 7).toInt64))) x8) then ((q_Market_give σ i0 (σ.1 14 i1 1) (((σ.2 2 i0 (8 : Int32).toNatClampNeg) * ((σ.1 14 i1 7).toInt64)) / ((σ.2 3 i0 (8 : Int32).toNatClampNeg) + ((σ.1 14 i1 7).toInt64))) ((σ.1 14 i1 7).toInt64)).bind (fun x10 =>  (q_Market_take x10 i0 (8 : Int32) (((σ.2 2 i0 (8 : Int32).toNatClampNeg) * ((σ.1 14 i1 7).toInt64)) / ((σ.2 3 i0 (8 : Int32).toNatClampNeg) + ((σ.1 14 i1 7).toInt64))) ((x10.1 14 i1 7).toInt64)).bind (fun x11 => some (((σ.2 2 i0 (8 : Int32).toNatClampNeg) * ((σ.1 14 i1 7).toInt64)) / ((σ.2 3 i0 (8 : Int32).toNatClampNeg) + ((σ.1 14 i1 7).toInt64)), x11)))) else (some ((-1 : Int64), σ)))) else none) else none) else (some ((-1 : Int64), σ))) else none)) else none
set_option maxHeartbeats 4000000 in
set_option maxRecDepth 100000 in
theorem b_q_Market_sellToPool {p : Program} {l : Launch} {e : Env} {R : Room} {s : State} {m : MethodId} {args : Array Value} {below : List Frame} {meth : Method} {c : Code} {Q : State → Prop} {D : va_G} {ca : Nat → ClassId} {ad : Nat → Nat} (C0 : fo_CX p s m args c cX2_sellToPool 6 RX2 D ca ad) (hRf : 1 ≤ R.frames) (hRl : 25 ≤ R.locals) (hRc : 0 ≤ R.cells) {σ : fo_S} {i0 : Nat} {i1 : Nat} (hi0 : i0 < 2) (hi1 : i1 < 16) {res : Int64 × fo_S} (h0 : q_Market_sellToPool σ i0 i1 = some res) (kr : ∀ (pc : Nat) (ls : Array Slot) (H : Heap) (locs : List Loc), decode cX2_sellToPool pc = .ok (.lreturn, 1) → va_P D vwCl (fo_vx 51 ad (fo_ce ca ad res.2)) H → va_S (fo_A 51 ad s.heap.size) s.heap H locs → W p l e R s m args below meth c H locs 0 0 Q (F0 m pc ls [.long res.1])) (hP : va_P D vwCl (fo_vx 51 ad (fo_ce ca ad σ)) s.heap) : W p l e R s m args below meth c s.heap [] 0 0 Q (entryFrame m ([.ref (ad (fo_lay 1 i0)), .ref (ad (fo_lay 14 i1))] : List Value).toArray 6) := by
  obtain ⟨hx, hb, hml, hown, hT, hK, hD⟩ := C0
  have hN0 : (some res) ≠ none := fun q => by cases q
  unfold q_Market_sellToPool at h0
  have hS : va_S (fo_A 51 ad s.heap.size) s.heap s.heap [] := va_S.rf
  have hl := lv_entry ([.ref (ad (fo_lay 1 i0)), .ref (ad (fo_lay 14 i1))]) (n := 6) (Nat.le_of_ble_eq_true rfl)
  rw [lg_entry_eq]
  generalize (lg_sl ([.ref (ad (fo_lay 1 i0)), .ref (ad (fo_lay 14 i1))]) ++ List.replicate (6 - (lg_sl ([.ref (ad (fo_lay 1 i0)), .ref (ad (fo_lay 14 i1))])).length) Slot.unset).toArray = ls at hl ⊢
  have hl : lv_has ls 6 [(0, .ref (ad (fo_lay 1 i0))), (1, .ref (ad (fo_lay 14 i1)))] := hl
  refine lv_aload_n hx hb dX2_sellToPool_0 rfl (lv_at hl 0 rfl) ?_
  refine fo_g2_15 hx hb hT hown hK hP hi0 dX2_sellToPool_1 ?_
  refine lv_bipush (v := 8) hx hb dX2_sellToPool_4 (by decide) ?_
  obtain ⟨g1, h0⟩ := fo_gd h0 hN0
  refine fo_lald (k := 3) (n := 9) hx hb hK hP (by decide) hi0 (fun _ _ => rfl) g1 dX2_sellToPool_6 ?_
  refine lv_aload_n hx hb dX2_sellToPool_7 rfl (lv_at hl 1 rfl) ?_
  refine fo_g2_43 hx hb hT hown hK hP hi1 dX2_sellToPool_8 ?_
  refine lv_i2l hx hb dX2_sellToPool_11 rfl ?_
  refine lv_ladd hx hb dX2_sellToPool_12 ?_
  refine lv_lstore_n (lv' := [(2, .long ((σ.2 3 i0 (8 : Int32).toNatClampNeg) + ((σ.1 14 i1 7).toInt64))), (0, .ref (ad (fo_lay 1 i0))), (1, .ref (ad (fo_lay 14 i1)))]) hx hb dX2_sellToPool_13 rfl hl (by decide) rfl (fun ls hl => ?_)
  refine lv_lload_n hx hb dX2_sellToPool_14 rfl (lv_at hl 0 rfl) ?_
  refine lv_lconst (v := 0) hx hb dX2_sellToPool_15 (by decide) ?_
  refine W.lcmp hx hb dX2_sellToPool_16 ?_
  refine lv_if_le (tgt := 38) hx hb dX2_sellToPool_17 (by decide) (fun c2 => ?_) (fun c2 => ?_)
  · replace h0 := fo_itT c2 h0
    refine lv_ldc2 (v := -1) hx hb hown (fo_k2_46 hT) dX2_sellToPool_38 ?_
    have hr3 := Option.some.inj h0
    subst hr3
    exact kr _ ls _ _ dX2_sellToPool_41 hP hS
  · replace h0 := fo_itF c2 h0
    refine lv_aload_n hx hb dX2_sellToPool_20 rfl (lv_at hl 1 rfl) ?_
    refine fo_g2_15 hx hb hT hown hK hP hi0 dX2_sellToPool_21 ?_
    refine lv_aload_n hx hb dX2_sellToPool_24 rfl (lv_at hl 2 rfl) ?_
    refine fo_g2_52 hx hb hT hown hK hP hi1 dX2_sellToPool_25 ?_
    obtain ⟨g4, h0⟩ := fo_gd h0 hN0
    refine fo_lald (k := 3) (n := 9) hx hb hK hP (by decide) hi0 (fun _ _ => rfl) g4 dX2_sellToPool_28 ?_
    refine lv_aload_n hx hb dX2_sellToPool_29 rfl (lv_at hl 2 rfl) ?_
    refine fo_g2_43 hx hb hT hown hK hP hi1 dX2_sellToPool_30 ?_
    refine lv_i2l hx hb dX2_sellToPool_33 rfl ?_
    refine W.lcmp hx hb dX2_sellToPool_34 ?_
    refine lv_if_ge (tgt := 42) hx hb dX2_sellToPool_35 (by decide) (fun c5 => ?_) (fun c5 => ?_)
    · replace h0 := fo_itT c5 h0
      refine lv_aload_n hx hb dX2_sellToPool_42 rfl (lv_at hl 1 rfl) ?_
      refine fo_g2_9 hx hb hT hown hK hP hi0 dX2_sellToPool_43 ?_
      refine lv_bipush (v := 8) hx hb dX2_sellToPool_46 (by decide) ?_
      obtain ⟨g6, h0⟩ := fo_gd h0 hN0
      refine fo_lald (k := 2) (n := 9) hx hb hK hP (by decide) hi0 (fun _ _ => rfl) g6 dX2_sellToPool_48 ?_
      refine lv_aload_n hx hb dX2_sellToPool_49 rfl (lv_at hl 2 rfl) ?_
      refine fo_g2_43 hx hb hT hown hK hP hi1 dX2_sellToPool_50 ?_
      refine lv_i2l hx hb dX2_sellToPool_53 rfl ?_
      refine lv_lmul hx hb dX2_sellToPool_54 ?_
      refine lv_lload_n hx hb dX2_sellToPool_55 rfl (lv_at hl 0 rfl) ?_
      obtain ⟨g7, h0⟩ := fo_gd h0 hN0
      refine lv_ldiv hx hb dX2_sellToPool_56 g7 ?_
      refine lv_lstore (lv' := [(4, .long (((σ.2 2 i0 (8 : Int32).toNatClampNeg) * ((σ.1 14 i1 7).toInt64)) / ((σ.2 3 i0 (8 : Int32).toNatClampNeg) + ((σ.1 14 i1 7).toInt64)))), (2, .long ((σ.2 3 i0 (8 : Int32).toNatClampNeg) + ((σ.1 14 i1 7).toInt64))), (0, .ref (ad (fo_lay 1 i0))), (1, .ref (ad (fo_lay 14 i1)))]) hx hb dX2_sellToPool_57 hl (by decide) rfl (fun ls hl => ?_)
      refine lv_lload hx hb dX2_sellToPool_59 (lv_at hl 0 rfl) ?_
      refine lv_aload_n hx hb dX2_sellToPool_61 rfl (lv_at hl 3 rfl) ?_
      obtain ⟨x8, hx8, h0⟩ := fo_bd h0 hN0
      refine fo_calll (va_runV (H := _) (As := []) (rest := [.long (((σ.2 2 i0 (8 : Int32).toNatClampNeg) * ((σ.1 14 i1 7).toInt64)) / ((σ.2 3 i0 (8 : Int32).toNatClampNeg) + ((σ.1 14 i1 7).toInt64)))]) ⟨hx, hb, hml, hown, hT⟩ (c_q_Call_limit l D ca ad _ hi1 hx8) (fo_c2_48 hT ⟨Nat.le_trans (Nat.le_of_ble_eq_true rfl) hRf, Nat.le_trans (Nat.le_of_ble_eq_true rfl) hRl⟩) ⟨fo_Pre_blind, fo_rc14 hK hP hi1, fo_Pre_at hP hK (hD _)⟩ rfl rfl hl.1 rfl (lv_room (Nat.le_of_ble_eq_true rfl)) dX2_sellToPool_62 ⟨Nat.zero_le _, Nat.zero_le _⟩) hS (fun H locs hP hS => ?_)
      refine W.lcmp hx hb dX2_sellToPool_65 ?_
      refine lv_if_ge (tgt := 73) hx hb dX2_sellToPool_66 (by decide) (fun c9 => ?_) (fun c9 => ?_)
      · replace h0 := fo_itT c9 h0
        refine lv_aload_n hx hb dX2_sellToPool_73 rfl (lv_at hl 2 rfl) ?_
        refine lv_aload_n hx hb dX2_sellToPool_74 rfl (lv_at hl 3 rfl) ?_
        refine fo_g2_52 hx hb hT hown hK hP hi1 dX2_sellToPool_75 ?_
        refine lv_lload hx hb dX2_sellToPool_78 (lv_at hl 0 rfl) ?_
        refine lv_aload_n hx hb dX2_sellToPool_80 rfl (lv_at hl 3 rfl) ?_
        refine fo_g2_43 hx hb hT hown hK hP hi1 dX2_sellToPool_81 ?_
        refine lv_i2l hx hb dX2_sellToPool_84 rfl ?_
        obtain ⟨x10, hx10, h0⟩ := fo_bd h0 hN0
        refine fo_callv (va_runV (H := _) (As := [.int (σ.1 14 i1 1), .long (((σ.2 2 i0 (8 : Int32).toNatClampNeg) * ((σ.1 14 i1 7).toInt64)) / ((σ.2 3 i0 (8 : Int32).toNatClampNeg) + ((σ.1 14 i1 7).toInt64))), .long ((σ.1 14 i1 7).toInt64)]) (rest := []) ⟨hx, hb, hml, hown, hT⟩ (c_q_Market_give l D ca ad _ hi0 hx10) (fo_c2_59 hT ⟨Nat.le_trans (Nat.le_of_ble_eq_true rfl) hRf, Nat.le_trans (Nat.le_of_ble_eq_true rfl) hRl⟩) ⟨fo_Pre_blind, fo_rc1 hK hP hi0, fo_Pre_at hP hK (hD _)⟩ rfl rfl hl.1 rfl (lv_room (Nat.le_of_ble_eq_true rfl)) dX2_sellToPool_85 ⟨Nat.zero_le _, Nat.zero_le _⟩) hS (fun H locs hP hS => ?_)
        refine lv_aload_n hx hb dX2_sellToPool_88 rfl (lv_at hl 2 rfl) ?_
        refine lv_bipush (v := 8) hx hb dX2_sellToPool_89 (by decide) ?_
        refine lv_lload hx hb dX2_sellToPool_91 (lv_at hl 0 rfl) ?_
        refine lv_aload_n hx hb dX2_sellToPool_93 rfl (lv_at hl 3 rfl) ?_
        refine fo_g2_43 hx hb hT hown hK hP hi1 dX2_sellToPool_94 ?_
        refine lv_i2l hx hb dX2_sellToPool_97 rfl ?_
        obtain ⟨x11, hx11, h0⟩ := fo_bd h0 hN0
        refine fo_callv (va_runV (H := _) (As := [.int (8 : Int32), .long (((σ.2 2 i0 (8 : Int32).toNatClampNeg) * ((σ.1 14 i1 7).toInt64)) / ((σ.2 3 i0 (8 : Int32).toNatClampNeg) + ((σ.1 14 i1 7).toInt64))), .long ((x10.1 14 i1 7).toInt64)]) (rest := []) ⟨hx, hb, hml, hown, hT⟩ (c_q_Market_take l D ca ad _ hi0 hx11) (fo_c2_55 hT ⟨Nat.le_trans (Nat.le_of_ble_eq_true rfl) hRf, Nat.le_trans (Nat.le_of_ble_eq_true rfl) hRl⟩) ⟨fo_Pre_blind, fo_rc1 hK hP hi0, fo_Pre_at hP hK (hD _)⟩ rfl rfl hl.1 rfl (lv_room (Nat.le_of_ble_eq_true rfl)) dX2_sellToPool_98 ⟨Nat.zero_le _, Nat.zero_le _⟩) hS (fun H locs hP hS => ?_)
        refine lv_lload hx hb dX2_sellToPool_101 (lv_at hl 0 rfl) ?_
        have hr12 := Option.some.inj h0
        subst hr12
        exact kr _ ls _ _ dX2_sellToPool_103 hP hS
      · replace h0 := fo_itF c9 h0
        refine lv_ldc2 (v := -1) hx hb hown (fo_k2_46 hT) dX2_sellToPool_69 ?_
        have hr13 := Option.some.inj h0
        subst hr13
        exact kr _ ls _ _ dX2_sellToPool_72 hP hS
    · replace h0 := fo_itF c5 h0
      refine lv_ldc2 (v := -1) hx hb hown (fo_k2_46 hT) dX2_sellToPool_38 ?_
      have hr14 := Option.some.inj h0
      subst hr14
      exact kr _ ls _ _ dX2_sellToPool_41 hP hS
theorem c_q_Market_sellToPool (l : Launch) (D : va_G) (ca : Nat → ClassId) (ad : Nat → Nat) (sz : Nat) {σ : fo_S} {i0 : Nat} {i1 : Nat} (hi0 : i0 < 2) (hi1 : i1 < 16) {res : Int64 × fo_S} (h0 : q_Market_sellToPool σ i0 i1 = some res) : Met l yX2_sellToPool ws_q_Market_sellToPool rm_q_Market_sellToPool (fo_Pre 51 D vwCl (fo_tys ca) ad (fo_ce ca ad σ) sz [.ref (ad (fo_lay 1 i0)), .ref (ad (fo_lay 14 i1))]) (fo_PoL 51 D vwCl (fo_tys ca) ad (fo_ce ca ad res.2) sz res.1) 0 0 (fo_A 51 ad sz) :=
  fo_mkL (by decide) (fun C0 kr hP => b_q_Market_sellToPool C0 (Nat.le_refl _) (Nat.le_refl _) (Nat.zero_le _) hi0 hi1 h0 kr hP)
def q_Market_trade (σ : fo_S) (i0 : Nat) (i1 : Nat) : Option (Int64 × fo_S) :=
  if (σ.1 14 i1 5) = 0 then ((q_Market_buyFromPool σ i0 i1).bind (fun x4 => some (x4.1, x4.2))) else ((q_Market_sellToPool σ i0 i1).bind (fun x2 => some (x2.1, x2.2)))
set_option maxHeartbeats 4000000 in
set_option maxRecDepth 100000 in
theorem b_q_Market_trade {p : Program} {l : Launch} {e : Env} {R : Room} {s : State} {m : MethodId} {args : Array Value} {below : List Frame} {meth : Method} {c : Code} {Q : State → Prop} {D : va_G} {ca : Nat → ClassId} {ad : Nat → Nat} (C0 : fo_CX p s m args c cX2_trade 2 RX2 D ca ad) (hRf : 2 ≤ R.frames) (hRl : 50 ≤ R.locals) (hRc : 0 ≤ R.cells) {σ : fo_S} {i0 : Nat} {i1 : Nat} (hi0 : i0 < 2) (hi1 : i1 < 16) {res : Int64 × fo_S} (h0 : q_Market_trade σ i0 i1 = some res) (kr : ∀ (pc : Nat) (ls : Array Slot) (H : Heap) (locs : List Loc), decode cX2_trade pc = .ok (.lreturn, 1) → va_P D vwCl (fo_vx 51 ad (fo_ce ca ad res.2)) H → va_S (fo_A 51 ad s.heap.size) s.heap H locs → W p l e R s m args below meth c H locs 0 0 Q (F0 m pc ls [.long res.1])) (hP : va_P D vwCl (fo_vx 51 ad (fo_ce ca ad σ)) s.heap) : W p l e R s m args below meth c s.heap [] 0 0 Q (entryFrame m ([.ref (ad (fo_lay 1 i0)), .ref (ad (fo_lay 14 i1))] : List Value).toArray 2) := by
  obtain ⟨hx, hb, hml, hown, hT, hK, hD⟩ := C0
  have hN0 : (some res) ≠ none := fun q => by cases q
  unfold q_Market_trade at h0
  have hS : va_S (fo_A 51 ad s.heap.size) s.heap s.heap [] := va_S.rf
  have hl := lv_entry ([.ref (ad (fo_lay 1 i0)), .ref (ad (fo_lay 14 i1))]) (n := 2) (Nat.le_of_ble_eq_true rfl)
  rw [lg_entry_eq]
  generalize (lg_sl ([.ref (ad (fo_lay 1 i0)), .ref (ad (fo_lay 14 i1))]) ++ List.replicate (2 - (lg_sl ([.ref (ad (fo_lay 1 i0)), .ref (ad (fo_lay 14 i1))])).length) Slot.unset).toArray = ls at hl ⊢
  have hl : lv_has ls 2 [(0, .ref (ad (fo_lay 1 i0))), (1, .ref (ad (fo_lay 14 i1)))] := hl
  refine lv_aload_n hx hb dX2_trade_0 rfl (lv_at hl 1 rfl) ?_
  refine fo_g2_30 hx hb hT hown hK hP hi1 dX2_trade_1 ?_
  refine lv_if_ne (tgt := 15) hx hb dX2_trade_4 (by decide) (fun c1 => ?_) (fun c1 => ?_)
  · replace h0 := fo_itF c1 h0
    refine lv_aload_n hx hb dX2_trade_15 rfl (lv_at hl 0 rfl) ?_
    refine lv_aload_n hx hb dX2_trade_16 rfl (lv_at hl 1 rfl) ?_
    obtain ⟨x2, hx2, h0⟩ := fo_bd h0 hN0
    refine fo_calll (va_runV (H := _) (As := [.ref (ad (fo_lay 14 i1))]) (rest := []) ⟨hx, hb, hml, hown, hT⟩ (c_q_Market_sellToPool l D ca ad _ hi0 hi1 hx2) (fo_c2_40 hT ⟨Nat.le_trans (Nat.le_of_ble_eq_true rfl) hRf, Nat.le_trans (Nat.le_of_ble_eq_true rfl) hRl⟩) ⟨fo_Pre_blind, fo_rc1 hK hP hi0, fo_Pre_at hP hK (hD _)⟩ rfl rfl hl.1 rfl (lv_room (Nat.le_of_ble_eq_true rfl)) dX2_trade_17 ⟨Nat.zero_le _, Nat.zero_le _⟩) hS (fun H locs hP hS => ?_)
    have hr3 := Option.some.inj h0
    subst hr3
    exact kr _ ls _ _ dX2_trade_20 hP hS
  · replace h0 := fo_itT c1 h0
    refine lv_aload_n hx hb dX2_trade_7 rfl (lv_at hl 0 rfl) ?_
    refine lv_aload_n hx hb dX2_trade_8 rfl (lv_at hl 1 rfl) ?_
    obtain ⟨x4, hx4, h0⟩ := fo_bd h0 hN0
    refine fo_calll (va_runV (H := _) (As := [.ref (ad (fo_lay 14 i1))]) (rest := []) ⟨hx, hb, hml, hown, hT⟩ (c_q_Market_buyFromPool l D ca ad _ hi0 hi1 hx4) (fo_c2_36 hT ⟨Nat.le_trans (Nat.le_of_ble_eq_true rfl) hRf, Nat.le_trans (Nat.le_of_ble_eq_true rfl) hRl⟩) ⟨fo_Pre_blind, fo_rc1 hK hP hi0, fo_Pre_at hP hK (hD _)⟩ rfl rfl hl.1 rfl (lv_room (Nat.le_of_ble_eq_true rfl)) dX2_trade_9 ⟨Nat.zero_le _, Nat.zero_le _⟩) hS (fun H locs hP hS => ?_)
    refine lv_goto (tgt := 20) hx hb dX2_trade_12 (by decide) ?_
    have hr5 := Option.some.inj h0
    subst hr5
    exact kr _ ls _ _ dX2_trade_20 hP hS
theorem c_q_Market_trade (l : Launch) (D : va_G) (ca : Nat → ClassId) (ad : Nat → Nat) (sz : Nat) {σ : fo_S} {i0 : Nat} {i1 : Nat} (hi0 : i0 < 2) (hi1 : i1 < 16) {res : Int64 × fo_S} (h0 : q_Market_trade σ i0 i1 = some res) : Met l yX2_trade ws_q_Market_trade rm_q_Market_trade (fo_Pre 51 D vwCl (fo_tys ca) ad (fo_ce ca ad σ) sz [.ref (ad (fo_lay 1 i0)), .ref (ad (fo_lay 14 i1))]) (fo_PoL 51 D vwCl (fo_tys ca) ad (fo_ce ca ad res.2) sz res.1) 0 0 (fo_A 51 ad sz) :=
  fo_mkL (by decide) (fun C0 kr hP => b_q_Market_trade C0 (Nat.le_refl _) (Nat.le_refl _) (Nat.zero_le _) hi0 hi1 h0 kr hP)
def q_FairOrder_play_L19  (s19 : Int32 × Int32 × fo_S) : Option ((Int32 × Int32 × fo_S) ⊕ (Int32 × Int32 × fo_S)) :=
  if (s19.2.2.1 5 0 1) ≤ s19.2.1 then (some (.inr (s19.1, s19.2.1, s19.2.2))) else (if fo_vi s19.2.1 16 then ( if fo_vi (s19.2.2.1 6 0 s19.2.1.toNatClampNeg) 16 then ( (q_Market_trade s19.2.2 0 ((s19.2.2.1 6 0 s19.2.1.toNatClampNeg).toNatClampNeg)).bind (fun x7 => if (lg_cmp x7.1 (-1 : Int64)) = 0 then (some (.inl (s19.1, s19.2.1 + (1 : Int32), x7.2))) else ((q_Call_note x7.2 ((s19.2.2.1 6 0 s19.2.1.toNatClampNeg).toNatClampNeg) (x7.2.1 14 ((s19.2.2.1 6 0 s19.2.1.toNatClampNeg).toNatClampNeg) 7) x7.1).bind (fun x9 => some (.inl (s19.1 + (1 : Int32), s19.2.1 + (1 : Int32), x9)))))) else none) else none)
def q_FairOrder_play (σ : fo_S)  : Option (Int32 × fo_S) :=
  (q_FairOrder_mayPlay σ).bind (fun x1 => if x1 = 0 then (some ((-4 : Int32), σ)) else ((fo_lp (q_FairOrder_play_L19) fo_FU ((0 : Int32), (0 : Int32), fo_pI σ 0 0 14 (1 : Int32))).bind (fun y19 => some (y19.1, y19.2.2))))
set_option maxHeartbeats 4000000 in
set_option maxRecDepth 100000 in
theorem b_q_FairOrder_play {p : Program} {l : Launch} {e : Env} {R : Room} {s : State} {m : MethodId} {args : Array Value} {below : List Frame} {meth : Method} {c : Code} {Q : State → Prop} {D : va_G} {ca : Nat → ClassId} {ad : Nat → Nat} (C0 : fo_CX p s m args c cX0_play 6 RX0 D ca ad) (hRf : 3 ≤ R.frames) (hRl : 71 ≤ R.locals) (hRc : 0 ≤ R.cells) {σ : fo_S}   {res : Int32 × fo_S} (h0 : q_FairOrder_play σ = some res) (kr : ∀ (pc : Nat) (ls : Array Slot) (H : Heap) (locs : List Loc), decode cX0_play pc = .ok (.ireturn, 1) → va_P D vwCl (fo_vx 51 ad (fo_ce ca ad res.2)) H → va_S (fo_A 51 ad s.heap.size) s.heap H locs → W p l e R s m args below meth c H locs 0 0 Q (F0 m pc ls [.int res.1])) (hP : va_P D vwCl (fo_vx 51 ad (fo_ce ca ad σ)) s.heap) : W p l e R s m args below meth c s.heap [] 0 0 Q (entryFrame m ([.ref (ad (fo_lay 0 0))] : List Value).toArray 6) := by
  obtain ⟨hx, hb, hml, hown, hT, hK, hD⟩ := C0
  have hN0 : (some res) ≠ none := fun q => by cases q
  unfold q_FairOrder_play at h0
  have hS : va_S (fo_A 51 ad s.heap.size) s.heap s.heap [] := va_S.rf
  have hl := lv_entry ([.ref (ad (fo_lay 0 0))]) (n := 6) (Nat.le_of_ble_eq_true rfl)
  rw [lg_entry_eq]
  generalize (lg_sl ([.ref (ad (fo_lay 0 0))]) ++ List.replicate (6 - (lg_sl ([.ref (ad (fo_lay 0 0))])).length) Slot.unset).toArray = ls at hl ⊢
  have hl : lv_has ls 6 [(0, .ref (ad (fo_lay 0 0)))] := hl
  refine lv_aload_n hx hb dX0_play_0 rfl (lv_at hl 0 rfl) ?_
  obtain ⟨x1, hx1, h0⟩ := fo_bd h0 hN0
  refine fo_calli (va_runV (H := _) (As := []) (rest := []) ⟨hx, hb, hml, hown, hT⟩ (c_q_FairOrder_mayPlay l D ca ad _ hx1) (fo_c0_175 hT ⟨Nat.le_trans (Nat.le_of_ble_eq_true rfl) hRf, Nat.le_trans (Nat.le_of_ble_eq_true rfl) hRl⟩) ⟨fo_Pre_blind, fo_rc0 hK hP (by decide), fo_Pre_at hP hK (hD _)⟩ rfl rfl hl.1 rfl (lv_room (Nat.le_of_ble_eq_true rfl)) dX0_play_1 ⟨Nat.zero_le _, Nat.zero_le _⟩) hS (fun H locs hP hS => ?_)
  refine lv_if_ne (tgt := 10) hx hb dX0_play_4 (by decide) (fun c2 => ?_) (fun c2 => ?_)
  · replace h0 := fo_itF c2 h0
    refine lv_aload_n hx hb dX0_play_10 rfl (lv_at hl 0 rfl) ?_
    refine lv_iconst (v := 1) hx hb dX0_play_11 (by decide) ?_
    refine fo_p0_179 hx hb hT hown hK hP hD hS (by decide) rfl rfl dX0_play_12 (fun H locs hP hS => ?_)
    refine lv_iconst (v := 0) hx hb dX0_play_15 (by decide) ?_
    refine lv_istore_n (lv' := [(1, .int (0 : Int32)), (0, .ref (ad (fo_lay 0 0)))]) hx hb dX0_play_16 rfl hl (by decide) rfl (fun ls hl => ?_)
    refine lv_iconst (v := 0) hx hb dX0_play_17 (by decide) ?_
    refine lv_istore_n (lv' := [(2, .int (0 : Int32)), (1, .int (0 : Int32)), (0, .ref (ad (fo_lay 0 0)))]) hx hb dX0_play_18 rfl hl (by decide) rfl (fun ls hl => ?_)
    obtain ⟨y19, hy19, h0⟩ := fo_bd h0 hN0
    have ex19 : ∀ (H : Heap) (locs : List Loc) (ls : Array Slot), va_P D vwCl (fo_vx 51 ad (fo_ce ca ad y19.2.2)) H → va_S (fo_A 51 ad s.heap.size) s.heap H locs → lv_has ls 6 [(1, .int y19.1)] → W p l e R s m args below meth c H locs 0 0 Q (F0 m 83 ls []) := by
      intro H locs ls hP hS hl
      refine lv_iload_n hx hb dX0_play_83 rfl (lv_at hl 0 rfl) ?_
      have hr10 := Option.some.inj h0
      subst hr10
      exact kr _ ls _ _ dX0_play_84 hP hS
    have lp19 := fo_lp_ind (fun (s19 : Int32 × Int32 × fo_S) => ∀ (H : Heap) (locs : List Loc) (ls : Array Slot), va_P D vwCl (fo_vx 51 ad (fo_ce ca ad s19.2.2)) H → va_S (fo_A 51 ad s.heap.size) s.heap H locs → lv_has ls 6 [(0, .ref (ad (fo_lay 0 0))), (1, .int s19.1), (2, .int s19.2.1)] → W p l e R s m args below meth c H locs 0 0 Q (F0 m 19 ls [])) (by
        intro s19 o1 h1 hN1 hL1 hE1 H locs ls hP hS hl
        unfold q_FairOrder_play_L19 at h1
        refine lv_iload_n hx hb dX0_play_19 rfl (lv_at hl 2 rfl) ?_
        refine lv_aload_n hx hb dX0_play_20 rfl (lv_at hl 0 rfl) ?_
        refine fo_g0_28 hx hb hT hown hK hP (by decide) dX0_play_21 ?_
        refine fo_g0_134 hx hb hT hown hK hP (by decide) dX0_play_24 ?_
        refine lv_icmp_ge (tgt := 83) hx hb dX0_play_27 (by decide) (fun c3 => ?_) (fun c3 => ?_)
        · replace h1 := fo_itT c3 h1
          have hy4 := hE1 _ h1
          subst hy4
          exact ex19 _ _ ls hP hS (lv_sub hl [1] rfl)
        · replace h1 := fo_itF c3 h1
          refine lv_aload_n hx hb dX0_play_30 rfl (lv_at hl 0 rfl) ?_
          refine fo_g0_21 hx hb hT hown hK hP (by decide) dX0_play_31 ?_
          refine lv_aload_n hx hb dX0_play_34 rfl (lv_at hl 0 rfl) ?_
          refine fo_g0_28 hx hb hT hown hK hP (by decide) dX0_play_35 ?_
          refine fo_g0_162 hx hb hT hown hK hP (by decide) dX0_play_38 ?_
          refine lv_iload_n hx hb dX0_play_41 rfl (lv_at hl 2 rfl) ?_
          obtain ⟨g5, h1⟩ := fo_gd h1 hN1
          refine fo_iald (k := 6) (n := 16) hx hb hK hP (by decide) (by decide) (fun _ _ => rfl) g5 dX0_play_42 ?_
          obtain ⟨g6, h1⟩ := fo_gd h1 hN1
          refine fo_aald_4 hx hb hK hP (by decide) g6 dX0_play_43 ?_
          refine lv_astore_n (lv' := [(3, .ref (ad (fo_lay 14 ((s19.2.2.1 6 0 s19.2.1.toNatClampNeg).toNatClampNeg)))), (0, .ref (ad (fo_lay 0 0))), (1, .int s19.1), (2, .int s19.2.1)]) hx hb dX0_play_44 rfl hl (by decide) rfl (fun ls hl => ?_)
          refine lv_aload_n hx hb dX0_play_45 rfl (lv_at hl 1 rfl) ?_
          refine fo_g0_12 hx hb hT hown hK hP (by decide) dX0_play_46 ?_
          refine lv_aload_n hx hb dX0_play_49 rfl (lv_at hl 0 rfl) ?_
          obtain ⟨x7, hx7, h1⟩ := fo_bd h1 hN1
          refine fo_calll (va_runV (H := _) (As := [.ref (ad (fo_lay 14 ((s19.2.2.1 6 0 s19.2.1.toNatClampNeg).toNatClampNeg)))]) (rest := []) ⟨hx, hb, hml, hown, hT⟩ (c_q_Market_trade l D ca ad _ (by decide) (fo_in g6) hx7) (fo_c0_182 hT ⟨Nat.le_trans (Nat.le_of_ble_eq_true rfl) hRf, Nat.le_trans (Nat.le_of_ble_eq_true rfl) hRl⟩) ⟨fo_Pre_blind, fo_rc1 hK hP (by decide), fo_Pre_at hP hK (hD _)⟩ rfl rfl hl.1 rfl (lv_room (Nat.le_of_ble_eq_true rfl)) dX0_play_50 ⟨Nat.zero_le _, Nat.zero_le _⟩) hS (fun H locs hP hS => ?_)
          refine lv_lstore (lv' := [(4, .long x7.1), (3, .ref (ad (fo_lay 14 ((s19.2.2.1 6 0 s19.2.1.toNatClampNeg).toNatClampNeg)))), (0, .ref (ad (fo_lay 0 0))), (1, .int s19.1), (2, .int s19.2.1)]) hx hb dX0_play_53 hl (by decide) rfl (fun ls hl => ?_)
          refine lv_lload hx hb dX0_play_55 (lv_at hl 0 rfl) ?_
          refine lv_ldc2 (v := -1) hx hb hown (fo_k0_186 hT) dX0_play_57 ?_
          refine W.lcmp hx hb dX0_play_60 ?_
          refine lv_if_eq (tgt := 77) hx hb dX0_play_61 (by decide) (fun c8 => ?_) (fun c8 => ?_)
          · replace h1 := fo_itT c8 h1
            refine lv_iinc (v := s19.2.1 + (1 : Int32)) (lv' := [(2, .int (s19.2.1 + (1 : Int32))), (4, .long x7.1), (3, .ref (ad (fo_lay 14 ((s19.2.2.1 6 0 s19.2.1.toNatClampNeg).toNatClampNeg)))), (0, .ref (ad (fo_lay 0 0))), (1, .int s19.1)]) hx hb dX0_play_77 hl (k := 4) rfl rfl (by decide) rfl (fun ls hl => ?_)
            refine lv_goto (tgt := 19) hx hb dX0_play_80 (by decide) ?_
            exact hL1 _ h1 _ _ ls hP hS (lv_sub hl [3, 4, 0] rfl)
          · replace h1 := fo_itF c8 h1
            refine lv_aload_n hx hb dX0_play_64 rfl (lv_at hl 1 rfl) ?_
            refine lv_aload_n hx hb dX0_play_65 rfl (lv_at hl 1 rfl) ?_
            refine fo_g0_188 hx hb hT hown hK hP (fo_in g6) dX0_play_66 ?_
            refine lv_lload hx hb dX0_play_69 (lv_at hl 0 rfl) ?_
            obtain ⟨x9, hx9, h1⟩ := fo_bd h1 hN1
            refine fo_callv (va_runV (H := _) (As := [.int (x7.2.1 14 ((s19.2.2.1 6 0 s19.2.1.toNatClampNeg).toNatClampNeg) 7), .long x7.1]) (rest := []) ⟨hx, hb, hml, hown, hT⟩ (c_q_Call_note l D ca ad _ (fo_in g6) hx9) (fo_c0_191 hT ⟨Nat.le_trans (Nat.le_of_ble_eq_true rfl) hRf, Nat.le_trans (Nat.le_of_ble_eq_true rfl) hRl⟩) ⟨fo_Pre_blind, fo_rc14 hK hP (fo_in g6), fo_Pre_at hP hK (hD _)⟩ rfl rfl hl.1 rfl (lv_room (Nat.le_of_ble_eq_true rfl)) dX0_play_71 ⟨Nat.zero_le _, Nat.zero_le _⟩) hS (fun H locs hP hS => ?_)
            refine lv_iinc (v := s19.1 + (1 : Int32)) (lv' := [(1, .int (s19.1 + (1 : Int32))), (4, .long x7.1), (3, .ref (ad (fo_lay 14 ((s19.2.2.1 6 0 s19.2.1.toNatClampNeg).toNatClampNeg)))), (0, .ref (ad (fo_lay 0 0))), (2, .int s19.2.1)]) hx hb dX0_play_74 hl (k := 3) rfl rfl (by decide) rfl (fun ls hl => ?_)
            refine lv_iinc (v := s19.2.1 + (1 : Int32)) (lv' := [(2, .int (s19.2.1 + (1 : Int32))), (1, .int (s19.1 + (1 : Int32))), (4, .long x7.1), (3, .ref (ad (fo_lay 14 ((s19.2.2.1 6 0 s19.2.1.toNatClampNeg).toNatClampNeg)))), (0, .ref (ad (fo_lay 0 0)))]) hx hb dX0_play_77 hl (k := 4) rfl rfl (by decide) rfl (fun ls hl => ?_)
            refine lv_goto (tgt := 19) hx hb dX0_play_80 (by decide) ?_
            exact hL1 _ h1 _ _ ls hP hS (lv_sub hl [4, 1, 0] rfl)) _ _ hy19
    exact lp19 _ _ ls hP hS (lv_sub hl [2, 1, 0] rfl)
  · replace h0 := fo_itT c2 h0
    refine lv_bipush (v := -4) hx hb dX0_play_7 (by decide) ?_
    have hr11 := Option.some.inj h0
    subst hr11
    exact kr _ ls _ _ dX0_play_9 hP hS
theorem c_q_FairOrder_play (l : Launch) (D : va_G) (ca : Nat → ClassId) (ad : Nat → Nat) (sz : Nat) {σ : fo_S}   {res : Int32 × fo_S} (h0 : q_FairOrder_play σ = some res) : Met l yX0_play ws_q_FairOrder_play rm_q_FairOrder_play (fo_Pre 51 D vwCl (fo_tys ca) ad (fo_ce ca ad σ) sz [.ref (ad (fo_lay 0 0))]) (fo_PoI 51 D vwCl (fo_tys ca) ad (fo_ce ca ad res.2) sz res.1) 0 0 (fo_A 51 ad sz) :=
  fo_mkI (by decide) (fun C0 kr hP => b_q_FairOrder_play C0 (Nat.le_refl _) (Nat.le_refl _) (Nat.zero_le _)  h0 kr hP)
def q_Auction_joinBuys (σ : fo_S) (i1 : Nat) (a2 : Int32) (i3 : Nat) : Option (Int32 × fo_S) :=
  if fo_vi (σ.1 14 i1 1) 8 then (if (σ.1 14 i1 6) < a2 then (some ((0 : Int32), σ)) else (if fo_vi (σ.1 14 i1 1) 9 then (if (lg_cmp (((σ.2 12 0 (σ.1 14 i1 1).toNatClampNeg) + ((σ.1 14 i1 7).toInt64)) * a2.toInt64) (σ.2 2 i3 (σ.1 14 i1 1).toNatClampNeg)) ≤ 0 then (if fo_vi (σ.1 14 i1 1) 8 then (some ((1 : Int32), fo_pJ (fo_pJ σ 12 0 (σ.1 14 i1 1).toNatClampNeg ((σ.2 12 0 (σ.1 14 i1 1).toNatClampNeg) + ((σ.1 14 i1 7).toInt64))) 10 0 3 (((fo_pJ σ 12 0 (σ.1 14 i1 1).toNatClampNeg ((σ.2 12 0 (σ.1 14 i1 1).toNatClampNeg) + ((σ.1 14 i1 7).toInt64))).2 10 0 3) + (((fo_pJ σ 12 0 (σ.1 14 i1 1).toNatClampNeg ((σ.2 12 0 (σ.1 14 i1 1).toNatClampNeg) + ((σ.1 14 i1 7).toInt64))).1 14 i1 7).toInt64)))) else none) else (some ((0 : Int32), σ))) else none)) else none
set_option maxHeartbeats 4000000 in
set_option maxRecDepth 100000 in
theorem b_q_Auction_joinBuys {p : Program} {l : Launch} {e : Env} {R : Room} {s : State} {m : MethodId} {args : Array Value} {below : List Frame} {meth : Method} {c : Code} {Q : State → Prop} {D : va_G} {ca : Nat → ClassId} {ad : Nat → Nat} (C0 : fo_CX p s m args c cX5_joinBuys 6 RX5 D ca ad) (hRf : 0 ≤ R.frames) (hRl : 0 ≤ R.locals) (hRc : 0 ≤ R.cells) {σ : fo_S} {i1 : Nat} {a2 : Int32} {i3 : Nat} (hi1 : i1 < 16) (hi3 : i3 < 2) {res : Int32 × fo_S} (h0 : q_Auction_joinBuys σ i1 a2 i3 = some res) (kr : ∀ (pc : Nat) (ls : Array Slot) (H : Heap) (locs : List Loc), narrow .boolean (.int res.1) = .int res.1 → decode cX5_joinBuys pc = .ok (.ireturn, 1) → va_P D vwCl (fo_vx 51 ad (fo_ce ca ad res.2)) H → va_S (fo_A 51 ad s.heap.size) s.heap H locs → W p l e R s m args below meth c H locs 0 0 Q (F0 m pc ls [.int res.1])) (hP : va_P D vwCl (fo_vx 51 ad (fo_ce ca ad σ)) s.heap) : W p l e R s m args below meth c s.heap [] 0 0 Q (entryFrame m ([.ref (ad (fo_lay 10 0)), .ref (ad (fo_lay 14 i1)), .int a2, .ref (ad (fo_lay 1 i3))] : List Value).toArray 6) := by
  obtain ⟨hx, hb, hml, hown, hT, hK, hD⟩ := C0
  have hN0 : (some res) ≠ none := fun q => by cases q
  unfold q_Auction_joinBuys at h0
  have hS : va_S (fo_A 51 ad s.heap.size) s.heap s.heap [] := va_S.rf
  have hl := lv_entry ([.ref (ad (fo_lay 10 0)), .ref (ad (fo_lay 14 i1)), .int a2, .ref (ad (fo_lay 1 i3))]) (n := 6) (Nat.le_of_ble_eq_true rfl)
  rw [lg_entry_eq]
  generalize (lg_sl ([.ref (ad (fo_lay 10 0)), .ref (ad (fo_lay 14 i1)), .int a2, .ref (ad (fo_lay 1 i3))]) ++ List.replicate (6 - (lg_sl ([.ref (ad (fo_lay 10 0)), .ref (ad (fo_lay 14 i1)), .int a2, .ref (ad (fo_lay 1 i3))])).length) Slot.unset).toArray = ls at hl ⊢
  have hl : lv_has ls 6 [(0, .ref (ad (fo_lay 10 0))), (1, .ref (ad (fo_lay 14 i1))), (2, .int a2), (3, .ref (ad (fo_lay 1 i3)))] := hl
  refine lv_aload_n hx hb dX5_joinBuys_0 rfl (lv_at hl 0 rfl) ?_
  refine fo_g5_15 hx hb hT hown hK hP (by decide) dX5_joinBuys_1 ?_
  refine lv_aload_n hx hb dX5_joinBuys_4 rfl (lv_at hl 1 rfl) ?_
  refine fo_g5_74 hx hb hT hown hK hP hi1 dX5_joinBuys_5 ?_
  obtain ⟨g1, h0⟩ := fo_gd h0 hN0
  refine fo_lald (k := 12) (n := 8) hx hb hK hP (by decide) (by decide) (fun _ _ => rfl) g1 dX5_joinBuys_8 ?_
  refine lv_aload_n hx hb dX5_joinBuys_9 rfl (lv_at hl 1 rfl) ?_
  refine fo_g5_77 hx hb hT hown hK hP hi1 dX5_joinBuys_10 ?_
  refine lv_i2l hx hb dX5_joinBuys_13 rfl ?_
  refine lv_ladd hx hb dX5_joinBuys_14 ?_
  refine lv_lstore (lv' := [(4, .long ((σ.2 12 0 (σ.1 14 i1 1).toNatClampNeg) + ((σ.1 14 i1 7).toInt64))), (0, .ref (ad (fo_lay 10 0))), (1, .ref (ad (fo_lay 14 i1))), (2, .int a2), (3, .ref (ad (fo_lay 1 i3)))]) hx hb dX5_joinBuys_15 hl (by decide) rfl (fun ls hl => ?_)
  refine lv_aload_n hx hb dX5_joinBuys_17 rfl (lv_at hl 2 rfl) ?_
  refine fo_g5_80 hx hb hT hown hK hP hi1 dX5_joinBuys_18 ?_
  refine lv_iload_n hx hb dX5_joinBuys_21 rfl (lv_at hl 3 rfl) ?_
  refine lv_icmp_lt (tgt := 43) hx hb dX5_joinBuys_22 (by decide) (fun c2 => ?_) (fun c2 => ?_)
  · replace h0 := fo_itT c2 h0
    refine lv_iconst (v := 0) hx hb dX5_joinBuys_43 (by decide) ?_
    have hr3 := Option.some.inj h0
    subst hr3
    exact kr _ ls _ _ (fo_zn (Or.inl rfl)) dX5_joinBuys_44 hP hS
  · replace h0 := fo_itF c2 h0
    refine lv_lload hx hb dX5_joinBuys_25 (lv_at hl 0 rfl) ?_
    refine lv_iload_n hx hb dX5_joinBuys_27 rfl (lv_at hl 3 rfl) ?_
    refine lv_i2l hx hb dX5_joinBuys_28 rfl ?_
    refine lv_lmul hx hb dX5_joinBuys_29 ?_
    refine lv_aload_n hx hb dX5_joinBuys_30 rfl (lv_at hl 4 rfl) ?_
    refine fo_g5_83 hx hb hT hown hK hP hi3 dX5_joinBuys_31 ?_
    refine lv_aload_n hx hb dX5_joinBuys_34 rfl (lv_at hl 2 rfl) ?_
    refine fo_g5_74 hx hb hT hown hK hP hi1 dX5_joinBuys_35 ?_
    obtain ⟨g4, h0⟩ := fo_gd h0 hN0
    refine fo_lald (k := 2) (n := 9) hx hb hK hP (by decide) hi3 (fun _ _ => rfl) g4 dX5_joinBuys_38 ?_
    refine W.lcmp hx hb dX5_joinBuys_39 ?_
    refine lv_if_le (tgt := 45) hx hb dX5_joinBuys_40 (by decide) (fun c5 => ?_) (fun c5 => ?_)
    · replace h0 := fo_itT c5 h0
      refine lv_aload_n hx hb dX5_joinBuys_45 rfl (lv_at hl 1 rfl) ?_
      refine fo_g5_15 hx hb hT hown hK hP (by decide) dX5_joinBuys_46 ?_
      refine lv_aload_n hx hb dX5_joinBuys_49 rfl (lv_at hl 2 rfl) ?_
      refine fo_g5_74 hx hb hT hown hK hP hi1 dX5_joinBuys_50 ?_
      refine lv_lload hx hb dX5_joinBuys_53 (lv_at hl 0 rfl) ?_
      obtain ⟨g6, h0⟩ := fo_gd h0 hN0
      refine fo_last (k := 12) (n := 8) hx hb hK hP hD hS (by decide) (by decide) (fun _ _ => rfl) g6 dX5_joinBuys_55 (fun H locs hP hS => ?_)
      refine lv_aload_n hx hb dX5_joinBuys_56 rfl (lv_at hl 1 rfl) ?_
      refine lv_dup hx hb dX5_joinBuys_57 rfl ?_
      refine fo_g5_49 hx hb hT hown hK hP (by decide) dX5_joinBuys_58 ?_
      refine lv_aload_n hx hb dX5_joinBuys_61 rfl (lv_at hl 2 rfl) ?_
      refine fo_g5_77 hx hb hT hown hK hP hi1 dX5_joinBuys_62 ?_
      refine lv_i2l hx hb dX5_joinBuys_65 rfl ?_
      refine lv_ladd hx hb dX5_joinBuys_66 ?_
      refine fo_p5_49 hx hb hT hown hK hP hD hS (by decide) dX5_joinBuys_67 (fun H locs hP hS => ?_)
      refine lv_iconst (v := 1) hx hb dX5_joinBuys_70 (by decide) ?_
      have hr7 := Option.some.inj h0
      subst hr7
      exact kr _ ls _ _ (fo_zn (Or.inr rfl)) dX5_joinBuys_71 hP hS
    · replace h0 := fo_itF c5 h0
      refine lv_iconst (v := 0) hx hb dX5_joinBuys_43 (by decide) ?_
      have hr8 := Option.some.inj h0
      subst hr8
      exact kr _ ls _ _ (fo_zn (Or.inl rfl)) dX5_joinBuys_44 hP hS
theorem c_q_Auction_joinBuys (l : Launch) (D : va_G) (ca : Nat → ClassId) (ad : Nat → Nat) (sz : Nat) {σ : fo_S} {i1 : Nat} {a2 : Int32} {i3 : Nat} (hi1 : i1 < 16) (hi3 : i3 < 2) {res : Int32 × fo_S} (h0 : q_Auction_joinBuys σ i1 a2 i3 = some res) : Met l yX5_joinBuys ws_q_Auction_joinBuys rm_q_Auction_joinBuys (fo_Pre 51 D vwCl (fo_tys ca) ad (fo_ce ca ad σ) sz [.ref (ad (fo_lay 10 0)), .ref (ad (fo_lay 14 i1)), .int a2, .ref (ad (fo_lay 1 i3))]) (fo_PoI 51 D vwCl (fo_tys ca) ad (fo_ce ca ad res.2) sz res.1) 0 0 (fo_A 51 ad sz) :=
  fo_mkZ (by decide) (fun C0 kr hP => b_q_Auction_joinBuys C0 (Nat.le_refl _) (Nat.le_refl _) (Nat.zero_le _) hi1 hi3 h0 kr hP)
