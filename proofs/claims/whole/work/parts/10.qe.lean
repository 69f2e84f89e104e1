def q_FairOrder_keyOf (σ : fo_S) (i0 : Nat) (a1 : Int32) : Option (Int32) :=
  if a1 = (1 : Int32) then (some (-(σ.1 14 i0 6))) else (if a1 = (2 : Int32) then ((q_Call_thirdTime σ i0).bind (fun x4 => some x4)) else (some (0 : Int32)))
set_option maxHeartbeats 4000000 in
set_option maxRecDepth 100000 in
theorem b_q_FairOrder_keyOf {p : Program} {l : Launch} {e : Env} {R : Room} {s : State} {m : MethodId} {args : Array Value} {below : List Frame} {meth : Method} {c : Code} {Q : State → Prop} {D : va_G} {ca : Nat → ClassId} {ad : Nat → Nat} (C0 : fo_CX p s m args c cX0_keyOf 2 RX0 D ca ad) (hRf : 2 ≤ R.frames) (hRl : 44 ≤ R.locals) (hRc : 0 ≤ R.cells) {σ : fo_S} {i0 : Nat} {a1 : Int32} (hi0 : i0 < 16) {res : Int32} (h0 : q_FairOrder_keyOf σ i0 a1 = some res) (kr : ∀ (pc : Nat) (ls : Array Slot) (H : Heap) (locs : List Loc), decode cX0_keyOf pc = .ok (.ireturn, 1) → va_P D vwCl (fo_vx 51 ad (fo_ce ca ad σ)) H → va_S (fo_A 51 ad s.heap.size) s.heap H locs → W p l e R s m args below meth c H locs 0 0 Q (F0 m pc ls [.int res])) (hP : va_P D vwCl (fo_vx 51 ad (fo_ce ca ad σ)) s.heap) : W p l e R s m args below meth c s.heap [] 0 0 Q (entryFrame m ([.ref (ad (fo_lay 14 i0)), .int a1] : List Value).toArray 2) := by
  obtain ⟨hx, hb, hml, hown, hT, hK, hD⟩ := C0
  have hN0 : (some res) ≠ none := fun q => by cases q
  unfold q_FairOrder_keyOf at h0
  have hS : va_S (fo_A 51 ad s.heap.size) s.heap s.heap [] := va_S.rf
  have hl := lv_entry ([.ref (ad (fo_lay 14 i0)), .int a1]) (n := 2) (Nat.le_of_ble_eq_true rfl)
  rw [lg_entry_eq]
  generalize (lg_sl ([.ref (ad (fo_lay 14 i0)), .int a1]) ++ List.replicate (2 - (lg_sl ([.ref (ad (fo_lay 14 i0)), .int a1])).length) Slot.unset).toArray = ls at hl ⊢
  have hl : lv_has ls 2 [(0, .ref (ad (fo_lay 14 i0))), (1, .int a1)] := hl
  refine lv_iload_n hx hb dX0_keyOf_0 rfl (lv_at hl 1 rfl) ?_
  by_cases c1 : a1 = (1 : Int32)
  · replace h0 := fo_itT c1 h0
    refine lv_lookup (off := 27) (tgt := 28) hx hb dX0_keyOf_1 (by decide) (by rw [c1]; first | done | rfl) (by decide) ?_
    refine lv_aload_n hx hb dX0_keyOf_28 rfl (lv_at hl 0 rfl) ?_
    refine fo_g0_264 hx hb hT hown hK hP hi0 dX0_keyOf_29 ?_
    refine lv_ineg hx hb dX0_keyOf_32 ?_
    have hr2 := Option.some.inj h0
    subst hr2
    exact kr _ ls _ _ dX0_keyOf_33 hP hS
  replace h0 := fo_itF c1 h0
  by_cases c3 : a1 = (2 : Int32)
  · replace h0 := fo_itT c3 h0
    refine lv_lookup (off := 33) (tgt := 34) hx hb dX0_keyOf_1 (by decide) (by rw [c3]; first | done | rfl) (by decide) ?_
    refine lv_aload_n hx hb dX0_keyOf_34 rfl (lv_at hl 0 rfl) ?_
    obtain ⟨x4, hx4, h0⟩ := fo_bd h0 hN0
    refine fo_calli (va_runV (H := _) (As := []) (rest := []) ⟨hx, hb, hml, hown, hT⟩ (c_q_Call_thirdTime l D ca ad _ hi0 hx4) (fo_c0_172 hT ⟨Nat.le_trans (Nat.le_of_ble_eq_true rfl) hRf, Nat.le_trans (Nat.le_of_ble_eq_true rfl) hRl⟩) ⟨fo_Pre_blind, fo_rc14 hK hP hi0, fo_Pre_at hP hK (hD _)⟩ rfl rfl hl.1 rfl (lv_room (Nat.le_of_ble_eq_true rfl)) dX0_keyOf_35 ⟨Nat.zero_le _, Nat.zero_le _⟩) hS (fun H locs hP hS => ?_)
    have hr5 := Option.some.inj h0
    subst hr5
    exact kr _ ls _ _ dX0_keyOf_38 hP hS
  replace h0 := fo_itF c3 h0
  refine lv_lookup (off := 38) (tgt := 39) hx hb dX0_keyOf_1 (by decide) (by show Op.lookupswitch.offset _ _ _ = _; rw [lv_osw c1 (by decide), lv_osw c3 (by decide)]; first | done | rfl) (by decide) ?_
  refine lv_iconst (v := 0) hx hb dX0_keyOf_39 (by decide) ?_
  have hr6 := Option.some.inj h0
  subst hr6
  exact kr _ ls _ _ dX0_keyOf_40 hP hS
theorem c_q_FairOrder_keyOf (l : Launch) (D : va_G) (ca : Nat → ClassId) (ad : Nat → Nat) (sz : Nat) {σ : fo_S} {i0 : Nat} {a1 : Int32} (hi0 : i0 < 16) {res : Int32} (h0 : q_FairOrder_keyOf σ i0 a1 = some res) : Met l yX0_keyOf ws_q_FairOrder_keyOf rm_q_FairOrder_keyOf (fo_Pre 51 D vwCl (fo_tys ca) ad (fo_ce ca ad σ) sz [.ref (ad (fo_lay 14 i0)), .int a1]) (fo_PoI 51 D vwCl (fo_tys ca) ad (fo_ce ca ad σ) sz res) 0 0 (fo_A 51 ad sz) :=
  fo_mkI (by decide) (fun C0 kr hP => b_q_FairOrder_keyOf C0 (Nat.le_refl _) (Nat.le_refl _) (Nat.zero_le _) hi0 h0 kr hP)
def q_Row_sortBy_L12 (i0 : Nat) (s12 : Int32 × fo_S) : Option ((Int32 × fo_S) ⊕ (Int32 × fo_S)) :=
  if s12.1 ≤ 0 then (some (.inr (s12.1, s12.2))) else (if fo_vi (s12.1 - (1 : Int32)) 16 then ( if fo_vi (s12.2.1 6 i0 (s12.1 - (1 : Int32)).toNatClampNeg) 16 then ( if fo_vi s12.1 16 then ( if fo_vi (s12.2.1 6 i0 s12.1.toNatClampNeg) 16 then (if (s12.2.1 7 0 (s12.2.1 6 i0 (s12.1 - (1 : Int32)).toNatClampNeg).toNatClampNeg) ≤ (s12.2.1 7 0 (s12.2.1 6 i0 s12.1.toNatClampNeg).toNatClampNeg) then (some (.inr (s12.1, s12.2))) else ((q_Row_swap s12.2 i0 (s12.1 - (1 : Int32)) s12.1).bind (fun x11 => some (.inl (s12.1 + (-1 : Int32), x11))))) else none) else none) else none) else none)
def q_Row_sortBy_L2 (i0 : Nat) (s2 : Int32 × fo_S) : Option ((Int32 × fo_S) ⊕ (Int32 × fo_S)) :=
  if (s2.2.1 5 i0 1) ≤ s2.1 then (some (.inr (s2.1, s2.2))) else ((fo_lp (q_Row_sortBy_L12 i0) fo_FU (s2.1, s2.2)).bind (fun y12 => some (.inl (s2.1 + (1 : Int32), y12.2))))
def q_Row_sortBy (σ : fo_S) (i0 : Nat) : Option (fo_S) :=
  (fo_lp (q_Row_sortBy_L2 i0) fo_FU ((1 : Int32), σ)).bind (fun y2 => some y2.2)
set_option maxHeartbeats 4000000 in
set_option maxRecDepth 100000 in
theorem b_q_Row_sortBy {p : Program} {l : Launch} {e : Env} {R : Room} {s : State} {m : MethodId} {args : Array Value} {below : List Frame} {meth : Method} {c : Code} {Q : State → Prop} {D : va_G} {ca : Nat → ClassId} {ad : Nat → Nat} (C0 : fo_CX p s m args c cX3_sortBy 4 RX3 D ca ad) (hRf : 1 ≤ R.frames) (hRl : 23 ≤ R.locals) (hRc : 0 ≤ R.cells) {σ : fo_S} {i0 : Nat} (hi0 : i0 < 2) {res : fo_S} (h0 : q_Row_sortBy σ i0 = some res) (kr : ∀ (pc : Nat) (ls : Array Slot) (H : Heap) (locs : List Loc), decode cX3_sortBy pc = .ok (.return_, 1) → va_P D vwCl (fo_vx 51 ad (fo_ce ca ad res)) H → va_S (fo_A 51 ad s.heap.size) s.heap H locs → W p l e R s m args below meth c H locs 0 0 Q (F0 m pc ls [])) (hP : va_P D vwCl (fo_vx 51 ad (fo_ce ca ad σ)) s.heap) : W p l e R s m args below meth c s.heap [] 0 0 Q (entryFrame m ([.ref (ad (fo_lay 5 i0)), .ref (ad (fo_lay 7 0))] : List Value).toArray 4) := by
  obtain ⟨hx, hb, hml, hown, hT, hK, hD⟩ := C0
  have hN0 : (some res) ≠ none := fun q => by cases q
  unfold q_Row_sortBy at h0
  have hS : va_S (fo_A 51 ad s.heap.size) s.heap s.heap [] := va_S.rf
  have hl := lv_entry ([.ref (ad (fo_lay 5 i0)), .ref (ad (fo_lay 7 0))]) (n := 4) (Nat.le_of_ble_eq_true rfl)
  rw [lg_entry_eq]
  generalize (lg_sl ([.ref (ad (fo_lay 5 i0)), .ref (ad (fo_lay 7 0))]) ++ List.replicate (4 - (lg_sl ([.ref (ad (fo_lay 5 i0)), .ref (ad (fo_lay 7 0))])).length) Slot.unset).toArray = ls at hl ⊢
  have hl : lv_has ls 4 [(0, .ref (ad (fo_lay 5 i0))), (1, .ref (ad (fo_lay 7 0)))] := hl
  refine lv_iconst (v := 1) hx hb dX3_sortBy_0 (by decide) ?_
  refine lv_istore_n (lv' := [(2, .int (1 : Int32)), (0, .ref (ad (fo_lay 5 i0))), (1, .ref (ad (fo_lay 7 0)))]) hx hb dX3_sortBy_1 rfl hl (by decide) rfl (fun ls hl => ?_)
  obtain ⟨y2, hy2, h0⟩ := fo_bd h0 hN0
  have ex2 : ∀ (H : Heap) (locs : List Loc) (ls : Array Slot), va_P D vwCl (fo_vx 51 ad (fo_ce ca ad y2.2)) H → va_S (fo_A 51 ad s.heap.size) s.heap H locs → lv_has ls 4 [] → W p l e R s m args below meth c H locs 0 0 Q (F0 m 57 ls []) := by
    intro H locs ls hP hS hl
    have hr12 := Option.some.inj h0
    subst hr12
    exact kr _ ls _ _ dX3_sortBy_57 hP hS
  have lp2 := fo_lp_ind (fun (s2 : Int32 × fo_S) => ∀ (H : Heap) (locs : List Loc) (ls : Array Slot), va_P D vwCl (fo_vx 51 ad (fo_ce ca ad s2.2)) H → va_S (fo_A 51 ad s.heap.size) s.heap H locs → lv_has ls 4 [(0, .ref (ad (fo_lay 5 i0))), (1, .ref (ad (fo_lay 7 0))), (2, .int s2.1)] → W p l e R s m args below meth c H locs 0 0 Q (F0 m 2 ls [])) (by
      intro s2 o1 h1 hN1 hL1 hE1 H locs ls hP hS hl
      unfold q_Row_sortBy_L2 at h1
      refine lv_iload_n hx hb dX3_sortBy_2 rfl (lv_at hl 2 rfl) ?_
      refine lv_aload_n hx hb dX3_sortBy_3 rfl (lv_at hl 0 rfl) ?_
      refine fo_g3_15 hx hb hT hown hK hP hi0 dX3_sortBy_4 ?_
      refine lv_icmp_ge (tgt := 57) hx hb dX3_sortBy_7 (by decide) (fun c1 => ?_) (fun c1 => ?_)
      · replace h1 := fo_itT c1 h1
        have hy2 := hE1 _ h1
        subst hy2
        exact ex2 _ _ ls hP hS (lv_sub hl [] rfl)
      · replace h1 := fo_itF c1 h1
        refine lv_iload_n hx hb dX3_sortBy_10 rfl (lv_at hl 2 rfl) ?_
        refine lv_istore_n (lv' := [(3, .int s2.1), (0, .ref (ad (fo_lay 5 i0))), (1, .ref (ad (fo_lay 7 0))), (2, .int s2.1)]) hx hb dX3_sortBy_11 rfl hl (by decide) rfl (fun ls hl => ?_)
        obtain ⟨y12, hy12, h1⟩ := fo_bd h1 hN1
        have ex12 : ∀ (H : Heap) (locs : List Loc) (ls : Array Slot), va_P D vwCl (fo_vx 51 ad (fo_ce ca ad y12.2)) H → va_S (fo_A 51 ad s.heap.size) s.heap H locs → lv_has ls 4 [(0, .ref (ad (fo_lay 5 i0))), (1, .ref (ad (fo_lay 7 0))), (2, .int s2.1)] → W p l e R s m args below meth c H locs 0 0 Q (F0 m 51 ls []) := by
          intro H locs ls hP hS hl
          refine lv_iinc (v := s2.1 + (1 : Int32)) (lv' := [(2, .int (s2.1 + (1 : Int32))), (0, .ref (ad (fo_lay 5 i0))), (1, .ref (ad (fo_lay 7 0)))]) hx hb dX3_sortBy_51 hl (k := 2) rfl rfl (by decide) rfl (fun ls hl => ?_)
          refine lv_goto (tgt := 2) hx hb dX3_sortBy_54 (by decide) ?_
          exact hL1 _ h1 _ _ ls hP hS (lv_sub hl [1, 2, 0] rfl)
        have lp12 := fo_lp_ind (fun (s12 : Int32 × fo_S) => ∀ (H : Heap) (locs : List Loc) (ls : Array Slot), va_P D vwCl (fo_vx 51 ad (fo_ce ca ad s12.2)) H → va_S (fo_A 51 ad s.heap.size) s.heap H locs → lv_has ls 4 [(0, .ref (ad (fo_lay 5 i0))), (1, .ref (ad (fo_lay 7 0))), (2, .int s2.1), (3, .int s12.1)] → W p l e R s m args below meth c H locs 0 0 Q (F0 m 12 ls [])) (by
            intro s12 o2 h2 hN2 hL2 hE2 H locs ls hP hS hl
            unfold q_Row_sortBy_L12 at h2
            refine lv_iload_n hx hb dX3_sortBy_12 rfl (lv_at hl 3 rfl) ?_
            refine lv_if_le (tgt := 51) hx hb dX3_sortBy_13 (by decide) (fun c3 => ?_) (fun c3 => ?_)
            · replace h2 := fo_itT c3 h2
              have hy4 := hE2 _ h2
              subst hy4
              exact ex12 _ _ ls hP hS (lv_sub hl [0, 1, 2] rfl)
            · replace h2 := fo_itF c3 h2
              refine lv_aload_n hx hb dX3_sortBy_16 rfl (lv_at hl 1 rfl) ?_
              refine lv_aload_n hx hb dX3_sortBy_17 rfl (lv_at hl 0 rfl) ?_
              refine fo_g3_9 hx hb hT hown hK hP hi0 dX3_sortBy_18 ?_
              refine lv_iload_n hx hb dX3_sortBy_21 rfl (lv_at hl 3 rfl) ?_
              refine lv_iconst (v := 1) hx hb dX3_sortBy_22 (by decide) ?_
              refine lv_isub hx hb dX3_sortBy_23 ?_
              obtain ⟨g5, h2⟩ := fo_gd h2 hN2
              refine fo_iald (k := 6) (n := 16) hx hb hK hP (by decide) hi0 (fun _ _ => rfl) g5 dX3_sortBy_24 ?_
              obtain ⟨g6, h2⟩ := fo_gd h2 hN2
              refine fo_iald (k := 7) (n := 16) hx hb hK hP (by decide) (by decide) (fun _ _ => rfl) g6 dX3_sortBy_25 ?_
              refine lv_aload_n hx hb dX3_sortBy_26 rfl (lv_at hl 1 rfl) ?_
              refine lv_aload_n hx hb dX3_sortBy_27 rfl (lv_at hl 0 rfl) ?_
              refine fo_g3_9 hx hb hT hown hK hP hi0 dX3_sortBy_28 ?_
              refine lv_iload_n hx hb dX3_sortBy_31 rfl (lv_at hl 3 rfl) ?_
              obtain ⟨g7, h2⟩ := fo_gd h2 hN2
              refine fo_iald (k := 6) (n := 16) hx hb hK hP (by decide) hi0 (fun _ _ => rfl) g7 dX3_sortBy_32 ?_
              obtain ⟨g8, h2⟩ := fo_gd h2 hN2
              refine fo_iald (k := 7) (n := 16) hx hb hK hP (by decide) (by decide) (fun _ _ => rfl) g8 dX3_sortBy_33 ?_
              refine lv_icmp_le (tgt := 51) hx hb dX3_sortBy_34 (by decide) (fun c9 => ?_) (fun c9 => ?_)
              · replace h2 := fo_itT c9 h2
                have hy10 := hE2 _ h2
                subst hy10
                exact ex12 _ _ ls hP hS (lv_sub hl [0, 1, 2] rfl)
              · replace h2 := fo_itF c9 h2
                refine lv_aload_n hx hb dX3_sortBy_37 rfl (lv_at hl 0 rfl) ?_
                refine lv_iload_n hx hb dX3_sortBy_38 rfl (lv_at hl 3 rfl) ?_
                refine lv_iconst (v := 1) hx hb dX3_sortBy_39 (by decide) ?_
                refine lv_isub hx hb dX3_sortBy_40 ?_
                refine lv_iload_n hx hb dX3_sortBy_41 rfl (lv_at hl 3 rfl) ?_
                obtain ⟨x11, hx11, h2⟩ := fo_bd h2 hN2
                refine fo_callv (va_runV (H := _) (As := [.int (s12.1 - (1 : Int32)), .int s12.1]) (rest := []) ⟨hx, hb, hml, hown, hT⟩ (c_q_Row_swap l D ca ad _ hi0 hx11) (fo_c3_25 hT ⟨Nat.le_trans (Nat.le_of_ble_eq_true rfl) hRf, Nat.le_trans (Nat.le_of_ble_eq_true rfl) hRl⟩) ⟨fo_Pre_blind, fo_rc5 hK hP hi0, fo_Pre_at hP hK (hD _)⟩ rfl rfl hl.1 rfl (lv_room (Nat.le_of_ble_eq_true rfl)) dX3_sortBy_42 ⟨Nat.zero_le _, Nat.zero_le _⟩) hS (fun H locs hP hS => ?_)
                refine lv_iinc (v := s12.1 + (-1 : Int32)) (lv' := [(3, .int (s12.1 + (-1 : Int32))), (0, .ref (ad (fo_lay 5 i0))), (1, .ref (ad (fo_lay 7 0))), (2, .int s2.1)]) hx hb dX3_sortBy_45 hl (k := 3) rfl rfl (by decide) rfl (fun ls hl => ?_)
                refine lv_goto (tgt := 12) hx hb dX3_sortBy_48 (by decide) ?_
                exact hL2 _ h2 _ _ ls hP hS (lv_sub hl [1, 2, 3, 0] rfl)) _ _ hy12
        exact lp12 _ _ ls hP hS (lv_sub hl [1, 2, 3, 0] rfl)) _ _ hy2
  exact lp2 _ _ ls hP hS (lv_sub hl [1, 2, 0] rfl)
theorem c_q_Row_sortBy (l : Launch) (D : va_G) (ca : Nat → ClassId) (ad : Nat → Nat) (sz : Nat) {σ : fo_S} {i0 : Nat} (hi0 : i0 < 2) {res : fo_S} (h0 : q_Row_sortBy σ i0 = some res) : Met l yX3_sortBy ws_q_Row_sortBy rm_q_Row_sortBy (fo_Pre 51 D vwCl (fo_tys ca) ad (fo_ce ca ad σ) sz [.ref (ad (fo_lay 5 i0)), .ref (ad (fo_lay 7 0))]) (fo_PoV 51 D vwCl (fo_tys ca) ad (fo_ce ca ad res) sz) 0 0 (fo_A 51 ad sz) :=
  fo_mkV (by decide) (fun C0 kr hP => b_q_Row_sortBy C0 (Nat.le_refl _) (Nat.le_refl _) (Nat.zero_le _) hi0 h0 kr hP)
def q_FairOrder_arrange_L17 (a1 : Int32) (s17 : Int32 × fo_S) : Option ((Int32 × fo_S) ⊕ (Int32 × fo_S)) :=
  if (s17.2.1 0 0 9) ≤ s17.1 then (some (.inr (s17.1, s17.2))) else (if fo_vi s17.1 16 then ( (q_FairOrder_keyOf s17.2 s17.1.toNatClampNeg a1).bind (fun x5 =>  if fo_vi s17.1 16 then (some (.inl (s17.1 + (1 : Int32), fo_pI s17.2 7 0 s17.1.toNatClampNeg x5))) else none)) else none)
def q_FairOrder_arrange (σ : fo_S) (a1 : Int32) (a2 : Int64) : Option (fo_S) :=
  if a1 = (4 : Int32) then ((q_Row_shuffle σ 0 a2).bind (fun x9 => some x9)) else ((fo_lp (q_FairOrder_arrange_L17 a1) fo_FU ((0 : Int32), σ)).bind (fun y17 => (q_Row_sortBy y17.2 0).bind (fun x7 => some x7)))
set_option maxHeartbeats 4000000 in
set_option maxRecDepth 100000 in
theorem b_q_FairOrder_arrange {p : Program} {l : Launch} {e : Env} {R : Room} {s : State} {m : MethodId} {args : Array Value} {below : List Frame} {meth : Method} {c : Code} {Q : State → Prop} {D : va_G} {ca : Nat → ClassId} {ad : Nat → Nat} (C0 : fo_CX p s m args c cX0_arrange 5 RX0 D ca ad) (hRf : 3 ≤ R.frames) (hRl : 65 ≤ R.locals) (hRc : 0 ≤ R.cells) {σ : fo_S} {a1 : Int32} {a2 : Int64}  {res : fo_S} (h0 : q_FairOrder_arrange σ a1 a2 = some res) (kr : ∀ (pc : Nat) (ls : Array Slot) (H : Heap) (locs : List Loc), decode cX0_arrange pc = .ok (.return_, 1) → va_P D vwCl (fo_vx 51 ad (fo_ce ca ad res)) H → va_S (fo_A 51 ad s.heap.size) s.heap H locs → W p l e R s m args below meth c H locs 0 0 Q (F0 m pc ls [])) (hP : va_P D vwCl (fo_vx 51 ad (fo_ce ca ad σ)) s.heap) : W p l e R s m args below meth c s.heap [] 0 0 Q (entryFrame m ([.ref (ad (fo_lay 0 0)), .int a1, .long a2] : List Value).toArray 5) := by
  obtain ⟨hx, hb, hml, hown, hT, hK, hD⟩ := C0
  have hN0 : (some res) ≠ none := fun q => by cases q
  unfold q_FairOrder_arrange at h0
  have hS : va_S (fo_A 51 ad s.heap.size) s.heap s.heap [] := va_S.rf
  have hl := lv_entry ([.ref (ad (fo_lay 0 0)), .int a1, .long a2]) (n := 5) (Nat.le_of_ble_eq_true rfl)
  rw [lg_entry_eq]
  generalize (lg_sl ([.ref (ad (fo_lay 0 0)), .int a1, .long a2]) ++ List.replicate (5 - (lg_sl ([.ref (ad (fo_lay 0 0)), .int a1, .long a2])).length) Slot.unset).toArray = ls at hl ⊢
  have hl : lv_has ls 5 [(0, .ref (ad (fo_lay 0 0))), (1, .int a1), (2, .long a2)] := hl
  refine lv_iload_n hx hb dX0_arrange_0 rfl (lv_at hl 1 rfl) ?_
  refine lv_iconst (v := 4) hx hb dX0_arrange_1 (by decide) ?_
  refine lv_icmp_ne (tgt := 14) hx hb dX0_arrange_2 (by decide) (fun c1 => ?_) (fun c1 => ?_)
  · replace h0 := fo_itF c1 h0
    refine lv_iconst (v := 0) hx hb dX0_arrange_14 (by decide) ?_
    refine lv_istore (lv' := [(4, .int (0 : Int32)), (0, .ref (ad (fo_lay 0 0))), (1, .int a1), (2, .long a2)]) hx hb dX0_arrange_15 hl (by decide) rfl (fun ls hl => ?_)
    obtain ⟨y17, hy17, h0⟩ := fo_bd h0 hN0
    have ex17 : ∀ (H : Heap) (locs : List Loc) (ls : Array Slot), va_P D vwCl (fo_vx 51 ad (fo_ce ca ad y17.2)) H → va_S (fo_A 51 ad s.heap.size) s.heap H locs → lv_has ls 5 [(0, .ref (ad (fo_lay 0 0)))] → W p l e R s m args below meth c H locs 0 0 Q (F0 m 50 ls []) := by
      intro H locs ls hP hS hl
      refine lv_aload_n hx hb dX0_arrange_50 rfl (lv_at hl 0 rfl) ?_
      refine fo_g0_28 hx hb hT hown hK hP (by decide) dX0_arrange_51 ?_
      refine lv_aload_n hx hb dX0_arrange_54 rfl (lv_at hl 0 rfl) ?_
      refine fo_g0_35 hx hb hT hown hK hP (by decide) dX0_arrange_55 ?_
      obtain ⟨x7, hx7, h0⟩ := fo_bd h0 hN0
      refine fo_callv (va_runV (H := _) (As := [.ref (ad (fo_lay 7 0))]) (rest := []) ⟨hx, hb, hml, hown, hT⟩ (c_q_Row_sortBy l D ca ad _ (by decide) hx7) (fo_c0_260 hT ⟨Nat.le_trans (Nat.le_of_ble_eq_true rfl) hRf, Nat.le_trans (Nat.le_of_ble_eq_true rfl) hRl⟩) ⟨fo_Pre_blind, fo_rc5 hK hP (by decide), fo_Pre_at hP hK (hD _)⟩ rfl rfl hl.1 rfl (lv_room (Nat.le_of_ble_eq_true rfl)) dX0_arrange_58 ⟨Nat.zero_le _, Nat.zero_le _⟩) hS (fun H locs hP hS => ?_)
      have hr8 := Option.some.inj h0
      subst hr8
      exact kr _ ls _ _ dX0_arrange_61 hP hS
    have lp17 := fo_lp_ind (fun (s17 : Int32 × fo_S) => ∀ (H : Heap) (locs : List Loc) (ls : Array Slot), va_P D vwCl (fo_vx 51 ad (fo_ce ca ad s17.2)) H → va_S (fo_A 51 ad s.heap.size) s.heap H locs → lv_has ls 5 [(0, .ref (ad (fo_lay 0 0))), (1, .int a1), (4, .int s17.1)] → W p l e R s m args below meth c H locs 0 0 Q (F0 m 17 ls [])) (by
        intro s17 o1 h1 hN1 hL1 hE1 H locs ls hP hS hl
        unfold q_FairOrder_arrange_L17 at h1
        refine lv_iload hx hb dX0_arrange_17 (lv_at hl 2 rfl) ?_
        refine lv_aload_n hx hb dX0_arrange_19 rfl (lv_at hl 0 rfl) ?_
        refine fo_g0_96 hx hb hT hown hK hP (by decide) dX0_arrange_20 ?_
        refine lv_icmp_ge (tgt := 50) hx hb dX0_arrange_23 (by decide) (fun c2 => ?_) (fun c2 => ?_)
        · replace h1 := fo_itT c2 h1
          have hy3 := hE1 _ h1
          subst hy3
          exact ex17 _ _ ls hP hS (lv_sub hl [0] rfl)
        · replace h1 := fo_itF c2 h1
          refine lv_aload_n hx hb dX0_arrange_26 rfl (lv_at hl 0 rfl) ?_
          refine fo_g0_35 hx hb hT hown hK hP (by decide) dX0_arrange_27 ?_
          refine lv_iload hx hb dX0_arrange_30 (lv_at hl 2 rfl) ?_
          refine lv_aload_n hx hb dX0_arrange_32 rfl (lv_at hl 0 rfl) ?_
          refine fo_g0_21 hx hb hT hown hK hP (by decide) dX0_arrange_33 ?_
          refine lv_iload hx hb dX0_arrange_36 (lv_at hl 2 rfl) ?_
          obtain ⟨g4, h1⟩ := fo_gd h1 hN1
          refine fo_aald_4 hx hb hK hP (by decide) g4 dX0_arrange_38 ?_
          refine lv_iload_n hx hb dX0_arrange_39 rfl (lv_at hl 1 rfl) ?_
          obtain ⟨x5, hx5, h1⟩ := fo_bd h1 hN1
          refine fo_calli (va_runS (H := _) (As := [.ref (ad (fo_lay 14 s17.1.toNatClampNeg)), .int a1]) (rest := [.int s17.1, .ref (ad (fo_lay 7 0))]) ⟨hx, hb, hml, hown, hT⟩ (c_q_FairOrder_keyOf l D ca ad _ (fo_in g4) hx5) (fo_c0_256 hT ⟨Nat.le_trans (Nat.le_of_ble_eq_true rfl) hRf, Nat.le_trans (Nat.le_of_ble_eq_true rfl) hRl⟩) ⟨fo_Pre_blind, fo_Pre_at hP hK (hD _)⟩ rfl rfl hl.1 rfl (lv_room (Nat.le_of_ble_eq_true rfl)) dX0_arrange_40 ⟨Nat.zero_le _, Nat.zero_le _⟩) hS (fun H locs hP hS => ?_)
          obtain ⟨g6, h1⟩ := fo_gd h1 hN1
          refine fo_iast (k := 7) (n := 16) hx hb hK hP hD hS (by decide) (by decide) (fun _ _ => rfl) g6 dX0_arrange_43 (fun H locs hP hS => ?_)
          refine lv_iinc (v := s17.1 + (1 : Int32)) (lv' := [(4, .int (s17.1 + (1 : Int32))), (0, .ref (ad (fo_lay 0 0))), (1, .int a1)]) hx hb dX0_arrange_44 hl (k := 2) rfl rfl (by decide) rfl (fun ls hl => ?_)
          refine lv_goto (tgt := 17) hx hb dX0_arrange_47 (by decide) ?_
          exact hL1 _ h1 _ _ ls hP hS (lv_sub hl [1, 2, 0] rfl)) _ _ hy17
    exact lp17 _ _ ls hP hS (lv_sub hl [1, 2, 0] rfl)
  · replace h0 := fo_itT c1 h0
    refine lv_aload_n hx hb dX0_arrange_5 rfl (lv_at hl 0 rfl) ?_
    refine fo_g0_28 hx hb hT hown hK hP (by decide) dX0_arrange_6 ?_
    refine lv_lload_n hx hb dX0_arrange_9 rfl (lv_at hl 2 rfl) ?_
    obtain ⟨x9, hx9, h0⟩ := fo_bd h0 hN0
    refine fo_callv (va_runV (H := _) (As := [.long a2]) (rest := []) ⟨hx, hb, hml, hown, hT⟩ (c_q_Row_shuffle l D ca ad _ (by decide) hx9) (fo_c0_252 hT ⟨Nat.le_trans (Nat.le_of_ble_eq_true rfl) hRf, Nat.le_trans (Nat.le_of_ble_eq_true rfl) hRl⟩) ⟨fo_Pre_blind, fo_rc5 hK hP (by decide), fo_Pre_at hP hK (hD _)⟩ rfl rfl hl.1 rfl (lv_room (Nat.le_of_ble_eq_true rfl)) dX0_arrange_10 ⟨Nat.zero_le _, Nat.zero_le _⟩) hS (fun H locs hP hS => ?_)
    have hr10 := Option.some.inj h0
    subst hr10
    exact kr _ ls _ _ dX0_arrange_13 hP hS
theorem c_q_FairOrder_arrange (l : Launch) (D : va_G) (ca : Nat → ClassId) (ad : Nat → Nat) (sz : Nat) {σ : fo_S} {a1 : Int32} {a2 : Int64}  {res : fo_S} (h0 : q_FairOrder_arrange σ a1 a2 = some res) : Met l yX0_arrange ws_q_FairOrder_arrange rm_q_FairOrder_arrange (fo_Pre 51 D vwCl (fo_tys ca) ad (fo_ce ca ad σ) sz [.ref (ad (fo_lay 0 0)), .int a1, .long a2]) (fo_PoV 51 D vwCl (fo_tys ca) ad (fo_ce ca ad res) sz) 0 0 (fo_A 51 ad sz) :=
  fo_mkV (by decide) (fun C0 kr hP => b_q_FairOrder_arrange C0 (Nat.le_refl _) (Nat.le_refl _) (Nat.zero_le _)  h0 kr hP)
def q_FairOrder_order (σ : fo_S) (a1 : Int32) (a2 : Int64) : Option (Int32 × fo_S) :=
  if a1 < 0 then (some ((-2 : Int32), σ)) else (if a1 ≤ (4 : Int32) then (if (σ.1 0 0 10) = (2 : Int32) then (if a1 = (3 : Int32) then ((q_Links_find (fo_pI σ 5 0 1 (0 : Int32)) ((fo_pI σ 5 0 1 (0 : Int32)).1 0 0 9)).bind (fun x9 =>  (q_FairOrder_openedSet x9).bind (fun x10 =>  (q_Links_addKnots x9 0 x10 (x9.1 0 0 9)).bind (fun x11 => some ((fo_pI x11 0 0 13 (1 : Int32)).1 5 0 1, fo_pI x11 0 0 13 (1 : Int32)))))) else ((q_FairOrder_addByNumbers (fo_pI σ 5 0 1 (0 : Int32))).bind (fun x6 =>  (q_FairOrder_arrange x6 a1 a2).bind (fun x7 => some ((fo_pI x7 0 0 13 (1 : Int32)).1 5 0 1, fo_pI x7 0 0 13 (1 : Int32)))))) else (some ((-4 : Int32), σ))) else (some ((-2 : Int32), σ)))
set_option maxHeartbeats 4000000 in
set_option maxRecDepth 100000 in
theorem b_q_FairOrder_order {p : Program} {l : Launch} {e : Env} {R : Room} {s : State} {m : MethodId} {args : Array Value} {below : List Frame} {meth : Method} {c : Code} {Q : State → Prop} {D : va_G} {ca : Nat → ClassId} {ad : Nat → Nat} (C0 : fo_CX p s m args c cX0_order 4 RX0 D ca ad) (hRf : 5 ≤ R.frames) (hRl : 116 ≤ R.locals) (hRc : 0 ≤ R.cells) {σ : fo_S} {a1 : Int32} {a2 : Int64}  {res : Int32 × fo_S} (h0 : q_FairOrder_order σ a1 a2 = some res) (kr : ∀ (pc : Nat) (ls : Array Slot) (H : Heap) (locs : List Loc), decode cX0_order pc = .ok (.ireturn, 1) → va_P D vwCl (fo_vx 51 ad (fo_ce ca ad res.2)) H → va_S (fo_A 51 ad s.heap.size) s.heap H locs → W p l e R s m args below meth c H locs 0 0 Q (F0 m pc ls [.int res.1])) (hP : va_P D vwCl (fo_vx 51 ad (fo_ce ca ad σ)) s.heap) : W p l e R s m args below meth c s.heap [] 0 0 Q (entryFrame m ([.ref (ad (fo_lay 0 0)), .int a1, .long a2] : List Value).toArray 4) := by
  obtain ⟨hx, hb, hml, hown, hT, hK, hD⟩ := C0
  have hN0 : (some res) ≠ none := fun q => by cases q
  unfold q_FairOrder_order at h0
  have hS : va_S (fo_A 51 ad s.heap.size) s.heap s.heap [] := va_S.rf
  have hl := lv_entry ([.ref (ad (fo_lay 0 0)), .int a1, .long a2]) (n := 4) (Nat.le_of_ble_eq_true rfl)
  rw [lg_entry_eq]
  generalize (lg_sl ([.ref (ad (fo_lay 0 0)), .int a1, .long a2]) ++ List.replicate (4 - (lg_sl ([.ref (ad (fo_lay 0 0)), .int a1, .long a2])).length) Slot.unset).toArray = ls at hl ⊢
  have hl : lv_has ls 4 [(0, .ref (ad (fo_lay 0 0))), (1, .int a1), (2, .long a2)] := hl
  refine lv_iload_n hx hb dX0_order_0 rfl (lv_at hl 1 rfl) ?_
  refine lv_if_lt (tgt := 9) hx hb dX0_order_1 (by decide) (fun c1 => ?_) (fun c1 => ?_)
  · replace h0 := fo_itT c1 h0
    refine lv_bipush (v := -2) hx hb dX0_order_9 (by decide) ?_
    have hr2 := Option.some.inj h0
    subst hr2
    exact kr _ ls _ _ dX0_order_11 hP hS
  · replace h0 := fo_itF c1 h0
    refine lv_iload_n hx hb dX0_order_4 rfl (lv_at hl 1 rfl) ?_
    refine lv_iconst (v := 4) hx hb dX0_order_5 (by decide) ?_
    refine lv_icmp_le (tgt := 12) hx hb dX0_order_6 (by decide) (fun c3 => ?_) (fun c3 => ?_)
    · replace h0 := fo_itT c3 h0
      refine lv_aload_n hx hb dX0_order_12 rfl (lv_at hl 0 rfl) ?_
      refine fo_g0_93 hx hb hT hown hK hP (by decide) dX0_order_13 ?_
      refine lv_iconst (v := 2) hx hb dX0_order_16 (by decide) ?_
      refine lv_icmp_eq (tgt := 23) hx hb dX0_order_17 (by decide) (fun c4 => ?_) (fun c4 => ?_)
      · replace h0 := fo_itT c4 h0
        refine lv_aload_n hx hb dX0_order_23 rfl (lv_at hl 0 rfl) ?_
        refine fo_g0_28 hx hb hT hown hK hP (by decide) dX0_order_24 ?_
        refine lv_iconst (v := 0) hx hb dX0_order_27 (by decide) ?_
        refine fo_p0_134 hx hb hT hown hK hP hD hS (by decide) dX0_order_28 (fun H locs hP hS => ?_)
        refine lv_iload_n hx hb dX0_order_31 rfl (lv_at hl 1 rfl) ?_
        refine lv_iconst (v := 3) hx hb dX0_order_32 (by decide) ?_
        refine lv_icmp_ne (tgt := 73) hx hb dX0_order_33 (by decide) (fun c5 => ?_) (fun c5 => ?_)
        · replace h0 := fo_itF c5 h0
          refine lv_aload_n hx hb dX0_order_73 rfl (lv_at hl 0 rfl) ?_
          obtain ⟨x6, hx6, h0⟩ := fo_bd h0 hN0
          refine fo_callv (va_runV (H := _) (As := []) (rest := []) ⟨hx, hb, hml, hown, hT⟩ (c_q_FairOrder_addByNumbers l D ca ad _ hx6) (fo_c0_149 hT ⟨Nat.le_trans (Nat.le_of_ble_eq_true rfl) hRf, Nat.le_trans (Nat.le_of_ble_eq_true rfl) hRl⟩) ⟨fo_Pre_blind, fo_rc0 hK hP (by decide), fo_Pre_at hP hK (hD _)⟩ rfl rfl hl.1 rfl (lv_room (Nat.le_of_ble_eq_true rfl)) dX0_order_74 ⟨Nat.zero_le _, Nat.zero_le _⟩) hS (fun H locs hP hS => ?_)
          refine lv_aload_n hx hb dX0_order_77 rfl (lv_at hl 0 rfl) ?_
          refine lv_iload_n hx hb dX0_order_78 rfl (lv_at hl 1 rfl) ?_
          refine lv_lload_n hx hb dX0_order_79 rfl (lv_at hl 2 rfl) ?_
          obtain ⟨x7, hx7, h0⟩ := fo_bd h0 hN0
          refine fo_callv (va_runV (H := _) (As := [.int a1, .long a2]) (rest := []) ⟨hx, hb, hml, hown, hT⟩ (c_q_FairOrder_arrange l D ca ad _ hx7) (fo_c0_152 hT ⟨Nat.le_trans (Nat.le_of_ble_eq_true rfl) hRf, Nat.le_trans (Nat.le_of_ble_eq_true rfl) hRl⟩) ⟨fo_Pre_blind, fo_rc0 hK hP (by decide), fo_Pre_at hP hK (hD _)⟩ rfl rfl hl.1 rfl (lv_room (Nat.le_of_ble_eq_true rfl)) dX0_order_80 ⟨Nat.zero_le _, Nat.zero_le _⟩) hS (fun H locs hP hS => ?_)
          refine lv_aload_n hx hb dX0_order_83 rfl (lv_at hl 0 rfl) ?_
          refine lv_iconst (v := 1) hx hb dX0_order_84 (by decide) ?_
          refine fo_p0_156 hx hb hT hown hK hP hD hS (by decide) rfl rfl dX0_order_85 (fun H locs hP hS => ?_)
          refine lv_aload_n hx hb dX0_order_88 rfl (lv_at hl 0 rfl) ?_
          refine fo_g0_28 hx hb hT hown hK hP (by decide) dX0_order_89 ?_
          refine fo_g0_134 hx hb hT hown hK hP (by decide) dX0_order_92 ?_
          have hr8 := Option.some.inj h0
          subst hr8
          exact kr _ ls _ _ dX0_order_95 hP hS
        · replace h0 := fo_itT c5 h0
          refine lv_aload_n hx hb dX0_order_36 rfl (lv_at hl 0 rfl) ?_
          refine fo_g0_42 hx hb hT hown hK hP (by decide) dX0_order_37 ?_
          refine lv_aload_n hx hb dX0_order_40 rfl (lv_at hl 0 rfl) ?_
          refine fo_g0_21 hx hb hT hown hK hP (by decide) dX0_order_41 ?_
          refine lv_aload_n hx hb dX0_order_44 rfl (lv_at hl 0 rfl) ?_
          refine fo_g0_96 hx hb hT hown hK hP (by decide) dX0_order_45 ?_
          obtain ⟨x9, hx9, h0⟩ := fo_bd h0 hN0
          refine fo_callv (va_runV (H := _) (As := [.ref (ad (fo_lay 4 0)), .int ((fo_pI σ 5 0 1 (0 : Int32)).1 0 0 9)]) (rest := []) ⟨hx, hb, hml, hown, hT⟩ (c_q_Links_find l D ca ad _ hx9) (fo_c0_137 hT ⟨Nat.le_trans (Nat.le_of_ble_eq_true rfl) hRf, Nat.le_trans (Nat.le_of_ble_eq_true rfl) hRl⟩) ⟨fo_Pre_blind, fo_rc8 hK hP (by decide), fo_Pre_at hP hK (hD _)⟩ rfl rfl hl.1 rfl (lv_room (Nat.le_of_ble_eq_true rfl)) dX0_order_48 ⟨Nat.zero_le _, Nat.zero_le _⟩) hS (fun H locs hP hS => ?_)
          refine lv_aload_n hx hb dX0_order_51 rfl (lv_at hl 0 rfl) ?_
          refine fo_g0_42 hx hb hT hown hK hP (by decide) dX0_order_52 ?_
          refine lv_aload_n hx hb dX0_order_55 rfl (lv_at hl 0 rfl) ?_
          refine fo_g0_28 hx hb hT hown hK hP (by decide) dX0_order_56 ?_
          refine lv_aload_n hx hb dX0_order_59 rfl (lv_at hl 0 rfl) ?_
          obtain ⟨x10, hx10, h0⟩ := fo_bd h0 hN0
          refine fo_calli (va_runV (H := _) (As := []) (rest := [.ref (ad (fo_lay 5 0)), .ref (ad (fo_lay 8 0))]) ⟨hx, hb, hml, hown, hT⟩ (c_q_FairOrder_openedSet l D ca ad _ hx10) (fo_c0_141 hT ⟨Nat.le_trans (Nat.le_of_ble_eq_true rfl) hRf, Nat.le_trans (Nat.le_of_ble_eq_true rfl) hRl⟩) ⟨fo_Pre_blind, fo_rc0 hK hP (by decide), fo_Pre_at hP hK (hD _)⟩ rfl rfl hl.1 rfl (lv_room (Nat.le_of_ble_eq_true rfl)) dX0_order_60 ⟨Nat.zero_le _, Nat.zero_le _⟩) hS (fun H locs hP hS => ?_)
          refine lv_aload_n hx hb dX0_order_63 rfl (lv_at hl 0 rfl) ?_
          refine fo_g0_96 hx hb hT hown hK hP (by decide) dX0_order_64 ?_
          obtain ⟨x11, hx11, h0⟩ := fo_bd h0 hN0
          refine fo_callv (va_runV (H := _) (As := [.ref (ad (fo_lay 5 0)), .int x10, .int (x9.1 0 0 9)]) (rest := []) ⟨hx, hb, hml, hown, hT⟩ (c_q_Links_addKnots l D ca ad _ (by decide) hx11) (fo_c0_145 hT ⟨Nat.le_trans (Nat.le_of_ble_eq_true rfl) hRf, Nat.le_trans (Nat.le_of_ble_eq_true rfl) hRl⟩) ⟨fo_Pre_blind, fo_rc8 hK hP (by decide), fo_Pre_at hP hK (hD _)⟩ rfl rfl hl.1 rfl (lv_room (Nat.le_of_ble_eq_true rfl)) dX0_order_67 ⟨Nat.zero_le _, Nat.zero_le _⟩) hS (fun H locs hP hS => ?_)
          refine lv_goto (tgt := 83) hx hb dX0_order_70 (by decide) ?_
          refine lv_aload_n hx hb dX0_order_83 rfl (lv_at hl 0 rfl) ?_
          refine lv_iconst (v := 1) hx hb dX0_order_84 (by decide) ?_
          refine fo_p0_156 hx hb hT hown hK hP hD hS (by decide) rfl rfl dX0_order_85 (fun H locs hP hS => ?_)
          refine lv_aload_n hx hb dX0_order_88 rfl (lv_at hl 0 rfl) ?_
          refine fo_g0_28 hx hb hT hown hK hP (by decide) dX0_order_89 ?_
          refine fo_g0_134 hx hb hT hown hK hP (by decide) dX0_order_92 ?_
          have hr12 := Option.some.inj h0
          subst hr12
          exact kr _ ls _ _ dX0_order_95 hP hS
      · replace h0 := fo_itF c4 h0
        refine lv_bipush (v := -4) hx hb dX0_order_20 (by decide) ?_
        have hr13 := Option.some.inj h0
        subst hr13
        exact kr _ ls _ _ dX0_order_22 hP hS
    · replace h0 := fo_itF c3 h0
      refine lv_bipush (v := -2) hx hb dX0_order_9 (by decide) ?_
      have hr14 := Option.some.inj h0
      subst hr14
      exact kr _ ls _ _ dX0_order_11 hP hS
theorem c_q_FairOrder_order (l : Launch) (D : va_G) (ca : Nat → ClassId) (ad : Nat → Nat) (sz : Nat) {σ : fo_S} {a1 : Int32} {a2 : Int64}  {res : Int32 × fo_S} (h0 : q_FairOrder_order σ a1 a2 = some res) : Met l yX0_order ws_q_FairOrder_order rm_q_FairOrder_order (fo_Pre 51 D vwCl (fo_tys ca) ad (fo_ce ca ad σ) sz [.ref (ad (fo_lay 0 0)), .int a1, .long a2]) (fo_PoI 51 D vwCl (fo_tys ca) ad (fo_ce ca ad res.2) sz res.1) 0 0 (fo_A 51 ad sz) :=
  fo_mkI (by decide) (fun C0 kr hP => b_q_FairOrder_order C0 (Nat.le_refl _) (Nat.le_refl _) (Nat.zero_le _)  h0 kr hP)
def q_Row_hasPlace (σ : fo_S) (i0 : Nat) (a1 : Int32) : Option (Int32) :=
  if a1 < 0 then (some (0 : Int32)) else (if (σ.1 5 i0 1) ≤ a1 then (some (0 : Int32)) else (some (1 : Int32)))
set_option maxHeartbeats 4000000 in
set_option maxRecDepth 100000 in
theorem b_q_Row_hasPlace {p : Program} {l : Launch} {e : Env} {R : Room} {s : State} {m : MethodId} {args : Array Value} {below : List Frame} {meth : Method} {c : Code} {Q : State → Prop} {D : va_G} {ca : Nat → ClassId} {ad : Nat → Nat} (C0 : fo_CX p s m args c cX3_hasPlace 2 RX3 D ca ad) (hRf : 0 ≤ R.frames) (hRl : 0 ≤ R.locals) (hRc : 0 ≤ R.cells) {σ : fo_S} {i0 : Nat} {a1 : Int32} (hi0 : i0 < 2) {res : Int32} (h0 : q_Row_hasPlace σ i0 a1 = some res) (kr : ∀ (pc : Nat) (ls : Array Slot) (H : Heap) (locs : List Loc), narrow .boolean (.int res) = .int res → decode cX3_hasPlace pc = .ok (.ireturn, 1) → va_P D vwCl (fo_vx 51 ad (fo_ce ca ad σ)) H → va_S (fo_A 51 ad s.heap.size) s.heap H locs → W p l e R s m args below meth c H locs 0 0 Q (F0 m pc ls [.int res])) (hP : va_P D vwCl (fo_vx 51 ad (fo_ce ca ad σ)) s.heap) : W p l e R s m args below meth c s.heap [] 0 0 Q (entryFrame m ([.ref (ad (fo_lay 5 i0)), .int a1] : List Value).toArray 2) := by
  obtain ⟨hx, hb, hml, hown, hT, hK, hD⟩ := C0
  have hN0 : (some res) ≠ none := fun q => by cases q
  unfold q_Row_hasPlace at h0
  have hS : va_S (fo_A 51 ad s.heap.size) s.heap s.heap [] := va_S.rf
  have hl := lv_entry ([.ref (ad (fo_lay 5 i0)), .int a1]) (n := 2) (Nat.le_of_ble_eq_true rfl)
  rw [lg_entry_eq]
  generalize (lg_sl ([.ref (ad (fo_lay 5 i0)), .int a1]) ++ List.replicate (2 - (lg_sl ([.ref (ad (fo_lay 5 i0)), .int a1])).length) Slot.unset).toArray = ls at hl ⊢
  have hl : lv_has ls 2 [(0, .ref (ad (fo_lay 5 i0))), (1, .int a1)] := hl
  refine lv_iload_n hx hb dX3_hasPlace_0 rfl (lv_at hl 1 rfl) ?_
  refine lv_if_lt (tgt := 16) hx hb dX3_hasPlace_1 (by decide) (fun c1 => ?_) (fun c1 => ?_)
  · replace h0 := fo_itT c1 h0
    refine lv_iconst (v := 0) hx hb dX3_hasPlace_16 (by decide) ?_
    have hr2 := Option.some.inj h0
    subst hr2
    exact kr _ ls _ _ (fo_zn (Or.inl rfl)) dX3_hasPlace_17 hP hS
  · replace h0 := fo_itF c1 h0
    refine lv_iload_n hx hb dX3_hasPlace_4 rfl (lv_at hl 1 rfl) ?_
    refine lv_aload_n hx hb dX3_hasPlace_5 rfl (lv_at hl 0 rfl) ?_
    refine fo_g3_15 hx hb hT hown hK hP hi0 dX3_hasPlace_6 ?_
    refine lv_icmp_ge (tgt := 16) hx hb dX3_hasPlace_9 (by decide) (fun c3 => ?_) (fun c3 => ?_)
    · replace h0 := fo_itT c3 h0
      refine lv_iconst (v := 0) hx hb dX3_hasPlace_16 (by decide) ?_
      have hr4 := Option.some.inj h0
      subst hr4
      exact kr _ ls _ _ (fo_zn (Or.inl rfl)) dX3_hasPlace_17 hP hS
    · replace h0 := fo_itF c3 h0
      refine lv_iconst (v := 1) hx hb dX3_hasPlace_12 (by decide) ?_
      refine lv_goto (tgt := 17) hx hb dX3_hasPlace_13 (by decide) ?_
      have hr5 := Option.some.inj h0
      subst hr5
      exact kr _ ls _ _ (fo_zn (Or.inr rfl)) dX3_hasPlace_17 hP hS
theorem c_q_Row_hasPlace (l : Launch) (D : va_G) (ca : Nat → ClassId) (ad : Nat → Nat) (sz : Nat) {σ : fo_S} {i0 : Nat} {a1 : Int32} (hi0 : i0 < 2) {res : Int32} (h0 : q_Row_hasPlace σ i0 a1 = some res) : Met l yX3_hasPlace ws_q_Row_hasPlace rm_q_Row_hasPlace (fo_Pre 51 D vwCl (fo_tys ca) ad (fo_ce ca ad σ) sz [.ref (ad (fo_lay 5 i0)), .int a1]) (fo_PoI 51 D vwCl (fo_tys ca) ad (fo_ce ca ad σ) sz res) 0 0 (fo_A 51 ad sz) :=
  fo_mkZ (by decide) (fun C0 kr hP => b_q_Row_hasPlace C0 (Nat.le_refl _) (Nat.le_refl _) (Nat.zero_le _) hi0 h0 kr hP)
def q_FairOrder_at (σ : fo_S) (a1 : Int32) : Option (Int32) :=
  (q_Row_hasPlace σ 0 a1).bind (fun x1 => if x1 = 0 then (some (-1 : Int32)) else (if fo_vi a1 16 then (some (σ.1 6 0 a1.toNatClampNeg)) else none))
set_option maxHeartbeats 4000000 in
set_option maxRecDepth 100000 in
theorem b_q_FairOrder_at {p : Program} {l : Launch} {e : Env} {R : Room} {s : State} {m : MethodId} {args : Array Value} {below : List Frame} {meth : Method} {c : Code} {Q : State → Prop} {D : va_G} {ca : Nat → ClassId} {ad : Nat → Nat} (C0 : fo_CX p s m args c cX0_at 2 RX0 D ca ad) (hRf : 1 ≤ R.frames) (hRl : 21 ≤ R.locals) (hRc : 0 ≤ R.cells) {σ : fo_S} {a1 : Int32}  {res : Int32} (h0 : q_FairOrder_at σ a1 = some res) (kr : ∀ (pc : Nat) (ls : Array Slot) (H : Heap) (locs : List Loc), decode cX0_at pc = .ok (.ireturn, 1) → va_P D vwCl (fo_vx 51 ad (fo_ce ca ad σ)) H → va_S (fo_A 51 ad s.heap.size) s.heap H locs → W p l e R s m args below meth c H locs 0 0 Q (F0 m pc ls [.int res])) (hP : va_P D vwCl (fo_vx 51 ad (fo_ce ca ad σ)) s.heap) : W p l e R s m args below meth c s.heap [] 0 0 Q (entryFrame m ([.ref (ad (fo_lay 0 0)), .int a1] : List Value).toArray 2) := by
  obtain ⟨hx, hb, hml, hown, hT, hK, hD⟩ := C0
  have hN0 : (some res) ≠ none := fun q => by cases q
  unfold q_FairOrder_at at h0
  have hS : va_S (fo_A 51 ad s.heap.size) s.heap s.heap [] := va_S.rf
  have hl := lv_entry ([.ref (ad (fo_lay 0 0)), .int a1]) (n := 2) (Nat.le_of_ble_eq_true rfl)
  rw [lg_entry_eq]
  generalize (lg_sl ([.ref (ad (fo_lay 0 0)), .int a1]) ++ List.replicate (2 - (lg_sl ([.ref (ad (fo_lay 0 0)), .int a1])).length) Slot.unset).toArray = ls at hl ⊢
  have hl : lv_has ls 2 [(0, .ref (ad (fo_lay 0 0))), (1, .int a1)] := hl
  refine lv_aload_n hx hb dX0_at_0 rfl (lv_at hl 0 rfl) ?_
  refine fo_g0_28 hx hb hT hown hK hP (by decide) dX0_at_1 ?_
  refine lv_iload_n hx hb dX0_at_4 rfl (lv_at hl 1 rfl) ?_
  obtain ⟨x1, hx1, h0⟩ := fo_bd h0 hN0
  refine fo_calli (va_runV (H := _) (As := [.int a1]) (rest := []) ⟨hx, hb, hml, hown, hT⟩ (c_q_Row_hasPlace l D ca ad _ (by decide) hx1) (fo_c0_159 hT ⟨Nat.le_trans (Nat.le_of_ble_eq_true rfl) hRf, Nat.le_trans (Nat.le_of_ble_eq_true rfl) hRl⟩) ⟨fo_Pre_blind, fo_rc5 hK hP (by decide), fo_Pre_at hP hK (hD _)⟩ rfl rfl hl.1 rfl (lv_room (Nat.le_of_ble_eq_true rfl)) dX0_at_5 ⟨Nat.zero_le _, Nat.zero_le _⟩) hS (fun H locs hP hS => ?_)
  refine lv_if_eq (tgt := 23) hx hb dX0_at_8 (by decide) (fun c2 => ?_) (fun c2 => ?_)
  · replace h0 := fo_itT c2 h0
    refine lv_iconst (v := -1) hx hb dX0_at_23 (by decide) ?_
    have hr3 := Option.some.inj h0
    subst hr3
    exact kr _ ls _ _ dX0_at_24 hP hS
  · replace h0 := fo_itF c2 h0
    refine lv_aload_n hx hb dX0_at_11 rfl (lv_at hl 0 rfl) ?_
    refine fo_g0_28 hx hb hT hown hK hP (by decide) dX0_at_12 ?_
    refine fo_g0_162 hx hb hT hown hK hP (by decide) dX0_at_15 ?_
    refine lv_iload_n hx hb dX0_at_18 rfl (lv_at hl 1 rfl) ?_
    obtain ⟨g4, h0⟩ := fo_gd h0 hN0
    refine fo_iald (k := 6) (n := 16) hx hb hK hP (by decide) (by decide) (fun _ _ => rfl) g4 dX0_at_19 ?_
    refine lv_goto (tgt := 24) hx hb dX0_at_20 (by decide) ?_
    have hr5 := Option.some.inj h0
    subst hr5
    exact kr _ ls _ _ dX0_at_24 hP hS
theorem c_q_FairOrder_at (l : Launch) (D : va_G) (ca : Nat → ClassId) (ad : Nat → Nat) (sz : Nat) {σ : fo_S} {a1 : Int32}  {res : Int32} (h0 : q_FairOrder_at σ a1 = some res) : Met l yX0_at ws_q_FairOrder_at rm_q_FairOrder_at (fo_Pre 51 D vwCl (fo_tys ca) ad (fo_ce ca ad σ) sz [.ref (ad (fo_lay 0 0)), .int a1]) (fo_PoI 51 D vwCl (fo_tys ca) ad (fo_ce ca ad σ) sz res) 0 0 (fo_A 51 ad sz) :=
  fo_mkI (by decide) (fun C0 kr hP => b_q_FairOrder_at C0 (Nat.le_refl _) (Nat.le_refl _) (Nat.zero_le _)  h0 kr hP)
def q_FairOrder_isOpenedCall (σ : fo_S) (a1 : Int32) : Option (Int32) :=
  (q_FairOrder_isCall σ a1).bind (fun x1 => if x1 = 0 then (some (0 : Int32)) else (if fo_vi a1 16 then (if (σ.1 14 a1.toNatClampNeg 4) = 0 then (some (0 : Int32)) else (some (1 : Int32))) else none))
set_option maxHeartbeats 4000000 in
set_option maxRecDepth 100000 in
theorem b_q_FairOrder_isOpenedCall {p : Program} {l : Launch} {e : Env} {R : Room} {s : State} {m : MethodId} {args : Array Value} {below : List Frame} {meth : Method} {c : Code} {Q : State → Prop} {D : va_G} {ca : Nat → ClassId} {ad : Nat → Nat} (C0 : fo_CX p s m args c cX0_isOpenedCall 2 RX0 D ca ad) (hRf : 1 ≤ R.frames) (hRl : 21 ≤ R.locals) (hRc : 0 ≤ R.cells) {σ : fo_S} {a1 : Int32}  {res : Int32} (h0 : q_FairOrder_isOpenedCall σ a1 = some res) (kr : ∀ (pc : Nat) (ls : Array Slot) (H : Heap) (locs : List Loc), narrow .boolean (.int res) = .int res → decode cX0_isOpenedCall pc = .ok (.ireturn, 1) → va_P D vwCl (fo_vx 51 ad (fo_ce ca ad σ)) H → va_S (fo_A 51 ad s.heap.size) s.heap H locs → W p l e R s m args below meth c H locs 0 0 Q (F0 m pc ls [.int res])) (hP : va_P D vwCl (fo_vx 51 ad (fo_ce ca ad σ)) s.heap) : W p l e R s m args below meth c s.heap [] 0 0 Q (entryFrame m ([.ref (ad (fo_lay 0 0)), .int a1] : List Value).toArray 2) := by
  obtain ⟨hx, hb, hml, hown, hT, hK, hD⟩ := C0
  have hN0 : (some res) ≠ none := fun q => by cases q
  unfold q_FairOrder_isOpenedCall at h0
  have hS : va_S (fo_A 51 ad s.heap.size) s.heap s.heap [] := va_S.rf
  have hl := lv_entry ([.ref (ad (fo_lay 0 0)), .int a1]) (n := 2) (Nat.le_of_ble_eq_true rfl)
  rw [lg_entry_eq]
  generalize (lg_sl ([.ref (ad (fo_lay 0 0)), .int a1]) ++ List.replicate (2 - (lg_sl ([.ref (ad (fo_lay 0 0)), .int a1])).length) Slot.unset).toArray = ls at hl ⊢
  have hl : lv_has ls 2 [(0, .ref (ad (fo_lay 0 0))), (1, .int a1)] := hl
  refine lv_aload_n hx hb dX0_isOpenedCall_0 rfl (lv_at hl 0 rfl) ?_
  refine lv_iload_n hx hb dX0_isOpenedCall_1 rfl (lv_at hl 1 rfl) ?_
  obtain ⟨x1, hx1, h0⟩ := fo_bd h0 hN0
  refine fo_calli (va_runV (H := _) (As := [.int a1]) (rest := []) ⟨hx, hb, hml, hown, hT⟩ (c_q_FairOrder_isCall l D ca ad _ hx1) (fo_c0_106 hT ⟨Nat.le_trans (Nat.le_of_ble_eq_true rfl) hRf, Nat.le_trans (Nat.le_of_ble_eq_true rfl) hRl⟩) ⟨fo_Pre_blind, fo_rc0 hK hP (by decide), fo_Pre_at hP hK (hD _)⟩ rfl rfl hl.1 rfl (lv_room (Nat.le_of_ble_eq_true rfl)) dX0_isOpenedCall_2 ⟨Nat.zero_le _, Nat.zero_le _⟩) hS (fun H locs hP hS => ?_)
  refine lv_if_eq (tgt := 24) hx hb dX0_isOpenedCall_5 (by decide) (fun c2 => ?_) (fun c2 => ?_)
  · replace h0 := fo_itT c2 h0
    refine lv_iconst (v := 0) hx hb dX0_isOpenedCall_24 (by decide) ?_
    have hr3 := Option.some.inj h0
    subst hr3
    exact kr _ ls _ _ (fo_zn (Or.inl rfl)) dX0_isOpenedCall_25 hP hS
  · replace h0 := fo_itF c2 h0
    refine lv_aload_n hx hb dX0_isOpenedCall_8 rfl (lv_at hl 0 rfl) ?_
    refine fo_g0_21 hx hb hT hown hK hP (by decide) dX0_isOpenedCall_9 ?_
    refine lv_iload_n hx hb dX0_isOpenedCall_12 rfl (lv_at hl 1 rfl) ?_
    obtain ⟨g4, h0⟩ := fo_gd h0 hN0
    refine fo_aald_4 hx hb hK hP (by decide) g4 dX0_isOpenedCall_13 ?_
    refine fo_g0_114 hx hb hT hown hK hP (fo_in g4) dX0_isOpenedCall_14 ?_
    refine lv_if_eq (tgt := 24) hx hb dX0_isOpenedCall_17 (by decide) (fun c5 => ?_) (fun c5 => ?_)
    · replace h0 := fo_itT c5 h0
      refine lv_iconst (v := 0) hx hb dX0_isOpenedCall_24 (by decide) ?_
      have hr6 := Option.some.inj h0
      subst hr6
      exact kr _ ls _ _ (fo_zn (Or.inl rfl)) dX0_isOpenedCall_25 hP hS
    · replace h0 := fo_itF c5 h0
      refine lv_iconst (v := 1) hx hb dX0_isOpenedCall_20 (by decide) ?_
      refine lv_goto (tgt := 25) hx hb dX0_isOpenedCall_21 (by decide) ?_
      have hr7 := Option.some.inj h0
      subst hr7
      exact kr _ ls _ _ (fo_zn (Or.inr rfl)) dX0_isOpenedCall_25 hP hS
theorem c_q_FairOrder_isOpenedCall (l : Launch) (D : va_G) (ca : Nat → ClassId) (ad : Nat → Nat) (sz : Nat) {σ : fo_S} {a1 : Int32}  {res : Int32} (h0 : q_FairOrder_isOpenedCall σ a1 = some res) : Met l yX0_isOpenedCall ws_q_FairOrder_isOpenedCall rm_q_FairOrder_isOpenedCall (fo_Pre 51 D vwCl (fo_tys ca) ad (fo_ce ca ad σ) sz [.ref (ad (fo_lay 0 0)), .int a1]) (fo_PoI 51 D vwCl (fo_tys ca) ad (fo_ce ca ad σ) sz res) 0 0 (fo_A 51 ad sz) :=
  fo_mkZ (by decide) (fun C0 kr hP => b_q_FairOrder_isOpenedCall C0 (Nat.le_refl _) (Nat.le_refl _) (Nat.zero_le _)  h0 kr hP)
def q_FairOrder_linked (σ : fo_S) (a1 : Int32) (a2 : Int32) : Option (Int32 × fo_S) :=
  (q_FairOrder_isOpenedCall σ a1).bind (fun x1 => if x1 = 0 then (some ((-2 : Int32), σ)) else ((q_FairOrder_isOpenedCall σ a2).bind (fun x4 => if x4 = 0 then (some ((-2 : Int32), σ)) else ((q_Links_find σ (σ.1 0 0 9)).bind (fun x6 =>  (q_Links_leads x6 a1 a2).bind (fun x7 => if x7 = 0 then (some ((0 : Int32), x6)) else (some ((1 : Int32), x6))))))))
set_option maxHeartbeats 4000000 in
set_option maxRecDepth 100000 in
theorem b_q_FairOrder_linked {p : Program} {l : Launch} {e : Env} {R : Room} {s : State} {m : MethodId} {args : Array Value} {below : List Frame} {meth : Method} {c : Code} {Q : State → Prop} {D : va_G} {ca : Nat → ClassId} {ad : Nat → Nat} (C0 : fo_CX p s m args c cX0_linked 3 RX0 D ca ad) (hRf : 4 ≤ R.frames) (hRl : 93 ≤ R.locals) (hRc : 0 ≤ R.cells) {σ : fo_S} {a1 : Int32} {a2 : Int32}  {res : Int32 × fo_S} (h0 : q_FairOrder_linked σ a1 a2 = some res) (kr : ∀ (pc : Nat) (ls : Array Slot) (H : Heap) (locs : List Loc), decode cX0_linked pc = .ok (.ireturn, 1) → va_P D vwCl (fo_vx 51 ad (fo_ce ca ad res.2)) H → va_S (fo_A 51 ad s.heap.size) s.heap H locs → W p l e R s m args below meth c H locs 0 0 Q (F0 m pc ls [.int res.1])) (hP : va_P D vwCl (fo_vx 51 ad (fo_ce ca ad σ)) s.heap) : W p l e R s m args below meth c s.heap [] 0 0 Q (entryFrame m ([.ref (ad (fo_lay 0 0)), .int a1, .int a2] : List Value).toArray 3) := by
  obtain ⟨hx, hb, hml, hown, hT, hK, hD⟩ := C0
  have hN0 : (some res) ≠ none := fun q => by cases q
  unfold q_FairOrder_linked at h0
  have hS : va_S (fo_A 51 ad s.heap.size) s.heap s.heap [] := va_S.rf
  have hl := lv_entry ([.ref (ad (fo_lay 0 0)), .int a1, .int a2]) (n := 3) (Nat.le_of_ble_eq_true rfl)
  rw [lg_entry_eq]
  generalize (lg_sl ([.ref (ad (fo_lay 0 0)), .int a1, .int a2]) ++ List.replicate (3 - (lg_sl ([.ref (ad (fo_lay 0 0)), .int a1, .int a2])).length) Slot.unset).toArray = ls at hl ⊢
  have hl : lv_has ls 3 [(0, .ref (ad (fo_lay 0 0))), (1, .int a1), (2, .int a2)] := hl
  refine lv_aload_n hx hb dX0_linked_0 rfl (lv_at hl 0 rfl) ?_
  refine lv_iload_n hx hb dX0_linked_1 rfl (lv_at hl 1 rfl) ?_
  obtain ⟨x1, hx1, h0⟩ := fo_bd h0 hN0
  refine fo_calli (va_runV (H := _) (As := [.int a1]) (rest := []) ⟨hx, hb, hml, hown, hT⟩ (c_q_FairOrder_isOpenedCall l D ca ad _ hx1) (fo_c0_165 hT ⟨Nat.le_trans (Nat.le_of_ble_eq_true rfl) hRf, Nat.le_trans (Nat.le_of_ble_eq_true rfl) hRl⟩) ⟨fo_Pre_blind, fo_rc0 hK hP (by decide), fo_Pre_at hP hK (hD _)⟩ rfl rfl hl.1 rfl (lv_room (Nat.le_of_ble_eq_true rfl)) dX0_linked_2 ⟨Nat.zero_le _, Nat.zero_le _⟩) hS (fun H locs hP hS => ?_)
  refine lv_if_eq (tgt := 16) hx hb dX0_linked_5 (by decide) (fun c2 => ?_) (fun c2 => ?_)
  · replace h0 := fo_itT c2 h0
    refine lv_bipush (v := -2) hx hb dX0_linked_16 (by decide) ?_
    have hr3 := Option.some.inj h0
    subst hr3
    exact kr _ ls _ _ dX0_linked_18 hP hS
  · replace h0 := fo_itF c2 h0
    refine lv_aload_n hx hb dX0_linked_8 rfl (lv_at hl 0 rfl) ?_
    refine lv_iload_n hx hb dX0_linked_9 rfl (lv_at hl 2 rfl) ?_
    obtain ⟨x4, hx4, h0⟩ := fo_bd h0 hN0
    refine fo_calli (va_runV (H := _) (As := [.int a2]) (rest := []) ⟨hx, hb, hml, hown, hT⟩ (c_q_FairOrder_isOpenedCall l D ca ad _ hx4) (fo_c0_165 hT ⟨Nat.le_trans (Nat.le_of_ble_eq_true rfl) hRf, Nat.le_trans (Nat.le_of_ble_eq_true rfl) hRl⟩) ⟨fo_Pre_blind, fo_rc0 hK hP (by decide), fo_Pre_at hP hK (hD _)⟩ rfl rfl hl.1 rfl (lv_room (Nat.le_of_ble_eq_true rfl)) dX0_linked_10 ⟨Nat.zero_le _, Nat.zero_le _⟩) hS (fun H locs hP hS => ?_)
    refine lv_if_ne (tgt := 19) hx hb dX0_linked_13 (by decide) (fun c5 => ?_) (fun c5 => ?_)
    · replace h0 := fo_itF c5 h0
      refine lv_aload_n hx hb dX0_linked_19 rfl (lv_at hl 0 rfl) ?_
      refine fo_g0_42 hx hb hT hown hK hP (by decide) dX0_linked_20 ?_
      refine lv_aload_n hx hb dX0_linked_23 rfl (lv_at hl 0 rfl) ?_
      refine fo_g0_21 hx hb hT hown hK hP (by decide) dX0_linked_24 ?_
      refine lv_aload_n hx hb dX0_linked_27 rfl (lv_at hl 0 rfl) ?_
      refine fo_g0_96 hx hb hT hown hK hP (by decide) dX0_linked_28 ?_
      obtain ⟨x6, hx6, h0⟩ := fo_bd h0 hN0
      refine fo_callv (va_runV (H := _) (As := [.ref (ad (fo_lay 4 0)), .int (σ.1 0 0 9)]) (rest := []) ⟨hx, hb, hml, hown, hT⟩ (c_q_Links_find l D ca ad _ hx6) (fo_c0_137 hT ⟨Nat.le_trans (Nat.le_of_ble_eq_true rfl) hRf, Nat.le_trans (Nat.le_of_ble_eq_true rfl) hRl⟩) ⟨fo_Pre_blind, fo_rc8 hK hP (by decide), fo_Pre_at hP hK (hD _)⟩ rfl rfl hl.1 rfl (lv_room (Nat.le_of_ble_eq_true rfl)) dX0_linked_31 ⟨Nat.zero_le _, Nat.zero_le _⟩) hS (fun H locs hP hS => ?_)
      refine lv_aload_n hx hb dX0_linked_34 rfl (lv_at hl 0 rfl) ?_
      refine fo_g0_42 hx hb hT hown hK hP (by decide) dX0_linked_35 ?_
      refine lv_iload_n hx hb dX0_linked_38 rfl (lv_at hl 1 rfl) ?_
      refine lv_iload_n hx hb dX0_linked_39 rfl (lv_at hl 2 rfl) ?_
      obtain ⟨x7, hx7, h0⟩ := fo_bd h0 hN0
      refine fo_calli (va_runV (H := _) (As := [.int a1, .int a2]) (rest := []) ⟨hx, hb, hml, hown, hT⟩ (c_q_Links_leads l D ca ad _ hx7) (fo_c0_168 hT ⟨Nat.le_trans (Nat.le_of_ble_eq_true rfl) hRf, Nat.le_trans (Nat.le_of_ble_eq_true rfl) hRl⟩) ⟨fo_Pre_blind, fo_rc8 hK hP (by decide), fo_Pre_at hP hK (hD _)⟩ rfl rfl hl.1 rfl (lv_room (Nat.le_of_ble_eq_true rfl)) dX0_linked_40 ⟨Nat.zero_le _, Nat.zero_le _⟩) hS (fun H locs hP hS => ?_)
      refine lv_if_eq (tgt := 50) hx hb dX0_linked_43 (by decide) (fun c8 => ?_) (fun c8 => ?_)
      · replace h0 := fo_itT c8 h0
        refine lv_iconst (v := 0) hx hb dX0_linked_50 (by decide) ?_
        have hr9 := Option.some.inj h0
        subst hr9
        exact kr _ ls _ _ dX0_linked_51 hP hS
      · replace h0 := fo_itF c8 h0
        refine lv_iconst (v := 1) hx hb dX0_linked_46 (by decide) ?_
        refine lv_goto (tgt := 51) hx hb dX0_linked_47 (by decide) ?_
        have hr10 := Option.some.inj h0
        subst hr10
        exact kr _ ls _ _ dX0_linked_51 hP hS
    · replace h0 := fo_itT c5 h0
      refine lv_bipush (v := -2) hx hb dX0_linked_16 (by decide) ?_
      have hr11 := Option.some.inj h0
      subst hr11
      exact kr _ ls _ _ dX0_linked_18 hP hS
theorem c_q_FairOrder_linked (l : Launch) (D : va_G) (ca : Nat → ClassId) (ad : Nat → Nat) (sz : Nat) {σ : fo_S} {a1 : Int32} {a2 : Int32}  {res : Int32 × fo_S} (h0 : q_FairOrder_linked σ a1 a2 = some res) : Met l yX0_linked ws_q_FairOrder_linked rm_q_FairOrder_linked (fo_Pre 51 D vwCl (fo_tys ca) ad (fo_ce ca ad σ) sz [.ref (ad (fo_lay 0 0)), .int a1, .int a2]) (fo_PoI 51 D vwCl (fo_tys ca) ad (fo_ce ca ad res.2) sz res.1) 0 0 (fo_A 51 ad sz) :=
  fo_mkI (by decide) (fun C0 kr hP => b_q_FairOrder_linked C0 (Nat.le_refl _) (Nat.le_refl _) (Nat.zero_le _)  h0 kr hP)
def q_FairOrder_heard (σ : fo_S) (a1 : Int32) : Option (Int32) :=
  (q_FairOrder_isCall σ a1).bind (fun x1 => if x1 = 0 then (some (-2 : Int32)) else (if fo_vi a1 16 then ( (q_Call_thirdTime σ a1.toNatClampNeg).bind (fun x4 => if x4 = (1000001 : Int32) then (some (-1 : Int32)) else (some x4))) else none))
set_option maxHeartbeats 4000000 in
set_option maxRecDepth 100000 in
theorem b_q_FairOrder_heard {p : Program} {l : Launch} {e : Env} {R : Room} {s : State} {m : MethodId} {args : Array Value} {below : List Frame} {meth : Method} {c : Code} {Q : State → Prop} {D : va_G} {ca : Nat → ClassId} {ad : Nat → Nat} (C0 : fo_CX p s m args c cX0_heard 3 RX0 D ca ad) (hRf : 2 ≤ R.frames) (hRl : 44 ≤ R.locals) (hRc : 0 ≤ R.cells) {σ : fo_S} {a1 : Int32}  {res : Int32} (h0 : q_FairOrder_heard σ a1 = some res) (kr : ∀ (pc : Nat) (ls : Array Slot) (H : Heap) (locs : List Loc), decode cX0_heard pc = .ok (.ireturn, 1) → va_P D vwCl (fo_vx 51 ad (fo_ce ca ad σ)) H → va_S (fo_A 51 ad s.heap.size) s.heap H locs → W p l e R s m args below meth c H locs 0 0 Q (F0 m pc ls [.int res])) (hP : va_P D vwCl (fo_vx 51 ad (fo_ce ca ad σ)) s.heap) : W p l e R s m args below meth c s.heap [] 0 0 Q (entryFrame m ([.ref (ad (fo_lay 0 0)), .int a1] : List Value).toArray 3) := by
  obtain ⟨hx, hb, hml, hown, hT, hK, hD⟩ := C0
  have hN0 : (some res) ≠ none := fun q => by cases q
  unfold q_FairOrder_heard at h0
  have hS : va_S (fo_A 51 ad s.heap.size) s.heap s.heap [] := va_S.rf
  have hl := lv_entry ([.ref (ad (fo_lay 0 0)), .int a1]) (n := 3) (Nat.le_of_ble_eq_true rfl)
  rw [lg_entry_eq]
  generalize (lg_sl ([.ref (ad (fo_lay 0 0)), .int a1]) ++ List.replicate (3 - (lg_sl ([.ref (ad (fo_lay 0 0)), .int a1])).length) Slot.unset).toArray = ls at hl ⊢
  have hl : lv_has ls 3 [(0, .ref (ad (fo_lay 0 0))), (1, .int a1)] := hl
  refine lv_aload_n hx hb dX0_heard_0 rfl (lv_at hl 0 rfl) ?_
  refine lv_iload_n hx hb dX0_heard_1 rfl (lv_at hl 1 rfl) ?_
  obtain ⟨x1, hx1, h0⟩ := fo_bd h0 hN0
  refine fo_calli (va_runV (H := _) (As := [.int a1]) (rest := []) ⟨hx, hb, hml, hown, hT⟩ (c_q_FairOrder_isCall l D ca ad _ hx1) (fo_c0_106 hT ⟨Nat.le_trans (Nat.le_of_ble_eq_true rfl) hRf, Nat.le_trans (Nat.le_of_ble_eq_true rfl) hRl⟩) ⟨fo_Pre_blind, fo_rc0 hK hP (by decide), fo_Pre_at hP hK (hD _)⟩ rfl rfl hl.1 rfl (lv_room (Nat.le_of_ble_eq_true rfl)) dX0_heard_2 ⟨Nat.zero_le _, Nat.zero_le _⟩) hS (fun H locs hP hS => ?_)
  refine lv_if_ne (tgt := 11) hx hb dX0_heard_5 (by decide) (fun c2 => ?_) (fun c2 => ?_)
  · replace h0 := fo_itF c2 h0
    refine lv_aload_n hx hb dX0_heard_11 rfl (lv_at hl 0 rfl) ?_
    refine fo_g0_21 hx hb hT hown hK hP (by decide) dX0_heard_12 ?_
    refine lv_iload_n hx hb dX0_heard_15 rfl (lv_at hl 1 rfl) ?_
    obtain ⟨g3, h0⟩ := fo_gd h0 hN0
    refine fo_aald_4 hx hb hK hP (by decide) g3 dX0_heard_16 ?_
    obtain ⟨x4, hx4, h0⟩ := fo_bd h0 hN0
    refine fo_calli (va_runV (H := _) (As := []) (rest := []) ⟨hx, hb, hml, hown, hT⟩ (c_q_Call_thirdTime l D ca ad _ (fo_in g3) hx4) (fo_c0_172 hT ⟨Nat.le_trans (Nat.le_of_ble_eq_true rfl) hRf, Nat.le_trans (Nat.le_of_ble_eq_true rfl) hRl⟩) ⟨fo_Pre_blind, fo_rc14 hK hP (fo_in g3), fo_Pre_at hP hK (hD _)⟩ rfl rfl hl.1 rfl (lv_room (Nat.le_of_ble_eq_true rfl)) dX0_heard_17 ⟨Nat.zero_le _, Nat.zero_le _⟩) hS (fun H locs hP hS => ?_)
    refine lv_istore_n (lv' := [(2, .int x4), (0, .ref (ad (fo_lay 0 0))), (1, .int a1)]) hx hb dX0_heard_20 rfl hl (by decide) rfl (fun ls hl => ?_)
    refine lv_iload_n hx hb dX0_heard_21 rfl (lv_at hl 0 rfl) ?_
    refine lv_ldc (v := 1000001) hx hb hown (fo_k0_113 hT) dX0_heard_22 ?_
    refine lv_icmp_ne (tgt := 31) hx hb dX0_heard_24 (by decide) (fun c5 => ?_) (fun c5 => ?_)
    · replace h0 := fo_itF c5 h0
      refine lv_iload_n hx hb dX0_heard_31 rfl (lv_at hl 0 rfl) ?_
      have hr6 := Option.some.inj h0
      subst hr6
      exact kr _ ls _ _ dX0_heard_32 hP hS
    · replace h0 := fo_itT c5 h0
      refine lv_iconst (v := -1) hx hb dX0_heard_27 (by decide) ?_
      refine lv_goto (tgt := 32) hx hb dX0_heard_28 (by decide) ?_
      have hr7 := Option.some.inj h0
      subst hr7
      exact kr _ ls _ _ dX0_heard_32 hP hS
  · replace h0 := fo_itT c2 h0
    refine lv_bipush (v := -2) hx hb dX0_heard_8 (by decide) ?_
    have hr8 := Option.some.inj h0
    subst hr8
    exact kr _ ls _ _ dX0_heard_10 hP hS
theorem c_q_FairOrder_heard (l : Launch) (D : va_G) (ca : Nat → ClassId) (ad : Nat → Nat) (sz : Nat) {σ : fo_S} {a1 : Int32}  {res : Int32} (h0 : q_FairOrder_heard σ a1 = some res) : Met l yX0_heard ws_q_FairOrder_heard rm_q_FairOrder_heard (fo_Pre 51 D vwCl (fo_tys ca) ad (fo_ce ca ad σ) sz [.ref (ad (fo_lay 0 0)), .int a1]) (fo_PoI 51 D vwCl (fo_tys ca) ad (fo_ce ca ad σ) sz res) 0 0 (fo_A 51 ad sz) :=
  fo_mkI (by decide) (fun C0 kr hP => b_q_FairOrder_heard C0 (Nat.le_refl _) (Nat.le_refl _) (Nat.zero_le _)  h0 kr hP)
def q_FairOrder_mayPlay (σ : fo_S)  : Option (Int32) :=
  if (σ.1 0 0 13) = 0 then (some (0 : Int32)) else (if (σ.1 0 0 14) = 0 then (some (1 : Int32)) else (some (0 : Int32)))
set_option maxHeartbeats 4000000 in
set_option maxRecDepth 100000 in
theorem b_q_FairOrder_mayPlay {p : Program} {l : Launch} {e : Env} {R : Room} {s : State} {m : MethodId} {args : Array Value} {below : List Frame} {meth : Method} {c : Code} {Q : State → Prop} {D : va_G} {ca : Nat → ClassId} {ad : Nat → Nat} (C0 : fo_CX p s m args c cX0_mayPlay 1 RX0 D ca ad) (hRf : 0 ≤ R.frames) (hRl : 0 ≤ R.locals) (hRc : 0 ≤ R.cells) {σ : fo_S}   {res : Int32} (h0 : q_FairOrder_mayPlay σ = some res) (kr : ∀ (pc : Nat) (ls : Array Slot) (H : Heap) (locs : List Loc), narrow .boolean (.int res) = .int res → decode cX0_mayPlay pc = .ok (.ireturn, 1) → va_P D vwCl (fo_vx 51 ad (fo_ce ca ad σ)) H → va_S (fo_A 51 ad s.heap.size) s.heap H locs → W p l e R s m args below meth c H locs 0 0 Q (F0 m pc ls [.int res])) (hP : va_P D vwCl (fo_vx 51 ad (fo_ce ca ad σ)) s.heap) : W p l e R s m args below meth c s.heap [] 0 0 Q (entryFrame m ([.ref (ad (fo_lay 0 0))] : List Value).toArray 1) := by
  obtain ⟨hx, hb, hml, hown, hT, hK, hD⟩ := C0
  have hN0 : (some res) ≠ none := fun q => by cases q
  unfold q_FairOrder_mayPlay at h0
  have hS : va_S (fo_A 51 ad s.heap.size) s.heap s.heap [] := va_S.rf
  have hl := lv_entry ([.ref (ad (fo_lay 0 0))]) (n := 1) (Nat.le_of_ble_eq_true rfl)
  rw [lg_entry_eq]
  generalize (lg_sl ([.ref (ad (fo_lay 0 0))]) ++ List.replicate (1 - (lg_sl ([.ref (ad (fo_lay 0 0))])).length) Slot.unset).toArray = ls at hl ⊢
  have hl : lv_has ls 1 [(0, .ref (ad (fo_lay 0 0)))] := hl
  refine lv_aload_n hx hb dX0_mayPlay_0 rfl (lv_at hl 0 rfl) ?_
  refine fo_g0_156 hx hb hT hown hK hP (by decide) dX0_mayPlay_1 ?_
  refine lv_if_eq (tgt := 18) hx hb dX0_mayPlay_4 (by decide) (fun c1 => ?_) (fun c1 => ?_)
  · replace h0 := fo_itT c1 h0
    refine lv_iconst (v := 0) hx hb dX0_mayPlay_18 (by decide) ?_
    have hr2 := Option.some.inj h0
    subst hr2
    exact kr _ ls _ _ (fo_zn (Or.inl rfl)) dX0_mayPlay_19 hP hS
  · replace h0 := fo_itF c1 h0
    refine lv_aload_n hx hb dX0_mayPlay_7 rfl (lv_at hl 0 rfl) ?_
    refine fo_g0_179 hx hb hT hown hK hP (by decide) dX0_mayPlay_8 ?_
    refine lv_if_ne (tgt := 18) hx hb dX0_mayPlay_11 (by decide) (fun c3 => ?_) (fun c3 => ?_)
    · replace h0 := fo_itF c3 h0
      refine lv_iconst (v := 0) hx hb dX0_mayPlay_18 (by decide) ?_
      have hr4 := Option.some.inj h0
      subst hr4
      exact kr _ ls _ _ (fo_zn (Or.inl rfl)) dX0_mayPlay_19 hP hS
    · replace h0 := fo_itT c3 h0
      refine lv_iconst (v := 1) hx hb dX0_mayPlay_14 (by decide) ?_
      refine lv_goto (tgt := 19) hx hb dX0_mayPlay_15 (by decide) ?_
      have hr5 := Option.some.inj h0
      subst hr5
      exact kr _ ls _ _ (fo_zn (Or.inr rfl)) dX0_mayPlay_19 hP hS
theorem c_q_FairOrder_mayPlay (l : Launch) (D : va_G) (ca : Nat → ClassId) (ad : Nat → Nat) (sz : Nat) {σ : fo_S}   {res : Int32} (h0 : q_FairOrder_mayPlay σ = some res) : Met l yX0_mayPlay ws_q_FairOrder_mayPlay rm_q_FairOrder_mayPlay (fo_Pre 51 D vwCl (fo_tys ca) ad (fo_ce ca ad σ) sz [.ref (ad (fo_lay 0 0))]) (fo_PoI 51 D vwCl (fo_tys ca) ad (fo_ce ca ad σ) sz res) 0 0 (fo_A 51 ad sz) :=
  fo_mkZ (by decide) (fun C0 kr hP => b_q_FairOrder_mayPlay C0 (Nat.le_refl _) (Nat.le_refl _) (Nat.zero_le _)  h0 kr hP)
