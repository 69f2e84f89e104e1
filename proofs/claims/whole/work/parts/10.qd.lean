def q_Links_firstKnot_L2 (σ : fo_S) (a1 : Int32) (a2 : Int32) (s2 : Int32) : Option ((Int32) ⊕ ((Int32) ⊕ (Int32))) :=
  if a2 ≤ s2 then (some (.inr (.inl s2))) else ((q_Links_contains σ a1 s2).bind (fun x3 => if x3 = 0 then (some (.inl (s2 + (1 : Int32)))) else ((q_Links_isFree σ s2 a1 a2).bind (fun x5 => if x5 = 0 then (some (.inl (s2 + (1 : Int32)))) else ((q_Links_knotOf σ s2 a2).bind (fun x7 => some (.inr (.inr x7))))))))
def q_Links_firstKnot (σ : fo_S) (a1 : Int32) (a2 : Int32) : Option (Int32) :=
  (fo_lp (q_Links_firstKnot_L2 σ a1 a2) fo_FU (0 : Int32)).bind (fun y2 => match y2 with | .inl z2 => (some (0 : Int32)) | .inr r2 => some r2)
set_option maxHeartbeats 4000000 in
set_option maxRecDepth 100000 in
theorem b_q_Links_firstKnot {p : Program} {l : Launch} {e : Env} {R : Room} {s : State} {m : MethodId} {args : Array Value} {below : List Frame} {meth : Method} {c : Code} {Q : State → Prop} {D : va_G} {ca : Nat → ClassId} {ad : Nat → Nat} (C0 : fo_CX p s m args c cX4_firstKnot 4 RX4 D ca ad) (hRf : 3 ≤ R.frames) (hRl : 67 ≤ R.locals) (hRc : 0 ≤ R.cells) {σ : fo_S} {a1 : Int32} {a2 : Int32}  {res : Int32} (h0 : q_Links_firstKnot σ a1 a2 = some res) (kr : ∀ (pc : Nat) (ls : Array Slot) (H : Heap) (locs : List Loc), decode cX4_firstKnot pc = .ok (.ireturn, 1) → va_P D vwCl (fo_vx 51 ad (fo_ce ca ad σ)) H → va_S (fo_A 51 ad s.heap.size) s.heap H locs → W p l e R s m args below meth c H locs 0 0 Q (F0 m pc ls [.int res])) (hP : va_P D vwCl (fo_vx 51 ad (fo_ce ca ad σ)) s.heap) : W p l e R s m args below meth c s.heap [] 0 0 Q (entryFrame m ([.ref (ad (fo_lay 8 0)), .int a1, .int a2] : List Value).toArray 4) := by
  obtain ⟨hx, hb, hml, hown, hT, hK, hD⟩ := C0
  have hN0 : (some res) ≠ none := fun q => by cases q
  unfold q_Links_firstKnot at h0
  have hS : va_S (fo_A 51 ad s.heap.size) s.heap s.heap [] := va_S.rf
  have hl := lv_entry ([.ref (ad (fo_lay 8 0)), .int a1, .int a2]) (n := 4) (Nat.le_of_ble_eq_true rfl)
  rw [lg_entry_eq]
  generalize (lg_sl ([.ref (ad (fo_lay 8 0)), .int a1, .int a2]) ++ List.replicate (4 - (lg_sl ([.ref (ad (fo_lay 8 0)), .int a1, .int a2])).length) Slot.unset).toArray = ls at hl ⊢
  have hl : lv_has ls 4 [(0, .ref (ad (fo_lay 8 0))), (1, .int a1), (2, .int a2)] := hl
  refine lv_iconst (v := 0) hx hb dX4_firstKnot_0 (by decide) ?_
  refine lv_istore_n (lv' := [(3, .int (0 : Int32)), (0, .ref (ad (fo_lay 8 0))), (1, .int a1), (2, .int a2)]) hx hb dX4_firstKnot_1 rfl hl (by decide) rfl (fun ls hl => ?_)
  obtain ⟨y2, hy2, h0⟩ := fo_bd h0 hN0
  have ex2 : ∀ z2 : Int32, y2 = .inl z2 → ∀ (H : Heap) (locs : List Loc) (ls : Array Slot), va_P D vwCl (fo_vx 51 ad (fo_ce ca ad σ)) H → va_S (fo_A 51 ad s.heap.size) s.heap H locs → lv_has ls 4 [] → W p l e R s m args below meth c H locs 0 0 Q (F0 m 38 ls []) := by
    intro z2 hq2 H locs ls hP hS hl
    subst hq2
    refine lv_iconst (v := 0) hx hb dX4_firstKnot_38 (by decide) ?_
    have hr10 := Option.some.inj h0
    subst hr10
    exact kr _ ls _ _ dX4_firstKnot_39 hP hS
  have lp2 := fo_lp_ind (fun (s2 : Int32) => ∀ (H : Heap) (locs : List Loc) (ls : Array Slot), va_P D vwCl (fo_vx 51 ad (fo_ce ca ad σ)) H → va_S (fo_A 51 ad s.heap.size) s.heap H locs → lv_has ls 4 [(0, .ref (ad (fo_lay 8 0))), (1, .int a1), (2, .int a2), (3, .int s2)] → W p l e R s m args below meth c H locs 0 0 Q (F0 m 2 ls [])) (by
      intro s2 o1 h1 hN1 hL1 hE1 H locs ls hP hS hl
      unfold q_Links_firstKnot_L2 at h1
      refine lv_iload_n hx hb dX4_firstKnot_2 rfl (lv_at hl 3 rfl) ?_
      refine lv_iload_n hx hb dX4_firstKnot_3 rfl (lv_at hl 2 rfl) ?_
      refine lv_icmp_ge (tgt := 38) hx hb dX4_firstKnot_4 (by decide) (fun c1 => ?_) (fun c1 => ?_)
      · replace h1 := fo_itT c1 h1
        have hy2 := hE1 _ h1
        exact ex2 _ hy2.symm _ _ ls hP hS (lv_sub hl [] rfl)
      · replace h1 := fo_itF c1 h1
        refine lv_iload_n hx hb dX4_firstKnot_7 rfl (lv_at hl 1 rfl) ?_
        refine lv_iload_n hx hb dX4_firstKnot_8 rfl (lv_at hl 3 rfl) ?_
        obtain ⟨x3, hx3, h1⟩ := fo_bd h1 hN1
        refine fo_calli (va_runS (H := _) (As := [.int a1, .int s2]) (rest := []) ⟨hx, hb, hml, hown, hT⟩ (c_q_Links_contains l D ca ad _ hx3) (fo_c4_33 hT ⟨Nat.le_trans (Nat.le_of_ble_eq_true rfl) hRf, Nat.le_trans (Nat.le_of_ble_eq_true rfl) hRl⟩) ⟨fo_Pre_blind, fo_Pre_at hP hK (hD _)⟩ rfl rfl hl.1 rfl (lv_room (Nat.le_of_ble_eq_true rfl)) dX4_firstKnot_9 ⟨Nat.zero_le _, Nat.zero_le _⟩) hS (fun H locs hP hS => ?_)
        refine lv_if_eq (tgt := 32) hx hb dX4_firstKnot_12 (by decide) (fun c4 => ?_) (fun c4 => ?_)
        · replace h1 := fo_itT c4 h1
          refine lv_iinc (v := s2 + (1 : Int32)) (lv' := [(3, .int (s2 + (1 : Int32))), (0, .ref (ad (fo_lay 8 0))), (1, .int a1), (2, .int a2)]) hx hb dX4_firstKnot_32 hl (k := 3) rfl rfl (by decide) rfl (fun ls hl => ?_)
          refine lv_goto (tgt := 2) hx hb dX4_firstKnot_35 (by decide) ?_
          exact hL1 _ h1 _ _ ls hP hS (lv_sub hl [1, 2, 3, 0] rfl)
        · replace h1 := fo_itF c4 h1
          refine lv_aload_n hx hb dX4_firstKnot_15 rfl (lv_at hl 0 rfl) ?_
          refine lv_iload_n hx hb dX4_firstKnot_16 rfl (lv_at hl 3 rfl) ?_
          refine lv_iload_n hx hb dX4_firstKnot_17 rfl (lv_at hl 1 rfl) ?_
          refine lv_iload_n hx hb dX4_firstKnot_18 rfl (lv_at hl 2 rfl) ?_
          obtain ⟨x5, hx5, h1⟩ := fo_bd h1 hN1
          refine fo_calli (va_runV (H := _) (As := [.int s2, .int a1, .int a2]) (rest := []) ⟨hx, hb, hml, hown, hT⟩ (c_q_Links_isFree l D ca ad _ hx5) (fo_c4_44 hT ⟨Nat.le_trans (Nat.le_of_ble_eq_true rfl) hRf, Nat.le_trans (Nat.le_of_ble_eq_true rfl) hRl⟩) ⟨fo_Pre_blind, fo_rc8 hK hP (by decide), fo_Pre_at hP hK (hD _)⟩ rfl rfl hl.1 rfl (lv_room (Nat.le_of_ble_eq_true rfl)) dX4_firstKnot_19 ⟨Nat.zero_le _, Nat.zero_le _⟩) hS (fun H locs hP hS => ?_)
          refine lv_if_eq (tgt := 32) hx hb dX4_firstKnot_22 (by decide) (fun c6 => ?_) (fun c6 => ?_)
          · replace h1 := fo_itT c6 h1
            refine lv_iinc (v := s2 + (1 : Int32)) (lv' := [(3, .int (s2 + (1 : Int32))), (0, .ref (ad (fo_lay 8 0))), (1, .int a1), (2, .int a2)]) hx hb dX4_firstKnot_32 hl (k := 3) rfl rfl (by decide) rfl (fun ls hl => ?_)
            refine lv_goto (tgt := 2) hx hb dX4_firstKnot_35 (by decide) ?_
            exact hL1 _ h1 _ _ ls hP hS (lv_sub hl [1, 2, 3, 0] rfl)
          · replace h1 := fo_itF c6 h1
            refine lv_aload_n hx hb dX4_firstKnot_25 rfl (lv_at hl 0 rfl) ?_
            refine lv_iload_n hx hb dX4_firstKnot_26 rfl (lv_at hl 3 rfl) ?_
            refine lv_iload_n hx hb dX4_firstKnot_27 rfl (lv_at hl 2 rfl) ?_
            obtain ⟨x7, hx7, h1⟩ := fo_bd h1 hN1
            refine fo_calli (va_runV (H := _) (As := [.int s2, .int a2]) (rest := []) ⟨hx, hb, hml, hown, hT⟩ (c_q_Links_knotOf l D ca ad _ hx7) (fo_c4_48 hT ⟨Nat.le_trans (Nat.le_of_ble_eq_true rfl) hRf, Nat.le_trans (Nat.le_of_ble_eq_true rfl) hRl⟩) ⟨fo_Pre_blind, fo_rc8 hK hP (by decide), fo_Pre_at hP hK (hD _)⟩ rfl rfl hl.1 rfl (lv_room (Nat.le_of_ble_eq_true rfl)) dX4_firstKnot_28 ⟨Nat.zero_le _, Nat.zero_le _⟩) hS (fun H locs hP hS => ?_)
            have hy8 := hE1 _ h1
            subst hy8
            have hr9 := Option.some.inj h0
            subst hr9
            exact kr _ ls _ _ dX4_firstKnot_31 hP hS) _ _ hy2
  exact lp2 _ _ ls hP hS (lv_sub hl [1, 2, 3, 0] rfl)
theorem c_q_Links_firstKnot (l : Launch) (D : va_G) (ca : Nat → ClassId) (ad : Nat → Nat) (sz : Nat) {σ : fo_S} {a1 : Int32} {a2 : Int32}  {res : Int32} (h0 : q_Links_firstKnot σ a1 a2 = some res) : Met l yX4_firstKnot ws_q_Links_firstKnot rm_q_Links_firstKnot (fo_Pre 51 D vwCl (fo_tys ca) ad (fo_ce ca ad σ) sz [.ref (ad (fo_lay 8 0)), .int a1, .int a2]) (fo_PoI 51 D vwCl (fo_tys ca) ad (fo_ce ca ad σ) sz res) 0 0 (fo_A 51 ad sz) :=
  fo_mkI (by decide) (fun C0 kr hP => b_q_Links_firstKnot C0 (Nat.le_refl _) (Nat.le_refl _) (Nat.zero_le _)  h0 kr hP)
def q_Row_add (σ : fo_S) (i0 : Nat) (a1 : Int32) : Option (fo_S) :=
  if (16 : Int32) ≤ (σ.1 5 i0 1) then (some σ) else (if fo_vi (σ.1 5 i0 1) 16 then (some (fo_pI (fo_pI σ 6 i0 (σ.1 5 i0 1).toNatClampNeg a1) 5 i0 1 (((fo_pI σ 6 i0 (σ.1 5 i0 1).toNatClampNeg a1).1 5 i0 1) + (1 : Int32)))) else none)
set_option maxHeartbeats 4000000 in
set_option maxRecDepth 100000 in
theorem b_q_Row_add {p : Program} {l : Launch} {e : Env} {R : Room} {s : State} {m : MethodId} {args : Array Value} {below : List Frame} {meth : Method} {c : Code} {Q : State → Prop} {D : va_G} {ca : Nat → ClassId} {ad : Nat → Nat} (C0 : fo_CX p s m args c cX3_add 2 RX3 D ca ad) (hRf : 0 ≤ R.frames) (hRl : 0 ≤ R.locals) (hRc : 0 ≤ R.cells) {σ : fo_S} {i0 : Nat} {a1 : Int32} (hi0 : i0 < 2) {res : fo_S} (h0 : q_Row_add σ i0 a1 = some res) (kr : ∀ (pc : Nat) (ls : Array Slot) (H : Heap) (locs : List Loc), decode cX3_add pc = .ok (.return_, 1) → va_P D vwCl (fo_vx 51 ad (fo_ce ca ad res)) H → va_S (fo_A 51 ad s.heap.size) s.heap H locs → W p l e R s m args below meth c H locs 0 0 Q (F0 m pc ls [])) (hP : va_P D vwCl (fo_vx 51 ad (fo_ce ca ad σ)) s.heap) : W p l e R s m args below meth c s.heap [] 0 0 Q (entryFrame m ([.ref (ad (fo_lay 5 i0)), .int a1] : List Value).toArray 2) := by
  obtain ⟨hx, hb, hml, hown, hT, hK, hD⟩ := C0
  have hN0 : (some res) ≠ none := fun q => by cases q
  unfold q_Row_add at h0
  have hS : va_S (fo_A 51 ad s.heap.size) s.heap s.heap [] := va_S.rf
  have hl := lv_entry ([.ref (ad (fo_lay 5 i0)), .int a1]) (n := 2) (Nat.le_of_ble_eq_true rfl)
  rw [lg_entry_eq]
  generalize (lg_sl ([.ref (ad (fo_lay 5 i0)), .int a1]) ++ List.replicate (2 - (lg_sl ([.ref (ad (fo_lay 5 i0)), .int a1])).length) Slot.unset).toArray = ls at hl ⊢
  have hl : lv_has ls 2 [(0, .ref (ad (fo_lay 5 i0))), (1, .int a1)] := hl
  refine lv_aload_n hx hb dX3_add_0 rfl (lv_at hl 0 rfl) ?_
  refine fo_g3_15 hx hb hT hown hK hP hi0 dX3_add_1 ?_
  refine lv_bipush (v := 16) hx hb dX3_add_4 (by decide) ?_
  refine lv_icmp_ge (tgt := 29) hx hb dX3_add_6 (by decide) (fun c1 => ?_) (fun c1 => ?_)
  · replace h0 := fo_itT c1 h0
    have hr2 := Option.some.inj h0
    subst hr2
    exact kr _ ls _ _ dX3_add_29 hP hS
  · replace h0 := fo_itF c1 h0
    refine lv_aload_n hx hb dX3_add_9 rfl (lv_at hl 0 rfl) ?_
    refine fo_g3_9 hx hb hT hown hK hP hi0 dX3_add_10 ?_
    refine lv_aload_n hx hb dX3_add_13 rfl (lv_at hl 0 rfl) ?_
    refine fo_g3_15 hx hb hT hown hK hP hi0 dX3_add_14 ?_
    refine lv_iload_n hx hb dX3_add_17 rfl (lv_at hl 1 rfl) ?_
    obtain ⟨g3, h0⟩ := fo_gd h0 hN0
    refine fo_iast (k := 6) (n := 16) hx hb hK hP hD hS (by decide) hi0 (fun _ _ => rfl) g3 dX3_add_18 (fun H locs hP hS => ?_)
    refine lv_aload_n hx hb dX3_add_19 rfl (lv_at hl 0 rfl) ?_
    refine lv_dup hx hb dX3_add_20 rfl ?_
    refine fo_g3_15 hx hb hT hown hK hP hi0 dX3_add_21 ?_
    refine lv_iconst (v := 1) hx hb dX3_add_24 (by decide) ?_
    refine lv_iadd hx hb dX3_add_25 ?_
    refine fo_p3_15 hx hb hT hown hK hP hD hS hi0 dX3_add_26 (fun H locs hP hS => ?_)
    have hr4 := Option.some.inj h0
    subst hr4
    exact kr _ ls _ _ dX3_add_29 hP hS
theorem c_q_Row_add (l : Launch) (D : va_G) (ca : Nat → ClassId) (ad : Nat → Nat) (sz : Nat) {σ : fo_S} {i0 : Nat} {a1 : Int32} (hi0 : i0 < 2) {res : fo_S} (h0 : q_Row_add σ i0 a1 = some res) : Met l yX3_add ws_q_Row_add rm_q_Row_add (fo_Pre 51 D vwCl (fo_tys ca) ad (fo_ce ca ad σ) sz [.ref (ad (fo_lay 5 i0)), .int a1]) (fo_PoV 51 D vwCl (fo_tys ca) ad (fo_ce ca ad res) sz) 0 0 (fo_A 51 ad sz) :=
  fo_mkV (by decide) (fun C0 kr hP => b_q_Row_add C0 (Nat.le_refl _) (Nat.le_refl _) (Nat.zero_le _) hi0 h0 kr hP)
def q_Links_addSet_L2 (i0 : Nat) (a1 : Int32) (a2 : Int32) (s2 : Int32 × fo_S) : Option ((Int32 × fo_S) ⊕ (Int32 × fo_S)) :=
  if a2 ≤ s2.1 then (some (.inr (s2.1, s2.2))) else ((q_Links_contains s2.2 a1 s2.1).bind (fun x3 => if x3 = 0 then (some (.inl (s2.1 + (1 : Int32), s2.2))) else ((q_Row_add s2.2 i0 s2.1).bind (fun x5 => some (.inl (s2.1 + (1 : Int32), x5))))))
def q_Links_addSet (σ : fo_S) (i0 : Nat) (a1 : Int32) (a2 : Int32) : Option (fo_S) :=
  (fo_lp (q_Links_addSet_L2 i0 a1 a2) fo_FU ((0 : Int32), σ)).bind (fun y2 => some y2.2)
set_option maxHeartbeats 4000000 in
set_option maxRecDepth 100000 in
theorem b_q_Links_addSet {p : Program} {l : Launch} {e : Env} {R : Room} {s : State} {m : MethodId} {args : Array Value} {below : List Frame} {meth : Method} {c : Code} {Q : State → Prop} {D : va_G} {ca : Nat → ClassId} {ad : Nat → Nat} (C0 : fo_CX p s m args c cX4_addSet 4 RX4 D ca ad) (hRf : 1 ≤ R.frames) (hRl : 21 ≤ R.locals) (hRc : 0 ≤ R.cells) {σ : fo_S} {i0 : Nat} {a1 : Int32} {a2 : Int32} (hi0 : i0 < 2) {res : fo_S} (h0 : q_Links_addSet σ i0 a1 a2 = some res) (kr : ∀ (pc : Nat) (ls : Array Slot) (H : Heap) (locs : List Loc), decode cX4_addSet pc = .ok (.return_, 1) → va_P D vwCl (fo_vx 51 ad (fo_ce ca ad res)) H → va_S (fo_A 51 ad s.heap.size) s.heap H locs → W p l e R s m args below meth c H locs 0 0 Q (F0 m pc ls [])) (hP : va_P D vwCl (fo_vx 51 ad (fo_ce ca ad σ)) s.heap) : W p l e R s m args below meth c s.heap [] 0 0 Q (entryFrame m ([.ref (ad (fo_lay 5 i0)), .int a1, .int a2] : List Value).toArray 4) := by
  obtain ⟨hx, hb, hml, hown, hT, hK, hD⟩ := C0
  have hN0 : (some res) ≠ none := fun q => by cases q
  unfold q_Links_addSet at h0
  have hS : va_S (fo_A 51 ad s.heap.size) s.heap s.heap [] := va_S.rf
  have hl := lv_entry ([.ref (ad (fo_lay 5 i0)), .int a1, .int a2]) (n := 4) (Nat.le_of_ble_eq_true rfl)
  rw [lg_entry_eq]
  generalize (lg_sl ([.ref (ad (fo_lay 5 i0)), .int a1, .int a2]) ++ List.replicate (4 - (lg_sl ([.ref (ad (fo_lay 5 i0)), .int a1, .int a2])).length) Slot.unset).toArray = ls at hl ⊢
  have hl : lv_has ls 4 [(0, .ref (ad (fo_lay 5 i0))), (1, .int a1), (2, .int a2)] := hl
  refine lv_iconst (v := 0) hx hb dX4_addSet_0 (by decide) ?_
  refine lv_istore_n (lv' := [(3, .int (0 : Int32)), (0, .ref (ad (fo_lay 5 i0))), (1, .int a1), (2, .int a2)]) hx hb dX4_addSet_1 rfl hl (by decide) rfl (fun ls hl => ?_)
  obtain ⟨y2, hy2, h0⟩ := fo_bd h0 hN0
  have ex2 : ∀ (H : Heap) (locs : List Loc) (ls : Array Slot), va_P D vwCl (fo_vx 51 ad (fo_ce ca ad y2.2)) H → va_S (fo_A 51 ad s.heap.size) s.heap H locs → lv_has ls 4 [] → W p l e R s m args below meth c H locs 0 0 Q (F0 m 26 ls []) := by
    intro H locs ls hP hS hl
    have hr6 := Option.some.inj h0
    subst hr6
    exact kr _ ls _ _ dX4_addSet_26 hP hS
  have lp2 := fo_lp_ind (fun (s2 : Int32 × fo_S) => ∀ (H : Heap) (locs : List Loc) (ls : Array Slot), va_P D vwCl (fo_vx 51 ad (fo_ce ca ad s2.2)) H → va_S (fo_A 51 ad s.heap.size) s.heap H locs → lv_has ls 4 [(0, .ref (ad (fo_lay 5 i0))), (1, .int a1), (2, .int a2), (3, .int s2.1)] → W p l e R s m args below meth c H locs 0 0 Q (F0 m 2 ls [])) (by
      intro s2 o1 h1 hN1 hL1 hE1 H locs ls hP hS hl
      unfold q_Links_addSet_L2 at h1
      refine lv_iload_n hx hb dX4_addSet_2 rfl (lv_at hl 3 rfl) ?_
      refine lv_iload_n hx hb dX4_addSet_3 rfl (lv_at hl 2 rfl) ?_
      refine lv_icmp_ge (tgt := 26) hx hb dX4_addSet_4 (by decide) (fun c1 => ?_) (fun c1 => ?_)
      · replace h1 := fo_itT c1 h1
        have hy2 := hE1 _ h1
        subst hy2
        exact ex2 _ _ ls hP hS (lv_sub hl [] rfl)
      · replace h1 := fo_itF c1 h1
        refine lv_iload_n hx hb dX4_addSet_7 rfl (lv_at hl 1 rfl) ?_
        refine lv_iload_n hx hb dX4_addSet_8 rfl (lv_at hl 3 rfl) ?_
        obtain ⟨x3, hx3, h1⟩ := fo_bd h1 hN1
        refine fo_calli (va_runS (H := _) (As := [.int a1, .int s2.1]) (rest := []) ⟨hx, hb, hml, hown, hT⟩ (c_q_Links_contains l D ca ad _ hx3) (fo_c4_33 hT ⟨Nat.le_trans (Nat.le_of_ble_eq_true rfl) hRf, Nat.le_trans (Nat.le_of_ble_eq_true rfl) hRl⟩) ⟨fo_Pre_blind, fo_Pre_at hP hK (hD _)⟩ rfl rfl hl.1 rfl (lv_room (Nat.le_of_ble_eq_true rfl)) dX4_addSet_9 ⟨Nat.zero_le _, Nat.zero_le _⟩) hS (fun H locs hP hS => ?_)
        refine lv_if_eq (tgt := 20) hx hb dX4_addSet_12 (by decide) (fun c4 => ?_) (fun c4 => ?_)
        · replace h1 := fo_itT c4 h1
          refine lv_iinc (v := s2.1 + (1 : Int32)) (lv' := [(3, .int (s2.1 + (1 : Int32))), (0, .ref (ad (fo_lay 5 i0))), (1, .int a1), (2, .int a2)]) hx hb dX4_addSet_20 hl (k := 3) rfl rfl (by decide) rfl (fun ls hl => ?_)
          refine lv_goto (tgt := 2) hx hb dX4_addSet_23 (by decide) ?_
          exact hL1 _ h1 _ _ ls hP hS (lv_sub hl [1, 2, 3, 0] rfl)
        · replace h1 := fo_itF c4 h1
          refine lv_aload_n hx hb dX4_addSet_15 rfl (lv_at hl 0 rfl) ?_
          refine lv_iload_n hx hb dX4_addSet_16 rfl (lv_at hl 3 rfl) ?_
          obtain ⟨x5, hx5, h1⟩ := fo_bd h1 hN1
          refine fo_callv (va_runV (H := _) (As := [.int s2.1]) (rest := []) ⟨hx, hb, hml, hown, hT⟩ (c_q_Row_add l D ca ad _ hi0 hx5) (fo_c4_51 hT ⟨Nat.le_trans (Nat.le_of_ble_eq_true rfl) hRf, Nat.le_trans (Nat.le_of_ble_eq_true rfl) hRl⟩) ⟨fo_Pre_blind, fo_rc5 hK hP hi0, fo_Pre_at hP hK (hD _)⟩ rfl rfl hl.1 rfl (lv_room (Nat.le_of_ble_eq_true rfl)) dX4_addSet_17 ⟨Nat.zero_le _, Nat.zero_le _⟩) hS (fun H locs hP hS => ?_)
          refine lv_iinc (v := s2.1 + (1 : Int32)) (lv' := [(3, .int (s2.1 + (1 : Int32))), (0, .ref (ad (fo_lay 5 i0))), (1, .int a1), (2, .int a2)]) hx hb dX4_addSet_20 hl (k := 3) rfl rfl (by decide) rfl (fun ls hl => ?_)
          refine lv_goto (tgt := 2) hx hb dX4_addSet_23 (by decide) ?_
          exact hL1 _ h1 _ _ ls hP hS (lv_sub hl [1, 2, 3, 0] rfl)) _ _ hy2
  exact lp2 _ _ ls hP hS (lv_sub hl [1, 2, 3, 0] rfl)
theorem c_q_Links_addSet (l : Launch) (D : va_G) (ca : Nat → ClassId) (ad : Nat → Nat) (sz : Nat) {σ : fo_S} {i0 : Nat} {a1 : Int32} {a2 : Int32} (hi0 : i0 < 2) {res : fo_S} (h0 : q_Links_addSet σ i0 a1 a2 = some res) : Met l yX4_addSet ws_q_Links_addSet rm_q_Links_addSet (fo_Pre 51 D vwCl (fo_tys ca) ad (fo_ce ca ad σ) sz [.ref (ad (fo_lay 5 i0)), .int a1, .int a2]) (fo_PoV 51 D vwCl (fo_tys ca) ad (fo_ce ca ad res) sz) 0 0 (fo_A 51 ad sz) :=
  fo_mkV (by decide) (fun C0 kr hP => b_q_Links_addSet C0 (Nat.le_refl _) (Nat.le_refl _) (Nat.zero_le _) hi0 h0 kr hP)
def q_Links_addKnots_L6 (i1 : Nat) (a3 : Int32) (s6 : Int32 × Int32 × fo_S) : Option ((Int32 × Int32 × fo_S) ⊕ (Int32 × Int32 × fo_S)) :=
  if (16 : Int32) ≤ s6.2.1 then (some (.inr (s6.1, s6.2.1, s6.2.2))) else (if s6.1 = 0 then (some (.inr (s6.1, s6.2.1, s6.2.2))) else ((q_Links_firstKnot s6.2.2 s6.1 a3).bind (fun x5 =>  (q_Links_addSet s6.2.2 i1 x5 a3).bind (fun x6 => some (.inl (s6.1 &&& (x5 ^^^ (-1 : Int32)), s6.2.1 + (1 : Int32), x6))))))
def q_Links_addKnots (σ : fo_S) (i1 : Nat) (a2 : Int32) (a3 : Int32) : Option (fo_S) :=
  (fo_lp (q_Links_addKnots_L6 i1 a3) fo_FU (a2, (0 : Int32), σ)).bind (fun y6 => some y6.2.2)
set_option maxHeartbeats 4000000 in
set_option maxRecDepth 100000 in
theorem b_q_Links_addKnots {p : Program} {l : Launch} {e : Env} {R : Room} {s : State} {m : MethodId} {args : Array Value} {below : List Frame} {meth : Method} {c : Code} {Q : State → Prop} {D : va_G} {ca : Nat → ClassId} {ad : Nat → Nat} (C0 : fo_CX p s m args c cX4_addKnots 7 RX4 D ca ad) (hRf : 4 ≤ R.frames) (hRl : 90 ≤ R.locals) (hRc : 0 ≤ R.cells) {σ : fo_S} {i1 : Nat} {a2 : Int32} {a3 : Int32} (hi1 : i1 < 2) {res : fo_S} (h0 : q_Links_addKnots σ i1 a2 a3 = some res) (kr : ∀ (pc : Nat) (ls : Array Slot) (H : Heap) (locs : List Loc), decode cX4_addKnots pc = .ok (.return_, 1) → va_P D vwCl (fo_vx 51 ad (fo_ce ca ad res)) H → va_S (fo_A 51 ad s.heap.size) s.heap H locs → W p l e R s m args below meth c H locs 0 0 Q (F0 m pc ls [])) (hP : va_P D vwCl (fo_vx 51 ad (fo_ce ca ad σ)) s.heap) : W p l e R s m args below meth c s.heap [] 0 0 Q (entryFrame m ([.ref (ad (fo_lay 8 0)), .ref (ad (fo_lay 5 i1)), .int a2, .int a3] : List Value).toArray 7) := by
  obtain ⟨hx, hb, hml, hown, hT, hK, hD⟩ := C0
  have hN0 : (some res) ≠ none := fun q => by cases q
  unfold q_Links_addKnots at h0
  have hS : va_S (fo_A 51 ad s.heap.size) s.heap s.heap [] := va_S.rf
  have hl := lv_entry ([.ref (ad (fo_lay 8 0)), .ref (ad (fo_lay 5 i1)), .int a2, .int a3]) (n := 7) (Nat.le_of_ble_eq_true rfl)
  rw [lg_entry_eq]
  generalize (lg_sl ([.ref (ad (fo_lay 8 0)), .ref (ad (fo_lay 5 i1)), .int a2, .int a3]) ++ List.replicate (7 - (lg_sl ([.ref (ad (fo_lay 8 0)), .ref (ad (fo_lay 5 i1)), .int a2, .int a3])).length) Slot.unset).toArray = ls at hl ⊢
  have hl : lv_has ls 7 [(0, .ref (ad (fo_lay 8 0))), (1, .ref (ad (fo_lay 5 i1))), (2, .int a2), (3, .int a3)] := hl
  refine lv_iload_n hx hb dX4_addKnots_0 rfl (lv_at hl 2 rfl) ?_
  refine lv_istore (lv' := [(4, .int a2), (0, .ref (ad (fo_lay 8 0))), (1, .ref (ad (fo_lay 5 i1))), (2, .int a2), (3, .int a3)]) hx hb dX4_addKnots_1 hl (by decide) rfl (fun ls hl => ?_)
  refine lv_iconst (v := 0) hx hb dX4_addKnots_3 (by decide) ?_
  refine lv_istore (lv' := [(5, .int (0 : Int32)), (4, .int a2), (0, .ref (ad (fo_lay 8 0))), (1, .ref (ad (fo_lay 5 i1))), (2, .int a2), (3, .int a3)]) hx hb dX4_addKnots_4 hl (by decide) rfl (fun ls hl => ?_)
  obtain ⟨y6, hy6, h0⟩ := fo_bd h0 hN0
  have ex6 : ∀ (H : Heap) (locs : List Loc) (ls : Array Slot), va_P D vwCl (fo_vx 51 ad (fo_ce ca ad y6.2.2)) H → va_S (fo_A 51 ad s.heap.size) s.heap H locs → lv_has ls 7 [] → W p l e R s m args below meth c H locs 0 0 Q (F0 m 49 ls []) := by
    intro H locs ls hP hS hl
    have hr7 := Option.some.inj h0
    subst hr7
    exact kr _ ls _ _ dX4_addKnots_49 hP hS
  have lp6 := fo_lp_ind (fun (s6 : Int32 × Int32 × fo_S) => ∀ (H : Heap) (locs : List Loc) (ls : Array Slot), va_P D vwCl (fo_vx 51 ad (fo_ce ca ad s6.2.2)) H → va_S (fo_A 51 ad s.heap.size) s.heap H locs → lv_has ls 7 [(0, .ref (ad (fo_lay 8 0))), (1, .ref (ad (fo_lay 5 i1))), (3, .int a3), (4, .int s6.1), (5, .int s6.2.1)] → W p l e R s m args below meth c H locs 0 0 Q (F0 m 6 ls [])) (by
      intro s6 o1 h1 hN1 hL1 hE1 H locs ls hP hS hl
      unfold q_Links_addKnots_L6 at h1
      refine lv_iload hx hb dX4_addKnots_6 (lv_at hl 4 rfl) ?_
      refine lv_bipush (v := 16) hx hb dX4_addKnots_8 (by decide) ?_
      refine lv_icmp_ge (tgt := 49) hx hb dX4_addKnots_10 (by decide) (fun c1 => ?_) (fun c1 => ?_)
      · replace h1 := fo_itT c1 h1
        have hy2 := hE1 _ h1
        subst hy2
        exact ex6 _ _ ls hP hS (lv_sub hl [] rfl)
      · replace h1 := fo_itF c1 h1
        refine lv_iload hx hb dX4_addKnots_13 (lv_at hl 3 rfl) ?_
        refine lv_if_eq (tgt := 49) hx hb dX4_addKnots_15 (by decide) (fun c3 => ?_) (fun c3 => ?_)
        · replace h1 := fo_itT c3 h1
          have hy4 := hE1 _ h1
          subst hy4
          exact ex6 _ _ ls hP hS (lv_sub hl [] rfl)
        · replace h1 := fo_itF c3 h1
          refine lv_aload_n hx hb dX4_addKnots_18 rfl (lv_at hl 0 rfl) ?_
          refine lv_iload hx hb dX4_addKnots_19 (lv_at hl 3 rfl) ?_
          refine lv_iload_n hx hb dX4_addKnots_21 rfl (lv_at hl 2 rfl) ?_
          obtain ⟨x5, hx5, h1⟩ := fo_bd h1 hN1
          refine fo_calli (va_runV (H := _) (As := [.int s6.1, .int a3]) (rest := []) ⟨hx, hb, hml, hown, hT⟩ (c_q_Links_firstKnot l D ca ad _ hx5) (fo_c4_36 hT ⟨Nat.le_trans (Nat.le_of_ble_eq_true rfl) hRf, Nat.le_trans (Nat.le_of_ble_eq_true rfl) hRl⟩) ⟨fo_Pre_blind, fo_rc8 hK hP (by decide), fo_Pre_at hP hK (hD _)⟩ rfl rfl hl.1 rfl (lv_room (Nat.le_of_ble_eq_true rfl)) dX4_addKnots_22 ⟨Nat.zero_le _, Nat.zero_le _⟩) hS (fun H locs hP hS => ?_)
          refine lv_istore (lv' := [(6, .int x5), (0, .ref (ad (fo_lay 8 0))), (1, .ref (ad (fo_lay 5 i1))), (3, .int a3), (4, .int s6.1), (5, .int s6.2.1)]) hx hb dX4_addKnots_25 hl (by decide) rfl (fun ls hl => ?_)
          refine lv_aload_n hx hb dX4_addKnots_27 rfl (lv_at hl 2 rfl) ?_
          refine lv_iload hx hb dX4_addKnots_28 (lv_at hl 0 rfl) ?_
          refine lv_iload_n hx hb dX4_addKnots_30 rfl (lv_at hl 3 rfl) ?_
          obtain ⟨x6, hx6, h1⟩ := fo_bd h1 hN1
          refine fo_callv (va_runS (H := _) (As := [.ref (ad (fo_lay 5 i1)), .int x5, .int a3]) (rest := []) ⟨hx, hb, hml, hown, hT⟩ (c_q_Links_addSet l D ca ad _ hi1 hx6) (fo_c4_40 hT ⟨Nat.le_trans (Nat.le_of_ble_eq_true rfl) hRf, Nat.le_trans (Nat.le_of_ble_eq_true rfl) hRl⟩) ⟨fo_Pre_blind, fo_Pre_at hP hK (hD _)⟩ rfl rfl hl.1 rfl (lv_room (Nat.le_of_ble_eq_true rfl)) dX4_addKnots_31 ⟨Nat.zero_le _, Nat.zero_le _⟩) hS (fun H locs hP hS => ?_)
          refine lv_iload hx hb dX4_addKnots_34 (lv_at hl 4 rfl) ?_
          refine lv_iload hx hb dX4_addKnots_36 (lv_at hl 0 rfl) ?_
          refine lv_iconst (v := -1) hx hb dX4_addKnots_38 (by decide) ?_
          refine lv_ixor hx hb dX4_addKnots_39 ?_
          refine lv_iand hx hb dX4_addKnots_40 ?_
          refine lv_istore (lv' := [(4, .int (s6.1 &&& (x5 ^^^ (-1 : Int32)))), (6, .int x5), (0, .ref (ad (fo_lay 8 0))), (1, .ref (ad (fo_lay 5 i1))), (3, .int a3), (5, .int s6.2.1)]) hx hb dX4_addKnots_41 hl (by decide) rfl (fun ls hl => ?_)
          refine lv_iinc (v := s6.2.1 + (1 : Int32)) (lv' := [(5, .int (s6.2.1 + (1 : Int32))), (4, .int (s6.1 &&& (x5 ^^^ (-1 : Int32)))), (6, .int x5), (0, .ref (ad (fo_lay 8 0))), (1, .ref (ad (fo_lay 5 i1))), (3, .int a3)]) hx hb dX4_addKnots_43 hl (k := 5) rfl rfl (by decide) rfl (fun ls hl => ?_)
          refine lv_goto (tgt := 6) hx hb dX4_addKnots_46 (by decide) ?_
          exact hL1 _ h1 _ _ ls hP hS (lv_sub hl [3, 4, 5, 1, 0] rfl)) _ _ hy6
  exact lp6 _ _ ls hP hS (lv_sub hl [2, 3, 5, 1, 0] rfl)
theorem c_q_Links_addKnots (l : Launch) (D : va_G) (ca : Nat → ClassId) (ad : Nat → Nat) (sz : Nat) {σ : fo_S} {i1 : Nat} {a2 : Int32} {a3 : Int32} (hi1 : i1 < 2) {res : fo_S} (h0 : q_Links_addKnots σ i1 a2 a3 = some res) : Met l yX4_addKnots ws_q_Links_addKnots rm_q_Links_addKnots (fo_Pre 51 D vwCl (fo_tys ca) ad (fo_ce ca ad σ) sz [.ref (ad (fo_lay 8 0)), .ref (ad (fo_lay 5 i1)), .int a2, .int a3]) (fo_PoV 51 D vwCl (fo_tys ca) ad (fo_ce ca ad res) sz) 0 0 (fo_A 51 ad sz) :=
  fo_mkV (by decide) (fun C0 kr hP => b_q_Links_addKnots C0 (Nat.le_refl _) (Nat.le_refl _) (Nat.zero_le _) hi1 h0 kr hP)
def q_FairOrder_addByNumbers_L2  (s2 : Int32 × fo_S) : Option ((Int32 × fo_S) ⊕ (Int32 × fo_S)) :=
  if (s2.2.1 0 0 9) ≤ s2.1 then (some (.inr (s2.1, s2.2))) else (if fo_vi s2.1 16 then (if (s2.2.1 14 s2.1.toNatClampNeg 4) = 0 then (some (.inl (s2.1 + (1 : Int32), s2.2))) else ((q_Row_add s2.2 0 s2.1).bind (fun x5 => some (.inl (s2.1 + (1 : Int32), x5))))) else none)
def q_FairOrder_addByNumbers (σ : fo_S)  : Option (fo_S) :=
  (fo_lp (q_FairOrder_addByNumbers_L2) fo_FU ((0 : Int32), σ)).bind (fun y2 => some y2.2)
set_option maxHeartbeats 4000000 in
set_option maxRecDepth 100000 in
theorem b_q_FairOrder_addByNumbers {p : Program} {l : Launch} {e : Env} {R : Room} {s : State} {m : MethodId} {args : Array Value} {below : List Frame} {meth : Method} {c : Code} {Q : State → Prop} {D : va_G} {ca : Nat → ClassId} {ad : Nat → Nat} (C0 : fo_CX p s m args c cX0_addByNumbers 2 RX0 D ca ad) (hRf : 1 ≤ R.frames) (hRl : 21 ≤ R.locals) (hRc : 0 ≤ R.cells) {σ : fo_S}   {res : fo_S} (h0 : q_FairOrder_addByNumbers σ = some res) (kr : ∀ (pc : Nat) (ls : Array Slot) (H : Heap) (locs : List Loc), decode cX0_addByNumbers pc = .ok (.return_, 1) → va_P D vwCl (fo_vx 51 ad (fo_ce ca ad res)) H → va_S (fo_A 51 ad s.heap.size) s.heap H locs → W p l e R s m args below meth c H locs 0 0 Q (F0 m pc ls [])) (hP : va_P D vwCl (fo_vx 51 ad (fo_ce ca ad σ)) s.heap) : W p l e R s m args below meth c s.heap [] 0 0 Q (entryFrame m ([.ref (ad (fo_lay 0 0))] : List Value).toArray 2) := by
  obtain ⟨hx, hb, hml, hown, hT, hK, hD⟩ := C0
  have hN0 : (some res) ≠ none := fun q => by cases q
  unfold q_FairOrder_addByNumbers at h0
  have hS : va_S (fo_A 51 ad s.heap.size) s.heap s.heap [] := va_S.rf
  have hl := lv_entry ([.ref (ad (fo_lay 0 0))]) (n := 2) (Nat.le_of_ble_eq_true rfl)
  rw [lg_entry_eq]
  generalize (lg_sl ([.ref (ad (fo_lay 0 0))]) ++ List.replicate (2 - (lg_sl ([.ref (ad (fo_lay 0 0))])).length) Slot.unset).toArray = ls at hl ⊢
  have hl : lv_has ls 2 [(0, .ref (ad (fo_lay 0 0)))] := hl
  refine lv_iconst (v := 0) hx hb dX0_addByNumbers_0 (by decide) ?_
  refine lv_istore_n (lv' := [(1, .int (0 : Int32)), (0, .ref (ad (fo_lay 0 0)))]) hx hb dX0_addByNumbers_1 rfl hl (by decide) rfl (fun ls hl => ?_)
  obtain ⟨y2, hy2, h0⟩ := fo_bd h0 hN0
  have ex2 : ∀ (H : Heap) (locs : List Loc) (ls : Array Slot), va_P D vwCl (fo_vx 51 ad (fo_ce ca ad y2.2)) H → va_S (fo_A 51 ad s.heap.size) s.heap H locs → lv_has ls 2 [] → W p l e R s m args below meth c H locs 0 0 Q (F0 m 36 ls []) := by
    intro H locs ls hP hS hl
    have hr6 := Option.some.inj h0
    subst hr6
    exact kr _ ls _ _ dX0_addByNumbers_36 hP hS
  have lp2 := fo_lp_ind (fun (s2 : Int32 × fo_S) => ∀ (H : Heap) (locs : List Loc) (ls : Array Slot), va_P D vwCl (fo_vx 51 ad (fo_ce ca ad s2.2)) H → va_S (fo_A 51 ad s.heap.size) s.heap H locs → lv_has ls 2 [(0, .ref (ad (fo_lay 0 0))), (1, .int s2.1)] → W p l e R s m args below meth c H locs 0 0 Q (F0 m 2 ls [])) (by
      intro s2 o1 h1 hN1 hL1 hE1 H locs ls hP hS hl
      unfold q_FairOrder_addByNumbers_L2 at h1
      refine lv_iload_n hx hb dX0_addByNumbers_2 rfl (lv_at hl 1 rfl) ?_
      refine lv_aload_n hx hb dX0_addByNumbers_3 rfl (lv_at hl 0 rfl) ?_
      refine fo_g0_96 hx hb hT hown hK hP (by decide) dX0_addByNumbers_4 ?_
      refine lv_icmp_ge (tgt := 36) hx hb dX0_addByNumbers_7 (by decide) (fun c1 => ?_) (fun c1 => ?_)
      · replace h1 := fo_itT c1 h1
        have hy2 := hE1 _ h1
        subst hy2
        exact ex2 _ _ ls hP hS (lv_sub hl [] rfl)
      · replace h1 := fo_itF c1 h1
        refine lv_aload_n hx hb dX0_addByNumbers_10 rfl (lv_at hl 0 rfl) ?_
        refine fo_g0_21 hx hb hT hown hK hP (by decide) dX0_addByNumbers_11 ?_
        refine lv_iload_n hx hb dX0_addByNumbers_14 rfl (lv_at hl 1 rfl) ?_
        obtain ⟨g3, h1⟩ := fo_gd h1 hN1
        refine fo_aald_4 hx hb hK hP (by decide) g3 dX0_addByNumbers_15 ?_
        refine fo_g0_114 hx hb hT hown hK hP (fo_in g3) dX0_addByNumbers_16 ?_
        refine lv_if_eq (tgt := 30) hx hb dX0_addByNumbers_19 (by decide) (fun c4 => ?_) (fun c4 => ?_)
        · replace h1 := fo_itT c4 h1
          refine lv_iinc (v := s2.1 + (1 : Int32)) (lv' := [(1, .int (s2.1 + (1 : Int32))), (0, .ref (ad (fo_lay 0 0)))]) hx hb dX0_addByNumbers_30 hl (k := 1) rfl rfl (by decide) rfl (fun ls hl => ?_)
          refine lv_goto (tgt := 2) hx hb dX0_addByNumbers_33 (by decide) ?_
          exact hL1 _ h1 _ _ ls hP hS (lv_sub hl [1, 0] rfl)
        · replace h1 := fo_itF c4 h1
          refine lv_aload_n hx hb dX0_addByNumbers_22 rfl (lv_at hl 0 rfl) ?_
          refine fo_g0_28 hx hb hT hown hK hP (by decide) dX0_addByNumbers_23 ?_
          refine lv_iload_n hx hb dX0_addByNumbers_26 rfl (lv_at hl 1 rfl) ?_
          obtain ⟨x5, hx5, h1⟩ := fo_bd h1 hN1
          refine fo_callv (va_runV (H := _) (As := [.int s2.1]) (rest := []) ⟨hx, hb, hml, hown, hT⟩ (c_q_Row_add l D ca ad _ (by decide) hx5) (fo_c0_248 hT ⟨Nat.le_trans (Nat.le_of_ble_eq_true rfl) hRf, Nat.le_trans (Nat.le_of_ble_eq_true rfl) hRl⟩) ⟨fo_Pre_blind, fo_rc5 hK hP (by decide), fo_Pre_at hP hK (hD _)⟩ rfl rfl hl.1 rfl (lv_room (Nat.le_of_ble_eq_true rfl)) dX0_addByNumbers_27 ⟨Nat.zero_le _, Nat.zero_le _⟩) hS (fun H locs hP hS => ?_)
          refine lv_iinc (v := s2.1 + (1 : Int32)) (lv' := [(1, .int (s2.1 + (1 : Int32))), (0, .ref (ad (fo_lay 0 0)))]) hx hb dX0_addByNumbers_30 hl (k := 1) rfl rfl (by decide) rfl (fun ls hl => ?_)
          refine lv_goto (tgt := 2) hx hb dX0_addByNumbers_33 (by decide) ?_
          exact hL1 _ h1 _ _ ls hP hS (lv_sub hl [1, 0] rfl)) _ _ hy2
  exact lp2 _ _ ls hP hS (lv_sub hl [1, 0] rfl)
theorem c_q_FairOrder_addByNumbers (l : Launch) (D : va_G) (ca : Nat → ClassId) (ad : Nat → Nat) (sz : Nat) {σ : fo_S}   {res : fo_S} (h0 : q_FairOrder_addByNumbers σ = some res) : Met l yX0_addByNumbers ws_q_FairOrder_addByNumbers rm_q_FairOrder_addByNumbers (fo_Pre 51 D vwCl (fo_tys ca) ad (fo_ce ca ad σ) sz [.ref (ad (fo_lay 0 0))]) (fo_PoV 51 D vwCl (fo_tys ca) ad (fo_ce ca ad res) sz) 0 0 (fo_A 51 ad sz) :=
  fo_mkV (by decide) (fun C0 kr hP => b_q_FairOrder_addByNumbers C0 (Nat.le_refl _) (Nat.le_refl _) (Nat.zero_le _)  h0 kr hP)
def q_Row_swap (σ : fo_S) (i0 : Nat) (a1 : Int32) (a2 : Int32) : Option (fo_S) :=
  if fo_vi a1 16 then ( if fo_vi a2 16 then ( if fo_vi a1 16 then ( if fo_vi a2 16 then (some (fo_pI (fo_pI σ 6 i0 a1.toNatClampNeg (σ.1 6 i0 a2.toNatClampNeg)) 6 i0 a2.toNatClampNeg (σ.1 6 i0 a1.toNatClampNeg))) else none) else none) else none) else none
set_option maxHeartbeats 4000000 in
set_option maxRecDepth 100000 in
theorem b_q_Row_swap {p : Program} {l : Launch} {e : Env} {R : Room} {s : State} {m : MethodId} {args : Array Value} {below : List Frame} {meth : Method} {c : Code} {Q : State → Prop} {D : va_G} {ca : Nat → ClassId} {ad : Nat → Nat} (C0 : fo_CX p s m args c cX3_swap 4 RX3 D ca ad) (hRf : 0 ≤ R.frames) (hRl : 0 ≤ R.locals) (hRc : 0 ≤ R.cells) {σ : fo_S} {i0 : Nat} {a1 : Int32} {a2 : Int32} (hi0 : i0 < 2) {res : fo_S} (h0 : q_Row_swap σ i0 a1 a2 = some res) (kr : ∀ (pc : Nat) (ls : Array Slot) (H : Heap) (locs : List Loc), decode cX3_swap pc = .ok (.return_, 1) → va_P D vwCl (fo_vx 51 ad (fo_ce ca ad res)) H → va_S (fo_A 51 ad s.heap.size) s.heap H locs → W p l e R s m args below meth c H locs 0 0 Q (F0 m pc ls [])) (hP : va_P D vwCl (fo_vx 51 ad (fo_ce ca ad σ)) s.heap) : W p l e R s m args below meth c s.heap [] 0 0 Q (entryFrame m ([.ref (ad (fo_lay 5 i0)), .int a1, .int a2] : List Value).toArray 4) := by
  obtain ⟨hx, hb, hml, hown, hT, hK, hD⟩ := C0
  have hN0 : (some res) ≠ none := fun q => by cases q
  unfold q_Row_swap at h0
  have hS : va_S (fo_A 51 ad s.heap.size) s.heap s.heap [] := va_S.rf
  have hl := lv_entry ([.ref (ad (fo_lay 5 i0)), .int a1, .int a2]) (n := 4) (Nat.le_of_ble_eq_true rfl)
  rw [lg_entry_eq]
  generalize (lg_sl ([.ref (ad (fo_lay 5 i0)), .int a1, .int a2]) ++ List.replicate (4 - (lg_sl ([.ref (ad (fo_lay 5 i0)), .int a1, .int a2])).length) Slot.unset).toArray = ls at hl ⊢
  have hl : lv_has ls 4 [(0, .ref (ad (fo_lay 5 i0))), (1, .int a1), (2, .int a2)] := hl
  refine lv_aload_n hx hb dX3_swap_0 rfl (lv_at hl 0 rfl) ?_
  refine fo_g3_9 hx hb hT hown hK hP hi0 dX3_swap_1 ?_
  refine lv_iload_n hx hb dX3_swap_4 rfl (lv_at hl 1 rfl) ?_
  obtain ⟨g1, h0⟩ := fo_gd h0 hN0
  refine fo_iald (k := 6) (n := 16) hx hb hK hP (by decide) hi0 (fun _ _ => rfl) g1 dX3_swap_5 ?_
  refine lv_istore_n (lv' := [(3, .int (σ.1 6 i0 a1.toNatClampNeg)), (0, .ref (ad (fo_lay 5 i0))), (1, .int a1), (2, .int a2)]) hx hb dX3_swap_6 rfl hl (by decide) rfl (fun ls hl => ?_)
  refine lv_aload_n hx hb dX3_swap_7 rfl (lv_at hl 1 rfl) ?_
  refine fo_g3_9 hx hb hT hown hK hP hi0 dX3_swap_8 ?_
  refine lv_iload_n hx hb dX3_swap_11 rfl (lv_at hl 2 rfl) ?_
  refine lv_aload_n hx hb dX3_swap_12 rfl (lv_at hl 1 rfl) ?_
  refine fo_g3_9 hx hb hT hown hK hP hi0 dX3_swap_13 ?_
  refine lv_iload_n hx hb dX3_swap_16 rfl (lv_at hl 3 rfl) ?_
  obtain ⟨g2, h0⟩ := fo_gd h0 hN0
  refine fo_iald (k := 6) (n := 16) hx hb hK hP (by decide) hi0 (fun _ _ => rfl) g2 dX3_swap_17 ?_
  obtain ⟨g3, h0⟩ := fo_gd h0 hN0
  refine fo_iast (k := 6) (n := 16) hx hb hK hP hD hS (by decide) hi0 (fun _ _ => rfl) g3 dX3_swap_18 (fun H locs hP hS => ?_)
  refine lv_aload_n hx hb dX3_swap_19 rfl (lv_at hl 1 rfl) ?_
  refine fo_g3_9 hx hb hT hown hK hP hi0 dX3_swap_20 ?_
  refine lv_iload_n hx hb dX3_swap_23 rfl (lv_at hl 3 rfl) ?_
  refine lv_iload_n hx hb dX3_swap_24 rfl (lv_at hl 0 rfl) ?_
  obtain ⟨g4, h0⟩ := fo_gd h0 hN0
  refine fo_iast (k := 6) (n := 16) hx hb hK hP hD hS (by decide) hi0 (fun _ _ => rfl) g4 dX3_swap_25 (fun H locs hP hS => ?_)
  have hr5 := Option.some.inj h0
  subst hr5
  exact kr _ ls _ _ dX3_swap_26 hP hS
theorem c_q_Row_swap (l : Launch) (D : va_G) (ca : Nat → ClassId) (ad : Nat → Nat) (sz : Nat) {σ : fo_S} {i0 : Nat} {a1 : Int32} {a2 : Int32} (hi0 : i0 < 2) {res : fo_S} (h0 : q_Row_swap σ i0 a1 a2 = some res) : Met l yX3_swap ws_q_Row_swap rm_q_Row_swap (fo_Pre 51 D vwCl (fo_tys ca) ad (fo_ce ca ad σ) sz [.ref (ad (fo_lay 5 i0)), .int a1, .int a2]) (fo_PoV 51 D vwCl (fo_tys ca) ad (fo_ce ca ad res) sz) 0 0 (fo_A 51 ad sz) :=
  fo_mkV (by decide) (fun C0 kr hP => b_q_Row_swap C0 (Nat.le_refl _) (Nat.le_refl _) (Nat.zero_le _) hi0 h0 kr hP)
def q_Row_shuffle_L10 (i0 : Nat) (s10 : Int64 × Int32 × fo_S) : Option ((Int64 × Int32 × fo_S) ⊕ (Int64 × Int32 × fo_S)) :=
  if s10.2.1 < (1 : Int32) then (some (.inr (s10.1, s10.2.1, s10.2.2))) else (if ¬ ((s10.2.1 + (1 : Int32)).toInt64) = 0 then ( (q_Row_swap s10.2.2 i0 s10.2.1 ((((((s10.1 * (6364136223846793005 : Int64)) + (1442695040888963407 : Int64)).toUInt64 >>> ((33 : Int32).toInt64.toUInt64 &&& Int64.toUInt64 63)).toInt64) - ((((s10.1 * (6364136223846793005 : Int64)) + (1442695040888963407 : Int64)).toUInt64 >>> ((33 : Int32).toInt64.toUInt64 &&& Int64.toUInt64 63)).toInt64) / ((s10.2.1 + (1 : Int32)).toInt64) * ((s10.2.1 + (1 : Int32)).toInt64)).toInt32)).bind (fun x4 => some (.inl ((s10.1 * (6364136223846793005 : Int64)) + (1442695040888963407 : Int64), s10.2.1 + (-1 : Int32), x4)))) else none)
def q_Row_shuffle (σ : fo_S) (i0 : Nat) (a1 : Int64) : Option (fo_S) :=
  (fo_lp (q_Row_shuffle_L10 i0) fo_FU (a1, (σ.1 5 i0 1) - (1 : Int32), σ)).bind (fun y10 => some y10.2.2)
set_option maxHeartbeats 4000000 in
set_option maxRecDepth 100000 in
theorem b_q_Row_shuffle {p : Program} {l : Launch} {e : Env} {R : Room} {s : State} {m : MethodId} {args : Array Value} {below : List Frame} {meth : Method} {c : Code} {Q : State → Prop} {D : va_G} {ca : Nat → ClassId} {ad : Nat → Nat} (C0 : fo_CX p s m args c cX3_shuffle 6 RX3 D ca ad) (hRf : 1 ≤ R.frames) (hRl : 23 ≤ R.locals) (hRc : 0 ≤ R.cells) {σ : fo_S} {i0 : Nat} {a1 : Int64} (hi0 : i0 < 2) {res : fo_S} (h0 : q_Row_shuffle σ i0 a1 = some res) (kr : ∀ (pc : Nat) (ls : Array Slot) (H : Heap) (locs : List Loc), decode cX3_shuffle pc = .ok (.return_, 1) → va_P D vwCl (fo_vx 51 ad (fo_ce ca ad res)) H → va_S (fo_A 51 ad s.heap.size) s.heap H locs → W p l e R s m args below meth c H locs 0 0 Q (F0 m pc ls [])) (hP : va_P D vwCl (fo_vx 51 ad (fo_ce ca ad σ)) s.heap) : W p l e R s m args below meth c s.heap [] 0 0 Q (entryFrame m ([.ref (ad (fo_lay 5 i0)), .long a1] : List Value).toArray 6) := by
  obtain ⟨hx, hb, hml, hown, hT, hK, hD⟩ := C0
  have hN0 : (some res) ≠ none := fun q => by cases q
  unfold q_Row_shuffle at h0
  have hS : va_S (fo_A 51 ad s.heap.size) s.heap s.heap [] := va_S.rf
  have hl := lv_entry ([.ref (ad (fo_lay 5 i0)), .long a1]) (n := 6) (Nat.le_of_ble_eq_true rfl)
  rw [lg_entry_eq]
  generalize (lg_sl ([.ref (ad (fo_lay 5 i0)), .long a1]) ++ List.replicate (6 - (lg_sl ([.ref (ad (fo_lay 5 i0)), .long a1])).length) Slot.unset).toArray = ls at hl ⊢
  have hl : lv_has ls 6 [(0, .ref (ad (fo_lay 5 i0))), (1, .long a1)] := hl
  refine lv_lload_n hx hb dX3_shuffle_0 rfl (lv_at hl 1 rfl) ?_
  refine lv_lstore_n (lv' := [(3, .long a1), (0, .ref (ad (fo_lay 5 i0))), (1, .long a1)]) hx hb dX3_shuffle_1 rfl hl (by decide) rfl (fun ls hl => ?_)
  refine lv_aload_n hx hb dX3_shuffle_2 rfl (lv_at hl 1 rfl) ?_
  refine fo_g3_15 hx hb hT hown hK hP hi0 dX3_shuffle_3 ?_
  refine lv_iconst (v := 1) hx hb dX3_shuffle_6 (by decide) ?_
  refine lv_isub hx hb dX3_shuffle_7 ?_
  refine lv_istore (lv' := [(5, .int ((σ.1 5 i0 1) - (1 : Int32))), (3, .long a1), (0, .ref (ad (fo_lay 5 i0))), (1, .long a1)]) hx hb dX3_shuffle_8 hl (by decide) rfl (fun ls hl => ?_)
  obtain ⟨y10, hy10, h0⟩ := fo_bd h0 hN0
  have ex10 : ∀ (H : Heap) (locs : List Loc) (ls : Array Slot), va_P D vwCl (fo_vx 51 ad (fo_ce ca ad y10.2.2)) H → va_S (fo_A 51 ad s.heap.size) s.heap H locs → lv_has ls 6 [] → W p l e R s m args below meth c H locs 0 0 Q (F0 m 49 ls []) := by
    intro H locs ls hP hS hl
    have hr5 := Option.some.inj h0
    subst hr5
    exact kr _ ls _ _ dX3_shuffle_49 hP hS
  have lp10 := fo_lp_ind (fun (s10 : Int64 × Int32 × fo_S) => ∀ (H : Heap) (locs : List Loc) (ls : Array Slot), va_P D vwCl (fo_vx 51 ad (fo_ce ca ad s10.2.2)) H → va_S (fo_A 51 ad s.heap.size) s.heap H locs → lv_has ls 6 [(0, .ref (ad (fo_lay 5 i0))), (3, .long s10.1), (5, .int s10.2.1)] → W p l e R s m args below meth c H locs 0 0 Q (F0 m 10 ls [])) (by
      intro s10 o1 h1 hN1 hL1 hE1 H locs ls hP hS hl
      unfold q_Row_shuffle_L10 at h1
      refine lv_iload hx hb dX3_shuffle_10 (lv_at hl 2 rfl) ?_
      refine lv_iconst (v := 1) hx hb dX3_shuffle_12 (by decide) ?_
      refine lv_icmp_lt (tgt := 49) hx hb dX3_shuffle_13 (by decide) (fun c1 => ?_) (fun c1 => ?_)
      · replace h1 := fo_itT c1 h1
        have hy2 := hE1 _ h1
        subst hy2
        exact ex10 _ _ ls hP hS (lv_sub hl [] rfl)
      · replace h1 := fo_itF c1 h1
        refine lv_lload_n hx hb dX3_shuffle_16 rfl (lv_at hl 1 rfl) ?_
        refine lv_ldc2 (v := 6364136223846793005) hx hb hown (fo_k3_29 hT) dX3_shuffle_17 ?_
        refine lv_lmul hx hb dX3_shuffle_20 ?_
        refine lv_ldc2 (v := 1442695040888963407) hx hb hown (fo_k3_31 hT) dX3_shuffle_21 ?_
        refine lv_ladd hx hb dX3_shuffle_24 ?_
        refine lv_lstore_n (lv' := [(3, .long ((s10.1 * (6364136223846793005 : Int64)) + (1442695040888963407 : Int64))), (0, .ref (ad (fo_lay 5 i0))), (5, .int s10.2.1)]) hx hb dX3_shuffle_25 rfl hl (by decide) rfl (fun ls hl => ?_)
        refine lv_aload_n hx hb dX3_shuffle_26 rfl (lv_at hl 1 rfl) ?_
        refine lv_iload hx hb dX3_shuffle_27 (lv_at hl 2 rfl) ?_
        refine lv_lload_n hx hb dX3_shuffle_29 rfl (lv_at hl 0 rfl) ?_
        refine lv_bipush (v := 33) hx hb dX3_shuffle_30 (by decide) ?_
        refine lv_lushr hx hb dX3_shuffle_32 rfl ?_
        refine lv_iload hx hb dX3_shuffle_33 (lv_at hl 2 rfl) ?_
        refine lv_iconst (v := 1) hx hb dX3_shuffle_35 (by decide) ?_
        refine lv_iadd hx hb dX3_shuffle_36 ?_
        refine lv_i2l hx hb dX3_shuffle_37 rfl ?_
        obtain ⟨g3, h1⟩ := fo_gd h1 hN1
        refine lv_lrem hx hb dX3_shuffle_38 g3 ?_
        refine lv_l2i hx hb dX3_shuffle_39 rfl ?_
        obtain ⟨x4, hx4, h1⟩ := fo_bd h1 hN1
        refine fo_callv (va_runV (H := _) (As := [.int s10.2.1, .int ((((((s10.1 * (6364136223846793005 : Int64)) + (1442695040888963407 : Int64)).toUInt64 >>> ((33 : Int32).toInt64.toUInt64 &&& Int64.toUInt64 63)).toInt64) - ((((s10.1 * (6364136223846793005 : Int64)) + (1442695040888963407 : Int64)).toUInt64 >>> ((33 : Int32).toInt64.toUInt64 &&& Int64.toUInt64 63)).toInt64) / ((s10.2.1 + (1 : Int32)).toInt64) * ((s10.2.1 + (1 : Int32)).toInt64)).toInt32)]) (rest := []) ⟨hx, hb, hml, hown, hT⟩ (c_q_Row_swap l D ca ad _ hi0 hx4) (fo_c3_25 hT ⟨Nat.le_trans (Nat.le_of_ble_eq_true rfl) hRf, Nat.le_trans (Nat.le_of_ble_eq_true rfl) hRl⟩) ⟨fo_Pre_blind, fo_rc5 hK hP hi0, fo_Pre_at hP hK (hD _)⟩ rfl rfl hl.1 rfl (lv_room (Nat.le_of_ble_eq_true rfl)) dX3_shuffle_40 ⟨Nat.zero_le _, Nat.zero_le _⟩) hS (fun H locs hP hS => ?_)
        refine lv_iinc (v := s10.2.1 + (-1 : Int32)) (lv' := [(5, .int (s10.2.1 + (-1 : Int32))), (3, .long ((s10.1 * (6364136223846793005 : Int64)) + (1442695040888963407 : Int64))), (0, .ref (ad (fo_lay 5 i0)))]) hx hb dX3_shuffle_43 hl (k := 2) rfl rfl (by decide) rfl (fun ls hl => ?_)
        refine lv_goto (tgt := 10) hx hb dX3_shuffle_46 (by decide) ?_
        exact hL1 _ h1 _ _ ls hP hS (lv_sub hl [2, 1, 0] rfl)) _ _ hy10
  exact lp10 _ _ ls hP hS (lv_sub hl [2, 1, 0] rfl)
theorem c_q_Row_shuffle (l : Launch) (D : va_G) (ca : Nat → ClassId) (ad : Nat → Nat) (sz : Nat) {σ : fo_S} {i0 : Nat} {a1 : Int64} (hi0 : i0 < 2) {res : fo_S} (h0 : q_Row_shuffle σ i0 a1 = some res) : Met l yX3_shuffle ws_q_Row_shuffle rm_q_Row_shuffle (fo_Pre 51 D vwCl (fo_tys ca) ad (fo_ce ca ad σ) sz [.ref (ad (fo_lay 5 i0)), .long a1]) (fo_PoV 51 D vwCl (fo_tys ca) ad (fo_ce ca ad res) sz) 0 0 (fo_A 51 ad sz) :=
  fo_mkV (by decide) (fun C0 kr hP => b_q_Row_shuffle C0 (Nat.le_refl _) (Nat.le_refl _) (Nat.zero_le _) hi0 h0 kr hP)
def q_Call_nodesBefore_L4 (σ : fo_S) (i0 : Nat) (a1 : Int32) (s4 : Int32 × Int32) : Option ((Int32 × Int32) ⊕ (Int32 × Int32)) :=
  if (5 : Int32) ≤ s4.2 then (some (.inr (s4.1, s4.2))) else (if fo_vi s4.2 5 then ( if fo_vi a1 5 then (if (σ.1 15 i0 s4.2.toNatClampNeg) < (σ.1 15 i0 a1.toNatClampNeg) then (some (.inl (s4.1 + (1 : Int32), s4.2 + (1 : Int32)))) else (if fo_vi s4.2 5 then ( if fo_vi a1 5 then (if (σ.1 15 i0 s4.2.toNatClampNeg) = (σ.1 15 i0 a1.toNatClampNeg) then (if a1 ≤ s4.2 then (some (.inl (s4.1, s4.2 + (1 : Int32)))) else (some (.inl (s4.1 + (1 : Int32), s4.2 + (1 : Int32))))) else (some (.inl (s4.1, s4.2 + (1 : Int32))))) else none) else none)) else none) else none)
def q_Call_nodesBefore (σ : fo_S) (i0 : Nat) (a1 : Int32) : Option (Int32) :=
  (fo_lp (q_Call_nodesBefore_L4 σ i0 a1) fo_FU ((0 : Int32), (0 : Int32))).bind (fun y4 => some y4.1)
set_option maxHeartbeats 4000000 in
set_option maxRecDepth 100000 in
theorem b_q_Call_nodesBefore {p : Program} {l : Launch} {e : Env} {R : Room} {s : State} {m : MethodId} {args : Array Value} {below : List Frame} {meth : Method} {c : Code} {Q : State → Prop} {D : va_G} {ca : Nat → ClassId} {ad : Nat → Nat} (C0 : fo_CX p s m args c cX1_nodesBefore 4 RX1 D ca ad) (hRf : 0 ≤ R.frames) (hRl : 0 ≤ R.locals) (hRc : 0 ≤ R.cells) {σ : fo_S} {i0 : Nat} {a1 : Int32} (hi0 : i0 < 16) {res : Int32} (h0 : q_Call_nodesBefore σ i0 a1 = some res) (kr : ∀ (pc : Nat) (ls : Array Slot) (H : Heap) (locs : List Loc), decode cX1_nodesBefore pc = .ok (.ireturn, 1) → va_P D vwCl (fo_vx 51 ad (fo_ce ca ad σ)) H → va_S (fo_A 51 ad s.heap.size) s.heap H locs → W p l e R s m args below meth c H locs 0 0 Q (F0 m pc ls [.int res])) (hP : va_P D vwCl (fo_vx 51 ad (fo_ce ca ad σ)) s.heap) : W p l e R s m args below meth c s.heap [] 0 0 Q (entryFrame m ([.ref (ad (fo_lay 14 i0)), .int a1] : List Value).toArray 4) := by
  obtain ⟨hx, hb, hml, hown, hT, hK, hD⟩ := C0
  have hN0 : (some res) ≠ none := fun q => by cases q
  unfold q_Call_nodesBefore at h0
  have hS : va_S (fo_A 51 ad s.heap.size) s.heap s.heap [] := va_S.rf
  have hl := lv_entry ([.ref (ad (fo_lay 14 i0)), .int a1]) (n := 4) (Nat.le_of_ble_eq_true rfl)
  rw [lg_entry_eq]
  generalize (lg_sl ([.ref (ad (fo_lay 14 i0)), .int a1]) ++ List.replicate (4 - (lg_sl ([.ref (ad (fo_lay 14 i0)), .int a1])).length) Slot.unset).toArray = ls at hl ⊢
  have hl : lv_has ls 4 [(0, .ref (ad (fo_lay 14 i0))), (1, .int a1)] := hl
  refine lv_iconst (v := 0) hx hb dX1_nodesBefore_0 (by decide) ?_
  refine lv_istore_n (lv' := [(2, .int (0 : Int32)), (0, .ref (ad (fo_lay 14 i0))), (1, .int a1)]) hx hb dX1_nodesBefore_1 rfl hl (by decide) rfl (fun ls hl => ?_)
  refine lv_iconst (v := 0) hx hb dX1_nodesBefore_2 (by decide) ?_
  refine lv_istore_n (lv' := [(3, .int (0 : Int32)), (2, .int (0 : Int32)), (0, .ref (ad (fo_lay 14 i0))), (1, .int a1)]) hx hb dX1_nodesBefore_3 rfl hl (by decide) rfl (fun ls hl => ?_)
  obtain ⟨y4, hy4, h0⟩ := fo_bd h0 hN0
  have ex4 : ∀ (H : Heap) (locs : List Loc) (ls : Array Slot), va_P D vwCl (fo_vx 51 ad (fo_ce ca ad σ)) H → va_S (fo_A 51 ad s.heap.size) s.heap H locs → lv_has ls 4 [(2, .int y4.1)] → W p l e R s m args below meth c H locs 0 0 Q (F0 m 53 ls []) := by
    intro H locs ls hP hS hl
    refine lv_iload_n hx hb dX1_nodesBefore_53 rfl (lv_at hl 0 rfl) ?_
    have hr10 := Option.some.inj h0
    subst hr10
    exact kr _ ls _ _ dX1_nodesBefore_54 hP hS
  have lp4 := fo_lp_ind (fun (s4 : Int32 × Int32) => ∀ (H : Heap) (locs : List Loc) (ls : Array Slot), va_P D vwCl (fo_vx 51 ad (fo_ce ca ad σ)) H → va_S (fo_A 51 ad s.heap.size) s.heap H locs → lv_has ls 4 [(0, .ref (ad (fo_lay 14 i0))), (1, .int a1), (2, .int s4.1), (3, .int s4.2)] → W p l e R s m args below meth c H locs 0 0 Q (F0 m 4 ls [])) (by
      intro s4 o1 h1 hN1 hL1 hE1 H locs ls hP hS hl
      unfold q_Call_nodesBefore_L4 at h1
      refine lv_iload_n hx hb dX1_nodesBefore_4 rfl (lv_at hl 3 rfl) ?_
      refine lv_iconst (v := 5) hx hb dX1_nodesBefore_5 (by decide) ?_
      refine lv_icmp_ge (tgt := 53) hx hb dX1_nodesBefore_6 (by decide) (fun c1 => ?_) (fun c1 => ?_)
      · replace h1 := fo_itT c1 h1
        have hy2 := hE1 _ h1
        subst hy2
        exact ex4 _ _ ls hP hS (lv_sub hl [2] rfl)
      · replace h1 := fo_itF c1 h1
        refine lv_aload_n hx hb dX1_nodesBefore_9 rfl (lv_at hl 0 rfl) ?_
        refine fo_g1_9 hx hb hT hown hK hP hi0 dX1_nodesBefore_10 ?_
        refine lv_iload_n hx hb dX1_nodesBefore_13 rfl (lv_at hl 3 rfl) ?_
        obtain ⟨g3, h1⟩ := fo_gd h1 hN1
        refine fo_iald (k := 15) (n := 5) hx hb hK hP (by decide) hi0 (fun _ _ => rfl) g3 dX1_nodesBefore_14 ?_
        refine lv_aload_n hx hb dX1_nodesBefore_15 rfl (lv_at hl 0 rfl) ?_
        refine fo_g1_9 hx hb hT hown hK hP hi0 dX1_nodesBefore_16 ?_
        refine lv_iload_n hx hb dX1_nodesBefore_19 rfl (lv_at hl 1 rfl) ?_
        obtain ⟨g4, h1⟩ := fo_gd h1 hN1
        refine fo_iald (k := 15) (n := 5) hx hb hK hP (by decide) hi0 (fun _ _ => rfl) g4 dX1_nodesBefore_20 ?_
        refine lv_icmp_lt (tgt := 44) hx hb dX1_nodesBefore_21 (by decide) (fun c5 => ?_) (fun c5 => ?_)
        · replace h1 := fo_itT c5 h1
          refine lv_iinc (v := s4.1 + (1 : Int32)) (lv' := [(2, .int (s4.1 + (1 : Int32))), (0, .ref (ad (fo_lay 14 i0))), (1, .int a1), (3, .int s4.2)]) hx hb dX1_nodesBefore_44 hl (k := 2) rfl rfl (by decide) rfl (fun ls hl => ?_)
          refine lv_iinc (v := s4.2 + (1 : Int32)) (lv' := [(3, .int (s4.2 + (1 : Int32))), (2, .int (s4.1 + (1 : Int32))), (0, .ref (ad (fo_lay 14 i0))), (1, .int a1)]) hx hb dX1_nodesBefore_47 hl (k := 3) rfl rfl (by decide) rfl (fun ls hl => ?_)
          refine lv_goto (tgt := 4) hx hb dX1_nodesBefore_50 (by decide) ?_
          exact hL1 _ h1 _ _ ls hP hS (lv_sub hl [2, 3, 1, 0] rfl)
        · replace h1 := fo_itF c5 h1
          refine lv_aload_n hx hb dX1_nodesBefore_24 rfl (lv_at hl 0 rfl) ?_
          refine fo_g1_9 hx hb hT hown hK hP hi0 dX1_nodesBefore_25 ?_
          refine lv_iload_n hx hb dX1_nodesBefore_28 rfl (lv_at hl 3 rfl) ?_
          obtain ⟨g6, h1⟩ := fo_gd h1 hN1
          refine fo_iald (k := 15) (n := 5) hx hb hK hP (by decide) hi0 (fun _ _ => rfl) g6 dX1_nodesBefore_29 ?_
          refine lv_aload_n hx hb dX1_nodesBefore_30 rfl (lv_at hl 0 rfl) ?_
          refine fo_g1_9 hx hb hT hown hK hP hi0 dX1_nodesBefore_31 ?_
          refine lv_iload_n hx hb dX1_nodesBefore_34 rfl (lv_at hl 1 rfl) ?_
          obtain ⟨g7, h1⟩ := fo_gd h1 hN1
          refine fo_iald (k := 15) (n := 5) hx hb hK hP (by decide) hi0 (fun _ _ => rfl) g7 dX1_nodesBefore_35 ?_
          refine lv_icmp_ne (tgt := 47) hx hb dX1_nodesBefore_36 (by decide) (fun c8 => ?_) (fun c8 => ?_)
          · replace h1 := fo_itF c8 h1
            refine lv_iinc (v := s4.2 + (1 : Int32)) (lv' := [(3, .int (s4.2 + (1 : Int32))), (0, .ref (ad (fo_lay 14 i0))), (1, .int a1), (2, .int s4.1)]) hx hb dX1_nodesBefore_47 hl (k := 3) rfl rfl (by decide) rfl (fun ls hl => ?_)
            refine lv_goto (tgt := 4) hx hb dX1_nodesBefore_50 (by decide) ?_
            exact hL1 _ h1 _ _ ls hP hS (lv_sub hl [1, 2, 3, 0] rfl)
          · replace h1 := fo_itT c8 h1
            refine lv_iload_n hx hb dX1_nodesBefore_39 rfl (lv_at hl 3 rfl) ?_
            refine lv_iload_n hx hb dX1_nodesBefore_40 rfl (lv_at hl 1 rfl) ?_
            refine lv_icmp_ge (tgt := 47) hx hb dX1_nodesBefore_41 (by decide) (fun c9 => ?_) (fun c9 => ?_)
            · replace h1 := fo_itT c9 h1
              refine lv_iinc (v := s4.2 + (1 : Int32)) (lv' := [(3, .int (s4.2 + (1 : Int32))), (0, .ref (ad (fo_lay 14 i0))), (1, .int a1), (2, .int s4.1)]) hx hb dX1_nodesBefore_47 hl (k := 3) rfl rfl (by decide) rfl (fun ls hl => ?_)
              refine lv_goto (tgt := 4) hx hb dX1_nodesBefore_50 (by decide) ?_
              exact hL1 _ h1 _ _ ls hP hS (lv_sub hl [1, 2, 3, 0] rfl)
            · replace h1 := fo_itF c9 h1
              refine lv_iinc (v := s4.1 + (1 : Int32)) (lv' := [(2, .int (s4.1 + (1 : Int32))), (0, .ref (ad (fo_lay 14 i0))), (1, .int a1), (3, .int s4.2)]) hx hb dX1_nodesBefore_44 hl (k := 2) rfl rfl (by decide) rfl (fun ls hl => ?_)
              refine lv_iinc (v := s4.2 + (1 : Int32)) (lv' := [(3, .int (s4.2 + (1 : Int32))), (2, .int (s4.1 + (1 : Int32))), (0, .ref (ad (fo_lay 14 i0))), (1, .int a1)]) hx hb dX1_nodesBefore_47 hl (k := 3) rfl rfl (by decide) rfl (fun ls hl => ?_)
              refine lv_goto (tgt := 4) hx hb dX1_nodesBefore_50 (by decide) ?_
              exact hL1 _ h1 _ _ ls hP hS (lv_sub hl [2, 3, 1, 0] rfl)) _ _ hy4
  exact lp4 _ _ ls hP hS (lv_sub hl [2, 3, 1, 0] rfl)
theorem c_q_Call_nodesBefore (l : Launch) (D : va_G) (ca : Nat → ClassId) (ad : Nat → Nat) (sz : Nat) {σ : fo_S} {i0 : Nat} {a1 : Int32} (hi0 : i0 < 16) {res : Int32} (h0 : q_Call_nodesBefore σ i0 a1 = some res) : Met l yX1_nodesBefore ws_q_Call_nodesBefore rm_q_Call_nodesBefore (fo_Pre 51 D vwCl (fo_tys ca) ad (fo_ce ca ad σ) sz [.ref (ad (fo_lay 14 i0)), .int a1]) (fo_PoI 51 D vwCl (fo_tys ca) ad (fo_ce ca ad σ) sz res) 0 0 (fo_A 51 ad sz) :=
  fo_mkI (by decide) (fun C0 kr hP => b_q_Call_nodesBefore C0 (Nat.le_refl _) (Nat.le_refl _) (Nat.zero_le _) hi0 h0 kr hP)
def q_Call_thirdTime_L2 (σ : fo_S) (i0 : Nat) (s2 : Int32) : Option ((Int32) ⊕ ((Int32) ⊕ (Int32))) :=
  if (5 : Int32) ≤ s2 then (some (.inr (.inl s2))) else ((q_Call_nodesBefore σ i0 s2).bind (fun x3 => if x3 = (2 : Int32) then (if fo_vi s2 5 then (some (.inr (.inr (σ.1 15 i0 s2.toNatClampNeg)))) else none) else (some (.inl (s2 + (1 : Int32))))))
def q_Call_thirdTime (σ : fo_S) (i0 : Nat) : Option (Int32) :=
  (fo_lp (q_Call_thirdTime_L2 σ i0) fo_FU (0 : Int32)).bind (fun y2 => match y2 with | .inl z2 => (some (1000001 : Int32)) | .inr r2 => some r2)
set_option maxHeartbeats 4000000 in
set_option maxRecDepth 100000 in
theorem b_q_Call_thirdTime {p : Program} {l : Launch} {e : Env} {R : Room} {s : State} {m : MethodId} {args : Array Value} {below : List Frame} {meth : Method} {c : Code} {Q : State → Prop} {D : va_G} {ca : Nat → ClassId} {ad : Nat → Nat} (C0 : fo_CX p s m args c cX1_thirdTime 2 RX1 D ca ad) (hRf : 1 ≤ R.frames) (hRl : 23 ≤ R.locals) (hRc : 0 ≤ R.cells) {σ : fo_S} {i0 : Nat} (hi0 : i0 < 16) {res : Int32} (h0 : q_Call_thirdTime σ i0 = some res) (kr : ∀ (pc : Nat) (ls : Array Slot) (H : Heap) (locs : List Loc), decode cX1_thirdTime pc = .ok (.ireturn, 1) → va_P D vwCl (fo_vx 51 ad (fo_ce ca ad σ)) H → va_S (fo_A 51 ad s.heap.size) s.heap H locs → W p l e R s m args below meth c H locs 0 0 Q (F0 m pc ls [.int res])) (hP : va_P D vwCl (fo_vx 51 ad (fo_ce ca ad σ)) s.heap) : W p l e R s m args below meth c s.heap [] 0 0 Q (entryFrame m ([.ref (ad (fo_lay 14 i0))] : List Value).toArray 2) := by
  obtain ⟨hx, hb, hml, hown, hT, hK, hD⟩ := C0
  have hN0 : (some res) ≠ none := fun q => by cases q
  unfold q_Call_thirdTime at h0
  have hS : va_S (fo_A 51 ad s.heap.size) s.heap s.heap [] := va_S.rf
  have hl := lv_entry ([.ref (ad (fo_lay 14 i0))]) (n := 2) (Nat.le_of_ble_eq_true rfl)
  rw [lg_entry_eq]
  generalize (lg_sl ([.ref (ad (fo_lay 14 i0))]) ++ List.replicate (2 - (lg_sl ([.ref (ad (fo_lay 14 i0))])).length) Slot.unset).toArray = ls at hl ⊢
  have hl : lv_has ls 2 [(0, .ref (ad (fo_lay 14 i0)))] := hl
  refine lv_iconst (v := 0) hx hb dX1_thirdTime_0 (by decide) ?_
  refine lv_istore_n (lv' := [(1, .int (0 : Int32)), (0, .ref (ad (fo_lay 14 i0)))]) hx hb dX1_thirdTime_1 rfl hl (by decide) rfl (fun ls hl => ?_)
  obtain ⟨y2, hy2, h0⟩ := fo_bd h0 hN0
  have ex2 : ∀ z2 : Int32, y2 = .inl z2 → ∀ (H : Heap) (locs : List Loc) (ls : Array Slot), va_P D vwCl (fo_vx 51 ad (fo_ce ca ad σ)) H → va_S (fo_A 51 ad s.heap.size) s.heap H locs → lv_has ls 2 [] → W p l e R s m args below meth c H locs 0 0 Q (F0 m 29 ls []) := by
    intro z2 hq2 H locs ls hP hS hl
    subst hq2
    refine lv_ldc (v := 1000001) hx hb hown (fo_k1_30 hT) dX1_thirdTime_29 ?_
    have hr8 := Option.some.inj h0
    subst hr8
    exact kr _ ls _ _ dX1_thirdTime_31 hP hS
  have lp2 := fo_lp_ind (fun (s2 : Int32) => ∀ (H : Heap) (locs : List Loc) (ls : Array Slot), va_P D vwCl (fo_vx 51 ad (fo_ce ca ad σ)) H → va_S (fo_A 51 ad s.heap.size) s.heap H locs → lv_has ls 2 [(0, .ref (ad (fo_lay 14 i0))), (1, .int s2)] → W p l e R s m args below meth c H locs 0 0 Q (F0 m 2 ls [])) (by
      intro s2 o1 h1 hN1 hL1 hE1 H locs ls hP hS hl
      unfold q_Call_thirdTime_L2 at h1
      refine lv_iload_n hx hb dX1_thirdTime_2 rfl (lv_at hl 1 rfl) ?_
      refine lv_iconst (v := 5) hx hb dX1_thirdTime_3 (by decide) ?_
      refine lv_icmp_ge (tgt := 29) hx hb dX1_thirdTime_4 (by decide) (fun c1 => ?_) (fun c1 => ?_)
      · replace h1 := fo_itT c1 h1
        have hy2 := hE1 _ h1
        exact ex2 _ hy2.symm _ _ ls hP hS (lv_sub hl [] rfl)
      · replace h1 := fo_itF c1 h1
        refine lv_aload_n hx hb dX1_thirdTime_7 rfl (lv_at hl 0 rfl) ?_
        refine lv_iload_n hx hb dX1_thirdTime_8 rfl (lv_at hl 1 rfl) ?_
        obtain ⟨x3, hx3, h1⟩ := fo_bd h1 hN1
        refine fo_calli (va_runV (H := _) (As := [.int s2]) (rest := []) ⟨hx, hb, hml, hown, hT⟩ (c_q_Call_nodesBefore l D ca ad _ hi0 hx3) (fo_c1_56 hT ⟨Nat.le_trans (Nat.le_of_ble_eq_true rfl) hRf, Nat.le_trans (Nat.le_of_ble_eq_true rfl) hRl⟩) ⟨fo_Pre_blind, fo_rc14 hK hP hi0, fo_Pre_at hP hK (hD _)⟩ rfl rfl hl.1 rfl (lv_room (Nat.le_of_ble_eq_true rfl)) dX1_thirdTime_9 ⟨Nat.zero_le _, Nat.zero_le _⟩) hS (fun H locs hP hS => ?_)
        refine lv_iconst (v := 2) hx hb dX1_thirdTime_12 (by decide) ?_
        refine lv_icmp_ne (tgt := 23) hx hb dX1_thirdTime_13 (by decide) (fun c4 => ?_) (fun c4 => ?_)
        · replace h1 := fo_itF c4 h1
          refine lv_iinc (v := s2 + (1 : Int32)) (lv' := [(1, .int (s2 + (1 : Int32))), (0, .ref (ad (fo_lay 14 i0)))]) hx hb dX1_thirdTime_23 hl (k := 1) rfl rfl (by decide) rfl (fun ls hl => ?_)
          refine lv_goto (tgt := 2) hx hb dX1_thirdTime_26 (by decide) ?_
          exact hL1 _ h1 _ _ ls hP hS (lv_sub hl [1, 0] rfl)
        · replace h1 := fo_itT c4 h1
          refine lv_aload_n hx hb dX1_thirdTime_16 rfl (lv_at hl 0 rfl) ?_
          refine fo_g1_9 hx hb hT hown hK hP hi0 dX1_thirdTime_17 ?_
          refine lv_iload_n hx hb dX1_thirdTime_20 rfl (lv_at hl 1 rfl) ?_
          obtain ⟨g5, h1⟩ := fo_gd h1 hN1
          refine fo_iald (k := 15) (n := 5) hx hb hK hP (by decide) hi0 (fun _ _ => rfl) g5 dX1_thirdTime_21 ?_
          have hy6 := hE1 _ h1
          subst hy6
          have hr7 := Option.some.inj h0
          subst hr7
          exact kr _ ls _ _ dX1_thirdTime_22 hP hS) _ _ hy2
  exact lp2 _ _ ls hP hS (lv_sub hl [1, 0] rfl)
theorem c_q_Call_thirdTime (l : Launch) (D : va_G) (ca : Nat → ClassId) (ad : Nat → Nat) (sz : Nat) {σ : fo_S} {i0 : Nat} (hi0 : i0 < 16) {res : Int32} (h0 : q_Call_thirdTime σ i0 = some res) : Met l yX1_thirdTime ws_q_Call_thirdTime rm_q_Call_thirdTime (fo_Pre 51 D vwCl (fo_tys ca) ad (fo_ce ca ad σ) sz [.ref (ad (fo_lay 14 i0))]) (fo_PoI 51 D vwCl (fo_tys ca) ad (fo_ce ca ad σ) sz res) 0 0 (fo_A 51 ad sz) :=
  fo_mkI (by decide) (fun C0 kr hP => b_q_Call_thirdTime C0 (Nat.le_refl _) (Nat.le_refl _) (Nat.zero_le _) hi0 h0 kr hP)
