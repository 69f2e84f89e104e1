def q_Links_setBehind_L6 (σ : fo_S) (a1 : Int32) (a3 : Int32) (s6 : Int32 × Int32) : Option ((Int32 × Int32) ⊕ (Int32 × Int32)) :=
  if a3 ≤ s6.2 then (some (.inr (s6.1, s6.2))) else (if fo_vi a1 16 then (if (σ.1 14 a1.toNatClampNeg 4) = 0 then (some (.inl (s6.1, s6.2 + (1 : Int32)))) else (if fo_vi s6.2 16 then (if (σ.1 14 s6.2.toNatClampNeg 4) = 0 then (some (.inl (s6.1, s6.2 + (1 : Int32)))) else (if fo_vi a1 16 then ( if fo_vi s6.2 16 then ( (q_Call_isAheadOf σ a1.toNatClampNeg s6.2.toNatClampNeg).bind (fun x9 => if x9 = 0 then (some (.inl (s6.1, s6.2 + (1 : Int32)))) else (some (.inl (s6.1 ||| ((1 : Int32) <<< (s6.2 &&& 31)), s6.2 + (1 : Int32)))))) else none) else none)) else none)) else none)
def q_Links_setBehind (σ : fo_S) (a1 : Int32) (a3 : Int32) : Option (Int32) :=
  (fo_lp (q_Links_setBehind_L6 σ a1 a3) fo_FU ((0 : Int32), (0 : Int32))).bind (fun y6 => some y6.1)
set_option maxHeartbeats 4000000 in
set_option maxRecDepth 100000 in
theorem b_q_Links_setBehind {p : Program} {l : Launch} {e : Env} {R : Room} {s : State} {m : MethodId} {args : Array Value} {below : List Frame} {meth : Method} {c : Code} {Q : State → Prop} {D : va_G} {ca : Nat → ClassId} {ad : Nat → Nat} (C0 : fo_CX p s m args c cX4_setBehind 6 RX4 D ca ad) (hRf : 2 ≤ R.frames) (hRl : 44 ≤ R.locals) (hRc : 0 ≤ R.cells) {σ : fo_S} {a1 : Int32} {a3 : Int32}  {res : Int32} (h0 : q_Links_setBehind σ a1 a3 = some res) (kr : ∀ (pc : Nat) (ls : Array Slot) (H : Heap) (locs : List Loc), decode cX4_setBehind pc = .ok (.ireturn, 1) → va_P D vwCl (fo_vx 51 ad (fo_ce ca ad σ)) H → va_S (fo_A 51 ad s.heap.size) s.heap H locs → W p l e R s m args below meth c H locs 0 0 Q (F0 m pc ls [.int res])) (hP : va_P D vwCl (fo_vx 51 ad (fo_ce ca ad σ)) s.heap) : W p l e R s m args below meth c s.heap [] 0 0 Q (entryFrame m ([.ref (ad (fo_lay 8 0)), .int a1, .ref (ad (fo_lay 4 0)), .int a3] : List Value).toArray 6) := by
  obtain ⟨hx, hb, hml, hown, hT, hK, hD⟩ := C0
  have hN0 : (some res) ≠ none := fun q => by cases q
  unfold q_Links_setBehind at h0
  have hS : va_S (fo_A 51 ad s.heap.size) s.heap s.heap [] := va_S.rf
  have hl := lv_entry ([.ref (ad (fo_lay 8 0)), .int a1, .ref (ad (fo_lay 4 0)), .int a3]) (n := 6) (Nat.le_of_ble_eq_true rfl)
  rw [lg_entry_eq]
  generalize (lg_sl ([.ref (ad (fo_lay 8 0)), .int a1, .ref (ad (fo_lay 4 0)), .int a3]) ++ List.replicate (6 - (lg_sl ([.ref (ad (fo_lay 8 0)), .int a1, .ref (ad (fo_lay 4 0)), .int a3])).length) Slot.unset).toArray = ls at hl ⊢
  have hl : lv_has ls 6 [(0, .ref (ad (fo_lay 8 0))), (1, .int a1), (2, .ref (ad (fo_lay 4 0))), (3, .int a3)] := hl
  refine lv_iconst (v := 0) hx hb dX4_setBehind_0 (by decide) ?_
  refine lv_istore (lv' := [(4, .int (0 : Int32)), (0, .ref (ad (fo_lay 8 0))), (1, .int a1), (2, .ref (ad (fo_lay 4 0))), (3, .int a3)]) hx hb dX4_setBehind_1 hl (by decide) rfl (fun ls hl => ?_)
  refine lv_iconst (v := 0) hx hb dX4_setBehind_3 (by decide) ?_
  refine lv_istore (lv' := [(5, .int (0 : Int32)), (4, .int (0 : Int32)), (0, .ref (ad (fo_lay 8 0))), (1, .int a1), (2, .ref (ad (fo_lay 4 0))), (3, .int a3)]) hx hb dX4_setBehind_4 hl (by decide) rfl (fun ls hl => ?_)
  obtain ⟨y6, hy6, h0⟩ := fo_bd h0 hN0
  have ex6 : ∀ (H : Heap) (locs : List Loc) (ls : Array Slot), va_P D vwCl (fo_vx 51 ad (fo_ce ca ad σ)) H → va_S (fo_A 51 ad s.heap.size) s.heap H locs → lv_has ls 6 [(4, .int y6.1)] → W p l e R s m args below meth c H locs 0 0 Q (F0 m 59 ls []) := by
    intro H locs ls hP hS hl
    refine lv_iload hx hb dX4_setBehind_59 (lv_at hl 0 rfl) ?_
    have hr11 := Option.some.inj h0
    subst hr11
    exact kr _ ls _ _ dX4_setBehind_61 hP hS
  have lp6 := fo_lp_ind (fun (s6 : Int32 × Int32) => ∀ (H : Heap) (locs : List Loc) (ls : Array Slot), va_P D vwCl (fo_vx 51 ad (fo_ce ca ad σ)) H → va_S (fo_A 51 ad s.heap.size) s.heap H locs → lv_has ls 6 [(1, .int a1), (2, .ref (ad (fo_lay 4 0))), (3, .int a3), (4, .int s6.1), (5, .int s6.2)] → W p l e R s m args below meth c H locs 0 0 Q (F0 m 6 ls [])) (by
      intro s6 o1 h1 hN1 hL1 hE1 H locs ls hP hS hl
      unfold q_Links_setBehind_L6 at h1
      refine lv_iload hx hb dX4_setBehind_6 (lv_at hl 4 rfl) ?_
      refine lv_iload_n hx hb dX4_setBehind_8 rfl (lv_at hl 2 rfl) ?_
      refine lv_icmp_ge (tgt := 59) hx hb dX4_setBehind_9 (by decide) (fun c1 => ?_) (fun c1 => ?_)
      · replace h1 := fo_itT c1 h1
        have hy2 := hE1 _ h1
        subst hy2
        exact ex6 _ _ ls hP hS (lv_sub hl [3] rfl)
      · replace h1 := fo_itF c1 h1
        refine lv_aload_n hx hb dX4_setBehind_12 rfl (lv_at hl 1 rfl) ?_
        refine lv_iload_n hx hb dX4_setBehind_13 rfl (lv_at hl 0 rfl) ?_
        obtain ⟨g3, h1⟩ := fo_gd h1 hN1
        refine fo_aald_4 hx hb hK hP (by decide) g3 dX4_setBehind_14 ?_
        refine fo_g4_23 hx hb hT hown hK hP (fo_in g3) dX4_setBehind_15 ?_
        refine lv_if_eq (tgt := 53) hx hb dX4_setBehind_18 (by decide) (fun c4 => ?_) (fun c4 => ?_)
        · replace h1 := fo_itT c4 h1
          refine lv_iinc (v := s6.2 + (1 : Int32)) (lv' := [(5, .int (s6.2 + (1 : Int32))), (1, .int a1), (2, .ref (ad (fo_lay 4 0))), (3, .int a3), (4, .int s6.1)]) hx hb dX4_setBehind_53 hl (k := 4) rfl rfl (by decide) rfl (fun ls hl => ?_)
          refine lv_goto (tgt := 6) hx hb dX4_setBehind_56 (by decide) ?_
          exact hL1 _ h1 _ _ ls hP hS (lv_sub hl [1, 2, 3, 4, 0] rfl)
        · replace h1 := fo_itF c4 h1
          refine lv_aload_n hx hb dX4_setBehind_21 rfl (lv_at hl 1 rfl) ?_
          refine lv_iload hx hb dX4_setBehind_22 (lv_at hl 4 rfl) ?_
          obtain ⟨g5, h1⟩ := fo_gd h1 hN1
          refine fo_aald_4 hx hb hK hP (by decide) g5 dX4_setBehind_24 ?_
          refine fo_g4_23 hx hb hT hown hK hP (fo_in g5) dX4_setBehind_25 ?_
          refine lv_if_eq (tgt := 53) hx hb dX4_setBehind_28 (by decide) (fun c6 => ?_) (fun c6 => ?_)
          · replace h1 := fo_itT c6 h1
            refine lv_iinc (v := s6.2 + (1 : Int32)) (lv' := [(5, .int (s6.2 + (1 : Int32))), (1, .int a1), (2, .ref (ad (fo_lay 4 0))), (3, .int a3), (4, .int s6.1)]) hx hb dX4_setBehind_53 hl (k := 4) rfl rfl (by decide) rfl (fun ls hl => ?_)
            refine lv_goto (tgt := 6) hx hb dX4_setBehind_56 (by decide) ?_
            exact hL1 _ h1 _ _ ls hP hS (lv_sub hl [1, 2, 3, 4, 0] rfl)
          · replace h1 := fo_itF c6 h1
            refine lv_aload_n hx hb dX4_setBehind_31 rfl (lv_at hl 1 rfl) ?_
            refine lv_iload_n hx hb dX4_setBehind_32 rfl (lv_at hl 0 rfl) ?_
            obtain ⟨g7, h1⟩ := fo_gd h1 hN1
            refine fo_aald_4 hx hb hK hP (by decide) g7 dX4_setBehind_33 ?_
            refine lv_aload_n hx hb dX4_setBehind_34 rfl (lv_at hl 1 rfl) ?_
            refine lv_iload hx hb dX4_setBehind_35 (lv_at hl 4 rfl) ?_
            obtain ⟨g8, h1⟩ := fo_gd h1 hN1
            refine fo_aald_4 hx hb hK hP (by decide) g8 dX4_setBehind_37 ?_
            obtain ⟨x9, hx9, h1⟩ := fo_bd h1 hN1
            refine fo_calli (va_runV (H := _) (As := [.ref (ad (fo_lay 14 s6.2.toNatClampNeg))]) (rest := []) ⟨hx, hb, hml, hown, hT⟩ (c_q_Call_isAheadOf l D ca ad _ (fo_in g7) (fo_in g8) hx9) (fo_c4_29 hT ⟨Nat.le_trans (Nat.le_of_ble_eq_true rfl) hRf, Nat.le_trans (Nat.le_of_ble_eq_true rfl) hRl⟩) ⟨fo_Pre_blind, fo_rc14 hK hP (fo_in g7), fo_Pre_at hP hK (hD _)⟩ rfl rfl hl.1 rfl (lv_room (Nat.le_of_ble_eq_true rfl)) dX4_setBehind_38 ⟨Nat.zero_le _, Nat.zero_le _⟩) hS (fun H locs hP hS => ?_)
            refine lv_if_eq (tgt := 53) hx hb dX4_setBehind_41 (by decide) (fun c10 => ?_) (fun c10 => ?_)
            · replace h1 := fo_itT c10 h1
              refine lv_iinc (v := s6.2 + (1 : Int32)) (lv' := [(5, .int (s6.2 + (1 : Int32))), (1, .int a1), (2, .ref (ad (fo_lay 4 0))), (3, .int a3), (4, .int s6.1)]) hx hb dX4_setBehind_53 hl (k := 4) rfl rfl (by decide) rfl (fun ls hl => ?_)
              refine lv_goto (tgt := 6) hx hb dX4_setBehind_56 (by decide) ?_
              exact hL1 _ h1 _ _ ls hP hS (lv_sub hl [1, 2, 3, 4, 0] rfl)
            · replace h1 := fo_itF c10 h1
              refine lv_iload hx hb dX4_setBehind_44 (lv_at hl 3 rfl) ?_
              refine lv_iconst (v := 1) hx hb dX4_setBehind_46 (by decide) ?_
              refine lv_iload hx hb dX4_setBehind_47 (lv_at hl 4 rfl) ?_
              refine lv_ishl hx hb dX4_setBehind_49 ?_
              refine lv_ior hx hb dX4_setBehind_50 ?_
              refine lv_istore (lv' := [(4, .int (s6.1 ||| ((1 : Int32) <<< (s6.2 &&& 31)))), (1, .int a1), (2, .ref (ad (fo_lay 4 0))), (3, .int a3), (5, .int s6.2)]) hx hb dX4_setBehind_51 hl (by decide) rfl (fun ls hl => ?_)
              refine lv_iinc (v := s6.2 + (1 : Int32)) (lv' := [(5, .int (s6.2 + (1 : Int32))), (4, .int (s6.1 ||| ((1 : Int32) <<< (s6.2 &&& 31)))), (1, .int a1), (2, .ref (ad (fo_lay 4 0))), (3, .int a3)]) hx hb dX4_setBehind_53 hl (k := 4) rfl rfl (by decide) rfl (fun ls hl => ?_)
              refine lv_goto (tgt := 6) hx hb dX4_setBehind_56 (by decide) ?_
              exact hL1 _ h1 _ _ ls hP hS (lv_sub hl [2, 3, 4, 1, 0] rfl)) _ _ hy6
  exact lp6 _ _ ls hP hS (lv_sub hl [3, 4, 5, 1, 0] rfl)
theorem c_q_Links_setBehind (l : Launch) (D : va_G) (ca : Nat → ClassId) (ad : Nat → Nat) (sz : Nat) {σ : fo_S} {a1 : Int32} {a3 : Int32}  {res : Int32} (h0 : q_Links_setBehind σ a1 a3 = some res) : Met l yX4_setBehind ws_q_Links_setBehind rm_q_Links_setBehind (fo_Pre 51 D vwCl (fo_tys ca) ad (fo_ce ca ad σ) sz [.ref (ad (fo_lay 8 0)), .int a1, .ref (ad (fo_lay 4 0)), .int a3]) (fo_PoI 51 D vwCl (fo_tys ca) ad (fo_ce ca ad σ) sz res) 0 0 (fo_A 51 ad sz) :=
  fo_mkI (by decide) (fun C0 kr hP => b_q_Links_setBehind C0 (Nat.le_refl _) (Nat.le_refl _) (Nat.zero_le _)  h0 kr hP)
def q_Links_contains (σ : fo_S) (a0 : Int32) (a1 : Int32) : Option (Int32) :=
  if (((a0.toUInt32 >>> (a1.toUInt32 &&& Int32.toUInt32 31)).toInt32) &&& (1 : Int32)) = 0 then (some (0 : Int32)) else (some (1 : Int32))
set_option maxHeartbeats 4000000 in
set_option maxRecDepth 100000 in
theorem b_q_Links_contains {p : Program} {l : Launch} {e : Env} {R : Room} {s : State} {m : MethodId} {args : Array Value} {below : List Frame} {meth : Method} {c : Code} {Q : State → Prop} {D : va_G} {ca : Nat → ClassId} {ad : Nat → Nat} (C0 : fo_CX p s m args c cX4_contains 2 RX4 D ca ad) (hRf : 0 ≤ R.frames) (hRl : 0 ≤ R.locals) (hRc : 0 ≤ R.cells) {σ : fo_S} {a0 : Int32} {a1 : Int32}  {res : Int32} (h0 : q_Links_contains σ a0 a1 = some res) (kr : ∀ (pc : Nat) (ls : Array Slot) (H : Heap) (locs : List Loc), narrow .boolean (.int res) = .int res → decode cX4_contains pc = .ok (.ireturn, 1) → va_P D vwCl (fo_vx 51 ad (fo_ce ca ad σ)) H → va_S (fo_A 51 ad s.heap.size) s.heap H locs → W p l e R s m args below meth c H locs 0 0 Q (F0 m pc ls [.int res])) (hP : va_P D vwCl (fo_vx 51 ad (fo_ce ca ad σ)) s.heap) : W p l e R s m args below meth c s.heap [] 0 0 Q (entryFrame m ([.int a0, .int a1] : List Value).toArray 2) := by
  obtain ⟨hx, hb, hml, hown, hT, hK, hD⟩ := C0
  have hN0 : (some res) ≠ none := fun q => by cases q
  unfold q_Links_contains at h0
  have hS : va_S (fo_A 51 ad s.heap.size) s.heap s.heap [] := va_S.rf
  have hl := lv_entry ([.int a0, .int a1]) (n := 2) (Nat.le_of_ble_eq_true rfl)
  rw [lg_entry_eq]
  generalize (lg_sl ([.int a0, .int a1]) ++ List.replicate (2 - (lg_sl ([.int a0, .int a1])).length) Slot.unset).toArray = ls at hl ⊢
  have hl : lv_has ls 2 [(0, .int a0), (1, .int a1)] := hl
  refine lv_iload_n hx hb dX4_contains_0 rfl (lv_at hl 0 rfl) ?_
  refine lv_iload_n hx hb dX4_contains_1 rfl (lv_at hl 1 rfl) ?_
  refine lv_iushr hx hb dX4_contains_2 rfl ?_
  refine lv_iconst (v := 1) hx hb dX4_contains_3 (by decide) ?_
  refine lv_iand hx hb dX4_contains_4 ?_
  refine lv_if_eq (tgt := 12) hx hb dX4_contains_5 (by decide) (fun c1 => ?_) (fun c1 => ?_)
  · replace h0 := fo_itT c1 h0
    refine lv_iconst (v := 0) hx hb dX4_contains_12 (by decide) ?_
    have hr2 := Option.some.inj h0
    subst hr2
    exact kr _ ls _ _ (fo_zn (Or.inl rfl)) dX4_contains_13 hP hS
  · replace h0 := fo_itF c1 h0
    refine lv_iconst (v := 1) hx hb dX4_contains_8 (by decide) ?_
    refine lv_goto (tgt := 13) hx hb dX4_contains_9 (by decide) ?_
    have hr3 := Option.some.inj h0
    subst hr3
    exact kr _ ls _ _ (fo_zn (Or.inr rfl)) dX4_contains_13 hP hS
theorem c_q_Links_contains (l : Launch) (D : va_G) (ca : Nat → ClassId) (ad : Nat → Nat) (sz : Nat) {σ : fo_S} {a0 : Int32} {a1 : Int32}  {res : Int32} (h0 : q_Links_contains σ a0 a1 = some res) : Met l yX4_contains ws_q_Links_contains rm_q_Links_contains (fo_Pre 51 D vwCl (fo_tys ca) ad (fo_ce ca ad σ) sz [.int a0, .int a1]) (fo_PoI 51 D vwCl (fo_tys ca) ad (fo_ce ca ad σ) sz res) 0 0 (fo_A 51 ad sz) :=
  fo_mkZ (by decide) (fun C0 kr hP => b_q_Links_contains C0 (Nat.le_refl _) (Nat.le_refl _) (Nat.zero_le _)  h0 kr hP)
def q_Links_leads (σ : fo_S) (a1 : Int32) (a2 : Int32) : Option (Int32) :=
  if fo_vi a1 16 then ( (q_Links_contains σ (σ.1 9 0 a1.toNatClampNeg) a2).bind (fun x2 =>  if x2 = 0 ∨ x2 = 1 then (some x2) else none)) else none
set_option maxHeartbeats 4000000 in
set_option maxRecDepth 100000 in
theorem b_q_Links_leads {p : Program} {l : Launch} {e : Env} {R : Room} {s : State} {m : MethodId} {args : Array Value} {below : List Frame} {meth : Method} {c : Code} {Q : State → Prop} {D : va_G} {ca : Nat → ClassId} {ad : Nat → Nat} (C0 : fo_CX p s m args c cX4_leads 3 RX4 D ca ad) (hRf : 1 ≤ R.frames) (hRl : 21 ≤ R.locals) (hRc : 0 ≤ R.cells) {σ : fo_S} {a1 : Int32} {a2 : Int32}  {res : Int32} (h0 : q_Links_leads σ a1 a2 = some res) (kr : ∀ (pc : Nat) (ls : Array Slot) (H : Heap) (locs : List Loc), narrow .boolean (.int res) = .int res → decode cX4_leads pc = .ok (.ireturn, 1) → va_P D vwCl (fo_vx 51 ad (fo_ce ca ad σ)) H → va_S (fo_A 51 ad s.heap.size) s.heap H locs → W p l e R s m args below meth c H locs 0 0 Q (F0 m pc ls [.int res])) (hP : va_P D vwCl (fo_vx 51 ad (fo_ce ca ad σ)) s.heap) : W p l e R s m args below meth c s.heap [] 0 0 Q (entryFrame m ([.ref (ad (fo_lay 8 0)), .int a1, .int a2] : List Value).toArray 3) := by
  obtain ⟨hx, hb, hml, hown, hT, hK, hD⟩ := C0
  have hN0 : (some res) ≠ none := fun q => by cases q
  unfold q_Links_leads at h0
  have hS : va_S (fo_A 51 ad s.heap.size) s.heap s.heap [] := va_S.rf
  have hl := lv_entry ([.ref (ad (fo_lay 8 0)), .int a1, .int a2]) (n := 3) (Nat.le_of_ble_eq_true rfl)
  rw [lg_entry_eq]
  generalize (lg_sl ([.ref (ad (fo_lay 8 0)), .int a1, .int a2]) ++ List.replicate (3 - (lg_sl ([.ref (ad (fo_lay 8 0)), .int a1, .int a2])).length) Slot.unset).toArray = ls at hl ⊢
  have hl : lv_has ls 3 [(0, .ref (ad (fo_lay 8 0))), (1, .int a1), (2, .int a2)] := hl
  refine lv_aload_n hx hb dX4_leads_0 rfl (lv_at hl 0 rfl) ?_
  refine fo_g4_9 hx hb hT hown hK hP (by decide) dX4_leads_1 ?_
  refine lv_iload_n hx hb dX4_leads_4 rfl (lv_at hl 1 rfl) ?_
  obtain ⟨g1, h0⟩ := fo_gd h0 hN0
  refine fo_iald (k := 9) (n := 16) hx hb hK hP (by decide) (by decide) (fun _ _ => rfl) g1 dX4_leads_5 ?_
  refine lv_iload_n hx hb dX4_leads_6 rfl (lv_at hl 2 rfl) ?_
  obtain ⟨x2, hx2, h0⟩ := fo_bd h0 hN0
  refine fo_calli (va_runS (H := _) (As := [.int (σ.1 9 0 a1.toNatClampNeg), .int a2]) (rest := []) ⟨hx, hb, hml, hown, hT⟩ (c_q_Links_contains l D ca ad _ hx2) (fo_c4_33 hT ⟨Nat.le_trans (Nat.le_of_ble_eq_true rfl) hRf, Nat.le_trans (Nat.le_of_ble_eq_true rfl) hRl⟩) ⟨fo_Pre_blind, fo_Pre_at hP hK (hD _)⟩ rfl rfl hl.1 rfl (lv_room (Nat.le_of_ble_eq_true rfl)) dX4_leads_7 ⟨Nat.zero_le _, Nat.zero_le _⟩) hS (fun H locs hP hS => ?_)
  obtain ⟨g3, h0⟩ := fo_gd h0 hN0
  have hr4 := Option.some.inj h0
  subst hr4
  exact kr _ ls _ _ (fo_zn g3) dX4_leads_10 hP hS
theorem c_q_Links_leads (l : Launch) (D : va_G) (ca : Nat → ClassId) (ad : Nat → Nat) (sz : Nat) {σ : fo_S} {a1 : Int32} {a2 : Int32}  {res : Int32} (h0 : q_Links_leads σ a1 a2 = some res) : Met l yX4_leads ws_q_Links_leads rm_q_Links_leads (fo_Pre 51 D vwCl (fo_tys ca) ad (fo_ce ca ad σ) sz [.ref (ad (fo_lay 8 0)), .int a1, .int a2]) (fo_PoI 51 D vwCl (fo_tys ca) ad (fo_ce ca ad σ) sz res) 0 0 (fo_A 51 ad sz) :=
  fo_mkZ (by decide) (fun C0 kr hP => b_q_Links_leads C0 (Nat.le_refl _) (Nat.le_refl _) (Nat.zero_le _)  h0 kr hP)
def q_Links_find_L2 (a2 : Int32) (s2 : Int32 × fo_S) : Option ((Int32 × fo_S) ⊕ (Int32 × fo_S)) :=
  if a2 ≤ s2.1 then (some (.inr (s2.1, s2.2))) else ((q_Links_setBehind s2.2 s2.1 a2).bind (fun x3 =>  if fo_vi s2.1 16 then (some (.inl (s2.1 + (1 : Int32), fo_pI s2.2 9 0 s2.1.toNatClampNeg x3))) else none))
def q_Links_find_L36 (a2 : Int32) (s28 : Int32 × fo_S) (s36 : Int32 × fo_S) : Option ((Int32 × fo_S) ⊕ (Int32 × fo_S)) :=
  if a2 ≤ s36.1 then (some (.inr (s36.1, s36.2))) else ((q_Links_leads s36.2 s36.1 s28.1).bind (fun x9 => if x9 = 0 then (some (.inl (s36.1 + (1 : Int32), s36.2))) else (if fo_vi s36.1 16 then ( if fo_vi s28.1 16 then ( if fo_vi s36.1 16 then (some (.inl (s36.1 + (1 : Int32), fo_pI s36.2 9 0 s36.1.toNatClampNeg ((s36.2.1 9 0 s36.1.toNatClampNeg) ||| (s36.2.1 9 0 s28.1.toNatClampNeg))))) else none) else none) else none)))
def q_Links_find_L28 (a2 : Int32) (s28 : Int32 × fo_S) : Option ((Int32 × fo_S) ⊕ (Int32 × fo_S)) :=
  if a2 ≤ s28.1 then (some (.inr (s28.1, s28.2))) else ((fo_lp (q_Links_find_L36 a2 s28) fo_FU ((0 : Int32), s28.2)).bind (fun y36 => some (.inl (s28.1 + (1 : Int32), y36.2))))
def q_Links_find (σ : fo_S) (a2 : Int32) : Option (fo_S) :=
  (fo_lp (q_Links_find_L2 a2) fo_FU ((0 : Int32), σ)).bind (fun y2 => (fo_lp (q_Links_find_L28 a2) fo_FU ((0 : Int32), y2.2)).bind (fun y28 => some y28.2))
set_option maxHeartbeats 4000000 in
set_option maxRecDepth 100000 in
theorem b_q_Links_find {p : Program} {l : Launch} {e : Env} {R : Room} {s : State} {m : MethodId} {args : Array Value} {below : List Frame} {meth : Method} {c : Code} {Q : State → Prop} {D : va_G} {ca : Nat → ClassId} {ad : Nat → Nat} (C0 : fo_CX p s m args c cX4_find 5 RX4 D ca ad) (hRf : 3 ≤ R.frames) (hRl : 69 ≤ R.locals) (hRc : 0 ≤ R.cells) {σ : fo_S} {a2 : Int32}  {res : fo_S} (h0 : q_Links_find σ a2 = some res) (kr : ∀ (pc : Nat) (ls : Array Slot) (H : Heap) (locs : List Loc), decode cX4_find pc = .ok (.return_, 1) → va_P D vwCl (fo_vx 51 ad (fo_ce ca ad res)) H → va_S (fo_A 51 ad s.heap.size) s.heap H locs → W p l e R s m args below meth c H locs 0 0 Q (F0 m pc ls [])) (hP : va_P D vwCl (fo_vx 51 ad (fo_ce ca ad σ)) s.heap) : W p l e R s m args below meth c s.heap [] 0 0 Q (entryFrame m ([.ref (ad (fo_lay 8 0)), .ref (ad (fo_lay 4 0)), .int a2] : List Value).toArray 5) := by
  obtain ⟨hx, hb, hml, hown, hT, hK, hD⟩ := C0
  have hN0 : (some res) ≠ none := fun q => by cases q
  unfold q_Links_find at h0
  have hS : va_S (fo_A 51 ad s.heap.size) s.heap s.heap [] := va_S.rf
  have hl := lv_entry ([.ref (ad (fo_lay 8 0)), .ref (ad (fo_lay 4 0)), .int a2]) (n := 5) (Nat.le_of_ble_eq_true rfl)
  rw [lg_entry_eq]
  generalize (lg_sl ([.ref (ad (fo_lay 8 0)), .ref (ad (fo_lay 4 0)), .int a2]) ++ List.replicate (5 - (lg_sl ([.ref (ad (fo_lay 8 0)), .ref (ad (fo_lay 4 0)), .int a2])).length) Slot.unset).toArray = ls at hl ⊢
  have hl : lv_has ls 5 [(0, .ref (ad (fo_lay 8 0))), (1, .ref (ad (fo_lay 4 0))), (2, .int a2)] := hl
  refine lv_iconst (v := 0) hx hb dX4_find_0 (by decide) ?_
  refine lv_istore_n (lv' := [(3, .int (0 : Int32)), (0, .ref (ad (fo_lay 8 0))), (1, .ref (ad (fo_lay 4 0))), (2, .int a2)]) hx hb dX4_find_1 rfl hl (by decide) rfl (fun ls hl => ?_)
  obtain ⟨y2, hy2, h0⟩ := fo_bd h0 hN0
  have ex2 : ∀ (H : Heap) (locs : List Loc) (ls : Array Slot), va_P D vwCl (fo_vx 51 ad (fo_ce ca ad y2.2)) H → va_S (fo_A 51 ad s.heap.size) s.heap H locs → lv_has ls 5 [(0, .ref (ad (fo_lay 8 0))), (2, .int a2)] → W p l e R s m args below meth c H locs 0 0 Q (F0 m 26 ls []) := by
    intro H locs ls hP hS hl
    refine lv_iconst (v := 0) hx hb dX4_find_26 (by decide) ?_
    refine lv_istore_n (lv' := [(3, .int (0 : Int32)), (0, .ref (ad (fo_lay 8 0))), (2, .int a2)]) hx hb dX4_find_27 rfl hl (by decide) rfl (fun ls hl => ?_)
    obtain ⟨y28, hy28, h0⟩ := fo_bd h0 hN0
    have ex28 : ∀ (H : Heap) (locs : List Loc) (ls : Array Slot), va_P D vwCl (fo_vx 51 ad (fo_ce ca ad y28.2)) H → va_S (fo_A 51 ad s.heap.size) s.heap H locs → lv_has ls 5 [] → W p l e R s m args below meth c H locs 0 0 Q (F0 m 80 ls []) := by
      intro H locs ls hP hS hl
      have hr14 := Option.some.inj h0
      subst hr14
      exact kr _ ls _ _ dX4_find_80 hP hS
    have lp28 := fo_lp_ind (fun (s28 : Int32 × fo_S) => ∀ (H : Heap) (locs : List Loc) (ls : Array Slot), va_P D vwCl (fo_vx 51 ad (fo_ce ca ad s28.2)) H → va_S (fo_A 51 ad s.heap.size) s.heap H locs → lv_has ls 5 [(0, .ref (ad (fo_lay 8 0))), (2, .int a2), (3, .int s28.1)] → W p l e R s m args below meth c H locs 0 0 Q (F0 m 28 ls [])) (by
        intro s28 o1 h1 hN1 hL1 hE1 H locs ls hP hS hl
        unfold q_Links_find_L28 at h1
        refine lv_iload_n hx hb dX4_find_28 rfl (lv_at hl 2 rfl) ?_
        refine lv_iload_n hx hb dX4_find_29 rfl (lv_at hl 1 rfl) ?_
        refine lv_icmp_ge (tgt := 80) hx hb dX4_find_30 (by decide) (fun c5 => ?_) (fun c5 => ?_)
        · replace h1 := fo_itT c5 h1
          have hy6 := hE1 _ h1
          subst hy6
          exact ex28 _ _ ls hP hS (lv_sub hl [] rfl)
        · replace h1 := fo_itF c5 h1
          refine lv_iconst (v := 0) hx hb dX4_find_33 (by decide) ?_
          refine lv_istore (lv' := [(4, .int (0 : Int32)), (0, .ref (ad (fo_lay 8 0))), (2, .int a2), (3, .int s28.1)]) hx hb dX4_find_34 hl (by decide) rfl (fun ls hl => ?_)
          obtain ⟨y36, hy36, h1⟩ := fo_bd h1 hN1
          have ex36 : ∀ (H : Heap) (locs : List Loc) (ls : Array Slot), va_P D vwCl (fo_vx 51 ad (fo_ce ca ad y36.2)) H → va_S (fo_A 51 ad s.heap.size) s.heap H locs → lv_has ls 5 [(0, .ref (ad (fo_lay 8 0))), (2, .int a2), (3, .int s28.1)] → W p l e R s m args below meth c H locs 0 0 Q (F0 m 74 ls []) := by
            intro H locs ls hP hS hl
            refine lv_iinc (v := s28.1 + (1 : Int32)) (lv' := [(3, .int (s28.1 + (1 : Int32))), (0, .ref (ad (fo_lay 8 0))), (2, .int a2)]) hx hb dX4_find_74 hl (k := 2) rfl rfl (by decide) rfl (fun ls hl => ?_)
            refine lv_goto (tgt := 28) hx hb dX4_find_77 (by decide) ?_
            exact hL1 _ h1 _ _ ls hP hS (lv_sub hl [1, 2, 0] rfl)
          have lp36 := fo_lp_ind (fun (s36 : Int32 × fo_S) => ∀ (H : Heap) (locs : List Loc) (ls : Array Slot), va_P D vwCl (fo_vx 51 ad (fo_ce ca ad s36.2)) H → va_S (fo_A 51 ad s.heap.size) s.heap H locs → lv_has ls 5 [(0, .ref (ad (fo_lay 8 0))), (2, .int a2), (3, .int s28.1), (4, .int s36.1)] → W p l e R s m args below meth c H locs 0 0 Q (F0 m 36 ls [])) (by
              intro s36 o2 h2 hN2 hL2 hE2 H locs ls hP hS hl
              unfold q_Links_find_L36 at h2
              refine lv_iload hx hb dX4_find_36 (lv_at hl 3 rfl) ?_
              refine lv_iload_n hx hb dX4_find_38 rfl (lv_at hl 1 rfl) ?_
              refine lv_icmp_ge (tgt := 74) hx hb dX4_find_39 (by decide) (fun c7 => ?_) (fun c7 => ?_)
              · replace h2 := fo_itT c7 h2
                have hy8 := hE2 _ h2
                subst hy8
                exact ex36 _ _ ls hP hS (lv_sub hl [0, 1, 2] rfl)
              · replace h2 := fo_itF c7 h2
                refine lv_aload_n hx hb dX4_find_42 rfl (lv_at hl 0 rfl) ?_
                refine lv_iload hx hb dX4_find_43 (lv_at hl 3 rfl) ?_
                refine lv_iload_n hx hb dX4_find_45 rfl (lv_at hl 2 rfl) ?_
                obtain ⟨x9, hx9, h2⟩ := fo_bd h2 hN2
                refine fo_calli (va_runV (H := _) (As := [.int s36.1, .int s28.1]) (rest := []) ⟨hx, hb, hml, hown, hT⟩ (c_q_Links_leads l D ca ad _ hx9) (fo_c4_19 hT ⟨Nat.le_trans (Nat.le_of_ble_eq_true rfl) hRf, Nat.le_trans (Nat.le_of_ble_eq_true rfl) hRl⟩) ⟨fo_Pre_blind, fo_rc8 hK hP (by decide), fo_Pre_at hP hK (hD _)⟩ rfl rfl hl.1 rfl (lv_room (Nat.le_of_ble_eq_true rfl)) dX4_find_46 ⟨Nat.zero_le _, Nat.zero_le _⟩) hS (fun H locs hP hS => ?_)
                refine lv_if_eq (tgt := 68) hx hb dX4_find_49 (by decide) (fun c10 => ?_) (fun c10 => ?_)
                · replace h2 := fo_itT c10 h2
                  refine lv_iinc (v := s36.1 + (1 : Int32)) (lv' := [(4, .int (s36.1 + (1 : Int32))), (0, .ref (ad (fo_lay 8 0))), (2, .int a2), (3, .int s28.1)]) hx hb dX4_find_68 hl (k := 3) rfl rfl (by decide) rfl (fun ls hl => ?_)
                  refine lv_goto (tgt := 36) hx hb dX4_find_71 (by decide) ?_
                  exact hL2 _ h2 _ _ ls hP hS (lv_sub hl [1, 2, 3, 0] rfl)
                · replace h2 := fo_itF c10 h2
                  refine lv_aload_n hx hb dX4_find_52 rfl (lv_at hl 0 rfl) ?_
                  refine fo_g4_9 hx hb hT hown hK hP (by decide) dX4_find_53 ?_
                  refine lv_iload hx hb dX4_find_56 (lv_at hl 3 rfl) ?_
                  refine lv_dup2_11 hx hb dX4_find_58 rfl rfl ?_
                  obtain ⟨g11, h2⟩ := fo_gd h2 hN2
                  refine fo_iald (k := 9) (n := 16) hx hb hK hP (by decide) (by decide) (fun _ _ => rfl) g11 dX4_find_59 ?_
                  refine lv_aload_n hx hb dX4_find_60 rfl (lv_at hl 0 rfl) ?_
                  refine fo_g4_9 hx hb hT hown hK hP (by decide) dX4_find_61 ?_
                  refine lv_iload_n hx hb dX4_find_64 rfl (lv_at hl 2 rfl) ?_
                  obtain ⟨g12, h2⟩ := fo_gd h2 hN2
                  refine fo_iald (k := 9) (n := 16) hx hb hK hP (by decide) (by decide) (fun _ _ => rfl) g12 dX4_find_65 ?_
                  refine lv_ior hx hb dX4_find_66 ?_
                  obtain ⟨g13, h2⟩ := fo_gd h2 hN2
                  refine fo_iast (k := 9) (n := 16) hx hb hK hP hD hS (by decide) (by decide) (fun _ _ => rfl) g13 dX4_find_67 (fun H locs hP hS => ?_)
                  refine lv_iinc (v := s36.1 + (1 : Int32)) (lv' := [(4, .int (s36.1 + (1 : Int32))), (0, .ref (ad (fo_lay 8 0))), (2, .int a2), (3, .int s28.1)]) hx hb dX4_find_68 hl (k := 3) rfl rfl (by decide) rfl (fun ls hl => ?_)
                  refine lv_goto (tgt := 36) hx hb dX4_find_71 (by decide) ?_
                  exact hL2 _ h2 _ _ ls hP hS (lv_sub hl [1, 2, 3, 0] rfl)) _ _ hy36
          exact lp36 _ _ ls hP hS (lv_sub hl [1, 2, 3, 0] rfl)) _ _ hy28
    exact lp28 _ _ ls hP hS (lv_sub hl [1, 2, 0] rfl)
  have lp2 := fo_lp_ind (fun (s2 : Int32 × fo_S) => ∀ (H : Heap) (locs : List Loc) (ls : Array Slot), va_P D vwCl (fo_vx 51 ad (fo_ce ca ad s2.2)) H → va_S (fo_A 51 ad s.heap.size) s.heap H locs → lv_has ls 5 [(0, .ref (ad (fo_lay 8 0))), (1, .ref (ad (fo_lay 4 0))), (2, .int a2), (3, .int s2.1)] → W p l e R s m args below meth c H locs 0 0 Q (F0 m 2 ls [])) (by
      intro s2 o1 h1 hN1 hL1 hE1 H locs ls hP hS hl
      unfold q_Links_find_L2 at h1
      refine lv_iload_n hx hb dX4_find_2 rfl (lv_at hl 3 rfl) ?_
      refine lv_iload_n hx hb dX4_find_3 rfl (lv_at hl 2 rfl) ?_
      refine lv_icmp_ge (tgt := 26) hx hb dX4_find_4 (by decide) (fun c1 => ?_) (fun c1 => ?_)
      · replace h1 := fo_itT c1 h1
        have hy2 := hE1 _ h1
        subst hy2
        exact ex2 _ _ ls hP hS (lv_sub hl [0, 2] rfl)
      · replace h1 := fo_itF c1 h1
        refine lv_aload_n hx hb dX4_find_7 rfl (lv_at hl 0 rfl) ?_
        refine fo_g4_9 hx hb hT hown hK hP (by decide) dX4_find_8 ?_
        refine lv_iload_n hx hb dX4_find_11 rfl (lv_at hl 3 rfl) ?_
        refine lv_aload_n hx hb dX4_find_12 rfl (lv_at hl 0 rfl) ?_
        refine lv_iload_n hx hb dX4_find_13 rfl (lv_at hl 3 rfl) ?_
        refine lv_aload_n hx hb dX4_find_14 rfl (lv_at hl 1 rfl) ?_
        refine lv_iload_n hx hb dX4_find_15 rfl (lv_at hl 2 rfl) ?_
        obtain ⟨x3, hx3, h1⟩ := fo_bd h1 hN1
        refine fo_calli (va_runV (H := _) (As := [.int s2.1, .ref (ad (fo_lay 4 0)), .int a2]) (rest := [.int s2.1, .ref (ad (fo_lay 9 0))]) ⟨hx, hb, hml, hown, hT⟩ (c_q_Links_setBehind l D ca ad _ hx3) (fo_c4_15 hT ⟨Nat.le_trans (Nat.le_of_ble_eq_true rfl) hRf, Nat.le_trans (Nat.le_of_ble_eq_true rfl) hRl⟩) ⟨fo_Pre_blind, fo_rc8 hK hP (by decide), fo_Pre_at hP hK (hD _)⟩ rfl rfl hl.1 rfl (lv_room (Nat.le_of_ble_eq_true rfl)) dX4_find_16 ⟨Nat.zero_le _, Nat.zero_le _⟩) hS (fun H locs hP hS => ?_)
        obtain ⟨g4, h1⟩ := fo_gd h1 hN1
        refine fo_iast (k := 9) (n := 16) hx hb hK hP hD hS (by decide) (by decide) (fun _ _ => rfl) g4 dX4_find_19 (fun H locs hP hS => ?_)
        refine lv_iinc (v := s2.1 + (1 : Int32)) (lv' := [(3, .int (s2.1 + (1 : Int32))), (0, .ref (ad (fo_lay 8 0))), (1, .ref (ad (fo_lay 4 0))), (2, .int a2)]) hx hb dX4_find_20 hl (k := 3) rfl rfl (by decide) rfl (fun ls hl => ?_)
        refine lv_goto (tgt := 2) hx hb dX4_find_23 (by decide) ?_
        exact hL1 _ h1 _ _ ls hP hS (lv_sub hl [1, 2, 3, 0] rfl)) _ _ hy2
  exact lp2 _ _ ls hP hS (lv_sub hl [1, 2, 3, 0] rfl)
theorem c_q_Links_find (l : Launch) (D : va_G) (ca : Nat → ClassId) (ad : Nat → Nat) (sz : Nat) {σ : fo_S} {a2 : Int32}  {res : fo_S} (h0 : q_Links_find σ a2 = some res) : Met l yX4_find ws_q_Links_find rm_q_Links_find (fo_Pre 51 D vwCl (fo_tys ca) ad (fo_ce ca ad σ) sz [.ref (ad (fo_lay 8 0)), .ref (ad (fo_lay 4 0)), .int a2]) (fo_PoV 51 D vwCl (fo_tys ca) ad (fo_ce ca ad res) sz) 0 0 (fo_A 51 ad sz) :=
  fo_mkV (by decide) (fun C0 kr hP => b_q_Links_find C0 (Nat.le_refl _) (Nat.le_refl _) (Nat.zero_le _)  h0 kr hP)
def q_FairOrder_openedSet_L4 (σ : fo_S) (s4 : Int32 × Int32) : Option ((Int32 × Int32) ⊕ (Int32 × Int32)) :=
  if (σ.1 0 0 9) ≤ s4.2 then (some (.inr (s4.1, s4.2))) else (if fo_vi s4.2 16 then (if (σ.1 14 s4.2.toNatClampNeg 4) = 0 then (some (.inl (s4.1, s4.2 + (1 : Int32)))) else (some (.inl (s4.1 ||| ((1 : Int32) <<< (s4.2 &&& 31)), s4.2 + (1 : Int32))))) else none)
def q_FairOrder_openedSet (σ : fo_S)  : Option (Int32) :=
  (fo_lp (q_FairOrder_openedSet_L4 σ) fo_FU ((0 : Int32), (0 : Int32))).bind (fun y4 => some y4.1)
set_option maxHeartbeats 4000000 in
set_option maxRecDepth 100000 in
theorem b_q_FairOrder_openedSet {p : Program} {l : Launch} {e : Env} {R : Room} {s : State} {m : MethodId} {args : Array Value} {below : List Frame} {meth : Method} {c : Code} {Q : State → Prop} {D : va_G} {ca : Nat → ClassId} {ad : Nat → Nat} (C0 : fo_CX p s m args c cX0_openedSet 3 RX0 D ca ad) (hRf : 0 ≤ R.frames) (hRl : 0 ≤ R.locals) (hRc : 0 ≤ R.cells) {σ : fo_S}   {res : Int32} (h0 : q_FairOrder_openedSet σ = some res) (kr : ∀ (pc : Nat) (ls : Array Slot) (H : Heap) (locs : List Loc), decode cX0_openedSet pc = .ok (.ireturn, 1) → va_P D vwCl (fo_vx 51 ad (fo_ce ca ad σ)) H → va_S (fo_A 51 ad s.heap.size) s.heap H locs → W p l e R s m args below meth c H locs 0 0 Q (F0 m pc ls [.int res])) (hP : va_P D vwCl (fo_vx 51 ad (fo_ce ca ad σ)) s.heap) : W p l e R s m args below meth c s.heap [] 0 0 Q (entryFrame m ([.ref (ad (fo_lay 0 0))] : List Value).toArray 3) := by
  obtain ⟨hx, hb, hml, hown, hT, hK, hD⟩ := C0
  have hN0 : (some res) ≠ none := fun q => by cases q
  unfold q_FairOrder_openedSet at h0
  have hS : va_S (fo_A 51 ad s.heap.size) s.heap s.heap [] := va_S.rf
  have hl := lv_entry ([.ref (ad (fo_lay 0 0))]) (n := 3) (Nat.le_of_ble_eq_true rfl)
  rw [lg_entry_eq]
  generalize (lg_sl ([.ref (ad (fo_lay 0 0))]) ++ List.replicate (3 - (lg_sl ([.ref (ad (fo_lay 0 0))])).length) Slot.unset).toArray = ls at hl ⊢
  have hl : lv_has ls 3 [(0, .ref (ad (fo_lay 0 0)))] := hl
  refine lv_iconst (v := 0) hx hb dX0_openedSet_0 (by decide) ?_
  refine lv_istore_n (lv' := [(1, .int (0 : Int32)), (0, .ref (ad (fo_lay 0 0)))]) hx hb dX0_openedSet_1 rfl hl (by decide) rfl (fun ls hl => ?_)
  refine lv_iconst (v := 0) hx hb dX0_openedSet_2 (by decide) ?_
  refine lv_istore_n (lv' := [(2, .int (0 : Int32)), (1, .int (0 : Int32)), (0, .ref (ad (fo_lay 0 0)))]) hx hb dX0_openedSet_3 rfl hl (by decide) rfl (fun ls hl => ?_)
  obtain ⟨y4, hy4, h0⟩ := fo_bd h0 hN0
  have ex4 : ∀ (H : Heap) (locs : List Loc) (ls : Array Slot), va_P D vwCl (fo_vx 51 ad (fo_ce ca ad σ)) H → va_S (fo_A 51 ad s.heap.size) s.heap H locs → lv_has ls 3 [(1, .int y4.1)] → W p l e R s m args below meth c H locs 0 0 Q (F0 m 36 ls []) := by
    intro H locs ls hP hS hl
    refine lv_iload_n hx hb dX0_openedSet_36 rfl (lv_at hl 0 rfl) ?_
    have hr5 := Option.some.inj h0
    subst hr5
    exact kr _ ls _ _ dX0_openedSet_37 hP hS
  have lp4 := fo_lp_ind (fun (s4 : Int32 × Int32) => ∀ (H : Heap) (locs : List Loc) (ls : Array Slot), va_P D vwCl (fo_vx 51 ad (fo_ce ca ad σ)) H → va_S (fo_A 51 ad s.heap.size) s.heap H locs → lv_has ls 3 [(0, .ref (ad (fo_lay 0 0))), (1, .int s4.1), (2, .int s4.2)] → W p l e R s m args below meth c H locs 0 0 Q (F0 m 4 ls [])) (by
      intro s4 o1 h1 hN1 hL1 hE1 H locs ls hP hS hl
      unfold q_FairOrder_openedSet_L4 at h1
      refine lv_iload_n hx hb dX0_openedSet_4 rfl (lv_at hl 2 rfl) ?_
      refine lv_aload_n hx hb dX0_openedSet_5 rfl (lv_at hl 0 rfl) ?_
      refine fo_g0_96 hx hb hT hown hK hP (by decide) dX0_openedSet_6 ?_
      refine lv_icmp_ge (tgt := 36) hx hb dX0_openedSet_9 (by decide) (fun c1 => ?_) (fun c1 => ?_)
      · replace h1 := fo_itT c1 h1
        have hy2 := hE1 _ h1
        subst hy2
        exact ex4 _ _ ls hP hS (lv_sub hl [1] rfl)
      · replace h1 := fo_itF c1 h1
        refine lv_aload_n hx hb dX0_openedSet_12 rfl (lv_at hl 0 rfl) ?_
        refine fo_g0_21 hx hb hT hown hK hP (by decide) dX0_openedSet_13 ?_
        refine lv_iload_n hx hb dX0_openedSet_16 rfl (lv_at hl 2 rfl) ?_
        obtain ⟨g3, h1⟩ := fo_gd h1 hN1
        refine fo_aald_4 hx hb hK hP (by decide) g3 dX0_openedSet_17 ?_
        refine fo_g0_114 hx hb hT hown hK hP (fo_in g3) dX0_openedSet_18 ?_
        refine lv_if_eq (tgt := 30) hx hb dX0_openedSet_21 (by decide) (fun c4 => ?_) (fun c4 => ?_)
        · replace h1 := fo_itT c4 h1
          refine lv_iinc (v := s4.2 + (1 : Int32)) (lv' := [(2, .int (s4.2 + (1 : Int32))), (0, .ref (ad (fo_lay 0 0))), (1, .int s4.1)]) hx hb dX0_openedSet_30 hl (k := 2) rfl rfl (by decide) rfl (fun ls hl => ?_)
          refine lv_goto (tgt := 4) hx hb dX0_openedSet_33 (by decide) ?_
          exact hL1 _ h1 _ _ ls hP hS (lv_sub hl [1, 2, 0] rfl)
        · replace h1 := fo_itF c4 h1
          refine lv_iload_n hx hb dX0_openedSet_24 rfl (lv_at hl 1 rfl) ?_
          refine lv_iconst (v := 1) hx hb dX0_openedSet_25 (by decide) ?_
          refine lv_iload_n hx hb dX0_openedSet_26 rfl (lv_at hl 2 rfl) ?_
          refine lv_ishl hx hb dX0_openedSet_27 ?_
          refine lv_ior hx hb dX0_openedSet_28 ?_
          refine lv_istore_n (lv' := [(1, .int (s4.1 ||| ((1 : Int32) <<< (s4.2 &&& 31)))), (0, .ref (ad (fo_lay 0 0))), (2, .int s4.2)]) hx hb dX0_openedSet_29 rfl hl (by decide) rfl (fun ls hl => ?_)
          refine lv_iinc (v := s4.2 + (1 : Int32)) (lv' := [(2, .int (s4.2 + (1 : Int32))), (1, .int (s4.1 ||| ((1 : Int32) <<< (s4.2 &&& 31)))), (0, .ref (ad (fo_lay 0 0)))]) hx hb dX0_openedSet_30 hl (k := 2) rfl rfl (by decide) rfl (fun ls hl => ?_)
          refine lv_goto (tgt := 4) hx hb dX0_openedSet_33 (by decide) ?_
          exact hL1 _ h1 _ _ ls hP hS (lv_sub hl [2, 1, 0] rfl)) _ _ hy4
  exact lp4 _ _ ls hP hS (lv_sub hl [2, 1, 0] rfl)
theorem c_q_FairOrder_openedSet (l : Launch) (D : va_G) (ca : Nat → ClassId) (ad : Nat → Nat) (sz : Nat) {σ : fo_S}   {res : Int32} (h0 : q_FairOrder_openedSet σ = some res) : Met l yX0_openedSet ws_q_FairOrder_openedSet rm_q_FairOrder_openedSet (fo_Pre 51 D vwCl (fo_tys ca) ad (fo_ce ca ad σ) sz [.ref (ad (fo_lay 0 0))]) (fo_PoI 51 D vwCl (fo_tys ca) ad (fo_ce ca ad σ) sz res) 0 0 (fo_A 51 ad sz) :=
  fo_mkI (by decide) (fun C0 kr hP => b_q_FairOrder_openedSet C0 (Nat.le_refl _) (Nat.le_refl _) (Nat.zero_le _)  h0 kr hP)
def q_Links_isFree_L3 (σ : fo_S) (a1 : Int32) (a2 : Int32) (a3 : Int32) (s3 : Int32) : Option ((Int32) ⊕ ((Int32) ⊕ (Int32))) :=
  if a3 ≤ s3 then (some (.inr (.inl s3))) else ((q_Links_contains σ a2 s3).bind (fun x3 => if x3 = 0 then (some (.inl (s3 + (1 : Int32)))) else ((q_Links_leads σ s3 a1).bind (fun x5 => if x5 = 0 then (some (.inl (s3 + (1 : Int32)))) else ((q_Links_leads σ a1 s3).bind (fun x7 => if x7 = 0 then (some (.inr (.inr (0 : Int32)))) else (some (.inl (s3 + (1 : Int32))))))))))
def q_Links_isFree (σ : fo_S) (a1 : Int32) (a2 : Int32) (a3 : Int32) : Option (Int32) :=
  (fo_lp (q_Links_isFree_L3 σ a1 a2 a3) fo_FU (0 : Int32)).bind (fun y3 => match y3 with | .inl z3 => (some (1 : Int32)) | .inr r3 => some r3)
set_option maxHeartbeats 4000000 in
set_option maxRecDepth 100000 in
theorem b_q_Links_isFree {p : Program} {l : Launch} {e : Env} {R : Room} {s : State} {m : MethodId} {args : Array Value} {below : List Frame} {meth : Method} {c : Code} {Q : State → Prop} {D : va_G} {ca : Nat → ClassId} {ad : Nat → Nat} (C0 : fo_CX p s m args c cX4_isFree 5 RX4 D ca ad) (hRf : 2 ≤ R.frames) (hRl : 43 ≤ R.locals) (hRc : 0 ≤ R.cells) {σ : fo_S} {a1 : Int32} {a2 : Int32} {a3 : Int32}  {res : Int32} (h0 : q_Links_isFree σ a1 a2 a3 = some res) (kr : ∀ (pc : Nat) (ls : Array Slot) (H : Heap) (locs : List Loc), narrow .boolean (.int res) = .int res → decode cX4_isFree pc = .ok (.ireturn, 1) → va_P D vwCl (fo_vx 51 ad (fo_ce ca ad σ)) H → va_S (fo_A 51 ad s.heap.size) s.heap H locs → W p l e R s m args below meth c H locs 0 0 Q (F0 m pc ls [.int res])) (hP : va_P D vwCl (fo_vx 51 ad (fo_ce ca ad σ)) s.heap) : W p l e R s m args below meth c s.heap [] 0 0 Q (entryFrame m ([.ref (ad (fo_lay 8 0)), .int a1, .int a2, .int a3] : List Value).toArray 5) := by
  obtain ⟨hx, hb, hml, hown, hT, hK, hD⟩ := C0
  have hN0 : (some res) ≠ none := fun q => by cases q
  unfold q_Links_isFree at h0
  have hS : va_S (fo_A 51 ad s.heap.size) s.heap s.heap [] := va_S.rf
  have hl := lv_entry ([.ref (ad (fo_lay 8 0)), .int a1, .int a2, .int a3]) (n := 5) (Nat.le_of_ble_eq_true rfl)
  rw [lg_entry_eq]
  generalize (lg_sl ([.ref (ad (fo_lay 8 0)), .int a1, .int a2, .int a3]) ++ List.replicate (5 - (lg_sl ([.ref (ad (fo_lay 8 0)), .int a1, .int a2, .int a3])).length) Slot.unset).toArray = ls at hl ⊢
  have hl : lv_has ls 5 [(0, .ref (ad (fo_lay 8 0))), (1, .int a1), (2, .int a2), (3, .int a3)] := hl
  refine lv_iconst (v := 0) hx hb dX4_isFree_0 (by decide) ?_
  refine lv_istore (lv' := [(4, .int (0 : Int32)), (0, .ref (ad (fo_lay 8 0))), (1, .int a1), (2, .int a2), (3, .int a3)]) hx hb dX4_isFree_1 hl (by decide) rfl (fun ls hl => ?_)
  obtain ⟨y3, hy3, h0⟩ := fo_bd h0 hN0
  have ex3 : ∀ z3 : Int32, y3 = .inl z3 → ∀ (H : Heap) (locs : List Loc) (ls : Array Slot), va_P D vwCl (fo_vx 51 ad (fo_ce ca ad σ)) H → va_S (fo_A 51 ad s.heap.size) s.heap H locs → lv_has ls 5 [] → W p l e R s m args below meth c H locs 0 0 Q (F0 m 46 ls []) := by
    intro z3 hq3 H locs ls hP hS hl
    subst hq3
    refine lv_iconst (v := 1) hx hb dX4_isFree_46 (by decide) ?_
    have hr11 := Option.some.inj h0
    subst hr11
    exact kr _ ls _ _ (fo_zn (Or.inr rfl)) dX4_isFree_47 hP hS
  have lp3 := fo_lp_ind (fun (s3 : Int32) => ∀ (H : Heap) (locs : List Loc) (ls : Array Slot), va_P D vwCl (fo_vx 51 ad (fo_ce ca ad σ)) H → va_S (fo_A 51 ad s.heap.size) s.heap H locs → lv_has ls 5 [(0, .ref (ad (fo_lay 8 0))), (1, .int a1), (2, .int a2), (3, .int a3), (4, .int s3)] → W p l e R s m args below meth c H locs 0 0 Q (F0 m 3 ls [])) (by
      intro s3 o1 h1 hN1 hL1 hE1 H locs ls hP hS hl
      unfold q_Links_isFree_L3 at h1
      refine lv_iload hx hb dX4_isFree_3 (lv_at hl 4 rfl) ?_
      refine lv_iload_n hx hb dX4_isFree_5 rfl (lv_at hl 3 rfl) ?_
      refine lv_icmp_ge (tgt := 46) hx hb dX4_isFree_6 (by decide) (fun c1 => ?_) (fun c1 => ?_)
      · replace h1 := fo_itT c1 h1
        have hy2 := hE1 _ h1
        exact ex3 _ hy2.symm _ _ ls hP hS (lv_sub hl [] rfl)
      · replace h1 := fo_itF c1 h1
        refine lv_iload_n hx hb dX4_isFree_9 rfl (lv_at hl 2 rfl) ?_
        refine lv_iload hx hb dX4_isFree_10 (lv_at hl 4 rfl) ?_
        obtain ⟨x3, hx3, h1⟩ := fo_bd h1 hN1
        refine fo_calli (va_runS (H := _) (As := [.int a2, .int s3]) (rest := []) ⟨hx, hb, hml, hown, hT⟩ (c_q_Links_contains l D ca ad _ hx3) (fo_c4_33 hT ⟨Nat.le_trans (Nat.le_of_ble_eq_true rfl) hRf, Nat.le_trans (Nat.le_of_ble_eq_true rfl) hRl⟩) ⟨fo_Pre_blind, fo_Pre_at hP hK (hD _)⟩ rfl rfl hl.1 rfl (lv_room (Nat.le_of_ble_eq_true rfl)) dX4_isFree_12 ⟨Nat.zero_le _, Nat.zero_le _⟩) hS (fun H locs hP hS => ?_)
        refine lv_if_eq (tgt := 40) hx hb dX4_isFree_15 (by decide) (fun c4 => ?_) (fun c4 => ?_)
        · replace h1 := fo_itT c4 h1
          refine lv_iinc (v := s3 + (1 : Int32)) (lv' := [(4, .int (s3 + (1 : Int32))), (0, .ref (ad (fo_lay 8 0))), (1, .int a1), (2, .int a2), (3, .int a3)]) hx hb dX4_isFree_40 hl (k := 4) rfl rfl (by decide) rfl (fun ls hl => ?_)
          refine lv_goto (tgt := 3) hx hb dX4_isFree_43 (by decide) ?_
          exact hL1 _ h1 _ _ ls hP hS (lv_sub hl [1, 2, 3, 4, 0] rfl)
        · replace h1 := fo_itF c4 h1
          refine lv_aload_n hx hb dX4_isFree_18 rfl (lv_at hl 0 rfl) ?_
          refine lv_iload hx hb dX4_isFree_19 (lv_at hl 4 rfl) ?_
          refine lv_iload_n hx hb dX4_isFree_21 rfl (lv_at hl 1 rfl) ?_
          obtain ⟨x5, hx5, h1⟩ := fo_bd h1 hN1
          refine fo_calli (va_runV (H := _) (As := [.int s3, .int a1]) (rest := []) ⟨hx, hb, hml, hown, hT⟩ (c_q_Links_leads l D ca ad _ hx5) (fo_c4_19 hT ⟨Nat.le_trans (Nat.le_of_ble_eq_true rfl) hRf, Nat.le_trans (Nat.le_of_ble_eq_true rfl) hRl⟩) ⟨fo_Pre_blind, fo_rc8 hK hP (by decide), fo_Pre_at hP hK (hD _)⟩ rfl rfl hl.1 rfl (lv_room (Nat.le_of_ble_eq_true rfl)) dX4_isFree_22 ⟨Nat.zero_le _, Nat.zero_le _⟩) hS (fun H locs hP hS => ?_)
          refine lv_if_eq (tgt := 40) hx hb dX4_isFree_25 (by decide) (fun c6 => ?_) (fun c6 => ?_)
          · replace h1 := fo_itT c6 h1
            refine lv_iinc (v := s3 + (1 : Int32)) (lv' := [(4, .int (s3 + (1 : Int32))), (0, .ref (ad (fo_lay 8 0))), (1, .int a1), (2, .int a2), (3, .int a3)]) hx hb dX4_isFree_40 hl (k := 4) rfl rfl (by decide) rfl (fun ls hl => ?_)
            refine lv_goto (tgt := 3) hx hb dX4_isFree_43 (by decide) ?_
            exact hL1 _ h1 _ _ ls hP hS (lv_sub hl [1, 2, 3, 4, 0] rfl)
          · replace h1 := fo_itF c6 h1
            refine lv_aload_n hx hb dX4_isFree_28 rfl (lv_at hl 0 rfl) ?_
            refine lv_iload_n hx hb dX4_isFree_29 rfl (lv_at hl 1 rfl) ?_
            refine lv_iload hx hb dX4_isFree_30 (lv_at hl 4 rfl) ?_
            obtain ⟨x7, hx7, h1⟩ := fo_bd h1 hN1
            refine fo_calli (va_runV (H := _) (As := [.int a1, .int s3]) (rest := []) ⟨hx, hb, hml, hown, hT⟩ (c_q_Links_leads l D ca ad _ hx7) (fo_c4_19 hT ⟨Nat.le_trans (Nat.le_of_ble_eq_true rfl) hRf, Nat.le_trans (Nat.le_of_ble_eq_true rfl) hRl⟩) ⟨fo_Pre_blind, fo_rc8 hK hP (by decide), fo_Pre_at hP hK (hD _)⟩ rfl rfl hl.1 rfl (lv_room (Nat.le_of_ble_eq_true rfl)) dX4_isFree_32 ⟨Nat.zero_le _, Nat.zero_le _⟩) hS (fun H locs hP hS => ?_)
            refine lv_if_ne (tgt := 40) hx hb dX4_isFree_35 (by decide) (fun c8 => ?_) (fun c8 => ?_)
            · replace h1 := fo_itF c8 h1
              refine lv_iinc (v := s3 + (1 : Int32)) (lv' := [(4, .int (s3 + (1 : Int32))), (0, .ref (ad (fo_lay 8 0))), (1, .int a1), (2, .int a2), (3, .int a3)]) hx hb dX4_isFree_40 hl (k := 4) rfl rfl (by decide) rfl (fun ls hl => ?_)
              refine lv_goto (tgt := 3) hx hb dX4_isFree_43 (by decide) ?_
              exact hL1 _ h1 _ _ ls hP hS (lv_sub hl [1, 2, 3, 4, 0] rfl)
            · replace h1 := fo_itT c8 h1
              refine lv_iconst (v := 0) hx hb dX4_isFree_38 (by decide) ?_
              have hy9 := hE1 _ h1
              subst hy9
              have hr10 := Option.some.inj h0
              subst hr10
              exact kr _ ls _ _ (fo_zn (Or.inl rfl)) dX4_isFree_39 hP hS) _ _ hy3
  exact lp3 _ _ ls hP hS (lv_sub hl [1, 2, 3, 4, 0] rfl)
theorem c_q_Links_isFree (l : Launch) (D : va_G) (ca : Nat → ClassId) (ad : Nat → Nat) (sz : Nat) {σ : fo_S} {a1 : Int32} {a2 : Int32} {a3 : Int32}  {res : Int32} (h0 : q_Links_isFree σ a1 a2 a3 = some res) : Met l yX4_isFree ws_q_Links_isFree rm_q_Links_isFree (fo_Pre 51 D vwCl (fo_tys ca) ad (fo_ce ca ad σ) sz [.ref (ad (fo_lay 8 0)), .int a1, .int a2, .int a3]) (fo_PoI 51 D vwCl (fo_tys ca) ad (fo_ce ca ad σ) sz res) 0 0 (fo_A 51 ad sz) :=
  fo_mkZ (by decide) (fun C0 kr hP => b_q_Links_isFree C0 (Nat.le_refl _) (Nat.le_refl _) (Nat.zero_le _)  h0 kr hP)
def q_Links_knotOf_L7 (σ : fo_S) (a1 : Int32) (a2 : Int32) (s7 : Int32 × Int32) : Option ((Int32 × Int32) ⊕ (Int32 × Int32)) :=
  if a2 ≤ s7.2 then (some (.inr (s7.1, s7.2))) else ((q_Links_leads σ a1 s7.2).bind (fun x3 => if x3 = 0 then (some (.inl (s7.1, s7.2 + (1 : Int32)))) else ((q_Links_leads σ s7.2 a1).bind (fun x5 => if x5 = 0 then (some (.inl (s7.1, s7.2 + (1 : Int32)))) else (some (.inl (s7.1 ||| ((1 : Int32) <<< (s7.2 &&& 31)), s7.2 + (1 : Int32))))))))
def q_Links_knotOf (σ : fo_S) (a1 : Int32) (a2 : Int32) : Option (Int32) :=
  (fo_lp (q_Links_knotOf_L7 σ a1 a2) fo_FU ((1 : Int32) <<< (a1 &&& 31), (0 : Int32))).bind (fun y7 => some y7.1)
set_option maxHeartbeats 4000000 in
set_option maxRecDepth 100000 in
theorem b_q_Links_knotOf {p : Program} {l : Launch} {e : Env} {R : Room} {s : State} {m : MethodId} {args : Array Value} {below : List Frame} {meth : Method} {c : Code} {Q : State → Prop} {D : va_G} {ca : Nat → ClassId} {ad : Nat → Nat} (C0 : fo_CX p s m args c cX4_knotOf 5 RX4 D ca ad) (hRf : 2 ≤ R.frames) (hRl : 43 ≤ R.locals) (hRc : 0 ≤ R.cells) {σ : fo_S} {a1 : Int32} {a2 : Int32}  {res : Int32} (h0 : q_Links_knotOf σ a1 a2 = some res) (kr : ∀ (pc : Nat) (ls : Array Slot) (H : Heap) (locs : List Loc), decode cX4_knotOf pc = .ok (.ireturn, 1) → va_P D vwCl (fo_vx 51 ad (fo_ce ca ad σ)) H → va_S (fo_A 51 ad s.heap.size) s.heap H locs → W p l e R s m args below meth c H locs 0 0 Q (F0 m pc ls [.int res])) (hP : va_P D vwCl (fo_vx 51 ad (fo_ce ca ad σ)) s.heap) : W p l e R s m args below meth c s.heap [] 0 0 Q (entryFrame m ([.ref (ad (fo_lay 8 0)), .int a1, .int a2] : List Value).toArray 5) := by
  obtain ⟨hx, hb, hml, hown, hT, hK, hD⟩ := C0
  have hN0 : (some res) ≠ none := fun q => by cases q
  unfold q_Links_knotOf at h0
  have hS : va_S (fo_A 51 ad s.heap.size) s.heap s.heap [] := va_S.rf
  have hl := lv_entry ([.ref (ad (fo_lay 8 0)), .int a1, .int a2]) (n := 5) (Nat.le_of_ble_eq_true rfl)
  rw [lg_entry_eq]
  generalize (lg_sl ([.ref (ad (fo_lay 8 0)), .int a1, .int a2]) ++ List.replicate (5 - (lg_sl ([.ref (ad (fo_lay 8 0)), .int a1, .int a2])).length) Slot.unset).toArray = ls at hl ⊢
  have hl : lv_has ls 5 [(0, .ref (ad (fo_lay 8 0))), (1, .int a1), (2, .int a2)] := hl
  refine lv_iconst (v := 1) hx hb dX4_knotOf_0 (by decide) ?_
  refine lv_iload_n hx hb dX4_knotOf_1 rfl (lv_at hl 1 rfl) ?_
  refine lv_ishl hx hb dX4_knotOf_2 ?_
  refine lv_istore_n (lv' := [(3, .int ((1 : Int32) <<< (a1 &&& 31))), (0, .ref (ad (fo_lay 8 0))), (1, .int a1), (2, .int a2)]) hx hb dX4_knotOf_3 rfl hl (by decide) rfl (fun ls hl => ?_)
  refine lv_iconst (v := 0) hx hb dX4_knotOf_4 (by decide) ?_
  refine lv_istore (lv' := [(4, .int (0 : Int32)), (3, .int ((1 : Int32) <<< (a1 &&& 31))), (0, .ref (ad (fo_lay 8 0))), (1, .int a1), (2, .int a2)]) hx hb dX4_knotOf_5 hl (by decide) rfl (fun ls hl => ?_)
  obtain ⟨y7, hy7, h0⟩ := fo_bd h0 hN0
  have ex7 : ∀ (H : Heap) (locs : List Loc) (ls : Array Slot), va_P D vwCl (fo_vx 51 ad (fo_ce ca ad σ)) H → va_S (fo_A 51 ad s.heap.size) s.heap H locs → lv_has ls 5 [(3, .int y7.1)] → W p l e R s m args below meth c H locs 0 0 Q (F0 m 46 ls []) := by
    intro H locs ls hP hS hl
    refine lv_iload_n hx hb dX4_knotOf_46 rfl (lv_at hl 0 rfl) ?_
    have hr7 := Option.some.inj h0
    subst hr7
    exact kr _ ls _ _ dX4_knotOf_47 hP hS
  have lp7 := fo_lp_ind (fun (s7 : Int32 × Int32) => ∀ (H : Heap) (locs : List Loc) (ls : Array Slot), va_P D vwCl (fo_vx 51 ad (fo_ce ca ad σ)) H → va_S (fo_A 51 ad s.heap.size) s.heap H locs → lv_has ls 5 [(0, .ref (ad (fo_lay 8 0))), (1, .int a1), (2, .int a2), (3, .int s7.1), (4, .int s7.2)] → W p l e R s m args below meth c H locs 0 0 Q (F0 m 7 ls [])) (by
      intro s7 o1 h1 hN1 hL1 hE1 H locs ls hP hS hl
      unfold q_Links_knotOf_L7 at h1
      refine lv_iload hx hb dX4_knotOf_7 (lv_at hl 4 rfl) ?_
      refine lv_iload_n hx hb dX4_knotOf_9 rfl (lv_at hl 2 rfl) ?_
      refine lv_icmp_ge (tgt := 46) hx hb dX4_knotOf_10 (by decide) (fun c1 => ?_) (fun c1 => ?_)
      · replace h1 := fo_itT c1 h1
        have hy2 := hE1 _ h1
        subst hy2
        exact ex7 _ _ ls hP hS (lv_sub hl [3] rfl)
      · replace h1 := fo_itF c1 h1
        refine lv_aload_n hx hb dX4_knotOf_13 rfl (lv_at hl 0 rfl) ?_
        refine lv_iload_n hx hb dX4_knotOf_14 rfl (lv_at hl 1 rfl) ?_
        refine lv_iload hx hb dX4_knotOf_15 (lv_at hl 4 rfl) ?_
        obtain ⟨x3, hx3, h1⟩ := fo_bd h1 hN1
        refine fo_calli (va_runV (H := _) (As := [.int a1, .int s7.2]) (rest := []) ⟨hx, hb, hml, hown, hT⟩ (c_q_Links_leads l D ca ad _ hx3) (fo_c4_19 hT ⟨Nat.le_trans (Nat.le_of_ble_eq_true rfl) hRf, Nat.le_trans (Nat.le_of_ble_eq_true rfl) hRl⟩) ⟨fo_Pre_blind, fo_rc8 hK hP (by decide), fo_Pre_at hP hK (hD _)⟩ rfl rfl hl.1 rfl (lv_room (Nat.le_of_ble_eq_true rfl)) dX4_knotOf_17 ⟨Nat.zero_le _, Nat.zero_le _⟩) hS (fun H locs hP hS => ?_)
        refine lv_if_eq (tgt := 40) hx hb dX4_knotOf_20 (by decide) (fun c4 => ?_) (fun c4 => ?_)
        · replace h1 := fo_itT c4 h1
          refine lv_iinc (v := s7.2 + (1 : Int32)) (lv' := [(4, .int (s7.2 + (1 : Int32))), (0, .ref (ad (fo_lay 8 0))), (1, .int a1), (2, .int a2), (3, .int s7.1)]) hx hb dX4_knotOf_40 hl (k := 4) rfl rfl (by decide) rfl (fun ls hl => ?_)
          refine lv_goto (tgt := 7) hx hb dX4_knotOf_43 (by decide) ?_
          exact hL1 _ h1 _ _ ls hP hS (lv_sub hl [1, 2, 3, 4, 0] rfl)
        · replace h1 := fo_itF c4 h1
          refine lv_aload_n hx hb dX4_knotOf_23 rfl (lv_at hl 0 rfl) ?_
          refine lv_iload hx hb dX4_knotOf_24 (lv_at hl 4 rfl) ?_
          refine lv_iload_n hx hb dX4_knotOf_26 rfl (lv_at hl 1 rfl) ?_
          obtain ⟨x5, hx5, h1⟩ := fo_bd h1 hN1
          refine fo_calli (va_runV (H := _) (As := [.int s7.2, .int a1]) (rest := []) ⟨hx, hb, hml, hown, hT⟩ (c_q_Links_leads l D ca ad _ hx5) (fo_c4_19 hT ⟨Nat.le_trans (Nat.le_of_ble_eq_true rfl) hRf, Nat.le_trans (Nat.le_of_ble_eq_true rfl) hRl⟩) ⟨fo_Pre_blind, fo_rc8 hK hP (by decide), fo_Pre_at hP hK (hD _)⟩ rfl rfl hl.1 rfl (lv_room (Nat.le_of_ble_eq_true rfl)) dX4_knotOf_27 ⟨Nat.zero_le _, Nat.zero_le _⟩) hS (fun H locs hP hS => ?_)
          refine lv_if_eq (tgt := 40) hx hb dX4_knotOf_30 (by decide) (fun c6 => ?_) (fun c6 => ?_)
          · replace h1 := fo_itT c6 h1
            refine lv_iinc (v := s7.2 + (1 : Int32)) (lv' := [(4, .int (s7.2 + (1 : Int32))), (0, .ref (ad (fo_lay 8 0))), (1, .int a1), (2, .int a2), (3, .int s7.1)]) hx hb dX4_knotOf_40 hl (k := 4) rfl rfl (by decide) rfl (fun ls hl => ?_)
            refine lv_goto (tgt := 7) hx hb dX4_knotOf_43 (by decide) ?_
            exact hL1 _ h1 _ _ ls hP hS (lv_sub hl [1, 2, 3, 4, 0] rfl)
          · replace h1 := fo_itF c6 h1
            refine lv_iload_n hx hb dX4_knotOf_33 rfl (lv_at hl 3 rfl) ?_
            refine lv_iconst (v := 1) hx hb dX4_knotOf_34 (by decide) ?_
            refine lv_iload hx hb dX4_knotOf_35 (lv_at hl 4 rfl) ?_
            refine lv_ishl hx hb dX4_knotOf_37 ?_
            refine lv_ior hx hb dX4_knotOf_38 ?_
            refine lv_istore_n (lv' := [(3, .int (s7.1 ||| ((1 : Int32) <<< (s7.2 &&& 31)))), (0, .ref (ad (fo_lay 8 0))), (1, .int a1), (2, .int a2), (4, .int s7.2)]) hx hb dX4_knotOf_39 rfl hl (by decide) rfl (fun ls hl => ?_)
            refine lv_iinc (v := s7.2 + (1 : Int32)) (lv' := [(4, .int (s7.2 + (1 : Int32))), (3, .int (s7.1 ||| ((1 : Int32) <<< (s7.2 &&& 31)))), (0, .ref (ad (fo_lay 8 0))), (1, .int a1), (2, .int a2)]) hx hb dX4_knotOf_40 hl (k := 4) rfl rfl (by decide) rfl (fun ls hl => ?_)
            refine lv_goto (tgt := 7) hx hb dX4_knotOf_43 (by decide) ?_
            exact hL1 _ h1 _ _ ls hP hS (lv_sub hl [2, 3, 4, 1, 0] rfl)) _ _ hy7
  exact lp7 _ _ ls hP hS (lv_sub hl [2, 3, 4, 1, 0] rfl)
theorem c_q_Links_knotOf (l : Launch) (D : va_G) (ca : Nat → ClassId) (ad : Nat → Nat) (sz : Nat) {σ : fo_S} {a1 : Int32} {a2 : Int32}  {res : Int32} (h0 : q_Links_knotOf σ a1 a2 = some res) : Met l yX4_knotOf ws_q_Links_knotOf rm_q_Links_knotOf (fo_Pre 51 D vwCl (fo_tys ca) ad (fo_ce ca ad σ) sz [.ref (ad (fo_lay 8 0)), .int a1, .int a2]) (fo_PoI 51 D vwCl (fo_tys ca) ad (fo_ce ca ad σ) sz res) 0 0 (fo_A 51 ad sz) :=
  fo_mkI (by decide) (fun C0 kr hP => b_q_Links_knotOf C0 (Nat.le_refl _) (Nat.le_refl _) (Nat.zero_le _)  h0 kr hP)
