def q_Auction_joinSells (σ : fo_S) (i1 : Nat) (a2 : Int32) (i3 : Nat) : Option (Int32 × fo_S) :=
  if fo_vi (σ.1 14 i1 1) 8 then (if a2 < (σ.1 14 i1 6) then (some ((0 : Int32), σ)) else (if fo_vi (σ.1 14 i1 1) 9 then (if (lg_cmp ((σ.2 13 0 (σ.1 14 i1 1).toNatClampNeg) + ((σ.1 14 i1 7).toInt64)) (σ.2 3 i3 (σ.1 14 i1 1).toNatClampNeg)) ≤ 0 then (if fo_vi (σ.1 14 i1 1) 8 then (some ((1 : Int32), fo_pJ (fo_pJ σ 13 0 (σ.1 14 i1 1).toNatClampNeg ((σ.2 13 0 (σ.1 14 i1 1).toNatClampNeg) + ((σ.1 14 i1 7).toInt64))) 10 0 4 (((fo_pJ σ 13 0 (σ.1 14 i1 1).toNatClampNeg ((σ.2 13 0 (σ.1 14 i1 1).toNatClampNeg) + ((σ.1 14 i1 7).toInt64))).2 10 0 4) + (((fo_pJ σ 13 0 (σ.1 14 i1 1).toNatClampNeg ((σ.2 13 0 (σ.1 14 i1 1).toNatClampNeg) + ((σ.1 14 i1 7).toInt64))).1 14 i1 7).toInt64)))) else none) else (some ((0 : Int32), σ))) else none)) else none
set_option maxHeartbeats 4000000 in
set_option maxRecDepth 100000 in
theorem b_q_Auction_joinSells {p : Program} {l : Launch} {e : Env} {R : Room} {s : State} {m : MethodId} {args : Array Value} {below : List Frame} {meth : Method} {c : Code} {Q : State → Prop} {D : va_G} {ca : Nat → ClassId} {ad : Nat → Nat} (C0 : fo_CX p s m args c cX5_joinSells 6 RX5 D ca ad) (hRf : 0 ≤ R.frames) (hRl : 0 ≤ R.locals) (hRc : 0 ≤ R.cells) {σ : fo_S} {i1 : Nat} {a2 : Int32} {i3 : Nat} (hi1 : i1 < 16) (hi3 : i3 < 2) {res : Int32 × fo_S} (h0 : q_Auction_joinSells σ i1 a2 i3 = some res) (kr : ∀ (pc : Nat) (ls : Array Slot) (H : Heap) (locs : List Loc), narrow .boolean (.int res.1) = .int res.1 → decode cX5_joinSells pc = .ok (.ireturn, 1) → va_P D vwCl (fo_vx 51 ad (fo_ce ca ad res.2)) H → va_S (fo_A 51 ad s.heap.size) s.heap H locs → W p l e R s m args below meth c H locs 0 0 Q (F0 m pc ls [.int res.1])) (hP : va_P D vwCl (fo_vx 51 ad (fo_ce ca ad σ)) s.heap) : W p l e R s m args below meth c s.heap [] 0 0 Q (entryFrame m ([.ref (ad (fo_lay 10 0)), .ref (ad (fo_lay 14 i1)), .int a2, .ref (ad (fo_lay 1 i3))] : List Value).toArray 6) := by
  obtain ⟨hx, hb, hml, hown, hT, hK, hD⟩ := C0
  have hN0 : (some res) ≠ none := fun q => by cases q
  unfold q_Auction_joinSells at h0
  have hS : va_S (fo_A 51 ad s.heap.size) s.heap s.heap [] := va_S.rf
  have hl := lv_entry ([.ref (ad (fo_lay 10 0)), .ref (ad (fo_lay 14 i1)), .int a2, .ref (ad (fo_lay 1 i3))]) (n := 6) (Nat.le_of_ble_eq_true rfl)
  rw [lg_entry_eq]
  generalize (lg_sl ([.ref (ad (fo_lay 10 0)), .ref (ad (fo_lay 14 i1)), .int a2, .ref (ad (fo_lay 1 i3))]) ++ List.replicate (6 - (lg_sl ([.ref (ad (fo_lay 10 0)), .ref (ad (fo_lay 14 i1)), .int a2, .ref (ad (fo_lay 1 i3))])).length) Slot.unset).toArray = ls at hl ⊢
  have hl : lv_has ls 6 [(0, .ref (ad (fo_lay 10 0))), (1, .ref (ad (fo_lay 14 i1))), (2, .int a2), (3, .ref (ad (fo_lay 1 i3)))] := hl
  refine lv_aload_n hx hb dX5_joinSells_0 rfl (lv_at hl 0 rfl) ?_
  refine fo_g5_19 hx hb hT hown hK hP (by decide) dX5_joinSells_1 ?_
  refine lv_aload_n hx hb dX5_joinSells_4 rfl (lv_at hl 1 rfl) ?_
  refine fo_g5_74 hx hb hT hown hK hP hi1 dX5_joinSells_5 ?_
  obtain ⟨g1, h0⟩ := fo_gd h0 hN0
  refine fo_lald (k := 13) (n := 8) hx hb hK hP (by decide) (by decide) (fun _ _ => rfl) g1 dX5_joinSells_8 ?_
  refine lv_aload_n hx hb dX5_joinSells_9 rfl (lv_at hl 1 rfl) ?_
  refine fo_g5_77 hx hb hT hown hK hP hi1 dX5_joinSells_10 ?_
  refine lv_i2l hx hb dX5_joinSells_13 rfl ?_
  refine lv_ladd hx hb dX5_joinSells_14 ?_
  refine lv_lstore (lv' := [(4, .long ((σ.2 13 0 (σ.1 14 i1 1).toNatClampNeg) + ((σ.1 14 i1 7).toInt64))), (0, .ref (ad (fo_lay 10 0))), (1, .ref (ad (fo_lay 14 i1))), (2, .int a2), (3, .ref (ad (fo_lay 1 i3)))]) hx hb dX5_joinSells_15 hl (by decide) rfl (fun ls hl => ?_)
  refine lv_aload_n hx hb dX5_joinSells_17 rfl (lv_at hl 2 rfl) ?_
  refine fo_g5_80 hx hb hT hown hK hP hi1 dX5_joinSells_18 ?_
  refine lv_iload_n hx hb dX5_joinSells_21 rfl (lv_at hl 3 rfl) ?_
  refine lv_icmp_gt (tgt := 40) hx hb dX5_joinSells_22 (by decide) (fun c2 => ?_) (fun c2 => ?_)
  · replace h0 := fo_itT c2 h0
    refine lv_iconst (v := 0) hx hb dX5_joinSells_40 (by decide) ?_
    have hr3 := Option.some.inj h0
    subst hr3
    exact kr _ ls _ _ (fo_zn (Or.inl rfl)) dX5_joinSells_41 hP hS
  · replace h0 := fo_itF c2 h0
    refine lv_lload hx hb dX5_joinSells_25 (lv_at hl 0 rfl) ?_
    refine lv_aload_n hx hb dX5_joinSells_27 rfl (lv_at hl 4 rfl) ?_
    refine fo_g5_88 hx hb hT hown hK hP hi3 dX5_joinSells_28 ?_
    refine lv_aload_n hx hb dX5_joinSells_31 rfl (lv_at hl 2 rfl) ?_
    refine fo_g5_74 hx hb hT hown hK hP hi1 dX5_joinSells_32 ?_
    obtain ⟨g4, h0⟩ := fo_gd h0 hN0
    refine fo_lald (k := 3) (n := 9) hx hb hK hP (by decide) hi3 (fun _ _ => rfl) g4 dX5_joinSells_35 ?_
    refine W.lcmp hx hb dX5_joinSells_36 ?_
    refine lv_if_le (tgt := 42) hx hb dX5_joinSells_37 (by decide) (fun c5 => ?_) (fun c5 => ?_)
    · replace h0 := fo_itT c5 h0
      refine lv_aload_n hx hb dX5_joinSells_42 rfl (lv_at hl 1 rfl) ?_
      refine fo_g5_19 hx hb hT hown hK hP (by decide) dX5_joinSells_43 ?_
      refine lv_aload_n hx hb dX5_joinSells_46 rfl (lv_at hl 2 rfl) ?_
      refine fo_g5_74 hx hb hT hown hK hP hi1 dX5_joinSells_47 ?_
      refine lv_lload hx hb dX5_joinSells_50 (lv_at hl 0 rfl) ?_
      obtain ⟨g6, h0⟩ := fo_gd h0 hN0
      refine fo_last (k := 13) (n := 8) hx hb hK hP hD hS (by decide) (by decide) (fun _ _ => rfl) g6 dX5_joinSells_52 (fun H locs hP hS => ?_)
      refine lv_aload_n hx hb dX5_joinSells_53 rfl (lv_at hl 1 rfl) ?_
      refine lv_dup hx hb dX5_joinSells_54 rfl ?_
      refine fo_g5_53 hx hb hT hown hK hP (by decide) dX5_joinSells_55 ?_
      refine lv_aload_n hx hb dX5_joinSells_58 rfl (lv_at hl 2 rfl) ?_
      refine fo_g5_77 hx hb hT hown hK hP hi1 dX5_joinSells_59 ?_
      refine lv_i2l hx hb dX5_joinSells_62 rfl ?_
      refine lv_ladd hx hb dX5_joinSells_63 ?_
      refine fo_p5_53 hx hb hT hown hK hP hD hS (by decide) dX5_joinSells_64 (fun H locs hP hS => ?_)
      refine lv_iconst (v := 1) hx hb dX5_joinSells_67 (by decide) ?_
      have hr7 := Option.some.inj h0
      subst hr7
      exact kr _ ls _ _ (fo_zn (Or.inr rfl)) dX5_joinSells_68 hP hS
    · replace h0 := fo_itF c5 h0
      refine lv_iconst (v := 0) hx hb dX5_joinSells_40 (by decide) ?_
      have hr8 := Option.some.inj h0
      subst hr8
      exact kr _ ls _ _ (fo_zn (Or.inl rfl)) dX5_joinSells_41 hP hS
theorem c_q_Auction_joinSells (l : Launch) (D : va_G) (ca : Nat → ClassId) (ad : Nat → Nat) (sz : Nat) {σ : fo_S} {i1 : Nat} {a2 : Int32} {i3 : Nat} (hi1 : i1 < 16) (hi3 : i3 < 2) {res : Int32 × fo_S} (h0 : q_Auction_joinSells σ i1 a2 i3 = some res) : Met l yX5_joinSells ws_q_Auction_joinSells rm_q_Auction_joinSells (fo_Pre 51 D vwCl (fo_tys ca) ad (fo_ce ca ad σ) sz [.ref (ad (fo_lay 10 0)), .ref (ad (fo_lay 14 i1)), .int a2, .ref (ad (fo_lay 1 i3))]) (fo_PoI 51 D vwCl (fo_tys ca) ad (fo_ce ca ad res.2) sz res.1) 0 0 (fo_A 51 ad sz) :=
  fo_mkZ (by decide) (fun C0 kr hP => b_q_Auction_joinSells C0 (Nat.le_refl _) (Nat.le_refl _) (Nat.zero_le _) hi1 hi3 h0 kr hP)
def q_Auction_gather_L29 (a1 : Int32) (i2 : Nat) (i4 : Nat) (s29 : Int32 × fo_S) : Option ((Int32 × fo_S) ⊕ (Int32 × fo_S)) :=
  if (s29.2.1 5 i2 1) ≤ s29.1 then (some (.inr (s29.1, s29.2))) else (if fo_vi s29.1 16 then ( if fo_vi (s29.2.1 6 i2 s29.1.toNatClampNeg) 16 then (if (s29.2.1 14 ((s29.2.1 6 i2 s29.1.toNatClampNeg).toNatClampNeg) 5) = 0 then ((q_Auction_joinBuys s29.2 ((s29.2.1 6 i2 s29.1.toNatClampNeg).toNatClampNeg) a1 i4).bind (fun x8 =>  if fo_vi s29.1 16 then (some (.inl (s29.1 + (1 : Int32), fo_pI x8.2 11 0 s29.1.toNatClampNeg (vp_nar .boolean x8.1)))) else none)) else ((q_Auction_joinSells s29.2 ((s29.2.1 6 i2 s29.1.toNatClampNeg).toNatClampNeg) a1 i4).bind (fun x6 =>  if fo_vi s29.1 16 then (some (.inl (s29.1 + (1 : Int32), fo_pI x6.2 11 0 s29.1.toNatClampNeg (vp_nar .boolean x6.1)))) else none))) else none) else none)
def q_Auction_gather (σ : fo_S) (a1 : Int32) (i2 : Nat) (i4 : Nat) : Option (fo_S) :=
  (fo_lp (q_Auction_gather_L29 a1 i2 i4) fo_FU ((0 : Int32), fo_pJ (fo_pJ (fo_rJ (fo_rJ σ 12 0 (fo_fil (σ.2 12 0) 8 (0 : Int64))) 13 0 (fo_fil ((fo_rJ σ 12 0 (fo_fil (σ.2 12 0) 8 (0 : Int64))).2 13 0) 8 (0 : Int64))) 10 0 3 (0 : Int64)) 10 0 4 (0 : Int64))).bind (fun y29 => some y29.2)
set_option maxHeartbeats 4000000 in
set_option maxRecDepth 100000 in
theorem b_q_Auction_gather {p : Program} {l : Launch} {e : Env} {R : Room} {s : State} {m : MethodId} {args : Array Value} {below : List Frame} {meth : Method} {c : Code} {Q : State → Prop} {D : va_G} {ca : Nat → ClassId} {ad : Nat → Nat} (C0 : fo_CX p s m args c cX5_gather 7 RX5 D ca ad) (hRf : 1 ≤ R.frames) (hRl : 25 ≤ R.locals) (hRc : 0 ≤ R.cells) {σ : fo_S} {a1 : Int32} {i2 : Nat} {i4 : Nat} (hi2 : i2 < 2) (hi4 : i4 < 2) {res : fo_S} (h0 : q_Auction_gather σ a1 i2 i4 = some res) (kr : ∀ (pc : Nat) (ls : Array Slot) (H : Heap) (locs : List Loc), decode cX5_gather pc = .ok (.return_, 1) → va_P D vwCl (fo_vx 51 ad (fo_ce ca ad res)) H → va_S (fo_A 51 ad s.heap.size) s.heap H locs → W p l e R s m args below meth c H locs 0 0 Q (F0 m pc ls [])) (hP : va_P D vwCl (fo_vx 51 ad (fo_ce ca ad σ)) s.heap) : W p l e R s m args below meth c s.heap [] 0 0 Q (entryFrame m ([.ref (ad (fo_lay 10 0)), .int a1, .ref (ad (fo_lay 5 i2)), .ref (ad (fo_lay 4 0)), .ref (ad (fo_lay 1 i4))] : List Value).toArray 7) := by
  obtain ⟨hx, hb, hml, hown, hT, hK, hD⟩ := C0
  have hN0 : (some res) ≠ none := fun q => by cases q
  unfold q_Auction_gather at h0
  have hS : va_S (fo_A 51 ad s.heap.size) s.heap s.heap [] := va_S.rf
  have hl := lv_entry ([.ref (ad (fo_lay 10 0)), .int a1, .ref (ad (fo_lay 5 i2)), .ref (ad (fo_lay 4 0)), .ref (ad (fo_lay 1 i4))]) (n := 7) (Nat.le_of_ble_eq_true rfl)
  rw [lg_entry_eq]
  generalize (lg_sl ([.ref (ad (fo_lay 10 0)), .int a1, .ref (ad (fo_lay 5 i2)), .ref (ad (fo_lay 4 0)), .ref (ad (fo_lay 1 i4))]) ++ List.replicate (7 - (lg_sl ([.ref (ad (fo_lay 10 0)), .int a1, .ref (ad (fo_lay 5 i2)), .ref (ad (fo_lay 4 0)), .ref (ad (fo_lay 1 i4))])).length) Slot.unset).toArray = ls at hl ⊢
  have hl : lv_has ls 7 [(0, .ref (ad (fo_lay 10 0))), (1, .int a1), (2, .ref (ad (fo_lay 5 i2))), (3, .ref (ad (fo_lay 4 0))), (4, .ref (ad (fo_lay 1 i4)))] := hl
  refine lv_aload_n hx hb dX5_gather_0 rfl (lv_at hl 0 rfl) ?_
  refine fo_g5_15 hx hb hT hown hK hP (by decide) dX5_gather_1 ?_
  refine lv_lconst (v := 0) hx hb dX5_gather_4 (by decide) ?_
  refine fo_callv (va_runS (H := _) (As := [.ref (ad (fo_lay 12 0)), .long (0 : Int64)]) (rest := []) ⟨hx, hb, hml, hown, hT⟩ (c_q_fillJ l D ca ad _ (k := 12) (n := 8) (by decide) (by decide) (fun _ _ => rfl) (by decide)) (fo_c5_62 hT ⟨Nat.le_trans (Nat.le_of_ble_eq_true rfl) hRf, Nat.le_trans (Nat.le_of_ble_eq_true rfl) hRl⟩) ⟨fo_Pre_blind, fo_Pre_at hP hK (hD _)⟩ rfl rfl hl.1 rfl (lv_room (Nat.le_of_ble_eq_true rfl)) dX5_gather_5 ⟨Nat.zero_le _, Nat.zero_le _⟩) hS (fun H locs hP hS => ?_)
  refine lv_aload_n hx hb dX5_gather_8 rfl (lv_at hl 0 rfl) ?_
  refine fo_g5_19 hx hb hT hown hK hP (by decide) dX5_gather_9 ?_
  refine lv_lconst (v := 0) hx hb dX5_gather_12 (by decide) ?_
  refine fo_callv (va_runS (H := _) (As := [.ref (ad (fo_lay 13 0)), .long (0 : Int64)]) (rest := []) ⟨hx, hb, hml, hown, hT⟩ (c_q_fillJ l D ca ad _ (k := 13) (n := 8) (by decide) (by decide) (fun _ _ => rfl) (by decide)) (fo_c5_62 hT ⟨Nat.le_trans (Nat.le_of_ble_eq_true rfl) hRf, Nat.le_trans (Nat.le_of_ble_eq_true rfl) hRl⟩) ⟨fo_Pre_blind, fo_Pre_at hP hK (hD _)⟩ rfl rfl hl.1 rfl (lv_room (Nat.le_of_ble_eq_true rfl)) dX5_gather_13 ⟨Nat.zero_le _, Nat.zero_le _⟩) hS (fun H locs hP hS => ?_)
  refine lv_aload_n hx hb dX5_gather_16 rfl (lv_at hl 0 rfl) ?_
  refine lv_lconst (v := 0) hx hb dX5_gather_17 (by decide) ?_
  refine fo_p5_49 hx hb hT hown hK hP hD hS (by decide) dX5_gather_18 (fun H locs hP hS => ?_)
  refine lv_aload_n hx hb dX5_gather_21 rfl (lv_at hl 0 rfl) ?_
  refine lv_lconst (v := 0) hx hb dX5_gather_22 (by decide) ?_
  refine fo_p5_53 hx hb hT hown hK hP hD hS (by decide) dX5_gather_23 (fun H locs hP hS => ?_)
  refine lv_iconst (v := 0) hx hb dX5_gather_26 (by decide) ?_
  refine lv_istore (lv' := [(5, .int (0 : Int32)), (0, .ref (ad (fo_lay 10 0))), (1, .int a1), (2, .ref (ad (fo_lay 5 i2))), (3, .ref (ad (fo_lay 4 0))), (4, .ref (ad (fo_lay 1 i4)))]) hx hb dX5_gather_27 hl (by decide) rfl (fun ls hl => ?_)
  obtain ⟨y29, hy29, h0⟩ := fo_bd h0 hN0
  have ex29 : ∀ (H : Heap) (locs : List Loc) (ls : Array Slot), va_P D vwCl (fo_vx 51 ad (fo_ce ca ad y29.2)) H → va_S (fo_A 51 ad s.heap.size) s.heap H locs → lv_has ls 7 [] → W p l e R s m args below meth c H locs 0 0 Q (F0 m 91 ls []) := by
    intro H locs ls hP hS hl
    have hr10 := Option.some.inj h0
    subst hr10
    exact kr _ ls _ _ dX5_gather_91 hP hS
  have lp29 := fo_lp_ind (fun (s29 : Int32 × fo_S) => ∀ (H : Heap) (locs : List Loc) (ls : Array Slot), va_P D vwCl (fo_vx 51 ad (fo_ce ca ad s29.2)) H → va_S (fo_A 51 ad s.heap.size) s.heap H locs → lv_has ls 7 [(0, .ref (ad (fo_lay 10 0))), (1, .int a1), (2, .ref (ad (fo_lay 5 i2))), (3, .ref (ad (fo_lay 4 0))), (4, .ref (ad (fo_lay 1 i4))), (5, .int s29.1)] → W p l e R s m args below meth c H locs 0 0 Q (F0 m 29 ls [])) (by
      intro s29 o1 h1 hN1 hL1 hE1 H locs ls hP hS hl
      unfold q_Auction_gather_L29 at h1
      refine lv_iload hx hb dX5_gather_29 (lv_at hl 5 rfl) ?_
      refine lv_aload_n hx hb dX5_gather_31 rfl (lv_at hl 2 rfl) ?_
      refine fo_g5_30 hx hb hT hown hK hP hi2 dX5_gather_32 ?_
      refine lv_icmp_ge (tgt := 91) hx hb dX5_gather_35 (by decide) (fun c1 => ?_) (fun c1 => ?_)
      · replace h1 := fo_itT c1 h1
        have hy2 := hE1 _ h1
        subst hy2
        exact ex29 _ _ ls hP hS (lv_sub hl [] rfl)
      · replace h1 := fo_itF c1 h1
        refine lv_aload_n hx hb dX5_gather_38 rfl (lv_at hl 3 rfl) ?_
        refine lv_aload_n hx hb dX5_gather_39 rfl (lv_at hl 2 rfl) ?_
        refine fo_g5_36 hx hb hT hown hK hP hi2 dX5_gather_40 ?_
        refine lv_iload hx hb dX5_gather_43 (lv_at hl 5 rfl) ?_
        obtain ⟨g3, h1⟩ := fo_gd h1 hN1
        refine fo_iald (k := 6) (n := 16) hx hb hK hP (by decide) hi2 (fun _ _ => rfl) g3 dX5_gather_45 ?_
        obtain ⟨g4, h1⟩ := fo_gd h1 hN1
        refine fo_aald_4 hx hb hK hP (by decide) g4 dX5_gather_46 ?_
        refine lv_astore (lv' := [(6, .ref (ad (fo_lay 14 ((s29.2.1 6 i2 s29.1.toNatClampNeg).toNatClampNeg)))), (0, .ref (ad (fo_lay 10 0))), (1, .int a1), (2, .ref (ad (fo_lay 5 i2))), (3, .ref (ad (fo_lay 4 0))), (4, .ref (ad (fo_lay 1 i4))), (5, .int s29.1)]) hx hb dX5_gather_47 hl (by decide) rfl (fun ls hl => ?_)
        refine lv_aload_n hx hb dX5_gather_49 rfl (lv_at hl 1 rfl) ?_
        refine fo_g5_9 hx hb hT hown hK hP (by decide) dX5_gather_50 ?_
        refine lv_iload hx hb dX5_gather_53 (lv_at hl 6 rfl) ?_
        refine lv_aload hx hb dX5_gather_55 (lv_at hl 0 rfl) ?_
        refine fo_g5_40 hx hb hT hown hK hP (fo_in g4) dX5_gather_57 ?_
        refine lv_if_ne (tgt := 75) hx hb dX5_gather_60 (by decide) (fun c5 => ?_) (fun c5 => ?_)
        · replace h1 := fo_itF c5 h1
          refine lv_aload_n hx hb dX5_gather_75 rfl (lv_at hl 1 rfl) ?_
          refine lv_aload hx hb dX5_gather_76 (lv_at hl 0 rfl) ?_
          refine lv_iload_n hx hb dX5_gather_78 rfl (lv_at hl 2 rfl) ?_
          refine lv_aload hx hb dX5_gather_79 (lv_at hl 5 rfl) ?_
          obtain ⟨x6, hx6, h1⟩ := fo_bd h1 hN1
          refine fo_calli (va_runV (H := _) (As := [.ref (ad (fo_lay 14 ((s29.2.1 6 i2 s29.1.toNatClampNeg).toNatClampNeg))), .int a1, .ref (ad (fo_lay 1 i4))]) (rest := [.int s29.1, .ref (ad (fo_lay 11 0))]) ⟨hx, hb, hml, hown, hT⟩ (c_q_Auction_joinSells l D ca ad _ (fo_in g4) hi4 hx6) (fo_c5_71 hT ⟨Nat.le_trans (Nat.le_of_ble_eq_true rfl) hRf, Nat.le_trans (Nat.le_of_ble_eq_true rfl) hRl⟩) ⟨fo_Pre_blind, fo_rc10 hK hP (by decide), fo_Pre_at hP hK (hD _)⟩ rfl rfl hl.1 rfl (lv_room (Nat.le_of_ble_eq_true rfl)) dX5_gather_81 ⟨Nat.zero_le _, Nat.zero_le _⟩) hS (fun H locs hP hS => ?_)
          obtain ⟨g7, h1⟩ := fo_gd h1 hN1
          refine fo_zast (k := 11) (n := 16) hx hb hK hP hD hS (by decide) (by decide) (fun _ _ => rfl) g7 dX5_gather_84 (fun H locs hP hS => ?_)
          refine lv_iinc (v := s29.1 + (1 : Int32)) (lv' := [(5, .int (s29.1 + (1 : Int32))), (6, .ref (ad (fo_lay 14 ((s29.2.1 6 i2 s29.1.toNatClampNeg).toNatClampNeg)))), (0, .ref (ad (fo_lay 10 0))), (1, .int a1), (2, .ref (ad (fo_lay 5 i2))), (3, .ref (ad (fo_lay 4 0))), (4, .ref (ad (fo_lay 1 i4)))]) hx hb dX5_gather_85 hl (k := 6) rfl rfl (by decide) rfl (fun ls hl => ?_)
          refine lv_goto (tgt := 29) hx hb dX5_gather_88 (by decide) ?_
          exact hL1 _ h1 _ _ ls hP hS (lv_sub hl [2, 3, 4, 5, 6, 0] rfl)
        · replace h1 := fo_itT c5 h1
          refine lv_aload_n hx hb dX5_gather_63 rfl (lv_at hl 1 rfl) ?_
          refine lv_aload hx hb dX5_gather_64 (lv_at hl 0 rfl) ?_
          refine lv_iload_n hx hb dX5_gather_66 rfl (lv_at hl 2 rfl) ?_
          refine lv_aload hx hb dX5_gather_67 (lv_at hl 5 rfl) ?_
          obtain ⟨x8, hx8, h1⟩ := fo_bd h1 hN1
          refine fo_calli (va_runV (H := _) (As := [.ref (ad (fo_lay 14 ((s29.2.1 6 i2 s29.1.toNatClampNeg).toNatClampNeg))), .int a1, .ref (ad (fo_lay 1 i4))]) (rest := [.int s29.1, .ref (ad (fo_lay 11 0))]) ⟨hx, hb, hml, hown, hT⟩ (c_q_Auction_joinBuys l D ca ad _ (fo_in g4) hi4 hx8) (fo_c5_67 hT ⟨Nat.le_trans (Nat.le_of_ble_eq_true rfl) hRf, Nat.le_trans (Nat.le_of_ble_eq_true rfl) hRl⟩) ⟨fo_Pre_blind, fo_rc10 hK hP (by decide), fo_Pre_at hP hK (hD _)⟩ rfl rfl hl.1 rfl (lv_room (Nat.le_of_ble_eq_true rfl)) dX5_gather_69 ⟨Nat.zero_le _, Nat.zero_le _⟩) hS (fun H locs hP hS => ?_)
          refine lv_goto (tgt := 84) hx hb dX5_gather_72 (by decide) ?_
          obtain ⟨g9, h1⟩ := fo_gd h1 hN1
          refine fo_zast (k := 11) (n := 16) hx hb hK hP hD hS (by decide) (by decide) (fun _ _ => rfl) g9 dX5_gather_84 (fun H locs hP hS => ?_)
          refine lv_iinc (v := s29.1 + (1 : Int32)) (lv' := [(5, .int (s29.1 + (1 : Int32))), (6, .ref (ad (fo_lay 14 ((s29.2.1 6 i2 s29.1.toNatClampNeg).toNatClampNeg)))), (0, .ref (ad (fo_lay 10 0))), (1, .int a1), (2, .ref (ad (fo_lay 5 i2))), (3, .ref (ad (fo_lay 4 0))), (4, .ref (ad (fo_lay 1 i4)))]) hx hb dX5_gather_85 hl (k := 6) rfl rfl (by decide) rfl (fun ls hl => ?_)
          refine lv_goto (tgt := 29) hx hb dX5_gather_88 (by decide) ?_
          exact hL1 _ h1 _ _ ls hP hS (lv_sub hl [2, 3, 4, 5, 6, 0] rfl)) _ _ hy29
  exact lp29 _ _ ls hP hS (lv_sub hl [1, 2, 3, 4, 5, 0] rfl)
theorem c_q_Auction_gather (l : Launch) (D : va_G) (ca : Nat → ClassId) (ad : Nat → Nat) (sz : Nat) {σ : fo_S} {a1 : Int32} {i2 : Nat} {i4 : Nat} (hi2 : i2 < 2) (hi4 : i4 < 2) {res : fo_S} (h0 : q_Auction_gather σ a1 i2 i4 = some res) : Met l yX5_gather ws_q_Auction_gather rm_q_Auction_gather (fo_Pre 51 D vwCl (fo_tys ca) ad (fo_ce ca ad σ) sz [.ref (ad (fo_lay 10 0)), .int a1, .ref (ad (fo_lay 5 i2)), .ref (ad (fo_lay 4 0)), .ref (ad (fo_lay 1 i4))]) (fo_PoV 51 D vwCl (fo_tys ca) ad (fo_ce ca ad res) sz) 0 0 (fo_A 51 ad sz) :=
  fo_mkV (by decide) (fun C0 kr hP => b_q_Auction_gather C0 (Nat.le_refl _) (Nat.le_refl _) (Nat.zero_le _) hi2 hi4 h0 kr hP)
def q_Auction_volume (σ : fo_S)  : Option (Int64) :=
  some (if (σ.2 10 0 4) < (σ.2 10 0 3) then (σ.2 10 0 4) else (σ.2 10 0 3))
set_option maxHeartbeats 4000000 in
set_option maxRecDepth 100000 in
theorem b_q_Auction_volume {p : Program} {l : Launch} {e : Env} {R : Room} {s : State} {m : MethodId} {args : Array Value} {below : List Frame} {meth : Method} {c : Code} {Q : State → Prop} {D : va_G} {ca : Nat → ClassId} {ad : Nat → Nat} (C0 : fo_CX p s m args c cX5_volume 1 RX5 D ca ad) (hRf : 1 ≤ R.frames) (hRl : 23 ≤ R.locals) (hRc : 0 ≤ R.cells) {σ : fo_S}   {res : Int64} (h0 : q_Auction_volume σ = some res) (kr : ∀ (pc : Nat) (ls : Array Slot) (H : Heap) (locs : List Loc), decode cX5_volume pc = .ok (.lreturn, 1) → va_P D vwCl (fo_vx 51 ad (fo_ce ca ad σ)) H → va_S (fo_A 51 ad s.heap.size) s.heap H locs → W p l e R s m args below meth c H locs 0 0 Q (F0 m pc ls [.long res])) (hP : va_P D vwCl (fo_vx 51 ad (fo_ce ca ad σ)) s.heap) : W p l e R s m args below meth c s.heap [] 0 0 Q (entryFrame m ([.ref (ad (fo_lay 10 0))] : List Value).toArray 1) := by
  obtain ⟨hx, hb, hml, hown, hT, hK, hD⟩ := C0
  have hN0 : (some res) ≠ none := fun q => by cases q
  unfold q_Auction_volume at h0
  have hS : va_S (fo_A 51 ad s.heap.size) s.heap s.heap [] := va_S.rf
  have hl := lv_entry ([.ref (ad (fo_lay 10 0))]) (n := 1) (Nat.le_of_ble_eq_true rfl)
  rw [lg_entry_eq]
  generalize (lg_sl ([.ref (ad (fo_lay 10 0))]) ++ List.replicate (1 - (lg_sl ([.ref (ad (fo_lay 10 0))])).length) Slot.unset).toArray = ls at hl ⊢
  have hl : lv_has ls 1 [(0, .ref (ad (fo_lay 10 0)))] := hl
  refine lv_aload_n hx hb dX5_volume_0 rfl (lv_at hl 0 rfl) ?_
  refine fo_g5_49 hx hb hT hown hK hP (by decide) dX5_volume_1 ?_
  refine lv_aload_n hx hb dX5_volume_4 rfl (lv_at hl 0 rfl) ?_
  refine fo_g5_53 hx hb hT hown hK hP (by decide) dX5_volume_5 ?_
  refine va_mmin_long hx hb (hml.trans hl.1.symm) hown (fo_c5_56 hT) (hT _ (fo_tb 450 (by decide +kernel) rfl)) (hT _ (fo_tb 10 (by decide +kernel) rfl)) (hT _ (fo_tb 451 (by decide +kernel) rfl)) (Nat.le_trans (Nat.le_of_ble_eq_true rfl) hRf) (Nat.le_trans (Nat.le_of_ble_eq_true rfl) hRl) (Nat.zero_le _) (Nat.zero_le _) dX5_volume_8 ?_
  have hr1 := Option.some.inj h0
  subst hr1
  exact kr _ ls _ _ dX5_volume_11 hP hS
theorem c_q_Auction_volume (l : Launch) (D : va_G) (ca : Nat → ClassId) (ad : Nat → Nat) (sz : Nat) {σ : fo_S}   {res : Int64} (h0 : q_Auction_volume σ = some res) : Met l yX5_volume ws_q_Auction_volume rm_q_Auction_volume (fo_Pre 51 D vwCl (fo_tys ca) ad (fo_ce ca ad σ) sz [.ref (ad (fo_lay 10 0))]) (fo_PoL 51 D vwCl (fo_tys ca) ad (fo_ce ca ad σ) sz res) 0 0 (fo_A 51 ad sz) :=
  fo_mkL (by decide) (fun C0 kr hP => b_q_Auction_volume C0 (Nat.le_refl _) (Nat.le_refl _) (Nat.zero_le _)  h0 kr hP)
def q_Auction_findPrice_L9 (i1 : Nat) (i3 : Nat) (s9 : Int32 × Int64 × Int32 × fo_S) : Option ((Int32 × Int64 × Int32 × fo_S) ⊕ (Int32 × Int64 × Int32 × fo_S)) :=
  if (1000 : Int32) < s9.2.2.1 then (some (.inr (s9.1, s9.2.1, s9.2.2.1, s9.2.2.2))) else ((q_Auction_gather s9.2.2.2 s9.2.2.1 i1 i3).bind (fun x3 =>  (q_Auction_volume x3).bind (fun x4 => if (lg_cmp x4 s9.2.1) ≤ 0 then (some (.inl (s9.1, s9.2.1, s9.2.2.1 + (1 : Int32), x3))) else ((q_Auction_volume x3).bind (fun x6 => some (.inl (s9.2.2.1, x6, s9.2.2.1 + (1 : Int32), x3)))))))
def q_Auction_findPrice (σ : fo_S) (i1 : Nat) (i3 : Nat) : Option (Int32 × fo_S) :=
  (fo_lp (q_Auction_findPrice_L9 i1 i3) fo_FU ((-1 : Int32), (0 : Int64), (1 : Int32), σ)).bind (fun y9 => some (y9.1, y9.2.2.2))
set_option maxHeartbeats 4000000 in
set_option maxRecDepth 100000 in
theorem b_q_Auction_findPrice {p : Program} {l : Launch} {e : Env} {R : Room} {s : State} {m : MethodId} {args : Array Value} {below : List Frame} {meth : Method} {c : Code} {Q : State → Prop} {D : va_G} {ca : Nat → ClassId} {ad : Nat → Nat} (C0 : fo_CX p s m args c cX5_findPrice 8 RX5 D ca ad) (hRf : 2 ≤ R.frames) (hRl : 51 ≤ R.locals) (hRc : 0 ≤ R.cells) {σ : fo_S} {i1 : Nat} {i3 : Nat} (hi1 : i1 < 2) (hi3 : i3 < 2) {res : Int32 × fo_S} (h0 : q_Auction_findPrice σ i1 i3 = some res) (kr : ∀ (pc : Nat) (ls : Array Slot) (H : Heap) (locs : List Loc), decode cX5_findPrice pc = .ok (.ireturn, 1) → va_P D vwCl (fo_vx 51 ad (fo_ce ca ad res.2)) H → va_S (fo_A 51 ad s.heap.size) s.heap H locs → W p l e R s m args below meth c H locs 0 0 Q (F0 m pc ls [.int res.1])) (hP : va_P D vwCl (fo_vx 51 ad (fo_ce ca ad σ)) s.heap) : W p l e R s m args below meth c s.heap [] 0 0 Q (entryFrame m ([.ref (ad (fo_lay 10 0)), .ref (ad (fo_lay 5 i1)), .ref (ad (fo_lay 4 0)), .ref (ad (fo_lay 1 i3))] : List Value).toArray 8) := by
  obtain ⟨hx, hb, hml, hown, hT, hK, hD⟩ := C0
  have hN0 : (some res) ≠ none := fun q => by cases q
  unfold q_Auction_findPrice at h0
  have hS : va_S (fo_A 51 ad s.heap.size) s.heap s.heap [] := va_S.rf
  have hl := lv_entry ([.ref (ad (fo_lay 10 0)), .ref (ad (fo_lay 5 i1)), .ref (ad (fo_lay 4 0)), .ref (ad (fo_lay 1 i3))]) (n := 8) (Nat.le_of_ble_eq_true rfl)
  rw [lg_entry_eq]
  generalize (lg_sl ([.ref (ad (fo_lay 10 0)), .ref (ad (fo_lay 5 i1)), .ref (ad (fo_lay 4 0)), .ref (ad (fo_lay 1 i3))]) ++ List.replicate (8 - (lg_sl ([.ref (ad (fo_lay 10 0)), .ref (ad (fo_lay 5 i1)), .ref (ad (fo_lay 4 0)), .ref (ad (fo_lay 1 i3))])).length) Slot.unset).toArray = ls at hl ⊢
  have hl : lv_has ls 8 [(0, .ref (ad (fo_lay 10 0))), (1, .ref (ad (fo_lay 5 i1))), (2, .ref (ad (fo_lay 4 0))), (3, .ref (ad (fo_lay 1 i3)))] := hl
  refine lv_iconst (v := -1) hx hb dX5_findPrice_0 (by decide) ?_
  refine lv_istore (lv' := [(4, .int (-1 : Int32)), (0, .ref (ad (fo_lay 10 0))), (1, .ref (ad (fo_lay 5 i1))), (2, .ref (ad (fo_lay 4 0))), (3, .ref (ad (fo_lay 1 i3)))]) hx hb dX5_findPrice_1 hl (by decide) rfl (fun ls hl => ?_)
  refine lv_lconst (v := 0) hx hb dX5_findPrice_3 (by decide) ?_
  refine lv_lstore (lv' := [(5, .long (0 : Int64)), (4, .int (-1 : Int32)), (0, .ref (ad (fo_lay 10 0))), (1, .ref (ad (fo_lay 5 i1))), (2, .ref (ad (fo_lay 4 0))), (3, .ref (ad (fo_lay 1 i3)))]) hx hb dX5_findPrice_4 hl (by decide) rfl (fun ls hl => ?_)
  refine lv_iconst (v := 1) hx hb dX5_findPrice_6 (by decide) ?_
  refine lv_istore (lv' := [(7, .int (1 : Int32)), (5, .long (0 : Int64)), (4, .int (-1 : Int32)), (0, .ref (ad (fo_lay 10 0))), (1, .ref (ad (fo_lay 5 i1))), (2, .ref (ad (fo_lay 4 0))), (3, .ref (ad (fo_lay 1 i3)))]) hx hb dX5_findPrice_7 hl (by decide) rfl (fun ls hl => ?_)
  obtain ⟨y9, hy9, h0⟩ := fo_bd h0 hN0
  have ex9 : ∀ (H : Heap) (locs : List Loc) (ls : Array Slot), va_P D vwCl (fo_vx 51 ad (fo_ce ca ad y9.2.2.2)) H → va_S (fo_A 51 ad s.heap.size) s.heap H locs → lv_has ls 8 [(4, .int y9.1)] → W p l e R s m args below meth c H locs 0 0 Q (F0 m 52 ls []) := by
    intro H locs ls hP hS hl
    refine lv_iload hx hb dX5_findPrice_52 (lv_at hl 0 rfl) ?_
    have hr7 := Option.some.inj h0
    subst hr7
    exact kr _ ls _ _ dX5_findPrice_54 hP hS
  have lp9 := fo_lp_ind (fun (s9 : Int32 × Int64 × Int32 × fo_S) => ∀ (H : Heap) (locs : List Loc) (ls : Array Slot), va_P D vwCl (fo_vx 51 ad (fo_ce ca ad s9.2.2.2)) H → va_S (fo_A 51 ad s.heap.size) s.heap H locs → lv_has ls 8 [(0, .ref (ad (fo_lay 10 0))), (1, .ref (ad (fo_lay 5 i1))), (2, .ref (ad (fo_lay 4 0))), (3, .ref (ad (fo_lay 1 i3))), (4, .int s9.1), (5, .long s9.2.1), (7, .int s9.2.2.1)] → W p l e R s m args below meth c H locs 0 0 Q (F0 m 9 ls [])) (by
      intro s9 o1 h1 hN1 hL1 hE1 H locs ls hP hS hl
      unfold q_Auction_findPrice_L9 at h1
      refine lv_iload hx hb dX5_findPrice_9 (lv_at hl 6 rfl) ?_
      refine lv_sipush (v := 1000) hx hb dX5_findPrice_11 (by decide) ?_
      refine lv_icmp_gt (tgt := 52) hx hb dX5_findPrice_14 (by decide) (fun c1 => ?_) (fun c1 => ?_)
      · replace h1 := fo_itT c1 h1
        have hy2 := hE1 _ h1
        subst hy2
        exact ex9 _ _ ls hP hS (lv_sub hl [4] rfl)
      · replace h1 := fo_itF c1 h1
        refine lv_aload_n hx hb dX5_findPrice_17 rfl (lv_at hl 0 rfl) ?_
        refine lv_iload hx hb dX5_findPrice_18 (lv_at hl 6 rfl) ?_
        refine lv_aload_n hx hb dX5_findPrice_20 rfl (lv_at hl 1 rfl) ?_
        refine lv_aload_n hx hb dX5_findPrice_21 rfl (lv_at hl 2 rfl) ?_
        refine lv_aload_n hx hb dX5_findPrice_22 rfl (lv_at hl 3 rfl) ?_
        obtain ⟨x3, hx3, h1⟩ := fo_bd h1 hN1
        refine fo_callv (va_runV (H := _) (As := [.int s9.2.2.1, .ref (ad (fo_lay 5 i1)), .ref (ad (fo_lay 4 0)), .ref (ad (fo_lay 1 i3))]) (rest := []) ⟨hx, hb, hml, hown, hT⟩ (c_q_Auction_gather l D ca ad _ hi1 hi3 hx3) (fo_c5_22 hT ⟨Nat.le_trans (Nat.le_of_ble_eq_true rfl) hRf, Nat.le_trans (Nat.le_of_ble_eq_true rfl) hRl⟩) ⟨fo_Pre_blind, fo_rc10 hK hP (by decide), fo_Pre_at hP hK (hD _)⟩ rfl rfl hl.1 rfl (lv_room (Nat.le_of_ble_eq_true rfl)) dX5_findPrice_23 ⟨Nat.zero_le _, Nat.zero_le _⟩) hS (fun H locs hP hS => ?_)
        refine lv_aload_n hx hb dX5_findPrice_26 rfl (lv_at hl 0 rfl) ?_
        obtain ⟨x4, hx4, h1⟩ := fo_bd h1 hN1
        refine fo_calll (va_runV (H := _) (As := []) (rest := []) ⟨hx, hb, hml, hown, hT⟩ (c_q_Auction_volume l D ca ad _ hx4) (fo_c5_26 hT ⟨Nat.le_trans (Nat.le_of_ble_eq_true rfl) hRf, Nat.le_trans (Nat.le_of_ble_eq_true rfl) hRl⟩) ⟨fo_Pre_blind, fo_rc10 hK hP (by decide), fo_Pre_at hP hK (hD _)⟩ rfl rfl hl.1 rfl (lv_room (Nat.le_of_ble_eq_true rfl)) dX5_findPrice_27 ⟨Nat.zero_le _, Nat.zero_le _⟩) hS (fun H locs hP hS => ?_)
        refine lv_lload hx hb dX5_findPrice_30 (lv_at hl 5 rfl) ?_
        refine W.lcmp hx hb dX5_findPrice_32 ?_
        refine lv_if_le (tgt := 46) hx hb dX5_findPrice_33 (by decide) (fun c5 => ?_) (fun c5 => ?_)
        · replace h1 := fo_itT c5 h1
          refine lv_iinc (v := s9.2.2.1 + (1 : Int32)) (lv' := [(7, .int (s9.2.2.1 + (1 : Int32))), (0, .ref (ad (fo_lay 10 0))), (1, .ref (ad (fo_lay 5 i1))), (2, .ref (ad (fo_lay 4 0))), (3, .ref (ad (fo_lay 1 i3))), (4, .int s9.1), (5, .long s9.2.1)]) hx hb dX5_findPrice_46 hl (k := 6) rfl rfl (by decide) rfl (fun ls hl => ?_)
          refine lv_goto (tgt := 9) hx hb dX5_findPrice_49 (by decide) ?_
          exact hL1 _ h1 _ _ ls hP hS (lv_sub hl [1, 2, 3, 4, 5, 6, 0] rfl)
        · replace h1 := fo_itF c5 h1
          refine lv_aload_n hx hb dX5_findPrice_36 rfl (lv_at hl 0 rfl) ?_
          obtain ⟨x6, hx6, h1⟩ := fo_bd h1 hN1
          refine fo_calll (va_runV (H := _) (As := []) (rest := []) ⟨hx, hb, hml, hown, hT⟩ (c_q_Auction_volume l D ca ad _ hx6) (fo_c5_26 hT ⟨Nat.le_trans (Nat.le_of_ble_eq_true rfl) hRf, Nat.le_trans (Nat.le_of_ble_eq_true rfl) hRl⟩) ⟨fo_Pre_blind, fo_rc10 hK hP (by decide), fo_Pre_at hP hK (hD _)⟩ rfl rfl hl.1 rfl (lv_room (Nat.le_of_ble_eq_true rfl)) dX5_findPrice_37 ⟨Nat.zero_le _, Nat.zero_le _⟩) hS (fun H locs hP hS => ?_)
          refine lv_lstore (lv' := [(5, .long x6), (0, .ref (ad (fo_lay 10 0))), (1, .ref (ad (fo_lay 5 i1))), (2, .ref (ad (fo_lay 4 0))), (3, .ref (ad (fo_lay 1 i3))), (4, .int s9.1), (7, .int s9.2.2.1)]) hx hb dX5_findPrice_40 hl (by decide) rfl (fun ls hl => ?_)
          refine lv_iload hx hb dX5_findPrice_42 (lv_at hl 6 rfl) ?_
          refine lv_istore (lv' := [(4, .int s9.2.2.1), (5, .long x6), (0, .ref (ad (fo_lay 10 0))), (1, .ref (ad (fo_lay 5 i1))), (2, .ref (ad (fo_lay 4 0))), (3, .ref (ad (fo_lay 1 i3))), (7, .int s9.2.2.1)]) hx hb dX5_findPrice_44 hl (by decide) rfl (fun ls hl => ?_)
          refine lv_iinc (v := s9.2.2.1 + (1 : Int32)) (lv' := [(7, .int (s9.2.2.1 + (1 : Int32))), (4, .int s9.2.2.1), (5, .long x6), (0, .ref (ad (fo_lay 10 0))), (1, .ref (ad (fo_lay 5 i1))), (2, .ref (ad (fo_lay 4 0))), (3, .ref (ad (fo_lay 1 i3)))]) hx hb dX5_findPrice_46 hl (k := 6) rfl rfl (by decide) rfl (fun ls hl => ?_)
          refine lv_goto (tgt := 9) hx hb dX5_findPrice_49 (by decide) ?_
          exact hL1 _ h1 _ _ ls hP hS (lv_sub hl [3, 4, 5, 6, 1, 2, 0] rfl)) _ _ hy9
  exact lp9 _ _ ls hP hS (lv_sub hl [3, 4, 5, 6, 2, 1, 0] rfl)
theorem c_q_Auction_findPrice (l : Launch) (D : va_G) (ca : Nat → ClassId) (ad : Nat → Nat) (sz : Nat) {σ : fo_S} {i1 : Nat} {i3 : Nat} (hi1 : i1 < 2) (hi3 : i3 < 2) {res : Int32 × fo_S} (h0 : q_Auction_findPrice σ i1 i3 = some res) : Met l yX5_findPrice ws_q_Auction_findPrice rm_q_Auction_findPrice (fo_Pre 51 D vwCl (fo_tys ca) ad (fo_ce ca ad σ) sz [.ref (ad (fo_lay 10 0)), .ref (ad (fo_lay 5 i1)), .ref (ad (fo_lay 4 0)), .ref (ad (fo_lay 1 i3))]) (fo_PoI 51 D vwCl (fo_tys ca) ad (fo_ce ca ad res.2) sz res.1) 0 0 (fo_A 51 ad sz) :=
  fo_mkI (by decide) (fun C0 kr hP => b_q_Auction_findPrice C0 (Nat.le_refl _) (Nat.le_refl _) (Nat.zero_le _) hi1 hi3 h0 kr hP)
def q_Auction_fill (σ : fo_S) (i0 : Nat) (a1 : Int64) (a2 : Int32) (i3 : Nat) : Option (Int64 × fo_S) :=
  (q_Call_note σ i0 ((if a1 < ((σ.1 14 i0 7).toInt64) then a1 else ((σ.1 14 i0 7).toInt64)).toInt32) ((((if a1 < ((σ.1 14 i0 7).toInt64) then a1 else ((σ.1 14 i0 7).toInt64)).toInt32).toInt64) * a2.toInt64)).bind (fun x1 => if (x1.1 14 i0 5) = 0 then ((q_Market_take x1 i3 (x1.1 14 i0 1) ((((if a1 < ((σ.1 14 i0 7).toInt64) then a1 else ((σ.1 14 i0 7).toInt64)).toInt32).toInt64) * a2.toInt64) (((if a1 < ((σ.1 14 i0 7).toInt64) then a1 else ((σ.1 14 i0 7).toInt64)).toInt32).toInt64)).bind (fun x5 => some (((if a1 < ((σ.1 14 i0 7).toInt64) then a1 else ((σ.1 14 i0 7).toInt64)).toInt32).toInt64, x5))) else ((q_Market_give x1 i3 (x1.1 14 i0 1) ((((if a1 < ((σ.1 14 i0 7).toInt64) then a1 else ((σ.1 14 i0 7).toInt64)).toInt32).toInt64) * a2.toInt64) (((if a1 < ((σ.1 14 i0 7).toInt64) then a1 else ((σ.1 14 i0 7).toInt64)).toInt32).toInt64)).bind (fun x3 => some (((if a1 < ((σ.1 14 i0 7).toInt64) then a1 else ((σ.1 14 i0 7).toInt64)).toInt32).toInt64, x3))))
set_option maxHeartbeats 4000000 in
set_option maxRecDepth 100000 in
theorem b_q_Auction_fill {p : Program} {l : Launch} {e : Env} {R : Room} {s : State} {m : MethodId} {args : Array Value} {below : List Frame} {meth : Method} {c : Code} {Q : State → Prop} {D : va_G} {ca : Nat → ClassId} {ad : Nat → Nat} (C0 : fo_CX p s m args c cX5_fill 8 RX5 D ca ad) (hRf : 1 ≤ R.frames) (hRl : 25 ≤ R.locals) (hRc : 0 ≤ R.cells) {σ : fo_S} {i0 : Nat} {a1 : Int64} {a2 : Int32} {i3 : Nat} (hi0 : i0 < 16) (hi3 : i3 < 2) {res : Int64 × fo_S} (h0 : q_Auction_fill σ i0 a1 a2 i3 = some res) (kr : ∀ (pc : Nat) (ls : Array Slot) (H : Heap) (locs : List Loc), decode cX5_fill pc = .ok (.lreturn, 1) → va_P D vwCl (fo_vx 51 ad (fo_ce ca ad res.2)) H → va_S (fo_A 51 ad s.heap.size) s.heap H locs → W p l e R s m args below meth c H locs 0 0 Q (F0 m pc ls [.long res.1])) (hP : va_P D vwCl (fo_vx 51 ad (fo_ce ca ad σ)) s.heap) : W p l e R s m args below meth c s.heap [] 0 0 Q (entryFrame m ([.ref (ad (fo_lay 14 i0)), .long a1, .int a2, .ref (ad (fo_lay 1 i3))] : List Value).toArray 8) := by
  obtain ⟨hx, hb, hml, hown, hT, hK, hD⟩ := C0
  have hN0 : (some res) ≠ none := fun q => by cases q
  unfold q_Auction_fill at h0
  have hS : va_S (fo_A 51 ad s.heap.size) s.heap s.heap [] := va_S.rf
  have hl := lv_entry ([.ref (ad (fo_lay 14 i0)), .long a1, .int a2, .ref (ad (fo_lay 1 i3))]) (n := 8) (Nat.le_of_ble_eq_true rfl)
  rw [lg_entry_eq]
  generalize (lg_sl ([.ref (ad (fo_lay 14 i0)), .long a1, .int a2, .ref (ad (fo_lay 1 i3))]) ++ List.replicate (8 - (lg_sl ([.ref (ad (fo_lay 14 i0)), .long a1, .int a2, .ref (ad (fo_lay 1 i3))])).length) Slot.unset).toArray = ls at hl ⊢
  have hl : lv_has ls 8 [(0, .ref (ad (fo_lay 14 i0))), (1, .long a1), (3, .int a2), (4, .ref (ad (fo_lay 1 i3)))] := hl
  refine lv_aload_n hx hb dX5_fill_0 rfl (lv_at hl 0 rfl) ?_
  refine fo_g5_77 hx hb hT hown hK hP hi0 dX5_fill_1 ?_
  refine lv_i2l hx hb dX5_fill_4 rfl ?_
  refine lv_lload_n hx hb dX5_fill_5 rfl (lv_at hl 1 rfl) ?_
  refine va_mmin_long hx hb (hml.trans hl.1.symm) hown (fo_c5_56 hT) (hT _ (fo_tb 450 (by decide +kernel) rfl)) (hT _ (fo_tb 10 (by decide +kernel) rfl)) (hT _ (fo_tb 451 (by decide +kernel) rfl)) (Nat.le_trans (Nat.le_of_ble_eq_true rfl) hRf) (Nat.le_trans (Nat.le_of_ble_eq_true rfl) hRl) (Nat.zero_le _) (Nat.zero_le _) dX5_fill_6 ?_
  refine lv_l2i hx hb dX5_fill_9 rfl ?_
  refine lv_istore (lv' := [(5, .int ((if a1 < ((σ.1 14 i0 7).toInt64) then a1 else ((σ.1 14 i0 7).toInt64)).toInt32)), (0, .ref (ad (fo_lay 14 i0))), (1, .long a1), (3, .int a2), (4, .ref (ad (fo_lay 1 i3)))]) hx hb dX5_fill_10 hl (by decide) rfl (fun ls hl => ?_)
  refine lv_iload hx hb dX5_fill_12 (lv_at hl 0 rfl) ?_
  refine lv_i2l hx hb dX5_fill_14 rfl ?_
  refine lv_iload_n hx hb dX5_fill_15 rfl (lv_at hl 3 rfl) ?_
  refine lv_i2l hx hb dX5_fill_16 rfl ?_
  refine lv_lmul hx hb dX5_fill_17 ?_
  refine lv_lstore (lv' := [(6, .long ((((if a1 < ((σ.1 14 i0 7).toInt64) then a1 else ((σ.1 14 i0 7).toInt64)).toInt32).toInt64) * a2.toInt64)), (5, .int ((if a1 < ((σ.1 14 i0 7).toInt64) then a1 else ((σ.1 14 i0 7).toInt64)).toInt32)), (0, .ref (ad (fo_lay 14 i0))), (1, .long a1), (3, .int a2), (4, .ref (ad (fo_lay 1 i3)))]) hx hb dX5_fill_18 hl (by decide) rfl (fun ls hl => ?_)
  refine lv_aload_n hx hb dX5_fill_20 rfl (lv_at hl 2 rfl) ?_
  refine lv_iload hx hb dX5_fill_21 (lv_at hl 1 rfl) ?_
  refine lv_lload hx hb dX5_fill_23 (lv_at hl 0 rfl) ?_
  obtain ⟨x1, hx1, h0⟩ := fo_bd h0 hN0
  refine fo_callv (va_runV (H := _) (As := [.int ((if a1 < ((σ.1 14 i0 7).toInt64) then a1 else ((σ.1 14 i0 7).toInt64)).toInt32), .long ((((if a1 < ((σ.1 14 i0 7).toInt64) then a1 else ((σ.1 14 i0 7).toInt64)).toInt32).toInt64) * a2.toInt64)]) (rest := []) ⟨hx, hb, hml, hown, hT⟩ (c_q_Call_note l D ca ad _ hi0 hx1) (fo_c5_91 hT ⟨Nat.le_trans (Nat.le_of_ble_eq_true rfl) hRf, Nat.le_trans (Nat.le_of_ble_eq_true rfl) hRl⟩) ⟨fo_Pre_blind, fo_rc14 hK hP hi0, fo_Pre_at hP hK (hD _)⟩ rfl rfl hl.1 rfl (lv_room (Nat.le_of_ble_eq_true rfl)) dX5_fill_25 ⟨Nat.zero_le _, Nat.zero_le _⟩) hS (fun H locs hP hS => ?_)
  refine lv_aload_n hx hb dX5_fill_28 rfl (lv_at hl 2 rfl) ?_
  refine fo_g5_40 hx hb hT hown hK hP hi0 dX5_fill_29 ?_
  refine lv_if_ne (tgt := 52) hx hb dX5_fill_32 (by decide) (fun c2 => ?_) (fun c2 => ?_)
  · replace h0 := fo_itF c2 h0
    refine lv_aload hx hb dX5_fill_52 (lv_at hl 5 rfl) ?_
    refine lv_aload_n hx hb dX5_fill_54 rfl (lv_at hl 2 rfl) ?_
    refine fo_g5_74 hx hb hT hown hK hP hi0 dX5_fill_55 ?_
    refine lv_lload hx hb dX5_fill_58 (lv_at hl 0 rfl) ?_
    refine lv_iload hx hb dX5_fill_60 (lv_at hl 1 rfl) ?_
    refine lv_i2l hx hb dX5_fill_62 rfl ?_
    obtain ⟨x3, hx3, h0⟩ := fo_bd h0 hN0
    refine fo_callv (va_runV (H := _) (As := [.int (x1.1 14 i0 1), .long ((((if a1 < ((σ.1 14 i0 7).toInt64) then a1 else ((σ.1 14 i0 7).toInt64)).toInt32).toInt64) * a2.toInt64), .long (((if a1 < ((σ.1 14 i0 7).toInt64) then a1 else ((σ.1 14 i0 7).toInt64)).toInt32).toInt64)]) (rest := []) ⟨hx, hb, hml, hown, hT⟩ (c_q_Market_give l D ca ad _ hi3 hx3) (fo_c5_99 hT ⟨Nat.le_trans (Nat.le_of_ble_eq_true rfl) hRf, Nat.le_trans (Nat.le_of_ble_eq_true rfl) hRl⟩) ⟨fo_Pre_blind, fo_rc1 hK hP hi3, fo_Pre_at hP hK (hD _)⟩ rfl rfl hl.1 rfl (lv_room (Nat.le_of_ble_eq_true rfl)) dX5_fill_63 ⟨Nat.zero_le _, Nat.zero_le _⟩) hS (fun H locs hP hS => ?_)
    refine lv_iload hx hb dX5_fill_66 (lv_at hl 1 rfl) ?_
    refine lv_i2l hx hb dX5_fill_68 rfl ?_
    have hr4 := Option.some.inj h0
    subst hr4
    exact kr _ ls _ _ dX5_fill_69 hP hS
  · replace h0 := fo_itT c2 h0
    refine lv_aload hx hb dX5_fill_35 (lv_at hl 5 rfl) ?_
    refine lv_aload_n hx hb dX5_fill_37 rfl (lv_at hl 2 rfl) ?_
    refine fo_g5_74 hx hb hT hown hK hP hi0 dX5_fill_38 ?_
    refine lv_lload hx hb dX5_fill_41 (lv_at hl 0 rfl) ?_
    refine lv_iload hx hb dX5_fill_43 (lv_at hl 1 rfl) ?_
    refine lv_i2l hx hb dX5_fill_45 rfl ?_
    obtain ⟨x5, hx5, h0⟩ := fo_bd h0 hN0
    refine fo_callv (va_runV (H := _) (As := [.int (x1.1 14 i0 1), .long ((((if a1 < ((σ.1 14 i0 7).toInt64) then a1 else ((σ.1 14 i0 7).toInt64)).toInt32).toInt64) * a2.toInt64), .long (((if a1 < ((σ.1 14 i0 7).toInt64) then a1 else ((σ.1 14 i0 7).toInt64)).toInt32).toInt64)]) (rest := []) ⟨hx, hb, hml, hown, hT⟩ (c_q_Market_take l D ca ad _ hi3 hx5) (fo_c5_95 hT ⟨Nat.le_trans (Nat.le_of_ble_eq_true rfl) hRf, Nat.le_trans (Nat.le_of_ble_eq_true rfl) hRl⟩) ⟨fo_Pre_blind, fo_rc1 hK hP hi3, fo_Pre_at hP hK (hD _)⟩ rfl rfl hl.1 rfl (lv_room (Nat.le_of_ble_eq_true rfl)) dX5_fill_46 ⟨Nat.zero_le _, Nat.zero_le _⟩) hS (fun H locs hP hS => ?_)
    refine lv_goto (tgt := 66) hx hb dX5_fill_49 (by decide) ?_
    refine lv_iload hx hb dX5_fill_66 (lv_at hl 1 rfl) ?_
    refine lv_i2l hx hb dX5_fill_68 rfl ?_
    have hr6 := Option.some.inj h0
    subst hr6
    exact kr _ ls _ _ dX5_fill_69 hP hS
theorem c_q_Auction_fill (l : Launch) (D : va_G) (ca : Nat → ClassId) (ad : Nat → Nat) (sz : Nat) {σ : fo_S} {i0 : Nat} {a1 : Int64} {a2 : Int32} {i3 : Nat} (hi0 : i0 < 16) (hi3 : i3 < 2) {res : Int64 × fo_S} (h0 : q_Auction_fill σ i0 a1 a2 i3 = some res) : Met l yX5_fill ws_q_Auction_fill rm_q_Auction_fill (fo_Pre 51 D vwCl (fo_tys ca) ad (fo_ce ca ad σ) sz [.ref (ad (fo_lay 14 i0)), .long a1, .int a2, .ref (ad (fo_lay 1 i3))]) (fo_PoL 51 D vwCl (fo_tys ca) ad (fo_ce ca ad res.2) sz res.1) 0 0 (fo_A 51 ad sz) :=
  fo_mkL (by decide) (fun C0 kr hP => b_q_Auction_fill C0 (Nat.le_refl _) (Nat.le_refl _) (Nat.zero_le _) hi0 hi3 h0 kr hP)
def q_Auction_settle_J80 (a1 : Int32) (i2 : Nat) (i4 : Nat) (s24 : Int64 × Int64 × Int32 × fo_S) : Option ((Int64 × Int64 × Int32 × fo_S) ⊕ (Int64 × Int64 × Int32 × fo_S)) :=
  if fo_vi s24.2.2.1 16 then (if (s24.2.2.2.1 11 0 s24.2.2.1.toNatClampNeg) = 0 then (some (.inl (s24.1, s24.2.1, s24.2.2.1 + (1 : Int32), s24.2.2.2))) else ((q_Auction_fill s24.2.2.2 ((s24.2.2.2.1 6 i2 s24.2.2.1.toNatClampNeg).toNatClampNeg) s24.2.1 a1 i4).bind (fun x11 => some (.inl (s24.1, s24.2.1 - x11.1, s24.2.2.1 + (1 : Int32), x11.2))))) else none
def q_Auction_settle_L24 (a1 : Int32) (i2 : Nat) (i4 : Nat) (s24 : Int64 × Int64 × Int32 × fo_S) : Option ((Int64 × Int64 × Int32 × fo_S) ⊕ (Int64 × Int64 × Int32 × fo_S)) :=
  if (s24.2.2.2.1 5 i2 1) ≤ s24.2.2.1 then (some (.inr (s24.1, s24.2.1, s24.2.2.1, s24.2.2.2))) else (if fo_vi s24.2.2.1 16 then ( if fo_vi (s24.2.2.2.1 6 i2 s24.2.2.1.toNatClampNeg) 16 then ( if fo_vi s24.2.2.1 16 then (if (s24.2.2.2.1 11 0 s24.2.2.1.toNatClampNeg) = 0 then (q_Auction_settle_J80 a1 i2 i4 s24) else (if (s24.2.2.2.1 14 ((s24.2.2.2.1 6 i2 s24.2.2.1.toNatClampNeg).toNatClampNeg) 5) = 0 then ((q_Auction_fill s24.2.2.2 ((s24.2.2.2.1 6 i2 s24.2.2.1.toNatClampNeg).toNatClampNeg) s24.1 a1 i4).bind (fun x14 => some (.inl (s24.1 - x14.1, s24.2.1, s24.2.2.1 + (1 : Int32), x14.2)))) else (q_Auction_settle_J80 a1 i2 i4 s24))) else none) else none) else none)
def q_Auction_settle (σ : fo_S) (a1 : Int32) (i2 : Nat) (i4 : Nat) : Option (fo_S) :=
  (q_Auction_gather σ a1 i2 i4).bind (fun x1 =>  (q_Auction_volume x1).bind (fun x2 =>  (q_Auction_volume x1).bind (fun x3 => (fo_lp (q_Auction_settle_L24 a1 i2 i4) fo_FU (x2, x3, (0 : Int32), x1)).bind (fun y24 => some y24.2.2.2))))
set_option maxHeartbeats 4000000 in
set_option maxRecDepth 100000 in
theorem b_q_Auction_settle {p : Program} {l : Launch} {e : Env} {R : Room} {s : State} {m : MethodId} {args : Array Value} {below : List Frame} {meth : Method} {c : Code} {Q : State → Prop} {D : va_G} {ca : Nat → ClassId} {ad : Nat → Nat} (C0 : fo_CX p s m args c cX5_settle 11 RX5 D ca ad) (hRf : 2 ≤ R.frames) (hRl : 52 ≤ R.locals) (hRc : 0 ≤ R.cells) {σ : fo_S} {a1 : Int32} {i2 : Nat} {i4 : Nat} (hi2 : i2 < 2) (hi4 : i4 < 2) {res : fo_S} (h0 : q_Auction_settle σ a1 i2 i4 = some res) (kr : ∀ (pc : Nat) (ls : Array Slot) (H : Heap) (locs : List Loc), decode cX5_settle pc = .ok (.return_, 1) → va_P D vwCl (fo_vx 51 ad (fo_ce ca ad res)) H → va_S (fo_A 51 ad s.heap.size) s.heap H locs → W p l e R s m args below meth c H locs 0 0 Q (F0 m pc ls [])) (hP : va_P D vwCl (fo_vx 51 ad (fo_ce ca ad σ)) s.heap) : W p l e R s m args below meth c s.heap [] 0 0 Q (entryFrame m ([.ref (ad (fo_lay 10 0)), .int a1, .ref (ad (fo_lay 5 i2)), .ref (ad (fo_lay 4 0)), .ref (ad (fo_lay 1 i4))] : List Value).toArray 11) := by
  obtain ⟨hx, hb, hml, hown, hT, hK, hD⟩ := C0
  have hN0 : (some res) ≠ none := fun q => by cases q
  unfold q_Auction_settle at h0
  have hS : va_S (fo_A 51 ad s.heap.size) s.heap s.heap [] := va_S.rf
  have hl := lv_entry ([.ref (ad (fo_lay 10 0)), .int a1, .ref (ad (fo_lay 5 i2)), .ref (ad (fo_lay 4 0)), .ref (ad (fo_lay 1 i4))]) (n := 11) (Nat.le_of_ble_eq_true rfl)
  rw [lg_entry_eq]
  generalize (lg_sl ([.ref (ad (fo_lay 10 0)), .int a1, .ref (ad (fo_lay 5 i2)), .ref (ad (fo_lay 4 0)), .ref (ad (fo_lay 1 i4))]) ++ List.replicate (11 - (lg_sl ([.ref (ad (fo_lay 10 0)), .int a1, .ref (ad (fo_lay 5 i2)), .ref (ad (fo_lay 4 0)), .ref (ad (fo_lay 1 i4))])).length) Slot.unset).toArray = ls at hl ⊢
  have hl : lv_has ls 11 [(0, .ref (ad (fo_lay 10 0))), (1, .int a1), (2, .ref (ad (fo_lay 5 i2))), (3, .ref (ad (fo_lay 4 0))), (4, .ref (ad (fo_lay 1 i4)))] := hl
  refine lv_aload_n hx hb dX5_settle_0 rfl (lv_at hl 0 rfl) ?_
  refine lv_iload_n hx hb dX5_settle_1 rfl (lv_at hl 1 rfl) ?_
  refine lv_aload_n hx hb dX5_settle_2 rfl (lv_at hl 2 rfl) ?_
  refine lv_aload_n hx hb dX5_settle_3 rfl (lv_at hl 3 rfl) ?_
  refine lv_aload hx hb dX5_settle_4 (lv_at hl 4 rfl) ?_
  obtain ⟨x1, hx1, h0⟩ := fo_bd h0 hN0
  refine fo_callv (va_runV (H := _) (As := [.int a1, .ref (ad (fo_lay 5 i2)), .ref (ad (fo_lay 4 0)), .ref (ad (fo_lay 1 i4))]) (rest := []) ⟨hx, hb, hml, hown, hT⟩ (c_q_Auction_gather l D ca ad _ hi2 hi4 hx1) (fo_c5_22 hT ⟨Nat.le_trans (Nat.le_of_ble_eq_true rfl) hRf, Nat.le_trans (Nat.le_of_ble_eq_true rfl) hRl⟩) ⟨fo_Pre_blind, fo_rc10 hK hP (by decide), fo_Pre_at hP hK (hD _)⟩ rfl rfl hl.1 rfl (lv_room (Nat.le_of_ble_eq_true rfl)) dX5_settle_6 ⟨Nat.zero_le _, Nat.zero_le _⟩) hS (fun H locs hP hS => ?_)
  refine lv_aload_n hx hb dX5_settle_9 rfl (lv_at hl 0 rfl) ?_
  obtain ⟨x2, hx2, h0⟩ := fo_bd h0 hN0
  refine fo_calll (va_runV (H := _) (As := []) (rest := []) ⟨hx, hb, hml, hown, hT⟩ (c_q_Auction_volume l D ca ad _ hx2) (fo_c5_26 hT ⟨Nat.le_trans (Nat.le_of_ble_eq_true rfl) hRf, Nat.le_trans (Nat.le_of_ble_eq_true rfl) hRl⟩) ⟨fo_Pre_blind, fo_rc10 hK hP (by decide), fo_Pre_at hP hK (hD _)⟩ rfl rfl hl.1 rfl (lv_room (Nat.le_of_ble_eq_true rfl)) dX5_settle_10 ⟨Nat.zero_le _, Nat.zero_le _⟩) hS (fun H locs hP hS => ?_)
  refine lv_lstore (lv' := [(5, .long x2), (0, .ref (ad (fo_lay 10 0))), (1, .int a1), (2, .ref (ad (fo_lay 5 i2))), (3, .ref (ad (fo_lay 4 0))), (4, .ref (ad (fo_lay 1 i4)))]) hx hb dX5_settle_13 hl (by decide) rfl (fun ls hl => ?_)
  refine lv_aload_n hx hb dX5_settle_15 rfl (lv_at hl 1 rfl) ?_
  obtain ⟨x3, hx3, h0⟩ := fo_bd h0 hN0
  refine fo_calll (va_runV (H := _) (As := []) (rest := []) ⟨hx, hb, hml, hown, hT⟩ (c_q_Auction_volume l D ca ad _ hx3) (fo_c5_26 hT ⟨Nat.le_trans (Nat.le_of_ble_eq_true rfl) hRf, Nat.le_trans (Nat.le_of_ble_eq_true rfl) hRl⟩) ⟨fo_Pre_blind, fo_rc10 hK hP (by decide), fo_Pre_at hP hK (hD _)⟩ rfl rfl hl.1 rfl (lv_room (Nat.le_of_ble_eq_true rfl)) dX5_settle_16 ⟨Nat.zero_le _, Nat.zero_le _⟩) hS (fun H locs hP hS => ?_)
  refine lv_lstore (lv' := [(7, .long x3), (5, .long x2), (0, .ref (ad (fo_lay 10 0))), (1, .int a1), (2, .ref (ad (fo_lay 5 i2))), (3, .ref (ad (fo_lay 4 0))), (4, .ref (ad (fo_lay 1 i4)))]) hx hb dX5_settle_19 hl (by decide) rfl (fun ls hl => ?_)
  refine lv_iconst (v := 0) hx hb dX5_settle_21 (by decide) ?_
  refine lv_istore (lv' := [(9, .int (0 : Int32)), (7, .long x3), (5, .long x2), (0, .ref (ad (fo_lay 10 0))), (1, .int a1), (2, .ref (ad (fo_lay 5 i2))), (3, .ref (ad (fo_lay 4 0))), (4, .ref (ad (fo_lay 1 i4)))]) hx hb dX5_settle_22 hl (by decide) rfl (fun ls hl => ?_)
  obtain ⟨y24, hy24, h0⟩ := fo_bd h0 hN0
  have ex24 : ∀ (H : Heap) (locs : List Loc) (ls : Array Slot), va_P D vwCl (fo_vx 51 ad (fo_ce ca ad y24.2.2.2)) H → va_S (fo_A 51 ad s.heap.size) s.heap H locs → lv_has ls 11 [] → W p l e R s m args below meth c H locs 0 0 Q (F0 m 111 ls []) := by
    intro H locs ls hP hS hl
    have hr15 := Option.some.inj h0
    subst hr15
    exact kr _ ls _ _ dX5_settle_111 hP hS
  have lp24 := fo_lp_ind (fun (s24 : Int64 × Int64 × Int32 × fo_S) => ∀ (H : Heap) (locs : List Loc) (ls : Array Slot), va_P D vwCl (fo_vx 51 ad (fo_ce ca ad s24.2.2.2)) H → va_S (fo_A 51 ad s.heap.size) s.heap H locs → lv_has ls 11 [(0, .ref (ad (fo_lay 10 0))), (1, .int a1), (2, .ref (ad (fo_lay 5 i2))), (3, .ref (ad (fo_lay 4 0))), (4, .ref (ad (fo_lay 1 i4))), (5, .long s24.1), (7, .long s24.2.1), (9, .int s24.2.2.1)] → W p l e R s m args below meth c H locs 0 0 Q (F0 m 24 ls [])) (by
      intro s24 o1 h1 hN1 hL1 hE1 H locs ls hP hS hl
      unfold q_Auction_settle_L24 at h1
      refine lv_iload hx hb dX5_settle_24 (lv_at hl 7 rfl) ?_
      refine lv_aload_n hx hb dX5_settle_26 rfl (lv_at hl 2 rfl) ?_
      refine fo_g5_30 hx hb hT hown hK hP hi2 dX5_settle_27 ?_
      refine lv_icmp_ge (tgt := 111) hx hb dX5_settle_30 (by decide) (fun c4 => ?_) (fun c4 => ?_)
      · replace h1 := fo_itT c4 h1
        have hy5 := hE1 _ h1
        subst hy5
        exact ex24 _ _ ls hP hS (lv_sub hl [] rfl)
      · replace h1 := fo_itF c4 h1
        refine lv_aload_n hx hb dX5_settle_33 rfl (lv_at hl 3 rfl) ?_
        refine lv_aload_n hx hb dX5_settle_34 rfl (lv_at hl 2 rfl) ?_
        refine fo_g5_36 hx hb hT hown hK hP hi2 dX5_settle_35 ?_
        refine lv_iload hx hb dX5_settle_38 (lv_at hl 7 rfl) ?_
        obtain ⟨g6, h1⟩ := fo_gd h1 hN1
        refine fo_iald (k := 6) (n := 16) hx hb hK hP (by decide) hi2 (fun _ _ => rfl) g6 dX5_settle_40 ?_
        obtain ⟨g7, h1⟩ := fo_gd h1 hN1
        refine fo_aald_4 hx hb hK hP (by decide) g7 dX5_settle_41 ?_
        refine lv_astore (lv' := [(10, .ref (ad (fo_lay 14 ((s24.2.2.2.1 6 i2 s24.2.2.1.toNatClampNeg).toNatClampNeg)))), (0, .ref (ad (fo_lay 10 0))), (1, .int a1), (2, .ref (ad (fo_lay 5 i2))), (3, .ref (ad (fo_lay 4 0))), (4, .ref (ad (fo_lay 1 i4))), (5, .long s24.1), (7, .long s24.2.1), (9, .int s24.2.2.1)]) hx hb dX5_settle_42 hl (by decide) rfl (fun ls hl => ?_)
        refine lv_aload_n hx hb dX5_settle_44 rfl (lv_at hl 1 rfl) ?_
        refine fo_g5_9 hx hb hT hown hK hP (by decide) dX5_settle_45 ?_
        refine lv_iload hx hb dX5_settle_48 (lv_at hl 8 rfl) ?_
        obtain ⟨g8, h1⟩ := fo_gd h1 hN1
        refine fo_zald (k := 11) (n := 16) hx hb hK hP (by decide) (by decide) (fun _ _ => rfl) g8 dX5_settle_50 ?_
        have J80 : q_Auction_settle_J80 a1 i2 i4 s24 = o1 → ∀ (H : Heap) (locs : List Loc) (ls : Array Slot), va_P D vwCl (fo_vx 51 ad (fo_ce ca ad s24.2.2.2)) H → va_S (fo_A 51 ad s.heap.size) s.heap H locs → lv_has ls 11 [(0, .ref (ad (fo_lay 10 0))), (1, .int a1), (2, .ref (ad (fo_lay 5 i2))), (3, .ref (ad (fo_lay 4 0))), (4, .ref (ad (fo_lay 1 i4))), (5, .long s24.1), (7, .long s24.2.1), (9, .int s24.2.2.1), (10, .ref (ad (fo_lay 14 ((s24.2.2.2.1 6 i2 s24.2.2.1.toNatClampNeg).toNatClampNeg))))] → W p l e R s m args below meth c H locs 0 0 Q (F0 m 80 ls []) := by
          intro h1 H locs ls hP hS hl
          unfold q_Auction_settle_J80 at h1
          refine lv_aload_n hx hb dX5_settle_80 rfl (lv_at hl 0 rfl) ?_
          refine fo_g5_9 hx hb hT hown hK hP (by decide) dX5_settle_81 ?_
          refine lv_iload hx hb dX5_settle_84 (lv_at hl 7 rfl) ?_
          obtain ⟨g9, h1⟩ := fo_gd h1 hN1
          refine fo_zald (k := 11) (n := 16) hx hb hK hP (by decide) (by decide) (fun _ _ => rfl) g9 dX5_settle_86 ?_
          refine lv_if_eq (tgt := 105) hx hb dX5_settle_87 (by decide) (fun c10 => ?_) (fun c10 => ?_)
          · replace h1 := fo_itT c10 h1
            refine lv_iinc (v := s24.2.2.1 + (1 : Int32)) (lv' := [(9, .int (s24.2.2.1 + (1 : Int32))), (0, .ref (ad (fo_lay 10 0))), (1, .int a1), (2, .ref (ad (fo_lay 5 i2))), (3, .ref (ad (fo_lay 4 0))), (4, .ref (ad (fo_lay 1 i4))), (5, .long s24.1), (7, .long s24.2.1), (10, .ref (ad (fo_lay 14 ((s24.2.2.2.1 6 i2 s24.2.2.1.toNatClampNeg).toNatClampNeg))))]) hx hb dX5_settle_105 hl (k := 7) rfl rfl (by decide) rfl (fun ls hl => ?_)
            refine lv_goto (tgt := 24) hx hb dX5_settle_108 (by decide) ?_
            exact hL1 _ h1 _ _ ls hP hS (lv_sub hl [1, 2, 3, 4, 5, 6, 7, 0] rfl)
          · replace h1 := fo_itF c10 h1
            refine lv_lload hx hb dX5_settle_90 (lv_at hl 6 rfl) ?_
            refine lv_aload hx hb dX5_settle_92 (lv_at hl 8 rfl) ?_
            refine lv_lload hx hb dX5_settle_94 (lv_at hl 6 rfl) ?_
            refine lv_iload_n hx hb dX5_settle_96 rfl (lv_at hl 1 rfl) ?_
            refine lv_aload hx hb dX5_settle_97 (lv_at hl 4 rfl) ?_
            obtain ⟨x11, hx11, h1⟩ := fo_bd h1 hN1
            refine fo_calll (va_runS (H := _) (As := [.ref (ad (fo_lay 14 ((s24.2.2.2.1 6 i2 s24.2.2.1.toNatClampNeg).toNatClampNeg))), .long s24.2.1, .int a1, .ref (ad (fo_lay 1 i4))]) (rest := [.long s24.2.1]) ⟨hx, hb, hml, hown, hT⟩ (c_q_Auction_fill l D ca ad _ (fo_in g7) hi4 hx11) (fo_c5_45 hT ⟨Nat.le_trans (Nat.le_of_ble_eq_true rfl) hRf, Nat.le_trans (Nat.le_of_ble_eq_true rfl) hRl⟩) ⟨fo_Pre_blind, fo_Pre_at hP hK (hD _)⟩ rfl rfl hl.1 rfl (lv_room (Nat.le_of_ble_eq_true rfl)) dX5_settle_99 ⟨Nat.zero_le _, Nat.zero_le _⟩) hS (fun H locs hP hS => ?_)
            refine lv_lsub hx hb dX5_settle_102 ?_
            refine lv_lstore (lv' := [(7, .long (s24.2.1 - x11.1)), (0, .ref (ad (fo_lay 10 0))), (1, .int a1), (2, .ref (ad (fo_lay 5 i2))), (3, .ref (ad (fo_lay 4 0))), (4, .ref (ad (fo_lay 1 i4))), (5, .long s24.1), (9, .int s24.2.2.1), (10, .ref (ad (fo_lay 14 ((s24.2.2.2.1 6 i2 s24.2.2.1.toNatClampNeg).toNatClampNeg))))]) hx hb dX5_settle_103 hl (by decide) rfl (fun ls hl => ?_)
            refine lv_iinc (v := s24.2.2.1 + (1 : Int32)) (lv' := [(9, .int (s24.2.2.1 + (1 : Int32))), (7, .long (s24.2.1 - x11.1)), (0, .ref (ad (fo_lay 10 0))), (1, .int a1), (2, .ref (ad (fo_lay 5 i2))), (3, .ref (ad (fo_lay 4 0))), (4, .ref (ad (fo_lay 1 i4))), (5, .long s24.1), (10, .ref (ad (fo_lay 14 ((s24.2.2.2.1 6 i2 s24.2.2.1.toNatClampNeg).toNatClampNeg))))]) hx hb dX5_settle_105 hl (k := 7) rfl rfl (by decide) rfl (fun ls hl => ?_)
            refine lv_goto (tgt := 24) hx hb dX5_settle_108 (by decide) ?_
            exact hL1 _ h1 _ _ ls hP hS (lv_sub hl [2, 3, 4, 5, 6, 7, 1, 0] rfl)
        refine lv_if_eq (tgt := 80) hx hb dX5_settle_51 (by decide) (fun c12 => ?_) (fun c12 => ?_)
        · replace h1 := fo_itT c12 h1
          exact J80 h1 _ _ ls hP hS (lv_sub hl [1, 2, 3, 4, 5, 6, 7, 8, 0] rfl)
        · replace h1 := fo_itF c12 h1
          refine lv_aload hx hb dX5_settle_54 (lv_at hl 0 rfl) ?_
          refine fo_g5_40 hx hb hT hown hK hP (fo_in g7) dX5_settle_56 ?_
          refine lv_if_ne (tgt := 80) hx hb dX5_settle_59 (by decide) (fun c13 => ?_) (fun c13 => ?_)
          · replace h1 := fo_itF c13 h1
            exact J80 h1 _ _ ls hP hS (lv_sub hl [1, 2, 3, 4, 5, 6, 7, 8, 0] rfl)
          · replace h1 := fo_itT c13 h1
            refine lv_lload hx hb dX5_settle_62 (lv_at hl 6 rfl) ?_
            refine lv_aload hx hb dX5_settle_64 (lv_at hl 0 rfl) ?_
            refine lv_lload hx hb dX5_settle_66 (lv_at hl 6 rfl) ?_
            refine lv_iload_n hx hb dX5_settle_68 rfl (lv_at hl 2 rfl) ?_
            refine lv_aload hx hb dX5_settle_69 (lv_at hl 5 rfl) ?_
            obtain ⟨x14, hx14, h1⟩ := fo_bd h1 hN1
            refine fo_calll (va_runS (H := _) (As := [.ref (ad (fo_lay 14 ((s24.2.2.2.1 6 i2 s24.2.2.1.toNatClampNeg).toNatClampNeg))), .long s24.1, .int a1, .ref (ad (fo_lay 1 i4))]) (rest := [.long s24.1]) ⟨hx, hb, hml, hown, hT⟩ (c_q_Auction_fill l D ca ad _ (fo_in g7) hi4 hx14) (fo_c5_45 hT ⟨Nat.le_trans (Nat.le_of_ble_eq_true rfl) hRf, Nat.le_trans (Nat.le_of_ble_eq_true rfl) hRl⟩) ⟨fo_Pre_blind, fo_Pre_at hP hK (hD _)⟩ rfl rfl hl.1 rfl (lv_room (Nat.le_of_ble_eq_true rfl)) dX5_settle_71 ⟨Nat.zero_le _, Nat.zero_le _⟩) hS (fun H locs hP hS => ?_)
            refine lv_lsub hx hb dX5_settle_74 ?_
            refine lv_lstore (lv' := [(5, .long (s24.1 - x14.1)), (10, .ref (ad (fo_lay 14 ((s24.2.2.2.1 6 i2 s24.2.2.1.toNatClampNeg).toNatClampNeg)))), (0, .ref (ad (fo_lay 10 0))), (1, .int a1), (2, .ref (ad (fo_lay 5 i2))), (3, .ref (ad (fo_lay 4 0))), (4, .ref (ad (fo_lay 1 i4))), (7, .long s24.2.1), (9, .int s24.2.2.1)]) hx hb dX5_settle_75 hl (by decide) rfl (fun ls hl => ?_)
            refine lv_goto (tgt := 105) hx hb dX5_settle_77 (by decide) ?_
            refine lv_iinc (v := s24.2.2.1 + (1 : Int32)) (lv' := [(9, .int (s24.2.2.1 + (1 : Int32))), (5, .long (s24.1 - x14.1)), (10, .ref (ad (fo_lay 14 ((s24.2.2.2.1 6 i2 s24.2.2.1.toNatClampNeg).toNatClampNeg)))), (0, .ref (ad (fo_lay 10 0))), (1, .int a1), (2, .ref (ad (fo_lay 5 i2))), (3, .ref (ad (fo_lay 4 0))), (4, .ref (ad (fo_lay 1 i4))), (7, .long s24.2.1)]) hx hb dX5_settle_105 hl (k := 8) rfl rfl (by decide) rfl (fun ls hl => ?_)
            refine lv_goto (tgt := 24) hx hb dX5_settle_108 (by decide) ?_
            exact hL1 _ h1 _ _ ls hP hS (lv_sub hl [3, 4, 5, 6, 7, 1, 8, 0] rfl)) _ _ hy24
  exact lp24 _ _ ls hP hS (lv_sub hl [3, 4, 5, 6, 7, 2, 1, 0] rfl)
theorem c_q_Auction_settle (l : Launch) (D : va_G) (ca : Nat → ClassId) (ad : Nat → Nat) (sz : Nat) {σ : fo_S} {a1 : Int32} {i2 : Nat} {i4 : Nat} (hi2 : i2 < 2) (hi4 : i4 < 2) {res : fo_S} (h0 : q_Auction_settle σ a1 i2 i4 = some res) : Met l yX5_settle ws_q_Auction_settle rm_q_Auction_settle (fo_Pre 51 D vwCl (fo_tys ca) ad (fo_ce ca ad σ) sz [.ref (ad (fo_lay 10 0)), .int a1, .ref (ad (fo_lay 5 i2)), .ref (ad (fo_lay 4 0)), .ref (ad (fo_lay 1 i4))]) (fo_PoV 51 D vwCl (fo_tys ca) ad (fo_ce ca ad res) sz) 0 0 (fo_A 51 ad sz) :=
  fo_mkV (by decide) (fun C0 kr hP => b_q_Auction_settle C0 (Nat.le_refl _) (Nat.le_refl _) (Nat.zero_le _) hi2 hi4 h0 kr hP)
