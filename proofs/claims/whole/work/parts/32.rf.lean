def r_tryAll_L2  (s2 : Int32 × fo_S) : Option ((Int32 × fo_S) ⊕ (Int32 × fo_S)) :=
  if (s2.2.1 0 0 0) ≤ s2.1 then (some (.inr (s2.1, s2.2))) else (if fo_vi s2.1 8 then ( if fo_vi s2.1 8 then ( if fo_vi s2.1 8 then ( if fo_vi s2.1 8 then (some (.inl (s2.1 + (1 : Int32), fo_pJ (fo_pJ s2.2 15 0 s2.1.toNatClampNeg (s2.2.2 1 0 s2.1.toNatClampNeg)) 16 0 s2.1.toNatClampNeg ((fo_pJ s2.2 15 0 s2.1.toNatClampNeg (s2.2.2 1 0 s2.1.toNatClampNeg)).2 2 0 s2.1.toNatClampNeg)))) else none) else none) else none) else none)
def r_tryAll_L58  (s58 : Int32 × fo_S) : Option ((Int32 × fo_S) ⊕ (Int32 × fo_S)) :=
  if (s58.2.1 0 0 17) ≤ s58.1 then (some (.inr (s58.1, s58.2))) else (if fo_vi s58.1 16 then ( (r_tryOne s58.2 (s58.2.1 14 0 s58.1.toNatClampNeg)).bind (fun x10 => some (.inl (s58.1 + (1 : Int32), x10)))) else none)
def r_tryAll (σ : fo_S)  : Option (fo_S) :=
  (fo_lp (r_tryAll_L2) fo_FU ((0 : Int32), σ)).bind (fun y2 => (fo_lp (r_tryAll_L58) fo_FU ((0 : Int32), fo_pJ (fo_pJ y2.2 0 0 25 (y2.2.2 0 0 3)) 0 0 26 ((fo_pJ y2.2 0 0 25 (y2.2.2 0 0 3)).2 0 0 4))).bind (fun y58 => some y58.2))
set_option maxHeartbeats 4000000 in
set_option maxRecDepth 100000 in
theorem b_r_tryAll {p : Program} {l : Launch} {e : Env} {R : Room} {s : State} {m : MethodId} {args : Array Value} {below : List Frame} {meth : Method} {c : Code} {Q : State → Prop} {D : va_G} {ca : Nat → ClassId} {ad : Nat → Nat} (C0 : fr_CX p s m args c cX6_tryAll 2 RX6 D ca ad) (hRf : 1 ≤ R.frames) (hRl : 32 ≤ R.locals) (hRc : 0 ≤ R.cells) {σ : fo_S}   {res : fo_S} (h0 : r_tryAll σ = some res) (kr : ∀ (pc : Nat) (ls : Array Slot) (H : Heap) (locs : List Loc), decode cX6_tryAll pc = .ok (.return_, 1) → va_P D vwCl (fo_vx 25 ad (fr_ce ca ad res)) H → va_S (fo_A 25 ad s.heap.size) s.heap H locs → W p l e R s m args below meth c H locs 0 0 Q (F0 m pc ls [])) (hP : va_P D vwCl (fo_vx 25 ad (fr_ce ca ad σ)) s.heap) : W p l e R s m args below meth c s.heap [] 0 0 Q (entryFrame m ([.ref (ad (fr_lay 0 0))] : List Value).toArray 2) := by
  obtain ⟨hx, hb, hml, hown, hT, hK, hD⟩ := C0
  have hN0 : (some res) ≠ none := fun q => by cases q
  unfold r_tryAll at h0
  have hS : va_S (fo_A 25 ad s.heap.size) s.heap s.heap [] := va_S.rf
  have hl := lv_entry ([.ref (ad (fr_lay 0 0))]) (n := 2) (Nat.le_of_ble_eq_true rfl)
  rw [lg_entry_eq]
  generalize (lg_sl ([.ref (ad (fr_lay 0 0))]) ++ List.replicate (2 - (lg_sl ([.ref (ad (fr_lay 0 0))])).length) Slot.unset).toArray = ls at hl ⊢
  have hl : lv_has ls 2 [(0, .ref (ad (fr_lay 0 0)))] := hl
  refine lv_iconst (v := 0) hx hb dX6_tryAll_0 (by decide) ?_
  refine lv_istore_n (lv' := [(1, .int (0 : Int32)), (0, .ref (ad (fr_lay 0 0)))]) hx hb dX6_tryAll_1 rfl hl (by decide) rfl (fun ls hl => ?_)
  obtain ⟨y2, hy2, h0⟩ := fo_bd h0 hN0
  have ex2 : ∀ (H : Heap) (locs : List Loc) (ls : Array Slot), va_P D vwCl (fo_vx 25 ad (fr_ce ca ad y2.2)) H → va_S (fo_A 25 ad s.heap.size) s.heap H locs → lv_has ls 2 [(0, .ref (ad (fr_lay 0 0)))] → W p l e R s m args below meth c H locs 0 0 Q (F0 m 40 ls []) := by
    intro H locs ls hP hS hl
    refine lv_aload_n hx hb dX6_tryAll_40 rfl (lv_at hl 0 rfl) ?_
    refine lv_aload_n hx hb dX6_tryAll_41 rfl (lv_at hl 0 rfl) ?_
    refine fr_g6_105 hx hb hT hown hK hP (by decide) dX6_tryAll_42 ?_
    refine fr_p6_182 hx hb hT hown hK hP hD hS (by decide) dX6_tryAll_45 (fun H locs hP hS => ?_)
    refine lv_aload_n hx hb dX6_tryAll_48 rfl (lv_at hl 0 rfl) ?_
    refine lv_aload_n hx hb dX6_tryAll_49 rfl (lv_at hl 0 rfl) ?_
    refine fr_g6_109 hx hb hT hown hK hP (by decide) dX6_tryAll_50 ?_
    refine fr_p6_185 hx hb hT hown hK hP hD hS (by decide) dX6_tryAll_53 (fun H locs hP hS => ?_)
    refine lv_iconst (v := 0) hx hb dX6_tryAll_56 (by decide) ?_
    refine lv_istore_n (lv' := [(1, .int (0 : Int32)), (0, .ref (ad (fr_lay 0 0)))]) hx hb dX6_tryAll_57 rfl hl (by decide) rfl (fun ls hl => ?_)
    obtain ⟨y58, hy58, h0⟩ := fo_bd h0 hN0
    have ex58 : ∀ (H : Heap) (locs : List Loc) (ls : Array Slot), va_P D vwCl (fo_vx 25 ad (fr_ce ca ad y58.2)) H → va_S (fo_A 25 ad s.heap.size) s.heap H locs → lv_has ls 2 [] → W p l e R s m args below meth c H locs 0 0 Q (F0 m 82 ls []) := by
      intro H locs ls hP hS hl
      have hr11 := Option.some.inj h0
      subst hr11
      exact kr _ ls _ _ dX6_tryAll_82 hP hS
    have lp58 := fo_lp_ind (fun (s58 : Int32 × fo_S) => ∀ (H : Heap) (locs : List Loc) (ls : Array Slot), va_P D vwCl (fo_vx 25 ad (fr_ce ca ad s58.2)) H → va_S (fo_A 25 ad s.heap.size) s.heap H locs → lv_has ls 2 [(0, .ref (ad (fr_lay 0 0))), (1, .int s58.1)] → W p l e R s m args below meth c H locs 0 0 Q (F0 m 58 ls [])) (by
        intro s58 o1 h1 hN1 hL1 hE1 H locs ls hP hS hl
        unfold r_tryAll_L58 at h1
        refine lv_iload_n hx hb dX6_tryAll_58 rfl (lv_at hl 1 rfl) ?_
        refine lv_aload_n hx hb dX6_tryAll_59 rfl (lv_at hl 0 rfl) ?_
        refine fr_g6_42 hx hb hT hown hK hP (by decide) dX6_tryAll_60 ?_
        refine lv_icmp_ge (tgt := 82) hx hb dX6_tryAll_63 (by decide) (fun c7 => ?_) (fun c7 => ?_)
        · replace h1 := fo_itT c7 h1
          have hy8 := hE1 _ h1
          subst hy8
          exact ex58 _ _ ls hP hS (lv_sub hl [] rfl)
        · replace h1 := fo_itF c7 h1
          refine lv_aload_n hx hb dX6_tryAll_66 rfl (lv_at hl 0 rfl) ?_
          refine lv_aload_n hx hb dX6_tryAll_67 rfl (lv_at hl 0 rfl) ?_
          refine fr_g6_55 hx hb hT hown hK hP (by decide) dX6_tryAll_68 ?_
          refine lv_iload_n hx hb dX6_tryAll_71 rfl (lv_at hl 1 rfl) ?_
          obtain ⟨g9, h1⟩ := fo_gd h1 hN1
          refine fr_iald (k := 14) (n := 16) hx hb hK hP (by decide) (by decide) (fun _ _ => rfl) g9 dX6_tryAll_72 ?_
          obtain ⟨x10, hx10, h1⟩ := fo_bd h1 hN1
          refine fo_callv (va_runV (H := _) (As := [.int (s58.2.1 14 0 s58.1.toNatClampNeg)]) (rest := []) ⟨hx, hb, hml, hown, hT⟩ (c_r_tryOne l D ca ad _ hx10) (fr_c6_188 hT ⟨Nat.le_trans (Nat.le_of_ble_eq_true rfl) hRf, Nat.le_trans (Nat.le_of_ble_eq_true rfl) hRl⟩) ⟨fo_Pre_blind, fr_rc0 hK hP (by decide), fo_Pre_at hP hK (hD _)⟩ rfl rfl hl.1 rfl (lv_room (Nat.le_of_ble_eq_true rfl)) dX6_tryAll_73 ⟨Nat.zero_le _, Nat.zero_le _⟩) hS (fun H locs hP hS => ?_)
          refine lv_iinc (v := s58.1 + (1 : Int32)) (lv' := [(1, .int (s58.1 + (1 : Int32))), (0, .ref (ad (fr_lay 0 0)))]) hx hb dX6_tryAll_76 hl (k := 1) rfl rfl (by decide) rfl (fun ls hl => ?_)
          refine lv_goto (tgt := 58) hx hb dX6_tryAll_79 (by decide) ?_
          exact hL1 _ h1 _ _ ls hP hS (lv_sub hl [1, 0] rfl)) _ _ hy58
    exact lp58 _ _ ls hP hS (lv_sub hl [1, 0] rfl)
  have lp2 := fo_lp_ind (fun (s2 : Int32 × fo_S) => ∀ (H : Heap) (locs : List Loc) (ls : Array Slot), va_P D vwCl (fo_vx 25 ad (fr_ce ca ad s2.2)) H → va_S (fo_A 25 ad s.heap.size) s.heap H locs → lv_has ls 2 [(0, .ref (ad (fr_lay 0 0))), (1, .int s2.1)] → W p l e R s m args below meth c H locs 0 0 Q (F0 m 2 ls [])) (by
      intro s2 o1 h1 hN1 hL1 hE1 H locs ls hP hS hl
      unfold r_tryAll_L2 at h1
      refine lv_iload_n hx hb dX6_tryAll_2 rfl (lv_at hl 1 rfl) ?_
      refine lv_aload_n hx hb dX6_tryAll_3 rfl (lv_at hl 0 rfl) ?_
      refine fr_g6_102 hx hb hT hown hK hP (by decide) dX6_tryAll_4 ?_
      refine lv_icmp_ge (tgt := 40) hx hb dX6_tryAll_7 (by decide) (fun c1 => ?_) (fun c1 => ?_)
      · replace h1 := fo_itT c1 h1
        have hy2 := hE1 _ h1
        subst hy2
        exact ex2 _ _ ls hP hS (lv_sub hl [0] rfl)
      · replace h1 := fo_itF c1 h1
        refine lv_aload_n hx hb dX6_tryAll_10 rfl (lv_at hl 0 rfl) ?_
        refine fr_g6_58 hx hb hT hown hK hP (by decide) dX6_tryAll_11 ?_
        refine lv_iload_n hx hb dX6_tryAll_14 rfl (lv_at hl 1 rfl) ?_
        refine lv_aload_n hx hb dX6_tryAll_15 rfl (lv_at hl 0 rfl) ?_
        refine fr_g6_7 hx hb hT hown hK hP (by decide) dX6_tryAll_16 ?_
        refine lv_iload_n hx hb dX6_tryAll_19 rfl (lv_at hl 1 rfl) ?_
        obtain ⟨g3, h1⟩ := fo_gd h1 hN1
        refine fr_lald (k := 1) (n := 8) hx hb hK hP (by decide) (by decide) (fun _ _ => rfl) g3 dX6_tryAll_20 ?_
        obtain ⟨g4, h1⟩ := fo_gd h1 hN1
        refine fr_last (k := 15) (n := 8) hx hb hK hP hD hS (by decide) (by decide) (fun _ _ => rfl) g4 dX6_tryAll_21 (fun H locs hP hS => ?_)
        refine lv_aload_n hx hb dX6_tryAll_22 rfl (lv_at hl 0 rfl) ?_
        refine fr_g6_61 hx hb hT hown hK hP (by decide) dX6_tryAll_23 ?_
        refine lv_iload_n hx hb dX6_tryAll_26 rfl (lv_at hl 1 rfl) ?_
        refine lv_aload_n hx hb dX6_tryAll_27 rfl (lv_at hl 0 rfl) ?_
        refine fr_g6_13 hx hb hT hown hK hP (by decide) dX6_tryAll_28 ?_
        refine lv_iload_n hx hb dX6_tryAll_31 rfl (lv_at hl 1 rfl) ?_
        obtain ⟨g5, h1⟩ := fo_gd h1 hN1
        refine fr_lald (k := 2) (n := 8) hx hb hK hP (by decide) (by decide) (fun _ _ => rfl) g5 dX6_tryAll_32 ?_
        obtain ⟨g6, h1⟩ := fo_gd h1 hN1
        refine fr_last (k := 16) (n := 8) hx hb hK hP hD hS (by decide) (by decide) (fun _ _ => rfl) g6 dX6_tryAll_33 (fun H locs hP hS => ?_)
        refine lv_iinc (v := s2.1 + (1 : Int32)) (lv' := [(1, .int (s2.1 + (1 : Int32))), (0, .ref (ad (fr_lay 0 0)))]) hx hb dX6_tryAll_34 hl (k := 1) rfl rfl (by decide) rfl (fun ls hl => ?_)
        refine lv_goto (tgt := 2) hx hb dX6_tryAll_37 (by decide) ?_
        exact hL1 _ h1 _ _ ls hP hS (lv_sub hl [1, 0] rfl)) _ _ hy2
  exact lp2 _ _ ls hP hS (lv_sub hl [1, 0] rfl)
theorem c_r_tryAll (l : Launch) (D : va_G) (ca : Nat → ClassId) (ad : Nat → Nat) (sz : Nat) {σ : fo_S}   {res : fo_S} (h0 : r_tryAll σ = some res) : Met l yX6_tryAll ws_r_tryAll rm_r_tryAll (fo_Pre 25 D vwCl (fr_tys ca) ad (fr_ce ca ad σ) sz [.ref (ad (fr_lay 0 0))]) (fo_PoV 25 D vwCl (fr_tys ca) ad (fr_ce ca ad res) sz) 0 0 (fo_A 25 ad sz) :=
  fr_mkV (by decide) (fun C0 kr hP => b_r_tryAll C0 (Nat.le_refl _) (Nat.le_refl _) (Nat.zero_le _)  h0 kr hP)
def r_begin_L7  (s7 : Int32 × fo_S) : Option ((Int32 × fo_S) ⊕ (Int32 × fo_S)) :=
  if (s7.2.1 0 0 8) ≤ s7.1 then (some (.inr (s7.1, s7.2))) else (if fo_vi s7.1 16 then ( if fo_vi s7.1 16 then (some (.inl (s7.1 + (1 : Int32), fo_pJ (fo_pI s7.2 12 0 s7.1.toNatClampNeg (0 : Int32)) 13 0 s7.1.toNatClampNeg (0 : Int64)))) else none) else none)
def r_begin (σ : fo_S)  : Option (fo_S) :=
  (fo_lp (r_begin_L7) fo_FU ((0 : Int32), fo_pI σ 0 0 19 (1 : Int32))).bind (fun y7 => some y7.2)
set_option maxHeartbeats 4000000 in
set_option maxRecDepth 100000 in
theorem b_r_begin {p : Program} {l : Launch} {e : Env} {R : Room} {s : State} {m : MethodId} {args : Array Value} {below : List Frame} {meth : Method} {c : Code} {Q : State → Prop} {D : va_G} {ca : Nat → ClassId} {ad : Nat → Nat} (C0 : fr_CX p s m args c cX6_begin 2 RX6 D ca ad) (hRf : 0 ≤ R.frames) (hRl : 0 ≤ R.locals) (hRc : 0 ≤ R.cells) {σ : fo_S}   {res : fo_S} (h0 : r_begin σ = some res) (kr : ∀ (pc : Nat) (ls : Array Slot) (H : Heap) (locs : List Loc), decode cX6_begin pc = .ok (.return_, 1) → va_P D vwCl (fo_vx 25 ad (fr_ce ca ad res)) H → va_S (fo_A 25 ad s.heap.size) s.heap H locs → W p l e R s m args below meth c H locs 0 0 Q (F0 m pc ls [])) (hP : va_P D vwCl (fo_vx 25 ad (fr_ce ca ad σ)) s.heap) : W p l e R s m args below meth c s.heap [] 0 0 Q (entryFrame m ([.ref (ad (fr_lay 0 0))] : List Value).toArray 2) := by
  obtain ⟨hx, hb, hml, hown, hT, hK, hD⟩ := C0
  have hN0 : (some res) ≠ none := fun q => by cases q
  unfold r_begin at h0
  have hS : va_S (fo_A 25 ad s.heap.size) s.heap s.heap [] := va_S.rf
  have hl := lv_entry ([.ref (ad (fr_lay 0 0))]) (n := 2) (Nat.le_of_ble_eq_true rfl)
  rw [lg_entry_eq]
  generalize (lg_sl ([.ref (ad (fr_lay 0 0))]) ++ List.replicate (2 - (lg_sl ([.ref (ad (fr_lay 0 0))])).length) Slot.unset).toArray = ls at hl ⊢
  have hl : lv_has ls 2 [(0, .ref (ad (fr_lay 0 0)))] := hl
  refine lv_aload_n hx hb dX6_begin_0 rfl (lv_at hl 0 rfl) ?_
  refine lv_iconst (v := 1) hx hb dX6_begin_1 (by decide) ?_
  refine fr_p6_95 hx hb hT hown hK hP hD hS (by decide) rfl rfl dX6_begin_2 (fun H locs hP hS => ?_)
  refine lv_iconst (v := 0) hx hb dX6_begin_5 (by decide) ?_
  refine lv_istore_n (lv' := [(1, .int (0 : Int32)), (0, .ref (ad (fr_lay 0 0)))]) hx hb dX6_begin_6 rfl hl (by decide) rfl (fun ls hl => ?_)
  obtain ⟨y7, hy7, h0⟩ := fo_bd h0 hN0
  have ex7 : ∀ (H : Heap) (locs : List Loc) (ls : Array Slot), va_P D vwCl (fo_vx 25 ad (fr_ce ca ad y7.2)) H → va_S (fo_A 25 ad s.heap.size) s.heap H locs → lv_has ls 2 [] → W p l e R s m args below meth c H locs 0 0 Q (F0 m 35 ls []) := by
    intro H locs ls hP hS hl
    have hr5 := Option.some.inj h0
    subst hr5
    exact kr _ ls _ _ dX6_begin_35 hP hS
  have lp7 := fo_lp_ind (fun (s7 : Int32 × fo_S) => ∀ (H : Heap) (locs : List Loc) (ls : Array Slot), va_P D vwCl (fo_vx 25 ad (fr_ce ca ad s7.2)) H → va_S (fo_A 25 ad s.heap.size) s.heap H locs → lv_has ls 2 [(0, .ref (ad (fr_lay 0 0))), (1, .int s7.1)] → W p l e R s m args below meth c H locs 0 0 Q (F0 m 7 ls [])) (by
      intro s7 o1 h1 hN1 hL1 hE1 H locs ls hP hS hl
      unfold r_begin_L7 at h1
      refine lv_iload_n hx hb dX6_begin_7 rfl (lv_at hl 1 rfl) ?_
      refine lv_aload_n hx hb dX6_begin_8 rfl (lv_at hl 0 rfl) ?_
      refine fr_g6_88 hx hb hT hown hK hP (by decide) dX6_begin_9 ?_
      refine lv_icmp_ge (tgt := 35) hx hb dX6_begin_12 (by decide) (fun c1 => ?_) (fun c1 => ?_)
      · replace h1 := fo_itT c1 h1
        have hy2 := hE1 _ h1
        subst hy2
        exact ex7 _ _ ls hP hS (lv_sub hl [] rfl)
      · replace h1 := fo_itF c1 h1
        refine lv_aload_n hx hb dX6_begin_15 rfl (lv_at hl 0 rfl) ?_
        refine fr_g6_49 hx hb hT hown hK hP (by decide) dX6_begin_16 ?_
        refine lv_iload_n hx hb dX6_begin_19 rfl (lv_at hl 1 rfl) ?_
        refine lv_iconst (v := 0) hx hb dX6_begin_20 (by decide) ?_
        obtain ⟨g3, h1⟩ := fo_gd h1 hN1
        refine fr_iast (k := 12) (n := 16) hx hb hK hP hD hS (by decide) (by decide) (fun _ _ => rfl) g3 dX6_begin_21 (fun H locs hP hS => ?_)
        refine lv_aload_n hx hb dX6_begin_22 rfl (lv_at hl 0 rfl) ?_
        refine fr_g6_52 hx hb hT hown hK hP (by decide) dX6_begin_23 ?_
        refine lv_iload_n hx hb dX6_begin_26 rfl (lv_at hl 1 rfl) ?_
        refine lv_lconst (v := 0) hx hb dX6_begin_27 (by decide) ?_
        obtain ⟨g4, h1⟩ := fo_gd h1 hN1
        refine fr_last (k := 13) (n := 16) hx hb hK hP hD hS (by decide) (by decide) (fun _ _ => rfl) g4 dX6_begin_28 (fun H locs hP hS => ?_)
        refine lv_iinc (v := s7.1 + (1 : Int32)) (lv' := [(1, .int (s7.1 + (1 : Int32))), (0, .ref (ad (fr_lay 0 0)))]) hx hb dX6_begin_29 hl (k := 1) rfl rfl (by decide) rfl (fun ls hl => ?_)
        refine lv_goto (tgt := 7) hx hb dX6_begin_32 (by decide) ?_
        exact hL1 _ h1 _ _ ls hP hS (lv_sub hl [1, 0] rfl)) _ _ hy7
  exact lp7 _ _ ls hP hS (lv_sub hl [1, 0] rfl)
theorem c_r_begin (l : Launch) (D : va_G) (ca : Nat → ClassId) (ad : Nat → Nat) (sz : Nat) {σ : fo_S}   {res : fo_S} (h0 : r_begin σ = some res) : Met l yX6_begin ws_r_begin rm_r_begin (fo_Pre 25 D vwCl (fr_tys ca) ad (fr_ce ca ad σ) sz [.ref (ad (fr_lay 0 0))]) (fo_PoV 25 D vwCl (fr_tys ca) ad (fr_ce ca ad res) sz) 0 0 (fo_A 25 ad sz) :=
  fr_mkV (by decide) (fun C0 kr hP => b_r_begin C0 (Nat.le_refl _) (Nat.le_refl _) (Nat.zero_le _)  h0 kr hP)
def r_play_L12  (s12 : Int32 × fo_S) : Option ((Int32 × fo_S) ⊕ (Int32 × fo_S)) :=
  if (s12.2.1 0 0 17) ≤ s12.1 then (some (.inr (s12.1, s12.2))) else (if fo_vi s12.1 16 then ( if fo_vi s12.1 16 then (some (.inl (s12.1 + (1 : Int32), fo_pI s12.2 14 0 s12.1.toNatClampNeg (s12.2.1 11 0 s12.1.toNatClampNeg)))) else none) else none)
def r_play_L50  (s50 : Int32 × Int32 × fo_S) : Option ((Int32 × Int32 × fo_S) ⊕ (Int32 × Int32 × fo_S)) :=
  if (s50.2.2.1 0 0 17) ≤ s50.2.1 then (some (.inr (s50.1, s50.2.1, s50.2.2))) else (if fo_vi s50.2.1 16 then ( if fo_vi (s50.2.2.1 11 0 s50.2.1.toNatClampNeg) 16 then ( if fo_vi (s50.2.2.1 11 0 s50.2.1.toNatClampNeg) 16 then ( if fo_vi (s50.2.2.1 11 0 s50.2.1.toNatClampNeg) 16 then ( if fo_vi (s50.2.2.1 11 0 s50.2.1.toNatClampNeg) 16 then ( if fo_vi (s50.2.2.1 11 0 s50.2.1.toNatClampNeg) 16 then (if ((fo_pJ (fo_pI s50.2.2 12 0 (s50.2.2.1 11 0 s50.2.1.toNatClampNeg).toNatClampNeg (s50.2.2.1 17 0 (s50.2.2.1 11 0 s50.2.1.toNatClampNeg).toNatClampNeg)) 13 0 (s50.2.2.1 11 0 s50.2.1.toNatClampNeg).toNatClampNeg ((fo_pI s50.2.2 12 0 (s50.2.2.1 11 0 s50.2.1.toNatClampNeg).toNatClampNeg (s50.2.2.1 17 0 (s50.2.2.1 11 0 s50.2.1.toNatClampNeg).toNatClampNeg)).2 18 0 (s50.2.2.1 11 0 s50.2.1.toNatClampNeg).toNatClampNeg)).1 12 0 (s50.2.2.1 11 0 s50.2.1.toNatClampNeg).toNatClampNeg) ≤ 0 then (some (.inl (s50.1 + (0 : Int32), s50.2.1 + (1 : Int32), fo_pJ (fo_pI s50.2.2 12 0 (s50.2.2.1 11 0 s50.2.1.toNatClampNeg).toNatClampNeg (s50.2.2.1 17 0 (s50.2.2.1 11 0 s50.2.1.toNatClampNeg).toNatClampNeg)) 13 0 (s50.2.2.1 11 0 s50.2.1.toNatClampNeg).toNatClampNeg ((fo_pI s50.2.2 12 0 (s50.2.2.1 11 0 s50.2.1.toNatClampNeg).toNatClampNeg (s50.2.2.1 17 0 (s50.2.2.1 11 0 s50.2.1.toNatClampNeg).toNatClampNeg)).2 18 0 (s50.2.2.1 11 0 s50.2.1.toNatClampNeg).toNatClampNeg)))) else (some (.inl (s50.1 + (1 : Int32), s50.2.1 + (1 : Int32), fo_pJ (fo_pI s50.2.2 12 0 (s50.2.2.1 11 0 s50.2.1.toNatClampNeg).toNatClampNeg (s50.2.2.1 17 0 (s50.2.2.1 11 0 s50.2.1.toNatClampNeg).toNatClampNeg)) 13 0 (s50.2.2.1 11 0 s50.2.1.toNatClampNeg).toNatClampNeg ((fo_pI s50.2.2 12 0 (s50.2.2.1 11 0 s50.2.1.toNatClampNeg).toNatClampNeg (s50.2.2.1 17 0 (s50.2.2.1 11 0 s50.2.1.toNatClampNeg).toNatClampNeg)).2 18 0 (s50.2.2.1 11 0 s50.2.1.toNatClampNeg).toNatClampNeg))))) else none) else none) else none) else none) else none) else none)
def r_play_L114  (s114 : Int32 × fo_S) : Option ((Int32 × fo_S) ⊕ (Int32 × fo_S)) :=
  if (s114.2.1 0 0 0) ≤ s114.1 then (some (.inr (s114.1, s114.2))) else (if fo_vi s114.1 8 then ( if fo_vi s114.1 8 then ( if fo_vi s114.1 8 then ( if fo_vi s114.1 8 then (some (.inl (s114.1 + (1 : Int32), fo_pJ (fo_pJ s114.2 1 0 s114.1.toNatClampNeg (s114.2.2 15 0 s114.1.toNatClampNeg)) 2 0 s114.1.toNatClampNeg ((fo_pJ s114.2 1 0 s114.1.toNatClampNeg (s114.2.2 15 0 s114.1.toNatClampNeg)).2 16 0 s114.1.toNatClampNeg)))) else none) else none) else none) else none)
def r_play (σ : fo_S)  : Option (Int32 × fo_S) :=
  (r_mayPlay σ).bind (fun x1 => if x1 = 0 then (some ((-4 : Int32), σ)) else ((fo_lp (r_play_L12) fo_FU ((0 : Int32), σ)).bind (fun y12 => (r_tryAll y12.2).bind (fun x7 =>  (r_begin x7).bind (fun x8 => (fo_lp (r_play_L50) fo_FU ((0 : Int32), (0 : Int32), x8)).bind (fun y50 => (fo_lp (r_play_L114) fo_FU ((0 : Int32), y50.2.2)).bind (fun y114 => some (y50.1, fo_pJ (fo_pJ y114.2 0 0 3 (y114.2.2 0 0 25)) 0 0 4 ((fo_pJ y114.2 0 0 3 (y114.2.2 0 0 25)).2 0 0 26)))))))))
set_option maxHeartbeats 4000000 in
set_option maxRecDepth 100000 in
theorem b_r_play {p : Program} {l : Launch} {e : Env} {R : Room} {s : State} {m : MethodId} {args : Array Value} {below : List Frame} {meth : Method} {c : Code} {Q : State → Prop} {D : va_G} {ca : Nat → ClassId} {ad : Nat → Nat} (C0 : fr_CX p s m args c cX6_play 4 RX6 D ca ad) (hRf : 2 ≤ R.frames) (hRl : 53 ≤ R.locals) (hRc : 0 ≤ R.cells) {σ : fo_S}   {res : Int32 × fo_S} (h0 : r_play σ = some res) (kr : ∀ (pc : Nat) (ls : Array Slot) (H : Heap) (locs : List Loc), decode cX6_play pc = .ok (.ireturn, 1) → va_P D vwCl (fo_vx 25 ad (fr_ce ca ad res.2)) H → va_S (fo_A 25 ad s.heap.size) s.heap H locs → W p l e R s m args below meth c H locs 0 0 Q (F0 m pc ls [.int res.1])) (hP : va_P D vwCl (fo_vx 25 ad (fr_ce ca ad σ)) s.heap) : W p l e R s m args below meth c s.heap [] 0 0 Q (entryFrame m ([.ref (ad (fr_lay 0 0))] : List Value).toArray 4) := by
  obtain ⟨hx, hb, hml, hown, hT, hK, hD⟩ := C0
  have hN0 : (some res) ≠ none := fun q => by cases q
  unfold r_play at h0
  have hS : va_S (fo_A 25 ad s.heap.size) s.heap s.heap [] := va_S.rf
  have hl := lv_entry ([.ref (ad (fr_lay 0 0))]) (n := 4) (Nat.le_of_ble_eq_true rfl)
  rw [lg_entry_eq]
  generalize (lg_sl ([.ref (ad (fr_lay 0 0))]) ++ List.replicate (4 - (lg_sl ([.ref (ad (fr_lay 0 0))])).length) Slot.unset).toArray = ls at hl ⊢
  have hl : lv_has ls 4 [(0, .ref (ad (fr_lay 0 0)))] := hl
  refine lv_aload_n hx hb dX6_play_0 rfl (lv_at hl 0 rfl) ?_
  obtain ⟨x1, hx1, h0⟩ := fo_bd h0 hN0
  refine fo_calli (va_runV (H := _) (As := []) (rest := []) ⟨hx, hb, hml, hown, hT⟩ (c_r_mayPlay l D ca ad _ hx1) (fr_c6_191 hT ⟨Nat.le_trans (Nat.le_of_ble_eq_true rfl) hRf, Nat.le_trans (Nat.le_of_ble_eq_true rfl) hRl⟩) ⟨fo_Pre_blind, fr_rc0 hK hP (by decide), fo_Pre_at hP hK (hD _)⟩ rfl rfl hl.1 rfl (lv_room (Nat.le_of_ble_eq_true rfl)) dX6_play_1 ⟨Nat.zero_le _, Nat.zero_le _⟩) hS (fun H locs hP hS => ?_)
  refine lv_if_ne (tgt := 10) hx hb dX6_play_4 (by decide) (fun c2 => ?_) (fun c2 => ?_)
  · replace h0 := fo_itF c2 h0
    refine lv_iconst (v := 0) hx hb dX6_play_10 (by decide) ?_
    refine lv_istore_n (lv' := [(1, .int (0 : Int32)), (0, .ref (ad (fr_lay 0 0)))]) hx hb dX6_play_11 rfl hl (by decide) rfl (fun ls hl => ?_)
    obtain ⟨y12, hy12, h0⟩ := fo_bd h0 hN0
    have ex12 : ∀ (H : Heap) (locs : List Loc) (ls : Array Slot), va_P D vwCl (fo_vx 25 ad (fr_ce ca ad y12.2)) H → va_S (fo_A 25 ad s.heap.size) s.heap H locs → lv_has ls 4 [(0, .ref (ad (fr_lay 0 0)))] → W p l e R s m args below meth c H locs 0 0 Q (F0 m 38 ls []) := by
      intro H locs ls hP hS hl
      refine lv_aload_n hx hb dX6_play_38 rfl (lv_at hl 0 rfl) ?_
      obtain ⟨x7, hx7, h0⟩ := fo_bd h0 hN0
      refine fo_callv (va_runV (H := _) (As := []) (rest := []) ⟨hx, hb, hml, hown, hT⟩ (c_r_tryAll l D ca ad _ hx7) (fr_c6_194 hT ⟨Nat.le_trans (Nat.le_of_ble_eq_true rfl) hRf, Nat.le_trans (Nat.le_of_ble_eq_true rfl) hRl⟩) ⟨fo_Pre_blind, fr_rc0 hK hP (by decide), fo_Pre_at hP hK (hD _)⟩ rfl rfl hl.1 rfl (lv_room (Nat.le_of_ble_eq_true rfl)) dX6_play_39 ⟨Nat.zero_le _, Nat.zero_le _⟩) hS (fun H locs hP hS => ?_)
      refine lv_aload_n hx hb dX6_play_42 rfl (lv_at hl 0 rfl) ?_
      obtain ⟨x8, hx8, h0⟩ := fo_bd h0 hN0
      refine fo_callv (va_runV (H := _) (As := []) (rest := []) ⟨hx, hb, hml, hown, hT⟩ (c_r_begin l D ca ad _ hx8) (fr_c6_197 hT ⟨Nat.le_trans (Nat.le_of_ble_eq_true rfl) hRf, Nat.le_trans (Nat.le_of_ble_eq_true rfl) hRl⟩) ⟨fo_Pre_blind, fr_rc0 hK hP (by decide), fo_Pre_at hP hK (hD _)⟩ rfl rfl hl.1 rfl (lv_room (Nat.le_of_ble_eq_true rfl)) dX6_play_43 ⟨Nat.zero_le _, Nat.zero_le _⟩) hS (fun H locs hP hS => ?_)
      refine lv_iconst (v := 0) hx hb dX6_play_46 (by decide) ?_
      refine lv_istore_n (lv' := [(1, .int (0 : Int32)), (0, .ref (ad (fr_lay 0 0)))]) hx hb dX6_play_47 rfl hl (by decide) rfl (fun ls hl => ?_)
      refine lv_iconst (v := 0) hx hb dX6_play_48 (by decide) ?_
      refine lv_istore_n (lv' := [(2, .int (0 : Int32)), (1, .int (0 : Int32)), (0, .ref (ad (fr_lay 0 0)))]) hx hb dX6_play_49 rfl hl (by decide) rfl (fun ls hl => ?_)
      obtain ⟨y50, hy50, h0⟩ := fo_bd h0 hN0
      have ex50 : ∀ (H : Heap) (locs : List Loc) (ls : Array Slot), va_P D vwCl (fo_vx 25 ad (fr_ce ca ad y50.2.2)) H → va_S (fo_A 25 ad s.heap.size) s.heap H locs → lv_has ls 4 [(0, .ref (ad (fr_lay 0 0))), (1, .int y50.1)] → W p l e R s m args below meth c H locs 0 0 Q (F0 m 112 ls []) := by
        intro H locs ls hP hS hl
        refine lv_iconst (v := 0) hx hb dX6_play_112 (by decide) ?_
        refine lv_istore_n (lv' := [(2, .int (0 : Int32)), (0, .ref (ad (fr_lay 0 0))), (1, .int y50.1)]) hx hb dX6_play_113 rfl hl (by decide) rfl (fun ls hl => ?_)
        obtain ⟨y114, hy114, h0⟩ := fo_bd h0 hN0
        have ex114 : ∀ (H : Heap) (locs : List Loc) (ls : Array Slot), va_P D vwCl (fo_vx 25 ad (fr_ce ca ad y114.2)) H → va_S (fo_A 25 ad s.heap.size) s.heap H locs → lv_has ls 4 [(0, .ref (ad (fr_lay 0 0))), (1, .int y50.1)] → W p l e R s m args below meth c H locs 0 0 Q (F0 m 152 ls []) := by
          intro H locs ls hP hS hl
          refine lv_aload_n hx hb dX6_play_152 rfl (lv_at hl 0 rfl) ?_
          refine lv_aload_n hx hb dX6_play_153 rfl (lv_at hl 0 rfl) ?_
          refine fr_g6_182 hx hb hT hown hK hP (by decide) dX6_play_154 ?_
          refine fr_p6_105 hx hb hT hown hK hP hD hS (by decide) dX6_play_157 (fun H locs hP hS => ?_)
          refine lv_aload_n hx hb dX6_play_160 rfl (lv_at hl 0 rfl) ?_
          refine lv_aload_n hx hb dX6_play_161 rfl (lv_at hl 0 rfl) ?_
          refine fr_g6_185 hx hb hT hown hK hP (by decide) dX6_play_162 ?_
          refine fr_p6_109 hx hb hT hown hK hP hD hS (by decide) dX6_play_165 (fun H locs hP hS => ?_)
          refine lv_iload_n hx hb dX6_play_168 rfl (lv_at hl 1 rfl) ?_
          have hr24 := Option.some.inj h0
          subst hr24
          exact kr _ ls _ _ dX6_play_169 hP hS
        have lp114 := fo_lp_ind (fun (s114 : Int32 × fo_S) => ∀ (H : Heap) (locs : List Loc) (ls : Array Slot), va_P D vwCl (fo_vx 25 ad (fr_ce ca ad s114.2)) H → va_S (fo_A 25 ad s.heap.size) s.heap H locs → lv_has ls 4 [(0, .ref (ad (fr_lay 0 0))), (1, .int y50.1), (2, .int s114.1)] → W p l e R s m args below meth c H locs 0 0 Q (F0 m 114 ls [])) (by
            intro s114 o1 h1 hN1 hL1 hE1 H locs ls hP hS hl
            unfold r_play_L114 at h1
            refine lv_iload_n hx hb dX6_play_114 rfl (lv_at hl 2 rfl) ?_
            refine lv_aload_n hx hb dX6_play_115 rfl (lv_at hl 0 rfl) ?_
            refine fr_g6_102 hx hb hT hown hK hP (by decide) dX6_play_116 ?_
            refine lv_icmp_ge (tgt := 152) hx hb dX6_play_119 (by decide) (fun c18 => ?_) (fun c18 => ?_)
            · replace h1 := fo_itT c18 h1
              have hy19 := hE1 _ h1
              subst hy19
              exact ex114 _ _ ls hP hS (lv_sub hl [0, 1] rfl)
            · replace h1 := fo_itF c18 h1
              refine lv_aload_n hx hb dX6_play_122 rfl (lv_at hl 0 rfl) ?_
              refine fr_g6_7 hx hb hT hown hK hP (by decide) dX6_play_123 ?_
              refine lv_iload_n hx hb dX6_play_126 rfl (lv_at hl 2 rfl) ?_
              refine lv_aload_n hx hb dX6_play_127 rfl (lv_at hl 0 rfl) ?_
              refine fr_g6_58 hx hb hT hown hK hP (by decide) dX6_play_128 ?_
              refine lv_iload_n hx hb dX6_play_131 rfl (lv_at hl 2 rfl) ?_
              obtain ⟨g20, h1⟩ := fo_gd h1 hN1
              refine fr_lald (k := 15) (n := 8) hx hb hK hP (by decide) (by decide) (fun _ _ => rfl) g20 dX6_play_132 ?_
              obtain ⟨g21, h1⟩ := fo_gd h1 hN1
              refine fr_last (k := 1) (n := 8) hx hb hK hP hD hS (by decide) (by decide) (fun _ _ => rfl) g21 dX6_play_133 (fun H locs hP hS => ?_)
              refine lv_aload_n hx hb dX6_play_134 rfl (lv_at hl 0 rfl) ?_
              refine fr_g6_13 hx hb hT hown hK hP (by decide) dX6_play_135 ?_
              refine lv_iload_n hx hb dX6_play_138 rfl (lv_at hl 2 rfl) ?_
              refine lv_aload_n hx hb dX6_play_139 rfl (lv_at hl 0 rfl) ?_
              refine fr_g6_61 hx hb hT hown hK hP (by decide) dX6_play_140 ?_
              refine lv_iload_n hx hb dX6_play_143 rfl (lv_at hl 2 rfl) ?_
              obtain ⟨g22, h1⟩ := fo_gd h1 hN1
              refine fr_lald (k := 16) (n := 8) hx hb hK hP (by decide) (by decide) (fun _ _ => rfl) g22 dX6_play_144 ?_
              obtain ⟨g23, h1⟩ := fo_gd h1 hN1
              refine fr_last (k := 2) (n := 8) hx hb hK hP hD hS (by decide) (by decide) (fun _ _ => rfl) g23 dX6_play_145 (fun H locs hP hS => ?_)
              refine lv_iinc (v := s114.1 + (1 : Int32)) (lv' := [(2, .int (s114.1 + (1 : Int32))), (0, .ref (ad (fr_lay 0 0))), (1, .int y50.1)]) hx hb dX6_play_146 hl (k := 2) rfl rfl (by decide) rfl (fun ls hl => ?_)
              refine lv_goto (tgt := 114) hx hb dX6_play_149 (by decide) ?_
              exact hL1 _ h1 _ _ ls hP hS (lv_sub hl [1, 2, 0] rfl)) _ _ hy114
        exact lp114 _ _ ls hP hS (lv_sub hl [1, 2, 0] rfl)
      have lp50 := fo_lp_ind (fun (s50 : Int32 × Int32 × fo_S) => ∀ (H : Heap) (locs : List Loc) (ls : Array Slot), va_P D vwCl (fo_vx 25 ad (fr_ce ca ad s50.2.2)) H → va_S (fo_A 25 ad s.heap.size) s.heap H locs → lv_has ls 4 [(0, .ref (ad (fr_lay 0 0))), (1, .int s50.1), (2, .int s50.2.1)] → W p l e R s m args below meth c H locs 0 0 Q (F0 m 50 ls [])) (by
          intro s50 o1 h1 hN1 hL1 hE1 H locs ls hP hS hl
          unfold r_play_L50 at h1
          refine lv_iload_n hx hb dX6_play_50 rfl (lv_at hl 2 rfl) ?_
          refine lv_aload_n hx hb dX6_play_51 rfl (lv_at hl 0 rfl) ?_
          refine fr_g6_42 hx hb hT hown hK hP (by decide) dX6_play_52 ?_
          refine lv_icmp_ge (tgt := 112) hx hb dX6_play_55 (by decide) (fun c9 => ?_) (fun c9 => ?_)
          · replace h1 := fo_itT c9 h1
            have hy10 := hE1 _ h1
            subst hy10
            exact ex50 _ _ ls hP hS (lv_sub hl [0, 1] rfl)
          · replace h1 := fo_itF c9 h1
            refine lv_aload_n hx hb dX6_play_58 rfl (lv_at hl 0 rfl) ?_
            refine fr_g6_46 hx hb hT hown hK hP (by decide) dX6_play_59 ?_
            refine lv_iload_n hx hb dX6_play_62 rfl (lv_at hl 2 rfl) ?_
            obtain ⟨g11, h1⟩ := fo_gd h1 hN1
            refine fr_iald (k := 11) (n := 16) hx hb hK hP (by decide) (by decide) (fun _ _ => rfl) g11 dX6_play_63 ?_
            refine lv_istore_n (lv' := [(3, .int (s50.2.2.1 11 0 s50.2.1.toNatClampNeg)), (0, .ref (ad (fr_lay 0 0))), (1, .int s50.1), (2, .int s50.2.1)]) hx hb dX6_play_64 rfl hl (by decide) rfl (fun ls hl => ?_)
            refine lv_aload_n hx hb dX6_play_65 rfl (lv_at hl 1 rfl) ?_
            refine fr_g6_49 hx hb hT hown hK hP (by decide) dX6_play_66 ?_
            refine lv_iload_n hx hb dX6_play_69 rfl (lv_at hl 0 rfl) ?_
            refine lv_aload_n hx hb dX6_play_70 rfl (lv_at hl 1 rfl) ?_
            refine fr_g6_64 hx hb hT hown hK hP (by decide) dX6_play_71 ?_
            refine lv_iload_n hx hb dX6_play_74 rfl (lv_at hl 0 rfl) ?_
            obtain ⟨g12, h1⟩ := fo_gd h1 hN1
            refine fr_iald (k := 17) (n := 16) hx hb hK hP (by decide) (by decide) (fun _ _ => rfl) g12 dX6_play_75 ?_
            obtain ⟨g13, h1⟩ := fo_gd h1 hN1
            refine fr_iast (k := 12) (n := 16) hx hb hK hP hD hS (by decide) (by decide) (fun _ _ => rfl) g13 dX6_play_76 (fun H locs hP hS => ?_)
            refine lv_aload_n hx hb dX6_play_77 rfl (lv_at hl 1 rfl) ?_
            refine fr_g6_52 hx hb hT hown hK hP (by decide) dX6_play_78 ?_
            refine lv_iload_n hx hb dX6_play_81 rfl (lv_at hl 0 rfl) ?_
            refine lv_aload_n hx hb dX6_play_82 rfl (lv_at hl 1 rfl) ?_
            refine fr_g6_67 hx hb hT hown hK hP (by decide) dX6_play_83 ?_
            refine lv_iload_n hx hb dX6_play_86 rfl (lv_at hl 0 rfl) ?_
            obtain ⟨g14, h1⟩ := fo_gd h1 hN1
            refine fr_lald (k := 18) (n := 16) hx hb hK hP (by decide) (by decide) (fun _ _ => rfl) g14 dX6_play_87 ?_
            obtain ⟨g15, h1⟩ := fo_gd h1 hN1
            refine fr_last (k := 13) (n := 16) hx hb hK hP hD hS (by decide) (by decide) (fun _ _ => rfl) g15 dX6_play_88 (fun H locs hP hS => ?_)
            refine lv_iload_n hx hb dX6_play_89 rfl (lv_at hl 2 rfl) ?_
            refine lv_aload_n hx hb dX6_play_90 rfl (lv_at hl 1 rfl) ?_
            refine fr_g6_49 hx hb hT hown hK hP (by decide) dX6_play_91 ?_
            refine lv_iload_n hx hb dX6_play_94 rfl (lv_at hl 0 rfl) ?_
            obtain ⟨g16, h1⟩ := fo_gd h1 hN1
            refine fr_iald (k := 12) (n := 16) hx hb hK hP (by decide) (by decide) (fun _ _ => rfl) g16 dX6_play_95 ?_
            refine lv_if_le (tgt := 103) hx hb dX6_play_96 (by decide) (fun c17 => ?_) (fun c17 => ?_)
            · replace h1 := fo_itT c17 h1
              refine lv_iconst (v := 0) hx hb dX6_play_103 (by decide) ?_
              refine lv_iadd hx hb dX6_play_104 ?_
              refine lv_istore_n (lv' := [(1, .int (s50.1 + (0 : Int32))), (3, .int (s50.2.2.1 11 0 s50.2.1.toNatClampNeg)), (0, .ref (ad (fr_lay 0 0))), (2, .int s50.2.1)]) hx hb dX6_play_105 rfl hl (by decide) rfl (fun ls hl => ?_)
              refine lv_iinc (v := s50.2.1 + (1 : Int32)) (lv' := [(2, .int (s50.2.1 + (1 : Int32))), (1, .int (s50.1 + (0 : Int32))), (3, .int (s50.2.2.1 11 0 s50.2.1.toNatClampNeg)), (0, .ref (ad (fr_lay 0 0)))]) hx hb dX6_play_106 hl (k := 3) rfl rfl (by decide) rfl (fun ls hl => ?_)
              refine lv_goto (tgt := 50) hx hb dX6_play_109 (by decide) ?_
              exact hL1 _ h1 _ _ ls hP hS (lv_sub hl [3, 1, 0] rfl)
            · replace h1 := fo_itF c17 h1
              refine lv_iconst (v := 1) hx hb dX6_play_99 (by decide) ?_
              refine lv_goto (tgt := 104) hx hb dX6_play_100 (by decide) ?_
              refine lv_iadd hx hb dX6_play_104 ?_
              refine lv_istore_n (lv' := [(1, .int (s50.1 + (1 : Int32))), (3, .int (s50.2.2.1 11 0 s50.2.1.toNatClampNeg)), (0, .ref (ad (fr_lay 0 0))), (2, .int s50.2.1)]) hx hb dX6_play_105 rfl hl (by decide) rfl (fun ls hl => ?_)
              refine lv_iinc (v := s50.2.1 + (1 : Int32)) (lv' := [(2, .int (s50.2.1 + (1 : Int32))), (1, .int (s50.1 + (1 : Int32))), (3, .int (s50.2.2.1 11 0 s50.2.1.toNatClampNeg)), (0, .ref (ad (fr_lay 0 0)))]) hx hb dX6_play_106 hl (k := 3) rfl rfl (by decide) rfl (fun ls hl => ?_)
              refine lv_goto (tgt := 50) hx hb dX6_play_109 (by decide) ?_
              exact hL1 _ h1 _ _ ls hP hS (lv_sub hl [3, 1, 0] rfl)) _ _ hy50
      exact lp50 _ _ ls hP hS (lv_sub hl [2, 1, 0] rfl)
    have lp12 := fo_lp_ind (fun (s12 : Int32 × fo_S) => ∀ (H : Heap) (locs : List Loc) (ls : Array Slot), va_P D vwCl (fo_vx 25 ad (fr_ce ca ad s12.2)) H → va_S (fo_A 25 ad s.heap.size) s.heap H locs → lv_has ls 4 [(0, .ref (ad (fr_lay 0 0))), (1, .int s12.1)] → W p l e R s m args below meth c H locs 0 0 Q (F0 m 12 ls [])) (by
        intro s12 o1 h1 hN1 hL1 hE1 H locs ls hP hS hl
        unfold r_play_L12 at h1
        refine lv_iload_n hx hb dX6_play_12 rfl (lv_at hl 1 rfl) ?_
        refine lv_aload_n hx hb dX6_play_13 rfl (lv_at hl 0 rfl) ?_
        refine fr_g6_42 hx hb hT hown hK hP (by decide) dX6_play_14 ?_
        refine lv_icmp_ge (tgt := 38) hx hb dX6_play_17 (by decide) (fun c3 => ?_) (fun c3 => ?_)
        · replace h1 := fo_itT c3 h1
          have hy4 := hE1 _ h1
          subst hy4
          exact ex12 _ _ ls hP hS (lv_sub hl [0] rfl)
        · replace h1 := fo_itF c3 h1
          refine lv_aload_n hx hb dX6_play_20 rfl (lv_at hl 0 rfl) ?_
          refine fr_g6_55 hx hb hT hown hK hP (by decide) dX6_play_21 ?_
          refine lv_iload_n hx hb dX6_play_24 rfl (lv_at hl 1 rfl) ?_
          refine lv_aload_n hx hb dX6_play_25 rfl (lv_at hl 0 rfl) ?_
          refine fr_g6_46 hx hb hT hown hK hP (by decide) dX6_play_26 ?_
          refine lv_iload_n hx hb dX6_play_29 rfl (lv_at hl 1 rfl) ?_
          obtain ⟨g5, h1⟩ := fo_gd h1 hN1
          refine fr_iald (k := 11) (n := 16) hx hb hK hP (by decide) (by decide) (fun _ _ => rfl) g5 dX6_play_30 ?_
          obtain ⟨g6, h1⟩ := fo_gd h1 hN1
          refine fr_iast (k := 14) (n := 16) hx hb hK hP hD hS (by decide) (by decide) (fun _ _ => rfl) g6 dX6_play_31 (fun H locs hP hS => ?_)
          refine lv_iinc (v := s12.1 + (1 : Int32)) (lv' := [(1, .int (s12.1 + (1 : Int32))), (0, .ref (ad (fr_lay 0 0)))]) hx hb dX6_play_32 hl (k := 1) rfl rfl (by decide) rfl (fun ls hl => ?_)
          refine lv_goto (tgt := 12) hx hb dX6_play_35 (by decide) ?_
          exact hL1 _ h1 _ _ ls hP hS (lv_sub hl [1, 0] rfl)) _ _ hy12
    exact lp12 _ _ ls hP hS (lv_sub hl [1, 0] rfl)
  · replace h0 := fo_itT c2 h0
    refine lv_bipush (v := -4) hx hb dX6_play_7 (by decide) ?_
    have hr25 := Option.some.inj h0
    subst hr25
    exact kr _ ls _ _ dX6_play_9 hP hS
theorem c_r_play (l : Launch) (D : va_G) (ca : Nat → ClassId) (ad : Nat → Nat) (sz : Nat) {σ : fo_S}   {res : Int32 × fo_S} (h0 : r_play σ = some res) : Met l yX6_play ws_r_play rm_r_play (fo_Pre 25 D vwCl (fr_tys ca) ad (fr_ce ca ad σ) sz [.ref (ad (fr_lay 0 0))]) (fo_PoI 25 D vwCl (fr_tys ca) ad (fr_ce ca ad res.2) sz res.1) 0 0 (fo_A 25 ad sz) :=
  fr_mkI (by decide) (fun C0 kr hP => b_r_play C0 (Nat.le_refl _) (Nat.le_refl _) (Nat.zero_le _)  h0 kr hP)
