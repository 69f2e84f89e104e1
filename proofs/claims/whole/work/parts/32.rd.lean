def r_fair_L2  (s2 : Int32 × fo_S) : Option ((Int32 × fo_S) ⊕ (Int32 × fo_S)) :=
  if (s2.2.1 0 0 8) ≤ s2.1 then (some (.inr (s2.1, s2.2))) else (if fo_vi s2.1 16 then ( if fo_vi s2.1 16 then (some (.inl (s2.1 + (1 : Int32), fo_pI s2.2 20 0 s2.1.toNatClampNeg (vp_nar .boolean (s2.2.1 6 0 s2.1.toNatClampNeg))))) else none) else none)
def r_fair_L42  (s42 : Int32 × Int32 × fo_S) : Option ((Int32 × Int32 × fo_S) ⊕ (Int32 × Int32 × fo_S)) :=
  if s42.2.1 = 0 then (if fo_vi s42.1 16 then (if (s42.2.2.1 20 0 s42.1.toNatClampNeg) = 0 then (some (.inl (s42.1 + (1 : Int32), s42.2.1, s42.2.2))) else ((r_tie s42.2.2 s42.1).bind (fun x11 =>  (r_isHeld x11).bind (fun x12 => if x12.1 = 0 then (some (.inl (s42.1 + (1 : Int32), (1 : Int32), x12.2))) else (some (.inl (s42.1 + (1 : Int32), (0 : Int32), x12.2))))))) else none) else (some (.inr (s42.1, s42.2.1, s42.2.2)))
def r_fair_L82  (s82 : Int32 × Int32 × fo_S) : Option ((Int32 × Int32 × fo_S) ⊕ (Int32 × Int32 × fo_S)) :=
  if (s82.2.2.1 0 0 8) ≤ s82.2.1 then (some (.inr (s82.1, s82.2.1, s82.2.2))) else (if fo_vi s82.2.1 16 then (if (s82.2.2.1 21 0 s82.2.1.toNatClampNeg) = 0 then (some (.inl (s82.1, s82.2.1 + (1 : Int32), s82.2.2))) else (if fo_vi s82.1 16 then ( if fo_vi s82.2.1 16 then (some (.inl (s82.1 + (1 : Int32), s82.2.1 + (1 : Int32), fo_pI (fo_pI s82.2.2 11 0 s82.1.toNatClampNeg s82.2.1) 20 0 s82.2.1.toNatClampNeg (vp_nar .boolean (0 : Int32))))) else none) else none)) else none)
def r_fair_L30  (s30 : Int32 × fo_S) : Option ((Int32 × fo_S) ⊕ (Int32 × fo_S)) :=
  if (s30.2.1 0 0 17) ≤ s30.1 then (some (.inr (s30.1, s30.2))) else ((fo_lp (r_fair_L42) fo_FU ((0 : Int32), (0 : Int32), s30.2)).bind (fun y42 => (fo_lp (r_fair_L82) fo_FU (s30.1, (0 : Int32), y42.2.2)).bind (fun y82 => some (.inl (y82.1, y82.2.2)))))
def r_fair (σ : fo_S)  : Option (fo_S) :=
  (fo_lp (r_fair_L2) fo_FU ((0 : Int32), σ)).bind (fun y2 => (fo_lp (r_fair_L30) fo_FU ((0 : Int32), y2.2)).bind (fun y30 => some y30.2))
set_option maxHeartbeats 4000000 in
set_option maxRecDepth 100000 in
theorem b_r_fair {p : Program} {l : Launch} {e : Env} {R : Room} {s : State} {m : MethodId} {args : Array Value} {below : List Frame} {meth : Method} {c : Code} {Q : State → Prop} {D : va_G} {ca : Nat → ClassId} {ad : Nat → Nat} (C0 : fr_CX p s m args c cX6_fair 5 RX6 D ca ad) (hRf : 3 ≤ R.frames) (hRl : 73 ≤ R.locals) (hRc : 0 ≤ R.cells) {σ : fo_S}   {res : fo_S} (h0 : r_fair σ = some res) (kr : ∀ (pc : Nat) (ls : Array Slot) (H : Heap) (locs : List Loc), decode cX6_fair pc = .ok (.return_, 1) → va_P D vwCl (fo_vx 25 ad (fr_ce ca ad res)) H → va_S (fo_A 25 ad s.heap.size) s.heap H locs → W p l e R s m args below meth c H locs 0 0 Q (F0 m pc ls [])) (hP : va_P D vwCl (fo_vx 25 ad (fr_ce ca ad σ)) s.heap) : W p l e R s m args below meth c s.heap [] 0 0 Q (entryFrame m ([.ref (ad (fr_lay 0 0))] : List Value).toArray 5) := by
  obtain ⟨hx, hb, hml, hown, hT, hK, hD⟩ := C0
  have hN0 : (some res) ≠ none := fun q => by cases q
  unfold r_fair at h0
  have hS : va_S (fo_A 25 ad s.heap.size) s.heap s.heap [] := va_S.rf
  have hl := lv_entry ([.ref (ad (fr_lay 0 0))]) (n := 5) (Nat.le_of_ble_eq_true rfl)
  rw [lg_entry_eq]
  generalize (lg_sl ([.ref (ad (fr_lay 0 0))]) ++ List.replicate (5 - (lg_sl ([.ref (ad (fr_lay 0 0))])).length) Slot.unset).toArray = ls at hl ⊢
  have hl : lv_has ls 5 [(0, .ref (ad (fr_lay 0 0)))] := hl
  refine lv_iconst (v := 0) hx hb dX6_fair_0 (by decide) ?_
  refine lv_istore_n (lv' := [(1, .int (0 : Int32)), (0, .ref (ad (fr_lay 0 0)))]) hx hb dX6_fair_1 rfl hl (by decide) rfl (fun ls hl => ?_)
  obtain ⟨y2, hy2, h0⟩ := fo_bd h0 hN0
  have ex2 : ∀ (H : Heap) (locs : List Loc) (ls : Array Slot), va_P D vwCl (fo_vx 25 ad (fr_ce ca ad y2.2)) H → va_S (fo_A 25 ad s.heap.size) s.heap H locs → lv_has ls 5 [(0, .ref (ad (fr_lay 0 0)))] → W p l e R s m args below meth c H locs 0 0 Q (F0 m 28 ls []) := by
    intro H locs ls hP hS hl
    refine lv_iconst (v := 0) hx hb dX6_fair_28 (by decide) ?_
    refine lv_istore_n (lv' := [(1, .int (0 : Int32)), (0, .ref (ad (fr_lay 0 0)))]) hx hb dX6_fair_29 rfl hl (by decide) rfl (fun ls hl => ?_)
    obtain ⟨y30, hy30, h0⟩ := fo_bd h0 hN0
    have ex30 : ∀ (H : Heap) (locs : List Loc) (ls : Array Slot), va_P D vwCl (fo_vx 25 ad (fr_ce ca ad y30.2)) H → va_S (fo_A 25 ad s.heap.size) s.heap H locs → lv_has ls 5 [] → W p l e R s m args below meth c H locs 0 0 Q (F0 m 129 ls []) := by
      intro H locs ls hP hS hl
      have hr20 := Option.some.inj h0
      subst hr20
      exact kr _ ls _ _ dX6_fair_129 hP hS
    have lp30 := fo_lp_ind (fun (s30 : Int32 × fo_S) => ∀ (H : Heap) (locs : List Loc) (ls : Array Slot), va_P D vwCl (fo_vx 25 ad (fr_ce ca ad s30.2)) H → va_S (fo_A 25 ad s.heap.size) s.heap H locs → lv_has ls 5 [(0, .ref (ad (fr_lay 0 0))), (1, .int s30.1)] → W p l e R s m args below meth c H locs 0 0 Q (F0 m 30 ls [])) (by
        intro s30 o1 h1 hN1 hL1 hE1 H locs ls hP hS hl
        unfold r_fair_L30 at h1
        refine lv_iload_n hx hb dX6_fair_30 rfl (lv_at hl 1 rfl) ?_
        refine lv_aload_n hx hb dX6_fair_31 rfl (lv_at hl 0 rfl) ?_
        refine fr_g6_42 hx hb hT hown hK hP (by decide) dX6_fair_32 ?_
        refine lv_icmp_ge (tgt := 129) hx hb dX6_fair_35 (by decide) (fun c5 => ?_) (fun c5 => ?_)
        · replace h1 := fo_itT c5 h1
          have hy6 := hE1 _ h1
          subst hy6
          exact ex30 _ _ ls hP hS (lv_sub hl [] rfl)
        · replace h1 := fo_itF c5 h1
          refine lv_iconst (v := 0) hx hb dX6_fair_38 (by decide) ?_
          refine lv_istore_n (lv' := [(2, .int (0 : Int32)), (0, .ref (ad (fr_lay 0 0))), (1, .int s30.1)]) hx hb dX6_fair_39 rfl hl (by decide) rfl (fun ls hl => ?_)
          refine lv_iconst (v := 0) hx hb dX6_fair_40 (by decide) ?_
          refine lv_istore_n (lv' := [(3, .int (0 : Int32)), (2, .int (0 : Int32)), (0, .ref (ad (fr_lay 0 0))), (1, .int s30.1)]) hx hb dX6_fair_41 rfl hl (by decide) rfl (fun ls hl => ?_)
          obtain ⟨y42, hy42, h1⟩ := fo_bd h1 hN1
          have ex42 : ∀ (H : Heap) (locs : List Loc) (ls : Array Slot), va_P D vwCl (fo_vx 25 ad (fr_ce ca ad y42.2.2)) H → va_S (fo_A 25 ad s.heap.size) s.heap H locs → lv_has ls 5 [(0, .ref (ad (fr_lay 0 0))), (1, .int s30.1)] → W p l e R s m args below meth c H locs 0 0 Q (F0 m 79 ls []) := by
            intro H locs ls hP hS hl
            refine lv_iconst (v := 0) hx hb dX6_fair_79 (by decide) ?_
            refine lv_istore (lv' := [(4, .int (0 : Int32)), (0, .ref (ad (fr_lay 0 0))), (1, .int s30.1)]) hx hb dX6_fair_80 hl (by decide) rfl (fun ls hl => ?_)
            obtain ⟨y82, hy82, h1⟩ := fo_bd h1 hN1
            have ex82 : ∀ (H : Heap) (locs : List Loc) (ls : Array Slot), va_P D vwCl (fo_vx 25 ad (fr_ce ca ad y82.2.2)) H → va_S (fo_A 25 ad s.heap.size) s.heap H locs → lv_has ls 5 [(0, .ref (ad (fr_lay 0 0))), (1, .int y82.1)] → W p l e R s m args below meth c H locs 0 0 Q (F0 m 126 ls []) := by
              intro H locs ls hP hS hl
              refine lv_goto (tgt := 30) hx hb dX6_fair_126 (by decide) ?_
              exact hL1 _ h1 _ _ ls hP hS (lv_sub hl [0, 1] rfl)
            have lp82 := fo_lp_ind (fun (s82 : Int32 × Int32 × fo_S) => ∀ (H : Heap) (locs : List Loc) (ls : Array Slot), va_P D vwCl (fo_vx 25 ad (fr_ce ca ad s82.2.2)) H → va_S (fo_A 25 ad s.heap.size) s.heap H locs → lv_has ls 5 [(0, .ref (ad (fr_lay 0 0))), (1, .int s82.1), (4, .int s82.2.1)] → W p l e R s m args below meth c H locs 0 0 Q (F0 m 82 ls [])) (by
                intro s82 o2 h2 hN2 hL2 hE2 H locs ls hP hS hl
                unfold r_fair_L82 at h2
                refine lv_iload hx hb dX6_fair_82 (lv_at hl 2 rfl) ?_
                refine lv_aload_n hx hb dX6_fair_84 rfl (lv_at hl 0 rfl) ?_
                refine fr_g6_88 hx hb hT hown hK hP (by decide) dX6_fair_85 ?_
                refine lv_icmp_ge (tgt := 126) hx hb dX6_fair_88 (by decide) (fun c14 => ?_) (fun c14 => ?_)
                · replace h2 := fo_itT c14 h2
                  have hy15 := hE2 _ h2
                  subst hy15
                  exact ex82 _ _ ls hP hS (lv_sub hl [0, 1] rfl)
                · replace h2 := fo_itF c14 h2
                  refine lv_aload_n hx hb dX6_fair_91 rfl (lv_at hl 0 rfl) ?_
                  refine fr_g6_76 hx hb hT hown hK hP (by decide) dX6_fair_92 ?_
                  refine lv_iload hx hb dX6_fair_95 (lv_at hl 2 rfl) ?_
                  obtain ⟨g16, h2⟩ := fo_gd h2 hN2
                  refine fr_zald (k := 21) (n := 16) hx hb hK hP (by decide) (by decide) (fun _ _ => rfl) g16 dX6_fair_97 ?_
                  refine lv_if_eq (tgt := 120) hx hb dX6_fair_98 (by decide) (fun c17 => ?_) (fun c17 => ?_)
                  · replace h2 := fo_itT c17 h2
                    refine lv_iinc (v := s82.2.1 + (1 : Int32)) (lv' := [(4, .int (s82.2.1 + (1 : Int32))), (0, .ref (ad (fr_lay 0 0))), (1, .int s82.1)]) hx hb dX6_fair_120 hl (k := 2) rfl rfl (by decide) rfl (fun ls hl => ?_)
                    refine lv_goto (tgt := 82) hx hb dX6_fair_123 (by decide) ?_
                    exact hL2 _ h2 _ _ ls hP hS (lv_sub hl [1, 2, 0] rfl)
                  · replace h2 := fo_itF c17 h2
                    refine lv_aload_n hx hb dX6_fair_101 rfl (lv_at hl 0 rfl) ?_
                    refine fr_g6_46 hx hb hT hown hK hP (by decide) dX6_fair_102 ?_
                    refine lv_iload_n hx hb dX6_fair_105 rfl (lv_at hl 1 rfl) ?_
                    refine lv_iload hx hb dX6_fair_106 (lv_at hl 2 rfl) ?_
                    obtain ⟨g18, h2⟩ := fo_gd h2 hN2
                    refine fr_iast (k := 11) (n := 16) hx hb hK hP hD hS (by decide) (by decide) (fun _ _ => rfl) g18 dX6_fair_108 (fun H locs hP hS => ?_)
                    refine lv_iinc (v := s82.1 + (1 : Int32)) (lv' := [(1, .int (s82.1 + (1 : Int32))), (0, .ref (ad (fr_lay 0 0))), (4, .int s82.2.1)]) hx hb dX6_fair_109 hl (k := 1) rfl rfl (by decide) rfl (fun ls hl => ?_)
                    refine lv_aload_n hx hb dX6_fair_112 rfl (lv_at hl 1 rfl) ?_
                    refine fr_g6_73 hx hb hT hown hK hP (by decide) dX6_fair_113 ?_
                    refine lv_iload hx hb dX6_fair_116 (lv_at hl 2 rfl) ?_
                    refine lv_iconst (v := 0) hx hb dX6_fair_118 (by decide) ?_
                    obtain ⟨g19, h2⟩ := fo_gd h2 hN2
                    refine fr_zast (k := 20) (n := 16) hx hb hK hP hD hS (by decide) (by decide) (fun _ _ => rfl) g19 dX6_fair_119 (fun H locs hP hS => ?_)
                    refine lv_iinc (v := s82.2.1 + (1 : Int32)) (lv' := [(4, .int (s82.2.1 + (1 : Int32))), (1, .int (s82.1 + (1 : Int32))), (0, .ref (ad (fr_lay 0 0)))]) hx hb dX6_fair_120 hl (k := 2) rfl rfl (by decide) rfl (fun ls hl => ?_)
                    refine lv_goto (tgt := 82) hx hb dX6_fair_123 (by decide) ?_
                    exact hL2 _ h2 _ _ ls hP hS (lv_sub hl [2, 1, 0] rfl)) _ _ hy82
            exact lp82 _ _ ls hP hS (lv_sub hl [1, 2, 0] rfl)
          have lp42 := fo_lp_ind (fun (s42 : Int32 × Int32 × fo_S) => ∀ (H : Heap) (locs : List Loc) (ls : Array Slot), va_P D vwCl (fo_vx 25 ad (fr_ce ca ad s42.2.2)) H → va_S (fo_A 25 ad s.heap.size) s.heap H locs → lv_has ls 5 [(0, .ref (ad (fr_lay 0 0))), (1, .int s30.1), (2, .int s42.1), (3, .int s42.2.1)] → W p l e R s m args below meth c H locs 0 0 Q (F0 m 42 ls [])) (by
              intro s42 o2 h2 hN2 hL2 hE2 H locs ls hP hS hl
              unfold r_fair_L42 at h2
              refine lv_iload_n hx hb dX6_fair_42 rfl (lv_at hl 3 rfl) ?_
              refine lv_if_ne (tgt := 79) hx hb dX6_fair_43 (by decide) (fun c7 => ?_) (fun c7 => ?_)
              · replace h2 := fo_itF c7 h2
                have hy8 := hE2 _ h2
                subst hy8
                exact ex42 _ _ ls hP hS (lv_sub hl [0, 1] rfl)
              · replace h2 := fo_itT c7 h2
                refine lv_aload_n hx hb dX6_fair_46 rfl (lv_at hl 0 rfl) ?_
                refine fr_g6_73 hx hb hT hown hK hP (by decide) dX6_fair_47 ?_
                refine lv_iload_n hx hb dX6_fair_50 rfl (lv_at hl 2 rfl) ?_
                obtain ⟨g9, h2⟩ := fo_gd h2 hN2
                refine fr_zald (k := 20) (n := 16) hx hb hK hP (by decide) (by decide) (fun _ _ => rfl) g9 dX6_fair_51 ?_
                refine lv_if_eq (tgt := 73) hx hb dX6_fair_52 (by decide) (fun c10 => ?_) (fun c10 => ?_)
                · replace h2 := fo_itT c10 h2
                  refine lv_iinc (v := s42.1 + (1 : Int32)) (lv' := [(2, .int (s42.1 + (1 : Int32))), (0, .ref (ad (fr_lay 0 0))), (1, .int s30.1), (3, .int s42.2.1)]) hx hb dX6_fair_73 hl (k := 2) rfl rfl (by decide) rfl (fun ls hl => ?_)
                  refine lv_goto (tgt := 42) hx hb dX6_fair_76 (by decide) ?_
                  exact hL2 _ h2 _ _ ls hP hS (lv_sub hl [1, 2, 0, 3] rfl)
                · replace h2 := fo_itF c10 h2
                  refine lv_aload_n hx hb dX6_fair_55 rfl (lv_at hl 0 rfl) ?_
                  refine lv_iload_n hx hb dX6_fair_56 rfl (lv_at hl 2 rfl) ?_
                  obtain ⟨x11, hx11, h2⟩ := fo_bd h2 hN2
                  refine fo_callv (va_runV (H := _) (As := [.int s42.1]) (rest := []) ⟨hx, hb, hml, hown, hT⟩ (c_r_tie l D ca ad _ hx11) (fr_c6_157 hT ⟨Nat.le_trans (Nat.le_of_ble_eq_true rfl) hRf, Nat.le_trans (Nat.le_of_ble_eq_true rfl) hRl⟩) ⟨fo_Pre_blind, fr_rc0 hK hP (by decide), fo_Pre_at hP hK (hD _)⟩ rfl rfl hl.1 rfl (lv_room (Nat.le_of_ble_eq_true rfl)) dX6_fair_57 ⟨Nat.zero_le _, Nat.zero_le _⟩) hS (fun H locs hP hS => ?_)
                  refine lv_aload_n hx hb dX6_fair_60 rfl (lv_at hl 0 rfl) ?_
                  obtain ⟨x12, hx12, h2⟩ := fo_bd h2 hN2
                  refine fo_calli (va_runV (H := _) (As := []) (rest := []) ⟨hx, hb, hml, hown, hT⟩ (c_r_isHeld l D ca ad _ hx12) (fr_c6_161 hT ⟨Nat.le_trans (Nat.le_of_ble_eq_true rfl) hRf, Nat.le_trans (Nat.le_of_ble_eq_true rfl) hRl⟩) ⟨fo_Pre_blind, fr_rc0 hK hP (by decide), fo_Pre_at hP hK (hD _)⟩ rfl rfl hl.1 rfl (lv_room (Nat.le_of_ble_eq_true rfl)) dX6_fair_61 ⟨Nat.zero_le _, Nat.zero_le _⟩) hS (fun H locs hP hS => ?_)
                  refine lv_if_ne (tgt := 71) hx hb dX6_fair_64 (by decide) (fun c13 => ?_) (fun c13 => ?_)
                  · replace h2 := fo_itF c13 h2
                    refine lv_iconst (v := 0) hx hb dX6_fair_71 (by decide) ?_
                    refine lv_istore_n (lv' := [(3, .int (0 : Int32)), (0, .ref (ad (fr_lay 0 0))), (1, .int s30.1), (2, .int s42.1)]) hx hb dX6_fair_72 rfl hl (by decide) rfl (fun ls hl => ?_)
                    refine lv_iinc (v := s42.1 + (1 : Int32)) (lv' := [(2, .int (s42.1 + (1 : Int32))), (3, .int (0 : Int32)), (0, .ref (ad (fr_lay 0 0))), (1, .int s30.1)]) hx hb dX6_fair_73 hl (k := 3) rfl rfl (by decide) rfl (fun ls hl => ?_)
                    refine lv_goto (tgt := 42) hx hb dX6_fair_76 (by decide) ?_
                    exact hL2 _ h2 _ _ ls hP hS (lv_sub hl [2, 3, 0, 1] rfl)
                  · replace h2 := fo_itT c13 h2
                    refine lv_iconst (v := 1) hx hb dX6_fair_67 (by decide) ?_
                    refine lv_goto (tgt := 72) hx hb dX6_fair_68 (by decide) ?_
                    refine lv_istore_n (lv' := [(3, .int (1 : Int32)), (0, .ref (ad (fr_lay 0 0))), (1, .int s30.1), (2, .int s42.1)]) hx hb dX6_fair_72 rfl hl (by decide) rfl (fun ls hl => ?_)
                    refine lv_iinc (v := s42.1 + (1 : Int32)) (lv' := [(2, .int (s42.1 + (1 : Int32))), (3, .int (1 : Int32)), (0, .ref (ad (fr_lay 0 0))), (1, .int s30.1)]) hx hb dX6_fair_73 hl (k := 3) rfl rfl (by decide) rfl (fun ls hl => ?_)
                    refine lv_goto (tgt := 42) hx hb dX6_fair_76 (by decide) ?_
                    exact hL2 _ h2 _ _ ls hP hS (lv_sub hl [2, 3, 0, 1] rfl)) _ _ hy42
          exact lp42 _ _ ls hP hS (lv_sub hl [2, 3, 1, 0] rfl)) _ _ hy30
    exact lp30 _ _ ls hP hS (lv_sub hl [1, 0] rfl)
  have lp2 := fo_lp_ind (fun (s2 : Int32 × fo_S) => ∀ (H : Heap) (locs : List Loc) (ls : Array Slot), va_P D vwCl (fo_vx 25 ad (fr_ce ca ad s2.2)) H → va_S (fo_A 25 ad s.heap.size) s.heap H locs → lv_has ls 5 [(0, .ref (ad (fr_lay 0 0))), (1, .int s2.1)] → W p l e R s m args below meth c H locs 0 0 Q (F0 m 2 ls [])) (by
      intro s2 o1 h1 hN1 hL1 hE1 H locs ls hP hS hl
      unfold r_fair_L2 at h1
      refine lv_iload_n hx hb dX6_fair_2 rfl (lv_at hl 1 rfl) ?_
      refine lv_aload_n hx hb dX6_fair_3 rfl (lv_at hl 0 rfl) ?_
      refine fr_g6_88 hx hb hT hown hK hP (by decide) dX6_fair_4 ?_
      refine lv_icmp_ge (tgt := 28) hx hb dX6_fair_7 (by decide) (fun c1 => ?_) (fun c1 => ?_)
      · replace h1 := fo_itT c1 h1
        have hy2 := hE1 _ h1
        subst hy2
        exact ex2 _ _ ls hP hS (lv_sub hl [0] rfl)
      · replace h1 := fo_itF c1 h1
        refine lv_aload_n hx hb dX6_fair_10 rfl (lv_at hl 0 rfl) ?_
        refine fr_g6_73 hx hb hT hown hK hP (by decide) dX6_fair_11 ?_
        refine lv_iload_n hx hb dX6_fair_14 rfl (lv_at hl 1 rfl) ?_
        refine lv_aload_n hx hb dX6_fair_15 rfl (lv_at hl 0 rfl) ?_
        refine fr_g6_26 hx hb hT hown hK hP (by decide) dX6_fair_16 ?_
        refine lv_iload_n hx hb dX6_fair_19 rfl (lv_at hl 1 rfl) ?_
        obtain ⟨g3, h1⟩ := fo_gd h1 hN1
        refine fr_zald (k := 6) (n := 16) hx hb hK hP (by decide) (by decide) (fun _ _ => rfl) g3 dX6_fair_20 ?_
        obtain ⟨g4, h1⟩ := fo_gd h1 hN1
        refine fr_zast (k := 20) (n := 16) hx hb hK hP hD hS (by decide) (by decide) (fun _ _ => rfl) g4 dX6_fair_21 (fun H locs hP hS => ?_)
        refine lv_iinc (v := s2.1 + (1 : Int32)) (lv' := [(1, .int (s2.1 + (1 : Int32))), (0, .ref (ad (fr_lay 0 0)))]) hx hb dX6_fair_22 hl (k := 1) rfl rfl (by decide) rfl (fun ls hl => ?_)
        refine lv_goto (tgt := 2) hx hb dX6_fair_25 (by decide) ?_
        exact hL1 _ h1 _ _ ls hP hS (lv_sub hl [1, 0] rfl)) _ _ hy2
  exact lp2 _ _ ls hP hS (lv_sub hl [1, 0] rfl)
theorem c_r_fair (l : Launch) (D : va_G) (ca : Nat → ClassId) (ad : Nat → Nat) (sz : Nat) {σ : fo_S}   {res : fo_S} (h0 : r_fair σ = some res) : Met l yX6_fair ws_r_fair rm_r_fair (fo_Pre 25 D vwCl (fr_tys ca) ad (fr_ce ca ad σ) sz [.ref (ad (fr_lay 0 0))]) (fo_PoV 25 D vwCl (fr_tys ca) ad (fr_ce ca ad res) sz) 0 0 (fo_A 25 ad sz) :=
  fr_mkV (by decide) (fun C0 kr hP => b_r_fair C0 (Nat.le_refl _) (Nat.le_refl _) (Nat.zero_le _)  h0 kr hP)
def r_byLot_L10  (s10 : Int64 × Int32 × fo_S) : Option ((Int64 × Int32 × fo_S) ⊕ (Int64 × Int32 × fo_S)) :=
  if s10.2.1 ≤ 0 then (some (.inr (s10.1, s10.2.1, s10.2.2))) else (if ¬ (s10.2.1.toInt64 + (1 : Int64)) = 0 then ( if fo_vi s10.2.1 16 then ( if fo_vi ((((((s10.1 * (6364136223846793005 : Int64)) + (1442695040888963407 : Int64)).toUInt64 >>> ((33 : Int32).toInt64.toUInt64 &&& Int64.toUInt64 63)).toInt64) - ((((s10.1 * (6364136223846793005 : Int64)) + (1442695040888963407 : Int64)).toUInt64 >>> ((33 : Int32).toInt64.toUInt64 &&& Int64.toUInt64 63)).toInt64) / (s10.2.1.toInt64 + (1 : Int64)) * (s10.2.1.toInt64 + (1 : Int64))).toInt32) 16 then ( if fo_vi s10.2.1 16 then ( if fo_vi ((((((s10.1 * (6364136223846793005 : Int64)) + (1442695040888963407 : Int64)).toUInt64 >>> ((33 : Int32).toInt64.toUInt64 &&& Int64.toUInt64 63)).toInt64) - ((((s10.1 * (6364136223846793005 : Int64)) + (1442695040888963407 : Int64)).toUInt64 >>> ((33 : Int32).toInt64.toUInt64 &&& Int64.toUInt64 63)).toInt64) / (s10.2.1.toInt64 + (1 : Int64)) * (s10.2.1.toInt64 + (1 : Int64))).toInt32) 16 then (some (.inl ((s10.1 * (6364136223846793005 : Int64)) + (1442695040888963407 : Int64), s10.2.1 + (-1 : Int32), fo_pI (fo_pI s10.2.2 11 0 s10.2.1.toNatClampNeg (s10.2.2.1 11 0 ((((((s10.1 * (6364136223846793005 : Int64)) + (1442695040888963407 : Int64)).toUInt64 >>> ((33 : Int32).toInt64.toUInt64 &&& Int64.toUInt64 63)).toInt64) - ((((s10.1 * (6364136223846793005 : Int64)) + (1442695040888963407 : Int64)).toUInt64 >>> ((33 : Int32).toInt64.toUInt64 &&& Int64.toUInt64 63)).toInt64) / (s10.2.1.toInt64 + (1 : Int64)) * (s10.2.1.toInt64 + (1 : Int64))).toInt32).toNatClampNeg)) 11 0 ((((((s10.1 * (6364136223846793005 : Int64)) + (1442695040888963407 : Int64)).toUInt64 >>> ((33 : Int32).toInt64.toUInt64 &&& Int64.toUInt64 63)).toInt64) - ((((s10.1 * (6364136223846793005 : Int64)) + (1442695040888963407 : Int64)).toUInt64 >>> ((33 : Int32).toInt64.toUInt64 &&& Int64.toUInt64 63)).toInt64) / (s10.2.1.toInt64 + (1 : Int64)) * (s10.2.1.toInt64 + (1 : Int64))).toInt32).toNatClampNeg (s10.2.2.1 11 0 s10.2.1.toNatClampNeg)))) else none) else none) else none) else none) else none)
def r_byLot (σ : fo_S) (a1 : Int64) : Option (fo_S) :=
  (fo_lp (r_byLot_L10) fo_FU (a1, (σ.1 0 0 17) - (1 : Int32), σ)).bind (fun y10 => some y10.2.2)
set_option maxHeartbeats 4000000 in
set_option maxRecDepth 100000 in
theorem b_r_byLot {p : Program} {l : Launch} {e : Env} {R : Room} {s : State} {m : MethodId} {args : Array Value} {below : List Frame} {meth : Method} {c : Code} {Q : State → Prop} {D : va_G} {ca : Nat → ClassId} {ad : Nat → Nat} (C0 : fr_CX p s m args c cX6_byLot 8 RX6 D ca ad) (hRf : 0 ≤ R.frames) (hRl : 0 ≤ R.locals) (hRc : 0 ≤ R.cells) {σ : fo_S} {a1 : Int64}  {res : fo_S} (h0 : r_byLot σ a1 = some res) (kr : ∀ (pc : Nat) (ls : Array Slot) (H : Heap) (locs : List Loc), decode cX6_byLot pc = .ok (.return_, 1) → va_P D vwCl (fo_vx 25 ad (fr_ce ca ad res)) H → va_S (fo_A 25 ad s.heap.size) s.heap H locs → W p l e R s m args below meth c H locs 0 0 Q (F0 m pc ls [])) (hP : va_P D vwCl (fo_vx 25 ad (fr_ce ca ad σ)) s.heap) : W p l e R s m args below meth c s.heap [] 0 0 Q (entryFrame m ([.ref (ad (fr_lay 0 0)), .long a1] : List Value).toArray 8) := by
  obtain ⟨hx, hb, hml, hown, hT, hK, hD⟩ := C0
  have hN0 : (some res) ≠ none := fun q => by cases q
  unfold r_byLot at h0
  have hS : va_S (fo_A 25 ad s.heap.size) s.heap s.heap [] := va_S.rf
  have hl := lv_entry ([.ref (ad (fr_lay 0 0)), .long a1]) (n := 8) (Nat.le_of_ble_eq_true rfl)
  rw [lg_entry_eq]
  generalize (lg_sl ([.ref (ad (fr_lay 0 0)), .long a1]) ++ List.replicate (8 - (lg_sl ([.ref (ad (fr_lay 0 0)), .long a1])).length) Slot.unset).toArray = ls at hl ⊢
  have hl : lv_has ls 8 [(0, .ref (ad (fr_lay 0 0))), (1, .long a1)] := hl
  refine lv_lload_n hx hb dX6_byLot_0 rfl (lv_at hl 1 rfl) ?_
  refine lv_lstore_n (lv' := [(3, .long a1), (0, .ref (ad (fr_lay 0 0))), (1, .long a1)]) hx hb dX6_byLot_1 rfl hl (by decide) rfl (fun ls hl => ?_)
  refine lv_aload_n hx hb dX6_byLot_2 rfl (lv_at hl 1 rfl) ?_
  refine fr_g6_42 hx hb hT hown hK hP (by decide) dX6_byLot_3 ?_
  refine lv_iconst (v := 1) hx hb dX6_byLot_6 (by decide) ?_
  refine lv_isub hx hb dX6_byLot_7 ?_
  refine lv_istore (lv' := [(5, .int ((σ.1 0 0 17) - (1 : Int32))), (3, .long a1), (0, .ref (ad (fr_lay 0 0))), (1, .long a1)]) hx hb dX6_byLot_8 hl (by decide) rfl (fun ls hl => ?_)
  obtain ⟨y10, hy10, h0⟩ := fo_bd h0 hN0
  have ex10 : ∀ (H : Heap) (locs : List Loc) (ls : Array Slot), va_P D vwCl (fo_vx 25 ad (fr_ce ca ad y10.2.2)) H → va_S (fo_A 25 ad s.heap.size) s.heap H locs → lv_has ls 8 [] → W p l e R s m args below meth c H locs 0 0 Q (F0 m 76 ls []) := by
    intro H locs ls hP hS hl
    have hr8 := Option.some.inj h0
    subst hr8
    exact kr _ ls _ _ dX6_byLot_76 hP hS
  have lp10 := fo_lp_ind (fun (s10 : Int64 × Int32 × fo_S) => ∀ (H : Heap) (locs : List Loc) (ls : Array Slot), va_P D vwCl (fo_vx 25 ad (fr_ce ca ad s10.2.2)) H → va_S (fo_A 25 ad s.heap.size) s.heap H locs → lv_has ls 8 [(0, .ref (ad (fr_lay 0 0))), (3, .long s10.1), (5, .int s10.2.1)] → W p l e R s m args below meth c H locs 0 0 Q (F0 m 10 ls [])) (by
      intro s10 o1 h1 hN1 hL1 hE1 H locs ls hP hS hl
      unfold r_byLot_L10 at h1
      refine lv_iload hx hb dX6_byLot_10 (lv_at hl 2 rfl) ?_
      refine lv_if_le (tgt := 76) hx hb dX6_byLot_12 (by decide) (fun c1 => ?_) (fun c1 => ?_)
      · replace h1 := fo_itT c1 h1
        have hy2 := hE1 _ h1
        subst hy2
        exact ex10 _ _ ls hP hS (lv_sub hl [] rfl)
      · replace h1 := fo_itF c1 h1
        refine lv_lload_n hx hb dX6_byLot_15 rfl (lv_at hl 1 rfl) ?_
        refine lv_ldc2 (v := 6364136223846793005) hx hb hown (fr_k6_135 hT) dX6_byLot_16 ?_
        refine lv_lmul hx hb dX6_byLot_19 ?_
        refine lv_ldc2 (v := 1442695040888963407) hx hb hown (fr_k6_165 hT) dX6_byLot_20 ?_
        refine lv_ladd hx hb dX6_byLot_23 ?_
        refine lv_lstore_n (lv' := [(3, .long ((s10.1 * (6364136223846793005 : Int64)) + (1442695040888963407 : Int64))), (0, .ref (ad (fr_lay 0 0))), (5, .int s10.2.1)]) hx hb dX6_byLot_24 rfl hl (by decide) rfl (fun ls hl => ?_)
        refine lv_lload_n hx hb dX6_byLot_25 rfl (lv_at hl 0 rfl) ?_
        refine lv_bipush (v := 33) hx hb dX6_byLot_26 (by decide) ?_
        refine lv_lushr hx hb dX6_byLot_28 rfl ?_
        refine lv_iload hx hb dX6_byLot_29 (lv_at hl 2 rfl) ?_
        refine lv_i2l hx hb dX6_byLot_31 rfl ?_
        refine lv_lconst (v := 1) hx hb dX6_byLot_32 (by decide) ?_
        refine lv_ladd hx hb dX6_byLot_33 ?_
        obtain ⟨g3, h1⟩ := fo_gd h1 hN1
        refine lv_lrem hx hb dX6_byLot_34 g3 ?_
        refine lv_l2i hx hb dX6_byLot_35 rfl ?_
        refine lv_istore (lv' := [(6, .int ((((((s10.1 * (6364136223846793005 : Int64)) + (1442695040888963407 : Int64)).toUInt64 >>> ((33 : Int32).toInt64.toUInt64 &&& Int64.toUInt64 63)).toInt64) - ((((s10.1 * (6364136223846793005 : Int64)) + (1442695040888963407 : Int64)).toUInt64 >>> ((33 : Int32).toInt64.toUInt64 &&& Int64.toUInt64 63)).toInt64) / (s10.2.1.toInt64 + (1 : Int64)) * (s10.2.1.toInt64 + (1 : Int64))).toInt32)), (3, .long ((s10.1 * (6364136223846793005 : Int64)) + (1442695040888963407 : Int64))), (0, .ref (ad (fr_lay 0 0))), (5, .int s10.2.1)]) hx hb dX6_byLot_36 hl (by decide) rfl (fun ls hl => ?_)
        refine lv_aload_n hx hb dX6_byLot_38 rfl (lv_at hl 2 rfl) ?_
        refine fr_g6_46 hx hb hT hown hK hP (by decide) dX6_byLot_39 ?_
        refine lv_iload hx hb dX6_byLot_42 (lv_at hl 3 rfl) ?_
        obtain ⟨g4, h1⟩ := fo_gd h1 hN1
        refine fr_iald (k := 11) (n := 16) hx hb hK hP (by decide) (by decide) (fun _ _ => rfl) g4 dX6_byLot_44 ?_
        refine lv_istore (lv' := [(7, .int (s10.2.2.1 11 0 s10.2.1.toNatClampNeg)), (6, .int ((((((s10.1 * (6364136223846793005 : Int64)) + (1442695040888963407 : Int64)).toUInt64 >>> ((33 : Int32).toInt64.toUInt64 &&& Int64.toUInt64 63)).toInt64) - ((((s10.1 * (6364136223846793005 : Int64)) + (1442695040888963407 : Int64)).toUInt64 >>> ((33 : Int32).toInt64.toUInt64 &&& Int64.toUInt64 63)).toInt64) / (s10.2.1.toInt64 + (1 : Int64)) * (s10.2.1.toInt64 + (1 : Int64))).toInt32)), (3, .long ((s10.1 * (6364136223846793005 : Int64)) + (1442695040888963407 : Int64))), (0, .ref (ad (fr_lay 0 0))), (5, .int s10.2.1)]) hx hb dX6_byLot_45 hl (by decide) rfl (fun ls hl => ?_)
        refine lv_aload_n hx hb dX6_byLot_47 rfl (lv_at hl 3 rfl) ?_
        refine fr_g6_46 hx hb hT hown hK hP (by decide) dX6_byLot_48 ?_
        refine lv_iload hx hb dX6_byLot_51 (lv_at hl 4 rfl) ?_
        refine lv_aload_n hx hb dX6_byLot_53 rfl (lv_at hl 3 rfl) ?_
        refine fr_g6_46 hx hb hT hown hK hP (by decide) dX6_byLot_54 ?_
        refine lv_iload hx hb dX6_byLot_57 (lv_at hl 1 rfl) ?_
        obtain ⟨g5, h1⟩ := fo_gd h1 hN1
        refine fr_iald (k := 11) (n := 16) hx hb hK hP (by decide) (by decide) (fun _ _ => rfl) g5 dX6_byLot_59 ?_
        obtain ⟨g6, h1⟩ := fo_gd h1 hN1
        refine fr_iast (k := 11) (n := 16) hx hb hK hP hD hS (by decide) (by decide) (fun _ _ => rfl) g6 dX6_byLot_60 (fun H locs hP hS => ?_)
        refine lv_aload_n hx hb dX6_byLot_61 rfl (lv_at hl 3 rfl) ?_
        refine fr_g6_46 hx hb hT hown hK hP (by decide) dX6_byLot_62 ?_
        refine lv_iload hx hb dX6_byLot_65 (lv_at hl 1 rfl) ?_
        refine lv_iload hx hb dX6_byLot_67 (lv_at hl 0 rfl) ?_
        obtain ⟨g7, h1⟩ := fo_gd h1 hN1
        refine fr_iast (k := 11) (n := 16) hx hb hK hP hD hS (by decide) (by decide) (fun _ _ => rfl) g7 dX6_byLot_69 (fun H locs hP hS => ?_)
        refine lv_iinc (v := s10.2.1 + (-1 : Int32)) (lv' := [(5, .int (s10.2.1 + (-1 : Int32))), (7, .int (s10.2.2.1 11 0 s10.2.1.toNatClampNeg)), (6, .int ((((((s10.1 * (6364136223846793005 : Int64)) + (1442695040888963407 : Int64)).toUInt64 >>> ((33 : Int32).toInt64.toUInt64 &&& Int64.toUInt64 63)).toInt64) - ((((s10.1 * (6364136223846793005 : Int64)) + (1442695040888963407 : Int64)).toUInt64 >>> ((33 : Int32).toInt64.toUInt64 &&& Int64.toUInt64 63)).toInt64) / (s10.2.1.toInt64 + (1 : Int64)) * (s10.2.1.toInt64 + (1 : Int64))).toInt32)), (3, .long ((s10.1 * (6364136223846793005 : Int64)) + (1442695040888963407 : Int64))), (0, .ref (ad (fr_lay 0 0)))]) hx hb dX6_byLot_70 hl (k := 4) rfl rfl (by decide) rfl (fun ls hl => ?_)
        refine lv_goto (tgt := 10) hx hb dX6_byLot_73 (by decide) ?_
        exact hL1 _ h1 _ _ ls hP hS (lv_sub hl [4, 3, 0] rfl)) _ _ hy10
  exact lp10 _ _ ls hP hS (lv_sub hl [2, 1, 0] rfl)
theorem c_r_byLot (l : Launch) (D : va_G) (ca : Nat → ClassId) (ad : Nat → Nat) (sz : Nat) {σ : fo_S} {a1 : Int64}  {res : fo_S} (h0 : r_byLot σ a1 = some res) : Met l yX6_byLot ws_r_byLot rm_r_byLot (fo_Pre 25 D vwCl (fr_tys ca) ad (fr_ce ca ad σ) sz [.ref (ad (fr_lay 0 0)), .long a1]) (fo_PoV 25 D vwCl (fr_tys ca) ad (fr_ce ca ad res) sz) 0 0 (fo_A 25 ad sz) :=
  fr_mkV (by decide) (fun C0 kr hP => b_r_byLot C0 (Nat.le_refl _) (Nat.le_refl _) (Nat.zero_le _)  h0 kr hP)
def r_rankOf (σ : fo_S) (a1 : Int32) (a2 : Int32) : Option (Int32) :=
  if a1 = (1 : Int32) then (if fo_vi a2 16 then (some ((1000 : Int32) - (σ.1 8 0 a2.toNatClampNeg))) else none) else (if a1 = (2 : Int32) then ((r_third σ a2).bind (fun x4 => some x4)) else (some (0 : Int32)))
set_option maxHeartbeats 4000000 in
set_option maxRecDepth 100000 in
theorem b_r_rankOf {p : Program} {l : Launch} {e : Env} {R : Room} {s : State} {m : MethodId} {args : Array Value} {below : List Frame} {meth : Method} {c : Code} {Q : State → Prop} {D : va_G} {ca : Nat → ClassId} {ad : Nat → Nat} (C0 : fr_CX p s m args c cX6_rankOf 3 RX6 D ca ad) (hRf : 1 ≤ R.frames) (hRl : 27 ≤ R.locals) (hRc : 0 ≤ R.cells) {σ : fo_S} {a1 : Int32} {a2 : Int32}  {res : Int32} (h0 : r_rankOf σ a1 a2 = some res) (kr : ∀ (pc : Nat) (ls : Array Slot) (H : Heap) (locs : List Loc), decode cX6_rankOf pc = .ok (.ireturn, 1) → va_P D vwCl (fo_vx 25 ad (fr_ce ca ad σ)) H → va_S (fo_A 25 ad s.heap.size) s.heap H locs → W p l e R s m args below meth c H locs 0 0 Q (F0 m pc ls [.int res])) (hP : va_P D vwCl (fo_vx 25 ad (fr_ce ca ad σ)) s.heap) : W p l e R s m args below meth c s.heap [] 0 0 Q (entryFrame m ([.ref (ad (fr_lay 0 0)), .int a1, .int a2] : List Value).toArray 3) := by
  obtain ⟨hx, hb, hml, hown, hT, hK, hD⟩ := C0
  have hN0 : (some res) ≠ none := fun q => by cases q
  unfold r_rankOf at h0
  have hS : va_S (fo_A 25 ad s.heap.size) s.heap s.heap [] := va_S.rf
  have hl := lv_entry ([.ref (ad (fr_lay 0 0)), .int a1, .int a2]) (n := 3) (Nat.le_of_ble_eq_true rfl)
  rw [lg_entry_eq]
  generalize (lg_sl ([.ref (ad (fr_lay 0 0)), .int a1, .int a2]) ++ List.replicate (3 - (lg_sl ([.ref (ad (fr_lay 0 0)), .int a1, .int a2])).length) Slot.unset).toArray = ls at hl ⊢
  have hl : lv_has ls 3 [(0, .ref (ad (fr_lay 0 0))), (1, .int a1), (2, .int a2)] := hl
  refine lv_iload_n hx hb dX6_rankOf_0 rfl (lv_at hl 1 rfl) ?_
  refine lv_iconst (v := 1) hx hb dX6_rankOf_1 (by decide) ?_
  refine lv_icmp_ne (tgt := 18) hx hb dX6_rankOf_2 (by decide) (fun c1 => ?_) (fun c1 => ?_)
  · replace h0 := fo_itF c1 h0
    refine lv_iload_n hx hb dX6_rankOf_18 rfl (lv_at hl 1 rfl) ?_
    refine lv_iconst (v := 2) hx hb dX6_rankOf_19 (by decide) ?_
    refine lv_icmp_ne (tgt := 31) hx hb dX6_rankOf_20 (by decide) (fun c2 => ?_) (fun c2 => ?_)
    · replace h0 := fo_itF c2 h0
      refine lv_iconst (v := 0) hx hb dX6_rankOf_31 (by decide) ?_
      have hr3 := Option.some.inj h0
      subst hr3
      exact kr _ ls _ _ dX6_rankOf_32 hP hS
    · replace h0 := fo_itT c2 h0
      refine lv_aload_n hx hb dX6_rankOf_23 rfl (lv_at hl 0 rfl) ?_
      refine lv_iload_n hx hb dX6_rankOf_24 rfl (lv_at hl 2 rfl) ?_
      obtain ⟨x4, hx4, h0⟩ := fo_bd h0 hN0
      refine fo_calli (va_runV (H := _) (As := [.int a2]) (rest := []) ⟨hx, hb, hml, hown, hT⟩ (c_r_third l D ca ad _ hx4) (fr_c6_167 hT ⟨Nat.le_trans (Nat.le_of_ble_eq_true rfl) hRf, Nat.le_trans (Nat.le_of_ble_eq_true rfl) hRl⟩) ⟨fo_Pre_blind, fr_rc0 hK hP (by decide), fo_Pre_at hP hK (hD _)⟩ rfl rfl hl.1 rfl (lv_room (Nat.le_of_ble_eq_true rfl)) dX6_rankOf_25 ⟨Nat.zero_le _, Nat.zero_le _⟩) hS (fun H locs hP hS => ?_)
      refine lv_goto (tgt := 32) hx hb dX6_rankOf_28 (by decide) ?_
      have hr5 := Option.some.inj h0
      subst hr5
      exact kr _ ls _ _ dX6_rankOf_32 hP hS
  · replace h0 := fo_itT c1 h0
    refine lv_sipush (v := 1000) hx hb dX6_rankOf_5 (by decide) ?_
    refine lv_aload_n hx hb dX6_rankOf_8 rfl (lv_at hl 0 rfl) ?_
    refine fr_g6_33 hx hb hT hown hK hP (by decide) dX6_rankOf_9 ?_
    refine lv_iload_n hx hb dX6_rankOf_12 rfl (lv_at hl 2 rfl) ?_
    obtain ⟨g6, h0⟩ := fo_gd h0 hN0
    refine fr_iald (k := 8) (n := 16) hx hb hK hP (by decide) (by decide) (fun _ _ => rfl) g6 dX6_rankOf_13 ?_
    refine lv_isub hx hb dX6_rankOf_14 ?_
    refine lv_goto (tgt := 32) hx hb dX6_rankOf_15 (by decide) ?_
    have hr7 := Option.some.inj h0
    subst hr7
    exact kr _ ls _ _ dX6_rankOf_32 hP hS
theorem c_r_rankOf (l : Launch) (D : va_G) (ca : Nat → ClassId) (ad : Nat → Nat) (sz : Nat) {σ : fo_S} {a1 : Int32} {a2 : Int32}  {res : Int32} (h0 : r_rankOf σ a1 a2 = some res) : Met l yX6_rankOf ws_r_rankOf rm_r_rankOf (fo_Pre 25 D vwCl (fr_tys ca) ad (fr_ce ca ad σ) sz [.ref (ad (fr_lay 0 0)), .int a1, .int a2]) (fo_PoI 25 D vwCl (fr_tys ca) ad (fr_ce ca ad σ) sz res) 0 0 (fo_A 25 ad sz) :=
  fr_mkI (by decide) (fun C0 kr hP => b_r_rankOf C0 (Nat.le_refl _) (Nat.le_refl _) (Nat.zero_le _)  h0 kr hP)
def r_order_L59 (a1 : Int32) (s34 : Int32 × fo_S) (s59 : Int32 × fo_S) : Option ((Int32 × fo_S) ⊕ (Int32 × fo_S)) :=
  if s59.1 ≤ 0 then (some (.inr (s59.1, s59.2))) else (if fo_vi (s59.1 - (1 : Int32)) 16 then ( (r_rankOf s59.2 a1 (s59.2.1 11 0 (s59.1 - (1 : Int32)).toNatClampNeg)).bind (fun x11 =>  (r_rankOf s59.2 a1 s34.1).bind (fun x12 => if x11 ≤ x12 then (some (.inr (s59.1, s59.2))) else (if fo_vi (s59.1 - (1 : Int32)) 16 then ( if fo_vi s59.1 16 then (some (.inl (s59.1 + (-1 : Int32), fo_pI s59.2 11 0 s59.1.toNatClampNeg (s59.2.1 11 0 (s59.1 - (1 : Int32)).toNatClampNeg)))) else none) else none)))) else none)
def r_order_L34 (a1 : Int32) (s34 : Int32 × fo_S) : Option ((Int32 × fo_S) ⊕ (Int32 × fo_S)) :=
  if (s34.2.1 0 0 8) ≤ s34.1 then (some (.inr (s34.1, s34.2))) else (if fo_vi s34.1 16 then (if (s34.2.1 6 0 s34.1.toNatClampNeg) = 0 then (some (.inl (s34.1 + (1 : Int32), s34.2))) else ((fo_lp (r_order_L59 a1 s34) fo_FU (s34.2.1 0 0 17, s34.2)).bind (fun y59 => if fo_vi y59.1 16 then (some (.inl (s34.1 + (1 : Int32), fo_pI (fo_pI y59.2 11 0 y59.1.toNatClampNeg s34.1) 0 0 17 (((fo_pI y59.2 11 0 y59.1.toNatClampNeg s34.1).1 0 0 17) + (1 : Int32))))) else none))) else none)
def r_order_J144 (a1 : Int32) (a2 : Int64) (j144 : fo_S) : Option (Int32 × fo_S) :=
  if a1 = (4 : Int32) then ((r_byLot j144 a2).bind (fun x20 => some (x20.1 0 0 17, x20))) else (some (j144.1 0 0 17, j144))
def r_order (σ : fo_S) (a1 : Int32) (a2 : Int64) : Option (Int32 × fo_S) :=
  (r_in σ a1.toInt64 (0 : Int64) (4 : Int64)).bind (fun x1 => if x1 = 0 then (some ((-2 : Int32), σ)) else (if (σ.1 0 0 6) = (2 : Int32) then ((fo_lp (r_order_L34 a1) fo_FU ((0 : Int32), fo_pI σ 0 0 17 (0 : Int32))).bind (fun y34 => if a1 = (3 : Int32) then ((r_fair y34.2).bind (fun x23 => r_order_J144 a1 a2 x23)) else (r_order_J144 a1 a2 y34.2))) else (some ((-4 : Int32), σ))))
set_option maxHeartbeats 4000000 in
set_option maxRecDepth 100000 in
theorem b_r_order {p : Program} {l : Launch} {e : Env} {R : Room} {s : State} {m : MethodId} {args : Array Value} {below : List Frame} {meth : Method} {c : Code} {Q : State → Prop} {D : va_G} {ca : Nat → ClassId} {ad : Nat → Nat} (C0 : fr_CX p s m args c cX6_order 6 RX6 D ca ad) (hRf : 4 ≤ R.frames) (hRl : 97 ≤ R.locals) (hRc : 0 ≤ R.cells) {σ : fo_S} {a1 : Int32} {a2 : Int64}  {res : Int32 × fo_S} (h0 : r_order σ a1 a2 = some res) (kr : ∀ (pc : Nat) (ls : Array Slot) (H : Heap) (locs : List Loc), decode cX6_order pc = .ok (.ireturn, 1) → va_P D vwCl (fo_vx 25 ad (fr_ce ca ad res.2)) H → va_S (fo_A 25 ad s.heap.size) s.heap H locs → W p l e R s m args below meth c H locs 0 0 Q (F0 m pc ls [.int res.1])) (hP : va_P D vwCl (fo_vx 25 ad (fr_ce ca ad σ)) s.heap) : W p l e R s m args below meth c s.heap [] 0 0 Q (entryFrame m ([.ref (ad (fr_lay 0 0)), .int a1, .long a2] : List Value).toArray 6) := by
  obtain ⟨hx, hb, hml, hown, hT, hK, hD⟩ := C0
  have hN0 : (some res) ≠ none := fun q => by cases q
  unfold r_order at h0
  have hS : va_S (fo_A 25 ad s.heap.size) s.heap s.heap [] := va_S.rf
  have hl := lv_entry ([.ref (ad (fr_lay 0 0)), .int a1, .long a2]) (n := 6) (Nat.le_of_ble_eq_true rfl)
  rw [lg_entry_eq]
  generalize (lg_sl ([.ref (ad (fr_lay 0 0)), .int a1, .long a2]) ++ List.replicate (6 - (lg_sl ([.ref (ad (fr_lay 0 0)), .int a1, .long a2])).length) Slot.unset).toArray = ls at hl ⊢
  have hl : lv_has ls 6 [(0, .ref (ad (fr_lay 0 0))), (1, .int a1), (2, .long a2)] := hl
  refine lv_iload_n hx hb dX6_order_0 rfl (lv_at hl 1 rfl) ?_
  refine lv_i2l hx hb dX6_order_1 rfl ?_
  refine lv_lconst (v := 0) hx hb dX6_order_2 (by decide) ?_
  refine lv_ldc2 (v := 4) hx hb hown (fr_k6_139 hT) dX6_order_3 ?_
  obtain ⟨x1, hx1, h0⟩ := fo_bd h0 hN0
  refine fo_calli (va_runS (H := _) (As := [.long a1.toInt64, .long (0 : Int64), .long (4 : Int64)]) (rest := []) ⟨hx, hb, hml, hown, hT⟩ (c_r_in l D ca ad _ hx1) (fr_c6_91 hT ⟨Nat.le_trans (Nat.le_of_ble_eq_true rfl) hRf, Nat.le_trans (Nat.le_of_ble_eq_true rfl) hRl⟩) ⟨fo_Pre_blind, fo_Pre_at hP hK (hD _)⟩ rfl rfl hl.1 rfl (lv_room (Nat.le_of_ble_eq_true rfl)) dX6_order_6 ⟨Nat.zero_le _, Nat.zero_le _⟩) hS (fun H locs hP hS => ?_)
  refine lv_if_ne (tgt := 15) hx hb dX6_order_9 (by decide) (fun c2 => ?_) (fun c2 => ?_)
  · replace h0 := fo_itF c2 h0
    refine lv_aload_n hx hb dX6_order_15 rfl (lv_at hl 0 rfl) ?_
    refine fr_g6_99 hx hb hT hown hK hP (by decide) dX6_order_16 ?_
    refine lv_iconst (v := 2) hx hb dX6_order_19 (by decide) ?_
    refine lv_icmp_eq (tgt := 26) hx hb dX6_order_20 (by decide) (fun c3 => ?_) (fun c3 => ?_)
    · replace h0 := fo_itT c3 h0
      refine lv_aload_n hx hb dX6_order_26 rfl (lv_at hl 0 rfl) ?_
      refine lv_iconst (v := 0) hx hb dX6_order_27 (by decide) ?_
      refine fr_p6_42 hx hb hT hown hK hP hD hS (by decide) dX6_order_28 (fun H locs hP hS => ?_)
      refine lv_iconst (v := 0) hx hb dX6_order_31 (by decide) ?_
      refine lv_istore (lv' := [(4, .int (0 : Int32)), (0, .ref (ad (fr_lay 0 0))), (1, .int a1), (2, .long a2)]) hx hb dX6_order_32 hl (by decide) rfl (fun ls hl => ?_)
      obtain ⟨y34, hy34, h0⟩ := fo_bd h0 hN0
      have ex34 : ∀ (H : Heap) (locs : List Loc) (ls : Array Slot), va_P D vwCl (fo_vx 25 ad (fr_ce ca ad y34.2)) H → va_S (fo_A 25 ad s.heap.size) s.heap H locs → lv_has ls 6 [(0, .ref (ad (fr_lay 0 0))), (1, .int a1), (2, .long a2)] → W p l e R s m args below meth c H locs 0 0 Q (F0 m 135 ls []) := by
        intro H locs ls hP hS hl
        refine lv_iload_n hx hb dX6_order_135 rfl (lv_at hl 1 rfl) ?_
        refine lv_iconst (v := 3) hx hb dX6_order_136 (by decide) ?_
        have J144 : ∀ j144 : fo_S, r_order_J144 a1 a2 j144 = some res → ∀ (H : Heap) (locs : List Loc) (ls : Array Slot), va_P D vwCl (fo_vx 25 ad (fr_ce ca ad j144)) H → va_S (fo_A 25 ad s.heap.size) s.heap H locs → lv_has ls 6 [(0, .ref (ad (fr_lay 0 0))), (1, .int a1), (2, .long a2)] → W p l e R s m args below meth c H locs 0 0 Q (F0 m 144 ls []) := by
          intro j144 h0 H locs ls hP hS hl
          unfold r_order_J144 at h0
          refine lv_iload_n hx hb dX6_order_144 rfl (lv_at hl 1 rfl) ?_
          refine lv_iconst (v := 4) hx hb dX6_order_145 (by decide) ?_
          refine lv_icmp_ne (tgt := 154) hx hb dX6_order_146 (by decide) (fun c18 => ?_) (fun c18 => ?_)
          · replace h0 := fo_itF c18 h0
            refine lv_aload_n hx hb dX6_order_154 rfl (lv_at hl 0 rfl) ?_
            refine fr_g6_42 hx hb hT hown hK hP (by decide) dX6_order_155 ?_
            have hr19 := Option.some.inj h0
            subst hr19
            exact kr _ ls _ _ dX6_order_158 hP hS
          · replace h0 := fo_itT c18 h0
            refine lv_aload_n hx hb dX6_order_149 rfl (lv_at hl 0 rfl) ?_
            refine lv_lload_n hx hb dX6_order_150 rfl (lv_at hl 2 rfl) ?_
            obtain ⟨x20, hx20, h0⟩ := fo_bd h0 hN0
            refine fo_callv (va_runV (H := _) (As := [.long a2]) (rest := []) ⟨hx, hb, hml, hown, hT⟩ (c_r_byLot l D ca ad _ hx20) (fr_c6_178 hT ⟨Nat.le_trans (Nat.le_of_ble_eq_true rfl) hRf, Nat.le_trans (Nat.le_of_ble_eq_true rfl) hRl⟩) ⟨fo_Pre_blind, fr_rc0 hK hP (by decide), fo_Pre_at hP hK (hD _)⟩ rfl rfl hl.1 rfl (lv_room (Nat.le_of_ble_eq_true rfl)) dX6_order_151 ⟨Nat.zero_le _, Nat.zero_le _⟩) hS (fun H locs hP hS => ?_)
            refine lv_aload_n hx hb dX6_order_154 rfl (lv_at hl 0 rfl) ?_
            refine fr_g6_42 hx hb hT hown hK hP (by decide) dX6_order_155 ?_
            have hr21 := Option.some.inj h0
            subst hr21
            exact kr _ ls _ _ dX6_order_158 hP hS
        refine lv_icmp_ne (tgt := 144) hx hb dX6_order_137 (by decide) (fun c22 => ?_) (fun c22 => ?_)
        · replace h0 := fo_itF c22 h0
          exact J144 _ h0 _ _ ls hP hS (lv_sub hl [0, 1, 2] rfl)
        · replace h0 := fo_itT c22 h0
          refine lv_aload_n hx hb dX6_order_140 rfl (lv_at hl 0 rfl) ?_
          obtain ⟨x23, hx23, h0⟩ := fo_bd h0 hN0
          refine fo_callv (va_runV (H := _) (As := []) (rest := []) ⟨hx, hb, hml, hown, hT⟩ (c_r_fair l D ca ad _ hx23) (fr_c6_175 hT ⟨Nat.le_trans (Nat.le_of_ble_eq_true rfl) hRf, Nat.le_trans (Nat.le_of_ble_eq_true rfl) hRl⟩) ⟨fo_Pre_blind, fr_rc0 hK hP (by decide), fo_Pre_at hP hK (hD _)⟩ rfl rfl hl.1 rfl (lv_room (Nat.le_of_ble_eq_true rfl)) dX6_order_141 ⟨Nat.zero_le _, Nat.zero_le _⟩) hS (fun H locs hP hS => ?_)
          exact J144 _ h0 _ _ ls hP hS (lv_sub hl [0, 1, 2] rfl)
      have lp34 := fo_lp_ind (fun (s34 : Int32 × fo_S) => ∀ (H : Heap) (locs : List Loc) (ls : Array Slot), va_P D vwCl (fo_vx 25 ad (fr_ce ca ad s34.2)) H → va_S (fo_A 25 ad s.heap.size) s.heap H locs → lv_has ls 6 [(0, .ref (ad (fr_lay 0 0))), (1, .int a1), (2, .long a2), (4, .int s34.1)] → W p l e R s m args below meth c H locs 0 0 Q (F0 m 34 ls [])) (by
          intro s34 o1 h1 hN1 hL1 hE1 H locs ls hP hS hl
          unfold r_order_L34 at h1
          refine lv_iload hx hb dX6_order_34 (lv_at hl 3 rfl) ?_
          refine lv_aload_n hx hb dX6_order_36 rfl (lv_at hl 0 rfl) ?_
          refine fr_g6_88 hx hb hT hown hK hP (by decide) dX6_order_37 ?_
          refine lv_icmp_ge (tgt := 135) hx hb dX6_order_40 (by decide) (fun c4 => ?_) (fun c4 => ?_)
          · replace h1 := fo_itT c4 h1
            have hy5 := hE1 _ h1
            subst hy5
            exact ex34 _ _ ls hP hS (lv_sub hl [0, 1, 2] rfl)
          · replace h1 := fo_itF c4 h1
            refine lv_aload_n hx hb dX6_order_43 rfl (lv_at hl 0 rfl) ?_
            refine fr_g6_26 hx hb hT hown hK hP (by decide) dX6_order_44 ?_
            refine lv_iload hx hb dX6_order_47 (lv_at hl 3 rfl) ?_
            obtain ⟨g6, h1⟩ := fo_gd h1 hN1
            refine fr_zald (k := 6) (n := 16) hx hb hK hP (by decide) (by decide) (fun _ _ => rfl) g6 dX6_order_49 ?_
            refine lv_if_eq (tgt := 129) hx hb dX6_order_50 (by decide) (fun c7 => ?_) (fun c7 => ?_)
            · replace h1 := fo_itT c7 h1
              refine lv_iinc (v := s34.1 + (1 : Int32)) (lv' := [(4, .int (s34.1 + (1 : Int32))), (0, .ref (ad (fr_lay 0 0))), (1, .int a1), (2, .long a2)]) hx hb dX6_order_129 hl (k := 3) rfl rfl (by decide) rfl (fun ls hl => ?_)
              refine lv_goto (tgt := 34) hx hb dX6_order_132 (by decide) ?_
              exact hL1 _ h1 _ _ ls hP hS (lv_sub hl [1, 2, 3, 0] rfl)
            · replace h1 := fo_itF c7 h1
              refine lv_aload_n hx hb dX6_order_53 rfl (lv_at hl 0 rfl) ?_
              refine fr_g6_42 hx hb hT hown hK hP (by decide) dX6_order_54 ?_
              refine lv_istore (lv' := [(5, .int (s34.2.1 0 0 17)), (0, .ref (ad (fr_lay 0 0))), (1, .int a1), (2, .long a2), (4, .int s34.1)]) hx hb dX6_order_57 hl (by decide) rfl (fun ls hl => ?_)
              obtain ⟨y59, hy59, h1⟩ := fo_bd h1 hN1
              have ex59 : ∀ (H : Heap) (locs : List Loc) (ls : Array Slot), va_P D vwCl (fo_vx 25 ad (fr_ce ca ad y59.2)) H → va_S (fo_A 25 ad s.heap.size) s.heap H locs → lv_has ls 6 [(0, .ref (ad (fr_lay 0 0))), (1, .int a1), (2, .long a2), (4, .int s34.1), (5, .int y59.1)] → W p l e R s m args below meth c H locs 0 0 Q (F0 m 110 ls []) := by
                intro H locs ls hP hS hl
                refine lv_aload_n hx hb dX6_order_110 rfl (lv_at hl 0 rfl) ?_
                refine fr_g6_46 hx hb hT hown hK hP (by decide) dX6_order_111 ?_
                refine lv_iload hx hb dX6_order_114 (lv_at hl 4 rfl) ?_
                refine lv_iload hx hb dX6_order_116 (lv_at hl 3 rfl) ?_
                obtain ⟨g17, h1⟩ := fo_gd h1 hN1
                refine fr_iast (k := 11) (n := 16) hx hb hK hP hD hS (by decide) (by decide) (fun _ _ => rfl) g17 dX6_order_118 (fun H locs hP hS => ?_)
                refine lv_aload_n hx hb dX6_order_119 rfl (lv_at hl 0 rfl) ?_
                refine lv_dup hx hb dX6_order_120 rfl ?_
                refine fr_g6_42 hx hb hT hown hK hP (by decide) dX6_order_121 ?_
                refine lv_iconst (v := 1) hx hb dX6_order_124 (by decide) ?_
                refine lv_iadd hx hb dX6_order_125 ?_
                refine fr_p6_42 hx hb hT hown hK hP hD hS (by decide) dX6_order_126 (fun H locs hP hS => ?_)
                refine lv_iinc (v := s34.1 + (1 : Int32)) (lv' := [(4, .int (s34.1 + (1 : Int32))), (0, .ref (ad (fr_lay 0 0))), (1, .int a1), (2, .long a2), (5, .int y59.1)]) hx hb dX6_order_129 hl (k := 3) rfl rfl (by decide) rfl (fun ls hl => ?_)
                refine lv_goto (tgt := 34) hx hb dX6_order_132 (by decide) ?_
                exact hL1 _ h1 _ _ ls hP hS (lv_sub hl [1, 2, 3, 0] rfl)
              have lp59 := fo_lp_ind (fun (s59 : Int32 × fo_S) => ∀ (H : Heap) (locs : List Loc) (ls : Array Slot), va_P D vwCl (fo_vx 25 ad (fr_ce ca ad s59.2)) H → va_S (fo_A 25 ad s.heap.size) s.heap H locs → lv_has ls 6 [(0, .ref (ad (fr_lay 0 0))), (1, .int a1), (2, .long a2), (4, .int s34.1), (5, .int s59.1)] → W p l e R s m args below meth c H locs 0 0 Q (F0 m 59 ls [])) (by
                  intro s59 o2 h2 hN2 hL2 hE2 H locs ls hP hS hl
                  unfold r_order_L59 at h2
                  refine lv_iload hx hb dX6_order_59 (lv_at hl 4 rfl) ?_
                  refine lv_if_le (tgt := 110) hx hb dX6_order_61 (by decide) (fun c8 => ?_) (fun c8 => ?_)
                  · replace h2 := fo_itT c8 h2
                    have hy9 := hE2 _ h2
                    subst hy9
                    exact ex59 _ _ ls hP hS (lv_sub hl [0, 1, 2, 3, 4] rfl)
                  · replace h2 := fo_itF c8 h2
                    refine lv_aload_n hx hb dX6_order_64 rfl (lv_at hl 0 rfl) ?_
                    refine lv_iload_n hx hb dX6_order_65 rfl (lv_at hl 1 rfl) ?_
                    refine lv_aload_n hx hb dX6_order_66 rfl (lv_at hl 0 rfl) ?_
                    refine fr_g6_46 hx hb hT hown hK hP (by decide) dX6_order_67 ?_
                    refine lv_iload hx hb dX6_order_70 (lv_at hl 4 rfl) ?_
                    refine lv_iconst (v := 1) hx hb dX6_order_72 (by decide) ?_
                    refine lv_isub hx hb dX6_order_73 ?_
                    obtain ⟨g10, h2⟩ := fo_gd h2 hN2
                    refine fr_iald (k := 11) (n := 16) hx hb hK hP (by decide) (by decide) (fun _ _ => rfl) g10 dX6_order_74 ?_
                    obtain ⟨x11, hx11, h2⟩ := fo_bd h2 hN2
                    refine fo_calli (va_runV (H := _) (As := [.int a1, .int (s59.2.1 11 0 (s59.1 - (1 : Int32)).toNatClampNeg)]) (rest := []) ⟨hx, hb, hml, hown, hT⟩ (c_r_rankOf l D ca ad _ hx11) (fr_c6_171 hT ⟨Nat.le_trans (Nat.le_of_ble_eq_true rfl) hRf, Nat.le_trans (Nat.le_of_ble_eq_true rfl) hRl⟩) ⟨fo_Pre_blind, fr_rc0 hK hP (by decide), fo_Pre_at hP hK (hD _)⟩ rfl rfl hl.1 rfl (lv_room (Nat.le_of_ble_eq_true rfl)) dX6_order_75 ⟨Nat.zero_le _, Nat.zero_le _⟩) hS (fun H locs hP hS => ?_)
                    refine lv_aload_n hx hb dX6_order_78 rfl (lv_at hl 0 rfl) ?_
                    refine lv_iload_n hx hb dX6_order_79 rfl (lv_at hl 1 rfl) ?_
                    refine lv_iload hx hb dX6_order_80 (lv_at hl 3 rfl) ?_
                    obtain ⟨x12, hx12, h2⟩ := fo_bd h2 hN2
                    refine fo_calli (va_runV (H := _) (As := [.int a1, .int s34.1]) (rest := [.int x11]) ⟨hx, hb, hml, hown, hT⟩ (c_r_rankOf l D ca ad _ hx12) (fr_c6_171 hT ⟨Nat.le_trans (Nat.le_of_ble_eq_true rfl) hRf, Nat.le_trans (Nat.le_of_ble_eq_true rfl) hRl⟩) ⟨fo_Pre_blind, fr_rc0 hK hP (by decide), fo_Pre_at hP hK (hD _)⟩ rfl rfl hl.1 rfl (lv_room (Nat.le_of_ble_eq_true rfl)) dX6_order_82 ⟨Nat.zero_le _, Nat.zero_le _⟩) hS (fun H locs hP hS => ?_)
                    refine lv_icmp_le (tgt := 110) hx hb dX6_order_85 (by decide) (fun c13 => ?_) (fun c13 => ?_)
                    · replace h2 := fo_itT c13 h2
                      have hy14 := hE2 _ h2
                      subst hy14
                      exact ex59 _ _ ls hP hS (lv_sub hl [0, 1, 2, 3, 4] rfl)
                    · replace h2 := fo_itF c13 h2
                      refine lv_aload_n hx hb dX6_order_88 rfl (lv_at hl 0 rfl) ?_
                      refine fr_g6_46 hx hb hT hown hK hP (by decide) dX6_order_89 ?_
                      refine lv_iload hx hb dX6_order_92 (lv_at hl 4 rfl) ?_
                      refine lv_aload_n hx hb dX6_order_94 rfl (lv_at hl 0 rfl) ?_
                      refine fr_g6_46 hx hb hT hown hK hP (by decide) dX6_order_95 ?_
                      refine lv_iload hx hb dX6_order_98 (lv_at hl 4 rfl) ?_
                      refine lv_iconst (v := 1) hx hb dX6_order_100 (by decide) ?_
                      refine lv_isub hx hb dX6_order_101 ?_
                      obtain ⟨g15, h2⟩ := fo_gd h2 hN2
                      refine fr_iald (k := 11) (n := 16) hx hb hK hP (by decide) (by decide) (fun _ _ => rfl) g15 dX6_order_102 ?_
                      obtain ⟨g16, h2⟩ := fo_gd h2 hN2
                      refine fr_iast (k := 11) (n := 16) hx hb hK hP hD hS (by decide) (by decide) (fun _ _ => rfl) g16 dX6_order_103 (fun H locs hP hS => ?_)
                      refine lv_iinc (v := s59.1 + (-1 : Int32)) (lv' := [(5, .int (s59.1 + (-1 : Int32))), (0, .ref (ad (fr_lay 0 0))), (1, .int a1), (2, .long a2), (4, .int s34.1)]) hx hb dX6_order_104 hl (k := 4) rfl rfl (by decide) rfl (fun ls hl => ?_)
                      refine lv_goto (tgt := 59) hx hb dX6_order_107 (by decide) ?_
                      exact hL2 _ h2 _ _ ls hP hS (lv_sub hl [1, 2, 3, 4, 0] rfl)) _ _ hy59
              exact lp59 _ _ ls hP hS (lv_sub hl [1, 2, 3, 4, 0] rfl)) _ _ hy34
      exact lp34 _ _ ls hP hS (lv_sub hl [1, 2, 3, 0] rfl)
    · replace h0 := fo_itF c3 h0
      refine lv_bipush (v := -4) hx hb dX6_order_23 (by decide) ?_
      have hr24 := Option.some.inj h0
      subst hr24
      exact kr _ ls _ _ dX6_order_25 hP hS
  · replace h0 := fo_itT c2 h0
    refine lv_bipush (v := -2) hx hb dX6_order_12 (by decide) ?_
    have hr25 := Option.some.inj h0
    subst hr25
    exact kr _ ls _ _ dX6_order_14 hP hS
theorem c_r_order (l : Launch) (D : va_G) (ca : Nat → ClassId) (ad : Nat → Nat) (sz : Nat) {σ : fo_S} {a1 : Int32} {a2 : Int64}  {res : Int32 × fo_S} (h0 : r_order σ a1 a2 = some res) : Met l yX6_order ws_r_order rm_r_order (fo_Pre 25 D vwCl (fr_tys ca) ad (fr_ce ca ad σ) sz [.ref (ad (fr_lay 0 0)), .int a1, .long a2]) (fo_PoI 25 D vwCl (fr_tys ca) ad (fr_ce ca ad res.2) sz res.1) 0 0 (fo_A 25 ad sz) :=
  fr_mkI (by decide) (fun C0 kr hP => b_r_order C0 (Nat.le_refl _) (Nat.le_refl _) (Nat.zero_le _)  h0 kr hP)
def r_at (σ : fo_S) (a1 : Int32) : Option (Int32) :=
  if a1 < 0 then (some (-1 : Int32)) else (if (σ.1 0 0 17) ≤ a1 then (some (-1 : Int32)) else (if fo_vi a1 16 then (some (σ.1 11 0 a1.toNatClampNeg)) else none))
set_option maxHeartbeats 4000000 in
set_option maxRecDepth 100000 in
theorem b_r_at {p : Program} {l : Launch} {e : Env} {R : Room} {s : State} {m : MethodId} {args : Array Value} {below : List Frame} {meth : Method} {c : Code} {Q : State → Prop} {D : va_G} {ca : Nat → ClassId} {ad : Nat → Nat} (C0 : fr_CX p s m args c cX6_at 2 RX6 D ca ad) (hRf : 0 ≤ R.frames) (hRl : 0 ≤ R.locals) (hRc : 0 ≤ R.cells) {σ : fo_S} {a1 : Int32}  {res : Int32} (h0 : r_at σ a1 = some res) (kr : ∀ (pc : Nat) (ls : Array Slot) (H : Heap) (locs : List Loc), decode cX6_at pc = .ok (.ireturn, 1) → va_P D vwCl (fo_vx 25 ad (fr_ce ca ad σ)) H → va_S (fo_A 25 ad s.heap.size) s.heap H locs → W p l e R s m args below meth c H locs 0 0 Q (F0 m pc ls [.int res])) (hP : va_P D vwCl (fo_vx 25 ad (fr_ce ca ad σ)) s.heap) : W p l e R s m args below meth c s.heap [] 0 0 Q (entryFrame m ([.ref (ad (fr_lay 0 0)), .int a1] : List Value).toArray 2) := by
  obtain ⟨hx, hb, hml, hown, hT, hK, hD⟩ := C0
  have hN0 : (some res) ≠ none := fun q => by cases q
  unfold r_at at h0
  have hS : va_S (fo_A 25 ad s.heap.size) s.heap s.heap [] := va_S.rf
  have hl := lv_entry ([.ref (ad (fr_lay 0 0)), .int a1]) (n := 2) (Nat.le_of_ble_eq_true rfl)
  rw [lg_entry_eq]
  generalize (lg_sl ([.ref (ad (fr_lay 0 0)), .int a1]) ++ List.replicate (2 - (lg_sl ([.ref (ad (fr_lay 0 0)), .int a1])).length) Slot.unset).toArray = ls at hl ⊢
  have hl : lv_has ls 2 [(0, .ref (ad (fr_lay 0 0))), (1, .int a1)] := hl
  refine lv_iload_n hx hb dX6_at_0 rfl (lv_at hl 1 rfl) ?_
  refine lv_if_lt (tgt := 21) hx hb dX6_at_1 (by decide) (fun c1 => ?_) (fun c1 => ?_)
  · replace h0 := fo_itT c1 h0
    refine lv_iconst (v := -1) hx hb dX6_at_21 (by decide) ?_
    have hr2 := Option.some.inj h0
    subst hr2
    exact kr _ ls _ _ dX6_at_22 hP hS
  · replace h0 := fo_itF c1 h0
    refine lv_iload_n hx hb dX6_at_4 rfl (lv_at hl 1 rfl) ?_
    refine lv_aload_n hx hb dX6_at_5 rfl (lv_at hl 0 rfl) ?_
    refine fr_g6_42 hx hb hT hown hK hP (by decide) dX6_at_6 ?_
    refine lv_icmp_ge (tgt := 21) hx hb dX6_at_9 (by decide) (fun c3 => ?_) (fun c3 => ?_)
    · replace h0 := fo_itT c3 h0
      refine lv_iconst (v := -1) hx hb dX6_at_21 (by decide) ?_
      have hr4 := Option.some.inj h0
      subst hr4
      exact kr _ ls _ _ dX6_at_22 hP hS
    · replace h0 := fo_itF c3 h0
      refine lv_aload_n hx hb dX6_at_12 rfl (lv_at hl 0 rfl) ?_
      refine fr_g6_46 hx hb hT hown hK hP (by decide) dX6_at_13 ?_
      refine lv_iload_n hx hb dX6_at_16 rfl (lv_at hl 1 rfl) ?_
      obtain ⟨g5, h0⟩ := fo_gd h0 hN0
      refine fr_iald (k := 11) (n := 16) hx hb hK hP (by decide) (by decide) (fun _ _ => rfl) g5 dX6_at_17 ?_
      refine lv_goto (tgt := 22) hx hb dX6_at_18 (by decide) ?_
      have hr6 := Option.some.inj h0
      subst hr6
      exact kr _ ls _ _ dX6_at_22 hP hS
theorem c_r_at (l : Launch) (D : va_G) (ca : Nat → ClassId) (ad : Nat → Nat) (sz : Nat) {σ : fo_S} {a1 : Int32}  {res : Int32} (h0 : r_at σ a1 = some res) : Met l yX6_at ws_r_at rm_r_at (fo_Pre 25 D vwCl (fr_tys ca) ad (fr_ce ca ad σ) sz [.ref (ad (fr_lay 0 0)), .int a1]) (fo_PoI 25 D vwCl (fr_tys ca) ad (fr_ce ca ad σ) sz res) 0 0 (fo_A 25 ad sz) :=
  fr_mkI (by decide) (fun C0 kr hP => b_r_at C0 (Nat.le_refl _) (Nat.le_refl _) (Nat.zero_le _)  h0 kr hP)
