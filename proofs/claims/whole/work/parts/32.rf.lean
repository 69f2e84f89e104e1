def r_play_L12  (s12 : Int32 × fo_S) : Option ((Int32 × fo_S) ⊕ (Int32 × fo_S)) :=
  if (s12.2.1 0 0 17) ≤ s12.1 then (some (.inr (s12.1, s12.2))) else (if fo_vi s12.1 16 then ( if fo_vi s12.1 16 then (some (.inl (s12.1 + (1 : Int32), fo_pI s12.2 14 0 s12.1.toNatClampNeg (s12.2.1 11 0 s12.1.toNatClampNeg)))) else none) else none)
def r_play_L50  (s50 : Int32 × Int32 × fo_S) : Option ((Int32 × Int32 × fo_S) ⊕ (Int32 × Int32 × fo_S)) :=
  if (s50.2.2.1 0 0 17) ≤ s50.2.1 then (some (.inr (s50.1, s50.2.1, s50.2.2))) else (if fo_vi s50.2.1 16 then ( if fo_vi (s50.2.2.1 11 0 s50.2.1.toNatClampNeg) 16 then ( if fo_vi (s50.2.2.1 11 0 s50.2.1.toNatClampNeg) 16 then ( if fo_vi (s50.2.2.1 11 0 s50.2.1.toNatClampNeg) 16 then ( if fo_vi (s50.2.2.1 11 0 s50.2.1.toNatClampNeg) 16 then ( if fo_vi (s50.2.2.1 11 0 s50.2.1.toNatClampNeg) 16 then (if ((fo_pJ (fo_pI s50.2.2 12 0 (s50.2.2.1 11 0 s50.2.1.toNatClampNeg).toNatClampNeg (s50.2.2.1 17 0 (s50.2.2.1 11 0 s50.2.1.toNatClampNeg).toNatClampNeg)) 13 0 (s50.2.2.1 11 0 s50.2.1.toNatClampNeg).toNatClampNeg ((fo_pI s50.2.2 12 0 (s50.2.2.1 11 0 s50.2.1.toNatClampNeg).toNatClampNeg (s50.2.2.1 17 0 (s50.2.2.1 11 0 s50.2.1.toNatClampNeg).toNatClampNeg)).2 18 0 (s50.2.2.1 11 0 s50.2.1.toNatClampNeg).toNatClampNeg)).1 12 0 (s50.2.2.1 11 0 s50.2.1.toNatClampNeg).toNatClampNeg) ≤ 0 then (some (.inl (s50.1 + (0 : Int32), s50.2.1 + (1 : Int32), fo_pJ (fo_pI s50.2.2 12 0 (s50.2.2.1 11 0 s50.2.1.toNatClampNeg).toNatClampNeg (s50.2.2.1 17 0 (s50.2.2.1 11 0 s50.2.1.toNatClampNeg).toNatClampNeg)) 13 0 (s50.2.2.1 11 0 s50.2.1.toNatClampNeg).toNatClampNeg ((fo_pI s50.2.2 12 0 (s50.2.2.1 11 0 s50.2.1.toNatClampNeg).toNatClampNeg (s50.2.2.1 17 0 (s50.2.2.1 11 0 s50.2.1.toNatClampNeg).toNatClampNeg)).2 18 0 (s50.2.2.1 11 0 s50.2.1.toNatClampNeg).toNatClampNeg)))) else (some (.inl (s50.1 + (1 : Int32), s50.2.1 + (1 : Int32), fo_pJ (fo_pI s50.2.2 12 0 (s50.2.2.1 11 0 s50.2.1.toNatClampNeg).toNatClampNeg (s50.2.2.1 17 0 (s50.2.2.1 11 0 s50.2.1.toNatClampNeg).toNatClampNeg)) 13 0 (s50.2.2.1 11 0 s50.2.1.toNatClampNeg).toNatClampNeg ((fo_pI s50.2.2 12 0 (s50.2.2.1 11 0 s50.2.1.toNatClampNeg).toNatClampNeg (s50.2.2.1 17 0 (s50.2.2.1 11 0 s50.2.1.toNatClampNeg).toNatClampNeg)).2 18 0 (s50.2.2.1 11 0 s50.2.1.toNatClampNeg).toNatClampNeg))))) else none) else none) else none) else none) else none) else none)
def r_play_L114  (s114 : Int32 × fo_S) : Option ((Int32 × fo_S) ⊕ (Int32 × fo_S)) :=
  if (s114.2.1 0 0 0) ≤ s114.1 then (some (.inr (s114.1, s114.2))) else (if fo_vi s114.1 8 then ( if fo_vi s114.1 8 then ( if fo_vi s114.1 8 then ( if fo_vi s114.1 8 then (some (.inl (s114.1 + (1 : Int32), fo_pJ (fo_pJ s114.2 1 0 s114.1.toNatClampNeg (s114.2.2 15 0 s114.1.toNatClampNeg)) 2 0 s114.1.toNatClampNeg ((fo_pJ s114.2 1 0 s114.1.toNatClampNeg (s114.2.2 15 0 s114.1.toNatClampNeg)).2 16 0 s114.1.toNatClampNeg)))) else none) else none) else none) else none)
def r_play (σ : fo_S)  : Option (Int32 × fo_S) :=
  (r_mayPlay σ).bind (fun x1 => if x1 = 0 then (some ((-4 : Int32), σ)) else ((fo_lp (r_play_L12) fo_FU ((0 : Int32), σ)).bind (fun y12 => (r_tryAll y12.2).bind (fun x7 =>  (r_begin x7).bind (fun x8 => (fo_lp (r_play_L50) fo_FU ((0 : Int32), (0 : Int32), x8)).bind (fun y50 => (fo_lp (r_play_L114) fo_FU ((0 : Int32), y50.2.2)).bind (fun y114 => some (y50.1, fo_pJ (fo_pJ y114.2 0 0 3 (y114.2.2 0 0 25)) 0 0 4 ((fo_pJ y114.2 0 0 3 (y114.2.2 0 0 25)).2 0 0 26)))))))))
set_option maxHeartbeats 4000000 in
set_option maxRecDepth 100000 in
theorem b_r_play {p : Program} {l : Launch} {e : Env} {R : Room} {s : State} {m : MethodId} {args : Array Value} {below : List Frame} {meth : Method} {c : Code} {Q : State → Prop} {D : va_G} {ca : Nat → ClassId} {ad : Nat → Nat} (C0 : fr_CX p s m args c cX6_play 4 RX6 D ca ad) (hRf : 2 ≤ R.frames) (hRl : 53 ≤ R.locals) (hRc : 0 ≤ R.cells) {σ : fo_S}   {res : Int32 × fo_S} (h0 : r_play σ = some res) (kr : ∀ (pc : Nat) (ls : Array Slot) (H : Heap) (locs : List Loc), decode cX6_play pc = .ok (.ireturn, 1) → va_P D vwCl (fo_vx 25 ad (fr_ce ca ad res.2)) H → va_S (fo_A 25 ad s.heap.size) s.heap H locs → W p l e R s m args below meth c H locs 0 0 Q (F0 m pc ls [.int res.1])) (hP : va_P D vwCl (fo_vx 25 ad (fr_ce ca ad σ)) s.heap) : W p l e R s m args below meth c s.heap [] 0 0 Q (entryFrame m ([.ref (ad (fr_lay 0 0))] : List Value).toArray 4) := by
  obtain ⟨hx, hb, hml, hown, hT, hK, hD⟩ := C0
  have hN0 : (some res) ≠ none := fun q => by cases q
  unfold r_play at h0
  have hS : va_S (fo_A 25 ad s.heap.size) s.heap s.heap [] := va_S.rf
  have hl := lv_entry ([.ref (ad (fr_lay 0 0))]) (n := 4) (Nat.le_of_ble_eq_true rfl)
  rw [lg_entry_eq]
  generalize (lg_sl ([.ref (ad (fr_lay 0 0))]) ++ List.replicate (4 - (lg_sl ([.ref (ad (fr_lay 0 0))])).length) Slot.unset).toArray = ls at hl ⊢
  have hl : lv_has ls 4 [(0, .ref (ad (fr_lay 0 0)))] := hl
  refine lv_aload_n hx hb dX6_play_0 rfl (lv_at hl 0 rfl) ?_
  obtain ⟨x1, hx1, h0⟩ := fo_bd h0 hN0
  refine fo_calli (va_runV (H := _) (As := []) (rest := []) ⟨hx, hb, hml, hown, hT⟩ (c_r_mayPlay l D ca ad _ hx1) (fr_c6_191 hT ⟨Nat.le_trans (Nat.le_of_ble_eq_true rfl) hRf, Nat.le_trans (Nat.le_of_ble_eq_true rfl) hRl⟩) ⟨fo_Pre_blind, fr_rc0 hK hP (by decide), fo_Pre_at hP hK (hD _)⟩ rfl rfl hl.1 rfl (lv_room (Nat.le_of_ble_eq_true rfl)) dX6_play_1 ⟨Nat.zero_le _, Nat.zero_le _⟩) hS (fun H locs hP hS => ?_)
  refine lv_if_ne (tgt := 10) hx hb dX6_play_4 (by decide) (fun c2 => ?_) (fun c2 => ?_)
  · replace h0 := fo_itF c2 h0
    refine lv_iconst (v := 0) hx hb dX6_play_10 (by decide) ?_
    refine lv_istore_n (lv' := [(1, .int (0 : Int32)), (0, .ref (ad (fr_lay 0 0)))]) hx hb dX6_play_11 rfl hl (by decide) rfl (fun ls hl => ?_)
    obtain ⟨y12, hy12, h0⟩ := fo_bd h0 hN0
    have ex12 : ∀ (H : Heap) (locs : List Loc) (ls : Array Slot), va_P D vwCl (fo_vx 25 ad (fr_ce ca ad y12.2)) H → va_S (fo_A 25 ad s.heap.size) s.heap H locs → lv_has ls 4 [(0, .ref (ad (fr_lay 0 0)))] → W p l e R s m args below meth c H locs 0 0 Q (F0 m 38 ls []) := by
      intro H locs ls hP hS hl
      refine lv_aload_n hx hb dX6_play_38 rfl (lv_at hl 0 rfl) ?_
      obtain ⟨x7, hx7, h0⟩ := fo_bd h0 hN0
      refine fo_callv (va_runV (H := _) (As := []) (rest := []) ⟨hx, hb, hml, hown, hT⟩ (c_r_tryAll l D ca ad _ hx7) (fr_c6_194 hT ⟨Nat.le_trans (Nat.le_of_ble_eq_true rfl) hRf, Nat.le_trans (Nat.le_of_ble_eq_true rfl) hRl⟩) ⟨fo_Pre_blind, fr_rc0 hK hP (by decide), fo_Pre_at hP hK (hD _)⟩ rfl rfl hl.1 rfl (lv_room (Nat.le_of_ble_eq_true rfl)) dX6_play_39 ⟨Nat.zero_le _, Nat.zero_le _⟩) hS (fun H locs hP hS => ?_)
      refine lv_aload_n hx hb dX6_play_42 rfl (lv_at hl 0 rfl) ?_
      obtain ⟨x8, hx8, h0⟩ := fo_bd h0 hN0
      refine fo_callv (va_runV (H := _) (As := []) (rest := []) ⟨hx, hb, hml, hown, hT⟩ (c_r_begin l D ca ad _ hx8) (fr_c6_197 hT ⟨Nat.le_trans (Nat.le_of_ble_eq_true rfl) hRf, Nat.le_trans (Nat.le_of_ble_eq_true rfl) hRl⟩) ⟨fo_Pre_blind, fr_rc0 hK hP (by decide), fo_Pre_at hP hK (hD _)⟩ rfl rfl hl.1 rfl (lv_room (Nat.le_of_ble_eq_true rfl)) dX6_play_43 ⟨Nat.zero_le _, Nat.zero_le _⟩) hS (fun H locs hP hS => ?_)
      refine lv_iconst (v := 0) hx hb dX6_play_46 (by decide) ?_
      refine lv_istore_n (lv' := [(1, .int (0 : Int32)), (0, .ref (ad (fr_lay 0 0)))]) hx hb dX6_play_47 rfl hl (by decide) rfl (fun ls hl => ?_)
      refine lv_iconst (v := 0) hx hb dX6_play_48 (by decide) ?_
      refine lv_istore_n (lv' := [(2, .int (0 : Int32)), (1, .int (0 : Int32)), (0, .ref (ad (fr_lay 0 0)))]) hx hb dX6_play_49 rfl hl (by decide) rfl (fun ls hl => ?_)
      obtain ⟨y50, hy50, h0⟩ := fo_bd h0 hN0
      have ex50 : ∀ (H : Heap) (locs : List Loc) (ls : Array Slot), va_P D vwCl (fo_vx 25 ad (fr_ce ca ad y50.2.2)) H → va_S (fo_A 25 ad s.heap.size) s.heap H locs → lv_has ls 4 [(0, .ref (ad (fr_lay 0 0))), (1, .int y50.1)] → W p l e R s m args below meth c H locs 0 0 Q (F0 m 112 ls []) := by
        intro H locs ls hP hS hl
        refine lv_iconst (v := 0) hx hb dX6_play_112 (by decide) ?_
        refine lv_istore_n (lv' := [(2, .int (0 : Int32)), (0, .ref (ad (fr_lay 0 0))), (1, .int y50.1)]) hx hb dX6_play_113 rfl hl (by decide) rfl (fun ls hl => ?_)
        obtain ⟨y114, hy114, h0⟩ := fo_bd h0 hN0
        have ex114 : ∀ (H : Heap) (locs : List Loc) (ls : Array Slot), va_P D vwCl (fo_vx 25 ad (fr_ce ca ad y114.2)) H → va_S (fo_A 25 ad s.heap.size) s.heap H locs → lv_has ls 4 [(0, .ref (ad (fr_lay 0 0))), (1, .int y50.1)] → W p l e R s m args below meth c H locs 0 0 Q (F0 m 152 ls []) := by
          intro H locs ls hP hS hl
          refine lv_aload_n hx hb dX6_play_152 rfl (lv_at hl 0 rfl) ?_
          refine lv_aload_n hx hb dX6_play_153 rfl (lv_at hl 0 rfl) ?_
          refine fr_g6_182 hx hb hT hown hK hP (by decide) dX6_play_154 ?_
          refine fr_p6_105 hx hb hT hown hK hP hD hS (by decide) dX6_play_157 (fun H locs hP hS => ?_)
          refine lv_aload_n hx hb dX6_play_160 rfl (lv_at hl 0 rfl) ?_
          refine lv_aload_n hx hb dX6_play_161 rfl (lv_at hl 0 rfl) ?_
          refine fr_g6_185 hx hb hT hown hK hP (by decide) dX6_play_162 ?_
          refine fr_p6_109 hx hb hT hown hK hP hD hS (by decide) dX6_play_165 (fun H locs hP hS => ?_)
          refine lv_iload_n hx hb dX6_play_168 rfl (lv_at hl 1 rfl) ?_
          have hr24 := Option.some.inj h0
          subst hr24
          exact kr _ ls _ _ dX6_play_169 hP hS
        have lp114 := fo_lp_ind (fun (s114 : Int32 × fo_S) => ∀ (H : Heap) (locs : List Loc) (ls : Array Slot), va_P D vwCl (fo_vx 25 ad (fr_ce ca ad s114.2)) H → va_S (fo_A 25 ad s.heap.size) s.heap H locs → lv_has ls 4 [(0, .ref (ad (fr_lay 0 0))), (1, .int y50.1), (2, .int s114.1)] → W p l e R s m args below meth c H locs 0 0 Q (F0 m 114 ls [])) (by
            intro s114 o1 h1 hN1 hL1 hE1 H locs ls hP hS hl
            unfold r_play_L114 at h1
            refine lv_iload_n hx hb dX6_play_114 rfl (lv_at hl 2 rfl) ?_
            refine lv_aload_n hx hb dX6_play_115 rfl (lv_at hl 0 rfl) ?_
            refine fr_g6_102 hx hb hT hown hK hP (by decide) dX6_play_116 ?_
            refine lv_icmp_ge (tgt := 152) hx hb dX6_play_119 (by decide) (fun c18 => ?_) (fun c18 => ?_)
            · replace h1 := fo_itT c18 h1
              have hy19 := hE1 _ h1
              subst hy19
              exact ex114 _ _ ls hP hS (lv_sub hl [0, 1] rfl)
            · replace h1 := fo_itF c18 h1
              refine lv_aload_n hx hb dX6_play_122 rfl (lv_at hl 0 rfl) ?_
              refine fr_g6_7 hx hb hT hown hK hP (by decide) dX6_play_123 ?_
              refine lv_iload_n hx hb dX6_play_126 rfl (lv_at hl 2 rfl) ?_
              refine lv_aload_n hx hb dX6_play_127 rfl (lv_at hl 0 rfl) ?_
              refine fr_g6_58 hx hb hT hown hK hP (by decide) dX6_play_128 ?_
              refine lv_iload_n hx hb dX6_play_131 rfl (lv_at hl 2 rfl) ?_
              obtain ⟨g20, h1⟩ := fo_gd h1 hN1
              refine fr_lald (k := 15) (n := 8) hx hb hK hP (by decide) (by decide) (fun _ _ => rfl) g20 dX6_play_132 ?_
              obtain ⟨g21, h1⟩ := fo_gd h1 hN1
              refine fr_last (k := 1) (n := 8) hx hb hK hP hD hS (by decide) (by decide) (fun _ _ => rfl) g21 dX6_play_133 (fun H locs hP hS => ?_)
              refine lv_aload_n hx hb dX6_play_134 rfl (lv_at hl 0 rfl) ?_
              refine fr_g6_13 hx hb hT hown hK hP (by decide) dX6_play_135 ?_
              refine lv_iload_n hx hb dX6_play_138 rfl (lv_at hl 2 rfl) ?_
              refine lv_aload_n hx hb dX6_play_139 rfl (lv_at hl 0 rfl) ?_
              refine fr_g6_61 hx hb hT hown hK hP (by decide) dX6_play_140 ?_
              refine lv_iload_n hx hb dX6_play_143 rfl (lv_at hl 2 rfl) ?_
              obtain ⟨g22, h1⟩ := fo_gd h1 hN1
              refine fr_lald (k := 16) (n := 8) hx hb hK hP (by decide) (by decide) (fun _ _ => rfl) g22 dX6_play_144 ?_
              obtain ⟨g23, h1⟩ := fo_gd h1 hN1
              refine fr_last (k := 2) (n := 8) hx hb hK hP hD hS (by decide) (by decide) (fun _ _ => rfl) g23 dX6_play_145 (fun H locs hP hS => ?_)
              refine lv_iinc (v := s114.1 + (1 : Int32)) (lv' := [(2, .int (s114.1 + (1 : Int32))), (0, .ref (ad (fr_lay 0 0))), (1, .int y50.1)]) hx hb dX6_play_146 hl (k := 2) rfl rfl (by decide) rfl (fun ls hl => ?_)
              refine lv_goto (tgt := 114) hx hb dX6_play_149 (by decide) ?_
              exact hL1 _ h1 _ _ ls hP hS (lv_sub hl [1, 2, 0] rfl)) _ _ hy114
        exact lp114 _ _ ls hP hS (lv_sub hl [1, 2, 0] rfl)
      have lp50 := fo_lp_ind (fun (s50 : Int32 × Int32 × fo_S) => ∀ (H : Heap) (locs : List Loc) (ls : Array Slot), va_P D vwCl (fo_vx 25 ad (fr_ce ca ad s50.2.2)) H → va_S (fo_A 25 ad s.heap.size) s.heap H locs → lv_has ls 4 [(0, .ref (ad (fr_lay 0 0))), (1, .int s50.1), (2, .int s50.2.1)] → W p l e R s m args below meth c H locs 0 0 Q (F0 m 50 ls [])) (by
          intro s50 o1 h1 hN1 hL1 hE1 H locs ls hP hS hl
          unfold r_play_L50 at h1
          refine lv_iload_n hx hb dX6_play_50 rfl (lv_at hl 2 rfl) ?_
          refine lv_aload_n hx hb dX6_play_51 rfl (lv_at hl 0 rfl) ?_
          refine fr_g6_42 hx hb hT hown hK hP (by decide) dX6_play_52 ?_
          refine lv_icmp_ge (tgt := 112) hx hb dX6_play_55 (by decide) (fun c9 => ?_) (fun c9 => ?_)
          · replace h1 := fo_itT c9 h1
            have hy10 := hE1 _ h1
            subst hy10
            exact ex50 _ _ ls hP hS (lv_sub hl [0, 1] rfl)
          · replace h1 := fo_itF c9 h1
            refine lv_aload_n hx hb dX6_play_58 rfl (lv_at hl 0 rfl) ?_
            refine fr_g6_46 hx hb hT hown hK hP (by decide) dX6_play_59 ?_
            refine lv_iload_n hx hb dX6_play_62 rfl (lv_at hl 2 rfl) ?_
            obtain ⟨g11, h1⟩ := fo_gd h1 hN1
            refine fr_iald (k := 11) (n := 16) hx hb hK hP (by decide) (by decide) (fun _ _ => rfl) g11 dX6_play_63 ?_
            refine lv_istore_n (lv' := [(3, .int (s50.2.2.1 11 0 s50.2.1.toNatClampNeg)), (0, .ref (ad (fr_lay 0 0))), (1, .int s50.1), (2, .int s50.2.1)]) hx hb dX6_play_64 rfl hl (by decide) rfl (fun ls hl => ?_)
            refine lv_aload_n hx hb dX6_play_65 rfl (lv_at hl 1 rfl) ?_
            refine fr_g6_49 hx hb hT hown hK hP (by decide) dX6_play_66 ?_
            refine lv_iload_n hx hb dX6_play_69 rfl (lv_at hl 0 rfl) ?_
            refine lv_aload_n hx hb dX6_play_70 rfl (lv_at hl 1 rfl) ?_
            refine fr_g6_64 hx hb hT hown hK hP (by decide) dX6_play_71 ?_
            refine lv_iload_n hx hb dX6_play_74 rfl (lv_at hl 0 rfl) ?_
            obtain ⟨g12, h1⟩ := fo_gd h1 hN1
            refine fr_iald (k := 17) (n := 16) hx hb hK hP (by decide) (by decide) (fun _ _ => rfl) g12 dX6_play_75 ?_
            obtain ⟨g13, h1⟩ := fo_gd h1 hN1
            refine fr_iast (k := 12) (n := 16) hx hb hK hP hD hS (by decide) (by decide) (fun _ _ => rfl) g13 dX6_play_76 (fun H locs hP hS => ?_)
            refine lv_aload_n hx hb dX6_play_77 rfl (lv_at hl 1 rfl) ?_
            refine fr_g6_52 hx hb hT hown hK hP (by decide) dX6_play_78 ?_
            refine lv_iload_n hx hb dX6_play_81 rfl (lv_at hl 0 rfl) ?_
            refine lv_aload_n hx hb dX6_play_82 rfl (lv_at hl 1 rfl) ?_
            refine fr_g6_67 hx hb hT hown hK hP (by decide) dX6_play_83 ?_
            refine lv_iload_n hx hb dX6_play_86 rfl (lv_at hl 0 rfl) ?_
            obtain ⟨g14, h1⟩ := fo_gd h1 hN1
            refine fr_lald (k := 18) (n := 16) hx hb hK hP (by decide) (by decide) (fun _ _ => rfl) g14 dX6_play_87 ?_
            obtain ⟨g15, h1⟩ := fo_gd h1 hN1
            refine fr_last (k := 13) (n := 16) hx hb hK hP hD hS (by decide) (by decide) (fun _ _ => rfl) g15 dX6_play_88 (fun H locs hP hS => ?_)
            refine lv_iload_n hx hb dX6_play_89 rfl (lv_at hl 2 rfl) ?_
            refine lv_aload_n hx hb dX6_play_90 rfl (lv_at hl 1 rfl) ?_
            refine fr_g6_49 hx hb hT hown hK hP (by decide) dX6_play_91 ?_
            refine lv_iload_n hx hb dX6_play_94 rfl (lv_at hl 0 rfl) ?_
            obtain ⟨g16, h1⟩ := fo_gd h1 hN1
            refine fr_iald (k := 12) (n := 16) hx hb hK hP (by decide) (by decide) (fun _ _ => rfl) g16 dX6_play_95 ?_
            refine lv_if_le (tgt := 103) hx hb dX6_play_96 (by decide) (fun c17 => ?_) (fun c17 => ?_)
            · replace h1 := fo_itT c17 h1
              refine lv_iconst (v := 0) hx hb dX6_play_103 (by decide) ?_
              refine lv_iadd hx hb dX6_play_104 ?_
              refine lv_istore_n (lv' := [(1, .int (s50.1 + (0 : Int32))), (3, .int (s50.2.2.1 11 0 s50.2.1.toNatClampNeg)), (0, .ref (ad (fr_lay 0 0))), (2, .int s50.2.1)]) hx hb dX6_play_105 rfl hl (by decide) rfl (fun ls hl => ?_)
              refine lv_iinc (v := s50.2.1 + (1 : Int32)) (lv' := [(2, .int (s50.2.1 + (1 : Int32))), (1, .int (s50.1 + (0 : Int32))), (3, .int (s50.2.2.1 11 0 s50.2.1.toNatClampNeg)), (0, .ref (ad (fr_lay 0 0)))]) hx hb dX6_play_106 hl (k := 3) rfl rfl (by decide) rfl (fun ls hl => ?_)
              refine lv_goto (tgt := 50) hx hb dX6_play_109 (by decide) ?_
              exact hL1 _ h1 _ _ ls hP hS (lv_sub hl [3, 1, 0] rfl)
            · replace h1 := fo_itF c17 h1
              refine lv_iconst (v := 1) hx hb dX6_play_99 (by decide) ?_
              refine lv_goto (tgt := 104) hx hb dX6_play_100 (by decide) ?_
              refine lv_iadd hx hb dX6_play_104 ?_
              refine lv_istore_n (lv' := [(1, .int (s50.1 + (1 : Int32))), (3, .int (s50.2.2.1 11 0 s50.2.1.toNatClampNeg)), (0, .ref (ad (fr_lay 0 0))), (2, .int s50.2.1)]) hx hb dX6_play_105 rfl hl (by decide) rfl (fun ls hl => ?_)
              refine lv_iinc (v := s50.2.1 + (1 : Int32)) (lv' := [(2, .int (s50.2.1 + (1 : Int32))), (1, .int (s50.1 + (1 : Int32))), (3, .int (s50.2.2.1 11 0 s50.2.1.toNatClampNeg)), (0, .ref (ad (fr_lay 0 0)))]) hx hb dX6_play_106 hl (k := 3) rfl rfl (by decide) rfl (fun ls hl => ?_)
              refine lv_goto (tgt := 50) hx hb dX6_play_109 (by decide) ?_
              exact hL1 _ h1 _ _ ls hP hS (lv_sub hl [3, 1, 0] rfl)) _ _ hy50
      exact lp50 _ _ ls hP hS (lv_sub hl [2, 1, 0] rfl)
    have lp12 := fo_lp_ind (fun (s12 : Int32 × fo_S) => ∀ (H : Heap) (locs : List Loc) (ls : Array Slot), va_P D vwCl (fo_vx 25 ad (fr_ce ca ad s12.2)) H → va_S (fo_A 25 ad s.heap.size) s.heap H locs → lv_has ls 4 [(0, .ref (ad (fr_lay 0 0))), (1, .int s12.1)] → W p l e R s m args below meth c H locs 0 0 Q (F0 m 12 ls [])) (by
        intro s12 o1 h1 hN1 hL1 hE1 H locs ls hP hS hl
        unfold r_play_L12 at h1
        refine lv_iload_n hx hb dX6_play_12 rfl (lv_at hl 1 rfl) ?_
        refine lv_aload_n hx hb dX6_play_13 rfl (lv_at hl 0 rfl) ?_
        refine fr_g6_42 hx hb hT hown hK hP (by decide) dX6_play_14 ?_
        refine lv_icmp_ge (tgt := 38) hx hb dX6_play_17 (by decide) (fun c3 => ?_) (fun c3 => ?_)
        · replace h1 := fo_itT c3 h1
          have hy4 := hE1 _ h1
          subst hy4
          exact ex12 _ _ ls hP hS (lv_sub hl [0] rfl)
        · replace h1 := fo_itF c3 h1
          refine lv_aload_n hx hb dX6_play_20 rfl (lv_at hl 0 rfl) ?_
          refine fr_g6_55 hx hb hT hown hK hP (by decide) dX6_play_21 ?_
          refine lv_iload_n hx hb dX6_play_24 rfl (lv_at hl 1 rfl) ?_
          refine lv_aload_n hx hb dX6_play_25 rfl (lv_at hl 0 rfl) ?_
          refine fr_g6_46 hx hb hT hown hK hP (by decide) dX6_play_26 ?_
          refine lv_iload_n hx hb dX6_play_29 rfl (lv_at hl 1 rfl) ?_
          obtain ⟨g5, h1⟩ := fo_gd h1 hN1
          refine fr_iald (k := 11) (n := 16) hx hb hK hP (by decide) (by decide) (fun _ _ => rfl) g5 dX6_play_30 ?_
          obtain ⟨g6, h1⟩ := fo_gd h1 hN1
          refine fr_iast (k := 14) (n := 16) hx hb hK hP hD hS (by decide) (by decide) (fun _ _ => rfl) g6 dX6_play_31 (fun H locs hP hS => ?_)
          refine lv_iinc (v := s12.1 + (1 : Int32)) (lv' := [(1, .int (s12.1 + (1 : Int32))), (0, .ref (ad (fr_lay 0 0)))]) hx hb dX6_play_32 hl (k := 1) rfl rfl (by decide) rfl (fun ls hl => ?_)
          refine lv_goto (tgt := 12) hx hb dX6_play_35 (by decide) ?_
          exact hL1 _ h1 _ _ ls hP hS (lv_sub hl [1, 0] rfl)) _ _ hy12
    exact lp12 _ _ ls hP hS (lv_sub hl [1, 0] rfl)
  · replace h0 := fo_itT c2 h0
    refine lv_bipush (v := -4) hx hb dX6_play_7 (by decide) ?_
    have hr25 := Option.some.inj h0
    subst hr25
    exact kr _ ls _ _ dX6_play_9 hP hS
theorem c_r_play (l : Launch) (D : va_G) (ca : Nat → ClassId) (ad : Nat → Nat) (sz : Nat) {σ : fo_S}   {res : Int32 × fo_S} (h0 : r_play σ = some res) : Met l yX6_play ws_r_play rm_r_play (fo_Pre 25 D vwCl (fr_tys ca) ad (fr_ce ca ad σ) sz [.ref (ad (fr_lay 0 0))]) (fo_PoI 25 D vwCl (fr_tys ca) ad (fr_ce ca ad res.2) sz res.1) 0 0 (fo_A 25 ad sz) :=
  fr_mkI (by decide) (fun C0 kr hP => b_r_play C0 (Nat.le_refl _) (Nat.le_refl _) (Nat.zero_le _)  h0 kr hP)
def r_market_L2  (s2 : Int32 × fo_S) : Option ((Int32 × fo_S) ⊕ (Int32 × fo_S)) :=
  if (8 : Int32) ≤ s2.1 then (some (.inr (s2.1, s2.2))) else (if fo_vi s2.1 8 then ( (some (fo_pJ s2.2 23 0 s2.1.toNatClampNeg (0 : Int64))).bind (fun w4 =>  if fo_vi s2.1 8 then ( (some (fo_pJ w4 24 0 s2.1.toNatClampNeg (0 : Int64))).bind (fun w6 => some (.inl (s2.1 + (1 : Int32), w6)))) else none)) else none)
def r_market_J259 (s40 : Int32 × fo_S) (w17 : fo_S) (j259 : Int64) : Option ((Int32 × fo_S) ⊕ (Int32 × fo_S)) :=
  if fo_vi (s40.2.1 3 0 (s40.2.1 11 0 s40.1.toNatClampNeg).toNatClampNeg) 8 then ( (some (fo_pJ w17 24 0 (s40.2.1 3 0 (s40.2.1 11 0 s40.1.toNatClampNeg).toNatClampNeg).toNatClampNeg ((w17.2 24 0 (s40.2.1 3 0 (s40.2.1 11 0 s40.1.toNatClampNeg).toNatClampNeg).toNatClampNeg) + j259))).bind (fun w21 =>  if fo_vi (s40.2.1 11 0 s40.1.toNatClampNeg) 16 then (if (w21.1 22 0 (s40.2.1 11 0 s40.1.toNatClampNeg).toNatClampNeg) = 0 then ((some (fo_pJ w21 0 0 36 ((w21.2 0 0 36) + (0 : Int64)))).bind (fun w24 => some (.inl (s40.1 + (1 : Int32), w24)))) else (if fo_vi (s40.2.1 11 0 s40.1.toNatClampNeg) 16 then ( (some (fo_pJ w21 0 0 36 ((w21.2 0 0 36) + ((w21.1 9 0 (s40.2.1 11 0 s40.1.toNatClampNeg).toNatClampNeg).toInt64)))).bind (fun w26 => some (.inl (s40.1 + (1 : Int32), w26)))) else none)) else none)) else none
def r_market_J230 (s40 : Int32 × fo_S) (j230 : Int32) : Option ((Int32 × fo_S) ⊕ (Int32 × fo_S)) :=
  if fo_vi (s40.2.1 11 0 s40.1.toNatClampNeg) 16 then ( (some (fo_pI s40.2 22 0 (s40.2.1 11 0 s40.1.toNatClampNeg).toNatClampNeg (vp_nar .boolean j230))).bind (fun w17 =>  if fo_vi (s40.2.1 3 0 (s40.2.1 11 0 s40.1.toNatClampNeg).toNatClampNeg) 8 then ( if fo_vi (s40.2.1 11 0 s40.1.toNatClampNeg) 16 then (if (w17.1 22 0 (s40.2.1 11 0 s40.1.toNatClampNeg).toNatClampNeg) = 0 then (r_market_J259 s40 w17 (0 : Int64)) else (if fo_vi (s40.2.1 11 0 s40.1.toNatClampNeg) 16 then (r_market_J259 s40 w17 ((w17.1 9 0 (s40.2.1 11 0 s40.1.toNatClampNeg).toNatClampNeg).toInt64)) else none)) else none) else none)) else none
def r_market_J150 (s40 : Int32 × fo_S) (w36 : fo_S) (j150 : Int64) : Option ((Int32 × fo_S) ⊕ (Int32 × fo_S)) :=
  if fo_vi (s40.2.1 3 0 (s40.2.1 11 0 s40.1.toNatClampNeg).toNatClampNeg) 8 then ( (some (fo_pJ w36 23 0 (s40.2.1 3 0 (s40.2.1 11 0 s40.1.toNatClampNeg).toNatClampNeg).toNatClampNeg ((w36.2 23 0 (s40.2.1 3 0 (s40.2.1 11 0 s40.1.toNatClampNeg).toNatClampNeg).toNatClampNeg) + j150))).bind (fun w40 =>  if fo_vi (s40.2.1 11 0 s40.1.toNatClampNeg) 16 then (if (w40.1 22 0 (s40.2.1 11 0 s40.1.toNatClampNeg).toNatClampNeg) = 0 then ((some (fo_pJ w40 0 0 35 ((w40.2 0 0 35) + (0 : Int64)))).bind (fun w43 => some (.inl (s40.1 + (1 : Int32), w43)))) else (if fo_vi (s40.2.1 11 0 s40.1.toNatClampNeg) 16 then ( (some (fo_pJ w40 0 0 35 ((w40.2 0 0 35) + ((w40.1 9 0 (s40.2.1 11 0 s40.1.toNatClampNeg).toNatClampNeg).toInt64)))).bind (fun w45 => some (.inl (s40.1 + (1 : Int32), w45)))) else none)) else none)) else none
def r_market_J121 (s40 : Int32 × fo_S) (j121 : Int32) : Option ((Int32 × fo_S) ⊕ (Int32 × fo_S)) :=
  if fo_vi (s40.2.1 11 0 s40.1.toNatClampNeg) 16 then ( (some (fo_pI s40.2 22 0 (s40.2.1 11 0 s40.1.toNatClampNeg).toNatClampNeg (vp_nar .boolean j121))).bind (fun w36 =>  if fo_vi (s40.2.1 3 0 (s40.2.1 11 0 s40.1.toNatClampNeg).toNatClampNeg) 8 then ( if fo_vi (s40.2.1 11 0 s40.1.toNatClampNeg) 16 then (if (w36.1 22 0 (s40.2.1 11 0 s40.1.toNatClampNeg).toNatClampNeg) = 0 then (r_market_J150 s40 w36 (0 : Int64)) else (if fo_vi (s40.2.1 11 0 s40.1.toNatClampNeg) 16 then (r_market_J150 s40 w36 ((w36.1 9 0 (s40.2.1 11 0 s40.1.toNatClampNeg).toNatClampNeg).toInt64)) else none)) else none) else none)) else none
def r_market_L40 (a1 : Int32) (s40 : Int32 × fo_S) : Option ((Int32 × fo_S) ⊕ (Int32 × fo_S)) :=
  if (s40.2.1 0 0 17) ≤ s40.1 then (some (.inr (s40.1, s40.2))) else (if fo_vi s40.1 16 then ( if fo_vi (s40.2.1 11 0 s40.1.toNatClampNeg) 16 then ( if fo_vi (s40.2.1 11 0 s40.1.toNatClampNeg) 16 then (if (s40.2.1 7 0 (s40.2.1 11 0 s40.1.toNatClampNeg).toNatClampNeg) = 0 then (if fo_vi (s40.2.1 11 0 s40.1.toNatClampNeg) 16 then (if (s40.2.1 8 0 (s40.2.1 11 0 s40.1.toNatClampNeg).toNatClampNeg) < a1 then (r_market_J121 s40 (0 : Int32)) else (if fo_vi (s40.2.1 3 0 (s40.2.1 11 0 s40.1.toNatClampNeg).toNatClampNeg) 8 then ( if fo_vi (s40.2.1 11 0 s40.1.toNatClampNeg) 16 then ( if fo_vi (s40.2.1 3 0 (s40.2.1 11 0 s40.1.toNatClampNeg).toNatClampNeg) 8 then (if 0 < (lg_cmp (((s40.2.2 23 0 (s40.2.1 3 0 (s40.2.1 11 0 s40.1.toNatClampNeg).toNatClampNeg).toNatClampNeg) + ((s40.2.1 9 0 (s40.2.1 11 0 s40.1.toNatClampNeg).toNatClampNeg).toInt64)) * a1.toInt64) (s40.2.2 1 0 (s40.2.1 3 0 (s40.2.1 11 0 s40.1.toNatClampNeg).toNatClampNeg).toNatClampNeg)) then (r_market_J121 s40 (0 : Int32)) else (r_market_J121 s40 (1 : Int32))) else none) else none) else none)) else none) else (if fo_vi (s40.2.1 11 0 s40.1.toNatClampNeg) 16 then (if a1 < (s40.2.1 8 0 (s40.2.1 11 0 s40.1.toNatClampNeg).toNatClampNeg) then (r_market_J230 s40 (0 : Int32)) else (if fo_vi (s40.2.1 3 0 (s40.2.1 11 0 s40.1.toNatClampNeg).toNatClampNeg) 8 then ( if fo_vi (s40.2.1 11 0 s40.1.toNatClampNeg) 16 then ( if fo_vi (s40.2.1 3 0 (s40.2.1 11 0 s40.1.toNatClampNeg).toNatClampNeg) 8 then (if 0 < (lg_cmp ((s40.2.2 24 0 (s40.2.1 3 0 (s40.2.1 11 0 s40.1.toNatClampNeg).toNatClampNeg).toNatClampNeg) + ((s40.2.1 9 0 (s40.2.1 11 0 s40.1.toNatClampNeg).toNatClampNeg).toInt64)) (s40.2.2 2 0 (s40.2.1 3 0 (s40.2.1 11 0 s40.1.toNatClampNeg).toNatClampNeg).toNatClampNeg)) then (r_market_J230 s40 (0 : Int32)) else (r_market_J230 s40 (1 : Int32))) else none) else none) else none)) else none)) else none) else none) else none)
def r_market (σ : fo_S) (a1 : Int32) : Option (Int64 × fo_S) :=
  (fo_lp (r_market_L2) fo_FU ((0 : Int32), σ)).bind (fun y2 => (some (fo_pJ y2.2 0 0 35 (0 : Int64))).bind (fun w7 =>  (some (fo_pJ w7 0 0 36 (0 : Int64))).bind (fun w8 => (fo_lp (r_market_L40 a1) fo_FU ((0 : Int32), w8)).bind (fun y40 => if 0 ≤ (lg_cmp (y40.2.2 0 0 35) (y40.2.2 0 0 36)) then (some (y40.2.2 0 0 36, y40.2)) else (some (y40.2.2 0 0 35, y40.2))))))
set_option maxHeartbeats 4000000 in
set_option maxRecDepth 100000 in
theorem b_r_market {p : Program} {l : Launch} {e : Env} {R : Room} {s : State} {m : MethodId} {args : Array Value} {below : List Frame} {meth : Method} {c : Code} {Q : State → Prop} {D : va_G} {ca : Nat → ClassId} {ad : Nat → Nat} (C0 : fr_CX p s m args c cX6_market 5 RX6 D ca ad) (hRf : 0 ≤ R.frames) (hRl : 0 ≤ R.locals) (hRc : 0 ≤ R.cells) {σ : fo_S} {a1 : Int32}  {res : Int64 × fo_S} (h0 : r_market σ a1 = some res) (kr : ∀ (pc : Nat) (ls : Array Slot) (H : Heap) (locs : List Loc), decode cX6_market pc = .ok (.lreturn, 1) → va_P D vwCl (fo_vx 25 ad (fr_ce ca ad res.2)) H → va_S (fo_A 25 ad s.heap.size) s.heap H locs → W p l e R s m args below meth c H locs 0 0 Q (F0 m pc ls [.long res.1])) (hP : va_P D vwCl (fo_vx 25 ad (fr_ce ca ad σ)) s.heap) : W p l e R s m args below meth c s.heap [] 0 0 Q (entryFrame m ([.ref (ad (fr_lay 0 0)), .int a1] : List Value).toArray 5) := by
  obtain ⟨hx, hb, hml, hown, hT, hK, hD⟩ := C0
  have hN0 : (some res) ≠ none := fun q => by cases q
  unfold r_market at h0
  have hS : va_S (fo_A 25 ad s.heap.size) s.heap s.heap [] := va_S.rf
  have hl := lv_entry ([.ref (ad (fr_lay 0 0)), .int a1]) (n := 5) (Nat.le_of_ble_eq_true rfl)
  rw [lg_entry_eq]
  generalize (lg_sl ([.ref (ad (fr_lay 0 0)), .int a1]) ++ List.replicate (5 - (lg_sl ([.ref (ad (fr_lay 0 0)), .int a1])).length) Slot.unset).toArray = ls at hl ⊢
  have hl : lv_has ls 5 [(0, .ref (ad (fr_lay 0 0))), (1, .int a1)] := hl
  refine lv_iconst (v := 0) hx hb dX6_market_0 (by decide) ?_
  refine lv_istore_n (lv' := [(2, .int (0 : Int32)), (0, .ref (ad (fr_lay 0 0))), (1, .int a1)]) hx hb dX6_market_1 rfl hl (by decide) rfl (fun ls hl => ?_)
  obtain ⟨y2, hy2, h0⟩ := fo_bd h0 hN0
  have ex2 : ∀ (H : Heap) (locs : List Loc) (ls : Array Slot), va_P D vwCl (fo_vx 25 ad (fr_ce ca ad y2.2)) H → va_S (fo_A 25 ad s.heap.size) s.heap H locs → lv_has ls 5 [(0, .ref (ad (fr_lay 0 0))), (1, .int a1)] → W p l e R s m args below meth c H locs 0 0 Q (F0 m 28 ls []) := by
    intro H locs ls hP hS hl
    refine lv_aload_n hx hb dX6_market_28 rfl (lv_at hl 0 rfl) ?_
    refine lv_lconst (v := 0) hx hb dX6_market_29 (by decide) ?_
    refine fr_p6_200 hx hb hT hown hK hP hD hS (by decide) dX6_market_30 (fun H locs hP hS => ?_)
    obtain ⟨w7, hw7, h0⟩ := fo_bd h0 hN0
    replace hw7 := Option.some.inj hw7
    rw [hw7] at hP
    refine lv_aload_n hx hb dX6_market_33 rfl (lv_at hl 0 rfl) ?_
    refine lv_lconst (v := 0) hx hb dX6_market_34 (by decide) ?_
    refine fr_p6_203 hx hb hT hown hK hP hD hS (by decide) dX6_market_35 (fun H locs hP hS => ?_)
    obtain ⟨w8, hw8, h0⟩ := fo_bd h0 hN0
    replace hw8 := Option.some.inj hw8
    rw [hw8] at hP
    refine lv_iconst (v := 0) hx hb dX6_market_38 (by decide) ?_
    refine lv_istore_n (lv' := [(2, .int (0 : Int32)), (0, .ref (ad (fr_lay 0 0))), (1, .int a1)]) hx hb dX6_market_39 rfl hl (by decide) rfl (fun ls hl => ?_)
    obtain ⟨y40, hy40, h0⟩ := fo_bd h0 hN0
    have ex40 : ∀ (H : Heap) (locs : List Loc) (ls : Array Slot), va_P D vwCl (fo_vx 25 ad (fr_ce ca ad y40.2)) H → va_S (fo_A 25 ad s.heap.size) s.heap H locs → lv_has ls 5 [(0, .ref (ad (fr_lay 0 0)))] → W p l e R s m args below meth c H locs 0 0 Q (F0 m 296 ls []) := by
      intro H locs ls hP hS hl
      refine lv_aload_n hx hb dX6_market_296 rfl (lv_at hl 0 rfl) ?_
      refine fr_g6_200 hx hb hT hown hK hP (by decide) dX6_market_297 ?_
      refine lv_aload_n hx hb dX6_market_300 rfl (lv_at hl 0 rfl) ?_
      refine fr_g6_203 hx hb hT hown hK hP (by decide) dX6_market_301 ?_
      refine W.lcmp hx hb dX6_market_304 ?_
      refine lv_if_ge (tgt := 315) hx hb dX6_market_305 (by decide) (fun c53 => ?_) (fun c53 => ?_)
      · replace h0 := fo_itT c53 h0
        refine lv_aload_n hx hb dX6_market_315 rfl (lv_at hl 0 rfl) ?_
        refine fr_g6_203 hx hb hT hown hK hP (by decide) dX6_market_316 ?_
        have hr54 := Option.some.inj h0
        subst hr54
        exact kr _ ls _ _ dX6_market_319 hP hS
      · replace h0 := fo_itF c53 h0
        refine lv_aload_n hx hb dX6_market_308 rfl (lv_at hl 0 rfl) ?_
        refine fr_g6_200 hx hb hT hown hK hP (by decide) dX6_market_309 ?_
        refine lv_goto (tgt := 319) hx hb dX6_market_312 (by decide) ?_
        have hr55 := Option.some.inj h0
        subst hr55
        exact kr _ ls _ _ dX6_market_319 hP hS
    have lp40 := fo_lp_ind (fun (s40 : Int32 × fo_S) => ∀ (H : Heap) (locs : List Loc) (ls : Array Slot), va_P D vwCl (fo_vx 25 ad (fr_ce ca ad s40.2)) H → va_S (fo_A 25 ad s.heap.size) s.heap H locs → lv_has ls 5 [(0, .ref (ad (fr_lay 0 0))), (1, .int a1), (2, .int s40.1)] → W p l e R s m args below meth c H locs 0 0 Q (F0 m 40 ls [])) (by
        intro s40 o1 h1 hN1 hL1 hE1 H locs ls hP hS hl
        unfold r_market_L40 at h1
        refine lv_iload_n hx hb dX6_market_40 rfl (lv_at hl 2 rfl) ?_
        refine lv_aload_n hx hb dX6_market_41 rfl (lv_at hl 0 rfl) ?_
        refine fr_g6_42 hx hb hT hown hK hP (by decide) dX6_market_42 ?_
        refine lv_icmp_ge (tgt := 296) hx hb dX6_market_45 (by decide) (fun c9 => ?_) (fun c9 => ?_)
        · replace h1 := fo_itT c9 h1
          have hy10 := hE1 _ h1
          subst hy10
          exact ex40 _ _ ls hP hS (lv_sub hl [0] rfl)
        · replace h1 := fo_itF c9 h1
          refine lv_aload_n hx hb dX6_market_48 rfl (lv_at hl 0 rfl) ?_
          refine fr_g6_46 hx hb hT hown hK hP (by decide) dX6_market_49 ?_
          refine lv_iload_n hx hb dX6_market_52 rfl (lv_at hl 2 rfl) ?_
          obtain ⟨g11, h1⟩ := fo_gd h1 hN1
          refine fr_iald (k := 11) (n := 16) hx hb hK hP (by decide) (by decide) (fun _ _ => rfl) g11 dX6_market_53 ?_
          refine lv_istore_n (lv' := [(3, .int (s40.2.1 11 0 s40.1.toNatClampNeg)), (0, .ref (ad (fr_lay 0 0))), (1, .int a1), (2, .int s40.1)]) hx hb dX6_market_54 rfl hl (by decide) rfl (fun ls hl => ?_)
          refine lv_aload_n hx hb dX6_market_55 rfl (lv_at hl 1 rfl) ?_
          refine fr_g6_16 hx hb hT hown hK hP (by decide) dX6_market_56 ?_
          refine lv_iload_n hx hb dX6_market_59 rfl (lv_at hl 0 rfl) ?_
          obtain ⟨g12, h1⟩ := fo_gd h1 hN1
          refine fr_iald (k := 3) (n := 16) hx hb hK hP (by decide) (by decide) (fun _ _ => rfl) g12 dX6_market_60 ?_
          refine lv_istore (lv' := [(4, .int (s40.2.1 3 0 (s40.2.1 11 0 s40.1.toNatClampNeg).toNatClampNeg)), (3, .int (s40.2.1 11 0 s40.1.toNatClampNeg)), (0, .ref (ad (fr_lay 0 0))), (1, .int a1), (2, .int s40.1)]) hx hb dX6_market_61 hl (by decide) rfl (fun ls hl => ?_)
          refine lv_aload_n hx hb dX6_market_63 rfl (lv_at hl 2 rfl) ?_
          refine fr_g6_30 hx hb hT hown hK hP (by decide) dX6_market_64 ?_
          refine lv_iload_n hx hb dX6_market_67 rfl (lv_at hl 1 rfl) ?_
          obtain ⟨g13, h1⟩ := fo_gd h1 hN1
          refine fr_iald (k := 7) (n := 16) hx hb hK hP (by decide) (by decide) (fun _ _ => rfl) g13 dX6_market_68 ?_
          refine lv_if_ne (tgt := 184) hx hb dX6_market_69 (by decide) (fun c14 => ?_) (fun c14 => ?_)
          · replace h1 := fo_itF c14 h1
            refine lv_aload_n hx hb dX6_market_184 rfl (lv_at hl 2 rfl) ?_
            refine fr_g6_79 hx hb hT hown hK hP (by decide) dX6_market_185 ?_
            refine lv_iload_n hx hb dX6_market_188 rfl (lv_at hl 1 rfl) ?_
            refine lv_aload_n hx hb dX6_market_189 rfl (lv_at hl 2 rfl) ?_
            refine fr_g6_33 hx hb hT hown hK hP (by decide) dX6_market_190 ?_
            refine lv_iload_n hx hb dX6_market_193 rfl (lv_at hl 1 rfl) ?_
            obtain ⟨g15, h1⟩ := fo_gd h1 hN1
            refine fr_iald (k := 8) (n := 16) hx hb hK hP (by decide) (by decide) (fun _ _ => rfl) g15 dX6_market_194 ?_
            refine lv_iload_n hx hb dX6_market_195 rfl (lv_at hl 3 rfl) ?_
            have J230 : ∀ j230 : Int32, r_market_J230 s40 j230 = o1 → ∀ (H : Heap) (locs : List Loc) (ls : Array Slot), va_P D vwCl (fo_vx 25 ad (fr_ce ca ad s40.2)) H → va_S (fo_A 25 ad s.heap.size) s.heap H locs → lv_has ls 5 [(0, .ref (ad (fr_lay 0 0))), (1, .int a1), (2, .int s40.1), (3, .int (s40.2.1 11 0 s40.1.toNatClampNeg)), (4, .int (s40.2.1 3 0 (s40.2.1 11 0 s40.1.toNatClampNeg).toNatClampNeg))] → W p l e R s m args below meth c H locs 0 0 Q (F0 m 230 ls [.int j230, .int (s40.2.1 11 0 s40.1.toNatClampNeg), .ref (ad (fr_lay 22 0))]) := by
              intro j230 h1 H locs ls hP hS hl
              unfold r_market_J230 at h1
              obtain ⟨g16, h1⟩ := fo_gd h1 hN1
              refine fr_zast (k := 22) (n := 16) hx hb hK hP hD hS (by decide) (by decide) (fun _ _ => rfl) g16 dX6_market_230 (fun H locs hP hS => ?_)
              obtain ⟨w17, hw17, h1⟩ := fo_bd h1 hN1
              replace hw17 := Option.some.inj hw17
              rw [hw17] at hP
              refine lv_aload_n hx hb dX6_market_231 rfl (lv_at hl 0 rfl) ?_
              refine fr_g6_85 hx hb hT hown hK hP (by decide) dX6_market_232 ?_
              refine lv_iload hx hb dX6_market_235 (lv_at hl 4 rfl) ?_
              refine lv_dup2_11 hx hb dX6_market_237 rfl rfl ?_
              obtain ⟨g18, h1⟩ := fo_gd h1 hN1
              refine fr_lald (k := 24) (n := 8) hx hb hK hP (by decide) (by decide) (fun _ _ => rfl) g18 dX6_market_238 ?_
              refine lv_aload_n hx hb dX6_market_239 rfl (lv_at hl 0 rfl) ?_
              refine fr_g6_79 hx hb hT hown hK hP (by decide) dX6_market_240 ?_
              refine lv_iload_n hx hb dX6_market_243 rfl (lv_at hl 3 rfl) ?_
              obtain ⟨g19, h1⟩ := fo_gd h1 hN1
              refine fr_zald (k := 22) (n := 16) hx hb hK hP (by decide) (by decide) (fun _ _ => rfl) g19 dX6_market_244 ?_
              have J259 : ∀ j259 : Int64, r_market_J259 s40 w17 j259 = o1 → ∀ (H : Heap) (locs : List Loc) (ls : Array Slot), va_P D vwCl (fo_vx 25 ad (fr_ce ca ad w17)) H → va_S (fo_A 25 ad s.heap.size) s.heap H locs → lv_has ls 5 [(0, .ref (ad (fr_lay 0 0))), (1, .int a1), (2, .int s40.1), (3, .int (s40.2.1 11 0 s40.1.toNatClampNeg))] → W p l e R s m args below meth c H locs 0 0 Q (F0 m 259 ls [.long j259, .long (w17.2 24 0 (s40.2.1 3 0 (s40.2.1 11 0 s40.1.toNatClampNeg).toNatClampNeg).toNatClampNeg), .int (s40.2.1 3 0 (s40.2.1 11 0 s40.1.toNatClampNeg).toNatClampNeg), .ref (ad (fr_lay 24 0))]) := by
                intro j259 h1 H locs ls hP hS hl
                unfold r_market_J259 at h1
                refine lv_ladd hx hb dX6_market_259 ?_
                obtain ⟨g20, h1⟩ := fo_gd h1 hN1
                refine fr_last (k := 24) (n := 8) hx hb hK hP hD hS (by decide) (by decide) (fun _ _ => rfl) g20 dX6_market_260 (fun H locs hP hS => ?_)
                obtain ⟨w21, hw21, h1⟩ := fo_bd h1 hN1
                replace hw21 := Option.some.inj hw21
                rw [hw21] at hP
                refine lv_aload_n hx hb dX6_market_261 rfl (lv_at hl 0 rfl) ?_
                refine lv_dup hx hb dX6_market_262 rfl ?_
                refine fr_g6_203 hx hb hT hown hK hP (by decide) dX6_market_263 ?_
                refine lv_aload_n hx hb dX6_market_266 rfl (lv_at hl 0 rfl) ?_
                refine fr_g6_79 hx hb hT hown hK hP (by decide) dX6_market_267 ?_
                refine lv_iload_n hx hb dX6_market_270 rfl (lv_at hl 3 rfl) ?_
                obtain ⟨g22, h1⟩ := fo_gd h1 hN1
                refine fr_zald (k := 22) (n := 16) hx hb hK hP (by decide) (by decide) (fun _ _ => rfl) g22 dX6_market_271 ?_
                refine lv_if_eq (tgt := 285) hx hb dX6_market_272 (by decide) (fun c23 => ?_) (fun c23 => ?_)
                · replace h1 := fo_itT c23 h1
                  refine lv_lconst (v := 0) hx hb dX6_market_285 (by decide) ?_
                  refine lv_ladd hx hb dX6_market_286 ?_
                  refine fr_p6_203 hx hb hT hown hK hP hD hS (by decide) dX6_market_287 (fun H locs hP hS => ?_)
                  obtain ⟨w24, hw24, h1⟩ := fo_bd h1 hN1
                  replace hw24 := Option.some.inj hw24
                  rw [hw24] at hP
                  refine lv_iinc (v := s40.1 + (1 : Int32)) (lv' := [(2, .int (s40.1 + (1 : Int32))), (0, .ref (ad (fr_lay 0 0))), (1, .int a1), (3, .int (s40.2.1 11 0 s40.1.toNatClampNeg))]) hx hb dX6_market_290 hl (k := 2) rfl rfl (by decide) rfl (fun ls hl => ?_)
                  refine lv_goto (tgt := 40) hx hb dX6_market_293 (by decide) ?_
                  exact hL1 _ h1 _ _ ls hP hS (lv_sub hl [1, 2, 0] rfl)
                · replace h1 := fo_itF c23 h1
                  refine lv_aload_n hx hb dX6_market_275 rfl (lv_at hl 0 rfl) ?_
                  refine fr_g6_36 hx hb hT hown hK hP (by decide) dX6_market_276 ?_
                  refine lv_iload_n hx hb dX6_market_279 rfl (lv_at hl 3 rfl) ?_
                  obtain ⟨g25, h1⟩ := fo_gd h1 hN1
                  refine fr_iald (k := 9) (n := 16) hx hb hK hP (by decide) (by decide) (fun _ _ => rfl) g25 dX6_market_280 ?_
                  refine lv_i2l hx hb dX6_market_281 rfl ?_
                  refine lv_goto (tgt := 286) hx hb dX6_market_282 (by decide) ?_
                  refine lv_ladd hx hb dX6_market_286 ?_
                  refine fr_p6_203 hx hb hT hown hK hP hD hS (by decide) dX6_market_287 (fun H locs hP hS => ?_)
                  obtain ⟨w26, hw26, h1⟩ := fo_bd h1 hN1
                  replace hw26 := Option.some.inj hw26
                  rw [hw26] at hP
                  refine lv_iinc (v := s40.1 + (1 : Int32)) (lv' := [(2, .int (s40.1 + (1 : Int32))), (0, .ref (ad (fr_lay 0 0))), (1, .int a1), (3, .int (s40.2.1 11 0 s40.1.toNatClampNeg))]) hx hb dX6_market_290 hl (k := 2) rfl rfl (by decide) rfl (fun ls hl => ?_)
                  refine lv_goto (tgt := 40) hx hb dX6_market_293 (by decide) ?_
                  exact hL1 _ h1 _ _ ls hP hS (lv_sub hl [1, 2, 0] rfl)
              refine lv_if_eq (tgt := 258) hx hb dX6_market_245 (by decide) (fun c27 => ?_) (fun c27 => ?_)
              · replace h1 := fo_itT c27 h1
                refine lv_lconst (v := 0) hx hb dX6_market_258 (by decide) ?_
                exact J259 _ h1 _ _ ls hP hS (lv_sub hl [0, 1, 2, 3] rfl)
              · replace h1 := fo_itF c27 h1
                refine lv_aload_n hx hb dX6_market_248 rfl (lv_at hl 0 rfl) ?_
                refine fr_g6_36 hx hb hT hown hK hP (by decide) dX6_market_249 ?_
                refine lv_iload_n hx hb dX6_market_252 rfl (lv_at hl 3 rfl) ?_
                obtain ⟨g28, h1⟩ := fo_gd h1 hN1
                refine fr_iald (k := 9) (n := 16) hx hb hK hP (by decide) (by decide) (fun _ _ => rfl) g28 dX6_market_253 ?_
                refine lv_i2l hx hb dX6_market_254 rfl ?_
                refine lv_goto (tgt := 259) hx hb dX6_market_255 (by decide) ?_
                exact J259 _ h1 _ _ ls hP hS (lv_sub hl [0, 1, 2, 3] rfl)
            refine lv_icmp_gt (tgt := 229) hx hb dX6_market_196 (by decide) (fun c29 => ?_) (fun c29 => ?_)
            · replace h1 := fo_itT c29 h1
              refine lv_iconst (v := 0) hx hb dX6_market_229 (by decide) ?_
              exact J230 _ h1 _ _ ls hP hS (lv_sub hl [2, 3, 4, 1, 0] rfl)
            · replace h1 := fo_itF c29 h1
              refine lv_aload_n hx hb dX6_market_199 rfl (lv_at hl 2 rfl) ?_
              refine fr_g6_85 hx hb hT hown hK hP (by decide) dX6_market_200 ?_
              refine lv_iload hx hb dX6_market_203 (lv_at hl 0 rfl) ?_
              obtain ⟨g30, h1⟩ := fo_gd h1 hN1
              refine fr_lald (k := 24) (n := 8) hx hb hK hP (by decide) (by decide) (fun _ _ => rfl) g30 dX6_market_205 ?_
              refine lv_aload_n hx hb dX6_market_206 rfl (lv_at hl 2 rfl) ?_
              refine fr_g6_36 hx hb hT hown hK hP (by decide) dX6_market_207 ?_
              refine lv_iload_n hx hb dX6_market_210 rfl (lv_at hl 1 rfl) ?_
              obtain ⟨g31, h1⟩ := fo_gd h1 hN1
              refine fr_iald (k := 9) (n := 16) hx hb hK hP (by decide) (by decide) (fun _ _ => rfl) g31 dX6_market_211 ?_
              refine lv_i2l hx hb dX6_market_212 rfl ?_
              refine lv_ladd hx hb dX6_market_213 ?_
              refine lv_aload_n hx hb dX6_market_214 rfl (lv_at hl 2 rfl) ?_
              refine fr_g6_13 hx hb hT hown hK hP (by decide) dX6_market_215 ?_
              refine lv_iload hx hb dX6_market_218 (lv_at hl 0 rfl) ?_
              obtain ⟨g32, h1⟩ := fo_gd h1 hN1
              refine fr_lald (k := 2) (n := 8) hx hb hK hP (by decide) (by decide) (fun _ _ => rfl) g32 dX6_market_220 ?_
              refine W.lcmp hx hb dX6_market_221 ?_
              refine lv_if_gt (tgt := 229) hx hb dX6_market_222 (by decide) (fun c33 => ?_) (fun c33 => ?_)
              · replace h1 := fo_itT c33 h1
                refine lv_iconst (v := 0) hx hb dX6_market_229 (by decide) ?_
                exact J230 _ h1 _ _ ls hP hS (lv_sub hl [2, 3, 4, 1, 0] rfl)
              · replace h1 := fo_itF c33 h1
                refine lv_iconst (v := 1) hx hb dX6_market_225 (by decide) ?_
                refine lv_goto (tgt := 230) hx hb dX6_market_226 (by decide) ?_
                exact J230 _ h1 _ _ ls hP hS (lv_sub hl [2, 3, 4, 1, 0] rfl)
          · replace h1 := fo_itT c14 h1
            refine lv_aload_n hx hb dX6_market_72 rfl (lv_at hl 2 rfl) ?_
            refine fr_g6_79 hx hb hT hown hK hP (by decide) dX6_market_73 ?_
            refine lv_iload_n hx hb dX6_market_76 rfl (lv_at hl 1 rfl) ?_
            refine lv_aload_n hx hb dX6_market_77 rfl (lv_at hl 2 rfl) ?_
            refine fr_g6_33 hx hb hT hown hK hP (by decide) dX6_market_78 ?_
            refine lv_iload_n hx hb dX6_market_81 rfl (lv_at hl 1 rfl) ?_
            obtain ⟨g34, h1⟩ := fo_gd h1 hN1
            refine fr_iald (k := 8) (n := 16) hx hb hK hP (by decide) (by decide) (fun _ _ => rfl) g34 dX6_market_82 ?_
            refine lv_iload_n hx hb dX6_market_83 rfl (lv_at hl 3 rfl) ?_
            have J121 : ∀ j121 : Int32, r_market_J121 s40 j121 = o1 → ∀ (H : Heap) (locs : List Loc) (ls : Array Slot), va_P D vwCl (fo_vx 25 ad (fr_ce ca ad s40.2)) H → va_S (fo_A 25 ad s.heap.size) s.heap H locs → lv_has ls 5 [(0, .ref (ad (fr_lay 0 0))), (1, .int a1), (2, .int s40.1), (3, .int (s40.2.1 11 0 s40.1.toNatClampNeg)), (4, .int (s40.2.1 3 0 (s40.2.1 11 0 s40.1.toNatClampNeg).toNatClampNeg))] → W p l e R s m args below meth c H locs 0 0 Q (F0 m 121 ls [.int j121, .int (s40.2.1 11 0 s40.1.toNatClampNeg), .ref (ad (fr_lay 22 0))]) := by
              intro j121 h1 H locs ls hP hS hl
              unfold r_market_J121 at h1
              obtain ⟨g35, h1⟩ := fo_gd h1 hN1
              refine fr_zast (k := 22) (n := 16) hx hb hK hP hD hS (by decide) (by decide) (fun _ _ => rfl) g35 dX6_market_121 (fun H locs hP hS => ?_)
              obtain ⟨w36, hw36, h1⟩ := fo_bd h1 hN1
              replace hw36 := Option.some.inj hw36
              rw [hw36] at hP
              refine lv_aload_n hx hb dX6_market_122 rfl (lv_at hl 0 rfl) ?_
              refine fr_g6_82 hx hb hT hown hK hP (by decide) dX6_market_123 ?_
              refine lv_iload hx hb dX6_market_126 (lv_at hl 4 rfl) ?_
              refine lv_dup2_11 hx hb dX6_market_128 rfl rfl ?_
              obtain ⟨g37, h1⟩ := fo_gd h1 hN1
              refine fr_lald (k := 23) (n := 8) hx hb hK hP (by decide) (by decide) (fun _ _ => rfl) g37 dX6_market_129 ?_
              refine lv_aload_n hx hb dX6_market_130 rfl (lv_at hl 0 rfl) ?_
              refine fr_g6_79 hx hb hT hown hK hP (by decide) dX6_market_131 ?_
              refine lv_iload_n hx hb dX6_market_134 rfl (lv_at hl 3 rfl) ?_
              obtain ⟨g38, h1⟩ := fo_gd h1 hN1
              refine fr_zald (k := 22) (n := 16) hx hb hK hP (by decide) (by decide) (fun _ _ => rfl) g38 dX6_market_135 ?_
              have J150 : ∀ j150 : Int64, r_market_J150 s40 w36 j150 = o1 → ∀ (H : Heap) (locs : List Loc) (ls : Array Slot), va_P D vwCl (fo_vx 25 ad (fr_ce ca ad w36)) H → va_S (fo_A 25 ad s.heap.size) s.heap H locs → lv_has ls 5 [(0, .ref (ad (fr_lay 0 0))), (1, .int a1), (2, .int s40.1), (3, .int (s40.2.1 11 0 s40.1.toNatClampNeg))] → W p l e R s m args below meth c H locs 0 0 Q (F0 m 150 ls [.long j150, .long (w36.2 23 0 (s40.2.1 3 0 (s40.2.1 11 0 s40.1.toNatClampNeg).toNatClampNeg).toNatClampNeg), .int (s40.2.1 3 0 (s40.2.1 11 0 s40.1.toNatClampNeg).toNatClampNeg), .ref (ad (fr_lay 23 0))]) := by
                intro j150 h1 H locs ls hP hS hl
                unfold r_market_J150 at h1
                refine lv_ladd hx hb dX6_market_150 ?_
                obtain ⟨g39, h1⟩ := fo_gd h1 hN1
                refine fr_last (k := 23) (n := 8) hx hb hK hP hD hS (by decide) (by decide) (fun _ _ => rfl) g39 dX6_market_151 (fun H locs hP hS => ?_)
                obtain ⟨w40, hw40, h1⟩ := fo_bd h1 hN1
                replace hw40 := Option.some.inj hw40
                rw [hw40] at hP
                refine lv_aload_n hx hb dX6_market_152 rfl (lv_at hl 0 rfl) ?_
                refine lv_dup hx hb dX6_market_153 rfl ?_
                refine fr_g6_200 hx hb hT hown hK hP (by decide) dX6_market_154 ?_
                refine lv_aload_n hx hb dX6_market_157 rfl (lv_at hl 0 rfl) ?_
                refine fr_g6_79 hx hb hT hown hK hP (by decide) dX6_market_158 ?_
                refine lv_iload_n hx hb dX6_market_161 rfl (lv_at hl 3 rfl) ?_
                obtain ⟨g41, h1⟩ := fo_gd h1 hN1
                refine fr_zald (k := 22) (n := 16) hx hb hK hP (by decide) (by decide) (fun _ _ => rfl) g41 dX6_market_162 ?_
                refine lv_if_eq (tgt := 176) hx hb dX6_market_163 (by decide) (fun c42 => ?_) (fun c42 => ?_)
                · replace h1 := fo_itT c42 h1
                  refine lv_lconst (v := 0) hx hb dX6_market_176 (by decide) ?_
                  refine lv_ladd hx hb dX6_market_177 ?_
                  refine fr_p6_200 hx hb hT hown hK hP hD hS (by decide) dX6_market_178 (fun H locs hP hS => ?_)
                  obtain ⟨w43, hw43, h1⟩ := fo_bd h1 hN1
                  replace hw43 := Option.some.inj hw43
                  rw [hw43] at hP
                  refine lv_goto (tgt := 290) hx hb dX6_market_181 (by decide) ?_
                  refine lv_iinc (v := s40.1 + (1 : Int32)) (lv' := [(2, .int (s40.1 + (1 : Int32))), (0, .ref (ad (fr_lay 0 0))), (1, .int a1), (3, .int (s40.2.1 11 0 s40.1.toNatClampNeg))]) hx hb dX6_market_290 hl (k := 2) rfl rfl (by decide) rfl (fun ls hl => ?_)
                  refine lv_goto (tgt := 40) hx hb dX6_market_293 (by decide) ?_
                  exact hL1 _ h1 _ _ ls hP hS (lv_sub hl [1, 2, 0] rfl)
                · replace h1 := fo_itF c42 h1
                  refine lv_aload_n hx hb dX6_market_166 rfl (lv_at hl 0 rfl) ?_
                  refine fr_g6_36 hx hb hT hown hK hP (by decide) dX6_market_167 ?_
                  refine lv_iload_n hx hb dX6_market_170 rfl (lv_at hl 3 rfl) ?_
                  obtain ⟨g44, h1⟩ := fo_gd h1 hN1
                  refine fr_iald (k := 9) (n := 16) hx hb hK hP (by decide) (by decide) (fun _ _ => rfl) g44 dX6_market_171 ?_
                  refine lv_i2l hx hb dX6_market_172 rfl ?_
                  refine lv_goto (tgt := 177) hx hb dX6_market_173 (by decide) ?_
                  refine lv_ladd hx hb dX6_market_177 ?_
                  refine fr_p6_200 hx hb hT hown hK hP hD hS (by decide) dX6_market_178 (fun H locs hP hS => ?_)
                  obtain ⟨w45, hw45, h1⟩ := fo_bd h1 hN1
                  replace hw45 := Option.some.inj hw45
                  rw [hw45] at hP
                  refine lv_goto (tgt := 290) hx hb dX6_market_181 (by decide) ?_
                  refine lv_iinc (v := s40.1 + (1 : Int32)) (lv' := [(2, .int (s40.1 + (1 : Int32))), (0, .ref (ad (fr_lay 0 0))), (1, .int a1), (3, .int (s40.2.1 11 0 s40.1.toNatClampNeg))]) hx hb dX6_market_290 hl (k := 2) rfl rfl (by decide) rfl (fun ls hl => ?_)
                  refine lv_goto (tgt := 40) hx hb dX6_market_293 (by decide) ?_
                  exact hL1 _ h1 _ _ ls hP hS (lv_sub hl [1, 2, 0] rfl)
              refine lv_if_eq (tgt := 149) hx hb dX6_market_136 (by decide) (fun c46 => ?_) (fun c46 => ?_)
              · replace h1 := fo_itT c46 h1
                refine lv_lconst (v := 0) hx hb dX6_market_149 (by decide) ?_
                exact J150 _ h1 _ _ ls hP hS (lv_sub hl [0, 1, 2, 3] rfl)
              · replace h1 := fo_itF c46 h1
                refine lv_aload_n hx hb dX6_market_139 rfl (lv_at hl 0 rfl) ?_
                refine fr_g6_36 hx hb hT hown hK hP (by decide) dX6_market_140 ?_
                refine lv_iload_n hx hb dX6_market_143 rfl (lv_at hl 3 rfl) ?_
                obtain ⟨g47, h1⟩ := fo_gd h1 hN1
                refine fr_iald (k := 9) (n := 16) hx hb hK hP (by decide) (by decide) (fun _ _ => rfl) g47 dX6_market_144 ?_
                refine lv_i2l hx hb dX6_market_145 rfl ?_
                refine lv_goto (tgt := 150) hx hb dX6_market_146 (by decide) ?_
                exact J150 _ h1 _ _ ls hP hS (lv_sub hl [0, 1, 2, 3] rfl)
            refine lv_icmp_lt (tgt := 120) hx hb dX6_market_84 (by decide) (fun c48 => ?_) (fun c48 => ?_)
            · replace h1 := fo_itT c48 h1
              refine lv_iconst (v := 0) hx hb dX6_market_120 (by decide) ?_
              exact J121 _ h1 _ _ ls hP hS (lv_sub hl [2, 3, 4, 1, 0] rfl)
            · replace h1 := fo_itF c48 h1
              refine lv_aload_n hx hb dX6_market_87 rfl (lv_at hl 2 rfl) ?_
              refine fr_g6_82 hx hb hT hown hK hP (by decide) dX6_market_88 ?_
              refine lv_iload hx hb dX6_market_91 (lv_at hl 0 rfl) ?_
              obtain ⟨g49, h1⟩ := fo_gd h1 hN1
              refine fr_lald (k := 23) (n := 8) hx hb hK hP (by decide) (by decide) (fun _ _ => rfl) g49 dX6_market_93 ?_
              refine lv_aload_n hx hb dX6_market_94 rfl (lv_at hl 2 rfl) ?_
              refine fr_g6_36 hx hb hT hown hK hP (by decide) dX6_market_95 ?_
              refine lv_iload_n hx hb dX6_market_98 rfl (lv_at hl 1 rfl) ?_
              obtain ⟨g50, h1⟩ := fo_gd h1 hN1
              refine fr_iald (k := 9) (n := 16) hx hb hK hP (by decide) (by decide) (fun _ _ => rfl) g50 dX6_market_99 ?_
              refine lv_i2l hx hb dX6_market_100 rfl ?_
              refine lv_ladd hx hb dX6_market_101 ?_
              refine lv_iload_n hx hb dX6_market_102 rfl (lv_at hl 3 rfl) ?_
              refine lv_i2l hx hb dX6_market_103 rfl ?_
              refine lv_lmul hx hb dX6_market_104 ?_
              refine lv_aload_n hx hb dX6_market_105 rfl (lv_at hl 2 rfl) ?_
              refine fr_g6_7 hx hb hT hown hK hP (by decide) dX6_market_106 ?_
              refine lv_iload hx hb dX6_market_109 (lv_at hl 0 rfl) ?_
              obtain ⟨g51, h1⟩ := fo_gd h1 hN1
              refine fr_lald (k := 1) (n := 8) hx hb hK hP (by decide) (by decide) (fun _ _ => rfl) g51 dX6_market_111 ?_
              refine W.lcmp hx hb dX6_market_112 ?_
              refine lv_if_gt (tgt := 120) hx hb dX6_market_113 (by decide) (fun c52 => ?_) (fun c52 => ?_)
              · replace h1 := fo_itT c52 h1
                refine lv_iconst (v := 0) hx hb dX6_market_120 (by decide) ?_
                exact J121 _ h1 _ _ ls hP hS (lv_sub hl [2, 3, 4, 1, 0] rfl)
              · replace h1 := fo_itF c52 h1
                refine lv_iconst (v := 1) hx hb dX6_market_116 (by decide) ?_
                refine lv_goto (tgt := 121) hx hb dX6_market_117 (by decide) ?_
                exact J121 _ h1 _ _ ls hP hS (lv_sub hl [2, 3, 4, 1, 0] rfl)) _ _ hy40
    exact lp40 _ _ ls hP hS (lv_sub hl [1, 2, 0] rfl)
  have lp2 := fo_lp_ind (fun (s2 : Int32 × fo_S) => ∀ (H : Heap) (locs : List Loc) (ls : Array Slot), va_P D vwCl (fo_vx 25 ad (fr_ce ca ad s2.2)) H → va_S (fo_A 25 ad s.heap.size) s.heap H locs → lv_has ls 5 [(0, .ref (ad (fr_lay 0 0))), (1, .int a1), (2, .int s2.1)] → W p l e R s m args below meth c H locs 0 0 Q (F0 m 2 ls [])) (by
      intro s2 o1 h1 hN1 hL1 hE1 H locs ls hP hS hl
      unfold r_market_L2 at h1
      refine lv_iload_n hx hb dX6_market_2 rfl (lv_at hl 2 rfl) ?_
      refine lv_bipush (v := 8) hx hb dX6_market_3 (by decide) ?_
      refine lv_icmp_ge (tgt := 28) hx hb dX6_market_5 (by decide) (fun c1 => ?_) (fun c1 => ?_)
      · replace h1 := fo_itT c1 h1
        have hy2 := hE1 _ h1
        subst hy2
        exact ex2 _ _ ls hP hS (lv_sub hl [0, 1] rfl)
      · replace h1 := fo_itF c1 h1
        refine lv_aload_n hx hb dX6_market_8 rfl (lv_at hl 0 rfl) ?_
        refine fr_g6_82 hx hb hT hown hK hP (by decide) dX6_market_9 ?_
        refine lv_iload_n hx hb dX6_market_12 rfl (lv_at hl 2 rfl) ?_
        refine lv_lconst (v := 0) hx hb dX6_market_13 (by decide) ?_
        obtain ⟨g3, h1⟩ := fo_gd h1 hN1
        refine fr_last (k := 23) (n := 8) hx hb hK hP hD hS (by decide) (by decide) (fun _ _ => rfl) g3 dX6_market_14 (fun H locs hP hS => ?_)
        obtain ⟨w4, hw4, h1⟩ := fo_bd h1 hN1
        replace hw4 := Option.some.inj hw4
        rw [hw4] at hP
        refine lv_aload_n hx hb dX6_market_15 rfl (lv_at hl 0 rfl) ?_
        refine fr_g6_85 hx hb hT hown hK hP (by decide) dX6_market_16 ?_
        refine lv_iload_n hx hb dX6_market_19 rfl (lv_at hl 2 rfl) ?_
        refine lv_lconst (v := 0) hx hb dX6_market_20 (by decide) ?_
        obtain ⟨g5, h1⟩ := fo_gd h1 hN1
        refine fr_last (k := 24) (n := 8) hx hb hK hP hD hS (by decide) (by decide) (fun _ _ => rfl) g5 dX6_market_21 (fun H locs hP hS => ?_)
        obtain ⟨w6, hw6, h1⟩ := fo_bd h1 hN1
        replace hw6 := Option.some.inj hw6
        rw [hw6] at hP
        refine lv_iinc (v := s2.1 + (1 : Int32)) (lv' := [(2, .int (s2.1 + (1 : Int32))), (0, .ref (ad (fr_lay 0 0))), (1, .int a1)]) hx hb dX6_market_22 hl (k := 2) rfl rfl (by decide) rfl (fun ls hl => ?_)
        refine lv_goto (tgt := 2) hx hb dX6_market_25 (by decide) ?_
        exact hL1 _ h1 _ _ ls hP hS (lv_sub hl [1, 2, 0] rfl)) _ _ hy2
  exact lp2 _ _ ls hP hS (lv_sub hl [1, 2, 0] rfl)
theorem c_r_market (l : Launch) (D : va_G) (ca : Nat → ClassId) (ad : Nat → Nat) (sz : Nat) {σ : fo_S} {a1 : Int32}  {res : Int64 × fo_S} (h0 : r_market σ a1 = some res) : Met l yX6_market ws_r_market rm_r_market (fo_Pre 25 D vwCl (fr_tys ca) ad (fr_ce ca ad σ) sz [.ref (ad (fr_lay 0 0)), .int a1]) (fo_PoL 25 D vwCl (fr_tys ca) ad (fr_ce ca ad res.2) sz res.1) 0 0 (fo_A 25 ad sz) :=
  fr_mkL (by decide) (fun C0 kr hP => b_r_market C0 (Nat.le_refl _) (Nat.le_refl _) (Nat.zero_le _)  h0 kr hP)
