def r_batch_J46 (s17 : Int32 × Int64 × Int32 × fo_S) (x5 : Int64 × fo_S) (j46 : Int32) : Option ((Int32 × Int64 × Int32 × fo_S) ⊕ (Int32 × Int64 × Int32 × fo_S)) :=
  if (lg_cmp x5.1 s17.2.1) ≤ 0 then (some (.inl (j46, s17.2.1, s17.2.2.1 + (1 : Int32), x5.2))) else (some (.inl (j46, x5.1, s17.2.2.1 + (1 : Int32), x5.2)))
def r_batch_L17  (s17 : Int32 × Int64 × Int32 × fo_S) : Option ((Int32 × Int64 × Int32 × fo_S) ⊕ (Int32 × Int64 × Int32 × fo_S)) :=
  if (1000 : Int32) < s17.2.2.1 then (some (.inr (s17.1, s17.2.1, s17.2.2.1, s17.2.2.2))) else ((r_market s17.2.2.2 s17.2.2.1).bind (fun x5 => if (lg_cmp x5.1 s17.2.1) ≤ 0 then (r_batch_J46 s17 x5 s17.1) else (r_batch_J46 s17 x5 s17.2.2.1)))
def r_batch_J180 (y17 : Int32 × Int64 × Int32 × fo_S) (s96 : Int64 × Int64 × Int32 × fo_S) (j180 : Int64) : Option ((Int64 × Int64 × Int32 × fo_S) ⊕ (Int64 × Int64 × Int32 × fo_S)) :=
  if fo_vi (s96.2.2.2.1 11 0 s96.2.2.1.toNatClampNeg) 16 then ( (some (fo_pI s96.2.2.2 12 0 (s96.2.2.2.1 11 0 s96.2.2.1.toNatClampNeg).toNatClampNeg j180.toInt32)).bind (fun w17 =>  if fo_vi (s96.2.2.2.1 11 0 s96.2.2.1.toNatClampNeg) 16 then ( if fo_vi (s96.2.2.2.1 11 0 s96.2.2.1.toNatClampNeg) 16 then ( (some (fo_pJ w17 13 0 (s96.2.2.2.1 11 0 s96.2.2.1.toNatClampNeg).toNatClampNeg (((w17.1 12 0 (s96.2.2.2.1 11 0 s96.2.2.1.toNatClampNeg).toNatClampNeg).toInt64) * y17.1.toInt64))).bind (fun w20 =>  if fo_vi (s96.2.2.2.1 11 0 s96.2.2.1.toNatClampNeg) 16 then (if (w20.1 7 0 (s96.2.2.2.1 11 0 s96.2.2.1.toNatClampNeg).toNatClampNeg) = 0 then (if fo_vi (s96.2.2.2.1 11 0 s96.2.2.1.toNatClampNeg) 16 then ( if fo_vi (s96.2.2.2.1 11 0 s96.2.2.1.toNatClampNeg) 16 then ( if fo_vi (w20.1 3 0 (s96.2.2.2.1 11 0 s96.2.2.1.toNatClampNeg).toNatClampNeg) 8 then ( if fo_vi (s96.2.2.2.1 11 0 s96.2.2.1.toNatClampNeg) 16 then ( if fo_vi (w20.1 3 0 (s96.2.2.2.1 11 0 s96.2.2.1.toNatClampNeg).toNatClampNeg) 8 then ( (some (fo_pJ w20 1 0 (w20.1 3 0 (s96.2.2.2.1 11 0 s96.2.2.1.toNatClampNeg).toNatClampNeg).toNatClampNeg ((w20.2 1 0 (w20.1 3 0 (s96.2.2.2.1 11 0 s96.2.2.1.toNatClampNeg).toNatClampNeg).toNatClampNeg) - (w20.2 13 0 (s96.2.2.2.1 11 0 s96.2.2.1.toNatClampNeg).toNatClampNeg)))).bind (fun w39 =>  if fo_vi (s96.2.2.2.1 11 0 s96.2.2.1.toNatClampNeg) 16 then ( if fo_vi (w39.1 3 0 (s96.2.2.2.1 11 0 s96.2.2.1.toNatClampNeg).toNatClampNeg) 8 then ( if fo_vi (s96.2.2.2.1 11 0 s96.2.2.1.toNatClampNeg) 16 then ( if fo_vi (w39.1 3 0 (s96.2.2.2.1 11 0 s96.2.2.1.toNatClampNeg).toNatClampNeg) 8 then ( (some (fo_pJ w39 2 0 (w39.1 3 0 (s96.2.2.2.1 11 0 s96.2.2.1.toNatClampNeg).toNatClampNeg).toNatClampNeg ((w39.2 2 0 (w39.1 3 0 (s96.2.2.2.1 11 0 s96.2.2.1.toNatClampNeg).toNatClampNeg).toNatClampNeg) + ((w39.1 12 0 (s96.2.2.2.1 11 0 s96.2.2.1.toNatClampNeg).toNatClampNeg).toInt64)))).bind (fun w44 => some (.inl (s96.1 - ((w20.1 12 0 (s96.2.2.2.1 11 0 s96.2.2.1.toNatClampNeg).toNatClampNeg).toInt64), s96.2.1, s96.2.2.1 + (1 : Int32), w44)))) else none) else none) else none) else none)) else none) else none) else none) else none) else none) else (if fo_vi (s96.2.2.2.1 11 0 s96.2.2.1.toNatClampNeg) 16 then ( if fo_vi (s96.2.2.2.1 11 0 s96.2.2.1.toNatClampNeg) 16 then ( if fo_vi (w20.1 3 0 (s96.2.2.2.1 11 0 s96.2.2.1.toNatClampNeg).toNatClampNeg) 8 then ( if fo_vi (s96.2.2.2.1 11 0 s96.2.2.1.toNatClampNeg) 16 then ( if fo_vi (w20.1 3 0 (s96.2.2.2.1 11 0 s96.2.2.1.toNatClampNeg).toNatClampNeg) 8 then ( (some (fo_pJ w20 1 0 (w20.1 3 0 (s96.2.2.2.1 11 0 s96.2.2.1.toNatClampNeg).toNatClampNeg).toNatClampNeg ((w20.2 1 0 (w20.1 3 0 (s96.2.2.2.1 11 0 s96.2.2.1.toNatClampNeg).toNatClampNeg).toNatClampNeg) + (w20.2 13 0 (s96.2.2.2.1 11 0 s96.2.2.1.toNatClampNeg).toNatClampNeg)))).bind (fun w28 =>  if fo_vi (s96.2.2.2.1 11 0 s96.2.2.1.toNatClampNeg) 16 then ( if fo_vi (w28.1 3 0 (s96.2.2.2.1 11 0 s96.2.2.1.toNatClampNeg).toNatClampNeg) 8 then ( if fo_vi (s96.2.2.2.1 11 0 s96.2.2.1.toNatClampNeg) 16 then ( if fo_vi (w28.1 3 0 (s96.2.2.2.1 11 0 s96.2.2.1.toNatClampNeg).toNatClampNeg) 8 then ( (some (fo_pJ w28 2 0 (w28.1 3 0 (s96.2.2.2.1 11 0 s96.2.2.1.toNatClampNeg).toNatClampNeg).toNatClampNeg ((w28.2 2 0 (w28.1 3 0 (s96.2.2.2.1 11 0 s96.2.2.1.toNatClampNeg).toNatClampNeg).toNatClampNeg) - ((w28.1 12 0 (s96.2.2.2.1 11 0 s96.2.2.1.toNatClampNeg).toNatClampNeg).toInt64)))).bind (fun w33 => some (.inl (s96.1, s96.2.1 - ((w20.1 12 0 (s96.2.2.2.1 11 0 s96.2.2.1.toNatClampNeg).toNatClampNeg).toInt64), s96.2.2.1 + (1 : Int32), w33)))) else none) else none) else none) else none)) else none) else none) else none) else none) else none)) else none)) else none) else none)) else none
def r_batch_J145 (y17 : Int32 × Int64 × Int32 × fo_S) (s96 : Int64 × Int64 × Int32 × fo_S) (j145 : Int64) : Option ((Int64 × Int64 × Int32 × fo_S) ⊕ (Int64 × Int64 × Int32 × fo_S)) :=
  if fo_vi (s96.2.2.2.1 11 0 s96.2.2.1.toNatClampNeg) 16 then (if 0 ≤ (lg_cmp j145 ((s96.2.2.2.1 9 0 (s96.2.2.2.1 11 0 s96.2.2.1.toNatClampNeg).toNatClampNeg).toInt64)) then (if fo_vi (s96.2.2.2.1 11 0 s96.2.2.1.toNatClampNeg) 16 then (r_batch_J180 y17 s96 ((s96.2.2.2.1 9 0 (s96.2.2.2.1 11 0 s96.2.2.1.toNatClampNeg).toNatClampNeg).toInt64)) else none) else (r_batch_J180 y17 s96 j145)) else none
def r_batch_L96 (y17 : Int32 × Int64 × Int32 × fo_S) (s96 : Int64 × Int64 × Int32 × fo_S) : Option ((Int64 × Int64 × Int32 × fo_S) ⊕ (Int64 × Int64 × Int32 × fo_S)) :=
  if (s96.2.2.2.1 0 0 17) ≤ s96.2.2.1 then (some (.inr (s96.1, s96.2.1, s96.2.2.1, s96.2.2.2))) else (if fo_vi s96.2.2.1 16 then ( if fo_vi (s96.2.2.2.1 11 0 s96.2.2.1.toNatClampNeg) 16 then (if (s96.2.2.2.1 22 0 (s96.2.2.2.1 11 0 s96.2.2.1.toNatClampNeg).toNatClampNeg) = 0 then (r_batch_J145 y17 s96 (0 : Int64)) else (if fo_vi (s96.2.2.2.1 11 0 s96.2.2.1.toNatClampNeg) 16 then (if (s96.2.2.2.1 7 0 (s96.2.2.2.1 11 0 s96.2.2.1.toNatClampNeg).toNatClampNeg) = 0 then (r_batch_J145 y17 s96 s96.1) else (r_batch_J145 y17 s96 s96.2.1)) else none)) else none) else none)
def r_batch (σ : fo_S)  : Option (Int32 × fo_S) :=
  (r_mayPlay σ).bind (fun x1 => if x1 = 0 then (some ((-4 : Int32), σ)) else ((fo_lp (r_batch_L17) fo_FU ((-1 : Int32), (0 : Int64), (1 : Int32), σ)).bind (fun y17 => (r_begin y17.2.2.2).bind (fun x8 => if y17.1 = (-1 : Int32) then (some ((-1 : Int32), x8)) else ((r_market x8 y17.1).bind (fun x10 => (fo_lp (r_batch_L96 y17) fo_FU (x10.1, x10.1, (0 : Int32), x10.2)).bind (fun y96 => some (y17.1, y96.2.2.2))))))))
set_option maxHeartbeats 4000000 in
set_option maxRecDepth 100000 in
theorem b_r_batch {p : Program} {l : Launch} {e : Env} {R : Room} {s : State} {m : MethodId} {args : Array Value} {below : List Frame} {meth : Method} {c : Code} {Q : State → Prop} {D : va_G} {ca : Nat → ClassId} {ad : Nat → Nat} (C0 : fr_CX p s m args c cX6_batch 14 RX6 D ca ad) (hRf : 1 ≤ R.frames) (hRl : 24 ≤ R.locals) (hRc : 0 ≤ R.cells) {σ : fo_S}   {res : Int32 × fo_S} (h0 : r_batch σ = some res) (kr : ∀ (pc : Nat) (ls : Array Slot) (H : Heap) (locs : List Loc), decode cX6_batch pc = .ok (.ireturn, 1) → va_P D vwCl (fo_vx 25 ad (fr_ce ca ad res.2)) H → va_S (fo_A 25 ad s.heap.size) s.heap H locs → W p l e R s m args below meth c H locs 0 0 Q (F0 m pc ls [.int res.1])) (hP : va_P D vwCl (fo_vx 25 ad (fr_ce ca ad σ)) s.heap) : W p l e R s m args below meth c s.heap [] 0 0 Q (entryFrame m ([.ref (ad (fr_lay 0 0))] : List Value).toArray 14) := by
  obtain ⟨hx, hb, hml, hown, hT, hK, hD⟩ := C0
  have hN0 : (some res) ≠ none := fun q => by cases q
  unfold r_batch at h0
  have hS : va_S (fo_A 25 ad s.heap.size) s.heap s.heap [] := va_S.rf
  have hl := lv_entry ([.ref (ad (fr_lay 0 0))]) (n := 14) (Nat.le_of_ble_eq_true rfl)
  rw [lg_entry_eq]
  generalize (lg_sl ([.ref (ad (fr_lay 0 0))]) ++ List.replicate (14 - (lg_sl ([.ref (ad (fr_lay 0 0))])).length) Slot.unset).toArray = ls at hl ⊢
  have hl : lv_has ls 14 [(0, .ref (ad (fr_lay 0 0)))] := hl
  refine lv_aload_n hx hb dX6_batch_0 rfl (lv_at hl 0 rfl) ?_
  obtain ⟨x1, hx1, h0⟩ := fo_bd h0 hN0
  refine fo_calli (va_runV (H := _) (As := []) (rest := []) ⟨hx, hb, hml, hown, hT⟩ (c_r_mayPlay l D ca ad _ hx1) (fr_c6_191 hT ⟨Nat.le_trans (Nat.le_of_ble_eq_true rfl) hRf, Nat.le_trans (Nat.le_of_ble_eq_true rfl) hRl⟩) ⟨fo_Pre_blind, fr_rc0 hK hP (by decide), fo_Pre_at hP hK (hD _)⟩ rfl rfl hl.1 rfl (lv_room (Nat.le_of_ble_eq_true rfl)) dX6_batch_1 ⟨Nat.zero_le _, Nat.zero_le _⟩) hS (fun H locs hP hS => ?_)
  refine lv_if_ne (tgt := 10) hx hb dX6_batch_4 (by decide) (fun c2 => ?_) (fun c2 => ?_)
  · replace h0 := fo_itF c2 h0
    refine lv_iconst (v := -1) hx hb dX6_batch_10 (by decide) ?_
    refine lv_istore_n (lv' := [(1, .int (-1 : Int32)), (0, .ref (ad (fr_lay 0 0)))]) hx hb dX6_batch_11 rfl hl (by decide) rfl (fun ls hl => ?_)
    refine lv_lconst (v := 0) hx hb dX6_batch_12 (by decide) ?_
    refine lv_lstore_n (lv' := [(2, .long (0 : Int64)), (1, .int (-1 : Int32)), (0, .ref (ad (fr_lay 0 0)))]) hx hb dX6_batch_13 rfl hl (by decide) rfl (fun ls hl => ?_)
    refine lv_iconst (v := 1) hx hb dX6_batch_14 (by decide) ?_
    refine lv_istore (lv' := [(4, .int (1 : Int32)), (2, .long (0 : Int64)), (1, .int (-1 : Int32)), (0, .ref (ad (fr_lay 0 0)))]) hx hb dX6_batch_15 hl (by decide) rfl (fun ls hl => ?_)
    obtain ⟨y17, hy17, h0⟩ := fo_bd h0 hN0
    have ex17 : ∀ (H : Heap) (locs : List Loc) (ls : Array Slot), va_P D vwCl (fo_vx 25 ad (fr_ce ca ad y17.2.2.2)) H → va_S (fo_A 25 ad s.heap.size) s.heap H locs → lv_has ls 14 [(0, .ref (ad (fr_lay 0 0))), (1, .int y17.1)] → W p l e R s m args below meth c H locs 0 0 Q (F0 m 67 ls []) := by
      intro H locs ls hP hS hl
      refine lv_aload_n hx hb dX6_batch_67 rfl (lv_at hl 0 rfl) ?_
      obtain ⟨x8, hx8, h0⟩ := fo_bd h0 hN0
      refine fo_callv (va_runV (H := _) (As := []) (rest := []) ⟨hx, hb, hml, hown, hT⟩ (c_r_begin l D ca ad _ hx8) (fr_c6_197 hT ⟨Nat.le_trans (Nat.le_of_ble_eq_true rfl) hRf, Nat.le_trans (Nat.le_of_ble_eq_true rfl) hRl⟩) ⟨fo_Pre_blind, fr_rc0 hK hP (by decide), fo_Pre_at hP hK (hD _)⟩ rfl rfl hl.1 rfl (lv_room (Nat.le_of_ble_eq_true rfl)) dX6_batch_68 ⟨Nat.zero_le _, Nat.zero_le _⟩) hS (fun H locs hP hS => ?_)
      refine lv_iload_n hx hb dX6_batch_71 rfl (lv_at hl 1 rfl) ?_
      refine lv_iconst (v := -1) hx hb dX6_batch_72 (by decide) ?_
      refine lv_icmp_ne (tgt := 78) hx hb dX6_batch_73 (by decide) (fun c9 => ?_) (fun c9 => ?_)
      · replace h0 := fo_itF c9 h0
        refine lv_aload_n hx hb dX6_batch_78 rfl (lv_at hl 0 rfl) ?_
        refine lv_iload_n hx hb dX6_batch_79 rfl (lv_at hl 1 rfl) ?_
        obtain ⟨x10, hx10, h0⟩ := fo_bd h0 hN0
        refine fo_calll (va_runV (H := _) (As := [.int y17.1]) (rest := []) ⟨hx, hb, hml, hown, hT⟩ (c_r_market l D ca ad _ hx10) (fr_c6_206 hT ⟨Nat.le_trans (Nat.le_of_ble_eq_true rfl) hRf, Nat.le_trans (Nat.le_of_ble_eq_true rfl) hRl⟩) ⟨fo_Pre_blind, fr_rc0 hK hP (by decide), fo_Pre_at hP hK (hD _)⟩ rfl rfl hl.1 rfl (lv_room (Nat.le_of_ble_eq_true rfl)) dX6_batch_80 ⟨Nat.zero_le _, Nat.zero_le _⟩) hS (fun H locs hP hS => ?_)
        refine lv_lstore (lv' := [(4, .long x10.1), (0, .ref (ad (fr_lay 0 0))), (1, .int y17.1)]) hx hb dX6_batch_83 hl (by decide) rfl (fun ls hl => ?_)
        refine lv_lload hx hb dX6_batch_85 (lv_at hl 0 rfl) ?_
        refine lv_lstore (lv' := [(6, .long x10.1), (4, .long x10.1), (0, .ref (ad (fr_lay 0 0))), (1, .int y17.1)]) hx hb dX6_batch_87 hl (by decide) rfl (fun ls hl => ?_)
        refine lv_lload hx hb dX6_batch_89 (lv_at hl 1 rfl) ?_
        refine lv_lstore (lv' := [(8, .long x10.1), (6, .long x10.1), (4, .long x10.1), (0, .ref (ad (fr_lay 0 0))), (1, .int y17.1)]) hx hb dX6_batch_91 hl (by decide) rfl (fun ls hl => ?_)
        refine lv_iconst (v := 0) hx hb dX6_batch_93 (by decide) ?_
        refine lv_istore (lv' := [(10, .int (0 : Int32)), (8, .long x10.1), (6, .long x10.1), (4, .long x10.1), (0, .ref (ad (fr_lay 0 0))), (1, .int y17.1)]) hx hb dX6_batch_94 hl (by decide) rfl (fun ls hl => ?_)
        obtain ⟨y96, hy96, h0⟩ := fo_bd h0 hN0
        have ex96 : ∀ (H : Heap) (locs : List Loc) (ls : Array Slot), va_P D vwCl (fo_vx 25 ad (fr_ce ca ad y96.2.2.2)) H → va_S (fo_A 25 ad s.heap.size) s.heap H locs → lv_has ls 14 [(1, .int y17.1)] → W p l e R s m args below meth c H locs 0 0 Q (F0 m 335 ls []) := by
          intro H locs ls hP hS hl
          refine lv_iload_n hx hb dX6_batch_335 rfl (lv_at hl 0 rfl) ?_
          have hr50 := Option.some.inj h0
          subst hr50
          exact kr _ ls _ _ dX6_batch_336 hP hS
        have lp96 := fo_lp_ind (fun (s96 : Int64 × Int64 × Int32 × fo_S) => ∀ (H : Heap) (locs : List Loc) (ls : Array Slot), va_P D vwCl (fo_vx 25 ad (fr_ce ca ad s96.2.2.2)) H → va_S (fo_A 25 ad s.heap.size) s.heap H locs → lv_has ls 14 [(0, .ref (ad (fr_lay 0 0))), (1, .int y17.1), (6, .long s96.1), (8, .long s96.2.1), (10, .int s96.2.2.1)] → W p l e R s m args below meth c H locs 0 0 Q (F0 m 96 ls [])) (by
            intro s96 o1 h1 hN1 hL1 hE1 H locs ls hP hS hl
            unfold r_batch_L96 at h1
            refine lv_iload hx hb dX6_batch_96 (lv_at hl 4 rfl) ?_
            refine lv_aload_n hx hb dX6_batch_98 rfl (lv_at hl 0 rfl) ?_
            refine fr_g6_42 hx hb hT hown hK hP (by decide) dX6_batch_99 ?_
            refine lv_icmp_ge (tgt := 335) hx hb dX6_batch_102 (by decide) (fun c11 => ?_) (fun c11 => ?_)
            · replace h1 := fo_itT c11 h1
              have hy12 := hE1 _ h1
              subst hy12
              exact ex96 _ _ ls hP hS (lv_sub hl [1] rfl)
            · replace h1 := fo_itF c11 h1
              refine lv_aload_n hx hb dX6_batch_105 rfl (lv_at hl 0 rfl) ?_
              refine fr_g6_46 hx hb hT hown hK hP (by decide) dX6_batch_106 ?_
              refine lv_iload hx hb dX6_batch_109 (lv_at hl 4 rfl) ?_
              obtain ⟨g13, h1⟩ := fo_gd h1 hN1
              refine fr_iald (k := 11) (n := 16) hx hb hK hP (by decide) (by decide) (fun _ _ => rfl) g13 dX6_batch_111 ?_
              refine lv_istore (lv' := [(11, .int (s96.2.2.2.1 11 0 s96.2.2.1.toNatClampNeg)), (0, .ref (ad (fr_lay 0 0))), (1, .int y17.1), (6, .long s96.1), (8, .long s96.2.1), (10, .int s96.2.2.1)]) hx hb dX6_batch_112 hl (by decide) rfl (fun ls hl => ?_)
              refine lv_aload_n hx hb dX6_batch_114 rfl (lv_at hl 1 rfl) ?_
              refine fr_g6_79 hx hb hT hown hK hP (by decide) dX6_batch_115 ?_
              refine lv_iload hx hb dX6_batch_118 (lv_at hl 0 rfl) ?_
              obtain ⟨g14, h1⟩ := fo_gd h1 hN1
              refine fr_zald (k := 22) (n := 16) hx hb hK hP (by decide) (by decide) (fun _ _ => rfl) g14 dX6_batch_120 ?_
              have J145 : ∀ j145 : Int64, r_batch_J145 y17 s96 j145 = o1 → ∀ (H : Heap) (locs : List Loc) (ls : Array Slot), va_P D vwCl (fo_vx 25 ad (fr_ce ca ad s96.2.2.2)) H → va_S (fo_A 25 ad s.heap.size) s.heap H locs → lv_has ls 14 [(0, .ref (ad (fr_lay 0 0))), (1, .int y17.1), (6, .long s96.1), (8, .long s96.2.1), (10, .int s96.2.2.1), (11, .int (s96.2.2.2.1 11 0 s96.2.2.1.toNatClampNeg))] → W p l e R s m args below meth c H locs 0 0 Q (F0 m 145 ls [.long j145]) := by
                intro j145 h1 H locs ls hP hS hl
                unfold r_batch_J145 at h1
                refine lv_lstore (lv' := [(12, .long j145), (0, .ref (ad (fr_lay 0 0))), (1, .int y17.1), (6, .long s96.1), (8, .long s96.2.1), (10, .int s96.2.2.1), (11, .int (s96.2.2.2.1 11 0 s96.2.2.1.toNatClampNeg))]) hx hb dX6_batch_145 hl (by decide) rfl (fun ls hl => ?_)
                refine lv_aload_n hx hb dX6_batch_147 rfl (lv_at hl 1 rfl) ?_
                refine fr_g6_49 hx hb hT hown hK hP (by decide) dX6_batch_148 ?_
                refine lv_iload hx hb dX6_batch_151 (lv_at hl 6 rfl) ?_
                refine lv_lload hx hb dX6_batch_153 (lv_at hl 0 rfl) ?_
                refine lv_aload_n hx hb dX6_batch_155 rfl (lv_at hl 1 rfl) ?_
                refine fr_g6_36 hx hb hT hown hK hP (by decide) dX6_batch_156 ?_
                refine lv_iload hx hb dX6_batch_159 (lv_at hl 6 rfl) ?_
                obtain ⟨g15, h1⟩ := fo_gd h1 hN1
                refine fr_iald (k := 9) (n := 16) hx hb hK hP (by decide) (by decide) (fun _ _ => rfl) g15 dX6_batch_161 ?_
                refine lv_i2l hx hb dX6_batch_162 rfl ?_
                refine W.lcmp hx hb dX6_batch_163 ?_
                have J180 : ∀ j180 : Int64, r_batch_J180 y17 s96 j180 = o1 → ∀ (H : Heap) (locs : List Loc) (ls : Array Slot), va_P D vwCl (fo_vx 25 ad (fr_ce ca ad s96.2.2.2)) H → va_S (fo_A 25 ad s.heap.size) s.heap H locs → lv_has ls 14 [(0, .ref (ad (fr_lay 0 0))), (1, .int y17.1), (6, .long s96.1), (8, .long s96.2.1), (10, .int s96.2.2.1), (11, .int (s96.2.2.2.1 11 0 s96.2.2.1.toNatClampNeg))] → W p l e R s m args below meth c H locs 0 0 Q (F0 m 180 ls [.long j180, .int (s96.2.2.2.1 11 0 s96.2.2.1.toNatClampNeg), .ref (ad (fr_lay 12 0))]) := by
                  intro j180 h1 H locs ls hP hS hl
                  unfold r_batch_J180 at h1
                  refine lv_l2i hx hb dX6_batch_180 rfl ?_
                  obtain ⟨g16, h1⟩ := fo_gd h1 hN1
                  refine fr_iast (k := 12) (n := 16) hx hb hK hP hD hS (by decide) (by decide) (fun _ _ => rfl) g16 dX6_batch_181 (fun H locs hP hS => ?_)
                  obtain ⟨w17, hw17, h1⟩ := fo_bd h1 hN1
                  replace hw17 := Option.some.inj hw17
                  rw [hw17] at hP
                  refine lv_aload_n hx hb dX6_batch_182 rfl (lv_at hl 0 rfl) ?_
                  refine fr_g6_52 hx hb hT hown hK hP (by decide) dX6_batch_183 ?_
                  refine lv_iload hx hb dX6_batch_186 (lv_at hl 5 rfl) ?_
                  refine lv_aload_n hx hb dX6_batch_188 rfl (lv_at hl 0 rfl) ?_
                  refine fr_g6_49 hx hb hT hown hK hP (by decide) dX6_batch_189 ?_
                  refine lv_iload hx hb dX6_batch_192 (lv_at hl 5 rfl) ?_
                  obtain ⟨g18, h1⟩ := fo_gd h1 hN1
                  refine fr_iald (k := 12) (n := 16) hx hb hK hP (by decide) (by decide) (fun _ _ => rfl) g18 dX6_batch_194 ?_
                  refine lv_i2l hx hb dX6_batch_195 rfl ?_
                  refine lv_iload_n hx hb dX6_batch_196 rfl (lv_at hl 1 rfl) ?_
                  refine lv_i2l hx hb dX6_batch_197 rfl ?_
                  refine lv_lmul hx hb dX6_batch_198 ?_
                  obtain ⟨g19, h1⟩ := fo_gd h1 hN1
                  refine fr_last (k := 13) (n := 16) hx hb hK hP hD hS (by decide) (by decide) (fun _ _ => rfl) g19 dX6_batch_199 (fun H locs hP hS => ?_)
                  obtain ⟨w20, hw20, h1⟩ := fo_bd h1 hN1
                  replace hw20 := Option.some.inj hw20
                  rw [hw20] at hP
                  refine lv_aload_n hx hb dX6_batch_200 rfl (lv_at hl 0 rfl) ?_
                  refine fr_g6_30 hx hb hT hown hK hP (by decide) dX6_batch_201 ?_
                  refine lv_iload hx hb dX6_batch_204 (lv_at hl 5 rfl) ?_
                  obtain ⟨g21, h1⟩ := fo_gd h1 hN1
                  refine fr_iald (k := 7) (n := 16) hx hb hK hP (by decide) (by decide) (fun _ _ => rfl) g21 dX6_batch_206 ?_
                  refine lv_if_ne (tgt := 271) hx hb dX6_batch_207 (by decide) (fun c22 => ?_) (fun c22 => ?_)
                  · replace h1 := fo_itF c22 h1
                    refine lv_lload hx hb dX6_batch_271 (lv_at hl 3 rfl) ?_
                    refine lv_aload_n hx hb dX6_batch_273 rfl (lv_at hl 0 rfl) ?_
                    refine fr_g6_49 hx hb hT hown hK hP (by decide) dX6_batch_274 ?_
                    refine lv_iload hx hb dX6_batch_277 (lv_at hl 5 rfl) ?_
                    obtain ⟨g23, h1⟩ := fo_gd h1 hN1
                    refine fr_iald (k := 12) (n := 16) hx hb hK hP (by decide) (by decide) (fun _ _ => rfl) g23 dX6_batch_279 ?_
                    refine lv_i2l hx hb dX6_batch_280 rfl ?_
                    refine lv_lsub hx hb dX6_batch_281 ?_
                    refine lv_lstore (lv' := [(8, .long (s96.2.1 - ((w20.1 12 0 (s96.2.2.2.1 11 0 s96.2.2.1.toNatClampNeg).toNatClampNeg).toInt64))), (0, .ref (ad (fr_lay 0 0))), (1, .int y17.1), (6, .long s96.1), (10, .int s96.2.2.1), (11, .int (s96.2.2.2.1 11 0 s96.2.2.1.toNatClampNeg))]) hx hb dX6_batch_282 hl (by decide) rfl (fun ls hl => ?_)
                    refine lv_aload_n hx hb dX6_batch_284 rfl (lv_at hl 1 rfl) ?_
                    refine fr_g6_7 hx hb hT hown hK hP (by decide) dX6_batch_285 ?_
                    refine lv_aload_n hx hb dX6_batch_288 rfl (lv_at hl 1 rfl) ?_
                    refine fr_g6_16 hx hb hT hown hK hP (by decide) dX6_batch_289 ?_
                    refine lv_iload hx hb dX6_batch_292 (lv_at hl 5 rfl) ?_
                    obtain ⟨g24, h1⟩ := fo_gd h1 hN1
                    refine fr_iald (k := 3) (n := 16) hx hb hK hP (by decide) (by decide) (fun _ _ => rfl) g24 dX6_batch_294 ?_
                    refine lv_dup2_11 hx hb dX6_batch_295 rfl rfl ?_
                    obtain ⟨g25, h1⟩ := fo_gd h1 hN1
                    refine fr_lald (k := 1) (n := 8) hx hb hK hP (by decide) (by decide) (fun _ _ => rfl) g25 dX6_batch_296 ?_
                    refine lv_aload_n hx hb dX6_batch_297 rfl (lv_at hl 1 rfl) ?_
                    refine fr_g6_52 hx hb hT hown hK hP (by decide) dX6_batch_298 ?_
                    refine lv_iload hx hb dX6_batch_301 (lv_at hl 5 rfl) ?_
                    obtain ⟨g26, h1⟩ := fo_gd h1 hN1
                    refine fr_lald (k := 13) (n := 16) hx hb hK hP (by decide) (by decide) (fun _ _ => rfl) g26 dX6_batch_303 ?_
                    refine lv_ladd hx hb dX6_batch_304 ?_
                    obtain ⟨g27, h1⟩ := fo_gd h1 hN1
                    refine fr_last (k := 1) (n := 8) hx hb hK hP hD hS (by decide) (by decide) (fun _ _ => rfl) g27 dX6_batch_305 (fun H locs hP hS => ?_)
                    obtain ⟨w28, hw28, h1⟩ := fo_bd h1 hN1
                    replace hw28 := Option.some.inj hw28
                    rw [hw28] at hP
                    refine lv_aload_n hx hb dX6_batch_306 rfl (lv_at hl 1 rfl) ?_
                    refine fr_g6_13 hx hb hT hown hK hP (by decide) dX6_batch_307 ?_
                    refine lv_aload_n hx hb dX6_batch_310 rfl (lv_at hl 1 rfl) ?_
                    refine fr_g6_16 hx hb hT hown hK hP (by decide) dX6_batch_311 ?_
                    refine lv_iload hx hb dX6_batch_314 (lv_at hl 5 rfl) ?_
                    obtain ⟨g29, h1⟩ := fo_gd h1 hN1
                    refine fr_iald (k := 3) (n := 16) hx hb hK hP (by decide) (by decide) (fun _ _ => rfl) g29 dX6_batch_316 ?_
                    refine lv_dup2_11 hx hb dX6_batch_317 rfl rfl ?_
                    obtain ⟨g30, h1⟩ := fo_gd h1 hN1
                    refine fr_lald (k := 2) (n := 8) hx hb hK hP (by decide) (by decide) (fun _ _ => rfl) g30 dX6_batch_318 ?_
                    refine lv_aload_n hx hb dX6_batch_319 rfl (lv_at hl 1 rfl) ?_
                    refine fr_g6_49 hx hb hT hown hK hP (by decide) dX6_batch_320 ?_
                    refine lv_iload hx hb dX6_batch_323 (lv_at hl 5 rfl) ?_
                    obtain ⟨g31, h1⟩ := fo_gd h1 hN1
                    refine fr_iald (k := 12) (n := 16) hx hb hK hP (by decide) (by decide) (fun _ _ => rfl) g31 dX6_batch_325 ?_
                    refine lv_i2l hx hb dX6_batch_326 rfl ?_
                    refine lv_lsub hx hb dX6_batch_327 ?_
                    obtain ⟨g32, h1⟩ := fo_gd h1 hN1
                    refine fr_last (k := 2) (n := 8) hx hb hK hP hD hS (by decide) (by decide) (fun _ _ => rfl) g32 dX6_batch_328 (fun H locs hP hS => ?_)
                    obtain ⟨w33, hw33, h1⟩ := fo_bd h1 hN1
                    replace hw33 := Option.some.inj hw33
                    rw [hw33] at hP
                    refine lv_iinc (v := s96.2.2.1 + (1 : Int32)) (lv' := [(10, .int (s96.2.2.1 + (1 : Int32))), (8, .long (s96.2.1 - ((w20.1 12 0 (s96.2.2.2.1 11 0 s96.2.2.1.toNatClampNeg).toNatClampNeg).toInt64))), (0, .ref (ad (fr_lay 0 0))), (1, .int y17.1), (6, .long s96.1), (11, .int (s96.2.2.2.1 11 0 s96.2.2.1.toNatClampNeg))]) hx hb dX6_batch_329 hl (k := 4) rfl rfl (by decide) rfl (fun ls hl => ?_)
                    refine lv_goto (tgt := 96) hx hb dX6_batch_332 (by decide) ?_
                    exact hL1 _ h1 _ _ ls hP hS (lv_sub hl [2, 3, 4, 1, 0] rfl)
                  · replace h1 := fo_itT c22 h1
                    refine lv_lload hx hb dX6_batch_210 (lv_at hl 2 rfl) ?_
                    refine lv_aload_n hx hb dX6_batch_212 rfl (lv_at hl 0 rfl) ?_
                    refine fr_g6_49 hx hb hT hown hK hP (by decide) dX6_batch_213 ?_
                    refine lv_iload hx hb dX6_batch_216 (lv_at hl 5 rfl) ?_
                    obtain ⟨g34, h1⟩ := fo_gd h1 hN1
                    refine fr_iald (k := 12) (n := 16) hx hb hK hP (by decide) (by decide) (fun _ _ => rfl) g34 dX6_batch_218 ?_
                    refine lv_i2l hx hb dX6_batch_219 rfl ?_
                    refine lv_lsub hx hb dX6_batch_220 ?_
                    refine lv_lstore (lv' := [(6, .long (s96.1 - ((w20.1 12 0 (s96.2.2.2.1 11 0 s96.2.2.1.toNatClampNeg).toNatClampNeg).toInt64))), (0, .ref (ad (fr_lay 0 0))), (1, .int y17.1), (8, .long s96.2.1), (10, .int s96.2.2.1), (11, .int (s96.2.2.2.1 11 0 s96.2.2.1.toNatClampNeg))]) hx hb dX6_batch_221 hl (by decide) rfl (fun ls hl => ?_)
                    refine lv_aload_n hx hb dX6_batch_223 rfl (lv_at hl 1 rfl) ?_
                    refine fr_g6_7 hx hb hT hown hK hP (by decide) dX6_batch_224 ?_
                    refine lv_aload_n hx hb dX6_batch_227 rfl (lv_at hl 1 rfl) ?_
                    refine fr_g6_16 hx hb hT hown hK hP (by decide) dX6_batch_228 ?_
                    refine lv_iload hx hb dX6_batch_231 (lv_at hl 5 rfl) ?_
                    obtain ⟨g35, h1⟩ := fo_gd h1 hN1
                    refine fr_iald (k := 3) (n := 16) hx hb hK hP (by decide) (by decide) (fun _ _ => rfl) g35 dX6_batch_233 ?_
                    refine lv_dup2_11 hx hb dX6_batch_234 rfl rfl ?_
                    obtain ⟨g36, h1⟩ := fo_gd h1 hN1
                    refine fr_lald (k := 1) (n := 8) hx hb hK hP (by decide) (by decide) (fun _ _ => rfl) g36 dX6_batch_235 ?_
                    refine lv_aload_n hx hb dX6_batch_236 rfl (lv_at hl 1 rfl) ?_
                    refine fr_g6_52 hx hb hT hown hK hP (by decide) dX6_batch_237 ?_
                    refine lv_iload hx hb dX6_batch_240 (lv_at hl 5 rfl) ?_
                    obtain ⟨g37, h1⟩ := fo_gd h1 hN1
                    refine fr_lald (k := 13) (n := 16) hx hb hK hP (by decide) (by decide) (fun _ _ => rfl) g37 dX6_batch_242 ?_
                    refine lv_lsub hx hb dX6_batch_243 ?_
                    obtain ⟨g38, h1⟩ := fo_gd h1 hN1
                    refine fr_last (k := 1) (n := 8) hx hb hK hP hD hS (by decide) (by decide) (fun _ _ => rfl) g38 dX6_batch_244 (fun H locs hP hS => ?_)
                    obtain ⟨w39, hw39, h1⟩ := fo_bd h1 hN1
                    replace hw39 := Option.some.inj hw39
                    rw [hw39] at hP
                    refine lv_aload_n hx hb dX6_batch_245 rfl (lv_at hl 1 rfl) ?_
                    refine fr_g6_13 hx hb hT hown hK hP (by decide) dX6_batch_246 ?_
                    refine lv_aload_n hx hb dX6_batch_249 rfl (lv_at hl 1 rfl) ?_
                    refine fr_g6_16 hx hb hT hown hK hP (by decide) dX6_batch_250 ?_
                    refine lv_iload hx hb dX6_batch_253 (lv_at hl 5 rfl) ?_
                    obtain ⟨g40, h1⟩ := fo_gd h1 hN1
                    refine fr_iald (k := 3) (n := 16) hx hb hK hP (by decide) (by decide) (fun _ _ => rfl) g40 dX6_batch_255 ?_
                    refine lv_dup2_11 hx hb dX6_batch_256 rfl rfl ?_
                    obtain ⟨g41, h1⟩ := fo_gd h1 hN1
                    refine fr_lald (k := 2) (n := 8) hx hb hK hP (by decide) (by decide) (fun _ _ => rfl) g41 dX6_batch_257 ?_
                    refine lv_aload_n hx hb dX6_batch_258 rfl (lv_at hl 1 rfl) ?_
                    refine fr_g6_49 hx hb hT hown hK hP (by decide) dX6_batch_259 ?_
                    refine lv_iload hx hb dX6_batch_262 (lv_at hl 5 rfl) ?_
                    obtain ⟨g42, h1⟩ := fo_gd h1 hN1
                    refine fr_iald (k := 12) (n := 16) hx hb hK hP (by decide) (by decide) (fun _ _ => rfl) g42 dX6_batch_264 ?_
                    refine lv_i2l hx hb dX6_batch_265 rfl ?_
                    refine lv_ladd hx hb dX6_batch_266 ?_
                    obtain ⟨g43, h1⟩ := fo_gd h1 hN1
                    refine fr_last (k := 2) (n := 8) hx hb hK hP hD hS (by decide) (by decide) (fun _ _ => rfl) g43 dX6_batch_267 (fun H locs hP hS => ?_)
                    obtain ⟨w44, hw44, h1⟩ := fo_bd h1 hN1
                    replace hw44 := Option.some.inj hw44
                    rw [hw44] at hP
                    refine lv_goto (tgt := 329) hx hb dX6_batch_268 (by decide) ?_
                    refine lv_iinc (v := s96.2.2.1 + (1 : Int32)) (lv' := [(10, .int (s96.2.2.1 + (1 : Int32))), (6, .long (s96.1 - ((w20.1 12 0 (s96.2.2.2.1 11 0 s96.2.2.1.toNatClampNeg).toNatClampNeg).toInt64))), (0, .ref (ad (fr_lay 0 0))), (1, .int y17.1), (8, .long s96.2.1), (11, .int (s96.2.2.2.1 11 0 s96.2.2.1.toNatClampNeg))]) hx hb dX6_batch_329 hl (k := 4) rfl rfl (by decide) rfl (fun ls hl => ?_)
                    refine lv_goto (tgt := 96) hx hb dX6_batch_332 (by decide) ?_
                    exact hL1 _ h1 _ _ ls hP hS (lv_sub hl [2, 3, 1, 4, 0] rfl)
                refine lv_if_ge (tgt := 172) hx hb dX6_batch_164 (by decide) (fun c45 => ?_) (fun c45 => ?_)
                · replace h1 := fo_itT c45 h1
                  refine lv_aload_n hx hb dX6_batch_172 rfl (lv_at hl 1 rfl) ?_
                  refine fr_g6_36 hx hb hT hown hK hP (by decide) dX6_batch_173 ?_
                  refine lv_iload hx hb dX6_batch_176 (lv_at hl 6 rfl) ?_
                  obtain ⟨g46, h1⟩ := fo_gd h1 hN1
                  refine fr_iald (k := 9) (n := 16) hx hb hK hP (by decide) (by decide) (fun _ _ => rfl) g46 dX6_batch_178 ?_
                  refine lv_i2l hx hb dX6_batch_179 rfl ?_
                  exact J180 _ h1 _ _ ls hP hS (lv_sub hl [1, 2, 3, 4, 5, 6] rfl)
                · replace h1 := fo_itF c45 h1
                  refine lv_lload hx hb dX6_batch_167 (lv_at hl 0 rfl) ?_
                  refine lv_goto (tgt := 180) hx hb dX6_batch_169 (by decide) ?_
                  exact J180 _ h1 _ _ ls hP hS (lv_sub hl [1, 2, 3, 4, 5, 6] rfl)
              refine lv_if_ne (tgt := 128) hx hb dX6_batch_121 (by decide) (fun c47 => ?_) (fun c47 => ?_)
              · replace h1 := fo_itF c47 h1
                refine lv_aload_n hx hb dX6_batch_128 rfl (lv_at hl 1 rfl) ?_
                refine fr_g6_30 hx hb hT hown hK hP (by decide) dX6_batch_129 ?_
                refine lv_iload hx hb dX6_batch_132 (lv_at hl 0 rfl) ?_
                obtain ⟨g48, h1⟩ := fo_gd h1 hN1
                refine fr_iald (k := 7) (n := 16) hx hb hK hP (by decide) (by decide) (fun _ _ => rfl) g48 dX6_batch_134 ?_
                refine lv_if_ne (tgt := 143) hx hb dX6_batch_135 (by decide) (fun c49 => ?_) (fun c49 => ?_)
                · replace h1 := fo_itF c49 h1
                  refine lv_lload hx hb dX6_batch_143 (lv_at hl 4 rfl) ?_
                  exact J145 _ h1 _ _ ls hP hS (lv_sub hl [1, 2, 3, 4, 5, 0] rfl)
                · replace h1 := fo_itT c49 h1
                  refine lv_lload hx hb dX6_batch_138 (lv_at hl 3 rfl) ?_
                  refine lv_goto (tgt := 145) hx hb dX6_batch_140 (by decide) ?_
                  exact J145 _ h1 _ _ ls hP hS (lv_sub hl [1, 2, 3, 4, 5, 0] rfl)
              · replace h1 := fo_itT c47 h1
                refine lv_lconst (v := 0) hx hb dX6_batch_124 (by decide) ?_
                refine lv_goto (tgt := 145) hx hb dX6_batch_125 (by decide) ?_
                exact J145 _ h1 _ _ ls hP hS (lv_sub hl [1, 2, 3, 4, 5, 0] rfl)) _ _ hy96
        exact lp96 _ _ ls hP hS (lv_sub hl [4, 5, 2, 1, 0] rfl)
      · replace h0 := fo_itT c9 h0
        refine lv_iconst (v := -1) hx hb dX6_batch_76 (by decide) ?_
        have hr51 := Option.some.inj h0
        subst hr51
        exact kr _ ls _ _ dX6_batch_77 hP hS
    have lp17 := fo_lp_ind (fun (s17 : Int32 × Int64 × Int32 × fo_S) => ∀ (H : Heap) (locs : List Loc) (ls : Array Slot), va_P D vwCl (fo_vx 25 ad (fr_ce ca ad s17.2.2.2)) H → va_S (fo_A 25 ad s.heap.size) s.heap H locs → lv_has ls 14 [(0, .ref (ad (fr_lay 0 0))), (1, .int s17.1), (2, .long s17.2.1), (4, .int s17.2.2.1)] → W p l e R s m args below meth c H locs 0 0 Q (F0 m 17 ls [])) (by
        intro s17 o1 h1 hN1 hL1 hE1 H locs ls hP hS hl
        unfold r_batch_L17 at h1
        refine lv_iload hx hb dX6_batch_17 (lv_at hl 3 rfl) ?_
        refine lv_sipush (v := 1000) hx hb dX6_batch_19 (by decide) ?_
        refine lv_icmp_gt (tgt := 67) hx hb dX6_batch_22 (by decide) (fun c3 => ?_) (fun c3 => ?_)
        · replace h1 := fo_itT c3 h1
          have hy4 := hE1 _ h1
          subst hy4
          exact ex17 _ _ ls hP hS (lv_sub hl [0, 1] rfl)
        · replace h1 := fo_itF c3 h1
          refine lv_aload_n hx hb dX6_batch_25 rfl (lv_at hl 0 rfl) ?_
          refine lv_iload hx hb dX6_batch_26 (lv_at hl 3 rfl) ?_
          obtain ⟨x5, hx5, h1⟩ := fo_bd h1 hN1
          refine fo_calll (va_runV (H := _) (As := [.int s17.2.2.1]) (rest := []) ⟨hx, hb, hml, hown, hT⟩ (c_r_market l D ca ad _ hx5) (fr_c6_206 hT ⟨Nat.le_trans (Nat.le_of_ble_eq_true rfl) hRf, Nat.le_trans (Nat.le_of_ble_eq_true rfl) hRl⟩) ⟨fo_Pre_blind, fr_rc0 hK hP (by decide), fo_Pre_at hP hK (hD _)⟩ rfl rfl hl.1 rfl (lv_room (Nat.le_of_ble_eq_true rfl)) dX6_batch_28 ⟨Nat.zero_le _, Nat.zero_le _⟩) hS (fun H locs hP hS => ?_)
          refine lv_lstore (lv' := [(5, .long x5.1), (0, .ref (ad (fr_lay 0 0))), (1, .int s17.1), (2, .long s17.2.1), (4, .int s17.2.2.1)]) hx hb dX6_batch_31 hl (by decide) rfl (fun ls hl => ?_)
          refine lv_lload hx hb dX6_batch_33 (lv_at hl 0 rfl) ?_
          refine lv_lload_n hx hb dX6_batch_35 rfl (lv_at hl 3 rfl) ?_
          refine W.lcmp hx hb dX6_batch_36 ?_
          have J46 : ∀ j46 : Int32, r_batch_J46 s17 x5 j46 = o1 → ∀ (H : Heap) (locs : List Loc) (ls : Array Slot), va_P D vwCl (fo_vx 25 ad (fr_ce ca ad x5.2)) H → va_S (fo_A 25 ad s.heap.size) s.heap H locs → lv_has ls 14 [(0, .ref (ad (fr_lay 0 0))), (2, .long s17.2.1), (4, .int s17.2.2.1), (5, .long x5.1)] → W p l e R s m args below meth c H locs 0 0 Q (F0 m 46 ls [.int j46]) := by
            intro j46 h1 H locs ls hP hS hl
            unfold r_batch_J46 at h1
            refine lv_istore_n (lv' := [(1, .int j46), (0, .ref (ad (fr_lay 0 0))), (2, .long s17.2.1), (4, .int s17.2.2.1), (5, .long x5.1)]) hx hb dX6_batch_46 rfl hl (by decide) rfl (fun ls hl => ?_)
            refine lv_lload hx hb dX6_batch_47 (lv_at hl 4 rfl) ?_
            refine lv_lload_n hx hb dX6_batch_49 rfl (lv_at hl 2 rfl) ?_
            refine W.lcmp hx hb dX6_batch_50 ?_
            refine lv_if_le (tgt := 59) hx hb dX6_batch_51 (by decide) (fun c6 => ?_) (fun c6 => ?_)
            · replace h1 := fo_itT c6 h1
              refine lv_lload_n hx hb dX6_batch_59 rfl (lv_at hl 2 rfl) ?_
              refine lv_lstore_n (lv' := [(2, .long s17.2.1), (1, .int j46), (0, .ref (ad (fr_lay 0 0))), (4, .int s17.2.2.1), (5, .long x5.1)]) hx hb dX6_batch_60 rfl hl (by decide) rfl (fun ls hl => ?_)
              refine lv_iinc (v := s17.2.2.1 + (1 : Int32)) (lv' := [(4, .int (s17.2.2.1 + (1 : Int32))), (2, .long s17.2.1), (1, .int j46), (0, .ref (ad (fr_lay 0 0))), (5, .long x5.1)]) hx hb dX6_batch_61 hl (k := 3) rfl rfl (by decide) rfl (fun ls hl => ?_)
              refine lv_goto (tgt := 17) hx hb dX6_batch_64 (by decide) ?_
              exact hL1 _ h1 _ _ ls hP hS (lv_sub hl [3, 2, 1, 0] rfl)
            · replace h1 := fo_itF c6 h1
              refine lv_lload hx hb dX6_batch_54 (lv_at hl 4 rfl) ?_
              refine lv_goto (tgt := 60) hx hb dX6_batch_56 (by decide) ?_
              refine lv_lstore_n (lv' := [(2, .long x5.1), (1, .int j46), (0, .ref (ad (fr_lay 0 0))), (4, .int s17.2.2.1), (5, .long x5.1)]) hx hb dX6_batch_60 rfl hl (by decide) rfl (fun ls hl => ?_)
              refine lv_iinc (v := s17.2.2.1 + (1 : Int32)) (lv' := [(4, .int (s17.2.2.1 + (1 : Int32))), (2, .long x5.1), (1, .int j46), (0, .ref (ad (fr_lay 0 0))), (5, .long x5.1)]) hx hb dX6_batch_61 hl (k := 3) rfl rfl (by decide) rfl (fun ls hl => ?_)
              refine lv_goto (tgt := 17) hx hb dX6_batch_64 (by decide) ?_
              exact hL1 _ h1 _ _ ls hP hS (lv_sub hl [3, 2, 1, 0] rfl)
          refine lv_if_le (tgt := 45) hx hb dX6_batch_37 (by decide) (fun c7 => ?_) (fun c7 => ?_)
          · replace h1 := fo_itT c7 h1
            refine lv_iload_n hx hb dX6_batch_45 rfl (lv_at hl 2 rfl) ?_
            exact J46 _ h1 _ _ ls hP hS (lv_sub hl [1, 3, 4, 0] rfl)
          · replace h1 := fo_itF c7 h1
            refine lv_iload hx hb dX6_batch_40 (lv_at hl 4 rfl) ?_
            refine lv_goto (tgt := 46) hx hb dX6_batch_42 (by decide) ?_
            exact J46 _ h1 _ _ ls hP hS (lv_sub hl [1, 3, 4, 0] rfl)) _ _ hy17
    exact lp17 _ _ ls hP hS (lv_sub hl [3, 2, 1, 0] rfl)
  · replace h0 := fo_itT c2 h0
    refine lv_bipush (v := -4) hx hb dX6_batch_7 (by decide) ?_
    have hr52 := Option.some.inj h0
    subst hr52
    exact kr _ ls _ _ dX6_batch_9 hP hS
theorem c_r_batch (l : Launch) (D : va_G) (ca : Nat → ClassId) (ad : Nat → Nat) (sz : Nat) {σ : fo_S}   {res : Int32 × fo_S} (h0 : r_batch σ = some res) : Met l yX6_batch ws_r_batch rm_r_batch (fo_Pre 25 D vwCl (fr_tys ca) ad (fr_ce ca ad σ) sz [.ref (ad (fr_lay 0 0))]) (fo_PoI 25 D vwCl (fr_tys ca) ad (fr_ce ca ad res.2) sz res.1) 0 0 (fo_A 25 ad sz) :=
  fr_mkI (by decide) (fun C0 kr hP => b_r_batch C0 (Nat.le_refl _) (Nat.le_refl _) (Nat.zero_le _)  h0 kr hP)
def r_done (σ : fo_S) (a1 : Int32) : Option (Int32) :=
  (r_isCall σ a1).bind (fun x1 => if x1 = 0 then (some (-2 : Int32)) else (if (σ.1 0 0 19) = 0 then (some (-1 : Int32)) else (if fo_vi a1 16 then (some (σ.1 12 0 a1.toNatClampNeg)) else none)))
set_option maxHeartbeats 4000000 in
set_option maxRecDepth 100000 in
theorem b_r_done {p : Program} {l : Launch} {e : Env} {R : Room} {s : State} {m : MethodId} {args : Array Value} {below : List Frame} {meth : Method} {c : Code} {Q : State → Prop} {D : va_G} {ca : Nat → ClassId} {ad : Nat → Nat} (C0 : fr_CX p s m args c cX6_done 2 RX6 D ca ad) (hRf : 2 ≤ R.frames) (hRl : 46 ≤ R.locals) (hRc : 0 ≤ R.cells) {σ : fo_S} {a1 : Int32}  {res : Int32} (h0 : r_done σ a1 = some res) (kr : ∀ (pc : Nat) (ls : Array Slot) (H : Heap) (locs : List Loc), decode cX6_done pc = .ok (.ireturn, 1) → va_P D vwCl (fo_vx 25 ad (fr_ce ca ad σ)) H → va_S (fo_A 25 ad s.heap.size) s.heap H locs → W p l e R s m args below meth c H locs 0 0 Q (F0 m pc ls [.int res])) (hP : va_P D vwCl (fo_vx 25 ad (fr_ce ca ad σ)) s.heap) : W p l e R s m args below meth c s.heap [] 0 0 Q (entryFrame m ([.ref (ad (fr_lay 0 0)), .int a1] : List Value).toArray 2) := by
  obtain ⟨hx, hb, hml, hown, hT, hK, hD⟩ := C0
  have hN0 : (some res) ≠ none := fun q => by cases q
  unfold r_done at h0
  have hS : va_S (fo_A 25 ad s.heap.size) s.heap s.heap [] := va_S.rf
  have hl := lv_entry ([.ref (ad (fr_lay 0 0)), .int a1]) (n := 2) (Nat.le_of_ble_eq_true rfl)
  rw [lg_entry_eq]
  generalize (lg_sl ([.ref (ad (fr_lay 0 0)), .int a1]) ++ List.replicate (2 - (lg_sl ([.ref (ad (fr_lay 0 0)), .int a1])).length) Slot.unset).toArray = ls at hl ⊢
  have hl : lv_has ls 2 [(0, .ref (ad (fr_lay 0 0))), (1, .int a1)] := hl
  refine lv_aload_n hx hb dX6_done_0 rfl (lv_at hl 0 rfl) ?_
  refine lv_iload_n hx hb dX6_done_1 rfl (lv_at hl 1 rfl) ?_
  obtain ⟨x1, hx1, h0⟩ := fo_bd h0 hN0
  refine fo_calli (va_runV (H := _) (As := [.int a1]) (rest := []) ⟨hx, hb, hml, hown, hT⟩ (c_r_isCall l D ca ad _ hx1) (fr_c6_141 hT ⟨Nat.le_trans (Nat.le_of_ble_eq_true rfl) hRf, Nat.le_trans (Nat.le_of_ble_eq_true rfl) hRl⟩) ⟨fo_Pre_blind, fr_rc0 hK hP (by decide), fo_Pre_at hP hK (hD _)⟩ rfl rfl hl.1 rfl (lv_room (Nat.le_of_ble_eq_true rfl)) dX6_done_2 ⟨Nat.zero_le _, Nat.zero_le _⟩) hS (fun H locs hP hS => ?_)
  refine lv_if_ne (tgt := 13) hx hb dX6_done_5 (by decide) (fun c2 => ?_) (fun c2 => ?_)
  · replace h0 := fo_itF c2 h0
    refine lv_aload_n hx hb dX6_done_13 rfl (lv_at hl 0 rfl) ?_
    refine fr_g6_95 hx hb hT hown hK hP (by decide) dX6_done_14 ?_
    refine lv_if_ne (tgt := 24) hx hb dX6_done_17 (by decide) (fun c3 => ?_) (fun c3 => ?_)
    · replace h0 := fo_itF c3 h0
      refine lv_aload_n hx hb dX6_done_24 rfl (lv_at hl 0 rfl) ?_
      refine fr_g6_49 hx hb hT hown hK hP (by decide) dX6_done_25 ?_
      refine lv_iload_n hx hb dX6_done_28 rfl (lv_at hl 1 rfl) ?_
      obtain ⟨g4, h0⟩ := fo_gd h0 hN0
      refine fr_iald (k := 12) (n := 16) hx hb hK hP (by decide) (by decide) (fun _ _ => rfl) g4 dX6_done_29 ?_
      have hr5 := Option.some.inj h0
      subst hr5
      exact kr _ ls _ _ dX6_done_30 hP hS
    · replace h0 := fo_itT c3 h0
      refine lv_iconst (v := -1) hx hb dX6_done_20 (by decide) ?_
      refine lv_goto (tgt := 30) hx hb dX6_done_21 (by decide) ?_
      have hr6 := Option.some.inj h0
      subst hr6
      exact kr _ ls _ _ dX6_done_30 hP hS
  · replace h0 := fo_itT c2 h0
    refine lv_bipush (v := -2) hx hb dX6_done_8 (by decide) ?_
    refine lv_goto (tgt := 30) hx hb dX6_done_10 (by decide) ?_
    have hr7 := Option.some.inj h0
    subst hr7
    exact kr _ ls _ _ dX6_done_30 hP hS
theorem c_r_done (l : Launch) (D : va_G) (ca : Nat → ClassId) (ad : Nat → Nat) (sz : Nat) {σ : fo_S} {a1 : Int32}  {res : Int32} (h0 : r_done σ a1 = some res) : Met l yX6_done ws_r_done rm_r_done (fo_Pre 25 D vwCl (fr_tys ca) ad (fr_ce ca ad σ) sz [.ref (ad (fr_lay 0 0)), .int a1]) (fo_PoI 25 D vwCl (fr_tys ca) ad (fr_ce ca ad σ) sz res) 0 0 (fo_A 25 ad sz) :=
  fr_mkI (by decide) (fun C0 kr hP => b_r_done C0 (Nat.le_refl _) (Nat.le_refl _) (Nat.zero_le _)  h0 kr hP)
def r_passed (σ : fo_S) (a1 : Int32) : Option (Int64) :=
  (r_isCall σ a1).bind (fun x1 => if x1 = 0 then (some (-2 : Int64)) else (if (σ.1 0 0 19) = 0 then (some (-1 : Int64)) else (if fo_vi a1 16 then (some (σ.2 13 0 a1.toNatClampNeg)) else none)))
set_option maxHeartbeats 4000000 in
set_option maxRecDepth 100000 in
theorem b_r_passed {p : Program} {l : Launch} {e : Env} {R : Room} {s : State} {m : MethodId} {args : Array Value} {below : List Frame} {meth : Method} {c : Code} {Q : State → Prop} {D : va_G} {ca : Nat → ClassId} {ad : Nat → Nat} (C0 : fr_CX p s m args c cX6_passed 2 RX6 D ca ad) (hRf : 2 ≤ R.frames) (hRl : 46 ≤ R.locals) (hRc : 0 ≤ R.cells) {σ : fo_S} {a1 : Int32}  {res : Int64} (h0 : r_passed σ a1 = some res) (kr : ∀ (pc : Nat) (ls : Array Slot) (H : Heap) (locs : List Loc), decode cX6_passed pc = .ok (.lreturn, 1) → va_P D vwCl (fo_vx 25 ad (fr_ce ca ad σ)) H → va_S (fo_A 25 ad s.heap.size) s.heap H locs → W p l e R s m args below meth c H locs 0 0 Q (F0 m pc ls [.long res])) (hP : va_P D vwCl (fo_vx 25 ad (fr_ce ca ad σ)) s.heap) : W p l e R s m args below meth c s.heap [] 0 0 Q (entryFrame m ([.ref (ad (fr_lay 0 0)), .int a1] : List Value).toArray 2) := by
  obtain ⟨hx, hb, hml, hown, hT, hK, hD⟩ := C0
  have hN0 : (some res) ≠ none := fun q => by cases q
  unfold r_passed at h0
  have hS : va_S (fo_A 25 ad s.heap.size) s.heap s.heap [] := va_S.rf
  have hl := lv_entry ([.ref (ad (fr_lay 0 0)), .int a1]) (n := 2) (Nat.le_of_ble_eq_true rfl)
  rw [lg_entry_eq]
  generalize (lg_sl ([.ref (ad (fr_lay 0 0)), .int a1]) ++ List.replicate (2 - (lg_sl ([.ref (ad (fr_lay 0 0)), .int a1])).length) Slot.unset).toArray = ls at hl ⊢
  have hl : lv_has ls 2 [(0, .ref (ad (fr_lay 0 0))), (1, .int a1)] := hl
  refine lv_aload_n hx hb dX6_passed_0 rfl (lv_at hl 0 rfl) ?_
  refine lv_iload_n hx hb dX6_passed_1 rfl (lv_at hl 1 rfl) ?_
  obtain ⟨x1, hx1, h0⟩ := fo_bd h0 hN0
  refine fo_calli (va_runV (H := _) (As := [.int a1]) (rest := []) ⟨hx, hb, hml, hown, hT⟩ (c_r_isCall l D ca ad _ hx1) (fr_c6_141 hT ⟨Nat.le_trans (Nat.le_of_ble_eq_true rfl) hRf, Nat.le_trans (Nat.le_of_ble_eq_true rfl) hRl⟩) ⟨fo_Pre_blind, fr_rc0 hK hP (by decide), fo_Pre_at hP hK (hD _)⟩ rfl rfl hl.1 rfl (lv_room (Nat.le_of_ble_eq_true rfl)) dX6_passed_2 ⟨Nat.zero_le _, Nat.zero_le _⟩) hS (fun H locs hP hS => ?_)
  refine lv_if_ne (tgt := 14) hx hb dX6_passed_5 (by decide) (fun c2 => ?_) (fun c2 => ?_)
  · replace h0 := fo_itF c2 h0
    refine lv_aload_n hx hb dX6_passed_14 rfl (lv_at hl 0 rfl) ?_
    refine fr_g6_95 hx hb hT hown hK hP (by decide) dX6_passed_15 ?_
    refine lv_if_ne (tgt := 27) hx hb dX6_passed_18 (by decide) (fun c3 => ?_) (fun c3 => ?_)
    · replace h0 := fo_itF c3 h0
      refine lv_aload_n hx hb dX6_passed_27 rfl (lv_at hl 0 rfl) ?_
      refine fr_g6_52 hx hb hT hown hK hP (by decide) dX6_passed_28 ?_
      refine lv_iload_n hx hb dX6_passed_31 rfl (lv_at hl 1 rfl) ?_
      obtain ⟨g4, h0⟩ := fo_gd h0 hN0
      refine fr_lald (k := 13) (n := 16) hx hb hK hP (by decide) (by decide) (fun _ _ => rfl) g4 dX6_passed_32 ?_
      have hr5 := Option.some.inj h0
      subst hr5
      exact kr _ ls _ _ dX6_passed_33 hP hS
    · replace h0 := fo_itT c3 h0
      refine lv_ldc2 (v := -1) hx hb hown (fr_k6_212 hT) dX6_passed_21 ?_
      refine lv_goto (tgt := 33) hx hb dX6_passed_24 (by decide) ?_
      have hr6 := Option.some.inj h0
      subst hr6
      exact kr _ ls _ _ dX6_passed_33 hP hS
  · replace h0 := fo_itT c2 h0
    refine lv_ldc2 (v := -2) hx hb hown (fr_k6_210 hT) dX6_passed_8 ?_
    refine lv_goto (tgt := 33) hx hb dX6_passed_11 (by decide) ?_
    have hr7 := Option.some.inj h0
    subst hr7
    exact kr _ ls _ _ dX6_passed_33 hP hS
theorem c_r_passed (l : Launch) (D : va_G) (ca : Nat → ClassId) (ad : Nat → Nat) (sz : Nat) {σ : fo_S} {a1 : Int32}  {res : Int64} (h0 : r_passed σ a1 = some res) : Met l yX6_passed ws_r_passed rm_r_passed (fo_Pre 25 D vwCl (fr_tys ca) ad (fr_ce ca ad σ) sz [.ref (ad (fr_lay 0 0)), .int a1]) (fo_PoL 25 D vwCl (fr_tys ca) ad (fr_ce ca ad σ) sz res) 0 0 (fo_A 25 ad sz) :=
  fr_mkL (by decide) (fun C0 kr hP => b_r_passed C0 (Nat.le_refl _) (Nat.le_refl _) (Nat.zero_le _)  h0 kr hP)
