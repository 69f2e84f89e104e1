def r_market_L2  (s2 : Int32 × fo_S) : Option ((Int32 × fo_S) ⊕ (Int32 × fo_S)) :=
  if (8 : Int32) ≤ s2.1 then (some (.inr (s2.1, s2.2))) else (if fo_vi s2.1 8 then ( if fo_vi s2.1 8 then (some (.inl (s2.1 + (1 : Int32), fo_pJ (fo_pJ s2.2 23 0 s2.1.toNatClampNeg (0 : Int64)) 24 0 s2.1.toNatClampNeg (0 : Int64)))) else none) else none)
def r_market_J259 (s40 : Int32 × fo_S) (j230 : Int32) (j259 : Int64) : Option ((Int32 × fo_S) ⊕ (Int32 × fo_S)) :=
  if fo_vi (s40.2.1 3 0 (s40.2.1 11 0 s40.1.toNatClampNeg).toNatClampNeg) 8 then ( if fo_vi (s40.2.1 11 0 s40.1.toNatClampNeg) 16 then (if ((fo_pJ (fo_pI s40.2 22 0 (s40.2.1 11 0 s40.1.toNatClampNeg).toNatClampNeg (vp_nar .boolean j230)) 24 0 (s40.2.1 3 0 (s40.2.1 11 0 s40.1.toNatClampNeg).toNatClampNeg).toNatClampNeg (((fo_pI s40.2 22 0 (s40.2.1 11 0 s40.1.toNatClampNeg).toNatClampNeg (vp_nar .boolean j230)).2 24 0 (s40.2.1 3 0 (s40.2.1 11 0 s40.1.toNatClampNeg).toNatClampNeg).toNatClampNeg) + j259)).1 22 0 (s40.2.1 11 0 s40.1.toNatClampNeg).toNatClampNeg) = 0 then (some (.inl (s40.1 + (1 : Int32), fo_pJ (fo_pJ (fo_pI s40.2 22 0 (s40.2.1 11 0 s40.1.toNatClampNeg).toNatClampNeg (vp_nar .boolean j230)) 24 0 (s40.2.1 3 0 (s40.2.1 11 0 s40.1.toNatClampNeg).toNatClampNeg).toNatClampNeg (((fo_pI s40.2 22 0 (s40.2.1 11 0 s40.1.toNatClampNeg).toNatClampNeg (vp_nar .boolean j230)).2 24 0 (s40.2.1 3 0 (s40.2.1 11 0 s40.1.toNatClampNeg).toNatClampNeg).toNatClampNeg) + j259)) 0 0 36 (((fo_pJ (fo_pI s40.2 22 0 (s40.2.1 11 0 s40.1.toNatClampNeg).toNatClampNeg (vp_nar .boolean j230)) 24 0 (s40.2.1 3 0 (s40.2.1 11 0 s40.1.toNatClampNeg).toNatClampNeg).toNatClampNeg (((fo_pI s40.2 22 0 (s40.2.1 11 0 s40.1.toNatClampNeg).toNatClampNeg (vp_nar .boolean j230)).2 24 0 (s40.2.1 3 0 (s40.2.1 11 0 s40.1.toNatClampNeg).toNatClampNeg).toNatClampNeg) + j259)).2 0 0 36) + (0 : Int64))))) else (if fo_vi (s40.2.1 11 0 s40.1.toNatClampNeg) 16 then (some (.inl (s40.1 + (1 : Int32), fo_pJ (fo_pJ (fo_pI s40.2 22 0 (s40.2.1 11 0 s40.1.toNatClampNeg).toNatClampNeg (vp_nar .boolean j230)) 24 0 (s40.2.1 3 0 (s40.2.1 11 0 s40.1.toNatClampNeg).toNatClampNeg).toNatClampNeg (((fo_pI s40.2 22 0 (s40.2.1 11 0 s40.1.toNatClampNeg).toNatClampNeg (vp_nar .boolean j230)).2 24 0 (s40.2.1 3 0 (s40.2.1 11 0 s40.1.toNatClampNeg).toNatClampNeg).toNatClampNeg) + j259)) 0 0 36 (((fo_pJ (fo_pI s40.2 22 0 (s40.2.1 11 0 s40.1.toNatClampNeg).toNatClampNeg (vp_nar .boolean j230)) 24 0 (s40.2.1 3 0 (s40.2.1 11 0 s40.1.toNatClampNeg).toNatClampNeg).toNatClampNeg (((fo_pI s40.2 22 0 (s40.2.1 11 0 s40.1.toNatClampNeg).toNatClampNeg (vp_nar .boolean j230)).2 24 0 (s40.2.1 3 0 (s40.2.1 11 0 s40.1.toNatClampNeg).toNatClampNeg).toNatClampNeg) + j259)).2 0 0 36) + (((fo_pJ (fo_pI s40.2 22 0 (s40.2.1 11 0 s40.1.toNatClampNeg).toNatClampNeg (vp_nar .boolean j230)) 24 0 (s40.2.1 3 0 (s40.2.1 11 0 s40.1.toNatClampNeg).toNatClampNeg).toNatClampNeg (((fo_pI s40.2 22 0 (s40.2.1 11 0 s40.1.toNatClampNeg).toNatClampNeg (vp_nar .boolean j230)).2 24 0 (s40.2.1 3 0 (s40.2.1 11 0 s40.1.toNatClampNeg).toNatClampNeg).toNatClampNeg) + j259)).1 9 0 (s40.2.1 11 0 s40.1.toNatClampNeg).toNatClampNeg).toInt64))))) else none)) else none) else none
def r_market_J230 (s40 : Int32 × fo_S) (j230 : Int32) : Option ((Int32 × fo_S) ⊕ (Int32 × fo_S)) :=
  if fo_vi (s40.2.1 11 0 s40.1.toNatClampNeg) 16 then ( if fo_vi (s40.2.1 3 0 (s40.2.1 11 0 s40.1.toNatClampNeg).toNatClampNeg) 8 then ( if fo_vi (s40.2.1 11 0 s40.1.toNatClampNeg) 16 then (if ((fo_pI s40.2 22 0 (s40.2.1 11 0 s40.1.toNatClampNeg).toNatClampNeg (vp_nar .boolean j230)).1 22 0 (s40.2.1 11 0 s40.1.toNatClampNeg).toNatClampNeg) = 0 then (r_market_J259 s40 j230 (0 : Int64)) else (if fo_vi (s40.2.1 11 0 s40.1.toNatClampNeg) 16 then (r_market_J259 s40 j230 (((fo_pI s40.2 22 0 (s40.2.1 11 0 s40.1.toNatClampNeg).toNatClampNeg (vp_nar .boolean j230)).1 9 0 (s40.2.1 11 0 s40.1.toNatClampNeg).toNatClampNeg).toInt64)) else none)) else none) else none) else none
def r_market_J150 (s40 : Int32 × fo_S) (j121 : Int32) (j150 : Int64) : Option ((Int32 × fo_S) ⊕ (Int32 × fo_S)) :=
  if fo_vi (s40.2.1 3 0 (s40.2.1 11 0 s40.1.toNatClampNeg).toNatClampNeg) 8 then ( if fo_vi (s40.2.1 11 0 s40.1.toNatClampNeg) 16 then (if ((fo_pJ (fo_pI s40.2 22 0 (s40.2.1 11 0 s40.1.toNatClampNeg).toNatClampNeg (vp_nar .boolean j121)) 23 0 (s40.2.1 3 0 (s40.2.1 11 0 s40.1.toNatClampNeg).toNatClampNeg).toNatClampNeg (((fo_pI s40.2 22 0 (s40.2.1 11 0 s40.1.toNatClampNeg).toNatClampNeg (vp_nar .boolean j121)).2 23 0 (s40.2.1 3 0 (s40.2.1 11 0 s40.1.toNatClampNeg).toNatClampNeg).toNatClampNeg) + j150)).1 22 0 (s40.2.1 11 0 s40.1.toNatClampNeg).toNatClampNeg) = 0 then (some (.inl (s40.1 + (1 : Int32), fo_pJ (fo_pJ (fo_pI s40.2 22 0 (s40.2.1 11 0 s40.1.toNatClampNeg).toNatClampNeg (vp_nar .boolean j121)) 23 0 (s40.2.1 3 0 (s40.2.1 11 0 s40.1.toNatClampNeg).toNatClampNeg).toNatClampNeg (((fo_pI s40.2 22 0 (s40.2.1 11 0 s40.1.toNatClampNeg).toNatClampNeg (vp_nar .boolean j121)).2 23 0 (s40.2.1 3 0 (s40.2.1 11 0 s40.1.toNatClampNeg).toNatClampNeg).toNatClampNeg) + j150)) 0 0 35 (((fo_pJ (fo_pI s40.2 22 0 (s40.2.1 11 0 s40.1.toNatClampNeg).toNatClampNeg (vp_nar .boolean j121)) 23 0 (s40.2.1 3 0 (s40.2.1 11 0 s40.1.toNatClampNeg).toNatClampNeg).toNatClampNeg (((fo_pI s40.2 22 0 (s40.2.1 11 0 s40.1.toNatClampNeg).toNatClampNeg (vp_nar .boolean j121)).2 23 0 (s40.2.1 3 0 (s40.2.1 11 0 s40.1.toNatClampNeg).toNatClampNeg).toNatClampNeg) + j150)).2 0 0 35) + (0 : Int64))))) else (if fo_vi (s40.2.1 11 0 s40.1.toNatClampNeg) 16 then (some (.inl (s40.1 + (1 : Int32), fo_pJ (fo_pJ (fo_pI s40.2 22 0 (s40.2.1 11 0 s40.1.toNatClampNeg).toNatClampNeg (vp_nar .boolean j121)) 23 0 (s40.2.1 3 0 (s40.2.1 11 0 s40.1.toNatClampNeg).toNatClampNeg).toNatClampNeg (((fo_pI s40.2 22 0 (s40.2.1 11 0 s40.1.toNatClampNeg).toNatClampNeg (vp_nar .boolean j121)).2 23 0 (s40.2.1 3 0 (s40.2.1 11 0 s40.1.toNatClampNeg).toNatClampNeg).toNatClampNeg) + j150)) 0 0 35 (((fo_pJ (fo_pI s40.2 22 0 (s40.2.1 11 0 s40.1.toNatClampNeg).toNatClampNeg (vp_nar .boolean j121)) 23 0 (s40.2.1 3 0 (s40.2.1 11 0 s40.1.toNatClampNeg).toNatClampNeg).toNatClampNeg (((fo_pI s40.2 22 0 (s40.2.1 11 0 s40.1.toNatClampNeg).toNatClampNeg (vp_nar .boolean j121)).2 23 0 (s40.2.1 3 0 (s40.2.1 11 0 s40.1.toNatClampNeg).toNatClampNeg).toNatClampNeg) + j150)).2 0 0 35) + (((fo_pJ (fo_pI s40.2 22 0 (s40.2.1 11 0 s40.1.toNatClampNeg).toNatClampNeg (vp_nar .boolean j121)) 23 0 (s40.2.1 3 0 (s40.2.1 11 0 s40.1.toNatClampNeg).toNatClampNeg).toNatClampNeg (((fo_pI s40.2 22 0 (s40.2.1 11 0 s40.1.toNatClampNeg).toNatClampNeg (vp_nar .boolean j121)).2 23 0 (s40.2.1 3 0 (s40.2.1 11 0 s40.1.toNatClampNeg).toNatClampNeg).toNatClampNeg) + j150)).1 9 0 (s40.2.1 11 0 s40.1.toNatClampNeg).toNatClampNeg).toInt64))))) else none)) else none) else none
def r_market_J121 (s40 : Int32 × fo_S) (j121 : Int32) : Option ((Int32 × fo_S) ⊕ (Int32 × fo_S)) :=
  if fo_vi (s40.2.1 11 0 s40.1.toNatClampNeg) 16 then ( if fo_vi (s40.2.1 3 0 (s40.2.1 11 0 s40.1.toNatClampNeg).toNatClampNeg) 8 then ( if fo_vi (s40.2.1 11 0 s40.1.toNatClampNeg) 16 then (if ((fo_pI s40.2 22 0 (s40.2.1 11 0 s40.1.toNatClampNeg).toNatClampNeg (vp_nar .boolean j121)).1 22 0 (s40.2.1 11 0 s40.1.toNatClampNeg).toNatClampNeg) = 0 then (r_market_J150 s40 j121 (0 : Int64)) else (if fo_vi (s40.2.1 11 0 s40.1.toNatClampNeg) 16 then (r_market_J150 s40 j121 (((fo_pI s40.2 22 0 (s40.2.1 11 0 s40.1.toNatClampNeg).toNatClampNeg (vp_nar .boolean j121)).1 9 0 (s40.2.1 11 0 s40.1.toNatClampNeg).toNatClampNeg).toInt64)) else none)) else none) else none) else none
def r_market_L40 (a1 : Int32) (s40 : Int32 × fo_S) : Option ((Int32 × fo_S) ⊕ (Int32 × fo_S)) :=
  if (s40.2.1 0 0 17) ≤ s40.1 then (some (.inr (s40.1, s40.2))) else (if fo_vi s40.1 16 then ( if fo_vi (s40.2.1 11 0 s40.1.toNatClampNeg) 16 then ( if fo_vi (s40.2.1 11 0 s40.1.toNatClampNeg) 16 then (if (s40.2.1 7 0 (s40.2.1 11 0 s40.1.toNatClampNeg).toNatClampNeg) = 0 then (if fo_vi (s40.2.1 11 0 s40.1.toNatClampNeg) 16 then (if (s40.2.1 8 0 (s40.2.1 11 0 s40.1.toNatClampNeg).toNatClampNeg) < a1 then (r_market_J121 s40 (0 : Int32)) else (if fo_vi (s40.2.1 3 0 (s40.2.1 11 0 s40.1.toNatClampNeg).toNatClampNeg) 8 then ( if fo_vi (s40.2.1 11 0 s40.1.toNatClampNeg) 16 then ( if fo_vi (s40.2.1 3 0 (s40.2.1 11 0 s40.1.toNatClampNeg).toNatClampNeg) 8 then (if 0 < (lg_cmp (((s40.2.2 23 0 (s40.2.1 3 0 (s40.2.1 11 0 s40.1.toNatClampNeg).toNatClampNeg).toNatClampNeg) + ((s40.2.1 9 0 (s40.2.1 11 0 s40.1.toNatClampNeg).toNatClampNeg).toInt64)) * a1.toInt64) (s40.2.2 1 0 (s40.2.1 3 0 (s40.2.1 11 0 s40.1.toNatClampNeg).toNatClampNeg).toNatClampNeg)) then (r_market_J121 s40 (0 : Int32)) else (r_market_J121 s40 (1 : Int32))) else none) else none) else none)) else none) else (if fo_vi (s40.2.1 11 0 s40.1.toNatClampNeg) 16 then (if a1 < (s40.2.1 8 0 (s40.2.1 11 0 s40.1.toNatClampNeg).toNatClampNeg) then (r_market_J230 s40 (0 : Int32)) else (if fo_vi (s40.2.1 3 0 (s40.2.1 11 0 s40.1.toNatClampNeg).toNatClampNeg) 8 then ( if fo_vi (s40.2.1 11 0 s40.1.toNatClampNeg) 16 then ( if fo_vi (s40.2.1 3 0 (s40.2.1 11 0 s40.1.toNatClampNeg).toNatClampNeg) 8 then (if 0 < (lg_cmp ((s40.2.2 24 0 (s40.2.1 3 0 (s40.2.1 11 0 s40.1.toNatClampNeg).toNatClampNeg).toNatClampNeg) + ((s40.2.1 9 0 (s40.2.1 11 0 s40.1.toNatClampNeg).toNatClampNeg).toInt64)) (s40.2.2 2 0 (s40.2.1 3 0 (s40.2.1 11 0 s40.1.toNatClampNeg).toNatClampNeg).toNatClampNeg)) then (r_market_J230 s40 (0 : Int32)) else (r_market_J230 s40 (1 : Int32))) else none) else none) else none)) else none)) else none) else none) else none)
def r_market (σ : fo_S) (a1 : Int32) : Option (Int64 × fo_S) :=
  (fo_lp (r_market_L2) fo_FU ((0 : Int32), σ)).bind (fun y2 => (fo_lp (r_market_L40 a1) fo_FU ((0 : Int32), fo_pJ (fo_pJ y2.2 0 0 35 (0 : Int64)) 0 0 36 (0 : Int64))).bind (fun y40 => if 0 ≤ (lg_cmp (y40.2.2 0 0 35) (y40.2.2 0 0 36)) then (some (y40.2.2 0 0 36, y40.2)) else (some (y40.2.2 0 0 35, y40.2))))
set_option maxHeartbeats 4000000 in
set_option maxRecDepth 100000 in
theorem b_r_market {p : Program} {l : Launch} {e : Env} {R : Room} {s : State} {m : MethodId} {args : Array Value} {below : List Frame} {meth : Method} {c : Code} {Q : State → Prop} {D : va_G} {ca : Nat → ClassId} {ad : Nat → Nat} (C0 : fr_CX p s m args c cX6_market 5 RX6 D ca ad) (hRf : 0 ≤ R.frames) (hRl : 0 ≤ R.locals) (hRc : 0 ≤ R.cells) {σ : fo_S} {a1 : Int32}  {res : Int64 × fo_S} (h0 : r_market σ a1 = some res) (kr : ∀ (pc : Nat) (ls : Array Slot) (H : Heap) (locs : List Loc), decode cX6_market pc = .ok (.lreturn, 1) → va_P D vwCl (fo_vx 25 ad (fr_ce ca ad res.2)) H → va_S (fo_A 25 ad s.heap.size) s.heap H locs → W p l e R s m args below meth c H locs 0 0 Q (F0 m pc ls [.long res.1])) (hP : va_P D vwCl (fo_vx 25 ad (fr_ce ca ad σ)) s.heap) : W p l e R s m args below meth c s.heap [] 0 0 Q (entryFrame m ([.ref (ad (fr_lay 0 0)), .int a1] : List Value).toArray 5) := by
  obtain ⟨hx, hb, hml, hown, hT, hK, hD⟩ := C0
  have hN0 : (some res) ≠ none := fun q => by cases q
  unfold r_market at h0
  have hS : va_S (fo_A 25 ad s.heap.size) s.heap s.heap [] := va_S.rf
  have hl := lv_entry ([.ref (ad (fr_lay 0 0)), .int a1]) (n := 5) (Nat.le_of_ble_eq_true rfl)
  rw [lg_entry_eq]
  generalize (lg_sl ([.ref (ad (fr_lay 0 0)), .int a1]) ++ List.replicate (5 - (lg_sl ([.ref (ad (fr_lay 0 0)), .int a1])).length) Slot.unset).toArray = ls at hl ⊢
  have hl : lv_has ls 5 [(0, .ref (ad (fr_lay 0 0))), (1, .int a1)] := hl
  refine lv_iconst (v := 0) hx hb dX6_market_0 (by decide) ?_
  refine lv_istore_n (lv' := [(2, .int (0 : Int32)), (0, .ref (ad (fr_lay 0 0))), (1, .int a1)]) hx hb dX6_market_1 rfl hl (by decide) rfl (fun ls hl => ?_)
  obtain ⟨y2, hy2, h0⟩ := fo_bd h0 hN0
  have ex2 : ∀ (H : Heap) (locs : List Loc) (ls : Array Slot), va_P D vwCl (fo_vx 25 ad (fr_ce ca ad y2.2)) H → va_S (fo_A 25 ad s.heap.size) s.heap H locs → lv_has ls 5 [(0, .ref (ad (fr_lay 0 0))), (1, .int a1)] → W p l e R s m args below meth c H locs 0 0 Q (F0 m 28 ls []) := by
    intro H locs ls hP hS hl
    refine lv_aload_n hx hb dX6_market_28 rfl (lv_at hl 0 rfl) ?_
    refine lv_lconst (v := 0) hx hb dX6_market_29 (by decide) ?_
    refine fr_p6_200 hx hb hT hown hK hP hD hS (by decide) dX6_market_30 (fun H locs hP hS => ?_)
    refine lv_aload_n hx hb dX6_market_33 rfl (lv_at hl 0 rfl) ?_
    refine lv_lconst (v := 0) hx hb dX6_market_34 (by decide) ?_
    refine fr_p6_203 hx hb hT hown hK hP hD hS (by decide) dX6_market_35 (fun H locs hP hS => ?_)
    refine lv_iconst (v := 0) hx hb dX6_market_38 (by decide) ?_
    refine lv_istore_n (lv' := [(2, .int (0 : Int32)), (0, .ref (ad (fr_lay 0 0))), (1, .int a1)]) hx hb dX6_market_39 rfl hl (by decide) rfl (fun ls hl => ?_)
    obtain ⟨y40, hy40, h0⟩ := fo_bd h0 hN0
    have ex40 : ∀ (H : Heap) (locs : List Loc) (ls : Array Slot), va_P D vwCl (fo_vx 25 ad (fr_ce ca ad y40.2)) H → va_S (fo_A 25 ad s.heap.size) s.heap H locs → lv_has ls 5 [(0, .ref (ad (fr_lay 0 0)))] → W p l e R s m args below meth c H locs 0 0 Q (F0 m 296 ls []) := by
      intro H locs ls hP hS hl
      refine lv_aload_n hx hb dX6_market_296 rfl (lv_at hl 0 rfl) ?_
      refine fr_g6_200 hx hb hT hown hK hP (by decide) dX6_market_297 ?_
      refine lv_aload_n hx hb dX6_market_300 rfl (lv_at hl 0 rfl) ?_
      refine fr_g6_203 hx hb hT hown hK hP (by decide) dX6_market_301 ?_
      refine W.lcmp hx hb dX6_market_304 ?_
      refine lv_if_ge (tgt := 315) hx hb dX6_market_305 (by decide) (fun c41 => ?_) (fun c41 => ?_)
      · replace h0 := fo_itT c41 h0
        refine lv_aload_n hx hb dX6_market_315 rfl (lv_at hl 0 rfl) ?_
        refine fr_g6_203 hx hb hT hown hK hP (by decide) dX6_market_316 ?_
        have hr42 := Option.some.inj h0
        subst hr42
        exact kr _ ls _ _ dX6_market_319 hP hS
      · replace h0 := fo_itF c41 h0
        refine lv_aload_n hx hb dX6_market_308 rfl (lv_at hl 0 rfl) ?_
        refine fr_g6_200 hx hb hT hown hK hP (by decide) dX6_market_309 ?_
        refine lv_goto (tgt := 319) hx hb dX6_market_312 (by decide) ?_
        have hr43 := Option.some.inj h0
        subst hr43
        exact kr _ ls _ _ dX6_market_319 hP hS
    have lp40 := fo_lp_ind (fun (s40 : Int32 × fo_S) => ∀ (H : Heap) (locs : List Loc) (ls : Array Slot), va_P D vwCl (fo_vx 25 ad (fr_ce ca ad s40.2)) H → va_S (fo_A 25 ad s.heap.size) s.heap H locs → lv_has ls 5 [(0, .ref (ad (fr_lay 0 0))), (1, .int a1), (2, .int s40.1)] → W p l e R s m args below meth c H locs 0 0 Q (F0 m 40 ls [])) (by
        intro s40 o1 h1 hN1 hL1 hE1 H locs ls hP hS hl
        unfold r_market_L40 at h1
        refine lv_iload_n hx hb dX6_market_40 rfl (lv_at hl 2 rfl) ?_
        refine lv_aload_n hx hb dX6_market_41 rfl (lv_at hl 0 rfl) ?_
        refine fr_g6_42 hx hb hT hown hK hP (by decide) dX6_market_42 ?_
        refine lv_icmp_ge (tgt := 296) hx hb dX6_market_45 (by decide) (fun c5 => ?_) (fun c5 => ?_)
        · replace h1 := fo_itT c5 h1
          have hy6 := hE1 _ h1
          subst hy6
          exact ex40 _ _ ls hP hS (lv_sub hl [0] rfl)
        · replace h1 := fo_itF c5 h1
          refine lv_aload_n hx hb dX6_market_48 rfl (lv_at hl 0 rfl) ?_
          refine fr_g6_46 hx hb hT hown hK hP (by decide) dX6_market_49 ?_
          refine lv_iload_n hx hb dX6_market_52 rfl (lv_at hl 2 rfl) ?_
          obtain ⟨g7, h1⟩ := fo_gd h1 hN1
          refine fr_iald (k := 11) (n := 16) hx hb hK hP (by decide) (by decide) (fun _ _ => rfl) g7 dX6_market_53 ?_
          refine lv_istore_n (lv' := [(3, .int (s40.2.1 11 0 s40.1.toNatClampNeg)), (0, .ref (ad (fr_lay 0 0))), (1, .int a1), (2, .int s40.1)]) hx hb dX6_market_54 rfl hl (by decide) rfl (fun ls hl => ?_)
          refine lv_aload_n hx hb dX6_market_55 rfl (lv_at hl 1 rfl) ?_
          refine fr_g6_16 hx hb hT hown hK hP (by decide) dX6_market_56 ?_
          refine lv_iload_n hx hb dX6_market_59 rfl (lv_at hl 0 rfl) ?_
          obtain ⟨g8, h1⟩ := fo_gd h1 hN1
          refine fr_iald (k := 3) (n := 16) hx hb hK hP (by decide) (by decide) (fun _ _ => rfl) g8 dX6_market_60 ?_
          refine lv_istore (lv' := [(4, .int (s40.2.1 3 0 (s40.2.1 11 0 s40.1.toNatClampNeg).toNatClampNeg)), (3, .int (s40.2.1 11 0 s40.1.toNatClampNeg)), (0, .ref (ad (fr_lay 0 0))), (1, .int a1), (2, .int s40.1)]) hx hb dX6_market_61 hl (by decide) rfl (fun ls hl => ?_)
          refine lv_aload_n hx hb dX6_market_63 rfl (lv_at hl 2 rfl) ?_
          refine fr_g6_30 hx hb hT hown hK hP (by decide) dX6_market_64 ?_
          refine lv_iload_n hx hb dX6_market_67 rfl (lv_at hl 1 rfl) ?_
          obtain ⟨g9, h1⟩ := fo_gd h1 hN1
          refine fr_iald (k := 7) (n := 16) hx hb hK hP (by decide) (by decide) (fun _ _ => rfl) g9 dX6_market_68 ?_
          refine lv_if_ne (tgt := 184) hx hb dX6_market_69 (by decide) (fun c10 => ?_) (fun c10 => ?_)
          · replace h1 := fo_itF c10 h1
            refine lv_aload_n hx hb dX6_market_184 rfl (lv_at hl 2 rfl) ?_
            refine fr_g6_79 hx hb hT hown hK hP (by decide) dX6_market_185 ?_
            refine lv_iload_n hx hb dX6_market_188 rfl (lv_at hl 1 rfl) ?_
            refine lv_aload_n hx hb dX6_market_189 rfl (lv_at hl 2 rfl) ?_
            refine fr_g6_33 hx hb hT hown hK hP (by decide) dX6_market_190 ?_
            refine lv_iload_n hx hb dX6_market_193 rfl (lv_at hl 1 rfl) ?_
            obtain ⟨g11, h1⟩ := fo_gd h1 hN1
            refine fr_iald (k := 8) (n := 16) hx hb hK hP (by decide) (by decide) (fun _ _ => rfl) g11 dX6_market_194 ?_
            refine lv_iload_n hx hb dX6_market_195 rfl (lv_at hl 3 rfl) ?_
            have J230 : ∀ j230 : Int32, r_market_J230 s40 j230 = o1 → ∀ (H : Heap) (locs : List Loc) (ls : Array Slot), va_P D vwCl (fo_vx 25 ad (fr_ce ca ad s40.2)) H → va_S (fo_A 25 ad s.heap.size) s.heap H locs → lv_has ls 5 [(0, .ref (ad (fr_lay 0 0))), (1, .int a1), (2, .int s40.1), (3, .int (s40.2.1 11 0 s40.1.toNatClampNeg)), (4, .int (s40.2.1 3 0 (s40.2.1 11 0 s40.1.toNatClampNeg).toNatClampNeg))] → W p l e R s m args below meth c H locs 0 0 Q (F0 m 230 ls [.int j230, .int (s40.2.1 11 0 s40.1.toNatClampNeg), .ref (ad (fr_lay 22 0))]) := by
              intro j230 h1 H locs ls hP hS hl
              unfold r_market_J230 at h1
              obtain ⟨g12, h1⟩ := fo_gd h1 hN1
              refine fr_zast (k := 22) (n := 16) hx hb hK hP hD hS (by decide) (by decide) (fun _ _ => rfl) g12 dX6_market_230 (fun H locs hP hS => ?_)
              refine lv_aload_n hx hb dX6_market_231 rfl (lv_at hl 0 rfl) ?_
              refine fr_g6_85 hx hb hT hown hK hP (by decide) dX6_market_232 ?_
              refine lv_iload hx hb dX6_market_235 (lv_at hl 4 rfl) ?_
              refine lv_dup2_11 hx hb dX6_market_237 rfl rfl ?_
              obtain ⟨g13, h1⟩ := fo_gd h1 hN1
              refine fr_lald (k := 24) (n := 8) hx hb hK hP (by decide) (by decide) (fun _ _ => rfl) g13 dX6_market_238 ?_
              refine lv_aload_n hx hb dX6_market_239 rfl (lv_at hl 0 rfl) ?_
              refine fr_g6_79 hx hb hT hown hK hP (by decide) dX6_market_240 ?_
              refine lv_iload_n hx hb dX6_market_243 rfl (lv_at hl 3 rfl) ?_
              obtain ⟨g14, h1⟩ := fo_gd h1 hN1
              refine fr_zald (k := 22) (n := 16) hx hb hK hP (by decide) (by decide) (fun _ _ => rfl) g14 dX6_market_244 ?_
              have J259 : ∀ j259 : Int64, r_market_J259 s40 j230 j259 = o1 → ∀ (H : Heap) (locs : List Loc) (ls : Array Slot), va_P D vwCl (fo_vx 25 ad (fr_ce ca ad (fo_pI s40.2 22 0 (s40.2.1 11 0 s40.1.toNatClampNeg).toNatClampNeg (vp_nar .boolean j230)))) H → va_S (fo_A 25 ad s.heap.size) s.heap H locs → lv_has ls 5 [(0, .ref (ad (fr_lay 0 0))), (1, .int a1), (2, .int s40.1), (3, .int (s40.2.1 11 0 s40.1.toNatClampNeg))] → W p l e R s m args below meth c H locs 0 0 Q (F0 m 259 ls [.long j259, .long ((fo_pI s40.2 22 0 (s40.2.1 11 0 s40.1.toNatClampNeg).toNatClampNeg (vp_nar .boolean j230)).2 24 0 (s40.2.1 3 0 (s40.2.1 11 0 s40.1.toNatClampNeg).toNatClampNeg).toNatClampNeg), .int (s40.2.1 3 0 (s40.2.1 11 0 s40.1.toNatClampNeg).toNatClampNeg), .ref (ad (fr_lay 24 0))]) := by
                intro j259 h1 H locs ls hP hS hl
                unfold r_market_J259 at h1
                refine lv_ladd hx hb dX6_market_259 ?_
                obtain ⟨g15, h1⟩ := fo_gd h1 hN1
                refine fr_last (k := 24) (n := 8) hx hb hK hP hD hS (by decide) (by decide) (fun _ _ => rfl) g15 dX6_market_260 (fun H locs hP hS => ?_)
                refine lv_aload_n hx hb dX6_market_261 rfl (lv_at hl 0 rfl) ?_
                refine lv_dup hx hb dX6_market_262 rfl ?_
                refine fr_g6_203 hx hb hT hown hK hP (by decide) dX6_market_263 ?_
                refine lv_aload_n hx hb dX6_market_266 rfl (lv_at hl 0 rfl) ?_
                refine fr_g6_79 hx hb hT hown hK hP (by decide) dX6_market_267 ?_
                refine lv_iload_n hx hb dX6_market_270 rfl (lv_at hl 3 rfl) ?_
                obtain ⟨g16, h1⟩ := fo_gd h1 hN1
                refine fr_zald (k := 22) (n := 16) hx hb hK hP (by decide) (by decide) (fun _ _ => rfl) g16 dX6_market_271 ?_
                refine lv_if_eq (tgt := 285) hx hb dX6_market_272 (by decide) (fun c17 => ?_) (fun c17 => ?_)
                · replace h1 := fo_itT c17 h1
                  refine lv_lconst (v := 0) hx hb dX6_market_285 (by decide) ?_
                  refine lv_ladd hx hb dX6_market_286 ?_
                  refine fr_p6_203 hx hb hT hown hK hP hD hS (by decide) dX6_market_287 (fun H locs hP hS => ?_)
                  refine lv_iinc (v := s40.1 + (1 : Int32)) (lv' := [(2, .int (s40.1 + (1 : Int32))), (0, .ref (ad (fr_lay 0 0))), (1, .int a1), (3, .int (s40.2.1 11 0 s40.1.toNatClampNeg))]) hx hb dX6_market_290 hl (k := 2) rfl rfl (by decide) rfl (fun ls hl => ?_)
                  refine lv_goto (tgt := 40) hx hb dX6_market_293 (by decide) ?_
                  exact hL1 _ h1 _ _ ls hP hS (lv_sub hl [1, 2, 0] rfl)
                · replace h1 := fo_itF c17 h1
                  refine lv_aload_n hx hb dX6_market_275 rfl (lv_at hl 0 rfl) ?_
                  refine fr_g6_36 hx hb hT hown hK hP (by decide) dX6_market_276 ?_
                  refine lv_iload_n hx hb dX6_market_279 rfl (lv_at hl 3 rfl) ?_
                  obtain ⟨g18, h1⟩ := fo_gd h1 hN1
                  refine fr_iald (k := 9) (n := 16) hx hb hK hP (by decide) (by decide) (fun _ _ => rfl) g18 dX6_market_280 ?_
                  refine lv_i2l hx hb dX6_market_281 rfl ?_
                  refine lv_goto (tgt := 286) hx hb dX6_market_282 (by decide) ?_
                  refine lv_ladd hx hb dX6_market_286 ?_
                  refine fr_p6_203 hx hb hT hown hK hP hD hS (by decide) dX6_market_287 (fun H locs hP hS => ?_)
                  refine lv_iinc (v := s40.1 + (1 : Int32)) (lv' := [(2, .int (s40.1 + (1 : Int32))), (0, .ref (ad (fr_lay 0 0))), (1, .int a1), (3, .int (s40.2.1 11 0 s40.1.toNatClampNeg))]) hx hb dX6_market_290 hl (k := 2) rfl rfl (by decide) rfl (fun ls hl => ?_)
                  refine lv_goto (tgt := 40) hx hb dX6_market_293 (by decide) ?_
                  exact hL1 _ h1 _ _ ls hP hS (lv_sub hl [1, 2, 0] rfl)
              refine lv_if_eq (tgt := 258) hx hb dX6_market_245 (by decide) (fun c19 => ?_) (fun c19 => ?_)
              · replace h1 := fo_itT c19 h1
                refine lv_lconst (v := 0) hx hb dX6_market_258 (by decide) ?_
                exact J259 _ h1 _ _ ls hP hS (lv_sub hl [0, 1, 2, 3] rfl)
              · replace h1 := fo_itF c19 h1
                refine lv_aload_n hx hb dX6_market_248 rfl (lv_at hl 0 rfl) ?_
                refine fr_g6_36 hx hb hT hown hK hP (by decide) dX6_market_249 ?_
                refine lv_iload_n hx hb dX6_market_252 rfl (lv_at hl 3 rfl) ?_
                obtain ⟨g20, h1⟩ := fo_gd h1 hN1
                refine fr_iald (k := 9) (n := 16) hx hb hK hP (by decide) (by decide) (fun _ _ => rfl) g20 dX6_market_253 ?_
                refine lv_i2l hx hb dX6_market_254 rfl ?_
                refine lv_goto (tgt := 259) hx hb dX6_market_255 (by decide) ?_
                exact J259 _ h1 _ _ ls hP hS (lv_sub hl [0, 1, 2, 3] rfl)
            refine lv_icmp_gt (tgt := 229) hx hb dX6_market_196 (by decide) (fun c21 => ?_) (fun c21 => ?_)
            · replace h1 := fo_itT c21 h1
              refine lv_iconst (v := 0) hx hb dX6_market_229 (by decide) ?_
              exact J230 _ h1 _ _ ls hP hS (lv_sub hl [2, 3, 4, 1, 0] rfl)
            · replace h1 := fo_itF c21 h1
              refine lv_aload_n hx hb dX6_market_199 rfl (lv_at hl 2 rfl) ?_
              refine fr_g6_85 hx hb hT hown hK hP (by decide) dX6_market_200 ?_
              refine lv_iload hx hb dX6_market_203 (lv_at hl 0 rfl) ?_
              obtain ⟨g22, h1⟩ := fo_gd h1 hN1
              refine fr_lald (k := 24) (n := 8) hx hb hK hP (by decide) (by decide) (fun _ _ => rfl) g22 dX6_market_205 ?_
              refine lv_aload_n hx hb dX6_market_206 rfl (lv_at hl 2 rfl) ?_
              refine fr_g6_36 hx hb hT hown hK hP (by decide) dX6_market_207 ?_
              refine lv_iload_n hx hb dX6_market_210 rfl (lv_at hl 1 rfl) ?_
              obtain ⟨g23, h1⟩ := fo_gd h1 hN1
              refine fr_iald (k := 9) (n := 16) hx hb hK hP (by decide) (by decide) (fun _ _ => rfl) g23 dX6_market_211 ?_
              refine lv_i2l hx hb dX6_market_212 rfl ?_
              refine lv_ladd hx hb dX6_market_213 ?_
              refine lv_aload_n hx hb dX6_market_214 rfl (lv_at hl 2 rfl) ?_
              refine fr_g6_13 hx hb hT hown hK hP (by decide) dX6_market_215 ?_
              refine lv_iload hx hb dX6_market_218 (lv_at hl 0 rfl) ?_
              obtain ⟨g24, h1⟩ := fo_gd h1 hN1
              refine fr_lald (k := 2) (n := 8) hx hb hK hP (by decide) (by decide) (fun _ _ => rfl) g24 dX6_market_220 ?_
              refine W.lcmp hx hb dX6_market_221 ?_
              refine lv_if_gt (tgt := 229) hx hb dX6_market_222 (by decide) (fun c25 => ?_) (fun c25 => ?_)
              · replace h1 := fo_itT c25 h1
                refine lv_iconst (v := 0) hx hb dX6_market_229 (by decide) ?_
                exact J230 _ h1 _ _ ls hP hS (lv_sub hl [2, 3, 4, 1, 0] rfl)
              · replace h1 := fo_itF c25 h1
                refine lv_iconst (v := 1) hx hb dX6_market_225 (by decide) ?_
                refine lv_goto (tgt := 230) hx hb dX6_market_226 (by decide) ?_
                exact J230 _ h1 _ _ ls hP hS (lv_sub hl [2, 3, 4, 1, 0] rfl)
          · replace h1 := fo_itT c10 h1
            refine lv_aload_n hx hb dX6_market_72 rfl (lv_at hl 2 rfl) ?_
            refine fr_g6_79 hx hb hT hown hK hP (by decide) dX6_market_73 ?_
            refine lv_iload_n hx hb dX6_market_76 rfl (lv_at hl 1 rfl) ?_
            refine lv_aload_n hx hb dX6_market_77 rfl (lv_at hl 2 rfl) ?_
            refine fr_g6_33 hx hb hT hown hK hP (by decide) dX6_market_78 ?_
            refine lv_iload_n hx hb dX6_market_81 rfl (lv_at hl 1 rfl) ?_
            obtain ⟨g26, h1⟩ := fo_gd h1 hN1
            refine fr_iald (k := 8) (n := 16) hx hb hK hP (by decide) (by decide) (fun _ _ => rfl) g26 dX6_market_82 ?_
            refine lv_iload_n hx hb dX6_market_83 rfl (lv_at hl 3 rfl) ?_
            have J121 : ∀ j121 : Int32, r_market_J121 s40 j121 = o1 → ∀ (H : Heap) (locs : List Loc) (ls : Array Slot), va_P D vwCl (fo_vx 25 ad (fr_ce ca ad s40.2)) H → va_S (fo_A 25 ad s.heap.size) s.heap H locs → lv_has ls 5 [(0, .ref (ad (fr_lay 0 0))), (1, .int a1), (2, .int s40.1), (3, .int (s40.2.1 11 0 s40.1.toNatClampNeg)), (4, .int (s40.2.1 3 0 (s40.2.1 11 0 s40.1.toNatClampNeg).toNatClampNeg))] → W p l e R s m args below meth c H locs 0 0 Q (F0 m 121 ls [.int j121, .int (s40.2.1 11 0 s40.1.toNatClampNeg), .ref (ad (fr_lay 22 0))]) := by
              intro j121 h1 H locs ls hP hS hl
              unfold r_market_J121 at h1
              obtain ⟨g27, h1⟩ := fo_gd h1 hN1
              refine fr_zast (k := 22) (n := 16) hx hb hK hP hD hS (by decide) (by decide) (fun _ _ => rfl) g27 dX6_market_121 (fun H locs hP hS => ?_)
              refine lv_aload_n hx hb dX6_market_122 rfl (lv_at hl 0 rfl) ?_
              refine fr_g6_82 hx hb hT hown hK hP (by decide) dX6_market_123 ?_
              refine lv_iload hx hb dX6_market_126 (lv_at hl 4 rfl) ?_
              refine lv_dup2_11 hx hb dX6_market_128 rfl rfl ?_
              obtain ⟨g28, h1⟩ := fo_gd h1 hN1
              refine fr_lald (k := 23) (n := 8) hx hb hK hP (by decide) (by decide) (fun _ _ => rfl) g28 dX6_market_129 ?_
              refine lv_aload_n hx hb dX6_market_130 rfl (lv_at hl 0 rfl) ?_
              refine fr_g6_79 hx hb hT hown hK hP (by decide) dX6_market_131 ?_
              refine lv_iload_n hx hb dX6_market_134 rfl (lv_at hl 3 rfl) ?_
              obtain ⟨g29, h1⟩ := fo_gd h1 hN1
              refine fr_zald (k := 22) (n := 16) hx hb hK hP (by decide) (by decide) (fun _ _ => rfl) g29 dX6_market_135 ?_
              have J150 : ∀ j150 : Int64, r_market_J150 s40 j121 j150 = o1 → ∀ (H : Heap) (locs : List Loc) (ls : Array Slot), va_P D vwCl (fo_vx 25 ad (fr_ce ca ad (fo_pI s40.2 22 0 (s40.2.1 11 0 s40.1.toNatClampNeg).toNatClampNeg (vp_nar .boolean j121)))) H → va_S (fo_A 25 ad s.heap.size) s.heap H locs → lv_has ls 5 [(0, .ref (ad (fr_lay 0 0))), (1, .int a1), (2, .int s40.1), (3, .int (s40.2.1 11 0 s40.1.toNatClampNeg))] → W p l e R s m args below meth c H locs 0 0 Q (F0 m 150 ls [.long j150, .long ((fo_pI s40.2 22 0 (s40.2.1 11 0 s40.1.toNatClampNeg).toNatClampNeg (vp_nar .boolean j121)).2 23 0 (s40.2.1 3 0 (s40.2.1 11 0 s40.1.toNatClampNeg).toNatClampNeg).toNatClampNeg), .int (s40.2.1 3 0 (s40.2.1 11 0 s40.1.toNatClampNeg).toNatClampNeg), .ref (ad (fr_lay 23 0))]) := by
                intro j150 h1 H locs ls hP hS hl
                unfold r_market_J150 at h1
                refine lv_ladd hx hb dX6_market_150 ?_
                obtain ⟨g30, h1⟩ := fo_gd h1 hN1
                refine fr_last (k := 23) (n := 8) hx hb hK hP hD hS (by decide) (by decide) (fun _ _ => rfl) g30 dX6_market_151 (fun H locs hP hS => ?_)
                refine lv_aload_n hx hb dX6_market_152 rfl (lv_at hl 0 rfl) ?_
                refine lv_dup hx hb dX6_market_153 rfl ?_
                refine fr_g6_200 hx hb hT hown hK hP (by decide) dX6_market_154 ?_
                refine lv_aload_n hx hb dX6_market_157 rfl (lv_at hl 0 rfl) ?_
                refine fr_g6_79 hx hb hT hown hK hP (by decide) dX6_market_158 ?_
                refine lv_iload_n hx hb dX6_market_161 rfl (lv_at hl 3 rfl) ?_
                obtain ⟨g31, h1⟩ := fo_gd h1 hN1
                refine fr_zald (k := 22) (n := 16) hx hb hK hP (by decide) (by decide) (fun _ _ => rfl) g31 dX6_market_162 ?_
                refine lv_if_eq (tgt := 176) hx hb dX6_market_163 (by decide) (fun c32 => ?_) (fun c32 => ?_)
                · replace h1 := fo_itT c32 h1
                  refine lv_lconst (v := 0) hx hb dX6_market_176 (by decide) ?_
                  refine lv_ladd hx hb dX6_market_177 ?_
                  refine fr_p6_200 hx hb hT hown hK hP hD hS (by decide) dX6_market_178 (fun H locs hP hS => ?_)
                  refine lv_goto (tgt := 290) hx hb dX6_market_181 (by decide) ?_
                  refine lv_iinc (v := s40.1 + (1 : Int32)) (lv' := [(2, .int (s40.1 + (1 : Int32))), (0, .ref (ad (fr_lay 0 0))), (1, .int a1), (3, .int (s40.2.1 11 0 s40.1.toNatClampNeg))]) hx hb dX6_market_290 hl (k := 2) rfl rfl (by decide) rfl (fun ls hl => ?_)
                  refine lv_goto (tgt := 40) hx hb dX6_market_293 (by decide) ?_
                  exact hL1 _ h1 _ _ ls hP hS (lv_sub hl [1, 2, 0] rfl)
                · replace h1 := fo_itF c32 h1
                  refine lv_aload_n hx hb dX6_market_166 rfl (lv_at hl 0 rfl) ?_
                  refine fr_g6_36 hx hb hT hown hK hP (by decide) dX6_market_167 ?_
                  refine lv_iload_n hx hb dX6_market_170 rfl (lv_at hl 3 rfl) ?_
                  obtain ⟨g33, h1⟩ := fo_gd h1 hN1
                  refine fr_iald (k := 9) (n := 16) hx hb hK hP (by decide) (by decide) (fun _ _ => rfl) g33 dX6_market_171 ?_
                  refine lv_i2l hx hb dX6_market_172 rfl ?_
                  refine lv_goto (tgt := 177) hx hb dX6_market_173 (by decide) ?_
                  refine lv_ladd hx hb dX6_market_177 ?_
                  refine fr_p6_200 hx hb hT hown hK hP hD hS (by decide) dX6_market_178 (fun H locs hP hS => ?_)
                  refine lv_goto (tgt := 290) hx hb dX6_market_181 (by decide) ?_
                  refine lv_iinc (v := s40.1 + (1 : Int32)) (lv' := [(2, .int (s40.1 + (1 : Int32))), (0, .ref (ad (fr_lay 0 0))), (1, .int a1), (3, .int (s40.2.1 11 0 s40.1.toNatClampNeg))]) hx hb dX6_market_290 hl (k := 2) rfl rfl (by decide) rfl (fun ls hl => ?_)
                  refine lv_goto (tgt := 40) hx hb dX6_market_293 (by decide) ?_
                  exact hL1 _ h1 _ _ ls hP hS (lv_sub hl [1, 2, 0] rfl)
              refine lv_if_eq (tgt := 149) hx hb dX6_market_136 (by decide) (fun c34 => ?_) (fun c34 => ?_)
              · replace h1 := fo_itT c34 h1
                refine lv_lconst (v := 0) hx hb dX6_market_149 (by decide) ?_
                exact J150 _ h1 _ _ ls hP hS (lv_sub hl [0, 1, 2, 3] rfl)
              · replace h1 := fo_itF c34 h1
                refine lv_aload_n hx hb dX6_market_139 rfl (lv_at hl 0 rfl) ?_
                refine fr_g6_36 hx hb hT hown hK hP (by decide) dX6_market_140 ?_
                refine lv_iload_n hx hb dX6_market_143 rfl (lv_at hl 3 rfl) ?_
                obtain ⟨g35, h1⟩ := fo_gd h1 hN1
                refine fr_iald (k := 9) (n := 16) hx hb hK hP (by decide) (by decide) (fun _ _ => rfl) g35 dX6_market_144 ?_
                refine lv_i2l hx hb dX6_market_145 rfl ?_
                refine lv_goto (tgt := 150) hx hb dX6_market_146 (by decide) ?_
                exact J150 _ h1 _ _ ls hP hS (lv_sub hl [0, 1, 2, 3] rfl)
            refine lv_icmp_lt (tgt := 120) hx hb dX6_market_84 (by decide) (fun c36 => ?_) (fun c36 => ?_)
            · replace h1 := fo_itT c36 h1
              refine lv_iconst (v := 0) hx hb dX6_market_120 (by decide) ?_
              exact J121 _ h1 _ _ ls hP hS (lv_sub hl [2, 3, 4, 1, 0] rfl)
            · replace h1 := fo_itF c36 h1
              refine lv_aload_n hx hb dX6_market_87 rfl (lv_at hl 2 rfl) ?_
              refine fr_g6_82 hx hb hT hown hK hP (by decide) dX6_market_88 ?_
              refine lv_iload hx hb dX6_market_91 (lv_at hl 0 rfl) ?_
              obtain ⟨g37, h1⟩ := fo_gd h1 hN1
              refine fr_lald (k := 23) (n := 8) hx hb hK hP (by decide) (by decide) (fun _ _ => rfl) g37 dX6_market_93 ?_
              refine lv_aload_n hx hb dX6_market_94 rfl (lv_at hl 2 rfl) ?_
              refine fr_g6_36 hx hb hT hown hK hP (by decide) dX6_market_95 ?_
              refine lv_iload_n hx hb dX6_market_98 rfl (lv_at hl 1 rfl) ?_
              obtain ⟨g38, h1⟩ := fo_gd h1 hN1
              refine fr_iald (k := 9) (n := 16) hx hb hK hP (by decide) (by decide) (fun _ _ => rfl) g38 dX6_market_99 ?_
              refine lv_i2l hx hb dX6_market_100 rfl ?_
              refine lv_ladd hx hb dX6_market_101 ?_
              refine lv_iload_n hx hb dX6_market_102 rfl (lv_at hl 3 rfl) ?_
              refine lv_i2l hx hb dX6_market_103 rfl ?_
              refine lv_lmul hx hb dX6_market_104 ?_
              refine lv_aload_n hx hb dX6_market_105 rfl (lv_at hl 2 rfl) ?_
              refine fr_g6_7 hx hb hT hown hK hP (by decide) dX6_market_106 ?_
              refine lv_iload hx hb dX6_market_109 (lv_at hl 0 rfl) ?_
              obtain ⟨g39, h1⟩ := fo_gd h1 hN1
              refine fr_lald (k := 1) (n := 8) hx hb hK hP (by decide) (by decide) (fun _ _ => rfl) g39 dX6_market_111 ?_
              refine W.lcmp hx hb dX6_market_112 ?_
              refine lv_if_gt (tgt := 120) hx hb dX6_market_113 (by decide) (fun c40 => ?_) (fun c40 => ?_)
              · replace h1 := fo_itT c40 h1
                refine lv_iconst (v := 0) hx hb dX6_market_120 (by decide) ?_
                exact J121 _ h1 _ _ ls hP hS (lv_sub hl [2, 3, 4, 1, 0] rfl)
              · replace h1 := fo_itF c40 h1
                refine lv_iconst (v := 1) hx hb dX6_market_116 (by decide) ?_
                refine lv_goto (tgt := 121) hx hb dX6_market_117 (by decide) ?_
                exact J121 _ h1 _ _ ls hP hS (lv_sub hl [2, 3, 4, 1, 0] rfl)) _ _ hy40
    exact lp40 _ _ ls hP hS (lv_sub hl [1, 2, 0] rfl)
  have lp2 := fo_lp_ind (fun (s2 : Int32 × fo_S) => ∀ (H : Heap) (locs : List Loc) (ls : Array Slot), va_P D vwCl (fo_vx 25 ad (fr_ce ca ad s2.2)) H → va_S (fo_A 25 ad s.heap.size) s.heap H locs → lv_has ls 5 [(0, .ref (ad (fr_lay 0 0))), (1, .int a1), (2, .int s2.1)] → W p l e R s m args below meth c H locs 0 0 Q (F0 m 2 ls [])) (by
      intro s2 o1 h1 hN1 hL1 hE1 H locs ls hP hS hl
      unfold r_market_L2 at h1
      refine lv_iload_n hx hb dX6_market_2 rfl (lv_at hl 2 rfl) ?_
      refine lv_bipush (v := 8) hx hb dX6_market_3 (by decide) ?_
      refine lv_icmp_ge (tgt := 28) hx hb dX6_market_5 (by decide) (fun c1 => ?_) (fun c1 => ?_)
      · replace h1 := fo_itT c1 h1
        have hy2 := hE1 _ h1
        subst hy2
        exact ex2 _ _ ls hP hS (lv_sub hl [0, 1] rfl)
      · replace h1 := fo_itF c1 h1
        refine lv_aload_n hx hb dX6_market_8 rfl (lv_at hl 0 rfl) ?_
        refine fr_g6_82 hx hb hT hown hK hP (by decide) dX6_market_9 ?_
        refine lv_iload_n hx hb dX6_market_12 rfl (lv_at hl 2 rfl) ?_
        refine lv_lconst (v := 0) hx hb dX6_market_13 (by decide) ?_
        obtain ⟨g3, h1⟩ := fo_gd h1 hN1
        refine fr_last (k := 23) (n := 8) hx hb hK hP hD hS (by decide) (by decide) (fun _ _ => rfl) g3 dX6_market_14 (fun H locs hP hS => ?_)
        refine lv_aload_n hx hb dX6_market_15 rfl (lv_at hl 0 rfl) ?_
        refine fr_g6_85 hx hb hT hown hK hP (by decide) dX6_market_16 ?_
        refine lv_iload_n hx hb dX6_market_19 rfl (lv_at hl 2 rfl) ?_
        refine lv_lconst (v := 0) hx hb dX6_market_20 (by decide) ?_
        obtain ⟨g4, h1⟩ := fo_gd h1 hN1
        refine fr_last (k := 24) (n := 8) hx hb hK hP hD hS (by decide) (by decide) (fun _ _ => rfl) g4 dX6_market_21 (fun H locs hP hS => ?_)
        refine lv_iinc (v := s2.1 + (1 : Int32)) (lv' := [(2, .int (s2.1 + (1 : Int32))), (0, .ref (ad (fr_lay 0 0))), (1, .int a1)]) hx hb dX6_market_22 hl (k := 2) rfl rfl (by decide) rfl (fun ls hl => ?_)
        refine lv_goto (tgt := 2) hx hb dX6_market_25 (by decide) ?_
        exact hL1 _ h1 _ _ ls hP hS (lv_sub hl [1, 2, 0] rfl)) _ _ hy2
  exact lp2 _ _ ls hP hS (lv_sub hl [1, 2, 0] rfl)
theorem c_r_market (l : Launch) (D : va_G) (ca : Nat → ClassId) (ad : Nat → Nat) (sz : Nat) {σ : fo_S} {a1 : Int32}  {res : Int64 × fo_S} (h0 : r_market σ a1 = some res) : Met l yX6_market ws_r_market rm_r_market (fo_Pre 25 D vwCl (fr_tys ca) ad (fr_ce ca ad σ) sz [.ref (ad (fr_lay 0 0)), .int a1]) (fo_PoL 25 D vwCl (fr_tys ca) ad (fr_ce ca ad res.2) sz res.1) 0 0 (fo_A 25 ad sz) :=
  fr_mkL (by decide) (fun C0 kr hP => b_r_market C0 (Nat.le_refl _) (Nat.le_refl _) (Nat.zero_le _)  h0 kr hP)
