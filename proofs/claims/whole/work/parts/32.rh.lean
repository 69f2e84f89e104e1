def r_gain_L58  (s58 : Int32 × fo_S) : Option ((Int32 × fo_S) ⊕ (Int32 × fo_S)) :=
  if (s58.2.1 0 0 17) ≤ s58.1 then (some (.inr (s58.1, s58.2))) else (if fo_vi s58.1 16 then ( if fo_vi s58.1 16 then (some (.inl (s58.1 + (1 : Int32), fo_pI s58.2 14 0 s58.1.toNatClampNeg (s58.2.1 11 0 s58.1.toNatClampNeg)))) else none) else none)
def r_gain_J164 (s120 : Int32 × Int32 × fo_S) (j164 : Int32) : Option ((Int32 × Int32 × fo_S) ⊕ (Int32 × Int32 × fo_S)) :=
  if fo_vi (s120.1 + j164) 16 then ( if fo_vi s120.2.1 16 then (some (.inl ((s120.1 + j164) + (1 : Int32), s120.2.1 + (1 : Int32), fo_pI s120.2.2 14 0 s120.2.1.toNatClampNeg (s120.2.2.1 11 0 (s120.1 + j164).toNatClampNeg)))) else none) else none
def r_gain_L120 (a1 : Int32) (a2 : Int32) (s120 : Int32 × Int32 × fo_S) : Option ((Int32 × Int32 × fo_S) ⊕ (Int32 × Int32 × fo_S)) :=
  if (s120.2.2.1 0 0 17) ≤ s120.2.1 then (some (.inr (s120.1, s120.2.1, s120.2.2))) else (if s120.2.1 = a2 then (if fo_vi a1 16 then ( if fo_vi s120.2.1 16 then (some (.inl (s120.1, s120.2.1 + (1 : Int32), fo_pI s120.2.2 14 0 s120.2.1.toNatClampNeg (s120.2.2.1 11 0 a1.toNatClampNeg)))) else none) else none) else (if s120.1 = a1 then (r_gain_J164 s120 (1 : Int32)) else (r_gain_J164 s120 (0 : Int32))))
def r_gain_J112 (σ : fo_S) (a1 : Int32) (a2 : Int32) (a3 : Int32) (x18 : fo_S) (j112 : Int64) : Option (Int64 × fo_S) :=
  (fo_lp (r_gain_L120 a1 a2) fo_FU ((0 : Int32), (0 : Int32), x18)).bind (fun y120 => (r_tryAll y120.2.2).bind (fun x27 => if a3 = 0 then (if fo_vi (σ.1 3 0 (σ.1 11 0 a1.toNatClampNeg).toNatClampNeg) 8 then (some ((x27.2 15 0 (σ.1 3 0 (σ.1 11 0 a1.toNatClampNeg).toNatClampNeg).toNatClampNeg) - j112, x27)) else none) else (if fo_vi (σ.1 3 0 (σ.1 11 0 a1.toNatClampNeg).toNatClampNeg) 8 then (some ((x27.2 16 0 (σ.1 3 0 (σ.1 11 0 a1.toNatClampNeg).toNatClampNeg).toNatClampNeg) - j112, x27)) else none)))
def r_gain_J42 (σ : fo_S) (a1 : Int32) (a2 : Int32) (a3 : Int32) : Option (Int64 × fo_S) :=
  if fo_vi a1 16 then ( if fo_vi (σ.1 11 0 a1.toNatClampNeg) 16 then ((fo_lp (r_gain_L58) fo_FU ((0 : Int32), σ)).bind (fun y58 => (r_tryAll y58.2).bind (fun x18 => if a3 = 0 then (if fo_vi (σ.1 3 0 (σ.1 11 0 a1.toNatClampNeg).toNatClampNeg) 8 then (r_gain_J112 σ a1 a2 a3 x18 (x18.2 15 0 (σ.1 3 0 (σ.1 11 0 a1.toNatClampNeg).toNatClampNeg).toNatClampNeg)) else none) else (if fo_vi (σ.1 3 0 (σ.1 11 0 a1.toNatClampNeg).toNatClampNeg) 8 then (r_gain_J112 σ a1 a2 a3 x18 (x18.2 16 0 (σ.1 3 0 (σ.1 11 0 a1.toNatClampNeg).toNatClampNeg).toNatClampNeg)) else none)))) else none) else none
def r_gain (σ : fo_S) (a1 : Int32) (a2 : Int32) (a3 : Int32) : Option (Int64 × fo_S) :=
  (r_mayPlay σ).bind (fun x1 => if x1 = 0 then (some ((0 : Int64), σ)) else (if a1 < 0 then (some ((0 : Int64), σ)) else (if (σ.1 0 0 17) ≤ a1 then (some ((0 : Int64), σ)) else (if a2 < 0 then (some ((0 : Int64), σ)) else (if (σ.1 0 0 17) ≤ a2 then (some ((0 : Int64), σ)) else (if a3 = 0 then (r_gain_J42 σ a1 a2 a3) else (if a3 = (1 : Int32) then (r_gain_J42 σ a1 a2 a3) else (some ((0 : Int64), σ)))))))))
set_option maxHeartbeats 4000000 in
set_option maxRecDepth 100000 in
theorem b_r_gain {p : Program} {l : Launch} {e : Env} {R : Room} {s : State} {m : MethodId} {args : Array Value} {below : List Frame} {meth : Method} {c : Code} {Q : State → Prop} {D : va_G} {ca : Nat → ClassId} {ad : Nat → Nat} (C0 : fr_CX p s m args c cX6_gain 9 RX6 D ca ad) (hRf : 2 ≤ R.frames) (hRl : 53 ≤ R.locals) (hRc : 0 ≤ R.cells) {σ : fo_S} {a1 : Int32} {a2 : Int32} {a3 : Int32}  {res : Int64 × fo_S} (h0 : r_gain σ a1 a2 a3 = some res) (kr : ∀ (pc : Nat) (ls : Array Slot) (H : Heap) (locs : List Loc), decode cX6_gain pc = .ok (.lreturn, 1) → va_P D vwCl (fo_vx 25 ad (fr_ce ca ad res.2)) H → va_S (fo_A 25 ad s.heap.size) s.heap H locs → W p l e R s m args below meth c H locs 0 0 Q (F0 m pc ls [.long res.1])) (hP : va_P D vwCl (fo_vx 25 ad (fr_ce ca ad σ)) s.heap) : W p l e R s m args below meth c s.heap [] 0 0 Q (entryFrame m ([.ref (ad (fr_lay 0 0)), .int a1, .int a2, .int a3] : List Value).toArray 9) := by
  obtain ⟨hx, hb, hml, hown, hT, hK, hD⟩ := C0
  have hN0 : (some res) ≠ none := fun q => by cases q
  unfold r_gain at h0
  have hS : va_S (fo_A 25 ad s.heap.size) s.heap s.heap [] := va_S.rf
  have hl := lv_entry ([.ref (ad (fr_lay 0 0)), .int a1, .int a2, .int a3]) (n := 9) (Nat.le_of_ble_eq_true rfl)
  rw [lg_entry_eq]
  generalize (lg_sl ([.ref (ad (fr_lay 0 0)), .int a1, .int a2, .int a3]) ++ List.replicate (9 - (lg_sl ([.ref (ad (fr_lay 0 0)), .int a1, .int a2, .int a3])).length) Slot.unset).toArray = ls at hl ⊢
  have hl : lv_has ls 9 [(0, .ref (ad (fr_lay 0 0))), (1, .int a1), (2, .int a2), (3, .int a3)] := hl
  refine lv_aload_n hx hb dX6_gain_0 rfl (lv_at hl 0 rfl) ?_
  obtain ⟨x1, hx1, h0⟩ := fo_bd h0 hN0
  refine fo_calli (va_runV (H := _) (As := []) (rest := []) ⟨hx, hb, hml, hown, hT⟩ (c_r_mayPlay l D ca ad _ hx1) (fr_c6_191 hT ⟨Nat.le_trans (Nat.le_of_ble_eq_true rfl) hRf, Nat.le_trans (Nat.le_of_ble_eq_true rfl) hRl⟩) ⟨fo_Pre_blind, fr_rc0 hK hP (by decide), fo_Pre_at hP hK (hD _)⟩ rfl rfl hl.1 rfl (lv_room (Nat.le_of_ble_eq_true rfl)) dX6_gain_1 ⟨Nat.zero_le _, Nat.zero_le _⟩) hS (fun H locs hP hS => ?_)
  refine lv_if_eq (tgt := 40) hx hb dX6_gain_4 (by decide) (fun c2 => ?_) (fun c2 => ?_)
  · replace h0 := fo_itT c2 h0
    refine lv_lconst (v := 0) hx hb dX6_gain_40 (by decide) ?_
    have hr3 := Option.some.inj h0
    subst hr3
    exact kr _ ls _ _ dX6_gain_41 hP hS
  · replace h0 := fo_itF c2 h0
    refine lv_iload_n hx hb dX6_gain_7 rfl (lv_at hl 1 rfl) ?_
    refine lv_if_lt (tgt := 40) hx hb dX6_gain_8 (by decide) (fun c4 => ?_) (fun c4 => ?_)
    · replace h0 := fo_itT c4 h0
      refine lv_lconst (v := 0) hx hb dX6_gain_40 (by decide) ?_
      have hr5 := Option.some.inj h0
      subst hr5
      exact kr _ ls _ _ dX6_gain_41 hP hS
    · replace h0 := fo_itF c4 h0
      refine lv_iload_n hx hb dX6_gain_11 rfl (lv_at hl 1 rfl) ?_
      refine lv_aload_n hx hb dX6_gain_12 rfl (lv_at hl 0 rfl) ?_
      refine fr_g6_42 hx hb hT hown hK hP (by decide) dX6_gain_13 ?_
      refine lv_icmp_ge (tgt := 40) hx hb dX6_gain_16 (by decide) (fun c6 => ?_) (fun c6 => ?_)
      · replace h0 := fo_itT c6 h0
        refine lv_lconst (v := 0) hx hb dX6_gain_40 (by decide) ?_
        have hr7 := Option.some.inj h0
        subst hr7
        exact kr _ ls _ _ dX6_gain_41 hP hS
      · replace h0 := fo_itF c6 h0
        refine lv_iload_n hx hb dX6_gain_19 rfl (lv_at hl 2 rfl) ?_
        refine lv_if_lt (tgt := 40) hx hb dX6_gain_20 (by decide) (fun c8 => ?_) (fun c8 => ?_)
        · replace h0 := fo_itT c8 h0
          refine lv_lconst (v := 0) hx hb dX6_gain_40 (by decide) ?_
          have hr9 := Option.some.inj h0
          subst hr9
          exact kr _ ls _ _ dX6_gain_41 hP hS
        · replace h0 := fo_itF c8 h0
          refine lv_iload_n hx hb dX6_gain_23 rfl (lv_at hl 2 rfl) ?_
          refine lv_aload_n hx hb dX6_gain_24 rfl (lv_at hl 0 rfl) ?_
          refine fr_g6_42 hx hb hT hown hK hP (by decide) dX6_gain_25 ?_
          refine lv_icmp_ge (tgt := 40) hx hb dX6_gain_28 (by decide) (fun c10 => ?_) (fun c10 => ?_)
          · replace h0 := fo_itT c10 h0
            refine lv_lconst (v := 0) hx hb dX6_gain_40 (by decide) ?_
            have hr11 := Option.some.inj h0
            subst hr11
            exact kr _ ls _ _ dX6_gain_41 hP hS
          · replace h0 := fo_itF c10 h0
            refine lv_iload_n hx hb dX6_gain_31 rfl (lv_at hl 3 rfl) ?_
            have J42 : r_gain_J42 σ a1 a2 a3 = some res → ∀ (H : Heap) (locs : List Loc) (ls : Array Slot), va_P D vwCl (fo_vx 25 ad (fr_ce ca ad σ)) H → va_S (fo_A 25 ad s.heap.size) s.heap H locs → lv_has ls 9 [(0, .ref (ad (fr_lay 0 0))), (1, .int a1), (2, .int a2), (3, .int a3)] → W p l e R s m args below meth c H locs 0 0 Q (F0 m 42 ls []) := by
              intro h0 H locs ls hP hS hl
              unfold r_gain_J42 at h0
              refine lv_aload_n hx hb dX6_gain_42 rfl (lv_at hl 0 rfl) ?_
              refine fr_g6_16 hx hb hT hown hK hP (by decide) dX6_gain_43 ?_
              refine lv_aload_n hx hb dX6_gain_46 rfl (lv_at hl 0 rfl) ?_
              refine fr_g6_46 hx hb hT hown hK hP (by decide) dX6_gain_47 ?_
              refine lv_iload_n hx hb dX6_gain_50 rfl (lv_at hl 1 rfl) ?_
              obtain ⟨g12, h0⟩ := fo_gd h0 hN0
              refine fr_iald (k := 11) (n := 16) hx hb hK hP (by decide) (by decide) (fun _ _ => rfl) g12 dX6_gain_51 ?_
              obtain ⟨g13, h0⟩ := fo_gd h0 hN0
              refine fr_iald (k := 3) (n := 16) hx hb hK hP (by decide) (by decide) (fun _ _ => rfl) g13 dX6_gain_52 ?_
              refine lv_istore (lv' := [(4, .int (σ.1 3 0 (σ.1 11 0 a1.toNatClampNeg).toNatClampNeg)), (0, .ref (ad (fr_lay 0 0))), (1, .int a1), (2, .int a2), (3, .int a3)]) hx hb dX6_gain_53 hl (by decide) rfl (fun ls hl => ?_)
              refine lv_iconst (v := 0) hx hb dX6_gain_55 (by decide) ?_
              refine lv_istore (lv' := [(5, .int (0 : Int32)), (4, .int (σ.1 3 0 (σ.1 11 0 a1.toNatClampNeg).toNatClampNeg)), (0, .ref (ad (fr_lay 0 0))), (1, .int a1), (2, .int a2), (3, .int a3)]) hx hb dX6_gain_56 hl (by decide) rfl (fun ls hl => ?_)
              obtain ⟨y58, hy58, h0⟩ := fo_bd h0 hN0
              have ex58 : ∀ (H : Heap) (locs : List Loc) (ls : Array Slot), va_P D vwCl (fo_vx 25 ad (fr_ce ca ad y58.2)) H → va_S (fo_A 25 ad s.heap.size) s.heap H locs → lv_has ls 9 [(0, .ref (ad (fr_lay 0 0))), (1, .int a1), (2, .int a2), (3, .int a3), (4, .int (σ.1 3 0 (σ.1 11 0 a1.toNatClampNeg).toNatClampNeg))] → W p l e R s m args below meth c H locs 0 0 Q (F0 m 87 ls []) := by
                intro H locs ls hP hS hl
                refine lv_aload_n hx hb dX6_gain_87 rfl (lv_at hl 0 rfl) ?_
                obtain ⟨x18, hx18, h0⟩ := fo_bd h0 hN0
                refine fo_callv (va_runV (H := _) (As := []) (rest := []) ⟨hx, hb, hml, hown, hT⟩ (c_r_tryAll l D ca ad _ hx18) (fr_c6_194 hT ⟨Nat.le_trans (Nat.le_of_ble_eq_true rfl) hRf, Nat.le_trans (Nat.le_of_ble_eq_true rfl) hRl⟩) ⟨fo_Pre_blind, fr_rc0 hK hP (by decide), fo_Pre_at hP hK (hD _)⟩ rfl rfl hl.1 rfl (lv_room (Nat.le_of_ble_eq_true rfl)) dX6_gain_88 ⟨Nat.zero_le _, Nat.zero_le _⟩) hS (fun H locs hP hS => ?_)
                refine lv_iload_n hx hb dX6_gain_91 rfl (lv_at hl 3 rfl) ?_
                have J112 : ∀ j112 : Int64, r_gain_J112 σ a1 a2 a3 x18 j112 = some res → ∀ (H : Heap) (locs : List Loc) (ls : Array Slot), va_P D vwCl (fo_vx 25 ad (fr_ce ca ad x18)) H → va_S (fo_A 25 ad s.heap.size) s.heap H locs → lv_has ls 9 [(0, .ref (ad (fr_lay 0 0))), (1, .int a1), (2, .int a2), (3, .int a3), (4, .int (σ.1 3 0 (σ.1 11 0 a1.toNatClampNeg).toNatClampNeg))] → W p l e R s m args below meth c H locs 0 0 Q (F0 m 112 ls [.long j112]) := by
                  intro j112 h0 H locs ls hP hS hl
                  unfold r_gain_J112 at h0
                  refine lv_lstore (lv' := [(5, .long j112), (0, .ref (ad (fr_lay 0 0))), (1, .int a1), (2, .int a2), (3, .int a3), (4, .int (σ.1 3 0 (σ.1 11 0 a1.toNatClampNeg).toNatClampNeg))]) hx hb dX6_gain_112 hl (by decide) rfl (fun ls hl => ?_)
                  refine lv_iconst (v := 0) hx hb dX6_gain_114 (by decide) ?_
                  refine lv_istore (lv' := [(7, .int (0 : Int32)), (5, .long j112), (0, .ref (ad (fr_lay 0 0))), (1, .int a1), (2, .int a2), (3, .int a3), (4, .int (σ.1 3 0 (σ.1 11 0 a1.toNatClampNeg).toNatClampNeg))]) hx hb dX6_gain_115 hl (by decide) rfl (fun ls hl => ?_)
                  refine lv_iconst (v := 0) hx hb dX6_gain_117 (by decide) ?_
                  refine lv_istore (lv' := [(8, .int (0 : Int32)), (7, .int (0 : Int32)), (5, .long j112), (0, .ref (ad (fr_lay 0 0))), (1, .int a1), (2, .int a2), (3, .int a3), (4, .int (σ.1 3 0 (σ.1 11 0 a1.toNatClampNeg).toNatClampNeg))]) hx hb dX6_gain_118 hl (by decide) rfl (fun ls hl => ?_)
                  obtain ⟨y120, hy120, h0⟩ := fo_bd h0 hN0
                  have ex120 : ∀ (H : Heap) (locs : List Loc) (ls : Array Slot), va_P D vwCl (fo_vx 25 ad (fr_ce ca ad y120.2.2)) H → va_S (fo_A 25 ad s.heap.size) s.heap H locs → lv_has ls 9 [(0, .ref (ad (fr_lay 0 0))), (3, .int a3), (4, .int (σ.1 3 0 (σ.1 11 0 a1.toNatClampNeg).toNatClampNeg)), (5, .long j112)] → W p l e R s m args below meth c H locs 0 0 Q (F0 m 190 ls []) := by
                    intro H locs ls hP hS hl
                    refine lv_aload_n hx hb dX6_gain_190 rfl (lv_at hl 0 rfl) ?_
                    obtain ⟨x27, hx27, h0⟩ := fo_bd h0 hN0
                    refine fo_callv (va_runV (H := _) (As := []) (rest := []) ⟨hx, hb, hml, hown, hT⟩ (c_r_tryAll l D ca ad _ hx27) (fr_c6_194 hT ⟨Nat.le_trans (Nat.le_of_ble_eq_true rfl) hRf, Nat.le_trans (Nat.le_of_ble_eq_true rfl) hRl⟩) ⟨fo_Pre_blind, fr_rc0 hK hP (by decide), fo_Pre_at hP hK (hD _)⟩ rfl rfl hl.1 rfl (lv_room (Nat.le_of_ble_eq_true rfl)) dX6_gain_191 ⟨Nat.zero_le _, Nat.zero_le _⟩) hS (fun H locs hP hS => ?_)
                    refine lv_iload_n hx hb dX6_gain_194 rfl (lv_at hl 1 rfl) ?_
                    refine lv_if_ne (tgt := 208) hx hb dX6_gain_195 (by decide) (fun c28 => ?_) (fun c28 => ?_)
                    · replace h0 := fo_itF c28 h0
                      refine lv_aload_n hx hb dX6_gain_208 rfl (lv_at hl 0 rfl) ?_
                      refine fr_g6_61 hx hb hT hown hK hP (by decide) dX6_gain_209 ?_
                      refine lv_iload hx hb dX6_gain_212 (lv_at hl 2 rfl) ?_
                      obtain ⟨g29, h0⟩ := fo_gd h0 hN0
                      refine fr_lald (k := 16) (n := 8) hx hb hK hP (by decide) (by decide) (fun _ _ => rfl) g29 dX6_gain_214 ?_
                      refine lv_lload hx hb dX6_gain_215 (lv_at hl 3 rfl) ?_
                      refine lv_lsub hx hb dX6_gain_217 ?_
                      have hr30 := Option.some.inj h0
                      subst hr30
                      exact kr _ ls _ _ dX6_gain_218 hP hS
                    · replace h0 := fo_itT c28 h0
                      refine lv_aload_n hx hb dX6_gain_198 rfl (lv_at hl 0 rfl) ?_
                      refine fr_g6_58 hx hb hT hown hK hP (by decide) dX6_gain_199 ?_
                      refine lv_iload hx hb dX6_gain_202 (lv_at hl 2 rfl) ?_
                      obtain ⟨g31, h0⟩ := fo_gd h0 hN0
                      refine fr_lald (k := 15) (n := 8) hx hb hK hP (by decide) (by decide) (fun _ _ => rfl) g31 dX6_gain_204 ?_
                      refine lv_goto (tgt := 215) hx hb dX6_gain_205 (by decide) ?_
                      refine lv_lload hx hb dX6_gain_215 (lv_at hl 3 rfl) ?_
                      refine lv_lsub hx hb dX6_gain_217 ?_
                      have hr32 := Option.some.inj h0
                      subst hr32
                      exact kr _ ls _ _ dX6_gain_218 hP hS
                  have lp120 := fo_lp_ind (fun (s120 : Int32 × Int32 × fo_S) => ∀ (H : Heap) (locs : List Loc) (ls : Array Slot), va_P D vwCl (fo_vx 25 ad (fr_ce ca ad s120.2.2)) H → va_S (fo_A 25 ad s.heap.size) s.heap H locs → lv_has ls 9 [(0, .ref (ad (fr_lay 0 0))), (1, .int a1), (2, .int a2), (3, .int a3), (4, .int (σ.1 3 0 (σ.1 11 0 a1.toNatClampNeg).toNatClampNeg)), (5, .long j112), (7, .int s120.1), (8, .int s120.2.1)] → W p l e R s m args below meth c H locs 0 0 Q (F0 m 120 ls [])) (by
                      intro s120 o1 h1 hN1 hL1 hE1 H locs ls hP hS hl
                      unfold r_gain_L120 at h1
                      refine lv_iload hx hb dX6_gain_120 (lv_at hl 7 rfl) ?_
                      refine lv_aload_n hx hb dX6_gain_122 rfl (lv_at hl 0 rfl) ?_
                      refine fr_g6_42 hx hb hT hown hK hP (by decide) dX6_gain_123 ?_
                      refine lv_icmp_ge (tgt := 190) hx hb dX6_gain_126 (by decide) (fun c19 => ?_) (fun c19 => ?_)
                      · replace h1 := fo_itT c19 h1
                        have hy20 := hE1 _ h1
                        subst hy20
                        exact ex120 _ _ ls hP hS (lv_sub hl [0, 3, 4, 5] rfl)
                      · replace h1 := fo_itF c19 h1
                        refine lv_iload hx hb dX6_gain_129 (lv_at hl 7 rfl) ?_
                        refine lv_iload_n hx hb dX6_gain_131 rfl (lv_at hl 2 rfl) ?_
                        refine lv_icmp_ne (tgt := 151) hx hb dX6_gain_132 (by decide) (fun c21 => ?_) (fun c21 => ?_)
                        · replace h1 := fo_itF c21 h1
                          refine lv_iload hx hb dX6_gain_151 (lv_at hl 6 rfl) ?_
                          refine lv_iload hx hb dX6_gain_153 (lv_at hl 6 rfl) ?_
                          refine lv_iload_n hx hb dX6_gain_155 rfl (lv_at hl 1 rfl) ?_
                          have J164 : ∀ j164 : Int32, r_gain_J164 s120 j164 = o1 → ∀ (H : Heap) (locs : List Loc) (ls : Array Slot), va_P D vwCl (fo_vx 25 ad (fr_ce ca ad s120.2.2)) H → va_S (fo_A 25 ad s.heap.size) s.heap H locs → lv_has ls 9 [(0, .ref (ad (fr_lay 0 0))), (1, .int a1), (2, .int a2), (3, .int a3), (4, .int (σ.1 3 0 (σ.1 11 0 a1.toNatClampNeg).toNatClampNeg)), (5, .long j112), (8, .int s120.2.1)] → W p l e R s m args below meth c H locs 0 0 Q (F0 m 164 ls [.int j164, .int s120.1]) := by
                            intro j164 h1 H locs ls hP hS hl
                            unfold r_gain_J164 at h1
                            refine lv_iadd hx hb dX6_gain_164 ?_
                            refine lv_istore (lv' := [(7, .int (s120.1 + j164)), (0, .ref (ad (fr_lay 0 0))), (1, .int a1), (2, .int a2), (3, .int a3), (4, .int (σ.1 3 0 (σ.1 11 0 a1.toNatClampNeg).toNatClampNeg)), (5, .long j112), (8, .int s120.2.1)]) hx hb dX6_gain_165 hl (by decide) rfl (fun ls hl => ?_)
                            refine lv_aload_n hx hb dX6_gain_167 rfl (lv_at hl 1 rfl) ?_
                            refine fr_g6_55 hx hb hT hown hK hP (by decide) dX6_gain_168 ?_
                            refine lv_iload hx hb dX6_gain_171 (lv_at hl 7 rfl) ?_
                            refine lv_aload_n hx hb dX6_gain_173 rfl (lv_at hl 1 rfl) ?_
                            refine fr_g6_46 hx hb hT hown hK hP (by decide) dX6_gain_174 ?_
                            refine lv_iload hx hb dX6_gain_177 (lv_at hl 0 rfl) ?_
                            obtain ⟨g22, h1⟩ := fo_gd h1 hN1
                            refine fr_iald (k := 11) (n := 16) hx hb hK hP (by decide) (by decide) (fun _ _ => rfl) g22 dX6_gain_179 ?_
                            obtain ⟨g23, h1⟩ := fo_gd h1 hN1
                            refine fr_iast (k := 14) (n := 16) hx hb hK hP hD hS (by decide) (by decide) (fun _ _ => rfl) g23 dX6_gain_180 (fun H locs hP hS => ?_)
                            refine lv_iinc (v := (s120.1 + j164) + (1 : Int32)) (lv' := [(7, .int ((s120.1 + j164) + (1 : Int32))), (0, .ref (ad (fr_lay 0 0))), (1, .int a1), (2, .int a2), (3, .int a3), (4, .int (σ.1 3 0 (σ.1 11 0 a1.toNatClampNeg).toNatClampNeg)), (5, .long j112), (8, .int s120.2.1)]) hx hb dX6_gain_181 hl (k := 0) rfl rfl (by decide) rfl (fun ls hl => ?_)
                            refine lv_iinc (v := s120.2.1 + (1 : Int32)) (lv' := [(8, .int (s120.2.1 + (1 : Int32))), (7, .int ((s120.1 + j164) + (1 : Int32))), (0, .ref (ad (fr_lay 0 0))), (1, .int a1), (2, .int a2), (3, .int a3), (4, .int (σ.1 3 0 (σ.1 11 0 a1.toNatClampNeg).toNatClampNeg)), (5, .long j112)]) hx hb dX6_gain_184 hl (k := 7) rfl rfl (by decide) rfl (fun ls hl => ?_)
                            refine lv_goto (tgt := 120) hx hb dX6_gain_187 (by decide) ?_
                            exact hL1 _ h1 _ _ ls hP hS (lv_sub hl [2, 3, 4, 5, 6, 7, 1, 0] rfl)
                          refine lv_icmp_ne (tgt := 163) hx hb dX6_gain_156 (by decide) (fun c24 => ?_) (fun c24 => ?_)
                          · replace h1 := fo_itF c24 h1
                            refine lv_iconst (v := 0) hx hb dX6_gain_163 (by decide) ?_
                            exact J164 _ h1 _ _ ls hP hS (lv_sub hl [0, 1, 2, 3, 4, 5, 7] rfl)
                          · replace h1 := fo_itT c24 h1
                            refine lv_iconst (v := 1) hx hb dX6_gain_159 (by decide) ?_
                            refine lv_goto (tgt := 164) hx hb dX6_gain_160 (by decide) ?_
                            exact J164 _ h1 _ _ ls hP hS (lv_sub hl [0, 1, 2, 3, 4, 5, 7] rfl)
                        · replace h1 := fo_itT c21 h1
                          refine lv_aload_n hx hb dX6_gain_135 rfl (lv_at hl 0 rfl) ?_
                          refine fr_g6_55 hx hb hT hown hK hP (by decide) dX6_gain_136 ?_
                          refine lv_iload hx hb dX6_gain_139 (lv_at hl 7 rfl) ?_
                          refine lv_aload_n hx hb dX6_gain_141 rfl (lv_at hl 0 rfl) ?_
                          refine fr_g6_46 hx hb hT hown hK hP (by decide) dX6_gain_142 ?_
                          refine lv_iload_n hx hb dX6_gain_145 rfl (lv_at hl 1 rfl) ?_
                          obtain ⟨g25, h1⟩ := fo_gd h1 hN1
                          refine fr_iald (k := 11) (n := 16) hx hb hK hP (by decide) (by decide) (fun _ _ => rfl) g25 dX6_gain_146 ?_
                          obtain ⟨g26, h1⟩ := fo_gd h1 hN1
                          refine fr_iast (k := 14) (n := 16) hx hb hK hP hD hS (by decide) (by decide) (fun _ _ => rfl) g26 dX6_gain_147 (fun H locs hP hS => ?_)
                          refine lv_goto (tgt := 184) hx hb dX6_gain_148 (by decide) ?_
                          refine lv_iinc (v := s120.2.1 + (1 : Int32)) (lv' := [(8, .int (s120.2.1 + (1 : Int32))), (0, .ref (ad (fr_lay 0 0))), (1, .int a1), (2, .int a2), (3, .int a3), (4, .int (σ.1 3 0 (σ.1 11 0 a1.toNatClampNeg).toNatClampNeg)), (5, .long j112), (7, .int s120.1)]) hx hb dX6_gain_184 hl (k := 7) rfl rfl (by decide) rfl (fun ls hl => ?_)
                          refine lv_goto (tgt := 120) hx hb dX6_gain_187 (by decide) ?_
                          exact hL1 _ h1 _ _ ls hP hS (lv_sub hl [1, 2, 3, 4, 5, 6, 7, 0] rfl)) _ _ hy120
                  exact lp120 _ _ ls hP hS (lv_sub hl [3, 4, 5, 6, 7, 2, 1, 0] rfl)
                refine lv_if_ne (tgt := 105) hx hb dX6_gain_92 (by decide) (fun c33 => ?_) (fun c33 => ?_)
                · replace h0 := fo_itF c33 h0
                  refine lv_aload_n hx hb dX6_gain_105 rfl (lv_at hl 0 rfl) ?_
                  refine fr_g6_61 hx hb hT hown hK hP (by decide) dX6_gain_106 ?_
                  refine lv_iload hx hb dX6_gain_109 (lv_at hl 4 rfl) ?_
                  obtain ⟨g34, h0⟩ := fo_gd h0 hN0
                  refine fr_lald (k := 16) (n := 8) hx hb hK hP (by decide) (by decide) (fun _ _ => rfl) g34 dX6_gain_111 ?_
                  exact J112 _ h0 _ _ ls hP hS (lv_sub hl [0, 1, 2, 3, 4] rfl)
                · replace h0 := fo_itT c33 h0
                  refine lv_aload_n hx hb dX6_gain_95 rfl (lv_at hl 0 rfl) ?_
                  refine fr_g6_58 hx hb hT hown hK hP (by decide) dX6_gain_96 ?_
                  refine lv_iload hx hb dX6_gain_99 (lv_at hl 4 rfl) ?_
                  obtain ⟨g35, h0⟩ := fo_gd h0 hN0
                  refine fr_lald (k := 15) (n := 8) hx hb hK hP (by decide) (by decide) (fun _ _ => rfl) g35 dX6_gain_101 ?_
                  refine lv_goto (tgt := 112) hx hb dX6_gain_102 (by decide) ?_
                  exact J112 _ h0 _ _ ls hP hS (lv_sub hl [0, 1, 2, 3, 4] rfl)
              have lp58 := fo_lp_ind (fun (s58 : Int32 × fo_S) => ∀ (H : Heap) (locs : List Loc) (ls : Array Slot), va_P D vwCl (fo_vx 25 ad (fr_ce ca ad s58.2)) H → va_S (fo_A 25 ad s.heap.size) s.heap H locs → lv_has ls 9 [(0, .ref (ad (fr_lay 0 0))), (1, .int a1), (2, .int a2), (3, .int a3), (4, .int (σ.1 3 0 (σ.1 11 0 a1.toNatClampNeg).toNatClampNeg)), (5, .int s58.1)] → W p l e R s m args below meth c H locs 0 0 Q (F0 m 58 ls [])) (by
                  intro s58 o1 h1 hN1 hL1 hE1 H locs ls hP hS hl
                  unfold r_gain_L58 at h1
                  refine lv_iload hx hb dX6_gain_58 (lv_at hl 5 rfl) ?_
                  refine lv_aload_n hx hb dX6_gain_60 rfl (lv_at hl 0 rfl) ?_
                  refine fr_g6_42 hx hb hT hown hK hP (by decide) dX6_gain_61 ?_
                  refine lv_icmp_ge (tgt := 87) hx hb dX6_gain_64 (by decide) (fun c14 => ?_) (fun c14 => ?_)
                  · replace h1 := fo_itT c14 h1
                    have hy15 := hE1 _ h1
                    subst hy15
                    exact ex58 _ _ ls hP hS (lv_sub hl [0, 1, 2, 3, 4] rfl)
                  · replace h1 := fo_itF c14 h1
                    refine lv_aload_n hx hb dX6_gain_67 rfl (lv_at hl 0 rfl) ?_
                    refine fr_g6_55 hx hb hT hown hK hP (by decide) dX6_gain_68 ?_
                    refine lv_iload hx hb dX6_gain_71 (lv_at hl 5 rfl) ?_
                    refine lv_aload_n hx hb dX6_gain_73 rfl (lv_at hl 0 rfl) ?_
                    refine fr_g6_46 hx hb hT hown hK hP (by decide) dX6_gain_74 ?_
                    refine lv_iload hx hb dX6_gain_77 (lv_at hl 5 rfl) ?_
                    obtain ⟨g16, h1⟩ := fo_gd h1 hN1
                    refine fr_iald (k := 11) (n := 16) hx hb hK hP (by decide) (by decide) (fun _ _ => rfl) g16 dX6_gain_79 ?_
                    obtain ⟨g17, h1⟩ := fo_gd h1 hN1
                    refine fr_iast (k := 14) (n := 16) hx hb hK hP hD hS (by decide) (by decide) (fun _ _ => rfl) g17 dX6_gain_80 (fun H locs hP hS => ?_)
                    refine lv_iinc (v := s58.1 + (1 : Int32)) (lv' := [(5, .int (s58.1 + (1 : Int32))), (0, .ref (ad (fr_lay 0 0))), (1, .int a1), (2, .int a2), (3, .int a3), (4, .int (σ.1 3 0 (σ.1 11 0 a1.toNatClampNeg).toNatClampNeg))]) hx hb dX6_gain_81 hl (k := 5) rfl rfl (by decide) rfl (fun ls hl => ?_)
                    refine lv_goto (tgt := 58) hx hb dX6_gain_84 (by decide) ?_
                    exact hL1 _ h1 _ _ ls hP hS (lv_sub hl [1, 2, 3, 4, 5, 0] rfl)) _ _ hy58
              exact lp58 _ _ ls hP hS (lv_sub hl [2, 3, 4, 5, 1, 0] rfl)
            refine lv_if_eq (tgt := 42) hx hb dX6_gain_32 (by decide) (fun c36 => ?_) (fun c36 => ?_)
            · replace h0 := fo_itT c36 h0
              exact J42 h0 _ _ ls hP hS (lv_sub hl [0, 1, 2, 3] rfl)
            · replace h0 := fo_itF c36 h0
              refine lv_iload_n hx hb dX6_gain_35 rfl (lv_at hl 3 rfl) ?_
              refine lv_iconst (v := 1) hx hb dX6_gain_36 (by decide) ?_
              refine lv_icmp_eq (tgt := 42) hx hb dX6_gain_37 (by decide) (fun c37 => ?_) (fun c37 => ?_)
              · replace h0 := fo_itT c37 h0
                exact J42 h0 _ _ ls hP hS (lv_sub hl [0, 1, 2, 3] rfl)
              · replace h0 := fo_itF c37 h0
                refine lv_lconst (v := 0) hx hb dX6_gain_40 (by decide) ?_
                have hr38 := Option.some.inj h0
                subst hr38
                exact kr _ ls _ _ dX6_gain_41 hP hS
theorem c_r_gain (l : Launch) (D : va_G) (ca : Nat → ClassId) (ad : Nat → Nat) (sz : Nat) {σ : fo_S} {a1 : Int32} {a2 : Int32} {a3 : Int32}  {res : Int64 × fo_S} (h0 : r_gain σ a1 a2 a3 = some res) : Met l yX6_gain ws_r_gain rm_r_gain (fo_Pre 25 D vwCl (fr_tys ca) ad (fr_ce ca ad σ) sz [.ref (ad (fr_lay 0 0)), .int a1, .int a2, .int a3]) (fo_PoL 25 D vwCl (fr_tys ca) ad (fr_ce ca ad res.2) sz res.1) 0 0 (fo_A 25 ad sz) :=
  fr_mkL (by decide) (fun C0 kr hP => b_r_gain C0 (Nat.le_refl _) (Nat.le_refl _) (Nat.zero_le _)  h0 kr hP)
def r_has_J9 (σ : fo_S) (a1 : Int32) (a2 : Int32) : Option (Int64) :=
  if a1 < (-2 : Int32) then (some (0 : Int64)) else (if a1 < (σ.1 0 0 0) then (if a1 = (-2 : Int32) then (if a2 = 0 then (some (σ.2 0 0 5)) else (some (0 : Int64))) else (if a1 = (-1 : Int32) then (if a2 = 0 then (some (σ.2 0 0 3)) else (some (σ.2 0 0 4))) else (if a2 = 0 then (if fo_vi a1 8 then (some (σ.2 1 0 a1.toNatClampNeg)) else none) else (if fo_vi a1 8 then (some (σ.2 2 0 a1.toNatClampNeg)) else none)))) else (some (0 : Int64)))
def r_has (σ : fo_S) (a1 : Int32) (a2 : Int32) : Option (Int64) :=
  if a2 = 0 then (r_has_J9 σ a1 a2) else (if a2 = (1 : Int32) then (r_has_J9 σ a1 a2) else (some (0 : Int64)))
set_option maxHeartbeats 4000000 in
set_option maxRecDepth 100000 in
theorem b_r_has {p : Program} {l : Launch} {e : Env} {R : Room} {s : State} {m : MethodId} {args : Array Value} {below : List Frame} {meth : Method} {c : Code} {Q : State → Prop} {D : va_G} {ca : Nat → ClassId} {ad : Nat → Nat} (C0 : fr_CX p s m args c cX6_has 3 RX6 D ca ad) (hRf : 0 ≤ R.frames) (hRl : 0 ≤ R.locals) (hRc : 0 ≤ R.cells) {σ : fo_S} {a1 : Int32} {a2 : Int32}  {res : Int64} (h0 : r_has σ a1 a2 = some res) (kr : ∀ (pc : Nat) (ls : Array Slot) (H : Heap) (locs : List Loc), decode cX6_has pc = .ok (.lreturn, 1) → va_P D vwCl (fo_vx 25 ad (fr_ce ca ad σ)) H → va_S (fo_A 25 ad s.heap.size) s.heap H locs → W p l e R s m args below meth c H locs 0 0 Q (F0 m pc ls [.long res])) (hP : va_P D vwCl (fo_vx 25 ad (fr_ce ca ad σ)) s.heap) : W p l e R s m args below meth c s.heap [] 0 0 Q (entryFrame m ([.ref (ad (fr_lay 0 0)), .int a1, .int a2] : List Value).toArray 3) := by
  obtain ⟨hx, hb, hml, hown, hT, hK, hD⟩ := C0
  have hN0 : (some res) ≠ none := fun q => by cases q
  unfold r_has at h0
  have hS : va_S (fo_A 25 ad s.heap.size) s.heap s.heap [] := va_S.rf
  have hl := lv_entry ([.ref (ad (fr_lay 0 0)), .int a1, .int a2]) (n := 3) (Nat.le_of_ble_eq_true rfl)
  rw [lg_entry_eq]
  generalize (lg_sl ([.ref (ad (fr_lay 0 0)), .int a1, .int a2]) ++ List.replicate (3 - (lg_sl ([.ref (ad (fr_lay 0 0)), .int a1, .int a2])).length) Slot.unset).toArray = ls at hl ⊢
  have hl : lv_has ls 3 [(0, .ref (ad (fr_lay 0 0))), (1, .int a1), (2, .int a2)] := hl
  refine lv_iload_n hx hb dX6_has_0 rfl (lv_at hl 2 rfl) ?_
  have J9 : r_has_J9 σ a1 a2 = some res → ∀ (H : Heap) (locs : List Loc) (ls : Array Slot), va_P D vwCl (fo_vx 25 ad (fr_ce ca ad σ)) H → va_S (fo_A 25 ad s.heap.size) s.heap H locs → lv_has ls 3 [(0, .ref (ad (fr_lay 0 0))), (1, .int a1), (2, .int a2)] → W p l e R s m args below meth c H locs 0 0 Q (F0 m 9 ls []) := by
    intro h0 H locs ls hP hS hl
    unfold r_has_J9 at h0
    refine lv_iload_n hx hb dX6_has_9 rfl (lv_at hl 1 rfl) ?_
    refine lv_bipush (v := -2) hx hb dX6_has_10 (by decide) ?_
    refine lv_icmp_lt (tgt := 23) hx hb dX6_has_12 (by decide) (fun c1 => ?_) (fun c1 => ?_)
    · replace h0 := fo_itT c1 h0
      refine lv_lconst (v := 0) hx hb dX6_has_23 (by decide) ?_
      have hr2 := Option.some.inj h0
      subst hr2
      exact kr _ ls _ _ dX6_has_24 hP hS
    · replace h0 := fo_itF c1 h0
      refine lv_iload_n hx hb dX6_has_15 rfl (lv_at hl 1 rfl) ?_
      refine lv_aload_n hx hb dX6_has_16 rfl (lv_at hl 0 rfl) ?_
      refine fr_g6_102 hx hb hT hown hK hP (by decide) dX6_has_17 ?_
      refine lv_icmp_lt (tgt := 25) hx hb dX6_has_20 (by decide) (fun c3 => ?_) (fun c3 => ?_)
      · replace h0 := fo_itT c3 h0
        refine lv_iload_n hx hb dX6_has_25 rfl (lv_at hl 1 rfl) ?_
        refine lv_bipush (v := -2) hx hb dX6_has_26 (by decide) ?_
        refine lv_icmp_ne (tgt := 44) hx hb dX6_has_28 (by decide) (fun c4 => ?_) (fun c4 => ?_)
        · replace h0 := fo_itF c4 h0
          refine lv_iload_n hx hb dX6_has_44 rfl (lv_at hl 1 rfl) ?_
          refine lv_iconst (v := -1) hx hb dX6_has_45 (by decide) ?_
          refine lv_icmp_ne (tgt := 65) hx hb dX6_has_46 (by decide) (fun c5 => ?_) (fun c5 => ?_)
          · replace h0 := fo_itF c5 h0
            refine lv_iload_n hx hb dX6_has_65 rfl (lv_at hl 2 rfl) ?_
            refine lv_if_ne (tgt := 78) hx hb dX6_has_66 (by decide) (fun c6 => ?_) (fun c6 => ?_)
            · replace h0 := fo_itF c6 h0
              refine lv_aload_n hx hb dX6_has_78 rfl (lv_at hl 0 rfl) ?_
              refine fr_g6_13 hx hb hT hown hK hP (by decide) dX6_has_79 ?_
              refine lv_iload_n hx hb dX6_has_82 rfl (lv_at hl 1 rfl) ?_
              obtain ⟨g7, h0⟩ := fo_gd h0 hN0
              refine fr_lald (k := 2) (n := 8) hx hb hK hP (by decide) (by decide) (fun _ _ => rfl) g7 dX6_has_83 ?_
              have hr8 := Option.some.inj h0
              subst hr8
              exact kr _ ls _ _ dX6_has_84 hP hS
            · replace h0 := fo_itT c6 h0
              refine lv_aload_n hx hb dX6_has_69 rfl (lv_at hl 0 rfl) ?_
              refine fr_g6_7 hx hb hT hown hK hP (by decide) dX6_has_70 ?_
              refine lv_iload_n hx hb dX6_has_73 rfl (lv_at hl 1 rfl) ?_
              obtain ⟨g9, h0⟩ := fo_gd h0 hN0
              refine fr_lald (k := 1) (n := 8) hx hb hK hP (by decide) (by decide) (fun _ _ => rfl) g9 dX6_has_74 ?_
              refine lv_goto (tgt := 84) hx hb dX6_has_75 (by decide) ?_
              have hr10 := Option.some.inj h0
              subst hr10
              exact kr _ ls _ _ dX6_has_84 hP hS
          · replace h0 := fo_itT c5 h0
            refine lv_iload_n hx hb dX6_has_49 rfl (lv_at hl 2 rfl) ?_
            refine lv_if_ne (tgt := 60) hx hb dX6_has_50 (by decide) (fun c11 => ?_) (fun c11 => ?_)
            · replace h0 := fo_itF c11 h0
              refine lv_aload_n hx hb dX6_has_60 rfl (lv_at hl 0 rfl) ?_
              refine fr_g6_109 hx hb hT hown hK hP (by decide) dX6_has_61 ?_
              have hr12 := Option.some.inj h0
              subst hr12
              exact kr _ ls _ _ dX6_has_64 hP hS
            · replace h0 := fo_itT c11 h0
              refine lv_aload_n hx hb dX6_has_53 rfl (lv_at hl 0 rfl) ?_
              refine fr_g6_105 hx hb hT hown hK hP (by decide) dX6_has_54 ?_
              refine lv_goto (tgt := 64) hx hb dX6_has_57 (by decide) ?_
              have hr13 := Option.some.inj h0
              subst hr13
              exact kr _ ls _ _ dX6_has_64 hP hS
        · replace h0 := fo_itT c4 h0
          refine lv_iload_n hx hb dX6_has_31 rfl (lv_at hl 2 rfl) ?_
          refine lv_if_ne (tgt := 42) hx hb dX6_has_32 (by decide) (fun c14 => ?_) (fun c14 => ?_)
          · replace h0 := fo_itF c14 h0
            refine lv_lconst (v := 0) hx hb dX6_has_42 (by decide) ?_
            have hr15 := Option.some.inj h0
            subst hr15
            exact kr _ ls _ _ dX6_has_43 hP hS
          · replace h0 := fo_itT c14 h0
            refine lv_aload_n hx hb dX6_has_35 rfl (lv_at hl 0 rfl) ?_
            refine fr_g6_112 hx hb hT hown hK hP (by decide) dX6_has_36 ?_
            refine lv_goto (tgt := 43) hx hb dX6_has_39 (by decide) ?_
            have hr16 := Option.some.inj h0
            subst hr16
            exact kr _ ls _ _ dX6_has_43 hP hS
      · replace h0 := fo_itF c3 h0
        refine lv_lconst (v := 0) hx hb dX6_has_23 (by decide) ?_
        have hr17 := Option.some.inj h0
        subst hr17
        exact kr _ ls _ _ dX6_has_24 hP hS
  refine lv_if_eq (tgt := 9) hx hb dX6_has_1 (by decide) (fun c18 => ?_) (fun c18 => ?_)
  · replace h0 := fo_itT c18 h0
    exact J9 h0 _ _ ls hP hS (lv_sub hl [0, 1, 2] rfl)
  · replace h0 := fo_itF c18 h0
    refine lv_iload_n hx hb dX6_has_4 rfl (lv_at hl 2 rfl) ?_
    refine lv_iconst (v := 1) hx hb dX6_has_5 (by decide) ?_
    refine lv_icmp_ne (tgt := 23) hx hb dX6_has_6 (by decide) (fun c19 => ?_) (fun c19 => ?_)
    · replace h0 := fo_itF c19 h0
      refine lv_lconst (v := 0) hx hb dX6_has_23 (by decide) ?_
      have hr20 := Option.some.inj h0
      subst hr20
      exact kr _ ls _ _ dX6_has_24 hP hS
    · replace h0 := fo_itT c19 h0
      exact J9 h0 _ _ ls hP hS (lv_sub hl [0, 1, 2] rfl)
theorem c_r_has (l : Launch) (D : va_G) (ca : Nat → ClassId) (ad : Nat → Nat) (sz : Nat) {σ : fo_S} {a1 : Int32} {a2 : Int32}  {res : Int64} (h0 : r_has σ a1 a2 = some res) : Met l yX6_has ws_r_has rm_r_has (fo_Pre 25 D vwCl (fr_tys ca) ad (fr_ce ca ad σ) sz [.ref (ad (fr_lay 0 0)), .int a1, .int a2]) (fo_PoL 25 D vwCl (fr_tys ca) ad (fr_ce ca ad σ) sz res) 0 0 (fo_A 25 ad sz) :=
  fr_mkL (by decide) (fun C0 kr hP => b_r_has C0 (Nat.le_refl _) (Nat.le_refl _) (Nat.zero_le _)  h0 kr hP)
def r_of_J39 (σ : fo_S) (a1 : Int32) (a2 : Int32) : Option (Int32) :=
  if a2 = 0 then (if fo_vi a1 16 then (some (σ.1 3 0 a1.toNatClampNeg)) else none) else (if a2 = (1 : Int32) then (if fo_vi a1 16 then (if (σ.1 6 0 a1.toNatClampNeg) = 0 then (some (0 : Int32)) else (some (1 : Int32))) else none) else (if a2 = (2 : Int32) then (if fo_vi a1 16 then (some (σ.1 7 0 a1.toNatClampNeg)) else none) else (if a2 = (3 : Int32) then (if fo_vi a1 16 then (some (σ.1 8 0 a1.toNatClampNeg)) else none) else (if fo_vi a1 16 then (some (σ.1 9 0 a1.toNatClampNeg)) else none))))
def r_of (σ : fo_S) (a1 : Int32) (a2 : Int32) : Option (Int32) :=
  (r_isCall σ a1).bind (fun x1 => if x1 = 0 then (some (-2 : Int32)) else ((r_in σ a2.toInt64 (0 : Int64) (4 : Int64)).bind (fun x4 => if x4 = 0 then (some (-2 : Int32)) else (if a2 ≤ (1 : Int32) then (r_of_J39 σ a1 a2) else (if fo_vi a1 16 then (if (σ.1 6 0 a1.toNatClampNeg) = 0 then (some (-1 : Int32)) else (r_of_J39 σ a1 a2)) else none)))))
set_option maxHeartbeats 4000000 in
set_option maxRecDepth 100000 in
theorem b_r_of {p : Program} {l : Launch} {e : Env} {R : Room} {s : State} {m : MethodId} {args : Array Value} {below : List Frame} {meth : Method} {c : Code} {Q : State → Prop} {D : va_G} {ca : Nat → ClassId} {ad : Nat → Nat} (C0 : fr_CX p s m args c cX6_of 3 RX6 D ca ad) (hRf : 2 ≤ R.frames) (hRl : 46 ≤ R.locals) (hRc : 0 ≤ R.cells) {σ : fo_S} {a1 : Int32} {a2 : Int32}  {res : Int32} (h0 : r_of σ a1 a2 = some res) (kr : ∀ (pc : Nat) (ls : Array Slot) (H : Heap) (locs : List Loc), decode cX6_of pc = .ok (.ireturn, 1) → va_P D vwCl (fo_vx 25 ad (fr_ce ca ad σ)) H → va_S (fo_A 25 ad s.heap.size) s.heap H locs → W p l e R s m args below meth c H locs 0 0 Q (F0 m pc ls [.int res])) (hP : va_P D vwCl (fo_vx 25 ad (fr_ce ca ad σ)) s.heap) : W p l e R s m args below meth c s.heap [] 0 0 Q (entryFrame m ([.ref (ad (fr_lay 0 0)), .int a1, .int a2] : List Value).toArray 3) := by
  obtain ⟨hx, hb, hml, hown, hT, hK, hD⟩ := C0
  have hN0 : (some res) ≠ none := fun q => by cases q
  unfold r_of at h0
  have hS : va_S (fo_A 25 ad s.heap.size) s.heap s.heap [] := va_S.rf
  have hl := lv_entry ([.ref (ad (fr_lay 0 0)), .int a1, .int a2]) (n := 3) (Nat.le_of_ble_eq_true rfl)
  rw [lg_entry_eq]
  generalize (lg_sl ([.ref (ad (fr_lay 0 0)), .int a1, .int a2]) ++ List.replicate (3 - (lg_sl ([.ref (ad (fr_lay 0 0)), .int a1, .int a2])).length) Slot.unset).toArray = ls at hl ⊢
  have hl : lv_has ls 3 [(0, .ref (ad (fr_lay 0 0))), (1, .int a1), (2, .int a2)] := hl
  refine lv_aload_n hx hb dX6_of_0 rfl (lv_at hl 0 rfl) ?_
  refine lv_iload_n hx hb dX6_of_1 rfl (lv_at hl 1 rfl) ?_
  obtain ⟨x1, hx1, h0⟩ := fo_bd h0 hN0
  refine fo_calli (va_runV (H := _) (As := [.int a1]) (rest := []) ⟨hx, hb, hml, hown, hT⟩ (c_r_isCall l D ca ad _ hx1) (fr_c6_141 hT ⟨Nat.le_trans (Nat.le_of_ble_eq_true rfl) hRf, Nat.le_trans (Nat.le_of_ble_eq_true rfl) hRl⟩) ⟨fo_Pre_blind, fr_rc0 hK hP (by decide), fo_Pre_at hP hK (hD _)⟩ rfl rfl hl.1 rfl (lv_room (Nat.le_of_ble_eq_true rfl)) dX6_of_2 ⟨Nat.zero_le _, Nat.zero_le _⟩) hS (fun H locs hP hS => ?_)
  refine lv_if_eq (tgt := 20) hx hb dX6_of_5 (by decide) (fun c2 => ?_) (fun c2 => ?_)
  · replace h0 := fo_itT c2 h0
    refine lv_bipush (v := -2) hx hb dX6_of_20 (by decide) ?_
    have hr3 := Option.some.inj h0
    subst hr3
    exact kr _ ls _ _ dX6_of_22 hP hS
  · replace h0 := fo_itF c2 h0
    refine lv_iload_n hx hb dX6_of_8 rfl (lv_at hl 2 rfl) ?_
    refine lv_i2l hx hb dX6_of_9 rfl ?_
    refine lv_lconst (v := 0) hx hb dX6_of_10 (by decide) ?_
    refine lv_ldc2 (v := 4) hx hb hown (fr_k6_139 hT) dX6_of_11 ?_
    obtain ⟨x4, hx4, h0⟩ := fo_bd h0 hN0
    refine fo_calli (va_runS (H := _) (As := [.long a2.toInt64, .long (0 : Int64), .long (4 : Int64)]) (rest := []) ⟨hx, hb, hml, hown, hT⟩ (c_r_in l D ca ad _ hx4) (fr_c6_91 hT ⟨Nat.le_trans (Nat.le_of_ble_eq_true rfl) hRf, Nat.le_trans (Nat.le_of_ble_eq_true rfl) hRl⟩) ⟨fo_Pre_blind, fo_Pre_at hP hK (hD _)⟩ rfl rfl hl.1 rfl (lv_room (Nat.le_of_ble_eq_true rfl)) dX6_of_14 ⟨Nat.zero_le _, Nat.zero_le _⟩) hS (fun H locs hP hS => ?_)
    refine lv_if_ne (tgt := 23) hx hb dX6_of_17 (by decide) (fun c5 => ?_) (fun c5 => ?_)
    · replace h0 := fo_itF c5 h0
      refine lv_iload_n hx hb dX6_of_23 rfl (lv_at hl 2 rfl) ?_
      refine lv_iconst (v := 1) hx hb dX6_of_24 (by decide) ?_
      have J39 : r_of_J39 σ a1 a2 = some res → ∀ (H : Heap) (locs : List Loc) (ls : Array Slot), va_P D vwCl (fo_vx 25 ad (fr_ce ca ad σ)) H → va_S (fo_A 25 ad s.heap.size) s.heap H locs → lv_has ls 3 [(0, .ref (ad (fr_lay 0 0))), (1, .int a1), (2, .int a2)] → W p l e R s m args below meth c H locs 0 0 Q (F0 m 39 ls []) := by
        intro h0 H locs ls hP hS hl
        unfold r_of_J39 at h0
        refine lv_iload_n hx hb dX6_of_39 rfl (lv_at hl 2 rfl) ?_
        refine lv_if_ne (tgt := 52) hx hb dX6_of_40 (by decide) (fun c6 => ?_) (fun c6 => ?_)
        · replace h0 := fo_itF c6 h0
          refine lv_iload_n hx hb dX6_of_52 rfl (lv_at hl 2 rfl) ?_
          refine lv_iconst (v := 1) hx hb dX6_of_53 (by decide) ?_
          refine lv_icmp_ne (tgt := 74) hx hb dX6_of_54 (by decide) (fun c7 => ?_) (fun c7 => ?_)
          · replace h0 := fo_itF c7 h0
            refine lv_iload_n hx hb dX6_of_74 rfl (lv_at hl 2 rfl) ?_
            refine lv_iconst (v := 2) hx hb dX6_of_75 (by decide) ?_
            refine lv_icmp_ne (tgt := 88) hx hb dX6_of_76 (by decide) (fun c8 => ?_) (fun c8 => ?_)
            · replace h0 := fo_itF c8 h0
              refine lv_iload_n hx hb dX6_of_88 rfl (lv_at hl 2 rfl) ?_
              refine lv_iconst (v := 3) hx hb dX6_of_89 (by decide) ?_
              refine lv_icmp_ne (tgt := 102) hx hb dX6_of_90 (by decide) (fun c9 => ?_) (fun c9 => ?_)
              · replace h0 := fo_itF c9 h0
                refine lv_aload_n hx hb dX6_of_102 rfl (lv_at hl 0 rfl) ?_
                refine fr_g6_36 hx hb hT hown hK hP (by decide) dX6_of_103 ?_
                refine lv_iload_n hx hb dX6_of_106 rfl (lv_at hl 1 rfl) ?_
                obtain ⟨g10, h0⟩ := fo_gd h0 hN0
                refine fr_iald (k := 9) (n := 16) hx hb hK hP (by decide) (by decide) (fun _ _ => rfl) g10 dX6_of_107 ?_
                have hr11 := Option.some.inj h0
                subst hr11
                exact kr _ ls _ _ dX6_of_108 hP hS
              · replace h0 := fo_itT c9 h0
                refine lv_aload_n hx hb dX6_of_93 rfl (lv_at hl 0 rfl) ?_
                refine fr_g6_33 hx hb hT hown hK hP (by decide) dX6_of_94 ?_
                refine lv_iload_n hx hb dX6_of_97 rfl (lv_at hl 1 rfl) ?_
                obtain ⟨g12, h0⟩ := fo_gd h0 hN0
                refine fr_iald (k := 8) (n := 16) hx hb hK hP (by decide) (by decide) (fun _ _ => rfl) g12 dX6_of_98 ?_
                refine lv_goto (tgt := 108) hx hb dX6_of_99 (by decide) ?_
                have hr13 := Option.some.inj h0
                subst hr13
                exact kr _ ls _ _ dX6_of_108 hP hS
            · replace h0 := fo_itT c8 h0
              refine lv_aload_n hx hb dX6_of_79 rfl (lv_at hl 0 rfl) ?_
              refine fr_g6_30 hx hb hT hown hK hP (by decide) dX6_of_80 ?_
              refine lv_iload_n hx hb dX6_of_83 rfl (lv_at hl 1 rfl) ?_
              obtain ⟨g14, h0⟩ := fo_gd h0 hN0
              refine fr_iald (k := 7) (n := 16) hx hb hK hP (by decide) (by decide) (fun _ _ => rfl) g14 dX6_of_84 ?_
              refine lv_goto (tgt := 108) hx hb dX6_of_85 (by decide) ?_
              have hr15 := Option.some.inj h0
              subst hr15
              exact kr _ ls _ _ dX6_of_108 hP hS
          · replace h0 := fo_itT c7 h0
            refine lv_aload_n hx hb dX6_of_57 rfl (lv_at hl 0 rfl) ?_
            refine fr_g6_26 hx hb hT hown hK hP (by decide) dX6_of_58 ?_
            refine lv_iload_n hx hb dX6_of_61 rfl (lv_at hl 1 rfl) ?_
            obtain ⟨g16, h0⟩ := fo_gd h0 hN0
            refine fr_zald (k := 6) (n := 16) hx hb hK hP (by decide) (by decide) (fun _ _ => rfl) g16 dX6_of_62 ?_
            refine lv_if_eq (tgt := 70) hx hb dX6_of_63 (by decide) (fun c17 => ?_) (fun c17 => ?_)
            · replace h0 := fo_itT c17 h0
              refine lv_iconst (v := 0) hx hb dX6_of_70 (by decide) ?_
              refine lv_goto (tgt := 108) hx hb dX6_of_71 (by decide) ?_
              have hr18 := Option.some.inj h0
              subst hr18
              exact kr _ ls _ _ dX6_of_108 hP hS
            · replace h0 := fo_itF c17 h0
              refine lv_iconst (v := 1) hx hb dX6_of_66 (by decide) ?_
              refine lv_goto (tgt := 108) hx hb dX6_of_67 (by decide) ?_
              have hr19 := Option.some.inj h0
              subst hr19
              exact kr _ ls _ _ dX6_of_108 hP hS
        · replace h0 := fo_itT c6 h0
          refine lv_aload_n hx hb dX6_of_43 rfl (lv_at hl 0 rfl) ?_
          refine fr_g6_16 hx hb hT hown hK hP (by decide) dX6_of_44 ?_
          refine lv_iload_n hx hb dX6_of_47 rfl (lv_at hl 1 rfl) ?_
          obtain ⟨g20, h0⟩ := fo_gd h0 hN0
          refine fr_iald (k := 3) (n := 16) hx hb hK hP (by decide) (by decide) (fun _ _ => rfl) g20 dX6_of_48 ?_
          refine lv_goto (tgt := 108) hx hb dX6_of_49 (by decide) ?_
          have hr21 := Option.some.inj h0
          subst hr21
          exact kr _ ls _ _ dX6_of_108 hP hS
      refine lv_icmp_le (tgt := 39) hx hb dX6_of_25 (by decide) (fun c22 => ?_) (fun c22 => ?_)
      · replace h0 := fo_itT c22 h0
        exact J39 h0 _ _ ls hP hS (lv_sub hl [0, 1, 2] rfl)
      · replace h0 := fo_itF c22 h0
        refine lv_aload_n hx hb dX6_of_28 rfl (lv_at hl 0 rfl) ?_
        refine fr_g6_26 hx hb hT hown hK hP (by decide) dX6_of_29 ?_
        refine lv_iload_n hx hb dX6_of_32 rfl (lv_at hl 1 rfl) ?_
        obtain ⟨g23, h0⟩ := fo_gd h0 hN0
        refine fr_zald (k := 6) (n := 16) hx hb hK hP (by decide) (by decide) (fun _ _ => rfl) g23 dX6_of_33 ?_
        refine lv_if_ne (tgt := 39) hx hb dX6_of_34 (by decide) (fun c24 => ?_) (fun c24 => ?_)
        · replace h0 := fo_itF c24 h0
          exact J39 h0 _ _ ls hP hS (lv_sub hl [0, 1, 2] rfl)
        · replace h0 := fo_itT c24 h0
          refine lv_iconst (v := -1) hx hb dX6_of_37 (by decide) ?_
          have hr25 := Option.some.inj h0
          subst hr25
          exact kr _ ls _ _ dX6_of_38 hP hS
    · replace h0 := fo_itT c5 h0
      refine lv_bipush (v := -2) hx hb dX6_of_20 (by decide) ?_
      have hr26 := Option.some.inj h0
      subst hr26
      exact kr _ ls _ _ dX6_of_22 hP hS
theorem c_r_of (l : Launch) (D : va_G) (ca : Nat → ClassId) (ad : Nat → Nat) (sz : Nat) {σ : fo_S} {a1 : Int32} {a2 : Int32}  {res : Int32} (h0 : r_of σ a1 a2 = some res) : Met l yX6_of ws_r_of rm_r_of (fo_Pre 25 D vwCl (fr_tys ca) ad (fr_ce ca ad σ) sz [.ref (ad (fr_lay 0 0)), .int a1, .int a2]) (fo_PoI 25 D vwCl (fr_tys ca) ad (fr_ce ca ad σ) sz res) 0 0 (fo_A 25 ad sz) :=
  fr_mkI (by decide) (fun C0 kr hP => b_r_of C0 (Nat.le_refl _) (Nat.le_refl _) (Nat.zero_le _)  h0 kr hP)
def r_count_L57 (σ : fo_S) (s57 : Int32 × Int32) : Option ((Int32 × Int32) ⊕ (Int32 × Int32)) :=
  if (σ.1 0 0 8) ≤ s57.2 then (some (.inr (s57.1, s57.2))) else (if fo_vi s57.2 16 then (if (σ.1 6 0 s57.2.toNatClampNeg) = 0 then (some (.inl (s57.1 + (0 : Int32), s57.2 + (1 : Int32)))) else (some (.inl (s57.1 + (1 : Int32), s57.2 + (1 : Int32))))) else none)
def r_count (σ : fo_S) (a1 : Int32) : Option (Int32) :=
  if a1 = (0 : Int32) then (some (σ.1 0 0 0)) else (if a1 = (1 : Int32) then (some (σ.1 0 0 8)) else (if a1 = (2 : Int32) then (some (σ.1 0 0 6)) else (if a1 = (3 : Int32) then ((fo_lp (r_count_L57 σ) fo_FU ((0 : Int32), (0 : Int32))).bind (fun y57 => some y57.1)) else (if a1 = (4 : Int32) then (some (σ.1 0 0 7)) else (if a1 = (5 : Int32) then (if 0 ≤ (σ.1 0 0 17) then (some (σ.1 0 0 17)) else (some (0 : Int32))) else (some (-2 : Int32)))))))
set_option maxHeartbeats 4000000 in
set_option maxRecDepth 100000 in
theorem b_r_count {p : Program} {l : Launch} {e : Env} {R : Room} {s : State} {m : MethodId} {args : Array Value} {below : List Frame} {meth : Method} {c : Code} {Q : State → Prop} {D : va_G} {ca : Nat → ClassId} {ad : Nat → Nat} (C0 : fr_CX p s m args c cX6_count 4 RX6 D ca ad) (hRf : 0 ≤ R.frames) (hRl : 0 ≤ R.locals) (hRc : 0 ≤ R.cells) {σ : fo_S} {a1 : Int32}  {res : Int32} (h0 : r_count σ a1 = some res) (kr : ∀ (pc : Nat) (ls : Array Slot) (H : Heap) (locs : List Loc), decode cX6_count pc = .ok (.ireturn, 1) → va_P D vwCl (fo_vx 25 ad (fr_ce ca ad σ)) H → va_S (fo_A 25 ad s.heap.size) s.heap H locs → W p l e R s m args below meth c H locs 0 0 Q (F0 m pc ls [.int res])) (hP : va_P D vwCl (fo_vx 25 ad (fr_ce ca ad σ)) s.heap) : W p l e R s m args below meth c s.heap [] 0 0 Q (entryFrame m ([.ref (ad (fr_lay 0 0)), .int a1] : List Value).toArray 4) := by
  obtain ⟨hx, hb, hml, hown, hT, hK, hD⟩ := C0
  have hN0 : (some res) ≠ none := fun q => by cases q
  unfold r_count at h0
  have hS : va_S (fo_A 25 ad s.heap.size) s.heap s.heap [] := va_S.rf
  have hl := lv_entry ([.ref (ad (fr_lay 0 0)), .int a1]) (n := 4) (Nat.le_of_ble_eq_true rfl)
  rw [lg_entry_eq]
  generalize (lg_sl ([.ref (ad (fr_lay 0 0)), .int a1]) ++ List.replicate (4 - (lg_sl ([.ref (ad (fr_lay 0 0)), .int a1])).length) Slot.unset).toArray = ls at hl ⊢
  have hl : lv_has ls 4 [(0, .ref (ad (fr_lay 0 0))), (1, .int a1)] := hl
  refine lv_iconst (v := 0) hx hb dX6_count_0 (by decide) ?_
  refine lv_istore_n (lv' := [(2, .int (0 : Int32)), (0, .ref (ad (fr_lay 0 0))), (1, .int a1)]) hx hb dX6_count_1 rfl hl (by decide) rfl (fun ls hl => ?_)
  refine lv_iload_n hx hb dX6_count_2 rfl (lv_at hl 2 rfl) ?_
  by_cases c1 : a1 = (0 : Int32)
  · replace h0 := fo_itT c1 h0
    refine lv_tableIn (tgt := 40) hx hb dX6_count_3 (by rw [c1]; decide) (by rw [c1]; decide) (by rw [c1]; rfl) (by decide) ?_
    refine lv_aload_n hx hb dX6_count_40 rfl (lv_at hl 1 rfl) ?_
    refine fr_g6_102 hx hb hT hown hK hP (by decide) dX6_count_41 ?_
    have hr2 := Option.some.inj h0
    subst hr2
    exact kr _ ls _ _ dX6_count_44 hP hS
  replace h0 := fo_itF c1 h0
  by_cases c3 : a1 = (1 : Int32)
  · replace h0 := fo_itT c3 h0
    refine lv_tableIn (tgt := 45) hx hb dX6_count_3 (by rw [c3]; decide) (by rw [c3]; decide) (by rw [c3]; rfl) (by decide) ?_
    refine lv_aload_n hx hb dX6_count_45 rfl (lv_at hl 1 rfl) ?_
    refine fr_g6_88 hx hb hT hown hK hP (by decide) dX6_count_46 ?_
    have hr4 := Option.some.inj h0
    subst hr4
    exact kr _ ls _ _ dX6_count_49 hP hS
  replace h0 := fo_itF c3 h0
  by_cases c5 : a1 = (2 : Int32)
  · replace h0 := fo_itT c5 h0
    refine lv_tableIn (tgt := 50) hx hb dX6_count_3 (by rw [c5]; decide) (by rw [c5]; decide) (by rw [c5]; rfl) (by decide) ?_
    refine lv_aload_n hx hb dX6_count_50 rfl (lv_at hl 1 rfl) ?_
    refine fr_g6_99 hx hb hT hown hK hP (by decide) dX6_count_51 ?_
    have hr6 := Option.some.inj h0
    subst hr6
    exact kr _ ls _ _ dX6_count_54 hP hS
  replace h0 := fo_itF c5 h0
  by_cases c7 : a1 = (3 : Int32)
  · replace h0 := fo_itT c7 h0
    refine lv_tableIn (tgt := 55) hx hb dX6_count_3 (by rw [c7]; decide) (by rw [c7]; decide) (by rw [c7]; rfl) (by decide) ?_
    refine lv_iconst (v := 0) hx hb dX6_count_55 (by decide) ?_
    refine lv_istore_n (lv' := [(3, .int (0 : Int32)), (2, .int (0 : Int32)), (0, .ref (ad (fr_lay 0 0))), (1, .int a1)]) hx hb dX6_count_56 rfl hl (by decide) rfl (fun ls hl => ?_)
    obtain ⟨y57, hy57, h0⟩ := fo_bd h0 hN0
    have ex57 : ∀ (H : Heap) (locs : List Loc) (ls : Array Slot), va_P D vwCl (fo_vx 25 ad (fr_ce ca ad σ)) H → va_S (fo_A 25 ad s.heap.size) s.heap H locs → lv_has ls 4 [(2, .int y57.1)] → W p l e R s m args below meth c H locs 0 0 Q (F0 m 88 ls []) := by
      intro H locs ls hP hS hl
      refine lv_iload_n hx hb dX6_count_88 rfl (lv_at hl 0 rfl) ?_
      have hr12 := Option.some.inj h0
      subst hr12
      exact kr _ ls _ _ dX6_count_89 hP hS
    have lp57 := fo_lp_ind (fun (s57 : Int32 × Int32) => ∀ (H : Heap) (locs : List Loc) (ls : Array Slot), va_P D vwCl (fo_vx 25 ad (fr_ce ca ad σ)) H → va_S (fo_A 25 ad s.heap.size) s.heap H locs → lv_has ls 4 [(0, .ref (ad (fr_lay 0 0))), (2, .int s57.1), (3, .int s57.2)] → W p l e R s m args below meth c H locs 0 0 Q (F0 m 57 ls [])) (by
        intro s57 o1 h1 hN1 hL1 hE1 H locs ls hP hS hl
        unfold r_count_L57 at h1
        refine lv_iload_n hx hb dX6_count_57 rfl (lv_at hl 2 rfl) ?_
        refine lv_aload_n hx hb dX6_count_58 rfl (lv_at hl 0 rfl) ?_
        refine fr_g6_88 hx hb hT hown hK hP (by decide) dX6_count_59 ?_
        refine lv_icmp_ge (tgt := 88) hx hb dX6_count_62 (by decide) (fun c8 => ?_) (fun c8 => ?_)
        · replace h1 := fo_itT c8 h1
          have hy9 := hE1 _ h1
          subst hy9
          exact ex57 _ _ ls hP hS (lv_sub hl [1] rfl)
        · replace h1 := fo_itF c8 h1
          refine lv_iload_n hx hb dX6_count_65 rfl (lv_at hl 1 rfl) ?_
          refine lv_aload_n hx hb dX6_count_66 rfl (lv_at hl 0 rfl) ?_
          refine fr_g6_26 hx hb hT hown hK hP (by decide) dX6_count_67 ?_
          refine lv_iload_n hx hb dX6_count_70 rfl (lv_at hl 2 rfl) ?_
          obtain ⟨g10, h1⟩ := fo_gd h1 hN1
          refine fr_zald (k := 6) (n := 16) hx hb hK hP (by decide) (by decide) (fun _ _ => rfl) g10 dX6_count_71 ?_
          refine lv_if_eq (tgt := 79) hx hb dX6_count_72 (by decide) (fun c11 => ?_) (fun c11 => ?_)
          · replace h1 := fo_itT c11 h1
            refine lv_iconst (v := 0) hx hb dX6_count_79 (by decide) ?_
            refine lv_iadd hx hb dX6_count_80 ?_
            refine lv_istore_n (lv' := [(2, .int (s57.1 + (0 : Int32))), (0, .ref (ad (fr_lay 0 0))), (3, .int s57.2)]) hx hb dX6_count_81 rfl hl (by decide) rfl (fun ls hl => ?_)
            refine lv_iinc (v := s57.2 + (1 : Int32)) (lv' := [(3, .int (s57.2 + (1 : Int32))), (2, .int (s57.1 + (0 : Int32))), (0, .ref (ad (fr_lay 0 0)))]) hx hb dX6_count_82 hl (k := 2) rfl rfl (by decide) rfl (fun ls hl => ?_)
            refine lv_goto (tgt := 57) hx hb dX6_count_85 (by decide) ?_
            exact hL1 _ h1 _ _ ls hP hS (lv_sub hl [2, 1, 0] rfl)
          · replace h1 := fo_itF c11 h1
            refine lv_iconst (v := 1) hx hb dX6_count_75 (by decide) ?_
            refine lv_goto (tgt := 80) hx hb dX6_count_76 (by decide) ?_
            refine lv_iadd hx hb dX6_count_80 ?_
            refine lv_istore_n (lv' := [(2, .int (s57.1 + (1 : Int32))), (0, .ref (ad (fr_lay 0 0))), (3, .int s57.2)]) hx hb dX6_count_81 rfl hl (by decide) rfl (fun ls hl => ?_)
            refine lv_iinc (v := s57.2 + (1 : Int32)) (lv' := [(3, .int (s57.2 + (1 : Int32))), (2, .int (s57.1 + (1 : Int32))), (0, .ref (ad (fr_lay 0 0)))]) hx hb dX6_count_82 hl (k := 2) rfl rfl (by decide) rfl (fun ls hl => ?_)
            refine lv_goto (tgt := 57) hx hb dX6_count_85 (by decide) ?_
            exact hL1 _ h1 _ _ ls hP hS (lv_sub hl [2, 1, 0] rfl)) _ _ hy57
    exact lp57 _ _ ls hP hS (lv_sub hl [2, 1, 0] rfl)
  replace h0 := fo_itF c7 h0
  by_cases c13 : a1 = (4 : Int32)
  · replace h0 := fo_itT c13 h0
    refine lv_tableIn (tgt := 90) hx hb dX6_count_3 (by rw [c13]; decide) (by rw [c13]; decide) (by rw [c13]; rfl) (by decide) ?_
    refine lv_aload_n hx hb dX6_count_90 rfl (lv_at hl 1 rfl) ?_
    refine fr_g6_115 hx hb hT hown hK hP (by decide) dX6_count_91 ?_
    have hr14 := Option.some.inj h0
    subst hr14
    exact kr _ ls _ _ dX6_count_94 hP hS
  replace h0 := fo_itF c13 h0
  by_cases c15 : a1 = (5 : Int32)
  · replace h0 := fo_itT c15 h0
    refine lv_tableIn (tgt := 95) hx hb dX6_count_3 (by rw [c15]; decide) (by rw [c15]; decide) (by rw [c15]; rfl) (by decide) ?_
    refine lv_aload_n hx hb dX6_count_95 rfl (lv_at hl 1 rfl) ?_
    refine fr_g6_42 hx hb hT hown hK hP (by decide) dX6_count_96 ?_
    refine lv_if_ge (tgt := 106) hx hb dX6_count_99 (by decide) (fun c16 => ?_) (fun c16 => ?_)
    · replace h0 := fo_itT c16 h0
      refine lv_aload_n hx hb dX6_count_106 rfl (lv_at hl 1 rfl) ?_
      refine fr_g6_42 hx hb hT hown hK hP (by decide) dX6_count_107 ?_
      have hr17 := Option.some.inj h0
      subst hr17
      exact kr _ ls _ _ dX6_count_110 hP hS
    · replace h0 := fo_itF c16 h0
      refine lv_iconst (v := 0) hx hb dX6_count_102 (by decide) ?_
      refine lv_goto (tgt := 110) hx hb dX6_count_103 (by decide) ?_
      have hr18 := Option.some.inj h0
      subst hr18
      exact kr _ ls _ _ dX6_count_110 hP hS
  replace h0 := fo_itF c15 h0
  refine lv_tableOut (tgt := 111) hx hb dX6_count_3 (by have e0 := lv_neT c1 (k := (0 : Int32)) (a := 0) (by decide); have e1 := lv_neT c3 (k := (1 : Int32)) (a := 1) (by decide); have e2 := lv_neT c5 (k := (2 : Int32)) (a := 2) (by decide); have e3 := lv_neT c7 (k := (3 : Int32)) (a := 3) (by decide); have e4 := lv_neT c13 (k := (4 : Int32)) (a := 4) (by decide); have e5 := lv_neT c15 (k := (5 : Int32)) (a := 5) (by decide); omega) (by decide) ?_
  refine lv_bipush (v := -2) hx hb dX6_count_111 (by decide) ?_
  have hr19 := Option.some.inj h0
  subst hr19
  exact kr _ ls _ _ dX6_count_113 hP hS
theorem c_r_count (l : Launch) (D : va_G) (ca : Nat → ClassId) (ad : Nat → Nat) (sz : Nat) {σ : fo_S} {a1 : Int32}  {res : Int32} (h0 : r_count σ a1 = some res) : Met l yX6_count ws_r_count rm_r_count (fo_Pre 25 D vwCl (fr_tys ca) ad (fr_ce ca ad σ) sz [.ref (ad (fr_lay 0 0)), .int a1]) (fo_PoI 25 D vwCl (fr_tys ca) ad (fr_ce ca ad σ) sz res) 0 0 (fo_A 25 ad sz) :=
  fr_mkI (by decide) (fun C0 kr hP => b_r_count C0 (Nat.le_refl _) (Nat.le_refl _) (Nat.zero_le _)  h0 kr hP)
