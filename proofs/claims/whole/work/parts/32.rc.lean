def r_isAhead_J73 (s5 : Int32 × Int32) (j41 : Int32) (j73 : Int32) : Option ((Int32 × Int32) ⊕ (Int32 × Int32)) :=
  if j73 ≤ j41 then (if j41 ≤ j73 then (some (.inl (s5.1 + (0 : Int32), s5.2 + (1 : Int32)))) else (some (.inl (s5.1 + (-1 : Int32), s5.2 + (1 : Int32))))) else (some (.inl (s5.1 + (1 : Int32), s5.2 + (1 : Int32))))
def r_isAhead_J41 (σ : fo_S) (a2 : Int32) (s5 : Int32 × Int32) (j41 : Int32) : Option ((Int32 × Int32) ⊕ (Int32 × Int32)) :=
  if fo_vi (((5 : Int32) * a2) + s5.2) 80 then (if 0 ≤ (σ.1 10 0 (((5 : Int32) * a2) + s5.2).toNatClampNeg) then (if fo_vi (((5 : Int32) * a2) + s5.2) 80 then (r_isAhead_J73 s5 j41 (σ.1 10 0 (((5 : Int32) * a2) + s5.2).toNatClampNeg)) else none) else (r_isAhead_J73 s5 j41 (1000001 : Int32))) else none
def r_isAhead_L5 (σ : fo_S) (a1 : Int32) (a2 : Int32) (s5 : Int32 × Int32) : Option ((Int32 × Int32) ⊕ (Int32 × Int32)) :=
  if (5 : Int32) ≤ s5.2 then (some (.inr (s5.1, s5.2))) else (if fo_vi (((5 : Int32) * a1) + s5.2) 80 then (if 0 ≤ (σ.1 10 0 (((5 : Int32) * a1) + s5.2).toNatClampNeg) then (if fo_vi (((5 : Int32) * a1) + s5.2) 80 then (r_isAhead_J41 σ a2 s5 (σ.1 10 0 (((5 : Int32) * a1) + s5.2).toNatClampNeg)) else none) else (r_isAhead_J41 σ a2 s5 (1000001 : Int32))) else none)
def r_isAhead (σ : fo_S) (a1 : Int32) (a2 : Int32) : Option (Int32) :=
  (fo_lp (r_isAhead_L5 σ a1 a2) fo_FU ((0 : Int32), (0 : Int32))).bind (fun y5 => if y5.1 ≤ 0 then (some (0 : Int32)) else (some (1 : Int32)))
set_option maxHeartbeats 4000000 in
set_option maxRecDepth 100000 in
theorem b_r_isAhead {p : Program} {l : Launch} {e : Env} {R : Room} {s : State} {m : MethodId} {args : Array Value} {below : List Frame} {meth : Method} {c : Code} {Q : State → Prop} {D : va_G} {ca : Nat → ClassId} {ad : Nat → Nat} (C0 : fr_CX p s m args c cX6_isAhead 7 RX6 D ca ad) (hRf : 0 ≤ R.frames) (hRl : 0 ≤ R.locals) (hRc : 0 ≤ R.cells) {σ : fo_S} {a1 : Int32} {a2 : Int32}  {res : Int32} (h0 : r_isAhead σ a1 a2 = some res) (kr : ∀ (pc : Nat) (ls : Array Slot) (H : Heap) (locs : List Loc), narrow .boolean (.int res) = .int res → decode cX6_isAhead pc = .ok (.ireturn, 1) → va_P D vwCl (fo_vx 25 ad (fr_ce ca ad σ)) H → va_S (fo_A 25 ad s.heap.size) s.heap H locs → W p l e R s m args below meth c H locs 0 0 Q (F0 m pc ls [.int res])) (hP : va_P D vwCl (fo_vx 25 ad (fr_ce ca ad σ)) s.heap) : W p l e R s m args below meth c s.heap [] 0 0 Q (entryFrame m ([.ref (ad (fr_lay 0 0)), .int a1, .int a2] : List Value).toArray 7) := by
  obtain ⟨hx, hb, hml, hown, hT, hK, hD⟩ := C0
  have hN0 : (some res) ≠ none := fun q => by cases q
  unfold r_isAhead at h0
  have hS : va_S (fo_A 25 ad s.heap.size) s.heap s.heap [] := va_S.rf
  have hl := lv_entry ([.ref (ad (fr_lay 0 0)), .int a1, .int a2]) (n := 7) (Nat.le_of_ble_eq_true rfl)
  rw [lg_entry_eq]
  generalize (lg_sl ([.ref (ad (fr_lay 0 0)), .int a1, .int a2]) ++ List.replicate (7 - (lg_sl ([.ref (ad (fr_lay 0 0)), .int a1, .int a2])).length) Slot.unset).toArray = ls at hl ⊢
  have hl : lv_has ls 7 [(0, .ref (ad (fr_lay 0 0))), (1, .int a1), (2, .int a2)] := hl
  refine lv_iconst (v := 0) hx hb dX6_isAhead_0 (by decide) ?_
  refine lv_istore_n (lv' := [(3, .int (0 : Int32)), (0, .ref (ad (fr_lay 0 0))), (1, .int a1), (2, .int a2)]) hx hb dX6_isAhead_1 rfl hl (by decide) rfl (fun ls hl => ?_)
  refine lv_iconst (v := 0) hx hb dX6_isAhead_2 (by decide) ?_
  refine lv_istore (lv' := [(4, .int (0 : Int32)), (3, .int (0 : Int32)), (0, .ref (ad (fr_lay 0 0))), (1, .int a1), (2, .int a2)]) hx hb dX6_isAhead_3 hl (by decide) rfl (fun ls hl => ?_)
  obtain ⟨y5, hy5, h0⟩ := fo_bd h0 hN0
  have ex5 : ∀ (H : Heap) (locs : List Loc) (ls : Array Slot), va_P D vwCl (fo_vx 25 ad (fr_ce ca ad σ)) H → va_S (fo_A 25 ad s.heap.size) s.heap H locs → lv_has ls 7 [(3, .int y5.1)] → W p l e R s m args below meth c H locs 0 0 Q (F0 m 107 ls []) := by
    intro H locs ls hP hS hl
    refine lv_iload_n hx hb dX6_isAhead_107 rfl (lv_at hl 0 rfl) ?_
    refine lv_if_le (tgt := 115) hx hb dX6_isAhead_108 (by decide) (fun c11 => ?_) (fun c11 => ?_)
    · replace h0 := fo_itT c11 h0
      refine lv_iconst (v := 0) hx hb dX6_isAhead_115 (by decide) ?_
      have hr12 := Option.some.inj h0
      subst hr12
      exact kr _ ls _ _ (fo_zn (Or.inl rfl)) dX6_isAhead_116 hP hS
    · replace h0 := fo_itF c11 h0
      refine lv_iconst (v := 1) hx hb dX6_isAhead_111 (by decide) ?_
      refine lv_goto (tgt := 116) hx hb dX6_isAhead_112 (by decide) ?_
      have hr13 := Option.some.inj h0
      subst hr13
      exact kr _ ls _ _ (fo_zn (Or.inr rfl)) dX6_isAhead_116 hP hS
  have lp5 := fo_lp_ind (fun (s5 : Int32 × Int32) => ∀ (H : Heap) (locs : List Loc) (ls : Array Slot), va_P D vwCl (fo_vx 25 ad (fr_ce ca ad σ)) H → va_S (fo_A 25 ad s.heap.size) s.heap H locs → lv_has ls 7 [(0, .ref (ad (fr_lay 0 0))), (1, .int a1), (2, .int a2), (3, .int s5.1), (4, .int s5.2)] → W p l e R s m args below meth c H locs 0 0 Q (F0 m 5 ls [])) (by
      intro s5 o1 h1 hN1 hL1 hE1 H locs ls hP hS hl
      unfold r_isAhead_L5 at h1
      refine lv_iload hx hb dX6_isAhead_5 (lv_at hl 4 rfl) ?_
      refine lv_iconst (v := 5) hx hb dX6_isAhead_7 (by decide) ?_
      refine lv_icmp_ge (tgt := 107) hx hb dX6_isAhead_8 (by decide) (fun c1 => ?_) (fun c1 => ?_)
      · replace h1 := fo_itT c1 h1
        have hy2 := hE1 _ h1
        subst hy2
        exact ex5 _ _ ls hP hS (lv_sub hl [3] rfl)
      · replace h1 := fo_itF c1 h1
        refine lv_aload_n hx hb dX6_isAhead_11 rfl (lv_at hl 0 rfl) ?_
        refine fr_g6_39 hx hb hT hown hK hP (by decide) dX6_isAhead_12 ?_
        refine lv_iconst (v := 5) hx hb dX6_isAhead_15 (by decide) ?_
        refine lv_iload_n hx hb dX6_isAhead_16 rfl (lv_at hl 1 rfl) ?_
        refine lv_imul hx hb dX6_isAhead_17 ?_
        refine lv_iload hx hb dX6_isAhead_18 (lv_at hl 4 rfl) ?_
        refine lv_iadd hx hb dX6_isAhead_20 ?_
        obtain ⟨g3, h1⟩ := fo_gd h1 hN1
        refine fr_iald (k := 10) (n := 80) hx hb hK hP (by decide) (by decide) (fun _ _ => rfl) g3 dX6_isAhead_21 ?_
        have J41 : ∀ j41 : Int32, r_isAhead_J41 σ a2 s5 j41 = o1 → ∀ (H : Heap) (locs : List Loc) (ls : Array Slot), va_P D vwCl (fo_vx 25 ad (fr_ce ca ad σ)) H → va_S (fo_A 25 ad s.heap.size) s.heap H locs → lv_has ls 7 [(0, .ref (ad (fr_lay 0 0))), (1, .int a1), (2, .int a2), (3, .int s5.1), (4, .int s5.2)] → W p l e R s m args below meth c H locs 0 0 Q (F0 m 41 ls [.int j41]) := by
          intro j41 h1 H locs ls hP hS hl
          unfold r_isAhead_J41 at h1
          refine lv_istore (lv' := [(5, .int j41), (0, .ref (ad (fr_lay 0 0))), (1, .int a1), (2, .int a2), (3, .int s5.1), (4, .int s5.2)]) hx hb dX6_isAhead_41 hl (by decide) rfl (fun ls hl => ?_)
          refine lv_aload_n hx hb dX6_isAhead_43 rfl (lv_at hl 1 rfl) ?_
          refine fr_g6_39 hx hb hT hown hK hP (by decide) dX6_isAhead_44 ?_
          refine lv_iconst (v := 5) hx hb dX6_isAhead_47 (by decide) ?_
          refine lv_iload_n hx hb dX6_isAhead_48 rfl (lv_at hl 3 rfl) ?_
          refine lv_imul hx hb dX6_isAhead_49 ?_
          refine lv_iload hx hb dX6_isAhead_50 (lv_at hl 5 rfl) ?_
          refine lv_iadd hx hb dX6_isAhead_52 ?_
          obtain ⟨g4, h1⟩ := fo_gd h1 hN1
          refine fr_iald (k := 10) (n := 80) hx hb hK hP (by decide) (by decide) (fun _ _ => rfl) g4 dX6_isAhead_53 ?_
          have J73 : ∀ j73 : Int32, r_isAhead_J73 s5 j41 j73 = o1 → ∀ (H : Heap) (locs : List Loc) (ls : Array Slot), va_P D vwCl (fo_vx 25 ad (fr_ce ca ad σ)) H → va_S (fo_A 25 ad s.heap.size) s.heap H locs → lv_has ls 7 [(0, .ref (ad (fr_lay 0 0))), (1, .int a1), (2, .int a2), (3, .int s5.1), (4, .int s5.2), (5, .int j41)] → W p l e R s m args below meth c H locs 0 0 Q (F0 m 73 ls [.int j73]) := by
            intro j73 h1 H locs ls hP hS hl
            unfold r_isAhead_J73 at h1
            refine lv_istore (lv' := [(6, .int j73), (0, .ref (ad (fr_lay 0 0))), (1, .int a1), (2, .int a2), (3, .int s5.1), (4, .int s5.2), (5, .int j41)]) hx hb dX6_isAhead_73 hl (by decide) rfl (fun ls hl => ?_)
            refine lv_iload_n hx hb dX6_isAhead_75 rfl (lv_at hl 4 rfl) ?_
            refine lv_iload hx hb dX6_isAhead_76 (lv_at hl 6 rfl) ?_
            refine lv_iload hx hb dX6_isAhead_78 (lv_at hl 0 rfl) ?_
            refine lv_icmp_ge (tgt := 87) hx hb dX6_isAhead_80 (by decide) (fun c5 => ?_) (fun c5 => ?_)
            · replace h1 := fo_itT c5 h1
              refine lv_iload hx hb dX6_isAhead_87 (lv_at hl 0 rfl) ?_
              refine lv_iload hx hb dX6_isAhead_89 (lv_at hl 6 rfl) ?_
              refine lv_icmp_ge (tgt := 98) hx hb dX6_isAhead_91 (by decide) (fun c6 => ?_) (fun c6 => ?_)
              · replace h1 := fo_itT c6 h1
                refine lv_iconst (v := 0) hx hb dX6_isAhead_98 (by decide) ?_
                refine lv_iadd hx hb dX6_isAhead_99 ?_
                refine lv_istore_n (lv' := [(3, .int (s5.1 + (0 : Int32))), (6, .int j73), (0, .ref (ad (fr_lay 0 0))), (1, .int a1), (2, .int a2), (4, .int s5.2), (5, .int j41)]) hx hb dX6_isAhead_100 rfl hl (by decide) rfl (fun ls hl => ?_)
                refine lv_iinc (v := s5.2 + (1 : Int32)) (lv' := [(4, .int (s5.2 + (1 : Int32))), (3, .int (s5.1 + (0 : Int32))), (6, .int j73), (0, .ref (ad (fr_lay 0 0))), (1, .int a1), (2, .int a2), (5, .int j41)]) hx hb dX6_isAhead_101 hl (k := 5) rfl rfl (by decide) rfl (fun ls hl => ?_)
                refine lv_goto (tgt := 5) hx hb dX6_isAhead_104 (by decide) ?_
                exact hL1 _ h1 _ _ ls hP hS (lv_sub hl [3, 4, 5, 1, 0] rfl)
              · replace h1 := fo_itF c6 h1
                refine lv_iconst (v := -1) hx hb dX6_isAhead_94 (by decide) ?_
                refine lv_goto (tgt := 99) hx hb dX6_isAhead_95 (by decide) ?_
                refine lv_iadd hx hb dX6_isAhead_99 ?_
                refine lv_istore_n (lv' := [(3, .int (s5.1 + (-1 : Int32))), (6, .int j73), (0, .ref (ad (fr_lay 0 0))), (1, .int a1), (2, .int a2), (4, .int s5.2), (5, .int j41)]) hx hb dX6_isAhead_100 rfl hl (by decide) rfl (fun ls hl => ?_)
                refine lv_iinc (v := s5.2 + (1 : Int32)) (lv' := [(4, .int (s5.2 + (1 : Int32))), (3, .int (s5.1 + (-1 : Int32))), (6, .int j73), (0, .ref (ad (fr_lay 0 0))), (1, .int a1), (2, .int a2), (5, .int j41)]) hx hb dX6_isAhead_101 hl (k := 5) rfl rfl (by decide) rfl (fun ls hl => ?_)
                refine lv_goto (tgt := 5) hx hb dX6_isAhead_104 (by decide) ?_
                exact hL1 _ h1 _ _ ls hP hS (lv_sub hl [3, 4, 5, 1, 0] rfl)
            · replace h1 := fo_itF c5 h1
              refine lv_iconst (v := 1) hx hb dX6_isAhead_83 (by decide) ?_
              refine lv_goto (tgt := 99) hx hb dX6_isAhead_84 (by decide) ?_
              refine lv_iadd hx hb dX6_isAhead_99 ?_
              refine lv_istore_n (lv' := [(3, .int (s5.1 + (1 : Int32))), (6, .int j73), (0, .ref (ad (fr_lay 0 0))), (1, .int a1), (2, .int a2), (4, .int s5.2), (5, .int j41)]) hx hb dX6_isAhead_100 rfl hl (by decide) rfl (fun ls hl => ?_)
              refine lv_iinc (v := s5.2 + (1 : Int32)) (lv' := [(4, .int (s5.2 + (1 : Int32))), (3, .int (s5.1 + (1 : Int32))), (6, .int j73), (0, .ref (ad (fr_lay 0 0))), (1, .int a1), (2, .int a2), (5, .int j41)]) hx hb dX6_isAhead_101 hl (k := 5) rfl rfl (by decide) rfl (fun ls hl => ?_)
              refine lv_goto (tgt := 5) hx hb dX6_isAhead_104 (by decide) ?_
              exact hL1 _ h1 _ _ ls hP hS (lv_sub hl [3, 4, 5, 1, 0] rfl)
          refine lv_if_ge (tgt := 62) hx hb dX6_isAhead_54 (by decide) (fun c7 => ?_) (fun c7 => ?_)
          · replace h1 := fo_itT c7 h1
            refine lv_aload_n hx hb dX6_isAhead_62 rfl (lv_at hl 1 rfl) ?_
            refine fr_g6_39 hx hb hT hown hK hP (by decide) dX6_isAhead_63 ?_
            refine lv_iconst (v := 5) hx hb dX6_isAhead_66 (by decide) ?_
            refine lv_iload_n hx hb dX6_isAhead_67 rfl (lv_at hl 3 rfl) ?_
            refine lv_imul hx hb dX6_isAhead_68 ?_
            refine lv_iload hx hb dX6_isAhead_69 (lv_at hl 5 rfl) ?_
            refine lv_iadd hx hb dX6_isAhead_71 ?_
            obtain ⟨g8, h1⟩ := fo_gd h1 hN1
            refine fr_iald (k := 10) (n := 80) hx hb hK hP (by decide) (by decide) (fun _ _ => rfl) g8 dX6_isAhead_72 ?_
            exact J73 _ h1 _ _ ls hP hS (lv_sub hl [1, 2, 3, 4, 5, 0] rfl)
          · replace h1 := fo_itF c7 h1
            refine lv_ldc (v := 1000001) hx hb hown (fr_k6_149 hT) dX6_isAhead_57 ?_
            refine lv_goto (tgt := 73) hx hb dX6_isAhead_59 (by decide) ?_
            exact J73 _ h1 _ _ ls hP hS (lv_sub hl [1, 2, 3, 4, 5, 0] rfl)
        refine lv_if_ge (tgt := 30) hx hb dX6_isAhead_22 (by decide) (fun c9 => ?_) (fun c9 => ?_)
        · replace h1 := fo_itT c9 h1
          refine lv_aload_n hx hb dX6_isAhead_30 rfl (lv_at hl 0 rfl) ?_
          refine fr_g6_39 hx hb hT hown hK hP (by decide) dX6_isAhead_31 ?_
          refine lv_iconst (v := 5) hx hb dX6_isAhead_34 (by decide) ?_
          refine lv_iload_n hx hb dX6_isAhead_35 rfl (lv_at hl 1 rfl) ?_
          refine lv_imul hx hb dX6_isAhead_36 ?_
          refine lv_iload hx hb dX6_isAhead_37 (lv_at hl 4 rfl) ?_
          refine lv_iadd hx hb dX6_isAhead_39 ?_
          obtain ⟨g10, h1⟩ := fo_gd h1 hN1
          refine fr_iald (k := 10) (n := 80) hx hb hK hP (by decide) (by decide) (fun _ _ => rfl) g10 dX6_isAhead_40 ?_
          exact J41 _ h1 _ _ ls hP hS (lv_sub hl [0, 1, 2, 3, 4] rfl)
        · replace h1 := fo_itF c9 h1
          refine lv_ldc (v := 1000001) hx hb hown (fr_k6_149 hT) dX6_isAhead_25 ?_
          refine lv_goto (tgt := 41) hx hb dX6_isAhead_27 (by decide) ?_
          exact J41 _ h1 _ _ ls hP hS (lv_sub hl [0, 1, 2, 3, 4] rfl)) _ _ hy5
  exact lp5 _ _ ls hP hS (lv_sub hl [2, 3, 4, 1, 0] rfl)
theorem c_r_isAhead (l : Launch) (D : va_G) (ca : Nat → ClassId) (ad : Nat → Nat) (sz : Nat) {σ : fo_S} {a1 : Int32} {a2 : Int32}  {res : Int32} (h0 : r_isAhead σ a1 a2 = some res) : Met l yX6_isAhead ws_r_isAhead rm_r_isAhead (fo_Pre 25 D vwCl (fr_tys ca) ad (fr_ce ca ad σ) sz [.ref (ad (fr_lay 0 0)), .int a1, .int a2]) (fo_PoI 25 D vwCl (fr_tys ca) ad (fr_ce ca ad σ) sz res) 0 0 (fo_A 25 ad sz) :=
  fr_mkZ (by decide) (fun C0 kr hP => b_r_isAhead C0 (Nat.le_refl _) (Nat.le_refl _) (Nat.zero_le _)  h0 kr hP)
def r_leads_L2 (a1 : Int32) (s2 : Int32 × fo_S) : Option ((Int32 × fo_S) ⊕ (Int32 × fo_S)) :=
  if (s2.2.1 0 0 8) ≤ s2.1 then (some (.inr (s2.1, s2.2))) else (if fo_vi s2.1 16 then (if (s2.2.1 6 0 s2.1.toNatClampNeg) = 0 then (if fo_vi s2.1 16 then (some (.inl (s2.1 + (1 : Int32), fo_pI s2.2 19 0 s2.1.toNatClampNeg (vp_nar .boolean (0 : Int32))))) else none) else ((r_isAhead s2.2 a1 s2.1).bind (fun x6 => if x6 = 0 then (if fo_vi s2.1 16 then (some (.inl (s2.1 + (1 : Int32), fo_pI s2.2 19 0 s2.1.toNatClampNeg (vp_nar .boolean (0 : Int32))))) else none) else (if fo_vi s2.1 16 then (some (.inl (s2.1 + (1 : Int32), fo_pI s2.2 19 0 s2.1.toNatClampNeg (vp_nar .boolean (1 : Int32))))) else none)))) else none)
def r_leads_L68 (s56 : Int32 × Int32 × fo_S) (s68 : Int32 × Int32 × fo_S) : Option ((Int32 × Int32 × fo_S) ⊕ (Int32 × Int32 × fo_S)) :=
  if (s68.2.2.1 0 0 8) ≤ s68.2.1 then (some (.inr (s68.1, s68.2.1, s68.2.2))) else (if fo_vi s56.2.1 16 then (if (s68.2.2.1 19 0 s56.2.1.toNatClampNeg) = 0 then (some (.inr (s68.1, s68.2.1, s68.2.2))) else (if fo_vi s68.2.1 16 then (if (s68.2.2.1 6 0 s68.2.1.toNatClampNeg) = 0 then (some (.inl (s68.1, s68.2.1 + (1 : Int32), s68.2.2))) else (if fo_vi s68.2.1 16 then (if (s68.2.2.1 19 0 s68.2.1.toNatClampNeg) = 0 then ((r_isAhead s68.2.2 s56.2.1 s68.2.1).bind (fun x23 => if x23 = 0 then (some (.inl (s68.1, s68.2.1 + (1 : Int32), s68.2.2))) else (if fo_vi s68.2.1 16 then (some (.inl ((1 : Int32), s68.2.1 + (1 : Int32), fo_pI s68.2.2 19 0 s68.2.1.toNatClampNeg (vp_nar .boolean (1 : Int32))))) else none))) else (some (.inl (s68.1, s68.2.1 + (1 : Int32), s68.2.2)))) else none)) else none)) else none)
def r_leads_L56  (s56 : Int32 × Int32 × fo_S) : Option ((Int32 × Int32 × fo_S) ⊕ (Int32 × Int32 × fo_S)) :=
  if (s56.2.2.1 0 0 8) ≤ s56.2.1 then (some (.inr (s56.1, s56.2.1, s56.2.2))) else ((fo_lp (r_leads_L68 s56) fo_FU (s56.1, (0 : Int32), s56.2.2)).bind (fun y68 => some (.inl (y68.1, s56.2.1 + (1 : Int32), y68.2.2))))
def r_leads_L47  (s47 : Int32 × fo_S) : Option ((Int32 × fo_S) ⊕ (Int32 × fo_S)) :=
  if s47.1 = 0 then (some (.inr (s47.1, s47.2))) else ((fo_lp (r_leads_L56) fo_FU ((0 : Int32), (0 : Int32), s47.2)).bind (fun y56 => some (.inl (y56.1, y56.2.2))))
def r_leads (σ : fo_S) (a1 : Int32) (a2 : Int32) : Option (Int32 × fo_S) :=
  (fo_lp (r_leads_L2 a1) fo_FU ((0 : Int32), σ)).bind (fun y2 => (fo_lp (r_leads_L47) fo_FU ((1 : Int32), y2.2)).bind (fun y47 => if fo_vi a2 16 then ( if (y47.2.1 19 0 a2.toNatClampNeg) = 0 ∨ (y47.2.1 19 0 a2.toNatClampNeg) = 1 then (some (y47.2.1 19 0 a2.toNatClampNeg, y47.2)) else none) else none))
set_option maxHeartbeats 4000000 in
set_option maxRecDepth 100000 in
theorem b_r_leads {p : Program} {l : Launch} {e : Env} {R : Room} {s : State} {m : MethodId} {args : Array Value} {below : List Frame} {meth : Method} {c : Code} {Q : State → Prop} {D : va_G} {ca : Nat → ClassId} {ad : Nat → Nat} (C0 : fr_CX p s m args c cX6_leads 6 RX6 D ca ad) (hRf : 1 ≤ R.frames) (hRl : 26 ≤ R.locals) (hRc : 0 ≤ R.cells) {σ : fo_S} {a1 : Int32} {a2 : Int32}  {res : Int32 × fo_S} (h0 : r_leads σ a1 a2 = some res) (kr : ∀ (pc : Nat) (ls : Array Slot) (H : Heap) (locs : List Loc), narrow .boolean (.int res.1) = .int res.1 → decode cX6_leads pc = .ok (.ireturn, 1) → va_P D vwCl (fo_vx 25 ad (fr_ce ca ad res.2)) H → va_S (fo_A 25 ad s.heap.size) s.heap H locs → W p l e R s m args below meth c H locs 0 0 Q (F0 m pc ls [.int res.1])) (hP : va_P D vwCl (fo_vx 25 ad (fr_ce ca ad σ)) s.heap) : W p l e R s m args below meth c s.heap [] 0 0 Q (entryFrame m ([.ref (ad (fr_lay 0 0)), .int a1, .int a2] : List Value).toArray 6) := by
  obtain ⟨hx, hb, hml, hown, hT, hK, hD⟩ := C0
  have hN0 : (some res) ≠ none := fun q => by cases q
  unfold r_leads at h0
  have hS : va_S (fo_A 25 ad s.heap.size) s.heap s.heap [] := va_S.rf
  have hl := lv_entry ([.ref (ad (fr_lay 0 0)), .int a1, .int a2]) (n := 6) (Nat.le_of_ble_eq_true rfl)
  rw [lg_entry_eq]
  generalize (lg_sl ([.ref (ad (fr_lay 0 0)), .int a1, .int a2]) ++ List.replicate (6 - (lg_sl ([.ref (ad (fr_lay 0 0)), .int a1, .int a2])).length) Slot.unset).toArray = ls at hl ⊢
  have hl : lv_has ls 6 [(0, .ref (ad (fr_lay 0 0))), (1, .int a1), (2, .int a2)] := hl
  refine lv_iconst (v := 0) hx hb dX6_leads_0 (by decide) ?_
  refine lv_istore_n (lv' := [(3, .int (0 : Int32)), (0, .ref (ad (fr_lay 0 0))), (1, .int a1), (2, .int a2)]) hx hb dX6_leads_1 rfl hl (by decide) rfl (fun ls hl => ?_)
  obtain ⟨y2, hy2, h0⟩ := fo_bd h0 hN0
  have ex2 : ∀ (H : Heap) (locs : List Loc) (ls : Array Slot), va_P D vwCl (fo_vx 25 ad (fr_ce ca ad y2.2)) H → va_S (fo_A 25 ad s.heap.size) s.heap H locs → lv_has ls 6 [(0, .ref (ad (fr_lay 0 0))), (2, .int a2)] → W p l e R s m args below meth c H locs 0 0 Q (F0 m 45 ls []) := by
    intro H locs ls hP hS hl
    refine lv_iconst (v := 1) hx hb dX6_leads_45 (by decide) ?_
    refine lv_istore_n (lv' := [(3, .int (1 : Int32)), (0, .ref (ad (fr_lay 0 0))), (2, .int a2)]) hx hb dX6_leads_46 rfl hl (by decide) rfl (fun ls hl => ?_)
    obtain ⟨y47, hy47, h0⟩ := fo_bd h0 hN0
    have ex47 : ∀ (H : Heap) (locs : List Loc) (ls : Array Slot), va_P D vwCl (fo_vx 25 ad (fr_ce ca ad y47.2)) H → va_S (fo_A 25 ad s.heap.size) s.heap H locs → lv_has ls 6 [(0, .ref (ad (fr_lay 0 0))), (2, .int a2)] → W p l e R s m args below meth c H locs 0 0 Q (F0 m 143 ls []) := by
      intro H locs ls hP hS hl
      refine lv_aload_n hx hb dX6_leads_143 rfl (lv_at hl 0 rfl) ?_
      refine fr_g6_70 hx hb hT hown hK hP (by decide) dX6_leads_144 ?_
      refine lv_iload_n hx hb dX6_leads_147 rfl (lv_at hl 1 rfl) ?_
      obtain ⟨g26, h0⟩ := fo_gd h0 hN0
      refine fr_zald (k := 19) (n := 16) hx hb hK hP (by decide) (by decide) (fun _ _ => rfl) g26 dX6_leads_148 ?_
      obtain ⟨g27, h0⟩ := fo_gd h0 hN0
      have hr28 := Option.some.inj h0
      subst hr28
      exact kr _ ls _ _ (fo_zn g27) dX6_leads_149 hP hS
    have lp47 := fo_lp_ind (fun (s47 : Int32 × fo_S) => ∀ (H : Heap) (locs : List Loc) (ls : Array Slot), va_P D vwCl (fo_vx 25 ad (fr_ce ca ad s47.2)) H → va_S (fo_A 25 ad s.heap.size) s.heap H locs → lv_has ls 6 [(0, .ref (ad (fr_lay 0 0))), (2, .int a2), (3, .int s47.1)] → W p l e R s m args below meth c H locs 0 0 Q (F0 m 47 ls [])) (by
        intro s47 o1 h1 hN1 hL1 hE1 H locs ls hP hS hl
        unfold r_leads_L47 at h1
        refine lv_iload_n hx hb dX6_leads_47 rfl (lv_at hl 2 rfl) ?_
        refine lv_if_eq (tgt := 143) hx hb dX6_leads_48 (by decide) (fun c10 => ?_) (fun c10 => ?_)
        · replace h1 := fo_itT c10 h1
          have hy11 := hE1 _ h1
          subst hy11
          exact ex47 _ _ ls hP hS (lv_sub hl [0, 1] rfl)
        · replace h1 := fo_itF c10 h1
          refine lv_iconst (v := 0) hx hb dX6_leads_51 (by decide) ?_
          refine lv_istore_n (lv' := [(3, .int (0 : Int32)), (0, .ref (ad (fr_lay 0 0))), (2, .int a2)]) hx hb dX6_leads_52 rfl hl (by decide) rfl (fun ls hl => ?_)
          refine lv_iconst (v := 0) hx hb dX6_leads_53 (by decide) ?_
          refine lv_istore (lv' := [(4, .int (0 : Int32)), (3, .int (0 : Int32)), (0, .ref (ad (fr_lay 0 0))), (2, .int a2)]) hx hb dX6_leads_54 hl (by decide) rfl (fun ls hl => ?_)
          obtain ⟨y56, hy56, h1⟩ := fo_bd h1 hN1
          have ex56 : ∀ (H : Heap) (locs : List Loc) (ls : Array Slot), va_P D vwCl (fo_vx 25 ad (fr_ce ca ad y56.2.2)) H → va_S (fo_A 25 ad s.heap.size) s.heap H locs → lv_has ls 6 [(0, .ref (ad (fr_lay 0 0))), (2, .int a2), (3, .int y56.1)] → W p l e R s m args below meth c H locs 0 0 Q (F0 m 140 ls []) := by
            intro H locs ls hP hS hl
            refine lv_goto (tgt := 47) hx hb dX6_leads_140 (by decide) ?_
            exact hL1 _ h1 _ _ ls hP hS (lv_sub hl [0, 1, 2] rfl)
          have lp56 := fo_lp_ind (fun (s56 : Int32 × Int32 × fo_S) => ∀ (H : Heap) (locs : List Loc) (ls : Array Slot), va_P D vwCl (fo_vx 25 ad (fr_ce ca ad s56.2.2)) H → va_S (fo_A 25 ad s.heap.size) s.heap H locs → lv_has ls 6 [(0, .ref (ad (fr_lay 0 0))), (2, .int a2), (3, .int s56.1), (4, .int s56.2.1)] → W p l e R s m args below meth c H locs 0 0 Q (F0 m 56 ls [])) (by
              intro s56 o2 h2 hN2 hL2 hE2 H locs ls hP hS hl
              unfold r_leads_L56 at h2
              refine lv_iload hx hb dX6_leads_56 (lv_at hl 3 rfl) ?_
              refine lv_aload_n hx hb dX6_leads_58 rfl (lv_at hl 0 rfl) ?_
              refine fr_g6_88 hx hb hT hown hK hP (by decide) dX6_leads_59 ?_
              refine lv_icmp_ge (tgt := 140) hx hb dX6_leads_62 (by decide) (fun c12 => ?_) (fun c12 => ?_)
              · replace h2 := fo_itT c12 h2
                have hy13 := hE2 _ h2
                subst hy13
                exact ex56 _ _ ls hP hS (lv_sub hl [0, 1, 2] rfl)
              · replace h2 := fo_itF c12 h2
                refine lv_iconst (v := 0) hx hb dX6_leads_65 (by decide) ?_
                refine lv_istore (lv' := [(5, .int (0 : Int32)), (0, .ref (ad (fr_lay 0 0))), (2, .int a2), (3, .int s56.1), (4, .int s56.2.1)]) hx hb dX6_leads_66 hl (by decide) rfl (fun ls hl => ?_)
                obtain ⟨y68, hy68, h2⟩ := fo_bd h2 hN2
                have ex68 : ∀ (H : Heap) (locs : List Loc) (ls : Array Slot), va_P D vwCl (fo_vx 25 ad (fr_ce ca ad y68.2.2)) H → va_S (fo_A 25 ad s.heap.size) s.heap H locs → lv_has ls 6 [(0, .ref (ad (fr_lay 0 0))), (2, .int a2), (3, .int y68.1), (4, .int s56.2.1)] → W p l e R s m args below meth c H locs 0 0 Q (F0 m 134 ls []) := by
                  intro H locs ls hP hS hl
                  refine lv_iinc (v := s56.2.1 + (1 : Int32)) (lv' := [(4, .int (s56.2.1 + (1 : Int32))), (0, .ref (ad (fr_lay 0 0))), (2, .int a2), (3, .int y68.1)]) hx hb dX6_leads_134 hl (k := 3) rfl rfl (by decide) rfl (fun ls hl => ?_)
                  refine lv_goto (tgt := 56) hx hb dX6_leads_137 (by decide) ?_
                  exact hL2 _ h2 _ _ ls hP hS (lv_sub hl [1, 2, 3, 0] rfl)
                have lp68 := fo_lp_ind (fun (s68 : Int32 × Int32 × fo_S) => ∀ (H : Heap) (locs : List Loc) (ls : Array Slot), va_P D vwCl (fo_vx 25 ad (fr_ce ca ad s68.2.2)) H → va_S (fo_A 25 ad s.heap.size) s.heap H locs → lv_has ls 6 [(0, .ref (ad (fr_lay 0 0))), (2, .int a2), (3, .int s68.1), (4, .int s56.2.1), (5, .int s68.2.1)] → W p l e R s m args below meth c H locs 0 0 Q (F0 m 68 ls [])) (by
                    intro s68 o3 h3 hN3 hL3 hE3 H locs ls hP hS hl
                    unfold r_leads_L68 at h3
                    refine lv_iload hx hb dX6_leads_68 (lv_at hl 4 rfl) ?_
                    refine lv_aload_n hx hb dX6_leads_70 rfl (lv_at hl 0 rfl) ?_
                    refine fr_g6_88 hx hb hT hown hK hP (by decide) dX6_leads_71 ?_
                    refine lv_icmp_ge (tgt := 134) hx hb dX6_leads_74 (by decide) (fun c14 => ?_) (fun c14 => ?_)
                    · replace h3 := fo_itT c14 h3
                      have hy15 := hE3 _ h3
                      subst hy15
                      exact ex68 _ _ ls hP hS (lv_sub hl [0, 1, 2, 3] rfl)
                    · replace h3 := fo_itF c14 h3
                      refine lv_aload_n hx hb dX6_leads_77 rfl (lv_at hl 0 rfl) ?_
                      refine fr_g6_70 hx hb hT hown hK hP (by decide) dX6_leads_78 ?_
                      refine lv_iload hx hb dX6_leads_81 (lv_at hl 3 rfl) ?_
                      obtain ⟨g16, h3⟩ := fo_gd h3 hN3
                      refine fr_zald (k := 19) (n := 16) hx hb hK hP (by decide) (by decide) (fun _ _ => rfl) g16 dX6_leads_83 ?_
                      refine lv_if_eq (tgt := 134) hx hb dX6_leads_84 (by decide) (fun c17 => ?_) (fun c17 => ?_)
                      · replace h3 := fo_itT c17 h3
                        have hy18 := hE3 _ h3
                        subst hy18
                        exact ex68 _ _ ls hP hS (lv_sub hl [0, 1, 2, 3] rfl)
                      · replace h3 := fo_itF c17 h3
                        refine lv_aload_n hx hb dX6_leads_87 rfl (lv_at hl 0 rfl) ?_
                        refine fr_g6_26 hx hb hT hown hK hP (by decide) dX6_leads_88 ?_
                        refine lv_iload hx hb dX6_leads_91 (lv_at hl 4 rfl) ?_
                        obtain ⟨g19, h3⟩ := fo_gd h3 hN3
                        refine fr_zald (k := 6) (n := 16) hx hb hK hP (by decide) (by decide) (fun _ _ => rfl) g19 dX6_leads_93 ?_
                        refine lv_if_eq (tgt := 128) hx hb dX6_leads_94 (by decide) (fun c20 => ?_) (fun c20 => ?_)
                        · replace h3 := fo_itT c20 h3
                          refine lv_iinc (v := s68.2.1 + (1 : Int32)) (lv' := [(5, .int (s68.2.1 + (1 : Int32))), (0, .ref (ad (fr_lay 0 0))), (2, .int a2), (3, .int s68.1), (4, .int s56.2.1)]) hx hb dX6_leads_128 hl (k := 4) rfl rfl (by decide) rfl (fun ls hl => ?_)
                          refine lv_goto (tgt := 68) hx hb dX6_leads_131 (by decide) ?_
                          exact hL3 _ h3 _ _ ls hP hS (lv_sub hl [1, 2, 3, 4, 0] rfl)
                        · replace h3 := fo_itF c20 h3
                          refine lv_aload_n hx hb dX6_leads_97 rfl (lv_at hl 0 rfl) ?_
                          refine fr_g6_70 hx hb hT hown hK hP (by decide) dX6_leads_98 ?_
                          refine lv_iload hx hb dX6_leads_101 (lv_at hl 4 rfl) ?_
                          obtain ⟨g21, h3⟩ := fo_gd h3 hN3
                          refine fr_zald (k := 19) (n := 16) hx hb hK hP (by decide) (by decide) (fun _ _ => rfl) g21 dX6_leads_103 ?_
                          refine lv_if_ne (tgt := 128) hx hb dX6_leads_104 (by decide) (fun c22 => ?_) (fun c22 => ?_)
                          · replace h3 := fo_itF c22 h3
                            refine lv_iinc (v := s68.2.1 + (1 : Int32)) (lv' := [(5, .int (s68.2.1 + (1 : Int32))), (0, .ref (ad (fr_lay 0 0))), (2, .int a2), (3, .int s68.1), (4, .int s56.2.1)]) hx hb dX6_leads_128 hl (k := 4) rfl rfl (by decide) rfl (fun ls hl => ?_)
                            refine lv_goto (tgt := 68) hx hb dX6_leads_131 (by decide) ?_
                            exact hL3 _ h3 _ _ ls hP hS (lv_sub hl [1, 2, 3, 4, 0] rfl)
                          · replace h3 := fo_itT c22 h3
                            refine lv_aload_n hx hb dX6_leads_107 rfl (lv_at hl 0 rfl) ?_
                            refine lv_iload hx hb dX6_leads_108 (lv_at hl 3 rfl) ?_
                            refine lv_iload hx hb dX6_leads_110 (lv_at hl 4 rfl) ?_
                            obtain ⟨x23, hx23, h3⟩ := fo_bd h3 hN3
                            refine fo_calli (va_runV (H := _) (As := [.int s56.2.1, .int s68.2.1]) (rest := []) ⟨hx, hb, hml, hown, hT⟩ (c_r_isAhead l D ca ad _ hx23) (fr_c6_150 hT ⟨Nat.le_trans (Nat.le_of_ble_eq_true rfl) hRf, Nat.le_trans (Nat.le_of_ble_eq_true rfl) hRl⟩) ⟨fo_Pre_blind, fr_rc0 hK hP (by decide), fo_Pre_at hP hK (hD _)⟩ rfl rfl hl.1 rfl (lv_room (Nat.le_of_ble_eq_true rfl)) dX6_leads_112 ⟨Nat.zero_le _, Nat.zero_le _⟩) hS (fun H locs hP hS => ?_)
                            refine lv_if_eq (tgt := 128) hx hb dX6_leads_115 (by decide) (fun c24 => ?_) (fun c24 => ?_)
                            · replace h3 := fo_itT c24 h3
                              refine lv_iinc (v := s68.2.1 + (1 : Int32)) (lv' := [(5, .int (s68.2.1 + (1 : Int32))), (0, .ref (ad (fr_lay 0 0))), (2, .int a2), (3, .int s68.1), (4, .int s56.2.1)]) hx hb dX6_leads_128 hl (k := 4) rfl rfl (by decide) rfl (fun ls hl => ?_)
                              refine lv_goto (tgt := 68) hx hb dX6_leads_131 (by decide) ?_
                              exact hL3 _ h3 _ _ ls hP hS (lv_sub hl [1, 2, 3, 4, 0] rfl)
                            · replace h3 := fo_itF c24 h3
                              refine lv_aload_n hx hb dX6_leads_118 rfl (lv_at hl 0 rfl) ?_
                              refine fr_g6_70 hx hb hT hown hK hP (by decide) dX6_leads_119 ?_
                              refine lv_iload hx hb dX6_leads_122 (lv_at hl 4 rfl) ?_
                              refine lv_iconst (v := 1) hx hb dX6_leads_124 (by decide) ?_
                              obtain ⟨g25, h3⟩ := fo_gd h3 hN3
                              refine fr_zast (k := 19) (n := 16) hx hb hK hP hD hS (by decide) (by decide) (fun _ _ => rfl) g25 dX6_leads_125 (fun H locs hP hS => ?_)
                              refine lv_iconst (v := 1) hx hb dX6_leads_126 (by decide) ?_
                              refine lv_istore_n (lv' := [(3, .int (1 : Int32)), (0, .ref (ad (fr_lay 0 0))), (2, .int a2), (4, .int s56.2.1), (5, .int s68.2.1)]) hx hb dX6_leads_127 rfl hl (by decide) rfl (fun ls hl => ?_)
                              refine lv_iinc (v := s68.2.1 + (1 : Int32)) (lv' := [(5, .int (s68.2.1 + (1 : Int32))), (3, .int (1 : Int32)), (0, .ref (ad (fr_lay 0 0))), (2, .int a2), (4, .int s56.2.1)]) hx hb dX6_leads_128 hl (k := 4) rfl rfl (by decide) rfl (fun ls hl => ?_)
                              refine lv_goto (tgt := 68) hx hb dX6_leads_131 (by decide) ?_
                              exact hL3 _ h3 _ _ ls hP hS (lv_sub hl [2, 3, 1, 4, 0] rfl)) _ _ hy68
                exact lp68 _ _ ls hP hS (lv_sub hl [1, 2, 3, 4, 0] rfl)) _ _ hy56
          exact lp56 _ _ ls hP hS (lv_sub hl [2, 3, 1, 0] rfl)) _ _ hy47
    exact lp47 _ _ ls hP hS (lv_sub hl [1, 2, 0] rfl)
  have lp2 := fo_lp_ind (fun (s2 : Int32 × fo_S) => ∀ (H : Heap) (locs : List Loc) (ls : Array Slot), va_P D vwCl (fo_vx 25 ad (fr_ce ca ad s2.2)) H → va_S (fo_A 25 ad s.heap.size) s.heap H locs → lv_has ls 6 [(0, .ref (ad (fr_lay 0 0))), (1, .int a1), (2, .int a2), (3, .int s2.1)] → W p l e R s m args below meth c H locs 0 0 Q (F0 m 2 ls [])) (by
      intro s2 o1 h1 hN1 hL1 hE1 H locs ls hP hS hl
      unfold r_leads_L2 at h1
      refine lv_iload_n hx hb dX6_leads_2 rfl (lv_at hl 3 rfl) ?_
      refine lv_aload_n hx hb dX6_leads_3 rfl (lv_at hl 0 rfl) ?_
      refine fr_g6_88 hx hb hT hown hK hP (by decide) dX6_leads_4 ?_
      refine lv_icmp_ge (tgt := 45) hx hb dX6_leads_7 (by decide) (fun c1 => ?_) (fun c1 => ?_)
      · replace h1 := fo_itT c1 h1
        have hy2 := hE1 _ h1
        subst hy2
        exact ex2 _ _ ls hP hS (lv_sub hl [0, 2] rfl)
      · replace h1 := fo_itF c1 h1
        refine lv_aload_n hx hb dX6_leads_10 rfl (lv_at hl 0 rfl) ?_
        refine fr_g6_70 hx hb hT hown hK hP (by decide) dX6_leads_11 ?_
        refine lv_iload_n hx hb dX6_leads_14 rfl (lv_at hl 3 rfl) ?_
        refine lv_aload_n hx hb dX6_leads_15 rfl (lv_at hl 0 rfl) ?_
        refine fr_g6_26 hx hb hT hown hK hP (by decide) dX6_leads_16 ?_
        refine lv_iload_n hx hb dX6_leads_19 rfl (lv_at hl 3 rfl) ?_
        obtain ⟨g3, h1⟩ := fo_gd h1 hN1
        refine fr_zald (k := 6) (n := 16) hx hb hK hP (by decide) (by decide) (fun _ _ => rfl) g3 dX6_leads_20 ?_
        refine lv_if_eq (tgt := 37) hx hb dX6_leads_21 (by decide) (fun c4 => ?_) (fun c4 => ?_)
        · replace h1 := fo_itT c4 h1
          refine lv_iconst (v := 0) hx hb dX6_leads_37 (by decide) ?_
          obtain ⟨g5, h1⟩ := fo_gd h1 hN1
          refine fr_zast (k := 19) (n := 16) hx hb hK hP hD hS (by decide) (by decide) (fun _ _ => rfl) g5 dX6_leads_38 (fun H locs hP hS => ?_)
          refine lv_iinc (v := s2.1 + (1 : Int32)) (lv' := [(3, .int (s2.1 + (1 : Int32))), (0, .ref (ad (fr_lay 0 0))), (1, .int a1), (2, .int a2)]) hx hb dX6_leads_39 hl (k := 3) rfl rfl (by decide) rfl (fun ls hl => ?_)
          refine lv_goto (tgt := 2) hx hb dX6_leads_42 (by decide) ?_
          exact hL1 _ h1 _ _ ls hP hS (lv_sub hl [1, 2, 3, 0] rfl)
        · replace h1 := fo_itF c4 h1
          refine lv_aload_n hx hb dX6_leads_24 rfl (lv_at hl 0 rfl) ?_
          refine lv_iload_n hx hb dX6_leads_25 rfl (lv_at hl 1 rfl) ?_
          refine lv_iload_n hx hb dX6_leads_26 rfl (lv_at hl 3 rfl) ?_
          obtain ⟨x6, hx6, h1⟩ := fo_bd h1 hN1
          refine fo_calli (va_runV (H := _) (As := [.int a1, .int s2.1]) (rest := [.int s2.1, .ref (ad (fr_lay 19 0))]) ⟨hx, hb, hml, hown, hT⟩ (c_r_isAhead l D ca ad _ hx6) (fr_c6_150 hT ⟨Nat.le_trans (Nat.le_of_ble_eq_true rfl) hRf, Nat.le_trans (Nat.le_of_ble_eq_true rfl) hRl⟩) ⟨fo_Pre_blind, fr_rc0 hK hP (by decide), fo_Pre_at hP hK (hD _)⟩ rfl rfl hl.1 rfl (lv_room (Nat.le_of_ble_eq_true rfl)) dX6_leads_27 ⟨Nat.zero_le _, Nat.zero_le _⟩) hS (fun H locs hP hS => ?_)
          refine lv_if_eq (tgt := 37) hx hb dX6_leads_30 (by decide) (fun c7 => ?_) (fun c7 => ?_)
          · replace h1 := fo_itT c7 h1
            refine lv_iconst (v := 0) hx hb dX6_leads_37 (by decide) ?_
            obtain ⟨g8, h1⟩ := fo_gd h1 hN1
            refine fr_zast (k := 19) (n := 16) hx hb hK hP hD hS (by decide) (by decide) (fun _ _ => rfl) g8 dX6_leads_38 (fun H locs hP hS => ?_)
            refine lv_iinc (v := s2.1 + (1 : Int32)) (lv' := [(3, .int (s2.1 + (1 : Int32))), (0, .ref (ad (fr_lay 0 0))), (1, .int a1), (2, .int a2)]) hx hb dX6_leads_39 hl (k := 3) rfl rfl (by decide) rfl (fun ls hl => ?_)
            refine lv_goto (tgt := 2) hx hb dX6_leads_42 (by decide) ?_
            exact hL1 _ h1 _ _ ls hP hS (lv_sub hl [1, 2, 3, 0] rfl)
          · replace h1 := fo_itF c7 h1
            refine lv_iconst (v := 1) hx hb dX6_leads_33 (by decide) ?_
            refine lv_goto (tgt := 38) hx hb dX6_leads_34 (by decide) ?_
            obtain ⟨g9, h1⟩ := fo_gd h1 hN1
            refine fr_zast (k := 19) (n := 16) hx hb hK hP hD hS (by decide) (by decide) (fun _ _ => rfl) g9 dX6_leads_38 (fun H locs hP hS => ?_)
            refine lv_iinc (v := s2.1 + (1 : Int32)) (lv' := [(3, .int (s2.1 + (1 : Int32))), (0, .ref (ad (fr_lay 0 0))), (1, .int a1), (2, .int a2)]) hx hb dX6_leads_39 hl (k := 3) rfl rfl (by decide) rfl (fun ls hl => ?_)
            refine lv_goto (tgt := 2) hx hb dX6_leads_42 (by decide) ?_
            exact hL1 _ h1 _ _ ls hP hS (lv_sub hl [1, 2, 3, 0] rfl)) _ _ hy2
  exact lp2 _ _ ls hP hS (lv_sub hl [1, 2, 3, 0] rfl)
theorem c_r_leads (l : Launch) (D : va_G) (ca : Nat → ClassId) (ad : Nat → Nat) (sz : Nat) {σ : fo_S} {a1 : Int32} {a2 : Int32}  {res : Int32 × fo_S} (h0 : r_leads σ a1 a2 = some res) : Met l yX6_leads ws_r_leads rm_r_leads (fo_Pre 25 D vwCl (fr_tys ca) ad (fr_ce ca ad σ) sz [.ref (ad (fr_lay 0 0)), .int a1, .int a2]) (fo_PoI 25 D vwCl (fr_tys ca) ad (fr_ce ca ad res.2) sz res.1) 0 0 (fo_A 25 ad sz) :=
  fr_mkZ (by decide) (fun C0 kr hP => b_r_leads C0 (Nat.le_refl _) (Nat.le_refl _) (Nat.zero_le _)  h0 kr hP)
def r_tie_L2 (a1 : Int32) (s2 : Int32 × fo_S) : Option ((Int32 × fo_S) ⊕ (Int32 × fo_S)) :=
  if (s2.2.1 0 0 8) ≤ s2.1 then (some (.inr (s2.1, s2.2))) else (if fo_vi s2.1 16 then (if (s2.2.1 20 0 s2.1.toNatClampNeg) = 0 then (if fo_vi s2.1 16 then (some (.inl (s2.1 + (1 : Int32), fo_pI s2.2 21 0 s2.1.toNatClampNeg (vp_nar .boolean (0 : Int32))))) else none) else (if s2.1 = a1 then (if fo_vi s2.1 16 then (some (.inl (s2.1 + (1 : Int32), fo_pI s2.2 21 0 s2.1.toNatClampNeg (vp_nar .boolean (1 : Int32))))) else none) else ((r_leads s2.2 a1 s2.1).bind (fun x8 => if x8.1 = 0 then (if fo_vi s2.1 16 then (some (.inl (s2.1 + (1 : Int32), fo_pI x8.2 21 0 s2.1.toNatClampNeg (vp_nar .boolean (0 : Int32))))) else none) else ((r_leads x8.2 s2.1 a1).bind (fun x11 => if x11.1 = 0 then (if fo_vi s2.1 16 then (some (.inl (s2.1 + (1 : Int32), fo_pI x11.2 21 0 s2.1.toNatClampNeg (vp_nar .boolean (0 : Int32))))) else none) else (if fo_vi s2.1 16 then (some (.inl (s2.1 + (1 : Int32), fo_pI x11.2 21 0 s2.1.toNatClampNeg (vp_nar .boolean (1 : Int32))))) else none))))))) else none)
def r_tie (σ : fo_S) (a1 : Int32) : Option (fo_S) :=
  (fo_lp (r_tie_L2 a1) fo_FU ((0 : Int32), σ)).bind (fun y2 => some y2.2)
set_option maxHeartbeats 4000000 in
set_option maxRecDepth 100000 in
theorem b_r_tie {p : Program} {l : Launch} {e : Env} {R : Room} {s : State} {m : MethodId} {args : Array Value} {below : List Frame} {meth : Method} {c : Code} {Q : State → Prop} {D : va_G} {ca : Nat → ClassId} {ad : Nat → Nat} (C0 : fr_CX p s m args c cX6_tie 3 RX6 D ca ad) (hRf : 2 ≤ R.frames) (hRl : 51 ≤ R.locals) (hRc : 0 ≤ R.cells) {σ : fo_S} {a1 : Int32}  {res : fo_S} (h0 : r_tie σ a1 = some res) (kr : ∀ (pc : Nat) (ls : Array Slot) (H : Heap) (locs : List Loc), decode cX6_tie pc = .ok (.return_, 1) → va_P D vwCl (fo_vx 25 ad (fr_ce ca ad res)) H → va_S (fo_A 25 ad s.heap.size) s.heap H locs → W p l e R s m args below meth c H locs 0 0 Q (F0 m pc ls [])) (hP : va_P D vwCl (fo_vx 25 ad (fr_ce ca ad σ)) s.heap) : W p l e R s m args below meth c s.heap [] 0 0 Q (entryFrame m ([.ref (ad (fr_lay 0 0)), .int a1] : List Value).toArray 3) := by
  obtain ⟨hx, hb, hml, hown, hT, hK, hD⟩ := C0
  have hN0 : (some res) ≠ none := fun q => by cases q
  unfold r_tie at h0
  have hS : va_S (fo_A 25 ad s.heap.size) s.heap s.heap [] := va_S.rf
  have hl := lv_entry ([.ref (ad (fr_lay 0 0)), .int a1]) (n := 3) (Nat.le_of_ble_eq_true rfl)
  rw [lg_entry_eq]
  generalize (lg_sl ([.ref (ad (fr_lay 0 0)), .int a1]) ++ List.replicate (3 - (lg_sl ([.ref (ad (fr_lay 0 0)), .int a1])).length) Slot.unset).toArray = ls at hl ⊢
  have hl : lv_has ls 3 [(0, .ref (ad (fr_lay 0 0))), (1, .int a1)] := hl
  refine lv_iconst (v := 0) hx hb dX6_tie_0 (by decide) ?_
  refine lv_istore_n (lv' := [(2, .int (0 : Int32)), (0, .ref (ad (fr_lay 0 0))), (1, .int a1)]) hx hb dX6_tie_1 rfl hl (by decide) rfl (fun ls hl => ?_)
  obtain ⟨y2, hy2, h0⟩ := fo_bd h0 hN0
  have ex2 : ∀ (H : Heap) (locs : List Loc) (ls : Array Slot), va_P D vwCl (fo_vx 25 ad (fr_ce ca ad y2.2)) H → va_S (fo_A 25 ad s.heap.size) s.heap H locs → lv_has ls 3 [] → W p l e R s m args below meth c H locs 0 0 Q (F0 m 59 ls []) := by
    intro H locs ls hP hS hl
    have hr15 := Option.some.inj h0
    subst hr15
    exact kr _ ls _ _ dX6_tie_59 hP hS
  have lp2 := fo_lp_ind (fun (s2 : Int32 × fo_S) => ∀ (H : Heap) (locs : List Loc) (ls : Array Slot), va_P D vwCl (fo_vx 25 ad (fr_ce ca ad s2.2)) H → va_S (fo_A 25 ad s.heap.size) s.heap H locs → lv_has ls 3 [(0, .ref (ad (fr_lay 0 0))), (1, .int a1), (2, .int s2.1)] → W p l e R s m args below meth c H locs 0 0 Q (F0 m 2 ls [])) (by
      intro s2 o1 h1 hN1 hL1 hE1 H locs ls hP hS hl
      unfold r_tie_L2 at h1
      refine lv_iload_n hx hb dX6_tie_2 rfl (lv_at hl 2 rfl) ?_
      refine lv_aload_n hx hb dX6_tie_3 rfl (lv_at hl 0 rfl) ?_
      refine fr_g6_88 hx hb hT hown hK hP (by decide) dX6_tie_4 ?_
      refine lv_icmp_ge (tgt := 59) hx hb dX6_tie_7 (by decide) (fun c1 => ?_) (fun c1 => ?_)
      · replace h1 := fo_itT c1 h1
        have hy2 := hE1 _ h1
        subst hy2
        exact ex2 _ _ ls hP hS (lv_sub hl [] rfl)
      · replace h1 := fo_itF c1 h1
        refine lv_aload_n hx hb dX6_tie_10 rfl (lv_at hl 0 rfl) ?_
        refine fr_g6_76 hx hb hT hown hK hP (by decide) dX6_tie_11 ?_
        refine lv_iload_n hx hb dX6_tie_14 rfl (lv_at hl 2 rfl) ?_
        refine lv_aload_n hx hb dX6_tie_15 rfl (lv_at hl 0 rfl) ?_
        refine fr_g6_73 hx hb hT hown hK hP (by decide) dX6_tie_16 ?_
        refine lv_iload_n hx hb dX6_tie_19 rfl (lv_at hl 2 rfl) ?_
        obtain ⟨g3, h1⟩ := fo_gd h1 hN1
        refine fr_zald (k := 20) (n := 16) hx hb hK hP (by decide) (by decide) (fun _ _ => rfl) g3 dX6_tie_20 ?_
        refine lv_if_eq (tgt := 51) hx hb dX6_tie_21 (by decide) (fun c4 => ?_) (fun c4 => ?_)
        · replace h1 := fo_itT c4 h1
          refine lv_iconst (v := 0) hx hb dX6_tie_51 (by decide) ?_
          obtain ⟨g5, h1⟩ := fo_gd h1 hN1
          refine fr_zast (k := 21) (n := 16) hx hb hK hP hD hS (by decide) (by decide) (fun _ _ => rfl) g5 dX6_tie_52 (fun H locs hP hS => ?_)
          refine lv_iinc (v := s2.1 + (1 : Int32)) (lv' := [(2, .int (s2.1 + (1 : Int32))), (0, .ref (ad (fr_lay 0 0))), (1, .int a1)]) hx hb dX6_tie_53 hl (k := 2) rfl rfl (by decide) rfl (fun ls hl => ?_)
          refine lv_goto (tgt := 2) hx hb dX6_tie_56 (by decide) ?_
          exact hL1 _ h1 _ _ ls hP hS (lv_sub hl [1, 2, 0] rfl)
        · replace h1 := fo_itF c4 h1
          refine lv_iload_n hx hb dX6_tie_24 rfl (lv_at hl 2 rfl) ?_
          refine lv_iload_n hx hb dX6_tie_25 rfl (lv_at hl 1 rfl) ?_
          refine lv_icmp_eq (tgt := 47) hx hb dX6_tie_26 (by decide) (fun c6 => ?_) (fun c6 => ?_)
          · replace h1 := fo_itT c6 h1
            refine lv_iconst (v := 1) hx hb dX6_tie_47 (by decide) ?_
            refine lv_goto (tgt := 52) hx hb dX6_tie_48 (by decide) ?_
            obtain ⟨g7, h1⟩ := fo_gd h1 hN1
            refine fr_zast (k := 21) (n := 16) hx hb hK hP hD hS (by decide) (by decide) (fun _ _ => rfl) g7 dX6_tie_52 (fun H locs hP hS => ?_)
            refine lv_iinc (v := s2.1 + (1 : Int32)) (lv' := [(2, .int (s2.1 + (1 : Int32))), (0, .ref (ad (fr_lay 0 0))), (1, .int a1)]) hx hb dX6_tie_53 hl (k := 2) rfl rfl (by decide) rfl (fun ls hl => ?_)
            refine lv_goto (tgt := 2) hx hb dX6_tie_56 (by decide) ?_
            exact hL1 _ h1 _ _ ls hP hS (lv_sub hl [1, 2, 0] rfl)
          · replace h1 := fo_itF c6 h1
            refine lv_aload_n hx hb dX6_tie_29 rfl (lv_at hl 0 rfl) ?_
            refine lv_iload_n hx hb dX6_tie_30 rfl (lv_at hl 1 rfl) ?_
            refine lv_iload_n hx hb dX6_tie_31 rfl (lv_at hl 2 rfl) ?_
            obtain ⟨x8, hx8, h1⟩ := fo_bd h1 hN1
            refine fo_calli (va_runV (H := _) (As := [.int a1, .int s2.1]) (rest := [.int s2.1, .ref (ad (fr_lay 21 0))]) ⟨hx, hb, hml, hown, hT⟩ (c_r_leads l D ca ad _ hx8) (fr_c6_154 hT ⟨Nat.le_trans (Nat.le_of_ble_eq_true rfl) hRf, Nat.le_trans (Nat.le_of_ble_eq_true rfl) hRl⟩) ⟨fo_Pre_blind, fr_rc0 hK hP (by decide), fo_Pre_at hP hK (hD _)⟩ rfl rfl hl.1 rfl (lv_room (Nat.le_of_ble_eq_true rfl)) dX6_tie_32 ⟨Nat.zero_le _, Nat.zero_le _⟩) hS (fun H locs hP hS => ?_)
            refine lv_if_eq (tgt := 51) hx hb dX6_tie_35 (by decide) (fun c9 => ?_) (fun c9 => ?_)
            · replace h1 := fo_itT c9 h1
              refine lv_iconst (v := 0) hx hb dX6_tie_51 (by decide) ?_
              obtain ⟨g10, h1⟩ := fo_gd h1 hN1
              refine fr_zast (k := 21) (n := 16) hx hb hK hP hD hS (by decide) (by decide) (fun _ _ => rfl) g10 dX6_tie_52 (fun H locs hP hS => ?_)
              refine lv_iinc (v := s2.1 + (1 : Int32)) (lv' := [(2, .int (s2.1 + (1 : Int32))), (0, .ref (ad (fr_lay 0 0))), (1, .int a1)]) hx hb dX6_tie_53 hl (k := 2) rfl rfl (by decide) rfl (fun ls hl => ?_)
              refine lv_goto (tgt := 2) hx hb dX6_tie_56 (by decide) ?_
              exact hL1 _ h1 _ _ ls hP hS (lv_sub hl [1, 2, 0] rfl)
            · replace h1 := fo_itF c9 h1
              refine lv_aload_n hx hb dX6_tie_38 rfl (lv_at hl 0 rfl) ?_
              refine lv_iload_n hx hb dX6_tie_39 rfl (lv_at hl 2 rfl) ?_
              refine lv_iload_n hx hb dX6_tie_40 rfl (lv_at hl 1 rfl) ?_
              obtain ⟨x11, hx11, h1⟩ := fo_bd h1 hN1
              refine fo_calli (va_runV (H := _) (As := [.int s2.1, .int a1]) (rest := [.int s2.1, .ref (ad (fr_lay 21 0))]) ⟨hx, hb, hml, hown, hT⟩ (c_r_leads l D ca ad _ hx11) (fr_c6_154 hT ⟨Nat.le_trans (Nat.le_of_ble_eq_true rfl) hRf, Nat.le_trans (Nat.le_of_ble_eq_true rfl) hRl⟩) ⟨fo_Pre_blind, fr_rc0 hK hP (by decide), fo_Pre_at hP hK (hD _)⟩ rfl rfl hl.1 rfl (lv_room (Nat.le_of_ble_eq_true rfl)) dX6_tie_41 ⟨Nat.zero_le _, Nat.zero_le _⟩) hS (fun H locs hP hS => ?_)
              refine lv_if_eq (tgt := 51) hx hb dX6_tie_44 (by decide) (fun c12 => ?_) (fun c12 => ?_)
              · replace h1 := fo_itT c12 h1
                refine lv_iconst (v := 0) hx hb dX6_tie_51 (by decide) ?_
                obtain ⟨g13, h1⟩ := fo_gd h1 hN1
                refine fr_zast (k := 21) (n := 16) hx hb hK hP hD hS (by decide) (by decide) (fun _ _ => rfl) g13 dX6_tie_52 (fun H locs hP hS => ?_)
                refine lv_iinc (v := s2.1 + (1 : Int32)) (lv' := [(2, .int (s2.1 + (1 : Int32))), (0, .ref (ad (fr_lay 0 0))), (1, .int a1)]) hx hb dX6_tie_53 hl (k := 2) rfl rfl (by decide) rfl (fun ls hl => ?_)
                refine lv_goto (tgt := 2) hx hb dX6_tie_56 (by decide) ?_
                exact hL1 _ h1 _ _ ls hP hS (lv_sub hl [1, 2, 0] rfl)
              · replace h1 := fo_itF c12 h1
                refine lv_iconst (v := 1) hx hb dX6_tie_47 (by decide) ?_
                refine lv_goto (tgt := 52) hx hb dX6_tie_48 (by decide) ?_
                obtain ⟨g14, h1⟩ := fo_gd h1 hN1
                refine fr_zast (k := 21) (n := 16) hx hb hK hP hD hS (by decide) (by decide) (fun _ _ => rfl) g14 dX6_tie_52 (fun H locs hP hS => ?_)
                refine lv_iinc (v := s2.1 + (1 : Int32)) (lv' := [(2, .int (s2.1 + (1 : Int32))), (0, .ref (ad (fr_lay 0 0))), (1, .int a1)]) hx hb dX6_tie_53 hl (k := 2) rfl rfl (by decide) rfl (fun ls hl => ?_)
                refine lv_goto (tgt := 2) hx hb dX6_tie_56 (by decide) ?_
                exact hL1 _ h1 _ _ ls hP hS (lv_sub hl [1, 2, 0] rfl)) _ _ hy2
  exact lp2 _ _ ls hP hS (lv_sub hl [1, 2, 0] rfl)
theorem c_r_tie (l : Launch) (D : va_G) (ca : Nat → ClassId) (ad : Nat → Nat) (sz : Nat) {σ : fo_S} {a1 : Int32}  {res : fo_S} (h0 : r_tie σ a1 = some res) : Met l yX6_tie ws_r_tie rm_r_tie (fo_Pre 25 D vwCl (fr_tys ca) ad (fr_ce ca ad σ) sz [.ref (ad (fr_lay 0 0)), .int a1]) (fo_PoV 25 D vwCl (fr_tys ca) ad (fr_ce ca ad res) sz) 0 0 (fo_A 25 ad sz) :=
  fr_mkV (by decide) (fun C0 kr hP => b_r_tie C0 (Nat.le_refl _) (Nat.le_refl _) (Nat.zero_le _)  h0 kr hP)
def r_isHeld_L12 (s2 : Int32 × fo_S) (s12 : Int32 × fo_S) : Option ((Int32 × fo_S) ⊕ ((Int32 × fo_S) ⊕ (Int32 × fo_S))) :=
  if (s12.2.1 0 0 8) ≤ s12.1 then (some (.inr (.inl (s12.1, s12.2)))) else (if fo_vi s2.1 16 then (if (s12.2.1 21 0 s2.1.toNatClampNeg) = 0 then (some (.inl (s12.1 + (1 : Int32), s12.2))) else (if fo_vi s12.1 16 then (if (s12.2.1 20 0 s12.1.toNatClampNeg) = 0 then (some (.inl (s12.1 + (1 : Int32), s12.2))) else (if fo_vi s12.1 16 then (if (s12.2.1 21 0 s12.1.toNatClampNeg) = 0 then ((r_leads s12.2 s12.1 s2.1).bind (fun x11 => if x11.1 = 0 then (some (.inl (s12.1 + (1 : Int32), x11.2))) else (some (.inr (.inr ((1 : Int32), x11.2)))))) else (some (.inl (s12.1 + (1 : Int32), s12.2)))) else none)) else none)) else none)
def r_isHeld_L2  (s2 : Int32 × fo_S) : Option ((Int32 × fo_S) ⊕ ((Int32 × fo_S) ⊕ (Int32 × fo_S))) :=
  if (s2.2.1 0 0 8) ≤ s2.1 then (some (.inr (.inl (s2.1, s2.2)))) else ((fo_lp (r_isHeld_L12 s2) fo_FU ((0 : Int32), s2.2)).bind (fun y12 => match y12 with | .inl z12 => (some (.inl (s2.1 + (1 : Int32), z12.2))) | .inr r12 => some (.inr (.inr r12))))
def r_isHeld (σ : fo_S)  : Option (Int32 × fo_S) :=
  (fo_lp (r_isHeld_L2) fo_FU ((0 : Int32), σ)).bind (fun y2 => match y2 with | .inl z2 => (some ((0 : Int32), z2.2)) | .inr r2 => some r2)
set_option maxHeartbeats 4000000 in
set_option maxRecDepth 100000 in
theorem b_r_isHeld {p : Program} {l : Launch} {e : Env} {R : Room} {s : State} {m : MethodId} {args : Array Value} {below : List Frame} {meth : Method} {c : Code} {Q : State → Prop} {D : va_G} {ca : Nat → ClassId} {ad : Nat → Nat} (C0 : fr_CX p s m args c cX6_isHeld 3 RX6 D ca ad) (hRf : 2 ≤ R.frames) (hRl : 51 ≤ R.locals) (hRc : 0 ≤ R.cells) {σ : fo_S}   {res : Int32 × fo_S} (h0 : r_isHeld σ = some res) (kr : ∀ (pc : Nat) (ls : Array Slot) (H : Heap) (locs : List Loc), narrow .boolean (.int res.1) = .int res.1 → decode cX6_isHeld pc = .ok (.ireturn, 1) → va_P D vwCl (fo_vx 25 ad (fr_ce ca ad res.2)) H → va_S (fo_A 25 ad s.heap.size) s.heap H locs → W p l e R s m args below meth c H locs 0 0 Q (F0 m pc ls [.int res.1])) (hP : va_P D vwCl (fo_vx 25 ad (fr_ce ca ad σ)) s.heap) : W p l e R s m args below meth c s.heap [] 0 0 Q (entryFrame m ([.ref (ad (fr_lay 0 0))] : List Value).toArray 3) := by
  obtain ⟨hx, hb, hml, hown, hT, hK, hD⟩ := C0
  have hN0 : (some res) ≠ none := fun q => by cases q
  unfold r_isHeld at h0
  have hS : va_S (fo_A 25 ad s.heap.size) s.heap s.heap [] := va_S.rf
  have hl := lv_entry ([.ref (ad (fr_lay 0 0))]) (n := 3) (Nat.le_of_ble_eq_true rfl)
  rw [lg_entry_eq]
  generalize (lg_sl ([.ref (ad (fr_lay 0 0))]) ++ List.replicate (3 - (lg_sl ([.ref (ad (fr_lay 0 0))])).length) Slot.unset).toArray = ls at hl ⊢
  have hl : lv_has ls 3 [(0, .ref (ad (fr_lay 0 0)))] := hl
  refine lv_iconst (v := 0) hx hb dX6_isHeld_0 (by decide) ?_
  refine lv_istore_n (lv' := [(1, .int (0 : Int32)), (0, .ref (ad (fr_lay 0 0)))]) hx hb dX6_isHeld_1 rfl hl (by decide) rfl (fun ls hl => ?_)
  obtain ⟨y2, hy2, h0⟩ := fo_bd h0 hN0
  have ex2 : ∀ z2 : Int32 × fo_S, y2 = .inl z2 → ∀ (H : Heap) (locs : List Loc) (ls : Array Slot), va_P D vwCl (fo_vx 25 ad (fr_ce ca ad z2.2)) H → va_S (fo_A 25 ad s.heap.size) s.heap H locs → lv_has ls 3 [] → W p l e R s m args below meth c H locs 0 0 Q (F0 m 70 ls []) := by
    intro z2 hq2 H locs ls hP hS hl
    subst hq2
    refine lv_iconst (v := 0) hx hb dX6_isHeld_70 (by decide) ?_
    have hr16 := Option.some.inj h0
    subst hr16
    exact kr _ ls _ _ (fo_zn (Or.inl rfl)) dX6_isHeld_71 hP hS
  have lp2 := fo_lp_ind (fun (s2 : Int32 × fo_S) => ∀ (H : Heap) (locs : List Loc) (ls : Array Slot), va_P D vwCl (fo_vx 25 ad (fr_ce ca ad s2.2)) H → va_S (fo_A 25 ad s.heap.size) s.heap H locs → lv_has ls 3 [(0, .ref (ad (fr_lay 0 0))), (1, .int s2.1)] → W p l e R s m args below meth c H locs 0 0 Q (F0 m 2 ls [])) (by
      intro s2 o1 h1 hN1 hL1 hE1 H locs ls hP hS hl
      unfold r_isHeld_L2 at h1
      refine lv_iload_n hx hb dX6_isHeld_2 rfl (lv_at hl 1 rfl) ?_
      refine lv_aload_n hx hb dX6_isHeld_3 rfl (lv_at hl 0 rfl) ?_
      refine fr_g6_88 hx hb hT hown hK hP (by decide) dX6_isHeld_4 ?_
      refine lv_icmp_ge (tgt := 70) hx hb dX6_isHeld_7 (by decide) (fun c1 => ?_) (fun c1 => ?_)
      · replace h1 := fo_itT c1 h1
        have hy2 := hE1 _ h1
        exact ex2 _ hy2.symm _ _ ls hP hS (lv_sub hl [] rfl)
      · replace h1 := fo_itF c1 h1
        refine lv_iconst (v := 0) hx hb dX6_isHeld_10 (by decide) ?_
        refine lv_istore_n (lv' := [(2, .int (0 : Int32)), (0, .ref (ad (fr_lay 0 0))), (1, .int s2.1)]) hx hb dX6_isHeld_11 rfl hl (by decide) rfl (fun ls hl => ?_)
        obtain ⟨y12, hy12, h1⟩ := fo_bd h1 hN1
        have ex12 : ∀ z12 : Int32 × fo_S, y12 = .inl z12 → ∀ (H : Heap) (locs : List Loc) (ls : Array Slot), va_P D vwCl (fo_vx 25 ad (fr_ce ca ad z12.2)) H → va_S (fo_A 25 ad s.heap.size) s.heap H locs → lv_has ls 3 [(0, .ref (ad (fr_lay 0 0))), (1, .int s2.1)] → W p l e R s m args below meth c H locs 0 0 Q (F0 m 64 ls []) := by
          intro z12 hq12 H locs ls hP hS hl
          subst hq12
          refine lv_iinc (v := s2.1 + (1 : Int32)) (lv' := [(1, .int (s2.1 + (1 : Int32))), (0, .ref (ad (fr_lay 0 0)))]) hx hb dX6_isHeld_64 hl (k := 1) rfl rfl (by decide) rfl (fun ls hl => ?_)
          refine lv_goto (tgt := 2) hx hb dX6_isHeld_67 (by decide) ?_
          exact hL1 _ h1 _ _ ls hP hS (lv_sub hl [1, 0] rfl)
        have lp12 := fo_lp_ind (fun (s12 : Int32 × fo_S) => ∀ (H : Heap) (locs : List Loc) (ls : Array Slot), va_P D vwCl (fo_vx 25 ad (fr_ce ca ad s12.2)) H → va_S (fo_A 25 ad s.heap.size) s.heap H locs → lv_has ls 3 [(0, .ref (ad (fr_lay 0 0))), (1, .int s2.1), (2, .int s12.1)] → W p l e R s m args below meth c H locs 0 0 Q (F0 m 12 ls [])) (by
            intro s12 o2 h2 hN2 hL2 hE2 H locs ls hP hS hl
            unfold r_isHeld_L12 at h2
            refine lv_iload_n hx hb dX6_isHeld_12 rfl (lv_at hl 2 rfl) ?_
            refine lv_aload_n hx hb dX6_isHeld_13 rfl (lv_at hl 0 rfl) ?_
            refine fr_g6_88 hx hb hT hown hK hP (by decide) dX6_isHeld_14 ?_
            refine lv_icmp_ge (tgt := 64) hx hb dX6_isHeld_17 (by decide) (fun c3 => ?_) (fun c3 => ?_)
            · replace h2 := fo_itT c3 h2
              have hy4 := hE2 _ h2
              exact ex12 _ hy4.symm _ _ ls hP hS (lv_sub hl [0, 1] rfl)
            · replace h2 := fo_itF c3 h2
              refine lv_aload_n hx hb dX6_isHeld_20 rfl (lv_at hl 0 rfl) ?_
              refine fr_g6_76 hx hb hT hown hK hP (by decide) dX6_isHeld_21 ?_
              refine lv_iload_n hx hb dX6_isHeld_24 rfl (lv_at hl 1 rfl) ?_
              obtain ⟨g5, h2⟩ := fo_gd h2 hN2
              refine fr_zald (k := 21) (n := 16) hx hb hK hP (by decide) (by decide) (fun _ _ => rfl) g5 dX6_isHeld_25 ?_
              refine lv_if_eq (tgt := 58) hx hb dX6_isHeld_26 (by decide) (fun c6 => ?_) (fun c6 => ?_)
              · replace h2 := fo_itT c6 h2
                refine lv_iinc (v := s12.1 + (1 : Int32)) (lv' := [(2, .int (s12.1 + (1 : Int32))), (0, .ref (ad (fr_lay 0 0))), (1, .int s2.1)]) hx hb dX6_isHeld_58 hl (k := 2) rfl rfl (by decide) rfl (fun ls hl => ?_)
                refine lv_goto (tgt := 12) hx hb dX6_isHeld_61 (by decide) ?_
                exact hL2 _ h2 _ _ ls hP hS (lv_sub hl [1, 2, 0] rfl)
              · replace h2 := fo_itF c6 h2
                refine lv_aload_n hx hb dX6_isHeld_29 rfl (lv_at hl 0 rfl) ?_
                refine fr_g6_73 hx hb hT hown hK hP (by decide) dX6_isHeld_30 ?_
                refine lv_iload_n hx hb dX6_isHeld_33 rfl (lv_at hl 2 rfl) ?_
                obtain ⟨g7, h2⟩ := fo_gd h2 hN2
                refine fr_zald (k := 20) (n := 16) hx hb hK hP (by decide) (by decide) (fun _ _ => rfl) g7 dX6_isHeld_34 ?_
                refine lv_if_eq (tgt := 58) hx hb dX6_isHeld_35 (by decide) (fun c8 => ?_) (fun c8 => ?_)
                · replace h2 := fo_itT c8 h2
                  refine lv_iinc (v := s12.1 + (1 : Int32)) (lv' := [(2, .int (s12.1 + (1 : Int32))), (0, .ref (ad (fr_lay 0 0))), (1, .int s2.1)]) hx hb dX6_isHeld_58 hl (k := 2) rfl rfl (by decide) rfl (fun ls hl => ?_)
                  refine lv_goto (tgt := 12) hx hb dX6_isHeld_61 (by decide) ?_
                  exact hL2 _ h2 _ _ ls hP hS (lv_sub hl [1, 2, 0] rfl)
                · replace h2 := fo_itF c8 h2
                  refine lv_aload_n hx hb dX6_isHeld_38 rfl (lv_at hl 0 rfl) ?_
                  refine fr_g6_76 hx hb hT hown hK hP (by decide) dX6_isHeld_39 ?_
                  refine lv_iload_n hx hb dX6_isHeld_42 rfl (lv_at hl 2 rfl) ?_
                  obtain ⟨g9, h2⟩ := fo_gd h2 hN2
                  refine fr_zald (k := 21) (n := 16) hx hb hK hP (by decide) (by decide) (fun _ _ => rfl) g9 dX6_isHeld_43 ?_
                  refine lv_if_ne (tgt := 58) hx hb dX6_isHeld_44 (by decide) (fun c10 => ?_) (fun c10 => ?_)
                  · replace h2 := fo_itF c10 h2
                    refine lv_iinc (v := s12.1 + (1 : Int32)) (lv' := [(2, .int (s12.1 + (1 : Int32))), (0, .ref (ad (fr_lay 0 0))), (1, .int s2.1)]) hx hb dX6_isHeld_58 hl (k := 2) rfl rfl (by decide) rfl (fun ls hl => ?_)
                    refine lv_goto (tgt := 12) hx hb dX6_isHeld_61 (by decide) ?_
                    exact hL2 _ h2 _ _ ls hP hS (lv_sub hl [1, 2, 0] rfl)
                  · replace h2 := fo_itT c10 h2
                    refine lv_aload_n hx hb dX6_isHeld_47 rfl (lv_at hl 0 rfl) ?_
                    refine lv_iload_n hx hb dX6_isHeld_48 rfl (lv_at hl 2 rfl) ?_
                    refine lv_iload_n hx hb dX6_isHeld_49 rfl (lv_at hl 1 rfl) ?_
                    obtain ⟨x11, hx11, h2⟩ := fo_bd h2 hN2
                    refine fo_calli (va_runV (H := _) (As := [.int s12.1, .int s2.1]) (rest := []) ⟨hx, hb, hml, hown, hT⟩ (c_r_leads l D ca ad _ hx11) (fr_c6_154 hT ⟨Nat.le_trans (Nat.le_of_ble_eq_true rfl) hRf, Nat.le_trans (Nat.le_of_ble_eq_true rfl) hRl⟩) ⟨fo_Pre_blind, fr_rc0 hK hP (by decide), fo_Pre_at hP hK (hD _)⟩ rfl rfl hl.1 rfl (lv_room (Nat.le_of_ble_eq_true rfl)) dX6_isHeld_50 ⟨Nat.zero_le _, Nat.zero_le _⟩) hS (fun H locs hP hS => ?_)
                    refine lv_if_eq (tgt := 58) hx hb dX6_isHeld_53 (by decide) (fun c12 => ?_) (fun c12 => ?_)
                    · replace h2 := fo_itT c12 h2
                      refine lv_iinc (v := s12.1 + (1 : Int32)) (lv' := [(2, .int (s12.1 + (1 : Int32))), (0, .ref (ad (fr_lay 0 0))), (1, .int s2.1)]) hx hb dX6_isHeld_58 hl (k := 2) rfl rfl (by decide) rfl (fun ls hl => ?_)
                      refine lv_goto (tgt := 12) hx hb dX6_isHeld_61 (by decide) ?_
                      exact hL2 _ h2 _ _ ls hP hS (lv_sub hl [1, 2, 0] rfl)
                    · replace h2 := fo_itF c12 h2
                      refine lv_iconst (v := 1) hx hb dX6_isHeld_56 (by decide) ?_
                      have hy13 := hE2 _ h2
                      subst hy13
                      have hy14 := hE1 _ h1
                      subst hy14
                      have hr15 := Option.some.inj h0
                      subst hr15
                      exact kr _ ls _ _ (fo_zn (Or.inr rfl)) dX6_isHeld_57 hP hS) _ _ hy12
        exact lp12 _ _ ls hP hS (lv_sub hl [1, 2, 0] rfl)) _ _ hy2
  exact lp2 _ _ ls hP hS (lv_sub hl [1, 0] rfl)
theorem c_r_isHeld (l : Launch) (D : va_G) (ca : Nat → ClassId) (ad : Nat → Nat) (sz : Nat) {σ : fo_S}   {res : Int32 × fo_S} (h0 : r_isHeld σ = some res) : Met l yX6_isHeld ws_r_isHeld rm_r_isHeld (fo_Pre 25 D vwCl (fr_tys ca) ad (fr_ce ca ad σ) sz [.ref (ad (fr_lay 0 0))]) (fo_PoI 25 D vwCl (fr_tys ca) ad (fr_ce ca ad res.2) sz res.1) 0 0 (fo_A 25 ad sz) :=
  fr_mkZ (by decide) (fun C0 kr hP => b_r_isHeld C0 (Nat.le_refl _) (Nat.le_refl _) (Nat.zero_le _)  h0 kr hP)
