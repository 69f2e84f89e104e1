def r_count_L57 (σ : fo_S) (s57 : Int32 × Int32) : Option ((Int32 × Int32) ⊕ (Int32 × Int32)) :=
  if (σ.1 0 0 8) ≤ s57.2 then (some (.inr (s57.1, s57.2))) else (if fo_vi s57.2 16 then (if (σ.1 6 0 s57.2.toNatClampNeg) = 0 then (some (.inl (s57.1 + (0 : Int32), s57.2 + (1 : Int32)))) else (some (.inl (s57.1 + (1 : Int32), s57.2 + (1 : Int32))))) else none)
def r_count (σ : fo_S) (a1 : Int32) : Option (Int32) :=
  if a1 = (0 : Int32) then (some (σ.1 0 0 0)) else (if a1 = (1 : Int32) then (some (σ.1 0 0 8)) else (if a1 = (2 : Int32) then (some (σ.1 0 0 6)) else (if a1 = (3 : Int32) then ((fo_lp (r_count_L57 σ) fo_FU ((0 : Int32), (0 : Int32))).bind (fun y57 => some y57.1)) else (if a1 = (4 : Int32) then (some (σ.1 0 0 7)) else (if a1 = (5 : Int32) then (if 0 ≤ (σ.1 0 0 17) then (some (σ.1 0 0 17)) else (some (0 : Int32))) else (some (-2 : Int32)))))))
set_option maxHeartbeats 4000000 in
set_option maxRecDepth 100000 in
theorem b_r_count {p : Program} {l : Launch} {e : Env} {R : Room} {s : State} {m : MethodId} {args : Array Value} {below : List Frame} {meth : Method} {c : Code} {Q : State → Prop} {D : va_G} {ca : Nat → ClassId} {ad : Nat → Nat} (C0 : fr_CX p s m args c cX6_count 4 RX6 D ca ad) (hRf : 0 ≤ R.frames) (hRl : 0 ≤ R.locals) (hRc : 0 ≤ R.cells) {σ : fo_S} {a1 : Int32}  {res : Int32} (h0 : r_count σ a1 = some res) (kr : ∀ (pc : Nat) (ls : Array Slot) (H : Heap) (locs : List Loc), decode cX6_count pc = .ok (.ireturn, 1) → va_P D vwCl (fo_vx 25 ad (fr_ce ca ad σ)) H → va_S (fo_A 25 ad s.heap.size) s.heap H locs → W p l e R s m args below meth c H locs 0 0 Q (F0 m pc ls [.int res])) (hP : va_P D vwCl (fo_vx 25 ad (fr_ce ca ad σ)) s.heap) : W p l e R s m args below meth c s.heap [] 0 0 Q (entryFrame m ([.ref (ad (fr_lay 0 0)), .int a1] : List Value).toArray 4) := by
  obtain ⟨hx, hb, hml, hown, hT, hK, hD⟩ := C0
  have hN0 : (some res) ≠ none := fun q => by cases q
  unfold r_count at h0
  have hS : va_S (fo_A 25 ad s.heap.size) s.heap s.heap [] := va_S.rf
  have hl := lv_entry ([.ref (ad (fr_lay 0 0)), .int a1]) (n := 4) (Nat.le_of_ble_eq_true rfl)
  rw [lg_entry_eq]
  generalize (lg_sl ([.ref (ad (fr_lay 0 0)), .int a1]) ++ List.replicate (4 - (lg_sl ([.ref (ad (fr_lay 0 0)), .int a1])).length) Slot.unset).toArray = ls at hl ⊢
  have hl : lv_has ls 4 [(0, .ref (ad (fr_lay 0 0))), (1, .int a1)] := hl
  refine lv_iconst (v := 0) hx hb dX6_count_0 (by decide) ?_
  refine lv_istore_n (lv' := [(2, .int (0 : Int32)), (0, .ref (ad (fr_lay 0 0))), (1, .int a1)]) hx hb dX6_count_1 rfl hl (by decide) rfl (fun ls hl => ?_)
  refine lv_iload_n hx hb dX6_count_2 rfl (lv_at hl 2 rfl) ?_
  by_cases c1 : a1 = (0 : Int32)
  · replace h0 := fo_itT c1 h0
    refine lv_tableIn (tgt := 40) hx hb dX6_count_3 (by rw [c1]; decide) (by rw [c1]; decide) (by rw [c1]; rfl) (by decide) ?_
    refine lv_aload_n hx hb dX6_count_40 rfl (lv_at hl 1 rfl) ?_
    refine fr_g6_102 hx hb hT hown hK hP (by decide) dX6_count_41 ?_
    have hr2 := Option.some.inj h0
    subst hr2
    exact kr _ ls _ _ dX6_count_44 hP hS
  replace h0 := fo_itF c1 h0
  by_cases c3 : a1 = (1 : Int32)
  · replace h0 := fo_itT c3 h0
    refine lv_tableIn (tgt := 45) hx hb dX6_count_3 (by rw [c3]; decide) (by rw [c3]; decide) (by rw [c3]; rfl) (by decide) ?_
    refine lv_aload_n hx hb dX6_count_45 rfl (lv_at hl 1 rfl) ?_
    refine fr_g6_88 hx hb hT hown hK hP (by decide) dX6_count_46 ?_
    have hr4 := Option.some.inj h0
    subst hr4
    exact kr _ ls _ _ dX6_count_49 hP hS
  replace h0 := fo_itF c3 h0
  by_cases c5 : a1 = (2 : Int32)
  · replace h0 := fo_itT c5 h0
    refine lv_tableIn (tgt := 50) hx hb dX6_count_3 (by rw [c5]; decide) (by rw [c5]; decide) (by rw [c5]; rfl) (by decide) ?_
    refine lv_aload_n hx hb dX6_count_50 rfl (lv_at hl 1 rfl) ?_
    refine fr_g6_99 hx hb hT hown hK hP (by decide) dX6_count_51 ?_
    have hr6 := Option.some.inj h0
    subst hr6
    exact kr _ ls _ _ dX6_count_54 hP hS
  replace h0 := fo_itF c5 h0
  by_cases c7 : a1 = (3 : Int32)
  · replace h0 := fo_itT c7 h0
    refine lv_tableIn (tgt := 55) hx hb dX6_count_3 (by rw [c7]; decide) (by rw [c7]; decide) (by rw [c7]; rfl) (by decide) ?_
    refine lv_iconst (v := 0) hx hb dX6_count_55 (by decide) ?_
    refine lv_istore_n (lv' := [(3, .int (0 : Int32)), (2, .int (0 : Int32)), (0, .ref (ad (fr_lay 0 0))), (1, .int a1)]) hx hb dX6_count_56 rfl hl (by decide) rfl (fun ls hl => ?_)
    obtain ⟨y57, hy57, h0⟩ := fo_bd h0 hN0
    have ex57 : ∀ (H : Heap) (locs : List Loc) (ls : Array Slot), va_P D vwCl (fo_vx 25 ad (fr_ce ca ad σ)) H → va_S (fo_A 25 ad s.heap.size) s.heap H locs → lv_has ls 4 [(2, .int y57.1)] → W p l e R s m args below meth c H locs 0 0 Q (F0 m 88 ls []) := by
      intro H locs ls hP hS hl
      refine lv_iload_n hx hb dX6_count_88 rfl (lv_at hl 0 rfl) ?_
      have hr12 := Option.some.inj h0
      subst hr12
      exact kr _ ls _ _ dX6_count_89 hP hS
    have lp57 := fo_lp_ind (fun (s57 : Int32 × Int32) => ∀ (H : Heap) (locs : List Loc) (ls : Array Slot), va_P D vwCl (fo_vx 25 ad (fr_ce ca ad σ)) H → va_S (fo_A 25 ad s.heap.size) s.heap H locs → lv_has ls 4 [(0, .ref (ad (fr_lay 0 0))), (2, .int s57.1), (3, .int s57.2)] → W p l e R s m args below meth c H locs 0 0 Q (F0 m 57 ls [])) (by
        intro s57 o1 h1 hN1 hL1 hE1 H locs ls hP hS hl
        unfold r_count_L57 at h1
        refine lv_iload_n hx hb dX6_count_57 rfl (lv_at hl 2 rfl) ?_
        refine lv_aload_n hx hb dX6_count_58 rfl (lv_at hl 0 rfl) ?_
        refine fr_g6_88 hx hb hT hown hK hP (by decide) dX6_count_59 ?_
        refine lv_icmp_ge (tgt := 88) hx hb dX6_count_62 (by decide) (fun c8 => ?_) (fun c8 => ?_)
        · replace h1 := fo_itT c8 h1
          have hy9 := hE1 _ h1
          subst hy9
          exact ex57 _ _ ls hP hS (lv_sub hl [1] rfl)
        · replace h1 := fo_itF c8 h1
          refine lv_iload_n hx hb dX6_count_65 rfl (lv_at hl 1 rfl) ?_
          refine lv_aload_n hx hb dX6_count_66 rfl (lv_at hl 0 rfl) ?_
          refine fr_g6_26 hx hb hT hown hK hP (by decide) dX6_count_67 ?_
          refine lv_iload_n hx hb dX6_count_70 rfl (lv_at hl 2 rfl) ?_
          obtain ⟨g10, h1⟩ := fo_gd h1 hN1
          refine fr_zald (k := 6) (n := 16) hx hb hK hP (by decide) (by decide) (fun _ _ => rfl) g10 dX6_count_71 ?_
          refine lv_if_eq (tgt := 79) hx hb dX6_count_72 (by decide) (fun c11 => ?_) (fun c11 => ?_)
          · replace h1 := fo_itT c11 h1
            refine lv_iconst (v := 0) hx hb dX6_count_79 (by decide) ?_
            refine lv_iadd hx hb dX6_count_80 ?_
            refine lv_istore_n (lv' := [(2, .int (s57.1 + (0 : Int32))), (0, .ref (ad (fr_lay 0 0))), (3, .int s57.2)]) hx hb dX6_count_81 rfl hl (by decide) rfl (fun ls hl => ?_)
            refine lv_iinc (v := s57.2 + (1 : Int32)) (lv' := [(3, .int (s57.2 + (1 : Int32))), (2, .int (s57.1 + (0 : Int32))), (0, .ref (ad (fr_lay 0 0)))]) hx hb dX6_count_82 hl (k := 2) rfl rfl (by decide) rfl (fun ls hl => ?_)
            refine lv_goto (tgt := 57) hx hb dX6_count_85 (by decide) ?_
            exact hL1 _ h1 _ _ ls hP hS (lv_sub hl [2, 1, 0] rfl)
          · replace h1 := fo_itF c11 h1
            refine lv_iconst (v := 1) hx hb dX6_count_75 (by decide) ?_
            refine lv_goto (tgt := 80) hx hb dX6_count_76 (by decide) ?_
            refine lv_iadd hx hb dX6_count_80 ?_
            refine lv_istore_n (lv' := [(2, .int (s57.1 + (1 : Int32))), (0, .ref (ad (fr_lay 0 0))), (3, .int s57.2)]) hx hb dX6_count_81 rfl hl (by decide) rfl (fun ls hl => ?_)
            refine lv_iinc (v := s57.2 + (1 : Int32)) (lv' := [(3, .int (s57.2 + (1 : Int32))), (2, .int (s57.1 + (1 : Int32))), (0, .ref (ad (fr_lay 0 0)))]) hx hb dX6_count_82 hl (k := 2) rfl rfl (by decide) rfl (fun ls hl => ?_)
            refine lv_goto (tgt := 57) hx hb dX6_count_85 (by decide) ?_
            exact hL1 _ h1 _ _ ls hP hS (lv_sub hl [2, 1, 0] rfl)) _ _ hy57
    exact lp57 _ _ ls hP hS (lv_sub hl [2, 1, 0] rfl)
  replace h0 := fo_itF c7 h0
  by_cases c13 : a1 = (4 : Int32)
  · replace h0 := fo_itT c13 h0
    refine lv_tableIn (tgt := 90) hx hb dX6_count_3 (by rw [c13]; decide) (by rw [c13]; decide) (by rw [c13]; rfl) (by decide) ?_
    refine lv_aload_n hx hb dX6_count_90 rfl (lv_at hl 1 rfl) ?_
    refine fr_g6_115 hx hb hT hown hK hP (by decide) dX6_count_91 ?_
    have hr14 := Option.some.inj h0
    subst hr14
    exact kr _ ls _ _ dX6_count_94 hP hS
  replace h0 := fo_itF c13 h0
  by_cases c15 : a1 = (5 : Int32)
  · replace h0 := fo_itT c15 h0
    refine lv_tableIn (tgt := 95) hx hb dX6_count_3 (by rw [c15]; decide) (by rw [c15]; decide) (by rw [c15]; rfl) (by decide) ?_
    refine lv_aload_n hx hb dX6_count_95 rfl (lv_at hl 1 rfl) ?_
    refine fr_g6_42 hx hb hT hown hK hP (by decide) dX6_count_96 ?_
    refine lv_if_ge (tgt := 106) hx hb dX6_count_99 (by decide) (fun c16 => ?_) (fun c16 => ?_)
    · replace h0 := fo_itT c16 h0
      refine lv_aload_n hx hb dX6_count_106 rfl (lv_at hl 1 rfl) ?_
      refine fr_g6_42 hx hb hT hown hK hP (by decide) dX6_count_107 ?_
      have hr17 := Option.some.inj h0
      subst hr17
      exact kr _ ls _ _ dX6_count_110 hP hS
    · replace h0 := fo_itF c16 h0
      refine lv_iconst (v := 0) hx hb dX6_count_102 (by decide) ?_
      refine lv_goto (tgt := 110) hx hb dX6_count_103 (by decide) ?_
      have hr18 := Option.some.inj h0
      subst hr18
      exact kr _ ls _ _ dX6_count_110 hP hS
  replace h0 := fo_itF c15 h0
  refine lv_tableOut (tgt := 111) hx hb dX6_count_3 (by have e0 := lv_neT c1 (k := (0 : Int32)) (a := 0) (by decide); have e1 := lv_neT c3 (k := (1 : Int32)) (a := 1) (by decide); have e2 := lv_neT c5 (k := (2 : Int32)) (a := 2) (by decide); have e3 := lv_neT c7 (k := (3 : Int32)) (a := 3) (by decide); have e4 := lv_neT c13 (k := (4 : Int32)) (a := 4) (by decide); have e5 := lv_neT c15 (k := (5 : Int32)) (a := 5) (by decide); omega) (by decide) ?_
  refine lv_bipush (v := -2) hx hb dX6_count_111 (by decide) ?_
  have hr19 := Option.some.inj h0
  subst hr19
  exact kr _ ls _ _ dX6_count_113 hP hS
theorem c_r_count (l : Launch) (D : va_G) (ca : Nat → ClassId) (ad : Nat → Nat) (sz : Nat) {σ : fo_S} {a1 : Int32}  {res : Int32} (h0 : r_count σ a1 = some res) : Met l yX6_count ws_r_count rm_r_count (fo_Pre 25 D vwCl (fr_tys ca) ad (fr_ce ca ad σ) sz [.ref (ad (fr_lay 0 0)), .int a1]) (fo_PoI 25 D vwCl (fr_tys ca) ad (fr_ce ca ad σ) sz res) 0 0 (fo_A 25 ad sz) :=
  fr_mkI (by decide) (fun C0 kr hP => b_r_count C0 (Nat.le_refl _) (Nat.le_refl _) (Nat.zero_le _)  h0 kr hP)
