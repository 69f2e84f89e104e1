def q_FairOrder_commit (σ : fo_S) (a1 : Int32) (a2 : Int64) (a3 : Int64) : Option (Int32 × fo_S) :=
  (q_FairOrder_isAccount σ a1).bind (fun x1 => if x1 = 0 then (some ((-2 : Int32), σ)) else (if (lg_cmp a2 (0 : Int64)) < 0 then (some ((-2 : Int32), σ)) else (if (lg_cmp a2 (1000000 : Int64)) ≤ 0 then (if (σ.1 0 0 10) = 0 then (if (σ.1 0 0 9) < (16 : Int32) then (if fo_vi a1 9 then (if 0 ≤ (lg_cmp (σ.2 2 0 a1.toNatClampNeg) a2) then (if fo_vi a1 9 then ( if fo_vi a1 9 then ( if fo_vi ((fo_pJ σ 2 0 a1.toNatClampNeg ((σ.2 2 0 a1.toNatClampNeg) - a2)).1 0 0 9) 16 then ( (q_Call_begin (fo_pJ σ 2 0 a1.toNatClampNeg ((σ.2 2 0 a1.toNatClampNeg) - a2)) (((fo_pJ σ 2 0 a1.toNatClampNeg ((σ.2 2 0 a1.toNatClampNeg) - a2)).1 0 0 9).toNatClampNeg) a1 a2 a3).bind (fun x14 => some (((fo_pI x14 0 0 9 ((x14.1 0 0 9) + (1 : Int32))).1 0 0 9) - (1 : Int32), fo_pI x14 0 0 9 ((x14.1 0 0 9) + (1 : Int32))))) else none) else none) else none) else (some ((-5 : Int32), σ))) else none) else (some ((-3 : Int32), σ))) else (some ((-4 : Int32), σ))) else (some ((-2 : Int32), σ)))))
set_option maxHeartbeats 4000000 in
set_option maxRecDepth 100000 in
theorem b_q_FairOrder_commit {p : Program} {l : Launch} {e : Env} {R : Room} {s : State} {m : MethodId} {args : Array Value} {below : List Frame} {meth : Method} {c : Code} {Q : State → Prop} {D : va_G} {ca : Nat → ClassId} {ad : Nat → Nat} (C0 : fo_CX p s m args c cX0_commit 6 RX0 D ca ad) (hRf : 2 ≤ R.frames) (hRl : 48 ≤ R.locals) (hRc : 0 ≤ R.cells) {σ : fo_S} {a1 : Int32} {a2 : Int64} {a3 : Int64}  {res : Int32 × fo_S} (h0 : q_FairOrder_commit σ a1 a2 a3 = some res) (kr : ∀ (pc : Nat) (ls : Array Slot) (H : Heap) (locs : List Loc), decode cX0_commit pc = .ok (.ireturn, 1) → va_P D vwCl (fo_vx 51 ad (fo_ce ca ad res.2)) H → va_S (fo_A 51 ad s.heap.size) s.heap H locs → W p l e R s m args below meth c H locs 0 0 Q (F0 m pc ls [.int res.1])) (hP : va_P D vwCl (fo_vx 51 ad (fo_ce ca ad σ)) s.heap) : W p l e R s m args below meth c s.heap [] 0 0 Q (entryFrame m ([.ref (ad (fo_lay 0 0)), .int a1, .long a2, .long a3] : List Value).toArray 6) := by
  obtain ⟨hx, hb, hml, hown, hT, hK, hD⟩ := C0
  have hN0 : (some res) ≠ none := fun q => by cases q
  unfold q_FairOrder_commit at h0
  have hS : va_S (fo_A 51 ad s.heap.size) s.heap s.heap [] := va_S.rf
  have hl := lv_entry ([.ref (ad (fo_lay 0 0)), .int a1, .long a2, .long a3]) (n := 6) (Nat.le_of_ble_eq_true rfl)
  rw [lg_entry_eq]
  generalize (lg_sl ([.ref (ad (fo_lay 0 0)), .int a1, .long a2, .long a3]) ++ List.replicate (6 - (lg_sl ([.ref (ad (fo_lay 0 0)), .int a1, .long a2, .long a3])).length) Slot.unset).toArray = ls at hl ⊢
  have hl : lv_has ls 6 [(0, .ref (ad (fo_lay 0 0))), (1, .int a1), (2, .long a2), (4, .long a3)] := hl
  refine lv_aload_n hx hb dX0_commit_0 rfl (lv_at hl 0 rfl) ?_
  refine lv_iload_n hx hb dX0_commit_1 rfl (lv_at hl 1 rfl) ?_
  obtain ⟨x1, hx1, h0⟩ := fo_bd h0 hN0
  refine fo_calli (va_runV (H := _) (As := [.int a1]) (rest := []) ⟨hx, hb, hml, hown, hT⟩ (c_q_FairOrder_isAccount l D ca ad _ hx1) (fo_c0_87 hT ⟨Nat.le_trans (Nat.le_of_ble_eq_true rfl) hRf, Nat.le_trans (Nat.le_of_ble_eq_true rfl) hRl⟩) ⟨fo_Pre_blind, fo_rc0 hK hP (by decide), fo_Pre_at hP hK (hD _)⟩ rfl rfl hl.1 rfl (lv_room (Nat.le_of_ble_eq_true rfl)) dX0_commit_2 ⟨Nat.zero_le _, Nat.zero_le _⟩) hS (fun H locs hP hS => ?_)
  refine lv_if_eq (tgt := 22) hx hb dX0_commit_5 (by decide) (fun c2 => ?_) (fun c2 => ?_)
  · replace h0 := fo_itT c2 h0
    refine lv_bipush (v := -2) hx hb dX0_commit_22 (by decide) ?_
    have hr3 := Option.some.inj h0
    subst hr3
    exact kr _ ls _ _ dX0_commit_24 hP hS
  · replace h0 := fo_itF c2 h0
    refine lv_lload_n hx hb dX0_commit_8 rfl (lv_at hl 2 rfl) ?_
    refine lv_lconst (v := 0) hx hb dX0_commit_9 (by decide) ?_
    refine W.lcmp hx hb dX0_commit_10 ?_
    refine lv_if_lt (tgt := 22) hx hb dX0_commit_11 (by decide) (fun c4 => ?_) (fun c4 => ?_)
    · replace h0 := fo_itT c4 h0
      refine lv_bipush (v := -2) hx hb dX0_commit_22 (by decide) ?_
      have hr5 := Option.some.inj h0
      subst hr5
      exact kr _ ls _ _ dX0_commit_24 hP hS
    · replace h0 := fo_itF c4 h0
      refine lv_lload_n hx hb dX0_commit_14 rfl (lv_at hl 2 rfl) ?_
      refine lv_ldc2 (v := 1000000) hx hb hown (fo_k0_91 hT) dX0_commit_15 ?_
      refine W.lcmp hx hb dX0_commit_18 ?_
      refine lv_if_le (tgt := 25) hx hb dX0_commit_19 (by decide) (fun c6 => ?_) (fun c6 => ?_)
      · replace h0 := fo_itT c6 h0
        refine lv_aload_n hx hb dX0_commit_25 rfl (lv_at hl 0 rfl) ?_
        refine fo_g0_93 hx hb hT hown hK hP (by decide) dX0_commit_26 ?_
        refine lv_if_eq (tgt := 35) hx hb dX0_commit_29 (by decide) (fun c7 => ?_) (fun c7 => ?_)
        · replace h0 := fo_itT c7 h0
          refine lv_aload_n hx hb dX0_commit_35 rfl (lv_at hl 0 rfl) ?_
          refine fo_g0_96 hx hb hT hown hK hP (by decide) dX0_commit_36 ?_
          refine lv_bipush (v := 16) hx hb dX0_commit_39 (by decide) ?_
          refine lv_icmp_lt (tgt := 47) hx hb dX0_commit_41 (by decide) (fun c8 => ?_) (fun c8 => ?_)
          · replace h0 := fo_itT c8 h0
            refine lv_aload_n hx hb dX0_commit_47 rfl (lv_at hl 0 rfl) ?_
            refine fo_g0_12 hx hb hT hown hK hP (by decide) dX0_commit_48 ?_
            refine fo_g0_99 hx hb hT hown hK hP (by decide) dX0_commit_51 ?_
            refine lv_iload_n hx hb dX0_commit_54 rfl (lv_at hl 1 rfl) ?_
            obtain ⟨g9, h0⟩ := fo_gd h0 hN0
            refine fo_lald (k := 2) (n := 9) hx hb hK hP (by decide) (by decide) (fun _ _ => rfl) g9 dX0_commit_55 ?_
            refine lv_lload_n hx hb dX0_commit_56 rfl (lv_at hl 2 rfl) ?_
            refine W.lcmp hx hb dX0_commit_57 ?_
            refine lv_if_ge (tgt := 64) hx hb dX0_commit_58 (by decide) (fun c10 => ?_) (fun c10 => ?_)
            · replace h0 := fo_itT c10 h0
              refine lv_aload_n hx hb dX0_commit_64 rfl (lv_at hl 0 rfl) ?_
              refine fo_g0_12 hx hb hT hown hK hP (by decide) dX0_commit_65 ?_
              refine fo_g0_99 hx hb hT hown hK hP (by decide) dX0_commit_68 ?_
              refine lv_iload_n hx hb dX0_commit_71 rfl (lv_at hl 1 rfl) ?_
              refine lv_dup2_11 hx hb dX0_commit_72 rfl rfl ?_
              obtain ⟨g11, h0⟩ := fo_gd h0 hN0
              refine fo_lald (k := 2) (n := 9) hx hb hK hP (by decide) (by decide) (fun _ _ => rfl) g11 dX0_commit_73 ?_
              refine lv_lload_n hx hb dX0_commit_74 rfl (lv_at hl 2 rfl) ?_
              refine lv_lsub hx hb dX0_commit_75 ?_
              obtain ⟨g12, h0⟩ := fo_gd h0 hN0
              refine fo_last (k := 2) (n := 9) hx hb hK hP hD hS (by decide) (by decide) (fun _ _ => rfl) g12 dX0_commit_76 (fun H locs hP hS => ?_)
              refine lv_aload_n hx hb dX0_commit_77 rfl (lv_at hl 0 rfl) ?_
              refine fo_g0_21 hx hb hT hown hK hP (by decide) dX0_commit_78 ?_
              refine lv_aload_n hx hb dX0_commit_81 rfl (lv_at hl 0 rfl) ?_
              refine fo_g0_96 hx hb hT hown hK hP (by decide) dX0_commit_82 ?_
              obtain ⟨g13, h0⟩ := fo_gd h0 hN0
              refine fo_aald_4 hx hb hK hP (by decide) g13 dX0_commit_85 ?_
              refine lv_iload_n hx hb dX0_commit_86 rfl (lv_at hl 1 rfl) ?_
              refine lv_lload_n hx hb dX0_commit_87 rfl (lv_at hl 2 rfl) ?_
              refine lv_lload hx hb dX0_commit_88 (lv_at hl 3 rfl) ?_
              obtain ⟨x14, hx14, h0⟩ := fo_bd h0 hN0
              refine fo_callv (va_runV (H := _) (As := [.int a1, .long a2, .long a3]) (rest := []) ⟨hx, hb, hml, hown, hT⟩ (c_q_Call_begin l D ca ad _ (fo_in g13) hx14) (fo_c0_103 hT ⟨Nat.le_trans (Nat.le_of_ble_eq_true rfl) hRf, Nat.le_trans (Nat.le_of_ble_eq_true rfl) hRl⟩) ⟨fo_Pre_blind, fo_rc14 hK hP (fo_in g13), fo_Pre_at hP hK (hD _)⟩ rfl rfl hl.1 rfl (lv_room (Nat.le_of_ble_eq_true rfl)) dX0_commit_90 ⟨Nat.zero_le _, Nat.zero_le _⟩) hS (fun H locs hP hS => ?_)
              refine lv_aload_n hx hb dX0_commit_93 rfl (lv_at hl 0 rfl) ?_
              refine lv_dup hx hb dX0_commit_94 rfl ?_
              refine fo_g0_96 hx hb hT hown hK hP (by decide) dX0_commit_95 ?_
              refine lv_iconst (v := 1) hx hb dX0_commit_98 (by decide) ?_
              refine lv_iadd hx hb dX0_commit_99 ?_
              refine fo_p0_96 hx hb hT hown hK hP hD hS (by decide) dX0_commit_100 (fun H locs hP hS => ?_)
              refine lv_aload_n hx hb dX0_commit_103 rfl (lv_at hl 0 rfl) ?_
              refine fo_g0_96 hx hb hT hown hK hP (by decide) dX0_commit_104 ?_
              refine lv_iconst (v := 1) hx hb dX0_commit_107 (by decide) ?_
              refine lv_isub hx hb dX0_commit_108 ?_
              have hr15 := Option.some.inj h0
              subst hr15
              exact kr _ ls _ _ dX0_commit_109 hP hS
            · replace h0 := fo_itF c10 h0
              refine lv_bipush (v := -5) hx hb dX0_commit_61 (by decide) ?_
              have hr16 := Option.some.inj h0
              subst hr16
              exact kr _ ls _ _ dX0_commit_63 hP hS
          · replace h0 := fo_itF c8 h0
            refine lv_bipush (v := -3) hx hb dX0_commit_44 (by decide) ?_
            have hr17 := Option.some.inj h0
            subst hr17
            exact kr _ ls _ _ dX0_commit_46 hP hS
        · replace h0 := fo_itF c7 h0
          refine lv_bipush (v := -4) hx hb dX0_commit_32 (by decide) ?_
          have hr18 := Option.some.inj h0
          subst hr18
          exact kr _ ls _ _ dX0_commit_34 hP hS
      · replace h0 := fo_itF c6 h0
        refine lv_bipush (v := -2) hx hb dX0_commit_22 (by decide) ?_
        have hr19 := Option.some.inj h0
        subst hr19
        exact kr _ ls _ _ dX0_commit_24 hP hS
theorem c_q_FairOrder_commit (l : Launch) (D : va_G) (ca : Nat → ClassId) (ad : Nat → Nat) (sz : Nat) {σ : fo_S} {a1 : Int32} {a2 : Int64} {a3 : Int64}  {res : Int32 × fo_S} (h0 : q_FairOrder_commit σ a1 a2 a3 = some res) : Met l yX0_commit ws_q_FairOrder_commit rm_q_FairOrder_commit (fo_Pre 51 D vwCl (fo_tys ca) ad (fo_ce ca ad σ) sz [.ref (ad (fo_lay 0 0)), .int a1, .long a2, .long a3]) (fo_PoI 51 D vwCl (fo_tys ca) ad (fo_ce ca ad res.2) sz res.1) 0 0 (fo_A 51 ad sz) :=
  fo_mkI (by decide) (fun C0 kr hP => b_q_FairOrder_commit C0 (Nat.le_refl _) (Nat.le_refl _) (Nat.zero_le _)  h0 kr hP)
def q_FairOrder_isCall (σ : fo_S) (a1 : Int32) : Option (Int32) :=
  if a1 < 0 then (some (0 : Int32)) else (if (σ.1 0 0 9) ≤ a1 then (some (0 : Int32)) else (some (1 : Int32)))
set_option maxHeartbeats 4000000 in
set_option maxRecDepth 100000 in
theorem b_q_FairOrder_isCall {p : Program} {l : Launch} {e : Env} {R : Room} {s : State} {m : MethodId} {args : Array Value} {below : List Frame} {meth : Method} {c : Code} {Q : State → Prop} {D : va_G} {ca : Nat → ClassId} {ad : Nat → Nat} (C0 : fo_CX p s m args c cX0_isCall 2 RX0 D ca ad) (hRf : 0 ≤ R.frames) (hRl : 0 ≤ R.locals) (hRc : 0 ≤ R.cells) {σ : fo_S} {a1 : Int32}  {res : Int32} (h0 : q_FairOrder_isCall σ a1 = some res) (kr : ∀ (pc : Nat) (ls : Array Slot) (H : Heap) (locs : List Loc), narrow .boolean (.int res) = .int res → decode cX0_isCall pc = .ok (.ireturn, 1) → va_P D vwCl (fo_vx 51 ad (fo_ce ca ad σ)) H → va_S (fo_A 51 ad s.heap.size) s.heap H locs → W p l e R s m args below meth c H locs 0 0 Q (F0 m pc ls [.int res])) (hP : va_P D vwCl (fo_vx 51 ad (fo_ce ca ad σ)) s.heap) : W p l e R s m args below meth c s.heap [] 0 0 Q (entryFrame m ([.ref (ad (fo_lay 0 0)), .int a1] : List Value).toArray 2) := by
  obtain ⟨hx, hb, hml, hown, hT, hK, hD⟩ := C0
  have hN0 : (some res) ≠ none := fun q => by cases q
  unfold q_FairOrder_isCall at h0
  have hS : va_S (fo_A 51 ad s.heap.size) s.heap s.heap [] := va_S.rf
  have hl := lv_entry ([.ref (ad (fo_lay 0 0)), .int a1]) (n := 2) (Nat.le_of_ble_eq_true rfl)
  rw [lg_entry_eq]
  generalize (lg_sl ([.ref (ad (fo_lay 0 0)), .int a1]) ++ List.replicate (2 - (lg_sl ([.ref (ad (fo_lay 0 0)), .int a1])).length) Slot.unset).toArray = ls at hl ⊢
  have hl : lv_has ls 2 [(0, .ref (ad (fo_lay 0 0))), (1, .int a1)] := hl
  refine lv_iload_n hx hb dX0_isCall_0 rfl (lv_at hl 1 rfl) ?_
  refine lv_if_lt (tgt := 16) hx hb dX0_isCall_1 (by decide) (fun c1 => ?_) (fun c1 => ?_)
  · replace h0 := fo_itT c1 h0
    refine lv_iconst (v := 0) hx hb dX0_isCall_16 (by decide) ?_
    have hr2 := Option.some.inj h0
    subst hr2
    exact kr _ ls _ _ (fo_zn (Or.inl rfl)) dX0_isCall_17 hP hS
  · replace h0 := fo_itF c1 h0
    refine lv_iload_n hx hb dX0_isCall_4 rfl (lv_at hl 1 rfl) ?_
    refine lv_aload_n hx hb dX0_isCall_5 rfl (lv_at hl 0 rfl) ?_
    refine fo_g0_96 hx hb hT hown hK hP (by decide) dX0_isCall_6 ?_
    refine lv_icmp_ge (tgt := 16) hx hb dX0_isCall_9 (by decide) (fun c3 => ?_) (fun c3 => ?_)
    · replace h0 := fo_itT c3 h0
      refine lv_iconst (v := 0) hx hb dX0_isCall_16 (by decide) ?_
      have hr4 := Option.some.inj h0
      subst hr4
      exact kr _ ls _ _ (fo_zn (Or.inl rfl)) dX0_isCall_17 hP hS
    · replace h0 := fo_itF c3 h0
      refine lv_iconst (v := 1) hx hb dX0_isCall_12 (by decide) ?_
      refine lv_goto (tgt := 17) hx hb dX0_isCall_13 (by decide) ?_
      have hr5 := Option.some.inj h0
      subst hr5
      exact kr _ ls _ _ (fo_zn (Or.inr rfl)) dX0_isCall_17 hP hS
theorem c_q_FairOrder_isCall (l : Launch) (D : va_G) (ca : Nat → ClassId) (ad : Nat → Nat) (sz : Nat) {σ : fo_S} {a1 : Int32}  {res : Int32} (h0 : q_FairOrder_isCall σ a1 = some res) : Met l yX0_isCall ws_q_FairOrder_isCall rm_q_FairOrder_isCall (fo_Pre 51 D vwCl (fo_tys ca) ad (fo_ce ca ad σ) sz [.ref (ad (fo_lay 0 0)), .int a1]) (fo_PoI 51 D vwCl (fo_tys ca) ad (fo_ce ca ad σ) sz res) 0 0 (fo_A 51 ad sz) :=
  fo_mkZ (by decide) (fun C0 kr hP => b_q_FairOrder_isCall C0 (Nat.le_refl _) (Nat.le_refl _) (Nat.zero_le _)  h0 kr hP)
def q_FairOrder_hear (σ : fo_S) (a1 : Int32) (a2 : Int32) (a3 : Int32) : Option (Int32 × fo_S) :=
  if a1 < 0 then (some ((-2 : Int32), σ)) else (if (5 : Int32) ≤ a1 then (some ((-2 : Int32), σ)) else ((q_FairOrder_isCall σ a2).bind (fun x5 => if x5 = 0 then (some ((-2 : Int32), σ)) else (if a3 < 0 then (some ((-2 : Int32), σ)) else (if a3 ≤ (1000000 : Int32) then (if (σ.1 0 0 10) = 0 then (if fo_vi a2 16 then ( if fo_vi a1 5 then (if (σ.1 15 a2.toNatClampNeg a1.toNatClampNeg) = (1000001 : Int32) then (if fo_vi a1 5 then (some ((1 : Int32), fo_pI σ 15 a2.toNatClampNeg a1.toNatClampNeg a3)) else none) else (some ((-6 : Int32), σ))) else none) else none) else (some ((-4 : Int32), σ))) else (some ((-2 : Int32), σ)))))))
set_option maxHeartbeats 4000000 in
set_option maxRecDepth 100000 in
theorem b_q_FairOrder_hear {p : Program} {l : Launch} {e : Env} {R : Room} {s : State} {m : MethodId} {args : Array Value} {below : List Frame} {meth : Method} {c : Code} {Q : State → Prop} {D : va_G} {ca : Nat → ClassId} {ad : Nat → Nat} (C0 : fo_CX p s m args c cX0_hear 5 RX0 D ca ad) (hRf : 1 ≤ R.frames) (hRl : 21 ≤ R.locals) (hRc : 0 ≤ R.cells) {σ : fo_S} {a1 : Int32} {a2 : Int32} {a3 : Int32}  {res : Int32 × fo_S} (h0 : q_FairOrder_hear σ a1 a2 a3 = some res) (kr : ∀ (pc : Nat) (ls : Array Slot) (H : Heap) (locs : List Loc), decode cX0_hear pc = .ok (.ireturn, 1) → va_P D vwCl (fo_vx 51 ad (fo_ce ca ad res.2)) H → va_S (fo_A 51 ad s.heap.size) s.heap H locs → W p l e R s m args below meth c H locs 0 0 Q (F0 m pc ls [.int res.1])) (hP : va_P D vwCl (fo_vx 51 ad (fo_ce ca ad σ)) s.heap) : W p l e R s m args below meth c s.heap [] 0 0 Q (entryFrame m ([.ref (ad (fo_lay 0 0)), .int a1, .int a2, .int a3] : List Value).toArray 5) := by
  obtain ⟨hx, hb, hml, hown, hT, hK, hD⟩ := C0
  have hN0 : (some res) ≠ none := fun q => by cases q
  unfold q_FairOrder_hear at h0
  have hS : va_S (fo_A 51 ad s.heap.size) s.heap s.heap [] := va_S.rf
  have hl := lv_entry ([.ref (ad (fo_lay 0 0)), .int a1, .int a2, .int a3]) (n := 5) (Nat.le_of_ble_eq_true rfl)
  rw [lg_entry_eq]
  generalize (lg_sl ([.ref (ad (fo_lay 0 0)), .int a1, .int a2, .int a3]) ++ List.replicate (5 - (lg_sl ([.ref (ad (fo_lay 0 0)), .int a1, .int a2, .int a3])).length) Slot.unset).toArray = ls at hl ⊢
  have hl : lv_has ls 5 [(0, .ref (ad (fo_lay 0 0))), (1, .int a1), (2, .int a2), (3, .int a3)] := hl
  refine lv_iload_n hx hb dX0_hear_0 rfl (lv_at hl 1 rfl) ?_
  refine lv_if_lt (tgt := 27) hx hb dX0_hear_1 (by decide) (fun c1 => ?_) (fun c1 => ?_)
  · replace h0 := fo_itT c1 h0
    refine lv_bipush (v := -2) hx hb dX0_hear_27 (by decide) ?_
    have hr2 := Option.some.inj h0
    subst hr2
    exact kr _ ls _ _ dX0_hear_29 hP hS
  · replace h0 := fo_itF c1 h0
    refine lv_iload_n hx hb dX0_hear_4 rfl (lv_at hl 1 rfl) ?_
    refine lv_iconst (v := 5) hx hb dX0_hear_5 (by decide) ?_
    refine lv_icmp_ge (tgt := 27) hx hb dX0_hear_6 (by decide) (fun c3 => ?_) (fun c3 => ?_)
    · replace h0 := fo_itT c3 h0
      refine lv_bipush (v := -2) hx hb dX0_hear_27 (by decide) ?_
      have hr4 := Option.some.inj h0
      subst hr4
      exact kr _ ls _ _ dX0_hear_29 hP hS
    · replace h0 := fo_itF c3 h0
      refine lv_aload_n hx hb dX0_hear_9 rfl (lv_at hl 0 rfl) ?_
      refine lv_iload_n hx hb dX0_hear_10 rfl (lv_at hl 2 rfl) ?_
      obtain ⟨x5, hx5, h0⟩ := fo_bd h0 hN0
      refine fo_calli (va_runV (H := _) (As := [.int a2]) (rest := []) ⟨hx, hb, hml, hown, hT⟩ (c_q_FairOrder_isCall l D ca ad _ hx5) (fo_c0_106 hT ⟨Nat.le_trans (Nat.le_of_ble_eq_true rfl) hRf, Nat.le_trans (Nat.le_of_ble_eq_true rfl) hRl⟩) ⟨fo_Pre_blind, fo_rc0 hK hP (by decide), fo_Pre_at hP hK (hD _)⟩ rfl rfl hl.1 rfl (lv_room (Nat.le_of_ble_eq_true rfl)) dX0_hear_11 ⟨Nat.zero_le _, Nat.zero_le _⟩) hS (fun H locs hP hS => ?_)
      refine lv_if_eq (tgt := 27) hx hb dX0_hear_14 (by decide) (fun c6 => ?_) (fun c6 => ?_)
      · replace h0 := fo_itT c6 h0
        refine lv_bipush (v := -2) hx hb dX0_hear_27 (by decide) ?_
        have hr7 := Option.some.inj h0
        subst hr7
        exact kr _ ls _ _ dX0_hear_29 hP hS
      · replace h0 := fo_itF c6 h0
        refine lv_iload_n hx hb dX0_hear_17 rfl (lv_at hl 3 rfl) ?_
        refine lv_if_lt (tgt := 27) hx hb dX0_hear_18 (by decide) (fun c8 => ?_) (fun c8 => ?_)
        · replace h0 := fo_itT c8 h0
          refine lv_bipush (v := -2) hx hb dX0_hear_27 (by decide) ?_
          have hr9 := Option.some.inj h0
          subst hr9
          exact kr _ ls _ _ dX0_hear_29 hP hS
        · replace h0 := fo_itF c8 h0
          refine lv_iload_n hx hb dX0_hear_21 rfl (lv_at hl 3 rfl) ?_
          refine lv_ldc (v := 1000000) hx hb hown (fo_k0_109 hT) dX0_hear_22 ?_
          refine lv_icmp_le (tgt := 30) hx hb dX0_hear_24 (by decide) (fun c10 => ?_) (fun c10 => ?_)
          · replace h0 := fo_itT c10 h0
            refine lv_aload_n hx hb dX0_hear_30 rfl (lv_at hl 0 rfl) ?_
            refine fo_g0_93 hx hb hT hown hK hP (by decide) dX0_hear_31 ?_
            refine lv_if_eq (tgt := 40) hx hb dX0_hear_34 (by decide) (fun c11 => ?_) (fun c11 => ?_)
            · replace h0 := fo_itT c11 h0
              refine lv_aload_n hx hb dX0_hear_40 rfl (lv_at hl 0 rfl) ?_
              refine fo_g0_21 hx hb hT hown hK hP (by decide) dX0_hear_41 ?_
              refine lv_iload_n hx hb dX0_hear_44 rfl (lv_at hl 2 rfl) ?_
              obtain ⟨g12, h0⟩ := fo_gd h0 hN0
              refine fo_aald_4 hx hb hK hP (by decide) g12 dX0_hear_45 ?_
              refine fo_g0_110 hx hb hT hown hK hP (fo_in g12) dX0_hear_46 ?_
              refine lv_astore (lv' := [(4, .ref (ad (fo_lay 15 a2.toNatClampNeg))), (0, .ref (ad (fo_lay 0 0))), (1, .int a1), (2, .int a2), (3, .int a3)]) hx hb dX0_hear_49 hl (by decide) rfl (fun ls hl => ?_)
              refine lv_aload hx hb dX0_hear_51 (lv_at hl 0 rfl) ?_
              refine lv_iload_n hx hb dX0_hear_53 rfl (lv_at hl 2 rfl) ?_
              obtain ⟨g13, h0⟩ := fo_gd h0 hN0
              refine fo_iald (k := 15) (n := 5) hx hb hK hP (by decide) (fo_in g12) (fun _ _ => rfl) g13 dX0_hear_54 ?_
              refine lv_ldc (v := 1000001) hx hb hown (fo_k0_113 hT) dX0_hear_55 ?_
              refine lv_icmp_eq (tgt := 63) hx hb dX0_hear_57 (by decide) (fun c14 => ?_) (fun c14 => ?_)
              · replace h0 := fo_itT c14 h0
                refine lv_aload hx hb dX0_hear_63 (lv_at hl 0 rfl) ?_
                refine lv_iload_n hx hb dX0_hear_65 rfl (lv_at hl 2 rfl) ?_
                refine lv_iload_n hx hb dX0_hear_66 rfl (lv_at hl 4 rfl) ?_
                obtain ⟨g15, h0⟩ := fo_gd h0 hN0
                refine fo_iast (k := 15) (n := 5) hx hb hK hP hD hS (by decide) (fo_in g12) (fun _ _ => rfl) g15 dX0_hear_67 (fun H locs hP hS => ?_)
                refine lv_iconst (v := 1) hx hb dX0_hear_68 (by decide) ?_
                have hr16 := Option.some.inj h0
                subst hr16
                exact kr _ ls _ _ dX0_hear_69 hP hS
              · replace h0 := fo_itF c14 h0
                refine lv_bipush (v := -6) hx hb dX0_hear_60 (by decide) ?_
                have hr17 := Option.some.inj h0
                subst hr17
                exact kr _ ls _ _ dX0_hear_62 hP hS
            · replace h0 := fo_itF c11 h0
              refine lv_bipush (v := -4) hx hb dX0_hear_37 (by decide) ?_
              have hr18 := Option.some.inj h0
              subst hr18
              exact kr _ ls _ _ dX0_hear_39 hP hS
          · replace h0 := fo_itF c10 h0
            refine lv_bipush (v := -2) hx hb dX0_hear_27 (by decide) ?_
            have hr19 := Option.some.inj h0
            subst hr19
            exact kr _ ls _ _ dX0_hear_29 hP hS
theorem c_q_FairOrder_hear (l : Launch) (D : va_G) (ca : Nat → ClassId) (ad : Nat → Nat) (sz : Nat) {σ : fo_S} {a1 : Int32} {a2 : Int32} {a3 : Int32}  {res : Int32 × fo_S} (h0 : q_FairOrder_hear σ a1 a2 a3 = some res) : Met l yX0_hear ws_q_FairOrder_hear rm_q_FairOrder_hear (fo_Pre 51 D vwCl (fo_tys ca) ad (fo_ce ca ad σ) sz [.ref (ad (fo_lay 0 0)), .int a1, .int a2, .int a3]) (fo_PoI 51 D vwCl (fo_tys ca) ad (fo_ce ca ad res.2) sz res.1) 0 0 (fo_A 51 ad sz) :=
  fo_mkI (by decide) (fun C0 kr hP => b_q_FairOrder_hear C0 (Nat.le_refl _) (Nat.le_refl _) (Nat.zero_le _)  h0 kr hP)
def q_Call_tell (σ : fo_S) (i0 : Nat) (a1 : Int32) (a2 : Int32) (a3 : Int32) : Option (fo_S) :=
  some (fo_pI (fo_pI (fo_pI (fo_pI σ 14 i0 4 (1 : Int32)) 14 i0 5 a1) 14 i0 6 a2) 14 i0 7 a3)
set_option maxHeartbeats 4000000 in
set_option maxRecDepth 100000 in
theorem b_q_Call_tell {p : Program} {l : Launch} {e : Env} {R : Room} {s : State} {m : MethodId} {args : Array Value} {below : List Frame} {meth : Method} {c : Code} {Q : State → Prop} {D : va_G} {ca : Nat → ClassId} {ad : Nat → Nat} (C0 : fo_CX p s m args c cX1_tell 4 RX1 D ca ad) (hRf : 0 ≤ R.frames) (hRl : 0 ≤ R.locals) (hRc : 0 ≤ R.cells) {σ : fo_S} {i0 : Nat} {a1 : Int32} {a2 : Int32} {a3 : Int32} (hi0 : i0 < 16) {res : fo_S} (h0 : q_Call_tell σ i0 a1 a2 a3 = some res) (kr : ∀ (pc : Nat) (ls : Array Slot) (H : Heap) (locs : List Loc), decode cX1_tell pc = .ok (.return_, 1) → va_P D vwCl (fo_vx 51 ad (fo_ce ca ad res)) H → va_S (fo_A 51 ad s.heap.size) s.heap H locs → W p l e R s m args below meth c H locs 0 0 Q (F0 m pc ls [])) (hP : va_P D vwCl (fo_vx 51 ad (fo_ce ca ad σ)) s.heap) : W p l e R s m args below meth c s.heap [] 0 0 Q (entryFrame m ([.ref (ad (fo_lay 14 i0)), .int a1, .int a2, .int a3] : List Value).toArray 4) := by
  obtain ⟨hx, hb, hml, hown, hT, hK, hD⟩ := C0
  have hN0 : (some res) ≠ none := fun q => by cases q
  unfold q_Call_tell at h0
  have hS : va_S (fo_A 51 ad s.heap.size) s.heap s.heap [] := va_S.rf
  have hl := lv_entry ([.ref (ad (fo_lay 14 i0)), .int a1, .int a2, .int a3]) (n := 4) (Nat.le_of_ble_eq_true rfl)
  rw [lg_entry_eq]
  generalize (lg_sl ([.ref (ad (fo_lay 14 i0)), .int a1, .int a2, .int a3]) ++ List.replicate (4 - (lg_sl ([.ref (ad (fo_lay 14 i0)), .int a1, .int a2, .int a3])).length) Slot.unset).toArray = ls at hl ⊢
  have hl : lv_has ls 4 [(0, .ref (ad (fo_lay 14 i0))), (1, .int a1), (2, .int a2), (3, .int a3)] := hl
  refine lv_aload_n hx hb dX1_tell_0 rfl (lv_at hl 0 rfl) ?_
  refine lv_iconst (v := 1) hx hb dX1_tell_1 (by decide) ?_
  refine fo_p1_26 hx hb hT hown hK hP hD hS hi0 rfl rfl dX1_tell_2 (fun H locs hP hS => ?_)
  refine lv_aload_n hx hb dX1_tell_5 rfl (lv_at hl 0 rfl) ?_
  refine lv_iload_n hx hb dX1_tell_6 rfl (lv_at hl 1 rfl) ?_
  refine fo_p1_41 hx hb hT hown hK hP hD hS hi0 dX1_tell_7 (fun H locs hP hS => ?_)
  refine lv_aload_n hx hb dX1_tell_10 rfl (lv_at hl 0 rfl) ?_
  refine lv_iload_n hx hb dX1_tell_11 rfl (lv_at hl 2 rfl) ?_
  refine fo_p1_44 hx hb hT hown hK hP hD hS hi0 dX1_tell_12 (fun H locs hP hS => ?_)
  refine lv_aload_n hx hb dX1_tell_15 rfl (lv_at hl 0 rfl) ?_
  refine lv_iload_n hx hb dX1_tell_16 rfl (lv_at hl 3 rfl) ?_
  refine fo_p1_47 hx hb hT hown hK hP hD hS hi0 dX1_tell_17 (fun H locs hP hS => ?_)
  have hr1 := Option.some.inj h0
  subst hr1
  exact kr _ ls _ _ dX1_tell_20 hP hS
theorem c_q_Call_tell (l : Launch) (D : va_G) (ca : Nat → ClassId) (ad : Nat → Nat) (sz : Nat) {σ : fo_S} {i0 : Nat} {a1 : Int32} {a2 : Int32} {a3 : Int32} (hi0 : i0 < 16) {res : fo_S} (h0 : q_Call_tell σ i0 a1 a2 a3 = some res) : Met l yX1_tell ws_q_Call_tell rm_q_Call_tell (fo_Pre 51 D vwCl (fo_tys ca) ad (fo_ce ca ad σ) sz [.ref (ad (fo_lay 14 i0)), .int a1, .int a2, .int a3]) (fo_PoV 51 D vwCl (fo_tys ca) ad (fo_ce ca ad res) sz) 0 0 (fo_A 51 ad sz) :=
  fo_mkV (by decide) (fun C0 kr hP => b_q_Call_tell C0 (Nat.le_refl _) (Nat.le_refl _) (Nat.zero_le _) hi0 h0 kr hP)
def q_FairOrder_open (σ : fo_S) (a1 : Int32) (a2 : Int32) (a3 : Int32) (a4 : Int32) (a5 : Int32) : Option (Int32 × fo_S) :=
  (q_FairOrder_isCall σ a1).bind (fun x1 => if x1 = 0 then (some ((-2 : Int32), σ)) else ((q_FairOrder_areTerms σ a2 a3 a4).bind (fun x4 => if x4 = 0 then (some ((-2 : Int32), σ)) else (if fo_vi a1 16 then (if (σ.1 0 0 10) = (1 : Int32) then (if (σ.1 14 a1.toNatClampNeg 4) = 0 then ((q_FairOrder_sealOf σ a2 a3 a4 a5).bind (fun x10 => if (lg_cmp (σ.2 14 a1.toNatClampNeg 3) x10) = 0 then ((q_Call_tell σ a1.toNatClampNeg a2 a3 a4).bind (fun x12 =>  if fo_vi (x12.1 14 a1.toNatClampNeg 1) 9 then ( if fo_vi (x12.1 14 a1.toNatClampNeg 1) 9 then (some ((1 : Int32), fo_pJ x12 2 0 (x12.1 14 a1.toNatClampNeg 1).toNatClampNeg ((x12.2 2 0 (x12.1 14 a1.toNatClampNeg 1).toNatClampNeg) + (x12.2 14 a1.toNatClampNeg 2)))) else none) else none)) else (some ((-6 : Int32), σ)))) else (some ((-4 : Int32), σ))) else (some ((-4 : Int32), σ))) else none))))
set_option maxHeartbeats 4000000 in
set_option maxRecDepth 100000 in
theorem b_q_FairOrder_open {p : Program} {l : Launch} {e : Env} {R : Room} {s : State} {m : MethodId} {args : Array Value} {below : List Frame} {meth : Method} {c : Code} {Q : State → Prop} {D : va_G} {ca : Nat → ClassId} {ad : Nat → Nat} (C0 : fo_CX p s m args c cX0_open 7 RX0 D ca ad) (hRf : 1 ≤ R.frames) (hRl : 25 ≤ R.locals) (hRc : 0 ≤ R.cells) {σ : fo_S} {a1 : Int32} {a2 : Int32} {a3 : Int32} {a4 : Int32} {a5 : Int32}  {res : Int32 × fo_S} (h0 : q_FairOrder_open σ a1 a2 a3 a4 a5 = some res) (kr : ∀ (pc : Nat) (ls : Array Slot) (H : Heap) (locs : List Loc), decode cX0_open pc = .ok (.ireturn, 1) → va_P D vwCl (fo_vx 51 ad (fo_ce ca ad res.2)) H → va_S (fo_A 51 ad s.heap.size) s.heap H locs → W p l e R s m args below meth c H locs 0 0 Q (F0 m pc ls [.int res.1])) (hP : va_P D vwCl (fo_vx 51 ad (fo_ce ca ad σ)) s.heap) : W p l e R s m args below meth c s.heap [] 0 0 Q (entryFrame m ([.ref (ad (fo_lay 0 0)), .int a1, .int a2, .int a3, .int a4, .int a5] : List Value).toArray 7) := by
  obtain ⟨hx, hb, hml, hown, hT, hK, hD⟩ := C0
  have hN0 : (some res) ≠ none := fun q => by cases q
  unfold q_FairOrder_open at h0
  have hS : va_S (fo_A 51 ad s.heap.size) s.heap s.heap [] := va_S.rf
  have hl := lv_entry ([.ref (ad (fo_lay 0 0)), .int a1, .int a2, .int a3, .int a4, .int a5]) (n := 7) (Nat.le_of_ble_eq_true rfl)
  rw [lg_entry_eq]
  generalize (lg_sl ([.ref (ad (fo_lay 0 0)), .int a1, .int a2, .int a3, .int a4, .int a5]) ++ List.replicate (7 - (lg_sl ([.ref (ad (fo_lay 0 0)), .int a1, .int a2, .int a3, .int a4, .int a5])).length) Slot.unset).toArray = ls at hl ⊢
  have hl : lv_has ls 7 [(0, .ref (ad (fo_lay 0 0))), (1, .int a1), (2, .int a2), (3, .int a3), (4, .int a4), (5, .int a5)] := hl
  refine lv_aload_n hx hb dX0_open_0 rfl (lv_at hl 0 rfl) ?_
  refine lv_iload_n hx hb dX0_open_1 rfl (lv_at hl 1 rfl) ?_
  obtain ⟨x1, hx1, h0⟩ := fo_bd h0 hN0
  refine fo_calli (va_runV (H := _) (As := [.int a1]) (rest := []) ⟨hx, hb, hml, hown, hT⟩ (c_q_FairOrder_isCall l D ca ad _ hx1) (fo_c0_106 hT ⟨Nat.le_trans (Nat.le_of_ble_eq_true rfl) hRf, Nat.le_trans (Nat.le_of_ble_eq_true rfl) hRl⟩) ⟨fo_Pre_blind, fo_rc0 hK hP (by decide), fo_Pre_at hP hK (hD _)⟩ rfl rfl hl.1 rfl (lv_room (Nat.le_of_ble_eq_true rfl)) dX0_open_2 ⟨Nat.zero_le _, Nat.zero_le _⟩) hS (fun H locs hP hS => ?_)
  refine lv_if_eq (tgt := 18) hx hb dX0_open_5 (by decide) (fun c2 => ?_) (fun c2 => ?_)
  · replace h0 := fo_itT c2 h0
    refine lv_bipush (v := -2) hx hb dX0_open_18 (by decide) ?_
    have hr3 := Option.some.inj h0
    subst hr3
    exact kr _ ls _ _ dX0_open_20 hP hS
  · replace h0 := fo_itF c2 h0
    refine lv_iload_n hx hb dX0_open_8 rfl (lv_at hl 2 rfl) ?_
    refine lv_iload_n hx hb dX0_open_9 rfl (lv_at hl 3 rfl) ?_
    refine lv_iload hx hb dX0_open_10 (lv_at hl 4 rfl) ?_
    obtain ⟨x4, hx4, h0⟩ := fo_bd h0 hN0
    refine fo_calli (va_runS (H := _) (As := [.int a2, .int a3, .int a4]) (rest := []) ⟨hx, hb, hml, hown, hT⟩ (c_q_FairOrder_areTerms l D ca ad _ hx4) (fo_c0_79 hT ⟨Nat.le_trans (Nat.le_of_ble_eq_true rfl) hRf, Nat.le_trans (Nat.le_of_ble_eq_true rfl) hRl⟩) ⟨fo_Pre_blind, fo_Pre_at hP hK (hD _)⟩ rfl rfl hl.1 rfl (lv_room (Nat.le_of_ble_eq_true rfl)) dX0_open_12 ⟨Nat.zero_le _, Nat.zero_le _⟩) hS (fun H locs hP hS => ?_)
    refine lv_if_ne (tgt := 21) hx hb dX0_open_15 (by decide) (fun c5 => ?_) (fun c5 => ?_)
    · replace h0 := fo_itF c5 h0
      refine lv_aload_n hx hb dX0_open_21 rfl (lv_at hl 0 rfl) ?_
      refine fo_g0_21 hx hb hT hown hK hP (by decide) dX0_open_22 ?_
      refine lv_iload_n hx hb dX0_open_25 rfl (lv_at hl 1 rfl) ?_
      obtain ⟨g6, h0⟩ := fo_gd h0 hN0
      refine fo_aald_4 hx hb hK hP (by decide) g6 dX0_open_26 ?_
      refine lv_astore (lv' := [(6, .ref (ad (fo_lay 14 a1.toNatClampNeg))), (0, .ref (ad (fo_lay 0 0))), (1, .int a1), (2, .int a2), (3, .int a3), (4, .int a4), (5, .int a5)]) hx hb dX0_open_27 hl (by decide) rfl (fun ls hl => ?_)
      refine lv_aload_n hx hb dX0_open_29 rfl (lv_at hl 1 rfl) ?_
      refine fo_g0_93 hx hb hT hown hK hP (by decide) dX0_open_30 ?_
      refine lv_iconst (v := 1) hx hb dX0_open_33 (by decide) ?_
      refine lv_icmp_ne (tgt := 45) hx hb dX0_open_34 (by decide) (fun c7 => ?_) (fun c7 => ?_)
      · replace h0 := fo_itF c7 h0
        refine lv_bipush (v := -4) hx hb dX0_open_45 (by decide) ?_
        have hr8 := Option.some.inj h0
        subst hr8
        exact kr _ ls _ _ dX0_open_47 hP hS
      · replace h0 := fo_itT c7 h0
        refine lv_aload hx hb dX0_open_37 (lv_at hl 0 rfl) ?_
        refine fo_g0_114 hx hb hT hown hK hP (fo_in g6) dX0_open_39 ?_
        refine lv_if_eq (tgt := 48) hx hb dX0_open_42 (by decide) (fun c9 => ?_) (fun c9 => ?_)
        · replace h0 := fo_itT c9 h0
          refine lv_aload hx hb dX0_open_48 (lv_at hl 0 rfl) ?_
          refine fo_g0_118 hx hb hT hown hK hP (fo_in g6) dX0_open_50 ?_
          refine lv_iload_n hx hb dX0_open_53 rfl (lv_at hl 3 rfl) ?_
          refine lv_iload_n hx hb dX0_open_54 rfl (lv_at hl 4 rfl) ?_
          refine lv_iload hx hb dX0_open_55 (lv_at hl 5 rfl) ?_
          refine lv_iload hx hb dX0_open_57 (lv_at hl 6 rfl) ?_
          obtain ⟨x10, hx10, h0⟩ := fo_bd h0 hN0
          refine fo_calll (va_runS (H := _) (As := [.int a2, .int a3, .int a4, .int a5]) (rest := [.long (σ.2 14 a1.toNatClampNeg 3)]) ⟨hx, hb, hml, hown, hT⟩ (c_q_FairOrder_sealOf l D ca ad _ hx10) (fo_c0_83 hT ⟨Nat.le_trans (Nat.le_of_ble_eq_true rfl) hRf, Nat.le_trans (Nat.le_of_ble_eq_true rfl) hRl⟩) ⟨fo_Pre_blind, fo_Pre_at hP hK (hD _)⟩ rfl rfl hl.1 rfl (lv_room (Nat.le_of_ble_eq_true rfl)) dX0_open_59 ⟨Nat.zero_le _, Nat.zero_le _⟩) hS (fun H locs hP hS => ?_)
          refine W.lcmp hx hb dX0_open_62 ?_
          refine lv_if_eq (tgt := 69) hx hb dX0_open_63 (by decide) (fun c11 => ?_) (fun c11 => ?_)
          · replace h0 := fo_itT c11 h0
            refine lv_aload hx hb dX0_open_69 (lv_at hl 0 rfl) ?_
            refine lv_iload_n hx hb dX0_open_71 rfl (lv_at hl 3 rfl) ?_
            refine lv_iload_n hx hb dX0_open_72 rfl (lv_at hl 4 rfl) ?_
            refine lv_iload hx hb dX0_open_73 (lv_at hl 5 rfl) ?_
            obtain ⟨x12, hx12, h0⟩ := fo_bd h0 hN0
            refine fo_callv (va_runV (H := _) (As := [.int a2, .int a3, .int a4]) (rest := []) ⟨hx, hb, hml, hown, hT⟩ (c_q_Call_tell l D ca ad _ (fo_in g6) hx12) (fo_c0_121 hT ⟨Nat.le_trans (Nat.le_of_ble_eq_true rfl) hRf, Nat.le_trans (Nat.le_of_ble_eq_true rfl) hRl⟩) ⟨fo_Pre_blind, fo_rc14 hK hP (fo_in g6), fo_Pre_at hP hK (hD _)⟩ rfl rfl hl.1 rfl (lv_room (Nat.le_of_ble_eq_true rfl)) dX0_open_75 ⟨Nat.zero_le _, Nat.zero_le _⟩) hS (fun H locs hP hS => ?_)
            refine lv_aload_n hx hb dX0_open_78 rfl (lv_at hl 1 rfl) ?_
            refine fo_g0_12 hx hb hT hown hK hP (by decide) dX0_open_79 ?_
            refine fo_g0_99 hx hb hT hown hK hP (by decide) dX0_open_82 ?_
            refine lv_aload hx hb dX0_open_85 (lv_at hl 0 rfl) ?_
            refine fo_g0_125 hx hb hT hown hK hP (fo_in g6) dX0_open_87 ?_
            refine lv_dup2_11 hx hb dX0_open_90 rfl rfl ?_
            obtain ⟨g13, h0⟩ := fo_gd h0 hN0
            refine fo_lald (k := 2) (n := 9) hx hb hK hP (by decide) (by decide) (fun _ _ => rfl) g13 dX0_open_91 ?_
            refine lv_aload hx hb dX0_open_92 (lv_at hl 0 rfl) ?_
            refine fo_g0_128 hx hb hT hown hK hP (fo_in g6) dX0_open_94 ?_
            refine lv_ladd hx hb dX0_open_97 ?_
            obtain ⟨g14, h0⟩ := fo_gd h0 hN0
            refine fo_last (k := 2) (n := 9) hx hb hK hP hD hS (by decide) (by decide) (fun _ _ => rfl) g14 dX0_open_98 (fun H locs hP hS => ?_)
            refine lv_iconst (v := 1) hx hb dX0_open_99 (by decide) ?_
            have hr15 := Option.some.inj h0
            subst hr15
            exact kr _ ls _ _ dX0_open_100 hP hS
          · replace h0 := fo_itF c11 h0
            refine lv_bipush (v := -6) hx hb dX0_open_66 (by decide) ?_
            have hr16 := Option.some.inj h0
            subst hr16
            exact kr _ ls _ _ dX0_open_68 hP hS
        · replace h0 := fo_itF c9 h0
          refine lv_bipush (v := -4) hx hb dX0_open_45 (by decide) ?_
          have hr17 := Option.some.inj h0
          subst hr17
          exact kr _ ls _ _ dX0_open_47 hP hS
    · replace h0 := fo_itT c5 h0
      refine lv_bipush (v := -2) hx hb dX0_open_18 (by decide) ?_
      have hr18 := Option.some.inj h0
      subst hr18
      exact kr _ ls _ _ dX0_open_20 hP hS
theorem c_q_FairOrder_open (l : Launch) (D : va_G) (ca : Nat → ClassId) (ad : Nat → Nat) (sz : Nat) {σ : fo_S} {a1 : Int32} {a2 : Int32} {a3 : Int32} {a4 : Int32} {a5 : Int32}  {res : Int32 × fo_S} (h0 : q_FairOrder_open σ a1 a2 a3 a4 a5 = some res) : Met l yX0_open ws_q_FairOrder_open rm_q_FairOrder_open (fo_Pre 51 D vwCl (fo_tys ca) ad (fo_ce ca ad σ) sz [.ref (ad (fo_lay 0 0)), .int a1, .int a2, .int a3, .int a4, .int a5]) (fo_PoI 51 D vwCl (fo_tys ca) ad (fo_ce ca ad res.2) sz res.1) 0 0 (fo_A 51 ad sz) :=
  fo_mkI (by decide) (fun C0 kr hP => b_q_FairOrder_open C0 (Nat.le_refl _) (Nat.le_refl _) (Nat.zero_le _)  h0 kr hP)
def q_FairOrder_takeLostDeposits_L2  (s2 : Int32 × fo_S) : Option ((Int32 × fo_S) ⊕ (Int32 × fo_S)) :=
  if (s2.2.1 0 0 9) ≤ s2.1 then (some (.inr (s2.1, s2.2))) else (if fo_vi s2.1 16 then (if (s2.2.1 14 s2.1.toNatClampNeg 4) = 0 then (if fo_vi s2.1 16 then (some (.inl (s2.1 + (1 : Int32), fo_pJ s2.2 0 0 12 ((s2.2.2 0 0 12) + (s2.2.2 14 s2.1.toNatClampNeg 2))))) else none) else (some (.inl (s2.1 + (1 : Int32), s2.2)))) else none)
def q_FairOrder_takeLostDeposits (σ : fo_S)  : Option (fo_S) :=
  (fo_lp (q_FairOrder_takeLostDeposits_L2) fo_FU ((0 : Int32), σ)).bind (fun y2 => some y2.2)
set_option maxHeartbeats 4000000 in
set_option maxRecDepth 100000 in
theorem b_q_FairOrder_takeLostDeposits {p : Program} {l : Launch} {e : Env} {R : Room} {s : State} {m : MethodId} {args : Array Value} {below : List Frame} {meth : Method} {c : Code} {Q : State → Prop} {D : va_G} {ca : Nat → ClassId} {ad : Nat → Nat} (C0 : fo_CX p s m args c cX0_takeLostDeposits 2 RX0 D ca ad) (hRf : 0 ≤ R.frames) (hRl : 0 ≤ R.locals) (hRc : 0 ≤ R.cells) {σ : fo_S}   {res : fo_S} (h0 : q_FairOrder_takeLostDeposits σ = some res) (kr : ∀ (pc : Nat) (ls : Array Slot) (H : Heap) (locs : List Loc), decode cX0_takeLostDeposits pc = .ok (.return_, 1) → va_P D vwCl (fo_vx 51 ad (fo_ce ca ad res)) H → va_S (fo_A 51 ad s.heap.size) s.heap H locs → W p l e R s m args below meth c H locs 0 0 Q (F0 m pc ls [])) (hP : va_P D vwCl (fo_vx 51 ad (fo_ce ca ad σ)) s.heap) : W p l e R s m args below meth c s.heap [] 0 0 Q (entryFrame m ([.ref (ad (fo_lay 0 0))] : List Value).toArray 2) := by
  obtain ⟨hx, hb, hml, hown, hT, hK, hD⟩ := C0
  have hN0 : (some res) ≠ none := fun q => by cases q
  unfold q_FairOrder_takeLostDeposits at h0
  have hS : va_S (fo_A 51 ad s.heap.size) s.heap s.heap [] := va_S.rf
  have hl := lv_entry ([.ref (ad (fo_lay 0 0))]) (n := 2) (Nat.le_of_ble_eq_true rfl)
  rw [lg_entry_eq]
  generalize (lg_sl ([.ref (ad (fo_lay 0 0))]) ++ List.replicate (2 - (lg_sl ([.ref (ad (fo_lay 0 0))])).length) Slot.unset).toArray = ls at hl ⊢
  have hl : lv_has ls 2 [(0, .ref (ad (fo_lay 0 0)))] := hl
  refine lv_iconst (v := 0) hx hb dX0_takeLostDeposits_0 (by decide) ?_
  refine lv_istore_n (lv' := [(1, .int (0 : Int32)), (0, .ref (ad (fo_lay 0 0)))]) hx hb dX0_takeLostDeposits_1 rfl hl (by decide) rfl (fun ls hl => ?_)
  obtain ⟨y2, hy2, h0⟩ := fo_bd h0 hN0
  have ex2 : ∀ (H : Heap) (locs : List Loc) (ls : Array Slot), va_P D vwCl (fo_vx 51 ad (fo_ce ca ad y2.2)) H → va_S (fo_A 51 ad s.heap.size) s.heap H locs → lv_has ls 2 [] → W p l e R s m args below meth c H locs 0 0 Q (F0 m 46 ls []) := by
    intro H locs ls hP hS hl
    have hr6 := Option.some.inj h0
    subst hr6
    exact kr _ ls _ _ dX0_takeLostDeposits_46 hP hS
  have lp2 := fo_lp_ind (fun (s2 : Int32 × fo_S) => ∀ (H : Heap) (locs : List Loc) (ls : Array Slot), va_P D vwCl (fo_vx 51 ad (fo_ce ca ad s2.2)) H → va_S (fo_A 51 ad s.heap.size) s.heap H locs → lv_has ls 2 [(0, .ref (ad (fo_lay 0 0))), (1, .int s2.1)] → W p l e R s m args below meth c H locs 0 0 Q (F0 m 2 ls [])) (by
      intro s2 o1 h1 hN1 hL1 hE1 H locs ls hP hS hl
      unfold q_FairOrder_takeLostDeposits_L2 at h1
      refine lv_iload_n hx hb dX0_takeLostDeposits_2 rfl (lv_at hl 1 rfl) ?_
      refine lv_aload_n hx hb dX0_takeLostDeposits_3 rfl (lv_at hl 0 rfl) ?_
      refine fo_g0_96 hx hb hT hown hK hP (by decide) dX0_takeLostDeposits_4 ?_
      refine lv_icmp_ge (tgt := 46) hx hb dX0_takeLostDeposits_7 (by decide) (fun c1 => ?_) (fun c1 => ?_)
      · replace h1 := fo_itT c1 h1
        have hy2 := hE1 _ h1
        subst hy2
        exact ex2 _ _ ls hP hS (lv_sub hl [] rfl)
      · replace h1 := fo_itF c1 h1
        refine lv_aload_n hx hb dX0_takeLostDeposits_10 rfl (lv_at hl 0 rfl) ?_
        refine fo_g0_21 hx hb hT hown hK hP (by decide) dX0_takeLostDeposits_11 ?_
        refine lv_iload_n hx hb dX0_takeLostDeposits_14 rfl (lv_at hl 1 rfl) ?_
        obtain ⟨g3, h1⟩ := fo_gd h1 hN1
        refine fo_aald_4 hx hb hK hP (by decide) g3 dX0_takeLostDeposits_15 ?_
        refine fo_g0_114 hx hb hT hown hK hP (fo_in g3) dX0_takeLostDeposits_16 ?_
        refine lv_if_ne (tgt := 40) hx hb dX0_takeLostDeposits_19 (by decide) (fun c4 => ?_) (fun c4 => ?_)
        · replace h1 := fo_itF c4 h1
          refine lv_iinc (v := s2.1 + (1 : Int32)) (lv' := [(1, .int (s2.1 + (1 : Int32))), (0, .ref (ad (fo_lay 0 0)))]) hx hb dX0_takeLostDeposits_40 hl (k := 1) rfl rfl (by decide) rfl (fun ls hl => ?_)
          refine lv_goto (tgt := 2) hx hb dX0_takeLostDeposits_43 (by decide) ?_
          exact hL1 _ h1 _ _ ls hP hS (lv_sub hl [1, 0] rfl)
        · replace h1 := fo_itT c4 h1
          refine lv_aload_n hx hb dX0_takeLostDeposits_22 rfl (lv_at hl 0 rfl) ?_
          refine lv_dup hx hb dX0_takeLostDeposits_23 rfl ?_
          refine fo_g0_61 hx hb hT hown hK hP (by decide) dX0_takeLostDeposits_24 ?_
          refine lv_aload_n hx hb dX0_takeLostDeposits_27 rfl (lv_at hl 0 rfl) ?_
          refine fo_g0_21 hx hb hT hown hK hP (by decide) dX0_takeLostDeposits_28 ?_
          refine lv_iload_n hx hb dX0_takeLostDeposits_31 rfl (lv_at hl 1 rfl) ?_
          obtain ⟨g5, h1⟩ := fo_gd h1 hN1
          refine fo_aald_4 hx hb hK hP (by decide) g5 dX0_takeLostDeposits_32 ?_
          refine fo_g0_128 hx hb hT hown hK hP (fo_in g5) dX0_takeLostDeposits_33 ?_
          refine lv_ladd hx hb dX0_takeLostDeposits_36 ?_
          refine fo_p0_61 hx hb hT hown hK hP hD hS (by decide) dX0_takeLostDeposits_37 (fun H locs hP hS => ?_)
          refine lv_iinc (v := s2.1 + (1 : Int32)) (lv' := [(1, .int (s2.1 + (1 : Int32))), (0, .ref (ad (fo_lay 0 0)))]) hx hb dX0_takeLostDeposits_40 hl (k := 1) rfl rfl (by decide) rfl (fun ls hl => ?_)
          refine lv_goto (tgt := 2) hx hb dX0_takeLostDeposits_43 (by decide) ?_
          exact hL1 _ h1 _ _ ls hP hS (lv_sub hl [1, 0] rfl)) _ _ hy2
  exact lp2 _ _ ls hP hS (lv_sub hl [1, 0] rfl)
theorem c_q_FairOrder_takeLostDeposits (l : Launch) (D : va_G) (ca : Nat → ClassId) (ad : Nat → Nat) (sz : Nat) {σ : fo_S}   {res : fo_S} (h0 : q_FairOrder_takeLostDeposits σ = some res) : Met l yX0_takeLostDeposits ws_q_FairOrder_takeLostDeposits rm_q_FairOrder_takeLostDeposits (fo_Pre 51 D vwCl (fo_tys ca) ad (fo_ce ca ad σ) sz [.ref (ad (fo_lay 0 0))]) (fo_PoV 51 D vwCl (fo_tys ca) ad (fo_ce ca ad res) sz) 0 0 (fo_A 51 ad sz) :=
  fo_mkV (by decide) (fun C0 kr hP => b_q_FairOrder_takeLostDeposits C0 (Nat.le_refl _) (Nat.le_refl _) (Nat.zero_le _)  h0 kr hP)
def q_FairOrder_next (σ : fo_S)  : Option (Int32 × fo_S) :=
  if (σ.1 0 0 10) = 0 then (some ((fo_pI σ 0 0 10 (1 : Int32)).1 0 0 10, fo_pI σ 0 0 10 (1 : Int32))) else (if (σ.1 0 0 10) = (1 : Int32) then ((q_FairOrder_takeLostDeposits (fo_pI σ 0 0 10 (2 : Int32))).bind (fun x5 => some (x5.1 0 0 10, x5))) else ((q_FairOrder_beginBlock (fo_pI σ 0 0 11 ((σ.1 0 0 11) + (1 : Int32)))).bind (fun x3 => some (x3.1 0 0 10, x3))))
set_option maxHeartbeats 4000000 in
set_option maxRecDepth 100000 in
theorem b_q_FairOrder_next {p : Program} {l : Launch} {e : Env} {R : Room} {s : State} {m : MethodId} {args : Array Value} {below : List Frame} {meth : Method} {c : Code} {Q : State → Prop} {D : va_G} {ca : Nat → ClassId} {ad : Nat → Nat} (C0 : fo_CX p s m args c cX0_next 1 RX0 D ca ad) (hRf : 1 ≤ R.frames) (hRl : 21 ≤ R.locals) (hRc : 0 ≤ R.cells) {σ : fo_S}   {res : Int32 × fo_S} (h0 : q_FairOrder_next σ = some res) (kr : ∀ (pc : Nat) (ls : Array Slot) (H : Heap) (locs : List Loc), decode cX0_next pc = .ok (.ireturn, 1) → va_P D vwCl (fo_vx 51 ad (fo_ce ca ad res.2)) H → va_S (fo_A 51 ad s.heap.size) s.heap H locs → W p l e R s m args below meth c H locs 0 0 Q (F0 m pc ls [.int res.1])) (hP : va_P D vwCl (fo_vx 51 ad (fo_ce ca ad σ)) s.heap) : W p l e R s m args below meth c s.heap [] 0 0 Q (entryFrame m ([.ref (ad (fo_lay 0 0))] : List Value).toArray 1) := by
  obtain ⟨hx, hb, hml, hown, hT, hK, hD⟩ := C0
  have hN0 : (some res) ≠ none := fun q => by cases q
  unfold q_FairOrder_next at h0
  have hS : va_S (fo_A 51 ad s.heap.size) s.heap s.heap [] := va_S.rf
  have hl := lv_entry ([.ref (ad (fo_lay 0 0))]) (n := 1) (Nat.le_of_ble_eq_true rfl)
  rw [lg_entry_eq]
  generalize (lg_sl ([.ref (ad (fo_lay 0 0))]) ++ List.replicate (1 - (lg_sl ([.ref (ad (fo_lay 0 0))])).length) Slot.unset).toArray = ls at hl ⊢
  have hl : lv_has ls 1 [(0, .ref (ad (fo_lay 0 0)))] := hl
  refine lv_aload_n hx hb dX0_next_0 rfl (lv_at hl 0 rfl) ?_
  refine fo_g0_93 hx hb hT hown hK hP (by decide) dX0_next_1 ?_
  refine lv_if_ne (tgt := 15) hx hb dX0_next_4 (by decide) (fun c1 => ?_) (fun c1 => ?_)
  · replace h0 := fo_itF c1 h0
    refine lv_aload_n hx hb dX0_next_15 rfl (lv_at hl 0 rfl) ?_
    refine fo_g0_93 hx hb hT hown hK hP (by decide) dX0_next_16 ?_
    refine lv_iconst (v := 1) hx hb dX0_next_19 (by decide) ?_
    refine lv_icmp_ne (tgt := 35) hx hb dX0_next_20 (by decide) (fun c2 => ?_) (fun c2 => ?_)
    · replace h0 := fo_itF c2 h0
      refine lv_aload_n hx hb dX0_next_35 rfl (lv_at hl 0 rfl) ?_
      refine lv_dup hx hb dX0_next_36 rfl ?_
      refine fo_g0_65 hx hb hT hown hK hP (by decide) dX0_next_37 ?_
      refine lv_iconst (v := 1) hx hb dX0_next_40 (by decide) ?_
      refine lv_iadd hx hb dX0_next_41 ?_
      refine fo_p0_65 hx hb hT hown hK hP hD hS (by decide) dX0_next_42 (fun H locs hP hS => ?_)
      refine lv_aload_n hx hb dX0_next_45 rfl (lv_at hl 0 rfl) ?_
      obtain ⟨x3, hx3, h0⟩ := fo_bd h0 hN0
      refine fo_callv (va_runV (H := _) (As := []) (rest := []) ⟨hx, hb, hml, hown, hT⟩ (c_q_FairOrder_beginBlock l D ca ad _ hx3) (fo_c0_68 hT ⟨Nat.le_trans (Nat.le_of_ble_eq_true rfl) hRf, Nat.le_trans (Nat.le_of_ble_eq_true rfl) hRl⟩) ⟨fo_Pre_blind, fo_rc0 hK hP (by decide), fo_Pre_at hP hK (hD _)⟩ rfl rfl hl.1 rfl (lv_room (Nat.le_of_ble_eq_true rfl)) dX0_next_46 ⟨Nat.zero_le _, Nat.zero_le _⟩) hS (fun H locs hP hS => ?_)
      refine lv_aload_n hx hb dX0_next_49 rfl (lv_at hl 0 rfl) ?_
      refine fo_g0_93 hx hb hT hown hK hP (by decide) dX0_next_50 ?_
      have hr4 := Option.some.inj h0
      subst hr4
      exact kr _ ls _ _ dX0_next_53 hP hS
    · replace h0 := fo_itT c2 h0
      refine lv_aload_n hx hb dX0_next_23 rfl (lv_at hl 0 rfl) ?_
      refine lv_iconst (v := 2) hx hb dX0_next_24 (by decide) ?_
      refine fo_p0_93 hx hb hT hown hK hP hD hS (by decide) dX0_next_25 (fun H locs hP hS => ?_)
      refine lv_aload_n hx hb dX0_next_28 rfl (lv_at hl 0 rfl) ?_
      obtain ⟨x5, hx5, h0⟩ := fo_bd h0 hN0
      refine fo_callv (va_runV (H := _) (As := []) (rest := []) ⟨hx, hb, hml, hown, hT⟩ (c_q_FairOrder_takeLostDeposits l D ca ad _ hx5) (fo_c0_131 hT ⟨Nat.le_trans (Nat.le_of_ble_eq_true rfl) hRf, Nat.le_trans (Nat.le_of_ble_eq_true rfl) hRl⟩) ⟨fo_Pre_blind, fo_rc0 hK hP (by decide), fo_Pre_at hP hK (hD _)⟩ rfl rfl hl.1 rfl (lv_room (Nat.le_of_ble_eq_true rfl)) dX0_next_29 ⟨Nat.zero_le _, Nat.zero_le _⟩) hS (fun H locs hP hS => ?_)
      refine lv_goto (tgt := 49) hx hb dX0_next_32 (by decide) ?_
      refine lv_aload_n hx hb dX0_next_49 rfl (lv_at hl 0 rfl) ?_
      refine fo_g0_93 hx hb hT hown hK hP (by decide) dX0_next_50 ?_
      have hr6 := Option.some.inj h0
      subst hr6
      exact kr _ ls _ _ dX0_next_53 hP hS
  · replace h0 := fo_itT c1 h0
    refine lv_aload_n hx hb dX0_next_7 rfl (lv_at hl 0 rfl) ?_
    refine lv_iconst (v := 1) hx hb dX0_next_8 (by decide) ?_
    refine fo_p0_93 hx hb hT hown hK hP hD hS (by decide) dX0_next_9 (fun H locs hP hS => ?_)
    refine lv_goto (tgt := 49) hx hb dX0_next_12 (by decide) ?_
    refine lv_aload_n hx hb dX0_next_49 rfl (lv_at hl 0 rfl) ?_
    refine fo_g0_93 hx hb hT hown hK hP (by decide) dX0_next_50 ?_
    have hr7 := Option.some.inj h0
    subst hr7
    exact kr _ ls _ _ dX0_next_53 hP hS
theorem c_q_FairOrder_next (l : Launch) (D : va_G) (ca : Nat → ClassId) (ad : Nat → Nat) (sz : Nat) {σ : fo_S}   {res : Int32 × fo_S} (h0 : q_FairOrder_next σ = some res) : Met l yX0_next ws_q_FairOrder_next rm_q_FairOrder_next (fo_Pre 51 D vwCl (fo_tys ca) ad (fo_ce ca ad σ) sz [.ref (ad (fo_lay 0 0))]) (fo_PoI 51 D vwCl (fo_tys ca) ad (fo_ce ca ad res.2) sz res.1) 0 0 (fo_A 51 ad sz) :=
  fo_mkI (by decide) (fun C0 kr hP => b_q_FairOrder_next C0 (Nat.le_refl _) (Nat.le_refl _) (Nat.zero_le _)  h0 kr hP)
def q_Integer_compare (σ : fo_S) (a0 : Int32) (a1 : Int32) : Option (Int32) :=
  if a1 ≤ a0 then (if a0 = a1 then (some (0 : Int32)) else (some (1 : Int32))) else (some (-1 : Int32))
set_option maxHeartbeats 4000000 in
set_option maxRecDepth 100000 in
theorem b_q_Integer_compare {p : Program} {l : Launch} {e : Env} {R : Room} {s : State} {m : MethodId} {args : Array Value} {below : List Frame} {meth : Method} {c : Code} {Q : State → Prop} {D : va_G} {ca : Nat → ClassId} {ad : Nat → Nat} (C0 : fo_CX p s m args c cX7_compare 2 RX7 D ca ad) (hRf : 0 ≤ R.frames) (hRl : 0 ≤ R.locals) (hRc : 0 ≤ R.cells) {σ : fo_S} {a0 : Int32} {a1 : Int32}  {res : Int32} (h0 : q_Integer_compare σ a0 a1 = some res) (kr : ∀ (pc : Nat) (ls : Array Slot) (H : Heap) (locs : List Loc), decode cX7_compare pc = .ok (.ireturn, 1) → va_P D vwCl (fo_vx 51 ad (fo_ce ca ad σ)) H → va_S (fo_A 51 ad s.heap.size) s.heap H locs → W p l e R s m args below meth c H locs 0 0 Q (F0 m pc ls [.int res])) (hP : va_P D vwCl (fo_vx 51 ad (fo_ce ca ad σ)) s.heap) : W p l e R s m args below meth c s.heap [] 0 0 Q (entryFrame m ([.int a0, .int a1] : List Value).toArray 2) := by
  obtain ⟨hx, hb, hml, hown, hT, hK, hD⟩ := C0
  have hN0 : (some res) ≠ none := fun q => by cases q
  unfold q_Integer_compare at h0
  have hS : va_S (fo_A 51 ad s.heap.size) s.heap s.heap [] := va_S.rf
  have hl := lv_entry ([.int a0, .int a1]) (n := 2) (Nat.le_of_ble_eq_true rfl)
  rw [lg_entry_eq]
  generalize (lg_sl ([.int a0, .int a1]) ++ List.replicate (2 - (lg_sl ([.int a0, .int a1])).length) Slot.unset).toArray = ls at hl ⊢
  have hl : lv_has ls 2 [(0, .int a0), (1, .int a1)] := hl
  refine lv_iload_n hx hb dX7_compare_0 rfl (lv_at hl 0 rfl) ?_
  refine lv_iload_n hx hb dX7_compare_1 rfl (lv_at hl 1 rfl) ?_
  refine lv_icmp_ge (tgt := 9) hx hb dX7_compare_2 (by decide) (fun c1 => ?_) (fun c1 => ?_)
  · replace h0 := fo_itT c1 h0
    refine lv_iload_n hx hb dX7_compare_9 rfl (lv_at hl 0 rfl) ?_
    refine lv_iload_n hx hb dX7_compare_10 rfl (lv_at hl 1 rfl) ?_
    refine lv_icmp_ne (tgt := 18) hx hb dX7_compare_11 (by decide) (fun c2 => ?_) (fun c2 => ?_)
    · replace h0 := fo_itF c2 h0
      refine lv_iconst (v := 1) hx hb dX7_compare_18 (by decide) ?_
      have hr3 := Option.some.inj h0
      subst hr3
      exact kr _ ls _ _ dX7_compare_19 hP hS
    · replace h0 := fo_itT c2 h0
      refine lv_iconst (v := 0) hx hb dX7_compare_14 (by decide) ?_
      refine lv_goto (tgt := 19) hx hb dX7_compare_15 (by decide) ?_
      have hr4 := Option.some.inj h0
      subst hr4
      exact kr _ ls _ _ dX7_compare_19 hP hS
  · replace h0 := fo_itF c1 h0
    refine lv_iconst (v := -1) hx hb dX7_compare_5 (by decide) ?_
    refine lv_goto (tgt := 19) hx hb dX7_compare_6 (by decide) ?_
    have hr5 := Option.some.inj h0
    subst hr5
    exact kr _ ls _ _ dX7_compare_19 hP hS
theorem c_q_Integer_compare (l : Launch) (D : va_G) (ca : Nat → ClassId) (ad : Nat → Nat) (sz : Nat) {σ : fo_S} {a0 : Int32} {a1 : Int32}  {res : Int32} (h0 : q_Integer_compare σ a0 a1 = some res) : Met l yX7_compare ws_q_Integer_compare rm_q_Integer_compare (fo_Pre 51 D vwCl (fo_tys ca) ad (fo_ce ca ad σ) sz [.int a0, .int a1]) (fo_PoI 51 D vwCl (fo_tys ca) ad (fo_ce ca ad σ) sz res) 0 0 (fo_A 51 ad sz) :=
  fo_mkI (by decide) (fun C0 kr hP => b_q_Integer_compare C0 (Nat.le_refl _) (Nat.le_refl _) (Nat.zero_le _)  h0 kr hP)
def q_Call_isAheadOf_L4 (σ : fo_S) (i0 : Nat) (i1 : Nat) (s4 : Int32 × Int32) : Option ((Int32 × Int32) ⊕ (Int32 × Int32)) :=
  if (5 : Int32) ≤ s4.2 then (some (.inr (s4.1, s4.2))) else (if fo_vi s4.2 5 then ( if fo_vi s4.2 5 then ( (q_Integer_compare σ (σ.1 15 i1 s4.2.toNatClampNeg) (σ.1 15 i0 s4.2.toNatClampNeg)).bind (fun x5 => some (.inl (s4.1 + x5, s4.2 + (1 : Int32))))) else none) else none)
def q_Call_isAheadOf (σ : fo_S) (i0 : Nat) (i1 : Nat) : Option (Int32) :=
  (fo_lp (q_Call_isAheadOf_L4 σ i0 i1) fo_FU ((0 : Int32), (0 : Int32))).bind (fun y4 => if y4.1 ≤ 0 then (some (0 : Int32)) else (some (1 : Int32)))
set_option maxHeartbeats 4000000 in
set_option maxRecDepth 100000 in
theorem b_q_Call_isAheadOf {p : Program} {l : Launch} {e : Env} {R : Room} {s : State} {m : MethodId} {args : Array Value} {below : List Frame} {meth : Method} {c : Code} {Q : State → Prop} {D : va_G} {ca : Nat → ClassId} {ad : Nat → Nat} (C0 : fo_CX p s m args c cX1_isAheadOf 4 RX1 D ca ad) (hRf : 1 ≤ R.frames) (hRl : 21 ≤ R.locals) (hRc : 0 ≤ R.cells) {σ : fo_S} {i0 : Nat} {i1 : Nat} (hi0 : i0 < 16) (hi1 : i1 < 16) {res : Int32} (h0 : q_Call_isAheadOf σ i0 i1 = some res) (kr : ∀ (pc : Nat) (ls : Array Slot) (H : Heap) (locs : List Loc), narrow .boolean (.int res) = .int res → decode cX1_isAheadOf pc = .ok (.ireturn, 1) → va_P D vwCl (fo_vx 51 ad (fo_ce ca ad σ)) H → va_S (fo_A 51 ad s.heap.size) s.heap H locs → W p l e R s m args below meth c H locs 0 0 Q (F0 m pc ls [.int res])) (hP : va_P D vwCl (fo_vx 51 ad (fo_ce ca ad σ)) s.heap) : W p l e R s m args below meth c s.heap [] 0 0 Q (entryFrame m ([.ref (ad (fo_lay 14 i0)), .ref (ad (fo_lay 14 i1))] : List Value).toArray 4) := by
  obtain ⟨hx, hb, hml, hown, hT, hK, hD⟩ := C0
  have hN0 : (some res) ≠ none := fun q => by cases q
  unfold q_Call_isAheadOf at h0
  have hS : va_S (fo_A 51 ad s.heap.size) s.heap s.heap [] := va_S.rf
  have hl := lv_entry ([.ref (ad (fo_lay 14 i0)), .ref (ad (fo_lay 14 i1))]) (n := 4) (Nat.le_of_ble_eq_true rfl)
  rw [lg_entry_eq]
  generalize (lg_sl ([.ref (ad (fo_lay 14 i0)), .ref (ad (fo_lay 14 i1))]) ++ List.replicate (4 - (lg_sl ([.ref (ad (fo_lay 14 i0)), .ref (ad (fo_lay 14 i1))])).length) Slot.unset).toArray = ls at hl ⊢
  have hl : lv_has ls 4 [(0, .ref (ad (fo_lay 14 i0))), (1, .ref (ad (fo_lay 14 i1)))] := hl
  refine lv_iconst (v := 0) hx hb dX1_isAheadOf_0 (by decide) ?_
  refine lv_istore_n (lv' := [(2, .int (0 : Int32)), (0, .ref (ad (fo_lay 14 i0))), (1, .ref (ad (fo_lay 14 i1)))]) hx hb dX1_isAheadOf_1 rfl hl (by decide) rfl (fun ls hl => ?_)
  refine lv_iconst (v := 0) hx hb dX1_isAheadOf_2 (by decide) ?_
  refine lv_istore_n (lv' := [(3, .int (0 : Int32)), (2, .int (0 : Int32)), (0, .ref (ad (fo_lay 14 i0))), (1, .ref (ad (fo_lay 14 i1)))]) hx hb dX1_isAheadOf_3 rfl hl (by decide) rfl (fun ls hl => ?_)
  obtain ⟨y4, hy4, h0⟩ := fo_bd h0 hN0
  have ex4 : ∀ (H : Heap) (locs : List Loc) (ls : Array Slot), va_P D vwCl (fo_vx 51 ad (fo_ce ca ad σ)) H → va_S (fo_A 51 ad s.heap.size) s.heap H locs → lv_has ls 4 [(2, .int y4.1)] → W p l e R s m args below meth c H locs 0 0 Q (F0 m 33 ls []) := by
    intro H locs ls hP hS hl
    refine lv_iload_n hx hb dX1_isAheadOf_33 rfl (lv_at hl 0 rfl) ?_
    refine lv_if_le (tgt := 41) hx hb dX1_isAheadOf_34 (by decide) (fun c6 => ?_) (fun c6 => ?_)
    · replace h0 := fo_itT c6 h0
      refine lv_iconst (v := 0) hx hb dX1_isAheadOf_41 (by decide) ?_
      have hr7 := Option.some.inj h0
      subst hr7
      exact kr _ ls _ _ (fo_zn (Or.inl rfl)) dX1_isAheadOf_42 hP hS
    · replace h0 := fo_itF c6 h0
      refine lv_iconst (v := 1) hx hb dX1_isAheadOf_37 (by decide) ?_
      refine lv_goto (tgt := 42) hx hb dX1_isAheadOf_38 (by decide) ?_
      have hr8 := Option.some.inj h0
      subst hr8
      exact kr _ ls _ _ (fo_zn (Or.inr rfl)) dX1_isAheadOf_42 hP hS
  have lp4 := fo_lp_ind (fun (s4 : Int32 × Int32) => ∀ (H : Heap) (locs : List Loc) (ls : Array Slot), va_P D vwCl (fo_vx 51 ad (fo_ce ca ad σ)) H → va_S (fo_A 51 ad s.heap.size) s.heap H locs → lv_has ls 4 [(0, .ref (ad (fo_lay 14 i0))), (1, .ref (ad (fo_lay 14 i1))), (2, .int s4.1), (3, .int s4.2)] → W p l e R s m args below meth c H locs 0 0 Q (F0 m 4 ls [])) (by
      intro s4 o1 h1 hN1 hL1 hE1 H locs ls hP hS hl
      unfold q_Call_isAheadOf_L4 at h1
      refine lv_iload_n hx hb dX1_isAheadOf_4 rfl (lv_at hl 3 rfl) ?_
      refine lv_iconst (v := 5) hx hb dX1_isAheadOf_5 (by decide) ?_
      refine lv_icmp_ge (tgt := 33) hx hb dX1_isAheadOf_6 (by decide) (fun c1 => ?_) (fun c1 => ?_)
      · replace h1 := fo_itT c1 h1
        have hy2 := hE1 _ h1
        subst hy2
        exact ex4 _ _ ls hP hS (lv_sub hl [2] rfl)
      · replace h1 := fo_itF c1 h1
        refine lv_iload_n hx hb dX1_isAheadOf_9 rfl (lv_at hl 2 rfl) ?_
        refine lv_aload_n hx hb dX1_isAheadOf_10 rfl (lv_at hl 1 rfl) ?_
        refine fo_g1_9 hx hb hT hown hK hP hi1 dX1_isAheadOf_11 ?_
        refine lv_iload_n hx hb dX1_isAheadOf_14 rfl (lv_at hl 3 rfl) ?_
        obtain ⟨g3, h1⟩ := fo_gd h1 hN1
        refine fo_iald (k := 15) (n := 5) hx hb hK hP (by decide) hi1 (fun _ _ => rfl) g3 dX1_isAheadOf_15 ?_
        refine lv_aload_n hx hb dX1_isAheadOf_16 rfl (lv_at hl 0 rfl) ?_
        refine fo_g1_9 hx hb hT hown hK hP hi0 dX1_isAheadOf_17 ?_
        refine lv_iload_n hx hb dX1_isAheadOf_20 rfl (lv_at hl 3 rfl) ?_
        obtain ⟨g4, h1⟩ := fo_gd h1 hN1
        refine fo_iald (k := 15) (n := 5) hx hb hK hP (by decide) hi0 (fun _ _ => rfl) g4 dX1_isAheadOf_21 ?_
        obtain ⟨x5, hx5, h1⟩ := fo_bd h1 hN1
        refine fo_calli (va_runS (H := _) (As := [.int (σ.1 15 i1 s4.2.toNatClampNeg), .int (σ.1 15 i0 s4.2.toNatClampNeg)]) (rest := [.int s4.1]) ⟨hx, hb, hml, hown, hT⟩ (c_q_Integer_compare l D ca ad _ hx5) (fo_c1_60 hT ⟨Nat.le_trans (Nat.le_of_ble_eq_true rfl) hRf, Nat.le_trans (Nat.le_of_ble_eq_true rfl) hRl⟩) ⟨fo_Pre_blind, fo_Pre_at hP hK (hD _)⟩ rfl rfl hl.1 rfl (lv_room (Nat.le_of_ble_eq_true rfl)) dX1_isAheadOf_22 ⟨Nat.zero_le _, Nat.zero_le _⟩) hS (fun H locs hP hS => ?_)
        refine lv_iadd hx hb dX1_isAheadOf_25 ?_
        refine lv_istore_n (lv' := [(2, .int (s4.1 + x5)), (0, .ref (ad (fo_lay 14 i0))), (1, .ref (ad (fo_lay 14 i1))), (3, .int s4.2)]) hx hb dX1_isAheadOf_26 rfl hl (by decide) rfl (fun ls hl => ?_)
        refine lv_iinc (v := s4.2 + (1 : Int32)) (lv' := [(3, .int (s4.2 + (1 : Int32))), (2, .int (s4.1 + x5)), (0, .ref (ad (fo_lay 14 i0))), (1, .ref (ad (fo_lay 14 i1)))]) hx hb dX1_isAheadOf_27 hl (k := 3) rfl rfl (by decide) rfl (fun ls hl => ?_)
        refine lv_goto (tgt := 4) hx hb dX1_isAheadOf_30 (by decide) ?_
        exact hL1 _ h1 _ _ ls hP hS (lv_sub hl [2, 3, 1, 0] rfl)) _ _ hy4
  exact lp4 _ _ ls hP hS (lv_sub hl [2, 3, 1, 0] rfl)
theorem c_q_Call_isAheadOf (l : Launch) (D : va_G) (ca : Nat → ClassId) (ad : Nat → Nat) (sz : Nat) {σ : fo_S} {i0 : Nat} {i1 : Nat} (hi0 : i0 < 16) (hi1 : i1 < 16) {res : Int32} (h0 : q_Call_isAheadOf σ i0 i1 = some res) : Met l yX1_isAheadOf ws_q_Call_isAheadOf rm_q_Call_isAheadOf (fo_Pre 51 D vwCl (fo_tys ca) ad (fo_ce ca ad σ) sz [.ref (ad (fo_lay 14 i0)), .ref (ad (fo_lay 14 i1))]) (fo_PoI 51 D vwCl (fo_tys ca) ad (fo_ce ca ad σ) sz res) 0 0 (fo_A 51 ad sz) :=
  fo_mkZ (by decide) (fun C0 kr hP => b_q_Call_isAheadOf C0 (Nat.le_refl _) (Nat.le_refl _) (Nat.zero_le _) hi0 hi1 h0 kr hP)
