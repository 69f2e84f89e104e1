theorem fo_fil_J (σ : fo_S) (k i j : Nat) (v : Int64) : fo_pJ (fo_rJ σ k i (fo_fil (σ.2 k i) j v)) k i j v = fo_rJ σ k i (fo_fil (σ.2 k i) (j + 1) v) := by
  unfold fo_pJ fo_rJ fo_fil
  refine Prod.ext rfl ?_
  funext a b c
  dsimp only
  by_cases h1 : a = k ∧ b = i
  · obtain ⟨rfl, rfl⟩ := h1
    by_cases h2 : c = j
    · subst h2
      simp
    · have h3 : (c < j + 1) ↔ c < j := by omega
      simp [h2, h3]
  · have h2 : ¬ (a = k ∧ b = i ∧ c = j) := fun q => h1 ⟨q.1, q.2.1⟩
    simp only [if_neg h1, if_neg h2]
theorem fo_fil0_J (σ : fo_S) (k i : Nat) (v : Int64) : fo_rJ σ k i (fo_fil (σ.2 k i) 0 v) = σ := by
  unfold fo_rJ fo_fil
  refine Prod.ext rfl ?_
  funext a b c
  dsimp only
  by_cases h1 : a = k ∧ b = i
  · obtain ⟨rfl, rfl⟩ := h1
    simp
  · simp only [if_neg h1]
set_option maxHeartbeats 4000000 in
set_option maxRecDepth 100000 in
theorem b_q_fillJ {p : Program} {l : Launch} {e : Env} {R : Room} {s : State} {m : MethodId} {args : Array Value} {below : List Frame} {meth : Method} {c : Code} {Q : State → Prop} {D : va_G} {ca : Nat → ClassId} {ad : Nat → Nat} (C0 : fo_CX p s m args c cX8_fillJ 5 RX8 D ca ad) {σ : fo_S} {k i n : Nat} (hk : k < 16) (hi : i < fo_cnt k) (hrow : ∀ (I : Nat → Int32) (J : Nat → Int64), fo_row ca ad I J k i = .inl (ca 1, n, .inr (.inl J))) (hn : n < 2 ^ 31) {v : Int64} (kr : ∀ (pc : Nat) (ls : Array Slot) (H : Heap) (locs : List Loc), decode cX8_fillJ pc = .ok (.return_, 1) → va_P D vwCl (fo_vx 51 ad (fo_ce ca ad (fo_rJ σ k i (fo_fil (σ.2 k i) n v)))) H → va_S (fo_A 51 ad s.heap.size) s.heap H locs → W p l e R s m args below meth c H locs 0 0 Q (F0 m pc ls [])) (hP : va_P D vwCl (fo_vx 51 ad (fo_ce ca ad (σ))) s.heap) : W p l e R s m args below meth c s.heap [] 0 0 Q (entryFrame m ([.ref (ad (fo_lay k i)), .long v] : List Value).toArray 5) := by
  obtain ⟨hx, hb, hml, hown, hT, hK, hD⟩ := C0
  have hS : va_S (fo_A 51 ad s.heap.size) s.heap s.heap [] := va_S.rf
  have hl := lv_entry ([.ref (ad (fo_lay k i)), .long v]) (n := 5) (Nat.le_of_ble_eq_true rfl)
  rw [lg_entry_eq]
  generalize (lg_sl ([.ref (ad (fo_lay k i)), .long v]) ++ List.replicate (5 - (lg_sl ([.ref (ad (fo_lay k i)), .long v])).length) Slot.unset).toArray = ls at hl ⊢
  have hl : lv_has ls 5 [(0, .ref (ad (fo_lay k i))), (1, .long v)] := hl
  refine lv_iconst (v := 0) hx hb dX8_fillJ_0 (by decide) ?_
  refine lv_istore_n (lv' := [(3, .int 0), (0, .ref (ad (fo_lay k i))), (1, .long v)]) hx hb dX8_fillJ_1 rfl hl (by decide) rfl (fun ls hl => ?_)
  refine lv_aload_n hx hb dX8_fillJ_2 rfl (lv_at hl 1 rfl) ?_
  refine va_alen (v := nI n) hx hb hK hP (fo_lay k i) 1 (by rw [fo_at hk hi, hrow]) rfl rfl dX8_fillJ_3 ?_
  refine lv_istore (lv' := [(4, .int (nI n)), (3, .int 0), (0, .ref (ad (fo_lay k i))), (1, .long v)]) hx hb dX8_fillJ_4 hl (by decide) rfl (fun ls hl => ?_)
  have lp : ∀ (f j : Nat), j + f = n → ∀ (H : Heap) (locs : List Loc) (ls : Array Slot), va_P D vwCl (fo_vx 51 ad (fo_ce ca ad (fo_rJ σ k i (fo_fil (σ.2 k i) j v)))) H → va_S (fo_A 51 ad s.heap.size) s.heap H locs → lv_has ls 5 [(4, .int (nI n)), (3, .int (nI j)), (0, .ref (ad (fo_lay k i))), (1, .long v)] → W p l e R s m args below meth c H locs 0 0 Q (F0 m 6 ls []) := by
    intro f
    induction f with
    | zero =>
      intro j hj H locs ls hP hS hl
      have hj : j = n := by omega
      subst hj
      refine lv_iload_n hx hb dX8_fillJ_6 rfl (lv_at hl 1 rfl) ?_
      refine lv_iload hx hb dX8_fillJ_7 (lv_at hl 0 rfl) ?_
      refine lv_icmp_ge (tgt := 22) hx hb dX8_fillJ_9 (by decide) (fun _ => ?_) (fun c1 => absurd (Int32.le_refl _) c1)
      exact kr _ ls _ _ dX8_fillJ_22 hP hS
    | succ f ih =>
      intro j hj H locs ls hP hS hl
      have hlt : j < n := by omega
      refine lv_iload_n hx hb dX8_fillJ_6 rfl (lv_at hl 1 rfl) ?_
      refine lv_iload hx hb dX8_fillJ_7 (lv_at hl 0 rfl) ?_
      refine lv_icmp_ge (tgt := 22) hx hb dX8_fillJ_9 (by decide) (fun c1 => absurd c1 (nI_ge hlt hn)) (fun _ => ?_)
      refine lv_aload_n hx hb dX8_fillJ_12 rfl (lv_at hl 2 rfl) ?_
      refine lv_iload_n hx hb dX8_fillJ_13 rfl (lv_at hl 1 rfl) ?_
      refine lv_lload_n hx hb dX8_fillJ_14 rfl (lv_at hl 3 rfl) ?_
      refine fo_last (k := k) (n := n) hx hb hK hP hD hS hk hi hrow (vp_in_nI hlt hn) dX8_fillJ_15 (fun H locs hP hS => ?_)
      rw [nI_clamp (Nat.lt_trans hlt hn), fo_fil_J] at hP
      refine lv_iinc (v := nI (j + 1)) (lv' := [(3, .int (nI (j + 1))), (4, .int (nI n)), (0, .ref (ad (fo_lay k i))), (1, .long v)]) hx hb dX8_fillJ_16 hl (k := 1) rfl (by rw [nI_succ]; rfl) (by decide) rfl (fun ls hl => ?_)
      refine lv_goto (tgt := 6) hx hb dX8_fillJ_19 (by decide) ?_
      exact ih (j + 1) (by omega) H locs ls hP hS (lv_sub hl [1, 0, 2, 3] rfl)
  exact lp n 0 (by omega) _ _ ls (by rw [fo_fil0_J]; exact hP) hS (by rw [nI_0]; exact hl)
theorem c_q_fillJ (l : Launch) (D : va_G) (ca : Nat → ClassId) (ad : Nat → Nat) (sz : Nat) {σ : fo_S} {k i n : Nat} (hk : k < 16) (hi : i < fo_cnt k) (hrow : ∀ (I : Nat → Int32) (J : Nat → Int64), fo_row ca ad I J k i = .inl (ca 1, n, .inr (.inl J))) (hn : n < 2 ^ 31) {v : Int64} : Met l yX8_fillJ ws_q_fillJ rm_q_fillJ (fo_Pre 51 D vwCl (fo_tys ca) ad (fo_ce ca ad σ) sz [.ref (ad (fo_lay k i)), .long v]) (fo_PoV 51 D vwCl (fo_tys ca) ad (fo_ce ca ad (fo_rJ σ k i (fo_fil (σ.2 k i) n v))) sz) 0 0 (fo_A 51 ad sz) :=
  fo_mkV (by decide) (fun C0 kr hP => b_q_fillJ C0 hk hi hrow hn kr hP)
theorem fo_fil_I (σ : fo_S) (k i j : Nat) (v : Int32) : fo_pI (fo_rI σ k i (fo_fil (σ.1 k i) j v)) k i j v = fo_rI σ k i (fo_fil (σ.1 k i) (j + 1) v) := by
  unfold fo_pI fo_rI fo_fil
  refine Prod.ext ?_ rfl
  funext a b c
  dsimp only
  by_cases h1 : a = k ∧ b = i
  · obtain ⟨rfl, rfl⟩ := h1
    by_cases h2 : c = j
    · subst h2
      simp
    · have h3 : (c < j + 1) ↔ c < j := by omega
      simp [h2, h3]
  · have h2 : ¬ (a = k ∧ b = i ∧ c = j) := fun q => h1 ⟨q.1, q.2.1⟩
    simp only [if_neg h1, if_neg h2]
theorem fo_fil0_I (σ : fo_S) (k i : Nat) (v : Int32) : fo_rI σ k i (fo_fil (σ.1 k i) 0 v) = σ := by
  unfold fo_rI fo_fil
  refine Prod.ext ?_ rfl
  funext a b c
  dsimp only
  by_cases h1 : a = k ∧ b = i
  · obtain ⟨rfl, rfl⟩ := h1
    simp
  · simp only [if_neg h1]
set_option maxHeartbeats 4000000 in
set_option maxRecDepth 100000 in
theorem b_q_fillI {p : Program} {l : Launch} {e : Env} {R : Room} {s : State} {m : MethodId} {args : Array Value} {below : List Frame} {meth : Method} {c : Code} {Q : State → Prop} {D : va_G} {ca : Nat → ClassId} {ad : Nat → Nat} (C0 : fo_CX p s m args c cX8_fillI 4 RX8 D ca ad) {σ : fo_S} {k i n : Nat} (hk : k < 16) (hi : i < fo_cnt k) (hrow : ∀ (I : Nat → Int32) (J : Nat → Int64), fo_row ca ad I J k i = .inl (ca 0, n, .inl I)) (hn : n < 2 ^ 31) {v : Int32} (kr : ∀ (pc : Nat) (ls : Array Slot) (H : Heap) (locs : List Loc), decode cX8_fillI pc = .ok (.return_, 1) → va_P D vwCl (fo_vx 51 ad (fo_ce ca ad (fo_rI σ k i (fo_fil (σ.1 k i) n v)))) H → va_S (fo_A 51 ad s.heap.size) s.heap H locs → W p l e R s m args below meth c H locs 0 0 Q (F0 m pc ls [])) (hP : va_P D vwCl (fo_vx 51 ad (fo_ce ca ad (σ))) s.heap) : W p l e R s m args below meth c s.heap [] 0 0 Q (entryFrame m ([.ref (ad (fo_lay k i)), .int v] : List Value).toArray 4) := by
  obtain ⟨hx, hb, hml, hown, hT, hK, hD⟩ := C0
  have hS : va_S (fo_A 51 ad s.heap.size) s.heap s.heap [] := va_S.rf
  have hl := lv_entry ([.ref (ad (fo_lay k i)), .int v]) (n := 4) (Nat.le_of_ble_eq_true rfl)
  rw [lg_entry_eq]
  generalize (lg_sl ([.ref (ad (fo_lay k i)), .int v]) ++ List.replicate (4 - (lg_sl ([.ref (ad (fo_lay k i)), .int v])).length) Slot.unset).toArray = ls at hl ⊢
  have hl : lv_has ls 4 [(0, .ref (ad (fo_lay k i))), (1, .int v)] := hl
  refine lv_iconst (v := 0) hx hb dX8_fillI_0 (by decide) ?_
  refine lv_istore_n (lv' := [(2, .int 0), (0, .ref (ad (fo_lay k i))), (1, .int v)]) hx hb dX8_fillI_1 rfl hl (by decide) rfl (fun ls hl => ?_)
  refine lv_aload_n hx hb dX8_fillI_2 rfl (lv_at hl 1 rfl) ?_
  refine va_alen (v := nI n) hx hb hK hP (fo_lay k i) 0 (by rw [fo_at hk hi, hrow]) rfl rfl dX8_fillI_3 ?_
  refine lv_istore_n (lv' := [(3, .int (nI n)), (2, .int 0), (0, .ref (ad (fo_lay k i))), (1, .int v)]) hx hb dX8_fillI_4 rfl hl (by decide) rfl (fun ls hl => ?_)
  have lp : ∀ (f j : Nat), j + f = n → ∀ (H : Heap) (locs : List Loc) (ls : Array Slot), va_P D vwCl (fo_vx 51 ad (fo_ce ca ad (fo_rI σ k i (fo_fil (σ.1 k i) j v)))) H → va_S (fo_A 51 ad s.heap.size) s.heap H locs → lv_has ls 4 [(3, .int (nI n)), (2, .int (nI j)), (0, .ref (ad (fo_lay k i))), (1, .int v)] → W p l e R s m args below meth c H locs 0 0 Q (F0 m 5 ls []) := by
    intro f
    induction f with
    | zero =>
      intro j hj H locs ls hP hS hl
      have hj : j = n := by omega
      subst hj
      refine lv_iload_n hx hb dX8_fillI_5 rfl (lv_at hl 1 rfl) ?_
      refine lv_iload_n hx hb dX8_fillI_6 rfl (lv_at hl 0 rfl) ?_
      refine lv_icmp_ge (tgt := 20) hx hb dX8_fillI_7 (by decide) (fun _ => ?_) (fun c1 => absurd (Int32.le_refl _) c1)
      exact kr _ ls _ _ dX8_fillI_20 hP hS
    | succ f ih =>
      intro j hj H locs ls hP hS hl
      have hlt : j < n := by omega
      refine lv_iload_n hx hb dX8_fillI_5 rfl (lv_at hl 1 rfl) ?_
      refine lv_iload_n hx hb dX8_fillI_6 rfl (lv_at hl 0 rfl) ?_
      refine lv_icmp_ge (tgt := 20) hx hb dX8_fillI_7 (by decide) (fun c1 => absurd c1 (nI_ge hlt hn)) (fun _ => ?_)
      refine lv_aload_n hx hb dX8_fillI_10 rfl (lv_at hl 2 rfl) ?_
      refine lv_iload_n hx hb dX8_fillI_11 rfl (lv_at hl 1 rfl) ?_
      refine lv_iload_n hx hb dX8_fillI_12 rfl (lv_at hl 3 rfl) ?_
      refine fo_iast (k := k) (n := n) hx hb hK hP hD hS hk hi hrow (vp_in_nI hlt hn) dX8_fillI_13 (fun H locs hP hS => ?_)
      rw [nI_clamp (Nat.lt_trans hlt hn), fo_fil_I] at hP
      refine lv_iinc (v := nI (j + 1)) (lv' := [(2, .int (nI (j + 1))), (3, .int (nI n)), (0, .ref (ad (fo_lay k i))), (1, .int v)]) hx hb dX8_fillI_14 hl (k := 1) rfl (by rw [nI_succ]; rfl) (by decide) rfl (fun ls hl => ?_)
      refine lv_goto (tgt := 5) hx hb dX8_fillI_17 (by decide) ?_
      exact ih (j + 1) (by omega) H locs ls hP hS (lv_sub hl [1, 0, 2, 3] rfl)
  exact lp n 0 (by omega) _ _ ls (by rw [fo_fil0_I]; exact hP) hS (by rw [nI_0]; exact hl)
theorem c_q_fillI (l : Launch) (D : va_G) (ca : Nat → ClassId) (ad : Nat → Nat) (sz : Nat) {σ : fo_S} {k i n : Nat} (hk : k < 16) (hi : i < fo_cnt k) (hrow : ∀ (I : Nat → Int32) (J : Nat → Int64), fo_row ca ad I J k i = .inl (ca 0, n, .inl I)) (hn : n < 2 ^ 31) {v : Int32} : Met l yX8_fillI ws_q_fillI rm_q_fillI (fo_Pre 51 D vwCl (fo_tys ca) ad (fo_ce ca ad σ) sz [.ref (ad (fo_lay k i)), .int v]) (fo_PoV 51 D vwCl (fo_tys ca) ad (fo_ce ca ad (fo_rI σ k i (fo_fil (σ.1 k i) n v))) sz) 0 0 (fo_A 51 ad sz) :=
  fo_mkV (by decide) (fun C0 kr hP => b_q_fillI C0 hk hi hrow hn kr hP)
