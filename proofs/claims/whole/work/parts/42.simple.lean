theorem f_ix {a : Int32} {n : Nat} (h : 0 ≤ a.toInt ∧ a.toInt < n) : ∃ c, c < n ∧ a = nI c := by
  refine ⟨a.toInt.toNat, by omega, ?_⟩
  have hb := Int32.toInt_lt a
  have h1 : a.toInt.toNat < 2 ^ 31 := by omega
  rw [fi_eq, fi_nI h1]
  omega
theorem f_vi {c N : Nat} (h : c < N) (hN : N < 2 ^ 31) : fo_vi (nI c) N := vp_in_nI h hN
theorem f_cl {c : Nat} (h : c < 1000000) : (nI c).toNatClampNeg = c := nI_clamp (by omega)
theorem f_ti {c : Nat} (h : c < 1000000) : (nI c).toInt = (c : Int) := nI_toInt (by omega)
theorem s_at {i : Nat} {σ τ : fo_S} (_ : i ≤ 3072) (h : Rl i σ τ) {a1 : Int32} : ∃ r : Int32, q_FairOrder_at σ a1 = some r ∧ r_at τ a1 = some r := by
  obtain ⟨na, nc, ph, hn, hm, hc, hr⟩ := h
  unfold q_FairOrder_at q_Row_hasPlace r_at
  by_cases c1 : a1 < 0
  · simp only [if_pos c1, Option.bind_some, if_true]
    exact ⟨_, rfl, rfl⟩
  have c1' : 0 ≤ a1.toInt := by rw [fi_lt] at c1; have : (0 : Int32).toInt = 0 := rfl; omega
  rcases hr.1 with ⟨h1, h2, h3, h4, h5⟩ | ⟨h1, h2, ⟨nr, f, h3, h4, h5, h6⟩, h7⟩
  · rw [h4, h5]
    have c2 : (0 : Int32) ≤ a1 := by rw [fi_le]; exact c1'
    have c3 : (-1 : Int32) ≤ a1 := by rw [fi_le]; have : (-1 : Int32).toInt = -1 := rfl; omega
    simp only [if_neg c1, if_pos c2, if_pos c3, Option.bind_some, if_true]
    exact ⟨_, rfl, rfl⟩
  · rw [h4, h5]
    have hnc := hn.2.1
    by_cases c2 : nI nr ≤ a1
    · simp only [if_neg c1, if_pos c2, Option.bind_some, if_true]
      exact ⟨_, rfl, rfl⟩
    · obtain ⟨k, hk, rfl⟩ : ∃ k, k < nr ∧ a1 = nI k := f_ix ⟨c1', by rw [fi_le, f_ti (by omega)] at c2; omega⟩
      have hv := f_vi (c := k) (N := 16) (by omega) (by omega)
      have e1 : ¬ ((1 : Int32) = 0) := by decide
      simp only [if_neg c1, if_neg c2, Option.bind_some, if_neg e1, if_pos hv, f_cl (show k < 1000000 by omega), (h6.1 k hk).1, (h6.1 k hk).2.1]
      exact ⟨_, rfl, rfl⟩
theorem s_done {i : Nat} {σ τ : fo_S} (_ : i ≤ 3072) (h : Rl i σ τ) {a1 : Int32} : ∃ r : Int32, q_FairOrder_done σ a1 = some r ∧ r_done τ a1 = some r := by
  obtain ⟨na, nc, ph, ⟨n1, n2, n3, n4, n5, n6, n7, -⟩, hm, hc, hr⟩ := h
  unfold q_FairOrder_done r_done
  simp only [q_isC n6 n2, r_isC n7 n2, Option.bind_some, f_if0]
  by_cases c1 : 0 ≤ a1.toInt ∧ a1.toInt < nc
  rotate_left
  · simp only [if_pos c1]
    exact ⟨_, rfl, rfl⟩
  obtain ⟨c, hcc, rfl⟩ := f_ix c1
  have hv := f_vi (c := c) (N := 16) (by omega) (by omega)
  have c2 : ¬ ¬ (0 ≤ (nI c).toInt ∧ (nI c).toInt < nc) := fun q => q c1
  simp only [if_neg c2, if_pos hv, f_cl (show c < 1000000 by omega)]
  have e1 : ¬ ((1 : Int32) = 0) := by decide
  rcases hr.1 with ⟨h1, h2, h3, h4, h5⟩ | ⟨h1, h2, -, ⟨h7, h8⟩ | ⟨h7, h8⟩⟩
  · rw [h2, h3]
    exact ⟨_, rfl, rfl⟩
  · rw [h7, h8]
    exact ⟨_, rfl, rfl⟩
  · rw [(hr.2.2 h7 c hcc).1, h7, h8, if_neg e1]
    exact ⟨_, rfl, rfl⟩
theorem s_passed {i : Nat} {σ τ : fo_S} (_ : i ≤ 3072) (h : Rl i σ τ) {a1 : Int32} : ∃ r : Int64, q_FairOrder_passed σ a1 = some r ∧ r_passed τ a1 = some r := by
  obtain ⟨na, nc, ph, ⟨n1, n2, n3, n4, n5, n6, n7, -⟩, hm, hc, hr⟩ := h
  unfold q_FairOrder_passed r_passed
  simp only [q_isC n6 n2, r_isC n7 n2, Option.bind_some, f_if0]
  by_cases c1 : 0 ≤ a1.toInt ∧ a1.toInt < nc
  rotate_left
  · simp only [if_pos c1]
    exact ⟨_, rfl, rfl⟩
  obtain ⟨c, hcc, rfl⟩ := f_ix c1
  have hv := f_vi (c := c) (N := 16) (by omega) (by omega)
  have c2 : ¬ ¬ (0 ≤ (nI c).toInt ∧ (nI c).toInt < nc) := fun q => q c1
  simp only [if_neg c2, if_pos hv, f_cl (show c < 1000000 by omega)]
  have e1 : ¬ ((1 : Int32) = 0) := by decide
  rcases hr.1 with ⟨h1, h2, h3, h4, h5⟩ | ⟨h1, h2, -, ⟨h7, h8⟩ | ⟨h7, h8⟩⟩
  · rw [h2, h3]
    exact ⟨_, rfl, rfl⟩
  · rw [h7, h8]
    exact ⟨_, rfl, rfl⟩
  · rw [(hr.2.2 h7 c hcc).2, h7, h8, if_neg e1]
    exact ⟨_, rfl, rfl⟩
theorem s_clear {i : Nat} {σ τ : fo_S} (_ : i ≤ 3072) (h : Rl i σ τ) : ∃ (r : Int32) (σ1 τ1 : fo_S), q_FairOrder_clear σ = some (r, σ1) ∧ r_clear τ = some (r, τ1) ∧ Rl (i + 1) σ1 τ1 := by
  obtain ⟨na, nc, ph, ⟨n1, n2, n3, n4, n5, n6, n7, n8, n9, n10, n11⟩, hm, hc, hr⟩ := h
  unfold q_FairOrder_clear r_clear q_Market_makeEmpty q_FairOrder_beginBlock r_newBlock
  simp only [Option.bind_some, n4, n5]
  refine ⟨_, _, _, rfl, rfl, 0, 0, 0, ?_, ?_, fun c hc => absurd hc (Nat.not_lt_zero c), ?_, fun _ c hc => absurd hc (Nat.not_lt_zero c), fun _ c hc => absurd hc (Nat.not_lt_zero c)⟩
  · refine ⟨by omega, by omega, by omega, ?_⟩
    simp [fo_pI, fo_pJ, fo_rJ, nI_0]
  · refine ⟨?_, fun a ha => absurd ha (Nat.not_lt_zero a)⟩
    have := fB_0 (i + 1)
    simp [fo_pI, fo_pJ, fo_rJ, fo_fil]
    omega
  · exact Or.inl (by simp [fo_pI, fo_pJ, fo_rJ])
theorem s_pool {i : Nat} {σ τ : fo_S} (_ : i ≤ 3072) (h : Rl i σ τ) {a1 a2 : Int64} : ∃ (r : Int32) (σ1 τ1 : fo_S), q_FairOrder_pool σ a1 a2 = some (r, σ1) ∧ r_pool τ a1 a2 = some (r, τ1) ∧ Rl (i + 1) σ1 τ1 := by
  have hl := Rl_mono (Nat.le_succ i) h
  obtain ⟨na, nc, ph, ⟨n1, n2, n3, n4, n5, n6, n7, n8, n9, n10, n11⟩, hm, hc, hr⟩ := h
  unfold q_FairOrder_pool r_pool
  simp only [q_may, r_in', Option.bind_some, f_if0]
  by_cases c1 : 0 ≤ a1 ∧ a1 ≤ 1000000000
  rotate_left
  · simp only [if_pos c1]
    exact ⟨_, _, _, rfl, rfl, hl⟩
  by_cases c2 : 0 ≤ a2 ∧ a2 ≤ 1000000000
  rotate_left
  · simp only [if_neg (fun q => q c1 : ¬ ¬ (0 ≤ a1 ∧ a1 ≤ 1000000000)), if_pos c2]
    exact ⟨_, _, _, rfl, rfl, hl⟩
  have hv : fo_vi (8 : Int32) 9 := by decide
  have h8 : (8 : Int32).toNatClampNeg = 8 := by decide
  unfold q_Market_put
  simp only [if_neg (fun q => q c1 : ¬ ¬ (0 ≤ a1 ∧ a1 ≤ 1000000000)), if_neg (fun q => q c2 : ¬ ¬ (0 ≤ a2 ∧ a2 ≤ 1000000000)), if_pos hv, Option.bind_some, h8]
  have b1 : 0 ≤ a1.toInt ∧ a1.toInt ≤ 1000000000 := by rw [fj_le, fj_le] at c1; exact c1
  have b2 : 0 ≤ a2.toInt ∧ a2.toInt ≤ 1000000000 := by rw [fj_le, fj_le] at c2; exact c2
  refine ⟨_, _, _, rfl, rfl, na, nc, ph, ?_, ?_, ?_, ?_⟩
  · simp [Rn, fo_pI, fo_pJ, n1, n2, n3, n4, n5, n6, n7, n8, n9, n10, n11]
  · have hB := fB_0 i
    have hB1 := fB_1 i
    refine ⟨?_, fun a ha => ?_⟩
    · simp [fo_pI, fo_pJ]
      omega
    · obtain ⟨g1, g2, g3, g4, g5, g6⟩ := hm.2 a ha
      have ha8 : a ≠ 8 := by omega
      have p0 := hm.1.2.2.1
      simp [fo_pI, fo_pJ, ha8, g1, g2]
      omega
  · intro c hcc
    exact hc c hcc
  · exact hr
