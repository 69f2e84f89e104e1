/-- the class's times of a call against the model's -/
def Rts (σ τ : fo_S) (c : Nat) : Prop := ∀ n, n < 5 → Rt (σ.1 15 c n) (τ.1 10 0 (5 * c + n))
theorem r_third_in {σ τ : fo_S} {c t : Nat} (hc : c < 16) (ht : t < 5) (h : Rts σ τ c) (h0 : 0 ≤ (τ.1 10 0 (5 * c + t)).toInt) : fo_lp (r_third_L27 τ (nI c) (nI t)) fo_FU ((0 : Int32), (0 : Int32), (0 : Int32)) = some (nI (f_L (fun n => (σ.1 15 c n).toInt) (σ.1 15 c t).toInt), nI (f_E (fun n => (σ.1 15 c n).toInt) (σ.1 15 c t).toInt), nI 5) := by
  rw [← nI_0]
  refine fo_lp_run (fun n => (nI (fo_n (fun n => decide ((σ.1 15 c n).toInt < (σ.1 15 c t).toInt)) n), nI (fo_n (fun n => decide ((σ.1 15 c n).toInt = (σ.1 15 c t).toInt)) n), nI n)) 5 _ ?_ ?_ fo_FU (fo_FU_gt (by omega))
  · intro n hn
    unfold r_third_L27 r_third_J64
    have c1 : ¬ ((5 : Int32) ≤ nI n) := f_nge (a := 5) hn (by omega)
    have v1 := f_vi (c := 5 * c + n) (N := 80) (by omega) (by omega)
    simp only [if_neg c1, f_5, if_pos v1, f_cl (show 5 * c + n < 1000000 by omega), f_cl (show 5 * c + t < 1000000 by omega)]
    have k0 : (τ.1 10 0 (5 * c + n) < 0) ↔ (τ.1 10 0 (5 * c + n)).toInt < 0 := by rw [fi_lt]; rfl
    have k1 : (τ.1 10 0 (5 * c + t) ≤ τ.1 10 0 (5 * c + n)) ↔ (τ.1 10 0 (5 * c + t)).toInt ≤ (τ.1 10 0 (5 * c + n)).toInt := fi_le
    have k2 : (τ.1 10 0 (5 * c + n) = τ.1 10 0 (5 * c + t)) ↔ (τ.1 10 0 (5 * c + n)).toInt = (τ.1 10 0 (5 * c + t)).toInt := fi_eq
    simp only [k0, k1, k2]
    have m1 : (1000001 : Int32).toInt = 1000001 := rfl
    have m2 : (-1 : Int32).toInt = -1 := rfl
    have z : nI 0 = 0 := nI_0
    have a0 : ∀ x : Int32, x + (0 : Int32) = x := Int32.add_zero
    rw [fo_n, fo_n]
    have hxt : (σ.1 15 c t).toInt = (τ.1 10 0 (5 * c + t)).toInt ∧ (τ.1 10 0 (5 * c + t)).toInt ≤ 1000000 := by
      rcases h t ht with ⟨q1, q2⟩ | ⟨q1, q2, q3⟩
      · rw [q2, m2] at h0
        omega
      · rw [q1]
        exact ⟨rfl, q3⟩
    rcases h n hn with ⟨q1, q2⟩ | ⟨q1, q2, q3⟩
    · have e1 : (τ.1 10 0 (5 * c + n)).toInt = -1 := by rw [q2, m2]
      have e2 : (σ.1 15 c n).toInt = 1000001 := by rw [q1, m1]
      have d1 : (τ.1 10 0 (5 * c + n)).toInt < 0 := by omega
      have d2 : ¬ (τ.1 10 0 (5 * c + n)).toInt = (τ.1 10 0 (5 * c + t)).toInt := by omega
      have d3 : ¬ decide ((σ.1 15 c n).toInt < (σ.1 15 c t).toInt) = true := by simp; omega
      have d4 : ¬ decide ((σ.1 15 c n).toInt = (σ.1 15 c t).toInt) = true := by simp; omega
      simp only [if_pos d1, if_neg d2, if_neg d3, if_neg d4, a0, nI_1, Nat.add_zero]
    · have e1 : (σ.1 15 c n).toInt = (τ.1 10 0 (5 * c + n)).toInt := by rw [q1]
      have d1 : ¬ (τ.1 10 0 (5 * c + n)).toInt < 0 := by omega
      by_cases d2 : (τ.1 10 0 (5 * c + t)).toInt ≤ (τ.1 10 0 (5 * c + n)).toInt
      · have d3 : ¬ decide ((σ.1 15 c n).toInt < (σ.1 15 c t).toInt) = true := by simp; omega
        by_cases d4 : (τ.1 10 0 (5 * c + n)).toInt = (τ.1 10 0 (5 * c + t)).toInt
        · have d5 : decide ((σ.1 15 c n).toInt = (σ.1 15 c t).toInt) = true := by simp; omega
          simp only [if_neg d1, if_pos d2, if_pos d4, if_neg d3, if_pos d5, a0, nI_1, Nat.add_zero]
        · have d5 : ¬ decide ((σ.1 15 c n).toInt = (σ.1 15 c t).toInt) = true := by simp; omega
          simp only [if_neg d1, if_pos d2, if_neg d4, if_neg d3, if_neg d5, a0, nI_1, Nat.add_zero]
      · have d3 : decide ((σ.1 15 c n).toInt < (σ.1 15 c t).toInt) = true := by simp; omega
        have d4 : ¬ (τ.1 10 0 (5 * c + n)).toInt = (τ.1 10 0 (5 * c + t)).toInt := by omega
        have d5 : ¬ decide ((σ.1 15 c n).toInt = (σ.1 15 c t).toInt) = true := by simp; omega
        simp only [if_neg d1, if_neg d2, if_neg d4, if_pos d3, if_neg d5, a0, nI_1, Nat.add_zero]
  · unfold r_third_L27
    have c1 : ((5 : Int32) ≤ nI 5) := by decide
    simp only [if_pos c1]
    rfl
theorem r_third_in' {τ : fo_S} {c t : Nat} (hc : c < 16) (ht : t < 5) : ∃ y, fo_lp (r_third_L27 τ (nI c) (nI t)) fo_FU ((0 : Int32), (0 : Int32), (0 : Int32)) = some y := by
  obtain ⟨y, hy, -⟩ := fo_lp_inv (b := r_third_L27 τ (nI c) (nI t)) (fun s => ∃ n, n ≤ 5 ∧ s.2.2 = nI n) (fun s => 5 - s.2.2.toNatClampNeg) (fun _ => True) (by
    rintro ⟨x, y, z⟩ ⟨n, hn, hz⟩
    simp only at hz
    subst hz
    unfold r_third_L27 r_third_J64
    by_cases h5 : n = 5
    · subst h5
      have c1 : ((5 : Int32) ≤ nI 5) := by decide
      exact Or.inr ⟨(x, y, nI 5), by simp only [if_pos c1], trivial⟩
    · have c1 : ¬ ((5 : Int32) ≤ nI n) := f_nge (a := 5) (by omega) (by omega)
      have v1 := f_vi (c := 5 * c + n) (N := 80) (by omega) (by omega)
      simp only [if_neg c1, f_5, if_pos v1, nI_1]
      refine Or.inl ?_
      have m : 5 - (nI (n + 1)).toNatClampNeg < 5 - (nI n).toNatClampNeg := by rw [f_cl (by omega), f_cl (by omega)]; omega
      repeat' split
      all_goals exact ⟨_, rfl, ⟨n + 1, by omega, rfl⟩, m⟩) fo_FU (0, 0, 0) ⟨0, by omega, rfl⟩ (by show 5 - _ < 100000; omega)
  exact ⟨y, hy⟩
theorem third_eq {σ τ : fo_S} {c : Nat} (hc : c < 16) (h : Rts σ τ c) : ∃ v : Int32, q_Call_thirdTime σ c = some v ∧ r_third τ (nI c) = some v ∧ 0 ≤ v.toInt ∧ v.toInt ≤ 1000001 := by
  obtain ⟨v, h1, ⟨t0, ht0, hv0⟩, hP⟩ := q_third (σ := σ) (c := c)
  have m1 : (1000001 : Int32).toInt = 1000001 := rfl
  have m2 : (-1 : Int32).toInt = -1 := rfl
  have hvb : 0 ≤ v.toInt ∧ v.toInt ≤ 1000001 := by
    rcases h t0 ht0 with ⟨q1, q2⟩ | ⟨q1, q2, q3⟩
    · rw [hv0, q1, m1]
      omega
    · rw [hv0, q1]
      omega
  refine ⟨v, h1, ?_, hvb⟩
  unfold r_third
  -- the model's test
  have hb : ∀ t, t < 5 → r_third_L2 τ (nI c) (nI t) = if 0 ≤ (τ.1 10 0 (5 * c + t)).toInt ∧ σ.1 15 c t = v then some (.inr (.inr v)) else some (.inl (nI (t + 1))) := by
    intro t ht
    unfold r_third_L2
    have c1 : ¬ ((5 : Int32) ≤ nI t) := f_nge (a := 5) ht (by omega)
    have v1 := f_vi (c := 5 * c + t) (N := 80) (by omega) (by omega)
    simp only [if_neg c1, f_5, if_pos v1, f_cl (show 5 * c + t < 1000000 by omega)]
    have k0 : (τ.1 10 0 (5 * c + t) < 0) ↔ (τ.1 10 0 (5 * c + t)).toInt < 0 := by rw [fi_lt]; rfl
    simp only [k0]
    by_cases h0 : 0 ≤ (τ.1 10 0 (5 * c + t)).toInt
    · rw [r_third_in hc ht h h0]
      have d1 : ¬ (τ.1 10 0 (5 * c + t)).toInt < 0 := by omega
      have l1 : f_L (fun n => (σ.1 15 c n).toInt) (σ.1 15 c t).toInt ≤ 5 := fo_n_le _ 5
      have l2 : f_E (fun n => (σ.1 15 c n).toInt) (σ.1 15 c t).toInt ≤ 5 := fo_n_le _ 5
      have hyt : τ.1 10 0 (5 * c + t) = σ.1 15 c t := by
        rcases h t ht with ⟨q1, q2⟩ | ⟨q1, q2, q3⟩
        · rw [q2, m2] at h0
          omega
        · exact q1.symm
      have hA : σ.1 15 c t = v → (f_L (fun n => (σ.1 15 c n).toInt) (σ.1 15 c t).toInt ≤ 2 ∧ 2 < f_L (fun n => (σ.1 15 c n).toInt) (σ.1 15 c t).toInt + f_E (fun n => (σ.1 15 c n).toInt) (σ.1 15 c t).toInt) := fun q => by rw [q]; exact hP
      have hB : ¬ σ.1 15 c t = v → ¬ (f_L (fun n => (σ.1 15 c n).toInt) (σ.1 15 c t).toInt ≤ 2 ∧ 2 < f_L (fun n => (σ.1 15 c n).toInt) (σ.1 15 c t).toInt + f_E (fun n => (σ.1 15 c n).toInt) (σ.1 15 c t).toInt) := fun hv q => hv (fi_eq.mpr (f_P_uniq q hP))
      generalize f_L (fun n => (σ.1 15 c n).toInt) (σ.1 15 c t).toInt = LL at l1 hA hB ⊢
      generalize f_E (fun n => (σ.1 15 c n).toInt) (σ.1 15 c t).toInt = EE at l2 hA hB ⊢
      have k1 : ((2 : Int32) < nI LL) ↔ 2 < LL := nI_ltI (a := 2) (by omega) (by omega)
      have k2 : (nI LL + nI EE ≤ (2 : Int32)) ↔ LL + EE ≤ 2 := by
        rw [nI_add]
        exact nI_leI (b := 2) (by omega) (by omega)
      simp only [Option.bind_some, if_neg d1, k1, k2]
      by_cases hv : σ.1 15 c t = v
      · have hA := hA hv
        simp only [if_neg (show ¬ 2 < LL by omega), if_neg (show ¬ LL + EE ≤ 2 by omega), if_pos (And.intro h0 hv)]
        rw [hyt, hv]
      · have hB := hB hv
        simp only [if_neg (fun q => hv q.2 : ¬ (0 ≤ (τ.1 10 0 (5 * c + t)).toInt ∧ σ.1 15 c t = v))]
        by_cases d2 : 2 < LL
        · simp only [if_pos d2, nI_1]
        · simp only [if_neg d2, if_pos (show LL + EE ≤ 2 by omega), nI_1]
    · obtain ⟨y, hy⟩ := r_third_in' (τ := τ) hc ht
      rw [hy, if_neg (fun q => h0 q.1)]
      simp only [Option.bind_some, if_pos (show (τ.1 10 0 (5 * c + t)).toInt < 0 by omega), nI_1]
  have he : r_third_L2 τ (nI c) (nI 5) = some (.inr (.inl (nI 5))) := by
    unfold r_third_L2
    have c1 : ((5 : Int32) ≤ nI 5) := by decide
    simp only [if_pos c1]
  rcases fo_seek 5 (fun t => 0 ≤ (τ.1 10 0 (5 * c + t)).toInt ∧ σ.1 15 c t = v) (fun _ => v) (by omega) (fun n hn q => by rw [hb n hn, if_neg q]) (fun n hn q => by rw [hb n hn, if_pos q]) he with ⟨t, g1, g2, -, g4⟩ | ⟨g1, g2⟩
  · rw [g4]
    rfl
  · rw [g2]
    show some 1000001 = some v
    rcases h t0 ht0 with ⟨q1, q2⟩ | ⟨q1, q2, q3⟩
    · rw [hv0, q1]
    · exact absurd ⟨q2, hv0.symm⟩ (g1 t0 ht0)
theorem s_heard {i : Nat} {σ τ : fo_S} (_ : i ≤ 3072) (h : Rl i σ τ) {a1 : Int32} : ∃ r : Int32, q_FairOrder_heard σ a1 = some r ∧ r_heard τ a1 = some r := by
  obtain ⟨na, nc, ph, ⟨n1, n2, n3, n4, n5, n6, n7, -⟩, hm, hc, hr⟩ := h
  unfold q_FairOrder_heard r_heard
  simp only [q_isC n6 n2, r_isC n7 n2, Option.bind_some, f_if0]
  by_cases c1 : 0 ≤ a1.toInt ∧ a1.toInt < nc
  rotate_left
  · simp only [if_pos c1]
    exact ⟨_, rfl, rfl⟩
  simp only [if_neg (f_nn c1)]
  obtain ⟨c, hcc, rfl⟩ := f_ix c1
  have v1 := f_vi (c := c) (N := 16) (by omega) (by omega)
  obtain ⟨v, h1, h2, -⟩ := third_eq (by omega) (hc c hcc).2.2.2.1
  simp only [if_pos v1, f_cl (show c < 1000000 by omega), h1, h2, Option.bind_some]
  by_cases c2 : v = 1000001
  · simp only [if_pos c2]
    exact ⟨_, rfl, rfl⟩
  · simp only [if_neg c2]
    exact ⟨_, rfl, rfl⟩
