theorem e_pI (σ : fo_S) (k i j : Nat) (v : Int32) (a b c : Nat) : (fo_pI σ k i j v).1 a b c = if a = k ∧ b = i ∧ c = j then v else σ.1 a b c := rfl
theorem e_pI2 (σ : fo_S) (k i j : Nat) (v : Int32) : (fo_pI σ k i j v).2 = σ.2 := rfl
theorem e_pJ (σ : fo_S) (k i j : Nat) (v : Int64) (a b c : Nat) : (fo_pJ σ k i j v).2 a b c = if a = k ∧ b = i ∧ c = j then v else σ.2 a b c := rfl
theorem e_pJ1 (σ : fo_S) (k i j : Nat) (v : Int64) : (fo_pJ σ k i j v).1 = σ.1 := rfl
theorem e_rI (σ : fo_S) (k i : Nat) (f : Nat → Int32) (a b c : Nat) : (fo_rI σ k i f).1 a b c = if a = k ∧ b = i then f c else σ.1 a b c := rfl
theorem e_rI2 (σ : fo_S) (k i : Nat) (f : Nat → Int32) : (fo_rI σ k i f).2 = σ.2 := rfl
theorem e_rJ (σ : fo_S) (k i : Nat) (f : Nat → Int64) (a b c : Nat) : (fo_rJ σ k i f).2 a b c = if a = k ∧ b = i then f c else σ.2 a b c := rfl
theorem e_rJ1 (σ : fo_S) (k i : Nat) (f : Nat → Int64) : (fo_rJ σ k i f).1 = σ.1 := rfl
theorem f_nn {P : Prop} (h : P) : ¬ ¬ P := fun q => q h
theorem s_account {i : Nat} {σ τ : fo_S} (_ : i ≤ 3072) (h : Rl i σ τ) {a1 a2 : Int64} : ∃ (r : Int32) (σ1 τ1 : fo_S), q_FairOrder_account σ a1 a2 = some (r, σ1) ∧ r_account τ a1 a2 = some (r, τ1) ∧ Rl (i + 1) σ1 τ1 := by
  have hl := Rl_mono (Nat.le_succ i) h
  obtain ⟨na, nc, ph, ⟨n1, n2, n3, n4, n5, n6, n7, n8, n9, n10, n11⟩, hm, hc, hr⟩ := h
  unfold q_FairOrder_account r_account
  simp only [q_may, r_in', Option.bind_some, f_if0, n4, n5]
  by_cases c1 : 0 ≤ a1 ∧ a1 ≤ 1000000000
  rotate_left
  · simp only [if_pos c1]
    exact ⟨_, _, _, rfl, rfl, hl⟩
  by_cases c2 : 0 ≤ a2 ∧ a2 ≤ 1000000000
  rotate_left
  · simp only [if_neg (f_nn c1), if_pos c2]
    exact ⟨_, _, _, rfl, rfl, hl⟩
  have b1 : 0 ≤ a1.toInt ∧ a1.toInt ≤ 1000000000 := by rw [fj_le, fj_le] at c1; exact c1
  have b2 : 0 ≤ a2.toInt ∧ a2.toInt ≤ 1000000000 := by rw [fj_le, fj_le] at c2; exact c2
  by_cases c3 : na < 8
  rotate_left
  · have e8 : na = 8 := by omega
    subst e8
    have d1 : ¬ nI 8 < (8 : Int32) := by decide
    have d2 : nI 8 = (8 : Int32) := by decide
    simp only [if_neg (f_nn c1), if_neg (f_nn c2), if_neg d1, if_pos d2]
    exact ⟨_, _, _, rfl, rfl, hl⟩
  have d1 : nI na < (8 : Int32) := nI_lt (b := 8) c3 (by omega)
  have d2 : ¬ nI na = (8 : Int32) := fun q => by have := (nI_eq (a := na) (b := 8) (by omega) (by omega)).mp q; omega
  have hv8 := f_vi (c := na) (N := 8) c3 (by omega)
  have hv9 := f_vi (c := na) (N := 9) (by omega) (by omega)
  have hcl := f_cl (c := na) (by omega)
  unfold q_Market_put
  simp only [if_neg (f_nn c1), if_neg (f_nn c2), if_pos d1, if_neg d2, if_pos hv9, Option.bind_some, e_pJ1, n5, if_pos hv8, hcl, n4]
  have t1 : (fo_pI (fo_pJ (fo_pJ σ 2 0 na a1) 3 0 na a2) 0 0 8 (nI na + 1)).1 0 0 8 = nI na + 1 := by simp [e_pI]
  have t2 : (fo_pI (fo_pJ (fo_pJ τ 1 0 na a1) 2 0 na a2) 0 0 0 (nI na + 1)).1 0 0 0 = nI na + 1 := by simp [e_pI]
  rw [t1, t2]
  refine ⟨_, _, _, rfl, rfl, na + 1, nc, ph, ?_, ?_, ?_, ?_⟩
  · refine ⟨by omega, n2, n3, ?_⟩
    simp [e_pI, e_pI2, e_pJ, e_pJ1, nI_1, n6, n7, n8, n9, n10, n11]
  · have hB := fB_0 i
    have hB1 := fB_1 i
    obtain ⟨⟨p1, p2, p3, p4, p5, p6⟩, hm2⟩ := hm
    refine ⟨?_, fun a ha => ?_⟩
    · have e9 : ¬ 8 = na := by omega
      simp [e_pI2, e_pJ, e9, p1, p2]
      omega
    · by_cases ea : a = na
      · subst ea
        simp [e_pI2, e_pJ]
        omega
      · obtain ⟨g1, g2, g3, g4, g5, g6⟩ := hm2 a (by omega)
        simp [e_pI2, e_pJ, ea, g1, g2]
        omega
  · intro c hcc
    obtain ⟨⟨o, ho, q1⟩, q2⟩ := hc c hcc
    exact ⟨⟨o, by omega, q1⟩, q2⟩
  · exact hr
theorem f_5 (c n : Nat) : ((5 : Int32) * nI c) + nI n = nI (5 * c + n) := by
  show nI 5 * nI c + nI n = _
  rw [pk_mul, nI_add]
theorem s_hear {i : Nat} {σ τ : fo_S} (_ : i ≤ 3072) (h : Rl i σ τ) {a1 a2 a3 : Int32} : ∃ (r : Int32) (σ1 τ1 : fo_S), q_FairOrder_hear σ a1 a2 a3 = some (r, σ1) ∧ r_hear τ a1 a2 a3 = some (r, τ1) ∧ Rl (i + 1) σ1 τ1 := by
  have hl := Rl_mono (Nat.le_succ i) h
  obtain ⟨na, nc, ph, ⟨n1, n2, n3, n4, n5, n6, n7, n8, n9, n10, n11⟩, hm, hc, hr⟩ := h
  unfold q_FairOrder_hear r_hear
  simp only [q_isC n6 n2, r_isC n7 n2, r_in', Option.bind_some, f_if0, n8, n9]
  have z0 : (0 : Int32).toInt = 0 := rfl
  have z0' : (0 : Int64).toInt = 0 := rfl
  have k1 : (a1 < 0) ↔ a1.toInt < 0 := by rw [fi_lt]; rfl
  have k2 : ((5 : Int32) ≤ a1) ↔ 5 ≤ a1.toInt := by rw [fi_le]; rfl
  have k3 : (a3 < 0) ↔ a3.toInt < 0 := by rw [fi_lt]; rfl
  have k4 : (a3 ≤ (1000000 : Int32)) ↔ a3.toInt ≤ 1000000 := by rw [fi_le]; rfl
  have k5 : ((0 : Int64) ≤ a1.toInt64 ∧ a1.toInt64 ≤ 4) ↔ (0 ≤ a1.toInt ∧ a1.toInt ≤ 4) := by rw [fj_le, fj_le, fi_j]; exact Iff.rfl
  have k6 : ((0 : Int64) ≤ a3.toInt64 ∧ a3.toInt64 ≤ 1000000) ↔ (0 ≤ a3.toInt ∧ a3.toInt ≤ 1000000) := by rw [fj_le, fj_le, fi_j]; exact Iff.rfl
  simp only [k1, k2, k3, k4, k5, k6]
  by_cases c1 : 0 ≤ a1.toInt ∧ a1.toInt ≤ 4
  rotate_left
  · simp only [if_pos c1]
    by_cases d1 : a1.toInt < 0
    · simp only [if_pos d1]
      exact ⟨_, _, _, rfl, rfl, hl⟩
    · have d2 : 5 ≤ a1.toInt := by omega
      simp only [if_neg d1, if_pos d2]
      exact ⟨_, _, _, rfl, rfl, hl⟩
  have d1 : ¬ a1.toInt < 0 := by omega
  have d2 : ¬ 5 ≤ a1.toInt := by omega
  simp only [if_neg (f_nn c1), if_neg d1, if_neg d2]
  by_cases c2 : 0 ≤ a2.toInt ∧ a2.toInt < nc
  rotate_left
  · simp only [if_pos c2]
    exact ⟨_, _, _, rfl, rfl, hl⟩
  simp only [if_neg (f_nn c2)]
  by_cases c3 : 0 ≤ a3.toInt ∧ a3.toInt ≤ 1000000
  rotate_left
  · simp only [if_pos c3]
    by_cases d3 : a3.toInt < 0
    · simp only [if_pos d3]
      exact ⟨_, _, _, rfl, rfl, hl⟩
    · have d4 : ¬ a3.toInt ≤ 1000000 := by omega
      simp only [if_neg d3, if_neg d4]
      exact ⟨_, _, _, rfl, rfl, hl⟩
  simp only [if_neg (f_nn c3), if_neg (show ¬ a3.toInt < 0 by omega), if_pos c3.2]
  by_cases c4 : nI ph = 0
  rotate_left
  · simp only [if_neg c4]
    exact ⟨_, _, _, rfl, rfl, hl⟩
  simp only [if_pos c4]
  obtain ⟨n, hn5, rfl⟩ := f_ix (n := 5) ⟨c1.1, by omega⟩
  obtain ⟨c, hcc, rfl⟩ := f_ix c2
  have v1 := f_vi (c := c) (N := 16) (by omega) (by omega)
  have v2 := f_vi (c := n) (N := 5) hn5 (by omega)
  have v3 := f_vi (c := 5 * c + n) (N := 80) (by omega) (by omega)
  simp only [f_5, if_pos v1, if_pos v2, if_pos v3, f_cl (show c < 1000000 by omega), f_cl (show n < 1000000 by omega), f_cl (show 5 * c + n < 1000000 by omega)]
  obtain ⟨r1, r2, r3, r4, r5⟩ := hc c hcc
  rcases r4 n hn5 with ⟨t1, t2⟩ | ⟨t1, t2, t3⟩
  · have u1 : ((-1 : Int32) < 0) := by decide
    simp only [t1, t2, if_true, if_pos u1]
    refine ⟨_, _, _, rfl, rfl, na, nc, ph, ?_, Rm_mono (Nat.le_succ i) hm, ?_, ?_⟩
    · exact ⟨n1, n2, n3, n4, n5, n6, n7, n8, n9, n10, n11⟩
    · intro c' hc'
      obtain ⟨w1, w2, w3, w4, w5⟩ := hc c' hc'
      refine ⟨by simpa [e_pI] using w1, w2, w3, fun n' hn' => ?_, by simpa [e_pI, Ro] using w5⟩
      by_cases hcn : c' = c ∧ n' = n
      · obtain ⟨rfl, rfl⟩ := hcn
        exact Or.inr ⟨by simp [e_pI], by simp [e_pI]; omega, by simp [e_pI]; omega⟩
      · have x1 : ¬ (5 * c' + n' = 5 * c + n) := by omega
        have := w4 n' hn'
        simpa [e_pI, hcn, x1] using this
    · simpa [Rr, Rw, e_pI, e_pI2] using hr
  · have u1 : ¬ (τ.1 10 0 (5 * c + n) < 0) := by rw [fi_lt, z0]; omega
    have u2 : ¬ (τ.1 10 0 (5 * c + n) = (1000001 : Int32)) := by rw [fi_eq]; have : (1000001 : Int32).toInt = 1000001 := rfl; omega
    simp only [t1, if_neg u1, if_neg u2]
    exact ⟨_, _, _, rfl, rfl, hl⟩
