def f_w (a3 : Int32) (mg : (Nat → Nat) × (Nat → Nat)) (o : Nat) : Nat := if a3 = 0 then mg.1 o else mg.2 o
theorem q_held {own sd pr am f : Nat → Nat} {na B Bg nr i1 o : Nat} {mg : (Nat → Nat) × (Nat → Nat)} {σ : fo_S} {a3 : Int32} (hna : na ≤ 8) (hnr : nr ≤ 16) (hB : B ≤ 8600000000000) (hBg : Bg ≤ 8600000000000) (hb : tB na B Bg mg) (hlen : σ.1 5 i1 1 = nI nr) (hrow : ∀ p, p < nr → σ.1 6 i1 p = nI (f p) ∧ f p < 16) (hN : ∀ p, p < nr → CdN na own sd pr am (f p)) (hQ : ∀ p, p < nr → CdQ own sd pr am σ (f p)) (hm : MkC na 0 mg σ) (ho : o < na) :
    ∃ σ' : fo_S, q_FairOrder_heldAfterTrial σ i1 (nI o) a3 = some (lN (f_w a3 (tQ own sd pr am f mg nr) o), σ') ∧ σ'.1 = σ.1 ∧ ∀ k i j, ¬ ((k = 2 ∨ k = 3) ∧ i = 1) → σ'.2 k i j = σ.2 k i j := by
  unfold q_FairOrder_heldAfterTrial q_Market_copyFrom
  simp only [Option.bind_some]
  obtain ⟨σ1, hσ1⟩ : ∃ z, z = fo_rJ (fo_rJ σ 2 1 (va_cpy (σ.2 2 0) (σ.2 2 1) (0 : Int32).toNatClampNeg (0 : Int32).toNatClampNeg (9 : Int32).toNatClampNeg)) 3 1 (va_cpy ((fo_rJ σ 2 1 (va_cpy (σ.2 2 0) (σ.2 2 1) (0 : Int32).toNatClampNeg (0 : Int32).toNatClampNeg (9 : Int32).toNatClampNeg)).2 3 0) ((fo_rJ σ 2 1 (va_cpy (σ.2 2 0) (σ.2 2 1) (0 : Int32).toNatClampNeg (0 : Int32).toNatClampNeg (9 : Int32).toNatClampNeg)).2 3 1) (0 : Int32).toNatClampNeg (0 : Int32).toNatClampNeg (9 : Int32).toNatClampNeg) := ⟨_, rfl⟩
  rw [← hσ1]
  have e9 : (9 : Int32).toNatClampNeg = 9 := by decide
  have s1 : σ1.1 = σ.1 := by rw [hσ1]; rfl
  have s2 : ∀ k i j, ¬ ((k = 2 ∨ k = 3) ∧ i = 1) → σ1.2 k i j = σ.2 k i j := by
    intro k i j hk
    rw [hσ1]
    have k2 : ¬ (k = 2 ∧ i = 1) := fun q => hk ⟨Or.inl q.1, q.2⟩
    have k3 : ¬ (k = 3 ∧ i = 1) := fun q => hk ⟨Or.inr q.1, q.2⟩
    simp [e_rJ, k2, k3]
  have s3 : ∀ a, a < 9 → σ1.2 2 1 a = σ.2 2 0 a ∧ σ1.2 3 1 a = σ.2 3 0 a := by
    intro a ha
    rw [hσ1]
    have hc : ∀ (u v : Nat → Int64), va_cpy u v 0 0 9 a = u a := by
      intro u v
      rw [pk_cpy_in (by omega) (by omega)]
      congr 1
      omega
    simp only [e_rJ, sb_cl0, e9]
    simp [hc, e_rJ]
  have m1 : MkC na 1 mg σ1 := by
    intro a ha
    have := s3 a (by omega)
    rw [this.1, this.2]
    exact hm a ha
  obtain ⟨σ', t1, t2, t3, t4⟩ := q_trial_lp (σ := σ1) (i1 := i1) hna hnr hB hBg hb (by rw [s1]; exact hlen) (fun p hp => by rw [s1]; exact hrow p hp) hN (fun p hp => by have := hQ p hp; unfold CdQ at this ⊢; rw [s1]; exact this) m1
  rw [t1]
  simp only [Option.bind_some]
  unfold q_Market_held f_w
  have v9 := f_vi (c := o) (N := 9) (by omega) (by omega)
  obtain ⟨u1, u2⟩ := t2 o (Or.inl ho)
  simp only [if_pos v9, f_cl (show o < 1000000 by omega), u1, u2]
  refine ⟨σ', ?_, by rw [t3, s1], fun k i j hk => by rw [t4 _ _ _ hk, s2 _ _ _ hk]⟩
  by_cases c : a3 = 0
  · simp only [if_pos c, Option.bind_some]
  · simp only [if_neg c, Option.bind_some]
theorem r_cprg {τ : fo_S} {nr : Nat} (hnr : nr ≤ 16) (h : τ.1 0 0 17 = nI nr) : ∃ τ' : fo_S, fo_lp r_gain_L58 fo_FU ((0 : Int32), τ) = some (nI nr, τ') ∧ τ'.2 = τ.2 ∧ ∀ k i j, τ'.1 k i j = if k = 14 ∧ i = 0 ∧ j < nr then τ.1 11 0 j else τ.1 k i j := by
  obtain ⟨y, hy, ⟨hy1, hy2⟩⟩ := fo_lp_inv (b := r_gain_L58) (fun s => ∃ n, n ≤ nr ∧ s.1 = nI n ∧ s.2.2 = τ.2 ∧ ∀ k i j, s.2.1 k i j = if k = 14 ∧ i = 0 ∧ j < n then τ.1 11 0 j else τ.1 k i j) (fun s => nr - s.1.toNatClampNeg) (fun y => y.1 = nI nr ∧ y.2.2 = τ.2 ∧ ∀ k i j, y.2.1 k i j = if k = 14 ∧ i = 0 ∧ j < nr then τ.1 11 0 j else τ.1 k i j) (by
    rintro ⟨x, z⟩ ⟨n, hn, hx, h1, h2⟩
    simp only at hx h1 h2
    subst hx
    unfold r_gain_L58
    have h17 : z.1 0 0 17 = nI nr := by rw [h2]; simpa using h
    simp only [h17]
    by_cases hnn : n = nr
    · subst hnn
      right
      exact ⟨(nI n, z), by simp only [if_pos (f_ge (Nat.le_refl n) (by omega))], rfl, h1, h2⟩
    · left
      have hlt : n < nr := by omega
      refine ⟨_, by simp only [if_neg (f_nge hlt (by omega)), if_pos (f_vi (c := n) (N := 16) (by omega) (by omega)), f_cl (show n < 1000000 by omega), nI_1]; rfl, ⟨n + 1, hlt, rfl, h1, fun k i j => ?_⟩, ?_⟩
      · simp only [e_pI, h2]
        by_cases k14 : k = 14
        · subst k14
          by_cases hi : i = 0
          · subst hi
            by_cases hj : j = n
            · subst hj
              simp
            · have : (j < n + 1) ↔ j < n := by omega
              simp [hj, this]
          · simp [hi]
        · simp [k14]
      · simp only [f_cl (show n < 1000000 by omega), f_cl (show n + 1 < 1000000 by omega)]
        omega) fo_FU (0, τ) ⟨0, by omega, rfl, rfl, fun k i j => by simp⟩ (fo_FU_gt (by simp only [sb_cl0]; omega))
  refine ⟨y.2, ?_, hy2⟩
  rw [hy, ← hy1]
