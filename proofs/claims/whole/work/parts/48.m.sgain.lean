/-- the model's row with one call put elsewhere -/
theorem r_mv {τ : fo_S} {a b nr : Nat} (hnr : nr ≤ 16) (ha : a < nr) (hb : b < nr) (h : τ.1 0 0 17 = nI nr) : ∃ (τ' : fo_S) (x : Int32), fo_lp (r_gain_L120 (nI a) (nI b)) fo_FU ((0 : Int32), (0 : Int32), τ) = some (x, nI nr, τ') ∧ τ'.2 = τ.2 ∧ (∀ k i j, ¬ (k = 14 ∧ i = 0) → τ'.1 k i j = τ.1 k i j) ∧ ∀ k, k < nr → τ'.1 14 0 k = τ.1 11 0 (mvp a b k) := by
  obtain ⟨y, hy, ⟨hy1, hy2⟩⟩ := fo_lp_inv (b := r_gain_L120 (nI a) (nI b)) (fun s => ∃ n m, n ≤ nr ∧ m = (if b < n then n - 1 else n) ∧ s.1 = nI (if m ≤ a then m else m + 1) ∧ s.2.1 = nI n ∧ s.2.2.2 = τ.2 ∧ (∀ k i j, ¬ (k = 14 ∧ i = 0) → s.2.2.1 k i j = τ.1 k i j) ∧ ∀ k, k < n → s.2.2.1 14 0 k = τ.1 11 0 (mvp a b k)) (fun s => nr - s.2.1.toNatClampNeg) (fun y => y.2.1 = nI nr ∧ y.2.2.2 = τ.2 ∧ (∀ k i j, ¬ (k = 14 ∧ i = 0) → y.2.2.1 k i j = τ.1 k i j) ∧ ∀ k, k < nr → y.2.2.1 14 0 k = τ.1 11 0 (mvp a b k)) (by
    rintro ⟨x, x2, z⟩ ⟨n, m, hn, hm, hx, hx2, h1, h2, h3⟩
    simp only at hx hx2 h1 h2 h3
    subst hx
    subst hx2
    unfold r_gain_L120 r_gain_J164
    simp only [h2 0 0 17 (by omega), h]
    by_cases hnn : n = nr
    · subst hnn
      right
      exact ⟨_, by simp only [if_pos (f_ge (Nat.le_refl n) (show n < 1000000 by omega))]; rfl, rfl, h1, h2, h3⟩
    · left
      have hlt : n < nr := by omega
      have hm3 : nr - (nI (n + 1)).toNatClampNeg < nr - n := by
        rw [f_cl (show n + 1 < 1000000 by omega)]
        omega
      have kb : (nI n = nI b) ↔ n = b := nI_eq (by omega) (by omega)
      simp only [if_neg (f_nge hlt (show nr < 1000000 by omega)), kb, if_pos (f_vi (c := n) (N := 16) (by omega) (by omega)), f_cl (show n < 1000000 by omega), if_pos (f_vi (c := a) (N := 16) (by omega) (by omega)), f_cl (show a < 1000000 by omega), nI_1]
      have fin : ∀ (x : Int32) (v : Int32) (m' : Nat), m' = (if b < n + 1 then n + 1 - 1 else n + 1) → x = nI (if m' ≤ a then m' else m' + 1) → v = τ.1 11 0 (mvp a b n) → ∃ s', some (Sum.inl (x, nI (n + 1), fo_pI z 14 0 n v) : (Int32 × Int32 × fo_S) ⊕ (Int32 × Int32 × fo_S)) = some (.inl s') ∧ (∃ n m, n ≤ nr ∧ m = (if b < n then n - 1 else n) ∧ s'.1 = nI (if m ≤ a then m else m + 1) ∧ s'.2.1 = nI n ∧ s'.2.2.2 = τ.2 ∧ (∀ k i j, ¬ (k = 14 ∧ i = 0) → s'.2.2.1 k i j = τ.1 k i j) ∧ ∀ k, k < n → s'.2.2.1 14 0 k = τ.1 11 0 (mvp a b k)) ∧ nr - s'.2.1.toNatClampNeg < nr - n := by
        intro x v m' hm' hx hv
        refine ⟨_, rfl, ⟨n + 1, m', hlt, hm', hx, rfl, h1, fun k i j hk => ?_, fun k hk => ?_⟩, hm3⟩
        · show (if k = 14 ∧ i = 0 ∧ j = n then v else z.1 k i j) = _
          rw [if_neg (fun q => hk ⟨q.1, q.2.1⟩)]
          exact h2 k i j hk
        · show (if 14 = 14 ∧ 0 = 0 ∧ k = n then v else z.1 14 0 k) = _
          by_cases hkn : k = n
          · rw [if_pos ⟨rfl, rfl, hkn⟩, hv, hkn]
          · rw [if_neg (fun q => hkn q.2.2)]
            exact h3 k (by omega)
      by_cases hnb : n = b
      · rw [if_pos hnb]
        rw [h2 11 0 a (by omega)]
        refine fin _ _ m ?_ rfl ?_
        · rw [hm, if_neg (by omega), if_pos (by omega)]
          omega
        · unfold mvp
          rw [if_pos hnb]
      · rw [if_neg hnb]
        have hmb : m ≤ 16 := by
          rw [hm]
          split <;> omega
        have ka : (nI (if m ≤ a then m else m + 1) = nI a) ↔ m = a := by
          rw [nI_eq (by split <;> omega) (by omega)]
          split <;> omega
        simp only [ka]
        have hmm' : (b < n ∧ m + 1 = n) ∨ (n < b ∧ m = n) := by
          rw [hm]
          split <;> omega
        clear hm
        have hm2 : m + 1 = (if b < n + 1 then n + 1 - 1 else n + 1) := by
          split <;> omega
        have hmv : mvp a b n = if m < a then m else m + 1 := by
          unfold mvp
          repeat' split
          all_goals omega
        by_cases hma : m = a
        · rw [if_pos hma, if_pos (show m ≤ a by omega)]
          have v1 := f_vi (c := m + 1) (N := 16) (by omega) (by omega)
          simp only [if_pos v1, f_cl (show m + 1 < 1000000 by omega), nI_1, h2 11 0 (m + 1) (by omega)]
          refine fin _ _ (m + 1) hm2 (by rw [if_neg (by omega)]) ?_
          rw [hmv, if_neg (by omega)]
        · rw [if_neg hma, Int32.add_zero]
          by_cases hlt2 : m < a
          · rw [if_pos (show m ≤ a by omega)]
            have v1 := f_vi (c := m) (N := 16) (by omega) (by omega)
            simp only [if_pos v1, f_cl (show m < 1000000 by omega), nI_1, h2 11 0 m (by omega)]
            refine fin _ _ (m + 1) hm2 (by rw [if_pos (by omega)]) ?_
            rw [hmv, if_pos hlt2]
          · rw [if_neg (show ¬ m ≤ a by omega)]
            have v1 := f_vi (c := m + 1) (N := 16) (by omega) (by omega)
            simp only [if_pos v1, f_cl (show m + 1 < 1000000 by omega), nI_1, h2 11 0 (m + 1) (by omega)]
            refine fin _ _ (m + 1) hm2 (by rw [if_neg (by omega)]) ?_
            rw [hmv, if_neg hlt2]) fo_FU (0, 0, τ) ⟨0, 0, by omega, by rw [if_neg (by omega)], by rw [if_pos (by omega)]; rfl, rfl, rfl, fun _ _ _ _ => rfl, fun k hk => absurd hk (Nat.not_lt_zero k)⟩ (fo_FU_gt (by simp only [sb_cl0]; omega))
  exact ⟨y.2.2, y.1, by rw [hy, ← hy1], hy2⟩
