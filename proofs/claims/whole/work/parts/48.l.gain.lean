theorem Rl_fr {i : Nat} {σ τ σ' τ' : fo_S} (h : Rl i σ τ) (h1 : ∀ k i j, (k = 0 ∨ (k = 5 ∧ i = 0) ∨ (k = 6 ∧ i = 0) ∨ k = 14 ∨ k = 15) → σ'.1 k i j = σ.1 k i j) (h2 : ∀ k i j, (k = 0 ∨ (k = 2 ∧ i = 0) ∨ (k = 3 ∧ i = 0) ∨ k = 14) → σ'.2 k i j = σ.2 k i j) (h3 : ∀ k i j, (k = 0 ∨ k = 3 ∨ k = 6 ∨ k = 7 ∨ k = 8 ∨ k = 9 ∨ k = 10 ∨ k = 11 ∨ k = 12) → τ'.1 k i j = τ.1 k i j) (h4 : ∀ k i j, ((k = 0 ∧ j ≤ 5) ∨ k = 1 ∨ k = 2 ∨ k = 4 ∨ k = 5 ∨ k = 13) → τ'.2 k i j = τ.2 k i j) : Rl i σ' τ' := by
  obtain ⟨na, nc, ph, hn, hm, hc, hr⟩ := h
  refine ⟨na, nc, ph, ?_, ?_, ?_, ?_⟩
  · unfold Rn at hn ⊢
    rw [h1 0 0 8 (by omega), h1 0 0 9 (by omega), h1 0 0 10 (by omega), h1 0 0 11 (by omega), h2 0 0 12 (by omega), h3 0 0 0 (by omega), h3 0 0 8 (by omega), h3 0 0 6 (by omega), h3 0 0 7 (by omega), h4 0 0 5 (by omega)]
    exact hn
  · obtain ⟨p, q⟩ := hm
    refine ⟨?_, fun a ha => ?_⟩
    · rw [h2 2 0 8 (by omega), h2 3 0 8 (by omega), h4 0 0 3 (by omega), h4 0 0 4 (by omega)]
      exact p
    · rw [h2 2 0 a (by omega), h2 3 0 a (by omega), h4 0 0 3 (by omega), h4 1 0 a (by omega), h4 2 0 a (by omega)]
      exact q a ha
  · intro c hcc
    obtain ⟨x1, x2, x3, x4, x5⟩ := hc c hcc
    refine ⟨?_, ?_, ?_, ?_, ?_⟩
    · rw [h1 14 c 1 (by omega), h3 3 0 c (by omega)]
      exact x1
    · rw [h2 14 c 2 (by omega), h4 4 0 c (by omega)]
      exact x2
    · rw [h2 14 c 3 (by omega), h4 5 0 c (by omega)]
      exact x3
    · intro n hn
      rw [h1 15 c n (by omega), h3 10 0 (5 * c + n) (by omega)]
      exact x4 n hn
    · unfold Ro at x5 ⊢
      rw [h1 14 c 4 (by omega), h1 14 c 5 (by omega), h1 14 c 6 (by omega), h1 14 c 7 (by omega), h3 6 0 c (by omega), h3 7 0 c (by omega), h3 8 0 c (by omega), h3 9 0 c (by omega)]
      exact x5
  · obtain ⟨r1, r2, r3⟩ := hr
    refine ⟨?_, ?_, ?_⟩
    · rw [h1 0 0 13 (by omega), h1 0 0 14 (by omega), h1 5 0 1 (by omega), h3 0 0 19 (by omega), h3 0 0 17 (by omega)]
      rcases r1 with r1 | ⟨g1, g2, ⟨nr, f, g3, g4, g5, g6, g7⟩, g8⟩
      · exact Or.inl r1
      · refine Or.inr ⟨g1, g2, ⟨nr, f, g3, g4, g5, fun k hk => ?_, g7⟩, g8⟩
        rw [h1 6 0 k (by omega), h3 11 0 k (by omega), h3 6 0 (f k) (by omega)]
        exact g6 k hk
    · rw [h1 0 0 14 (by omega)]
      intro q c hcc
      rw [h1 14 c 8 (by omega), h2 14 c 9 (by omega)]
      exact r2 q c hcc
    · rw [h1 0 0 14 (by omega)]
      intro q c hcc
      rw [h1 14 c 8 (by omega), h2 14 c 9 (by omega), h3 12 0 c (by omega), h4 13 0 c (by omega)]
      exact r3 q c hcc
/-- the row f with what stands at place i put to place j: which place of f stands at k -/
def mvp (i j k : Nat) : Nat := if k = j then i else if k < j then (if k < i then k else k + 1) else (if k - 1 < i then k - 1 else k)
theorem mvp_lt {i j k nr : Nat} (hi : i < nr) (hj : j < nr) (hk : k < nr) : mvp i j k < nr := by
  unfold mvp
  repeat' split
  all_goals omega
theorem mvp_inj {i j k l : Nat} (h : mvp i j k = mvp i j l) : k = l := by
  unfold mvp at h
  repeat' split at h
  all_goals omega
theorem q_swp {σ : fo_S} {i0 p q : Nat} (hp : p < 16) (hq : q < 16) : ∃ σ' : fo_S, q_Row_swap σ i0 (nI p) (nI q) = some σ' ∧ σ'.2 = σ.2 ∧ ∀ k i j, σ'.1 k i j = if k = 6 ∧ i = i0 ∧ j = q then σ.1 6 i0 p else if k = 6 ∧ i = i0 ∧ j = p then σ.1 6 i0 q else σ.1 k i j := by
  unfold q_Row_swap
  simp only [if_pos (f_vi (c := p) (N := 16) hp (by omega)), if_pos (f_vi (c := q) (N := 16) hq (by omega)), f_cl (show p < 1000000 by omega), f_cl (show q < 1000000 by omega)]
  exact ⟨_, rfl, rfl, fun k i j => rfl⟩
theorem q_mv {σ : fo_S} {i0 a b nr : Nat} (hnr : nr ≤ 16) (ha : a < nr) (hb : b < nr) : ∃ σ' : fo_S, q_Row_move σ i0 (nI a) (nI b) = some σ' ∧ σ'.2 = σ.2 ∧ (∀ k i j, ¬ (k = 6 ∧ i = i0) → σ'.1 k i j = σ.1 k i j) ∧ ∀ k, k < nr → σ'.1 6 i0 k = σ.1 6 i0 (mvp a b k) := by
  unfold q_Row_move
  -- upwards
  have up : ∃ σ1 : fo_S, ∃ x : Int32, fo_lp (q_Row_move_L2 i0 (nI b)) fo_FU (nI a, σ) = some (x, σ1) ∧ σ1.2 = σ.2 ∧ (∀ k i j, ¬ (k = 6 ∧ i = i0) → σ1.1 k i j = σ.1 k i j) ∧ ∀ k, σ1.1 6 i0 k = if a ≤ b then (if k < a then σ.1 6 i0 k else if k < b then σ.1 6 i0 (k + 1) else if k = b then σ.1 6 i0 a else σ.1 6 i0 k) else σ.1 6 i0 k := by
    by_cases hab : a ≤ b
    · obtain ⟨y, hy, hy2⟩ := fo_lp_inv (b := q_Row_move_L2 i0 (nI b)) (fun s => ∃ n, a ≤ n ∧ n ≤ b ∧ s.1 = nI n ∧ s.2.2 = σ.2 ∧ (∀ k i j, ¬ (k = 6 ∧ i = i0) → s.2.1 k i j = σ.1 k i j) ∧ ∀ k, s.2.1 6 i0 k = if k < a then σ.1 6 i0 k else if k < n then σ.1 6 i0 (k + 1) else if k = n then σ.1 6 i0 a else σ.1 6 i0 k) (fun s => b - s.1.toNatClampNeg) (fun y => y.2.2 = σ.2 ∧ (∀ k i j, ¬ (k = 6 ∧ i = i0) → y.2.1 k i j = σ.1 k i j) ∧ ∀ k, y.2.1 6 i0 k = if k < a then σ.1 6 i0 k else if k < b then σ.1 6 i0 (k + 1) else if k = b then σ.1 6 i0 a else σ.1 6 i0 k) (by
        rintro ⟨x, z⟩ ⟨n, hn1, hn2, hx, h1, h2, h3⟩
        simp only at hx h1 h2 h3
        subst hx
        unfold q_Row_move_L2
        by_cases hnn : n = b
        · subst hnn
          right
          exact ⟨(nI n, z), by simp only [if_pos (f_ge (Nat.le_refl n) (by omega))], h1, h2, h3⟩
        · left
          have hlt : n < b := by omega
          obtain ⟨z', t1, t2, t3⟩ := q_swp (σ := z) (i0 := i0) (p := n) (q := n + 1) (by omega) (by omega)
          refine ⟨(nI (n + 1), z'), by simp only [if_neg (f_nge hlt (by omega)), nI_1, t1, Option.bind_some], ⟨n + 1, by omega, by omega, rfl, by rw [t2]; exact h1, fun k i j hk => ?_, fun k => ?_⟩, ?_⟩
          · show z'.1 k i j = _
            rw [t3, if_neg (fun q => hk ⟨q.1, q.2.1⟩), if_neg (fun q => hk ⟨q.1, q.2.1⟩)]
            exact h2 k i j hk
          · show z'.1 6 i0 k = _
            rw [t3]
            by_cases k1 : k = n + 1
            · subst k1
              rw [if_pos ⟨rfl, rfl, rfl⟩, h3, if_neg (by omega), if_neg (by omega), if_pos rfl, if_neg (by omega), if_neg (by omega), if_pos rfl]
            · rw [if_neg (fun q => k1 q.2.2)]
              by_cases k2 : k = n
              · subst k2
                rw [if_pos ⟨rfl, rfl, rfl⟩, h3, if_neg (by omega), if_neg (by omega), if_neg (by omega), if_neg (by omega), if_pos (by omega)]
              · rw [if_neg (fun q => k2 q.2.2), h3]
                by_cases k3 : k < a
                · rw [if_pos k3, if_pos k3]
                · rw [if_neg k3, if_neg k3]
                  by_cases k4 : k < n
                  · rw [if_pos k4, if_pos (by omega)]
                  · rw [if_neg k4, if_neg k2, if_neg (by omega), if_neg k1]
          · show b - (nI (n + 1)).toNatClampNeg < b - (nI n).toNatClampNeg
            rw [f_cl (show n < 1000000 by omega), f_cl (show n + 1 < 1000000 by omega)]
            omega) fo_FU (nI a, σ) ⟨a, Nat.le_refl a, hab, rfl, rfl, fun _ _ _ _ => rfl, fun k => by
              by_cases k3 : k < a
              · rw [if_pos k3]
              · rw [if_neg k3]
                by_cases k4 : k = a
                · rw [if_neg k3, if_pos k4, k4]
                · rw [if_neg k3, if_neg k4]⟩ (fo_FU_gt (by simp only [f_cl (show a < 1000000 by omega)]; omega))
      refine ⟨y.2, y.1, hy, hy2.1, hy2.2.1, fun k => ?_⟩
      rw [if_pos hab]
      exact hy2.2.2 k
    · refine ⟨σ, nI a, fo_lp_run (fun _ => (nI a, σ)) 0 (nI a, σ) (fun n hn => absurd hn (Nat.not_lt_zero n)) ?_ fo_FU (fo_FU_gt (by omega)), rfl, fun _ _ _ _ => rfl, fun k => by rw [if_neg hab]⟩
      unfold q_Row_move_L2
      simp only [if_pos (f_ge (show b ≤ a by omega) (by omega))]
  obtain ⟨σ1, x, u1, u2, u3, u4⟩ := up
  rw [u1]
  simp only [Option.bind_some]
  have dn : ∃ σ2 : fo_S, ∃ x : Int32, fo_lp (q_Row_move_L23 i0 (nI b)) fo_FU (nI a, σ1) = some (x, σ2) ∧ σ2.2 = σ1.2 ∧ (∀ k i j, ¬ (k = 6 ∧ i = i0) → σ2.1 k i j = σ1.1 k i j) ∧ ∀ k, σ2.1 6 i0 k = if b < a then (if k < b then σ1.1 6 i0 k else if k = b then σ1.1 6 i0 a else if k ≤ a then σ1.1 6 i0 (k - 1) else σ1.1 6 i0 k) else σ1.1 6 i0 k := by
    by_cases hab : b < a
    · obtain ⟨y, hy, hy2⟩ := fo_lp_inv (b := q_Row_move_L23 i0 (nI b)) (fun s => ∃ n, b ≤ n ∧ n ≤ a ∧ s.1 = nI n ∧ s.2.2 = σ1.2 ∧ (∀ k i j, ¬ (k = 6 ∧ i = i0) → s.2.1 k i j = σ1.1 k i j) ∧ ∀ k, s.2.1 6 i0 k = if k < n then σ1.1 6 i0 k else if k = n then σ1.1 6 i0 a else if k ≤ a then σ1.1 6 i0 (k - 1) else σ1.1 6 i0 k) (fun s => s.1.toNatClampNeg) (fun y => y.2.2 = σ1.2 ∧ (∀ k i j, ¬ (k = 6 ∧ i = i0) → y.2.1 k i j = σ1.1 k i j) ∧ ∀ k, y.2.1 6 i0 k = if k < b then σ1.1 6 i0 k else if k = b then σ1.1 6 i0 a else if k ≤ a then σ1.1 6 i0 (k - 1) else σ1.1 6 i0 k) (by
        rintro ⟨x, z⟩ ⟨n, hn1, hn2, hx, h1, h2, h3⟩
        simp only at hx h1 h2 h3
        subst hx
        unfold q_Row_move_L23
        by_cases hnn : n = b
        · subst hnn
          right
          exact ⟨(nI n, z), by simp only [if_pos (f_ge (Nat.le_refl n) (by omega))], h1, h2, h3⟩
        · left
          have hlt : b < n := by omega
          obtain ⟨m, rfl⟩ : ∃ m, n = m + 1 := ⟨n - 1, by omega⟩
          obtain ⟨z', t1, t2, t3⟩ := q_swp (σ := z) (i0 := i0) (p := m + 1) (q := m) (by omega) (by omega)
          refine ⟨(nI m, z'), by simp only [if_neg (f_nge hlt (by omega)), nI_pred, pk_m1, t1, Option.bind_some], ⟨m, by omega, by omega, rfl, by rw [t2]; exact h1, fun k i j hk => ?_, fun k => ?_⟩, ?_⟩
          · show z'.1 k i j = _
            rw [t3, if_neg (fun q => hk ⟨q.1, q.2.1⟩), if_neg (fun q => hk ⟨q.1, q.2.1⟩)]
            exact h2 k i j hk
          · show z'.1 6 i0 k = _
            rw [t3]
            by_cases k1 : k = m
            · subst k1
              rw [if_pos ⟨rfl, rfl, rfl⟩, h3, if_neg (by omega), if_pos rfl, if_neg (by omega), if_pos rfl]
            · rw [if_neg (fun q => k1 q.2.2)]
              by_cases k2 : k = m + 1
              · subst k2
                rw [if_pos ⟨rfl, rfl, rfl⟩, h3, if_pos (by omega), if_neg (by omega), if_neg (by omega), if_pos (by omega), Nat.add_sub_cancel]
              · rw [if_neg (fun q => k2 q.2.2), h3]
                by_cases k3 : k < m
                · rw [if_pos (by omega), if_pos k3]
                · rw [if_neg (by omega), if_neg k2, if_neg k3, if_neg k1]
          · show (nI m).toNatClampNeg < (nI (m + 1)).toNatClampNeg
            rw [f_cl (show m < 1000000 by omega), f_cl (show m + 1 < 1000000 by omega)]
            omega) fo_FU (nI a, σ1) ⟨a, by omega, Nat.le_refl a, rfl, rfl, fun _ _ _ _ => rfl, fun k => by
              by_cases k3 : k < a
              · rw [if_pos k3]
              · rw [if_neg k3]
                by_cases k4 : k = a
                · rw [if_pos k4, k4]
                · rw [if_neg k4, if_neg (by omega)]⟩ (fo_FU_gt (by simp only [f_cl (show a < 1000000 by omega)]; omega))
      refine ⟨y.2, y.1, hy, hy2.1, hy2.2.1, fun k => ?_⟩
      rw [if_pos hab]
      exact hy2.2.2 k
    · refine ⟨σ1, nI a, fo_lp_run (fun _ => (nI a, σ1)) 0 (nI a, σ1) (fun n hn => absurd hn (Nat.not_lt_zero n)) ?_ fo_FU (fo_FU_gt (by omega)), rfl, fun _ _ _ _ => rfl, fun k => by rw [if_neg hab]⟩
      unfold q_Row_move_L23
      simp only [if_pos (f_ge (show a ≤ b by omega) (by omega))]
  obtain ⟨σ2, x2, v1, v2, v3, v4⟩ := dn
  rw [v1]
  refine ⟨σ2, rfl, by rw [v2, u2], fun k i j hk => by rw [v3 _ _ _ hk, u3 _ _ _ hk], fun k hk => ?_⟩
  rw [v4]
  unfold mvp
  by_cases hab : b < a
  · have hab' : ¬ a ≤ b := by omega
    simp only [u4, if_pos hab, if_neg hab']
    repeat' split
    all_goals first | rfl | (exfalso; omega) | (congr 1; omega)
  · have hab' : a ≤ b := by omega
    simp only [u4, if_neg hab, if_pos hab']
    repeat' split
    all_goals first | rfl | (exfalso; omega) | (congr 1; omega)
