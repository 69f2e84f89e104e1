theorem fo_pJ_self (σ : fo_S) (k i j : Nat) {v : Int64} (h : v = σ.2 k i j) : fo_pJ σ k i j v = σ := by
  refine Prod.ext rfl ?_
  funext a b c
  show (if a = k ∧ b = i ∧ c = j then v else σ.2 a b c) = σ.2 a b c
  by_cases hh : a = k ∧ b = i ∧ c = j
  · obtain ⟨rfl, rfl, rfl⟩ := hh
    simp [h]
  · simp [hh]
theorem fo_pJJ (σ : fo_S) (k i j : Nat) (v w : Int64) : fo_pJ (fo_pJ σ k i j v) k i j w = fo_pJ σ k i j w := by
  refine Prod.ext rfl ?_
  funext a b c
  show (if a = k ∧ b = i ∧ c = j then w else if a = k ∧ b = i ∧ c = j then v else σ.2 a b c) = if a = k ∧ b = i ∧ c = j then w else σ.2 a b c
  by_cases hh : a = k ∧ b = i ∧ c = j <;> simp [hh]
def fo_pot (σ : fo_S) : Nat → Int64
  | 0 => σ.2 0 0 12
  | n + 1 => if σ.1 14 n 4 = 0 then fo_pot σ n + σ.2 14 n 2 else fo_pot σ n
def fr_pot (τ : fo_S) : Nat → Int64
  | 0 => τ.2 0 0 5
  | n + 1 => if τ.1 6 0 n = 0 then fr_pot τ n + τ.2 4 0 n else fr_pot τ n + 0
theorem q_take {σ : fo_S} {nc : Nat} (h : σ.1 0 0 9 = nI nc) (hn : nc ≤ 16) : q_FairOrder_takeLostDeposits σ = some (fo_pJ σ 0 0 12 (fo_pot σ nc)) := by
  unfold q_FairOrder_takeLostDeposits
  have e0 : ((0 : Int32), σ) = (fun n => (nI n, fo_pJ σ 0 0 12 (fo_pot σ n))) 0 := by
    show (0, σ) = (nI 0, fo_pJ σ 0 0 12 (fo_pot σ 0))
    rw [fo_pJ_self σ 0 0 12 (v := fo_pot σ 0) rfl]
    rfl
  rw [e0, fo_lp_run (fun n => (nI n, fo_pJ σ 0 0 12 (fo_pot σ n))) nc (nI nc, fo_pJ σ 0 0 12 (fo_pot σ nc)) ?_ ?_ fo_FU (fo_FU_gt (by omega))]
  · rfl
  · intro n hnc
    unfold q_FairOrder_takeLostDeposits_L2
    have v := f_vi (c := n) (N := 16) (by omega) (by omega)
    have c1 : ¬ (nI nc ≤ nI n) := f_nge hnc (by omega)
    have x1 : (fo_pJ σ 0 0 12 (fo_pot σ n)).2 0 0 12 = fo_pot σ n := by simp [e_pJ]
    have x2 : (fo_pJ σ 0 0 12 (fo_pot σ n)).2 14 n 2 = σ.2 14 n 2 := by simp [e_pJ]
    simp only [e_pJ1, h, if_neg c1, if_pos v, f_cl (show n < 1000000 by omega), x1, x2, fo_pJJ]
    by_cases c2 : σ.1 14 n 4 = 0
    · have : fo_pot σ (n + 1) = fo_pot σ n + σ.2 14 n 2 := by simp [fo_pot, c2]
      simp only [if_pos c2, this, nI_1]
    · have : fo_pot σ (n + 1) = fo_pot σ n := by simp [fo_pot, c2]
      simp only [if_neg c2, this, nI_1]
  · unfold q_FairOrder_takeLostDeposits_L2
    have c1 : (nI nc ≤ nI nc) := f_ge (by omega) (by omega)
    simp only [e_pJ1, h, if_pos c1]
theorem r_take {τ : fo_S} {nc : Nat} (h : τ.1 0 0 8 = nI nc) (hn : nc ≤ 16) (hp : τ.1 0 0 6 = 2) : fo_lp r_next_L36 fo_FU ((0 : Int32), τ) = some (nI nc, fo_pJ τ 0 0 5 (fr_pot τ nc)) := by
  have e0 : ((0 : Int32), τ) = (fun n => (nI n, fo_pJ τ 0 0 5 (fr_pot τ n))) 0 := by
    show (0, τ) = (nI 0, fo_pJ τ 0 0 5 (fr_pot τ 0))
    rw [fo_pJ_self τ 0 0 5 (v := fr_pot τ 0) rfl]
    rfl
  rw [e0]
  refine fo_lp_run (fun n => (nI n, fo_pJ τ 0 0 5 (fr_pot τ n))) nc (nI nc, fo_pJ τ 0 0 5 (fr_pot τ nc)) ?_ ?_ fo_FU (fo_FU_gt (by omega))
  · intro n hnc
    unfold r_next_L36
    have v := f_vi (c := n) (N := 16) (by omega) (by omega)
    have c1 : ¬ (nI nc ≤ nI n) := f_nge hnc (by omega)
    have x1 : (fo_pJ τ 0 0 5 (fr_pot τ n)).2 0 0 5 = fr_pot τ n := by simp [e_pJ]
    have x2 : (fo_pJ τ 0 0 5 (fr_pot τ n)).2 4 0 n = τ.2 4 0 n := by simp [e_pJ]
    simp only [e_pJ1, h, hp, if_true, if_neg c1, if_pos v, f_cl (show n < 1000000 by omega), x1, x2, fo_pJJ]
    by_cases c2 : τ.1 6 0 n = 0
    · have : fr_pot τ (n + 1) = fr_pot τ n + τ.2 4 0 n := by simp [fr_pot, c2]
      simp only [if_pos c2, this, nI_1]
    · have : fr_pot τ (n + 1) = fr_pot τ n + 0 := by rw [fr_pot, if_neg c2]
      simp only [if_neg c2, this, nI_1]
  · unfold r_next_L36
    have c1 : (nI nc ≤ nI nc) := f_ge (by omega) (by omega)
    simp only [e_pJ1, h, hp, if_true, if_pos c1]
theorem pot_eq {σ τ : fo_S} {nc : Nat} (h0 : σ.2 0 0 12 = τ.2 0 0 5) (h : ∀ c, c < nc → σ.2 14 c 2 = τ.2 4 0 c ∧ σ.1 14 c 4 = τ.1 6 0 c) : fo_pot σ nc = fr_pot τ nc := by
  induction nc with
  | zero => exact h0
  | succ n ih =>
    have h1 := ih (fun c hc => h c (by omega))
    have h2 := h n (by omega)
    rw [fo_pot, fr_pot, h1, h2.1, h2.2, Int64.add_zero]
theorem s_next {i : Nat} {σ τ : fo_S} (hi : i ≤ 3072) (h : Rl i σ τ) : ∃ (r : Int32) (σ1 τ1 : fo_S), q_FairOrder_next σ = some (r, σ1) ∧ r_next τ = some (r, τ1) ∧ Rl (i + 1) σ1 τ1 := by
  obtain ⟨na, nc, ph, ⟨n1, n2, n3, n4, n5, n6, n7, n8, n9, n10, n11⟩, hm, hc, hr⟩ := h
  have hm' := Rm_mono (Nat.le_succ i) hm
  unfold q_FairOrder_next r_next
  rw [n8, n9]
  rcases (show ph = 0 ∨ ph = 1 ∨ ph = 2 by omega) with rfl | rfl | rfl
  · have d1 : nI 0 = (0 : Int32) := by decide
    have d2 : ¬ nI 0 = (2 : Int32) := by decide
    have d3 : nI 0 + 1 = (1 : Int32) := by decide
    rw [if_pos d1, if_neg d2, d3]
    have lp : fo_lp r_next_L36 fo_FU ((0 : Int32), fo_pI τ 0 0 6 1) = some (0, fo_pI τ 0 0 6 1) := by
      have x : (fo_pI τ 0 0 6 1).1 0 0 6 = 1 := by simp [e_pI]
      have d4 : ¬ ((1 : Int32) = 2) := by decide
      refine fo_lp_run (fun _ => ((0 : Int32), fo_pI τ 0 0 6 1)) 0 (0, fo_pI τ 0 0 6 1) (fun n hn => absurd hn (Nat.not_lt_zero n)) ?_ fo_FU (fo_FU_gt (by omega))
      unfold r_next_L36
      simp only [x, if_neg d4]
    rw [lp]
    have x1 : (fo_pI σ 0 0 10 1).1 0 0 10 = 1 := by simp [e_pI]
    have x2 : (fo_pI τ 0 0 6 1).1 0 0 6 = 1 := by simp [e_pI]
    simp only [Option.bind_some, x1, x2]
    refine ⟨_, _, _, rfl, rfl, na, nc, 1, ?_, ?_, ?_, ?_⟩
    · refine ⟨n1, n2, by omega, ?_⟩
      simp [e_pI, e_pI2, n4, n5, n6, n7, n10, n11, show nI 1 = 1 from rfl]
    · exact hm'
    · intro c hcc
      simpa [Rc, Ro, e_pI, e_pI2] using hc c hcc
    · obtain ⟨hr1, hr2, hr3⟩ := hr
      rcases hr1 with hr1 | ⟨-, hr1, -⟩
      · exact ⟨Or.inl (by simpa [e_pI] using hr1), by simpa [e_pI, e_pI2] using hr2, by simpa [e_pI, e_pI2] using hr3⟩
      · omega
  · have d1 : ¬ nI 1 = (0 : Int32) := by decide
    have d1' : nI 1 = (1 : Int32) := by decide
    have d2 : ¬ nI 1 = (2 : Int32) := by decide
    have d3 : nI 1 + 1 = (2 : Int32) := by decide
    rw [if_neg d1, if_pos d1', if_neg d2, d3]
    rw [q_take (σ := fo_pI σ 0 0 10 2) (nc := nc) (by simp [e_pI, n6]) n2, r_take (τ := fo_pI τ 0 0 6 2) (nc := nc) (by simp [e_pI, n7]) n2 (by simp [e_pI])]
    rw [pot_eq (σ := fo_pI σ 0 0 10 2) (τ := fo_pI τ 0 0 6 2) (nc := nc) (by simp [e_pI2, n11]) (fun c hcc => by
      obtain ⟨-, ⟨q2, -⟩, -, -, q5⟩ := hc c hcc
      refine ⟨by simpa [e_pI2] using q2, ?_⟩
      rcases q5 with ⟨t1, t2⟩ | ⟨t1, t2, -⟩ <;> simp [e_pI, t1, t2])]
    generalize fr_pot (fo_pI τ 0 0 6 2) nc = P
    have x1 : (fo_pJ (fo_pI σ 0 0 10 2) 0 0 12 P).1 0 0 10 = 2 := by simp [e_pI, e_pJ1]
    have x2 : (fo_pJ (fo_pI τ 0 0 6 2) 0 0 5 P).1 0 0 6 = 2 := by simp [e_pI, e_pJ1]
    simp only [Option.bind_some, x1, x2]
    refine ⟨_, _, _, rfl, rfl, na, nc, 2, ?_, ?_, ?_, ?_⟩
    · refine ⟨n1, n2, by omega, ?_⟩
      simp [e_pI, e_pI2, e_pJ, e_pJ1, n4, n5, n6, n7, n10, show nI 2 = 2 from rfl]
    · simpa [Rm, e_pI2, e_pJ] using hm'
    · intro c hcc
      simpa [Rc, Ro, e_pI, e_pI2, e_pJ, e_pJ1] using hc c hcc
    · obtain ⟨hr1, hr2, hr3⟩ := hr
      rcases hr1 with hr1 | ⟨-, hr1, -⟩
      · exact ⟨Or.inl (by simpa [e_pI, e_pJ1] using hr1), by simpa [e_pI, e_pI2, e_pJ, e_pJ1] using hr2, by simpa [e_pI, e_pI2, e_pJ, e_pJ1] using hr3⟩
      · omega
  · have d1 : ¬ nI 2 = (0 : Int32) := by decide
    have d1' : ¬ nI 2 = (1 : Int32) := by decide
    have d2 : nI 2 = (2 : Int32) := by decide
    rw [if_neg d1, if_neg d1', if_pos d2]
    unfold q_FairOrder_beginBlock r_newBlock
    have x1 : (fo_pI (fo_pI (fo_pI (fo_pI (fo_pI (fo_pI σ 0 0 11 (σ.1 0 0 11 + 1)) 0 0 9 0) 0 0 10 0) 5 0 1 0) 0 0 13 0) 0 0 14 0).1 0 0 10 = 0 := by simp [e_pI]
    simp only [Option.bind_some, x1]
    refine ⟨_, _, _, rfl, rfl, na, 0, 0, ?_, ?_, fun c hcc => absurd hcc (Nat.not_lt_zero c), ?_, fun _ c hcc => absurd hcc (Nat.not_lt_zero c), fun _ c hcc => absurd hcc (Nat.not_lt_zero c)⟩
    · refine ⟨n1, by omega, by omega, ?_⟩
      simp [e_pI, e_pI2, n4, n5, n10, n11, nI_0]
    · simpa [Rm, e_pI2] using hm'
    · exact Or.inl (by simp [e_pI])
