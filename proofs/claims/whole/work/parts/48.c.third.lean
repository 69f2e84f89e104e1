theorem q_nB {σ : fo_S} {c t : Nat} (ht : t < 5) : q_Call_nodesBefore σ c (nI t) = some (nI (f_rk (fun n => (σ.1 15 c n).toInt) 5 t)) := by
  unfold q_Call_nodesBefore
  have key : fo_lp (q_Call_nodesBefore_L4 σ c (nI t)) fo_FU ((0 : Int32), (0 : Int32)) = some (nI (f_rk (fun n => (σ.1 15 c n).toInt) 5 t), nI 5) := by
    rw [← nI_0]
    refine fo_lp_run (fun n => (nI (f_rk (fun n => (σ.1 15 c n).toInt) n t), nI n)) 5 _ ?_ ?_ fo_FU (fo_FU_gt (by omega))
    · intro n hn
      unfold q_Call_nodesBefore_L4
      have c1 : ¬ ((5 : Int32) ≤ nI n) := f_nge (a := 5) hn (by omega)
      have v1 := f_vi (c := n) (N := 5) hn (by omega)
      have v2 := f_vi (c := t) (N := 5) ht (by omega)
      simp only [if_neg c1, if_pos v1, if_pos v2, f_cl (show n < 1000000 by omega), f_cl (show t < 1000000 by omega)]
      have k1 : (σ.1 15 c n < σ.1 15 c t) ↔ (σ.1 15 c n).toInt < (σ.1 15 c t).toInt := fi_lt
      have k2 : (σ.1 15 c n = σ.1 15 c t) ↔ (σ.1 15 c n).toInt = (σ.1 15 c t).toInt := fi_eq
      have k3 : (nI t ≤ nI n) ↔ t ≤ n := nI_leI (by omega) (by omega)
      have e : ∀ P : Prop, ∀ i : Decidable P, f_rk (fun n => (σ.1 15 c n).toInt) (n + 1) t = f_rk (fun n => (σ.1 15 c n).toInt) n t + (if ((σ.1 15 c n).toInt < (σ.1 15 c t).toInt ∨ ((σ.1 15 c n).toInt = (σ.1 15 c t).toInt ∧ n < t)) then 1 else 0) := by
        intro _ _
        unfold f_rk
        rw [fo_n]
        simp
      have e := e True inferInstance
      simp only [k1, k2, k3]
      by_cases d1 : (σ.1 15 c n).toInt < (σ.1 15 c t).toInt
      · rw [if_pos (Or.inl d1)] at e
        simp only [if_pos d1, e, nI_1]
      · by_cases d2 : (σ.1 15 c n).toInt = (σ.1 15 c t).toInt
        · by_cases d3 : t ≤ n
          · rw [if_neg (by omega)] at e
            simp only [if_neg d1, if_pos d2, if_pos d3, e, nI_1, Nat.add_zero]
          · rw [if_pos (Or.inr ⟨d2, by omega⟩)] at e
            simp only [if_neg d1, if_pos d2, if_neg d3, e, nI_1]
        · rw [if_neg (by omega)] at e
          simp only [if_neg d1, if_neg d2, e, nI_1, Nat.add_zero]
    · unfold q_Call_nodesBefore_L4
      have c1 : ((5 : Int32) ≤ nI 5) := by decide
      simp only [if_pos c1]
  rw [key]
  rfl
theorem q_third {σ : fo_S} {c : Nat} : ∃ v : Int32, q_Call_thirdTime σ c = some v ∧ (∃ t, t < 5 ∧ v = σ.1 15 c t) ∧ f_L (fun n => (σ.1 15 c n).toInt) v.toInt ≤ 2 ∧ 2 < f_L (fun n => (σ.1 15 c n).toInt) v.toInt + f_E (fun n => (σ.1 15 c n).toInt) v.toInt := by
  unfold q_Call_thirdTime
  have hb : ∀ n, n < 5 → q_Call_thirdTime_L2 σ c (nI n) = if f_rk (fun n => (σ.1 15 c n).toInt) 5 n = 2 then some (.inr (.inr (σ.1 15 c n))) else some (.inl (nI (n + 1))) := by
    intro n hn
    unfold q_Call_thirdTime_L2
    have c1 : ¬ ((5 : Int32) ≤ nI n) := f_nge (a := 5) hn (by omega)
    have v1 := f_vi (c := n) (N := 5) hn (by omega)
    have hr : f_rk (fun n => (σ.1 15 c n).toInt) 5 n ≤ 5 := fo_n_le _ 5
    have k : (nI (f_rk (fun n => (σ.1 15 c n).toInt) 5 n) = (2 : Int32)) ↔ f_rk (fun n => (σ.1 15 c n).toInt) 5 n = 2 := nI_eq (b := 2) (by omega) (by omega)
    simp only [if_neg c1, q_nB hn, Option.bind_some, k, if_pos v1, f_cl (show n < 1000000 by omega), nI_1]
  have he : q_Call_thirdTime_L2 σ c (nI 5) = some (.inr (.inl (nI 5))) := by
    unfold q_Call_thirdTime_L2
    have c1 : ((5 : Int32) ≤ nI 5) := by decide
    simp only [if_pos c1]
  rcases fo_seek 5 (fun t => f_rk (fun n => (σ.1 15 c n).toInt) 5 t = 2) (fun t => σ.1 15 c t) (by omega) (fun n hn h => by rw [hb n hn, if_neg h]) (fun n hn h => by rw [hb n hn, if_pos h]) he with ⟨t, h1, h2, -, h4⟩ | ⟨h1, -⟩
  · rw [h4]
    have h5 := f_rk_LE (x := fun n => (σ.1 15 c n).toInt) h1
    rw [h2] at h5
    exact ⟨_, rfl, ⟨t, h1, rfl⟩, h5⟩
  · obtain ⟨t, ht, h2⟩ := f_rk_ex (fun n => (σ.1 15 c n).toInt) 5 2 (by omega)
    exact absurd h2 (h1 t ht)
