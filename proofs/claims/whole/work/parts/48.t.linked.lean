def fO (σ : fo_S) (c : Nat) : Bool := decide (σ.1 14 c 4 = 1)
theorem Rc_O {na c : Nat} {σ τ : fo_S} (h : Rc na σ τ c) : σ.1 14 c 4 = b1 (fO σ c) ∧ τ.1 6 0 c = b1 (fO σ c) := by
  obtain ⟨-, -, -, -, h⟩ := h
  unfold fO
  rcases h with ⟨h1, h2⟩ | ⟨h1, h2, -⟩
  · rw [h1, h2]
    decide
  · rw [h1, h2]
    decide
theorem Rl_Lm {na nc : Nat} {σ τ : fo_S} (hc : ∀ c, c < nc → Rc na σ τ c) (h8 : τ.1 0 0 8 = nI nc) : Lm nc (fO σ) (σ.1 15) τ := ⟨h8, fun c h => (Rc_O (hc c h)).2, fun c n h hn => (hc c h).2.2.2.1 n hn⟩
theorem s_linked {i : Nat} {σ τ : fo_S} (_ : i ≤ 3072) (h : Rl i σ τ) {a1 a2 : Int32} : ∃ (r : Int32) (σ1 τ1 : fo_S), q_FairOrder_linked σ a1 a2 = some (r, σ1) ∧ r_linked τ a1 a2 = some (r, τ1) ∧ Rl (i + 1) σ1 τ1 := by
  have hl := Rl_mono (Nat.le_succ i) h
  obtain ⟨na, nc, ph, ⟨n1, n2, n3, n4, n5, n6, n7, -⟩, hm, hc, hr⟩ := h
  unfold q_FairOrder_linked r_linked q_FairOrder_isOpenedCall
  simp only [q_isC n6 n2, r_isC n7 n2, Option.bind_some, f_if0]
  by_cases c1 : 0 ≤ a1.toInt ∧ a1.toInt < nc
  rotate_left
  · simp only [if_pos c1, Option.bind_some, if_true]
    exact ⟨_, _, _, rfl, rfl, hl⟩
  simp only [if_neg (f_nn c1)]
  obtain ⟨a, ha, rfl⟩ := f_ix c1
  have e10 : ¬ ((1 : Int32) = 0) := by decide
  have va := f_vi (c := a) (N := 16) (by omega) (by omega)
  have hOa := Rc_O (hc a ha)
  simp only [if_pos va, f_cl (show a < 1000000 by omega), hOa.1, hOa.2, b1_0]
  by_cases c2 : 0 ≤ a2.toInt ∧ a2.toInt < nc
  rotate_left
  · simp only [if_pos c2, Option.bind_some, if_true]
    cases hA : fO σ a with
    | false =>
      simp only [if_true, Option.bind_some]
      exact ⟨_, _, _, rfl, rfl, hl⟩
    | true =>
      simp only [Bool.true_eq_false, if_false, Option.bind_some, if_neg e10]
      exact ⟨_, _, _, rfl, rfl, hl⟩
  simp only [if_neg (f_nn c2)]
  obtain ⟨b, hb, rfl⟩ := f_ix c2
  have vb := f_vi (c := b) (N := 16) (by omega) (by omega)
  have hOb := Rc_O (hc b hb)
  simp only [if_pos vb, f_cl (show b < 1000000 by omega), hOb.1, hOb.2, b1_0]
  cases hA : fO σ a with
  | false =>
    simp only [if_true, Option.bind_some]
    exact ⟨_, _, _, rfl, rfl, hl⟩
  | true =>
    simp only [Bool.true_eq_false, if_false, Option.bind_some, if_neg e10]
    cases hB : fO σ b with
    | false =>
      simp only [if_true, Option.bind_some]
      exact ⟨_, _, _, rfl, rfl, hl⟩
    | true =>
      simp only [Bool.true_eq_false, if_false, Option.bind_some, if_neg e10]
      obtain ⟨σ', T, t1, t2, t3, t4, t5⟩ := q_find (nc := nc) (O := fO σ) (σ := σ) n2 (fun c hcc => (Rc_O (hc c hcc)).1)
      obtain ⟨τ', v, u1, u2, u3, u4⟩ := r_ld (a := a) (b := b) n2 (Rl_Lm hc n7) ha hb hA
      rw [n6, t1, u1]
      simp only [Option.bind_some, q_ld n2 ha hb (t4 a ha), b1_0]
      have hv : T a b = v := by
        have := (t5 a b ha hb).trans u2.symm
        cases hT : T a b <;> cases hv : v <;> simp_all
      rw [hv]
      have hfin : Rl (i + 1) σ' τ' := Rl_fr hl (fun k i j hk => t3 k i j (by omega)) (fun k i j hk => by rw [t2]) (fun k i j hk => u4 k i j (by omega)) (fun k i j hk => by rw [u3])
      cases v with
      | false =>
        simp only [if_true]
        exact ⟨_, _, _, rfl, rfl, hfin⟩
      | true =>
        simp only [Bool.true_eq_false, if_false]
        exact ⟨_, _, _, rfl, rfl, hfin⟩
/-- the class's set of the calls made known -/
theorem q_os {nc : Nat} {O : Nat → Bool} {σ : fo_S} (hnc : nc ≤ 16) (h9 : σ.1 0 0 9 = nI nc) (hO : ∀ c, c < nc → σ.1 14 c 4 = b1 (O c)) : ∃ w, q_FairOrder_openedSet σ = some w ∧ Bs nc O w := by
  unfold q_FairOrder_openedSet
  obtain ⟨y, hy, hy1⟩ := fo_lp_for (b := q_FairOrder_openedSet_L4 σ) nc (fun n s => s.2 = nI n ∧ Bs n O s.1) (fun y => Bs nc O y.1) (by
    rintro n ⟨w, x⟩ hn ⟨h1, h2⟩
    simp only at h1 h2
    subst h1
    left
    unfold q_FairOrder_openedSet_L4
    have vn := f_vi (c := n) (N := 16) (by omega) (by omega)
    simp only [h9, if_neg (f_nge hn (show nc < 1000000 by omega)), if_pos vn, f_cl (show n < 1000000 by omega), hO n hn, b1_0, nI_1]
    cases hOn : O n with
    | false =>
      simp only [if_true]
      exact ⟨_, rfl, rfl, Bs_no h2 hOn⟩
    | true =>
      simp only [Bool.true_eq_false, if_false]
      exact ⟨_, rfl, rfl, Bs_ad h2 (by omega) hOn⟩) (by
    rintro ⟨w, x⟩ ⟨h1, h2⟩
    simp only at h1 h2
    subst h1
    unfold q_FairOrder_openedSet_L4
    simp only [h9, if_pos (f_ge (Nat.le_refl nc) (show nc < 1000000 by omega))]
    exact ⟨_, rfl, h2⟩) (s0 := ((0 : Int32), (0 : Int32))) ⟨rfl, Bs_0 _⟩ (by omega)
  rw [hy]
  exact ⟨_, rfl, hy1⟩
