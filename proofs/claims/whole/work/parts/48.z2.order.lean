theorem Rl_row {i na nc ph nr : Nat} {f : Nat → Nat} {σ τ σ' τ' : fo_S} (hn : Rn na nc ph σ τ) (hm : Rm i na σ τ) (hc : ∀ c, c < nc → Rc na σ τ c) (hr : Rr nc ph σ τ) (hph : ph = 2) (hRk : Rk nc (fO σ) nr f) (hnr : nr ≤ nc) (hq : Rq nr f σ') (hp : Rp nr f τ') (h13 : σ'.1 0 0 13 = 1) (h1 : ∀ k i j, ((k = 0 ∧ ¬ j = 13) ∨ k = 14 ∨ k = 15) → σ'.1 k i j = σ.1 k i j) (h2 : σ'.2 = σ.2) (h3 : ∀ k i j, ((k = 0 ∧ ¬ j = 17) ∨ k = 3 ∨ k = 6 ∨ k = 7 ∨ k = 8 ∨ k = 9 ∨ k = 10 ∨ k = 12) → τ'.1 k i j = τ.1 k i j) (h4 : τ'.2 = τ.2) : Rl i σ' τ' := by
  refine ⟨na, nc, ph, ?_, ?_, ?_, ?_⟩
  · unfold Rn at hn ⊢
    rw [h1 0 0 8 (by omega), h1 0 0 9 (by omega), h1 0 0 10 (by omega), h1 0 0 11 (by omega), h2, h3 0 0 0 (by omega), h3 0 0 8 (by omega), h3 0 0 6 (by omega), h3 0 0 7 (by omega), h4]
    exact hn
  · unfold Rm at hm ⊢
    rw [h2, h4]
    exact hm
  · intro c hcc
    obtain ⟨x1, x2, x3, x4, x5⟩ := hc c hcc
    refine ⟨?_, ?_, ?_, ?_, ?_⟩
    · rw [h1 14 c 1 (by omega), h3 3 0 c (by omega)]
      exact x1
    · rw [h2, h4]
      exact x2
    · rw [h2, h4]
      exact x3
    · intro n hn
      rw [h1 15 c n (by omega), h3 10 0 (5 * c + n) (by omega)]
      exact x4 n hn
    · unfold Ro at x5 ⊢
      rw [h1 14 c 4 (by omega), h1 14 c 5 (by omega), h1 14 c 6 (by omega), h1 14 c 7 (by omega), h3 6 0 c (by omega), h3 7 0 c (by omega), h3 8 0 c (by omega), h3 9 0 c (by omega)]
      exact x5
  · obtain ⟨r1, r2, r3⟩ := hr
    refine ⟨Or.inr ⟨h13, hph, ⟨nr, f, hnr, hq.1, hp.1, fun k hk => ⟨hq.2 k hk, hp.2 k hk, (hRk.1 k hk).1, ?_⟩, hRk.2⟩, ?_⟩, ?_, ?_⟩
    · rw [h3 6 0 (f k) (by omega), (Rc_O (hc _ (hRk.1 k hk).1)).2, (hRk.1 k hk).2]
      rfl
    · rw [h1 0 0 14 (by omega), h3 0 0 19 (by omega)]
      rcases r1 with r1 | ⟨-, -, -, g8⟩
      · exact Or.inl ⟨r1.2.1, r1.2.2.1⟩
      · exact g8
    · rw [h1 0 0 14 (by omega)]
      intro q c hcc
      rw [h1 14 c 8 (by omega), h2]
      exact r2 q c hcc
    · rw [h1 0 0 14 (by omega)]
      intro q c hcc
      rw [h1 14 c 8 (by omega), h2, h3 12 0 c (by omega), h4]
      exact r3 q c hcc
def F567 (σ' σ : fo_S) : Prop := σ'.2 = σ.2 ∧ ∀ k i j, ¬ (k = 5 ∧ i = 0 ∧ j = 1) → ¬ (k = 6 ∧ i = 0) → ¬ (k = 7 ∧ i = 0) → σ'.1 k i j = σ.1 k i j
theorem F56_7 {σ' σ : fo_S} (h : F56 σ' σ) : F567 σ' σ := ⟨h.1, fun k i j h1 h2 _ => h.2 k i j h1 h2⟩
theorem F567_t {σ σ' σ'' : fo_S} (h : F567 σ'' σ') (h' : F567 σ' σ) : F567 σ'' σ := ⟨h.1.trans h'.1, fun k i j h1 h2 h3 => (h.2 k i j h1 h2 h3).trans (h'.2 k i j h1 h2 h3)⟩
theorem q_keys {nc : Nat} {ky : Nat → Int32} {a1 : Int32} {σ : fo_S} (hnc : nc ≤ 16) (h9 : σ.1 0 0 9 = nI nc) (hky : ∀ z, F567 z σ → ∀ c, c < nc → q_FairOrder_keyOf z c a1 = some (ky c)) : ∃ y, fo_lp (q_FairOrder_arrange_L17 a1) fo_FU ((0 : Int32), σ) = some y ∧ (∀ c, c < nc → y.2.1 7 0 c = ky c) ∧ y.2.2 = σ.2 ∧ ∀ k i j, ¬ (k = 7 ∧ i = 0) → y.2.1 k i j = σ.1 k i j := by
  refine fo_lp_for (b := q_FairOrder_arrange_L17 a1) nc (fun n s => s.1 = nI n ∧ (∀ c, c < n → s.2.1 7 0 c = ky c) ∧ s.2.2 = σ.2 ∧ ∀ k i j, ¬ (k = 7 ∧ i = 0) → s.2.1 k i j = σ.1 k i j) _ ?_ ?_ ⟨rfl, fun c hc => absurd hc (Nat.not_lt_zero c), rfl, fun _ _ _ _ => rfl⟩ (by omega)
  · rintro n ⟨u, z⟩ hn ⟨h1, h2, h3, h4⟩
    simp only at h1 h2 h3 h4
    subst h1
    left
    unfold q_FairOrder_arrange_L17
    have e9 : z.1 0 0 9 = nI nc := by rw [h4 0 0 9 (by omega)]; exact h9
    simp only [e9, if_neg (f_nge hn (show nc < 1000000 by omega)), if_pos (f_vi (c := n) (N := 16) (by omega) (by omega)), f_cl (show n < 1000000 by omega), hky z ⟨h3, fun k i j _ _ k3 => h4 k i j k3⟩ n hn, Option.bind_some, nI_1]
    refine ⟨_, rfl, rfl, fun c hc => ?_, h3, fun k i j hk => ?_⟩
    · show (fo_pI z 7 0 n (ky n)).1 7 0 c = _
      rw [e_pI]
      by_cases q : c = n
      · rw [if_pos ⟨rfl, rfl, q⟩, q]
      · rw [if_neg (fun r => q r.2.2)]
        exact h2 c (by omega)
    · show (fo_pI z 7 0 n (ky n)).1 k i j = _
      rw [e_pI, if_neg (fun r => hk ⟨r.1, r.2.1⟩)]
      exact h4 k i j hk
  · rintro ⟨u, z⟩ ⟨h1, h2, h3, h4⟩
    simp only at h1 h2 h3 h4
    subst h1
    unfold q_FairOrder_arrange_L17
    have e9 : z.1 0 0 9 = nI nc := by rw [h4 0 0 9 (by omega)]; exact h9
    simp only [e9, if_pos (f_ge (Nat.le_refl nc) (show nc < 1000000 by omega))]
    exact ⟨_, rfl, h2, h3, h4⟩
/-- an order by keys -/
theorem ord_key {nc : Nat} {O : Nat → Bool} {ky rk : Nat → Int32} {a1 : Int32} {a2 : Int64} {σ τ : fo_S} (hnc : nc ≤ 16) (h9 : σ.1 0 0 9 = nI nc) (hO : ∀ c, c < nc → σ.1 14 c 4 = b1 (O c)) (h5 : σ.1 5 0 1 = 0) (h8 : τ.1 0 0 8 = nI nc) (h6 : ∀ c, c < nc → τ.1 6 0 c = b1 (O c)) (ha4 : ¬ a1 = 4) (hky : ∀ z, F567 z σ → ∀ c, c < nc → q_FairOrder_keyOf z c a1 = some (ky c)) (hrk : ∀ z, F11 z τ → ∀ c, c < nc → O c = true → r_rankOf z a1 (nI c) = some (rk c)) (hK : ∀ a b, a < nc → b < nc → O a = true → O b = true → ((rk a ≤ rk b) ↔ (ky a).toInt ≤ (ky b).toInt)) : ∃ (x6 x7 : fo_S) (y : Int32 × fo_S) (f : Nat → Nat), q_FairOrder_addByNumbers σ = some x6 ∧ q_FairOrder_arrange x6 a1 a2 = some x7 ∧ fo_lp (r_order_L34 a1) fo_FU ((0 : Int32), fo_pI τ 0 0 17 (0 : Int32)) = some y ∧ Rk nc O (fo_n O nc) f ∧ Rq (fo_n O nc) f x7 ∧ Rp (fo_n O nc) f y.2 ∧ F567 x7 σ ∧ F11 y.2 τ := by
  obtain ⟨x6, b1', b2, b3⟩ := q_adN hnc h9 hO h5
  obtain ⟨y, c1, c2, c3⟩ := r_srt (K := fun c => (ky c).toInt) hnc h8 h6 hrk hK
  have hg := oR_Rk O nc
  have hle := fo_n_le O nc
  obtain ⟨z, k1, k2, k3, k4⟩ := q_keys (ky := ky) (a1 := a1) (σ := x6) hnc (by rw [b3.2 0 0 9 (by omega) (by omega)]; exact h9) (fun z hz c hc => hky z (F567_t hz (F56_7 b3)) c hc)
  obtain ⟨x7, d1, d2, d3⟩ := q_srt (K := fun c => (ky c).toInt) (g := oR O nc) (n := fo_n O nc) (σ := z.2) (by omega) ⟨by rw [k4 5 0 1 (by omega)]; exact b2.1, fun k hk => by rw [k4 6 0 k (by omega)]; exact b2.2 k hk⟩ (fun k hk => by have := (hg.1 k hk).1; omega) (fun k hk => by rw [k2 _ (hg.1 k hk).1])
  refine ⟨x6, x7, y, srt (fun c => (ky c).toInt) (oR O nc) (fo_n O nc), b1', ?_, c1, srt_Rk hg _ (Nat.le_refl _), d2, c2, ?_, c3⟩
  · unfold q_FairOrder_arrange
    simp only [if_neg ha4, k1, Option.bind_some, d1]
  · exact F567_t (F56_7 d3) (F567_t ⟨k3, fun k i j _ _ q => k4 k i j q⟩ (F56_7 b3))
theorem r_by0 {nc : Nat} {O : Nat → Bool} {a1 : Int32} {τ : fo_S} (hnc : nc ≤ 16) (h8 : τ.1 0 0 8 = nI nc) (h6 : ∀ c, c < nc → τ.1 6 0 c = b1 (O c)) (h1 : ¬ a1 = 1) (h2 : ¬ a1 = 2) : ∃ y, fo_lp (r_order_L34 a1) fo_FU ((0 : Int32), fo_pI τ 0 0 17 (0 : Int32)) = some y ∧ Rp (fo_n O nc) (oR O nc) y.2 ∧ F11 y.2 τ := by
  obtain ⟨y, c1, c2, c3⟩ := r_srt (K := fun _ => 0) (rk := fun _ => 0) (O := O) (a1 := a1) hnc h8 h6 (fun z _ c _ _ => by
    unfold r_rankOf
    rw [if_neg h1, if_neg h2]) (fun a b _ _ _ _ => by
    constructor
    · intro _; exact Int.le_refl 0
    · intro _; decide)
  refine ⟨y, c1, ⟨c2.1, fun k hk => ?_⟩, c3⟩
  rw [c2.2 k hk, srt_0 (fun _ _ => rfl)]
theorem s_order {i : Nat} {σ τ : fo_S} (_ : i ≤ 3072) (h : Rl i σ τ) {a1 : Int32} {a2 : Int64} : ∃ (r : Int32) (σ1 τ1 : fo_S), q_FairOrder_order σ a1 a2 = some (r, σ1) ∧ r_order τ a1 a2 = some (r, τ1) ∧ Rl (i + 1) σ1 τ1 := by
  have hl := Rl_mono (Nat.le_succ i) h
  obtain ⟨na, nc, ph, hn, hm, hc, hr⟩ := hl
  obtain ⟨n1, n2, n3, n4, n5, n6, n7, n8, n9, n10, n11⟩ := hn
  unfold q_FairOrder_order r_order
  have z0 : (0 : Int32).toInt = 0 := rfl
  have z4 : (4 : Int32).toInt = 4 := rfl
  have y0 : (0 : Int64).toInt = 0 := rfl
  have y4 : (4 : Int64).toInt = 4 := rfl
  have k0 : (a1 < 0) ↔ a1.toInt < 0 := by rw [fi_lt, z0]
  have k4 : (a1 ≤ 4) ↔ a1.toInt ≤ 4 := by rw [fi_le, z4]
  have kr : ((0 : Int64) ≤ a1.toInt64 ∧ a1.toInt64 ≤ (4 : Int64)) ↔ (0 ≤ a1.toInt ∧ a1.toInt ≤ 4) := by rw [fj_le, fj_le, fi_j, y0, y4]
  simp only [r_in', Option.bind_some, f_if0, k0, k4, kr, n8, n9]
  by_cases c1 : 0 ≤ a1.toInt ∧ a1.toInt ≤ 4
  rotate_left
  · refine ⟨_, σ, τ, ?_, by rw [if_pos c1], na, nc, ph, ⟨n1, n2, n3, n4, n5, n6, n7, n8, n9, n10, n11⟩, hm, hc, hr⟩
    by_cases c2 : a1.toInt < 0
    · rw [if_pos c2]
    · rw [if_neg c2, if_neg (by omega)]
  simp only [if_neg (f_nn c1), if_neg (show ¬ a1.toInt < 0 by omega), if_pos c1.2]
  by_cases c2 : nI ph = 2
  rotate_left
  · simp only [if_neg c2]
    exact ⟨_, σ, τ, rfl, rfl, na, nc, ph, ⟨n1, n2, n3, n4, n5, n6, n7, n8, n9, n10, n11⟩, hm, hc, hr⟩
  simp only [if_pos c2]
  have hph : ph = 2 := (nI_eq (b := 2) (by omega) (by omega)).mp c2
  have hO1 : ∀ c, c < nc → σ.1 14 c 4 = b1 (fO σ c) := fun c h => (Rc_O (hc c h)).1
  have hO2 : ∀ c, c < nc → τ.1 6 0 c = b1 (fO σ c) := fun c h => (Rc_O (hc c h)).2
  obtain ⟨σ0, hσ0⟩ : ∃ s, s = fo_pI σ 5 0 1 (0 : Int32) := ⟨_, rfl⟩
  have f0 : F56 σ0 σ := by
    rw [hσ0]
    exact ⟨rfl, fun k i j h1 _ => by rw [e_pI, if_neg h1]⟩
  have f5 : σ0.1 5 0 1 = 0 := by rw [hσ0, e_pI, if_pos ⟨rfl, rfl, rfl⟩]
  have f9 : σ0.1 0 0 9 = nI nc := by rw [f0.2 0 0 9 (by omega) (by omega)]; exact n6
  have fO' : ∀ c, c < nc → σ0.1 14 c 4 = b1 (fO σ c) := fun c h => by rw [f0.2 14 c 4 (by omega) (by omega)]; exact hO1 c h
  have hle := fo_n_le (fO σ) nc
  rw [← hσ0, f9]
  -- what all of them end with
  have fin : ∀ (x : fo_S) (z : fo_S) (f : Nat → Nat), Rk nc (fO σ) (fo_n (fO σ) nc) f → Rq (fo_n (fO σ) nc) f x → Rp (fo_n (fO σ) nc) f z → x.2 = σ0.2 → (∀ k i j, ¬ (k = 5 ∧ i = 0 ∧ j = 1) → ¬ (k = 6 ∧ i = 0) → ¬ k = 7 → ¬ k = 9 → x.1 k i j = σ0.1 k i j) → z.2 = τ.2 → (∀ k i j, ¬ (k = 0 ∧ i = 0 ∧ j = 17) → ¬ (k = 11 ∧ i = 0) → ¬ k = 19 → ¬ k = 20 → ¬ k = 21 → z.1 k i j = τ.1 k i j) → ∃ (r : Int32) (σ1 τ1 : fo_S), (some ((fo_pI x 0 0 13 (1 : Int32)).1 5 0 1, fo_pI x 0 0 13 (1 : Int32)) : Option (Int32 × fo_S)) = some (r, σ1) ∧ (some (z.1 0 0 17, z) : Option (Int32 × fo_S)) = some (r, τ1) ∧ Rl (i + 1) σ1 τ1 := by
    intro x z f r1 r2 r3 r4 r5 r6 r7
    have e5 : (fo_pI x 0 0 13 (1 : Int32)).1 5 0 1 = nI (fo_n (fO σ) nc) := by
      rw [e_pI, if_neg (by omega)]
      exact r2.1
    rw [e5, r3.1]
    refine ⟨_, _, _, rfl, rfl, Rl_row (nr := fo_n (fO σ) nc) (f := f) ⟨n1, n2, n3, n4, n5, n6, n7, n8, n9, n10, n11⟩ hm hc hr hph r1 hle ⟨e5, fun k hk => ?_⟩ r3 (by rw [e_pI, if_pos ⟨rfl, rfl, rfl⟩]) (fun k i j q => ?_) ?_ (fun k i j q => r7 k i j (by omega) (by omega) (by omega) (by omega) (by omega)) r6⟩
    · rw [e_pI, if_neg (by omega)]
      exact r2.2 k hk
    · rw [e_pI, if_neg (by omega), r5 k i j (by omega) (by omega) (by omega) (by omega)]
      exact f0.2 k i j (by omega) (by omega)
    · rw [e_pI2, r4, f0.1]
  obtain ⟨d, hd, rfl⟩ := f_ix (a := a1) (n := 5) (by omega)
  have hcases : d = 0 ∨ d = 1 ∨ d = 2 ∨ d = 3 ∨ d = 4 := by omega
  -- orders by keys
  have keyed : ∀ (ky rk : Nat → Int32), ¬ nI d = 3 → ¬ nI d = 4 → (∀ z, F567 z σ0 → ∀ c, c < nc → q_FairOrder_keyOf z c (nI d) = some (ky c)) → (∀ z, F11 z τ → ∀ c, c < nc → fO σ c = true → r_rankOf z (nI d) (nI c) = some (rk c)) → (∀ a b, a < nc → b < nc → fO σ a = true → fO σ b = true → ((rk a ≤ rk b) ↔ (ky a).toInt ≤ (ky b).toInt)) → ∃ (r : Int32) (σ1 τ1 : fo_S), (if nI d = 3 then ((q_Links_find σ0 (nI nc)).bind (fun x9 => (q_FairOrder_openedSet x9).bind (fun x10 => (q_Links_addKnots x9 0 x10 (x9.1 0 0 9)).bind (fun x11 => some ((fo_pI x11 0 0 13 (1 : Int32)).1 5 0 1, fo_pI x11 0 0 13 (1 : Int32)))))) else ((q_FairOrder_addByNumbers σ0).bind (fun x6 => (q_FairOrder_arrange x6 (nI d) a2).bind (fun x7 => some ((fo_pI x7 0 0 13 (1 : Int32)).1 5 0 1, fo_pI x7 0 0 13 (1 : Int32)))))) = some (r, σ1) ∧ ((fo_lp (r_order_L34 (nI d)) fo_FU ((0 : Int32), fo_pI τ 0 0 17 (0 : Int32))).bind (fun y34 => if nI d = 3 then ((r_fair y34.2).bind (fun x23 => r_order_J144 (nI d) a2 x23)) else (r_order_J144 (nI d) a2 y34.2))) = some (r, τ1) ∧ Rl (i + 1) σ1 τ1 := by
    intro ky rk h3 h4 hky hrk hK
    obtain ⟨x6, x7, y, f, e1, e2, e3, e4, e5, e6, e7, e8⟩ := ord_key (a2 := a2) n2 f9 fO' f5 n7 hO2 h4 hky hrk hK
    simp only [if_neg h3, e1, Option.bind_some, e2, e3]
    unfold r_order_J144
    rw [if_neg h4]
    exact fin x7 y.2 f e4 e5 e6 e7.1 (fun k i j q1 q2 q3 _ => e7.2 k i j q1 q2 (fun q => q3 q.1)) e8.1 (fun k i j q1 q2 _ _ _ => e8.2 k i j q1 q2)
  rcases hcases with rfl | rfl | rfl | rfl | rfl
  · exact keyed (fun _ => 0) (fun _ => 0) (by decide) (by decide) (fun z _ c _ => by
      unfold q_FairOrder_keyOf
      rw [if_neg (by decide), if_neg (by decide)]) (fun z _ c _ _ => by
      unfold r_rankOf
      rw [if_neg (by decide), if_neg (by decide)]) (fun a b _ _ _ _ => ⟨fun _ => Int.le_refl _, fun _ => by decide⟩)
  · refine keyed (fun c => -(σ.1 14 c 6)) (fun c => (1000 : Int32) - τ.1 8 0 c) (by decide) (by decide) (fun z hz c _ => ?_) (fun z hz c hcc _ => ?_) (fun a b ha hb hOa hOb => ?_)
    · unfold q_FairOrder_keyOf
      rw [if_pos (by decide), hz.2 14 c 6 (by omega) (by omega) (by omega), f0.2 14 c 6 (by omega) (by omega)]
    · unfold r_rankOf
      rw [if_pos (by decide), if_pos (f_vi (c := c) (N := 16) (by omega) (by omega)), f_cl (show c < 1000000 by omega), hz.2 8 0 c (by omega) (by omega)]
    · have key : ∀ c, c < nc → fO σ c = true → ∃ p : Nat, 1 ≤ p ∧ p ≤ 1000 ∧ σ.1 14 c 6 = nI p ∧ τ.1 8 0 c = nI p := by
        intro c hcc hOc
        rcases (hc c hcc).2.2.2.2 with ⟨q1, -⟩ | ⟨-, -, sd, pr, am, q1, q2, q3, q4, q5, q6, q7, q8, q9, q10, q11⟩
        · unfold fO at hOc
          rw [q1] at hOc
          exact absurd hOc (by decide)
        · exact ⟨pr, q2, q3, q8, q9⟩
      obtain ⟨p, p1, p2, p3, p4⟩ := key a ha hOa
      obtain ⟨q, q1, q2, q3, q4⟩ := key b hb hOb
      have eN : ∀ p : Nat, p ≤ 1000 → (-(nI p)).toInt = -(p : Int) := by
        intro p hp
        rw [Int32.toInt_neg, f_ti (by omega)]
        exact Int.bmod_eq_of_le (by omega) (by omega)
      have eS : ∀ p : Nat, p ≤ 1000 → ((1000 : Int32) - nI p) = nI (1000 - p) := by
        intro p hp
        exact pk_sub (a := 1000) hp
      show ((1000 : Int32) - τ.1 8 0 a ≤ (1000 : Int32) - τ.1 8 0 b) ↔ (-(σ.1 14 a 6)).toInt ≤ (-(σ.1 14 b 6)).toInt
      rw [p3, p4, q3, q4, eN p p2, eN q q2, eS p p2, eS q q2, nI_leI (by omega) (by omega)]
      omega
  · refine keyed (fun c => (q_Call_thirdTime σ c).getD 0) (fun c => (q_Call_thirdTime σ c).getD 0) (by decide) (by decide) (fun z hz c hcc => ?_) (fun z hz c hcc _ => ?_) (fun a b _ _ _ _ => fi_le)
    · obtain ⟨v, v1, v2, -⟩ := third_eq (σ := σ) (τ := τ) (c := c) (by omega) (hc c hcc).2.2.2.1
      obtain ⟨v', w1, w2, -⟩ := third_eq (σ := z) (τ := τ) (c := c) (by omega) (fun n hn => by
        rw [hz.2 15 c n (by omega) (by omega) (by omega), f0.2 15 c n (by omega) (by omega)]
        exact (hc c hcc).2.2.2.1 n hn)
      unfold q_FairOrder_keyOf
      rw [if_neg (by decide), if_pos (by decide), w1, v1]
      rw [v2] at w2
      rw [Option.some.inj w2]
      rfl
    · obtain ⟨v, v1, v2, -⟩ := third_eq (σ := σ) (τ := z) (c := c) (by omega) (fun n hn => by
        rw [hz.2 10 0 _ (by omega) (by omega)]
        exact (hc c hcc).2.2.2.1 n hn)
      unfold r_rankOf
      rw [if_neg (by decide), if_pos (by decide), v2, v1]
      rfl
  · -- by what most nodes heard first
    have d3 : nI 3 = (3 : Int32) := by decide
    have d34 : ¬ nI 3 = (4 : Int32) := by decide
    obtain ⟨y, b1', b2, b3⟩ := r_by0 (O := fO σ) (a1 := nI 3) n2 n7 hO2 (by decide) (by decide)
    have hLm : Lm nc (fO σ) (σ0.1 15) y.2 := ⟨by rw [b3.2 0 0 8 (by omega) (by omega)]; exact n7, fun c hcc => by rw [b3.2 6 0 c (by omega) (by omega)]; exact hO2 c hcc, fun c n hcc hn => by
      rw [b3.2 10 0 _ (by omega) (by omega), f0.2 15 c n (by omega) (by omega)]
      exact (hc c hcc).2.2.2.1 n hn⟩
    obtain ⟨x9, w, x11, z, f, g1, g2, g3, g4, g5, g6, g7, g8, g9, g10⟩ := fair_sim n2 f9 f5 fO' hLm b2.1
    simp only [if_pos d3, g1, Option.bind_some, g2, g3, g4, b1', g5]
    unfold r_order_J144
    rw [if_neg d34]
    refine fin x11 z f g6 g7 ⟨?_, g8⟩ g9.1 (fun k i j q1 q2 _ q4 => g9.2 k i j (fun q => q4 q.1) q1 q2) (g10.1.trans b3.1) (fun k i j q1 q2 q3 q4 q5 => (g10.2 k i j q2 q3 q4 q5).trans (b3.2 k i j q1 q2))
    rw [g10.2 0 0 17 (by omega) (by omega) (by omega) (by omega)]
    exact b2.1
  · -- by lot
    have d4 : nI 4 = (4 : Int32) := by decide
    have d43 : ¬ nI 4 = (3 : Int32) := by decide
    obtain ⟨y, b1', b2, b3⟩ := r_by0 (O := fO σ) (a1 := nI 4) n2 n7 hO2 (by decide) (by decide)
    obtain ⟨x6, e1, e2, e3⟩ := q_adN n2 f9 fO' f5
    obtain ⟨x7, g1, g2, g3⟩ := q_shf (x := a2) (by omega) e2
    obtain ⟨z, k1, k2, k3⟩ := r_shf (x := a2) (by omega) b2
    simp only [if_neg d43, e1, Option.bind_some, b1']
    unfold q_FairOrder_arrange r_order_J144
    simp only [if_pos d4, g1, Option.bind_some, k1]
    refine fin x7 z (shf (fo_n (fO σ) nc - 1) a2 (oR (fO σ) nc)) ?_ g2 k2 (g3.1.trans e3.1) (fun k i j q1 q2 _ _ => (g3.2 k i j q1 q2).trans (e3.2 k i j q1 q2)) (k3.1.trans b3.1) (fun k i j q1 q2 _ _ _ => (k3.2 k i j q1 q2).trans (b3.2 k i j q1 q2))
    by_cases h0 : fo_n (fO σ) nc = 0
    · rw [h0]
      exact ⟨fun k hk => absurd hk (Nat.not_lt_zero k), fun j k hj => absurd hj (Nat.not_lt_zero j)⟩
    · exact shf_Rk _ _ _ (by omega) (oR_Rk _ _)
