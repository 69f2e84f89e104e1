theorem Bs_cg {nc : Nat} {P Q : Nat → Bool} {w : Int32} (h : Bs nc P w) (e : ∀ i, i < nc → P i = Q i) : Bs nc Q w := by
  intro i
  rw [h i]
  by_cases hi : i < nc
  · rw [e i hi]
  · simp [hi]
theorem Bs_an {nc : Nat} {P Q : Nat → Bool} {w v : Int32} (h : Bs nc P w) (g : Bs nc Q v) : Bs nc (fun i => P i && !Q i) (w &&& (v ^^^ (-1 : Int32))) := by
  intro i
  rw [bt_an, h i, g i]
  by_cases hi : i < nc
  · simp [hi]
  · simp [hi]
def F40 (τ' τ : fo_S) : Prop := τ'.2 = τ.2 ∧ ∀ k i j, ¬ (k = 11 ∧ i = 0) → ¬ k = 19 → ¬ k = 20 → ¬ k = 21 → τ'.1 k i j = τ.1 k i j
theorem kn_sim {nc : Nat} {O : Nat → Bool} {x : Nat → Nat → Int32} {T : Nat → Nat → Bool} {σ0 τ0 : fo_S} (hnc : nc ≤ 16) (hLm : Lm nc O x τ0) (hT : TX nc O x T) (hTt : ∀ a b c, a < nc → b < nc → c < nc → T a b = true → T b c = true → T a c = true) (hTσ : ∀ c, c < nc → Bs nc (T c) (σ0.1 9 0 c)) (hord : τ0.1 0 0 17 = nI (fo_n O nc)) :
    ∀ (m : Nat) (L : Nat → Bool) (n : Nat) (f : Nat → Nat) (w : Int32) (t : Nat) (σ τ : fo_S) (f1 f2 : Nat), fo_n L nc = m → (∀ c, c < nc → L c = true → O c = true) → (∀ a d, a < nc → d < nc → L a = true → T a d = true → T d a = true → L d = true) → n + m = fo_n O nc → Rk nc O n f → (∀ k, k < n → L (f k) = false) → Bs nc L w → Rq n f σ → F56 σ σ0 → (∀ k, k < n → τ.1 11 0 k = nI (f k)) → (∀ c, c < nc → τ.1 20 0 c = b1 (L c)) → F40 τ τ0 → t + m ≤ 16 → m < f1 → m < f2 →
      ∃ y y' f', fo_lp (q_Links_addKnots_L6 0 (nI nc)) f1 (w, nI t, σ) = some y ∧ fo_lp r_fair_L30 f2 (nI n, τ) = some y' ∧ Rk nc O (fo_n O nc) f' ∧ Rq (fo_n O nc) f' y.2.2 ∧ F56 y.2.2 σ0 ∧ (∀ k, k < fo_n O nc → y'.2.1 11 0 k = nI (f' k)) ∧ F40 y'.2 τ0 := by
  have hOn := fo_n_le O nc
  intro m
  induction m using Nat.strongRecOn with
  | ind m ih =>
    intro L n f w t σ τ f1 f2 hm hLO hcl hnm hRk hfL hw hRq hF hrow h20 hF4 ht hf1 hf2
    obtain ⟨g1, rfl⟩ : ∃ g, f1 = g + 1 := ⟨f1 - 1, by omega⟩
    obtain ⟨g2, rfl⟩ : ∃ g, f2 = g + 1 := ⟨f2 - 1, by omega⟩
    have e17 : τ.1 0 0 17 = nI (fo_n O nc) := by rw [hF4.2 0 0 17 (by omega) (by omega) (by omega) (by omega)]; exact hord
    have e8 : τ.1 0 0 8 = nI nc := by rw [hF4.2 0 0 8 (by omega) (by omega) (by omega) (by omega)]; exact hLm.1
    by_cases hm0 : m = 0
    · -- nothing is left
      have hn : n = fo_n O nc := by omega
      have hL0 : ∀ i, i < nc → L i = false := by
        intro i hi
        cases hLi : L i with
        | false => rfl
        | true =>
          have := fo_n_st hi hLi
          omega
      have hw0 : w = 0 := (Bs_z hw).mpr hL0
      have b1 : q_Links_addKnots_L6 0 (nI nc) (w, nI t, σ) = some (.inr (w, nI t, σ)) := by
        unfold q_Links_addKnots_L6
        by_cases c : (16 : Int32) ≤ nI t
        · simp only [if_pos c]
        · simp only [if_neg c, if_pos hw0]
      have b2 : r_fair_L30 (nI n, τ) = some (.inr (nI n, τ)) := by
        unfold r_fair_L30
        simp only [e17, if_pos (f_ge (show fo_n O nc ≤ n by omega) (show n < 1000000 by omega))]
      refine ⟨(w, nI t, σ), (nI n, τ), f, by rw [fo_lp, b1], by rw [fo_lp, b2], ?_, ?_, hF, ?_, hF4⟩
      · rw [← hn]; exact hRk
      · rw [← hn]; exact hRq
      · rw [← hn]; exact hrow
    · -- a knot
      obtain ⟨a0, ha0, hLa0⟩ := fo_n_pos (p := L) (n := nc) (by omega)
      obtain ⟨a, ⟨ha, hLa, hFa⟩, hle⟩ := pk_least (fun a => a < nc ∧ L a = true ∧ Fre nc T L a) (kn_ex hTt ha0 hLa0)
      have hlt : ∀ b, b < a → ¬ (L b = true ∧ Fre nc T L b) := fun b hb q => hle b hb ⟨by omega, q⟩
      have hTσ' : ∀ c, c < nc → Bs nc (T c) (σ.1 9 0 c) := fun c hc => by rw [hF.2 9 0 c (by omega) (by omega)]; exact hTσ c hc
      obtain ⟨kw, k1, k2⟩ := q_fk hnc ha hw hTσ' hLa hFa hlt
      have hKe : ∀ i, i < nc → muT T a i = (L i && muT T a i) := by
        intro i hi
        cases hmu : muT T a i with
        | false => simp
        | true =>
          unfold muT at hmu
          simp only [Bool.or_eq_true, decide_eq_true_eq, Bool.and_eq_true] at hmu
          rcases hmu with q | ⟨q1, q2⟩
          · rw [q, hLa]
            rfl
          · rw [hcl a i ha hi hLa q1 q2]
            rfl
      have hKw : Bs nc (fun d => L d && muT T a d) kw := Bs_cg k2 hKe
      obtain ⟨K, hKd⟩ : ∃ K : Nat → Bool, K = fun d => L d && muT T a d := ⟨_, rfl⟩
      rw [← hKd] at hKw
      have hKL : ∀ c, K c = true → L c = true := fun c q => by
        rw [hKd] at q
        simp only [Bool.and_eq_true] at q
        exact q.1
      have hKa : K a = true := by
        rw [hKd]
        simp [hLa, muT]
      have hsum : fo_n L nc = fo_n K nc + fo_n (fun i => L i && !K i) nc := by
        rw [← fo_n_add (fun i _ q => by simp at q; obtain ⟨q1, q2, q3⟩ := q; rw [q1] at q3; exact absurd q3 (by decide))]
        refine fo_n_cg (fun i _ => ?_)
        cases hKi : K i with
        | false => simp
        | true => rw [hKL i hKi]; rfl
      have hKp : 0 < fo_n K nc := by
        have := fo_n_st ha hKa
        omega
      obtain ⟨σ', s1, s2, s3⟩ := q_addSet hnc hKw hRq (by omega)
      have hz : Lm nc O x τ := Lm_fr hLm (hF4.2 _ _ _ (by omega) (by omega) (by omega) (by omega)) (fun c => hF4.2 _ _ _ (by omega) (by omega) (by omega) (by omega)) (fun c => hF4.2 _ _ _ (by omega) (by omega) (by omega) (by omega))
      obtain ⟨y1, p1, p2, p3⟩ := r_f42 hnc hz hT hTt ha hLO h20 hLa hFa hlt
      obtain ⟨y2, u1, u2, u3, u4, u5, u6⟩ := r_f82 (n := n) (L := L) (K := K) (f := f) (τ := y1.2.2) hnc (by rw [p3.2 0 0 8 (by omega) (by omega)]; exact e8) (fun c hc => by rw [p3.2 20 0 c (by omega) (by omega)]; exact h20 c hc) (by rw [hKd]; exact p2) (fun k hk => by rw [p3.2 11 0 k (by omega) (by omega)]; exact hrow k hk) (by omega)
      have b1 : q_Links_addKnots_L6 0 (nI nc) (w, nI t, σ) = some (.inl (w &&& (kw ^^^ (-1 : Int32)), nI (t + 1), σ')) := by
        unfold q_Links_addKnots_L6
        have c1 : ¬ ((16 : Int32) ≤ nI t) := f_nge (a := 16) (by omega) (by omega)
        have c2 : ¬ w = 0 := fun q => by
          have := (Bs_z hw).mp q a ha
          rw [hLa] at this
          exact absurd this (by decide)
        simp only [if_neg c1, if_neg c2, k1, Option.bind_some, s1, nI_1]
      have b2 : r_fair_L30 (nI n, τ) = some (.inl (nI (n + fo_n K nc), y2.2.2)) := by
        unfold r_fair_L30
        simp only [e17, if_neg (f_nge (show n < fo_n O nc by omega) (show fo_n O nc < 1000000 by omega)), p1, Option.bind_some, u1, u2]
      rw [fo_lp, b1, fo_lp, b2]
      refine ih (fo_n (fun i => L i && !K i) nc) (by omega) (fun i => L i && !K i) (n + fo_n K nc) (xR K f n nc) _ (t + 1) σ' y2.2.2 g1 g2 rfl (fun c hc q => ?_) (fun b d hb hd q1 q2 q3 => ?_) (by omega) (xR_Rk hRk (fun k hk => ?_) (fun c hc q => hLO c hc (hKL c q))) (fun k hk => ?_) (Bs_an hw hKw) s2 (F56_t s3 hF) u3 u4 ⟨?_, fun k i j q1 q2 q3 q4 => ?_⟩ (by omega) (by omega) (by omega)
      · simp only [Bool.and_eq_true] at q
        exact hLO c hc q.1
      · simp only [Bool.and_eq_true, Bool.not_eq_true'] at q1 ⊢
        have hLd := hcl b d hb hd q1.1 q2 q3
        refine ⟨hLd, ?_⟩
        cases hKd' : K d with
        | false => rfl
        | true =>
          exfalso
          have hKb : K b = true := by
            rw [hKd] at hKd' ⊢
            simp only [Bool.and_eq_true] at hKd' ⊢
            refine ⟨q1.1, ?_⟩
            have := hKd'.2
            unfold muT at this ⊢
            simp only [Bool.or_eq_true, decide_eq_true_eq, Bool.and_eq_true] at this ⊢
            rcases this with r | ⟨r1, r2⟩
            · rw [r] at q2 q3
              exact Or.inr ⟨q3, q2⟩
            · exact Or.inr ⟨hTt a d b ha hd hb r1 q3, hTt b d a hb hd ha q2 r2⟩
          rw [q1.2] at hKb
          exact absurd hKb (by decide)
      · cases hKf : K (f k) with
        | false => rfl
        | true =>
          have := hKL _ hKf
          rw [hfL k hk] at this
          exact absurd this (by decide)
      · by_cases hkn : k < n
        · rw [xR_lo nc k hkn, hfL k hkn]
          rfl
        · obtain ⟨r1, r2, r3⟩ := xR_hi (K := K) (f := f) (n := n) nc k (by omega) hk
          rw [r2]
          simp
      · rw [u5, p3.1, hF4.1]
      · rw [u6 k i j q1 q3, p3.2 k i j q2 q4]
        exact hF4.2 k i j q1 q2 q3 q4
theorem r_f2 {nc : Nat} {O : Nat → Bool} {τ : fo_S} (hnc : nc ≤ 16) (h8 : τ.1 0 0 8 = nI nc) (hO : ∀ c, c < nc → τ.1 6 0 c = b1 (O c)) : ∃ y, fo_lp r_fair_L2 fo_FU ((0 : Int32), τ) = some y ∧ (∀ c, c < nc → y.2.1 20 0 c = b1 (O c)) ∧ y.2.2 = τ.2 ∧ ∀ k i j, ¬ k = 20 → y.2.1 k i j = τ.1 k i j := by
  refine fo_lp_for (b := r_fair_L2) nc (fun n s => s.1 = nI n ∧ (∀ c, c < n → s.2.1 20 0 c = b1 (O c)) ∧ s.2.2 = τ.2 ∧ ∀ k i j, ¬ k = 20 → s.2.1 k i j = τ.1 k i j) _ ?_ ?_ ⟨rfl, fun c hc => absurd hc (Nat.not_lt_zero c), rfl, fun _ _ _ _ => rfl⟩ (by omega)
  · rintro n ⟨u, z⟩ hn ⟨h1, h2, h3, h4⟩
    simp only at h1 h2 h3 h4
    subst h1
    left
    unfold r_fair_L2
    have e8 : z.1 0 0 8 = nI nc := by rw [h4 0 0 8 (by omega)]; exact h8
    have e6 : z.1 6 0 n = b1 (O n) := by rw [h4 6 0 n (by omega)]; exact hO n hn
    simp only [e8, if_neg (f_nge hn (show nc < 1000000 by omega)), if_pos (f_vi (c := n) (N := 16) (by omega) (by omega)), f_cl (show n < 1000000 by omega), e6, b1_n, nI_1]
    refine ⟨_, rfl, rfl, fun c hc => ?_, h3, fun k i j hk => ?_⟩
    · show (fo_pI z 20 0 n (b1 (O n))).1 20 0 c = _
      rw [e_pI]
      by_cases q : c = n
      · rw [if_pos ⟨rfl, rfl, q⟩, q]
      · rw [if_neg (fun r => q r.2.2)]
        exact h2 c (by omega)
    · show (fo_pI z 20 0 n (b1 (O n))).1 k i j = _
      rw [e_pI, if_neg (fun r => hk r.1)]
      exact h4 k i j hk
  · rintro ⟨u, z⟩ ⟨h1, h2, h3, h4⟩
    simp only at h1 h2 h3 h4
    subst h1
    unfold r_fair_L2
    have e8 : z.1 0 0 8 = nI nc := by rw [h4 0 0 8 (by omega)]; exact h8
    simp only [e8, if_pos (f_ge (Nat.le_refl nc) (show nc < 1000000 by omega))]
    exact ⟨_, rfl, h2, h3, h4⟩
/-- both orders by what most nodes heard first -/
theorem fair_sim {nc : Nat} {O : Nat → Bool} {σ τ : fo_S} (hnc : nc ≤ 16) (h9 : σ.1 0 0 9 = nI nc) (h5 : σ.1 5 0 1 = 0) (hO : ∀ c, c < nc → σ.1 14 c 4 = b1 (O c)) (hLm : Lm nc O (σ.1 15) τ) (h17 : τ.1 0 0 17 = nI (fo_n O nc)) : ∃ (σ1 : fo_S) (w : Int32) (σ2 τ' : fo_S) (f' : Nat → Nat), q_Links_find σ (nI nc) = some σ1 ∧ σ1.1 0 0 9 = nI nc ∧ q_FairOrder_openedSet σ1 = some w ∧ q_Links_addKnots σ1 0 w (nI nc) = some σ2 ∧ r_fair τ = some τ' ∧ Rk nc O (fo_n O nc) f' ∧ Rq (fo_n O nc) f' σ2 ∧ (∀ k, k < fo_n O nc → τ'.1 11 0 k = nI (f' k)) ∧ (σ2.2 = σ.2 ∧ ∀ k i j, ¬ (k = 9 ∧ i = 0) → ¬ (k = 5 ∧ i = 0 ∧ j = 1) → ¬ (k = 6 ∧ i = 0) → σ2.1 k i j = σ.1 k i j) ∧ F40 τ' τ := by
  obtain ⟨σ1, T, t1, t2, t3, t4, t5⟩ := q_find (nc := nc) (O := O) (σ := σ) hnc hO
  have e9 : σ1.1 0 0 9 = nI nc := by rw [t3 0 0 9 (by omega)]; exact h9
  obtain ⟨w, w1, w2⟩ := q_os (O := O) (σ := σ1) hnc e9 (fun c hc => by rw [t3 14 c 4 (by omega)]; exact hO c hc)
  obtain ⟨y, y1, y2, y3, y4⟩ := r_f2 hnc hLm.1 hLm.2.1
  have hT : TX nc O (σ.1 15) T := fun a b ha hb => t5 a b ha hb
  have hTt : ∀ a b c, a < nc → b < nc → c < nc → T a b = true → T b c = true → T a c = true := fun a b c ha hb hc q1 q2 => (hT a c ha hc).mpr (fR_t ((hT a b ha hb).mp q1) ((hT b c hb hc).mp q2))
  have hLm' : Lm nc O (σ.1 15) y.2 := Lm_fr hLm (y4 _ _ _ (by omega)) (fun c => y4 _ _ _ (by omega)) (fun c => y4 _ _ _ (by omega))
  have hle := fo_n_le O nc
  obtain ⟨z, z', f', c1, c2, c3, c4, c5, c6, c7⟩ := kn_sim (σ0 := σ1) (τ0 := y.2) hnc hLm' hT hTt t4 (by rw [y4 0 0 17 (by omega)]; exact h17) (fo_n O nc) O 0 (fun _ => 0) w 0 σ1 y.2 fo_FU fo_FU rfl (fun _ _ q => q) (fun a d ha hd _ q2 _ => (fR_r ((hT a d ha hd).mp q2)).2) (by omega) ⟨fun k hk => absurd hk (Nat.not_lt_zero k), fun j k hj => absurd hj (Nat.not_lt_zero j)⟩ (fun k hk => absurd hk (Nat.not_lt_zero k)) w2 ⟨by rw [t3 5 0 1 (by omega)]; exact h5, fun k hk => absurd hk (Nat.not_lt_zero k)⟩ (F56_r σ1) (fun k hk => absurd hk (Nat.not_lt_zero k)) y2 ⟨rfl, fun _ _ _ _ _ _ _ => rfl⟩ (by omega) (fo_FU_gt (by omega)) (fo_FU_gt (by omega))
  refine ⟨σ1, w, z.2.2, z'.2, f', t1, e9, w1, ?_, ?_, c3, c4, c6, ⟨c5.1.trans t2, fun k i j k1 k2 k3 => (c5.2 k i j k2 k3).trans (t3 k i j k1)⟩, c7.1.trans y3, fun k i j k1 k2 k3 k4 => (c7.2 k i j k1 k2 k3 k4).trans (y4 k i j k3)⟩
  · unfold q_Links_addKnots
    rw [nI_0] at c1
    rw [c1]
    rfl
  · unfold r_fair
    rw [y1]
    rw [nI_0] at c2
    simp only [Option.bind_some, c2]
