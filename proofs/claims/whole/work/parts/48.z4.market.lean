-- the model's market
def Gm (s : aS) (τ : fo_S) : Prop := (∀ a, a < 8 → τ.2 23 0 a = lN (s.1.1 a) ∧ τ.2 24 0 a = lN (s.1.2 a)) ∧ τ.2 0 0 35 = lN s.2.1 ∧ τ.2 0 0 36 = lN s.2.2
def FGm (τ' τ : fo_S) : Prop := (∀ k i j, ¬ k = 22 → τ'.1 k i j = τ.1 k i j) ∧ ∀ k i j, ¬ k = 23 → ¬ k = 24 → ¬ (k = 0 ∧ i = 0 ∧ (j = 35 ∨ j = 36)) → τ'.2 k i j = τ.2 k i j
theorem FGm_r (σ : fo_S) : FGm σ σ := ⟨fun _ _ _ _ => rfl, fun _ _ _ _ _ _ => rfl⟩
theorem FGm_t {σ σ' σ'' : fo_S} (h : FGm σ'' σ') (h' : FGm σ' σ) : FGm σ'' σ := ⟨fun k i j h1 => (h.1 k i j h1).trans (h'.1 k i j h1), fun k i j h1 h2 h3 => (h.2 k i j h1 h2 h3).trans (h'.2 k i j h1 h2 h3)⟩
theorem r_121 {k c o m : Nat} {v : Bool} {s : aS} {z : fo_S} (hk : k < 16) (hc : c < 16) (ho : o < 8) (hm : m ≤ 1000) (h1 : z.1 11 0 k = nI c) (h2 : z.1 3 0 c = nI o) (h3 : z.1 9 0 c = nI m) (hG : Gm s z) : ∃ z' : fo_S, r_market_J121 (nI k, z) (b1 v) = some (.inl (nI (k + 1), z')) ∧ Gm (if v then aB s o m else s) z' ∧ z'.1 22 0 c = b1 v ∧ (∀ k i j, ¬ (k = 22 ∧ i = 0 ∧ j = c) → z'.1 k i j = z.1 k i j) ∧ FGm z' z := by
  unfold r_market_J121 r_market_J150
  have e10 : ¬ ((1 : Int32) = 0) := by decide
  have x22 : ∀ w, (fo_pI z 22 0 c w).1 22 0 c = w := fun w => by rw [e_pI, if_pos ⟨rfl, rfl, rfl⟩]
  have x9 : ∀ w, (fo_pI z 22 0 c w).1 9 0 c = nI m := fun w => by rw [e_pI, if_neg (by omega)]; exact h3
  have x23 : ∀ w, (fo_pI z 22 0 c w).2 23 0 o = lN (s.1.1 o) := fun w => (hG.1 o ho).1
  have x35 : ∀ w u, (fo_pJ (fo_pI z 22 0 c w) 23 0 o u).2 0 0 35 = lN s.2.1 := fun w u => by rw [e_pJ, if_neg (by omega)]; exact hG.2.1
  simp only [h1, f_cl (show k < 1000000 by omega), f_cl (show c < 1000000 by omega), if_pos (f_vi (c := c) (N := 16) hc (by omega)), h2, f_cl (show o < 1000000 by omega), if_pos (f_vi (c := o) (N := 8) ho (by omega)), Option.bind_some, x22, x9, x23, e_pJ1, x35, b1_n, nI_1]
  cases v with
  | false =>
    simp only [b1_f, if_true, Int64.add_zero, Bool.false_eq_true, if_false]
    refine ⟨_, rfl, ⟨fun a ha => ⟨?_, ?_⟩, ?_, ?_⟩, ?_, fun k i j q => ?_, fun k i j q => ?_, fun k i j q1 q2 q3 => ?_⟩
    · rw [e_pJ, if_neg (by omega), e_pJ]
      by_cases q : a = o
      · rw [if_pos ⟨rfl, rfl, q⟩, q]
      · rw [if_neg (fun r => q r.2.2)]
        exact (hG.1 a ha).1
    · rw [e_pJ, if_neg (by omega), e_pJ, if_neg (by omega)]
      exact (hG.1 a ha).2
    · rw [e_pJ, if_pos ⟨rfl, rfl, rfl⟩]
    · rw [e_pJ, if_neg (by omega), e_pJ, if_neg (by omega)]
      exact hG.2.2
    · rw [e_pJ1, e_pJ1, x22]
    · rw [e_pJ1, e_pJ1, e_pI, if_neg q]
    · rw [e_pJ1, e_pJ1, e_pI, if_neg (fun r => q r.1)]
    · rw [e_pJ, if_neg (by omega), e_pJ, if_neg (by omega), e_pI2]
  | true =>
    simp only [b1_t, if_neg e10, e_a (show m < 2 ^ 31 by omega), if_true]
    refine ⟨_, rfl, ⟨fun a ha => ⟨?_, ?_⟩, ?_, ?_⟩, ?_, fun k i j q => ?_, fun k i j q => ?_, fun k i j q1 q2 q3 => ?_⟩
    · rw [e_pJ, if_neg (by omega), e_pJ]
      show _ = lN (uN s.1.1 o (s.1.1 o + m) a)
      unfold uN
      by_cases q : a = o
      · rw [if_pos ⟨rfl, rfl, q⟩, if_pos q]
      · rw [if_neg (fun r => q r.2.2), if_neg q]
        exact (hG.1 a ha).1
    · rw [e_pJ, if_neg (by omega), e_pJ, if_neg (by omega)]
      exact (hG.1 a ha).2
    · rw [e_pJ, if_pos ⟨rfl, rfl, rfl⟩]
      rfl
    · rw [e_pJ, if_neg (by omega), e_pJ, if_neg (by omega)]
      exact hG.2.2
    · rw [e_pJ1, e_pJ1, x22]
    · rw [e_pJ1, e_pJ1, e_pI, if_neg q]
    · rw [e_pJ1, e_pJ1, e_pI, if_neg (fun r => q r.1)]
    · rw [e_pJ, if_neg (by omega), e_pJ, if_neg (by omega), e_pI2]
theorem r_230 {k c o m : Nat} {v : Bool} {s : aS} {z : fo_S} (hk : k < 16) (hc : c < 16) (ho : o < 8) (hm : m ≤ 1000) (h1 : z.1 11 0 k = nI c) (h2 : z.1 3 0 c = nI o) (h3 : z.1 9 0 c = nI m) (hG : Gm s z) : ∃ z' : fo_S, r_market_J230 (nI k, z) (b1 v) = some (.inl (nI (k + 1), z')) ∧ Gm (if v then aC s o m else s) z' ∧ z'.1 22 0 c = b1 v ∧ (∀ k i j, ¬ (k = 22 ∧ i = 0 ∧ j = c) → z'.1 k i j = z.1 k i j) ∧ FGm z' z := by
  unfold r_market_J230 r_market_J259
  have e10 : ¬ ((1 : Int32) = 0) := by decide
  have x22 : ∀ w, (fo_pI z 22 0 c w).1 22 0 c = w := fun w => by rw [e_pI, if_pos ⟨rfl, rfl, rfl⟩]
  have x9 : ∀ w, (fo_pI z 22 0 c w).1 9 0 c = nI m := fun w => by rw [e_pI, if_neg (by omega)]; exact h3
  have x23 : ∀ w, (fo_pI z 22 0 c w).2 24 0 o = lN (s.1.2 o) := fun w => (hG.1 o ho).2
  have x35 : ∀ w u, (fo_pJ (fo_pI z 22 0 c w) 24 0 o u).2 0 0 36 = lN s.2.2 := fun w u => by rw [e_pJ, if_neg (by omega)]; exact hG.2.2
  simp only [h1, f_cl (show k < 1000000 by omega), f_cl (show c < 1000000 by omega), if_pos (f_vi (c := c) (N := 16) hc (by omega)), h2, f_cl (show o < 1000000 by omega), if_pos (f_vi (c := o) (N := 8) ho (by omega)), Option.bind_some, x22, x9, x23, e_pJ1, x35, b1_n, nI_1]
  cases v with
  | false =>
    simp only [b1_f, if_true, Int64.add_zero, Bool.false_eq_true, if_false]
    refine ⟨_, rfl, ⟨fun a ha => ⟨?_, ?_⟩, ?_, ?_⟩, ?_, fun k i j q => ?_, fun k i j q => ?_, fun k i j q1 q2 q3 => ?_⟩
    · rw [e_pJ, if_neg (by omega), e_pJ, if_neg (by omega)]
      exact (hG.1 a ha).1
    · rw [e_pJ, if_neg (by omega), e_pJ]
      by_cases q : a = o
      · rw [if_pos ⟨rfl, rfl, q⟩, q]
      · rw [if_neg (fun r => q r.2.2)]
        exact (hG.1 a ha).2
    · rw [e_pJ, if_neg (by omega), e_pJ, if_neg (by omega)]
      exact hG.2.1
    · rw [e_pJ, if_pos ⟨rfl, rfl, rfl⟩]
    · rw [e_pJ1, e_pJ1, x22]
    · rw [e_pJ1, e_pJ1, e_pI, if_neg q]
    · rw [e_pJ1, e_pJ1, e_pI, if_neg (fun r => q r.1)]
    · rw [e_pJ, if_neg (by omega), e_pJ, if_neg (by omega), e_pI2]
  | true =>
    simp only [b1_t, if_neg e10, e_a (show m < 2 ^ 31 by omega), if_true]
    refine ⟨_, rfl, ⟨fun a ha => ⟨?_, ?_⟩, ?_, ?_⟩, ?_, fun k i j q => ?_, fun k i j q => ?_, fun k i j q1 q2 q3 => ?_⟩
    · rw [e_pJ, if_neg (by omega), e_pJ, if_neg (by omega)]
      exact (hG.1 a ha).1
    · rw [e_pJ, if_neg (by omega), e_pJ]
      show _ = lN (uN s.1.2 o (s.1.2 o + m) a)
      unfold uN
      by_cases q : a = o
      · rw [if_pos ⟨rfl, rfl, q⟩, if_pos q]
      · rw [if_neg (fun r => q r.2.2), if_neg q]
        exact (hG.1 a ha).2
    · rw [e_pJ, if_neg (by omega), e_pJ, if_neg (by omega)]
      exact hG.2.1
    · rw [e_pJ, if_pos ⟨rfl, rfl, rfl⟩]
      rfl
    · rw [e_pJ1, e_pJ1, x22]
    · rw [e_pJ1, e_pJ1, e_pI, if_neg q]
    · rw [e_pJ1, e_pJ1, e_pI, if_neg (fun r => q r.1)]
    · rw [e_pJ, if_neg (by omega), e_pJ, if_neg (by omega), e_pI2]
/-- what stays of the model's world -/
def BcR (own sd pr am : Nat → Nat) (mg : (Nat → Nat) × (Nat → Nat)) (na nr : Nat) (f : Nat → Nat) (τ : fo_S) : Prop := τ.1 0 0 17 = nI nr ∧ (∀ k, k < nr → τ.1 11 0 k = nI (f k) ∧ f k < 16 ∧ CdR own sd pr am τ (f k)) ∧ ∀ a, a < na → τ.2 1 0 a = lN (mg.1 a) ∧ τ.2 2 0 a = lN (mg.2 a)
theorem BcR_f {own sd pr am : Nat → Nat} {mg : (Nat → Nat) × (Nat → Nat)} {na nr : Nat} {f : Nat → Nat} {τ τ' : fo_S} (h : BcR own sd pr am mg na nr f τ) (hF : FGm τ' τ) : BcR own sd pr am mg na nr f τ' := by
  refine ⟨by rw [hF.1 0 0 17 (by omega)]; exact h.1, fun k hk => ?_, fun a ha => ?_⟩
  · have := h.2.1 k hk
    unfold CdR at this ⊢
    rw [hF.1 11 0 k (by omega), hF.1 3 _ _ (by omega), hF.1 7 _ _ (by omega), hF.1 8 _ _ (by omega), hF.1 9 _ _ (by omega)]
    exact this
  · rw [hF.2 1 0 a (by omega) (by omega) (by omega), hF.2 2 0 a (by omega) (by omega) (by omega)]
    exact h.2.2 a ha
theorem r_z8 {τ : fo_S} : ∃ y, fo_lp r_market_L2 fo_FU ((0 : Int32), τ) = some y ∧ (∀ a, a < 8 → y.2.2 23 0 a = 0 ∧ y.2.2 24 0 a = 0) ∧ y.2.1 = τ.1 ∧ ∀ k i j, ¬ k = 23 → ¬ k = 24 → y.2.2 k i j = τ.2 k i j := by
  refine fo_lp_for (b := r_market_L2) 8 (fun n s => s.1 = nI n ∧ (∀ a, a < n → s.2.2 23 0 a = 0 ∧ s.2.2 24 0 a = 0) ∧ s.2.1 = τ.1 ∧ ∀ k i j, ¬ k = 23 → ¬ k = 24 → s.2.2 k i j = τ.2 k i j) _ ?_ ?_ ⟨rfl, fun a ha => absurd ha (Nat.not_lt_zero a), rfl, fun _ _ _ _ _ => rfl⟩ (by omega)
  · rintro n ⟨u, z⟩ hn ⟨h1, h2, h3, h4⟩
    simp only at h1 h2 h3 h4
    subst h1
    left
    unfold r_market_L2
    have c1 : ¬ ((8 : Int32) ≤ nI n) := f_nge (a := 8) hn (by omega)
    simp only [if_neg c1, if_pos (f_vi (c := n) (N := 8) hn (by omega)), f_cl (show n < 1000000 by omega), Option.bind_some, nI_1]
    refine ⟨_, rfl, rfl, fun a ha => ?_, h3, fun k i j k1 k2 => ?_⟩
    · simp only [e_pJ]
      by_cases q : a = n
      · subst q
        simp
      · have := h2 a (by omega)
        simp [q, this.1, this.2]
    · simp only [e_pJ]
      rw [if_neg (fun q => k2 q.1), if_neg (fun q => k1 q.1)]
      exact h4 k i j k1 k2
  · rintro ⟨u, z⟩ ⟨h1, h2, h3, h4⟩
    simp only at h1 h2 h3 h4
    subst h1
    unfold r_market_L2
    have c1 : ((8 : Int32) ≤ nI 8) := by decide
    simp only [if_pos c1]
    exact ⟨_, rfl, h2, h3, h4⟩
def aV (s : aS) : Nat := if s.2.2 < s.2.1 then s.2.2 else s.2.1
theorem r_mkt {own sd pr am f : Nat → Nat} {mg : (Nat → Nat) × (Nat → Nat)} {na nr p : Nat} {τ : fo_S} (hna : na ≤ 8) (hnr : nr ≤ 16) (hp : p ≤ 1000) (hN : ∀ k, k < nr → CdN na own sd pr am (f k)) (hinj : ∀ j k, j < nr → k < nr → f j = f k → j = k) (hmb : mgB na mg) (hQ : BcR own sd pr am mg na nr f τ) : ∃ τ' : fo_S, r_market τ (nI p) = some (lN (aV (aG own sd pr am mg p f nr)), τ') ∧ (∀ k, k < nr → τ'.1 22 0 (f k) = b1 (aT own sd pr am mg p f k)) ∧ FGm τ' τ := by
  unfold r_market
  obtain ⟨y, hy, hy1, hy2, hy3⟩ := r_z8 (τ := τ)
  rw [hy]
  simp only [Option.bind_some]
  obtain ⟨τ0, hτ0⟩ : ∃ s, s = fo_pJ (fo_pJ y.2 0 0 35 (0 : Int64)) 0 0 36 (0 : Int64) := ⟨_, rfl⟩
  rw [← hτ0]
  have hG0 : Gm (aG own sd pr am mg p f 0) τ0 := by
    rw [hτ0]
    refine ⟨fun a ha => ⟨?_, ?_⟩, ?_, ?_⟩
    · rw [e_pJ, if_neg (by omega), e_pJ, if_neg (by omega), (hy1 a ha).1]
      rfl
    · rw [e_pJ, if_neg (by omega), e_pJ, if_neg (by omega), (hy1 a ha).2]
      rfl
    · rw [e_pJ, if_neg (by omega), e_pJ, if_pos ⟨rfl, rfl, rfl⟩]
      rfl
    · rw [e_pJ, if_pos ⟨rfl, rfl, rfl⟩]
      rfl
  have hF0 : FGm τ0 τ := by
    rw [hτ0]
    exact ⟨fun k i j _ => by rw [e_pJ1, e_pJ1, hy2], fun k i j h1 h2 h3 => by rw [e_pJ, if_neg (by omega), e_pJ, if_neg (by omega)]; exact hy3 k i j h1 h2⟩
  obtain ⟨w, hw, hw1, hw2, hw3⟩ := fo_lp_for (b := r_market_L40 (nI p)) nr (fun n s => s.1 = nI n ∧ Gm (aG own sd pr am mg p f n) s.2 ∧ (∀ k, k < n → s.2.1 22 0 (f k) = b1 (aT own sd pr am mg p f k)) ∧ FGm s.2 τ) (fun y => Gm (aG own sd pr am mg p f nr) y.2 ∧ (∀ k, k < nr → y.2.1 22 0 (f k) = b1 (aT own sd pr am mg p f k)) ∧ FGm y.2 τ) (by
    rintro n ⟨u, z⟩ hn ⟨h1, h2, h3, h4⟩
    simp only at h1 h2 h3 h4
    subst h1
    left
    unfold r_market_L40
    have hz := BcR_f hQ h4
    obtain ⟨r1, r2, r3⟩ := hz.2.1 n hn
    obtain ⟨g3, g7, g8, g9⟩ := r3
    have hNn := hN n hn
    obtain ⟨o1, o2, o3, o4, o5⟩ := hNn
    have hBd := aBd_m (aG_Bd (own := own) (sd := sd) (pr := pr) (mg := mg) (p := p) (f := f) (nr := nr) (fun k hk => (hN k hk).2.2.2.2) n (by omega)) (show n * 1000 ≤ 16000 by omega)
    have hmn := hz.2.2 (own (f n)) o1
    have hmm := hmb (own (f n)) o1
    have ho : own (f n) < 8 := by omega
    have hb1 := hBd.1 (own (f n))
    have hb2 := hBd.2.1 (own (f n))
    have ks : (nI (sd (f n)) = 0) ↔ sd (f n) = 0 := nI_eq (b := 0) (by omega) (by omega)
    have k1 : (nI (pr (f n)) < nI p) ↔ pr (f n) < p := nI_ltI (by omega) (by omega)
    have k1' : (nI p < nI (pr (f n))) ↔ p < pr (f n) := nI_ltI (by omega) (by omega)
    have k2 : (0 < lg_cmp (lN (((aG own sd pr am mg p f n).1.1 (own (f n)) + am (f n)) * p)) (lN (mg.1 (own (f n))))) ↔ ¬ ((aG own sd pr am mg p f n).1.1 (own (f n)) + am (f n)) * p ≤ mg.1 (own (f n)) := by
      rw [lg_cmp_gt, pk_lLT (by omega) (mul_bd (by omega) hp), Nat.not_le]
    have k3 : (0 < lg_cmp (lN ((aG own sd pr am mg p f n).1.2 (own (f n)) + am (f n))) (lN (mg.2 (own (f n))))) ↔ ¬ (aG own sd pr am mg p f n).1.2 (own (f n)) + am (f n) ≤ mg.2 (own (f n)) := by
      rw [lg_cmp_gt, pk_lLT (by omega) (by omega), Nat.not_le]
    simp only [hz.1, if_neg (f_nge hn (show nr < 1000000 by omega)), if_pos (f_vi (c := n) (N := 16) (by omega) (by omega)), f_cl (show n < 1000000 by omega), r1, if_pos (f_vi (c := f n) (N := 16) (by omega) (by omega)), f_cl (show f n < 1000000 by omega), g7, ks, g8, k1, k1', g3, if_pos (f_vi (c := own (f n)) (N := 8) ho (by omega)), f_cl (show own (f n) < 1000000 by omega), g9, (h2.1 _ ho).1, (h2.1 _ ho).2, hmn.1, hmn.2, e_a (show am (f n) < 2 ^ 31 by omega), e_m (show p < 2 ^ 31 by omega), k2, k3]
    have fin : ∀ z' : fo_S, Gm (aN own sd pr am mg p (aG own sd pr am mg p f n) (f n)) z' → z'.1 22 0 (f n) = b1 (aT own sd pr am mg p f n) → (∀ k i j, ¬ (k = 22 ∧ i = 0 ∧ j = f n) → z'.1 k i j = z.1 k i j) → FGm z' z → ∃ s', (some (Sum.inl (nI (n + 1), z')) : Option ((Int32 × fo_S) ⊕ (Int32 × fo_S))) = some (.inl s') ∧ s'.1 = nI (n + 1) ∧ Gm (aG own sd pr am mg p f (n + 1)) s'.2 ∧ (∀ k, k < n + 1 → s'.2.1 22 0 (f k) = b1 (aT own sd pr am mg p f k)) ∧ FGm s'.2 τ := by
      intro z' g1 g2 g3 g4
      refine ⟨_, rfl, rfl, g1, fun k hk => ?_, FGm_t g4 h4⟩
      show z'.1 22 0 (f k) = _
      by_cases q : k = n
      · rw [q]
        exact g2
      · rw [g3 22 0 (f k) (fun r => q (hinj k n (by omega) hn r.2.2))]
        exact h3 k (by omega)
    by_cases hs : sd (f n) = 0
    · have fin' : ∀ v : Bool, aJ own sd pr am mg p (aG own sd pr am mg p f n) (f n) = v → ∃ s', r_market_J121 (nI n, z) (b1 v) = some (.inl s') ∧ s'.1 = nI (n + 1) ∧ Gm (aG own sd pr am mg p f (n + 1)) s'.2 ∧ (∀ k, k < n + 1 → s'.2.1 22 0 (f k) = b1 (aT own sd pr am mg p f k)) ∧ FGm s'.2 τ := by
        intro v hv
        obtain ⟨z', g1, g2, g3, g4, g5⟩ := r_121 (k := n) (v := v) (by omega) r2 ho o5 r1 g3 g9 h2
        rw [g1]
        refine fin z' ?_ ?_ g4 g5
        · unfold aN
          rw [hv, if_pos hs]
          exact g2
        · rw [g3]
          unfold aT
          rw [hv]
      simp only [if_pos hs]
      by_cases c1 : pr (f n) < p
      · rw [if_pos c1]
        exact fin' false (by
          unfold aJ
          rw [if_pos hs]
          exact decide_eq_false (fun q => by omega))
      · rw [if_neg c1]
        by_cases c2 : ((aG own sd pr am mg p f n).1.1 (own (f n)) + am (f n)) * p ≤ mg.1 (own (f n))
        · rw [if_neg (f_nn c2)]
          exact fin' true (by
            unfold aJ
            rw [if_pos hs]
            exact decide_eq_true ⟨by omega, c2⟩)
        · rw [if_pos c2]
          exact fin' false (by
            unfold aJ
            rw [if_pos hs]
            exact decide_eq_false (fun q => c2 q.2))
    · have fin' : ∀ v : Bool, aJ own sd pr am mg p (aG own sd pr am mg p f n) (f n) = v → ∃ s', r_market_J230 (nI n, z) (b1 v) = some (.inl s') ∧ s'.1 = nI (n + 1) ∧ Gm (aG own sd pr am mg p f (n + 1)) s'.2 ∧ (∀ k, k < n + 1 → s'.2.1 22 0 (f k) = b1 (aT own sd pr am mg p f k)) ∧ FGm s'.2 τ := by
        intro v hv
        obtain ⟨z', g1, g2, g3, g4, g5⟩ := r_230 (k := n) (v := v) (by omega) r2 ho o5 r1 g3 g9 h2
        rw [g1]
        refine fin z' ?_ ?_ g4 g5
        · unfold aN
          rw [hv, if_neg hs]
          exact g2
        · rw [g3]
          unfold aT
          rw [hv]
      simp only [if_neg hs]
      by_cases c1 : p < pr (f n)
      · rw [if_pos c1]
        exact fin' false (by
          unfold aJ
          rw [if_neg hs]
          exact decide_eq_false (fun q => by omega))
      · rw [if_neg c1]
        by_cases c2 : (aG own sd pr am mg p f n).1.2 (own (f n)) + am (f n) ≤ mg.2 (own (f n))
        · rw [if_neg (f_nn c2)]
          exact fin' true (by
            unfold aJ
            rw [if_neg hs]
            exact decide_eq_true ⟨by omega, c2⟩)
        · rw [if_pos c2]
          exact fin' false (by
            unfold aJ
            rw [if_neg hs]
            exact decide_eq_false (fun q => c2 q.2))) (by
    rintro ⟨u, z⟩ ⟨h1, h2, h3, h4⟩
    simp only at h1 h2 h3 h4
    subst h1
    unfold r_market_L40
    have hz := BcR_f hQ h4
    simp only [hz.1, if_pos (f_ge (Nat.le_refl nr) (show nr < 1000000 by omega))]
    exact ⟨_, rfl, h2, h3, h4⟩) (s0 := ((0 : Int32), τ0)) ⟨rfl, hG0, fun k hk => absurd hk (Nat.not_lt_zero k), hF0⟩ (by omega)
  rw [hw]
  have hBd := aG_Bd (own := own) (sd := sd) (pr := pr) (mg := mg) (p := p) (f := f) (nr := nr) (fun k hk => (hN k hk).2.2.2.2) nr (Nat.le_refl nr)
  have b1 := hBd.2.2.1
  have b2 := hBd.2.2.2
  have kk : (0 ≤ lg_cmp (lN (aG own sd pr am mg p f nr).2.1) (lN (aG own sd pr am mg p f nr).2.2)) ↔ (aG own sd pr am mg p f nr).2.2 ≤ (aG own sd pr am mg p f nr).2.1 := by rw [lg_cmp_ge, pk_lLE (by omega) (by omega)]
  simp only [Option.bind_some, hw1.2.1, hw1.2.2, kk]
  refine ⟨w.2, ?_, hw2, hw3⟩
  unfold aV
  by_cases c1 : (aG own sd pr am mg p f nr).2.2 < (aG own sd pr am mg p f nr).2.1
  · rw [if_pos (by omega), if_pos c1]
  · rw [if_neg c1]
    by_cases c2 : (aG own sd pr am mg p f nr).2.2 ≤ (aG own sd pr am mg p f nr).2.1
    · rw [if_pos c2, show (aG own sd pr am mg p f nr).2.2 = (aG own sd pr am mg p f nr).2.1 by omega]
    · rw [if_neg c2]
