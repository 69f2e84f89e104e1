-- all at once: who takes part at a price
abbrev aS : Type := ((Nat → Nat) × (Nat → Nat)) × Nat × Nat
def uN (f : Nat → Nat) (a v : Nat) : Nat → Nat := fun k => if k = a then v else f k
def aJ (own sd pr am : Nat → Nat) (mg : (Nat → Nat) × (Nat → Nat)) (p : Nat) (s : aS) (c : Nat) : Bool :=
  if sd c = 0 then decide (p ≤ pr c ∧ (s.1.1 (own c) + am c) * p ≤ mg.1 (own c)) else decide (pr c ≤ p ∧ s.1.2 (own c) + am c ≤ mg.2 (own c))
def aB (s : aS) (o m : Nat) : aS := ((uN s.1.1 o (s.1.1 o + m), s.1.2), s.2.1 + m, s.2.2)
def aC (s : aS) (o m : Nat) : aS := ((s.1.1, uN s.1.2 o (s.1.2 o + m)), s.2.1, s.2.2 + m)
def aN (own sd pr am : Nat → Nat) (mg : (Nat → Nat) × (Nat → Nat)) (p : Nat) (s : aS) (c : Nat) : aS :=
  if aJ own sd pr am mg p s c then (if sd c = 0 then aB s (own c) (am c) else aC s (own c) (am c)) else s
def aG (own sd pr am : Nat → Nat) (mg : (Nat → Nat) × (Nat → Nat)) (p : Nat) (f : Nat → Nat) : Nat → aS
  | 0 => ((fun _ => 0, fun _ => 0), 0, 0)
  | n + 1 => aN own sd pr am mg p (aG own sd pr am mg p f n) (f n)
def aT (own sd pr am : Nat → Nat) (mg : (Nat → Nat) × (Nat → Nat)) (p : Nat) (f : Nat → Nat) (k : Nat) : Bool := aJ own sd pr am mg p (aG own sd pr am mg p f k) (f k)
def aBd (n : Nat) (s : aS) : Prop := (∀ a, s.1.1 a ≤ n) ∧ (∀ a, s.1.2 a ≤ n) ∧ s.2.1 ≤ n ∧ s.2.2 ≤ n
theorem uN_le {f : Nat → Nat} {o v n : Nat} (h : ∀ a, f a ≤ n) (hv : v ≤ n) : ∀ a, uN f o v a ≤ n := by
  intro a
  unfold uN
  split
  · exact hv
  · exact h a
theorem aBd_m {n m : Nat} {s : aS} (h : aBd n s) (hm : n ≤ m) : aBd m s := ⟨fun a => Nat.le_trans (h.1 a) hm, fun a => Nat.le_trans (h.2.1 a) hm, Nat.le_trans h.2.2.1 hm, Nat.le_trans h.2.2.2 hm⟩
theorem aN_Bd {own sd pr am : Nat → Nat} {mg : (Nat → Nat) × (Nat → Nat)} {p n c : Nat} {s : aS} (h : aBd n s) (ha : am c ≤ 1000) : aBd (n + 1000) (aN own sd pr am mg p s c) := by
  have h' := aBd_m h (show n ≤ n + 1000 by omega)
  unfold aN
  split
  · split
    · exact ⟨uN_le h'.1 (by have := h.1 (own c); omega), h'.2.1, by have := h.2.2.1; show s.2.1 + am c ≤ _; omega, h'.2.2.2⟩
    · exact ⟨h'.1, uN_le h'.2.1 (by have := h.2.1 (own c); omega), h'.2.2.1, by have := h.2.2.2; show s.2.2 + am c ≤ _; omega⟩
  · exact h'
theorem aG_Bd {own sd pr am f : Nat → Nat} {mg : (Nat → Nat) × (Nat → Nat)} {p nr : Nat} (ha : ∀ k, k < nr → am (f k) ≤ 1000) : ∀ n, n ≤ nr → aBd (n * 1000) (aG own sd pr am mg p f n) := by
  intro n
  induction n with
  | zero => intro _; exact ⟨fun _ => Nat.le_refl _, fun _ => Nat.le_refl _, Nat.le_refl _, Nat.le_refl _⟩
  | succ n ih =>
    intro hn
    rw [aG, Nat.succ_mul]
    exact aN_Bd (ih (by omega)) (ha n (by omega))
-- the class
def Ga (s : aS) (σ : fo_S) : Prop := (∀ a, a < 8 → σ.2 12 0 a = lN (s.1.1 a) ∧ σ.2 13 0 a = lN (s.1.2 a)) ∧ σ.2 10 0 3 = lN s.2.1 ∧ σ.2 10 0 4 = lN s.2.2
def FGa (σ' σ : fo_S) : Prop := (∀ k i j, ¬ k = 11 → σ'.1 k i j = σ.1 k i j) ∧ ∀ k i j, ¬ k = 10 → ¬ k = 12 → ¬ k = 13 → σ'.2 k i j = σ.2 k i j
theorem FGa_r (σ : fo_S) : FGa σ σ := ⟨fun _ _ _ _ => rfl, fun _ _ _ _ _ _ => rfl⟩
theorem FGa_t {σ σ' σ'' : fo_S} (h : FGa σ'' σ') (h' : FGa σ' σ) : FGa σ'' σ := ⟨fun k i j h1 => (h.1 k i j h1).trans (h'.1 k i j h1), fun k i j h1 h2 h3 => (h.2 k i j h1 h2 h3).trans (h'.2 k i j h1 h2 h3)⟩
theorem FGa_p (σ : fo_S) (j : Nat) (v : Int32) : FGa (fo_pI σ 11 0 j v) σ := ⟨fun k i j' h1 => by rw [e_pI, if_neg (fun q => h1 q.1)], fun _ _ _ _ _ _ => rfl⟩
theorem e_m {b p : Nat} (hp : p < 2 ^ 31) : lN b * (nI p).toInt64 = lN (b * p) := by
  rw [nI_l hp, lN_mul]
theorem e_a {b m : Nat} (hm : m < 2 ^ 31) : lN b + (nI m).toInt64 = lN (b + m) := by
  rw [nI_l hm, lN_add]
theorem mul_bd {b p : Nat} (h1 : b ≤ 17000) (h2 : p ≤ 1000) : b * p < 2 ^ 63 := by
  have : b * p ≤ 17000 * 1000 := Nat.mul_le_mul h1 h2
  omega
theorem q_jB {own sd pr am : Nat → Nat} {mg : (Nat → Nat) × (Nat → Nat)} {na p c : Nat} {s : aS} {σ : fo_S} (hna : na ≤ 8) (hp : p ≤ 1000) (hN : CdN na own sd pr am c) (hQ : CdQ own sd pr am σ c) (hsd : sd c = 0) (hm : σ.2 2 0 (own c) = lN (mg.1 (own c))) (hmb : mg.1 (own c) < 2 ^ 63) (hB : aBd 16000 s) (hG : Ga s σ) : ∃ σ' : fo_S, q_Auction_joinBuys σ c (nI p) 0 = some (b1 (aJ own sd pr am mg p s c), σ') ∧ Ga (aN own sd pr am mg p s c) σ' ∧ σ'.1 = σ.1 ∧ FGa σ' σ := by
  obtain ⟨o1, o2, o3, o4, o5⟩ := hN
  obtain ⟨e1, e2, e3, e4⟩ := hQ
  unfold q_Auction_joinBuys
  have ho : own c < 8 := by omega
  have hb := hB.1 (own c)
  have k1 : (nI (pr c) < nI p) ↔ pr c < p := nI_ltI (by omega) (by omega)
  have k2 : (lg_cmp (lN ((s.1.1 (own c) + am c) * p)) (lN (mg.1 (own c))) ≤ 0) ↔ (s.1.1 (own c) + am c) * p ≤ mg.1 (own c) := by rw [lg_cmp_le, pk_lLE (mul_bd (by omega) hp) hmb]
  simp only [e1, e3, e4, f_cl (show own c < 1000000 by omega), if_pos (f_vi (c := own c) (N := 8) ho (by omega)), if_pos (f_vi (c := own c) (N := 9) (by omega) (by omega)), (hG.1 _ ho).1, hm, e_m (show p < 2 ^ 31 by omega), e_a (show am c < 2 ^ 31 by omega), k1, k2]
  by_cases c1 : pr c < p
  · have hj : aJ own sd pr am mg p s c = false := by
      unfold aJ
      rw [if_pos hsd]
      exact decide_eq_false (fun q => by omega)
    rw [if_pos c1]
    unfold aN
    rw [hj]
    exact ⟨σ, rfl, hG, rfl, FGa_r σ⟩
  · rw [if_neg c1]
    by_cases c2 : (s.1.1 (own c) + am c) * p ≤ mg.1 (own c)
    · have hj : aJ own sd pr am mg p s c = true := by
        unfold aJ
        rw [if_pos hsd]
        exact decide_eq_true ⟨by omega, c2⟩
      have e5 : ∀ v, (fo_pJ σ 12 0 (own c) v).2 10 0 3 = lN s.2.1 := fun v => by
        rw [e_pJ, if_neg (by omega)]
        exact hG.2.1
      have e6 : ∀ v, (fo_pJ σ 12 0 (own c) v).1 14 c 7 = nI (am c) := fun v => e4
      rw [if_pos c2]
      simp only [e5, e6, e_a (show am c < 2 ^ 31 by omega)]
      unfold aN
      rw [hj, if_pos rfl, if_pos hsd]
      refine ⟨_, rfl, ⟨fun a ha => ⟨?_, ?_⟩, ?_, ?_⟩, rfl, fun _ _ _ _ => rfl, fun k i j h1 h2 h3 => ?_⟩
      · rw [e_pJ, if_neg (by omega), e_pJ]
        show _ = lN (uN s.1.1 (own c) (s.1.1 (own c) + am c) a)
        unfold uN
        by_cases q : a = own c
        · rw [if_pos ⟨rfl, rfl, q⟩, if_pos q]
        · rw [if_neg (fun r => q r.2.2), if_neg q]
          exact (hG.1 a ha).1
      · rw [e_pJ, if_neg (by omega), e_pJ, if_neg (by omega)]
        exact (hG.1 a ha).2
      · rw [e_pJ, if_pos ⟨rfl, rfl, rfl⟩]
        rfl
      · rw [e_pJ, if_neg (by omega), e_pJ, if_neg (by omega)]
        exact hG.2.2
      · rw [e_pJ, if_neg (fun q => h1 q.1), e_pJ, if_neg (fun q => h2 q.1)]
    · have hj : aJ own sd pr am mg p s c = false := by
        unfold aJ
        rw [if_pos hsd]
        exact decide_eq_false (fun q => c2 q.2)
      rw [if_neg c2]
      unfold aN
      rw [hj]
      exact ⟨σ, rfl, hG, rfl, FGa_r σ⟩
theorem q_jS {own sd pr am : Nat → Nat} {mg : (Nat → Nat) × (Nat → Nat)} {na p c : Nat} {s : aS} {σ : fo_S} (hna : na ≤ 8) (hp : p ≤ 1000) (hN : CdN na own sd pr am c) (hQ : CdQ own sd pr am σ c) (hsd : ¬ sd c = 0) (hm : σ.2 3 0 (own c) = lN (mg.2 (own c))) (hmb : mg.2 (own c) < 2 ^ 63) (hB : aBd 16000 s) (hG : Ga s σ) : ∃ σ' : fo_S, q_Auction_joinSells σ c (nI p) 0 = some (b1 (aJ own sd pr am mg p s c), σ') ∧ Ga (aN own sd pr am mg p s c) σ' ∧ σ'.1 = σ.1 ∧ FGa σ' σ := by
  obtain ⟨o1, o2, o3, o4, o5⟩ := hN
  obtain ⟨e1, e2, e3, e4⟩ := hQ
  unfold q_Auction_joinSells
  have ho : own c < 8 := by omega
  have hb := hB.2.1 (own c)
  have k1 : (nI p < nI (pr c)) ↔ p < pr c := nI_ltI (by omega) (by omega)
  have k2 : (lg_cmp (lN (s.1.2 (own c) + am c)) (lN (mg.2 (own c))) ≤ 0) ↔ s.1.2 (own c) + am c ≤ mg.2 (own c) := by rw [lg_cmp_le, pk_lLE (by omega) hmb]
  simp only [e1, e3, e4, f_cl (show own c < 1000000 by omega), if_pos (f_vi (c := own c) (N := 8) ho (by omega)), if_pos (f_vi (c := own c) (N := 9) (by omega) (by omega)), (hG.1 _ ho).2, hm, e_a (show am c < 2 ^ 31 by omega), k1, k2]
  by_cases c1 : p < pr c
  · have hj : aJ own sd pr am mg p s c = false := by
      unfold aJ
      rw [if_neg hsd]
      exact decide_eq_false (fun q => by omega)
    rw [if_pos c1]
    unfold aN
    rw [hj]
    exact ⟨σ, rfl, hG, rfl, FGa_r σ⟩
  · rw [if_neg c1]
    by_cases c2 : s.1.2 (own c) + am c ≤ mg.2 (own c)
    · have hj : aJ own sd pr am mg p s c = true := by
        unfold aJ
        rw [if_neg hsd]
        exact decide_eq_true ⟨by omega, c2⟩
      have e5 : ∀ v, (fo_pJ σ 13 0 (own c) v).2 10 0 4 = lN s.2.2 := fun v => by
        rw [e_pJ, if_neg (by omega)]
        exact hG.2.2
      have e6 : ∀ v, (fo_pJ σ 13 0 (own c) v).1 14 c 7 = nI (am c) := fun v => e4
      rw [if_pos c2]
      simp only [e5, e6, e_a (show am c < 2 ^ 31 by omega)]
      unfold aN
      rw [hj, if_pos rfl, if_neg hsd]
      refine ⟨_, rfl, ⟨fun a ha => ⟨?_, ?_⟩, ?_, ?_⟩, rfl, fun _ _ _ _ => rfl, fun k i j h1 h2 h3 => ?_⟩
      · rw [e_pJ, if_neg (by omega), e_pJ, if_neg (by omega)]
        exact (hG.1 a ha).1
      · rw [e_pJ, if_neg (by omega), e_pJ]
        show _ = lN (uN s.1.2 (own c) (s.1.2 (own c) + am c) a)
        unfold uN
        by_cases q : a = own c
        · rw [if_pos ⟨rfl, rfl, q⟩, if_pos q]
        · rw [if_neg (fun r => q r.2.2), if_neg q]
          exact (hG.1 a ha).2
      · rw [e_pJ, if_neg (by omega), e_pJ, if_neg (by omega)]
        exact hG.2.1
      · rw [e_pJ, if_pos ⟨rfl, rfl, rfl⟩]
        rfl
      · rw [e_pJ, if_neg (fun q => h1 q.1), e_pJ, if_neg (fun q => h3 q.1)]
    · have hj : aJ own sd pr am mg p s c = false := by
        unfold aJ
        rw [if_neg hsd]
        exact decide_eq_false (fun q => c2 q.2)
      rw [if_neg c2]
      unfold aN
      rw [hj]
      exact ⟨σ, rfl, hG, rfl, FGa_r σ⟩
/-- what stays of the class's world while who takes part is found -/
def BcQ (own sd pr am : Nat → Nat) (mg : (Nat → Nat) × (Nat → Nat)) (na nr : Nat) (f : Nat → Nat) (σ : fo_S) : Prop := σ.1 5 0 1 = nI nr ∧ (∀ k, k < nr → σ.1 6 0 k = nI (f k) ∧ f k < 16 ∧ CdQ own sd pr am σ (f k)) ∧ ∀ a, a < na → σ.2 2 0 a = lN (mg.1 a) ∧ σ.2 3 0 a = lN (mg.2 a)
theorem BcQ_f {own sd pr am : Nat → Nat} {mg : (Nat → Nat) × (Nat → Nat)} {na nr : Nat} {f : Nat → Nat} {σ σ' : fo_S} (h : BcQ own sd pr am mg na nr f σ) (hF : FGa σ' σ) : BcQ own sd pr am mg na nr f σ' := by
  refine ⟨by rw [hF.1 5 0 1 (by omega)]; exact h.1, fun k hk => ?_, fun a ha => ?_⟩
  · have := h.2.1 k hk
    unfold CdQ at this ⊢
    rw [hF.1 6 0 k (by omega), hF.1 14 _ 1 (by omega), hF.1 14 _ 5 (by omega), hF.1 14 _ 6 (by omega), hF.1 14 _ 7 (by omega)]
    exact this
  · rw [hF.2 2 0 a (by omega) (by omega) (by omega), hF.2 3 0 a (by omega) (by omega) (by omega)]
    exact h.2.2 a ha
def mgB (na : Nat) (mg : (Nat → Nat) × (Nat → Nat)) : Prop := ∀ a, a < na → mg.1 a < 2 ^ 62 ∧ mg.2 a < 2 ^ 62
theorem q_gth {own sd pr am f : Nat → Nat} {mg : (Nat → Nat) × (Nat → Nat)} {na nr p : Nat} {σ : fo_S} (hna : na ≤ 8) (hnr : nr ≤ 16) (hp : p ≤ 1000) (hN : ∀ k, k < nr → CdN na own sd pr am (f k)) (hmb : mgB na mg) (hQ : BcQ own sd pr am mg na nr f σ) : ∃ σ' : fo_S, q_Auction_gather σ (nI p) 0 0 = some σ' ∧ Ga (aG own sd pr am mg p f nr) σ' ∧ (∀ k, k < nr → σ'.1 11 0 k = b1 (aT own sd pr am mg p f k)) ∧ FGa σ' σ := by
  unfold q_Auction_gather
  obtain ⟨σ0, hσ0⟩ : ∃ s, s = fo_pJ (fo_pJ (fo_rJ (fo_rJ σ 12 0 (fo_fil (σ.2 12 0) 8 (0 : Int64))) 13 0 (fo_fil ((fo_rJ σ 12 0 (fo_fil (σ.2 12 0) 8 (0 : Int64))).2 13 0) 8 (0 : Int64))) 10 0 3 (0 : Int64)) 10 0 4 (0 : Int64) := ⟨_, rfl⟩
  rw [← hσ0]
  have l0 : (0 : Int64) = lN 0 := rfl
  have hG0 : Ga (aG own sd pr am mg p f 0) σ0 := by
    rw [hσ0]
    refine ⟨fun a ha => ⟨?_, ?_⟩, ?_, ?_⟩
    · rw [e_pJ, if_neg (by omega), e_pJ, if_neg (by omega), e_rJ, if_neg (by omega), e_rJ, if_pos ⟨rfl, rfl⟩]
      unfold fo_fil
      rw [if_pos ha]
      rfl
    · rw [e_pJ, if_neg (by omega), e_pJ, if_neg (by omega), e_rJ, if_pos ⟨rfl, rfl⟩]
      unfold fo_fil
      rw [if_pos ha]
      rfl
    · rw [e_pJ, if_neg (by omega), e_pJ, if_pos ⟨rfl, rfl, rfl⟩]
      rfl
    · rw [e_pJ, if_pos ⟨rfl, rfl, rfl⟩]
      rfl
  have hF0 : FGa σ0 σ := by
    rw [hσ0]
    exact ⟨fun _ _ _ _ => rfl, fun k i j h1 h2 h3 => by rw [e_pJ, if_neg (fun q => h1 q.1), e_pJ, if_neg (fun q => h1 q.1), e_rJ, if_neg (fun q => h3 q.1), e_rJ, if_neg (fun q => h2 q.1)]⟩
  obtain ⟨y, hy, hy1, hy2, hy3⟩ := fo_lp_for (b := q_Auction_gather_L29 (nI p) 0 0) nr (fun n s => s.1 = nI n ∧ Ga (aG own sd pr am mg p f n) s.2 ∧ (∀ k, k < n → s.2.1 11 0 k = b1 (aT own sd pr am mg p f k)) ∧ FGa s.2 σ) (fun y => Ga (aG own sd pr am mg p f nr) y.2 ∧ (∀ k, k < nr → y.2.1 11 0 k = b1 (aT own sd pr am mg p f k)) ∧ FGa y.2 σ) (by
    rintro n ⟨u, z⟩ hn ⟨h1, h2, h3, h4⟩
    simp only at h1 h2 h3 h4
    subst h1
    left
    unfold q_Auction_gather_L29
    have hz := BcQ_f hQ h4
    obtain ⟨r1, r2, r3⟩ := hz.2.1 n hn
    have hNn := hN n hn
    have hBd := aBd_m (aG_Bd (own := own) (sd := sd) (pr := pr) (mg := mg) (p := p) (f := f) (nr := nr) (fun k hk => (hN k hk).2.2.2.2) n (by omega)) (show n * 1000 ≤ 16000 by omega)
    have hmn := hz.2.2 (own (f n)) hNn.1
    have hmm := hmb (own (f n)) hNn.1
    have ks : (nI (sd (f n)) = 0) ↔ sd (f n) = 0 := nI_eq (b := 0) (by have := hNn.2.1; omega) (by omega)
    simp only [hz.1, if_neg (f_nge hn (show nr < 1000000 by omega)), if_pos (f_vi (c := n) (N := 16) (by omega) (by omega)), f_cl (show n < 1000000 by omega), r1, if_pos (f_vi (c := f n) (N := 16) (by omega) (by omega)), f_cl (show f n < 1000000 by omega), r3.2.1, ks, nI_1]
    have fin : ∀ z' : fo_S, Ga (aN own sd pr am mg p (aG own sd pr am mg p f n) (f n)) z' → z'.1 = z.1 → FGa z' z → ∃ s', (some (Sum.inl (nI (n + 1), fo_pI z' 11 0 n (vp_nar .boolean (b1 (aJ own sd pr am mg p (aG own sd pr am mg p f n) (f n)))))) : Option ((Int32 × fo_S) ⊕ (Int32 × fo_S))) = some (.inl s') ∧ s'.1 = nI (n + 1) ∧ Ga (aG own sd pr am mg p f (n + 1)) s'.2 ∧ (∀ k, k < n + 1 → s'.2.1 11 0 k = b1 (aT own sd pr am mg p f k)) ∧ FGa s'.2 σ := by
      intro z' g1 g2 g3
      refine ⟨_, rfl, rfl, g1, fun k hk => ?_, FGa_t (FGa_t (FGa_p _ _ _) g3) h4⟩
      show (fo_pI z' 11 0 n _).1 11 0 k = _
      rw [e_pI, b1_n]
      by_cases q : k = n
      · rw [if_pos ⟨rfl, rfl, q⟩, q]
        rfl
      · rw [if_neg (fun r => q r.2.2), g2]
        exact h3 k (by omega)
    by_cases hs : sd (f n) = 0
    · obtain ⟨z', g1, g2, g3, g4⟩ := q_jB (s := aG own sd pr am mg p f n) (mg := mg) hna hp hNn r3 hs hmn.1 (by omega) hBd h2
      simp only [if_pos hs, g1, Option.bind_some]
      exact fin z' g2 g3 g4
    · obtain ⟨z', g1, g2, g3, g4⟩ := q_jS (s := aG own sd pr am mg p f n) (mg := mg) hna hp hNn r3 hs hmn.2 (by omega) hBd h2
      simp only [if_neg hs, g1, Option.bind_some]
      exact fin z' g2 g3 g4) (by
    rintro ⟨u, z⟩ ⟨h1, h2, h3, h4⟩
    simp only at h1 h2 h3 h4
    subst h1
    unfold q_Auction_gather_L29
    have hz := BcQ_f hQ h4
    simp only [hz.1, if_pos (f_ge (Nat.le_refl nr) (show nr < 1000000 by omega))]
    exact ⟨_, rfl, h2, h3, h4⟩) (s0 := ((0 : Int32), σ0)) ⟨rfl, hG0, fun k hk => absurd hk (Nat.not_lt_zero k), hF0⟩ (by omega)
  rw [hy]
  exact ⟨_, rfl, hy1, hy2, hy3⟩
