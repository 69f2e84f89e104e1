/-- what one call does against the pool (money M, goods G; its account has mo, go): what passes, or nothing -/
def tK (M G mo go sd pr am : Nat) : Option Nat :=
  if sd = 0 then (if am < G ∧ (M * am + (G - am) - 1) / (G - am) ≤ pr * am ∧ (M * am + (G - am) - 1) / (G - am) ≤ mo then some ((M * am + (G - am) - 1) / (G - am)) else none)
  else (if am ≤ go ∧ pr * am ≤ M * am / (G + am) then some (M * am / (G + am)) else none)
theorem tl_pos {G am : Nat} (h1 : G < 2 ^ 62) (h2 : am < 2 ^ 62) : ((0 : Int64) < lN G - lN am) ↔ am < G := by
  rw [fj_lt, fj_sub (by rw [pk_lT (by omega), pk_lT (by omega)]; omega) (by rw [pk_lT (by omega), pk_lT (by omega)]; omega), pk_lT (by omega), pk_lT (by omega)]
  have : (0 : Int64).toInt = 0 := rfl
  omega
theorem tl_cost {M G am : Nat} (hM : M < 2 ^ 43) (hG : G < 2 ^ 43) (ha : am ≤ 1000) (h1 : 1 ≤ am) (h : am < G) : ((lN M * lN am) + (lN G - lN am) - 1) / (lN G - lN am) = lN ((M * am + (G - am) - 1) / (G - am)) := by
  have hMa : M * am ≤ 2 ^ 43 * 1000 := Nat.mul_le_mul (by omega) ha
  rw [lN_mul, lN_sub (by omega), lN_add]
  show (lN (M * am + (G - am)) - lN 1) / lN (G - am) = _
  rw [lN_sub (by omega), pk_lDiv (by omega) (by omega) (by omega)]
theorem tl_cost2 {M G am : Nat} (hM : M < 2 ^ 43) (hG : G < 2 ^ 43) (ha : am ≤ 1000) (h1 : 1 ≤ am) (h : am < G) : (lN M * lN am) / (lN G - lN am) + (if lg_cmp ((lN M * lN am) - (lN M * lN am) / (lN G - lN am) * (lN G - lN am)) 0 ≤ 0 then 0 else 1) = lN ((M * am + (G - am) - 1) / (G - am)) := by
  have hMa : M * am ≤ 2 ^ 43 * 1000 := Nat.mul_le_mul (by omega) ha
  rw [lN_mul, lN_sub (by omega), pk_lRem (by omega) (by omega) (by omega), pk_lDiv (by omega) (by omega) (by omega)]
  simp only [lg_cmp_le]
  generalize M * am = a at hMa ⊢
  obtain ⟨d, hd⟩ : ∃ d, d = G - am := ⟨_, rfl⟩
  rw [← hd]
  have hd0 : 0 < d := by omega
  have hm := Nat.mod_lt a hd0
  have key : (a + d - 1) / d = a / d + (if a % d = 0 then 0 else 1) := by
    have e := Nat.div_add_mod a d
    by_cases h0 : a % d = 0
    · rw [if_pos h0, Nat.add_zero]
      have : a + d - 1 = (d - 1) + d * (a / d) := by omega
      rw [this, Nat.add_mul_div_left _ _ hd0, Nat.div_eq_of_lt (by omega), Nat.zero_add]
    · rw [if_neg h0]
      have : a + d - 1 = (a % d - 1) + d * (a / d + 1) := by rw [Nat.mul_add]; omega
      rw [this, Nat.add_mul_div_left _ _ hd0, Nat.div_eq_of_lt (by omega), Nat.zero_add]
  rw [key]
  have k : (lN (a % d) ≤ (0 : Int64)) ↔ a % d = 0 := by
    show (lN (a % d) ≤ lN 0) ↔ _
    rw [pk_lLE (by omega) (by omega)]
    omega
  by_cases h0 : a % d = 0
  · rw [if_pos (k.mpr h0), if_pos h0]
    exact Int64.add_zero _
  · rw [if_neg (fun q => h0 (k.mp q)), if_neg h0]
    exact lN_add _ 1
theorem tl_lim {pr am : Nat} (h1 : pr ≤ 1000) (h2 : am ≤ 1000) : (nI pr).toInt64 * (nI am).toInt64 = lN (pr * am) := by
  rw [nI_l (by omega), nI_l (by omega), lN_mul]
/-- the four places of a market that a call moves -/
def tMv (σ : fo_S) (i0 o : Nat) (mo go M G : Nat) : fo_S := fo_pJ (fo_pJ (fo_pJ (fo_pJ σ 2 i0 o (lN mo)) 3 i0 o (lN go)) 2 i0 8 (lN M)) 3 i0 8 (lN G)
theorem q_tr {σ : fo_S} {i0 c M G mo go sd pr am o : Nat} (hM : M < 2 ^ 43) (hG : G < 2 ^ 43) (hmo : mo < 2 ^ 43) (hgo : go < 2 ^ 43) (hs : sd ≤ 1) (hp : pr ≤ 1000) (ha1 : 1 ≤ am) (ha : am ≤ 1000) (ho : o < 8)
    (e1 : σ.2 2 i0 8 = lN M) (e2 : σ.2 3 i0 8 = lN G) (e3 : σ.2 2 i0 o = lN mo) (e4 : σ.2 3 i0 o = lN go) (e5 : σ.1 14 c 1 = nI o) (e6 : σ.1 14 c 5 = nI sd) (e7 : σ.1 14 c 6 = nI pr) (e8 : σ.1 14 c 7 = nI am) :
    q_Market_trade σ i0 c = some (match tK M G mo go sd pr am with | none => ((-1 : Int64), σ) | some v => (lN v, if sd = 0 then tMv σ i0 o (mo - v) (go + am) (M + v) (G - am) else tMv σ i0 o (mo + v) (go - am) (M - v) (G + am))) := by
  have h8 : (8 : Int32).toNatClampNeg = 8 := by decide
  have v8 : fo_vi (8 : Int32) 9 := by decide
  have vo := f_vi (c := o) (N := 9) (by omega) (by omega)
  have o8 : ¬ 8 = o := by omega
  have o8' : ¬ o = 8 := by omega
  have hMa : M * am ≤ 2 ^ 43 * 1000 := Nat.mul_le_mul (by omega) ha
  have hpa : pr * am ≤ 1000 * 1000 := Nat.mul_le_mul hp ha
  have ea := nI_l (n := am) (by omega)
  have el := tl_lim hp ha
  have ec := f_cl (c := o) (by omega)
  unfold q_Market_trade
  rw [e6]
  rcases (show sd = 0 ∨ sd = 1 by omega) with rfl | rfl
  · have d0 : nI 0 = (0 : Int32) := rfl
    rw [if_pos d0]
    unfold q_Market_buyFromPool q_Call_limit
    simp only [if_pos v8, h8, e1, e2, e5, e7, e8, el, Option.bind_some, lg_cmp_gt, lg_cmp_le, if_pos vo, ec, e3]
    simp only [ea]
    by_cases c1 : am < G
    rotate_left
    · rw [if_neg (fun q => c1 ((tl_pos (by omega) (by omega)).mp q))]
      simp [tK, c1]
    have c1' := (tl_pos (by omega) (by omega)).mpr c1
    have c2 : ¬ (lN G - lN am) = 0 := by
      intro q
      rw [q] at c1'
      exact absurd c1' (by decide)
    simp only [if_pos c1', if_pos c2, tl_cost hM hG ha ha1 c1]
    obtain ⟨C, hC⟩ : ∃ C, C = (M * am + (G - am) - 1) / (G - am) := ⟨_, rfl⟩
    have hCb : C ≤ M * am + (G - am) - 1 := by rw [hC]; exact Nat.div_le_self _ _
    have ht : tK M G mo go 0 pr am = if C ≤ pr * am ∧ C ≤ mo then some C else none := by
      unfold tK
      rw [if_pos rfl, ← hC]
      by_cases q : C ≤ pr * am ∧ C ≤ mo
      · rw [if_pos ⟨c1, q⟩, if_pos q]
      · rw [if_neg (fun z => q z.2), if_neg q]
    rw [ht, ← hC]
    have k1 : (lN (pr * am) < lN C) ↔ pr * am < C := pk_lLT (by omega) (by omega)
    have k2 : (lN C ≤ lN mo) ↔ C ≤ mo := pk_lLE (by omega) (by omega)
    simp only [k1, k2]
    by_cases c3 : pr * am < C
    · rw [if_pos c3, if_neg (by omega)]
      rfl
    rw [if_neg c3]
    by_cases c4 : C ≤ mo
    rotate_left
    · rw [if_neg c4, if_neg (by omega)]
      rfl
    rw [if_pos c4, if_pos ⟨by omega, c4⟩]
    unfold q_Market_take q_Market_give
    simp only [if_pos vo, if_pos v8, h8, ec, Option.bind_some, e_pJ1, e8, ea]
    have x1 : (fo_pJ σ 2 i0 o (σ.2 2 i0 o - lN C)).2 3 i0 o = lN go := by simp [e_pJ, e4]
    rw [x1, e3, lN_sub c4, lN_add]
    have x2 : (fo_pJ (fo_pJ σ 2 i0 o (lN (mo - C))) 3 i0 o (lN (go + am))).2 2 i0 8 = lN M := by simp [e_pJ, o8, e1]
    rw [x2, lN_add]
    have x3 : (fo_pJ (fo_pJ (fo_pJ σ 2 i0 o (lN (mo - C))) 3 i0 o (lN (go + am))) 2 i0 8 (lN (M + C))).2 3 i0 8 = lN G := by simp [e_pJ, o8, e2]
    rw [x3, lN_sub (by omega)]
    rfl
  · have d0 : ¬ nI 1 = (0 : Int32) := by decide
    rw [if_neg d0]
    unfold q_Market_sellToPool q_Call_limit
    simp only [if_pos v8, h8, e1, e2, e4, e5, e7, e8, el, Option.bind_some, lg_cmp_ge, lg_cmp_le, if_pos vo, ec]
    simp only [ea, lN_add, lN_mul]
    have c0 : ¬ lN (G + am) ≤ (0 : Int64) := by
      show ¬ lN (G + am) ≤ lN 0
      rw [pk_lLE (by omega) (by omega)]
      omega
    have c0' : ¬ lN (G + am) = (0 : Int64) := by
      show ¬ lN (G + am) = lN 0
      rw [pk_lEQ (by omega) (by omega)]
      omega
    rw [if_neg c0]
    have k1 : (lN am ≤ lN go) ↔ am ≤ go := pk_lLE (by omega) (by omega)
    simp only [k1]
    by_cases c1 : am ≤ go
    rotate_left
    · rw [if_neg c1]
      simp [tK, c1]
    rw [if_pos c1, if_pos c0', pk_lDiv (by omega) (by omega) (by omega)]
    obtain ⟨C, hC⟩ : ∃ C, C = M * am / (G + am) := ⟨_, rfl⟩
    have hCM : C ≤ M := by
      rw [hC]
      exact Nat.le_trans (Nat.div_le_div_left (show am ≤ G + am by omega) (by omega)) (by rw [Nat.mul_div_cancel _ (by omega)]; exact Nat.le_refl M)
    have ht : tK M G mo go 1 pr am = if pr * am ≤ C then some C else none := by
      unfold tK
      rw [if_neg (by omega), ← hC]
      by_cases q : pr * am ≤ C
      · rw [if_pos ⟨c1, q⟩, if_pos q]
      · rw [if_neg (fun z => q z.2), if_neg q]
    rw [ht, ← hC]
    have k2 : (lN (pr * am) ≤ lN C) ↔ pr * am ≤ C := pk_lLE (by omega) (by omega)
    simp only [k2]
    by_cases c2 : pr * am ≤ C
    rotate_left
    · rw [if_neg c2, if_neg c2]
      rfl
    rw [if_pos c2, if_pos c2]
    unfold q_Market_take q_Market_give
    simp only [if_pos vo, if_pos v8, h8, ec, Option.bind_some, e_pJ1, e8, ea]
    have x1 : (fo_pJ σ 2 i0 o (σ.2 2 i0 o + lN C)).2 3 i0 o = lN go := by simp [e_pJ, e4]
    rw [x1, e3, lN_sub c1, lN_add]
    have x2 : (fo_pJ (fo_pJ σ 2 i0 o (lN (mo + C))) 3 i0 o (lN (go - am))).2 2 i0 8 = lN M := by simp [e_pJ, o8, e1]
    rw [x2, lN_sub hCM]
    have x3 : (fo_pJ (fo_pJ (fo_pJ σ 2 i0 o (lN (mo + C))) 3 i0 o (lN (go - am))) 2 i0 8 (lN (M - C))).2 3 i0 8 = lN G := by simp [e_pJ, o8, e2]
    rw [x3, lN_add]
    rfl
