-- knots
def Fre (nc : Nat) (T : Nat → Nat → Bool) (L : Nat → Bool) (a : Nat) : Prop := ∀ b, b < nc → L b = true → T b a = true → T a b = true
def muT (T : Nat → Nat → Bool) (a d : Nat) : Bool := decide (d = a) || (T a d && T d a)
theorem kn_ex {nc : Nat} {T : Nat → Nat → Bool} {L : Nat → Bool} (hT : ∀ a b c, a < nc → b < nc → c < nc → T a b = true → T b c = true → T a c = true) {a : Nat} (ha : a < nc) (hL : L a = true) : ∃ a, a < nc ∧ L a = true ∧ Fre nc T L a := by
  have key : ∀ m a, fo_n (fun b => L b && (T b a && !T a b)) nc ≤ m → a < nc → L a = true → ∃ a, a < nc ∧ L a = true ∧ Fre nc T L a := by
    intro m
    induction m with
    | zero =>
      intro a hm ha hL
      refine ⟨a, ha, hL, fun b hb hLb hba => ?_⟩
      refine Classical.byContradiction (fun q => ?_)
      have h1 : fo_n (fun _ => false) nc < fo_n (fun b => L b && (T b a && !T a b)) nc := fo_n_lt (k := b) (fun i _ hi => by simp at hi) hb (by simp [hLb, hba, q]) (by simp)
      omega
    | succ m ih =>
      intro a hm ha hL
      by_cases hF : Fre nc T L a
      · exact ⟨a, ha, hL, hF⟩
      · have : ∃ b, b < nc ∧ L b = true ∧ T b a = true ∧ ¬ T a b = true := by
          refine Classical.byContradiction (fun q => hF (fun b hb hLb hba => ?_))
          exact Classical.byContradiction (fun q2 => q ⟨b, hb, hLb, hba, q2⟩)
        obtain ⟨b, hb, hLb, hba, hab⟩ := this
        have h1 : fo_n (fun c => L c && (T c b && !T b c)) nc < fo_n (fun b => L b && (T b a && !T a b)) nc := fo_n_lt (k := b) (fun i hi q => by
          simp only [Bool.and_eq_true, Bool.not_eq_true'] at q ⊢
          obtain ⟨q1, q2, q3⟩ := q
          refine ⟨q1, hT i b a hi hb ha q2 hba, ?_⟩
          cases hai : T a i with
          | false => rfl
          | true =>
            have := hT b a i hb ha hi hba hai
            rw [this] at q3
            exact q3) hb (by simp [hLb, hba, hab]) (by simp)
        exact ih b (by omega) hb hLb
  exact key _ a (Nat.le_refl _) ha hL
theorem q_isF {nc a : Nat} {T : Nat → Nat → Bool} {L : Nat → Bool} {w : Int32} {σ : fo_S} (hnc : nc ≤ 16) (ha : a < nc) (hw : Bs nc L w) (hT : ∀ c, c < nc → Bs nc (T c) (σ.1 9 0 c)) : ∃ v : Bool, q_Links_isFree σ (nI a) w (nI nc) = some (b1 v) ∧ (v = true ↔ Fre nc T L a) := by
  unfold q_Links_isFree
  have hb : ∀ n, n < nc → q_Links_isFree_L3 σ (nI a) w (nI nc) (nI n) = if (L n = true ∧ T n a = true ∧ ¬ T a n = true) then some (.inr (.inr 0)) else some (.inl (nI (n + 1))) := by
    intro n hn
    unfold q_Links_isFree_L3
    simp only [if_neg (f_nge hn (show nc < 1000000 by omega)), q_has hw hn hnc, q_ld hnc hn ha (hT n hn), q_ld hnc ha hn (hT a ha), Option.bind_some, b1_0, nI_1]
    cases L n <;> cases T n a <;> cases T a n <;> simp
  have he : q_Links_isFree_L3 σ (nI a) w (nI nc) (nI nc) = some (.inr (.inl (nI nc))) := by
    unfold q_Links_isFree_L3
    simp only [if_pos (f_ge (Nat.le_refl nc) (show nc < 1000000 by omega))]
  rcases fo_seek nc (fun n => L n = true ∧ T n a = true ∧ ¬ T a n = true) (fun _ => (0 : Int32)) (by omega) (fun n hn q => by rw [hb n hn, if_neg q]) (fun n hn q => by rw [hb n hn, if_pos q]) he with ⟨t, g1, g2, -, g4⟩ | ⟨g1, g2⟩
  · rw [g4]
    refine ⟨false, rfl, ⟨fun q => absurd q (by decide), fun q => ?_⟩⟩
    exact absurd (q t g1 g2.1 g2.2.1) g2.2.2
  · rw [g2]
    refine ⟨true, rfl, ⟨fun _ b hb hLb hba => ?_, fun _ => rfl⟩⟩
    exact Classical.byContradiction (fun q => g1 b hb ⟨hLb, hba, q⟩)
theorem q_kn {nc a : Nat} {T : Nat → Nat → Bool} {σ : fo_S} (hnc : nc ≤ 16) (ha : a < nc) (hT : ∀ c, c < nc → Bs nc (T c) (σ.1 9 0 c)) : ∃ w, q_Links_knotOf σ (nI a) (nI nc) = some w ∧ Bs nc (muT T a) w := by
  unfold q_Links_knotOf
  obtain ⟨y, hy, hy1⟩ := fo_lp_for (b := q_Links_knotOf_L7 σ (nI a) (nI nc)) nc (fun n s => s.2 = nI n ∧ ∀ i, bt s.1 i = (decide (i = a) || (decide (i < n) && (T a i && T i a)))) (fun y => Bs nc (muT T a) y.1) (by
    rintro n ⟨w, x⟩ hn ⟨h1, h2⟩
    simp only at h1 h2
    subst h1
    left
    unfold q_Links_knotOf_L7
    simp only [if_neg (f_nge hn (show nc < 1000000 by omega)), q_ld hnc hn ha (hT n hn), q_ld hnc ha hn (hT a ha), Option.bind_some, b1_0, nI_1]
    have stay : (T a n && T n a) = false → ∀ i, bt w i = (decide (i = a) || (decide (i < n + 1) && (T a i && T i a))) := by
      intro q i
      rw [h2 i]
      by_cases hi : i = n
      · subst hi
        rw [q]
        simp
      · have : (i < n + 1) ↔ i < n := by omega
        simp [this]
    cases h3 : T a n with
    | false =>
      simp only [if_true]
      exact ⟨_, rfl, rfl, stay (by rw [h3]; rfl)⟩
    | true =>
      simp only [Bool.true_eq_false, if_false]
      cases h4 : T n a with
      | false =>
        simp only [if_true]
        exact ⟨_, rfl, rfl, stay (by rw [h3, h4]; rfl)⟩
      | true =>
        simp only [Bool.true_eq_false, if_false]
        refine ⟨_, rfl, rfl, fun i => ?_⟩
        show bt (w ||| ((1 : Int32) <<< (nI n &&& 31))) i = _
        rw [bt_or, h2 i, bt_sh (by omega)]
        by_cases hi : i = n
        · subst hi
          simp [h3, h4]
        · have : (i < n + 1) ↔ i < n := by omega
          simp [hi, this]) (by
    rintro ⟨w, x⟩ ⟨h1, h2⟩
    simp only at h1 h2
    subst h1
    unfold q_Links_knotOf_L7
    simp only [if_pos (f_ge (Nat.le_refl nc) (show nc < 1000000 by omega))]
    refine ⟨_, rfl, fun i => ?_⟩
    rw [h2 i]
    unfold muT
    by_cases hi : i = a
    · subst hi
      simp [ha]
    · simp [hi]) (s0 := ((1 : Int32) <<< (nI a &&& 31), (0 : Int32))) ⟨rfl, fun i => by
      rw [bt_sh (by omega)]
      simp⟩ (by omega)
  rw [hy]
  exact ⟨_, rfl, hy1⟩
theorem q_fk {nc a : Nat} {T : Nat → Nat → Bool} {L : Nat → Bool} {w : Int32} {σ : fo_S} (hnc : nc ≤ 16) (ha : a < nc) (hw : Bs nc L w) (hT : ∀ c, c < nc → Bs nc (T c) (σ.1 9 0 c)) (hL : L a = true) (hF : Fre nc T L a) (hlt : ∀ b, b < a → ¬ (L b = true ∧ Fre nc T L b)) : ∃ k, q_Links_firstKnot σ w (nI nc) = some k ∧ Bs nc (muT T a) k := by
  unfold q_Links_firstKnot
  obtain ⟨kw, k1, k2⟩ := q_kn hnc ha hT
  refine ⟨kw, ?_, k2⟩
  have : fo_lp (q_Links_firstKnot_L2 σ w (nI nc)) fo_FU (0 : Int32) = some (.inr kw) := by
    rw [← nI_0]
    refine fo_lp_run (fun n => nI n) a _ ?_ ?_ fo_FU (fo_FU_gt (by omega))
    · intro n hn
      unfold q_Links_firstKnot_L2
      obtain ⟨v, v1, v2⟩ := q_isF (a := n) hnc (by omega) hw hT
      simp only [if_neg (f_nge (show n < nc by omega) (show nc < 1000000 by omega)), q_has hw (show n < nc by omega) hnc, v1, Option.bind_some, b1_0, nI_1]
      cases hLn : L n with
      | false => simp only [if_true]
      | true =>
        simp only [Bool.true_eq_false, if_false]
        have : v = false := by
          cases hv : v with
          | false => rfl
          | true => exact absurd ⟨hLn, v2.mp hv⟩ (hlt n hn)
        rw [if_pos this]
    · unfold q_Links_firstKnot_L2
      obtain ⟨v, v1, v2⟩ := q_isF (a := a) hnc (by omega) hw hT
      have hv := v2.mpr hF
      subst hv
      simp only [if_neg (f_nge ha (show nc < 1000000 by omega)), q_has hw ha hnc, v1, Option.bind_some, b1_0, hL, Bool.true_eq_false, if_false, k1]
  rw [this]
  rfl
