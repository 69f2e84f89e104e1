def Rl (σ τ : fo_S) : Prop := True
theorem s_init : Rl (fun _ _ _ => 0, fun _ _ _ => 0) fr_s0 := sorry
theorem s_clear {σ τ : fo_S} (h : Rl σ τ)  : ∃ (r : Int32) (σ1 τ1 : fo_S), q_FairOrder_clear σ  = some (r, σ1) ∧ r_clear τ  = some (r, τ1) ∧ Rl σ1 τ1 := sorry
theorem s_account {σ τ : fo_S} (h : Rl σ τ) {a1 : Int64} {a2 : Int64} : ∃ (r : Int32) (σ1 τ1 : fo_S), q_FairOrder_account σ a1 a2 = some (r, σ1) ∧ r_account τ a1 a2 = some (r, τ1) ∧ Rl σ1 τ1 := sorry
theorem s_pool {σ τ : fo_S} (h : Rl σ τ) {a1 : Int64} {a2 : Int64} : ∃ (r : Int32) (σ1 τ1 : fo_S), q_FairOrder_pool σ a1 a2 = some (r, σ1) ∧ r_pool τ a1 a2 = some (r, τ1) ∧ Rl σ1 τ1 := sorry
theorem s_seal {σ τ : fo_S} (h : Rl σ τ) {a1 : Int32} {a2 : Int32} {a3 : Int32} {a4 : Int32} : ∃ r : Int64, q_FairOrder_seal σ a1 a2 a3 a4 = some r ∧ r_seal τ a1 a2 a3 a4 = some r := sorry
theorem s_commit {σ τ : fo_S} (h : Rl σ τ) {a1 : Int32} {a2 : Int64} {a3 : Int64} : ∃ (r : Int32) (σ1 τ1 : fo_S), q_FairOrder_commit σ a1 a2 a3 = some (r, σ1) ∧ r_commit τ a1 a2 a3 = some (r, τ1) ∧ Rl σ1 τ1 := sorry
theorem s_hear {σ τ : fo_S} (h : Rl σ τ) {a1 : Int32} {a2 : Int32} {a3 : Int32} : ∃ (r : Int32) (σ1 τ1 : fo_S), q_FairOrder_hear σ a1 a2 a3 = some (r, σ1) ∧ r_hear τ a1 a2 a3 = some (r, τ1) ∧ Rl σ1 τ1 := sorry
theorem s_open {σ τ : fo_S} (h : Rl σ τ) {a1 : Int32} {a2 : Int32} {a3 : Int32} {a4 : Int32} {a5 : Int32} : ∃ (r : Int32) (σ1 τ1 : fo_S), q_FairOrder_open σ a1 a2 a3 a4 a5 = some (r, σ1) ∧ r_open τ a1 a2 a3 a4 a5 = some (r, τ1) ∧ Rl σ1 τ1 := sorry
theorem s_next {σ τ : fo_S} (h : Rl σ τ)  : ∃ (r : Int32) (σ1 τ1 : fo_S), q_FairOrder_next σ  = some (r, σ1) ∧ r_next τ  = some (r, τ1) ∧ Rl σ1 τ1 := sorry
theorem s_order {σ τ : fo_S} (h : Rl σ τ) {a1 : Int32} {a2 : Int64} : ∃ (r : Int32) (σ1 τ1 : fo_S), q_FairOrder_order σ a1 a2 = some (r, σ1) ∧ r_order τ a1 a2 = some (r, τ1) ∧ Rl σ1 τ1 := sorry
theorem s_at {σ τ : fo_S} (h : Rl σ τ) {a1 : Int32} : ∃ r : Int32, q_FairOrder_at σ a1 = some r ∧ r_at τ a1 = some r := sorry
theorem s_linked {σ τ : fo_S} (h : Rl σ τ) {a1 : Int32} {a2 : Int32} : ∃ (r : Int32) (σ1 τ1 : fo_S), q_FairOrder_linked σ a1 a2 = some (r, σ1) ∧ r_linked τ a1 a2 = some (r, τ1) ∧ Rl σ1 τ1 := sorry
theorem s_heard {σ τ : fo_S} (h : Rl σ τ) {a1 : Int32} : ∃ r : Int32, q_FairOrder_heard σ a1 = some r ∧ r_heard τ a1 = some r := sorry
theorem s_play {σ τ : fo_S} (h : Rl σ τ)  : ∃ (r : Int32) (σ1 τ1 : fo_S), q_FairOrder_play σ  = some (r, σ1) ∧ r_play τ  = some (r, τ1) ∧ Rl σ1 τ1 := sorry
theorem s_batch {σ τ : fo_S} (h : Rl σ τ)  : ∃ (r : Int32) (σ1 τ1 : fo_S), q_FairOrder_batch σ  = some (r, σ1) ∧ r_batch τ  = some (r, τ1) ∧ Rl σ1 τ1 := sorry
theorem s_done {σ τ : fo_S} (h : Rl σ τ) {a1 : Int32} : ∃ r : Int32, q_FairOrder_done σ a1 = some r ∧ r_done τ a1 = some r := sorry
theorem s_passed {σ τ : fo_S} (h : Rl σ τ) {a1 : Int32} : ∃ r : Int64, q_FairOrder_passed σ a1 = some r ∧ r_passed τ a1 = some r := sorry
theorem s_gain {σ τ : fo_S} (h : Rl σ τ) {a1 : Int32} {a2 : Int32} {a3 : Int32} : ∃ (r : Int64) (σ1 τ1 : fo_S), q_FairOrder_gain σ a1 a2 a3 = some (r, σ1) ∧ r_gain τ a1 a2 a3 = some (r, τ1) ∧ Rl σ1 τ1 := sorry
theorem s_has {σ τ : fo_S} (h : Rl σ τ) {a1 : Int32} {a2 : Int32} : ∃ r : Int64, q_FairOrder_has σ a1 a2 = some r ∧ r_has τ a1 a2 = some r := sorry
theorem s_of {σ τ : fo_S} (h : Rl σ τ) {a1 : Int32} {a2 : Int32} : ∃ r : Int32, q_FairOrder_of σ a1 a2 = some r ∧ r_of τ a1 a2 = some r := sorry
theorem s_count {σ τ : fo_S} (h : Rl σ τ) {a1 : Int32} : ∃ r : Int32, q_FairOrder_count σ a1 = some r ∧ r_count τ a1 = some r := sorry
