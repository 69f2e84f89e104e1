theorem fl_cmp (x : Int64) : lg_cmp x x = 0 := by simp [lg_cmp]
set_option maxHeartbeats 40000000 in
set_option maxRecDepth 100000 in
/-- THE LAW'S LOOP -/
theorem fl_loop {p : Program} {l : Launch} {e : Env} {s : State} {m : MethodId} {below : List Frame} {meth : Method} {c : Code} {D : va_G} {ca : Nat → ClassId} {b L : Nat} {xs : Nat → Int32} {adF adM : Nat → Nat} (hL : L ≤ 3072) (C0 : lw_At p s m meth c b L xs) (hKF : va_K D vwCl (fo_tys ca) s) (hKM : va_K D vwCl (fr_tys ca) s) (hAF : ∀ i, i < 51 → s.heap.size ≤ adF i) (hAM : ∀ i, i < 25 → s.heap.size ≤ adM i) (hJ : ∀ i j, i < 51 → j < 25 → adF i ≠ adM j) (hDF : ∀ e, va_D (fun q : Nat => s.heap.size ≤ q) (fo_vx 51 adF e)) (hDM : ∀ e, va_D (fun q : Nat => s.heap.size ≤ q) (fo_vx 25 adM e)) :
    ∀ (n i : Nat), L + 1 ≤ i + n → i ≤ L + 6 → ∀ (σ τ : fo_S), Rl i σ τ → ∀ (H : Heap) (locs : List Loc) (ls : Array Slot), va_P D vwCl (fo_vx 51 adF (fo_ce ca adF σ)) H → va_P D vwCl (fo_vx 25 adM (fr_ce ca adM τ)) H → va_S (fun q : Nat => s.heap.size ≤ q) s.heap H locs → lv_has ls 4 [(0, .ref b), (1, .ref (adF (fo_lay 0 0))), (2, .ref (adM (fr_lay 0 0))), (3, .int (nI i))] → W p l e room_1 s m #[Value.ref b] below meth c H locs 600000 7302250 (lw_Z below #[Value.ref b] s) (F0 m 18 ls []) := by
  obtain ⟨hx, hb, hr, hml, hown, hts, hX, hbl, hlocks, hgv⟩ := C0
  have hT : ∀ w ∈ fo_T, w.before #[Value.ref b] s = true := fun w h => hts w (List.mem_filter.mp h).1
  have hown : s.vm.findClass RX9 = some m.cls := hown
  have hA : ∀ q : Nat, s.heap.size ≤ q → (fun q : Nat => s.heap.size ≤ q) q := fun _ h => h
  have hbA : ¬ (fun q : Nat => s.heap.size ≤ q) b := Nat.not_le.mpr hbl
  intro n
  induction n with
  | zero =>
    intro i h1 h2 σ τ hRl H locs ls hPF hPM hS hl
    refine lv_iload_n hx hb dX9_law_18 rfl (lv_at hl 3 rfl) ?_
    refine lv_aload_n hx hb dX9_law_19 rfl (lv_at hl 0 rfl) ?_
    refine va_slen hx hb hX hbl hbA hS dX9_law_20 ?_
    refine lv_bipush (v := 6) hx hb dX9_law_21 (by decide) ?_
    refine lv_isub hx hb dX9_law_23 ?_
    refine lv_icmp_gt (tgt := 958) hx hb dX9_law_24 (by decide) (fun c0 => ?_) (fun c0 => absurd (fl_gt hL (by omega) (by omega)) c0)
    refine lv_iconst (v := 1) hx hb dX9_law_958 (by decide) ?_
    refine va_forget (fun q hq => hS.2.2 q hq) ?_
    exact lw_ret hx hb hr hlocks dX9_law_959
  | succ n ih =>
    intro i h1 h2 σ τ hRl H locs ls hPF hPM hS hl
    refine lv_iload_n hx hb dX9_law_18 rfl (lv_at hl 3 rfl) ?_
    refine lv_aload_n hx hb dX9_law_19 rfl (lv_at hl 0 rfl) ?_
    refine va_slen hx hb hX hbl hbA hS dX9_law_20 ?_
    refine lv_bipush (v := 6) hx hb dX9_law_21 (by decide) ?_
    refine lv_isub hx hb dX9_law_23 ?_
    by_cases hiL : i + 6 ≤ L
    rotate_left
    · refine lv_icmp_gt (tgt := 958) hx hb dX9_law_24 (by decide) (fun c0 => ?_) (fun c0 => absurd (fl_gt hL (by omega) (by omega)) c0)
      refine lv_iconst (v := 1) hx hb dX9_law_958 (by decide) ?_
      refine va_forget (fun q hq => hS.2.2 q hq) ?_
      exact lw_ret hx hb hr hlocks dX9_law_959
    refine lv_icmp_gt (tgt := 958) hx hb dX9_law_24 (by decide) (fun c0 => absurd c0 (fl_ngt hL hiL)) (fun _ => ?_)
    refine lv_aload_n hx hb dX9_law_27 rfl (lv_at hl 0 rfl) ?_
    refine lv_iload_n hx hb dX9_law_28 rfl (lv_at hl 3 rfl) ?_
    refine va_sld hx hb hX hbl hbA hS (fl_in0 hiL hL) dX9_law_29 ?_
    refine lv_bipush (v := 31) hx hb dX9_law_30 (by decide) ?_
    refine lv_iand hx hb dX9_law_32 ?_
    refine lv_topi (fun z ez => ?_)
    have fin : ∀ (σ τ : fo_S), Rl (i + 1) σ τ → ∀ (H : Heap) (locs : List Loc) (ls : Array Slot), va_P D vwCl (fo_vx 51 adF (fo_ce ca adF σ)) H → va_P D vwCl (fo_vx 25 adM (fr_ce ca adM τ)) H → va_S (fun q : Nat => s.heap.size ≤ q) s.heap H locs → lv_has ls 4 [(0, .ref b), (1, .ref (adF (fo_lay 0 0))), (2, .ref (adM (fr_lay 0 0))), (3, .int (nI i))] → W p l e room_1 s m #[Value.ref b] below meth c H locs 600000 7302250 (lw_Z below #[Value.ref b] s) (F0 m 952 ls []) := by
      intro σ τ hRl H locs ls hPF hPM hS hl
      refine lv_iinc (v := nI (i + 6)) (lv' := [(3, .int (nI (i + 6))), (0, .ref b), (1, .ref (adF (fo_lay 0 0))), (2, .ref (adM (fr_lay 0 0)))]) hx hb dX9_law_952 hl (k := 3) rfl (fl_6 i) (by decide) rfl (fun ls hl => ?_)
      refine lv_goto (tgt := 18) hx hb dX9_law_955 (by decide) ?_
      exact ih (i + 6) (by omega) (by omega) σ τ (Rl_mono (by omega) hRl) _ _ ls hPF hPM hS (lv_sub hl [1, 2, 3, 0] rfl)
    by_cases c0 : z = (0 : Int32)
    · refine lv_tableIn (tgt := 128) hx hb dX9_law_33 (by rw [c0]; decide) (by rw [c0]; decide) (by rw [c0]; rfl) (by decide) ?_
      refine lv_aload_n hx hb dX9_law_128 rfl (lv_at hl 1 rfl) ?_
      obtain ⟨r1, σ1, τ1, e1, e2, hRl⟩ := s_clear (show i ≤ 3072 by omega) hRl 
      refine fl_calli (va_runV (H := _) (As := []) (rest := []) ⟨hx, hb, hml, hown, hT⟩ (c_q_FairOrder_clear l D ca adF _ e1) (fl_c_13 hT ⟨Nat.le_of_ble_eq_true rfl, Nat.le_of_ble_eq_true rfl⟩) ⟨fo_Pre_blind, fo_rc0 hKF hPF (by decide), fo_Pre_at hPF hKF (hDF _)⟩ rfl rfl hl.1 rfl (lv_room (Nat.le_of_ble_eq_true rfl)) dX9_law_129 ⟨Nat.le_refl _, Nat.le_refl _⟩) hS hA hAF hJ hPM (fun H locs hPF hPM hS => ?_)
      refine lv_aload_n hx hb dX9_law_132 rfl (lv_at hl 2 rfl) ?_
      refine fl_calli (va_runV (H := _) (As := []) (rest := [.int r1]) ⟨hx, hb, hml, hown, hT⟩ (c_r_clear l D ca adM _ e2) (fl_c_17 hT ⟨Nat.le_of_ble_eq_true rfl, Nat.le_of_ble_eq_true rfl⟩) ⟨fo_Pre_blind, fr_rc0 hKM hPM (by decide), fo_Pre_at hPM hKM (hDM _)⟩ rfl rfl hl.1 rfl (lv_room (Nat.le_of_ble_eq_true rfl)) dX9_law_133 ⟨Nat.le_refl _, Nat.le_refl _⟩) hS hA hAM (fun i j hi hj h => hJ j i hj hi h.symm) hPF (fun H locs hPM hPF hS => ?_)
      refine lv_icmp_eq (tgt := 952) hx hb dX9_law_136 (by decide) (fun _ => ?_) (fun c1 => absurd rfl c1)
      exact fin σ1 τ1 hRl _ _ ls hPF hPM hS hl
    by_cases c1 : z = (1 : Int32)
    · refine lv_tableIn (tgt := 141) hx hb dX9_law_33 (by rw [c1]; decide) (by rw [c1]; decide) (by rw [c1]; rfl) (by decide) ?_
      refine lv_aload_n hx hb dX9_law_141 rfl (lv_at hl 1 rfl) ?_
      refine lv_aload_n hx hb dX9_law_142 rfl (lv_at hl 0 rfl) ?_
      refine lv_iload_n hx hb dX9_law_143 rfl (lv_at hl 3 rfl) ?_
      refine lv_iconst (v := 1) hx hb dX9_law_144 (by decide) ?_
      refine lv_iadd hx hb dX9_law_145 ?_
      refine va_sld hx hb hX hbl hbA hS (fl_in (k := 1) hiL hL (by decide)) dX9_law_146 ?_
      refine lv_i2l hx hb dX9_law_147 rfl ?_
      refine lv_bipush (v := 32) hx hb dX9_law_148 (by decide) ?_
      refine lv_lshl hx hb dX9_law_150 rfl ?_
      refine lv_aload_n hx hb dX9_law_151 rfl (lv_at hl 0 rfl) ?_
      refine lv_iload_n hx hb dX9_law_152 rfl (lv_at hl 3 rfl) ?_
      refine lv_iconst (v := 2) hx hb dX9_law_153 (by decide) ?_
      refine lv_iadd hx hb dX9_law_154 ?_
      refine va_sld hx hb hX hbl hbA hS (fl_in (k := 2) hiL hL (by decide)) dX9_law_155 ?_
      refine lv_i2l hx hb dX9_law_156 rfl ?_
      refine lv_ldc2 (v := 4294967295) hx hb hown (hT _ (fo_tb 801 (by decide +kernel) rfl)) dX9_law_157 ?_
      refine lv_land hx hb dX9_law_160 ?_
      refine lv_lor hx hb dX9_law_161 ?_
      refine lv_aload_n hx hb dX9_law_162 rfl (lv_at hl 0 rfl) ?_
      refine lv_iload_n hx hb dX9_law_163 rfl (lv_at hl 3 rfl) ?_
      refine lv_iconst (v := 3) hx hb dX9_law_164 (by decide) ?_
      refine lv_iadd hx hb dX9_law_165 ?_
      refine va_sld hx hb hX hbl hbA hS (fl_in (k := 3) hiL hL (by decide)) dX9_law_166 ?_
      refine lv_i2l hx hb dX9_law_167 rfl ?_
      refine lv_bipush (v := 32) hx hb dX9_law_168 (by decide) ?_
      refine lv_lshl hx hb dX9_law_170 rfl ?_
      refine lv_aload_n hx hb dX9_law_171 rfl (lv_at hl 0 rfl) ?_
      refine lv_iload_n hx hb dX9_law_172 rfl (lv_at hl 3 rfl) ?_
      refine lv_iconst (v := 4) hx hb dX9_law_173 (by decide) ?_
      refine lv_iadd hx hb dX9_law_174 ?_
      refine va_sld hx hb hX hbl hbA hS (fl_in (k := 4) hiL hL (by decide)) dX9_law_175 ?_
      refine lv_i2l hx hb dX9_law_176 rfl ?_
      refine lv_ldc2 (v := 4294967295) hx hb hown (hT _ (fo_tb 801 (by decide +kernel) rfl)) dX9_law_177 ?_
      refine lv_land hx hb dX9_law_180 ?_
      refine lv_lor hx hb dX9_law_181 ?_
      obtain ⟨r1, σ1, τ1, e1, e2, hRl⟩ := s_account (show i ≤ 3072 by omega) hRl (a1 := (((xs (nI i + (1 : Int32)).toNatClampNeg).toInt64) <<< ((32 : Int32).toInt64 &&& 63)) ||| (((xs (nI i + (2 : Int32)).toNatClampNeg).toInt64) &&& (4294967295 : Int64))) (a2 := (((xs (nI i + (3 : Int32)).toNatClampNeg).toInt64) <<< ((32 : Int32).toInt64 &&& 63)) ||| (((xs (nI i + (4 : Int32)).toNatClampNeg).toInt64) &&& (4294967295 : Int64)))
      refine fl_calli (va_runV (H := _) (As := [.long ((((xs (nI i + (1 : Int32)).toNatClampNeg).toInt64) <<< ((32 : Int32).toInt64 &&& 63)) ||| (((xs (nI i + (2 : Int32)).toNatClampNeg).toInt64) &&& (4294967295 : Int64))), .long ((((xs (nI i + (3 : Int32)).toNatClampNeg).toInt64) <<< ((32 : Int32).toInt64 &&& 63)) ||| (((xs (nI i + (4 : Int32)).toNatClampNeg).toInt64) &&& (4294967295 : Int64)))]) (rest := []) ⟨hx, hb, hml, hown, hT⟩ (c_q_FairOrder_account l D ca adF _ e1) (fl_c_20 hT ⟨Nat.le_of_ble_eq_true rfl, Nat.le_of_ble_eq_true rfl⟩) ⟨fo_Pre_blind, fo_rc0 hKF hPF (by decide), fo_Pre_at hPF hKF (hDF _)⟩ rfl rfl hl.1 rfl (lv_room (Nat.le_of_ble_eq_true rfl)) dX9_law_182 ⟨Nat.le_refl _, Nat.le_refl _⟩) hS hA hAF hJ hPM (fun H locs hPF hPM hS => ?_)
      refine lv_aload_n hx hb dX9_law_185 rfl (lv_at hl 2 rfl) ?_
      refine lv_aload_n hx hb dX9_law_186 rfl (lv_at hl 0 rfl) ?_
      refine lv_iload_n hx hb dX9_law_187 rfl (lv_at hl 3 rfl) ?_
      refine lv_iconst (v := 1) hx hb dX9_law_188 (by decide) ?_
      refine lv_iadd hx hb dX9_law_189 ?_
      refine va_sld hx hb hX hbl hbA hS (fl_in (k := 1) hiL hL (by decide)) dX9_law_190 ?_
      refine lv_i2l hx hb dX9_law_191 rfl ?_
      refine lv_bipush (v := 32) hx hb dX9_law_192 (by decide) ?_
      refine lv_lshl hx hb dX9_law_194 rfl ?_
      refine lv_aload_n hx hb dX9_law_195 rfl (lv_at hl 0 rfl) ?_
      refine lv_iload_n hx hb dX9_law_196 rfl (lv_at hl 3 rfl) ?_
      refine lv_iconst (v := 2) hx hb dX9_law_197 (by decide) ?_
      refine lv_iadd hx hb dX9_law_198 ?_
      refine va_sld hx hb hX hbl hbA hS (fl_in (k := 2) hiL hL (by decide)) dX9_law_199 ?_
      refine lv_i2l hx hb dX9_law_200 rfl ?_
      refine lv_ldc2 (v := 4294967295) hx hb hown (hT _ (fo_tb 801 (by decide +kernel) rfl)) dX9_law_201 ?_
      refine lv_land hx hb dX9_law_204 ?_
      refine lv_lor hx hb dX9_law_205 ?_
      refine lv_aload_n hx hb dX9_law_206 rfl (lv_at hl 0 rfl) ?_
      refine lv_iload_n hx hb dX9_law_207 rfl (lv_at hl 3 rfl) ?_
      refine lv_iconst (v := 3) hx hb dX9_law_208 (by decide) ?_
      refine lv_iadd hx hb dX9_law_209 ?_
      refine va_sld hx hb hX hbl hbA hS (fl_in (k := 3) hiL hL (by decide)) dX9_law_210 ?_
      refine lv_i2l hx hb dX9_law_211 rfl ?_
      refine lv_bipush (v := 32) hx hb dX9_law_212 (by decide) ?_
      refine lv_lshl hx hb dX9_law_214 rfl ?_
      refine lv_aload_n hx hb dX9_law_215 rfl (lv_at hl 0 rfl) ?_
      refine lv_iload_n hx hb dX9_law_216 rfl (lv_at hl 3 rfl) ?_
      refine lv_iconst (v := 4) hx hb dX9_law_217 (by decide) ?_
      refine lv_iadd hx hb dX9_law_218 ?_
      refine va_sld hx hb hX hbl hbA hS (fl_in (k := 4) hiL hL (by decide)) dX9_law_219 ?_
      refine lv_i2l hx hb dX9_law_220 rfl ?_
      refine lv_ldc2 (v := 4294967295) hx hb hown (hT _ (fo_tb 801 (by decide +kernel) rfl)) dX9_law_221 ?_
      refine lv_land hx hb dX9_law_224 ?_
      refine lv_lor hx hb dX9_law_225 ?_
      refine fl_calli (va_runV (H := _) (As := [.long ((((xs (nI i + (1 : Int32)).toNatClampNeg).toInt64) <<< ((32 : Int32).toInt64 &&& 63)) ||| (((xs (nI i + (2 : Int32)).toNatClampNeg).toInt64) &&& (4294967295 : Int64))), .long ((((xs (nI i + (3 : Int32)).toNatClampNeg).toInt64) <<< ((32 : Int32).toInt64 &&& 63)) ||| (((xs (nI i + (4 : Int32)).toNatClampNeg).toInt64) &&& (4294967295 : Int64)))]) (rest := [.int r1]) ⟨hx, hb, hml, hown, hT⟩ (c_r_account l D ca adM _ e2) (fl_c_24 hT ⟨Nat.le_of_ble_eq_true rfl, Nat.le_of_ble_eq_true rfl⟩) ⟨fo_Pre_blind, fr_rc0 hKM hPM (by decide), fo_Pre_at hPM hKM (hDM _)⟩ rfl rfl hl.1 rfl (lv_room (Nat.le_of_ble_eq_true rfl)) dX9_law_226 ⟨Nat.le_refl _, Nat.le_refl _⟩) hS hA hAM (fun i j hi hj h => hJ j i hj hi h.symm) hPF (fun H locs hPM hPF hS => ?_)
      refine lv_icmp_eq (tgt := 952) hx hb dX9_law_229 (by decide) (fun _ => ?_) (fun c1 => absurd rfl c1)
      exact fin σ1 τ1 hRl _ _ ls hPF hPM hS hl
    by_cases c2 : z = (2 : Int32)
    · refine lv_tableIn (tgt := 234) hx hb dX9_law_33 (by rw [c2]; decide) (by rw [c2]; decide) (by rw [c2]; rfl) (by decide) ?_
      refine lv_aload_n hx hb dX9_law_234 rfl (lv_at hl 1 rfl) ?_
      refine lv_aload_n hx hb dX9_law_235 rfl (lv_at hl 0 rfl) ?_
      refine lv_iload_n hx hb dX9_law_236 rfl (lv_at hl 3 rfl) ?_
      refine lv_iconst (v := 1) hx hb dX9_law_237 (by decide) ?_
      refine lv_iadd hx hb dX9_law_238 ?_
      refine va_sld hx hb hX hbl hbA hS (fl_in (k := 1) hiL hL (by decide)) dX9_law_239 ?_
      refine lv_i2l hx hb dX9_law_240 rfl ?_
      refine lv_bipush (v := 32) hx hb dX9_law_241 (by decide) ?_
      refine lv_lshl hx hb dX9_law_243 rfl ?_
      refine lv_aload_n hx hb dX9_law_244 rfl (lv_at hl 0 rfl) ?_
      refine lv_iload_n hx hb dX9_law_245 rfl (lv_at hl 3 rfl) ?_
      refine lv_iconst (v := 2) hx hb dX9_law_246 (by decide) ?_
      refine lv_iadd hx hb dX9_law_247 ?_
      refine va_sld hx hb hX hbl hbA hS (fl_in (k := 2) hiL hL (by decide)) dX9_law_248 ?_
      refine lv_i2l hx hb dX9_law_249 rfl ?_
      refine lv_ldc2 (v := 4294967295) hx hb hown (hT _ (fo_tb 801 (by decide +kernel) rfl)) dX9_law_250 ?_
      refine lv_land hx hb dX9_law_253 ?_
      refine lv_lor hx hb dX9_law_254 ?_
      refine lv_aload_n hx hb dX9_law_255 rfl (lv_at hl 0 rfl) ?_
      refine lv_iload_n hx hb dX9_law_256 rfl (lv_at hl 3 rfl) ?_
      refine lv_iconst (v := 3) hx hb dX9_law_257 (by decide) ?_
      refine lv_iadd hx hb dX9_law_258 ?_
      refine va_sld hx hb hX hbl hbA hS (fl_in (k := 3) hiL hL (by decide)) dX9_law_259 ?_
      refine lv_i2l hx hb dX9_law_260 rfl ?_
      refine lv_bipush (v := 32) hx hb dX9_law_261 (by decide) ?_
      refine lv_lshl hx hb dX9_law_263 rfl ?_
      refine lv_aload_n hx hb dX9_law_264 rfl (lv_at hl 0 rfl) ?_
      refine lv_iload_n hx hb dX9_law_265 rfl (lv_at hl 3 rfl) ?_
      refine lv_iconst (v := 4) hx hb dX9_law_266 (by decide) ?_
      refine lv_iadd hx hb dX9_law_267 ?_
      refine va_sld hx hb hX hbl hbA hS (fl_in (k := 4) hiL hL (by decide)) dX9_law_268 ?_
      refine lv_i2l hx hb dX9_law_269 rfl ?_
      refine lv_ldc2 (v := 4294967295) hx hb hown (hT _ (fo_tb 801 (by decide +kernel) rfl)) dX9_law_270 ?_
      refine lv_land hx hb dX9_law_273 ?_
      refine lv_lor hx hb dX9_law_274 ?_
      obtain ⟨r1, σ1, τ1, e1, e2, hRl⟩ := s_pool (show i ≤ 3072 by omega) hRl (a1 := (((xs (nI i + (1 : Int32)).toNatClampNeg).toInt64) <<< ((32 : Int32).toInt64 &&& 63)) ||| (((xs (nI i + (2 : Int32)).toNatClampNeg).toInt64) &&& (4294967295 : Int64))) (a2 := (((xs (nI i + (3 : Int32)).toNatClampNeg).toInt64) <<< ((32 : Int32).toInt64 &&& 63)) ||| (((xs (nI i + (4 : Int32)).toNatClampNeg).toInt64) &&& (4294967295 : Int64)))
      refine fl_calli (va_runV (H := _) (As := [.long ((((xs (nI i + (1 : Int32)).toNatClampNeg).toInt64) <<< ((32 : Int32).toInt64 &&& 63)) ||| (((xs (nI i + (2 : Int32)).toNatClampNeg).toInt64) &&& (4294967295 : Int64))), .long ((((xs (nI i + (3 : Int32)).toNatClampNeg).toInt64) <<< ((32 : Int32).toInt64 &&& 63)) ||| (((xs (nI i + (4 : Int32)).toNatClampNeg).toInt64) &&& (4294967295 : Int64)))]) (rest := []) ⟨hx, hb, hml, hown, hT⟩ (c_q_FairOrder_pool l D ca adF _ e1) (fl_c_25 hT ⟨Nat.le_of_ble_eq_true rfl, Nat.le_of_ble_eq_true rfl⟩) ⟨fo_Pre_blind, fo_rc0 hKF hPF (by decide), fo_Pre_at hPF hKF (hDF _)⟩ rfl rfl hl.1 rfl (lv_room (Nat.le_of_ble_eq_true rfl)) dX9_law_275 ⟨Nat.le_refl _, Nat.le_refl _⟩) hS hA hAF hJ hPM (fun H locs hPF hPM hS => ?_)
      refine lv_aload_n hx hb dX9_law_278 rfl (lv_at hl 2 rfl) ?_
      refine lv_aload_n hx hb dX9_law_279 rfl (lv_at hl 0 rfl) ?_
      refine lv_iload_n hx hb dX9_law_280 rfl (lv_at hl 3 rfl) ?_
      refine lv_iconst (v := 1) hx hb dX9_law_281 (by decide) ?_
      refine lv_iadd hx hb dX9_law_282 ?_
      refine va_sld hx hb hX hbl hbA hS (fl_in (k := 1) hiL hL (by decide)) dX9_law_283 ?_
      refine lv_i2l hx hb dX9_law_284 rfl ?_
      refine lv_bipush (v := 32) hx hb dX9_law_285 (by decide) ?_
      refine lv_lshl hx hb dX9_law_287 rfl ?_
      refine lv_aload_n hx hb dX9_law_288 rfl (lv_at hl 0 rfl) ?_
      refine lv_iload_n hx hb dX9_law_289 rfl (lv_at hl 3 rfl) ?_
      refine lv_iconst (v := 2) hx hb dX9_law_290 (by decide) ?_
      refine lv_iadd hx hb dX9_law_291 ?_
      refine va_sld hx hb hX hbl hbA hS (fl_in (k := 2) hiL hL (by decide)) dX9_law_292 ?_
      refine lv_i2l hx hb dX9_law_293 rfl ?_
      refine lv_ldc2 (v := 4294967295) hx hb hown (hT _ (fo_tb 801 (by decide +kernel) rfl)) dX9_law_294 ?_
      refine lv_land hx hb dX9_law_297 ?_
      refine lv_lor hx hb dX9_law_298 ?_
      refine lv_aload_n hx hb dX9_law_299 rfl (lv_at hl 0 rfl) ?_
      refine lv_iload_n hx hb dX9_law_300 rfl (lv_at hl 3 rfl) ?_
      refine lv_iconst (v := 3) hx hb dX9_law_301 (by decide) ?_
      refine lv_iadd hx hb dX9_law_302 ?_
      refine va_sld hx hb hX hbl hbA hS (fl_in (k := 3) hiL hL (by decide)) dX9_law_303 ?_
      refine lv_i2l hx hb dX9_law_304 rfl ?_
      refine lv_bipush (v := 32) hx hb dX9_law_305 (by decide) ?_
      refine lv_lshl hx hb dX9_law_307 rfl ?_
      refine lv_aload_n hx hb dX9_law_308 rfl (lv_at hl 0 rfl) ?_
      refine lv_iload_n hx hb dX9_law_309 rfl (lv_at hl 3 rfl) ?_
      refine lv_iconst (v := 4) hx hb dX9_law_310 (by decide) ?_
      refine lv_iadd hx hb dX9_law_311 ?_
      refine va_sld hx hb hX hbl hbA hS (fl_in (k := 4) hiL hL (by decide)) dX9_law_312 ?_
      refine lv_i2l hx hb dX9_law_313 rfl ?_
      refine lv_ldc2 (v := 4294967295) hx hb hown (hT _ (fo_tb 801 (by decide +kernel) rfl)) dX9_law_314 ?_
      refine lv_land hx hb dX9_law_317 ?_
      refine lv_lor hx hb dX9_law_318 ?_
      refine fl_calli (va_runV (H := _) (As := [.long ((((xs (nI i + (1 : Int32)).toNatClampNeg).toInt64) <<< ((32 : Int32).toInt64 &&& 63)) ||| (((xs (nI i + (2 : Int32)).toNatClampNeg).toInt64) &&& (4294967295 : Int64))), .long ((((xs (nI i + (3 : Int32)).toNatClampNeg).toInt64) <<< ((32 : Int32).toInt64 &&& 63)) ||| (((xs (nI i + (4 : Int32)).toNatClampNeg).toInt64) &&& (4294967295 : Int64)))]) (rest := [.int r1]) ⟨hx, hb, hml, hown, hT⟩ (c_r_pool l D ca adM _ e2) (fl_c_28 hT ⟨Nat.le_of_ble_eq_true rfl, Nat.le_of_ble_eq_true rfl⟩) ⟨fo_Pre_blind, fr_rc0 hKM hPM (by decide), fo_Pre_at hPM hKM (hDM _)⟩ rfl rfl hl.1 rfl (lv_room (Nat.le_of_ble_eq_true rfl)) dX9_law_319 ⟨Nat.le_refl _, Nat.le_refl _⟩) hS hA hAM (fun i j hi hj h => hJ j i hj hi h.symm) hPF (fun H locs hPM hPF hS => ?_)
      refine lv_icmp_eq (tgt := 952) hx hb dX9_law_322 (by decide) (fun _ => ?_) (fun c1 => absurd rfl c1)
      exact fin σ1 τ1 hRl _ _ ls hPF hPM hS hl
    by_cases c3 : z = (3 : Int32)
    · refine lv_tableIn (tgt := 327) hx hb dX9_law_33 (by rw [c3]; decide) (by rw [c3]; decide) (by rw [c3]; rfl) (by decide) ?_
      refine lv_aload_n hx hb dX9_law_327 rfl (lv_at hl 1 rfl) ?_
      refine lv_aload_n hx hb dX9_law_328 rfl (lv_at hl 0 rfl) ?_
      refine lv_iload_n hx hb dX9_law_329 rfl (lv_at hl 3 rfl) ?_
      refine lv_iconst (v := 1) hx hb dX9_law_330 (by decide) ?_
      refine lv_iadd hx hb dX9_law_331 ?_
      refine va_sld hx hb hX hbl hbA hS (fl_in (k := 1) hiL hL (by decide)) dX9_law_332 ?_
      refine lv_aload_n hx hb dX9_law_333 rfl (lv_at hl 0 rfl) ?_
      refine lv_iload_n hx hb dX9_law_334 rfl (lv_at hl 3 rfl) ?_
      refine lv_iconst (v := 2) hx hb dX9_law_335 (by decide) ?_
      refine lv_iadd hx hb dX9_law_336 ?_
      refine va_sld hx hb hX hbl hbA hS (fl_in (k := 2) hiL hL (by decide)) dX9_law_337 ?_
      refine lv_aload_n hx hb dX9_law_338 rfl (lv_at hl 0 rfl) ?_
      refine lv_iload_n hx hb dX9_law_339 rfl (lv_at hl 3 rfl) ?_
      refine lv_iconst (v := 3) hx hb dX9_law_340 (by decide) ?_
      refine lv_iadd hx hb dX9_law_341 ?_
      refine va_sld hx hb hX hbl hbA hS (fl_in (k := 3) hiL hL (by decide)) dX9_law_342 ?_
      refine lv_aload_n hx hb dX9_law_343 rfl (lv_at hl 0 rfl) ?_
      refine lv_iload_n hx hb dX9_law_344 rfl (lv_at hl 3 rfl) ?_
      refine lv_iconst (v := 4) hx hb dX9_law_345 (by decide) ?_
      refine lv_iadd hx hb dX9_law_346 ?_
      refine va_sld hx hb hX hbl hbA hS (fl_in (k := 4) hiL hL (by decide)) dX9_law_347 ?_
      obtain ⟨r1, e1, e2⟩ := s_seal (show i ≤ 3072 by omega) hRl (a1 := xs (nI i + (1 : Int32)).toNatClampNeg) (a2 := xs (nI i + (2 : Int32)).toNatClampNeg) (a3 := xs (nI i + (3 : Int32)).toNatClampNeg) (a4 := xs (nI i + (4 : Int32)).toNatClampNeg)
      refine fl_calll (va_runV (H := _) (As := [.int (xs (nI i + (1 : Int32)).toNatClampNeg), .int (xs (nI i + (2 : Int32)).toNatClampNeg), .int (xs (nI i + (3 : Int32)).toNatClampNeg), .int (xs (nI i + (4 : Int32)).toNatClampNeg)]) (rest := []) ⟨hx, hb, hml, hown, hT⟩ (c_q_FairOrder_seal l D ca adF _ e1) (fl_c_29 hT ⟨Nat.le_of_ble_eq_true rfl, Nat.le_of_ble_eq_true rfl⟩) ⟨fo_Pre_blind, fo_rc0 hKF hPF (by decide), fo_Pre_at hPF hKF (hDF _)⟩ rfl rfl hl.1 rfl (lv_room (Nat.le_of_ble_eq_true rfl)) dX9_law_348 ⟨Nat.le_refl _, Nat.le_refl _⟩) hS hA hAF hJ hPM (fun H locs hPF hPM hS => ?_)
      refine lv_aload_n hx hb dX9_law_351 rfl (lv_at hl 2 rfl) ?_
      refine lv_aload_n hx hb dX9_law_352 rfl (lv_at hl 0 rfl) ?_
      refine lv_iload_n hx hb dX9_law_353 rfl (lv_at hl 3 rfl) ?_
      refine lv_iconst (v := 1) hx hb dX9_law_354 (by decide) ?_
      refine lv_iadd hx hb dX9_law_355 ?_
      refine va_sld hx hb hX hbl hbA hS (fl_in (k := 1) hiL hL (by decide)) dX9_law_356 ?_
      refine lv_aload_n hx hb dX9_law_357 rfl (lv_at hl 0 rfl) ?_
      refine lv_iload_n hx hb dX9_law_358 rfl (lv_at hl 3 rfl) ?_
      refine lv_iconst (v := 2) hx hb dX9_law_359 (by decide) ?_
      refine lv_iadd hx hb dX9_law_360 ?_
      refine va_sld hx hb hX hbl hbA hS (fl_in (k := 2) hiL hL (by decide)) dX9_law_361 ?_
      refine lv_aload_n hx hb dX9_law_362 rfl (lv_at hl 0 rfl) ?_
      refine lv_iload_n hx hb dX9_law_363 rfl (lv_at hl 3 rfl) ?_
      refine lv_iconst (v := 3) hx hb dX9_law_364 (by decide) ?_
      refine lv_iadd hx hb dX9_law_365 ?_
      refine va_sld hx hb hX hbl hbA hS (fl_in (k := 3) hiL hL (by decide)) dX9_law_366 ?_
      refine lv_aload_n hx hb dX9_law_367 rfl (lv_at hl 0 rfl) ?_
      refine lv_iload_n hx hb dX9_law_368 rfl (lv_at hl 3 rfl) ?_
      refine lv_iconst (v := 4) hx hb dX9_law_369 (by decide) ?_
      refine lv_iadd hx hb dX9_law_370 ?_
      refine va_sld hx hb hX hbl hbA hS (fl_in (k := 4) hiL hL (by decide)) dX9_law_371 ?_
      refine fl_calll (va_runV (H := _) (As := [.int (xs (nI i + (1 : Int32)).toNatClampNeg), .int (xs (nI i + (2 : Int32)).toNatClampNeg), .int (xs (nI i + (3 : Int32)).toNatClampNeg), .int (xs (nI i + (4 : Int32)).toNatClampNeg)]) (rest := [.long r1]) ⟨hx, hb, hml, hown, hT⟩ (c_r_seal l D ca adM _ e2) (fl_c_33 hT ⟨Nat.le_of_ble_eq_true rfl, Nat.le_of_ble_eq_true rfl⟩) ⟨fo_Pre_blind, fr_rc0 hKM hPM (by decide), fo_Pre_at hPM hKM (hDM _)⟩ rfl rfl hl.1 rfl (lv_room (Nat.le_of_ble_eq_true rfl)) dX9_law_372 ⟨Nat.le_refl _, Nat.le_refl _⟩) hS hA hAM (fun i j hi hj h => hJ j i hj hi h.symm) hPF (fun H locs hPM hPF hS => ?_)
      refine W.lcmp hx hb dX9_law_375 ?_
      refine lv_if_eq (tgt := 952) hx hb dX9_law_376 (by decide) (fun _ => ?_) (fun c1 => absurd (fl_cmp r1) c1)
      exact fin σ τ (Rl_mono (Nat.le_succ i) hRl) _ _ ls hPF hPM hS hl
    by_cases c4 : z = (4 : Int32)
    · refine lv_tableIn (tgt := 381) hx hb dX9_law_33 (by rw [c4]; decide) (by rw [c4]; decide) (by rw [c4]; rfl) (by decide) ?_
      refine lv_aload_n hx hb dX9_law_381 rfl (lv_at hl 1 rfl) ?_
      refine lv_aload_n hx hb dX9_law_382 rfl (lv_at hl 0 rfl) ?_
      refine lv_iload_n hx hb dX9_law_383 rfl (lv_at hl 3 rfl) ?_
      refine lv_iconst (v := 1) hx hb dX9_law_384 (by decide) ?_
      refine lv_iadd hx hb dX9_law_385 ?_
      refine va_sld hx hb hX hbl hbA hS (fl_in (k := 1) hiL hL (by decide)) dX9_law_386 ?_
      refine lv_aload_n hx hb dX9_law_387 rfl (lv_at hl 0 rfl) ?_
      refine lv_iload_n hx hb dX9_law_388 rfl (lv_at hl 3 rfl) ?_
      refine lv_iconst (v := 2) hx hb dX9_law_389 (by decide) ?_
      refine lv_iadd hx hb dX9_law_390 ?_
      refine va_sld hx hb hX hbl hbA hS (fl_in (k := 2) hiL hL (by decide)) dX9_law_391 ?_
      refine lv_i2l hx hb dX9_law_392 rfl ?_
      refine lv_bipush (v := 32) hx hb dX9_law_393 (by decide) ?_
      refine lv_lshl hx hb dX9_law_395 rfl ?_
      refine lv_aload_n hx hb dX9_law_396 rfl (lv_at hl 0 rfl) ?_
      refine lv_iload_n hx hb dX9_law_397 rfl (lv_at hl 3 rfl) ?_
      refine lv_iconst (v := 3) hx hb dX9_law_398 (by decide) ?_
      refine lv_iadd hx hb dX9_law_399 ?_
      refine va_sld hx hb hX hbl hbA hS (fl_in (k := 3) hiL hL (by decide)) dX9_law_400 ?_
      refine lv_i2l hx hb dX9_law_401 rfl ?_
      refine lv_ldc2 (v := 4294967295) hx hb hown (hT _ (fo_tb 801 (by decide +kernel) rfl)) dX9_law_402 ?_
      refine lv_land hx hb dX9_law_405 ?_
      refine lv_lor hx hb dX9_law_406 ?_
      refine lv_aload_n hx hb dX9_law_407 rfl (lv_at hl 0 rfl) ?_
      refine lv_iload_n hx hb dX9_law_408 rfl (lv_at hl 3 rfl) ?_
      refine lv_iconst (v := 4) hx hb dX9_law_409 (by decide) ?_
      refine lv_iadd hx hb dX9_law_410 ?_
      refine va_sld hx hb hX hbl hbA hS (fl_in (k := 4) hiL hL (by decide)) dX9_law_411 ?_
      refine lv_i2l hx hb dX9_law_412 rfl ?_
      refine lv_bipush (v := 32) hx hb dX9_law_413 (by decide) ?_
      refine lv_lshl hx hb dX9_law_415 rfl ?_
      refine lv_aload_n hx hb dX9_law_416 rfl (lv_at hl 0 rfl) ?_
      refine lv_iload_n hx hb dX9_law_417 rfl (lv_at hl 3 rfl) ?_
      refine lv_iconst (v := 5) hx hb dX9_law_418 (by decide) ?_
      refine lv_iadd hx hb dX9_law_419 ?_
      refine va_sld hx hb hX hbl hbA hS (fl_in (k := 5) hiL hL (by decide)) dX9_law_420 ?_
      refine lv_i2l hx hb dX9_law_421 rfl ?_
      refine lv_ldc2 (v := 4294967295) hx hb hown (hT _ (fo_tb 801 (by decide +kernel) rfl)) dX9_law_422 ?_
      refine lv_land hx hb dX9_law_425 ?_
      refine lv_lor hx hb dX9_law_426 ?_
      obtain ⟨r1, σ1, τ1, e1, e2, hRl⟩ := s_commit (show i ≤ 3072 by omega) hRl (a1 := xs (nI i + (1 : Int32)).toNatClampNeg) (a2 := (((xs (nI i + (2 : Int32)).toNatClampNeg).toInt64) <<< ((32 : Int32).toInt64 &&& 63)) ||| (((xs (nI i + (3 : Int32)).toNatClampNeg).toInt64) &&& (4294967295 : Int64))) (a3 := (((xs (nI i + (4 : Int32)).toNatClampNeg).toInt64) <<< ((32 : Int32).toInt64 &&& 63)) ||| (((xs (nI i + (5 : Int32)).toNatClampNeg).toInt64) &&& (4294967295 : Int64)))
      refine fl_calli (va_runV (H := _) (As := [.int (xs (nI i + (1 : Int32)).toNatClampNeg), .long ((((xs (nI i + (2 : Int32)).toNatClampNeg).toInt64) <<< ((32 : Int32).toInt64 &&& 63)) ||| (((xs (nI i + (3 : Int32)).toNatClampNeg).toInt64) &&& (4294967295 : Int64))), .long ((((xs (nI i + (4 : Int32)).toNatClampNeg).toInt64) <<< ((32 : Int32).toInt64 &&& 63)) ||| (((xs (nI i + (5 : Int32)).toNatClampNeg).toInt64) &&& (4294967295 : Int64)))]) (rest := []) ⟨hx, hb, hml, hown, hT⟩ (c_q_FairOrder_commit l D ca adF _ e1) (fl_c_34 hT ⟨Nat.le_of_ble_eq_true rfl, Nat.le_of_ble_eq_true rfl⟩) ⟨fo_Pre_blind, fo_rc0 hKF hPF (by decide), fo_Pre_at hPF hKF (hDF _)⟩ rfl rfl hl.1 rfl (lv_room (Nat.le_of_ble_eq_true rfl)) dX9_law_427 ⟨Nat.le_refl _, Nat.le_refl _⟩) hS hA hAF hJ hPM (fun H locs hPF hPM hS => ?_)
      refine lv_aload_n hx hb dX9_law_430 rfl (lv_at hl 2 rfl) ?_
      refine lv_aload_n hx hb dX9_law_431 rfl (lv_at hl 0 rfl) ?_
      refine lv_iload_n hx hb dX9_law_432 rfl (lv_at hl 3 rfl) ?_
      refine lv_iconst (v := 1) hx hb dX9_law_433 (by decide) ?_
      refine lv_iadd hx hb dX9_law_434 ?_
      refine va_sld hx hb hX hbl hbA hS (fl_in (k := 1) hiL hL (by decide)) dX9_law_435 ?_
      refine lv_aload_n hx hb dX9_law_436 rfl (lv_at hl 0 rfl) ?_
      refine lv_iload_n hx hb dX9_law_437 rfl (lv_at hl 3 rfl) ?_
      refine lv_iconst (v := 2) hx hb dX9_law_438 (by decide) ?_
      refine lv_iadd hx hb dX9_law_439 ?_
      refine va_sld hx hb hX hbl hbA hS (fl_in (k := 2) hiL hL (by decide)) dX9_law_440 ?_
      refine lv_i2l hx hb dX9_law_441 rfl ?_
      refine lv_bipush (v := 32) hx hb dX9_law_442 (by decide) ?_
      refine lv_lshl hx hb dX9_law_444 rfl ?_
      refine lv_aload_n hx hb dX9_law_445 rfl (lv_at hl 0 rfl) ?_
      refine lv_iload_n hx hb dX9_law_446 rfl (lv_at hl 3 rfl) ?_
      refine lv_iconst (v := 3) hx hb dX9_law_447 (by decide) ?_
      refine lv_iadd hx hb dX9_law_448 ?_
      refine va_sld hx hb hX hbl hbA hS (fl_in (k := 3) hiL hL (by decide)) dX9_law_449 ?_
      refine lv_i2l hx hb dX9_law_450 rfl ?_
      refine lv_ldc2 (v := 4294967295) hx hb hown (hT _ (fo_tb 801 (by decide +kernel) rfl)) dX9_law_451 ?_
      refine lv_land hx hb dX9_law_454 ?_
      refine lv_lor hx hb dX9_law_455 ?_
      refine lv_aload_n hx hb dX9_law_456 rfl (lv_at hl 0 rfl) ?_
      refine lv_iload_n hx hb dX9_law_457 rfl (lv_at hl 3 rfl) ?_
      refine lv_iconst (v := 4) hx hb dX9_law_458 (by decide) ?_
      refine lv_iadd hx hb dX9_law_459 ?_
      refine va_sld hx hb hX hbl hbA hS (fl_in (k := 4) hiL hL (by decide)) dX9_law_460 ?_
      refine lv_i2l hx hb dX9_law_461 rfl ?_
      refine lv_bipush (v := 32) hx hb dX9_law_462 (by decide) ?_
      refine lv_lshl hx hb dX9_law_464 rfl ?_
      refine lv_aload_n hx hb dX9_law_465 rfl (lv_at hl 0 rfl) ?_
      refine lv_iload_n hx hb dX9_law_466 rfl (lv_at hl 3 rfl) ?_
      refine lv_iconst (v := 5) hx hb dX9_law_467 (by decide) ?_
      refine lv_iadd hx hb dX9_law_468 ?_
      refine va_sld hx hb hX hbl hbA hS (fl_in (k := 5) hiL hL (by decide)) dX9_law_469 ?_
      refine lv_i2l hx hb dX9_law_470 rfl ?_
      refine lv_ldc2 (v := 4294967295) hx hb hown (hT _ (fo_tb 801 (by decide +kernel) rfl)) dX9_law_471 ?_
      refine lv_land hx hb dX9_law_474 ?_
      refine lv_lor hx hb dX9_law_475 ?_
      refine fl_calli (va_runV (H := _) (As := [.int (xs (nI i + (1 : Int32)).toNatClampNeg), .long ((((xs (nI i + (2 : Int32)).toNatClampNeg).toInt64) <<< ((32 : Int32).toInt64 &&& 63)) ||| (((xs (nI i + (3 : Int32)).toNatClampNeg).toInt64) &&& (4294967295 : Int64))), .long ((((xs (nI i + (4 : Int32)).toNatClampNeg).toInt64) <<< ((32 : Int32).toInt64 &&& 63)) ||| (((xs (nI i + (5 : Int32)).toNatClampNeg).toInt64) &&& (4294967295 : Int64)))]) (rest := [.int r1]) ⟨hx, hb, hml, hown, hT⟩ (c_r_commit l D ca adM _ e2) (fl_c_38 hT ⟨Nat.le_of_ble_eq_true rfl, Nat.le_of_ble_eq_true rfl⟩) ⟨fo_Pre_blind, fr_rc0 hKM hPM (by decide), fo_Pre_at hPM hKM (hDM _)⟩ rfl rfl hl.1 rfl (lv_room (Nat.le_of_ble_eq_true rfl)) dX9_law_476 ⟨Nat.le_refl _, Nat.le_refl _⟩) hS hA hAM (fun i j hi hj h => hJ j i hj hi h.symm) hPF (fun H locs hPM hPF hS => ?_)
      refine lv_icmp_eq (tgt := 952) hx hb dX9_law_479 (by decide) (fun _ => ?_) (fun c1 => absurd rfl c1)
      exact fin σ1 τ1 hRl _ _ ls hPF hPM hS hl
    by_cases c5 : z = (5 : Int32)
    · refine lv_tableIn (tgt := 484) hx hb dX9_law_33 (by rw [c5]; decide) (by rw [c5]; decide) (by rw [c5]; rfl) (by decide) ?_
      refine lv_aload_n hx hb dX9_law_484 rfl (lv_at hl 1 rfl) ?_
      refine lv_aload_n hx hb dX9_law_485 rfl (lv_at hl 0 rfl) ?_
      refine lv_iload_n hx hb dX9_law_486 rfl (lv_at hl 3 rfl) ?_
      refine lv_iconst (v := 1) hx hb dX9_law_487 (by decide) ?_
      refine lv_iadd hx hb dX9_law_488 ?_
      refine va_sld hx hb hX hbl hbA hS (fl_in (k := 1) hiL hL (by decide)) dX9_law_489 ?_
      refine lv_aload_n hx hb dX9_law_490 rfl (lv_at hl 0 rfl) ?_
      refine lv_iload_n hx hb dX9_law_491 rfl (lv_at hl 3 rfl) ?_
      refine lv_iconst (v := 2) hx hb dX9_law_492 (by decide) ?_
      refine lv_iadd hx hb dX9_law_493 ?_
      refine va_sld hx hb hX hbl hbA hS (fl_in (k := 2) hiL hL (by decide)) dX9_law_494 ?_
      refine lv_aload_n hx hb dX9_law_495 rfl (lv_at hl 0 rfl) ?_
      refine lv_iload_n hx hb dX9_law_496 rfl (lv_at hl 3 rfl) ?_
      refine lv_iconst (v := 3) hx hb dX9_law_497 (by decide) ?_
      refine lv_iadd hx hb dX9_law_498 ?_
      refine va_sld hx hb hX hbl hbA hS (fl_in (k := 3) hiL hL (by decide)) dX9_law_499 ?_
      obtain ⟨r1, σ1, τ1, e1, e2, hRl⟩ := s_hear (show i ≤ 3072 by omega) hRl (a1 := xs (nI i + (1 : Int32)).toNatClampNeg) (a2 := xs (nI i + (2 : Int32)).toNatClampNeg) (a3 := xs (nI i + (3 : Int32)).toNatClampNeg)
      refine fl_calli (va_runV (H := _) (As := [.int (xs (nI i + (1 : Int32)).toNatClampNeg), .int (xs (nI i + (2 : Int32)).toNatClampNeg), .int (xs (nI i + (3 : Int32)).toNatClampNeg)]) (rest := []) ⟨hx, hb, hml, hown, hT⟩ (c_q_FairOrder_hear l D ca adF _ e1) (fl_c_39 hT ⟨Nat.le_of_ble_eq_true rfl, Nat.le_of_ble_eq_true rfl⟩) ⟨fo_Pre_blind, fo_rc0 hKF hPF (by decide), fo_Pre_at hPF hKF (hDF _)⟩ rfl rfl hl.1 rfl (lv_room (Nat.le_of_ble_eq_true rfl)) dX9_law_500 ⟨Nat.le_refl _, Nat.le_refl _⟩) hS hA hAF hJ hPM (fun H locs hPF hPM hS => ?_)
      refine lv_aload_n hx hb dX9_law_503 rfl (lv_at hl 2 rfl) ?_
      refine lv_aload_n hx hb dX9_law_504 rfl (lv_at hl 0 rfl) ?_
      refine lv_iload_n hx hb dX9_law_505 rfl (lv_at hl 3 rfl) ?_
      refine lv_iconst (v := 1) hx hb dX9_law_506 (by decide) ?_
      refine lv_iadd hx hb dX9_law_507 ?_
      refine va_sld hx hb hX hbl hbA hS (fl_in (k := 1) hiL hL (by decide)) dX9_law_508 ?_
      refine lv_aload_n hx hb dX9_law_509 rfl (lv_at hl 0 rfl) ?_
      refine lv_iload_n hx hb dX9_law_510 rfl (lv_at hl 3 rfl) ?_
      refine lv_iconst (v := 2) hx hb dX9_law_511 (by decide) ?_
      refine lv_iadd hx hb dX9_law_512 ?_
      refine va_sld hx hb hX hbl hbA hS (fl_in (k := 2) hiL hL (by decide)) dX9_law_513 ?_
      refine lv_aload_n hx hb dX9_law_514 rfl (lv_at hl 0 rfl) ?_
      refine lv_iload_n hx hb dX9_law_515 rfl (lv_at hl 3 rfl) ?_
      refine lv_iconst (v := 3) hx hb dX9_law_516 (by decide) ?_
      refine lv_iadd hx hb dX9_law_517 ?_
      refine va_sld hx hb hX hbl hbA hS (fl_in (k := 3) hiL hL (by decide)) dX9_law_518 ?_
      refine fl_calli (va_runV (H := _) (As := [.int (xs (nI i + (1 : Int32)).toNatClampNeg), .int (xs (nI i + (2 : Int32)).toNatClampNeg), .int (xs (nI i + (3 : Int32)).toNatClampNeg)]) (rest := [.int r1]) ⟨hx, hb, hml, hown, hT⟩ (c_r_hear l D ca adM _ e2) (fl_c_43 hT ⟨Nat.le_of_ble_eq_true rfl, Nat.le_of_ble_eq_true rfl⟩) ⟨fo_Pre_blind, fr_rc0 hKM hPM (by decide), fo_Pre_at hPM hKM (hDM _)⟩ rfl rfl hl.1 rfl (lv_room (Nat.le_of_ble_eq_true rfl)) dX9_law_519 ⟨Nat.le_refl _, Nat.le_refl _⟩) hS hA hAM (fun i j hi hj h => hJ j i hj hi h.symm) hPF (fun H locs hPM hPF hS => ?_)
      refine lv_icmp_eq (tgt := 952) hx hb dX9_law_522 (by decide) (fun _ => ?_) (fun c1 => absurd rfl c1)
      exact fin σ1 τ1 hRl _ _ ls hPF hPM hS hl
    by_cases c6 : z = (6 : Int32)
    · refine lv_tableIn (tgt := 527) hx hb dX9_law_33 (by rw [c6]; decide) (by rw [c6]; decide) (by rw [c6]; rfl) (by decide) ?_
      refine lv_aload_n hx hb dX9_law_527 rfl (lv_at hl 1 rfl) ?_
      refine lv_aload_n hx hb dX9_law_528 rfl (lv_at hl 0 rfl) ?_
      refine lv_iload_n hx hb dX9_law_529 rfl (lv_at hl 3 rfl) ?_
      refine lv_iconst (v := 1) hx hb dX9_law_530 (by decide) ?_
      refine lv_iadd hx hb dX9_law_531 ?_
      refine va_sld hx hb hX hbl hbA hS (fl_in (k := 1) hiL hL (by decide)) dX9_law_532 ?_
      refine lv_aload_n hx hb dX9_law_533 rfl (lv_at hl 0 rfl) ?_
      refine lv_iload_n hx hb dX9_law_534 rfl (lv_at hl 3 rfl) ?_
      refine lv_iconst (v := 2) hx hb dX9_law_535 (by decide) ?_
      refine lv_iadd hx hb dX9_law_536 ?_
      refine va_sld hx hb hX hbl hbA hS (fl_in (k := 2) hiL hL (by decide)) dX9_law_537 ?_
      refine lv_aload_n hx hb dX9_law_538 rfl (lv_at hl 0 rfl) ?_
      refine lv_iload_n hx hb dX9_law_539 rfl (lv_at hl 3 rfl) ?_
      refine lv_iconst (v := 3) hx hb dX9_law_540 (by decide) ?_
      refine lv_iadd hx hb dX9_law_541 ?_
      refine va_sld hx hb hX hbl hbA hS (fl_in (k := 3) hiL hL (by decide)) dX9_law_542 ?_
      refine lv_aload_n hx hb dX9_law_543 rfl (lv_at hl 0 rfl) ?_
      refine lv_iload_n hx hb dX9_law_544 rfl (lv_at hl 3 rfl) ?_
      refine lv_iconst (v := 4) hx hb dX9_law_545 (by decide) ?_
      refine lv_iadd hx hb dX9_law_546 ?_
      refine va_sld hx hb hX hbl hbA hS (fl_in (k := 4) hiL hL (by decide)) dX9_law_547 ?_
      refine lv_aload_n hx hb dX9_law_548 rfl (lv_at hl 0 rfl) ?_
      refine lv_iload_n hx hb dX9_law_549 rfl (lv_at hl 3 rfl) ?_
      refine lv_iconst (v := 5) hx hb dX9_law_550 (by decide) ?_
      refine lv_iadd hx hb dX9_law_551 ?_
      refine va_sld hx hb hX hbl hbA hS (fl_in (k := 5) hiL hL (by decide)) dX9_law_552 ?_
      obtain ⟨r1, σ1, τ1, e1, e2, hRl⟩ := s_open (show i ≤ 3072 by omega) hRl (a1 := xs (nI i + (1 : Int32)).toNatClampNeg) (a2 := xs (nI i + (2 : Int32)).toNatClampNeg) (a3 := xs (nI i + (3 : Int32)).toNatClampNeg) (a4 := xs (nI i + (4 : Int32)).toNatClampNeg) (a5 := xs (nI i + (5 : Int32)).toNatClampNeg)
      refine fl_calli (va_runV (H := _) (As := [.int (xs (nI i + (1 : Int32)).toNatClampNeg), .int (xs (nI i + (2 : Int32)).toNatClampNeg), .int (xs (nI i + (3 : Int32)).toNatClampNeg), .int (xs (nI i + (4 : Int32)).toNatClampNeg), .int (xs (nI i + (5 : Int32)).toNatClampNeg)]) (rest := []) ⟨hx, hb, hml, hown, hT⟩ (c_q_FairOrder_open l D ca adF _ e1) (fl_c_44 hT ⟨Nat.le_of_ble_eq_true rfl, Nat.le_of_ble_eq_true rfl⟩) ⟨fo_Pre_blind, fo_rc0 hKF hPF (by decide), fo_Pre_at hPF hKF (hDF _)⟩ rfl rfl hl.1 rfl (lv_room (Nat.le_of_ble_eq_true rfl)) dX9_law_553 ⟨Nat.le_refl _, Nat.le_refl _⟩) hS hA hAF hJ hPM (fun H locs hPF hPM hS => ?_)
      refine lv_aload_n hx hb dX9_law_556 rfl (lv_at hl 2 rfl) ?_
      refine lv_aload_n hx hb dX9_law_557 rfl (lv_at hl 0 rfl) ?_
      refine lv_iload_n hx hb dX9_law_558 rfl (lv_at hl 3 rfl) ?_
      refine lv_iconst (v := 1) hx hb dX9_law_559 (by decide) ?_
      refine lv_iadd hx hb dX9_law_560 ?_
      refine va_sld hx hb hX hbl hbA hS (fl_in (k := 1) hiL hL (by decide)) dX9_law_561 ?_
      refine lv_aload_n hx hb dX9_law_562 rfl (lv_at hl 0 rfl) ?_
      refine lv_iload_n hx hb dX9_law_563 rfl (lv_at hl 3 rfl) ?_
      refine lv_iconst (v := 2) hx hb dX9_law_564 (by decide) ?_
      refine lv_iadd hx hb dX9_law_565 ?_
      refine va_sld hx hb hX hbl hbA hS (fl_in (k := 2) hiL hL (by decide)) dX9_law_566 ?_
      refine lv_aload_n hx hb dX9_law_567 rfl (lv_at hl 0 rfl) ?_
      refine lv_iload_n hx hb dX9_law_568 rfl (lv_at hl 3 rfl) ?_
      refine lv_iconst (v := 3) hx hb dX9_law_569 (by decide) ?_
      refine lv_iadd hx hb dX9_law_570 ?_
      refine va_sld hx hb hX hbl hbA hS (fl_in (k := 3) hiL hL (by decide)) dX9_law_571 ?_
      refine lv_aload_n hx hb dX9_law_572 rfl (lv_at hl 0 rfl) ?_
      refine lv_iload_n hx hb dX9_law_573 rfl (lv_at hl 3 rfl) ?_
      refine lv_iconst (v := 4) hx hb dX9_law_574 (by decide) ?_
      refine lv_iadd hx hb dX9_law_575 ?_
      refine va_sld hx hb hX hbl hbA hS (fl_in (k := 4) hiL hL (by decide)) dX9_law_576 ?_
      refine lv_aload_n hx hb dX9_law_577 rfl (lv_at hl 0 rfl) ?_
      refine lv_iload_n hx hb dX9_law_578 rfl (lv_at hl 3 rfl) ?_
      refine lv_iconst (v := 5) hx hb dX9_law_579 (by decide) ?_
      refine lv_iadd hx hb dX9_law_580 ?_
      refine va_sld hx hb hX hbl hbA hS (fl_in (k := 5) hiL hL (by decide)) dX9_law_581 ?_
      refine fl_calli (va_runV (H := _) (As := [.int (xs (nI i + (1 : Int32)).toNatClampNeg), .int (xs (nI i + (2 : Int32)).toNatClampNeg), .int (xs (nI i + (3 : Int32)).toNatClampNeg), .int (xs (nI i + (4 : Int32)).toNatClampNeg), .int (xs (nI i + (5 : Int32)).toNatClampNeg)]) (rest := [.int r1]) ⟨hx, hb, hml, hown, hT⟩ (c_r_open l D ca adM _ e2) (fl_c_48 hT ⟨Nat.le_of_ble_eq_true rfl, Nat.le_of_ble_eq_true rfl⟩) ⟨fo_Pre_blind, fr_rc0 hKM hPM (by decide), fo_Pre_at hPM hKM (hDM _)⟩ rfl rfl hl.1 rfl (lv_room (Nat.le_of_ble_eq_true rfl)) dX9_law_582 ⟨Nat.le_refl _, Nat.le_refl _⟩) hS hA hAM (fun i j hi hj h => hJ j i hj hi h.symm) hPF (fun H locs hPM hPF hS => ?_)
      refine lv_icmp_eq (tgt := 952) hx hb dX9_law_585 (by decide) (fun _ => ?_) (fun c1 => absurd rfl c1)
      exact fin σ1 τ1 hRl _ _ ls hPF hPM hS hl
    by_cases c7 : z = (7 : Int32)
    · refine lv_tableIn (tgt := 590) hx hb dX9_law_33 (by rw [c7]; decide) (by rw [c7]; decide) (by rw [c7]; rfl) (by decide) ?_
      refine lv_aload_n hx hb dX9_law_590 rfl (lv_at hl 1 rfl) ?_
      obtain ⟨r1, σ1, τ1, e1, e2, hRl⟩ := s_next (show i ≤ 3072 by omega) hRl 
      refine fl_calli (va_runV (H := _) (As := []) (rest := []) ⟨hx, hb, hml, hown, hT⟩ (c_q_FairOrder_next l D ca adF _ e1) (fl_c_49 hT ⟨Nat.le_of_ble_eq_true rfl, Nat.le_of_ble_eq_true rfl⟩) ⟨fo_Pre_blind, fo_rc0 hKF hPF (by decide), fo_Pre_at hPF hKF (hDF _)⟩ rfl rfl hl.1 rfl (lv_room (Nat.le_of_ble_eq_true rfl)) dX9_law_591 ⟨Nat.le_refl _, Nat.le_refl _⟩) hS hA hAF hJ hPM (fun H locs hPF hPM hS => ?_)
      refine lv_aload_n hx hb dX9_law_594 rfl (lv_at hl 2 rfl) ?_
      refine fl_calli (va_runV (H := _) (As := []) (rest := [.int r1]) ⟨hx, hb, hml, hown, hT⟩ (c_r_next l D ca adM _ e2) (fl_c_52 hT ⟨Nat.le_of_ble_eq_true rfl, Nat.le_of_ble_eq_true rfl⟩) ⟨fo_Pre_blind, fr_rc0 hKM hPM (by decide), fo_Pre_at hPM hKM (hDM _)⟩ rfl rfl hl.1 rfl (lv_room (Nat.le_of_ble_eq_true rfl)) dX9_law_595 ⟨Nat.le_refl _, Nat.le_refl _⟩) hS hA hAM (fun i j hi hj h => hJ j i hj hi h.symm) hPF (fun H locs hPM hPF hS => ?_)
      refine lv_icmp_eq (tgt := 952) hx hb dX9_law_598 (by decide) (fun _ => ?_) (fun c1 => absurd rfl c1)
      exact fin σ1 τ1 hRl _ _ ls hPF hPM hS hl
    by_cases c8 : z = (8 : Int32)
    · refine lv_tableIn (tgt := 603) hx hb dX9_law_33 (by rw [c8]; decide) (by rw [c8]; decide) (by rw [c8]; rfl) (by decide) ?_
      refine lv_aload_n hx hb dX9_law_603 rfl (lv_at hl 1 rfl) ?_
      refine lv_aload_n hx hb dX9_law_604 rfl (lv_at hl 0 rfl) ?_
      refine lv_iload_n hx hb dX9_law_605 rfl (lv_at hl 3 rfl) ?_
      refine lv_iconst (v := 1) hx hb dX9_law_606 (by decide) ?_
      refine lv_iadd hx hb dX9_law_607 ?_
      refine va_sld hx hb hX hbl hbA hS (fl_in (k := 1) hiL hL (by decide)) dX9_law_608 ?_
      refine lv_aload_n hx hb dX9_law_609 rfl (lv_at hl 0 rfl) ?_
      refine lv_iload_n hx hb dX9_law_610 rfl (lv_at hl 3 rfl) ?_
      refine lv_iconst (v := 2) hx hb dX9_law_611 (by decide) ?_
      refine lv_iadd hx hb dX9_law_612 ?_
      refine va_sld hx hb hX hbl hbA hS (fl_in (k := 2) hiL hL (by decide)) dX9_law_613 ?_
      refine lv_i2l hx hb dX9_law_614 rfl ?_
      refine lv_bipush (v := 32) hx hb dX9_law_615 (by decide) ?_
      refine lv_lshl hx hb dX9_law_617 rfl ?_
      refine lv_aload_n hx hb dX9_law_618 rfl (lv_at hl 0 rfl) ?_
      refine lv_iload_n hx hb dX9_law_619 rfl (lv_at hl 3 rfl) ?_
      refine lv_iconst (v := 3) hx hb dX9_law_620 (by decide) ?_
      refine lv_iadd hx hb dX9_law_621 ?_
      refine va_sld hx hb hX hbl hbA hS (fl_in (k := 3) hiL hL (by decide)) dX9_law_622 ?_
      refine lv_i2l hx hb dX9_law_623 rfl ?_
      refine lv_ldc2 (v := 4294967295) hx hb hown (hT _ (fo_tb 801 (by decide +kernel) rfl)) dX9_law_624 ?_
      refine lv_land hx hb dX9_law_627 ?_
      refine lv_lor hx hb dX9_law_628 ?_
      obtain ⟨r1, σ1, τ1, e1, e2, hRl⟩ := s_order (show i ≤ 3072 by omega) hRl (a1 := xs (nI i + (1 : Int32)).toNatClampNeg) (a2 := (((xs (nI i + (2 : Int32)).toNatClampNeg).toInt64) <<< ((32 : Int32).toInt64 &&& 63)) ||| (((xs (nI i + (3 : Int32)).toNatClampNeg).toInt64) &&& (4294967295 : Int64)))
      refine fl_calli (va_runV (H := _) (As := [.int (xs (nI i + (1 : Int32)).toNatClampNeg), .long ((((xs (nI i + (2 : Int32)).toNatClampNeg).toInt64) <<< ((32 : Int32).toInt64 &&& 63)) ||| (((xs (nI i + (3 : Int32)).toNatClampNeg).toInt64) &&& (4294967295 : Int64)))]) (rest := []) ⟨hx, hb, hml, hown, hT⟩ (c_q_FairOrder_order l D ca adF _ e1) (fl_c_53 hT ⟨Nat.le_of_ble_eq_true rfl, Nat.le_of_ble_eq_true rfl⟩) ⟨fo_Pre_blind, fo_rc0 hKF hPF (by decide), fo_Pre_at hPF hKF (hDF _)⟩ rfl rfl hl.1 rfl (lv_room (Nat.le_of_ble_eq_true rfl)) dX9_law_629 ⟨Nat.le_refl _, Nat.le_refl _⟩) hS hA hAF hJ hPM (fun H locs hPF hPM hS => ?_)
      refine lv_aload_n hx hb dX9_law_632 rfl (lv_at hl 2 rfl) ?_
      refine lv_aload_n hx hb dX9_law_633 rfl (lv_at hl 0 rfl) ?_
      refine lv_iload_n hx hb dX9_law_634 rfl (lv_at hl 3 rfl) ?_
      refine lv_iconst (v := 1) hx hb dX9_law_635 (by decide) ?_
      refine lv_iadd hx hb dX9_law_636 ?_
      refine va_sld hx hb hX hbl hbA hS (fl_in (k := 1) hiL hL (by decide)) dX9_law_637 ?_
      refine lv_aload_n hx hb dX9_law_638 rfl (lv_at hl 0 rfl) ?_
      refine lv_iload_n hx hb dX9_law_639 rfl (lv_at hl 3 rfl) ?_
      refine lv_iconst (v := 2) hx hb dX9_law_640 (by decide) ?_
      refine lv_iadd hx hb dX9_law_641 ?_
      refine va_sld hx hb hX hbl hbA hS (fl_in (k := 2) hiL hL (by decide)) dX9_law_642 ?_
      refine lv_i2l hx hb dX9_law_643 rfl ?_
      refine lv_bipush (v := 32) hx hb dX9_law_644 (by decide) ?_
      refine lv_lshl hx hb dX9_law_646 rfl ?_
      refine lv_aload_n hx hb dX9_law_647 rfl (lv_at hl 0 rfl) ?_
      refine lv_iload_n hx hb dX9_law_648 rfl (lv_at hl 3 rfl) ?_
      refine lv_iconst (v := 3) hx hb dX9_law_649 (by decide) ?_
      refine lv_iadd hx hb dX9_law_650 ?_
      refine va_sld hx hb hX hbl hbA hS (fl_in (k := 3) hiL hL (by decide)) dX9_law_651 ?_
      refine lv_i2l hx hb dX9_law_652 rfl ?_
      refine lv_ldc2 (v := 4294967295) hx hb hown (hT _ (fo_tb 801 (by decide +kernel) rfl)) dX9_law_653 ?_
      refine lv_land hx hb dX9_law_656 ?_
      refine lv_lor hx hb dX9_law_657 ?_
      refine fl_calli (va_runV (H := _) (As := [.int (xs (nI i + (1 : Int32)).toNatClampNeg), .long ((((xs (nI i + (2 : Int32)).toNatClampNeg).toInt64) <<< ((32 : Int32).toInt64 &&& 63)) ||| (((xs (nI i + (3 : Int32)).toNatClampNeg).toInt64) &&& (4294967295 : Int64)))]) (rest := [.int r1]) ⟨hx, hb, hml, hown, hT⟩ (c_r_order l D ca adM _ e2) (fl_c_57 hT ⟨Nat.le_of_ble_eq_true rfl, Nat.le_of_ble_eq_true rfl⟩) ⟨fo_Pre_blind, fr_rc0 hKM hPM (by decide), fo_Pre_at hPM hKM (hDM _)⟩ rfl rfl hl.1 rfl (lv_room (Nat.le_of_ble_eq_true rfl)) dX9_law_658 ⟨Nat.le_refl _, Nat.le_refl _⟩) hS hA hAM (fun i j hi hj h => hJ j i hj hi h.symm) hPF (fun H locs hPM hPF hS => ?_)
      refine lv_icmp_eq (tgt := 952) hx hb dX9_law_661 (by decide) (fun _ => ?_) (fun c1 => absurd rfl c1)
      exact fin σ1 τ1 hRl _ _ ls hPF hPM hS hl
    by_cases c9 : z = (9 : Int32)
    · refine lv_tableIn (tgt := 666) hx hb dX9_law_33 (by rw [c9]; decide) (by rw [c9]; decide) (by rw [c9]; rfl) (by decide) ?_
      refine lv_aload_n hx hb dX9_law_666 rfl (lv_at hl 1 rfl) ?_
      refine lv_aload_n hx hb dX9_law_667 rfl (lv_at hl 0 rfl) ?_
      refine lv_iload_n hx hb dX9_law_668 rfl (lv_at hl 3 rfl) ?_
      refine lv_iconst (v := 1) hx hb dX9_law_669 (by decide) ?_
      refine lv_iadd hx hb dX9_law_670 ?_
      refine va_sld hx hb hX hbl hbA hS (fl_in (k := 1) hiL hL (by decide)) dX9_law_671 ?_
      obtain ⟨r1, e1, e2⟩ := s_at (show i ≤ 3072 by omega) hRl (a1 := xs (nI i + (1 : Int32)).toNatClampNeg)
      refine fl_calli (va_runV (H := _) (As := [.int (xs (nI i + (1 : Int32)).toNatClampNeg)]) (rest := []) ⟨hx, hb, hml, hown, hT⟩ (c_q_FairOrder_at l D ca adF _ e1) (fl_c_58 hT ⟨Nat.le_of_ble_eq_true rfl, Nat.le_of_ble_eq_true rfl⟩) ⟨fo_Pre_blind, fo_rc0 hKF hPF (by decide), fo_Pre_at hPF hKF (hDF _)⟩ rfl rfl hl.1 rfl (lv_room (Nat.le_of_ble_eq_true rfl)) dX9_law_672 ⟨Nat.le_refl _, Nat.le_refl _⟩) hS hA hAF hJ hPM (fun H locs hPF hPM hS => ?_)
      refine lv_aload_n hx hb dX9_law_675 rfl (lv_at hl 2 rfl) ?_
      refine lv_aload_n hx hb dX9_law_676 rfl (lv_at hl 0 rfl) ?_
      refine lv_iload_n hx hb dX9_law_677 rfl (lv_at hl 3 rfl) ?_
      refine lv_iconst (v := 1) hx hb dX9_law_678 (by decide) ?_
      refine lv_iadd hx hb dX9_law_679 ?_
      refine va_sld hx hb hX hbl hbA hS (fl_in (k := 1) hiL hL (by decide)) dX9_law_680 ?_
      refine fl_calli (va_runV (H := _) (As := [.int (xs (nI i + (1 : Int32)).toNatClampNeg)]) (rest := [.int r1]) ⟨hx, hb, hml, hown, hT⟩ (c_r_at l D ca adM _ e2) (fl_c_62 hT ⟨Nat.le_of_ble_eq_true rfl, Nat.le_of_ble_eq_true rfl⟩) ⟨fo_Pre_blind, fr_rc0 hKM hPM (by decide), fo_Pre_at hPM hKM (hDM _)⟩ rfl rfl hl.1 rfl (lv_room (Nat.le_of_ble_eq_true rfl)) dX9_law_681 ⟨Nat.le_refl _, Nat.le_refl _⟩) hS hA hAM (fun i j hi hj h => hJ j i hj hi h.symm) hPF (fun H locs hPM hPF hS => ?_)
      refine lv_icmp_eq (tgt := 952) hx hb dX9_law_684 (by decide) (fun _ => ?_) (fun c1 => absurd rfl c1)
      exact fin σ τ (Rl_mono (Nat.le_succ i) hRl) _ _ ls hPF hPM hS hl
    by_cases c10 : z = (10 : Int32)
    · refine lv_tableIn (tgt := 689) hx hb dX9_law_33 (by rw [c10]; decide) (by rw [c10]; decide) (by rw [c10]; rfl) (by decide) ?_
      refine lv_aload_n hx hb dX9_law_689 rfl (lv_at hl 1 rfl) ?_
      refine lv_aload_n hx hb dX9_law_690 rfl (lv_at hl 0 rfl) ?_
      refine lv_iload_n hx hb dX9_law_691 rfl (lv_at hl 3 rfl) ?_
      refine lv_iconst (v := 1) hx hb dX9_law_692 (by decide) ?_
      refine lv_iadd hx hb dX9_law_693 ?_
      refine va_sld hx hb hX hbl hbA hS (fl_in (k := 1) hiL hL (by decide)) dX9_law_694 ?_
      refine lv_aload_n hx hb dX9_law_695 rfl (lv_at hl 0 rfl) ?_
      refine lv_iload_n hx hb dX9_law_696 rfl (lv_at hl 3 rfl) ?_
      refine lv_iconst (v := 2) hx hb dX9_law_697 (by decide) ?_
      refine lv_iadd hx hb dX9_law_698 ?_
      refine va_sld hx hb hX hbl hbA hS (fl_in (k := 2) hiL hL (by decide)) dX9_law_699 ?_
      obtain ⟨r1, σ1, τ1, e1, e2, hRl⟩ := s_linked (show i ≤ 3072 by omega) hRl (a1 := xs (nI i + (1 : Int32)).toNatClampNeg) (a2 := xs (nI i + (2 : Int32)).toNatClampNeg)
      refine fl_calli (va_runV (H := _) (As := [.int (xs (nI i + (1 : Int32)).toNatClampNeg), .int (xs (nI i + (2 : Int32)).toNatClampNeg)]) (rest := []) ⟨hx, hb, hml, hown, hT⟩ (c_q_FairOrder_linked l D ca adF _ e1) (fl_c_63 hT ⟨Nat.le_of_ble_eq_true rfl, Nat.le_of_ble_eq_true rfl⟩) ⟨fo_Pre_blind, fo_rc0 hKF hPF (by decide), fo_Pre_at hPF hKF (hDF _)⟩ rfl rfl hl.1 rfl (lv_room (Nat.le_of_ble_eq_true rfl)) dX9_law_700 ⟨Nat.le_refl _, Nat.le_refl _⟩) hS hA hAF hJ hPM (fun H locs hPF hPM hS => ?_)
      refine lv_aload_n hx hb dX9_law_703 rfl (lv_at hl 2 rfl) ?_
      refine lv_aload_n hx hb dX9_law_704 rfl (lv_at hl 0 rfl) ?_
      refine lv_iload_n hx hb dX9_law_705 rfl (lv_at hl 3 rfl) ?_
      refine lv_iconst (v := 1) hx hb dX9_law_706 (by decide) ?_
      refine lv_iadd hx hb dX9_law_707 ?_
      refine va_sld hx hb hX hbl hbA hS (fl_in (k := 1) hiL hL (by decide)) dX9_law_708 ?_
      refine lv_aload_n hx hb dX9_law_709 rfl (lv_at hl 0 rfl) ?_
      refine lv_iload_n hx hb dX9_law_710 rfl (lv_at hl 3 rfl) ?_
      refine lv_iconst (v := 2) hx hb dX9_law_711 (by decide) ?_
      refine lv_iadd hx hb dX9_law_712 ?_
      refine va_sld hx hb hX hbl hbA hS (fl_in (k := 2) hiL hL (by decide)) dX9_law_713 ?_
      refine fl_calli (va_runV (H := _) (As := [.int (xs (nI i + (1 : Int32)).toNatClampNeg), .int (xs (nI i + (2 : Int32)).toNatClampNeg)]) (rest := [.int r1]) ⟨hx, hb, hml, hown, hT⟩ (c_r_linked l D ca adM _ e2) (fl_c_67 hT ⟨Nat.le_of_ble_eq_true rfl, Nat.le_of_ble_eq_true rfl⟩) ⟨fo_Pre_blind, fr_rc0 hKM hPM (by decide), fo_Pre_at hPM hKM (hDM _)⟩ rfl rfl hl.1 rfl (lv_room (Nat.le_of_ble_eq_true rfl)) dX9_law_714 ⟨Nat.le_refl _, Nat.le_refl _⟩) hS hA hAM (fun i j hi hj h => hJ j i hj hi h.symm) hPF (fun H locs hPM hPF hS => ?_)
      refine lv_icmp_eq (tgt := 952) hx hb dX9_law_717 (by decide) (fun _ => ?_) (fun c1 => absurd rfl c1)
      exact fin σ1 τ1 hRl _ _ ls hPF hPM hS hl
    by_cases c11 : z = (11 : Int32)
    · refine lv_tableIn (tgt := 722) hx hb dX9_law_33 (by rw [c11]; decide) (by rw [c11]; decide) (by rw [c11]; rfl) (by decide) ?_
      refine lv_aload_n hx hb dX9_law_722 rfl (lv_at hl 1 rfl) ?_
      refine lv_aload_n hx hb dX9_law_723 rfl (lv_at hl 0 rfl) ?_
      refine lv_iload_n hx hb dX9_law_724 rfl (lv_at hl 3 rfl) ?_
      refine lv_iconst (v := 1) hx hb dX9_law_725 (by decide) ?_
      refine lv_iadd hx hb dX9_law_726 ?_
      refine va_sld hx hb hX hbl hbA hS (fl_in (k := 1) hiL hL (by decide)) dX9_law_727 ?_
      obtain ⟨r1, e1, e2⟩ := s_heard (show i ≤ 3072 by omega) hRl (a1 := xs (nI i + (1 : Int32)).toNatClampNeg)
      refine fl_calli (va_runV (H := _) (As := [.int (xs (nI i + (1 : Int32)).toNatClampNeg)]) (rest := []) ⟨hx, hb, hml, hown, hT⟩ (c_q_FairOrder_heard l D ca adF _ e1) (fl_c_68 hT ⟨Nat.le_of_ble_eq_true rfl, Nat.le_of_ble_eq_true rfl⟩) ⟨fo_Pre_blind, fo_rc0 hKF hPF (by decide), fo_Pre_at hPF hKF (hDF _)⟩ rfl rfl hl.1 rfl (lv_room (Nat.le_of_ble_eq_true rfl)) dX9_law_728 ⟨Nat.le_refl _, Nat.le_refl _⟩) hS hA hAF hJ hPM (fun H locs hPF hPM hS => ?_)
      refine lv_aload_n hx hb dX9_law_731 rfl (lv_at hl 2 rfl) ?_
      refine lv_aload_n hx hb dX9_law_732 rfl (lv_at hl 0 rfl) ?_
      refine lv_iload_n hx hb dX9_law_733 rfl (lv_at hl 3 rfl) ?_
      refine lv_iconst (v := 1) hx hb dX9_law_734 (by decide) ?_
      refine lv_iadd hx hb dX9_law_735 ?_
      refine va_sld hx hb hX hbl hbA hS (fl_in (k := 1) hiL hL (by decide)) dX9_law_736 ?_
      refine fl_calli (va_runV (H := _) (As := [.int (xs (nI i + (1 : Int32)).toNatClampNeg)]) (rest := [.int r1]) ⟨hx, hb, hml, hown, hT⟩ (c_r_heard l D ca adM _ e2) (fl_c_71 hT ⟨Nat.le_of_ble_eq_true rfl, Nat.le_of_ble_eq_true rfl⟩) ⟨fo_Pre_blind, fr_rc0 hKM hPM (by decide), fo_Pre_at hPM hKM (hDM _)⟩ rfl rfl hl.1 rfl (lv_room (Nat.le_of_ble_eq_true rfl)) dX9_law_737 ⟨Nat.le_refl _, Nat.le_refl _⟩) hS hA hAM (fun i j hi hj h => hJ j i hj hi h.symm) hPF (fun H locs hPM hPF hS => ?_)
      refine lv_icmp_eq (tgt := 952) hx hb dX9_law_740 (by decide) (fun _ => ?_) (fun c1 => absurd rfl c1)
      exact fin σ τ (Rl_mono (Nat.le_succ i) hRl) _ _ ls hPF hPM hS hl
    by_cases c12 : z = (12 : Int32)
    · refine lv_tableIn (tgt := 745) hx hb dX9_law_33 (by rw [c12]; decide) (by rw [c12]; decide) (by rw [c12]; rfl) (by decide) ?_
      refine lv_aload_n hx hb dX9_law_745 rfl (lv_at hl 1 rfl) ?_
      obtain ⟨r1, σ1, τ1, e1, e2, hRl⟩ := s_play (show i ≤ 3072 by omega) hRl 
      refine fl_calli (va_runV (H := _) (As := []) (rest := []) ⟨hx, hb, hml, hown, hT⟩ (c_q_FairOrder_play l D ca adF _ e1) (fl_c_72 hT ⟨Nat.le_of_ble_eq_true rfl, Nat.le_of_ble_eq_true rfl⟩) ⟨fo_Pre_blind, fo_rc0 hKF hPF (by decide), fo_Pre_at hPF hKF (hDF _)⟩ rfl rfl hl.1 rfl (lv_room (Nat.le_of_ble_eq_true rfl)) dX9_law_746 ⟨Nat.le_refl _, Nat.le_refl _⟩) hS hA hAF hJ hPM (fun H locs hPF hPM hS => ?_)
      refine lv_aload_n hx hb dX9_law_749 rfl (lv_at hl 2 rfl) ?_
      refine fl_calli (va_runV (H := _) (As := []) (rest := [.int r1]) ⟨hx, hb, hml, hown, hT⟩ (c_r_play l D ca adM _ e2) (fl_c_75 hT ⟨Nat.le_of_ble_eq_true rfl, Nat.le_of_ble_eq_true rfl⟩) ⟨fo_Pre_blind, fr_rc0 hKM hPM (by decide), fo_Pre_at hPM hKM (hDM _)⟩ rfl rfl hl.1 rfl (lv_room (Nat.le_of_ble_eq_true rfl)) dX9_law_750 ⟨Nat.le_refl _, Nat.le_refl _⟩) hS hA hAM (fun i j hi hj h => hJ j i hj hi h.symm) hPF (fun H locs hPM hPF hS => ?_)
      refine lv_icmp_eq (tgt := 952) hx hb dX9_law_753 (by decide) (fun _ => ?_) (fun c1 => absurd rfl c1)
      exact fin σ1 τ1 hRl _ _ ls hPF hPM hS hl
    by_cases c13 : z = (13 : Int32)
    · refine lv_tableIn (tgt := 758) hx hb dX9_law_33 (by rw [c13]; decide) (by rw [c13]; decide) (by rw [c13]; rfl) (by decide) ?_
      refine lv_aload_n hx hb dX9_law_758 rfl (lv_at hl 1 rfl) ?_
      obtain ⟨r1, σ1, τ1, e1, e2, hRl⟩ := s_batch (show i ≤ 3072 by omega) hRl 
      refine fl_calli (va_runV (H := _) (As := []) (rest := []) ⟨hx, hb, hml, hown, hT⟩ (c_q_FairOrder_batch l D ca adF _ e1) (fl_c_76 hT ⟨Nat.le_of_ble_eq_true rfl, Nat.le_of_ble_eq_true rfl⟩) ⟨fo_Pre_blind, fo_rc0 hKF hPF (by decide), fo_Pre_at hPF hKF (hDF _)⟩ rfl rfl hl.1 rfl (lv_room (Nat.le_of_ble_eq_true rfl)) dX9_law_759 ⟨Nat.le_refl _, Nat.le_refl _⟩) hS hA hAF hJ hPM (fun H locs hPF hPM hS => ?_)
      refine lv_aload_n hx hb dX9_law_762 rfl (lv_at hl 2 rfl) ?_
      refine fl_calli (va_runV (H := _) (As := []) (rest := [.int r1]) ⟨hx, hb, hml, hown, hT⟩ (c_r_batch l D ca adM _ e2) (fl_c_79 hT ⟨Nat.le_of_ble_eq_true rfl, Nat.le_of_ble_eq_true rfl⟩) ⟨fo_Pre_blind, fr_rc0 hKM hPM (by decide), fo_Pre_at hPM hKM (hDM _)⟩ rfl rfl hl.1 rfl (lv_room (Nat.le_of_ble_eq_true rfl)) dX9_law_763 ⟨Nat.le_refl _, Nat.le_refl _⟩) hS hA hAM (fun i j hi hj h => hJ j i hj hi h.symm) hPF (fun H locs hPM hPF hS => ?_)
      refine lv_icmp_eq (tgt := 952) hx hb dX9_law_766 (by decide) (fun _ => ?_) (fun c1 => absurd rfl c1)
      exact fin σ1 τ1 hRl _ _ ls hPF hPM hS hl
    by_cases c14 : z = (14 : Int32)
    · refine lv_tableIn (tgt := 771) hx hb dX9_law_33 (by rw [c14]; decide) (by rw [c14]; decide) (by rw [c14]; rfl) (by decide) ?_
      refine lv_aload_n hx hb dX9_law_771 rfl (lv_at hl 1 rfl) ?_
      refine lv_aload_n hx hb dX9_law_772 rfl (lv_at hl 0 rfl) ?_
      refine lv_iload_n hx hb dX9_law_773 rfl (lv_at hl 3 rfl) ?_
      refine lv_iconst (v := 1) hx hb dX9_law_774 (by decide) ?_
      refine lv_iadd hx hb dX9_law_775 ?_
      refine va_sld hx hb hX hbl hbA hS (fl_in (k := 1) hiL hL (by decide)) dX9_law_776 ?_
      obtain ⟨r1, e1, e2⟩ := s_done (show i ≤ 3072 by omega) hRl (a1 := xs (nI i + (1 : Int32)).toNatClampNeg)
      refine fl_calli (va_runV (H := _) (As := [.int (xs (nI i + (1 : Int32)).toNatClampNeg)]) (rest := []) ⟨hx, hb, hml, hown, hT⟩ (c_q_FairOrder_done l D ca adF _ e1) (fl_c_80 hT ⟨Nat.le_of_ble_eq_true rfl, Nat.le_of_ble_eq_true rfl⟩) ⟨fo_Pre_blind, fo_rc0 hKF hPF (by decide), fo_Pre_at hPF hKF (hDF _)⟩ rfl rfl hl.1 rfl (lv_room (Nat.le_of_ble_eq_true rfl)) dX9_law_777 ⟨Nat.le_refl _, Nat.le_refl _⟩) hS hA hAF hJ hPM (fun H locs hPF hPM hS => ?_)
      refine lv_aload_n hx hb dX9_law_780 rfl (lv_at hl 2 rfl) ?_
      refine lv_aload_n hx hb dX9_law_781 rfl (lv_at hl 0 rfl) ?_
      refine lv_iload_n hx hb dX9_law_782 rfl (lv_at hl 3 rfl) ?_
      refine lv_iconst (v := 1) hx hb dX9_law_783 (by decide) ?_
      refine lv_iadd hx hb dX9_law_784 ?_
      refine va_sld hx hb hX hbl hbA hS (fl_in (k := 1) hiL hL (by decide)) dX9_law_785 ?_
      refine fl_calli (va_runV (H := _) (As := [.int (xs (nI i + (1 : Int32)).toNatClampNeg)]) (rest := [.int r1]) ⟨hx, hb, hml, hown, hT⟩ (c_r_done l D ca adM _ e2) (fl_c_83 hT ⟨Nat.le_of_ble_eq_true rfl, Nat.le_of_ble_eq_true rfl⟩) ⟨fo_Pre_blind, fr_rc0 hKM hPM (by decide), fo_Pre_at hPM hKM (hDM _)⟩ rfl rfl hl.1 rfl (lv_room (Nat.le_of_ble_eq_true rfl)) dX9_law_786 ⟨Nat.le_refl _, Nat.le_refl _⟩) hS hA hAM (fun i j hi hj h => hJ j i hj hi h.symm) hPF (fun H locs hPM hPF hS => ?_)
      refine lv_icmp_eq (tgt := 952) hx hb dX9_law_789 (by decide) (fun _ => ?_) (fun c1 => absurd rfl c1)
      exact fin σ τ (Rl_mono (Nat.le_succ i) hRl) _ _ ls hPF hPM hS hl
    by_cases c15 : z = (15 : Int32)
    · refine lv_tableIn (tgt := 794) hx hb dX9_law_33 (by rw [c15]; decide) (by rw [c15]; decide) (by rw [c15]; rfl) (by decide) ?_
      refine lv_aload_n hx hb dX9_law_794 rfl (lv_at hl 1 rfl) ?_
      refine lv_aload_n hx hb dX9_law_795 rfl (lv_at hl 0 rfl) ?_
      refine lv_iload_n hx hb dX9_law_796 rfl (lv_at hl 3 rfl) ?_
      refine lv_iconst (v := 1) hx hb dX9_law_797 (by decide) ?_
      refine lv_iadd hx hb dX9_law_798 ?_
      refine va_sld hx hb hX hbl hbA hS (fl_in (k := 1) hiL hL (by decide)) dX9_law_799 ?_
      obtain ⟨r1, e1, e2⟩ := s_passed (show i ≤ 3072 by omega) hRl (a1 := xs (nI i + (1 : Int32)).toNatClampNeg)
      refine fl_calll (va_runV (H := _) (As := [.int (xs (nI i + (1 : Int32)).toNatClampNeg)]) (rest := []) ⟨hx, hb, hml, hown, hT⟩ (c_q_FairOrder_passed l D ca adF _ e1) (fl_c_84 hT ⟨Nat.le_of_ble_eq_true rfl, Nat.le_of_ble_eq_true rfl⟩) ⟨fo_Pre_blind, fo_rc0 hKF hPF (by decide), fo_Pre_at hPF hKF (hDF _)⟩ rfl rfl hl.1 rfl (lv_room (Nat.le_of_ble_eq_true rfl)) dX9_law_800 ⟨Nat.le_refl _, Nat.le_refl _⟩) hS hA hAF hJ hPM (fun H locs hPF hPM hS => ?_)
      refine lv_aload_n hx hb dX9_law_803 rfl (lv_at hl 2 rfl) ?_
      refine lv_aload_n hx hb dX9_law_804 rfl (lv_at hl 0 rfl) ?_
      refine lv_iload_n hx hb dX9_law_805 rfl (lv_at hl 3 rfl) ?_
      refine lv_iconst (v := 1) hx hb dX9_law_806 (by decide) ?_
      refine lv_iadd hx hb dX9_law_807 ?_
      refine va_sld hx hb hX hbl hbA hS (fl_in (k := 1) hiL hL (by decide)) dX9_law_808 ?_
      refine fl_calll (va_runV (H := _) (As := [.int (xs (nI i + (1 : Int32)).toNatClampNeg)]) (rest := [.long r1]) ⟨hx, hb, hml, hown, hT⟩ (c_r_passed l D ca adM _ e2) (fl_c_88 hT ⟨Nat.le_of_ble_eq_true rfl, Nat.le_of_ble_eq_true rfl⟩) ⟨fo_Pre_blind, fr_rc0 hKM hPM (by decide), fo_Pre_at hPM hKM (hDM _)⟩ rfl rfl hl.1 rfl (lv_room (Nat.le_of_ble_eq_true rfl)) dX9_law_809 ⟨Nat.le_refl _, Nat.le_refl _⟩) hS hA hAM (fun i j hi hj h => hJ j i hj hi h.symm) hPF (fun H locs hPM hPF hS => ?_)
      refine W.lcmp hx hb dX9_law_812 ?_
      refine lv_if_eq (tgt := 952) hx hb dX9_law_813 (by decide) (fun _ => ?_) (fun c1 => absurd (fl_cmp r1) c1)
      exact fin σ τ (Rl_mono (Nat.le_succ i) hRl) _ _ ls hPF hPM hS hl
    by_cases c16 : z = (16 : Int32)
    · refine lv_tableIn (tgt := 818) hx hb dX9_law_33 (by rw [c16]; decide) (by rw [c16]; decide) (by rw [c16]; rfl) (by decide) ?_
      refine lv_aload_n hx hb dX9_law_818 rfl (lv_at hl 1 rfl) ?_
      refine lv_aload_n hx hb dX9_law_819 rfl (lv_at hl 0 rfl) ?_
      refine lv_iload_n hx hb dX9_law_820 rfl (lv_at hl 3 rfl) ?_
      refine lv_iconst (v := 1) hx hb dX9_law_821 (by decide) ?_
      refine lv_iadd hx hb dX9_law_822 ?_
      refine va_sld hx hb hX hbl hbA hS (fl_in (k := 1) hiL hL (by decide)) dX9_law_823 ?_
      refine lv_aload_n hx hb dX9_law_824 rfl (lv_at hl 0 rfl) ?_
      refine lv_iload_n hx hb dX9_law_825 rfl (lv_at hl 3 rfl) ?_
      refine lv_iconst (v := 2) hx hb dX9_law_826 (by decide) ?_
      refine lv_iadd hx hb dX9_law_827 ?_
      refine va_sld hx hb hX hbl hbA hS (fl_in (k := 2) hiL hL (by decide)) dX9_law_828 ?_
      refine lv_aload_n hx hb dX9_law_829 rfl (lv_at hl 0 rfl) ?_
      refine lv_iload_n hx hb dX9_law_830 rfl (lv_at hl 3 rfl) ?_
      refine lv_iconst (v := 3) hx hb dX9_law_831 (by decide) ?_
      refine lv_iadd hx hb dX9_law_832 ?_
      refine va_sld hx hb hX hbl hbA hS (fl_in (k := 3) hiL hL (by decide)) dX9_law_833 ?_
      obtain ⟨r1, σ1, τ1, e1, e2, hRl⟩ := s_gain (show i ≤ 3072 by omega) hRl (a1 := xs (nI i + (1 : Int32)).toNatClampNeg) (a2 := xs (nI i + (2 : Int32)).toNatClampNeg) (a3 := xs (nI i + (3 : Int32)).toNatClampNeg)
      refine fl_calll (va_runV (H := _) (As := [.int (xs (nI i + (1 : Int32)).toNatClampNeg), .int (xs (nI i + (2 : Int32)).toNatClampNeg), .int (xs (nI i + (3 : Int32)).toNatClampNeg)]) (rest := []) ⟨hx, hb, hml, hown, hT⟩ (c_q_FairOrder_gain l D ca adF _ e1) (fl_c_89 hT ⟨Nat.le_of_ble_eq_true rfl, Nat.le_of_ble_eq_true rfl⟩) ⟨fo_Pre_blind, fo_rc0 hKF hPF (by decide), fo_Pre_at hPF hKF (hDF _)⟩ rfl rfl hl.1 rfl (lv_room (Nat.le_of_ble_eq_true rfl)) dX9_law_834 ⟨Nat.le_refl _, Nat.le_refl _⟩) hS hA hAF hJ hPM (fun H locs hPF hPM hS => ?_)
      refine lv_aload_n hx hb dX9_law_837 rfl (lv_at hl 2 rfl) ?_
      refine lv_aload_n hx hb dX9_law_838 rfl (lv_at hl 0 rfl) ?_
      refine lv_iload_n hx hb dX9_law_839 rfl (lv_at hl 3 rfl) ?_
      refine lv_iconst (v := 1) hx hb dX9_law_840 (by decide) ?_
      refine lv_iadd hx hb dX9_law_841 ?_
      refine va_sld hx hb hX hbl hbA hS (fl_in (k := 1) hiL hL (by decide)) dX9_law_842 ?_
      refine lv_aload_n hx hb dX9_law_843 rfl (lv_at hl 0 rfl) ?_
      refine lv_iload_n hx hb dX9_law_844 rfl (lv_at hl 3 rfl) ?_
      refine lv_iconst (v := 2) hx hb dX9_law_845 (by decide) ?_
      refine lv_iadd hx hb dX9_law_846 ?_
      refine va_sld hx hb hX hbl hbA hS (fl_in (k := 2) hiL hL (by decide)) dX9_law_847 ?_
      refine lv_aload_n hx hb dX9_law_848 rfl (lv_at hl 0 rfl) ?_
      refine lv_iload_n hx hb dX9_law_849 rfl (lv_at hl 3 rfl) ?_
      refine lv_iconst (v := 3) hx hb dX9_law_850 (by decide) ?_
      refine lv_iadd hx hb dX9_law_851 ?_
      refine va_sld hx hb hX hbl hbA hS (fl_in (k := 3) hiL hL (by decide)) dX9_law_852 ?_
      refine fl_calll (va_runV (H := _) (As := [.int (xs (nI i + (1 : Int32)).toNatClampNeg), .int (xs (nI i + (2 : Int32)).toNatClampNeg), .int (xs (nI i + (3 : Int32)).toNatClampNeg)]) (rest := [.long r1]) ⟨hx, hb, hml, hown, hT⟩ (c_r_gain l D ca adM _ e2) (fl_c_93 hT ⟨Nat.le_of_ble_eq_true rfl, Nat.le_of_ble_eq_true rfl⟩) ⟨fo_Pre_blind, fr_rc0 hKM hPM (by decide), fo_Pre_at hPM hKM (hDM _)⟩ rfl rfl hl.1 rfl (lv_room (Nat.le_of_ble_eq_true rfl)) dX9_law_853 ⟨Nat.le_refl _, Nat.le_refl _⟩) hS hA hAM (fun i j hi hj h => hJ j i hj hi h.symm) hPF (fun H locs hPM hPF hS => ?_)
      refine W.lcmp hx hb dX9_law_856 ?_
      refine lv_if_eq (tgt := 952) hx hb dX9_law_857 (by decide) (fun _ => ?_) (fun c1 => absurd (fl_cmp r1) c1)
      exact fin σ1 τ1 hRl _ _ ls hPF hPM hS hl
    by_cases c17 : z = (17 : Int32)
    · refine lv_tableIn (tgt := 862) hx hb dX9_law_33 (by rw [c17]; decide) (by rw [c17]; decide) (by rw [c17]; rfl) (by decide) ?_
      refine lv_aload_n hx hb dX9_law_862 rfl (lv_at hl 1 rfl) ?_
      refine lv_aload_n hx hb dX9_law_863 rfl (lv_at hl 0 rfl) ?_
      refine lv_iload_n hx hb dX9_law_864 rfl (lv_at hl 3 rfl) ?_
      refine lv_iconst (v := 1) hx hb dX9_law_865 (by decide) ?_
      refine lv_iadd hx hb dX9_law_866 ?_
      refine va_sld hx hb hX hbl hbA hS (fl_in (k := 1) hiL hL (by decide)) dX9_law_867 ?_
      refine lv_aload_n hx hb dX9_law_868 rfl (lv_at hl 0 rfl) ?_
      refine lv_iload_n hx hb dX9_law_869 rfl (lv_at hl 3 rfl) ?_
      refine lv_iconst (v := 2) hx hb dX9_law_870 (by decide) ?_
      refine lv_iadd hx hb dX9_law_871 ?_
      refine va_sld hx hb hX hbl hbA hS (fl_in (k := 2) hiL hL (by decide)) dX9_law_872 ?_
      obtain ⟨r1, e1, e2⟩ := s_has (show i ≤ 3072 by omega) hRl (a1 := xs (nI i + (1 : Int32)).toNatClampNeg) (a2 := xs (nI i + (2 : Int32)).toNatClampNeg)
      refine fl_calll (va_runV (H := _) (As := [.int (xs (nI i + (1 : Int32)).toNatClampNeg), .int (xs (nI i + (2 : Int32)).toNatClampNeg)]) (rest := []) ⟨hx, hb, hml, hown, hT⟩ (c_q_FairOrder_has l D ca adF _ e1) (fl_c_94 hT ⟨Nat.le_of_ble_eq_true rfl, Nat.le_of_ble_eq_true rfl⟩) ⟨fo_Pre_blind, fo_rc0 hKF hPF (by decide), fo_Pre_at hPF hKF (hDF _)⟩ rfl rfl hl.1 rfl (lv_room (Nat.le_of_ble_eq_true rfl)) dX9_law_873 ⟨Nat.le_refl _, Nat.le_refl _⟩) hS hA hAF hJ hPM (fun H locs hPF hPM hS => ?_)
      refine lv_aload_n hx hb dX9_law_876 rfl (lv_at hl 2 rfl) ?_
      refine lv_aload_n hx hb dX9_law_877 rfl (lv_at hl 0 rfl) ?_
      refine lv_iload_n hx hb dX9_law_878 rfl (lv_at hl 3 rfl) ?_
      refine lv_iconst (v := 1) hx hb dX9_law_879 (by decide) ?_
      refine lv_iadd hx hb dX9_law_880 ?_
      refine va_sld hx hb hX hbl hbA hS (fl_in (k := 1) hiL hL (by decide)) dX9_law_881 ?_
      refine lv_aload_n hx hb dX9_law_882 rfl (lv_at hl 0 rfl) ?_
      refine lv_iload_n hx hb dX9_law_883 rfl (lv_at hl 3 rfl) ?_
      refine lv_iconst (v := 2) hx hb dX9_law_884 (by decide) ?_
      refine lv_iadd hx hb dX9_law_885 ?_
      refine va_sld hx hb hX hbl hbA hS (fl_in (k := 2) hiL hL (by decide)) dX9_law_886 ?_
      refine fl_calll (va_runV (H := _) (As := [.int (xs (nI i + (1 : Int32)).toNatClampNeg), .int (xs (nI i + (2 : Int32)).toNatClampNeg)]) (rest := [.long r1]) ⟨hx, hb, hml, hown, hT⟩ (c_r_has l D ca adM _ e2) (fl_c_98 hT ⟨Nat.le_of_ble_eq_true rfl, Nat.le_of_ble_eq_true rfl⟩) ⟨fo_Pre_blind, fr_rc0 hKM hPM (by decide), fo_Pre_at hPM hKM (hDM _)⟩ rfl rfl hl.1 rfl (lv_room (Nat.le_of_ble_eq_true rfl)) dX9_law_887 ⟨Nat.le_refl _, Nat.le_refl _⟩) hS hA hAM (fun i j hi hj h => hJ j i hj hi h.symm) hPF (fun H locs hPM hPF hS => ?_)
      refine W.lcmp hx hb dX9_law_890 ?_
      refine lv_if_eq (tgt := 952) hx hb dX9_law_891 (by decide) (fun _ => ?_) (fun c1 => absurd (fl_cmp r1) c1)
      exact fin σ τ (Rl_mono (Nat.le_succ i) hRl) _ _ ls hPF hPM hS hl
    by_cases c18 : z = (18 : Int32)
    · refine lv_tableIn (tgt := 896) hx hb dX9_law_33 (by rw [c18]; decide) (by rw [c18]; decide) (by rw [c18]; rfl) (by decide) ?_
      refine lv_aload_n hx hb dX9_law_896 rfl (lv_at hl 1 rfl) ?_
      refine lv_aload_n hx hb dX9_law_897 rfl (lv_at hl 0 rfl) ?_
      refine lv_iload_n hx hb dX9_law_898 rfl (lv_at hl 3 rfl) ?_
      refine lv_iconst (v := 1) hx hb dX9_law_899 (by decide) ?_
      refine lv_iadd hx hb dX9_law_900 ?_
      refine va_sld hx hb hX hbl hbA hS (fl_in (k := 1) hiL hL (by decide)) dX9_law_901 ?_
      refine lv_aload_n hx hb dX9_law_902 rfl (lv_at hl 0 rfl) ?_
      refine lv_iload_n hx hb dX9_law_903 rfl (lv_at hl 3 rfl) ?_
      refine lv_iconst (v := 2) hx hb dX9_law_904 (by decide) ?_
      refine lv_iadd hx hb dX9_law_905 ?_
      refine va_sld hx hb hX hbl hbA hS (fl_in (k := 2) hiL hL (by decide)) dX9_law_906 ?_
      obtain ⟨r1, e1, e2⟩ := s_of (show i ≤ 3072 by omega) hRl (a1 := xs (nI i + (1 : Int32)).toNatClampNeg) (a2 := xs (nI i + (2 : Int32)).toNatClampNeg)
      refine fl_calli (va_runV (H := _) (As := [.int (xs (nI i + (1 : Int32)).toNatClampNeg), .int (xs (nI i + (2 : Int32)).toNatClampNeg)]) (rest := []) ⟨hx, hb, hml, hown, hT⟩ (c_q_FairOrder_of l D ca adF _ e1) (fl_c_99 hT ⟨Nat.le_of_ble_eq_true rfl, Nat.le_of_ble_eq_true rfl⟩) ⟨fo_Pre_blind, fo_rc0 hKF hPF (by decide), fo_Pre_at hPF hKF (hDF _)⟩ rfl rfl hl.1 rfl (lv_room (Nat.le_of_ble_eq_true rfl)) dX9_law_907 ⟨Nat.le_refl _, Nat.le_refl _⟩) hS hA hAF hJ hPM (fun H locs hPF hPM hS => ?_)
      refine lv_aload_n hx hb dX9_law_910 rfl (lv_at hl 2 rfl) ?_
      refine lv_aload_n hx hb dX9_law_911 rfl (lv_at hl 0 rfl) ?_
      refine lv_iload_n hx hb dX9_law_912 rfl (lv_at hl 3 rfl) ?_
      refine lv_iconst (v := 1) hx hb dX9_law_913 (by decide) ?_
      refine lv_iadd hx hb dX9_law_914 ?_
      refine va_sld hx hb hX hbl hbA hS (fl_in (k := 1) hiL hL (by decide)) dX9_law_915 ?_
      refine lv_aload_n hx hb dX9_law_916 rfl (lv_at hl 0 rfl) ?_
      refine lv_iload_n hx hb dX9_law_917 rfl (lv_at hl 3 rfl) ?_
      refine lv_iconst (v := 2) hx hb dX9_law_918 (by decide) ?_
      refine lv_iadd hx hb dX9_law_919 ?_
      refine va_sld hx hb hX hbl hbA hS (fl_in (k := 2) hiL hL (by decide)) dX9_law_920 ?_
      refine fl_calli (va_runV (H := _) (As := [.int (xs (nI i + (1 : Int32)).toNatClampNeg), .int (xs (nI i + (2 : Int32)).toNatClampNeg)]) (rest := [.int r1]) ⟨hx, hb, hml, hown, hT⟩ (c_r_of l D ca adM _ e2) (fl_c_102 hT ⟨Nat.le_of_ble_eq_true rfl, Nat.le_of_ble_eq_true rfl⟩) ⟨fo_Pre_blind, fr_rc0 hKM hPM (by decide), fo_Pre_at hPM hKM (hDM _)⟩ rfl rfl hl.1 rfl (lv_room (Nat.le_of_ble_eq_true rfl)) dX9_law_921 ⟨Nat.le_refl _, Nat.le_refl _⟩) hS hA hAM (fun i j hi hj h => hJ j i hj hi h.symm) hPF (fun H locs hPM hPF hS => ?_)
      refine lv_icmp_eq (tgt := 952) hx hb dX9_law_924 (by decide) (fun _ => ?_) (fun c1 => absurd rfl c1)
      exact fin σ τ (Rl_mono (Nat.le_succ i) hRl) _ _ ls hPF hPM hS hl
    by_cases c19 : z = (19 : Int32)
    · refine lv_tableIn (tgt := 929) hx hb dX9_law_33 (by rw [c19]; decide) (by rw [c19]; decide) (by rw [c19]; rfl) (by decide) ?_
      refine lv_aload_n hx hb dX9_law_929 rfl (lv_at hl 1 rfl) ?_
      refine lv_aload_n hx hb dX9_law_930 rfl (lv_at hl 0 rfl) ?_
      refine lv_iload_n hx hb dX9_law_931 rfl (lv_at hl 3 rfl) ?_
      refine lv_iconst (v := 1) hx hb dX9_law_932 (by decide) ?_
      refine lv_iadd hx hb dX9_law_933 ?_
      refine va_sld hx hb hX hbl hbA hS (fl_in (k := 1) hiL hL (by decide)) dX9_law_934 ?_
      obtain ⟨r1, e1, e2⟩ := s_count (show i ≤ 3072 by omega) hRl (a1 := xs (nI i + (1 : Int32)).toNatClampNeg)
      refine fl_calli (va_runV (H := _) (As := [.int (xs (nI i + (1 : Int32)).toNatClampNeg)]) (rest := []) ⟨hx, hb, hml, hown, hT⟩ (c_q_FairOrder_count l D ca adF _ e1) (fl_c_103 hT ⟨Nat.le_of_ble_eq_true rfl, Nat.le_of_ble_eq_true rfl⟩) ⟨fo_Pre_blind, fo_rc0 hKF hPF (by decide), fo_Pre_at hPF hKF (hDF _)⟩ rfl rfl hl.1 rfl (lv_room (Nat.le_of_ble_eq_true rfl)) dX9_law_935 ⟨Nat.le_refl _, Nat.le_refl _⟩) hS hA hAF hJ hPM (fun H locs hPF hPM hS => ?_)
      refine lv_aload_n hx hb dX9_law_938 rfl (lv_at hl 2 rfl) ?_
      refine lv_aload_n hx hb dX9_law_939 rfl (lv_at hl 0 rfl) ?_
      refine lv_iload_n hx hb dX9_law_940 rfl (lv_at hl 3 rfl) ?_
      refine lv_iconst (v := 1) hx hb dX9_law_941 (by decide) ?_
      refine lv_iadd hx hb dX9_law_942 ?_
      refine va_sld hx hb hX hbl hbA hS (fl_in (k := 1) hiL hL (by decide)) dX9_law_943 ?_
      refine fl_calli (va_runV (H := _) (As := [.int (xs (nI i + (1 : Int32)).toNatClampNeg)]) (rest := [.int r1]) ⟨hx, hb, hml, hown, hT⟩ (c_r_count l D ca adM _ e2) (fl_c_106 hT ⟨Nat.le_of_ble_eq_true rfl, Nat.le_of_ble_eq_true rfl⟩) ⟨fo_Pre_blind, fr_rc0 hKM hPM (by decide), fo_Pre_at hPM hKM (hDM _)⟩ rfl rfl hl.1 rfl (lv_room (Nat.le_of_ble_eq_true rfl)) dX9_law_944 ⟨Nat.le_refl _, Nat.le_refl _⟩) hS hA hAM (fun i j hi hj h => hJ j i hj hi h.symm) hPF (fun H locs hPM hPF hS => ?_)
      refine lv_icmp_eq (tgt := 952) hx hb dX9_law_947 (by decide) (fun _ => ?_) (fun c1 => absurd rfl c1)
      exact fin σ τ (Rl_mono (Nat.le_succ i) hRl) _ _ ls hPF hPM hS hl
    refine lv_tableOut (tgt := 952) hx hb dX9_law_33 (by have e0 := lv_neT c0 (k := (0 : Int32)) (a := 0) (by decide); have e1 := lv_neT c1 (k := (1 : Int32)) (a := 1) (by decide); have e2 := lv_neT c2 (k := (2 : Int32)) (a := 2) (by decide); have e3 := lv_neT c3 (k := (3 : Int32)) (a := 3) (by decide); have e4 := lv_neT c4 (k := (4 : Int32)) (a := 4) (by decide); have e5 := lv_neT c5 (k := (5 : Int32)) (a := 5) (by decide); have e6 := lv_neT c6 (k := (6 : Int32)) (a := 6) (by decide); have e7 := lv_neT c7 (k := (7 : Int32)) (a := 7) (by decide); have e8 := lv_neT c8 (k := (8 : Int32)) (a := 8) (by decide); have e9 := lv_neT c9 (k := (9 : Int32)) (a := 9) (by decide); have e10 := lv_neT c10 (k := (10 : Int32)) (a := 10) (by decide); have e11 := lv_neT c11 (k := (11 : Int32)) (a := 11) (by decide); have e12 := lv_neT c12 (k := (12 : Int32)) (a := 12) (by decide); have e13 := lv_neT c13 (k := (13 : Int32)) (a := 13) (by decide); have e14 := lv_neT c14 (k := (14 : Int32)) (a := 14) (by decide); have e15 := lv_neT c15 (k := (15 : Int32)) (a := 15) (by decide); have e16 := lv_neT c16 (k := (16 : Int32)) (a := 16) (by decide); have e17 := lv_neT c17 (k := (17 : Int32)) (a := 17) (by decide); have e18 := lv_neT c18 (k := (18 : Int32)) (a := 18) (by decide); have e19 := lv_neT c19 (k := (19 : Int32)) (a := 19) (by decide); omega) (by decide) ?_
    exact fin σ τ (Rl_mono (Nat.le_succ i) hRl) _ _ ls hPF hPM hS hl
