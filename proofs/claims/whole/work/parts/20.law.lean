/-! ===== the law: its cases, its loop ===== -/
theorem lg_cmp_self (r : Int64) : lg_cmp r r = 0 := by
  unfold lg_cmp
  rw [if_neg (show ¬ r > r from fun h => absurd h (by simp [Int64.lt_iff_toInt_lt])), if_pos rfl]
def AX (ad : Nat → Nat) : Nat → Prop := fun q => ∃ k : Nat, k < 29 ∧ q = ad k
def AM (am : Nat → Nat) : Nat → Prop := fun q => ∃ k : Nat, k < 17 ∧ q = am k
def LC (p : Program) (s : State) (m : MethodId) (c : Code) (b L : Nat) (xs : Nat → Int32) (D : va_G) (cI cZ cS : ClassId) (ad am : Nat → Nat) : Prop := CallFix p m c cL_law 4 s #[Value.ref b] wsA RL ∧ KT D (tyS cI cZ cS) s ∧ va_X b L xs s s.heap ∧ b < s.heap.size ∧ (∀ ro σ, va_D (AX ad) (WX cI cZ cS ad ro σ)) ∧ (∀ σ, va_D (AM am) (WM cI am σ)) ∧ (∀ q, AX ad q → s.heap.size ≤ q) ∧ (∀ q, AM am q → s.heap.size ≤ q) ∧ (∀ q, AX ad q → ¬ AM am q)
theorem k_keep {D : va_G} {w : va_W} {H H1 : Heap} {A B : Nat → Prop} (hP : va_P D vwCl w H) (hD : va_D A w) (hk : ∀ q : Nat, q < H.size → ¬ B q → H1[q]? = H[q]?) (hn : ∀ q, A q → ¬ B q) : va_P D vwCl w H1 :=
  hP.kept fun k q hq => hk q.1 (hP k q hq).lt (hn q.1 (hD.2 k q hq))
theorem nI_in6 {i L : Nat} (k : Nat) (hk : k < 6) (h : i + 6 ≤ L) (hL : L ≤ 3072) : vp_in (nI i + Int32.ofNat k) L := by
  rw [show Int32.ofNat k = nI k from rfl, nI_add]
  exact vp_in_nI (by omega) (by omega)
def Sim_day (Rel : SX → SX → Prop) : Prop := ∀ σ τ : SX, Rel σ τ → ∀ (x1 x2 x3 x4 : Int32), ∃ r σ' τ', f_X4_day σ x1 x2 x3 x4 = some (r, σ') ∧ f_X5_day τ x1 x2 x3 x4 = some (r, τ') ∧ Rel σ' τ'
set_option maxRecDepth 100000 in
set_option maxHeartbeats 4000000 in
theorem law_day {p : Program} {l : Launch} {e : Env} {s : State} {m : MethodId} {below : List Frame} {meth : Method} {c : Code} {b L : Nat} {xs : Nat → Int32} {D : va_G} {cI cZ cS : ClassId} {ad am : Nat → Nat} {Rel : SX → SX → Prop} (hsim : Sim_day Rel) (C : LC p s m c b L xs D cI cZ cS ad am) (hL : L ≤ 3072) {i : Nat} (hi : i + 6 ≤ L) {Q : State → Prop} {σ τ : SX} {ro : Option Nat} {H : Heap} {locs : List Loc} {ls : Array Slot} (hR : Rel σ τ) (hPX : va_P D vwCl (WX cI cZ cS ad ro σ) H) (hPM : va_P D vwCl (WM cI am τ) H) (hS : va_S (fun q : Nat => s.heap.size ≤ q) s.heap H locs) (hl : lv_has ls 4 [(0, .ref b), (1, .ref (ad 0)), (2, .ref (am 0)), (3, .int (nI i))])
    (kk : ∀ (σ τ : SX) (ro : Option Nat) (H : Heap) (locs : List Loc), Rel σ τ → va_P D vwCl (WX cI cZ cS ad ro σ) H → va_P D vwCl (WM cI am τ) H → va_S (fun q : Nat => s.heap.size ≤ q) s.heap H locs → W p l e room_1 s m #[Value.ref b] below meth c H locs 48 2000 Q (F0 m 1251 ls [])) : W p l e room_1 s m #[Value.ref b] below meth c H locs 48 2000 Q (F0 m 180 ls []) := by
  obtain ⟨S, hK, hX, hbl, hAdX, hAdM, hAX, hAM, hdis⟩ := C
  have hx := S.1
  have hb := S.2.1
  have hbA : ¬ (fun q : Nat => s.heap.size ≤ q) b := Nat.not_le.mpr hbl
  obtain ⟨r, σ1, τ1, e1, e2, hR⟩ := hsim σ τ hR (xs (nI i + (1 : Int32)).toNatClampNeg) (xs (nI i + (2 : Int32)).toNatClampNeg) (xs (nI i + (3 : Int32)).toNatClampNeg) (xs (nI i + (4 : Int32)).toNatClampNeg)
  refine lv_aload_n hx hb dL_law_180 rfl (lv_at hl 1 rfl) ?_
  refine lv_aload_n hx hb dL_law_181 rfl (lv_at hl 0 rfl) ?_
  refine lv_iload_n hx hb dL_law_182 rfl (lv_at hl 3 rfl) ?_
  refine lv_iconst (v := (1 : Int32)) hx hb dL_law_183 (by decide) ?_
  refine lv_iadd hx hb dL_law_184 ?_
  refine va_sld hx hb hX hbl hbA hS (nI_in6 1 (by decide) hi hL) dL_law_185 ?_
  refine lv_aload_n hx hb dL_law_186 rfl (lv_at hl 0 rfl) ?_
  refine lv_iload_n hx hb dL_law_187 rfl (lv_at hl 3 rfl) ?_
  refine lv_iconst (v := (2 : Int32)) hx hb dL_law_188 (by decide) ?_
  refine lv_iadd hx hb dL_law_189 ?_
  refine va_sld hx hb hX hbl hbA hS (nI_in6 2 (by decide) hi hL) dL_law_190 ?_
  refine lv_aload_n hx hb dL_law_191 rfl (lv_at hl 0 rfl) ?_
  refine lv_iload_n hx hb dL_law_192 rfl (lv_at hl 3 rfl) ?_
  refine lv_iconst (v := (3 : Int32)) hx hb dL_law_193 (by decide) ?_
  refine lv_iadd hx hb dL_law_194 ?_
  refine va_sld hx hb hX hbl hbA hS (nI_in6 3 (by decide) hi hL) dL_law_195 ?_
  refine lv_aload_n hx hb dL_law_196 rfl (lv_at hl 0 rfl) ?_
  refine lv_iload_n hx hb dL_law_197 rfl (lv_at hl 3 rfl) ?_
  refine lv_iconst (v := (4 : Int32)) hx hb dL_law_198 (by decide) ?_
  refine lv_iadd hx hb dL_law_199 ?_
  refine va_sld hx hb hX hbl hbA hS (nI_in6 4 (by decide) hi hL) dL_law_200 ?_
  refine k_goIo (k_runV (As := [.int (xs (nI i + (1 : Int32)).toNatClampNeg), .int (xs (nI i + (2 : Int32)).toNatClampNeg), .int (xs (nI i + (3 : Int32)).toNatClampNeg), .int (xs (nI i + (4 : Int32)).toNatClampNeg)]) (rest := []) S hK hPX (k_X4_day l hAdX e1) cy_X4_day wd_218 rfl xO rfl hl.1 rfl (Nat.le_of_ble_eq_true rfl) dL_law_201 ⟨Nat.le_of_ble_eq_true rfl, Nat.le_of_ble_eq_true rfl⟩ ⟨Nat.le_of_ble_eq_true rfl, Nat.le_of_ble_eq_true rfl⟩) hS hAX (fun H1 locs1 ro1 hPX hS hz hk => ?_)
  have hPM := k_keep hPM (hAdM _) hk (fun q h1 h2 => hdis q h2 h1)
  refine lv_aload_n hx hb dL_law_204 rfl (lv_at hl 2 rfl) ?_
  refine lv_aload_n hx hb dL_law_205 rfl (lv_at hl 0 rfl) ?_
  refine lv_iload_n hx hb dL_law_206 rfl (lv_at hl 3 rfl) ?_
  refine lv_iconst (v := (1 : Int32)) hx hb dL_law_207 (by decide) ?_
  refine lv_iadd hx hb dL_law_208 ?_
  refine va_sld hx hb hX hbl hbA hS (nI_in6 1 (by decide) hi hL) dL_law_209 ?_
  refine lv_aload_n hx hb dL_law_210 rfl (lv_at hl 0 rfl) ?_
  refine lv_iload_n hx hb dL_law_211 rfl (lv_at hl 3 rfl) ?_
  refine lv_iconst (v := (2 : Int32)) hx hb dL_law_212 (by decide) ?_
  refine lv_iadd hx hb dL_law_213 ?_
  refine va_sld hx hb hX hbl hbA hS (nI_in6 2 (by decide) hi hL) dL_law_214 ?_
  refine lv_aload_n hx hb dL_law_215 rfl (lv_at hl 0 rfl) ?_
  refine lv_iload_n hx hb dL_law_216 rfl (lv_at hl 3 rfl) ?_
  refine lv_iconst (v := (3 : Int32)) hx hb dL_law_217 (by decide) ?_
  refine lv_iadd hx hb dL_law_218 ?_
  refine va_sld hx hb hX hbl hbA hS (nI_in6 3 (by decide) hi hL) dL_law_219 ?_
  refine lv_aload_n hx hb dL_law_220 rfl (lv_at hl 0 rfl) ?_
  refine lv_iload_n hx hb dL_law_221 rfl (lv_at hl 3 rfl) ?_
  refine lv_iconst (v := (4 : Int32)) hx hb dL_law_222 (by decide) ?_
  refine lv_iadd hx hb dL_law_223 ?_
  refine va_sld hx hb hX hbl hbA hS (nI_in6 4 (by decide) hi hL) dL_law_224 ?_
  refine k_goI (k_runV (As := [.int (xs (nI i + (1 : Int32)).toNatClampNeg), .int (xs (nI i + (2 : Int32)).toNatClampNeg), .int (xs (nI i + (3 : Int32)).toNatClampNeg), .int (xs (nI i + (4 : Int32)).toNatClampNeg)]) (rest := [.int r]) S hK hPM (k_X5_day l hAdM e2) cy_X5_day wd_731 rfl mO rfl hl.1 rfl (Nat.le_of_ble_eq_true rfl) dL_law_225 ⟨Nat.le_of_ble_eq_true rfl, Nat.le_of_ble_eq_true rfl⟩ ⟨Nat.le_of_ble_eq_true rfl, Nat.le_of_ble_eq_true rfl⟩) hS hAM (fun H2 locs2 hPM hS hz hk => ?_)
  have hPX := k_keep hPX (hAdX _ _) hk hdis
  refine lv_icmp_eq (tgt := 1251) hx hb dL_law_228 (by decide) (fun _ => ?_) (fun c => absurd rfl c)
  exact kk _ _ _ _ _ hR hPX hPM hS
def Sim_ofSwearer (Rel : SX → SX → Prop) : Prop := ∀ σ τ : SX, Rel σ τ → ∀ (x1 x2 : Int32), ∃ r, f_X4_ofSwearer σ x1 x2 = some r ∧ f_X5_ofSwearer τ x1 x2 = some r
set_option maxRecDepth 100000 in
set_option maxHeartbeats 4000000 in
theorem law_ofSwearer {p : Program} {l : Launch} {e : Env} {s : State} {m : MethodId} {below : List Frame} {meth : Method} {c : Code} {b L : Nat} {xs : Nat → Int32} {D : va_G} {cI cZ cS : ClassId} {ad am : Nat → Nat} {Rel : SX → SX → Prop} (hsim : Sim_ofSwearer Rel) (C : LC p s m c b L xs D cI cZ cS ad am) (hL : L ≤ 3072) {i : Nat} (hi : i + 6 ≤ L) {Q : State → Prop} {σ τ : SX} {ro : Option Nat} {H : Heap} {locs : List Loc} {ls : Array Slot} (hR : Rel σ τ) (hPX : va_P D vwCl (WX cI cZ cS ad ro σ) H) (hPM : va_P D vwCl (WM cI am τ) H) (hS : va_S (fun q : Nat => s.heap.size ≤ q) s.heap H locs) (hl : lv_has ls 4 [(0, .ref b), (1, .ref (ad 0)), (2, .ref (am 0)), (3, .int (nI i))])
    (kk : ∀ (σ τ : SX) (ro : Option Nat) (H : Heap) (locs : List Loc), Rel σ τ → va_P D vwCl (WX cI cZ cS ad ro σ) H → va_P D vwCl (WM cI am τ) H → va_S (fun q : Nat => s.heap.size ≤ q) s.heap H locs → W p l e room_1 s m #[Value.ref b] below meth c H locs 48 2000 Q (F0 m 1251 ls [])) : W p l e room_1 s m #[Value.ref b] below meth c H locs 48 2000 Q (F0 m 233 ls []) := by
  obtain ⟨S, hK, hX, hbl, hAdX, hAdM, hAX, hAM, hdis⟩ := C
  have hx := S.1
  have hb := S.2.1
  have hbA : ¬ (fun q : Nat => s.heap.size ≤ q) b := Nat.not_le.mpr hbl
  obtain ⟨r, e1, e2⟩ := hsim σ τ hR (xs (nI i + (1 : Int32)).toNatClampNeg) (xs (nI i + (2 : Int32)).toNatClampNeg)
  refine lv_aload_n hx hb dL_law_233 rfl (lv_at hl 1 rfl) ?_
  refine lv_aload_n hx hb dL_law_234 rfl (lv_at hl 0 rfl) ?_
  refine lv_iload_n hx hb dL_law_235 rfl (lv_at hl 3 rfl) ?_
  refine lv_iconst (v := (1 : Int32)) hx hb dL_law_236 (by decide) ?_
  refine lv_iadd hx hb dL_law_237 ?_
  refine va_sld hx hb hX hbl hbA hS (nI_in6 1 (by decide) hi hL) dL_law_238 ?_
  refine lv_aload_n hx hb dL_law_239 rfl (lv_at hl 0 rfl) ?_
  refine lv_iload_n hx hb dL_law_240 rfl (lv_at hl 3 rfl) ?_
  refine lv_iconst (v := (2 : Int32)) hx hb dL_law_241 (by decide) ?_
  refine lv_iadd hx hb dL_law_242 ?_
  refine va_sld hx hb hX hbl hbA hS (nI_in6 2 (by decide) hi hL) dL_law_243 ?_
  refine k_goI (k_runV (As := [.int (xs (nI i + (1 : Int32)).toNatClampNeg), .int (xs (nI i + (2 : Int32)).toNatClampNeg)]) (rest := []) S hK hPX (k_X4_ofSwearer l hAdX e1) cy_X4_ofSwearer wd_311 rfl xO rfl hl.1 rfl (Nat.le_of_ble_eq_true rfl) dL_law_244 ⟨Nat.le_of_ble_eq_true rfl, Nat.le_of_ble_eq_true rfl⟩ ⟨Nat.le_of_ble_eq_true rfl, Nat.le_of_ble_eq_true rfl⟩) hS hAX (fun H1 locs1 hPX hS hz hk => ?_)
  have hPM := k_keep hPM (hAdM _) hk (fun q h1 h2 => hdis q h2 h1)
  refine lv_aload_n hx hb dL_law_247 rfl (lv_at hl 2 rfl) ?_
  refine lv_aload_n hx hb dL_law_248 rfl (lv_at hl 0 rfl) ?_
  refine lv_iload_n hx hb dL_law_249 rfl (lv_at hl 3 rfl) ?_
  refine lv_iconst (v := (1 : Int32)) hx hb dL_law_250 (by decide) ?_
  refine lv_iadd hx hb dL_law_251 ?_
  refine va_sld hx hb hX hbl hbA hS (nI_in6 1 (by decide) hi hL) dL_law_252 ?_
  refine lv_aload_n hx hb dL_law_253 rfl (lv_at hl 0 rfl) ?_
  refine lv_iload_n hx hb dL_law_254 rfl (lv_at hl 3 rfl) ?_
  refine lv_iconst (v := (2 : Int32)) hx hb dL_law_255 (by decide) ?_
  refine lv_iadd hx hb dL_law_256 ?_
  refine va_sld hx hb hX hbl hbA hS (nI_in6 2 (by decide) hi hL) dL_law_257 ?_
  refine k_goI (k_runV (As := [.int (xs (nI i + (1 : Int32)).toNatClampNeg), .int (xs (nI i + (2 : Int32)).toNatClampNeg)]) (rest := [.int r]) S hK hPM (k_X5_ofSwearer l hAdM e2) cy_X5_ofSwearer wd_776 rfl mO rfl hl.1 rfl (Nat.le_of_ble_eq_true rfl) dL_law_258 ⟨Nat.le_of_ble_eq_true rfl, Nat.le_of_ble_eq_true rfl⟩ ⟨Nat.le_of_ble_eq_true rfl, Nat.le_of_ble_eq_true rfl⟩) hS hAM (fun H2 locs2 hPM hS hz hk => ?_)
  have hPX := k_keep hPX (hAdX _ _) hk hdis
  refine lv_icmp_eq (tgt := 1251) hx hb dL_law_261 (by decide) (fun _ => ?_) (fun c => absurd rfl c)
  exact kk _ _ _ _ _ hR hPX hPM hS
def Sim_ofOath (Rel : SX → SX → Prop) : Prop := ∀ σ τ : SX, Rel σ τ → ∀ (x1 x2 : Int32), ∃ r, f_X4_ofOath σ x1 x2 = some r ∧ f_X5_ofOath τ x1 x2 = some r
set_option maxRecDepth 100000 in
set_option maxHeartbeats 4000000 in
theorem law_ofOath {p : Program} {l : Launch} {e : Env} {s : State} {m : MethodId} {below : List Frame} {meth : Method} {c : Code} {b L : Nat} {xs : Nat → Int32} {D : va_G} {cI cZ cS : ClassId} {ad am : Nat → Nat} {Rel : SX → SX → Prop} (hsim : Sim_ofOath Rel) (C : LC p s m c b L xs D cI cZ cS ad am) (hL : L ≤ 3072) {i : Nat} (hi : i + 6 ≤ L) {Q : State → Prop} {σ τ : SX} {ro : Option Nat} {H : Heap} {locs : List Loc} {ls : Array Slot} (hR : Rel σ τ) (hPX : va_P D vwCl (WX cI cZ cS ad ro σ) H) (hPM : va_P D vwCl (WM cI am τ) H) (hS : va_S (fun q : Nat => s.heap.size ≤ q) s.heap H locs) (hl : lv_has ls 4 [(0, .ref b), (1, .ref (ad 0)), (2, .ref (am 0)), (3, .int (nI i))])
    (kk : ∀ (σ τ : SX) (ro : Option Nat) (H : Heap) (locs : List Loc), Rel σ τ → va_P D vwCl (WX cI cZ cS ad ro σ) H → va_P D vwCl (WM cI am τ) H → va_S (fun q : Nat => s.heap.size ≤ q) s.heap H locs → W p l e room_1 s m #[Value.ref b] below meth c H locs 48 2000 Q (F0 m 1251 ls [])) : W p l e room_1 s m #[Value.ref b] below meth c H locs 48 2000 Q (F0 m 266 ls []) := by
  obtain ⟨S, hK, hX, hbl, hAdX, hAdM, hAX, hAM, hdis⟩ := C
  have hx := S.1
  have hb := S.2.1
  have hbA : ¬ (fun q : Nat => s.heap.size ≤ q) b := Nat.not_le.mpr hbl
  obtain ⟨r, e1, e2⟩ := hsim σ τ hR (xs (nI i + (1 : Int32)).toNatClampNeg) (xs (nI i + (2 : Int32)).toNatClampNeg)
  refine lv_aload_n hx hb dL_law_266 rfl (lv_at hl 1 rfl) ?_
  refine lv_aload_n hx hb dL_law_267 rfl (lv_at hl 0 rfl) ?_
  refine lv_iload_n hx hb dL_law_268 rfl (lv_at hl 3 rfl) ?_
  refine lv_iconst (v := (1 : Int32)) hx hb dL_law_269 (by decide) ?_
  refine lv_iadd hx hb dL_law_270 ?_
  refine va_sld hx hb hX hbl hbA hS (nI_in6 1 (by decide) hi hL) dL_law_271 ?_
  refine lv_aload_n hx hb dL_law_272 rfl (lv_at hl 0 rfl) ?_
  refine lv_iload_n hx hb dL_law_273 rfl (lv_at hl 3 rfl) ?_
  refine lv_iconst (v := (2 : Int32)) hx hb dL_law_274 (by decide) ?_
  refine lv_iadd hx hb dL_law_275 ?_
  refine va_sld hx hb hX hbl hbA hS (nI_in6 2 (by decide) hi hL) dL_law_276 ?_
  refine k_goI (k_runV (As := [.int (xs (nI i + (1 : Int32)).toNatClampNeg), .int (xs (nI i + (2 : Int32)).toNatClampNeg)]) (rest := []) S hK hPX (k_X4_ofOath l hAdX e1) cy_X4_ofOath wd_348 rfl xO rfl hl.1 rfl (Nat.le_of_ble_eq_true rfl) dL_law_277 ⟨Nat.le_of_ble_eq_true rfl, Nat.le_of_ble_eq_true rfl⟩ ⟨Nat.le_of_ble_eq_true rfl, Nat.le_of_ble_eq_true rfl⟩) hS hAX (fun H1 locs1 hPX hS hz hk => ?_)
  have hPM := k_keep hPM (hAdM _) hk (fun q h1 h2 => hdis q h2 h1)
  refine lv_aload_n hx hb dL_law_280 rfl (lv_at hl 2 rfl) ?_
  refine lv_aload_n hx hb dL_law_281 rfl (lv_at hl 0 rfl) ?_
  refine lv_iload_n hx hb dL_law_282 rfl (lv_at hl 3 rfl) ?_
  refine lv_iconst (v := (1 : Int32)) hx hb dL_law_283 (by decide) ?_
  refine lv_iadd hx hb dL_law_284 ?_
  refine va_sld hx hb hX hbl hbA hS (nI_in6 1 (by decide) hi hL) dL_law_285 ?_
  refine lv_aload_n hx hb dL_law_286 rfl (lv_at hl 0 rfl) ?_
  refine lv_iload_n hx hb dL_law_287 rfl (lv_at hl 3 rfl) ?_
  refine lv_iconst (v := (2 : Int32)) hx hb dL_law_288 (by decide) ?_
  refine lv_iadd hx hb dL_law_289 ?_
  refine va_sld hx hb hX hbl hbA hS (nI_in6 2 (by decide) hi hL) dL_law_290 ?_
  refine k_goI (k_runV (As := [.int (xs (nI i + (1 : Int32)).toNatClampNeg), .int (xs (nI i + (2 : Int32)).toNatClampNeg)]) (rest := [.int r]) S hK hPM (k_X5_ofOath l hAdM e2) cy_X5_ofOath wd_812 rfl mO rfl hl.1 rfl (Nat.le_of_ble_eq_true rfl) dL_law_291 ⟨Nat.le_of_ble_eq_true rfl, Nat.le_of_ble_eq_true rfl⟩ ⟨Nat.le_of_ble_eq_true rfl, Nat.le_of_ble_eq_true rfl⟩) hS hAM (fun H2 locs2 hPM hS hz hk => ?_)
  have hPX := k_keep hPX (hAdX _ _) hk hdis
  refine lv_icmp_eq (tgt := 1251) hx hb dL_law_294 (by decide) (fun _ => ?_) (fun c => absurd rfl c)
  exact kk _ _ _ _ _ hR hPX hPM hS
def Sim_ofHour (Rel : SX → SX → Prop) : Prop := ∀ σ τ : SX, Rel σ τ → ∀ (x1 x2 : Int32), ∃ r, f_X4_ofHour σ x1 x2 = some r ∧ f_X5_ofHour τ x1 x2 = some r
set_option maxRecDepth 100000 in
set_option maxHeartbeats 4000000 in
theorem law_ofHour {p : Program} {l : Launch} {e : Env} {s : State} {m : MethodId} {below : List Frame} {meth : Method} {c : Code} {b L : Nat} {xs : Nat → Int32} {D : va_G} {cI cZ cS : ClassId} {ad am : Nat → Nat} {Rel : SX → SX → Prop} (hsim : Sim_ofHour Rel) (C : LC p s m c b L xs D cI cZ cS ad am) (hL : L ≤ 3072) {i : Nat} (hi : i + 6 ≤ L) {Q : State → Prop} {σ τ : SX} {ro : Option Nat} {H : Heap} {locs : List Loc} {ls : Array Slot} (hR : Rel σ τ) (hPX : va_P D vwCl (WX cI cZ cS ad ro σ) H) (hPM : va_P D vwCl (WM cI am τ) H) (hS : va_S (fun q : Nat => s.heap.size ≤ q) s.heap H locs) (hl : lv_has ls 4 [(0, .ref b), (1, .ref (ad 0)), (2, .ref (am 0)), (3, .int (nI i))])
    (kk : ∀ (σ τ : SX) (ro : Option Nat) (H : Heap) (locs : List Loc), Rel σ τ → va_P D vwCl (WX cI cZ cS ad ro σ) H → va_P D vwCl (WM cI am τ) H → va_S (fun q : Nat => s.heap.size ≤ q) s.heap H locs → W p l e room_1 s m #[Value.ref b] below meth c H locs 48 2000 Q (F0 m 1251 ls [])) : W p l e room_1 s m #[Value.ref b] below meth c H locs 48 2000 Q (F0 m 299 ls []) := by
  obtain ⟨S, hK, hX, hbl, hAdX, hAdM, hAX, hAM, hdis⟩ := C
  have hx := S.1
  have hb := S.2.1
  have hbA : ¬ (fun q : Nat => s.heap.size ≤ q) b := Nat.not_le.mpr hbl
  obtain ⟨r, e1, e2⟩ := hsim σ τ hR (xs (nI i + (1 : Int32)).toNatClampNeg) (xs (nI i + (2 : Int32)).toNatClampNeg)
  refine lv_aload_n hx hb dL_law_299 rfl (lv_at hl 1 rfl) ?_
  refine lv_aload_n hx hb dL_law_300 rfl (lv_at hl 0 rfl) ?_
  refine lv_iload_n hx hb dL_law_301 rfl (lv_at hl 3 rfl) ?_
  refine lv_iconst (v := (1 : Int32)) hx hb dL_law_302 (by decide) ?_
  refine lv_iadd hx hb dL_law_303 ?_
  refine va_sld hx hb hX hbl hbA hS (nI_in6 1 (by decide) hi hL) dL_law_304 ?_
  refine lv_aload_n hx hb dL_law_305 rfl (lv_at hl 0 rfl) ?_
  refine lv_iload_n hx hb dL_law_306 rfl (lv_at hl 3 rfl) ?_
  refine lv_iconst (v := (2 : Int32)) hx hb dL_law_307 (by decide) ?_
  refine lv_iadd hx hb dL_law_308 ?_
  refine va_sld hx hb hX hbl hbA hS (nI_in6 2 (by decide) hi hL) dL_law_309 ?_
  refine k_goI (k_runV (As := [.int (xs (nI i + (1 : Int32)).toNatClampNeg), .int (xs (nI i + (2 : Int32)).toNatClampNeg)]) (rest := []) S hK hPX (k_X4_ofHour l hAdX e1) cy_X4_ofHour wd_358 rfl xO rfl hl.1 rfl (Nat.le_of_ble_eq_true rfl) dL_law_310 ⟨Nat.le_of_ble_eq_true rfl, Nat.le_of_ble_eq_true rfl⟩ ⟨Nat.le_of_ble_eq_true rfl, Nat.le_of_ble_eq_true rfl⟩) hS hAX (fun H1 locs1 hPX hS hz hk => ?_)
  have hPM := k_keep hPM (hAdM _) hk (fun q h1 h2 => hdis q h2 h1)
  refine lv_aload_n hx hb dL_law_313 rfl (lv_at hl 2 rfl) ?_
  refine lv_aload_n hx hb dL_law_314 rfl (lv_at hl 0 rfl) ?_
  refine lv_iload_n hx hb dL_law_315 rfl (lv_at hl 3 rfl) ?_
  refine lv_iconst (v := (1 : Int32)) hx hb dL_law_316 (by decide) ?_
  refine lv_iadd hx hb dL_law_317 ?_
  refine va_sld hx hb hX hbl hbA hS (nI_in6 1 (by decide) hi hL) dL_law_318 ?_
  refine lv_aload_n hx hb dL_law_319 rfl (lv_at hl 0 rfl) ?_
  refine lv_iload_n hx hb dL_law_320 rfl (lv_at hl 3 rfl) ?_
  refine lv_iconst (v := (2 : Int32)) hx hb dL_law_321 (by decide) ?_
  refine lv_iadd hx hb dL_law_322 ?_
  refine va_sld hx hb hX hbl hbA hS (nI_in6 2 (by decide) hi hL) dL_law_323 ?_
  refine k_goI (k_runV (As := [.int (xs (nI i + (1 : Int32)).toNatClampNeg), .int (xs (nI i + (2 : Int32)).toNatClampNeg)]) (rest := [.int r]) S hK hPM (k_X5_ofHour l hAdM e2) cy_X5_ofHour wd_820 rfl mO rfl hl.1 rfl (Nat.le_of_ble_eq_true rfl) dL_law_324 ⟨Nat.le_of_ble_eq_true rfl, Nat.le_of_ble_eq_true rfl⟩ ⟨Nat.le_of_ble_eq_true rfl, Nat.le_of_ble_eq_true rfl⟩) hS hAM (fun H2 locs2 hPM hS hz hk => ?_)
  have hPX := k_keep hPX (hAdX _ _) hk hdis
  refine lv_icmp_eq (tgt := 1251) hx hb dL_law_327 (by decide) (fun _ => ?_) (fun c => absurd rfl c)
  exact kk _ _ _ _ _ hR hPX hPM hS
def Sim_chill (Rel : SX → SX → Prop) : Prop := ∀ σ τ : SX, Rel σ τ → ∀ (x1 x2 : Int32), ∃ r, f_X4_chill σ x1 x2 = some r ∧ f_X5_chill τ x1 x2 = some r
set_option maxRecDepth 100000 in
set_option maxHeartbeats 4000000 in
theorem law_chill {p : Program} {l : Launch} {e : Env} {s : State} {m : MethodId} {below : List Frame} {meth : Method} {c : Code} {b L : Nat} {xs : Nat → Int32} {D : va_G} {cI cZ cS : ClassId} {ad am : Nat → Nat} {Rel : SX → SX → Prop} (hsim : Sim_chill Rel) (C : LC p s m c b L xs D cI cZ cS ad am) (hL : L ≤ 3072) {i : Nat} (hi : i + 6 ≤ L) {Q : State → Prop} {σ τ : SX} {ro : Option Nat} {H : Heap} {locs : List Loc} {ls : Array Slot} (hR : Rel σ τ) (hPX : va_P D vwCl (WX cI cZ cS ad ro σ) H) (hPM : va_P D vwCl (WM cI am τ) H) (hS : va_S (fun q : Nat => s.heap.size ≤ q) s.heap H locs) (hl : lv_has ls 4 [(0, .ref b), (1, .ref (ad 0)), (2, .ref (am 0)), (3, .int (nI i))])
    (kk : ∀ (σ τ : SX) (ro : Option Nat) (H : Heap) (locs : List Loc), Rel σ τ → va_P D vwCl (WX cI cZ cS ad ro σ) H → va_P D vwCl (WM cI am τ) H → va_S (fun q : Nat => s.heap.size ≤ q) s.heap H locs → W p l e room_1 s m #[Value.ref b] below meth c H locs 48 2000 Q (F0 m 1251 ls [])) : W p l e room_1 s m #[Value.ref b] below meth c H locs 48 2000 Q (F0 m 332 ls []) := by
  obtain ⟨S, hK, hX, hbl, hAdX, hAdM, hAX, hAM, hdis⟩ := C
  have hx := S.1
  have hb := S.2.1
  have hbA : ¬ (fun q : Nat => s.heap.size ≤ q) b := Nat.not_le.mpr hbl
  obtain ⟨r, e1, e2⟩ := hsim σ τ hR (xs (nI i + (1 : Int32)).toNatClampNeg) (xs (nI i + (2 : Int32)).toNatClampNeg)
  refine lv_aload_n hx hb dL_law_332 rfl (lv_at hl 1 rfl) ?_
  refine lv_aload_n hx hb dL_law_333 rfl (lv_at hl 0 rfl) ?_
  refine lv_iload_n hx hb dL_law_334 rfl (lv_at hl 3 rfl) ?_
  refine lv_iconst (v := (1 : Int32)) hx hb dL_law_335 (by decide) ?_
  refine lv_iadd hx hb dL_law_336 ?_
  refine va_sld hx hb hX hbl hbA hS (nI_in6 1 (by decide) hi hL) dL_law_337 ?_
  refine lv_aload_n hx hb dL_law_338 rfl (lv_at hl 0 rfl) ?_
  refine lv_iload_n hx hb dL_law_339 rfl (lv_at hl 3 rfl) ?_
  refine lv_iconst (v := (2 : Int32)) hx hb dL_law_340 (by decide) ?_
  refine lv_iadd hx hb dL_law_341 ?_
  refine va_sld hx hb hX hbl hbA hS (nI_in6 2 (by decide) hi hL) dL_law_342 ?_
  refine k_goI (k_runV (As := [.int (xs (nI i + (1 : Int32)).toNatClampNeg), .int (xs (nI i + (2 : Int32)).toNatClampNeg)]) (rest := []) S hK hPX (k_X4_chill l hAdX e1) cy_X4_chill wd_370 rfl xO rfl hl.1 rfl (Nat.le_of_ble_eq_true rfl) dL_law_343 ⟨Nat.le_of_ble_eq_true rfl, Nat.le_of_ble_eq_true rfl⟩ ⟨Nat.le_of_ble_eq_true rfl, Nat.le_of_ble_eq_true rfl⟩) hS hAX (fun H1 locs1 hPX hS hz hk => ?_)
  have hPM := k_keep hPM (hAdM _) hk (fun q h1 h2 => hdis q h2 h1)
  refine lv_aload_n hx hb dL_law_346 rfl (lv_at hl 2 rfl) ?_
  refine lv_aload_n hx hb dL_law_347 rfl (lv_at hl 0 rfl) ?_
  refine lv_iload_n hx hb dL_law_348 rfl (lv_at hl 3 rfl) ?_
  refine lv_iconst (v := (1 : Int32)) hx hb dL_law_349 (by decide) ?_
  refine lv_iadd hx hb dL_law_350 ?_
  refine va_sld hx hb hX hbl hbA hS (nI_in6 1 (by decide) hi hL) dL_law_351 ?_
  refine lv_aload_n hx hb dL_law_352 rfl (lv_at hl 0 rfl) ?_
  refine lv_iload_n hx hb dL_law_353 rfl (lv_at hl 3 rfl) ?_
  refine lv_iconst (v := (2 : Int32)) hx hb dL_law_354 (by decide) ?_
  refine lv_iadd hx hb dL_law_355 ?_
  refine va_sld hx hb hX hbl hbA hS (nI_in6 2 (by decide) hi hL) dL_law_356 ?_
  refine k_goI (k_runV (As := [.int (xs (nI i + (1 : Int32)).toNatClampNeg), .int (xs (nI i + (2 : Int32)).toNatClampNeg)]) (rest := [.int r]) S hK hPM (k_X5_chill l hAdM e2) cy_X5_chill wd_832 rfl mO rfl hl.1 rfl (Nat.le_of_ble_eq_true rfl) dL_law_357 ⟨Nat.le_of_ble_eq_true rfl, Nat.le_of_ble_eq_true rfl⟩ ⟨Nat.le_of_ble_eq_true rfl, Nat.le_of_ble_eq_true rfl⟩) hS hAM (fun H2 locs2 hPM hS hz hk => ?_)
  have hPX := k_keep hPX (hAdX _ _) hk hdis
  refine lv_icmp_eq (tgt := 1251) hx hb dL_law_360 (by decide) (fun _ => ?_) (fun c => absurd rfl c)
  exact kk _ _ _ _ _ hR hPX hPM hS
def Sim_coat (Rel : SX → SX → Prop) : Prop := ∀ σ τ : SX, Rel σ τ → ∀ (x1 x2 : Int32), ∃ r σ' τ', f_X4_coat σ x1 x2 = some (r, σ') ∧ f_X5_coat τ x1 x2 = some (r, τ') ∧ Rel σ' τ'
set_option maxRecDepth 100000 in
set_option maxHeartbeats 4000000 in
theorem law_coat {p : Program} {l : Launch} {e : Env} {s : State} {m : MethodId} {below : List Frame} {meth : Method} {c : Code} {b L : Nat} {xs : Nat → Int32} {D : va_G} {cI cZ cS : ClassId} {ad am : Nat → Nat} {Rel : SX → SX → Prop} (hsim : Sim_coat Rel) (C : LC p s m c b L xs D cI cZ cS ad am) (hL : L ≤ 3072) {i : Nat} (hi : i + 6 ≤ L) {Q : State → Prop} {σ τ : SX} {ro : Option Nat} {H : Heap} {locs : List Loc} {ls : Array Slot} (hR : Rel σ τ) (hPX : va_P D vwCl (WX cI cZ cS ad ro σ) H) (hPM : va_P D vwCl (WM cI am τ) H) (hS : va_S (fun q : Nat => s.heap.size ≤ q) s.heap H locs) (hl : lv_has ls 4 [(0, .ref b), (1, .ref (ad 0)), (2, .ref (am 0)), (3, .int (nI i))])
    (kk : ∀ (σ τ : SX) (ro : Option Nat) (H : Heap) (locs : List Loc), Rel σ τ → va_P D vwCl (WX cI cZ cS ad ro σ) H → va_P D vwCl (WM cI am τ) H → va_S (fun q : Nat => s.heap.size ≤ q) s.heap H locs → W p l e room_1 s m #[Value.ref b] below meth c H locs 48 2000 Q (F0 m 1251 ls [])) : W p l e room_1 s m #[Value.ref b] below meth c H locs 48 2000 Q (F0 m 365 ls []) := by
  obtain ⟨S, hK, hX, hbl, hAdX, hAdM, hAX, hAM, hdis⟩ := C
  have hx := S.1
  have hb := S.2.1
  have hbA : ¬ (fun q : Nat => s.heap.size ≤ q) b := Nat.not_le.mpr hbl
  obtain ⟨r, σ1, τ1, e1, e2, hR⟩ := hsim σ τ hR (xs (nI i + (1 : Int32)).toNatClampNeg) (xs (nI i + (2 : Int32)).toNatClampNeg)
  refine lv_aload_n hx hb dL_law_365 rfl (lv_at hl 1 rfl) ?_
  refine lv_aload_n hx hb dL_law_366 rfl (lv_at hl 0 rfl) ?_
  refine lv_iload_n hx hb dL_law_367 rfl (lv_at hl 3 rfl) ?_
  refine lv_iconst (v := (1 : Int32)) hx hb dL_law_368 (by decide) ?_
  refine lv_iadd hx hb dL_law_369 ?_
  refine va_sld hx hb hX hbl hbA hS (nI_in6 1 (by decide) hi hL) dL_law_370 ?_
  refine lv_aload_n hx hb dL_law_371 rfl (lv_at hl 0 rfl) ?_
  refine lv_iload_n hx hb dL_law_372 rfl (lv_at hl 3 rfl) ?_
  refine lv_iconst (v := (2 : Int32)) hx hb dL_law_373 (by decide) ?_
  refine lv_iadd hx hb dL_law_374 ?_
  refine va_sld hx hb hX hbl hbA hS (nI_in6 2 (by decide) hi hL) dL_law_375 ?_
  refine k_goI (k_runV (As := [.int (xs (nI i + (1 : Int32)).toNatClampNeg), .int (xs (nI i + (2 : Int32)).toNatClampNeg)]) (rest := []) S hK hPX (k_X4_coat l hAdX e1) cy_X4_coat wd_374 rfl xO rfl hl.1 rfl (Nat.le_of_ble_eq_true rfl) dL_law_376 ⟨Nat.le_of_ble_eq_true rfl, Nat.le_of_ble_eq_true rfl⟩ ⟨Nat.le_of_ble_eq_true rfl, Nat.le_of_ble_eq_true rfl⟩) hS hAX (fun H1 locs1 hPX hS hz hk => ?_)
  have hPM := k_keep hPM (hAdM _) hk (fun q h1 h2 => hdis q h2 h1)
  refine lv_aload_n hx hb dL_law_379 rfl (lv_at hl 2 rfl) ?_
  refine lv_aload_n hx hb dL_law_380 rfl (lv_at hl 0 rfl) ?_
  refine lv_iload_n hx hb dL_law_381 rfl (lv_at hl 3 rfl) ?_
  refine lv_iconst (v := (1 : Int32)) hx hb dL_law_382 (by decide) ?_
  refine lv_iadd hx hb dL_law_383 ?_
  refine va_sld hx hb hX hbl hbA hS (nI_in6 1 (by decide) hi hL) dL_law_384 ?_
  refine lv_aload_n hx hb dL_law_385 rfl (lv_at hl 0 rfl) ?_
  refine lv_iload_n hx hb dL_law_386 rfl (lv_at hl 3 rfl) ?_
  refine lv_iconst (v := (2 : Int32)) hx hb dL_law_387 (by decide) ?_
  refine lv_iadd hx hb dL_law_388 ?_
  refine va_sld hx hb hX hbl hbA hS (nI_in6 2 (by decide) hi hL) dL_law_389 ?_
  refine k_goI (k_runV (As := [.int (xs (nI i + (1 : Int32)).toNatClampNeg), .int (xs (nI i + (2 : Int32)).toNatClampNeg)]) (rest := [.int r]) S hK hPM (k_X5_coat l hAdM e2) cy_X5_coat wd_836 rfl mO rfl hl.1 rfl (Nat.le_of_ble_eq_true rfl) dL_law_390 ⟨Nat.le_of_ble_eq_true rfl, Nat.le_of_ble_eq_true rfl⟩ ⟨Nat.le_of_ble_eq_true rfl, Nat.le_of_ble_eq_true rfl⟩) hS hAM (fun H2 locs2 hPM hS hz hk => ?_)
  have hPX := k_keep hPX (hAdX _ _) hk hdis
  refine lv_icmp_eq (tgt := 1251) hx hb dL_law_393 (by decide) (fun _ => ?_) (fun c => absurd rfl c)
  exact kk _ _ _ _ _ hR hPX hPM hS
def Sim_frost (Rel : SX → SX → Prop) : Prop := ∀ σ τ : SX, Rel σ τ → ∀ (x1 x2 : Int32), ∃ r σ' τ', f_X4_frost σ x1 x2 = some (r, σ') ∧ f_X5_frost τ x1 x2 = some (r, τ') ∧ Rel σ' τ'
set_option maxRecDepth 100000 in
set_option maxHeartbeats 4000000 in
theorem law_frost {p : Program} {l : Launch} {e : Env} {s : State} {m : MethodId} {below : List Frame} {meth : Method} {c : Code} {b L : Nat} {xs : Nat → Int32} {D : va_G} {cI cZ cS : ClassId} {ad am : Nat → Nat} {Rel : SX → SX → Prop} (hsim : Sim_frost Rel) (C : LC p s m c b L xs D cI cZ cS ad am) (hL : L ≤ 3072) {i : Nat} (hi : i + 6 ≤ L) {Q : State → Prop} {σ τ : SX} {ro : Option Nat} {H : Heap} {locs : List Loc} {ls : Array Slot} (hR : Rel σ τ) (hPX : va_P D vwCl (WX cI cZ cS ad ro σ) H) (hPM : va_P D vwCl (WM cI am τ) H) (hS : va_S (fun q : Nat => s.heap.size ≤ q) s.heap H locs) (hl : lv_has ls 4 [(0, .ref b), (1, .ref (ad 0)), (2, .ref (am 0)), (3, .int (nI i))])
    (kk : ∀ (σ τ : SX) (ro : Option Nat) (H : Heap) (locs : List Loc), Rel σ τ → va_P D vwCl (WX cI cZ cS ad ro σ) H → va_P D vwCl (WM cI am τ) H → va_S (fun q : Nat => s.heap.size ≤ q) s.heap H locs → W p l e room_1 s m #[Value.ref b] below meth c H locs 48 2000 Q (F0 m 1251 ls [])) : W p l e room_1 s m #[Value.ref b] below meth c H locs 48 2000 Q (F0 m 398 ls []) := by
  obtain ⟨S, hK, hX, hbl, hAdX, hAdM, hAX, hAM, hdis⟩ := C
  have hx := S.1
  have hb := S.2.1
  have hbA : ¬ (fun q : Nat => s.heap.size ≤ q) b := Nat.not_le.mpr hbl
  obtain ⟨r, σ1, τ1, e1, e2, hR⟩ := hsim σ τ hR (xs (nI i + (1 : Int32)).toNatClampNeg) (xs (nI i + (2 : Int32)).toNatClampNeg)
  refine lv_aload_n hx hb dL_law_398 rfl (lv_at hl 1 rfl) ?_
  refine lv_aload_n hx hb dL_law_399 rfl (lv_at hl 0 rfl) ?_
  refine lv_iload_n hx hb dL_law_400 rfl (lv_at hl 3 rfl) ?_
  refine lv_iconst (v := (1 : Int32)) hx hb dL_law_401 (by decide) ?_
  refine lv_iadd hx hb dL_law_402 ?_
  refine va_sld hx hb hX hbl hbA hS (nI_in6 1 (by decide) hi hL) dL_law_403 ?_
  refine lv_aload_n hx hb dL_law_404 rfl (lv_at hl 0 rfl) ?_
  refine lv_iload_n hx hb dL_law_405 rfl (lv_at hl 3 rfl) ?_
  refine lv_iconst (v := (2 : Int32)) hx hb dL_law_406 (by decide) ?_
  refine lv_iadd hx hb dL_law_407 ?_
  refine va_sld hx hb hX hbl hbA hS (nI_in6 2 (by decide) hi hL) dL_law_408 ?_
  refine k_goI (k_runV (As := [.int (xs (nI i + (1 : Int32)).toNatClampNeg), .int (xs (nI i + (2 : Int32)).toNatClampNeg)]) (rest := []) S hK hPX (k_X4_frost l hAdX e1) cy_X4_frost wd_381 rfl xO rfl hl.1 rfl (Nat.le_of_ble_eq_true rfl) dL_law_409 ⟨Nat.le_of_ble_eq_true rfl, Nat.le_of_ble_eq_true rfl⟩ ⟨Nat.le_of_ble_eq_true rfl, Nat.le_of_ble_eq_true rfl⟩) hS hAX (fun H1 locs1 hPX hS hz hk => ?_)
  have hPM := k_keep hPM (hAdM _) hk (fun q h1 h2 => hdis q h2 h1)
  refine lv_aload_n hx hb dL_law_412 rfl (lv_at hl 2 rfl) ?_
  refine lv_aload_n hx hb dL_law_413 rfl (lv_at hl 0 rfl) ?_
  refine lv_iload_n hx hb dL_law_414 rfl (lv_at hl 3 rfl) ?_
  refine lv_iconst (v := (1 : Int32)) hx hb dL_law_415 (by decide) ?_
  refine lv_iadd hx hb dL_law_416 ?_
  refine va_sld hx hb hX hbl hbA hS (nI_in6 1 (by decide) hi hL) dL_law_417 ?_
  refine lv_aload_n hx hb dL_law_418 rfl (lv_at hl 0 rfl) ?_
  refine lv_iload_n hx hb dL_law_419 rfl (lv_at hl 3 rfl) ?_
  refine lv_iconst (v := (2 : Int32)) hx hb dL_law_420 (by decide) ?_
  refine lv_iadd hx hb dL_law_421 ?_
  refine va_sld hx hb hX hbl hbA hS (nI_in6 2 (by decide) hi hL) dL_law_422 ?_
  refine k_goI (k_runV (As := [.int (xs (nI i + (1 : Int32)).toNatClampNeg), .int (xs (nI i + (2 : Int32)).toNatClampNeg)]) (rest := [.int r]) S hK hPM (k_X5_frost l hAdM e2) cy_X5_frost wd_840 rfl mO rfl hl.1 rfl (Nat.le_of_ble_eq_true rfl) dL_law_423 ⟨Nat.le_of_ble_eq_true rfl, Nat.le_of_ble_eq_true rfl⟩ ⟨Nat.le_of_ble_eq_true rfl, Nat.le_of_ble_eq_true rfl⟩) hS hAM (fun H2 locs2 hPM hS hz hk => ?_)
  have hPX := k_keep hPX (hAdX _ _) hk hdis
  refine lv_icmp_eq (tgt := 1251) hx hb dL_law_426 (by decide) (fun _ => ?_) (fun c => absurd rfl c)
  exact kk _ _ _ _ _ hR hPX hPM hS
def Sim_swear (Rel : SX → SX → Prop) : Prop := ∀ σ τ : SX, Rel σ τ → ∀ (x1 x2 x3 : Int32), ∃ r σ' τ', f_X4_swear σ x1 x2 x3 = some (r, σ') ∧ f_X5_swear τ x1 x2 x3 = some (r, τ') ∧ Rel σ' τ'
set_option maxRecDepth 100000 in
set_option maxHeartbeats 4000000 in
theorem law_swear {p : Program} {l : Launch} {e : Env} {s : State} {m : MethodId} {below : List Frame} {meth : Method} {c : Code} {b L : Nat} {xs : Nat → Int32} {D : va_G} {cI cZ cS : ClassId} {ad am : Nat → Nat} {Rel : SX → SX → Prop} (hsim : Sim_swear Rel) (C : LC p s m c b L xs D cI cZ cS ad am) (hL : L ≤ 3072) {i : Nat} (hi : i + 6 ≤ L) {Q : State → Prop} {σ τ : SX} {ro : Option Nat} {H : Heap} {locs : List Loc} {ls : Array Slot} (hR : Rel σ τ) (hPX : va_P D vwCl (WX cI cZ cS ad ro σ) H) (hPM : va_P D vwCl (WM cI am τ) H) (hS : va_S (fun q : Nat => s.heap.size ≤ q) s.heap H locs) (hl : lv_has ls 4 [(0, .ref b), (1, .ref (ad 0)), (2, .ref (am 0)), (3, .int (nI i))])
    (kk : ∀ (σ τ : SX) (ro : Option Nat) (H : Heap) (locs : List Loc), Rel σ τ → va_P D vwCl (WX cI cZ cS ad ro σ) H → va_P D vwCl (WM cI am τ) H → va_S (fun q : Nat => s.heap.size ≤ q) s.heap H locs → W p l e room_1 s m #[Value.ref b] below meth c H locs 48 2000 Q (F0 m 1251 ls [])) : W p l e room_1 s m #[Value.ref b] below meth c H locs 48 2000 Q (F0 m 431 ls []) := by
  obtain ⟨S, hK, hX, hbl, hAdX, hAdM, hAX, hAM, hdis⟩ := C
  have hx := S.1
  have hb := S.2.1
  have hbA : ¬ (fun q : Nat => s.heap.size ≤ q) b := Nat.not_le.mpr hbl
  obtain ⟨r, σ1, τ1, e1, e2, hR⟩ := hsim σ τ hR (xs (nI i + (1 : Int32)).toNatClampNeg) (xs (nI i + (2 : Int32)).toNatClampNeg) (xs (nI i + (3 : Int32)).toNatClampNeg)
  refine lv_aload_n hx hb dL_law_431 rfl (lv_at hl 1 rfl) ?_
  refine lv_aload_n hx hb dL_law_432 rfl (lv_at hl 0 rfl) ?_
  refine lv_iload_n hx hb dL_law_433 rfl (lv_at hl 3 rfl) ?_
  refine lv_iconst (v := (1 : Int32)) hx hb dL_law_434 (by decide) ?_
  refine lv_iadd hx hb dL_law_435 ?_
  refine va_sld hx hb hX hbl hbA hS (nI_in6 1 (by decide) hi hL) dL_law_436 ?_
  refine lv_aload_n hx hb dL_law_437 rfl (lv_at hl 0 rfl) ?_
  refine lv_iload_n hx hb dL_law_438 rfl (lv_at hl 3 rfl) ?_
  refine lv_iconst (v := (2 : Int32)) hx hb dL_law_439 (by decide) ?_
  refine lv_iadd hx hb dL_law_440 ?_
  refine va_sld hx hb hX hbl hbA hS (nI_in6 2 (by decide) hi hL) dL_law_441 ?_
  refine lv_aload_n hx hb dL_law_442 rfl (lv_at hl 0 rfl) ?_
  refine lv_iload_n hx hb dL_law_443 rfl (lv_at hl 3 rfl) ?_
  refine lv_iconst (v := (3 : Int32)) hx hb dL_law_444 (by decide) ?_
  refine lv_iadd hx hb dL_law_445 ?_
  refine va_sld hx hb hX hbl hbA hS (nI_in6 3 (by decide) hi hL) dL_law_446 ?_
  refine k_goI (k_runV (As := [.int (xs (nI i + (1 : Int32)).toNatClampNeg), .int (xs (nI i + (2 : Int32)).toNatClampNeg), .int (xs (nI i + (3 : Int32)).toNatClampNeg)]) (rest := []) S hK hPX (k_X4_swear l hAdX e1) cy_X4_swear wd_385 rfl xO rfl hl.1 rfl (Nat.le_of_ble_eq_true rfl) dL_law_447 ⟨Nat.le_of_ble_eq_true rfl, Nat.le_of_ble_eq_true rfl⟩ ⟨Nat.le_of_ble_eq_true rfl, Nat.le_of_ble_eq_true rfl⟩) hS hAX (fun H1 locs1 hPX hS hz hk => ?_)
  have hPM := k_keep hPM (hAdM _) hk (fun q h1 h2 => hdis q h2 h1)
  refine lv_aload_n hx hb dL_law_450 rfl (lv_at hl 2 rfl) ?_
  refine lv_aload_n hx hb dL_law_451 rfl (lv_at hl 0 rfl) ?_
  refine lv_iload_n hx hb dL_law_452 rfl (lv_at hl 3 rfl) ?_
  refine lv_iconst (v := (1 : Int32)) hx hb dL_law_453 (by decide) ?_
  refine lv_iadd hx hb dL_law_454 ?_
  refine va_sld hx hb hX hbl hbA hS (nI_in6 1 (by decide) hi hL) dL_law_455 ?_
  refine lv_aload_n hx hb dL_law_456 rfl (lv_at hl 0 rfl) ?_
  refine lv_iload_n hx hb dL_law_457 rfl (lv_at hl 3 rfl) ?_
  refine lv_iconst (v := (2 : Int32)) hx hb dL_law_458 (by decide) ?_
  refine lv_iadd hx hb dL_law_459 ?_
  refine va_sld hx hb hX hbl hbA hS (nI_in6 2 (by decide) hi hL) dL_law_460 ?_
  refine lv_aload_n hx hb dL_law_461 rfl (lv_at hl 0 rfl) ?_
  refine lv_iload_n hx hb dL_law_462 rfl (lv_at hl 3 rfl) ?_
  refine lv_iconst (v := (3 : Int32)) hx hb dL_law_463 (by decide) ?_
  refine lv_iadd hx hb dL_law_464 ?_
  refine va_sld hx hb hX hbl hbA hS (nI_in6 3 (by decide) hi hL) dL_law_465 ?_
  refine k_goI (k_runV (As := [.int (xs (nI i + (1 : Int32)).toNatClampNeg), .int (xs (nI i + (2 : Int32)).toNatClampNeg), .int (xs (nI i + (3 : Int32)).toNatClampNeg)]) (rest := [.int r]) S hK hPM (k_X5_swear l hAdM e2) cy_X5_swear wd_844 rfl mO rfl hl.1 rfl (Nat.le_of_ble_eq_true rfl) dL_law_466 ⟨Nat.le_of_ble_eq_true rfl, Nat.le_of_ble_eq_true rfl⟩ ⟨Nat.le_of_ble_eq_true rfl, Nat.le_of_ble_eq_true rfl⟩) hS hAM (fun H2 locs2 hPM hS hz hk => ?_)
  have hPX := k_keep hPX (hAdX _ _) hk hdis
  refine lv_icmp_eq (tgt := 1251) hx hb dL_law_469 (by decide) (fun _ => ?_) (fun c => absurd rfl c)
  exact kk _ _ _ _ _ hR hPX hPM hS
def Sim_release (Rel : SX → SX → Prop) : Prop := ∀ σ τ : SX, Rel σ τ → ∀ (x1 : Int32), ∃ r σ' τ', f_X4_release σ x1 = some (r, σ') ∧ f_X5_release τ x1 = some (r, τ') ∧ Rel σ' τ'
set_option maxRecDepth 100000 in
set_option maxHeartbeats 4000000 in
theorem law_release {p : Program} {l : Launch} {e : Env} {s : State} {m : MethodId} {below : List Frame} {meth : Method} {c : Code} {b L : Nat} {xs : Nat → Int32} {D : va_G} {cI cZ cS : ClassId} {ad am : Nat → Nat} {Rel : SX → SX → Prop} (hsim : Sim_release Rel) (C : LC p s m c b L xs D cI cZ cS ad am) (hL : L ≤ 3072) {i : Nat} (hi : i + 6 ≤ L) {Q : State → Prop} {σ τ : SX} {ro : Option Nat} {H : Heap} {locs : List Loc} {ls : Array Slot} (hR : Rel σ τ) (hPX : va_P D vwCl (WX cI cZ cS ad ro σ) H) (hPM : va_P D vwCl (WM cI am τ) H) (hS : va_S (fun q : Nat => s.heap.size ≤ q) s.heap H locs) (hl : lv_has ls 4 [(0, .ref b), (1, .ref (ad 0)), (2, .ref (am 0)), (3, .int (nI i))])
    (kk : ∀ (σ τ : SX) (ro : Option Nat) (H : Heap) (locs : List Loc), Rel σ τ → va_P D vwCl (WX cI cZ cS ad ro σ) H → va_P D vwCl (WM cI am τ) H → va_S (fun q : Nat => s.heap.size ≤ q) s.heap H locs → W p l e room_1 s m #[Value.ref b] below meth c H locs 48 2000 Q (F0 m 1251 ls [])) : W p l e room_1 s m #[Value.ref b] below meth c H locs 48 2000 Q (F0 m 474 ls []) := by
  obtain ⟨S, hK, hX, hbl, hAdX, hAdM, hAX, hAM, hdis⟩ := C
  have hx := S.1
  have hb := S.2.1
  have hbA : ¬ (fun q : Nat => s.heap.size ≤ q) b := Nat.not_le.mpr hbl
  obtain ⟨r, σ1, τ1, e1, e2, hR⟩ := hsim σ τ hR (xs (nI i + (1 : Int32)).toNatClampNeg)
  refine lv_aload_n hx hb dL_law_474 rfl (lv_at hl 1 rfl) ?_
  refine lv_aload_n hx hb dL_law_475 rfl (lv_at hl 0 rfl) ?_
  refine lv_iload_n hx hb dL_law_476 rfl (lv_at hl 3 rfl) ?_
  refine lv_iconst (v := (1 : Int32)) hx hb dL_law_477 (by decide) ?_
  refine lv_iadd hx hb dL_law_478 ?_
  refine va_sld hx hb hX hbl hbA hS (nI_in6 1 (by decide) hi hL) dL_law_479 ?_
  refine k_goI (k_runV (As := [.int (xs (nI i + (1 : Int32)).toNatClampNeg)]) (rest := []) S hK hPX (k_X4_release l hAdX e1) cy_X4_release wd_390 rfl xO rfl hl.1 rfl (Nat.le_of_ble_eq_true rfl) dL_law_480 ⟨Nat.le_of_ble_eq_true rfl, Nat.le_of_ble_eq_true rfl⟩ ⟨Nat.le_of_ble_eq_true rfl, Nat.le_of_ble_eq_true rfl⟩) hS hAX (fun H1 locs1 hPX hS hz hk => ?_)
  have hPM := k_keep hPM (hAdM _) hk (fun q h1 h2 => hdis q h2 h1)
  refine lv_aload_n hx hb dL_law_483 rfl (lv_at hl 2 rfl) ?_
  refine lv_aload_n hx hb dL_law_484 rfl (lv_at hl 0 rfl) ?_
  refine lv_iload_n hx hb dL_law_485 rfl (lv_at hl 3 rfl) ?_
  refine lv_iconst (v := (1 : Int32)) hx hb dL_law_486 (by decide) ?_
  refine lv_iadd hx hb dL_law_487 ?_
  refine va_sld hx hb hX hbl hbA hS (nI_in6 1 (by decide) hi hL) dL_law_488 ?_
  refine k_goI (k_runV (As := [.int (xs (nI i + (1 : Int32)).toNatClampNeg)]) (rest := [.int r]) S hK hPM (k_X5_release l hAdM e2) cy_X5_release wd_848 rfl mO rfl hl.1 rfl (Nat.le_of_ble_eq_true rfl) dL_law_489 ⟨Nat.le_of_ble_eq_true rfl, Nat.le_of_ble_eq_true rfl⟩ ⟨Nat.le_of_ble_eq_true rfl, Nat.le_of_ble_eq_true rfl⟩) hS hAM (fun H2 locs2 hPM hS hz hk => ?_)
  have hPX := k_keep hPX (hAdX _ _) hk hdis
  refine lv_icmp_eq (tgt := 1251) hx hb dL_law_492 (by decide) (fun _ => ?_) (fun c => absurd rfl c)
  exact kk _ _ _ _ _ hR hPX hPM hS
def Sim_stove (Rel : SX → SX → Prop) : Prop := ∀ σ τ : SX, Rel σ τ → ∀ (x1 x2 : Int32), ∃ r σ' τ', f_X4_stove σ x1 x2 = some (r, σ') ∧ f_X5_stove τ x1 x2 = some (r, τ') ∧ Rel σ' τ'
set_option maxRecDepth 100000 in
set_option maxHeartbeats 4000000 in
theorem law_stove {p : Program} {l : Launch} {e : Env} {s : State} {m : MethodId} {below : List Frame} {meth : Method} {c : Code} {b L : Nat} {xs : Nat → Int32} {D : va_G} {cI cZ cS : ClassId} {ad am : Nat → Nat} {Rel : SX → SX → Prop} (hsim : Sim_stove Rel) (C : LC p s m c b L xs D cI cZ cS ad am) (hL : L ≤ 3072) {i : Nat} (hi : i + 6 ≤ L) {Q : State → Prop} {σ τ : SX} {ro : Option Nat} {H : Heap} {locs : List Loc} {ls : Array Slot} (hR : Rel σ τ) (hPX : va_P D vwCl (WX cI cZ cS ad ro σ) H) (hPM : va_P D vwCl (WM cI am τ) H) (hS : va_S (fun q : Nat => s.heap.size ≤ q) s.heap H locs) (hl : lv_has ls 4 [(0, .ref b), (1, .ref (ad 0)), (2, .ref (am 0)), (3, .int (nI i))])
    (kk : ∀ (σ τ : SX) (ro : Option Nat) (H : Heap) (locs : List Loc), Rel σ τ → va_P D vwCl (WX cI cZ cS ad ro σ) H → va_P D vwCl (WM cI am τ) H → va_S (fun q : Nat => s.heap.size ≤ q) s.heap H locs → W p l e room_1 s m #[Value.ref b] below meth c H locs 48 2000 Q (F0 m 1251 ls [])) : W p l e room_1 s m #[Value.ref b] below meth c H locs 48 2000 Q (F0 m 497 ls []) := by
  obtain ⟨S, hK, hX, hbl, hAdX, hAdM, hAX, hAM, hdis⟩ := C
  have hx := S.1
  have hb := S.2.1
  have hbA : ¬ (fun q : Nat => s.heap.size ≤ q) b := Nat.not_le.mpr hbl
  obtain ⟨r, σ1, τ1, e1, e2, hR⟩ := hsim σ τ hR (xs (nI i + (1 : Int32)).toNatClampNeg) (xs (nI i + (2 : Int32)).toNatClampNeg)
  refine lv_aload_n hx hb dL_law_497 rfl (lv_at hl 1 rfl) ?_
  refine lv_aload_n hx hb dL_law_498 rfl (lv_at hl 0 rfl) ?_
  refine lv_iload_n hx hb dL_law_499 rfl (lv_at hl 3 rfl) ?_
  refine lv_iconst (v := (1 : Int32)) hx hb dL_law_500 (by decide) ?_
  refine lv_iadd hx hb dL_law_501 ?_
  refine va_sld hx hb hX hbl hbA hS (nI_in6 1 (by decide) hi hL) dL_law_502 ?_
  refine lv_aload_n hx hb dL_law_503 rfl (lv_at hl 0 rfl) ?_
  refine lv_iload_n hx hb dL_law_504 rfl (lv_at hl 3 rfl) ?_
  refine lv_iconst (v := (2 : Int32)) hx hb dL_law_505 (by decide) ?_
  refine lv_iadd hx hb dL_law_506 ?_
  refine va_sld hx hb hX hbl hbA hS (nI_in6 2 (by decide) hi hL) dL_law_507 ?_
  refine k_goI (k_runV (As := [.int (xs (nI i + (1 : Int32)).toNatClampNeg), .int (xs (nI i + (2 : Int32)).toNatClampNeg)]) (rest := []) S hK hPX (k_X4_stove l hAdX e1) cy_X4_stove wd_399 rfl xO rfl hl.1 rfl (Nat.le_of_ble_eq_true rfl) dL_law_508 ⟨Nat.le_of_ble_eq_true rfl, Nat.le_of_ble_eq_true rfl⟩ ⟨Nat.le_of_ble_eq_true rfl, Nat.le_of_ble_eq_true rfl⟩) hS hAX (fun H1 locs1 hPX hS hz hk => ?_)
  have hPM := k_keep hPM (hAdM _) hk (fun q h1 h2 => hdis q h2 h1)
  refine lv_aload_n hx hb dL_law_511 rfl (lv_at hl 2 rfl) ?_
  refine lv_aload_n hx hb dL_law_512 rfl (lv_at hl 0 rfl) ?_
  refine lv_iload_n hx hb dL_law_513 rfl (lv_at hl 3 rfl) ?_
  refine lv_iconst (v := (1 : Int32)) hx hb dL_law_514 (by decide) ?_
  refine lv_iadd hx hb dL_law_515 ?_
  refine va_sld hx hb hX hbl hbA hS (nI_in6 1 (by decide) hi hL) dL_law_516 ?_
  refine lv_aload_n hx hb dL_law_517 rfl (lv_at hl 0 rfl) ?_
  refine lv_iload_n hx hb dL_law_518 rfl (lv_at hl 3 rfl) ?_
  refine lv_iconst (v := (2 : Int32)) hx hb dL_law_519 (by decide) ?_
  refine lv_iadd hx hb dL_law_520 ?_
  refine va_sld hx hb hX hbl hbA hS (nI_in6 2 (by decide) hi hL) dL_law_521 ?_
  refine k_goI (k_runV (As := [.int (xs (nI i + (1 : Int32)).toNatClampNeg), .int (xs (nI i + (2 : Int32)).toNatClampNeg)]) (rest := [.int r]) S hK hPM (k_X5_stove l hAdM e2) cy_X5_stove wd_856 rfl mO rfl hl.1 rfl (Nat.le_of_ble_eq_true rfl) dL_law_522 ⟨Nat.le_of_ble_eq_true rfl, Nat.le_of_ble_eq_true rfl⟩ ⟨Nat.le_of_ble_eq_true rfl, Nat.le_of_ble_eq_true rfl⟩) hS hAM (fun H2 locs2 hPM hS hz hk => ?_)
  have hPX := k_keep hPX (hAdX _ _) hk hdis
  refine lv_icmp_eq (tgt := 1251) hx hb dL_law_525 (by decide) (fun _ => ?_) (fun c => absurd rfl c)
  exact kk _ _ _ _ _ hR hPX hPM hS
def Sim_trial (Rel : SX → SX → Prop) : Prop := ∀ σ τ : SX, Rel σ τ → ∀ (x1 x2 x3 x4 x5 : Int32), ∃ r σ' τ', f_X4_trial σ x1 x2 x3 x4 x5 = some (r, σ') ∧ f_X5_trial τ x1 x2 x3 x4 x5 = some (r, τ') ∧ Rel σ' τ'
set_option maxRecDepth 100000 in
set_option maxHeartbeats 4000000 in
theorem law_trial {p : Program} {l : Launch} {e : Env} {s : State} {m : MethodId} {below : List Frame} {meth : Method} {c : Code} {b L : Nat} {xs : Nat → Int32} {D : va_G} {cI cZ cS : ClassId} {ad am : Nat → Nat} {Rel : SX → SX → Prop} (hsim : Sim_trial Rel) (C : LC p s m c b L xs D cI cZ cS ad am) (hL : L ≤ 3072) {i : Nat} (hi : i + 6 ≤ L) {Q : State → Prop} {σ τ : SX} {ro : Option Nat} {H : Heap} {locs : List Loc} {ls : Array Slot} (hR : Rel σ τ) (hPX : va_P D vwCl (WX cI cZ cS ad ro σ) H) (hPM : va_P D vwCl (WM cI am τ) H) (hS : va_S (fun q : Nat => s.heap.size ≤ q) s.heap H locs) (hl : lv_has ls 4 [(0, .ref b), (1, .ref (ad 0)), (2, .ref (am 0)), (3, .int (nI i))])
    (kk : ∀ (σ τ : SX) (ro : Option Nat) (H : Heap) (locs : List Loc), Rel σ τ → va_P D vwCl (WX cI cZ cS ad ro σ) H → va_P D vwCl (WM cI am τ) H → va_S (fun q : Nat => s.heap.size ≤ q) s.heap H locs → W p l e room_1 s m #[Value.ref b] below meth c H locs 48 2000 Q (F0 m 1251 ls [])) : W p l e room_1 s m #[Value.ref b] below meth c H locs 48 2000 Q (F0 m 530 ls []) := by
  obtain ⟨S, hK, hX, hbl, hAdX, hAdM, hAX, hAM, hdis⟩ := C
  have hx := S.1
  have hb := S.2.1
  have hbA : ¬ (fun q : Nat => s.heap.size ≤ q) b := Nat.not_le.mpr hbl
  obtain ⟨r, σ1, τ1, e1, e2, hR⟩ := hsim σ τ hR (xs (nI i + (1 : Int32)).toNatClampNeg) (xs (nI i + (2 : Int32)).toNatClampNeg) (xs (nI i + (3 : Int32)).toNatClampNeg) (xs (nI i + (4 : Int32)).toNatClampNeg) (xs (nI i + (5 : Int32)).toNatClampNeg)
  refine lv_aload_n hx hb dL_law_530 rfl (lv_at hl 1 rfl) ?_
  refine lv_aload_n hx hb dL_law_531 rfl (lv_at hl 0 rfl) ?_
  refine lv_iload_n hx hb dL_law_532 rfl (lv_at hl 3 rfl) ?_
  refine lv_iconst (v := (1 : Int32)) hx hb dL_law_533 (by decide) ?_
  refine lv_iadd hx hb dL_law_534 ?_
  refine va_sld hx hb hX hbl hbA hS (nI_in6 1 (by decide) hi hL) dL_law_535 ?_
  refine lv_aload_n hx hb dL_law_536 rfl (lv_at hl 0 rfl) ?_
  refine lv_iload_n hx hb dL_law_537 rfl (lv_at hl 3 rfl) ?_
  refine lv_iconst (v := (2 : Int32)) hx hb dL_law_538 (by decide) ?_
  refine lv_iadd hx hb dL_law_539 ?_
  refine va_sld hx hb hX hbl hbA hS (nI_in6 2 (by decide) hi hL) dL_law_540 ?_
  refine lv_aload_n hx hb dL_law_541 rfl (lv_at hl 0 rfl) ?_
  refine lv_iload_n hx hb dL_law_542 rfl (lv_at hl 3 rfl) ?_
  refine lv_iconst (v := (3 : Int32)) hx hb dL_law_543 (by decide) ?_
  refine lv_iadd hx hb dL_law_544 ?_
  refine va_sld hx hb hX hbl hbA hS (nI_in6 3 (by decide) hi hL) dL_law_545 ?_
  refine lv_aload_n hx hb dL_law_546 rfl (lv_at hl 0 rfl) ?_
  refine lv_iload_n hx hb dL_law_547 rfl (lv_at hl 3 rfl) ?_
  refine lv_iconst (v := (4 : Int32)) hx hb dL_law_548 (by decide) ?_
  refine lv_iadd hx hb dL_law_549 ?_
  refine va_sld hx hb hX hbl hbA hS (nI_in6 4 (by decide) hi hL) dL_law_550 ?_
  refine lv_aload_n hx hb dL_law_551 rfl (lv_at hl 0 rfl) ?_
  refine lv_iload_n hx hb dL_law_552 rfl (lv_at hl 3 rfl) ?_
  refine lv_iconst (v := (5 : Int32)) hx hb dL_law_553 (by decide) ?_
  refine lv_iadd hx hb dL_law_554 ?_
  refine va_sld hx hb hX hbl hbA hS (nI_in6 5 (by decide) hi hL) dL_law_555 ?_
  refine k_goI (k_runV (As := [.int (xs (nI i + (1 : Int32)).toNatClampNeg), .int (xs (nI i + (2 : Int32)).toNatClampNeg), .int (xs (nI i + (3 : Int32)).toNatClampNeg), .int (xs (nI i + (4 : Int32)).toNatClampNeg), .int (xs (nI i + (5 : Int32)).toNatClampNeg)]) (rest := []) S hK hPX (k_X4_trial l hAdX e1) cy_X4_trial wd_414 rfl xO rfl hl.1 rfl (Nat.le_of_ble_eq_true rfl) dL_law_556 ⟨Nat.le_of_ble_eq_true rfl, Nat.le_of_ble_eq_true rfl⟩ ⟨Nat.le_of_ble_eq_true rfl, Nat.le_of_ble_eq_true rfl⟩) hS hAX (fun H1 locs1 hPX hS hz hk => ?_)
  have hPM := k_keep hPM (hAdM _) hk (fun q h1 h2 => hdis q h2 h1)
  refine lv_aload_n hx hb dL_law_559 rfl (lv_at hl 2 rfl) ?_
  refine lv_aload_n hx hb dL_law_560 rfl (lv_at hl 0 rfl) ?_
  refine lv_iload_n hx hb dL_law_561 rfl (lv_at hl 3 rfl) ?_
  refine lv_iconst (v := (1 : Int32)) hx hb dL_law_562 (by decide) ?_
  refine lv_iadd hx hb dL_law_563 ?_
  refine va_sld hx hb hX hbl hbA hS (nI_in6 1 (by decide) hi hL) dL_law_564 ?_
  refine lv_aload_n hx hb dL_law_565 rfl (lv_at hl 0 rfl) ?_
  refine lv_iload_n hx hb dL_law_566 rfl (lv_at hl 3 rfl) ?_
  refine lv_iconst (v := (2 : Int32)) hx hb dL_law_567 (by decide) ?_
  refine lv_iadd hx hb dL_law_568 ?_
  refine va_sld hx hb hX hbl hbA hS (nI_in6 2 (by decide) hi hL) dL_law_569 ?_
  refine lv_aload_n hx hb dL_law_570 rfl (lv_at hl 0 rfl) ?_
  refine lv_iload_n hx hb dL_law_571 rfl (lv_at hl 3 rfl) ?_
  refine lv_iconst (v := (3 : Int32)) hx hb dL_law_572 (by decide) ?_
  refine lv_iadd hx hb dL_law_573 ?_
  refine va_sld hx hb hX hbl hbA hS (nI_in6 3 (by decide) hi hL) dL_law_574 ?_
  refine lv_aload_n hx hb dL_law_575 rfl (lv_at hl 0 rfl) ?_
  refine lv_iload_n hx hb dL_law_576 rfl (lv_at hl 3 rfl) ?_
  refine lv_iconst (v := (4 : Int32)) hx hb dL_law_577 (by decide) ?_
  refine lv_iadd hx hb dL_law_578 ?_
  refine va_sld hx hb hX hbl hbA hS (nI_in6 4 (by decide) hi hL) dL_law_579 ?_
  refine lv_aload_n hx hb dL_law_580 rfl (lv_at hl 0 rfl) ?_
  refine lv_iload_n hx hb dL_law_581 rfl (lv_at hl 3 rfl) ?_
  refine lv_iconst (v := (5 : Int32)) hx hb dL_law_582 (by decide) ?_
  refine lv_iadd hx hb dL_law_583 ?_
  refine va_sld hx hb hX hbl hbA hS (nI_in6 5 (by decide) hi hL) dL_law_584 ?_
  refine k_goI (k_runV (As := [.int (xs (nI i + (1 : Int32)).toNatClampNeg), .int (xs (nI i + (2 : Int32)).toNatClampNeg), .int (xs (nI i + (3 : Int32)).toNatClampNeg), .int (xs (nI i + (4 : Int32)).toNatClampNeg), .int (xs (nI i + (5 : Int32)).toNatClampNeg)]) (rest := [.int r]) S hK hPM (k_X5_trial l hAdM e2) cy_X5_trial wd_863 rfl mO rfl hl.1 rfl (Nat.le_of_ble_eq_true rfl) dL_law_585 ⟨Nat.le_of_ble_eq_true rfl, Nat.le_of_ble_eq_true rfl⟩ ⟨Nat.le_of_ble_eq_true rfl, Nat.le_of_ble_eq_true rfl⟩) hS hAM (fun H2 locs2 hPM hS hz hk => ?_)
  have hPX := k_keep hPX (hAdX _ _) hk hdis
  refine lv_icmp_eq (tgt := 1251) hx hb dL_law_588 (by decide) (fun _ => ?_) (fun c => absurd rfl c)
  exact kk _ _ _ _ _ hR hPX hPM hS
def Sim_bound (Rel : SX → SX → Prop) : Prop := ∀ σ τ : SX, Rel σ τ → ∀ (x1 x2 : Int32), ∃ r, f_X4_bound σ x1 x2 = some r ∧ f_X5_bound τ x1 x2 = some r
set_option maxRecDepth 100000 in
set_option maxHeartbeats 4000000 in
theorem law_bound {p : Program} {l : Launch} {e : Env} {s : State} {m : MethodId} {below : List Frame} {meth : Method} {c : Code} {b L : Nat} {xs : Nat → Int32} {D : va_G} {cI cZ cS : ClassId} {ad am : Nat → Nat} {Rel : SX → SX → Prop} (hsim : Sim_bound Rel) (C : LC p s m c b L xs D cI cZ cS ad am) (hL : L ≤ 3072) {i : Nat} (hi : i + 6 ≤ L) {Q : State → Prop} {σ τ : SX} {ro : Option Nat} {H : Heap} {locs : List Loc} {ls : Array Slot} (hR : Rel σ τ) (hPX : va_P D vwCl (WX cI cZ cS ad ro σ) H) (hPM : va_P D vwCl (WM cI am τ) H) (hS : va_S (fun q : Nat => s.heap.size ≤ q) s.heap H locs) (hl : lv_has ls 4 [(0, .ref b), (1, .ref (ad 0)), (2, .ref (am 0)), (3, .int (nI i))])
    (kk : ∀ (σ τ : SX) (ro : Option Nat) (H : Heap) (locs : List Loc), Rel σ τ → va_P D vwCl (WX cI cZ cS ad ro σ) H → va_P D vwCl (WM cI am τ) H → va_S (fun q : Nat => s.heap.size ≤ q) s.heap H locs → W p l e room_1 s m #[Value.ref b] below meth c H locs 48 2000 Q (F0 m 1251 ls [])) : W p l e room_1 s m #[Value.ref b] below meth c H locs 48 2000 Q (F0 m 593 ls []) := by
  obtain ⟨S, hK, hX, hbl, hAdX, hAdM, hAX, hAM, hdis⟩ := C
  have hx := S.1
  have hb := S.2.1
  have hbA : ¬ (fun q : Nat => s.heap.size ≤ q) b := Nat.not_le.mpr hbl
  obtain ⟨r, e1, e2⟩ := hsim σ τ hR (xs (nI i + (1 : Int32)).toNatClampNeg) (xs (nI i + (2 : Int32)).toNatClampNeg)
  refine lv_aload_n hx hb dL_law_593 rfl (lv_at hl 1 rfl) ?_
  refine lv_aload_n hx hb dL_law_594 rfl (lv_at hl 0 rfl) ?_
  refine lv_iload_n hx hb dL_law_595 rfl (lv_at hl 3 rfl) ?_
  refine lv_iconst (v := (1 : Int32)) hx hb dL_law_596 (by decide) ?_
  refine lv_iadd hx hb dL_law_597 ?_
  refine va_sld hx hb hX hbl hbA hS (nI_in6 1 (by decide) hi hL) dL_law_598 ?_
  refine lv_aload_n hx hb dL_law_599 rfl (lv_at hl 0 rfl) ?_
  refine lv_iload_n hx hb dL_law_600 rfl (lv_at hl 3 rfl) ?_
  refine lv_iconst (v := (2 : Int32)) hx hb dL_law_601 (by decide) ?_
  refine lv_iadd hx hb dL_law_602 ?_
  refine va_sld hx hb hX hbl hbA hS (nI_in6 2 (by decide) hi hL) dL_law_603 ?_
  refine k_goI (k_runV (As := [.int (xs (nI i + (1 : Int32)).toNatClampNeg), .int (xs (nI i + (2 : Int32)).toNatClampNeg)]) (rest := []) S hK hPX (k_X4_bound l hAdX e1) cy_X4_bound wd_477 rfl xO rfl hl.1 rfl (Nat.le_of_ble_eq_true rfl) dL_law_604 ⟨Nat.le_of_ble_eq_true rfl, Nat.le_of_ble_eq_true rfl⟩ ⟨Nat.le_of_ble_eq_true rfl, Nat.le_of_ble_eq_true rfl⟩) hS hAX (fun H1 locs1 hPX hS hz hk => ?_)
  have hPM := k_keep hPM (hAdM _) hk (fun q h1 h2 => hdis q h2 h1)
  refine lv_aload_n hx hb dL_law_607 rfl (lv_at hl 2 rfl) ?_
  refine lv_aload_n hx hb dL_law_608 rfl (lv_at hl 0 rfl) ?_
  refine lv_iload_n hx hb dL_law_609 rfl (lv_at hl 3 rfl) ?_
  refine lv_iconst (v := (1 : Int32)) hx hb dL_law_610 (by decide) ?_
  refine lv_iadd hx hb dL_law_611 ?_
  refine va_sld hx hb hX hbl hbA hS (nI_in6 1 (by decide) hi hL) dL_law_612 ?_
  refine lv_aload_n hx hb dL_law_613 rfl (lv_at hl 0 rfl) ?_
  refine lv_iload_n hx hb dL_law_614 rfl (lv_at hl 3 rfl) ?_
  refine lv_iconst (v := (2 : Int32)) hx hb dL_law_615 (by decide) ?_
  refine lv_iadd hx hb dL_law_616 ?_
  refine va_sld hx hb hX hbl hbA hS (nI_in6 2 (by decide) hi hL) dL_law_617 ?_
  refine k_goI (k_runV (As := [.int (xs (nI i + (1 : Int32)).toNatClampNeg), .int (xs (nI i + (2 : Int32)).toNatClampNeg)]) (rest := [.int r]) S hK hPM (k_X5_bound l hAdM e2) cy_X5_bound wd_913 rfl mO rfl hl.1 rfl (Nat.le_of_ble_eq_true rfl) dL_law_618 ⟨Nat.le_of_ble_eq_true rfl, Nat.le_of_ble_eq_true rfl⟩ ⟨Nat.le_of_ble_eq_true rfl, Nat.le_of_ble_eq_true rfl⟩) hS hAM (fun H2 locs2 hPM hS hz hk => ?_)
  have hPX := k_keep hPX (hAdX _ _) hk hdis
  refine lv_icmp_eq (tgt := 1251) hx hb dL_law_621 (by decide) (fun _ => ?_) (fun c => absurd rfl c)
  exact kk _ _ _ _ _ hR hPX hPM hS
def Sim_together (Rel : SX → SX → Prop) : Prop := ∀ σ τ : SX, Rel σ τ → ∀ (x1 : Int32), ∃ r, f_X4_together σ x1 = some r ∧ f_X5_together τ x1 = some r
set_option maxRecDepth 100000 in
set_option maxHeartbeats 4000000 in
theorem law_together {p : Program} {l : Launch} {e : Env} {s : State} {m : MethodId} {below : List Frame} {meth : Method} {c : Code} {b L : Nat} {xs : Nat → Int32} {D : va_G} {cI cZ cS : ClassId} {ad am : Nat → Nat} {Rel : SX → SX → Prop} (hsim : Sim_together Rel) (C : LC p s m c b L xs D cI cZ cS ad am) (hL : L ≤ 3072) {i : Nat} (hi : i + 6 ≤ L) {Q : State → Prop} {σ τ : SX} {ro : Option Nat} {H : Heap} {locs : List Loc} {ls : Array Slot} (hR : Rel σ τ) (hPX : va_P D vwCl (WX cI cZ cS ad ro σ) H) (hPM : va_P D vwCl (WM cI am τ) H) (hS : va_S (fun q : Nat => s.heap.size ≤ q) s.heap H locs) (hl : lv_has ls 4 [(0, .ref b), (1, .ref (ad 0)), (2, .ref (am 0)), (3, .int (nI i))])
    (kk : ∀ (σ τ : SX) (ro : Option Nat) (H : Heap) (locs : List Loc), Rel σ τ → va_P D vwCl (WX cI cZ cS ad ro σ) H → va_P D vwCl (WM cI am τ) H → va_S (fun q : Nat => s.heap.size ≤ q) s.heap H locs → W p l e room_1 s m #[Value.ref b] below meth c H locs 48 2000 Q (F0 m 1251 ls [])) : W p l e room_1 s m #[Value.ref b] below meth c H locs 48 2000 Q (F0 m 626 ls []) := by
  obtain ⟨S, hK, hX, hbl, hAdX, hAdM, hAX, hAM, hdis⟩ := C
  have hx := S.1
  have hb := S.2.1
  have hbA : ¬ (fun q : Nat => s.heap.size ≤ q) b := Nat.not_le.mpr hbl
  obtain ⟨r, e1, e2⟩ := hsim σ τ hR (xs (nI i + (1 : Int32)).toNatClampNeg)
  refine lv_aload_n hx hb dL_law_626 rfl (lv_at hl 1 rfl) ?_
  refine lv_aload_n hx hb dL_law_627 rfl (lv_at hl 0 rfl) ?_
  refine lv_iload_n hx hb dL_law_628 rfl (lv_at hl 3 rfl) ?_
  refine lv_iconst (v := (1 : Int32)) hx hb dL_law_629 (by decide) ?_
  refine lv_iadd hx hb dL_law_630 ?_
  refine va_sld hx hb hX hbl hbA hS (nI_in6 1 (by decide) hi hL) dL_law_631 ?_
  refine k_goI (k_runV (As := [.int (xs (nI i + (1 : Int32)).toNatClampNeg)]) (rest := []) S hK hPX (k_X4_together l hAdX e1) cy_X4_together wd_489 rfl xO rfl hl.1 rfl (Nat.le_of_ble_eq_true rfl) dL_law_632 ⟨Nat.le_of_ble_eq_true rfl, Nat.le_of_ble_eq_true rfl⟩ ⟨Nat.le_of_ble_eq_true rfl, Nat.le_of_ble_eq_true rfl⟩) hS hAX (fun H1 locs1 hPX hS hz hk => ?_)
  have hPM := k_keep hPM (hAdM _) hk (fun q h1 h2 => hdis q h2 h1)
  refine lv_aload_n hx hb dL_law_635 rfl (lv_at hl 2 rfl) ?_
  refine lv_aload_n hx hb dL_law_636 rfl (lv_at hl 0 rfl) ?_
  refine lv_iload_n hx hb dL_law_637 rfl (lv_at hl 3 rfl) ?_
  refine lv_iconst (v := (1 : Int32)) hx hb dL_law_638 (by decide) ?_
  refine lv_iadd hx hb dL_law_639 ?_
  refine va_sld hx hb hX hbl hbA hS (nI_in6 1 (by decide) hi hL) dL_law_640 ?_
  refine k_goI (k_runV (As := [.int (xs (nI i + (1 : Int32)).toNatClampNeg)]) (rest := [.int r]) S hK hPM (k_X5_together l hAdM e2) cy_X5_together wd_917 rfl mO rfl hl.1 rfl (Nat.le_of_ble_eq_true rfl) dL_law_641 ⟨Nat.le_of_ble_eq_true rfl, Nat.le_of_ble_eq_true rfl⟩ ⟨Nat.le_of_ble_eq_true rfl, Nat.le_of_ble_eq_true rfl⟩) hS hAM (fun H2 locs2 hPM hS hz hk => ?_)
  have hPX := k_keep hPX (hAdX _ _) hk hdis
  refine lv_icmp_eq (tgt := 1251) hx hb dL_law_644 (by decide) (fun _ => ?_) (fun c => absurd rfl c)
  exact kk _ _ _ _ _ hR hPX hPM hS
def Sim_coated (Rel : SX → SX → Prop) : Prop := ∀ σ τ : SX, Rel σ τ → ∀ (x1 : Int32), ∃ r, f_X4_coated σ x1 = some r ∧ f_X5_coated τ x1 = some r
set_option maxRecDepth 100000 in
set_option maxHeartbeats 4000000 in
theorem law_coated {p : Program} {l : Launch} {e : Env} {s : State} {m : MethodId} {below : List Frame} {meth : Method} {c : Code} {b L : Nat} {xs : Nat → Int32} {D : va_G} {cI cZ cS : ClassId} {ad am : Nat → Nat} {Rel : SX → SX → Prop} (hsim : Sim_coated Rel) (C : LC p s m c b L xs D cI cZ cS ad am) (hL : L ≤ 3072) {i : Nat} (hi : i + 6 ≤ L) {Q : State → Prop} {σ τ : SX} {ro : Option Nat} {H : Heap} {locs : List Loc} {ls : Array Slot} (hR : Rel σ τ) (hPX : va_P D vwCl (WX cI cZ cS ad ro σ) H) (hPM : va_P D vwCl (WM cI am τ) H) (hS : va_S (fun q : Nat => s.heap.size ≤ q) s.heap H locs) (hl : lv_has ls 4 [(0, .ref b), (1, .ref (ad 0)), (2, .ref (am 0)), (3, .int (nI i))])
    (kk : ∀ (σ τ : SX) (ro : Option Nat) (H : Heap) (locs : List Loc), Rel σ τ → va_P D vwCl (WX cI cZ cS ad ro σ) H → va_P D vwCl (WM cI am τ) H → va_S (fun q : Nat => s.heap.size ≤ q) s.heap H locs → W p l e room_1 s m #[Value.ref b] below meth c H locs 48 2000 Q (F0 m 1251 ls [])) : W p l e room_1 s m #[Value.ref b] below meth c H locs 48 2000 Q (F0 m 649 ls []) := by
  obtain ⟨S, hK, hX, hbl, hAdX, hAdM, hAX, hAM, hdis⟩ := C
  have hx := S.1
  have hb := S.2.1
  have hbA : ¬ (fun q : Nat => s.heap.size ≤ q) b := Nat.not_le.mpr hbl
  obtain ⟨r, e1, e2⟩ := hsim σ τ hR (xs (nI i + (1 : Int32)).toNatClampNeg)
  refine lv_aload_n hx hb dL_law_649 rfl (lv_at hl 1 rfl) ?_
  refine lv_aload_n hx hb dL_law_650 rfl (lv_at hl 0 rfl) ?_
  refine lv_iload_n hx hb dL_law_651 rfl (lv_at hl 3 rfl) ?_
  refine lv_iconst (v := (1 : Int32)) hx hb dL_law_652 (by decide) ?_
  refine lv_iadd hx hb dL_law_653 ?_
  refine va_sld hx hb hX hbl hbA hS (nI_in6 1 (by decide) hi hL) dL_law_654 ?_
  refine k_goI (k_runV (As := [.int (xs (nI i + (1 : Int32)).toNatClampNeg)]) (rest := []) S hK hPX (k_X4_coated l hAdX e1) cy_X4_coated wd_497 rfl xO rfl hl.1 rfl (Nat.le_of_ble_eq_true rfl) dL_law_655 ⟨Nat.le_of_ble_eq_true rfl, Nat.le_of_ble_eq_true rfl⟩ ⟨Nat.le_of_ble_eq_true rfl, Nat.le_of_ble_eq_true rfl⟩) hS hAX (fun H1 locs1 hPX hS hz hk => ?_)
  have hPM := k_keep hPM (hAdM _) hk (fun q h1 h2 => hdis q h2 h1)
  refine lv_aload_n hx hb dL_law_658 rfl (lv_at hl 2 rfl) ?_
  refine lv_aload_n hx hb dL_law_659 rfl (lv_at hl 0 rfl) ?_
  refine lv_iload_n hx hb dL_law_660 rfl (lv_at hl 3 rfl) ?_
  refine lv_iconst (v := (1 : Int32)) hx hb dL_law_661 (by decide) ?_
  refine lv_iadd hx hb dL_law_662 ?_
  refine va_sld hx hb hX hbl hbA hS (nI_in6 1 (by decide) hi hL) dL_law_663 ?_
  refine k_goI (k_runV (As := [.int (xs (nI i + (1 : Int32)).toNatClampNeg)]) (rest := [.int r]) S hK hPM (k_X5_coated l hAdM e2) cy_X5_coated wd_925 rfl mO rfl hl.1 rfl (Nat.le_of_ble_eq_true rfl) dL_law_664 ⟨Nat.le_of_ble_eq_true rfl, Nat.le_of_ble_eq_true rfl⟩ ⟨Nat.le_of_ble_eq_true rfl, Nat.le_of_ble_eq_true rfl⟩) hS hAM (fun H2 locs2 hPM hS hz hk => ?_)
  have hPX := k_keep hPX (hAdX _ _) hk hdis
  refine lv_icmp_eq (tgt := 1251) hx hb dL_law_667 (by decide) (fun _ => ?_) (fun c => absurd rfl c)
  exact kk _ _ _ _ _ hR hPX hPM hS
def Sim_letgo (Rel : SX → SX → Prop) : Prop := ∀ σ τ : SX, Rel σ τ → ∀ (x1 : Int32), ∃ r, f_X4_letgo σ x1 = some r ∧ f_X5_letgo τ x1 = some r
set_option maxRecDepth 100000 in
set_option maxHeartbeats 4000000 in
theorem law_letgo {p : Program} {l : Launch} {e : Env} {s : State} {m : MethodId} {below : List Frame} {meth : Method} {c : Code} {b L : Nat} {xs : Nat → Int32} {D : va_G} {cI cZ cS : ClassId} {ad am : Nat → Nat} {Rel : SX → SX → Prop} (hsim : Sim_letgo Rel) (C : LC p s m c b L xs D cI cZ cS ad am) (hL : L ≤ 3072) {i : Nat} (hi : i + 6 ≤ L) {Q : State → Prop} {σ τ : SX} {ro : Option Nat} {H : Heap} {locs : List Loc} {ls : Array Slot} (hR : Rel σ τ) (hPX : va_P D vwCl (WX cI cZ cS ad ro σ) H) (hPM : va_P D vwCl (WM cI am τ) H) (hS : va_S (fun q : Nat => s.heap.size ≤ q) s.heap H locs) (hl : lv_has ls 4 [(0, .ref b), (1, .ref (ad 0)), (2, .ref (am 0)), (3, .int (nI i))])
    (kk : ∀ (σ τ : SX) (ro : Option Nat) (H : Heap) (locs : List Loc), Rel σ τ → va_P D vwCl (WX cI cZ cS ad ro σ) H → va_P D vwCl (WM cI am τ) H → va_S (fun q : Nat => s.heap.size ≤ q) s.heap H locs → W p l e room_1 s m #[Value.ref b] below meth c H locs 48 2000 Q (F0 m 1251 ls [])) : W p l e room_1 s m #[Value.ref b] below meth c H locs 48 2000 Q (F0 m 672 ls []) := by
  obtain ⟨S, hK, hX, hbl, hAdX, hAdM, hAX, hAM, hdis⟩ := C
  have hx := S.1
  have hb := S.2.1
  have hbA : ¬ (fun q : Nat => s.heap.size ≤ q) b := Nat.not_le.mpr hbl
  obtain ⟨r, e1, e2⟩ := hsim σ τ hR (xs (nI i + (1 : Int32)).toNatClampNeg)
  refine lv_aload_n hx hb dL_law_672 rfl (lv_at hl 1 rfl) ?_
  refine lv_aload_n hx hb dL_law_673 rfl (lv_at hl 0 rfl) ?_
  refine lv_iload_n hx hb dL_law_674 rfl (lv_at hl 3 rfl) ?_
  refine lv_iconst (v := (1 : Int32)) hx hb dL_law_675 (by decide) ?_
  refine lv_iadd hx hb dL_law_676 ?_
  refine va_sld hx hb hX hbl hbA hS (nI_in6 1 (by decide) hi hL) dL_law_677 ?_
  refine k_goI (k_runV (As := [.int (xs (nI i + (1 : Int32)).toNatClampNeg)]) (rest := []) S hK hPX (k_X4_letgo l hAdX e1) cy_X4_letgo wd_502 rfl xO rfl hl.1 rfl (Nat.le_of_ble_eq_true rfl) dL_law_678 ⟨Nat.le_of_ble_eq_true rfl, Nat.le_of_ble_eq_true rfl⟩ ⟨Nat.le_of_ble_eq_true rfl, Nat.le_of_ble_eq_true rfl⟩) hS hAX (fun H1 locs1 hPX hS hz hk => ?_)
  have hPM := k_keep hPM (hAdM _) hk (fun q h1 h2 => hdis q h2 h1)
  refine lv_aload_n hx hb dL_law_681 rfl (lv_at hl 2 rfl) ?_
  refine lv_aload_n hx hb dL_law_682 rfl (lv_at hl 0 rfl) ?_
  refine lv_iload_n hx hb dL_law_683 rfl (lv_at hl 3 rfl) ?_
  refine lv_iconst (v := (1 : Int32)) hx hb dL_law_684 (by decide) ?_
  refine lv_iadd hx hb dL_law_685 ?_
  refine va_sld hx hb hX hbl hbA hS (nI_in6 1 (by decide) hi hL) dL_law_686 ?_
  refine k_goI (k_runV (As := [.int (xs (nI i + (1 : Int32)).toNatClampNeg)]) (rest := [.int r]) S hK hPM (k_X5_letgo l hAdM e2) cy_X5_letgo wd_929 rfl mO rfl hl.1 rfl (Nat.le_of_ble_eq_true rfl) dL_law_687 ⟨Nat.le_of_ble_eq_true rfl, Nat.le_of_ble_eq_true rfl⟩ ⟨Nat.le_of_ble_eq_true rfl, Nat.le_of_ble_eq_true rfl⟩) hS hAM (fun H2 locs2 hPM hS hz hk => ?_)
  have hPX := k_keep hPX (hAdX _ _) hk hdis
  refine lv_icmp_eq (tgt := 1251) hx hb dL_law_690 (by decide) (fun _ => ?_) (fun c => absurd rfl c)
  exact kk _ _ _ _ _ hR hPX hPM hS
def Sim_stoves (Rel : SX → SX → Prop) : Prop := ∀ σ τ : SX, Rel σ τ → ∀ (x1 x2 : Int32), ∃ r σ' τ', f_X4_stoves σ x1 x2 = some (r, σ') ∧ f_X5_stoves τ x1 x2 = some (r, τ') ∧ Rel σ' τ'
set_option maxRecDepth 100000 in
set_option maxHeartbeats 4000000 in
theorem law_stoves {p : Program} {l : Launch} {e : Env} {s : State} {m : MethodId} {below : List Frame} {meth : Method} {c : Code} {b L : Nat} {xs : Nat → Int32} {D : va_G} {cI cZ cS : ClassId} {ad am : Nat → Nat} {Rel : SX → SX → Prop} (hsim : Sim_stoves Rel) (C : LC p s m c b L xs D cI cZ cS ad am) (hL : L ≤ 3072) {i : Nat} (hi : i + 6 ≤ L) {Q : State → Prop} {σ τ : SX} {ro : Option Nat} {H : Heap} {locs : List Loc} {ls : Array Slot} (hR : Rel σ τ) (hPX : va_P D vwCl (WX cI cZ cS ad ro σ) H) (hPM : va_P D vwCl (WM cI am τ) H) (hS : va_S (fun q : Nat => s.heap.size ≤ q) s.heap H locs) (hl : lv_has ls 4 [(0, .ref b), (1, .ref (ad 0)), (2, .ref (am 0)), (3, .int (nI i))])
    (kk : ∀ (σ τ : SX) (ro : Option Nat) (H : Heap) (locs : List Loc), Rel σ τ → va_P D vwCl (WX cI cZ cS ad ro σ) H → va_P D vwCl (WM cI am τ) H → va_S (fun q : Nat => s.heap.size ≤ q) s.heap H locs → W p l e room_1 s m #[Value.ref b] below meth c H locs 48 2000 Q (F0 m 1251 ls [])) : W p l e room_1 s m #[Value.ref b] below meth c H locs 48 2000 Q (F0 m 695 ls []) := by
  obtain ⟨S, hK, hX, hbl, hAdX, hAdM, hAX, hAM, hdis⟩ := C
  have hx := S.1
  have hb := S.2.1
  have hbA : ¬ (fun q : Nat => s.heap.size ≤ q) b := Nat.not_le.mpr hbl
  obtain ⟨r, σ1, τ1, e1, e2, hR⟩ := hsim σ τ hR (xs (nI i + (1 : Int32)).toNatClampNeg) (xs (nI i + (2 : Int32)).toNatClampNeg)
  refine lv_aload_n hx hb dL_law_695 rfl (lv_at hl 1 rfl) ?_
  refine lv_aload_n hx hb dL_law_696 rfl (lv_at hl 0 rfl) ?_
  refine lv_iload_n hx hb dL_law_697 rfl (lv_at hl 3 rfl) ?_
  refine lv_iconst (v := (1 : Int32)) hx hb dL_law_698 (by decide) ?_
  refine lv_iadd hx hb dL_law_699 ?_
  refine va_sld hx hb hX hbl hbA hS (nI_in6 1 (by decide) hi hL) dL_law_700 ?_
  refine lv_aload_n hx hb dL_law_701 rfl (lv_at hl 0 rfl) ?_
  refine lv_iload_n hx hb dL_law_702 rfl (lv_at hl 3 rfl) ?_
  refine lv_iconst (v := (2 : Int32)) hx hb dL_law_703 (by decide) ?_
  refine lv_iadd hx hb dL_law_704 ?_
  refine va_sld hx hb hX hbl hbA hS (nI_in6 2 (by decide) hi hL) dL_law_705 ?_
  refine k_goI (k_runV (As := [.int (xs (nI i + (1 : Int32)).toNatClampNeg), .int (xs (nI i + (2 : Int32)).toNatClampNeg)]) (rest := []) S hK hPX (k_X4_stoves l hAdX e1) cy_X4_stoves wd_506 rfl xO rfl hl.1 rfl (Nat.le_of_ble_eq_true rfl) dL_law_706 ⟨Nat.le_of_ble_eq_true rfl, Nat.le_of_ble_eq_true rfl⟩ ⟨Nat.le_of_ble_eq_true rfl, Nat.le_of_ble_eq_true rfl⟩) hS hAX (fun H1 locs1 hPX hS hz hk => ?_)
  have hPM := k_keep hPM (hAdM _) hk (fun q h1 h2 => hdis q h2 h1)
  refine lv_aload_n hx hb dL_law_709 rfl (lv_at hl 2 rfl) ?_
  refine lv_aload_n hx hb dL_law_710 rfl (lv_at hl 0 rfl) ?_
  refine lv_iload_n hx hb dL_law_711 rfl (lv_at hl 3 rfl) ?_
  refine lv_iconst (v := (1 : Int32)) hx hb dL_law_712 (by decide) ?_
  refine lv_iadd hx hb dL_law_713 ?_
  refine va_sld hx hb hX hbl hbA hS (nI_in6 1 (by decide) hi hL) dL_law_714 ?_
  refine lv_aload_n hx hb dL_law_715 rfl (lv_at hl 0 rfl) ?_
  refine lv_iload_n hx hb dL_law_716 rfl (lv_at hl 3 rfl) ?_
  refine lv_iconst (v := (2 : Int32)) hx hb dL_law_717 (by decide) ?_
  refine lv_iadd hx hb dL_law_718 ?_
  refine va_sld hx hb hX hbl hbA hS (nI_in6 2 (by decide) hi hL) dL_law_719 ?_
  refine k_goI (k_runV (As := [.int (xs (nI i + (1 : Int32)).toNatClampNeg), .int (xs (nI i + (2 : Int32)).toNatClampNeg)]) (rest := [.int r]) S hK hPM (k_X5_stoves l hAdM e2) cy_X5_stoves wd_933 rfl mO rfl hl.1 rfl (Nat.le_of_ble_eq_true rfl) dL_law_720 ⟨Nat.le_of_ble_eq_true rfl, Nat.le_of_ble_eq_true rfl⟩ ⟨Nat.le_of_ble_eq_true rfl, Nat.le_of_ble_eq_true rfl⟩) hS hAM (fun H2 locs2 hPM hS hz hk => ?_)
  have hPX := k_keep hPX (hAdX _ _) hk hdis
  refine lv_icmp_eq (tgt := 1251) hx hb dL_law_723 (by decide) (fun _ => ?_) (fun c => absurd rfl c)
  exact kk _ _ _ _ _ hR hPX hPM hS
def Sim_reading (Rel : SX → SX → Prop) : Prop := ∀ σ τ : SX, Rel σ τ → ∀ (x1 x2 x3 : Int32), ∃ r σ' τ', f_X4_reading σ x1 x2 x3 = some (r, σ') ∧ f_X5_reading τ x1 x2 x3 = some (r, τ') ∧ Rel σ' τ'
set_option maxRecDepth 100000 in
set_option maxHeartbeats 4000000 in
theorem law_reading {p : Program} {l : Launch} {e : Env} {s : State} {m : MethodId} {below : List Frame} {meth : Method} {c : Code} {b L : Nat} {xs : Nat → Int32} {D : va_G} {cI cZ cS : ClassId} {ad am : Nat → Nat} {Rel : SX → SX → Prop} (hsim : Sim_reading Rel) (C : LC p s m c b L xs D cI cZ cS ad am) (hL : L ≤ 3072) {i : Nat} (hi : i + 6 ≤ L) {Q : State → Prop} {σ τ : SX} {ro : Option Nat} {H : Heap} {locs : List Loc} {ls : Array Slot} (hR : Rel σ τ) (hPX : va_P D vwCl (WX cI cZ cS ad ro σ) H) (hPM : va_P D vwCl (WM cI am τ) H) (hS : va_S (fun q : Nat => s.heap.size ≤ q) s.heap H locs) (hl : lv_has ls 4 [(0, .ref b), (1, .ref (ad 0)), (2, .ref (am 0)), (3, .int (nI i))])
    (kk : ∀ (σ τ : SX) (ro : Option Nat) (H : Heap) (locs : List Loc), Rel σ τ → va_P D vwCl (WX cI cZ cS ad ro σ) H → va_P D vwCl (WM cI am τ) H → va_S (fun q : Nat => s.heap.size ≤ q) s.heap H locs → W p l e room_1 s m #[Value.ref b] below meth c H locs 48 2000 Q (F0 m 1251 ls [])) : W p l e room_1 s m #[Value.ref b] below meth c H locs 48 2000 Q (F0 m 728 ls []) := by
  obtain ⟨S, hK, hX, hbl, hAdX, hAdM, hAX, hAM, hdis⟩ := C
  have hx := S.1
  have hb := S.2.1
  have hbA : ¬ (fun q : Nat => s.heap.size ≤ q) b := Nat.not_le.mpr hbl
  obtain ⟨r, σ1, τ1, e1, e2, hR⟩ := hsim σ τ hR (xs (nI i + (1 : Int32)).toNatClampNeg) (xs (nI i + (2 : Int32)).toNatClampNeg) (xs (nI i + (3 : Int32)).toNatClampNeg)
  refine lv_aload_n hx hb dL_law_728 rfl (lv_at hl 1 rfl) ?_
  refine lv_aload_n hx hb dL_law_729 rfl (lv_at hl 0 rfl) ?_
  refine lv_iload_n hx hb dL_law_730 rfl (lv_at hl 3 rfl) ?_
  refine lv_iconst (v := (1 : Int32)) hx hb dL_law_731 (by decide) ?_
  refine lv_iadd hx hb dL_law_732 ?_
  refine va_sld hx hb hX hbl hbA hS (nI_in6 1 (by decide) hi hL) dL_law_733 ?_
  refine lv_aload_n hx hb dL_law_734 rfl (lv_at hl 0 rfl) ?_
  refine lv_iload_n hx hb dL_law_735 rfl (lv_at hl 3 rfl) ?_
  refine lv_iconst (v := (2 : Int32)) hx hb dL_law_736 (by decide) ?_
  refine lv_iadd hx hb dL_law_737 ?_
  refine va_sld hx hb hX hbl hbA hS (nI_in6 2 (by decide) hi hL) dL_law_738 ?_
  refine lv_aload_n hx hb dL_law_739 rfl (lv_at hl 0 rfl) ?_
  refine lv_iload_n hx hb dL_law_740 rfl (lv_at hl 3 rfl) ?_
  refine lv_iconst (v := (3 : Int32)) hx hb dL_law_741 (by decide) ?_
  refine lv_iadd hx hb dL_law_742 ?_
  refine va_sld hx hb hX hbl hbA hS (nI_in6 3 (by decide) hi hL) dL_law_743 ?_
  refine k_goI (k_runV (As := [.int (xs (nI i + (1 : Int32)).toNatClampNeg), .int (xs (nI i + (2 : Int32)).toNatClampNeg), .int (xs (nI i + (3 : Int32)).toNatClampNeg)]) (rest := []) S hK hPX (k_X4_reading l hAdX e1) cy_X4_reading wd_518 rfl xO rfl hl.1 rfl (Nat.le_of_ble_eq_true rfl) dL_law_744 ⟨Nat.le_of_ble_eq_true rfl, Nat.le_of_ble_eq_true rfl⟩ ⟨Nat.le_of_ble_eq_true rfl, Nat.le_of_ble_eq_true rfl⟩) hS hAX (fun H1 locs1 hPX hS hz hk => ?_)
  have hPM := k_keep hPM (hAdM _) hk (fun q h1 h2 => hdis q h2 h1)
  refine lv_aload_n hx hb dL_law_747 rfl (lv_at hl 2 rfl) ?_
  refine lv_aload_n hx hb dL_law_748 rfl (lv_at hl 0 rfl) ?_
  refine lv_iload_n hx hb dL_law_749 rfl (lv_at hl 3 rfl) ?_
  refine lv_iconst (v := (1 : Int32)) hx hb dL_law_750 (by decide) ?_
  refine lv_iadd hx hb dL_law_751 ?_
  refine va_sld hx hb hX hbl hbA hS (nI_in6 1 (by decide) hi hL) dL_law_752 ?_
  refine lv_aload_n hx hb dL_law_753 rfl (lv_at hl 0 rfl) ?_
  refine lv_iload_n hx hb dL_law_754 rfl (lv_at hl 3 rfl) ?_
  refine lv_iconst (v := (2 : Int32)) hx hb dL_law_755 (by decide) ?_
  refine lv_iadd hx hb dL_law_756 ?_
  refine va_sld hx hb hX hbl hbA hS (nI_in6 2 (by decide) hi hL) dL_law_757 ?_
  refine lv_aload_n hx hb dL_law_758 rfl (lv_at hl 0 rfl) ?_
  refine lv_iload_n hx hb dL_law_759 rfl (lv_at hl 3 rfl) ?_
  refine lv_iconst (v := (3 : Int32)) hx hb dL_law_760 (by decide) ?_
  refine lv_iadd hx hb dL_law_761 ?_
  refine va_sld hx hb hX hbl hbA hS (nI_in6 3 (by decide) hi hL) dL_law_762 ?_
  refine k_goI (k_runV (As := [.int (xs (nI i + (1 : Int32)).toNatClampNeg), .int (xs (nI i + (2 : Int32)).toNatClampNeg), .int (xs (nI i + (3 : Int32)).toNatClampNeg)]) (rest := [.int r]) S hK hPM (k_X5_reading l hAdM e2) cy_X5_reading wd_937 rfl mO rfl hl.1 rfl (Nat.le_of_ble_eq_true rfl) dL_law_763 ⟨Nat.le_of_ble_eq_true rfl, Nat.le_of_ble_eq_true rfl⟩ ⟨Nat.le_of_ble_eq_true rfl, Nat.le_of_ble_eq_true rfl⟩) hS hAM (fun H2 locs2 hPM hS hz hk => ?_)
  have hPX := k_keep hPX (hAdX _ _) hk hdis
  refine lv_icmp_eq (tgt := 1251) hx hb dL_law_766 (by decide) (fun _ => ?_) (fun c => absurd rfl c)
  exact kk _ _ _ _ _ hR hPX hPM hS
def Sim_back (Rel : SX → SX → Prop) : Prop := ∀ σ τ : SX, Rel σ τ → ∀ (x1 : Int32), ∃ r σ' τ', f_X4_back σ x1 = some (r, σ') ∧ f_X5_back τ x1 = some (r, τ') ∧ Rel σ' τ'
set_option maxRecDepth 100000 in
set_option maxHeartbeats 4000000 in
theorem law_back {p : Program} {l : Launch} {e : Env} {s : State} {m : MethodId} {below : List Frame} {meth : Method} {c : Code} {b L : Nat} {xs : Nat → Int32} {D : va_G} {cI cZ cS : ClassId} {ad am : Nat → Nat} {Rel : SX → SX → Prop} (hsim : Sim_back Rel) (C : LC p s m c b L xs D cI cZ cS ad am) (hL : L ≤ 3072) {i : Nat} (hi : i + 6 ≤ L) {Q : State → Prop} {σ τ : SX} {ro : Option Nat} {H : Heap} {locs : List Loc} {ls : Array Slot} (hR : Rel σ τ) (hPX : va_P D vwCl (WX cI cZ cS ad ro σ) H) (hPM : va_P D vwCl (WM cI am τ) H) (hS : va_S (fun q : Nat => s.heap.size ≤ q) s.heap H locs) (hl : lv_has ls 4 [(0, .ref b), (1, .ref (ad 0)), (2, .ref (am 0)), (3, .int (nI i))])
    (kk : ∀ (σ τ : SX) (ro : Option Nat) (H : Heap) (locs : List Loc), Rel σ τ → va_P D vwCl (WX cI cZ cS ad ro σ) H → va_P D vwCl (WM cI am τ) H → va_S (fun q : Nat => s.heap.size ≤ q) s.heap H locs → W p l e room_1 s m #[Value.ref b] below meth c H locs 48 2000 Q (F0 m 1251 ls [])) : W p l e room_1 s m #[Value.ref b] below meth c H locs 48 2000 Q (F0 m 771 ls []) := by
  obtain ⟨S, hK, hX, hbl, hAdX, hAdM, hAX, hAM, hdis⟩ := C
  have hx := S.1
  have hb := S.2.1
  have hbA : ¬ (fun q : Nat => s.heap.size ≤ q) b := Nat.not_le.mpr hbl
  obtain ⟨r, σ1, τ1, e1, e2, hR⟩ := hsim σ τ hR (xs (nI i + (1 : Int32)).toNatClampNeg)
  refine lv_aload_n hx hb dL_law_771 rfl (lv_at hl 1 rfl) ?_
  refine lv_aload_n hx hb dL_law_772 rfl (lv_at hl 0 rfl) ?_
  refine lv_iload_n hx hb dL_law_773 rfl (lv_at hl 3 rfl) ?_
  refine lv_iconst (v := (1 : Int32)) hx hb dL_law_774 (by decide) ?_
  refine lv_iadd hx hb dL_law_775 ?_
  refine va_sld hx hb hX hbl hbA hS (nI_in6 1 (by decide) hi hL) dL_law_776 ?_
  refine k_goI (k_runV (As := [.int (xs (nI i + (1 : Int32)).toNatClampNeg)]) (rest := []) S hK hPX (k_X4_back l hAdX e1) cy_X4_back wd_526 rfl xO rfl hl.1 rfl (Nat.le_of_ble_eq_true rfl) dL_law_777 ⟨Nat.le_of_ble_eq_true rfl, Nat.le_of_ble_eq_true rfl⟩ ⟨Nat.le_of_ble_eq_true rfl, Nat.le_of_ble_eq_true rfl⟩) hS hAX (fun H1 locs1 hPX hS hz hk => ?_)
  have hPM := k_keep hPM (hAdM _) hk (fun q h1 h2 => hdis q h2 h1)
  refine lv_aload_n hx hb dL_law_780 rfl (lv_at hl 2 rfl) ?_
  refine lv_aload_n hx hb dL_law_781 rfl (lv_at hl 0 rfl) ?_
  refine lv_iload_n hx hb dL_law_782 rfl (lv_at hl 3 rfl) ?_
  refine lv_iconst (v := (1 : Int32)) hx hb dL_law_783 (by decide) ?_
  refine lv_iadd hx hb dL_law_784 ?_
  refine va_sld hx hb hX hbl hbA hS (nI_in6 1 (by decide) hi hL) dL_law_785 ?_
  refine k_goI (k_runV (As := [.int (xs (nI i + (1 : Int32)).toNatClampNeg)]) (rest := [.int r]) S hK hPM (k_X5_back l hAdM e2) cy_X5_back wd_941 rfl mO rfl hl.1 rfl (Nat.le_of_ble_eq_true rfl) dL_law_786 ⟨Nat.le_of_ble_eq_true rfl, Nat.le_of_ble_eq_true rfl⟩ ⟨Nat.le_of_ble_eq_true rfl, Nat.le_of_ble_eq_true rfl⟩) hS hAM (fun H2 locs2 hPM hS hz hk => ?_)
  have hPX := k_keep hPX (hAdX _ _) hk hdis
  refine lv_icmp_eq (tgt := 1251) hx hb dL_law_789 (by decide) (fun _ => ?_) (fun c => absurd rfl c)
  exact kk _ _ _ _ _ hR hPX hPM hS
def Sim_coats (Rel : SX → SX → Prop) : Prop := ∀ σ τ : SX, Rel σ τ → ∀ (x1 : Int32), ∃ r σ' τ', f_X4_coats σ x1 = some (r, σ') ∧ f_X5_coats τ x1 = some (r, τ') ∧ Rel σ' τ'
set_option maxRecDepth 100000 in
set_option maxHeartbeats 4000000 in
theorem law_coats {p : Program} {l : Launch} {e : Env} {s : State} {m : MethodId} {below : List Frame} {meth : Method} {c : Code} {b L : Nat} {xs : Nat → Int32} {D : va_G} {cI cZ cS : ClassId} {ad am : Nat → Nat} {Rel : SX → SX → Prop} (hsim : Sim_coats Rel) (C : LC p s m c b L xs D cI cZ cS ad am) (hL : L ≤ 3072) {i : Nat} (hi : i + 6 ≤ L) {Q : State → Prop} {σ τ : SX} {ro : Option Nat} {H : Heap} {locs : List Loc} {ls : Array Slot} (hR : Rel σ τ) (hPX : va_P D vwCl (WX cI cZ cS ad ro σ) H) (hPM : va_P D vwCl (WM cI am τ) H) (hS : va_S (fun q : Nat => s.heap.size ≤ q) s.heap H locs) (hl : lv_has ls 4 [(0, .ref b), (1, .ref (ad 0)), (2, .ref (am 0)), (3, .int (nI i))])
    (kk : ∀ (σ τ : SX) (ro : Option Nat) (H : Heap) (locs : List Loc), Rel σ τ → va_P D vwCl (WX cI cZ cS ad ro σ) H → va_P D vwCl (WM cI am τ) H → va_S (fun q : Nat => s.heap.size ≤ q) s.heap H locs → W p l e room_1 s m #[Value.ref b] below meth c H locs 48 2000 Q (F0 m 1251 ls [])) : W p l e room_1 s m #[Value.ref b] below meth c H locs 48 2000 Q (F0 m 794 ls []) := by
  obtain ⟨S, hK, hX, hbl, hAdX, hAdM, hAX, hAM, hdis⟩ := C
  have hx := S.1
  have hb := S.2.1
  have hbA : ¬ (fun q : Nat => s.heap.size ≤ q) b := Nat.not_le.mpr hbl
  obtain ⟨r, σ1, τ1, e1, e2, hR⟩ := hsim σ τ hR (xs (nI i + (1 : Int32)).toNatClampNeg)
  refine lv_aload_n hx hb dL_law_794 rfl (lv_at hl 1 rfl) ?_
  refine lv_aload_n hx hb dL_law_795 rfl (lv_at hl 0 rfl) ?_
  refine lv_iload_n hx hb dL_law_796 rfl (lv_at hl 3 rfl) ?_
  refine lv_iconst (v := (1 : Int32)) hx hb dL_law_797 (by decide) ?_
  refine lv_iadd hx hb dL_law_798 ?_
  refine va_sld hx hb hX hbl hbA hS (nI_in6 1 (by decide) hi hL) dL_law_799 ?_
  refine k_goI (k_runV (As := [.int (xs (nI i + (1 : Int32)).toNatClampNeg)]) (rest := []) S hK hPX (k_X4_coats l hAdX e1) cy_X4_coats wd_530 rfl xO rfl hl.1 rfl (Nat.le_of_ble_eq_true rfl) dL_law_800 ⟨Nat.le_of_ble_eq_true rfl, Nat.le_of_ble_eq_true rfl⟩ ⟨Nat.le_of_ble_eq_true rfl, Nat.le_of_ble_eq_true rfl⟩) hS hAX (fun H1 locs1 hPX hS hz hk => ?_)
  have hPM := k_keep hPM (hAdM _) hk (fun q h1 h2 => hdis q h2 h1)
  refine lv_aload_n hx hb dL_law_803 rfl (lv_at hl 2 rfl) ?_
  refine lv_aload_n hx hb dL_law_804 rfl (lv_at hl 0 rfl) ?_
  refine lv_iload_n hx hb dL_law_805 rfl (lv_at hl 3 rfl) ?_
  refine lv_iconst (v := (1 : Int32)) hx hb dL_law_806 (by decide) ?_
  refine lv_iadd hx hb dL_law_807 ?_
  refine va_sld hx hb hX hbl hbA hS (nI_in6 1 (by decide) hi hL) dL_law_808 ?_
  refine k_goI (k_runV (As := [.int (xs (nI i + (1 : Int32)).toNatClampNeg)]) (rest := [.int r]) S hK hPM (k_X5_coats l hAdM e2) cy_X5_coats wd_945 rfl mO rfl hl.1 rfl (Nat.le_of_ble_eq_true rfl) dL_law_809 ⟨Nat.le_of_ble_eq_true rfl, Nat.le_of_ble_eq_true rfl⟩ ⟨Nat.le_of_ble_eq_true rfl, Nat.le_of_ble_eq_true rfl⟩) hS hAM (fun H2 locs2 hPM hS hz hk => ?_)
  have hPX := k_keep hPX (hAdX _ _) hk hdis
  refine lv_icmp_eq (tgt := 1251) hx hb dL_law_812 (by decide) (fun _ => ?_) (fun c => absurd rfl c)
  exact kk _ _ _ _ _ hR hPX hPM hS
def Sim_kinds (Rel : SX → SX → Prop) : Prop := ∀ σ τ : SX, Rel σ τ → ∀ (x1 : Int32), ∃ r σ' τ', f_X4_kinds σ x1 = some (r, σ') ∧ f_X5_kinds τ x1 = some (r, τ') ∧ Rel σ' τ'
set_option maxRecDepth 100000 in
set_option maxHeartbeats 4000000 in
theorem law_kinds {p : Program} {l : Launch} {e : Env} {s : State} {m : MethodId} {below : List Frame} {meth : Method} {c : Code} {b L : Nat} {xs : Nat → Int32} {D : va_G} {cI cZ cS : ClassId} {ad am : Nat → Nat} {Rel : SX → SX → Prop} (hsim : Sim_kinds Rel) (C : LC p s m c b L xs D cI cZ cS ad am) (hL : L ≤ 3072) {i : Nat} (hi : i + 6 ≤ L) {Q : State → Prop} {σ τ : SX} {ro : Option Nat} {H : Heap} {locs : List Loc} {ls : Array Slot} (hR : Rel σ τ) (hPX : va_P D vwCl (WX cI cZ cS ad ro σ) H) (hPM : va_P D vwCl (WM cI am τ) H) (hS : va_S (fun q : Nat => s.heap.size ≤ q) s.heap H locs) (hl : lv_has ls 4 [(0, .ref b), (1, .ref (ad 0)), (2, .ref (am 0)), (3, .int (nI i))])
    (kk : ∀ (σ τ : SX) (ro : Option Nat) (H : Heap) (locs : List Loc), Rel σ τ → va_P D vwCl (WX cI cZ cS ad ro σ) H → va_P D vwCl (WM cI am τ) H → va_S (fun q : Nat => s.heap.size ≤ q) s.heap H locs → W p l e room_1 s m #[Value.ref b] below meth c H locs 48 2000 Q (F0 m 1251 ls [])) : W p l e room_1 s m #[Value.ref b] below meth c H locs 48 2000 Q (F0 m 817 ls []) := by
  obtain ⟨S, hK, hX, hbl, hAdX, hAdM, hAX, hAM, hdis⟩ := C
  have hx := S.1
  have hb := S.2.1
  have hbA : ¬ (fun q : Nat => s.heap.size ≤ q) b := Nat.not_le.mpr hbl
  obtain ⟨r, σ1, τ1, e1, e2, hR⟩ := hsim σ τ hR (xs (nI i + (1 : Int32)).toNatClampNeg)
  refine lv_aload_n hx hb dL_law_817 rfl (lv_at hl 1 rfl) ?_
  refine lv_aload_n hx hb dL_law_818 rfl (lv_at hl 0 rfl) ?_
  refine lv_iload_n hx hb dL_law_819 rfl (lv_at hl 3 rfl) ?_
  refine lv_iconst (v := (1 : Int32)) hx hb dL_law_820 (by decide) ?_
  refine lv_iadd hx hb dL_law_821 ?_
  refine va_sld hx hb hX hbl hbA hS (nI_in6 1 (by decide) hi hL) dL_law_822 ?_
  refine k_goI (k_runV (As := [.int (xs (nI i + (1 : Int32)).toNatClampNeg)]) (rest := []) S hK hPX (k_X4_kinds l hAdX e1) cy_X4_kinds wd_539 rfl xO rfl hl.1 rfl (Nat.le_of_ble_eq_true rfl) dL_law_823 ⟨Nat.le_of_ble_eq_true rfl, Nat.le_of_ble_eq_true rfl⟩ ⟨Nat.le_of_ble_eq_true rfl, Nat.le_of_ble_eq_true rfl⟩) hS hAX (fun H1 locs1 hPX hS hz hk => ?_)
  have hPM := k_keep hPM (hAdM _) hk (fun q h1 h2 => hdis q h2 h1)
  refine lv_aload_n hx hb dL_law_826 rfl (lv_at hl 2 rfl) ?_
  refine lv_aload_n hx hb dL_law_827 rfl (lv_at hl 0 rfl) ?_
  refine lv_iload_n hx hb dL_law_828 rfl (lv_at hl 3 rfl) ?_
  refine lv_iconst (v := (1 : Int32)) hx hb dL_law_829 (by decide) ?_
  refine lv_iadd hx hb dL_law_830 ?_
  refine va_sld hx hb hX hbl hbA hS (nI_in6 1 (by decide) hi hL) dL_law_831 ?_
  refine k_goI (k_runV (As := [.int (xs (nI i + (1 : Int32)).toNatClampNeg)]) (rest := [.int r]) S hK hPM (k_X5_kinds l hAdM e2) cy_X5_kinds wd_953 rfl mO rfl hl.1 rfl (Nat.le_of_ble_eq_true rfl) dL_law_832 ⟨Nat.le_of_ble_eq_true rfl, Nat.le_of_ble_eq_true rfl⟩ ⟨Nat.le_of_ble_eq_true rfl, Nat.le_of_ble_eq_true rfl⟩) hS hAM (fun H2 locs2 hPM hS hz hk => ?_)
  have hPX := k_keep hPX (hAdX _ _) hk hdis
  refine lv_icmp_eq (tgt := 1251) hx hb dL_law_835 (by decide) (fun _ => ?_) (fun c => absurd rfl c)
  exact kk _ _ _ _ _ hR hPX hPM hS
def Sim_frosts (Rel : SX → SX → Prop) : Prop := ∀ σ τ : SX, Rel σ τ → ∀ (x1 : Int32), ∃ r σ' τ', f_X4_frosts σ x1 = some (r, σ') ∧ f_X5_frosts τ x1 = some (r, τ') ∧ Rel σ' τ'
set_option maxRecDepth 100000 in
set_option maxHeartbeats 4000000 in
theorem law_frosts {p : Program} {l : Launch} {e : Env} {s : State} {m : MethodId} {below : List Frame} {meth : Method} {c : Code} {b L : Nat} {xs : Nat → Int32} {D : va_G} {cI cZ cS : ClassId} {ad am : Nat → Nat} {Rel : SX → SX → Prop} (hsim : Sim_frosts Rel) (C : LC p s m c b L xs D cI cZ cS ad am) (hL : L ≤ 3072) {i : Nat} (hi : i + 6 ≤ L) {Q : State → Prop} {σ τ : SX} {ro : Option Nat} {H : Heap} {locs : List Loc} {ls : Array Slot} (hR : Rel σ τ) (hPX : va_P D vwCl (WX cI cZ cS ad ro σ) H) (hPM : va_P D vwCl (WM cI am τ) H) (hS : va_S (fun q : Nat => s.heap.size ≤ q) s.heap H locs) (hl : lv_has ls 4 [(0, .ref b), (1, .ref (ad 0)), (2, .ref (am 0)), (3, .int (nI i))])
    (kk : ∀ (σ τ : SX) (ro : Option Nat) (H : Heap) (locs : List Loc), Rel σ τ → va_P D vwCl (WX cI cZ cS ad ro σ) H → va_P D vwCl (WM cI am τ) H → va_S (fun q : Nat => s.heap.size ≤ q) s.heap H locs → W p l e room_1 s m #[Value.ref b] below meth c H locs 48 2000 Q (F0 m 1251 ls [])) : W p l e room_1 s m #[Value.ref b] below meth c H locs 48 2000 Q (F0 m 840 ls []) := by
  obtain ⟨S, hK, hX, hbl, hAdX, hAdM, hAX, hAM, hdis⟩ := C
  have hx := S.1
  have hb := S.2.1
  have hbA : ¬ (fun q : Nat => s.heap.size ≤ q) b := Nat.not_le.mpr hbl
  obtain ⟨r, σ1, τ1, e1, e2, hR⟩ := hsim σ τ hR (xs (nI i + (1 : Int32)).toNatClampNeg)
  refine lv_aload_n hx hb dL_law_840 rfl (lv_at hl 1 rfl) ?_
  refine lv_aload_n hx hb dL_law_841 rfl (lv_at hl 0 rfl) ?_
  refine lv_iload_n hx hb dL_law_842 rfl (lv_at hl 3 rfl) ?_
  refine lv_iconst (v := (1 : Int32)) hx hb dL_law_843 (by decide) ?_
  refine lv_iadd hx hb dL_law_844 ?_
  refine va_sld hx hb hX hbl hbA hS (nI_in6 1 (by decide) hi hL) dL_law_845 ?_
  refine k_goI (k_runV (As := [.int (xs (nI i + (1 : Int32)).toNatClampNeg)]) (rest := []) S hK hPX (k_X4_frosts l hAdX e1) cy_X4_frosts wd_543 rfl xO rfl hl.1 rfl (Nat.le_of_ble_eq_true rfl) dL_law_846 ⟨Nat.le_of_ble_eq_true rfl, Nat.le_of_ble_eq_true rfl⟩ ⟨Nat.le_of_ble_eq_true rfl, Nat.le_of_ble_eq_true rfl⟩) hS hAX (fun H1 locs1 hPX hS hz hk => ?_)
  have hPM := k_keep hPM (hAdM _) hk (fun q h1 h2 => hdis q h2 h1)
  refine lv_aload_n hx hb dL_law_849 rfl (lv_at hl 2 rfl) ?_
  refine lv_aload_n hx hb dL_law_850 rfl (lv_at hl 0 rfl) ?_
  refine lv_iload_n hx hb dL_law_851 rfl (lv_at hl 3 rfl) ?_
  refine lv_iconst (v := (1 : Int32)) hx hb dL_law_852 (by decide) ?_
  refine lv_iadd hx hb dL_law_853 ?_
  refine va_sld hx hb hX hbl hbA hS (nI_in6 1 (by decide) hi hL) dL_law_854 ?_
  refine k_goI (k_runV (As := [.int (xs (nI i + (1 : Int32)).toNatClampNeg)]) (rest := [.int r]) S hK hPM (k_X5_frosts l hAdM e2) cy_X5_frosts wd_957 rfl mO rfl hl.1 rfl (Nat.le_of_ble_eq_true rfl) dL_law_855 ⟨Nat.le_of_ble_eq_true rfl, Nat.le_of_ble_eq_true rfl⟩ ⟨Nat.le_of_ble_eq_true rfl, Nat.le_of_ble_eq_true rfl⟩) hS hAM (fun H2 locs2 hPM hS hz hk => ?_)
  have hPX := k_keep hPX (hAdX _ _) hk hdis
  refine lv_icmp_eq (tgt := 1251) hx hb dL_law_858 (by decide) (fun _ => ?_) (fun c => absurd rfl c)
  exact kk _ _ _ _ _ hR hPX hPM hS
def Sim_odds (Rel : SX → SX → Prop) : Prop := ∀ σ τ : SX, Rel σ τ → ∀ (x1 x2 x3 : Int32), ∃ r, f_X4_odds σ x1 x2 x3 = some r ∧ f_X5_odds τ x1 x2 x3 = some r
set_option maxRecDepth 100000 in
set_option maxHeartbeats 4000000 in
theorem law_odds {p : Program} {l : Launch} {e : Env} {s : State} {m : MethodId} {below : List Frame} {meth : Method} {c : Code} {b L : Nat} {xs : Nat → Int32} {D : va_G} {cI cZ cS : ClassId} {ad am : Nat → Nat} {Rel : SX → SX → Prop} (hsim : Sim_odds Rel) (C : LC p s m c b L xs D cI cZ cS ad am) (hL : L ≤ 3072) {i : Nat} (hi : i + 6 ≤ L) {Q : State → Prop} {σ τ : SX} {ro : Option Nat} {H : Heap} {locs : List Loc} {ls : Array Slot} (hR : Rel σ τ) (hPX : va_P D vwCl (WX cI cZ cS ad ro σ) H) (hPM : va_P D vwCl (WM cI am τ) H) (hS : va_S (fun q : Nat => s.heap.size ≤ q) s.heap H locs) (hl : lv_has ls 4 [(0, .ref b), (1, .ref (ad 0)), (2, .ref (am 0)), (3, .int (nI i))])
    (kk : ∀ (σ τ : SX) (ro : Option Nat) (H : Heap) (locs : List Loc), Rel σ τ → va_P D vwCl (WX cI cZ cS ad ro σ) H → va_P D vwCl (WM cI am τ) H → va_S (fun q : Nat => s.heap.size ≤ q) s.heap H locs → W p l e room_1 s m #[Value.ref b] below meth c H locs 48 2000 Q (F0 m 1251 ls [])) : W p l e room_1 s m #[Value.ref b] below meth c H locs 48 2000 Q (F0 m 863 ls []) := by
  obtain ⟨S, hK, hX, hbl, hAdX, hAdM, hAX, hAM, hdis⟩ := C
  have hx := S.1
  have hb := S.2.1
  have hbA : ¬ (fun q : Nat => s.heap.size ≤ q) b := Nat.not_le.mpr hbl
  obtain ⟨r, e1, e2⟩ := hsim σ τ hR (xs (nI i + (1 : Int32)).toNatClampNeg) (xs (nI i + (2 : Int32)).toNatClampNeg) (xs (nI i + (3 : Int32)).toNatClampNeg)
  refine lv_aload_n hx hb dL_law_863 rfl (lv_at hl 1 rfl) ?_
  refine lv_aload_n hx hb dL_law_864 rfl (lv_at hl 0 rfl) ?_
  refine lv_iload_n hx hb dL_law_865 rfl (lv_at hl 3 rfl) ?_
  refine lv_iconst (v := (1 : Int32)) hx hb dL_law_866 (by decide) ?_
  refine lv_iadd hx hb dL_law_867 ?_
  refine va_sld hx hb hX hbl hbA hS (nI_in6 1 (by decide) hi hL) dL_law_868 ?_
  refine lv_aload_n hx hb dL_law_869 rfl (lv_at hl 0 rfl) ?_
  refine lv_iload_n hx hb dL_law_870 rfl (lv_at hl 3 rfl) ?_
  refine lv_iconst (v := (2 : Int32)) hx hb dL_law_871 (by decide) ?_
  refine lv_iadd hx hb dL_law_872 ?_
  refine va_sld hx hb hX hbl hbA hS (nI_in6 2 (by decide) hi hL) dL_law_873 ?_
  refine lv_aload_n hx hb dL_law_874 rfl (lv_at hl 0 rfl) ?_
  refine lv_iload_n hx hb dL_law_875 rfl (lv_at hl 3 rfl) ?_
  refine lv_iconst (v := (3 : Int32)) hx hb dL_law_876 (by decide) ?_
  refine lv_iadd hx hb dL_law_877 ?_
  refine va_sld hx hb hX hbl hbA hS (nI_in6 3 (by decide) hi hL) dL_law_878 ?_
  refine k_goL (k_runV (As := [.int (xs (nI i + (1 : Int32)).toNatClampNeg), .int (xs (nI i + (2 : Int32)).toNatClampNeg), .int (xs (nI i + (3 : Int32)).toNatClampNeg)]) (rest := []) S hK hPX (k_X4_odds l hAdX e1) cy_X4_odds wd_547 rfl xO rfl hl.1 rfl (Nat.le_of_ble_eq_true rfl) dL_law_879 ⟨Nat.le_of_ble_eq_true rfl, Nat.le_of_ble_eq_true rfl⟩ ⟨Nat.le_of_ble_eq_true rfl, Nat.le_of_ble_eq_true rfl⟩) hS hAX (fun H1 locs1 hPX hS hz hk => ?_)
  have hPM := k_keep hPM (hAdM _) hk (fun q h1 h2 => hdis q h2 h1)
  refine lv_aload_n hx hb dL_law_882 rfl (lv_at hl 2 rfl) ?_
  refine lv_aload_n hx hb dL_law_883 rfl (lv_at hl 0 rfl) ?_
  refine lv_iload_n hx hb dL_law_884 rfl (lv_at hl 3 rfl) ?_
  refine lv_iconst (v := (1 : Int32)) hx hb dL_law_885 (by decide) ?_
  refine lv_iadd hx hb dL_law_886 ?_
  refine va_sld hx hb hX hbl hbA hS (nI_in6 1 (by decide) hi hL) dL_law_887 ?_
  refine lv_aload_n hx hb dL_law_888 rfl (lv_at hl 0 rfl) ?_
  refine lv_iload_n hx hb dL_law_889 rfl (lv_at hl 3 rfl) ?_
  refine lv_iconst (v := (2 : Int32)) hx hb dL_law_890 (by decide) ?_
  refine lv_iadd hx hb dL_law_891 ?_
  refine va_sld hx hb hX hbl hbA hS (nI_in6 2 (by decide) hi hL) dL_law_892 ?_
  refine lv_aload_n hx hb dL_law_893 rfl (lv_at hl 0 rfl) ?_
  refine lv_iload_n hx hb dL_law_894 rfl (lv_at hl 3 rfl) ?_
  refine lv_iconst (v := (3 : Int32)) hx hb dL_law_895 (by decide) ?_
  refine lv_iadd hx hb dL_law_896 ?_
  refine va_sld hx hb hX hbl hbA hS (nI_in6 3 (by decide) hi hL) dL_law_897 ?_
  refine k_goL (k_runV (As := [.int (xs (nI i + (1 : Int32)).toNatClampNeg), .int (xs (nI i + (2 : Int32)).toNatClampNeg), .int (xs (nI i + (3 : Int32)).toNatClampNeg)]) (rest := [.long r]) S hK hPM (k_X5_odds l hAdM e2) cy_X5_odds wd_961 rfl mO rfl hl.1 rfl (Nat.le_of_ble_eq_true rfl) dL_law_898 ⟨Nat.le_of_ble_eq_true rfl, Nat.le_of_ble_eq_true rfl⟩ ⟨Nat.le_of_ble_eq_true rfl, Nat.le_of_ble_eq_true rfl⟩) hS hAM (fun H2 locs2 hPM hS hz hk => ?_)
  have hPX := k_keep hPX (hAdX _ _) hk hdis
  refine W.lcmp hx hb dL_law_901 ?_
  refine lv_if_eq (tgt := 1251) hx hb dL_law_902 (by decide) (fun _ => ?_) (fun c => absurd (lg_cmp_self r) c)
  exact kk _ _ _ _ _ hR hPX hPM hS
def Sim_sheet (Rel : SX → SX → Prop) : Prop := ∀ σ τ : SX, Rel σ τ → ∀ (x1 x2 x3 : Int32), ∃ r σ' τ', f_X4_sheet σ x1 x2 x3 = some (r, σ') ∧ f_X5_sheet τ x1 x2 x3 = some (r, τ') ∧ Rel σ' τ'
set_option maxRecDepth 100000 in
set_option maxHeartbeats 4000000 in
theorem law_sheet {p : Program} {l : Launch} {e : Env} {s : State} {m : MethodId} {below : List Frame} {meth : Method} {c : Code} {b L : Nat} {xs : Nat → Int32} {D : va_G} {cI cZ cS : ClassId} {ad am : Nat → Nat} {Rel : SX → SX → Prop} (hsim : Sim_sheet Rel) (C : LC p s m c b L xs D cI cZ cS ad am) (hL : L ≤ 3072) {i : Nat} (hi : i + 6 ≤ L) {Q : State → Prop} {σ τ : SX} {ro : Option Nat} {H : Heap} {locs : List Loc} {ls : Array Slot} (hR : Rel σ τ) (hPX : va_P D vwCl (WX cI cZ cS ad ro σ) H) (hPM : va_P D vwCl (WM cI am τ) H) (hS : va_S (fun q : Nat => s.heap.size ≤ q) s.heap H locs) (hl : lv_has ls 4 [(0, .ref b), (1, .ref (ad 0)), (2, .ref (am 0)), (3, .int (nI i))])
    (kk : ∀ (σ τ : SX) (ro : Option Nat) (H : Heap) (locs : List Loc), Rel σ τ → va_P D vwCl (WX cI cZ cS ad ro σ) H → va_P D vwCl (WM cI am τ) H → va_S (fun q : Nat => s.heap.size ≤ q) s.heap H locs → W p l e room_1 s m #[Value.ref b] below meth c H locs 48 2000 Q (F0 m 1251 ls [])) : W p l e room_1 s m #[Value.ref b] below meth c H locs 48 2000 Q (F0 m 907 ls []) := by
  obtain ⟨S, hK, hX, hbl, hAdX, hAdM, hAX, hAM, hdis⟩ := C
  have hx := S.1
  have hb := S.2.1
  have hbA : ¬ (fun q : Nat => s.heap.size ≤ q) b := Nat.not_le.mpr hbl
  obtain ⟨r, σ1, τ1, e1, e2, hR⟩ := hsim σ τ hR (xs (nI i + (1 : Int32)).toNatClampNeg) (xs (nI i + (2 : Int32)).toNatClampNeg) (xs (nI i + (3 : Int32)).toNatClampNeg)
  refine lv_aload_n hx hb dL_law_907 rfl (lv_at hl 1 rfl) ?_
  refine lv_aload_n hx hb dL_law_908 rfl (lv_at hl 0 rfl) ?_
  refine lv_iload_n hx hb dL_law_909 rfl (lv_at hl 3 rfl) ?_
  refine lv_iconst (v := (1 : Int32)) hx hb dL_law_910 (by decide) ?_
  refine lv_iadd hx hb dL_law_911 ?_
  refine va_sld hx hb hX hbl hbA hS (nI_in6 1 (by decide) hi hL) dL_law_912 ?_
  refine lv_aload_n hx hb dL_law_913 rfl (lv_at hl 0 rfl) ?_
  refine lv_iload_n hx hb dL_law_914 rfl (lv_at hl 3 rfl) ?_
  refine lv_iconst (v := (2 : Int32)) hx hb dL_law_915 (by decide) ?_
  refine lv_iadd hx hb dL_law_916 ?_
  refine va_sld hx hb hX hbl hbA hS (nI_in6 2 (by decide) hi hL) dL_law_917 ?_
  refine lv_aload_n hx hb dL_law_918 rfl (lv_at hl 0 rfl) ?_
  refine lv_iload_n hx hb dL_law_919 rfl (lv_at hl 3 rfl) ?_
  refine lv_iconst (v := (3 : Int32)) hx hb dL_law_920 (by decide) ?_
  refine lv_iadd hx hb dL_law_921 ?_
  refine va_sld hx hb hX hbl hbA hS (nI_in6 3 (by decide) hi hL) dL_law_922 ?_
  refine k_goI (k_runV (As := [.int (xs (nI i + (1 : Int32)).toNatClampNeg), .int (xs (nI i + (2 : Int32)).toNatClampNeg), .int (xs (nI i + (3 : Int32)).toNatClampNeg)]) (rest := []) S hK hPX (k_X4_sheet l hAdX e1) cy_X4_sheet wd_555 rfl xO rfl hl.1 rfl (Nat.le_of_ble_eq_true rfl) dL_law_923 ⟨Nat.le_of_ble_eq_true rfl, Nat.le_of_ble_eq_true rfl⟩ ⟨Nat.le_of_ble_eq_true rfl, Nat.le_of_ble_eq_true rfl⟩) hS hAX (fun H1 locs1 hPX hS hz hk => ?_)
  have hPM := k_keep hPM (hAdM _) hk (fun q h1 h2 => hdis q h2 h1)
  refine lv_aload_n hx hb dL_law_926 rfl (lv_at hl 2 rfl) ?_
  refine lv_aload_n hx hb dL_law_927 rfl (lv_at hl 0 rfl) ?_
  refine lv_iload_n hx hb dL_law_928 rfl (lv_at hl 3 rfl) ?_
  refine lv_iconst (v := (1 : Int32)) hx hb dL_law_929 (by decide) ?_
  refine lv_iadd hx hb dL_law_930 ?_
  refine va_sld hx hb hX hbl hbA hS (nI_in6 1 (by decide) hi hL) dL_law_931 ?_
  refine lv_aload_n hx hb dL_law_932 rfl (lv_at hl 0 rfl) ?_
  refine lv_iload_n hx hb dL_law_933 rfl (lv_at hl 3 rfl) ?_
  refine lv_iconst (v := (2 : Int32)) hx hb dL_law_934 (by decide) ?_
  refine lv_iadd hx hb dL_law_935 ?_
  refine va_sld hx hb hX hbl hbA hS (nI_in6 2 (by decide) hi hL) dL_law_936 ?_
  refine lv_aload_n hx hb dL_law_937 rfl (lv_at hl 0 rfl) ?_
  refine lv_iload_n hx hb dL_law_938 rfl (lv_at hl 3 rfl) ?_
  refine lv_iconst (v := (3 : Int32)) hx hb dL_law_939 (by decide) ?_
  refine lv_iadd hx hb dL_law_940 ?_
  refine va_sld hx hb hX hbl hbA hS (nI_in6 3 (by decide) hi hL) dL_law_941 ?_
  refine k_goI (k_runV (As := [.int (xs (nI i + (1 : Int32)).toNatClampNeg), .int (xs (nI i + (2 : Int32)).toNatClampNeg), .int (xs (nI i + (3 : Int32)).toNatClampNeg)]) (rest := [.int r]) S hK hPM (k_X5_sheet l hAdM e2) cy_X5_sheet wd_969 rfl mO rfl hl.1 rfl (Nat.le_of_ble_eq_true rfl) dL_law_942 ⟨Nat.le_of_ble_eq_true rfl, Nat.le_of_ble_eq_true rfl⟩ ⟨Nat.le_of_ble_eq_true rfl, Nat.le_of_ble_eq_true rfl⟩) hS hAM (fun H2 locs2 hPM hS hz hk => ?_)
  have hPX := k_keep hPX (hAdX _ _) hk hdis
  refine lv_icmp_eq (tgt := 1251) hx hb dL_law_945 (by decide) (fun _ => ?_) (fun c => absurd rfl c)
  exact kk _ _ _ _ _ hR hPX hPM hS
def Sim_lose (Rel : SX → SX → Prop) : Prop := ∀ σ τ : SX, Rel σ τ → ∀ (x1 : Int32), ∃ r σ' τ', f_X4_lose σ x1 = some (r, σ') ∧ f_X5_lose τ x1 = some (r, τ') ∧ Rel σ' τ'
set_option maxRecDepth 100000 in
set_option maxHeartbeats 4000000 in
theorem law_lose {p : Program} {l : Launch} {e : Env} {s : State} {m : MethodId} {below : List Frame} {meth : Method} {c : Code} {b L : Nat} {xs : Nat → Int32} {D : va_G} {cI cZ cS : ClassId} {ad am : Nat → Nat} {Rel : SX → SX → Prop} (hsim : Sim_lose Rel) (C : LC p s m c b L xs D cI cZ cS ad am) (hL : L ≤ 3072) {i : Nat} (hi : i + 6 ≤ L) {Q : State → Prop} {σ τ : SX} {ro : Option Nat} {H : Heap} {locs : List Loc} {ls : Array Slot} (hR : Rel σ τ) (hPX : va_P D vwCl (WX cI cZ cS ad ro σ) H) (hPM : va_P D vwCl (WM cI am τ) H) (hS : va_S (fun q : Nat => s.heap.size ≤ q) s.heap H locs) (hl : lv_has ls 4 [(0, .ref b), (1, .ref (ad 0)), (2, .ref (am 0)), (3, .int (nI i))])
    (kk : ∀ (σ τ : SX) (ro : Option Nat) (H : Heap) (locs : List Loc), Rel σ τ → va_P D vwCl (WX cI cZ cS ad ro σ) H → va_P D vwCl (WM cI am τ) H → va_S (fun q : Nat => s.heap.size ≤ q) s.heap H locs → W p l e room_1 s m #[Value.ref b] below meth c H locs 48 2000 Q (F0 m 1251 ls [])) : W p l e room_1 s m #[Value.ref b] below meth c H locs 48 2000 Q (F0 m 950 ls []) := by
  obtain ⟨S, hK, hX, hbl, hAdX, hAdM, hAX, hAM, hdis⟩ := C
  have hx := S.1
  have hb := S.2.1
  have hbA : ¬ (fun q : Nat => s.heap.size ≤ q) b := Nat.not_le.mpr hbl
  obtain ⟨r, σ1, τ1, e1, e2, hR⟩ := hsim σ τ hR (xs (nI i + (1 : Int32)).toNatClampNeg)
  refine lv_aload_n hx hb dL_law_950 rfl (lv_at hl 1 rfl) ?_
  refine lv_aload_n hx hb dL_law_951 rfl (lv_at hl 0 rfl) ?_
  refine lv_iload_n hx hb dL_law_952 rfl (lv_at hl 3 rfl) ?_
  refine lv_iconst (v := (1 : Int32)) hx hb dL_law_953 (by decide) ?_
  refine lv_iadd hx hb dL_law_954 ?_
  refine va_sld hx hb hX hbl hbA hS (nI_in6 1 (by decide) hi hL) dL_law_955 ?_
  refine k_goI (k_runV (As := [.int (xs (nI i + (1 : Int32)).toNatClampNeg)]) (rest := []) S hK hPX (k_X4_lose l hAdX e1) cy_X4_lose wd_566 rfl xO rfl hl.1 rfl (Nat.le_of_ble_eq_true rfl) dL_law_956 ⟨Nat.le_of_ble_eq_true rfl, Nat.le_of_ble_eq_true rfl⟩ ⟨Nat.le_of_ble_eq_true rfl, Nat.le_of_ble_eq_true rfl⟩) hS hAX (fun H1 locs1 hPX hS hz hk => ?_)
  have hPM := k_keep hPM (hAdM _) hk (fun q h1 h2 => hdis q h2 h1)
  refine lv_aload_n hx hb dL_law_959 rfl (lv_at hl 2 rfl) ?_
  refine lv_aload_n hx hb dL_law_960 rfl (lv_at hl 0 rfl) ?_
  refine lv_iload_n hx hb dL_law_961 rfl (lv_at hl 3 rfl) ?_
  refine lv_iconst (v := (1 : Int32)) hx hb dL_law_962 (by decide) ?_
  refine lv_iadd hx hb dL_law_963 ?_
  refine va_sld hx hb hX hbl hbA hS (nI_in6 1 (by decide) hi hL) dL_law_964 ?_
  refine k_goI (k_runV (As := [.int (xs (nI i + (1 : Int32)).toNatClampNeg)]) (rest := [.int r]) S hK hPM (k_X5_lose l hAdM e2) cy_X5_lose wd_973 rfl mO rfl hl.1 rfl (Nat.le_of_ble_eq_true rfl) dL_law_965 ⟨Nat.le_of_ble_eq_true rfl, Nat.le_of_ble_eq_true rfl⟩ ⟨Nat.le_of_ble_eq_true rfl, Nat.le_of_ble_eq_true rfl⟩) hS hAM (fun H2 locs2 hPM hS hz hk => ?_)
  have hPX := k_keep hPX (hAdX _ _) hk hdis
  refine lv_icmp_eq (tgt := 1251) hx hb dL_law_968 (by decide) (fun _ => ?_) (fun c => absurd rfl c)
  exact kk _ _ _ _ _ hR hPX hPM hS
def Sim_put (Rel : SX → SX → Prop) : Prop := ∀ σ τ : SX, Rel σ τ → ∀ (x1 x2 x3 : Int32), ∃ r σ' τ', f_X4_put σ x1 x2 x3 = some (r, σ') ∧ f_X5_put τ x1 x2 x3 = some (r, τ') ∧ Rel σ' τ'
set_option maxRecDepth 100000 in
set_option maxHeartbeats 4000000 in
theorem law_put {p : Program} {l : Launch} {e : Env} {s : State} {m : MethodId} {below : List Frame} {meth : Method} {c : Code} {b L : Nat} {xs : Nat → Int32} {D : va_G} {cI cZ cS : ClassId} {ad am : Nat → Nat} {Rel : SX → SX → Prop} (hsim : Sim_put Rel) (C : LC p s m c b L xs D cI cZ cS ad am) (hL : L ≤ 3072) {i : Nat} (hi : i + 6 ≤ L) {Q : State → Prop} {σ τ : SX} {ro : Option Nat} {H : Heap} {locs : List Loc} {ls : Array Slot} (hR : Rel σ τ) (hPX : va_P D vwCl (WX cI cZ cS ad ro σ) H) (hPM : va_P D vwCl (WM cI am τ) H) (hS : va_S (fun q : Nat => s.heap.size ≤ q) s.heap H locs) (hl : lv_has ls 4 [(0, .ref b), (1, .ref (ad 0)), (2, .ref (am 0)), (3, .int (nI i))])
    (kk : ∀ (σ τ : SX) (ro : Option Nat) (H : Heap) (locs : List Loc), Rel σ τ → va_P D vwCl (WX cI cZ cS ad ro σ) H → va_P D vwCl (WM cI am τ) H → va_S (fun q : Nat => s.heap.size ≤ q) s.heap H locs → W p l e room_1 s m #[Value.ref b] below meth c H locs 48 2000 Q (F0 m 1251 ls [])) : W p l e room_1 s m #[Value.ref b] below meth c H locs 48 2000 Q (F0 m 973 ls []) := by
  obtain ⟨S, hK, hX, hbl, hAdX, hAdM, hAX, hAM, hdis⟩ := C
  have hx := S.1
  have hb := S.2.1
  have hbA : ¬ (fun q : Nat => s.heap.size ≤ q) b := Nat.not_le.mpr hbl
  obtain ⟨r, σ1, τ1, e1, e2, hR⟩ := hsim σ τ hR (xs (nI i + (1 : Int32)).toNatClampNeg) (xs (nI i + (2 : Int32)).toNatClampNeg) (xs (nI i + (3 : Int32)).toNatClampNeg)
  refine lv_aload_n hx hb dL_law_973 rfl (lv_at hl 1 rfl) ?_
  refine lv_aload_n hx hb dL_law_974 rfl (lv_at hl 0 rfl) ?_
  refine lv_iload_n hx hb dL_law_975 rfl (lv_at hl 3 rfl) ?_
  refine lv_iconst (v := (1 : Int32)) hx hb dL_law_976 (by decide) ?_
  refine lv_iadd hx hb dL_law_977 ?_
  refine va_sld hx hb hX hbl hbA hS (nI_in6 1 (by decide) hi hL) dL_law_978 ?_
  refine lv_aload_n hx hb dL_law_979 rfl (lv_at hl 0 rfl) ?_
  refine lv_iload_n hx hb dL_law_980 rfl (lv_at hl 3 rfl) ?_
  refine lv_iconst (v := (2 : Int32)) hx hb dL_law_981 (by decide) ?_
  refine lv_iadd hx hb dL_law_982 ?_
  refine va_sld hx hb hX hbl hbA hS (nI_in6 2 (by decide) hi hL) dL_law_983 ?_
  refine lv_aload_n hx hb dL_law_984 rfl (lv_at hl 0 rfl) ?_
  refine lv_iload_n hx hb dL_law_985 rfl (lv_at hl 3 rfl) ?_
  refine lv_iconst (v := (3 : Int32)) hx hb dL_law_986 (by decide) ?_
  refine lv_iadd hx hb dL_law_987 ?_
  refine va_sld hx hb hX hbl hbA hS (nI_in6 3 (by decide) hi hL) dL_law_988 ?_
  refine k_goI (k_runV (As := [.int (xs (nI i + (1 : Int32)).toNatClampNeg), .int (xs (nI i + (2 : Int32)).toNatClampNeg), .int (xs (nI i + (3 : Int32)).toNatClampNeg)]) (rest := []) S hK hPX (k_X4_put l hAdX e1) cy_X4_put wd_570 rfl xO rfl hl.1 rfl (Nat.le_of_ble_eq_true rfl) dL_law_989 ⟨Nat.le_of_ble_eq_true rfl, Nat.le_of_ble_eq_true rfl⟩ ⟨Nat.le_of_ble_eq_true rfl, Nat.le_of_ble_eq_true rfl⟩) hS hAX (fun H1 locs1 hPX hS hz hk => ?_)
  have hPM := k_keep hPM (hAdM _) hk (fun q h1 h2 => hdis q h2 h1)
  refine lv_aload_n hx hb dL_law_992 rfl (lv_at hl 2 rfl) ?_
  refine lv_aload_n hx hb dL_law_993 rfl (lv_at hl 0 rfl) ?_
  refine lv_iload_n hx hb dL_law_994 rfl (lv_at hl 3 rfl) ?_
  refine lv_iconst (v := (1 : Int32)) hx hb dL_law_995 (by decide) ?_
  refine lv_iadd hx hb dL_law_996 ?_
  refine va_sld hx hb hX hbl hbA hS (nI_in6 1 (by decide) hi hL) dL_law_997 ?_
  refine lv_aload_n hx hb dL_law_998 rfl (lv_at hl 0 rfl) ?_
  refine lv_iload_n hx hb dL_law_999 rfl (lv_at hl 3 rfl) ?_
  refine lv_iconst (v := (2 : Int32)) hx hb dL_law_1000 (by decide) ?_
  refine lv_iadd hx hb dL_law_1001 ?_
  refine va_sld hx hb hX hbl hbA hS (nI_in6 2 (by decide) hi hL) dL_law_1002 ?_
  refine lv_aload_n hx hb dL_law_1003 rfl (lv_at hl 0 rfl) ?_
  refine lv_iload_n hx hb dL_law_1004 rfl (lv_at hl 3 rfl) ?_
  refine lv_iconst (v := (3 : Int32)) hx hb dL_law_1005 (by decide) ?_
  refine lv_iadd hx hb dL_law_1006 ?_
  refine va_sld hx hb hX hbl hbA hS (nI_in6 3 (by decide) hi hL) dL_law_1007 ?_
  refine k_goI (k_runV (As := [.int (xs (nI i + (1 : Int32)).toNatClampNeg), .int (xs (nI i + (2 : Int32)).toNatClampNeg), .int (xs (nI i + (3 : Int32)).toNatClampNeg)]) (rest := [.int r]) S hK hPM (k_X5_put l hAdM e2) cy_X5_put wd_977 rfl mO rfl hl.1 rfl (Nat.le_of_ble_eq_true rfl) dL_law_1008 ⟨Nat.le_of_ble_eq_true rfl, Nat.le_of_ble_eq_true rfl⟩ ⟨Nat.le_of_ble_eq_true rfl, Nat.le_of_ble_eq_true rfl⟩) hS hAM (fun H2 locs2 hPM hS hz hk => ?_)
  have hPX := k_keep hPX (hAdX _ _) hk hdis
  refine lv_icmp_eq (tgt := 1251) hx hb dL_law_1011 (by decide) (fun _ => ?_) (fun c => absurd rfl c)
  exact kk _ _ _ _ _ hR hPX hPM hS
def Sim_cell (Rel : SX → SX → Prop) : Prop := ∀ σ τ : SX, Rel σ τ → ∀ (x1 x2 x3 : Int32), ∃ r σ' τ', f_X4_cell σ x1 x2 x3 = some (r, σ') ∧ f_X5_cell τ x1 x2 x3 = some (r, τ') ∧ Rel σ' τ'
set_option maxRecDepth 100000 in
set_option maxHeartbeats 4000000 in
theorem law_cell {p : Program} {l : Launch} {e : Env} {s : State} {m : MethodId} {below : List Frame} {meth : Method} {c : Code} {b L : Nat} {xs : Nat → Int32} {D : va_G} {cI cZ cS : ClassId} {ad am : Nat → Nat} {Rel : SX → SX → Prop} (hsim : Sim_cell Rel) (C : LC p s m c b L xs D cI cZ cS ad am) (hL : L ≤ 3072) {i : Nat} (hi : i + 6 ≤ L) {Q : State → Prop} {σ τ : SX} {ro : Option Nat} {H : Heap} {locs : List Loc} {ls : Array Slot} (hR : Rel σ τ) (hPX : va_P D vwCl (WX cI cZ cS ad ro σ) H) (hPM : va_P D vwCl (WM cI am τ) H) (hS : va_S (fun q : Nat => s.heap.size ≤ q) s.heap H locs) (hl : lv_has ls 4 [(0, .ref b), (1, .ref (ad 0)), (2, .ref (am 0)), (3, .int (nI i))])
    (kk : ∀ (σ τ : SX) (ro : Option Nat) (H : Heap) (locs : List Loc), Rel σ τ → va_P D vwCl (WX cI cZ cS ad ro σ) H → va_P D vwCl (WM cI am τ) H → va_S (fun q : Nat => s.heap.size ≤ q) s.heap H locs → W p l e room_1 s m #[Value.ref b] below meth c H locs 48 2000 Q (F0 m 1251 ls [])) : W p l e room_1 s m #[Value.ref b] below meth c H locs 48 2000 Q (F0 m 1016 ls []) := by
  obtain ⟨S, hK, hX, hbl, hAdX, hAdM, hAX, hAM, hdis⟩ := C
  have hx := S.1
  have hb := S.2.1
  have hbA : ¬ (fun q : Nat => s.heap.size ≤ q) b := Nat.not_le.mpr hbl
  obtain ⟨r, σ1, τ1, e1, e2, hR⟩ := hsim σ τ hR (xs (nI i + (1 : Int32)).toNatClampNeg) (xs (nI i + (2 : Int32)).toNatClampNeg) (xs (nI i + (3 : Int32)).toNatClampNeg)
  refine lv_aload_n hx hb dL_law_1016 rfl (lv_at hl 1 rfl) ?_
  refine lv_aload_n hx hb dL_law_1017 rfl (lv_at hl 0 rfl) ?_
  refine lv_iload_n hx hb dL_law_1018 rfl (lv_at hl 3 rfl) ?_
  refine lv_iconst (v := (1 : Int32)) hx hb dL_law_1019 (by decide) ?_
  refine lv_iadd hx hb dL_law_1020 ?_
  refine va_sld hx hb hX hbl hbA hS (nI_in6 1 (by decide) hi hL) dL_law_1021 ?_
  refine lv_aload_n hx hb dL_law_1022 rfl (lv_at hl 0 rfl) ?_
  refine lv_iload_n hx hb dL_law_1023 rfl (lv_at hl 3 rfl) ?_
  refine lv_iconst (v := (2 : Int32)) hx hb dL_law_1024 (by decide) ?_
  refine lv_iadd hx hb dL_law_1025 ?_
  refine va_sld hx hb hX hbl hbA hS (nI_in6 2 (by decide) hi hL) dL_law_1026 ?_
  refine lv_aload_n hx hb dL_law_1027 rfl (lv_at hl 0 rfl) ?_
  refine lv_iload_n hx hb dL_law_1028 rfl (lv_at hl 3 rfl) ?_
  refine lv_iconst (v := (3 : Int32)) hx hb dL_law_1029 (by decide) ?_
  refine lv_iadd hx hb dL_law_1030 ?_
  refine va_sld hx hb hX hbl hbA hS (nI_in6 3 (by decide) hi hL) dL_law_1031 ?_
  refine k_goL (k_runV (As := [.int (xs (nI i + (1 : Int32)).toNatClampNeg), .int (xs (nI i + (2 : Int32)).toNatClampNeg), .int (xs (nI i + (3 : Int32)).toNatClampNeg)]) (rest := []) S hK hPX (k_X4_cell l hAdX e1) cy_X4_cell wd_583 rfl xO rfl hl.1 rfl (Nat.le_of_ble_eq_true rfl) dL_law_1032 ⟨Nat.le_of_ble_eq_true rfl, Nat.le_of_ble_eq_true rfl⟩ ⟨Nat.le_of_ble_eq_true rfl, Nat.le_of_ble_eq_true rfl⟩) hS hAX (fun H1 locs1 hPX hS hz hk => ?_)
  have hPM := k_keep hPM (hAdM _) hk (fun q h1 h2 => hdis q h2 h1)
  refine lv_aload_n hx hb dL_law_1035 rfl (lv_at hl 2 rfl) ?_
  refine lv_aload_n hx hb dL_law_1036 rfl (lv_at hl 0 rfl) ?_
  refine lv_iload_n hx hb dL_law_1037 rfl (lv_at hl 3 rfl) ?_
  refine lv_iconst (v := (1 : Int32)) hx hb dL_law_1038 (by decide) ?_
  refine lv_iadd hx hb dL_law_1039 ?_
  refine va_sld hx hb hX hbl hbA hS (nI_in6 1 (by decide) hi hL) dL_law_1040 ?_
  refine lv_aload_n hx hb dL_law_1041 rfl (lv_at hl 0 rfl) ?_
  refine lv_iload_n hx hb dL_law_1042 rfl (lv_at hl 3 rfl) ?_
  refine lv_iconst (v := (2 : Int32)) hx hb dL_law_1043 (by decide) ?_
  refine lv_iadd hx hb dL_law_1044 ?_
  refine va_sld hx hb hX hbl hbA hS (nI_in6 2 (by decide) hi hL) dL_law_1045 ?_
  refine lv_aload_n hx hb dL_law_1046 rfl (lv_at hl 0 rfl) ?_
  refine lv_iload_n hx hb dL_law_1047 rfl (lv_at hl 3 rfl) ?_
  refine lv_iconst (v := (3 : Int32)) hx hb dL_law_1048 (by decide) ?_
  refine lv_iadd hx hb dL_law_1049 ?_
  refine va_sld hx hb hX hbl hbA hS (nI_in6 3 (by decide) hi hL) dL_law_1050 ?_
  refine k_goL (k_runV (As := [.int (xs (nI i + (1 : Int32)).toNatClampNeg), .int (xs (nI i + (2 : Int32)).toNatClampNeg), .int (xs (nI i + (3 : Int32)).toNatClampNeg)]) (rest := [.long r]) S hK hPM (k_X5_cell l hAdM e2) cy_X5_cell wd_981 rfl mO rfl hl.1 rfl (Nat.le_of_ble_eq_true rfl) dL_law_1051 ⟨Nat.le_of_ble_eq_true rfl, Nat.le_of_ble_eq_true rfl⟩ ⟨Nat.le_of_ble_eq_true rfl, Nat.le_of_ble_eq_true rfl⟩) hS hAM (fun H2 locs2 hPM hS hz hk => ?_)
  have hPX := k_keep hPX (hAdX _ _) hk hdis
  refine W.lcmp hx hb dL_law_1054 ?_
  refine lv_if_eq (tgt := 1251) hx hb dL_law_1055 (by decide) (fun _ => ?_) (fun c => absurd (lg_cmp_self r) c)
  exact kk _ _ _ _ _ hR hPX hPM hS
def Sim_copy (Rel : SX → SX → Prop) : Prop := ∀ σ τ : SX, Rel σ τ → ∀ (x1 x2 x3 x4 x5 : Int32), ∃ r σ' τ', f_X4_copy σ x1 x2 x3 x4 x5 = some (r, σ') ∧ f_X5_copy τ x1 x2 x3 x4 x5 = some (r, τ') ∧ Rel σ' τ'
set_option maxRecDepth 100000 in
set_option maxHeartbeats 4000000 in
theorem law_copy {p : Program} {l : Launch} {e : Env} {s : State} {m : MethodId} {below : List Frame} {meth : Method} {c : Code} {b L : Nat} {xs : Nat → Int32} {D : va_G} {cI cZ cS : ClassId} {ad am : Nat → Nat} {Rel : SX → SX → Prop} (hsim : Sim_copy Rel) (C : LC p s m c b L xs D cI cZ cS ad am) (hL : L ≤ 3072) {i : Nat} (hi : i + 6 ≤ L) {Q : State → Prop} {σ τ : SX} {ro : Option Nat} {H : Heap} {locs : List Loc} {ls : Array Slot} (hR : Rel σ τ) (hPX : va_P D vwCl (WX cI cZ cS ad ro σ) H) (hPM : va_P D vwCl (WM cI am τ) H) (hS : va_S (fun q : Nat => s.heap.size ≤ q) s.heap H locs) (hl : lv_has ls 4 [(0, .ref b), (1, .ref (ad 0)), (2, .ref (am 0)), (3, .int (nI i))])
    (kk : ∀ (σ τ : SX) (ro : Option Nat) (H : Heap) (locs : List Loc), Rel σ τ → va_P D vwCl (WX cI cZ cS ad ro σ) H → va_P D vwCl (WM cI am τ) H → va_S (fun q : Nat => s.heap.size ≤ q) s.heap H locs → W p l e room_1 s m #[Value.ref b] below meth c H locs 48 2000 Q (F0 m 1251 ls [])) : W p l e room_1 s m #[Value.ref b] below meth c H locs 48 2000 Q (F0 m 1060 ls []) := by
  obtain ⟨S, hK, hX, hbl, hAdX, hAdM, hAX, hAM, hdis⟩ := C
  have hx := S.1
  have hb := S.2.1
  have hbA : ¬ (fun q : Nat => s.heap.size ≤ q) b := Nat.not_le.mpr hbl
  obtain ⟨r, σ1, τ1, e1, e2, hR⟩ := hsim σ τ hR (xs (nI i + (1 : Int32)).toNatClampNeg) (xs (nI i + (2 : Int32)).toNatClampNeg) (xs (nI i + (3 : Int32)).toNatClampNeg) (xs (nI i + (4 : Int32)).toNatClampNeg) (xs (nI i + (5 : Int32)).toNatClampNeg)
  refine lv_aload_n hx hb dL_law_1060 rfl (lv_at hl 1 rfl) ?_
  refine lv_aload_n hx hb dL_law_1061 rfl (lv_at hl 0 rfl) ?_
  refine lv_iload_n hx hb dL_law_1062 rfl (lv_at hl 3 rfl) ?_
  refine lv_iconst (v := (1 : Int32)) hx hb dL_law_1063 (by decide) ?_
  refine lv_iadd hx hb dL_law_1064 ?_
  refine va_sld hx hb hX hbl hbA hS (nI_in6 1 (by decide) hi hL) dL_law_1065 ?_
  refine lv_aload_n hx hb dL_law_1066 rfl (lv_at hl 0 rfl) ?_
  refine lv_iload_n hx hb dL_law_1067 rfl (lv_at hl 3 rfl) ?_
  refine lv_iconst (v := (2 : Int32)) hx hb dL_law_1068 (by decide) ?_
  refine lv_iadd hx hb dL_law_1069 ?_
  refine va_sld hx hb hX hbl hbA hS (nI_in6 2 (by decide) hi hL) dL_law_1070 ?_
  refine lv_aload_n hx hb dL_law_1071 rfl (lv_at hl 0 rfl) ?_
  refine lv_iload_n hx hb dL_law_1072 rfl (lv_at hl 3 rfl) ?_
  refine lv_iconst (v := (3 : Int32)) hx hb dL_law_1073 (by decide) ?_
  refine lv_iadd hx hb dL_law_1074 ?_
  refine va_sld hx hb hX hbl hbA hS (nI_in6 3 (by decide) hi hL) dL_law_1075 ?_
  refine lv_aload_n hx hb dL_law_1076 rfl (lv_at hl 0 rfl) ?_
  refine lv_iload_n hx hb dL_law_1077 rfl (lv_at hl 3 rfl) ?_
  refine lv_iconst (v := (4 : Int32)) hx hb dL_law_1078 (by decide) ?_
  refine lv_iadd hx hb dL_law_1079 ?_
  refine va_sld hx hb hX hbl hbA hS (nI_in6 4 (by decide) hi hL) dL_law_1080 ?_
  refine lv_aload_n hx hb dL_law_1081 rfl (lv_at hl 0 rfl) ?_
  refine lv_iload_n hx hb dL_law_1082 rfl (lv_at hl 3 rfl) ?_
  refine lv_iconst (v := (5 : Int32)) hx hb dL_law_1083 (by decide) ?_
  refine lv_iadd hx hb dL_law_1084 ?_
  refine va_sld hx hb hX hbl hbA hS (nI_in6 5 (by decide) hi hL) dL_law_1085 ?_
  refine k_goI (k_runV (As := [.int (xs (nI i + (1 : Int32)).toNatClampNeg), .int (xs (nI i + (2 : Int32)).toNatClampNeg), .int (xs (nI i + (3 : Int32)).toNatClampNeg), .int (xs (nI i + (4 : Int32)).toNatClampNeg), .int (xs (nI i + (5 : Int32)).toNatClampNeg)]) (rest := []) S hK hPX (k_X4_copy l hAdX e1) cy_X4_copy wd_587 rfl xO rfl hl.1 rfl (Nat.le_of_ble_eq_true rfl) dL_law_1086 ⟨Nat.le_of_ble_eq_true rfl, Nat.le_of_ble_eq_true rfl⟩ ⟨Nat.le_of_ble_eq_true rfl, Nat.le_of_ble_eq_true rfl⟩) hS hAX (fun H1 locs1 hPX hS hz hk => ?_)
  have hPM := k_keep hPM (hAdM _) hk (fun q h1 h2 => hdis q h2 h1)
  refine lv_aload_n hx hb dL_law_1089 rfl (lv_at hl 2 rfl) ?_
  refine lv_aload_n hx hb dL_law_1090 rfl (lv_at hl 0 rfl) ?_
  refine lv_iload_n hx hb dL_law_1091 rfl (lv_at hl 3 rfl) ?_
  refine lv_iconst (v := (1 : Int32)) hx hb dL_law_1092 (by decide) ?_
  refine lv_iadd hx hb dL_law_1093 ?_
  refine va_sld hx hb hX hbl hbA hS (nI_in6 1 (by decide) hi hL) dL_law_1094 ?_
  refine lv_aload_n hx hb dL_law_1095 rfl (lv_at hl 0 rfl) ?_
  refine lv_iload_n hx hb dL_law_1096 rfl (lv_at hl 3 rfl) ?_
  refine lv_iconst (v := (2 : Int32)) hx hb dL_law_1097 (by decide) ?_
  refine lv_iadd hx hb dL_law_1098 ?_
  refine va_sld hx hb hX hbl hbA hS (nI_in6 2 (by decide) hi hL) dL_law_1099 ?_
  refine lv_aload_n hx hb dL_law_1100 rfl (lv_at hl 0 rfl) ?_
  refine lv_iload_n hx hb dL_law_1101 rfl (lv_at hl 3 rfl) ?_
  refine lv_iconst (v := (3 : Int32)) hx hb dL_law_1102 (by decide) ?_
  refine lv_iadd hx hb dL_law_1103 ?_
  refine va_sld hx hb hX hbl hbA hS (nI_in6 3 (by decide) hi hL) dL_law_1104 ?_
  refine lv_aload_n hx hb dL_law_1105 rfl (lv_at hl 0 rfl) ?_
  refine lv_iload_n hx hb dL_law_1106 rfl (lv_at hl 3 rfl) ?_
  refine lv_iconst (v := (4 : Int32)) hx hb dL_law_1107 (by decide) ?_
  refine lv_iadd hx hb dL_law_1108 ?_
  refine va_sld hx hb hX hbl hbA hS (nI_in6 4 (by decide) hi hL) dL_law_1109 ?_
  refine lv_aload_n hx hb dL_law_1110 rfl (lv_at hl 0 rfl) ?_
  refine lv_iload_n hx hb dL_law_1111 rfl (lv_at hl 3 rfl) ?_
  refine lv_iconst (v := (5 : Int32)) hx hb dL_law_1112 (by decide) ?_
  refine lv_iadd hx hb dL_law_1113 ?_
  refine va_sld hx hb hX hbl hbA hS (nI_in6 5 (by decide) hi hL) dL_law_1114 ?_
  refine k_goI (k_runV (As := [.int (xs (nI i + (1 : Int32)).toNatClampNeg), .int (xs (nI i + (2 : Int32)).toNatClampNeg), .int (xs (nI i + (3 : Int32)).toNatClampNeg), .int (xs (nI i + (4 : Int32)).toNatClampNeg), .int (xs (nI i + (5 : Int32)).toNatClampNeg)]) (rest := [.int r]) S hK hPM (k_X5_copy l hAdM e2) cy_X5_copy wd_989 rfl mO rfl hl.1 rfl (Nat.le_of_ble_eq_true rfl) dL_law_1115 ⟨Nat.le_of_ble_eq_true rfl, Nat.le_of_ble_eq_true rfl⟩ ⟨Nat.le_of_ble_eq_true rfl, Nat.le_of_ble_eq_true rfl⟩) hS hAM (fun H2 locs2 hPM hS hz hk => ?_)
  have hPX := k_keep hPX (hAdX _ _) hk hdis
  refine lv_icmp_eq (tgt := 1251) hx hb dL_law_1118 (by decide) (fun _ => ?_) (fun c => absurd rfl c)
  exact kk _ _ _ _ _ hR hPX hPM hS
def Sim_tell (Rel : SX → SX → Prop) : Prop := ∀ σ τ : SX, Rel σ τ → ∀ (x1 : Int32), ∃ r σ' τ', f_X4_tell σ x1 = some (r, σ') ∧ f_X5_tell τ x1 = some (r, τ') ∧ Rel σ' τ'
set_option maxRecDepth 100000 in
set_option maxHeartbeats 4000000 in
theorem law_tell {p : Program} {l : Launch} {e : Env} {s : State} {m : MethodId} {below : List Frame} {meth : Method} {c : Code} {b L : Nat} {xs : Nat → Int32} {D : va_G} {cI cZ cS : ClassId} {ad am : Nat → Nat} {Rel : SX → SX → Prop} (hsim : Sim_tell Rel) (C : LC p s m c b L xs D cI cZ cS ad am) (hL : L ≤ 3072) {i : Nat} (hi : i + 6 ≤ L) {Q : State → Prop} {σ τ : SX} {ro : Option Nat} {H : Heap} {locs : List Loc} {ls : Array Slot} (hR : Rel σ τ) (hPX : va_P D vwCl (WX cI cZ cS ad ro σ) H) (hPM : va_P D vwCl (WM cI am τ) H) (hS : va_S (fun q : Nat => s.heap.size ≤ q) s.heap H locs) (hl : lv_has ls 4 [(0, .ref b), (1, .ref (ad 0)), (2, .ref (am 0)), (3, .int (nI i))])
    (kk : ∀ (σ τ : SX) (ro : Option Nat) (H : Heap) (locs : List Loc), Rel σ τ → va_P D vwCl (WX cI cZ cS ad ro σ) H → va_P D vwCl (WM cI am τ) H → va_S (fun q : Nat => s.heap.size ≤ q) s.heap H locs → W p l e room_1 s m #[Value.ref b] below meth c H locs 48 2000 Q (F0 m 1251 ls [])) : W p l e room_1 s m #[Value.ref b] below meth c H locs 48 2000 Q (F0 m 1123 ls []) := by
  obtain ⟨S, hK, hX, hbl, hAdX, hAdM, hAX, hAM, hdis⟩ := C
  have hx := S.1
  have hb := S.2.1
  have hbA : ¬ (fun q : Nat => s.heap.size ≤ q) b := Nat.not_le.mpr hbl
  obtain ⟨r, σ1, τ1, e1, e2, hR⟩ := hsim σ τ hR (xs (nI i + (1 : Int32)).toNatClampNeg)
  refine lv_aload_n hx hb dL_law_1123 rfl (lv_at hl 1 rfl) ?_
  refine lv_aload_n hx hb dL_law_1124 rfl (lv_at hl 0 rfl) ?_
  refine lv_iload_n hx hb dL_law_1125 rfl (lv_at hl 3 rfl) ?_
  refine lv_iconst (v := (1 : Int32)) hx hb dL_law_1126 (by decide) ?_
  refine lv_iadd hx hb dL_law_1127 ?_
  refine va_sld hx hb hX hbl hbA hS (nI_in6 1 (by decide) hi hL) dL_law_1128 ?_
  refine k_goI (k_runV (As := [.int (xs (nI i + (1 : Int32)).toNatClampNeg)]) (rest := []) S hK hPX (k_X4_tell l hAdX e1) cy_X4_tell wd_592 rfl xO rfl hl.1 rfl (Nat.le_of_ble_eq_true rfl) dL_law_1129 ⟨Nat.le_of_ble_eq_true rfl, Nat.le_of_ble_eq_true rfl⟩ ⟨Nat.le_of_ble_eq_true rfl, Nat.le_of_ble_eq_true rfl⟩) hS hAX (fun H1 locs1 hPX hS hz hk => ?_)
  have hPM := k_keep hPM (hAdM _) hk (fun q h1 h2 => hdis q h2 h1)
  refine lv_aload_n hx hb dL_law_1132 rfl (lv_at hl 2 rfl) ?_
  refine lv_aload_n hx hb dL_law_1133 rfl (lv_at hl 0 rfl) ?_
  refine lv_iload_n hx hb dL_law_1134 rfl (lv_at hl 3 rfl) ?_
  refine lv_iconst (v := (1 : Int32)) hx hb dL_law_1135 (by decide) ?_
  refine lv_iadd hx hb dL_law_1136 ?_
  refine va_sld hx hb hX hbl hbA hS (nI_in6 1 (by decide) hi hL) dL_law_1137 ?_
  refine k_goI (k_runV (As := [.int (xs (nI i + (1 : Int32)).toNatClampNeg)]) (rest := [.int r]) S hK hPM (k_X5_tell l hAdM e2) cy_X5_tell wd_993 rfl mO rfl hl.1 rfl (Nat.le_of_ble_eq_true rfl) dL_law_1138 ⟨Nat.le_of_ble_eq_true rfl, Nat.le_of_ble_eq_true rfl⟩ ⟨Nat.le_of_ble_eq_true rfl, Nat.le_of_ble_eq_true rfl⟩) hS hAM (fun H2 locs2 hPM hS hz hk => ?_)
  have hPX := k_keep hPX (hAdX _ _) hk hdis
  refine lv_icmp_eq (tgt := 1251) hx hb dL_law_1141 (by decide) (fun _ => ?_) (fun c => absurd rfl c)
  exact kk _ _ _ _ _ hR hPX hPM hS
def Sim_pinch (Rel : SX → SX → Prop) : Prop := ∀ σ τ : SX, Rel σ τ → ∀ (x1 : Int32), ∃ r σ' τ', f_X4_pinch σ x1 = some (r, σ') ∧ f_X5_pinch τ x1 = some (r, τ') ∧ Rel σ' τ'
set_option maxRecDepth 100000 in
set_option maxHeartbeats 4000000 in
theorem law_pinch {p : Program} {l : Launch} {e : Env} {s : State} {m : MethodId} {below : List Frame} {meth : Method} {c : Code} {b L : Nat} {xs : Nat → Int32} {D : va_G} {cI cZ cS : ClassId} {ad am : Nat → Nat} {Rel : SX → SX → Prop} (hsim : Sim_pinch Rel) (C : LC p s m c b L xs D cI cZ cS ad am) (hL : L ≤ 3072) {i : Nat} (hi : i + 6 ≤ L) {Q : State → Prop} {σ τ : SX} {ro : Option Nat} {H : Heap} {locs : List Loc} {ls : Array Slot} (hR : Rel σ τ) (hPX : va_P D vwCl (WX cI cZ cS ad ro σ) H) (hPM : va_P D vwCl (WM cI am τ) H) (hS : va_S (fun q : Nat => s.heap.size ≤ q) s.heap H locs) (hl : lv_has ls 4 [(0, .ref b), (1, .ref (ad 0)), (2, .ref (am 0)), (3, .int (nI i))])
    (kk : ∀ (σ τ : SX) (ro : Option Nat) (H : Heap) (locs : List Loc), Rel σ τ → va_P D vwCl (WX cI cZ cS ad ro σ) H → va_P D vwCl (WM cI am τ) H → va_S (fun q : Nat => s.heap.size ≤ q) s.heap H locs → W p l e room_1 s m #[Value.ref b] below meth c H locs 48 2000 Q (F0 m 1251 ls [])) : W p l e room_1 s m #[Value.ref b] below meth c H locs 48 2000 Q (F0 m 1146 ls []) := by
  obtain ⟨S, hK, hX, hbl, hAdX, hAdM, hAX, hAM, hdis⟩ := C
  have hx := S.1
  have hb := S.2.1
  have hbA : ¬ (fun q : Nat => s.heap.size ≤ q) b := Nat.not_le.mpr hbl
  obtain ⟨r, σ1, τ1, e1, e2, hR⟩ := hsim σ τ hR (xs (nI i + (1 : Int32)).toNatClampNeg)
  refine lv_aload_n hx hb dL_law_1146 rfl (lv_at hl 1 rfl) ?_
  refine lv_aload_n hx hb dL_law_1147 rfl (lv_at hl 0 rfl) ?_
  refine lv_iload_n hx hb dL_law_1148 rfl (lv_at hl 3 rfl) ?_
  refine lv_iconst (v := (1 : Int32)) hx hb dL_law_1149 (by decide) ?_
  refine lv_iadd hx hb dL_law_1150 ?_
  refine va_sld hx hb hX hbl hbA hS (nI_in6 1 (by decide) hi hL) dL_law_1151 ?_
  refine k_goI (k_runV (As := [.int (xs (nI i + (1 : Int32)).toNatClampNeg)]) (rest := []) S hK hPX (k_X4_pinch l hAdX e1) cy_X4_pinch wd_612 rfl xO rfl hl.1 rfl (Nat.le_of_ble_eq_true rfl) dL_law_1152 ⟨Nat.le_of_ble_eq_true rfl, Nat.le_of_ble_eq_true rfl⟩ ⟨Nat.le_of_ble_eq_true rfl, Nat.le_of_ble_eq_true rfl⟩) hS hAX (fun H1 locs1 hPX hS hz hk => ?_)
  have hPM := k_keep hPM (hAdM _) hk (fun q h1 h2 => hdis q h2 h1)
  refine lv_aload_n hx hb dL_law_1155 rfl (lv_at hl 2 rfl) ?_
  refine lv_aload_n hx hb dL_law_1156 rfl (lv_at hl 0 rfl) ?_
  refine lv_iload_n hx hb dL_law_1157 rfl (lv_at hl 3 rfl) ?_
  refine lv_iconst (v := (1 : Int32)) hx hb dL_law_1158 (by decide) ?_
  refine lv_iadd hx hb dL_law_1159 ?_
  refine va_sld hx hb hX hbl hbA hS (nI_in6 1 (by decide) hi hL) dL_law_1160 ?_
  refine k_goI (k_runV (As := [.int (xs (nI i + (1 : Int32)).toNatClampNeg)]) (rest := [.int r]) S hK hPM (k_X5_pinch l hAdM e2) cy_X5_pinch wd_1001 rfl mO rfl hl.1 rfl (Nat.le_of_ble_eq_true rfl) dL_law_1161 ⟨Nat.le_of_ble_eq_true rfl, Nat.le_of_ble_eq_true rfl⟩ ⟨Nat.le_of_ble_eq_true rfl, Nat.le_of_ble_eq_true rfl⟩) hS hAM (fun H2 locs2 hPM hS hz hk => ?_)
  have hPX := k_keep hPX (hAdX _ _) hk hdis
  refine lv_icmp_eq (tgt := 1251) hx hb dL_law_1164 (by decide) (fun _ => ?_) (fun c => absurd rfl c)
  exact kk _ _ _ _ _ hR hPX hPM hS
def Sim_as (Rel : SX → SX → Prop) : Prop := ∀ σ τ : SX, Rel σ τ → ∀ (x1 x2 : Int32), ∃ r σ' τ', f_X4_as σ x1 x2 = some (r, σ') ∧ f_X5_as τ x1 x2 = some (r, τ') ∧ Rel σ' τ'
set_option maxRecDepth 100000 in
set_option maxHeartbeats 4000000 in
theorem law_as {p : Program} {l : Launch} {e : Env} {s : State} {m : MethodId} {below : List Frame} {meth : Method} {c : Code} {b L : Nat} {xs : Nat → Int32} {D : va_G} {cI cZ cS : ClassId} {ad am : Nat → Nat} {Rel : SX → SX → Prop} (hsim : Sim_as Rel) (C : LC p s m c b L xs D cI cZ cS ad am) (hL : L ≤ 3072) {i : Nat} (hi : i + 6 ≤ L) {Q : State → Prop} {σ τ : SX} {ro : Option Nat} {H : Heap} {locs : List Loc} {ls : Array Slot} (hR : Rel σ τ) (hPX : va_P D vwCl (WX cI cZ cS ad ro σ) H) (hPM : va_P D vwCl (WM cI am τ) H) (hS : va_S (fun q : Nat => s.heap.size ≤ q) s.heap H locs) (hl : lv_has ls 4 [(0, .ref b), (1, .ref (ad 0)), (2, .ref (am 0)), (3, .int (nI i))])
    (kk : ∀ (σ τ : SX) (ro : Option Nat) (H : Heap) (locs : List Loc), Rel σ τ → va_P D vwCl (WX cI cZ cS ad ro σ) H → va_P D vwCl (WM cI am τ) H → va_S (fun q : Nat => s.heap.size ≤ q) s.heap H locs → W p l e room_1 s m #[Value.ref b] below meth c H locs 48 2000 Q (F0 m 1251 ls [])) : W p l e room_1 s m #[Value.ref b] below meth c H locs 48 2000 Q (F0 m 1169 ls []) := by
  obtain ⟨S, hK, hX, hbl, hAdX, hAdM, hAX, hAM, hdis⟩ := C
  have hx := S.1
  have hb := S.2.1
  have hbA : ¬ (fun q : Nat => s.heap.size ≤ q) b := Nat.not_le.mpr hbl
  obtain ⟨r, σ1, τ1, e1, e2, hR⟩ := hsim σ τ hR (xs (nI i + (1 : Int32)).toNatClampNeg) (xs (nI i + (2 : Int32)).toNatClampNeg)
  refine lv_aload_n hx hb dL_law_1169 rfl (lv_at hl 1 rfl) ?_
  refine lv_aload_n hx hb dL_law_1170 rfl (lv_at hl 0 rfl) ?_
  refine lv_iload_n hx hb dL_law_1171 rfl (lv_at hl 3 rfl) ?_
  refine lv_iconst (v := (1 : Int32)) hx hb dL_law_1172 (by decide) ?_
  refine lv_iadd hx hb dL_law_1173 ?_
  refine va_sld hx hb hX hbl hbA hS (nI_in6 1 (by decide) hi hL) dL_law_1174 ?_
  refine lv_aload_n hx hb dL_law_1175 rfl (lv_at hl 0 rfl) ?_
  refine lv_iload_n hx hb dL_law_1176 rfl (lv_at hl 3 rfl) ?_
  refine lv_iconst (v := (2 : Int32)) hx hb dL_law_1177 (by decide) ?_
  refine lv_iadd hx hb dL_law_1178 ?_
  refine va_sld hx hb hX hbl hbA hS (nI_in6 2 (by decide) hi hL) dL_law_1179 ?_
  refine k_goI (k_runV (As := [.int (xs (nI i + (1 : Int32)).toNatClampNeg), .int (xs (nI i + (2 : Int32)).toNatClampNeg)]) (rest := []) S hK hPX (k_X4_as l hAdX e1) cy_X4_as wd_624 rfl xO rfl hl.1 rfl (Nat.le_of_ble_eq_true rfl) dL_law_1180 ⟨Nat.le_of_ble_eq_true rfl, Nat.le_of_ble_eq_true rfl⟩ ⟨Nat.le_of_ble_eq_true rfl, Nat.le_of_ble_eq_true rfl⟩) hS hAX (fun H1 locs1 hPX hS hz hk => ?_)
  have hPM := k_keep hPM (hAdM _) hk (fun q h1 h2 => hdis q h2 h1)
  refine lv_aload_n hx hb dL_law_1183 rfl (lv_at hl 2 rfl) ?_
  refine lv_aload_n hx hb dL_law_1184 rfl (lv_at hl 0 rfl) ?_
  refine lv_iload_n hx hb dL_law_1185 rfl (lv_at hl 3 rfl) ?_
  refine lv_iconst (v := (1 : Int32)) hx hb dL_law_1186 (by decide) ?_
  refine lv_iadd hx hb dL_law_1187 ?_
  refine va_sld hx hb hX hbl hbA hS (nI_in6 1 (by decide) hi hL) dL_law_1188 ?_
  refine lv_aload_n hx hb dL_law_1189 rfl (lv_at hl 0 rfl) ?_
  refine lv_iload_n hx hb dL_law_1190 rfl (lv_at hl 3 rfl) ?_
  refine lv_iconst (v := (2 : Int32)) hx hb dL_law_1191 (by decide) ?_
  refine lv_iadd hx hb dL_law_1192 ?_
  refine va_sld hx hb hX hbl hbA hS (nI_in6 2 (by decide) hi hL) dL_law_1193 ?_
  refine k_goI (k_runV (As := [.int (xs (nI i + (1 : Int32)).toNatClampNeg), .int (xs (nI i + (2 : Int32)).toNatClampNeg)]) (rest := [.int r]) S hK hPM (k_X5_as l hAdM e2) cy_X5_as wd_1005 rfl mO rfl hl.1 rfl (Nat.le_of_ble_eq_true rfl) dL_law_1194 ⟨Nat.le_of_ble_eq_true rfl, Nat.le_of_ble_eq_true rfl⟩ ⟨Nat.le_of_ble_eq_true rfl, Nat.le_of_ble_eq_true rfl⟩) hS hAM (fun H2 locs2 hPM hS hz hk => ?_)
  have hPX := k_keep hPX (hAdX _ _) hk hdis
  refine lv_icmp_eq (tgt := 1251) hx hb dL_law_1197 (by decide) (fun _ => ?_) (fun c => absurd rfl c)
  exact kk _ _ _ _ _ hR hPX hPM hS
def Sim_trace (Rel : SX → SX → Prop) : Prop := ∀ σ τ : SX, Rel σ τ → ∃ r, f_X4_trace σ = some r ∧ f_X5_trace τ = some r
set_option maxRecDepth 100000 in
set_option maxHeartbeats 4000000 in
theorem law_trace {p : Program} {l : Launch} {e : Env} {s : State} {m : MethodId} {below : List Frame} {meth : Method} {c : Code} {b L : Nat} {xs : Nat → Int32} {D : va_G} {cI cZ cS : ClassId} {ad am : Nat → Nat} {Rel : SX → SX → Prop} (hsim : Sim_trace Rel) (C : LC p s m c b L xs D cI cZ cS ad am) (hL : L ≤ 3072) {i : Nat} (hi : i + 6 ≤ L) {Q : State → Prop} {σ τ : SX} {ro : Option Nat} {H : Heap} {locs : List Loc} {ls : Array Slot} (hR : Rel σ τ) (hPX : va_P D vwCl (WX cI cZ cS ad ro σ) H) (hPM : va_P D vwCl (WM cI am τ) H) (hS : va_S (fun q : Nat => s.heap.size ≤ q) s.heap H locs) (hl : lv_has ls 4 [(0, .ref b), (1, .ref (ad 0)), (2, .ref (am 0)), (3, .int (nI i))])
    (kk : ∀ (σ τ : SX) (ro : Option Nat) (H : Heap) (locs : List Loc), Rel σ τ → va_P D vwCl (WX cI cZ cS ad ro σ) H → va_P D vwCl (WM cI am τ) H → va_S (fun q : Nat => s.heap.size ≤ q) s.heap H locs → W p l e room_1 s m #[Value.ref b] below meth c H locs 48 2000 Q (F0 m 1251 ls [])) : W p l e room_1 s m #[Value.ref b] below meth c H locs 48 2000 Q (F0 m 1202 ls []) := by
  obtain ⟨S, hK, hX, hbl, hAdX, hAdM, hAX, hAM, hdis⟩ := C
  have hx := S.1
  have hb := S.2.1
  have hbA : ¬ (fun q : Nat => s.heap.size ≤ q) b := Nat.not_le.mpr hbl
  obtain ⟨r, e1, e2⟩ := hsim σ τ hR
  refine lv_aload_n hx hb dL_law_1202 rfl (lv_at hl 1 rfl) ?_
  refine k_goI (k_runV (As := []) (rest := []) S hK hPX (k_X4_trace l hAdX e1) cy_X4_trace wd_628 rfl xO rfl hl.1 rfl (Nat.le_of_ble_eq_true rfl) dL_law_1203 ⟨Nat.le_of_ble_eq_true rfl, Nat.le_of_ble_eq_true rfl⟩ ⟨Nat.le_of_ble_eq_true rfl, Nat.le_of_ble_eq_true rfl⟩) hS hAX (fun H1 locs1 hPX hS hz hk => ?_)
  have hPM := k_keep hPM (hAdM _) hk (fun q h1 h2 => hdis q h2 h1)
  refine lv_aload_n hx hb dL_law_1206 rfl (lv_at hl 2 rfl) ?_
  refine k_goI (k_runV (As := []) (rest := [.int r]) S hK hPM (k_X5_trace l hAdM e2) cy_X5_trace wd_1009 rfl mO rfl hl.1 rfl (Nat.le_of_ble_eq_true rfl) dL_law_1207 ⟨Nat.le_of_ble_eq_true rfl, Nat.le_of_ble_eq_true rfl⟩ ⟨Nat.le_of_ble_eq_true rfl, Nat.le_of_ble_eq_true rfl⟩) hS hAM (fun H2 locs2 hPM hS hz hk => ?_)
  have hPX := k_keep hPX (hAdX _ _) hk hdis
  refine lv_icmp_eq (tgt := 1251) hx hb dL_law_1210 (by decide) (fun _ => ?_) (fun c => absurd rfl c)
  exact kk _ _ _ _ _ hR hPX hPM hS
def Sim_fault (Rel : SX → SX → Prop) : Prop := ∀ σ τ : SX, Rel σ τ → ∃ r, f_X4_fault σ = some r ∧ f_X5_fault τ = some r
set_option maxRecDepth 100000 in
set_option maxHeartbeats 4000000 in
theorem law_fault {p : Program} {l : Launch} {e : Env} {s : State} {m : MethodId} {below : List Frame} {meth : Method} {c : Code} {b L : Nat} {xs : Nat → Int32} {D : va_G} {cI cZ cS : ClassId} {ad am : Nat → Nat} {Rel : SX → SX → Prop} (hsim : Sim_fault Rel) (C : LC p s m c b L xs D cI cZ cS ad am) (hL : L ≤ 3072) {i : Nat} (hi : i + 6 ≤ L) {Q : State → Prop} {σ τ : SX} {ro : Option Nat} {H : Heap} {locs : List Loc} {ls : Array Slot} (hR : Rel σ τ) (hPX : va_P D vwCl (WX cI cZ cS ad ro σ) H) (hPM : va_P D vwCl (WM cI am τ) H) (hS : va_S (fun q : Nat => s.heap.size ≤ q) s.heap H locs) (hl : lv_has ls 4 [(0, .ref b), (1, .ref (ad 0)), (2, .ref (am 0)), (3, .int (nI i))])
    (kk : ∀ (σ τ : SX) (ro : Option Nat) (H : Heap) (locs : List Loc), Rel σ τ → va_P D vwCl (WX cI cZ cS ad ro σ) H → va_P D vwCl (WM cI am τ) H → va_S (fun q : Nat => s.heap.size ≤ q) s.heap H locs → W p l e room_1 s m #[Value.ref b] below meth c H locs 48 2000 Q (F0 m 1251 ls [])) : W p l e room_1 s m #[Value.ref b] below meth c H locs 48 2000 Q (F0 m 1215 ls []) := by
  obtain ⟨S, hK, hX, hbl, hAdX, hAdM, hAX, hAM, hdis⟩ := C
  have hx := S.1
  have hb := S.2.1
  have hbA : ¬ (fun q : Nat => s.heap.size ≤ q) b := Nat.not_le.mpr hbl
  obtain ⟨r, e1, e2⟩ := hsim σ τ hR
  refine lv_aload_n hx hb dL_law_1215 rfl (lv_at hl 1 rfl) ?_
  refine k_goI (k_runV (As := []) (rest := []) S hK hPX (k_X4_fault l hAdX e1) cy_X4_fault wd_632 rfl xO rfl hl.1 rfl (Nat.le_of_ble_eq_true rfl) dL_law_1216 ⟨Nat.le_of_ble_eq_true rfl, Nat.le_of_ble_eq_true rfl⟩ ⟨Nat.le_of_ble_eq_true rfl, Nat.le_of_ble_eq_true rfl⟩) hS hAX (fun H1 locs1 hPX hS hz hk => ?_)
  have hPM := k_keep hPM (hAdM _) hk (fun q h1 h2 => hdis q h2 h1)
  refine lv_aload_n hx hb dL_law_1219 rfl (lv_at hl 2 rfl) ?_
  refine k_goI (k_runV (As := []) (rest := [.int r]) S hK hPM (k_X5_fault l hAdM e2) cy_X5_fault wd_1013 rfl mO rfl hl.1 rfl (Nat.le_of_ble_eq_true rfl) dL_law_1220 ⟨Nat.le_of_ble_eq_true rfl, Nat.le_of_ble_eq_true rfl⟩ ⟨Nat.le_of_ble_eq_true rfl, Nat.le_of_ble_eq_true rfl⟩) hS hAM (fun H2 locs2 hPM hS hz hk => ?_)
  have hPX := k_keep hPX (hAdX _ _) hk hdis
  refine lv_icmp_eq (tgt := 1251) hx hb dL_law_1223 (by decide) (fun _ => ?_) (fun c => absurd rfl c)
  exact kk _ _ _ _ _ hR hPX hPM hS
def Sim_many (Rel : SX → SX → Prop) : Prop := ∀ σ τ : SX, Rel σ τ → ∀ (x1 : Int32), ∃ r, f_X4_many σ x1 = some r ∧ f_X5_many τ x1 = some r
set_option maxRecDepth 100000 in
set_option maxHeartbeats 4000000 in
theorem law_many {p : Program} {l : Launch} {e : Env} {s : State} {m : MethodId} {below : List Frame} {meth : Method} {c : Code} {b L : Nat} {xs : Nat → Int32} {D : va_G} {cI cZ cS : ClassId} {ad am : Nat → Nat} {Rel : SX → SX → Prop} (hsim : Sim_many Rel) (C : LC p s m c b L xs D cI cZ cS ad am) (hL : L ≤ 3072) {i : Nat} (hi : i + 6 ≤ L) {Q : State → Prop} {σ τ : SX} {ro : Option Nat} {H : Heap} {locs : List Loc} {ls : Array Slot} (hR : Rel σ τ) (hPX : va_P D vwCl (WX cI cZ cS ad ro σ) H) (hPM : va_P D vwCl (WM cI am τ) H) (hS : va_S (fun q : Nat => s.heap.size ≤ q) s.heap H locs) (hl : lv_has ls 4 [(0, .ref b), (1, .ref (ad 0)), (2, .ref (am 0)), (3, .int (nI i))])
    (kk : ∀ (σ τ : SX) (ro : Option Nat) (H : Heap) (locs : List Loc), Rel σ τ → va_P D vwCl (WX cI cZ cS ad ro σ) H → va_P D vwCl (WM cI am τ) H → va_S (fun q : Nat => s.heap.size ≤ q) s.heap H locs → W p l e room_1 s m #[Value.ref b] below meth c H locs 48 2000 Q (F0 m 1251 ls [])) : W p l e room_1 s m #[Value.ref b] below meth c H locs 48 2000 Q (F0 m 1228 ls []) := by
  obtain ⟨S, hK, hX, hbl, hAdX, hAdM, hAX, hAM, hdis⟩ := C
  have hx := S.1
  have hb := S.2.1
  have hbA : ¬ (fun q : Nat => s.heap.size ≤ q) b := Nat.not_le.mpr hbl
  obtain ⟨r, e1, e2⟩ := hsim σ τ hR (xs (nI i + (1 : Int32)).toNatClampNeg)
  refine lv_aload_n hx hb dL_law_1228 rfl (lv_at hl 1 rfl) ?_
  refine lv_aload_n hx hb dL_law_1229 rfl (lv_at hl 0 rfl) ?_
  refine lv_iload_n hx hb dL_law_1230 rfl (lv_at hl 3 rfl) ?_
  refine lv_iconst (v := (1 : Int32)) hx hb dL_law_1231 (by decide) ?_
  refine lv_iadd hx hb dL_law_1232 ?_
  refine va_sld hx hb hX hbl hbA hS (nI_in6 1 (by decide) hi hL) dL_law_1233 ?_
  refine k_goI (k_runV (As := [.int (xs (nI i + (1 : Int32)).toNatClampNeg)]) (rest := []) S hK hPX (k_X4_many l hAdX e1) cy_X4_many wd_636 rfl xO rfl hl.1 rfl (Nat.le_of_ble_eq_true rfl) dL_law_1234 ⟨Nat.le_of_ble_eq_true rfl, Nat.le_of_ble_eq_true rfl⟩ ⟨Nat.le_of_ble_eq_true rfl, Nat.le_of_ble_eq_true rfl⟩) hS hAX (fun H1 locs1 hPX hS hz hk => ?_)
  have hPM := k_keep hPM (hAdM _) hk (fun q h1 h2 => hdis q h2 h1)
  refine lv_aload_n hx hb dL_law_1237 rfl (lv_at hl 2 rfl) ?_
  refine lv_aload_n hx hb dL_law_1238 rfl (lv_at hl 0 rfl) ?_
  refine lv_iload_n hx hb dL_law_1239 rfl (lv_at hl 3 rfl) ?_
  refine lv_iconst (v := (1 : Int32)) hx hb dL_law_1240 (by decide) ?_
  refine lv_iadd hx hb dL_law_1241 ?_
  refine va_sld hx hb hX hbl hbA hS (nI_in6 1 (by decide) hi hL) dL_law_1242 ?_
  refine k_goI (k_runV (As := [.int (xs (nI i + (1 : Int32)).toNatClampNeg)]) (rest := [.int r]) S hK hPM (k_X5_many l hAdM e2) cy_X5_many wd_1017 rfl mO rfl hl.1 rfl (Nat.le_of_ble_eq_true rfl) dL_law_1243 ⟨Nat.le_of_ble_eq_true rfl, Nat.le_of_ble_eq_true rfl⟩ ⟨Nat.le_of_ble_eq_true rfl, Nat.le_of_ble_eq_true rfl⟩) hS hAM (fun H2 locs2 hPM hS hz hk => ?_)
  have hPX := k_keep hPX (hAdX _ _) hk hdis
  refine lv_icmp_eq (tgt := 1251) hx hb dL_law_1246 (by decide) (fun _ => ?_) (fun c => absurd rfl c)
  exact kk _ _ _ _ _ hR hPX hPM hS
def SimAll (Rel : SX → SX → Prop) : Prop := Sim_day Rel ∧ Sim_ofSwearer Rel ∧ Sim_ofOath Rel ∧ Sim_ofHour Rel ∧ Sim_chill Rel ∧ Sim_coat Rel ∧ Sim_frost Rel ∧ Sim_swear Rel ∧ Sim_release Rel ∧ Sim_stove Rel ∧ Sim_trial Rel ∧ Sim_bound Rel ∧ Sim_together Rel ∧ Sim_coated Rel ∧ Sim_letgo Rel ∧ Sim_stoves Rel ∧ Sim_reading Rel ∧ Sim_back Rel ∧ Sim_coats Rel ∧ Sim_kinds Rel ∧ Sim_frosts Rel ∧ Sim_odds Rel ∧ Sim_sheet Rel ∧ Sim_lose Rel ∧ Sim_put Rel ∧ Sim_cell Rel ∧ Sim_copy Rel ∧ Sim_tell Rel ∧ Sim_pinch Rel ∧ Sim_as Rel ∧ Sim_trace Rel ∧ Sim_fault Rel ∧ Sim_many Rel
set_option maxRecDepth 100000 in
set_option maxHeartbeats 4000000 in
theorem law_loop {p : Program} {l : Launch} {e : Env} {s : State} {m : MethodId} {below : List Frame} {meth : Method} {c : Code} {b L : Nat} {xs : Nat → Int32} {D : va_G} {cI cZ cS : ClassId} {ad am : Nat → Nat} {Rel : SX → SX → Prop} (hsim : SimAll Rel) (C : LC p s m c b L xs D cI cZ cS ad am) (hr : meth.sig.returnType = ret) (hlocks : meth.locks = false) (hL : L ≤ 3072) : ∀ (n i : Nat), i ≤ L → L + 1 ≤ i + n → ∀ (σ τ : SX) (ro : Option Nat) (H : Heap) (locs : List Loc) (ls : Array Slot), Rel σ τ → va_P D vwCl (WX cI cZ cS ad ro σ) H → va_P D vwCl (WM cI am τ) H → va_S (fun q : Nat => s.heap.size ≤ q) s.heap H locs → lv_has ls 4 [(0, .ref b), (1, .ref (ad 0)), (2, .ref (am 0)), (3, .int (nI i))] → W p l e room_1 s m #[Value.ref b] below meth c H locs 48 2000 (lw_Z below #[Value.ref b] s) (F0 m 18 ls []) := by
  obtain ⟨s_day, s_ofSwearer, s_ofOath, s_ofHour, s_chill, s_coat, s_frost, s_swear, s_release, s_stove, s_trial, s_bound, s_together, s_coated, s_letgo, s_stoves, s_reading, s_back, s_coats, s_kinds, s_frosts, s_odds, s_sheet, s_lose, s_put, s_cell, s_copy, s_tell, s_pinch, s_as, s_trace, s_fault, s_many⟩ := hsim
  have C0 := C
  obtain ⟨S, hK, hX, hbl, hAdX, hAdM, hAX, hAM, hdis⟩ := C0
  have hx := S.1
  have hb := S.2.1
  have hbA : ¬ (fun q : Nat => s.heap.size ≤ q) b := Nat.not_le.mpr hbl
  intro n
  induction n with
  | zero => intro i h1 h2; exact absurd h2 (by omega)
  | succ n ih =>
    intro i hi hin σ τ ro H locs ls hR hPX hPM hS hl
    refine lv_iload_n hx hb dL_law_18 rfl (lv_at hl 3 rfl) ?_
    refine lv_aload_n hx hb dL_law_19 rfl (lv_at hl 0 rfl) ?_
    refine va_slen hx hb hX hbl hbA hS dL_law_20 ?_
    refine lv_bipush (v := (6 : Int32)) hx hb dL_law_21 (by decide) ?_
    refine lv_isub hx hb dL_law_23 ?_
    refine lv_icmp_gt (tgt := 1257) hx hb dL_law_24 (by decide) (fun c_24 => ?_) (fun c_24 => ?_)
    · refine lv_iconst (v := 1) hx hb dL_law_1257 (by decide) ?_
      refine va_forget (fun q hq => hS.2.2 q hq) ?_
      refine W.widen (k := 600000) (n := 7302250) (Nat.le_of_ble_eq_true rfl) (Nat.le_of_ble_eq_true rfl) ?_
      exact lw_ret hx hb hr hlocks dL_law_1258
    · have h6 : i + 6 ≤ L := by
        rw [show Int32.ofNat L = nI L from rfl, show (6 : Int32) = nI 6 from rfl, Int32.lt_iff_toInt_lt, nI_toInt (by omega), pk_sub_toInt (by omega) (by omega)] at c_24
        omega
      refine lv_aload_n hx hb dL_law_27 rfl (lv_at hl 0 rfl) ?_
      refine lv_iload_n hx hb dL_law_28 rfl (lv_at hl 3 rfl) ?_
      refine va_sld hx hb hX hbl hbA hS (vp_in_nI (by omega) (by omega)) dL_law_29 ?_
      refine lv_bipush (v := (63 : Int32)) hx hb dL_law_30 (by decide) ?_
      refine lv_iand hx hb dL_law_32 ?_
      refine lv_topi (fun z _ => ?_)
      have next : ∀ (σ τ : SX) (ro : Option Nat) (H : Heap) (locs : List Loc), Rel σ τ → va_P D vwCl (WX cI cZ cS ad ro σ) H → va_P D vwCl (WM cI am τ) H → va_S (fun q : Nat => s.heap.size ≤ q) s.heap H locs → W p l e room_1 s m #[Value.ref b] below meth c H locs 48 2000 (lw_Z below #[Value.ref b] s) (F0 m 1251 ls []) := by
        intro σ τ ro H locs hR hPX hPM hS
        refine lv_iinc (v := nI (i + 6)) (lv' := [(3, .int (nI (i + 6))), (0, .ref b), (1, .ref (ad 0)), (2, .ref (am 0))]) hx hb dL_law_1251 hl (k := 3) rfl (nI_add i 6) (by decide) rfl (fun ls hl => ?_)
        refine lv_goto (tgt := 18) hx hb dL_law_1254 (by decide) ?_
        exact ih (i + 6) h6 (by omega) σ τ ro H locs ls hR hPX hPM hS (lv_sub hl [1, 2, 3, 0] rfl)
      by_cases c_0 : z = (0 : Int32)
      · refine lv_tableIn (tgt := 180) hx hb dL_law_33 (by rw [c_0]; decide) (by rw [c_0]; decide) (by rw [c_0] <;> rfl) (by decide) ?_
        exact law_day s_day C hL h6 hR hPX hPM hS hl next
      by_cases c_1 : z = (1 : Int32)
      · refine lv_tableIn (tgt := 233) hx hb dL_law_33 (by rw [c_1]; decide) (by rw [c_1]; decide) (by rw [c_1] <;> rfl) (by decide) ?_
        exact law_ofSwearer s_ofSwearer C hL h6 hR hPX hPM hS hl next
      by_cases c_2 : z = (2 : Int32)
      · refine lv_tableIn (tgt := 266) hx hb dL_law_33 (by rw [c_2]; decide) (by rw [c_2]; decide) (by rw [c_2] <;> rfl) (by decide) ?_
        exact law_ofOath s_ofOath C hL h6 hR hPX hPM hS hl next
      by_cases c_3 : z = (3 : Int32)
      · refine lv_tableIn (tgt := 299) hx hb dL_law_33 (by rw [c_3]; decide) (by rw [c_3]; decide) (by rw [c_3] <;> rfl) (by decide) ?_
        exact law_ofHour s_ofHour C hL h6 hR hPX hPM hS hl next
      by_cases c_4 : z = (4 : Int32)
      · refine lv_tableIn (tgt := 332) hx hb dL_law_33 (by rw [c_4]; decide) (by rw [c_4]; decide) (by rw [c_4] <;> rfl) (by decide) ?_
        exact law_chill s_chill C hL h6 hR hPX hPM hS hl next
      by_cases c_5 : z = (5 : Int32)
      · refine lv_tableIn (tgt := 365) hx hb dL_law_33 (by rw [c_5]; decide) (by rw [c_5]; decide) (by rw [c_5] <;> rfl) (by decide) ?_
        exact law_coat s_coat C hL h6 hR hPX hPM hS hl next
      by_cases c_6 : z = (6 : Int32)
      · refine lv_tableIn (tgt := 398) hx hb dL_law_33 (by rw [c_6]; decide) (by rw [c_6]; decide) (by rw [c_6] <;> rfl) (by decide) ?_
        exact law_frost s_frost C hL h6 hR hPX hPM hS hl next
      by_cases c_7 : z = (7 : Int32)
      · refine lv_tableIn (tgt := 431) hx hb dL_law_33 (by rw [c_7]; decide) (by rw [c_7]; decide) (by rw [c_7] <;> rfl) (by decide) ?_
        exact law_swear s_swear C hL h6 hR hPX hPM hS hl next
      by_cases c_8 : z = (8 : Int32)
      · refine lv_tableIn (tgt := 474) hx hb dL_law_33 (by rw [c_8]; decide) (by rw [c_8]; decide) (by rw [c_8] <;> rfl) (by decide) ?_
        exact law_release s_release C hL h6 hR hPX hPM hS hl next
      by_cases c_9 : z = (9 : Int32)
      · refine lv_tableIn (tgt := 497) hx hb dL_law_33 (by rw [c_9]; decide) (by rw [c_9]; decide) (by rw [c_9] <;> rfl) (by decide) ?_
        exact law_stove s_stove C hL h6 hR hPX hPM hS hl next
      by_cases c_10 : z = (10 : Int32)
      · refine lv_tableIn (tgt := 530) hx hb dL_law_33 (by rw [c_10]; decide) (by rw [c_10]; decide) (by rw [c_10] <;> rfl) (by decide) ?_
        exact law_trial s_trial C hL h6 hR hPX hPM hS hl next
      by_cases c_11 : z = (11 : Int32)
      · refine lv_tableIn (tgt := 593) hx hb dL_law_33 (by rw [c_11]; decide) (by rw [c_11]; decide) (by rw [c_11] <;> rfl) (by decide) ?_
        exact law_bound s_bound C hL h6 hR hPX hPM hS hl next
      by_cases c_12 : z = (12 : Int32)
      · refine lv_tableIn (tgt := 626) hx hb dL_law_33 (by rw [c_12]; decide) (by rw [c_12]; decide) (by rw [c_12] <;> rfl) (by decide) ?_
        exact law_together s_together C hL h6 hR hPX hPM hS hl next
      by_cases c_13 : z = (13 : Int32)
      · refine lv_tableIn (tgt := 649) hx hb dL_law_33 (by rw [c_13]; decide) (by rw [c_13]; decide) (by rw [c_13] <;> rfl) (by decide) ?_
        exact law_coated s_coated C hL h6 hR hPX hPM hS hl next
      by_cases c_14 : z = (14 : Int32)
      · refine lv_tableIn (tgt := 672) hx hb dL_law_33 (by rw [c_14]; decide) (by rw [c_14]; decide) (by rw [c_14] <;> rfl) (by decide) ?_
        exact law_letgo s_letgo C hL h6 hR hPX hPM hS hl next
      by_cases c_15 : z = (15 : Int32)
      · refine lv_tableIn (tgt := 695) hx hb dL_law_33 (by rw [c_15]; decide) (by rw [c_15]; decide) (by rw [c_15] <;> rfl) (by decide) ?_
        exact law_stoves s_stoves C hL h6 hR hPX hPM hS hl next
      by_cases c_16 : z = (16 : Int32)
      · refine lv_tableIn (tgt := 728) hx hb dL_law_33 (by rw [c_16]; decide) (by rw [c_16]; decide) (by rw [c_16] <;> rfl) (by decide) ?_
        exact law_reading s_reading C hL h6 hR hPX hPM hS hl next
      by_cases c_17 : z = (17 : Int32)
      · refine lv_tableIn (tgt := 771) hx hb dL_law_33 (by rw [c_17]; decide) (by rw [c_17]; decide) (by rw [c_17] <;> rfl) (by decide) ?_
        exact law_back s_back C hL h6 hR hPX hPM hS hl next
      by_cases c_18 : z = (18 : Int32)
      · refine lv_tableIn (tgt := 794) hx hb dL_law_33 (by rw [c_18]; decide) (by rw [c_18]; decide) (by rw [c_18] <;> rfl) (by decide) ?_
        exact law_coats s_coats C hL h6 hR hPX hPM hS hl next
      by_cases c_19 : z = (19 : Int32)
      · refine lv_tableIn (tgt := 817) hx hb dL_law_33 (by rw [c_19]; decide) (by rw [c_19]; decide) (by rw [c_19] <;> rfl) (by decide) ?_
        exact law_kinds s_kinds C hL h6 hR hPX hPM hS hl next
      by_cases c_20 : z = (20 : Int32)
      · refine lv_tableIn (tgt := 840) hx hb dL_law_33 (by rw [c_20]; decide) (by rw [c_20]; decide) (by rw [c_20] <;> rfl) (by decide) ?_
        exact law_frosts s_frosts C hL h6 hR hPX hPM hS hl next
      by_cases c_21 : z = (21 : Int32)
      · refine lv_tableIn (tgt := 863) hx hb dL_law_33 (by rw [c_21]; decide) (by rw [c_21]; decide) (by rw [c_21] <;> rfl) (by decide) ?_
        exact law_odds s_odds C hL h6 hR hPX hPM hS hl next
      by_cases c_22 : z = (22 : Int32)
      · refine lv_tableIn (tgt := 907) hx hb dL_law_33 (by rw [c_22]; decide) (by rw [c_22]; decide) (by rw [c_22] <;> rfl) (by decide) ?_
        exact law_sheet s_sheet C hL h6 hR hPX hPM hS hl next
      by_cases c_23 : z = (23 : Int32)
      · refine lv_tableIn (tgt := 950) hx hb dL_law_33 (by rw [c_23]; decide) (by rw [c_23]; decide) (by rw [c_23] <;> rfl) (by decide) ?_
        exact law_lose s_lose C hL h6 hR hPX hPM hS hl next
      by_cases c_24 : z = (24 : Int32)
      · refine lv_tableIn (tgt := 973) hx hb dL_law_33 (by rw [c_24]; decide) (by rw [c_24]; decide) (by rw [c_24] <;> rfl) (by decide) ?_
        exact law_put s_put C hL h6 hR hPX hPM hS hl next
      by_cases c_25 : z = (25 : Int32)
      · refine lv_tableIn (tgt := 1016) hx hb dL_law_33 (by rw [c_25]; decide) (by rw [c_25]; decide) (by rw [c_25] <;> rfl) (by decide) ?_
        exact law_cell s_cell C hL h6 hR hPX hPM hS hl next
      by_cases c_26 : z = (26 : Int32)
      · refine lv_tableIn (tgt := 1060) hx hb dL_law_33 (by rw [c_26]; decide) (by rw [c_26]; decide) (by rw [c_26] <;> rfl) (by decide) ?_
        exact law_copy s_copy C hL h6 hR hPX hPM hS hl next
      by_cases c_27 : z = (27 : Int32)
      · refine lv_tableIn (tgt := 1123) hx hb dL_law_33 (by rw [c_27]; decide) (by rw [c_27]; decide) (by rw [c_27] <;> rfl) (by decide) ?_
        exact law_tell s_tell C hL h6 hR hPX hPM hS hl next
      by_cases c_28 : z = (28 : Int32)
      · refine lv_tableIn (tgt := 1146) hx hb dL_law_33 (by rw [c_28]; decide) (by rw [c_28]; decide) (by rw [c_28] <;> rfl) (by decide) ?_
        exact law_pinch s_pinch C hL h6 hR hPX hPM hS hl next
      by_cases c_29 : z = (29 : Int32)
      · refine lv_tableIn (tgt := 1169) hx hb dL_law_33 (by rw [c_29]; decide) (by rw [c_29]; decide) (by rw [c_29] <;> rfl) (by decide) ?_
        exact law_as s_as C hL h6 hR hPX hPM hS hl next
      by_cases c_30 : z = (30 : Int32)
      · refine lv_tableIn (tgt := 1202) hx hb dL_law_33 (by rw [c_30]; decide) (by rw [c_30]; decide) (by rw [c_30] <;> rfl) (by decide) ?_
        exact law_trace s_trace C hL h6 hR hPX hPM hS hl next
      by_cases c_31 : z = (31 : Int32)
      · refine lv_tableIn (tgt := 1215) hx hb dL_law_33 (by rw [c_31]; decide) (by rw [c_31]; decide) (by rw [c_31] <;> rfl) (by decide) ?_
        exact law_fault s_fault C hL h6 hR hPX hPM hS hl next
      by_cases c_32 : z = (32 : Int32)
      · refine lv_tableIn (tgt := 1228) hx hb dL_law_33 (by rw [c_32]; decide) (by rw [c_32]; decide) (by rw [c_32] <;> rfl) (by decide) ?_
        exact law_many s_many C hL h6 hR hPX hPM hS hl next
      have n_0 := lv_neT c_0 (a := 0) rfl
      have n_1 := lv_neT c_1 (a := 1) rfl
      have n_2 := lv_neT c_2 (a := 2) rfl
      have n_3 := lv_neT c_3 (a := 3) rfl
      have n_4 := lv_neT c_4 (a := 4) rfl
      have n_5 := lv_neT c_5 (a := 5) rfl
      have n_6 := lv_neT c_6 (a := 6) rfl
      have n_7 := lv_neT c_7 (a := 7) rfl
      have n_8 := lv_neT c_8 (a := 8) rfl
      have n_9 := lv_neT c_9 (a := 9) rfl
      have n_10 := lv_neT c_10 (a := 10) rfl
      have n_11 := lv_neT c_11 (a := 11) rfl
      have n_12 := lv_neT c_12 (a := 12) rfl
      have n_13 := lv_neT c_13 (a := 13) rfl
      have n_14 := lv_neT c_14 (a := 14) rfl
      have n_15 := lv_neT c_15 (a := 15) rfl
      have n_16 := lv_neT c_16 (a := 16) rfl
      have n_17 := lv_neT c_17 (a := 17) rfl
      have n_18 := lv_neT c_18 (a := 18) rfl
      have n_19 := lv_neT c_19 (a := 19) rfl
      have n_20 := lv_neT c_20 (a := 20) rfl
      have n_21 := lv_neT c_21 (a := 21) rfl
      have n_22 := lv_neT c_22 (a := 22) rfl
      have n_23 := lv_neT c_23 (a := 23) rfl
      have n_24 := lv_neT c_24 (a := 24) rfl
      have n_25 := lv_neT c_25 (a := 25) rfl
      have n_26 := lv_neT c_26 (a := 26) rfl
      have n_27 := lv_neT c_27 (a := 27) rfl
      have n_28 := lv_neT c_28 (a := 28) rfl
      have n_29 := lv_neT c_29 (a := 29) rfl
      have n_30 := lv_neT c_30 (a := 30) rfl
      have n_31 := lv_neT c_31 (a := 31) rfl
      have n_32 := lv_neT c_32 (a := 32) rfl
      refine lv_tableOut (tgt := 1251) hx hb dL_law_33 (by omega) (by decide) ?_
      exact next σ τ ro H locs hR hPX hPM hS
