/-! ===== the law from its entry, over a relation that the calls keep ===== -/
theorem D_map {A : Nat → Prop} {w : va_W} {k a : Nat} (h : va_D A w) (hm : (w.map Prod.fst)[k]? = some a) : ∃ q, w[k]? = some q ∧ q.1 = a ∧ A a := by
  rw [List.getElem?_map] at hm
  cases hq : w[k]? with
  | none => rw [hq] at hm; cases hm
  | some q => rw [hq] at hm; have e := Option.some.inj hm; exact ⟨q, rfl, e, e ▸ h.2 k q hq⟩
theorem D_same {A B : Nat → Prop} {w w' : va_W} (h : va_D A w) (hm : w'.map Prod.fst = w.map Prod.fst) (hB : ∀ (k a : Nat), (w'.map Prod.fst)[k]? = some a → B a) : va_D B w' := by
  have key : ∀ (k : Nat) (q : Nat × va_E), w'[k]? = some q → (w'.map Prod.fst)[k]? = some q.1 := fun k q hq => by rw [List.getElem?_map, hq]; rfl
  refine ⟨fun i j p q hi hj hpq => ?_, fun k q hq => hB k q.1 (key k q hq)⟩
  obtain ⟨p0, a1, a2, -⟩ := D_map h (hm ▸ key i p hi)
  obtain ⟨q0, b1, b2, -⟩ := D_map h (hm ▸ key j q hj)
  exact h.1 i j p0 q0 a1 b1 (a2.trans (hpq.trans b2.symm))
theorem range_at {ad : Nat → Nat} {n k a : Nat} (h : ((List.range n).map ad)[k]? = some a) : k < n ∧ a = ad k := by
  rw [List.getElem?_map] at h
  by_cases hk : k < n
  · rw [List.getElem?_range hk] at h; exact ⟨hk, (Option.some.inj h).symm⟩
  · rw [List.getElem?_eq_none (by rw [List.length_range]; omega)] at h; cases h
theorem at_range {ad : Nat → Nat} {n k : Nat} (h : k < n) : ((List.range n).map ad)[k]? = some (ad k) := by
  rw [List.getElem?_map, List.getElem?_range h]; rfl
set_option maxRecDepth 100000 in
theorem LC_of {A : Nat → Prop} {cI cZ cS : ClassId} {ad am : Nat → Nat} (hD : va_D A (WX cI cZ cS ad none σX0 ++ WM cI am σM0)) : (∀ ro σ, va_D (AX ad) (WX cI cZ cS ad ro σ)) ∧ (∀ σ, va_D (AM am) (WM cI am σ)) ∧ (∀ q, AX ad q → A q) ∧ (∀ q, AM am q → A q) ∧ (∀ q, AX ad q → ¬ AM am q) := by
  have mX : ∀ ro σ, (WX cI cZ cS ad ro σ).map Prod.fst = (List.range 29).map ad := fun _ _ => rfl
  have mM : ∀ σ, (WM cI am σ).map Prod.fst = (List.range 17).map am := fun _ => rfl
  have hX : va_D A (WX cI cZ cS ad none σX0) := hD.sub [0, 1, 2, 3, 4, 5, 6, 7, 8, 9, 10, 11, 12, 13, 14, 15, 16, 17, 18, 19, 20, 21, 22, 23, 24, 25, 26, 27, 28] (by decide) rfl
  have hM : va_D A (WM cI am σM0) := hD.sub [29, 30, 31, 32, 33, 34, 35, 36, 37, 38, 39, 40, 41, 42, 43, 44, 45] (by decide) rfl
  have gX : ∀ k, k < 29 → ∃ q, (WX cI cZ cS ad none σX0)[k]? = some q ∧ q.1 = ad k ∧ A (ad k) := fun k hk => D_map hX (by rw [mX]; exact at_range hk)
  have gM : ∀ k, k < 17 → ∃ q, (WM cI am σM0)[k]? = some q ∧ q.1 = am k ∧ A (am k) := fun k hk => D_map hM (by rw [mM]; exact at_range hk)
  refine ⟨fun ro σ => D_same hX (by rw [mX, mX]) (fun k a h => ?_), fun σ => D_same hM (by rw [mM, mM]) (fun k a h => ?_), ?_, ?_, ?_⟩
  · rw [mX] at h; exact ⟨k, range_at h⟩
  · rw [mM] at h; exact ⟨k, range_at h⟩
  · rintro q ⟨k, hk, rfl⟩
    obtain ⟨_, _, _, h⟩ := gX k hk
    exact h
  · rintro q ⟨k, hk, rfl⟩
    obtain ⟨_, _, _, h⟩ := gM k hk
    exact h
  · rintro q ⟨k, hk, rfl⟩ ⟨j, hj, e⟩
    obtain ⟨x, x1, x2, _⟩ := gX k hk
    obtain ⟨y, y1, y2, _⟩ := gM j hj
    have lX : (WX cI cZ cS ad none σX0).length = 29 := rfl
    have e1 : (WX cI cZ cS ad none σX0 ++ WM cI am σM0)[k]? = some x := by rw [List.getElem?_append_left (by rw [lX]; exact hk)]; exact x1
    have e2 : (WX cI cZ cS ad none σX0 ++ WM cI am σM0)[29 + j]? = some y := by rw [List.getElem?_append_right (by rw [lX]; omega), lX, Nat.add_sub_cancel_left]; exact y1
    have := hD.1 k (29 + j) x y e1 e2 (x2.trans (e.trans y2.symm))
    omega
set_option maxRecDepth 100000 in
set_option maxHeartbeats 4000000 in
theorem start_of {Rel : SX → SX → Prop} (hsim : SimAll Rel) (hR0 : Rel σX0 σM0) {p : Program} {e : Env} {s : State} {m : MethodId} {below : List Frame} {meth : Method} {c : Code} (l : Launch) {b L : Nat} {xs : Nat → Int32} (hL : L ≤ 3072) (C0 : lw_At p s m meth c b L xs) : W p l e room_1 s m #[Value.ref b] below meth c s.heap [] 0 0 (lw_Z below #[Value.ref b] s) (entryFrame m ([Value.ref b] : List Value).toArray 4) := by
  obtain ⟨hx, hb, hr, hml, hown, hts, hX, hbl, hlocks, hgv⟩ := C0
  have S : CallFix p m c cL_law 4 s #[Value.ref b] wsA RL := ⟨hx, hb, hml, hown, fun w h => hts w (wsA_in h)⟩
  have hA : ∀ q : Nat, s.heap.size ≤ q → (fun q : Nat => s.heap.size ≤ q) q := fun _ h => h
  obtain ⟨c0, iS0, hKn0⟩ := u_known (C := RX0) (T := TX0) (N := 11) (n := 11) hts (fun w h => wsA_in (inA0 w h)) (S.2.2.2.2 _ wd_103)
  obtain ⟨c1, iS1, hKn1⟩ := u_known (C := RX1) (T := TX1) (N := 4) (n := 4) hts (fun w h => wsA_in (inA1 w h)) (S.2.2.2.2 _ wd_156)
  obtain ⟨c2, iS2, hKn2⟩ := u_known (C := RX2) (T := TX2) (N := 4) (n := 4) hts (fun w h => wsA_in (inA2 w h)) (S.2.2.2.2 _ wd_176)
  obtain ⟨c3, iS3, hKn3⟩ := u_known (C := RX3) (T := TX3) (N := 4) (n := 4) hts (fun w h => wsA_in (inA3 w h)) (S.2.2.2.2 _ wd_80)
  obtain ⟨c4, iS4, hKn4⟩ := u_known (C := RX4) (T := TX4) (N := 7) (n := 7) hts (fun w h => wsA_in (inA4 w h)) (S.2.2.2.2 _ wd_71)
  obtain ⟨c5, iS5, hKn5⟩ := u_known (C := RX5) (T := TX5) (N := 28) (n := 28) hts (fun w h => wsA_in (inA5 w h)) (S.2.2.2.2 _ wd_641)
  obtain ⟨dC, dI, hKc⟩ : ∃ (dC : Nat → ClassId) (dI : Nat → Nat → Nat), ∀ (k : Nat) (q : vw_C), vwCl[k]? = some q → u_Kn s q.1 q.2.1 q.2.2 (dC k) (dI k) := by
    refine ⟨fun k => if k = 0 then c0 else if k = 1 then c1 else if k = 2 then c2 else if k = 3 then c3 else if k = 4 then c4 else c5, fun k => if k = 0 then iS0 else if k = 1 then iS1 else if k = 2 then iS2 else if k = 3 then iS3 else if k = 4 then iS4 else iS5, ?_⟩
    intro k q hq
    match k, hq with
    | 0, hq => cases hq; exact hKn0
    | 1, hq => cases hq; exact hKn1
    | 2, hq => cases hq; exact hKn2
    | 3, hq => cases hq; exact hKn3
    | 4, hq => cases hq; exact hKn4
    | 5, hq => cases hq; exact hKn5
    | k + 6, hq => simp [vwCl] at hq
  obtain ⟨cI, kI, pI, fI, gI, tI⟩ := Cond.arrayClass_spec (S.2.2.2.2 _ wd_101)
  have aI : ArrOfT s cI .int := fun n z => ⟨fun k h => (by cases h), kI, gI, pI, tI⟩
  obtain ⟨cZ, kZ, pZ, fZ, gZ, tZ⟩ := Cond.arrayClass_spec (S.2.2.2.2 _ wd_195)
  have aZ : ArrOfT s cZ .boolean := fun n z => ⟨fun k h => (by cases h), kZ, gZ, pZ, tZ⟩
  have hO : va_AO RX3 s := va_AO.of (A := #[Value.ref b]) (hts (Cond.arrayOver (.object RX3)) (List.mem_of_getElem? (i := 79) (by decide +kernel)))
  obtain ⟨pS, cS, kS, f1, f2, f3, f4, f5⟩ := Cond.arrayOver_spec hO
  have aS : ArrOfT s cS (.object RX3) := fun N z => ⟨(fun k h => by cases h), kS, f3, pS, f4⟩
  have hK : va_K (dC, dI) vwCl (tyS cI cZ cS) s := ⟨hKc, fun k q hq => by
    match k, hq with
    | 0, hq => cases hq; exact ⟨aI, fI⟩
    | 1, hq => cases hq; exact ⟨aZ, fZ⟩
    | 2, hq => cases hq; exact ⟨aS, kS, pS, f3, f4, f1, f5⟩
    | k + 3, hq => simp at hq⟩
  have hN : NW s := ⟨va_Nw.of (A := #[Value.ref b]) rfl (hts (Cond.methodLinkNest RX4 17 yX3_init RX4) (List.mem_of_getElem? (i := 81) (by decide +kernel))), va_Nw.of (A := #[Value.ref b]) rfl (hts (Cond.methodLinkNest RX4 20 yX0_init RX4) (List.mem_of_getElem? (i := 104) (by decide +kernel))), va_Nw.of (A := #[Value.ref b]) rfl (hts (Cond.methodLinkNest RX4 30 yX1_init RX4) (List.mem_of_getElem? (i := 157) (by decide +kernel))), va_Nw.of (A := #[Value.ref b]) rfl (hts (Cond.methodLinkNest RX4 37 yX2_init RX4) (List.mem_of_getElem? (i := 177) (by decide +kernel))), hO⟩
  have hKT : KT (dC, dI) (tyS cI cZ cS) s := ⟨hK, va_Nw.of (A := #[Value.ref b]) rfl (hts (Cond.methodLinkNest RX0 109 yX4_hasBit RX4) (List.mem_of_getElem? (i := 474) (by decide +kernel)))⟩
  have hS : va_S (fun q : Nat => s.heap.size ≤ q) s.heap s.heap [] := va_S.rf
  have hP : va_P (dC, dI) vwCl [] s.heap := fun k q h => by simp at h
  have hD : va_D (fun q : Nat => s.heap.size ≤ q) [] := ⟨fun i j p q h => by simp at h, fun k q h => by simp at h⟩
  have hl := lv_entry ([.ref b]) (n := 4) (Nat.le_of_ble_eq_true rfl)
  rw [lg_entry_eq]
  generalize (lg_sl ([.ref b]) ++ List.replicate (4 - (lg_sl ([.ref b])).length) Slot.unset).toArray = ls at hl ⊢
  have hl : lv_has ls 4 [(0, .ref b)] := hl
  refine va_new (ci := 4) (fs := [.null, .null, .null, .null, .null, .int 0, .int 0]) (C := RX4) (T := TX4) (N := 7) hx hb S.2.2.2.2 inA4 tyX4 tyX4_ok hown (S.2.2.2.2 _ wd_70) (S.2.2.2.2 _ wd_71) (S.2.2.2.2 _ wd_61) hK hP hD hS hA rfl (by decide +kernel) (Nat.le_of_ble_eq_true rfl) (Nat.le_of_ble_eq_true rfl) dL_law_0 (fun q0 H hP hD hS => ?_)
  refine W.widen (k := 1) (n := 7) (Nat.le_of_ble_eq_true rfl) (Nat.le_of_ble_eq_true rfl) ?_
  have hP : va_P (dC, dI) vwCl [(q0, .inr (4, [.null, .null, .null, .null, .null, .int 0, .int 0]))] H := hP
  have hD : va_D (fun q : Nat => s.heap.size ≤ q) [(q0, .inr (4, [.null, .null, .null, .null, .null, .int 0, .int 0]))] := hD
  refine lv_dup hx hb dL_law_3 rfl ?_
  refine k_goC (wr := []) hP hD hS hA [0] [] rfl rfl (by decide) (by decide) (k_runII (rest := [.ref q0]) S hK hN hP hD (c_X4_init l (dC, dI) cI cZ cS q0 _) wd_72 rfl wd_61 wd_73 wd_74 (by decide +kernel) hl.1 (Nat.le_of_ble_eq_true rfl) dL_law_4 ⟨Nat.le_of_ble_eq_true rfl, Nat.le_of_ble_eq_true rfl⟩ ⟨Nat.le_of_ble_eq_true rfl, Nat.le_of_ble_eq_true rfl⟩) (fun u H locs hP hD hS => ?_)
  refine W.widen (k := 29) (n := 385) (Nat.le_of_ble_eq_true rfl) (Nat.le_of_ble_eq_true rfl) ?_
  obtain ⟨ad, had⟩ : ∃ z : Nat → Nat, z = fun k => cond (Nat.beq k 0) q0 (u k) := ⟨_, rfl⟩
  have e0 : ad 0 = q0 := by rw [had]; rfl
  have hP : va_P (dC, dI) vwCl (WX cI cZ cS ad none σX0) H := by rw [had]; exact hP
  have hD : va_D (fun q : Nat => s.heap.size ≤ q) (WX cI cZ cS ad none σX0) := by rw [had]; exact hD
  refine lv_astore_n (lv' := [(1, .ref q0), (0, .ref b)]) hx hb dL_law_7 rfl hl (by decide) rfl (fun ls hl => ?_)
  refine va_new (ci := 5) (fs := [.int 0, .int 0, .null, .null, .null, .int 0, .int 0, .int 0, .int 0, .int 0, .null, .null, .null, .null, .null, .null, .int 0, .int 0, .int 0, .int 0, .null, .null, .null, .null, .int 0, .null, .null, .null]) (C := RX5) (T := TX5) (N := 28) hx hb S.2.2.2.2 inA5 tyX5 tyX5_ok hown (S.2.2.2.2 _ wd_640) (S.2.2.2.2 _ wd_641) (S.2.2.2.2 _ wd_66) hK hP hD hS hA rfl (by decide +kernel) (Nat.le_of_ble_eq_true rfl) (Nat.le_of_ble_eq_true rfl) dL_law_8 (fun q1 H hP hD hS => ?_)
  refine W.widen (k := 30) (n := 413) (Nat.le_of_ble_eq_true rfl) (Nat.le_of_ble_eq_true rfl) ?_
  refine lv_dup hx hb dL_law_11 rfl ?_
  have hPc := hP.sub (ws' := [(q1, .inr (5, [.int 0, .int 0, .null, .null, .null, .int 0, .int 0, .int 0, .int 0, .int 0, .null, .null, .null, .null, .null, .null, .int 0, .int 0, .int 0, .int 0, .null, .null, .null, .null, .int 0, .null, .null, .null]))]) [29] rfl
  have hDc := hD.sub (ws' := [(q1, .inr (5, [.int 0, .int 0, .null, .null, .null, .int 0, .int 0, .int 0, .int 0, .int 0, .null, .null, .null, .null, .null, .null, .int 0, .int 0, .int 0, .int 0, .null, .null, .null, .null, .int 0, .null, .null, .null]))]) [29] (by decide) rfl
  refine k_goC (wr := WX cI cZ cS ad none σX0) hP hD hS hA [29] [0, 1, 2, 3, 4, 5, 6, 7, 8, 9, 10, 11, 12, 13, 14, 15, 16, 17, 18, 19, 20, 21, 22, 23, 24, 25, 26, 27, 28] rfl rfl (by decide) (by decide) (k_runII (rest := [.ref q1]) S hK hN hPc hDc (c_X5_init l (dC, dI) cI cZ cS q1 _) wd_642 rfl wd_66 wd_643 wd_644 (by decide +kernel) hl.1 (Nat.le_of_ble_eq_true rfl) dL_law_12 ⟨Nat.le_of_ble_eq_true rfl, Nat.le_of_ble_eq_true rfl⟩ ⟨Nat.le_of_ble_eq_true rfl, Nat.le_of_ble_eq_true rfl⟩) (fun u2 H locs hP hD hS => ?_)
  refine W.widen (k := 48) (n := 2000) (Nat.le_of_ble_eq_true rfl) (Nat.le_of_ble_eq_true rfl) ?_
  obtain ⟨am, ham⟩ : ∃ z : Nat → Nat, z = fun k => cond (Nat.beq k 0) q1 (u2 k) := ⟨_, rfl⟩
  have e1 : am 0 = q1 := by rw [ham]; rfl
  have hP : va_P (dC, dI) vwCl (WX cI cZ cS ad none σX0 ++ WM cI am σM0) H := by rw [ham]; exact hP
  have hD : va_D (fun q : Nat => s.heap.size ≤ q) (WX cI cZ cS ad none σX0 ++ WM cI am σM0) := by rw [ham]; exact hD
  refine lv_astore_n (lv' := [(2, .ref q1), (1, .ref q0), (0, .ref b)]) hx hb dL_law_15 rfl hl (by decide) rfl (fun ls hl => ?_)
  refine lv_iconst (v := 0) hx hb dL_law_16 (by decide) ?_
  refine lv_istore_n (lv' := [(3, .int 0), (2, .ref q1), (1, .ref q0), (0, .ref b)]) hx hb dL_law_17 rfl hl (by decide) rfl (fun ls hl => ?_)
  have hPX := hP.sub (ws' := WX cI cZ cS ad none σX0) [0, 1, 2, 3, 4, 5, 6, 7, 8, 9, 10, 11, 12, 13, 14, 15, 16, 17, 18, 19, 20, 21, 22, 23, 24, 25, 26, 27, 28] rfl
  have hPM := hP.sub (ws' := WM cI am σM0) [29, 30, 31, 32, 33, 34, 35, 36, 37, 38, 39, 40, 41, 42, 43, 44, 45] rfl
  obtain ⟨d1, d2, d3, d4, d5⟩ := LC_of hD
  exact law_loop hsim ⟨S, hKT, hX, hbl, d1, d2, d3, d4, d5⟩ hr hlocks hL (L + 1) 0 (Nat.zero_le L) (by omega) σX0 σM0 none H locs ls hR0 hPX hPM hS (by rw [e0, e1]; exact lv_sub hl [3, 2, 1, 0] rfl)
