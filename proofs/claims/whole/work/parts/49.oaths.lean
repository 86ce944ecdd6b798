/-! ===== reading a day: the oaths, and the end ===== -/
def st12 (s : SX) (i : Nat) (r : Int32) : SX := sR s 12 (upd (gR s 12) i r)
theorem FR_st {s : SX} {i : Nat} {r : Int32} : FR s (st12 s i r) := FR_sR (by omega)
theorem gF_st (s : SX) (i : Nat) (r : Int32) (c j : Nat) : gF (st12 s i r) c j = gF s c j := rfl
def oaD (L : Int32) (j : Nat) (s1 : SX) : Option (Int32 × SX) := ob2 (f_X5_digit s1 L (gF s1 0 18 - 1)) (fun r2 s2 => if r2 = -9 then some (0, st12 s2 (3 * j + 1) r2) else ob2 (f_X5_digit (st12 s2 (3 * j + 1) r2) L (gF s2 0 17 - 1)) (fun r3 s4 => if r3 = -9 then some (0, sF (st12 s4 (3 * j + 2) r3) 0 19 (gF s4 0 19 + 1)) else some (1, sF (st12 s4 (3 * j + 2) r3) 0 19 (gF s4 0 19 + 1))))
theorem oa_eq {τ : SX} {j : Nat} (h19 : gF τ 0 19 = nI j) (hj : j < 6) (L : Int32) : f_X5_readOathNext τ L = ob2 (f_X5_digit τ L (gF τ 0 18 - 1)) (fun r s => if r = -9 then some (0, st12 s (3 * j) r) else if L ≤ gF s 0 16 then oaD L j (st12 s (3 * j) r) else oin (gF s 0 16) 240 (if gR s 3 (gF s 0 16).toNatClampNeg = 48 + r then some (0, st12 s (3 * j) r) else oaD L j (st12 s (3 * j) r))) := by
  have o1 : ∀ w : Option (Int32 × SX), oin (nI (3 * j)) 18 w = w := fun w => oin_nI w (by omega) (by decide)
  have o2 : ∀ w : Option (Int32 × SX), oin (nI (3 * j + 1)) 18 w = w := fun w => oin_nI w (by omega) (by decide)
  have o3 : ∀ w : Option (Int32 × SX), oin (nI (3 * j + 2)) 18 w = w := fun w => oin_nI w (by omega) (by decide)
  unfold f_X5_readOathNext oaD st12
  simp only [h19, mul3, nI_1, add2, o1, o2, o3, cl (3 * j) (by omega), cl (3 * j + 1) (by omega), cl (3 * j + 2) (by omega), gF_sR, gR_sF, gR_sR, upd_at, show ¬ (3 : Nat) = 12 by decide, ↓reduceIte]
section OAS
variable {f : Nat → Int32} {k z a m : Nat} {σ0 τ0 : SX}
theorem end_ok {p : Nat} {D : DV} {σ τ : SX} (T : TX f k z a m σ0 τ0) (P : PXM k a m p σ0 τ0 σ τ) (V : VW D σ τ) (eH : 0 < dH D) (eS : 0 < dS D) : BP (rP k a m σ0 τ0) (if gF σ 24 0 = gF σ 24 3 then some (1, σ) else some (0, σ)) (if gF τ 0 16 = nI (60 * k + a + m) then some (1, τ) else some (0, τ)) := by
  have P0 := P
  obtain ⟨⟨t1, t2, t3⟩, -⟩ := T
  obtain ⟨q1, ⟨q2, q3, q4⟩, q5, q6, q7⟩ := P
  rw [q2, q4, q6]
  refine BP.ite2 ?_ (fun _ => BP.ret ⟨rfl, p, P0, Or.inr ⟨rfl, D, V, eH, eS⟩⟩) (fun _ => rP_no P0)
  rw [nI_eq (by omega) (by omega), nI_eq (by omega) (by omega)]
  omega
theorem oath_ok (T : TX f k z a m σ0 τ0) {K : Int32 → SX → Option (Int32 × SX)} {y : Int32} (hK0 : ∀ s, K 0 s = some (0, s)) (hK1 : ∀ s, K 1 s = if gF s 24 0 = gF s 24 3 then some (1, s) else some (0, s)) :
    ∀ (r j n nM p : Nat) (D : DV) (σ τ : SX), j + r = 6 → r < n → r < nM → PXM k a m p σ0 τ0 σ τ → VW D σ τ → dO D = j → 0 < dH D → 0 < dS D → BP (rP k a m σ0 τ0) (ob2 (f_X1_readsOaths_L2 (2 + 2 * k) 17 n σ (nI j)) K) (f_X5_readDay_L152 nM τ (nI (60 * k + a + m)) y) := by
  have T0 := T
  obtain ⟨⟨t1, t2, t3⟩, t4, t5, t6⟩ := T0
  intro r
  induction r with
  | zero =>
    intro j n nM p D σ τ hj hn hM P V eO eH eS
    obtain ⟨n, rfl⟩ : ∃ z, n = z + 1 := ⟨n - 1, by omega⟩
    obtain ⟨nM, rfl⟩ : ∃ z, nM = z + 1 := ⟨nM - 1, by omega⟩
    rw [f_X1_readsOaths_L2, if_pos (show (6 : Int32) ≤ nI j from (nI_leI (a := 6) (by decide) (by omega)).mpr (by omega)), ob2_some, hK1, f_X5_readDay_L152, V.2.2.2.2.2.1, if_pos (show (6 : Int32) ≤ nI (dO D) from (nI_leI (a := 6) (by decide) (by omega)).mpr (by omega))]
    exact end_ok T P V eH eS
  | succ r ih =>
    intro j n nM p D σ τ hj hn hM P V eO eH eS
    obtain ⟨n, rfl⟩ : ∃ z, n = z + 1 := ⟨n - 1, by omega⟩
    obtain ⟨nM, rfl⟩ : ∃ z, nM = z + 1 := ⟨nM - 1, by omega⟩
    have q1 := P.1
    have q6 := P.2.2.2.1
    have s4 := V.1.2.1
    have s6 := V.1.1
    rw [f_X1_readsOaths_L2, if_neg (show ¬ (6 : Int32) ≤ nI j from fun q => by have := (nI_leI (a := 6) (by decide) (by omega)).mp q; omega), f_X5_readDay_L152, V.2.2.2.2.2.1, if_neg (show ¬ (6 : Int32) ≤ nI (dO D) from fun q => by have := (nI_leI (a := 6) (by decide) (by omega)).mp q; omega)]
    by_cases c1 : p < m
    · rw [if_neg (show ¬ nI (60 * k + a + m) ≤ gF τ 0 16 from fun w => by rw [q6, le_nI (by omega) (by omega)] at w; omega)]
      by_cases e : f (a + p) = 44
      · have P1 := P.go c1
        have V1 := V.go (nI (p + 1)) (nI (60 * k + a + (p + 1)))
        rw [X_pass_y T P c1 e, M_sign_y T P c1 e, ob2_some, ob2_some, if_neg one0, if_neg one0, V1.2.2.1.2.1, oa_eq (j := j) (by rw [V1.2.2.2.2.2.1, eO]) (by omega), V1.2.2.2.2.1, nI_pred1 eS]
        by_cases h1 : p + 1 < m ∧ ∃ v, v < dS D ∧ f (a + (p + 1)) = nI (48 + v)
        · obtain ⟨a1, v1, a2, a3⟩ := h1
          have P2 := P1.go a1
          have V2 := V1.go (nI (p + 1 + 1)) (nI (60 * k + a + (p + 1 + 1)))
          have P2' := P2.M (FR_st (i := 3 * j) (r := nI v1)) (gF_st _ _ _ _ _)
          have q62 := P2.2.2.2.1
          have q72 := P2.2.2.2.2
          rw [(X_dig T P1 (by omega) a1 a2 a3 (-9)).trans (if_neg (n39 v1 (by omega))), ob2_some, if_pos (nI_ge0 (by omega)), V2.2.2.1.2.1, M_dig T P1 (by omega) a1 a2 a3, ob2_some, if_neg (neg9' v1 (by omega))]
          have eD : ∀ n', oaD (nI (60 * k + a + m)) j (st12 (sF (sF τ 0 16 (nI (60 * k + a + (p + 1)))) 0 16 (nI (60 * k + a + (p + 1 + 1)))) (3 * j) n') = ob2 (f_X5_digit (st12 (sF (sF τ 0 16 (nI (60 * k + a + (p + 1)))) 0 16 (nI (60 * k + a + (p + 1 + 1)))) (3 * j) n') (nI (60 * k + a + m)) (nI (dS D - 1))) (fun r2 s2 => if r2 = -9 then some (0, st12 s2 (3 * j + 1) r2) else ob2 (f_X5_digit (st12 s2 (3 * j + 1) r2) (nI (60 * k + a + m)) (gF s2 0 17 - 1)) (fun r3 s4 => if r3 = -9 then some (0, sF (st12 s4 (3 * j + 2) r3) 0 19 (gF s4 0 19 + 1)) else some (1, sF (st12 s4 (3 * j + 2) r3) 0 19 (gF s4 0 19 + 1)))) := fun n' => by
            unfold oaD
            rw [gF_st, V2.2.2.2.2.1, nI_pred1 eS]
          by_cases h2 : p + 1 + 1 < m ∧ ∃ v, v < dS D ∧ f (a + (p + 1 + 1)) = nI (48 + v)
          · obtain ⟨b1, v2, b2, b3⟩ := h2
            have ec : gR (sF (sF τ 0 16 (nI (60 * k + a + (p + 1)))) 0 16 (nI (60 * k + a + (p + 1 + 1)))) 3 (60 * k + a + (p + 1 + 1)) = nI (48 + v2) := by
              rw [q72.2 3 (by omega), show 60 * k + a + (p + 1 + 1) = 60 * k + (a + (p + 1 + 1)) by omega, t6 _ (by omega)]; exact b3
            rw [q62, if_neg (by rw [le_nI (by omega) (by omega)]; omega), oin_nI _ (by omega) (by decide), cl _ (by omega), ec, X_dig T P2 (by omega) b1 b2 b3 (nI v1)]
            by_cases c2 : nI (48 + v2) = (48 : Int32) + nI v1
            · rw [if_pos c2, if_pos c2, ob2_some, if_neg m9, ob2_some, hK0, ob2_some, if_pos rfl]
              exact rP_no P2'
            · have hne : v1 ≠ v2 := fun w => c2 (by rw [w]; exact (nI_add 48 v2).symm)
              have P3 := P2'.go b1
              have V3 := V2.go (nI (p + 1 + 1 + 1)) (nI (60 * k + a + (p + 1 + 1 + 1)))
              have P3' := P3.M (FR_st (i := 3 * j + 1) (r := nI v2)) (gF_st _ _ _ _ _)
              rw [if_neg c2, if_neg c2, eD, ob2_some, if_pos (nI_ge0 (by omega)), V3.2.2.1.1, M_dig T P2' (by omega) b1 b2 b3, ob2_some, if_neg (neg9' v2 (by omega)), show gF (sF (st12 (sF (sF τ 0 16 (nI (60 * k + a + (p + 1)))) 0 16 (nI (60 * k + a + (p + 1 + 1)))) (3 * j) (nI v1)) 0 16 (nI (60 * k + a + (p + 1 + 1 + 1)))) 0 17 = nI (dH D) from by rw [gF_sF, if_neg (by decide), gF_st]; exact V2.2.2.2.1, nI_pred1 eH]
              by_cases h3 : p + 1 + 1 + 1 < m ∧ ∃ v, v < dH D ∧ f (a + (p + 1 + 1 + 1)) = nI (48 + v)
              · obtain ⟨d1, v3, d2, d3⟩ := h3
                have P4 := P3'.go d1
                have V4 := V3.go (nI (p + 1 + 1 + 1 + 1)) (nI (60 * k + a + (p + 1 + 1 + 1 + 1)))
                obtain ⟨σ', g1, g2, g3, g4⟩ := X_addOath V4.2.2.1 (by omega) v1 v2 v3
                rw [(X_dig T P3' (by omega) d1 d2 d3 (-9)).trans (if_neg (n39 v3 (by omega))), ob2_some, if_pos (nI_ge0 (by omega)), g1, ob2_some, M_dig T P3' (by omega) d1 d2 d3, ob2_some, if_neg (neg9' v3 (by omega)), ob2_some, if_neg one0, nI_1]
                refine ih (j + 1) n nM (p + 1 + 1 + 1 + 1) (addOa D v1 v2 v3) _ _ (by omega) (by omega) (by omega) ((P4.X g3 g4).M (FR_st.trans (FR_sF (by omega))) (by rw [gF_sF, if_neg (by decide), gF_st])) ⟨addOa_ok V.1 (by omega) a2 b2 hne d2, V.2.1, g2, RM_oa V.2.2.2 ?_ ?_ ?_ ?_ ?_ (fun i => ?_)⟩ (congrArg (· + 1) eO) eH eS
                · simp [gF_sF, gF_st]
                · simp [gF_sF, gF_st]
                · simp [gF_sF, gF_st, V.2.2.2.2.2.1, nI_1]
                · simp [gR_sF, st12, gR_sR]
                · simp [gR_sF, st12, gR_sR]
                · simp [gR_sF, st12, gR_sR, upd_at, eO]
              · rw [X_dig_n T P3' (by omega) h3 (-9), ob2_some, if_neg m9, ob2_some, hK0, M_dig_n T P3' (by omega) eH h3, ob2_some, if_pos rfl, ob2_some, if_pos rfl]
                exact rP_no (P3'.M (FR_st.trans (FR_sF (by omega))) (by rw [gF_sF, if_neg (by decide), gF_st]))
          · rw [X_dig_n T P2 (by omega) h2 (nI v1), ob2_some, if_neg m9, ob2_some, hK0, eD, M_dig_n T P2' (by omega) eS h2, ob2_some, if_pos rfl]
            by_cases c2 : p + 1 + 1 < m
            · rw [q62, if_neg (by rw [le_nI (by omega) (by omega)]; omega), oin_nI _ (by omega) (by decide)]
              split
              · rw [ob2_some, if_pos rfl]; exact rP_no P2'
              · rw [ob2_some, if_pos rfl]; exact rP_no (P2'.M FR_st (gF_st _ _ _ _ _))
            · have hp2 := P2.1
              rw [q62, if_pos (by rw [le_nI (by omega) (by omega)]; omega), ob2_some, if_pos rfl]
              exact rP_no (P2'.M FR_st (gF_st _ _ _ _ _))
        · rw [X_dig_n T P1 (by omega) h1 (-9), ob2_some, if_neg m9, ob2_some, hK0, M_dig_n T P1 (by omega) eS h1, ob2_some, if_pos rfl, ob2_some, if_pos rfl]
          exact rP_no (P1.M FR_st (gF_st _ _ _ _ _))
      · rw [X_pass_n T P (fun w => e w.2), M_sign_n T P (fun w => e w.2), ob2_some, ob2_some, if_pos rfl, if_pos rfl, ob2_some, hK1, P.2.1.1, P.2.1.2.2, if_neg (by rw [eq_nI (by omega) (by omega)]; omega)]
        exact rP_no P
    · rw [X_pass_n T P (fun w => c1 w.1), ob2_some, if_pos rfl, ob2_some, hK1, if_pos (show nI (60 * k + a + m) ≤ gF τ 0 16 by rw [q6, le_nI (by omega) (by omega)]; omega)]
      exact end_ok T P V eH eS
end OAS
