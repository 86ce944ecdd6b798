/-! ===== readings, sheets ===== -/
def addE (e : RD) (s h c : Nat) : RD := (e.1 + 1, upN e.2.1 e.1 s, upN e.2.2.1 e.1 h, upN e.2.2.2 e.1 c)
theorem X_add {σ : SX} {e : RD} (hx : EX σ e) (h8 : e.1 < 8) (s h c : Nat) (hc : c ≤ 1) : ∃ σ', f_X2_add σ (nI s) (nI h) (nI c) = some ((), σ') ∧ EX σ' (addE e s h c) ∧ (∀ x k, x ≠ 25 → gF σ' x k = gF σ x k) ∧ (∀ x, x < 26 → gR σ' x = gR σ x) := by
  obtain ⟨h1, h2⟩ := hx
  have o1 : ∀ k : Option (Unit × SX), oin (nI e.1) 8 k = k := fun k => oin_nI k h8 (by decide)
  have hb : vp_nar .boolean (nI c) = nI c := by
    rcases (show c = 0 ∨ c = 1 by omega) with rfl | rfl <;> rfl
  unfold f_X2_add
  rw [h1, if_neg (show ¬ (8 : Int32) ≤ nI e.1 from fun z => by have := (nI_leI (a := 8) (by decide) (by omega)).mp z; omega)]
  simp only [gF_sR, h1, o1, cl e.1 (by omega), nI_1, hb, gR_sR, show ¬ (26 : Nat) = 27 by decide, show ¬ (26 : Nat) = 28 by decide, show ¬ (27 : Nat) = 26 by decide, show ¬ (27 : Nat) = 28 by decide, show ¬ (28 : Nat) = 26 by decide, show ¬ (28 : Nat) = 27 by decide, ↓reduceIte]
  refine ⟨_, rfl, ⟨?_, fun j hj => ?_⟩, fun x k hxk => ?_, fun x hxk => ?_⟩
  · rw [gF_sF, if_pos ⟨rfl, rfl⟩]; rfl
  · have hj : j < e.1 + 1 := hj
    simp only [gR_sF, gR_sR, show ¬ (26 : Nat) = 27 by decide, show ¬ (26 : Nat) = 28 by decide, show ¬ (27 : Nat) = 26 by decide, show ¬ (27 : Nat) = 28 by decide, show ¬ (28 : Nat) = 26 by decide, show ¬ (28 : Nat) = 27 by decide, ↓reduceIte]
    show upd (gR σ 26) e.1 (nI s) j = nI (upN e.2.1 e.1 s j) ∧ upd (gR σ 27) e.1 (nI h) j = nI (upN e.2.2.1 e.1 h j) ∧ upd (gR σ 28) e.1 (nI c) j = nI (upN e.2.2.2 e.1 c j)
    simp only [upd_at, upN_at]
    by_cases q : j = e.1
    · simp only [if_pos q]; exact ⟨trivial, trivial, trivial⟩
    · simp only [if_neg q]; exact h2 j (by omega)
  · rw [gF_sF, if_neg (fun z => hxk z.1)]; rfl
  · simp only [gR_sF, gR_sR]
    rw [if_neg (by omega), if_neg (by omega), if_neg (by omega)]
theorem Sim_reading_ok : Sim_reading Rel := by
  intro σ τ hR x1 x2 x3
  obtain ⟨d, e, q, tr, ft, hA⟩ := hR
  have hA0 := hA
  obtain ⟨⟨ok, h0⟩, hx, hm, ⟨eo, ex, em⟩, ⟨qo, qx, qm⟩, ⟨t1, t2⟩, f1, f2⟩ := hA
  have h6 := ok.1
  have h4 := ok.2.1
  have h8 := eo.1
  refine BP.rwR ?_
  unfold f_X4_reading f_X5_reading
  refine bp_swr ok hx hm (BP.ret ⟨rfl, hA0.rel⟩) (fun s hs e1 => ?_)
  rw [if_neg one0, if_neg one0]
  refine bp_hour ok hx hm (BP.ret ⟨rfl, hA0.rel⟩) (fun h hh e2 => ?_)
  rw [if_neg one0, if_neg one0, e1, e2]
  unfold f_X5_within
  rcases ix3 x3 2 (by decide) with c | ⟨c, c2⟩ | ⟨v, hv, e3⟩
  · rw [if_pos c, if_pos c]; exact BP.ret ⟨rfl, hA0.rel⟩
  · rw [Int32.le_iff_toInt_le, nI_toInt (by decide)] at c2
    have one : (1 : Int32).toInt = 1 := by decide
    have c3 : (1 : Int32) < x3 := by rw [Int32.lt_iff_toInt_lt]; omega
    have c4 : ¬ x3 ≤ (1 : Int32) := by rw [Int32.le_iff_toInt_le]; omega
    rw [if_neg c, if_neg c, if_neg c4, if_pos c3]; exact BP.ret ⟨rfl, hA0.rel⟩
  · rw [e3, if_neg (nI_nneg (by omega)), if_neg (nI_nneg (by omega)), if_pos (show nI v ≤ (1 : Int32) from (nI_leI (b := 1) (by omega) (by decide)).mpr (by omega)), if_neg (show ¬ (1 : Int32) < nI v from fun z => by have := (nI_ltI (a := 1) (by decide) (by omega)).mp z; omega), ob1_some, if_neg one0, ex.1, em.1]
    by_cases c8 : e.1 < 8
    · rw [if_pos (show nI e.1 < (8 : Int32) from (nI_ltI (by omega) (by decide)).mpr c8), if_neg (show ¬ nI e.1 = (8 : Int32) from fun z => by have := (nI_eq (b := 8) (by omega) (by decide)).mp z; omega)]
      obtain ⟨σ', g1, g2, g3, g4⟩ := X_add ex c8 s h v (by omega)
      have o1 : ∀ k : Option (Int32 × SX), oin (nI e.1) 8 k = k := fun k => oin_nI k c8 (by decide)
      have eX : (if nI v = (1 : Int32) then ob2 (f_X2_add σ (nI s) (nI h) 1) (fun _ s_67 => some (gF s_67 25 0 - 1, s_67)) else ob2 (f_X2_add σ (nI s) (nI h) 0) (fun _ s_67 => some (gF s_67 25 0 - 1, s_67))) = some (gF σ' 25 0 - 1, σ') := by
        rcases (show v = 0 ∨ v = 1 by omega) with rfl | rfl
        · rw [if_neg (by decide), show (0 : Int32) = nI 0 from rfl, g1]; rfl
        · rw [if_pos (by decide), show (1 : Int32) = nI 1 from rfl, g1]; rfl
      rw [eX]
      simp only [gF_sR, gR_sR, em.1, o1, cl e.1 (by omega), nI_1, gF_sF, show ¬ (14 : Nat) = 15 by decide, show ¬ (14 : Nat) = 16 by decide, show ¬ (15 : Nat) = 14 by decide, show ¬ (15 : Nat) = 16 by decide, show ¬ (16 : Nat) = 14 by decide, show ¬ (16 : Nat) = 15 by decide, ↓reduceIte, and_self]
      refine BP.ret ⟨by rw [g2.1]; rfl, d, addE e s h v, q, tr, ft, ⟨ok, h0⟩, ?_, ?_, ⟨⟨?_, fun j hj => ?_⟩, g2, ⟨?_, fun j hj => ?_⟩⟩, ⟨qo, ?_, ?_⟩, ⟨?_, ?_⟩, ?_, ?_⟩
      · unfold DX
        rw [g3 10 0 (by decide), g3 10 1 (by decide), g3 10 2 (by decide), g3 10 3 (by decide), g3 10 4 (by decide), g4 (10 + 1) (by decide), g4 (10 + 2) (by decide), g4 (10 + 3) (by decide), g4 (10 + 4) (by decide), g4 (10 + 5) (by decide), g4 (10 + 6) (by decide)]
        exact hx
      · exact DM_sF (by decide) (DM_sR (by decide) (DM_sR (by decide) (DM_sR (by decide) hm)))
      · show e.1 + 1 ≤ 8
        omega
      · have hj : j < e.1 + 1 := hj
        show upN e.2.1 e.1 s j < dS d ∧ upN e.2.2.1 e.1 h j < dH d ∧ upN e.2.2.2 e.1 v j ≤ 1
        simp only [upN_at]
        by_cases z : j = e.1
        · simp only [if_pos z]; exact ⟨hs, hh, by omega⟩
        · simp only [if_neg z]; exact eo.2 j (by omega)
      · rw [gF_sF, if_pos ⟨rfl, rfl⟩]; rfl
      · have hj : j < e.1 + 1 := hj
        simp only [gR_sF, gR_sR, show ¬ (14 : Nat) = 15 by decide, show ¬ (14 : Nat) = 16 by decide, show ¬ (15 : Nat) = 14 by decide, show ¬ (15 : Nat) = 16 by decide, show ¬ (16 : Nat) = 14 by decide, show ¬ (16 : Nat) = 15 by decide, ↓reduceIte]
        show upd (gR τ 14) e.1 (nI s) j = nI (upN e.2.1 e.1 s j) ∧ upd (gR τ 15) e.1 (nI h) j = nI (upN e.2.2.1 e.1 h j) ∧ upd (gR τ 16) e.1 (nI v) j = nI (upN e.2.2.2 e.1 v j)
        simp only [upd_at, upN_at]
        by_cases z : j = e.1
        · simp only [if_pos z]; exact ⟨trivial, trivial, trivial⟩
        · simp only [if_neg z]; exact em.2 j (by omega)
      · intro k hk
        rw [g3 _ _ (by omega), g3 _ _ (by omega), g3 _ _ (by omega), g4 _ (by omega)]
        exact qx k hk
      · exact QM_sF (QM_sR (by decide) (QM_sR (by decide) (QM_sR (by decide) qm)))
      · rw [g3 0 5 (by decide)]; exact t1
      · rw [gF_sF, if_neg (by decide)]; exact t2
      · rw [g3 0 6 (by decide)]; exact f1
      · rw [gF_sF, if_neg (by decide)]; exact f2
    · have : e.1 = 8 := by omega
      rw [if_neg (show ¬ nI e.1 < (8 : Int32) from fun z => c8 ((nI_ltI (by omega) (by decide)).mp z)), this, if_pos (show nI 8 = (8 : Int32) from rfl)]
      exact BP.ret ⟨rfl, hA0.rel⟩
/-- sheets -/
def upO {α : Type} (f : Nat → α) (k : Nat) (v : α) : Nat → α := fun j => if j = k then v else f j
theorem upO_at {α : Type} (f : Nat → α) (k : Nat) (v : α) (j : Nat) : upO f k v j = if j = k then v else f j := rfl
theorem RelA.sh {d : DV} {e : RD} {q q' : SHT} {tr ft : Int32} {σ τ σ' τ' : SX} (h : RelA d e q tr ft σ τ) (qo : qOk q') (qx : QX σ' q') (qm : QM τ' q') (hF : ∀ c k, (c = 0 ∨ 9 < c) → gF σ' c k = gF σ c k) (hR : ∀ c, 9 < c → gR σ' c = gR σ c) (hF' : ∀ k, gF τ' 0 k = gF τ 0 k) (hR' : ∀ c, 3 < c → gR τ' c = gR τ c) : RelA d e q' tr ft σ' τ' := by
  obtain ⟨okk, hx, hm, ⟨eo, ex, em⟩, _, ⟨t1, t2⟩, f1, f2⟩ := h
  refine ⟨okk, ?_, ?_, ⟨eo, ?_, ?_⟩, ⟨qo, qx, qm⟩, ⟨?_, ?_⟩, ?_, ?_⟩
  · unfold DX
    rw [hF 10 0 (by omega), hF 10 1 (by omega), hF 10 2 (by omega), hF 10 3 (by omega), hF 10 4 (by omega), hR (10 + 1) (by omega), hR (10 + 2) (by omega), hR (10 + 3) (by omega), hR (10 + 4) (by omega), hR (10 + 5) (by omega), hR (10 + 6) (by omega)]
    exact hx
  · unfold DM
    rw [hF' 5, hF' 6, hF' 7, hF' 8, hF' 9, hR' 4 (by omega), hR' 5 (by omega), hR' 6 (by omega), hR' 7 (by omega), hR' 8 (by omega), hR' 9 (by omega)]
    exact hm
  · unfold EX
    rw [hF 25 0 (by omega), hR 26 (by omega), hR 27 (by omega), hR 28 (by omega)]; exact ex
  · unfold EM
    rw [hF' 24, hR' 14 (by omega), hR' 15 (by omega), hR' 16 (by omega)]; exact em
  · rw [hF 0 5 (by omega)]; exact t1
  · rw [hF' 1]; exact t2
  · rw [hF 0 6 (by omega)]; exact f1
  · rw [hF' 0]; exact f2
theorem Sim_lose_ok : Sim_lose Rel := by
  intro σ τ hR x1
  obtain ⟨d, e, q, tr, ft, hA⟩ := hR
  have hA0 := hA
  obtain ⟨-, -, -, -, ⟨qo, qx, qm⟩, -⟩ := hA
  refine BP.rwR ?_
  unfold f_X4_lose f_X5_lose
  refine bp_sheet (BP.ret ⟨rfl, hA0.rel⟩) (fun k hk e1 => ?_)
  have o1 : ∀ z : Option (Int32 × SX), oin (nI k) 4 z = z := fun z => oin_nI z hk (by decide)
  rw [if_neg one0, if_neg one0, e1]
  simp only [o1, cl k (by omega)]
  have fin : Rel (sF σ (2 + 2 * k) 0 0) (sR τ 1 (upd (gR τ 1) k (-9))) := by
    refine (hA0.sh (q' := (upO q.1 k none, q.2)) (σ' := sF σ (2 + 2 * k) 0 0) (τ' := sR τ 1 (upd (gR τ 1) k (-9))) (fun j hj z hz => ?_) (fun j hj => ⟨?_, ?_⟩) (fun j hj => ⟨?_, ?_⟩) (fun c j hc => ?_) (fun _ _ => rfl) (fun _ => rfl) (fun c hc => ?_)).rel
    · have hz : upO q.1 k none j = some z := hz
      rw [upO_at] at hz
      by_cases c : j = k
      · rw [if_pos c] at hz; cases hz
      · rw [if_neg c] at hz; exact qo j hj z hz
    · show shX _ _ _ (upO q.1 k none j)
      rw [upO_at, gF_sF, gF_sF, gF_sF]
      by_cases c : j = k
      · rw [if_pos c, c, if_pos ⟨rfl, rfl⟩]; rfl
      · rw [if_neg c, if_neg (by omega), if_neg (by omega), if_neg (by omega)]; exact (qx j hj).1
    · exact (qx j hj).2
    · show shM _ _ (upO q.1 k none j)
      rw [upO_at, gR_sR, gR_sR, if_pos rfl, if_neg (by decide), upd_at]
      by_cases c : j = k
      · rw [if_pos c, if_pos c]; rfl
      · rw [if_neg c, if_neg c]; exact (qm j hj).1
    · rw [gR_sR, if_neg (by decide)]; exact (qm j hj).2
    · rw [gF_sF, if_neg (by omega)]
    · rw [gR_sR, if_neg (by omega)]
  have hx := (qx k hk).1
  have hm := (qm k hk).1
  cases hq : q.1 k with
  | none =>
    rw [hq] at hx hm
    rw [show gF σ (2 + 2 * k) 0 = 0 from hx, show gR τ 1 k = -9 from hm, if_pos rfl, if_pos rfl]
    exact BP.ret ⟨rfl, fin⟩
  | some z =>
    rw [hq] at hx hm
    have hz := qo k hk z hq
    rw [hx.1, hm.1, if_neg one0, if_neg (neg9' z.1 (by omega))]
    exact BP.ret ⟨rfl, fin⟩
theorem X_hasCell {σ : SX} {c n : Nat} (h : gF σ c 3 = nI n) (x : Int32) : f_X3_hasCell σ c x = if x < 0 then some 0 else if nI n ≤ x then some 0 else some 1 := by
  unfold f_X3_hasCell; rw [h]
theorem X_at {σ : SX} {c n i : Nat} (h : gF σ c 3 = nI n) (hn : n ≤ 60) (hi : i < n) : f_X3_at σ c (nI i) = some (gR σ (c + 1) i) := by
  unfold f_X3_at
  rw [X_hasCell h, rng_in hi (by omega), ob1_some, if_neg one0, oin_nI _ (by omega) (by decide), cl i (by omega)]
/-- within x 0 (n - 1), as the reference asks -/
theorem within_m1 {x : Int32} {n : Nat} (hn : n ≤ 60) : f_X5_within x 0 (nI n - 1) = if x < 0 then some 0 else if nI n ≤ x then some 0 else some 1 := by
  unfold f_X5_within
  by_cases c : x < 0
  · rw [if_pos c, if_pos c]
  · rw [if_neg c, if_neg c]
    have hi : (nI n - 1).toInt = (n : Int) - 1 := pk_sub_toInt (a := n) (b := 1) (by omega) (by decide)
    by_cases c2 : nI n ≤ x
    · rw [if_pos c2, if_pos]
      rw [Int32.le_iff_toInt_le, nI_toInt (by omega)] at c2
      rw [Int32.lt_iff_toInt_lt, hi]; omega
    · rw [if_neg c2, if_neg]
      rw [Int32.le_iff_toInt_le, nI_toInt (by omega)] at c2
      rw [Int32.lt_iff_toInt_lt, hi]; omega
theorem idx60 (k i : Nat) : (60 : Int32) * nI k + nI i = nI (60 * k + i) := by
  rw [show (60 : Int32) = nI 60 from rfl, pk_mul, nI_add]
def upC (f : Nat → Nat → Int32) (k i : Nat) (v : Int32) : Nat → Nat → Int32 := fun a b => if a = k ∧ b = i then v else f a b
theorem put_rel {d : DV} {e : RD} {q : SHT} {tr ft : Int32} {σ τ : SX} (hA : RelA d e q tr ft σ τ) {k i : Nat} (hk : k < 4) (hi : i < 60) (v : Int32) : RelA d e (q.1, upC q.2 k i v) tr ft (sR σ (2 + 2 * k + 1) (upd (gR σ (2 + 2 * k + 1)) i v)) (sR τ 3 (upd (gR τ 3) (60 * k + i) v)) := by
  have hA0 := hA
  obtain ⟨-, -, -, -, ⟨qo, qx, qm⟩, -⟩ := hA
  refine hA0.sh qo (fun j hj => ⟨(qx j hj).1, fun a ha => ?_⟩) (fun j hj => ⟨?_, fun a ha => ?_⟩) (fun _ _ _ => rfl) (fun c hc => ?_) (fun _ => rfl) (fun c hc => ?_)
  · show _ = upC q.2 k i v j a
    unfold upC
    rw [gR_sR]
    by_cases c : j = k
    · rw [if_pos (by omega), upd_at]
      by_cases c2 : a = i
      · rw [if_pos c2, if_pos ⟨c, c2⟩]
      · rw [if_neg c2, if_neg (fun z => c2 z.2), ← c]; exact (qx j hj).2 a ha
    · rw [if_neg (by omega), if_neg (fun z => c z.1)]; exact (qx j hj).2 a ha
  · rw [gR_sR, gR_sR, if_neg (by decide), if_neg (by decide)]; exact (qm j hj).1
  · show _ = upC q.2 k i v j a
    unfold upC
    rw [gR_sR, if_pos rfl, upd_at]
    by_cases c : j = k ∧ a = i
    · rw [if_pos (by omega), if_pos c]
    · rw [if_neg (by omega), if_neg c]; exact (qm j hj).2 a ha
  · rw [gR_sR, if_neg (by omega)]
  · rw [gR_sR, if_neg (by omega)]
theorem Sim_put_ok : Sim_put Rel := by
  intro σ τ hR x1 x2 x3
  obtain ⟨d, e, q, tr, ft, hA⟩ := hR
  have hA1 := hA.ft 0
  have hA0 := hA1
  obtain ⟨-, -, -, -, ⟨qo, qx, qm⟩, -⟩ := hA1
  refine BP.rwR ?_
  unfold f_X4_put f_X5_put
  refine bp_sheet (BP.ret ⟨rfl, hA0.rel⟩) (fun k hk e1 => ?_)
  have o1 : ∀ z : Option (Int32 × SX), oin (nI k) 4 z = z := fun z => oin_nI z hk (by decide)
  rw [if_neg one0, if_neg one0, e1]
  simp only [o1, cl k (by omega)]
  have hx := (qx k hk).1
  have hm := (qm k hk).1
  cases hq : q.1 k with
  | none =>
    rw [hq] at hx hm
    rw [show gF (sF σ 0 6 0) (2 + 2 * k) 0 = 0 from hx, show gR (sF τ 0 0 0) 1 k = -9 from hm, if_pos rfl, if_pos rfl]
    exact BP.ret ⟨rfl, (hA0.ft 1).rel⟩
  | some z =>
    rw [hq] at hx hm
    obtain ⟨hz1, hz2⟩ := qo k hk z hq
    rw [hx.1, hm.1, hm.2, if_neg one0, if_neg (neg9' z.1 (by omega)), X_hasCell hx.2.2, within_m1 hz2]
    refine bp_rng (N := z.2) (by omega) (fun j hj ej => by rw [ej]; exact ⟨rng_in hj (by omega), rng_in hj (by omega)⟩) (fun h => ⟨rng_out h, rng_out h⟩) (BP.ret ⟨rfl, (hA0.ft 3).rel⟩) (fun i hi e2 => ?_)
    rw [if_neg one0, if_neg one0, e2]
    unfold f_X3_store f_X3_cutToLane
    rw [X_hasCell hx.2.2, rng_in hi (by omega), ob1_some, if_neg one0, hx.2.1, idx60]
    have o2 : ∀ z : Option (Unit × SX), oin (nI i) 60 z = z := fun z => oin_nI z (by omega) (by decide)
    have o3 : ∀ z : Option (Int32 × SX), oin (nI (60 * k + i)) 240 z = z := fun z => oin_nI z (by omega) (by decide)
    simp only [o2, o3, cl i (by omega), cl (60 * k + i) (by omega)]
    by_cases c0 : nI z.1 = (0 : Int32)
    · simp only [if_pos c0]
      exact BP.ret ⟨rfl, (put_rel hA0 hk (by omega) _).rel⟩
    · simp only [if_neg c0]
      by_cases c1 : nI z.1 = (1 : Int32)
      · simp only [if_pos c1]
        exact BP.ret ⟨rfl, (put_rel hA0 hk (by omega) _).rel⟩
      · simp only [if_neg c1]
        exact BP.ret ⟨rfl, (put_rel hA0 hk (by omega) _).rel⟩
theorem Sim_cell_ok : Sim_cell Rel := by
  intro σ τ hR x1 x2 x3
  obtain ⟨d, e, q, tr, ft, hA⟩ := hR
  have hA1 := hA.ft 0
  have hA0 := hA1
  obtain ⟨-, -, -, -, ⟨qo, qx, qm⟩, -⟩ := hA1
  refine BP.rwR ?_
  unfold f_X4_cell f_X5_cell
  refine bp_sheet (BP.ret ⟨rfl, hA0.rel⟩) (fun k hk e1 => ?_)
  have o1 : ∀ z : Option (Int64 × SX), oin (nI k) 4 z = z := fun z => oin_nI z hk (by decide)
  rw [if_neg one0, if_neg one0]
  refine bp_lane (BP.ret ⟨rfl, hA0.rel⟩) (fun la hla e2 => ?_)
  rw [if_neg one0, if_neg one0, e1, e2]
  simp only [o1, cl k (by omega)]
  have hx := (qx k hk).1
  have hm := (qm k hk).1
  unfold f_X3_faultAs
  cases hq : q.1 k with
  | none =>
    rw [hq] at hx hm
    rw [show gF (sF σ 0 6 0) (2 + 2 * k) 0 = 0 from hx, show gR (sF τ 0 0 0) 1 k = -9 from hm, if_pos rfl, if_pos rfl, if_pos rfl, ob1_some, if_neg one0]
    exact BP.ret ⟨rfl, (hA0.ft 1).rel⟩
  | some z =>
    rw [hq] at hx hm
    obtain ⟨hz1, hz2⟩ := qo k hk z hq
    rw [hx.1, hx.2.1, hm.1, hm.2, if_neg one0, if_neg (neg9' z.1 (by omega))]
    by_cases c : nI z.1 = nI la
    · rw [if_pos c, if_pos c, ob1_some, if_pos rfl, if_neg (neg9' z.1 (by omega)), X_hasCell hx.2.2, within_m1 hz2]
      refine bp_rng (N := z.2) (by omega) (fun j hj ej => by rw [ej]; exact ⟨rng_in hj (by omega), rng_in hj (by omega)⟩) (fun h => ⟨rng_out h, rng_out h⟩) (BP.ret ⟨rfl, (hA0.ft 3).rel⟩) (fun i hi e3 => ?_)
      rw [if_neg one0, if_neg one0, if_pos rfl, e3, X_at hx.2.2 hz2 hi, ob1_some, idx60, oin_nI _ (by omega) (by decide), cl (60 * k + i) (by omega)]
      refine BP.ret ⟨?_, hA0.rel⟩
      show (gR (sF σ 0 6 0) (2 + 2 * k + 1) i).toInt64 = (gR (sF τ 0 0 0) 3 (60 * k + i)).toInt64
      rw [(qx k hk).2 i (by omega), (qm k hk).2 i (by omega)]
    · rw [if_neg c, if_neg c, ob1_some, if_neg (by decide), if_neg (by decide)]
      exact BP.ret ⟨rfl, (hA0.ft 2).rel⟩
