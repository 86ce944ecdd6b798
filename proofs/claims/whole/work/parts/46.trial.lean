/-! ===== a trial ===== -/
theorem M_ag1 {τ : SX} {k : Nat} (hk : k < 4) (h : gR τ 1 k = -9) (x2 x3 x4 : Int32) : f_X5_against τ (nI k) x2 x3 x4 = some 1 := by
  unfold f_X5_against
  rw [oin_nI _ hk (by decide), cl k (by omega), if_pos h, oin_nI _ hk (by decide), if_pos h]
theorem M_ag2 {τ : SX} {k z : Nat} (hk : k < 4) (hz : z ≤ 2) (h : gR τ 1 k = nI z) {x2 : Int32} (hne : ¬ nI z = x2) (x3 x4 : Int32) : f_X5_against τ (nI k) x2 x3 x4 = some 2 := by
  unfold f_X5_against
  rw [oin_nI _ hk (by decide), cl k (by omega), h, if_neg (neg9' z (by omega)), oin_nI _ hk (by decide), if_neg hne]
theorem M_ag {τ : SX} {k z n : Nat} (hk : k < 4) (hz : z ≤ 2) (h : gR τ 1 k = nI z) (hn : gR τ 2 k = nI n) {x2 : Int32} (he : nI z = x2) (x3 x4 : Int32) : f_X5_against τ (nI k) x2 x3 x4 = if 0 ≤ x4 then (if x3 < 0 then some 3 else if nI n < x3 then some 3 else if x4 ≤ nI n - x3 then some 0 else some 3) else some 4 := by
  have o1 : ∀ w : Option Int32, oin (nI k) 4 w = w := fun w => oin_nI w hk (by decide)
  unfold f_X5_against
  simp only [o1, cl k (show k < 2 ^ 31 by omega), h, hn, if_neg (neg9' z (show z < 100 by omega)), if_pos he]
theorem ag_cells {n : Nat} (hn : n ≤ 60) (x3 x4 : Int32) (h4 : ¬ x4 < 0) : (∃ a m, a + m ≤ n ∧ x3 = nI a ∧ x4 = nI m ∧ (if x3 < 0 then some (3 : Int32) else if nI n < x3 then some 3 else if x4 ≤ nI n - x3 then some 0 else some 3) = some 0) ∨ ((x3 < 0 ∨ (¬ x3 < 0 ∧ nI n < x3) ∨ (∃ a, a ≤ n ∧ x3 = nI a ∧ (x4 < 0 ∨ (¬ x4 < 0 ∧ nI n - nI a < x4)))) ∧ (if x3 < 0 then some (3 : Int32) else if nI n < x3 then some 3 else if x4 ≤ nI n - x3 then some 0 else some 3) = some 3) := by
  rcases cells_cases hn x3 x4 with ⟨a, m, h, ea, em⟩ | hb
  · refine Or.inl ⟨a, m, h, ea, em, ?_⟩
    rw [ea, em, if_neg (nI_nneg (by omega)), if_neg (by rw [lt_nI (by omega) (by omega)]; omega), if_pos (by rw [pk_sub (by omega), le_nI (by omega) (by omega)]; omega)]
  · refine Or.inr ⟨hb, ?_⟩
    rcases hb with c1 | ⟨c1, c2⟩ | ⟨a, ha, ea, c3 | ⟨c3, c4⟩⟩
    · rw [if_pos c1]
    · rw [if_neg c1, if_pos c2]
    · exact absurd c3 h4
    · rw [ea, if_neg (nI_nneg (by omega)), if_neg (by rw [lt_nI (by omega) (by omega)]; omega), if_neg (Int32.not_le.mpr c4)]
theorem case_ok {σ τ : SX} {c z k i n : Nat} {f : Nat → Int32} (hc : c < 9) (h3 : gF σ c 3 = nI z) (hz : z ≤ 60) (hk : k < 4) (hf : ∀ i, i < 60 → gR σ (c + 1) i = f i) (hg : ∀ i, i < 60 → gR τ 3 (60 * k + i) = f i) (hi : i + 2 * n ≤ z) (y1 y2 y3 y5 y6 : Int32) :
    ∀ (r j nX nM : Nat), j + r = n → r < nX → r < nM → (f_X4_isCase_L2 σ c nX (nI i) (nI n) (nI j) = some 1 ∧ (∃ w, f_X5_trial_L103 nM τ y1 y2 y3 (nI n) y5 y6 (nI (60 * k + i)) (nI j) = f_X5_trial_L103 (w + 1) τ y1 y2 y3 (nI n) y5 y6 (nI (60 * k + i)) (nI n)) ∧ (∀ t, j ≤ t → t < n → actP (f (i + 2 * t)) (f (i + 2 * t + 1)))) ∨ (f_X4_isCase_L2 σ c nX (nI i) (nI n) (nI j) = some 0 ∧ f_X5_trial_L103 nM τ y1 y2 y3 (nI n) y5 y6 (nI (60 * k + i)) (nI j) = some (-2, τ)) := by
  intro r
  induction r with
  | zero =>
    intro j nX nM hj hX hM
    obtain ⟨nX, rfl⟩ : ∃ z, nX = z + 1 := ⟨nX - 1, by omega⟩
    obtain ⟨nM, rfl⟩ : ∃ z, nM = z + 1 := ⟨nM - 1, by omega⟩
    have : j = n := by omega
    subst this
    refine Or.inl ⟨?_, ⟨nM, rfl⟩, fun t h1 h2 => by omega⟩
    rw [f_X4_isCase_L2, if_pos (by rw [le_nI (by omega) (by omega)]; omega)]
  | succ r ih =>
    intro j nX nM hj hX hM
    obtain ⟨nX, rfl⟩ : ∃ z, nX = z + 1 := ⟨nX - 1, by omega⟩
    obtain ⟨nM, rfl⟩ : ∃ z, nM = z + 1 := ⟨nM - 1, by omega⟩
    have eX : f_X4_isCase_L2 σ c (nX + 1) (nI i) (nI n) (nI j) = ob1 (f_X4_isAct (f (i + 2 * j)) (f (i + 2 * j + 1))) (fun r => if r = 0 then some 0 else f_X4_isCase_L2 σ c nX (nI i) (nI n) (nI (j + 1))) := by
      rw [f_X4_isCase_L2, if_neg (by rw [le_nI (by omega) (by omega)]; omega), two_j, nI_1, nI_1, cell_X hc FD.refl h3 hz hf (by omega), ob1_some, cell_X hc FD.refl h3 hz hf (by omega), ob1_some]
    have eM : f_X5_trial_L103 (nM + 1) τ y1 y2 y3 (nI n) y5 y6 (nI (60 * k + i)) (nI j) = ob1 (f_X5_isPair (f (i + 2 * j)) (f (i + 2 * j + 1))) (fun r => if r = 0 then some (-2, τ) else f_X5_trial_L103 nM τ y1 y2 y3 (nI n) y5 y6 (nI (60 * k + i)) (nI (j + 1))) := by
      rw [f_X5_trial_L103, if_neg (by rw [le_nI (by omega) (by omega)]; omega), two_j, nI_1, nI_1, oin_nI _ (by omega) (by decide), oin_nI _ (by omega) (by decide), cl _ (by omega), cl _ (by omega), show 60 * k + i + 2 * j + 1 = 60 * k + (i + 2 * j + 1) by omega, show 60 * k + i + 2 * j = 60 * k + (i + 2 * j) by omega, hg _ (by omega), hg _ (by omega)]
    rw [eX, eM]
    rcases act_eq (f (i + 2 * j)) (f (i + 2 * j + 1)) with ⟨a1, a2, a3⟩ | ⟨a1, a2⟩
    · rw [a1, a2]
      show (f_X4_isCase_L2 σ c nX (nI i) (nI n) (nI (j + 1)) = some 1 ∧ (∃ w, f_X5_trial_L103 nM τ y1 y2 y3 (nI n) y5 y6 (nI (60 * k + i)) (nI (j + 1)) = f_X5_trial_L103 (w + 1) τ y1 y2 y3 (nI n) y5 y6 (nI (60 * k + i)) (nI n)) ∧ _) ∨ (f_X4_isCase_L2 σ c nX (nI i) (nI n) (nI (j + 1)) = some 0 ∧ f_X5_trial_L103 nM τ y1 y2 y3 (nI n) y5 y6 (nI (60 * k + i)) (nI (j + 1)) = some (-2, τ))
      rcases ih (j + 1) nX nM (by omega) (by omega) (by omega) with ⟨b1, b2, b3⟩ | b
      · refine Or.inl ⟨b1, b2, fun t h1 h2 => ?_⟩
        by_cases q : t = j
        · rw [q]; exact a3
        · exact b3 t (by omega) h2
      · exact Or.inr b
    · rw [a1, a2]; exact Or.inr ⟨rfl, rfl⟩
theorem ofT_ok {x : Int32} : (∃ w, (w ≤ 4 ∨ (10 ≤ w ∧ w ≤ 13)) ∧ x = nI w ∧ f_X4_isOfTrial x = some 1) ∨ (f_X4_isOfTrial x = some 0 ∧ f_X5_within x 0 4 = some 0 ∧ f_X5_within x 10 13 = some 0) := by
  unfold f_X4_isOfTrial f_X5_within
  rcases ix3 x 14 (by decide) with c | ⟨c, c2⟩ | ⟨w, hw, c⟩
  · have c10 : x < 10 := by
      rw [Int32.lt_iff_toInt_lt] at c ⊢
      have a1 : (10 : Int32).toInt = 10 := by decide
      have a2 : (0 : Int32).toInt = 0 := by decide
      omega
    refine Or.inr ⟨?_, ?_, ?_⟩
    · rw [if_pos c, if_pos c10]
    · rw [if_pos c]
    · rw [if_pos c10]
  · have d1 : (14 : Int32) ≤ x := c2
    rw [Int32.le_iff_toInt_le, nI_toInt (by decide)] at c2
    have c4 : ¬ x ≤ (4 : Int32) := by
      rw [Int32.le_iff_toInt_le]
      have a1 : (4 : Int32).toInt = 4 := by decide
      omega
    have c10 : ¬ x < (10 : Int32) := by
      rw [Int32.lt_iff_toInt_lt]
      have a1 : (10 : Int32).toInt = 10 := by decide
      omega
    have c13 : (13 : Int32) < x := by
      rw [Int32.lt_iff_toInt_lt]
      have a1 : (13 : Int32).toInt = 13 := by decide
      omega
    refine Or.inr ⟨?_, ?_, ?_⟩
    · rw [if_neg c, if_neg c4, if_neg c10, if_pos d1]
    · rw [if_neg c, if_pos (Int32.not_le.mp c4)]
    · rw [if_neg c10, if_pos c13]
  · rcases (show w ≤ 4 ∨ (10 ≤ w ∧ w ≤ 13) ∨ (5 ≤ w ∧ w ≤ 9) by omega) with h | h | h
    · refine Or.inl ⟨w, Or.inl h, c, ?_⟩
      rw [c, if_neg (nI_nneg (by omega)), if_pos (show nI w ≤ (4 : Int32) from (nI_leI (b := 4) (by omega) (by decide)).mpr h)]
    · refine Or.inl ⟨w, Or.inr h, c, ?_⟩
      rw [c, if_neg (nI_nneg (by omega)), if_neg (show ¬ nI w ≤ (4 : Int32) from fun z => by have := (nI_leI (b := 4) (by omega) (by decide)).mp z; omega), if_neg (show ¬ nI w < (10 : Int32) from fun z => by have := (nI_ltI (b := 10) (by omega) (by decide)).mp z; omega), if_neg (show ¬ (14 : Int32) ≤ nI w from fun z => by have := (nI_leI (a := 14) (by decide) (by omega)).mp z; omega)]
    · have l10 : nI w < (10 : Int32) := (nI_ltI (b := 10) (by omega) (by decide)).mpr (by omega)
      have l4 : ¬ nI w ≤ (4 : Int32) := fun z => by have := (nI_leI (b := 4) (by omega) (by decide)).mp z; omega
      refine Or.inr ⟨?_, ?_, ?_⟩
      · rw [c, if_neg (nI_nneg (by omega)), if_neg l4, if_pos l10]
      · rw [c, if_neg (nI_nneg (by omega)), if_pos (Int32.not_le.mp l4)]
      · rw [c, if_pos l10]
theorem ofT_M {α : Type} {w : Nat} (hw : w ≤ 4 ∨ (10 ≤ w ∧ w ≤ 13)) (a b : Option α) : ob1 (f_X5_within (nI w) 0 4) (fun r => if r = 0 then ob1 (f_X5_within (nI w) 10 13) (fun s => if s = 0 then a else b) else b) = b := by
  unfold f_X5_within
  rcases hw with h | ⟨h, h2⟩
  · rw [if_neg (nI_nneg (by omega)), if_neg (show ¬ (4 : Int32) < nI w from fun z => by have := (nI_ltI (a := 4) (by decide) (by omega)).mp z; omega)]
    rfl
  · rw [if_neg (nI_nneg (by omega)), if_pos (show (4 : Int32) < nI w from (nI_ltI (a := 4) (by decide) (by omega)).mpr (by omega)), if_neg (show ¬ nI w < (10 : Int32) from fun z => by have := (nI_ltI (b := 10) (by omega) (by decide)).mp z; omega), if_neg (show ¬ (13 : Int32) < nI w from fun z => by have := (nI_ltI (a := 13) (by decide) (by omega)).mp z; omega)]
    rfl
theorem trial_play {d : DV} {e : RD} {q : SHT} {tr ft : Int32} {σ τ : SX} (hA : RelA d e q tr ft σ τ) {k z i n w : Nat} (hk : k < 4) (hz : z ≤ 60) (h3 : gF σ (2 + 2 * k) 3 = nI z) (hi : i + 2 * n ≤ z) (hp : ∀ t, t < n → actP (q.2 k (i + 2 * t)) (q.2 k (i + 2 * t + 1))) (hw : w ≤ 4 ∨ (10 ≤ w ∧ w ≤ 13)) (y1 y2 y3 y6 : Int32) (nM : Nat) : BP (PR Rel) (ob2 (f_X0_become σ 17 10) (fun r_125 s_125 => ob2 (f_X4_playCase s_125 (2 + 2 * k) (nI i) (nI n)) (fun r_134 s_134 => if nI w = 1 then (some (r_134, s_134)) else (if r_134 = -9 then (ob1 (f_X4_ofCase s_134 (nI w)) (fun r_158 => some (r_158, s_134))) else (some (-100 - r_134, s_134)))))) (f_X5_trial_L103 (nM + 1) τ y1 y2 y3 (nI n) (nI w) y6 (nI (60 * k + i)) (nI n)) := by
  have hA0 := hA
  obtain ⟨⟨ok, h0⟩, hx, hm, -, ⟨qo, qx, qm⟩, -⟩ := hA
  rw [f_X5_trial_L103, if_pos (by rw [le_nI (by omega) (by omega)]; omega)]
  obtain ⟨σ', g1, g2, g3⟩ := X_draft hx ok
  obtain ⟨τ', k1, k2, k3, k4⟩ := M_keep τ
  rw [g1, k1, ob2_some, ob2_some]
  have hdm : DM τ' d := by
    unfold DM
    simp only [k2]
    rw [k3 4 (by decide), k3 5 (by decide), k3 6 (by decide), k3 7 (by decide), k3 8 (by decide), k3 9 (by decide)]
    exact hm
  have hI : caI d σ τ d σ' τ' := ⟨ok, ⟨rfl, rfl⟩, g2, hdm, g3, ⟨fun _ _ => k2 _ _, fun c hc => k3 c (by omega)⟩, k4, k3 5 (by decide)⟩
  obtain ⟨⟨r1, s1⟩, ⟨r2, s2⟩, a1, a2, a3, D, b1, ⟨b2, b3⟩, b4, b5, b6, b7, b8, b9⟩ := play_ok (c := 2 + 2 * k) (by omega) h3 hz hk (fun i hi => (qx k hk).2 i hi) (fun i hi => (qm k hk).2 i hi) hi hp n 0 100 100 σ' τ' d (by omega) (by omega) (by omega) hI
  cases a3
  unfold f_X4_playCase f_X5_goCase
  rw [show (0 : Int32) = nI 0 from rfl, a1, a2, ob2_some, ob2_some]
  obtain ⟨v, v1, v2⟩ := of_ok rfl b4 b5 b1 hw
  obtain ⟨τ'', m1, m2, m3⟩ := M_back ok hm b8 (by rw [b5.1, hm.1, b2]) (by rw [b5.2.1, hm.2.1, b3]) b9
  have hr : Rel s1 τ'' := (hA0.draft b6 m2 (b7.trans m3)).rel
  rw [v1, ob1_some, m1, ob2_some]
  refine BP.ite (fun _ => BP.ret ⟨rfl, hr⟩) (fun c => ?_)
  rw [v2 (fun z => c (by rw [z]; rfl)), ob1_some]
  exact BP.ite (fun _ => BP.ret ⟨rfl, hr⟩) (fun _ => BP.ret ⟨rfl, hr⟩)
theorem Sim_trial_ok : Sim_trial Rel := by
  intro σ τ hR x1 x2 x3 x4 x5
  obtain ⟨d, e, q, tr, ft, hA⟩ := hR
  have hA1 := hA.ft 0
  have hA0 := hA1
  obtain ⟨⟨ok, h0⟩, hx, hm, -, ⟨qo, qx, qm⟩, -⟩ := hA1
  have e1' : ∀ k : Int32 → Option (Int32 × SX), ob1 (some (1 : Int32)) k = k 1 := fun _ => rfl
  have e0 : ∀ k : Int32 → Option (Int32 × SX), ob1 (some (0 : Int32)) k = k 0 := fun _ => rfl
  refine BP.rwR ?_
  unfold f_X4_trial f_X5_trial
  generalize hs1 : sF σ 0 6 0 = σ1 at *
  generalize ht1 : sF τ 0 0 0 = τ1 at *
  refine bp_sheet (BP.ret ⟨rfl, hA0.rel⟩) (fun k hk e1 => ?_)
  rw [if_neg one0, if_neg one0]
  refine bp_lane (BP.ret ⟨rfl, hA0.rel⟩) (fun l hl e2 => ?_)
  rw [if_neg one0, if_neg one0]
  have hw4 : f_X5_within x4 0 20 = if x4 < 0 then some 0 else if (20 : Int32) < x4 then some 0 else some 1 := rfl
  rw [hw4]
  by_cases c : x4 < 0
  · rw [if_pos c, if_pos c]; exact BP.ret ⟨rfl, hA0.rel⟩
  rw [if_neg c, if_neg c]
  by_cases c' : (20 : Int32) < x4
  · rw [if_pos c', if_pos c']; exact BP.ret ⟨rfl, hA0.rel⟩
  rw [if_neg c', if_neg c', e1', if_neg one0]
  obtain ⟨n, hn, e4⟩ : ∃ n, n ≤ 20 ∧ x4 = nI n := by
    rcases ix3 x4 21 (by decide) with q | ⟨q, q2⟩ | ⟨n, hn, q⟩
    · exact absurd q c
    · exfalso
      apply c'
      rw [Int32.le_iff_toInt_le, nI_toInt (by decide)] at q2
      rw [Int32.lt_iff_toInt_lt]
      have a1 : (20 : Int32).toInt = 20 := by decide
      omega
    · exact ⟨n, by omega, q⟩
  rcases ofT_ok (x := x5) with ⟨w, hw, e5, o1⟩ | ⟨o1, o2, o3⟩
  · rw [o1, e1', if_neg one0, e5, ofT_M hw, e1, oin_nI _ hk (by decide), cl k (by omega)]
    have kx := (qx k hk).1
    have km := (qm k hk).1
    unfold f_X3_faultAs
    cases hq : q.1 k with
    | none =>
      rw [hq] at kx km
      rw [show gF σ1 (2 + 2 * k) 0 = 0 from kx, M_ag1 hk km, if_pos rfl]
      exact BP.ret ⟨rfl, (hA0.ft 1).rel⟩
    | some z =>
      rw [hq] at kx km
      obtain ⟨hz1, hz2⟩ := qo k hk z hq
      rw [kx.1, kx.2.1, if_neg one0]
      by_cases cl : nI z.1 = x2
      · rw [if_pos cl, e0, if_pos (show (0 : Int32) = 0 from rfl), M_ag hk hz1 km.1 km.2 cl, e4, show (2 : Int32) * nI n = nI (2 * n) from pk_mul 2 n, if_pos (nI_ge0 (by omega))]
        rcases ag_cells hz2 x3 (nI (2 * n)) (nI_nneg (by omega)) with ⟨a, m, hm1, ea, em, hg⟩ | ⟨hbad, hg⟩
        · have hmm : m = 2 * n := ((nI_eq (by omega) (by omega)).mp em).symm
          subst hmm
          rw [hg, ea, X_cells_ok kx.2.2 hz2 hm1, e1', if_neg one0, if_pos (show (0 : Int32) = 0 from rfl), e0, if_pos (show (0 : Int32) = 0 from rfl), show (60 : Int32) * nI k + nI a = nI (60 * k + a) from idx60 k a]
          refine bp_day ok h0 hx hm (BP.ret ⟨rfl, hA0.rel⟩) (fun _ _ => ?_)
          rw [if_neg one0]
          unfold f_X4_isCase
          rcases case_ok (c := 2 + 2 * k) (by omega) kx.2.2 hz2 hk (fun i hi => (qx k hk).2 i hi) (fun i hi => (qm k hk).2 i hi) hm1 (nI k) x2 (nI a) (nI w) 0 n 0 100 100 (by omega) (by omega) (by omega) with ⟨b1, ⟨v, b2⟩, b3⟩ | ⟨b1, b2⟩
          · rw [show f_X4_isCase_L2 σ1 (2 + 2 * k) 100 (nI a) (nI n) 0 = some 1 from b1, e1', if_neg one0, show f_X5_trial_L103 100 τ1 (nI k) x2 (nI a) (nI n) (nI w) 0 (nI (60 * k + a)) 0 = _ from b2]
            exact trial_play hA0 hk hz2 kx.2.2 hm1 (fun t ht => b3 t (Nat.zero_le _) ht) hw _ _ _ _ _
          · rw [show f_X4_isCase_L2 σ1 (2 + 2 * k) 100 (nI a) (nI n) 0 = some 0 from b1, e0, if_pos (show (0 : Int32) = 0 from rfl), show f_X5_trial_L103 100 τ1 (nI k) x2 (nI a) (nI n) (nI w) 0 (nI (60 * k + a)) 0 = _ from b2]
            exact BP.ret ⟨rfl, hA0.rel⟩
        · rw [hg, X_cells_bad kx.2.2 hz2 hbad]
          exact BP.ret ⟨rfl, (hA0.ft 3).rel⟩
      · rw [if_neg cl, M_ag2 hk hz1 km.1 cl]
        exact BP.ret ⟨rfl, (hA0.ft 2).rel⟩
  · rw [o1, o2, o3]
    exact BP.ret ⟨rfl, hA0.rel⟩
