/-! ===== calls that change a little ===== -/
def FX (σ σ' : SX) : Prop := (∀ c k, (c < 10 ∨ c = 25) → gF σ' c k = gF σ c k) ∧ (∀ c, (c < 10 ∨ 25 < c) → gR σ' c = gR σ c)
def FM (τ τ' : SX) : Prop := (∀ k, (k = 0 ∨ k = 1 ∨ k = 24) → gF τ' 0 k = gF τ 0 k) ∧ (∀ c, (c < 4 ∨ 13 < c) → gR τ' c = gR τ c)
theorem FX.refl {σ : SX} : FX σ σ := ⟨fun _ _ _ => rfl, fun _ _ => rfl⟩
theorem FM.refl {τ : SX} : FM τ τ := ⟨fun _ _ => rfl, fun _ _ => rfl⟩
theorem FX.trans {a b c : SX} (h : FX a b) (g : FX b c) : FX a c := ⟨fun x k q => (g.1 x k q).trans (h.1 x k q), fun x q => (g.2 x q).trans (h.2 x q)⟩
theorem FM.trans {a b c : SX} (h : FM a b) (g : FM b c) : FM a c := ⟨fun k q => (g.1 k q).trans (h.1 k q), fun x q => (g.2 x q).trans (h.2 x q)⟩
theorem FX_sF {σ : SX} {c k : Nat} {v : Int32} (h : 10 ≤ c ∧ c ≠ 25) : FX σ (sF σ c k v) := ⟨fun x j q => by rw [gF_sF, if_neg (by omega)], fun _ _ => rfl⟩
theorem FX_sR {σ : SX} {c : Nat} {f : Nat → Int32} (h : 10 ≤ c ∧ c ≤ 25) : FX σ (sR σ c f) := ⟨fun _ _ _ => rfl, fun x q => by rw [gR_sR, if_neg (by omega)]⟩
theorem FM_sF {τ : SX} {k : Nat} {v : Int32} (h : k ≠ 0 ∧ k ≠ 1 ∧ k ≠ 24) : FM τ (sF τ 0 k v) := ⟨fun x q => by rw [gF_sF, if_neg (by omega)], fun _ _ => rfl⟩
theorem FM_sR {τ : SX} {c : Nat} {f : Nat → Int32} (h : 4 ≤ c ∧ c ≤ 13) : FM τ (sR τ c f) := ⟨fun _ _ => rfl, fun x q => by rw [gR_sR, if_neg (by omega)]⟩
theorem RelA.day {d d' : DV} {e : RD} {q : SHT} {tr ft : Int32} {σ τ σ' τ' : SX} (h : RelA d e q tr ft σ τ) (ok : dOk d') (eH : dH d' = dH d) (eS : dS d' = dS d) (hx : DX 10 σ' d') (hm : DM τ' d') (fx : FX σ σ') (fm : FM τ τ') : RelA d' e q tr ft σ' τ' := by
  obtain ⟨⟨_, h0⟩, _, _, ⟨eo, ex, em⟩, ⟨qo, qx, qm⟩, ⟨t1, t2⟩, f1, f2⟩ := h
  refine ⟨⟨ok, by rw [eH, eS]; exact h0⟩, hx, hm, ⟨?_, ?_, ?_⟩, ⟨qo, ?_, ?_⟩, ⟨?_, ?_⟩, ?_, ?_⟩
  · unfold eOk; rw [eH, eS]; exact eo
  · unfold EX; rw [fx.1 25 0 (Or.inr rfl), fx.2 26 (by omega), fx.2 27 (by omega), fx.2 28 (by omega)]; exact ex
  · unfold EM; rw [fm.1 24 (by omega), fm.2 14 (by omega), fm.2 15 (by omega), fm.2 16 (by omega)]; exact em
  · intro k hk
    rw [fx.1 _ _ (by omega), fx.1 _ _ (by omega), fx.1 _ _ (by omega), fx.2 _ (by omega)]
    exact qx k hk
  · intro k hk
    rw [fm.2 1 (by omega), fm.2 2 (by omega), fm.2 3 (by omega)]
    exact qm k hk
  · rw [fx.1 0 5 (by omega)]; exact t1
  · rw [fm.1 1 (by omega)]; exact t2
  · rw [fx.1 0 6 (by omega)]; exact f1
  · rw [fm.1 0 (by omega)]; exact f2
theorem RelA.ft {d : DV} {e : RD} {q : SHT} {tr ft : Int32} {σ τ : SX} (h : RelA d e q tr ft σ τ) (v : Int32) : RelA d e q tr v (sF σ 0 6 v) (sF τ 0 0 v) := by
  obtain ⟨ok, hx, hm, ⟨eo, ex, em⟩, ⟨qo, qx, qm⟩, ⟨t1, t2⟩, f1, f2⟩ := h
  refine ⟨ok, DX_sF (by decide) hx, DM_sF (by decide) hm, ⟨eo, EX_sF (by decide) ex, EM_sF (by decide) em⟩, ⟨qo, QX_sF (by decide) qx, QM_sF qm⟩, ⟨?_, ?_⟩, ?_, ?_⟩
  · rw [gF_sF, if_neg (by decide)]; exact t1
  · rw [gF_sF, if_neg (by decide)]; exact t2
  · rw [gF_sF, if_pos ⟨rfl, rfl⟩]
  · rw [gF_sF, if_pos ⟨rfl, rfl⟩]
theorem RelA.tr {d : DV} {e : RD} {q : SHT} {tr ft : Int32} {σ τ : SX} (h : RelA d e q tr ft σ τ) (v : Int32) : RelA d e q v ft (sF σ 0 5 v) (sF τ 0 1 v) := by
  obtain ⟨ok, hx, hm, ⟨eo, ex, em⟩, ⟨qo, qx, qm⟩, ⟨t1, t2⟩, f1, f2⟩ := h
  refine ⟨ok, DX_sF (by decide) hx, DM_sF (by decide) hm, ⟨eo, EX_sF (by decide) ex, EM_sF (by decide) em⟩, ⟨qo, QX_sF (by decide) qx, QM_sF qm⟩, ⟨?_, ?_⟩, ?_, ?_⟩
  · rw [gF_sF, if_pos ⟨rfl, rfl⟩]
  · rw [gF_sF, if_pos ⟨rfl, rfl⟩]
  · rw [gF_sF, if_neg (by decide)]; exact f1
  · rw [gF_sF, if_neg (by decide)]; exact f2
theorem RelA.rel {d : DV} {e : RD} {q : SHT} {tr ft : Int32} {σ τ : SX} (h : RelA d e q tr ft σ τ) : Rel σ τ := ⟨d, e, q, tr, ft, h⟩
/-- a number up to N -/
theorem up_to {α β : Type} {P : α → β → Prop} {x : Int32} (N : Nat) (hN : N + 1 < 2 ^ 31) {k : Int32 → Option α} {k' : Int32 → Option β} (hout : BP P (k 0) (k' 0)) (hin : ∀ v, v ≤ N → x = nI v → BP P (k 1) (k' 1)) : BP P (ob1 (if x < (0 : Int32) then some (0 : Int32) else if nI N < x then some 0 else some 1) k) (ob1 (if x < (0 : Int32) then some (0 : Int32) else if nI N < x then some 0 else some 1) k') := by
  rcases ix3 x (N + 1) hN with h | ⟨h, h2⟩ | ⟨j, hj, e⟩
  · rw [if_pos h]; exact hout
  · have h3 : nI N < x := by
      rw [Int32.lt_iff_toInt_lt, nI_toInt (by omega)]
      rw [Int32.le_iff_toInt_le, nI_toInt hN] at h2
      omega
    rw [if_neg h, if_pos h3]; exact hout
  · rw [e, if_neg (nI_nneg (by omega)), if_neg (by rw [lt_nI (by omega) (by omega)]; omega)]
    exact hin j (by omega) e
theorem bp_dig {α β : Type} {P : α → β → Prop} {x : Int32} {k : Int32 → Option α} {k' : Int32 → Option β} (hout : BP P (k 0) (k' 0)) (hin : ∀ v, v ≤ 9 → x = nI v → BP P (k 1) (k' 1)) : BP P (ob1 (f_X4_isDigit x) k) (ob1 (f_X5_within x 0 9) k') := up_to 9 (by decide) hout hin
theorem isSheet_eq (x : Int32) : f_X5_isSheet x = f_X4_isSheet x := by
  unfold f_X5_isSheet f_X4_isSheet f_X5_within
  rcases ix3 x 4 (by decide) with h | ⟨h, h2⟩ | ⟨j, hj, e⟩
  · rw [if_pos h, if_pos h]; rfl
  · have h3 : (3 : Int32) < x := by
      rw [Int32.lt_iff_toInt_lt]
      rw [Int32.le_iff_toInt_le, nI_toInt (by decide)] at h2
      have : (3 : Int32).toInt = 3 := by decide
      omega
    rw [if_neg h, if_neg h, if_pos h3, if_pos (show (4 : Int32) ≤ x from h2)]; rfl
  · rcases (show j = 0 ∨ j = 1 ∨ j = 2 ∨ j = 3 by omega) with rfl | rfl | rfl | rfl <;> rw [e] <;> decide
theorem isLane_eq (x : Int32) : f_X5_isSort x = f_X4_isLane x := by
  unfold f_X5_isSort f_X4_isLane f_X5_within
  by_cases h : x < 0
  · simp only [if_pos h]; rfl
  · simp only [if_neg h]
    by_cases h2 : (2 : Int32) < x
    · simp only [if_pos h2]; rfl
    · simp only [if_neg h2]; rfl
theorem bp_sheet {α β : Type} {P : α → β → Prop} {x : Int32} {k : Int32 → Option α} {k' : Int32 → Option β} (hout : BP P (k 0) (k' 0)) (hin : ∀ j, j < 4 → x = nI j → BP P (k 1) (k' 1)) : BP P (ob1 (f_X4_isSheet x) k) (ob1 (f_X5_isSheet x) k') := by
  rw [isSheet_eq]
  exact bp_rng (N := 4) (by decide) (fun j hj e => by rw [e]; exact ⟨rng_in hj (by decide), rng_in hj (by decide)⟩) (fun h => ⟨rng_out h, rng_out h⟩) hout hin
theorem bp_lane {α β : Type} {P : α → β → Prop} {x : Int32} {k : Int32 → Option α} {k' : Int32 → Option β} (hout : BP P (k 0) (k' 0)) (hin : ∀ v, v ≤ 2 → x = nI v → BP P (k 1) (k' 1)) : BP P (ob1 (f_X4_isLane x) k) (ob1 (f_X5_isSort x) k') := by
  rw [isLane_eq]
  exact up_to 2 (by decide) hout hin
theorem oin_L {α β : Type} {P : α → β → Prop} {j n : Nat} {k : Option α} {m : Option β} (h : j < n) (hn : n < 2 ^ 31) (hk : BP P k m) : BP P (oin (nI j) n k) m := by rw [oin_nI _ h hn]; exact hk
theorem oin_R {α β : Type} {P : α → β → Prop} {j n : Nat} {k : Option α} {m : Option β} (h : j < n) (hn : n < 2 ^ 31) (hk : BP P k m) : BP P k (oin (nI j) n m) := by rw [oin_nI _ h hn]; exact hk
theorem Sim_coat_ok : Sim_coat Rel := by
  intro σ τ hR x1 x2
  obtain ⟨d, e, q, tr, ft, hA⟩ := hR
  have hA0 := hA
  obtain ⟨⟨ok, h0⟩, hx, hm, -⟩ := hA
  have h4 := ok.2.1
  refine BP.rwR ?_
  unfold f_X4_coat f_X5_coat
  refine bp_swr ok hx hm (BP.ret ⟨rfl, hA0.rel⟩) (fun s hs e1 => ?_)
  rw [if_neg one0, if_neg one0]
  refine bp_dig (BP.ret ⟨rfl, hA0.rel⟩) (fun v hv e2 => ?_)
  rw [if_neg one0, if_neg one0, e1, e2]
  refine oin_L (by omega) (by decide) (oin_L (by omega) (by decide) (oin_R (by omega) (by decide) (oin_R (by omega) (by decide) ?_)))
  rw [cl s (by omega)]
  refine BP.ret ⟨((hx.2.2.2.2.2.1 s hs).2).trans ((hm.2.2.2.2.2.1 s hs).2).symm, ?_⟩
  exact (hA0.day (setCt_ok ok hv) rfl rfl (X_setCt hx s v) (M_setCt hm s v) (FX_sR (by omega)) (FM_sR (by omega))).rel
theorem Sim_frost_ok : Sim_frost Rel := by
  intro σ τ hR x1 x2
  obtain ⟨d, e, q, tr, ft, hA⟩ := hR
  have hA0 := hA
  obtain ⟨⟨ok, h0⟩, hx, hm, -⟩ := hA
  have h4 := ok.1
  refine BP.rwR ?_
  unfold f_X4_frost f_X5_frost
  refine bp_hour ok hx hm (BP.ret ⟨rfl, hA0.rel⟩) (fun s hs e1 => ?_)
  rw [if_neg one0, if_neg one0]
  refine bp_dig (BP.ret ⟨rfl, hA0.rel⟩) (fun v hv e2 => ?_)
  rw [if_neg one0, if_neg one0, e1, e2]
  refine oin_L (by omega) (by decide) (oin_L (by omega) (by decide) (oin_R (by omega) (by decide) (oin_R (by omega) (by decide) ?_)))
  rw [cl s (by omega)]
  refine BP.ret ⟨(hx.2.2.2.2.1 s hs).trans (hm.2.2.2.2.1 s hs).symm, ?_⟩
  exact (hA0.day (setFr_ok ok hv) rfl rfl (X_setFr hx s v) (M_setFr hm s v) (FX_sR (by omega)) (FM_sR (by omega))).rel
theorem nI_le0 {n : Nat} (h : n < 2 ^ 31) : (nI n ≤ (0 : Int32)) ↔ n = 0 := by
  rw [show (0 : Int32) = nI 0 from rfl, nI_leI h (by decide)]; omega
theorem nI_eq0 {n : Nat} (h : n < 2 ^ 31) : (nI n = (0 : Int32)) ↔ n = 0 := by
  rw [show (0 : Int32) = nI 0 from rfl, nI_eq h (by decide)]
/-- is there a day -/
theorem bp_day {α β : Type} {P : α → β → Prop} {d : DV} {σ τ : SX} (ok : dOk d) (h0 : dH d = 0 ↔ dS d = 0) (hx : DX 10 σ d) (hm : DM τ d) {k : Int32 → Option α} {a' b' : Option β} (hout : BP P (k 0) a') (hin : 0 < dH d → 0 < dS d → BP P (k 1) b') : BP P (ob1 (f_X4_hasDay σ) k) (if gF τ 0 5 = 0 then a' else b') := by
  have h6 := ok.1
  have h4 := ok.2.1
  unfold f_X4_hasDay
  rw [hx.2.1, hm.1]
  by_cases c : dS d = 0
  · rw [if_pos ((nI_le0 (by omega)).mpr c), if_pos ((nI_eq0 (by omega)).mpr (h0.mpr c))]; exact hout
  · have c2 : ¬ dH d = 0 := fun z => c (h0.mp z)
    rw [if_neg (fun z => c ((nI_le0 (by omega)).mp z)), if_neg (fun z => c2 ((nI_eq0 (by omega)).mp z))]; exact hin (by omega) (by omega)
theorem Sim_stove_ok : Sim_stove Rel := by
  intro σ τ hR x1 x2
  obtain ⟨d, e, q, tr, ft, hA⟩ := hR
  have hA0 := hA
  obtain ⟨⟨ok, h0⟩, hx, hm, -⟩ := hA
  have h6 := ok.2.2.1
  refine BP.rwR ?_
  unfold f_X4_stove f_X5_stove
  refine bp_day ok h0 hx hm (BP.ret ⟨rfl, hA0.rel⟩) (fun _ _ => ?_)
  rw [if_neg one0]
  refine BP.ite (fun _ => ?_) (fun _ => ?_)
  · have ok' : dOk (setSv d none) := setSv_ok ok (fun z h => by cases h)
    have hx' : DX 10 (sF (sF σ 10 3 (-9)) 10 4 0) (setSv d none) := X_setSv hx rfl
    have hm' := M_noSv hm
    unfold f_X0_putStove
    rw [ob2_some, X_bind hx' ok', M_bind hm' ok', ob1_some, ob1_some, bitCount_ok _ (sN_le64 _ ok'.2.2.1), size_ok _ (sN_le64 _ ok'.2.2.1)]
    exact BP.ret ⟨rfl, (hA0.day ok' rfl rfl hx' hm' ((FX_sF (by omega)).trans (FX_sF (by omega))) (FM_sF (by omega))).rel⟩
  · refine bp_hour ok hx hm (BP.ret ⟨rfl, hA0.rel⟩) (fun h hh e1 => ?_)
    rw [if_neg one0, if_neg one0]
    refine bp_dig (BP.ret ⟨rfl, hA0.rel⟩) (fun v hv e2 => ?_)
    rw [if_neg one0, if_neg one0, e1, e2]
    have ok' : dOk (setSv d (some (h, v))) := setSv_ok ok (fun z e => by cases e; exact ⟨hh, hv⟩)
    have hx' : DX 10 (sF (sF σ 10 3 (nI h)) 10 4 (nI v)) (setSv d (some (h, v))) := X_setSv hx ⟨rfl, rfl⟩
    have hm' : DM (sF (sF τ 0 8 (nI h)) 0 9 (nI v)) (setSv d (some (h, v))) := M_setSv hm ⟨rfl, rfl⟩
    unfold f_X0_putStove
    rw [ob2_some, X_bind hx' ok', M_bind hm' ok', ob1_some, ob1_some, bitCount_ok _ (sN_le64 _ ok'.2.2.1), size_ok _ (sN_le64 _ ok'.2.2.1)]
    exact BP.ret ⟨rfl, (hA0.day ok' rfl rfl hx' hm' ((FX_sF (by omega)).trans (FX_sF (by omega))) ((FM_sF (by omega)).trans (FM_sF (by omega)))).rel⟩
theorem M_swear {τ : SX} {d : DV} (hd : DM τ d) (hO : dO d < 6) (s t h : Nat) : ∃ τ', (oin (gF τ 0 7) 6 (some ((), τ)) = some ((), τ)) ∧ τ' = sF (sR (sR (sR τ 7 (upd (gR τ 7) (dO d) (nI s))) 8 (upd (gR τ 8) (dO d) (nI t))) 9 (upd (gR τ 9) (dO d) (nI h))) 0 7 (nI (dO d + 1)) ∧ DM τ' (addOa d s t h) ∧ FM τ τ' := by
  obtain ⟨h1, h2, h3, h4, h5, h6, h7⟩ := hd
  refine ⟨_, by rw [h3]; exact oin_nI _ hO (by decide), rfl, ⟨?_, ?_, ?_, ?_, fun j hj => ?_, fun j hj => ?_, fun j hj => ?_⟩, ?_⟩
  · rw [gF_sF, if_neg (by omega)]; exact h1
  · rw [gF_sF, if_neg (by omega)]; exact h2
  · rw [gF_sF, if_pos ⟨rfl, rfl⟩]; rfl
  · rw [gF_sF, gF_sF, if_neg (by omega), if_neg (by omega)]; exact h4
  · simp only [gR_sF, gR_sR]
    rw [if_neg (by omega), if_neg (by omega), if_neg (by omega)]; exact h5 j hj
  · simp only [gR_sF, gR_sR]
    rw [if_neg (by omega), if_neg (by omega), if_neg (by omega), if_neg (by omega), if_neg (by omega), if_neg (by omega)]; exact h6 j hj
  · have hj : j < dO d + 1 := hj
    show gR (sF (sR (sR (sR τ 7 (upd (gR τ 7) (dO d) (nI s))) 8 (upd (gR τ 8) (dO d) (nI t))) 9 (upd (gR τ 9) (dO d) (nI h))) 0 7 (nI (dO d + 1))) 7 j = nI (upN (dBy d) (dO d) s j) ∧ gR (sF (sR (sR (sR τ 7 (upd (gR τ 7) (dO d) (nI s))) 8 (upd (gR τ 8) (dO d) (nI t))) 9 (upd (gR τ 9) (dO d) (nI h))) 0 7 (nI (dO d + 1))) 8 j = nI (upN (dTo d) (dO d) t j) ∧ gR (sF (sR (sR (sR τ 7 (upd (gR τ 7) (dO d) (nI s))) 8 (upd (gR τ 8) (dO d) (nI t))) 9 (upd (gR τ 9) (dO d) (nI h))) 0 7 (nI (dO d + 1))) 9 j = nI (upN (dWh d) (dO d) h j)
    simp only [gR_sF, gR_sR, show ¬ (7 : Nat) = 8 by decide, show ¬ (7 : Nat) = 9 by decide, show ¬ (8 : Nat) = 7 by decide, show ¬ (8 : Nat) = 9 by decide, show ¬ (9 : Nat) = 7 by decide, show ¬ (9 : Nat) = 8 by decide, ↓reduceIte, upd_at, upN_at]
    by_cases c : j = dO d
    · simp only [if_pos c]; exact ⟨trivial, trivial, trivial⟩
    · simp only [if_neg c]; exact h7 j (by omega)
  · exact (((FM_sR (by omega)).trans (FM_sR (by omega))).trans (FM_sR (by omega))).trans (FM_sF (by omega))
theorem Sim_swear_ok : Sim_swear Rel := by
  intro σ τ hR x1 x2 x3
  obtain ⟨d, e, q, tr, ft, hA⟩ := hR
  have hA0 := hA
  obtain ⟨⟨ok, h0⟩, hx, hm, -⟩ := hA
  have h6 := ok.2.2.1
  have h4 := ok.2.1
  refine BP.rwR ?_
  unfold f_X4_swear f_X5_swear
  refine bp_swr ok hx hm (BP.ret ⟨rfl, hA0.rel⟩) (fun s hs e1 => ?_)
  rw [if_neg one0, if_neg one0]
  refine bp_swr ok hx hm (BP.ret ⟨rfl, hA0.rel⟩) (fun t ht e2 => ?_)
  rw [if_neg one0, if_neg one0]
  refine BP.ite (fun _ => BP.ret ⟨rfl, hA0.rel⟩) (fun c => ?_)
  refine bp_hour ok hx hm (BP.ret ⟨rfl, hA0.rel⟩) (fun h hh e3 => ?_)
  rw [if_neg one0, if_neg one0, e1, e2, e3]
  rw [e1, e2, eq_nI (by omega) (by omega)] at c
  rw [hx.2.2.1, hm.2.2.1]
  by_cases c6 : dO d < 6
  · rw [if_pos (show nI (dO d) < (6 : Int32) from (nI_ltI (by omega) (by decide)).mpr c6), if_neg (fun z => by have := (nI_eq (by omega) (by decide)).mp (show nI (dO d) = nI 6 from z); omega)]
    obtain ⟨σ', g1, g2, g3, g4⟩ := X_addOath hx c6 s t h
    obtain ⟨τ', _, k2, k3, k4⟩ := M_swear hm c6 s t h
    have o1 : ∀ k : Option (Int32 × SX), oin (nI (dO d)) 6 k = k := fun k => oin_nI k c6 (by decide)
    rw [g1, ob2_some]
    simp only [gF_sR, gR_sR, hm.2.2.1, o1, cl (dO d) (by omega), nI_1, gF_sF, show ¬ (7 : Nat) = 8 by decide, show ¬ (7 : Nat) = 9 by decide, show ¬ (8 : Nat) = 7 by decide, show ¬ (8 : Nat) = 9 by decide, show ¬ (9 : Nat) = 7 by decide, show ¬ (9 : Nat) = 8 by decide, ↓reduceIte, and_self]
    rw [← k2]
    refine BP.ret ⟨?_, ?_⟩
    · show gF σ' 10 2 - 1 = nI (dO d + 1) - 1
      rw [g2.2.2.1]; rfl
    · exact (hA0.day (addOa_ok ok c6 hs ht c hh) rfl rfl g2 k3 ⟨fun c k h => g3 c k (by omega), fun c h => g4 c (by omega)⟩ k4).rel
  · have : dO d = 6 := by omega
    rw [if_neg (show ¬ nI (dO d) < (6 : Int32) from fun z => c6 ((nI_ltI (by omega) (by decide)).mp z)), this, if_pos (show nI 6 = (6 : Int32) from rfl)]
    exact BP.ret ⟨rfl, hA0.rel⟩
