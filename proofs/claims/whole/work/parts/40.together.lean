/-! ===== together, coated, odds ===== -/
set_option maxRecDepth 100000 in
theorem there_num : ∀ s, s < 5 → ∀ v, v < 16 → ((nI v < ((1 : Int32) <<< (nI s &&& 31))) ↔ (nI v &&& ((((1 : Int32) <<< (nI s &&& 31)) - 1) ^^^ (-1)) = 0)) := by decide +kernel
set_option maxRecDepth 100000 in
theorem tog_num : ∀ c, c < 16 → ∀ v, v < 16 → ((nI v &&& (nI c ^^^ (-1)) = (0 : Int32)) ↔ (nI c &&& nI v = nI v)) := by decide +kernel
set_option maxRecDepth 100000 in
theorem hasBit_isOf : ∀ k, k < 8 → ∀ a, a < 64 → f_X5_isOf (nI a) (nI k) = f_X4_hasBit (nI a) (nI k) := by decide +kernel
/-- the refusals of together and coated -/
theorem bp_refuse {d : DV} {σ τ : SX} (ok : dOk d) (h0 : dH d = 0 ↔ dS d = 0) (hx : DX 10 σ d) (hm : DM τ d) (x : Int32) {k k' : Int32 → Option Int32} (hk : ∀ r, ¬ r = 0 → k r = some r) (hin : ∀ v, v < 16 → x = nI v → 0 < dH d → BP Eq (k 0) (k' 1)) : BP Eq (ob1 (f_X4_refusalOfSwearers σ x) k) (ob1 (f_X5_within x 0 15) (fun r_4 => if r_4 = 0 then some (-2) else if gF τ 0 5 = 0 then some (-3) else ob1 (f_X5_areThere τ x) (fun r_25 => if r_25 = 0 then some (-1) else k' 1))) := by
  have h6 := ok.1
  have h4 := ok.2.1
  unfold f_X4_refusalOfSwearers f_X5_within
  rcases ix3 x 16 (by decide) with c | ⟨c, c2⟩ | ⟨v, hv, e⟩
  · rw [if_pos c, if_pos c, ob1_some, ob1_some, hk _ (by decide), if_pos rfl]; exact BP.ret rfl
  · have c2' : (16 : Int32) ≤ x := c2
    have c3 : (15 : Int32) < x := by
      rw [Int32.le_iff_toInt_le] at c2'
      rw [Int32.lt_iff_toInt_lt]
      have a1 : (16 : Int32).toInt = 16 := by decide
      have a2 : (15 : Int32).toInt = 15 := by decide
      omega
    rw [if_neg c, if_neg c, if_neg (Int32.not_lt.mpr c2'), if_pos c3, ob1_some, ob1_some, hk _ (by decide), if_pos rfl]; exact BP.ret rfl
  · rw [e, if_neg (nI_nneg (by omega)), if_neg (nI_nneg (by omega)), if_pos (show nI v < (16 : Int32) from (nI_ltI (b := 16) (by omega) (by decide)).mpr hv), if_neg (show ¬ (15 : Int32) < nI v from fun z => by have := (nI_ltI (a := 15) (by decide) (by omega)).mp z; omega), ob1_some, if_neg one0]
    unfold f_X4_hasDay f_X5_areThere
    rw [hx.2.1, hm.1, hm.2.1]
    by_cases cS : dS d = 0
    · rw [if_pos ((nI_le0 (by omega)).mpr cS), if_pos ((nI_eq0 (by omega)).mpr (h0.mpr cS)), ob1_some, if_pos rfl, ob1_some, hk _ (by decide)]; exact BP.ret rfl
    · have cH : ¬ dH d = 0 := fun z => cS (h0.mp z)
      rw [if_neg (fun z => cS ((nI_le0 (by omega)).mp z)), if_neg (fun z => cH ((nI_eq0 (by omega)).mp z)), ob1_some, if_neg one0]
      by_cases ct : nI v < ((1 : Int32) <<< (nI (dS d) &&& 31))
      · rw [if_pos ct, if_pos ((there_num (dS d) (by omega) v hv).mp ct), ob1_some, ob1_some, if_neg one0]
        exact hin v hv e (by omega)
      · rw [if_neg ct, if_neg (fun z => ct ((there_num (dS d) (by omega) v hv).mpr z)), ob1_some, ob1_some, if_pos rfl, hk _ (by decide)]; exact BP.ret rfl
theorem togL {d : DV} {σ τ : SX} (ok : dOk d) (hx : DX 10 σ d) (hm : DM τ d) {v : Nat} (hv : v < 16) (y2 : Int32) : ∀ (r h n : Nat), h + r = dH d → r < n → BP Eq (f_X4_together_L14 σ n (nI v) y2 (nI h)) (f_X5_together_L35 τ n (nI v) (nI h)) := by
  have h6 := ok.1
  intro r
  induction r with
  | zero =>
    intro h n hh hn
    obtain ⟨n, rfl⟩ : ∃ z, n = z + 1 := ⟨n - 1, by omega⟩
    rw [f_X4_together_L14, f_X5_together_L35, hx.1, hm.1, if_pos (by rw [le_nI (by omega) (by omega)]; omega), if_pos (by rw [le_nI (by omega) (by omega)]; omega)]
    exact BP.ret rfl
  | succ r ih =>
    intro h n hh hn
    obtain ⟨n, rfl⟩ : ∃ z, n = z + 1 := ⟨n - 1, by omega⟩
    rw [f_X4_together_L14, f_X5_together_L35, hx.1, hm.1, if_neg (by rw [le_nI (by omega) (by omega)]; omega), if_neg (by rw [le_nI (by omega) (by omega)]; omega), X_coldSwr hx ok (by omega), M_whoCold hm ok (by omega), ob1_some, ob1_some, nI_1]
    exact BP.ite2 (tog_num _ (sN_le16 _ ok.2.1) v hv) (fun _ => BP.ret rfl) (fun _ => ih (h + 1) n (by omega) (by omega))
theorem Sim_together_ok : Sim_together Rel := by
  intro σ τ hR x1
  obtain ⟨d, e, q, tr, ft, ⟨ok, h0⟩, hx, hm, -⟩ := hR
  have h6 := ok.1
  refine BP.roR ?_
  unfold f_X4_together f_X5_together
  refine bp_refuse ok h0 hx hm x1 (k' := fun _ => f_X5_together_L35 τ 100 x1 0) (fun r hr => by rw [if_neg hr]) (fun v hv e1 _ => ?_)
  rw [if_pos rfl, e1]
  exact togL ok hx hm hv 0 (dH d) 0 100 (by omega) (by omega)
theorem coatedL {d : DV} {σ τ : SX} (ok : dOk d) (hx : DX 10 σ d) (hm : DM τ d) {v : Nat} (hv : v < 16) (y2 : Int32) : ∀ (r s n : Nat), s + r = dS d → r < n → BP Eq (f_X4_coated_L14 σ n (nI v) y2 (nI s)) (f_X5_coated_L35 τ n (nI v) (nI s)) := by
  have h4 := ok.2.1
  intro r
  induction r with
  | zero =>
    intro h n hh hn
    obtain ⟨n, rfl⟩ : ∃ z, n = z + 1 := ⟨n - 1, by omega⟩
    rw [f_X4_coated_L14, f_X5_coated_L35, hx.2.1, hm.2.1, if_pos (by rw [le_nI (by omega) (by omega)]; omega), if_pos (by rw [le_nI (by omega) (by omega)]; omega)]
    exact BP.ret rfl
  | succ r ih =>
    intro h n hh hn
    obtain ⟨n, rfl⟩ : ∃ z, n = z + 1 := ⟨n - 1, by omega⟩
    rw [f_X4_coated_L14, f_X5_coated_L35, hx.2.1, hm.2.1, if_neg (by rw [le_nI (by omega) (by omega)]; omega), if_neg (by rw [le_nI (by omega) (by omega)]; omega), hasBit_isOf h (by omega) v (by omega), nI_1, X_coldHours hx ok (by omega), M_coldHours hm ok (by omega)]
    have hb : BP Eq (f_X4_hasBit (nI v) (nI h)) (f_X4_hasBit (nI v) (nI h)) := by
      unfold f_X4_hasBit
      exact BP.ite (fun _ => BP.ret rfl) (fun _ => BP.ret rfl)
    refine BP.ob1 hb (fun z z' hz => ?_)
    cases hz
    refine BP.ite (fun _ => ih (h + 1) n (by omega) (by omega)) (fun _ => ?_)
    rw [ob1_some, ob1_some]
    exact BP.ite (fun _ => BP.ret rfl) (fun _ => ih (h + 1) n (by omega) (by omega))
theorem Sim_coated_ok : Sim_coated Rel := by
  intro σ τ hR x1
  obtain ⟨d, e, q, tr, ft, ⟨ok, h0⟩, hx, hm, -⟩ := hR
  have h6 := ok.2.1
  refine BP.roR ?_
  unfold f_X4_coated f_X5_coated
  refine bp_refuse ok h0 hx hm x1 (k' := fun _ => f_X5_coated_L35 τ 100 x1 0) (fun r hr => by rw [if_neg hr]) (fun v hv e1 _ => ?_)
  rw [if_pos rfl, e1]
  exact coatedL ok hx hm hv 0 (dS d) 0 100 (by omega) (by omega)
/-- odds: powers -/
def lpow (b : Int64) : Nat → Int64
  | 0 => 1
  | n + 1 => lpow b n * b
theorem oddsXL (σ : SX) (y1 y3 y4 : Int32) (b : Int64) {N : Nat} (hN : N ≤ 8) : ∀ (r k n : Nat), k + r = N → r < n → f_X4_odds_L88 σ n y1 (nI N) y3 y4 b (lpow b k) (nI k) = some (lpow b N) := by
  intro r
  induction r with
  | zero =>
    intro k n hk hn
    obtain ⟨n, rfl⟩ : ∃ z, n = z + 1 := ⟨n - 1, by omega⟩
    rw [f_X4_odds_L88, if_pos (by rw [le_nI (by omega) (by omega)]; omega), show k = N by omega]
  | succ r ih =>
    intro k n hk hn
    obtain ⟨n, rfl⟩ : ∃ z, n = z + 1 := ⟨n - 1, by omega⟩
    rw [f_X4_odds_L88, if_neg (by rw [le_nI (by omega) (by omega)]; omega), nI_1]
    exact ih (k + 1) n (by omega) (by omega)
theorem oddsML {d : DV} {τ : SX} (ok : dOk d) (hm : DM τ d) {s : Nat} (hs : s < dS d) (y3 : Int32) {N : Nat} (hN : N ≤ 8) : ∀ (r k n : Nat), k + r = N → r < n → f_X5_odds_L40 τ n (nI s) (nI N) y3 (lpow (nI (pop (sN (cold d s) (dH d)))).toInt64 k) (lpow (nI (dH d)).toInt64 k) (nI k) = f_X5_inLeastTerms (lpow (nI (pop (sN (cold d s) (dH d)))).toInt64 N) (lpow (nI (dH d)).toInt64 N) y3 := by
  intro r
  induction r with
  | zero =>
    intro k n hk hn
    obtain ⟨n, rfl⟩ : ∃ z, n = z + 1 := ⟨n - 1, by omega⟩
    rw [f_X5_odds_L40, if_pos (by rw [le_nI (by omega) (by omega)]; omega), show k = N by omega]
    cases f_X5_inLeastTerms (lpow (nI (pop (sN (cold d s) (dH d)))).toInt64 N) (lpow (nI (dH d)).toInt64 N) y3 <;> rfl
  | succ r ih =>
    intro k n hk hn
    obtain ⟨n, rfl⟩ : ∃ z, n = z + 1 := ⟨n - 1, by omega⟩
    rw [f_X5_odds_L40, if_neg (by rw [le_nI (by omega) (by omega)]; omega), nI_1, M_coldHours hm ok hs, ob1_some, size_ok _ (sN_le64 _ ok.1), ob1_some, hm.1]
    exact ih (k + 1) n (by omega) (by omega)
theorem lpow0 (b : Int64) : lpow b 0 = 1 := rfl
theorem oddsX0 (σ : SX) (y1 y3 y4 : Int32) (b : Int64) {N : Nat} (hN : N ≤ 8) : f_X4_odds_L88 σ 100 y1 (nI N) y3 y4 b 1 0 = some (lpow b N) := by
  have h := oddsXL σ y1 y3 y4 b hN N 0 100 (by omega) (by omega)
  rw [lpow0, nI_0] at h
  exact h
theorem oddsM0 {d : DV} {τ : SX} (ok : dOk d) (hm : DM τ d) {s : Nat} (hs : s < dS d) (y3 : Int32) {N : Nat} (hN : N ≤ 8) : f_X5_odds_L40 τ 100 (nI s) (nI N) y3 1 1 0 = f_X5_inLeastTerms (lpow (nI (pop (sN (cold d s) (dH d)))).toInt64 N) (lpow (nI (dH d)).toInt64 N) y3 := by
  have h := oddsML ok hm hs y3 hN N 0 100 (by omega) (by omega)
  rw [lpow0, lpow0, nI_0] at h
  exact h
set_option maxRecDepth 100000 in
set_option maxHeartbeats 4000000 in
theorem odds_num1 : ∀ h, h < 7 → ∀ c, c < 7 → ∀ n, n < 9 → (0 < h → (decide (ob1 (f_X4_lessened (nI c) (nI h)) (fun r => some (lpow r.toInt64 n)) = f_X5_inLeastTerms (lpow (nI c).toInt64 n) (lpow (nI h).toInt64 n) 0) && (f_X5_inLeastTerms (lpow (nI c).toInt64 n) (lpow (nI h).toInt64 n) 0).isSome) = true) := by decide +kernel
set_option maxRecDepth 100000 in
set_option maxHeartbeats 4000000 in
theorem odds_num2 : ∀ h, h < 7 → ∀ c, c < 7 → ∀ n, n < 9 → (0 < h → (decide (ob1 (f_X4_lessened (nI h) (nI c)) (fun r => some (lpow r.toInt64 n)) = f_X5_inLeastTerms (lpow (nI c).toInt64 n) (lpow (nI h).toInt64 n) 1) && (f_X5_inLeastTerms (lpow (nI c).toInt64 n) (lpow (nI h).toInt64 n) 1).isSome) = true) := by decide +kernel
theorem isSome_ne {α : Type} {a : Option α} (h : a.isSome = true) : a ≠ none := fun e => by rw [e] at h; cases h
theorem odds_num (h : Nat) (hh : h < 7) (h0 : 0 < h) (c : Nat) (hc : c < 7) (n : Nat) (hn : n < 9) : (ob1 (f_X4_lessened (nI c) (nI h)) (fun r => some (lpow r.toInt64 n)) = f_X5_inLeastTerms (lpow (nI c).toInt64 n) (lpow (nI h).toInt64 n) 0 ∧ f_X5_inLeastTerms (lpow (nI c).toInt64 n) (lpow (nI h).toInt64 n) 0 ≠ none) ∧ (ob1 (f_X4_lessened (nI h) (nI c)) (fun r => some (lpow r.toInt64 n)) = f_X5_inLeastTerms (lpow (nI c).toInt64 n) (lpow (nI h).toInt64 n) 1 ∧ f_X5_inLeastTerms (lpow (nI c).toInt64 n) (lpow (nI h).toInt64 n) 1 ≠ none) := by
  have a := odds_num1 h hh c hc n hn h0
  have b := odds_num2 h hh c hc n hn h0
  rw [Bool.and_eq_true, decide_eq_true_eq] at a b
  exact ⟨⟨a.1, isSome_ne a.2⟩, b.1, isSome_ne b.2⟩
theorem bp_eq {α : Type} {a b : Option α} (e : a = b) (h : b ≠ none) : BP Eq a b := by
  cases b with
  | none => exact absurd rfl h
  | some z => exact ⟨z, z, e, rfl, rfl⟩
theorem Sim_odds_ok : Sim_odds Rel := by
  intro σ τ hR x1 x2 x3
  obtain ⟨d, e, q, tr, ft, ⟨ok, h0⟩, hx, hm, -⟩ := hR
  have h6 := ok.1
  have h4 := ok.2.1
  refine BP.roR ?_
  unfold f_X4_odds f_X5_odds
  refine bp_swr ok hx hm (BP.ret rfl) (fun s hs e1 => ?_)
  have hH : 0 < dH d := by
    rcases Nat.eq_zero_or_pos (dH d) with z | z
    · have := h0.mp z; omega
    · exact z
  rw [if_neg one0, if_neg one0]
  unfold f_X5_within
  rcases ix3 x2 9 (by decide) with c | ⟨c, c2⟩ | ⟨n, hn, e2⟩
  · rw [if_pos c, if_pos c]; exact BP.ret rfl
  · have c3 : (8 : Int32) < x2 := by
      rw [Int32.le_iff_toInt_le, nI_toInt (by decide)] at c2
      rw [Int32.lt_iff_toInt_lt]
      have a1 : (8 : Int32).toInt = 8 := by decide
      omega
    rw [if_neg c, if_neg c, if_pos c3, if_pos c3]; exact BP.ret rfl
  · rw [e2, if_neg (nI_nneg (by omega)), if_neg (nI_nneg (by omega)), if_neg (show ¬ (8 : Int32) < nI n from fun z => by have := (nI_ltI (a := 8) (by decide) (by omega)).mp z; omega), if_neg (show ¬ (8 : Int32) < nI n from fun z => by have := (nI_ltI (a := 8) (by decide) (by omega)).mp z; omega), ob1_some, if_neg one0]
    rcases ix3 x3 2 (by decide) with c | ⟨c, c2⟩ | ⟨w, hw, e3⟩
    · rw [if_pos c, if_pos c]; exact BP.ret rfl
    · have c3 : (1 : Int32) < x3 := by
        rw [Int32.le_iff_toInt_le, nI_toInt (by decide)] at c2
        rw [Int32.lt_iff_toInt_lt]
        have a1 : (1 : Int32).toInt = 1 := by decide
        omega
      rw [if_neg c, if_neg c, if_neg (Int32.not_le.mpr c3), if_pos c3]; exact BP.ret rfl
    · rw [e3, e1, if_neg (nI_nneg (by omega)), if_neg (nI_nneg (by omega)), if_pos (show nI w ≤ (1 : Int32) from (nI_leI (b := 1) (by omega) (by decide)).mpr (by omega)), if_neg (show ¬ (1 : Int32) < nI w from fun z => by have := (nI_ltI (a := 1) (by decide) (by omega)).mp z; omega), ob1_some, if_neg one0, X_coldHours hx ok hs, ob1_some, bitCount_ok _ (sN_le64 _ ok.1), ob1_some, hx.1]
      rw [oddsM0 ok hm hs (nI w) (N := n) (by omega)]
      have hp := pop_le (sN (cold d s) (dH d))
      have hnum := odds_num (dH d) (by omega) hH (pop (sN (cold d s) (dH d))) (by omega) n (by omega)
      generalize pop (sN (cold d s) (dH d)) = pc at *
      rcases (show w = 0 ∨ w = 1 by omega) with rfl | rfl
      · rw [if_pos (show nI 0 = (0 : Int32) from rfl)]
        refine bp_eq ?_ hnum.1.2
        rw [show (nI 0 : Int32) = 0 from rfl, ← hnum.1.1]
        cases f_X4_lessened (nI pc) (nI (dH d)) with
        | none => rfl
        | some r => exact oddsX0 σ (nI s) 0 (nI pc) r.toInt64 (by omega)
      · rw [if_neg (show ¬ nI 1 = (0 : Int32) by decide)]
        refine bp_eq ?_ hnum.2.2
        rw [show (nI 1 : Int32) = 1 from rfl, ← hnum.2.1]
        cases f_X4_lessened (nI (dH d)) (nI pc) with
        | none => rfl
        | some r => exact oddsX0 σ (nI s) 1 (nI pc) r.toInt64 (by omega)
