/-! ===== a new row, copies ===== -/
theorem fillL {b1 : Nat} : ∀ (r i n : Nat) (σ : SX), i + r = 60 → r < n → ∃ σ', f_J7_fill_53178_L5 b1 n σ 0 (nI i) 60 = some ((), σ') ∧ (∀ c k, gF σ' c k = gF σ c k) ∧ (∀ c, c ≠ b1 + 1 → gR σ' c = gR σ c) ∧ (∀ j, j < 60 → gR σ' (b1 + 1) j = if i ≤ j then 0 else gR σ (b1 + 1) j) := by
  intro r
  induction r with
  | zero =>
    intro i n σ hi hn
    obtain ⟨n, rfl⟩ : ∃ z, n = z + 1 := ⟨n - 1, by omega⟩
    have : i = 60 := by omega
    subst this
    rw [f_J7_fill_53178_L5, if_pos (show (60 : Int32) ≤ nI 60 by decide)]
    exact ⟨σ, rfl, fun _ _ => rfl, fun _ _ => rfl, fun j hj => by rw [if_neg (by omega)]⟩
  | succ r ih =>
    intro i n σ hi hn
    obtain ⟨n, rfl⟩ : ∃ z, n = z + 1 := ⟨n - 1, by omega⟩
    rw [f_J7_fill_53178_L5, if_neg (show ¬ (60 : Int32) ≤ nI i from fun z => by have := (nI_leI (a := 60) (by decide) (by omega)).mp z; omega), oin_nI _ (by omega) (by decide), cl i (by omega), nI_1]
    obtain ⟨σ', g1, g2, g3, g4⟩ := ih (i + 1) n (sR σ (b1 + 1) (upd (gR σ (b1 + 1)) i 0)) (by omega) (by omega)
    refine ⟨σ', g1, fun c k => g2 c k, fun c hc => ?_, fun j hj => ?_⟩
    · rw [g3 c hc, gR_sR, if_neg hc]
    · rw [g4 j hj, gR_sR, if_pos rfl, upd_at]
      by_cases c : i + 1 ≤ j
      · rw [if_pos c, if_pos (by omega)]
      · rw [if_neg c]
        by_cases c2 : j = i
        · rw [if_pos c2, if_pos (by omega)]
        · rw [if_neg c2, if_neg (by omega)]
theorem sheetL {k : Nat} (hk : k < 4) (y2 y3 : Int32) : ∀ (r i n : Nat) (τ : SX), i + r = 60 → r < n → ∃ τ', f_X5_sheet_L57 n τ (nI k) y2 y3 (nI i) = some (1, τ') ∧ (∀ c j, gF τ' c j = gF τ c j) ∧ (∀ c, c ≠ 3 → gR τ' c = gR τ c) ∧ (∀ j, gR τ' 3 j = if 60 * k + i ≤ j ∧ j < 60 * k + 60 then 0 else gR τ 3 j) := by
  intro r
  induction r with
  | zero =>
    intro i n τ hi hn
    obtain ⟨n, rfl⟩ : ∃ z, n = z + 1 := ⟨n - 1, by omega⟩
    have : i = 60 := by omega
    subst this
    rw [f_X5_sheet_L57, if_pos (show (60 : Int32) ≤ nI 60 by decide)]
    exact ⟨τ, rfl, fun _ _ => rfl, fun _ _ => rfl, fun j => by rw [if_neg (by omega)]⟩
  | succ r ih =>
    intro i n τ hi hn
    obtain ⟨n, rfl⟩ : ∃ z, n = z + 1 := ⟨n - 1, by omega⟩
    rw [f_X5_sheet_L57, if_neg (show ¬ (60 : Int32) ≤ nI i from fun z => by have := (nI_leI (a := 60) (by decide) (by omega)).mp z; omega), idx60, oin_nI _ (by omega) (by decide), cl (60 * k + i) (by omega), nI_1]
    obtain ⟨τ', g1, g2, g3, g4⟩ := ih (i + 1) n (sR τ 3 (upd (gR τ 3) (60 * k + i) 0)) (by omega) (by omega)
    refine ⟨τ', g1, fun c j => g2 c j, fun c hc => ?_, fun j => ?_⟩
    · rw [g3 c hc, gR_sR, if_neg hc]
    · rw [g4 j, gR_sR, if_pos rfl, upd_at]
      by_cases c : 60 * k + (i + 1) ≤ j ∧ j < 60 * k + 60
      · rw [if_pos c, if_pos (by omega)]
      · rw [if_neg c]
        by_cases c2 : j = 60 * k + i
        · rw [if_pos c2, if_pos (by omega)]
        · rw [if_neg c2, if_neg (by omega)]
theorem Sim_sheet_ok : Sim_sheet Rel := by
  intro σ τ hR x1 x2 x3
  obtain ⟨d, e, q, tr, ft, hA⟩ := hR
  have hA1 := hA.ft 0
  have hA0 := hA1
  obtain ⟨-, -, -, -, ⟨qo, qx, qm⟩, -⟩ := hA1
  refine BP.rwR ?_
  unfold f_X4_sheet f_X5_sheet
  refine bp_sheet (BP.ret ⟨rfl, hA0.rel⟩) (fun k hk e1 => ?_)
  rw [if_neg one0, if_neg one0]
  refine bp_lane (BP.ret ⟨rfl, hA0.rel⟩) (fun la hla e2 => ?_)
  rw [if_neg one0, if_neg one0]
  refine BP.ite (fun c1 => BP.ite (fun c2 => ?_) (fun _ => BP.ret ⟨rfl, (hA0.ft 4).rel⟩)) (fun _ => BP.ret ⟨rfl, hA0.rel⟩)
  obtain ⟨n, hn, e3⟩ : ∃ n, n ≤ 60 ∧ x3 = nI n := by
    rcases ix3 x3 61 (by decide) with c | ⟨c, c3⟩ | ⟨j, hj, ej⟩
    · exact absurd c (Int32.not_lt.mpr c2)
    · rw [Int32.le_iff_toInt_le, nI_toInt (by decide)] at c3
      rw [Int32.le_iff_toInt_le] at c1
      have : (60 : Int32).toInt = 60 := by decide
      omega
    · exact ⟨j, by omega, ej⟩
  rw [e1, e2, e3, oin_nI _ hk (by decide), oin_nI _ hk (by decide), oin_nI _ hk (by decide), cl k (by omega)]
  unfold f_X3_renew f_J7_fill_53178
  generalize hs1 : sF σ 0 6 0 = σ1 at *
  generalize ht1 : sF τ 0 0 0 = τ1 at *
  obtain ⟨σ', g1, g2, g3, g4⟩ := fillL (b1 := 2 + 2 * k) 60 0 100 (sF (sF (sF σ1 (2 + 2 * k) 0 1) (2 + 2 * k) 1 (nI la)) (2 + 2 * k) 3 (nI n)) (by decide) (by decide)
  obtain ⟨τ', k1, k2, k3, k4⟩ := sheetL hk (nI la) (nI n) 60 0 100 (sR (sR τ1 1 (upd (gR τ1 1) k (nI la))) 2 (upd (gR (sR τ1 1 (upd (gR τ1 1) k (nI la))) 2) k (nI n))) (by decide) (by decide)
  rw [show (0 : Int32) = nI 0 from rfl] at g1 ⊢
  rw [g1, k1, ob2_some, ob2_some]
  refine BP.ret ⟨rfl, (hA0.sh (q' := (upO q.1 k (some (la, n)), fun a b => if a = k then 0 else q.2 a b)) (σ' := σ') (τ' := τ') (fun j hj z hz => ?_) (fun j hj => ⟨?_, fun i hi => ?_⟩) (fun j hj => ⟨?_, fun i hi => ?_⟩) (fun c j hc => ?_) (fun c hc => ?_) (fun j => ?_) (fun c hc => ?_)).rel⟩
  · have hz : upO q.1 k (some (la, n)) j = some z := hz
    rw [upO_at] at hz
    by_cases c : j = k
    · rw [if_pos c] at hz; cases hz; exact ⟨hla, hn⟩
    · rw [if_neg c] at hz; exact qo j hj z hz
  · show shX _ _ _ (upO q.1 k (some (la, n)) j)
    rw [upO_at, g2, g2, g2]
    simp only [gF_sF]
    by_cases c : j = k
    · subst c
      simp only [if_pos, and_self, and_true, true_and, ↓reduceIte, show ¬ (0 : Nat) = 3 by decide, show ¬ (0 : Nat) = 1 by decide, show ¬ (1 : Nat) = 3 by decide, and_false]
      exact ⟨rfl, rfl, rfl⟩
    · rw [if_neg c]
      have c' : ¬ 2 + 2 * j = 2 + 2 * k := by omega
      simp only [c', false_and, ↓reduceIte]
      exact (qx j hj).1
  · show _ = if j = k then 0 else q.2 j i
    by_cases c : j = k
    · subst c
      rw [g4 i hi, if_pos (Nat.zero_le _), if_pos rfl]
    · rw [g3 _ (by omega), if_neg c]; exact (qx j hj).2 i hi
  · show shM _ _ (upO q.1 k (some (la, n)) j)
    rw [upO_at, k3 1 (by decide), k3 2 (by decide)]
    simp only [gR_sR, show ¬ (1 : Nat) = 2 by decide, show ¬ (2 : Nat) = 1 by decide, ↓reduceIte, upd_at]
    by_cases c : j = k
    · simp only [if_pos c]; exact ⟨rfl, rfl⟩
    · simp only [if_neg c]; exact (qm j hj).1
  · show _ = if j = k then 0 else q.2 j i
    rw [k4]
    by_cases c : j = k
    · rw [if_pos (by omega), if_pos c]
    · rw [if_neg (by omega), if_neg c]
      exact (qm j hj).2 i hi
  · rw [g2]
    simp only [gF_sF]
    rw [if_neg (by omega), if_neg (by omega), if_neg (by omega)]
  · rw [g3 _ (by omega)]; rfl
  · rw [k2]; rfl
  · rw [k3 _ (by omega), gR_sR, if_neg (show ¬ c = 2 by omega), gR_sR, if_neg (show ¬ c = 1 by omega)]
/-- the reference's copying loop, forwards -/
theorem copyF {k o a b m : Nat} (hk : k < 4) (ho : o < 4) (ha : a + m ≤ 60) (hb : b + m ≤ 60) (y6 : Int32) (old : Nat → Int32) (safe : ∀ t, t < m → ¬ (60 * o + b ≤ 60 * k + a + t ∧ 60 * k + a + t < 60 * o + b + t)) : ∀ (r t n : Nat) (τ : SX), t + r = m → r < n → (∀ j, gR τ 3 j = va_cpy old old (60 * k + a) (60 * o + b) t j) → ∃ τ', f_X5_copy_L166 n τ (nI k) (nI a) (nI o) (nI b) (nI m) y6 0 (nI t) = some (nI m, τ') ∧ (∀ c j, gF τ' c j = gF τ c j) ∧ (∀ c, c ≠ 3 → gR τ' c = gR τ c) ∧ (∀ j, gR τ' 3 j = va_cpy old old (60 * k + a) (60 * o + b) m j) := by
  intro r
  induction r with
  | zero =>
    intro t n τ ht hn hg
    obtain ⟨n, rfl⟩ : ∃ z, n = z + 1 := ⟨n - 1, by omega⟩
    have : t = m := by omega
    subst this
    rw [f_X5_copy_L166, if_pos (by rw [le_nI (by omega) (by omega)]; omega)]
    exact ⟨τ, rfl, fun _ _ => rfl, fun _ _ => rfl, hg⟩
  | succ r ih =>
    intro t n τ ht hn hg
    obtain ⟨n, rfl⟩ : ∃ z, n = z + 1 := ⟨n - 1, by omega⟩
    rw [f_X5_copy_L166, if_neg (by rw [le_nI (by omega) (by omega)]; omega), if_pos rfl, idx60, idx60, nI_add, nI_add, oin_nI _ (by omega) (by decide), oin_nI _ (by omega) (by decide), cl _ (by omega), cl _ (by omega), nI_1]
    obtain ⟨τ', g1, g2, g3, g4⟩ := ih (t + 1) n (sR τ 3 (upd (gR τ 3) (60 * o + b + t) (gR τ 3 (60 * k + a + t)))) (by omega) (by omega) (fun j => by
      rw [gR_sR, if_pos rfl, upd_at, hg, hg]
      unfold va_cpy
      have hs := safe t (by omega)
      by_cases c : j = 60 * o + b + t
      · rw [if_pos c, if_neg hs, if_pos (by omega)]
        congr 1
        omega
      · rw [if_neg c]
        by_cases c2 : 60 * o + b ≤ j ∧ j < 60 * o + b + t
        · rw [if_pos c2, if_pos (by omega)]
        · rw [if_neg c2, if_neg (by omega)])
    refine ⟨τ', g1, fun c j => g2 c j, fun c hc => ?_, g4⟩
    rw [g3 c hc, gR_sR, if_neg hc]
/-- .. and backwards -/
def cpyB (f : Nat → Int32) (A B m t : Nat) : Nat → Int32 := fun j => if B + m - t ≤ j ∧ j < B + m then f (A + (j - B)) else f j
theorem copyB {k o a b m : Nat} (hk : k < 4) (ho : o < 4) (ha : a + m ≤ 60) (hb : b + m ≤ 60) (y6 : Int32) (old : Nat → Int32) (safe : ∀ t, t < m → ¬ (60 * o + b + m - t ≤ 60 * k + a + (m - 1 - t) ∧ 60 * k + a + (m - 1 - t) < 60 * o + b + m)) : ∀ (r t n : Nat) (τ : SX), t + r = m → r < n → (∀ j, gR τ 3 j = cpyB old (60 * k + a) (60 * o + b) m t j) → ∃ τ', f_X5_copy_L166 n τ (nI k) (nI a) (nI o) (nI b) (nI m) y6 1 (nI t) = some (nI m, τ') ∧ (∀ c j, gF τ' c j = gF τ c j) ∧ (∀ c, c ≠ 3 → gR τ' c = gR τ c) ∧ (∀ j, gR τ' 3 j = va_cpy old old (60 * k + a) (60 * o + b) m j) := by
  intro r
  induction r with
  | zero =>
    intro t n τ ht hn hg
    obtain ⟨n, rfl⟩ : ∃ z, n = z + 1 := ⟨n - 1, by omega⟩
    have : t = m := by omega
    subst this
    rw [f_X5_copy_L166, if_pos (by rw [le_nI (by omega) (by omega)]; omega)]
    refine ⟨τ, rfl, fun _ _ => rfl, fun _ _ => rfl, fun j => ?_⟩
    rw [hg]
    unfold cpyB va_cpy
    by_cases c : 60 * o + b ≤ j ∧ j < 60 * o + b + t
    · rw [if_pos c, if_pos (by omega)]
    · rw [if_neg c, if_neg (by omega)]
  | succ r ih =>
    intro t n τ ht hn hg
    obtain ⟨n, rfl⟩ : ∃ z, n = z + 1 := ⟨n - 1, by omega⟩
    rw [f_X5_copy_L166, if_neg (by rw [le_nI (by omega) (by omega)]; omega), if_neg one0, nI_pred1 (show 0 < m by omega), pk_sub (show t ≤ m - 1 by omega), idx60, idx60, nI_add, nI_add, oin_nI _ (by omega) (by decide), oin_nI _ (by omega) (by decide), cl _ (by omega), cl _ (by omega), nI_1]
    obtain ⟨τ', g1, g2, g3, g4⟩ := ih (t + 1) n (sR τ 3 (upd (gR τ 3) (60 * o + b + (m - 1 - t)) (gR τ 3 (60 * k + a + (m - 1 - t))))) (by omega) (by omega) (fun j => by
      rw [gR_sR, if_pos rfl, upd_at, hg, hg]
      unfold cpyB
      have hs := safe t (by omega)
      by_cases c : j = 60 * o + b + (m - 1 - t)
      · rw [if_pos c, if_neg hs, if_pos (by omega)]
        congr 1
        omega
      · rw [if_neg c]
        by_cases c2 : 60 * o + b + m - t ≤ j ∧ j < 60 * o + b + m
        · rw [if_pos c2, if_pos (by omega)]
        · rw [if_neg c2, if_neg (by omega)])
    refine ⟨τ', g1, fun c j => g2 c j, fun c hc => ?_, g4⟩
    rw [g3 c hc, gR_sR, if_neg hc]
theorem sub_lt_iff {n a : Nat} (hn : n ≤ 60) (ha : a ≤ n) (x : Int32) : (nI n - nI a < x) ↔ ((n : Int) - a < x.toInt) := by
  rw [pk_sub ha, Int32.lt_iff_toInt_lt, nI_toInt (by omega)]
  omega
theorem X_cells_ok {σ : SX} {c n a m : Nat} (h : gF σ c 3 = nI n) (hn : n ≤ 60) (hm : a + m ≤ n) : f_X3_hasCells σ c (nI a) (nI m) = some 1 := by
  unfold f_X3_hasCells
  rw [h, if_neg (nI_nneg (by omega)), if_neg (by rw [lt_nI (by omega) (by omega)]; omega), if_neg (nI_nneg (by omega)), if_neg (by rw [sub_lt_iff hn (by omega), nI_toInt (by omega)]; omega)]
/-- n cells from i on: there, or not -/
theorem cells_cases {n : Nat} (hn : n ≤ 60) (x y : Int32) : (∃ a m, a + m ≤ n ∧ x = nI a ∧ y = nI m) ∨ (x < 0 ∨ (¬ x < 0 ∧ nI n < x) ∨ (∃ a, a ≤ n ∧ x = nI a ∧ (y < 0 ∨ (¬ y < 0 ∧ nI n - nI a < y)))) := by
  rcases ix3 x (n + 1) (by omega) with c | ⟨c, c2⟩ | ⟨a, ha, ea⟩
  · exact Or.inr (Or.inl c)
  · refine Or.inr (Or.inr (Or.inl ⟨c, ?_⟩))
    rw [Int32.le_iff_toInt_le, nI_toInt (by omega)] at c2
    rw [Int32.lt_iff_toInt_lt, nI_toInt (by omega)]; omega
  · rcases ix3 y (n - a + 1) (by omega) with c | ⟨c, c2⟩ | ⟨m, hm, em⟩
    · exact Or.inr (Or.inr (Or.inr ⟨a, by omega, ea, Or.inl c⟩))
    · refine Or.inr (Or.inr (Or.inr ⟨a, by omega, ea, Or.inr ⟨c, ?_⟩⟩))
      rw [Int32.le_iff_toInt_le, nI_toInt (by omega)] at c2
      rw [sub_lt_iff hn (by omega)]; omega
    · exact Or.inl ⟨a, m, by omega, ea, em⟩
theorem X_cells_bad {σ : SX} {c n : Nat} (h : gF σ c 3 = nI n) (hn : n ≤ 60) {x y : Int32} (hb : x < 0 ∨ (¬ x < 0 ∧ nI n < x) ∨ (∃ a, a ≤ n ∧ x = nI a ∧ (y < 0 ∨ (¬ y < 0 ∧ nI n - nI a < y)))) : f_X3_hasCells σ c x y = some 0 := by
  unfold f_X3_hasCells
  rw [h]
  rcases hb with c1 | ⟨c1, c2⟩ | ⟨a, ha, ea, c3 | ⟨c3, c4⟩⟩
  · rw [if_pos c1]
  · rw [if_neg c1, if_pos c2]
  · rw [ea, if_neg (nI_nneg (by omega)), if_neg (by rw [lt_nI (by omega) (by omega)]; omega), if_pos c3]
  · rw [ea, if_neg (nI_nneg (by omega)), if_neg (by rw [lt_nI (by omega) (by omega)]; omega), if_neg c3, if_pos c4]
def cpC (f : Nat → Nat → Int32) (k a o b m : Nat) : Nat → Nat → Int32 := fun x i => if x = o ∧ b ≤ i ∧ i < b + m then f k (a + (i - b)) else f x i
theorem copy_rel {d : DV} {e : RD} {q : SHT} {tr ft : Int32} {σ τ τ' : SX} (hA : RelA d e q tr ft σ τ) {k o a b m : Nat} (hk : k < 4) (ho : o < 4) (ha : a + m ≤ 60) (hb : b + m ≤ 60) (hF : ∀ c j, gF τ' c j = gF τ c j) (hR : ∀ c, c ≠ 3 → gR τ' c = gR τ c) (h3 : ∀ j, gR τ' 3 j = va_cpy (gR τ 3) (gR τ 3) (60 * k + a) (60 * o + b) m j) : RelA d e (q.1, cpC q.2 k a o b m) tr ft (sR σ (2 + 2 * o + 1) (va_cpy (gR σ (2 + 2 * k + 1)) (gR σ (2 + 2 * o + 1)) a b m)) τ' := by
  have hA0 := hA
  obtain ⟨-, -, -, -, ⟨qo, qx, qm⟩, -⟩ := hA
  refine hA0.sh qo (fun j hj => ⟨(qx j hj).1, fun i hi => ?_⟩) (fun j hj => ⟨?_, fun i hi => ?_⟩) (fun _ _ _ => rfl) (fun c hc => ?_) (fun j => hF 0 j) (fun c hc => hR c (by omega))
  · show _ = cpC q.2 k a o b m j i
    unfold cpC
    rw [gR_sR]
    by_cases c : j = o
    · rw [if_pos (by omega)]
      unfold va_cpy
      by_cases c2 : b ≤ i ∧ i < b + m
      · rw [if_pos c2, if_pos ⟨c, c2⟩]; exact (qx k hk).2 _ (by omega)
      · rw [if_neg c2, if_neg (fun z => c2 z.2), ← c]; exact (qx j hj).2 i hi
    · rw [if_neg (by omega), if_neg (fun z => c z.1)]; exact (qx j hj).2 i hi
  · rw [hR 1 (by decide), hR 2 (by decide)]; exact (qm j hj).1
  · show _ = cpC q.2 k a o b m j i
    unfold cpC
    rw [h3]
    unfold va_cpy
    by_cases c : j = o ∧ b ≤ i ∧ i < b + m
    · rw [if_pos (by omega), if_pos c, ← (qm k hk).2 (a + (i - b)) (by omega)]
      congr 1
      omega
    · rw [if_neg (by omega), if_neg c]; exact (qm j hj).2 i hi
  · rw [gR_sR, if_neg (by omega)]
theorem Sim_copy_ok : Sim_copy Rel := by
  intro σ τ hR x1 x2 x3 x4 x5
  obtain ⟨d, e, q, tr, ft, hA⟩ := hR
  have hA1 := hA.ft 0
  have hA0 := hA1
  obtain ⟨-, -, -, -, ⟨qo, qx, qm⟩, -⟩ := hA1
  refine BP.rwR ?_
  unfold f_X4_copy f_X5_copy
  refine bp_sheet (BP.ret ⟨rfl, hA0.rel⟩) (fun k hk e1 => ?_)
  rw [if_neg one0, if_neg one0]
  refine bp_sheet (BP.ret ⟨rfl, hA0.rel⟩) (fun o ho e3 => ?_)
  have o1 : ∀ z : Option (Int32 × SX), oin (nI k) 4 z = z := fun z => oin_nI z hk (by decide)
  have o2 : ∀ z : Option (Int32 × SX), oin (nI o) 4 z = z := fun z => oin_nI z ho (by decide)
  rw [if_neg one0, if_neg one0, e1, e3]
  simp only [o1, o2, cl k (by omega), cl o (by omega)]
  generalize hs1 : sF σ 0 6 0 = σ1 at *
  generalize ht1 : sF τ 0 0 0 = τ1 at *
  have kx := (qx k hk).1
  have km := (qm k hk).1
  have ox := (qx o ho).1
  have om := (qm o ho).1
  cases hq : q.1 k with
  | none =>
    rw [hq] at kx km
    rw [show gF σ1 (2 + 2 * k) 0 = 0 from kx, show gR τ1 1 k = -9 from km, if_pos rfl, if_pos rfl]
    exact BP.ret ⟨rfl, (hA0.ft 1).rel⟩
  | some z =>
    rw [hq] at kx km
    obtain ⟨hz1, hz2⟩ := qo k hk z hq
    rw [kx.1, km.1, km.2, if_neg one0, if_neg (neg9' z.1 (by omega))]
    cases hq2 : q.1 o with
    | none =>
      rw [hq2] at ox om
      rw [show gF σ1 (2 + 2 * o) 0 = 0 from ox, show gR τ1 1 o = -9 from om, if_pos rfl, if_pos rfl]
      exact BP.ret ⟨rfl, (hA0.ft 1).rel⟩
    | some w =>
      rw [hq2] at ox om
      obtain ⟨hw1, hw2⟩ := qo o ho w hq2
      rw [ox.1, om.1, om.2, if_neg one0, if_neg (neg9' w.1 (by omega)), kx.2.1, ox.2.1]
      refine BP.ite (fun _ => ?_) (fun _ => BP.ret ⟨rfl, (hA0.ft 2).rel⟩)
      have bad : BP (PR Rel) (ob2 (f_X4_failed σ1 3) (fun r_103 s_103 => some (r_103, s_103))) (ob2 (f_X5_fails τ1 3) (fun r_146 s_146 => some (r_146, s_146))) := BP.ret ⟨rfl, (hA0.ft 3).rel⟩
      rcases cells_cases hz2 x2 x5 with ⟨a, m, ham, ea, em⟩ | hbad
      · rw [ea, em, X_cells_ok kx.2.2 hz2 ham, ob1_some, if_neg one0]
        rcases cells_cases hw2 x4 (nI m) with ⟨b, m', hbm, eb, em'⟩ | hbad
        · have hmm : m' = m := ((nI_eq (by omega) (by omega)).mp em').symm
          subst hmm
          rw [eb, X_cells_ok ox.2.2 hw2 hbm, ob1_some, if_neg one0, oif_t _ ⟨nI_nneg (by omega), nI_nneg (by omega), nI_nneg (by omega), by rw [cl _ (by omega), cl _ (by omega)]; omega, by rw [cl _ (by omega), cl _ (by omega)]; omega⟩, cl a (by omega), cl b (by omega), cl m' (by omega)]
          rw [if_neg (nI_nneg (by omega)), if_neg (nI_nneg (by omega)), if_neg (nI_nneg (by omega)), if_neg (by rw [lt_nI (by omega) (by omega)]; omega), if_neg (by rw [lt_nI (by omega) (by omega)]; omega), if_neg (by rw [sub_lt_iff hz2 (by omega), nI_toInt (by omega)]; omega), if_pos (by rw [pk_sub (by omega), le_nI (by omega) (by omega)]; omega)]
          by_cases c : b ≤ a
          · rw [if_pos (by rw [le_nI (by omega) (by omega)]; exact c)]
            obtain ⟨τ', g1, g2, g3, g4⟩ := copyF hk ho (show a + m' ≤ 60 by omega) (show b + m' ≤ 60 by omega) 1 (gR τ1 3) (fun t ht => by omega) m' 0 100 τ1 (by omega) (by omega) (fun j => by unfold va_cpy; rw [if_neg (by omega)])
            rw [show (0 : Int32) = nI 0 from rfl] at g1 ⊢
            rw [g1]
            exact BP.ret ⟨rfl, (copy_rel hA0 hk ho (by omega) (by omega) g2 g3 g4).rel⟩
          · rw [if_neg (by rw [le_nI (by omega) (by omega)]; exact c)]
            obtain ⟨τ', g1, g2, g3, g4⟩ := copyB hk ho (show a + m' ≤ 60 by omega) (show b + m' ≤ 60 by omega) 1 (gR τ1 3) (fun t ht => by omega) m' 0 100 τ1 (by omega) (by omega) (fun j => by unfold cpyB; rw [if_neg (by omega)])
            rw [show (0 : Int32) = nI 0 from rfl, g1]
            exact BP.ret ⟨rfl, (copy_rel hA0 hk ho (by omega) (by omega) g2 g3 g4).rel⟩
        · rw [X_cells_bad ox.2.2 hw2 hbad, ob1_some, if_pos rfl, if_neg (nI_nneg (by omega))]
          rcases hbad with c1 | ⟨c1, c2⟩ | ⟨b, hb, eb, c3 | ⟨c3, c4⟩⟩
          · rw [if_pos c1]; exact bad
          · rw [if_neg c1, if_neg (nI_nneg (by omega)), if_neg (by rw [lt_nI (by omega) (by omega)]; omega), if_pos c2]; exact bad
          · exact absurd c3 (nI_nneg (by omega))
          · rw [eb, if_neg (nI_nneg (by omega)), if_neg (nI_nneg (by omega)), if_neg (by rw [lt_nI (by omega) (by omega)]; omega), if_neg (by rw [lt_nI (by omega) (by omega)]; omega), if_neg (by rw [sub_lt_iff hz2 (by omega), nI_toInt (by omega)]; omega), if_neg (Int32.not_le.mpr c4)]; exact bad
      · rw [X_cells_bad kx.2.2 hz2 hbad, ob1_some, if_pos rfl]
        rcases hbad with c1 | ⟨c1, c2⟩ | ⟨a, ha, ea, c3 | ⟨c3, c4⟩⟩
        · rw [if_pos c1]; exact bad
        · rw [if_neg c1]
          by_cases c5 : x4 < 0
          · rw [if_pos c5]; exact bad
          · rw [if_neg c5]
            by_cases c6 : x5 < 0
            · rw [if_pos c6]; exact bad
            · rw [if_neg c6, if_pos c2]; exact bad
        · rw [ea, if_neg (nI_nneg (by omega))]
          by_cases c5 : x4 < 0
          · rw [if_pos c5]; exact bad
          · rw [if_neg c5, if_pos c3]; exact bad
        · rw [ea, if_neg (nI_nneg (by omega))]
          by_cases c5 : x4 < 0
          · rw [if_pos c5]; exact bad
          · rw [if_neg c5, if_neg c3, if_neg (by rw [lt_nI (by omega) (by omega)]; omega)]
            by_cases c6 : nI w.2 < x4
            · rw [if_pos c6]; exact bad
            · rw [if_neg c6, if_pos c4]; exact bad
