/-! ===== the least to be let go ===== -/
theorem p64 {n : Nat} (h : n ≤ 6) : 2 ^ n ≤ 64 := by
  have : 2 ^ n ≤ 2 ^ 6 := Nat.pow_le_pow_right (by decide) h
  omega
def bestF (ok : Nat → Bool) : Nat → Nat → Nat → Nat
  | 0, _, b => b
  | k + 1, i, b => bestF ok k (i + 1) (if ok i && decide (pop i < pop b) then i else b)
def firstF (ok : Nat → Bool) (p B : Nat) : Nat → Nat → Nat
  | 0, _ => B
  | k + 1, i => if ok i && (pop i == p) then i else firstF ok p B k (i + 1)
def bInv (ok : Nat → Bool) (B i b : Nat) : Prop := (∀ j, j < i → ok j = true → pop b ≤ pop j) ∧ (b = B ∨ (b < i ∧ ok b = true ∧ ∀ j, j < b → ok j = true → pop b < pop j))
theorem bestF_inv (ok : Nat → Bool) (B : Nat) : ∀ k i b, bInv ok B i b → bInv ok B (i + k) (bestF ok k i b) := by
  intro k
  induction k with
  | zero => intro i b h; exact h
  | succ k ih =>
    intro i b h
    unfold bestF
    rw [show i + (k + 1) = i + 1 + k by omega]
    refine ih (i + 1) _ ?_
    obtain ⟨h1, h2⟩ := h
    by_cases c : (ok i && decide (pop i < pop b)) = true
    · rw [if_pos c]
      rw [Bool.and_eq_true, decide_eq_true_eq] at c
      refine ⟨fun j hj hk => ?_, Or.inr ⟨by omega, c.1, fun j hj hk => ?_⟩⟩
      · by_cases e : j = i
        · rw [e]; exact Nat.le_refl _
        · have := h1 j (by omega) hk; omega
      · have := h1 j hj hk; omega
    · rw [if_neg c]
      refine ⟨fun j hj hk => ?_, ?_⟩
      · by_cases e : j = i
        · rw [e] at hk ⊢
          rw [Bool.and_eq_true, decide_eq_true_eq] at c
          exact Nat.not_lt.mp (fun z => c ⟨hk, z⟩)
        · exact h1 j (by omega) hk
      · rcases h2 with h2 | ⟨a, b', c'⟩
        · exact Or.inl h2
        · exact Or.inr ⟨by omega, b', c'⟩
theorem firstF_at (ok : Nat → Bool) (p B m : Nat) (hm : ok m = true) (hp : pop m = p) : ∀ k i, i ≤ m → m < i + k → (∀ j, j < m → ok j = true → ¬ pop j = p) → firstF ok p B k i = m := by
  intro k
  induction k with
  | zero => intro i h1 h2; omega
  | succ k ih =>
    intro i h1 h2 h3
    unfold firstF
    by_cases e : i = m
    · rw [e, if_pos (by rw [hm, hp, beq_self_eq_true]; rfl)]
    · rw [if_neg]
      · exact ih (i + 1) (by omega) (by omega) h3
      · intro c
        rw [Bool.and_eq_true, beq_iff_eq] at c
        exact h3 i (by omega) c.1 c.2
theorem firstF_no (ok : Nat → Bool) (p B : Nat) : ∀ k i, (∀ j, j < i + k → ok j = true → pop j = p → j = B) → firstF ok p B k i = B := by
  intro k
  induction k with
  | zero => intros; rfl
  | succ k ih =>
    intro i h
    unfold firstF
    by_cases c : (ok i && (pop i == p)) = true
    · rw [if_pos c]
      rw [Bool.and_eq_true, beq_iff_eq] at c
      exact h i (by omega) c.1 c.2
    · rw [if_neg c]
      exact ih (i + 1) (fun j hj => h j (by omega))
theorem first_best (ok : Nat → Bool) (B T : Nat) (hs : ∀ j, j < T → ok j = true → pop j = pop B → j = B) : firstF ok (pop (bestF ok T 0 B)) B T 0 = bestF ok T 0 B := by
  have h := bestF_inv ok B T 0 B ⟨fun j hj => absurd hj (Nat.not_lt_zero _), Or.inl rfl⟩
  rw [Nat.zero_add] at h
  obtain ⟨h1, h2⟩ := h
  rcases h2 with e | ⟨a, b, c⟩
  · rw [e]
    exact firstF_no ok (pop B) B T 0 (fun j hj => hs j (by omega))
  · exact firstF_at ok _ B _ b rfl T 0 (Nat.zero_le _) (by omega) (fun j hj hk z => by have := c j hj hk; omega)
/-- may these be let go -/
def okS (d : DV) (B i : Nat) : Bool := (i &&& (63 ^^^ B) == 0) && !ring d (B &&& (63 ^^^ i))
set_option maxRecDepth 100000 in
theorem diff_num : allB 64 (fun i => allB 64 (fun B => decide (nI i &&& (nI B ^^^ (-1)) = nI (i &&& (63 ^^^ B))))) = true := by decide +kernel
theorem diffN {i B : Nat} (hi : i < 64) (hB : B < 64) : nI i &&& (nI B ^^^ (-1)) = nI (i &&& (63 ^^^ B)) := of_decide_eq_true (allB_of (allB_of diff_num hi) hB)
set_option maxRecDepth 100000 in
theorem sub_num : allB 64 (fun B => allB 64 (fun i => !(i &&& (63 ^^^ B) == 0) || !(pop i == pop B) || (i == B))) = true := by decide +kernel
theorem sub_pop {B i : Nat} (hB : B < 64) (hi : i < 64) (h1 : (i &&& (63 ^^^ B) == 0) = true) (h2 : pop i = pop B) : i = B := by
  have h := allB_of (allB_of sub_num hB) hi
  rw [h1, h2, beq_self_eq_true] at h
  exact beq_iff_eq.mp h
theorem and_lt64 {a b : Nat} (h : a < 64) : a &&& b < 64 := Nat.lt_of_le_of_lt Nat.and_le_left h
theorem popI_le {a b : Nat} : (nI (pop a) ≤ nI (pop b)) ↔ pop a ≤ pop b := nI_leI (by have := pop_le a; omega) (by have := pop_le b; omega)
theorem best_lt (ok : Nat → Bool) : ∀ k i b, i + k ≤ 64 → b < 64 → bestF ok k i b < 64 := by
  intro k
  induction k with
  | zero => intro i b _ h; exact h
  | succ k ih =>
    intro i b h1 h2
    unfold bestF
    refine ih (i + 1) _ (by omega) ?_
    split <;> omega
theorem X_letL {b : Nat} {σ : SX} {d : DV} (hx : DX b σ d) (ok : dOk d) {B : Nat} (hB : B < 64) : ∀ (k i n best : Nat), i + k = 2 ^ dO d → k < n → best < 64 → f_X0_leastToLetGo_L9 σ b n (nI B) (nI best) (nI i) = some (nI (bestF (okS d B) k i best)) := by
  have h6 := ok.2.2.1
  have hT : 2 ^ dO d ≤ 64 := p64 h6
  intro k
  induction k with
  | zero =>
    intro i n best hi hn hb
    obtain ⟨n, rfl⟩ : ∃ z, n = z + 1 := ⟨n - 1, by omega⟩
    rw [f_X0_leastToLetGo_L9, hx.2.2.1, shl1 (dO d) (by omega), if_pos (by rw [le_nI (by omega) (by omega)]; omega)]; rfl
  | succ k ih =>
    intro i n best hi hn hb
    obtain ⟨n, rfl⟩ : ∃ z, n = z + 1 := ⟨n - 1, by omega⟩
    have hi64 : i < 64 := by omega
    rw [f_X0_leastToLetGo_L9, hx.2.2.1, shl1 (dO d) (by omega), if_neg (by rw [le_nI (by omega) (by omega)]; omega), bitCount_ok i hi64, ob1_some, bitCount_ok best hb, ob1_some, nI_1, diffN hi64 hB, diffN hB hi64, X_ring hx ok (and_lt64 hB), ob1_some, b_if]
    unfold bestF
    by_cases c1 : pop best ≤ pop i
    · rw [if_pos (popI_le.mpr c1), if_neg (by rw [Bool.and_eq_true, decide_eq_true_eq]; omega)]
      exact ih (i + 1) n best (by omega) (by omega) hb
    · rw [if_neg (fun z => c1 (popI_le.mp z)), decide_eq_true (show pop i < pop best by omega), Bool.and_true]
      unfold okS
      by_cases c2 : i &&& (63 ^^^ B) = 0
      · rw [if_pos ((nI_eq0 (by have := @and_lt64 i (63 ^^^ B) hi64; omega)).mpr c2), c2, beq_self_eq_true, Bool.true_and]
        cases ring d (B &&& (63 ^^^ i)) with
        | true => exact ih (i + 1) n best (by omega) (by omega) hb
        | false => exact ih (i + 1) n i (by omega) (by omega) hi64
      · rw [if_neg (fun z => c2 ((nI_eq0 (by have := @and_lt64 i (63 ^^^ B) hi64; omega)).mp z)), beq_eq_false_iff_ne.mpr c2, Bool.false_and]
        exact ih (i + 1) n best (by omega) (by omega) hb
theorem X_let {b : Nat} {σ : SX} {d : DV} (hx : DX b σ d) (ok : dOk d) : f_X0_leastToLetGo σ b = some (nI (bestF (okS d (sN (bnd d) (dO d))) (2 ^ dO d) 0 (sN (bnd d) (dO d)))) := by
  have hB := sN_le64 (bnd d) ok.2.2.1
  have hT : 2 ^ dO d ≤ 64 := p64 ok.2.2.1
  unfold f_X0_leastToLetGo
  rw [X_bind hx ok, ob1_some]
  exact X_letL hx ok hB (2 ^ dO d) 0 100 _ (by omega) (by omega) hB
theorem M_firstL {τ : SX} {d : DV} (hm : DM τ d) (ok : dOk d) {B p : Nat} (hB : B < 64) (hp : p ≤ 6) : ∀ (k i n : Nat), i + k = 2 ^ dO d → k < n → f_X5_leastOfSize_L2 τ n (nI B) (nI p) (nI i) = some (nI (firstF (okS d B) p B k i)) := by
  have h6 := ok.2.2.1
  have hT : 2 ^ dO d ≤ 64 := p64 h6
  intro k
  induction k with
  | zero =>
    intro i n hi hn
    obtain ⟨n, rfl⟩ : ∃ z, n = z + 1 := ⟨n - 1, by omega⟩
    rw [f_X5_leastOfSize_L2, hm.2.2.1, shl1 (dO d) (by omega), if_pos (by rw [le_nI (by omega) (by omega)]; omega)]; rfl
  | succ k ih =>
    intro i n hi hn
    obtain ⟨n, rfl⟩ : ∃ z, n = z + 1 := ⟨n - 1, by omega⟩
    have hi64 : i < 64 := by omega
    have hpi := pop_le i
    rw [f_X5_leastOfSize_L2, hm.2.2.1, shl1 (dO d) (by omega), if_neg (by rw [le_nI (by omega) (by omega)]; omega), size_ok i hi64, ob1_some, nI_1, diffN hi64 hB, diffN hB hi64, M_ring hm ok (and_lt64 hB), ob1_some, b_if]
    have hn2 := ih (i + 1) n (by omega) (by omega)
    unfold firstF okS
    by_cases c2 : i &&& (63 ^^^ B) = 0
    · rw [if_pos ((nI_eq0 (by have := @and_lt64 i (63 ^^^ B) hi64; omega)).mpr c2), c2, beq_self_eq_true, Bool.true_and, ifE (by omega) (by omega)]
      by_cases c3 : pop i = p
      · rw [if_pos c3, c3, beq_self_eq_true, Bool.and_true]
        cases ring d (B &&& (63 ^^^ i)) with
        | true => exact hn2
        | false => rfl
      · rw [if_neg c3, beq_eq_false_iff_ne.mpr c3, Bool.and_false]
        exact hn2
    · rw [if_neg (fun z => c2 ((nI_eq0 (by have := @and_lt64 i (63 ^^^ B) hi64; omega)).mp z)), beq_eq_false_iff_ne.mpr c2, Bool.false_and, Bool.false_and]
      exact hn2
theorem M_letL {τ : SX} {d : DV} (hm : DM τ d) (ok : dOk d) {B : Nat} (hB : B < 64) : ∀ (k i n best : Nat), i + k = 2 ^ dO d → k < n → best < 64 → f_X5_leastLetGo_L9 τ n (nI B) (nI best) (nI i) = f_X5_leastOfSize τ (nI B) (nI (pop (bestF (okS d B) k i best))) := by
  have h6 := ok.2.2.1
  have hT : 2 ^ dO d ≤ 64 := p64 h6
  intro k
  induction k with
  | zero =>
    intro i n best hi hn hb
    obtain ⟨n, rfl⟩ : ∃ z, n = z + 1 := ⟨n - 1, by omega⟩
    rw [f_X5_leastLetGo_L9, hm.2.2.1, shl1 (dO d) (by omega), if_pos (by rw [le_nI (by omega) (by omega)]; omega), size_ok best hb, ob1_some]
    show _ = f_X5_leastOfSize τ (nI B) (nI (pop best))
    cases f_X5_leastOfSize τ (nI B) (nI (pop best)) <;> rfl
  | succ k ih =>
    intro i n best hi hn hb
    obtain ⟨n, rfl⟩ : ∃ z, n = z + 1 := ⟨n - 1, by omega⟩
    have hi64 : i < 64 := by omega
    rw [f_X5_leastLetGo_L9, hm.2.2.1, shl1 (dO d) (by omega), if_neg (by rw [le_nI (by omega) (by omega)]; omega), size_ok i hi64, ob1_some, size_ok best hb, ob1_some, nI_1, diffN hi64 hB, diffN hB hi64, M_ring hm ok (and_lt64 hB), ob1_some, b_if]
    unfold bestF okS
    by_cases c2 : i &&& (63 ^^^ B) = 0
    · rw [if_pos ((nI_eq0 (by have := @and_lt64 i (63 ^^^ B) hi64; omega)).mpr c2), c2, beq_self_eq_true, Bool.true_and]
      by_cases c1 : pop best ≤ pop i
      · rw [if_pos (popI_le.mpr c1), if_neg (by rw [Bool.and_eq_true, decide_eq_true_eq]; omega)]
        exact ih (i + 1) n best (by omega) (by omega) hb
      · rw [if_neg (fun z => c1 (popI_le.mp z)), decide_eq_true (show pop i < pop best by omega), Bool.and_true]
        cases ring d (B &&& (63 ^^^ i)) with
        | true => exact ih (i + 1) n best (by omega) (by omega) hb
        | false => exact ih (i + 1) n i (by omega) (by omega) hi64
    · rw [if_neg (fun z => c2 ((nI_eq0 (by have := @and_lt64 i (63 ^^^ B) hi64; omega)).mp z)), beq_eq_false_iff_ne.mpr c2, Bool.false_and, Bool.false_and]
      exact ih (i + 1) n best (by omega) (by omega) hb
theorem M_let {τ : SX} {d : DV} (hm : DM τ d) (ok : dOk d) : f_X5_leastLetGo τ = some (nI (bestF (okS d (sN (bnd d) (dO d))) (2 ^ dO d) 0 (sN (bnd d) (dO d)))) := by
  have hB := sN_le64 (bnd d) ok.2.2.1
  have hT : 2 ^ dO d ≤ 64 := p64 ok.2.2.1
  unfold f_X5_leastLetGo
  rw [M_bind hm ok, ob1_some]
  have h := M_letL hm ok hB (2 ^ dO d) 0 100 _ (by omega) (by omega) hB
  rw [nI_0] at h
  rw [h]
  have h2 := M_firstL hm ok hB (pop_le (bestF (okS d (sN (bnd d) (dO d))) (2 ^ dO d) 0 (sN (bnd d) (dO d)))) (2 ^ dO d) 0 100 (by omega) (by omega)
  rw [nI_0, first_best _ _ _ (fun j hj hk hp => ?_)] at h2
  · exact h2
  · unfold okS at hk
    rw [Bool.and_eq_true] at hk
    exact sub_pop hB (by omega) hk.1 hp
theorem Sim_letgo_ok : Sim_letgo Rel := by
  intro σ τ hR x1
  obtain ⟨d, e, q, tr, ft, ⟨ok, h0⟩, hx, hm, -⟩ := hR
  have hB := sN_le64 (bnd d) ok.2.2.1
  have hT : 2 ^ dO d ≤ 64 := p64 ok.2.2.1
  have hl := best_lt (okS d (sN (bnd d) (dO d))) (2 ^ dO d) 0 _ (by omega) hB
  refine BP.roR ?_
  unfold f_X4_letgo f_X5_letgo f_X5_within
  rw [X_let hx ok, M_let hm ok]
  rcases ix3 x1 2 (by decide) with c | ⟨c, c2⟩ | ⟨w, hw, e3⟩
  · rw [if_pos c, if_pos c]; exact BP.ret rfl
  · have c3 : (1 : Int32) < x1 := by
      rw [Int32.le_iff_toInt_le, nI_toInt (by decide)] at c2
      rw [Int32.lt_iff_toInt_lt]
      have a1 : (1 : Int32).toInt = 1 := by decide
      omega
    rw [if_neg c, if_neg c, if_neg (Int32.not_le.mpr c3), if_pos c3]; exact BP.ret rfl
  · rw [e3, if_neg (nI_nneg (by omega)), if_neg (nI_nneg (by omega)), if_pos (show nI w ≤ (1 : Int32) from (nI_leI (b := 1) (by omega) (by decide)).mpr (by omega)), if_neg (show ¬ (1 : Int32) < nI w from fun z => by have := (nI_ltI (a := 1) (by decide) (by omega)).mp z; omega), show ∀ k : Int32 → Option Int32, ob1 (some (1 : Int32)) k = k 1 from fun _ => rfl, if_neg one0]
    refine bp_day ok h0 hx hm (BP.ret rfl) (fun _ _ => ?_)
    rw [if_neg one0, ob1_some, ob1_some, bitCount_ok _ hl, size_ok _ hl]
    exact BP.ite (fun _ => BP.ret rfl) (fun _ => BP.ret rfl)
