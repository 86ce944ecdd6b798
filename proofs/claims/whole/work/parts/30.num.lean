/-! ===== small numbers, states, loops ===== -/
theorem beq_no {a b : Nat} (h : ¬ a = b) : Nat.beq a b = false := by
  cases e : Nat.beq a b with
  | false => rfl
  | true => exact absurd (Nat.eq_of_beq_eq_true e) h
theorem gF_sF (σ : SX) (b k : Nat) (v : Int32) (c j : Nat) : gF (sF σ b k v) c j = if c = b ∧ j = k then v else gF σ c j := by
  unfold gF sF
  by_cases h1 : c = b
  · by_cases h2 : j = k
    · subst h1; subst h2; simp
    · have e : Nat.beq j k = false := beq_no h2
      simp [h1, h2, e]
  · have e : Nat.beq c b = false := beq_no h1
    simp [h1, e]
theorem gF_sR (σ : SX) (b : Nat) (f : Nat → Int32) (c j : Nat) : gF (sR σ b f) c j = gF σ c j := rfl
theorem gR_sF (σ : SX) (b k : Nat) (v : Int32) (c : Nat) : gR (sF σ b k v) c = gR σ c := rfl
theorem gR_sR (σ : SX) (b : Nat) (f : Nat → Int32) (c : Nat) : gR (sR σ b f) c = if c = b then f else gR σ c := by
  unfold gR sR
  by_cases h1 : c = b
  · subst h1; simp
  · have e : Nat.beq c b = false := beq_no h1
    simp [h1, e]
theorem upd_at (f : Nat → Int32) (k : Nat) (x : Int32) (j : Nat) : upd f k x j = if j = k then x else f j := rfl
theorem ob1_some {α β : Type} (r : α) (k : α → Option β) : ob1 (some r) k = k r := rfl
theorem ob2_some {α β : Type} (r : α) (z : SX) (k : α → SX → Option β) : ob2 (some (r, z)) k = k r z := rfl
theorem oin_nI {β : Type} {j n : Nat} (k : Option β) (h : j < n) (hn : n < 2 ^ 31) : oin (nI j) n k = k := by
  unfold oin
  rw [if_pos]
  rw [nI_toInt (by omega)]
  omega
theorem oif_t {β : Type} {c : Prop} [Decidable c] (k : Option β) (h : c) : oif c k = k := if_pos h
theorem cl (j : Nat) (h : j < 2 ^ 31) : (nI j).toNatClampNeg = j := nI_clamp h
theorem le_nI {a b : Nat} (ha : a < 2 ^ 31) (hb : b < 2 ^ 31) : (nI a ≤ nI b) = (a ≤ b) := propext (nI_leI ha hb)
theorem lt_nI {a b : Nat} (ha : a < 2 ^ 31) (hb : b < 2 ^ 31) : (nI a < nI b) = (a < b) := propext (nI_ltI ha hb)
theorem eq_nI {a b : Nat} (ha : a < 2 ^ 31) (hb : b < 2 ^ 31) : (nI a = nI b) = (a = b) := propext (nI_eq ha hb)
/-- a number of the machine: below 0, at or above n, or one of 0 .. n - 1 -/
theorem ix3 (x : Int32) (n : Nat) (hn : n < 2 ^ 31) : x < 0 ∨ (¬ x < 0 ∧ nI n ≤ x) ∨ ∃ j : Nat, j < n ∧ x = nI j := by
  by_cases h : x < 0
  · exact Or.inl h
  · rcases pk_ix x hn with q | q | q
    · exact absurd q h
    · exact Or.inr (Or.inl ⟨h, q⟩)
    · exact Or.inr (Or.inr q)
theorem nI_nneg {j : Nat} (h : j < 2 ^ 31) : ¬ nI j < 0 := nI_pos h
theorem nI_ge0 {j : Nat} (h : j < 2 ^ 31) : (0 : Int32) ≤ nI j := nI_pos' h
/-- sets as numbers -/
def sN (p : Nat → Bool) : Nat → Nat
  | 0 => 0
  | n + 1 => sN p n + (if p n then 2 ^ n else 0)
theorem sN_succ (p : Nat → Bool) (n : Nat) : sN p (n + 1) = sN p n + (if p n then 2 ^ n else 0) := rfl
theorem sN_lt (p : Nat → Bool) : ∀ n, sN p n < 2 ^ n
  | 0 => Nat.one_pos
  | n + 1 => by
    have h := sN_lt p n
    have e : 2 ^ (n + 1) = 2 ^ n + 2 ^ n := by rw [Nat.pow_succ]; omega
    unfold sN
    split <;> omega
theorem sN_congr {p q : Nat → Bool} : ∀ {n : Nat}, (∀ j, j < n → p j = q j) → sN p n = sN q n
  | 0, _ => rfl
  | n + 1, h => by
    unfold sN
    rw [sN_congr (n := n) (fun j hj => h j (by omega)), h n (by omega)]
theorem sN_le64 (p : Nat → Bool) {n : Nat} (h : n ≤ 6) : sN p n < 64 := by
  have h1 := sN_lt p n
  have h2 : 2 ^ n ≤ 2 ^ 6 := Nat.pow_le_pow_right (by decide) h
  omega
theorem sN_le16 (p : Nat → Bool) {n : Nat} (h : n ≤ 4) : sN p n < 16 := by
  have h1 := sN_lt p n
  have h2 : 2 ^ n ≤ 2 ^ 4 := Nat.pow_le_pow_right (by decide) h
  omega
theorem sN_le1024 (p : Nat → Bool) {n : Nat} (h : n ≤ 10) : sN p n < 1024 := by
  have h1 := sN_lt p n
  have h2 : 2 ^ n ≤ 2 ^ 10 := Nat.pow_le_pow_right (by decide) h
  omega
set_option maxRecDepth 100000 in
theorem or_bit : ∀ n, n < 10 → ∀ a, a < 2 ^ n → nI a ||| ((1 : Int32) <<< (nI n &&& 31)) = nI (a + 2 ^ n) := by decide +kernel
set_option maxRecDepth 100000 in
theorem or_z : ∀ a, a < 1024 → nI a ||| (0 : Int32) = nI a := by decide +kernel
set_option maxRecDepth 100000 in
theorem shl1 : ∀ n, n < 30 → (1 : Int32) <<< (nI n &&& 31) = nI (2 ^ n) := by decide +kernel
set_option maxRecDepth 100000 in
theorem bit_at : ∀ k, k < 8 → ∀ a, a < 64 → (nI a >>> (nI k &&& 31)) &&& (1 : Int32) = nI (a / 2 ^ k % 2) := by decide +kernel
/-- the loop that gathers a set: at place j the numbers of which p holds are in -/
theorem setLoop (L : Nat → Int32 → Int32 → Option Int32) (p : Nat → Bool) (H : Nat) (hH : H ≤ 10)
    (hx : ∀ n a, L (n + 1) a (nI H) = some a)
    (hs : ∀ n a j, j < H → a < 2 ^ j → L (n + 1) (nI a) (nI j) = if p j then L n (nI a ||| ((1 : Int32) <<< (nI j &&& 31))) (nI j + 1) else L n (nI a ||| (0 : Int32)) (nI j + 1)) :
    ∀ n, H < n → L n 0 0 = some (nI (sN p H)) := by
  have key : ∀ k j n, j + k = H → k < n → L n (nI (sN p j)) (nI j) = some (nI (sN p H)) := by
    intro k
    induction k with
    | zero =>
      intro j n hj hn
      obtain ⟨n, rfl⟩ : ∃ z, n = z + 1 := ⟨n - 1, by omega⟩
      have : j = H := by omega
      subst this
      exact hx n _
    | succ k ih =>
      intro j n hj hn
      obtain ⟨n, rfl⟩ : ∃ z, n = z + 1 := ⟨n - 1, by omega⟩
      have hlt := sN_lt p j
      have h1024 := sN_le1024 p (show j ≤ 10 by omega)
      rw [hs n _ j (by omega) hlt, nI_1]
      have h := ih (j + 1) n (by omega) (by omega)
      rw [sN_succ] at h
      cases hp : p j with
      | true => rw [if_pos rfl, or_bit j (by omega) _ hlt]; rw [hp, if_pos rfl] at h; exact h
      | false =>
        rw [if_neg (by decide), or_z _ h1024]
        rw [hp, if_neg (by decide), Nat.add_zero] at h
        exact h
  intro n hn
  have h := key H 0 n (by omega) hn
  exact h
/-- how many -/
def pop (n : Nat) : Nat := n % 2 + n / 2 % 2 + n / 4 % 2 + n / 8 % 2 + n / 16 % 2 + n / 32 % 2
set_option maxRecDepth 100000 in
theorem bitCount_ok : ∀ a, a < 64 → f_J6_bitCount_0f7a4 (nI a) = some (nI (pop a)) := by decide +kernel
set_option maxRecDepth 100000 in
theorem size_ok : ∀ a, a < 64 → f_X5_size (nI a) = some (nI (pop a)) := by decide +kernel
theorem pop_le (a : Nat) : pop a ≤ 6 := by unfold pop; omega
