/-! ===== numbers ===== -/
theorem i64_lt (a b : Int32) : a.toInt64 < b.toInt64 ↔ a < b := by rw [Int64.lt_iff_toInt_lt, Int32.lt_iff_toInt_lt, Int32.toInt_toInt64, Int32.toInt_toInt64]
theorem i64_le (a b : Int32) : a.toInt64 ≤ b.toInt64 ↔ a ≤ b := by rw [Int64.le_iff_toInt_le, Int32.le_iff_toInt_le, Int32.toInt_toInt64, Int32.toInt_toInt64]
theorem i64_eq (a b : Int32) : a.toInt64 = b.toInt64 ↔ a = b := by rw [← Int64.toInt_inj, ← Int32.toInt_inj, Int32.toInt_toInt64, Int32.toInt_toInt64]
theorem i64_32 (a : Int32) : a.toInt64.toInt32 = a := by simp
theorem inb_n {k n : Nat} (h : k < n) (hn : n < 2 ^ 31) : inb (nI k) n = true := by
  simp only [inb, Bool.and_eq_true, decide_eq_true_eq]
  exact ⟨nI_pos (by omega), by rw [nI_clamp (by omega)]; exact h⟩
theorem cl_n {k : Nat} (h : k < 2 ^ 31) : Int32.toNatClampNeg (nI k) = k := nI_clamp h
theorem in_eq (a b c : Int64) : f_X7_in a b c = some (if b.toInt ≤ a.toInt ∧ a.toInt ≤ c.toInt then 1 else 0) := by
  unfold f_X7_in
  simp only [Int64.lt_iff_toInt_lt]
  by_cases h1 : a.toInt < b.toInt
  · rw [if_pos h1, if_neg (by omega)]
  · rw [if_neg h1]
    by_cases h2 : c.toInt < a.toInt
    · rw [if_pos h2, if_neg (by omega)]
    · rw [if_neg h2, if_pos (by omega)]
theorem amt_eq (a : Int64) : f_X6_isAmount a = some (if (0 : Int) ≤ a.toInt ∧ a.toInt ≤ 1000000000000 then 1 else 0) := by
  unfold f_X6_isAmount
  simp only [Int64.lt_iff_toInt_lt]
  have e0 : (0 : Int64).toInt = 0 := by decide
  have e1 : (1000000000000 : Int64).toInt = 1000000000000 := by decide
  simp only [e0, e1]
  by_cases h1 : a.toInt < 0
  · rw [if_pos h1, if_neg (by omega)]
  · rw [if_neg h1]
    by_cases h2 : 1000000000000 < a.toInt
    · rw [if_pos h2, if_neg (by omega)]
    · rw [if_neg h2, if_pos (by omega)]
theorem hei_eq (a : Int32) : f_X6_isHeight a = some (if (0 : Int) ≤ a.toInt ∧ a.toInt ≤ 1000000 then 1 else 0) := by
  unfold f_X6_isHeight
  simp only [Int32.lt_iff_toInt_lt]
  have e0 : (0 : Int32).toInt = 0 := by decide
  have e1 : (1000000 : Int32).toInt = 1000000 := by decide
  simp only [e0, e1]
  by_cases h1 : a.toInt < 0
  · rw [if_pos h1, if_neg (by omega)]
  · rw [if_neg h1]
    by_cases h2 : 1000000 < a.toInt
    · rw [if_pos h2, if_neg (by omega)]
    · rw [if_neg h2, if_pos (by omega)]
/-- a number is one of the first k, or not -/
theorem has_eq {k : Nat} (hk : k < 2 ^ 30) {a c : Int32} (hc : c = nI k) : ((0 : Int) ≤ a.toInt ∧ a.toInt ≤ (c - 1).toInt) ↔ ∃ j, j < k ∧ a = nI j := by
  subst hc
  have e : (nI k - 1).toInt = (k : Int) - 1 := by
    have := pk_sub_toInt (a := k) (b := 1) hk (by decide)
    exact this
  rw [e]
  constructor
  · intro ⟨h1, h2⟩
    refine ⟨a.toInt.toNat, by omega, ?_⟩
    rw [← Int32.toInt_inj, nI_toInt (by omega)]
    omega
  · rintro ⟨j, hj, rfl⟩
    rw [nI_toInt (by omega)]
    omega
theorem xhas_eq {k : Nat} (hk : k < 2 ^ 30) {a c : Int32} (hc : c = nI k) : (if a < (0 : Int32) then some (0 : Int32) else (if c ≤ a then some (0 : Int32) else some (1 : Int32))) = some (if (0 : Int) ≤ a.toInt ∧ a.toInt ≤ (c - 1).toInt then 1 else 0) := by
  have h := has_eq hk (a := a) hc
  subst hc
  rcases pk_ix a (n := k) (by omega) with h1 | h1 | ⟨j, hj, rfl⟩
  · rw [if_pos h1, if_neg]
    rw [h]
    rintro ⟨j, hj, rfl⟩
    exact nI_pos (by omega) h1
  · by_cases h0 : a < 0
    · rw [if_pos h0, if_neg]
      rw [h]
      rintro ⟨j, hj, rfl⟩
      exact nI_pos (by omega) h0
    · rw [if_neg h0, if_pos h1, if_neg]
      rw [h]
      rintro ⟨j, hj, rfl⟩
      exact nI_ge hj (by omega) h1
  · rw [if_neg (nI_pos (by omega)), if_neg (nI_ge hj (by omega)), if_pos]
    rw [h]
    exact ⟨j, hj, rfl⟩
theorem z64 : (0 : Int64).toInt = 0 := by decide
theorem isacc_eq (a : Int32) (v : MS) : f_X7_isAccount a v = some (if (0 : Int) ≤ a.toInt ∧ a.toInt ≤ (m_cnt v - 1).toInt then 1 else 0) := by
  unfold f_X7_isAccount
  rw [in_eq, Int32.toInt_toInt64, Int32.toInt_toInt64, z64]
  show (if _ then _ else none) = _
  rw [if_pos]
  by_cases h : (0 : Int) ≤ a.toInt ∧ a.toInt ≤ (m_cnt v - 1).toInt
  · rw [if_pos h]; exact Or.inr rfl
  · rw [if_neg h]; exact Or.inl rfl
/-- sums of bits -/
def bsum (g : Nat → Int32) : Nat → Int32
  | 0 => 0
  | i + 1 => bsum g i + g i
def nsum (g : Nat → Nat) : Nat → Nat
  | 0 => 0
  | i + 1 => nsum g i + g i
theorem bsum_n {g : Nat → Int32} {h : Nat → Nat} {n : Nat} (e : ∀ i, i < n → g i = nI (h i)) : bsum g n = nI (nsum h n) := by
  induction n with
  | zero => rfl
  | succ n ih =>
    show bsum g n + g n = nI (nsum h n + h n)
    rw [ih (fun i hi => e i (by omega)), e n (by omega), nI_add]
def sw1 (n : Nat) : Nat := n - ((n / 2) &&& 1431655765)
def sw2 (a : Nat) : Nat := (a &&& 858993459) + ((a / 4) &&& 858993459)
def sw3 (b : Nat) : Nat := (b + b / 16) &&& 252645135
def sw4 (c : Nat) : Nat := c + c / 256
def sw5 (d : Nat) : Nat := d + d / 65536
def sw (n : Nat) : Nat := sw5 (sw4 (sw3 (sw2 (sw1 n)))) % 64
def p8 (n : Nat) : Nat := Nat.add (Nat.mod n 2) (Nat.add (Nat.mod (Nat.div n 2) 2) (Nat.add (Nat.mod (Nat.div n 4) 2) (Nat.add (Nat.mod (Nat.div n 8) 2) (Nat.add (Nat.mod (Nat.div n 16) 2) (Nat.add (Nat.mod (Nat.div n 32) 2) (Nat.add (Nat.mod (Nat.div n 64) 2) (Nat.mod (Nat.div n 128) 2)))))))
