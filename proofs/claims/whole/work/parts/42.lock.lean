/-! ===== locks: bits ===== -/
theorem nx_and (a b : Nat) : nI a &&& nI b = nI (a &&& b) := by
  apply Int32.toBitVec_inj.1
  show BitVec.ofNat 32 a &&& BitVec.ofNat 32 b = BitVec.ofNat 32 (a &&& b)
  apply BitVec.eq_of_getLsbD_eq
  intro i hi
  simp [hi]
theorem sl31 : ∀ n, n < 32 → ((nI n &&& 31).toBitVec.smod 32).toNat = n := by decide +kernel
theorem shr_and (a b s : Int32) : (a >>> s) &&& (b >>> s) = (a &&& b) >>> s := by
  apply Int32.toBitVec_inj.1
  show (a.toBitVec.sshiftRight (s.toBitVec.smod 32).toNat) &&& (b.toBitVec.sshiftRight (s.toBitVec.smod 32).toNat) = (a.toBitVec &&& b.toBitVec).sshiftRight (s.toBitVec.smod 32).toNat
  rw [BitVec.sshiftRight_and_distrib]
theorem bit_j {m j : Nat} (hm : m < 65536) (hj : j < 16) : (nI m >>> (nI j &&& 31)) &&& 1 = nI (m / 2 ^ j % 2) := by
  rw [pk_shrN (by omega) _ j (sl31 j (by omega))]
  have h2 : m / 2 ^ j ≤ m := Nat.div_le_self _ _
  exact pk_andN (by omega) 1 (by decide)
theorem bc_eq {n : Nat} (hn : n < 65536) : f_J6_bitCount_0f7a4 (nI n) = some (nI (sw n)) := by
  have l1 : (1431655765 : Int32) = nI 1431655765 := by decide
  have l2 : (858993459 : Int32) = nI 858993459 := by decide
  have l3 : (252645135 : Int32) = nI 252645135 := by decide
  have a1 : n / 2 ≤ n := Nat.div_le_self _ _
  have a2 : (n / 2 &&& 1431655765) ≤ n / 2 := Nat.and_le_left
  have a3 : sw1 n ≤ n := Nat.sub_le _ _
  have a4 : (sw1 n &&& 858993459) ≤ sw1 n := Nat.and_le_left
  have a5 : (sw1 n / 4 &&& 858993459) ≤ sw1 n / 4 := Nat.and_le_left
  have a6 : sw2 (sw1 n) ≤ 2 * n := by unfold sw2; omega
  have a7 : sw3 (sw2 (sw1 n)) ≤ sw2 (sw1 n) + sw2 (sw1 n) / 16 := Nat.and_le_left
  have a8 : sw4 (sw3 (sw2 (sw1 n))) ≤ 8 * n := by unfold sw4; omega
  have a9 : sw5 (sw4 (sw3 (sw2 (sw1 n)))) ≤ 16 * n := by unfold sw5; omega
  have e1 : (Int32.toUInt32 (nI n) >>> (Int32.toUInt32 (1 : Int32) &&& Int32.toUInt32 31)).toInt32 = nI (n / 2) := pk_ushrN (by omega) 1 1 (by decide)
  have e2 : nI (n / 2) &&& (1431655765 : Int32) = nI (n / 2 &&& 1431655765) := by rw [l1, nx_and]
  have e3 : nI n - nI (n / 2 &&& 1431655765) = nI (sw1 n) := pk_sub (by omega)
  have e4 : nI (sw1 n) &&& (858993459 : Int32) = nI (sw1 n &&& 858993459) := by rw [l2, nx_and]
  have e5 : (Int32.toUInt32 (nI (sw1 n)) >>> (Int32.toUInt32 (2 : Int32) &&& Int32.toUInt32 31)).toInt32 = nI (sw1 n / 4) := pk_ushrN (by omega) 2 2 (by decide)
  have e6 : nI (sw1 n / 4) &&& (858993459 : Int32) = nI (sw1 n / 4 &&& 858993459) := by rw [l2, nx_and]
  have e7 : nI (sw1 n &&& 858993459) + nI (sw1 n / 4 &&& 858993459) = nI (sw2 (sw1 n)) := nI_add _ _
  have e8 : (Int32.toUInt32 (nI (sw2 (sw1 n))) >>> (Int32.toUInt32 (4 : Int32) &&& Int32.toUInt32 31)).toInt32 = nI (sw2 (sw1 n) / 16) := pk_ushrN (by omega) 4 4 (by decide)
  have e9 : nI (sw2 (sw1 n)) + nI (sw2 (sw1 n) / 16) = nI (sw2 (sw1 n) + sw2 (sw1 n) / 16) := nI_add _ _
  have e10 : nI (sw2 (sw1 n) + sw2 (sw1 n) / 16) &&& (252645135 : Int32) = nI (sw3 (sw2 (sw1 n))) := by rw [l3, nx_and]; rfl
  have e11 : (Int32.toUInt32 (nI (sw3 (sw2 (sw1 n)))) >>> (Int32.toUInt32 (8 : Int32) &&& Int32.toUInt32 31)).toInt32 = nI (sw3 (sw2 (sw1 n)) / 256) := pk_ushrN (by omega) 8 8 (by decide)
  have e12 : nI (sw3 (sw2 (sw1 n))) + nI (sw3 (sw2 (sw1 n)) / 256) = nI (sw4 (sw3 (sw2 (sw1 n)))) := nI_add _ _
  have e13 : (Int32.toUInt32 (nI (sw4 (sw3 (sw2 (sw1 n))))) >>> (Int32.toUInt32 (16 : Int32) &&& Int32.toUInt32 31)).toInt32 = nI (sw4 (sw3 (sw2 (sw1 n))) / 65536) := pk_ushrN (by omega) 16 16 (by decide)
  have e14 : nI (sw4 (sw3 (sw2 (sw1 n)))) + nI (sw4 (sw3 (sw2 (sw1 n))) / 65536) = nI (sw5 (sw4 (sw3 (sw2 (sw1 n))))) := nI_add _ _
  have e15 : nI (sw5 (sw4 (sw3 (sw2 (sw1 n))))) &&& (63 : Int32) = nI (sw n) := pk_andN (by omega) 6 (by decide)
  unfold f_J6_bitCount_0f7a4
  simp only [e1, e2, e3, e4, e5, e6, e7, e8, e9, e10, e11, e12, e13, e14, e15]
/-- the model's loop over the bits of a lock -/
def lkT (l0 l1 l2 : Int32) : Option Int32 := ((f_X7_in (Int32.toInt64 l0) (1 : Int64) (65535 : Int64)).bind fun q_2 => (if q_2 = (0 : Int32) then some (0 : Int32) else ((f_X7_in (Int32.toInt64 l1) (1 : Int64) (Int32.toInt64 l2)).bind fun q_4 => (if q_4 = (0 : Int32) then some (0 : Int32) else some (1 : Int32)))))
theorem lk_loop (l0 l1 : Int32) : ∀ (n i : Nat), i ≤ 16 → 16 < i + n → f_X7_isLock_4 n l0 l1 (bsum (fun j => (l0 >>> (nI j &&& 31)) &&& (1 : Int32)) i) (nI i) = lkT l0 l1 (bsum (fun j => (l0 >>> (nI j &&& 31)) &&& (1 : Int32)) 16) := by
  intro n
  induction n with
  | zero => intro i h1 h2; omega
  | succ n ih =>
    intro i h1 h2
    rw [f_X7_isLock_4]
    by_cases hi : i = 16
    · subst hi
      rw [if_pos (show (16 : Int32) ≤ nI 16 from nI_le (Nat.le_refl _) (by decide))]
      rfl
    · rw [if_neg (show ¬ (16 : Int32) ≤ nI i from nI_ge (show i < 16 by omega) (by decide)), nI_1]
      exact ih (i + 1) (by omega) (by omega)
theorem lk_M (l0 l1 : Int32) : f_X7_isLock l0 l1 = lkT l0 l1 (bsum (fun j => (l0 >>> (nI j &&& 31)) &&& (1 : Int32)) 16) := lk_loop l0 l1 1000 0 (by decide) (by decide)
theorem isLock_eq (k t : Int32) : ∃ b : Int32, f_X6_isLock k t = some b ∧ f_X7_isLock k t = some b ∧ (¬ b = 0 → ∃ n, n < 65536 ∧ k = nI n) := by
  rw [lk_M]
  unfold lkT f_X6_isLock
  simp only [in_eq, Int32.toInt_toInt64, Option.bind_some]
  have o1 : (1 : Int64).toInt = 1 := by decide
  have o2 : (65535 : Int64).toInt = 65535 := by decide
  simp only [o1, o2]
  by_cases hk : 1 ≤ k.toInt ∧ k.toInt ≤ 65535
  · have hn : ∃ n, n < 65536 ∧ k = nI n := by
      refine ⟨k.toInt.toNat, by omega, ?_⟩
      rw [← Int32.toInt_inj, nI_toInt (by omega)]
      omega
    obtain ⟨n, hn, rfl⟩ := hn
    rw [nI_toInt (by omega)] at hk
    have h1 : ¬ nI n ≤ (0 : Int32) := nI_nle (by omega) (by omega)
    have h2 : ¬ (65536 : Int32) ≤ nI n := nI_ge (b := 65536) hn (by decide)
    have hs : bsum (fun j => (nI n >>> (nI j &&& 31)) &&& (1 : Int32)) 16 = nI (sw n) := by
      rw [sw_sum hn]
      exact bsum_n (fun j hj => bit_j hn hj)
    have hsw : sw n < 64 := Nat.mod_lt _ (by decide)
    rw [if_neg h1, if_neg h2, hs, nI_toInt (n := n) (by omega), if_pos hk, bc_eq hn]
    refine ⟨if 1 ≤ t.toInt ∧ t.toInt ≤ ((sw n : Nat) : Int) then 1 else 0, ?_, ?_, fun _ => ⟨n, hn, rfl⟩⟩
    · by_cases ht : t < (1 : Int32)
      · rw [if_pos ht]
        have : t.toInt < (1 : Int32).toInt := Int32.lt_iff_toInt_lt.mp ht
        have e : (1 : Int32).toInt = 1 := by decide
        rw [if_neg (by omega)]
      · rw [if_neg ht]
        have h3 : ¬ t.toInt < (1 : Int32).toInt := fun q => ht (Int32.lt_iff_toInt_lt.mpr q)
        have e : (1 : Int32).toInt = 1 := by decide
        show (if nI (sw n) < t then _ else _) = _
        by_cases h4 : nI (sw n) < t
        · have := Int32.lt_iff_toInt_lt.mp h4
          rw [nI_toInt (by omega)] at this
          rw [if_pos h4, if_neg (by omega)]
        · have h5 : ¬ (nI (sw n)).toInt < t.toInt := fun q => h4 (Int32.lt_iff_toInt_lt.mpr q)
          rw [nI_toInt (by omega)] at h5
          rw [if_neg h4, if_pos (by omega)]
    · rw [if_neg (by decide), nI_toInt (by omega)]
      by_cases ht : 1 ≤ t.toInt ∧ t.toInt ≤ ((sw n : Nat) : Int)
      · rw [if_pos ht]; rfl
      · rw [if_neg ht]; rfl
  · rw [if_neg hk]
    refine ⟨0, ?_, by rw [if_pos rfl], fun h => absurd rfl h⟩
    by_cases h1 : k ≤ (0 : Int32)
    · rw [if_pos h1]
    · rw [if_neg h1, if_pos]
      have h3 : ¬ k.toInt ≤ (0 : Int32).toInt := fun q => h1 (Int32.le_iff_toInt_le.mpr q)
      have e : (0 : Int32).toInt = 0 := by decide
      have e2 : (65536 : Int32).toInt = 65536 := by decide
      rw [Int32.le_iff_toInt_le, e2]
      omega
/-- a lock is met by the same signers on both sides -/
def mtT (l1 l5 : Int32) (v : MS) : Option Int32 := (if inb l1 12 = true then (if l5 < ((m_thr v) (Int32.toNatClampNeg l1)) then some (0 : Int32) else some (1 : Int32)) else none)
theorem mt_loop (l1 : Int32) (l2 : Int64) (l4 : Int32) (v : MS) (h1 : inb l1 12 = true) : ∀ (n i : Nat), i ≤ 16 → 16 < i + n → f_X7_meets_72 n l1 l2 l4 (bsum (fun j => ((l4 >>> (nI j &&& 31)) &&& (((m_kys v) (Int32.toNatClampNeg l1)) >>> (nI j &&& 31))) &&& (1 : Int32)) i) (nI i) v = mtT l1 (bsum (fun j => ((l4 >>> (nI j &&& 31)) &&& (((m_kys v) (Int32.toNatClampNeg l1)) >>> (nI j &&& 31))) &&& (1 : Int32)) 16) v := by
  intro n
  induction n with
  | zero => intro i h1 h2; omega
  | succ n ih =>
    intro i h1' h2
    rw [f_X7_meets_72]
    by_cases hi : i = 16
    · subst hi
      rw [if_pos (show (16 : Int32) ≤ nI 16 from nI_le (Nat.le_refl _) (by decide))]
      rfl
    · rw [if_neg (show ¬ (16 : Int32) ≤ nI i from nI_ge (show i < 16 by omega) (by decide)), if_pos h1, nI_1]
      exact ih (i + 1) (by omega) (by omega)
theorem met_eq {a n : Nat} (ha : a < 12) {u : XS} {v : MS} (hk : x_kys u a = nI n) (hn : n < 65536) (ek : m_kys v = x_kys u) (et : m_thr v = x_thr u) (sg : Int32) (dg : Int64) : ∃ b : Int32, f_X0_isMet (nI a) sg u = some b ∧ f_X7_meets_72 1000 (nI a) dg sg 0 0 v = some b := by
  have hin : inb (nI a) 12 = true := inb_n ha (by decide)
  have hM := mt_loop (nI a) dg sg v hin 1000 0 (by decide) (by decide)
  have hc : Int32.toNatClampNeg (nI a) = a := cl_n (by omega)
  obtain ⟨m, hm, em⟩ : ∃ m, m < 65536 ∧ nI n &&& sg = nI m := by
    obtain ⟨k, hk1, hk2⟩ : ∃ k, k < 2 ^ 32 ∧ sg = nI k := ⟨sg.toBitVec.toNat, sg.toBitVec.isLt, by
      apply Int32.toBitVec_inj.1
      show _ = BitVec.ofNat 32 _
      simp⟩
    subst hk2
    refine ⟨n &&& k, ?_, nx_and _ _⟩
    exact Nat.lt_of_le_of_lt Nat.and_le_left hn
  have hs : bsum (fun j => ((sg >>> (nI j &&& 31)) &&& (((m_kys v) (Int32.toNatClampNeg (nI a))) >>> (nI j &&& 31))) &&& (1 : Int32)) 16 = nI (sw m) := by
    rw [sw_sum hm]
    refine bsum_n (fun j hj => ?_)
    rw [shr_and, ek, hc, hk, Int32.and_comm sg, em]
    exact bit_j hm hj
  refine ⟨if nI (sw m) < x_thr u a then 0 else 1, ?_, ?_⟩
  · unfold f_X0_isMet
    rw [if_pos hin, hc, hk, em, bc_eq hm]
    show (if _ then _ else none) = _
    rw [if_pos hin]
    by_cases h : nI (sw m) < x_thr u a
    · rw [if_pos h, if_pos h]
    · rw [if_neg h, if_neg h]
  · refine hM.trans ?_
    unfold mtT
    rw [if_pos hin, hs, et, hc]
    by_cases h : nI (sw m) < x_thr u a
    · rw [if_pos h, if_pos h]
    · rw [if_neg h, if_neg h]
