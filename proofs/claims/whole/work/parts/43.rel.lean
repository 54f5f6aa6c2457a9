/-! ===== the class and the reference, held against each other ===== -/
def IA (cnt : Int32) (ky : Nat → Int32) : Prop := (∃ k, k ≤ 12 ∧ cnt = nI k) ∧ ∀ a, a < 12 → ∃ n, n < 65536 ∧ ky a = nI n
def IS (sgc : Int32) : Prop := ∃ k, k ≤ 200 ∧ sgc = nI k
def ID (dsg : Nat → Int32) (add : Int32) : Prop := ∃ k, k ≤ 12 ∧ add = nI k ∧ ∀ i, i < k → ∃ j, j < 200 ∧ dsg i = nI j
/-- one call: the class's object c against the reference's row f -/
def CR (cf rc : Nat → Nat → Int32) (am : Nat → Nat → Int64) (c : Nat) (f : Nat → Int64) : Prop :=
  (f 0 = (cf 3 c).toInt64 ∧ f 1 = (cf 4 c).toInt64 ∧ f 2 = (cf 5 c).toInt64 ∧ f 3 = (cf 6 c).toInt64 ∧ f 4 = (cf 7 c).toInt64 ∧ f 5 = (cf 8 c).toInt64 ∧ f 6 = (cf 9 c).toInt64) ∧
  (∃ a, a ≤ 4 ∧ cf 2 c = nI a ∧ f 8 = lN a ∧ ∀ k, k < a → ∃ j, j < 12 ∧ rc c k = nI j ∧ f (9 + 2 * k) = lN j ∧ f (10 + 2 * k) = am c k) ∧
  (∃ o, o < 12 ∧ cf 3 c = nI o) ∧ (cf 9 c = -1 ∨ ∃ s, s < 12 ∧ cf 9 c = nI s) ∧ ∃ p, p ≤ 1000000 ∧ cf 5 c = nI p
def QW (k : Nat) (rwc : Int32) (row : Nat → Nat) (cf rc : Nat → Nat → Int32) (am : Nat → Nat → Int64) (cal : Nat → Int64) : Prop :=
  k ≤ 24 ∧ rwc = nI k ∧ (∀ i, i < 24 → 1 ≤ row i ∧ row i < 25) ∧ (∀ i j, i < 24 → j < 24 → row i = row j → i = j) ∧ CR cf rc am 0 cal ∧
  (∀ i, i < k → CR cf rc am (row i) (fun j => cal (17 * (i + 1) + j)) ∧ cal (17 * (i + 1) + 7) = (cf 10 (row i)).toInt64) ∧
  ∀ i j, i < k → j < k → cf 3 (row i) = cf 3 (row j) → cf 4 (row i) = cf 4 (row j) → i = j
def QE (e : Nat) (ina kep nws : Int32) (etk ewh eun evr : Nat → Int32) : Prop :=
  ina = nI e ∧ kep = nI (min e 60) ∧ nws = nI ((e + 59) % 60) ∧ ∀ p, p < 60 → evr (3 * p) = etk p ∧ evr (3 * p + 1) = ewh p ∧ evr (3 * p + 2) = eun p
def IN (t : Nat) (tik stp : Int32) : Prop := tik = nI t ∧ ∃ s, s ≤ 1000 ∧ stp = nI s
def Inv (n : Nat) (u : XS) (cal : Nat → Int64) (evr : Nat → Int32) : Prop := ∃ k e t : Nat, (e + k = t ∧ t ≤ n) ∧
  IA (x_cnt u) (x_kys u) ∧ IS (x_sgc u) ∧ ID (x_dsg u) (x_add u) ∧
  QW k (x_rwc u) (x_row u) (x_cf u) (x_rc u) (x_am u) cal ∧
  QE e (x_ina u) (x_kep u) (x_nws u) (x_etk u) (x_ewh u) (x_eun u) evr ∧ IN t (x_tik u) (x_stp u)
theorem Inv.up {n : Nat} {u : XS} {cal : Nat → Int64} {evr : Nat → Int32} (h : Inv n u cal evr) : Inv (n + 1) u cal evr := by
  obtain ⟨k, e, t, hn, r⟩ := h
  exact ⟨k, e, t, ⟨hn.1, by omega⟩, r⟩
abbrev mk (u : XS) (cal : Nat → Int64) (evr : Nat → Int32) (rom : Int32) (bef : Nat → Int64) : MS := (x_cnt u, x_fun u, x_nxt u, x_kys u, x_thr u, x_sgc u, x_sky u, x_sdg u, cal, x_the u, x_dsg u, x_add u, x_rwc u, x_tik u, x_stp u, x_hgt u, x_pai u, x_ina u, evr, rom, bef)
theorem mk_cnt (u : XS) (cal : Nat → Int64) (evr : Nat → Int32) (rom : Int32) (bef : Nat → Int64) : m_cnt (mk u cal evr rom bef) = x_cnt u := rfl
theorem mk_fun (u : XS) (cal : Nat → Int64) (evr : Nat → Int32) (rom : Int32) (bef : Nat → Int64) : m_fun (mk u cal evr rom bef) = x_fun u := rfl
theorem mk_nxt (u : XS) (cal : Nat → Int64) (evr : Nat → Int32) (rom : Int32) (bef : Nat → Int64) : m_nxt (mk u cal evr rom bef) = x_nxt u := rfl
theorem mk_kys (u : XS) (cal : Nat → Int64) (evr : Nat → Int32) (rom : Int32) (bef : Nat → Int64) : m_kys (mk u cal evr rom bef) = x_kys u := rfl
theorem mk_thr (u : XS) (cal : Nat → Int64) (evr : Nat → Int32) (rom : Int32) (bef : Nat → Int64) : m_thr (mk u cal evr rom bef) = x_thr u := rfl
theorem mk_sgc (u : XS) (cal : Nat → Int64) (evr : Nat → Int32) (rom : Int32) (bef : Nat → Int64) : m_sgc (mk u cal evr rom bef) = x_sgc u := rfl
theorem mk_sky (u : XS) (cal : Nat → Int64) (evr : Nat → Int32) (rom : Int32) (bef : Nat → Int64) : m_sky (mk u cal evr rom bef) = x_sky u := rfl
theorem mk_sdg (u : XS) (cal : Nat → Int64) (evr : Nat → Int32) (rom : Int32) (bef : Nat → Int64) : m_sdg (mk u cal evr rom bef) = x_sdg u := rfl
theorem mk_cal (u : XS) (cal : Nat → Int64) (evr : Nat → Int32) (rom : Int32) (bef : Nat → Int64) : m_cal (mk u cal evr rom bef) = cal := rfl
theorem mk_dra (u : XS) (cal : Nat → Int64) (evr : Nat → Int32) (rom : Int32) (bef : Nat → Int64) : m_dra (mk u cal evr rom bef) = x_the u := rfl
theorem mk_min (u : XS) (cal : Nat → Int64) (evr : Nat → Int32) (rom : Int32) (bef : Nat → Int64) : m_min (mk u cal evr rom bef) = x_dsg u := rfl
theorem mk_mny (u : XS) (cal : Nat → Int64) (evr : Nat → Int32) (rom : Int32) (bef : Nat → Int64) : m_mny (mk u cal evr rom bef) = x_add u := rfl
theorem mk_wts (u : XS) (cal : Nat → Int64) (evr : Nat → Int32) (rom : Int32) (bef : Nat → Int64) : m_wts (mk u cal evr rom bef) = x_rwc u := rfl
theorem mk_tik (u : XS) (cal : Nat → Int64) (evr : Nat → Int32) (rom : Int32) (bef : Nat → Int64) : m_tik (mk u cal evr rom bef) = x_tik u := rfl
theorem mk_stp (u : XS) (cal : Nat → Int64) (evr : Nat → Int32) (rom : Int32) (bef : Nat → Int64) : m_stp (mk u cal evr rom bef) = x_stp u := rfl
theorem mk_hgt (u : XS) (cal : Nat → Int64) (evr : Nat → Int32) (rom : Int32) (bef : Nat → Int64) : m_hgt (mk u cal evr rom bef) = x_hgt u := rfl
theorem mk_pai (u : XS) (cal : Nat → Int64) (evr : Nat → Int32) (rom : Int32) (bef : Nat → Int64) : m_pai (mk u cal evr rom bef) = x_pai u := rfl
theorem mk_evs (u : XS) (cal : Nat → Int64) (evr : Nat → Int32) (rom : Int32) (bef : Nat → Int64) : m_evs (mk u cal evr rom bef) = x_ina u := rfl
theorem mk_evr (u : XS) (cal : Nat → Int64) (evr : Nat → Int32) (rom : Int32) (bef : Nat → Int64) : m_evr (mk u cal evr rom bef) = evr := rfl
theorem mk_rom (u : XS) (cal : Nat → Int64) (evr : Nat → Int32) (rom : Int32) (bef : Nat → Int64) : m_rom (mk u cal evr rom bef) = rom := rfl
theorem mk_bef (u : XS) (cal : Nat → Int64) (evr : Nat → Int32) (rom : Int32) (bef : Nat → Int64) : m_bef (mk u cal evr rom bef) = bef := rfl
def OpI (n : Nat) (X : Option (Int32 × XS)) (M : Option (Int32 × MS)) : Prop := ∃ (r : Int32) (u : XS) (cal : Nat → Int64) (evr : Nat → Int32) (rom : Int32) (bef : Nat → Int64), X = some (r, u) ∧ M = some (r, mk u cal evr rom bef) ∧ Inv n u cal evr
theorem e12_toInt : (1000000000000 : Int64).toInt = 1000000000000 := by decide
theorem np (q : Nat) : nI q + (1 : Int32) - (1 : Int32) = nI q := by rw [nI_1, nI_pred]
theorem one0 : ¬ (1 : Int32) = 0 := by decide
section OPS
variable {n : Nat} {u : XS} {cal : Nat → Int64} {evr : Nat → Int32} {rom : Int32} {bef : Nat → Int64}
theorem op_same (h : Inv n u cal evr) (r : Int32) : OpI (n + 1) (some (r, u)) (some (r, mk u cal evr rom bef)) := ⟨r, u, cal, evr, rom, bef, rfl, rfl, h.up⟩
theorem op_account (h : Inv n u cal evr) (a : Int64) (kk th : Int32) : OpI (n + 1) (f_X6_account a kk th u) (f_X7_account a kk th (mk u cal evr rom bef)) := by
  obtain ⟨k, e, t, hn, ⟨⟨q, hq, hc⟩, hky⟩, hS, hD, hW, hE, hN⟩ := id h
  unfold f_X6_account f_X7_account
  rw [amt_eq, in_eq, z64, e12_toInt]
  by_cases ha : (0 : Int) ≤ a.toInt ∧ a.toInt ≤ 1000000000000
  · obtain ⟨b, b1, b2, b3⟩ := isLock_eq kk th
    simp only [if_pos ha, Option.bind_some, b1, b2, if_neg one0, mk_cnt]
    by_cases hb : b = 0
    · simp only [if_pos hb]
      exact op_same h _
    · simp only [if_neg hb]
      by_cases h12 : q = 12
      · subst h12
        rw [hc, if_neg (show ¬ nI 12 < (12 : Int32) from by decide), if_pos (show nI 12 = (12 : Int32) from by decide)]
        exact op_same h _
      · have hlt : q < 12 := by omega
        have hin : inb (nI q) 12 = true := inb_n hlt (by decide)
        have hcl : Int32.toNatClampNeg (nI q) = q := cl_n (by omega)
        unfold f_X0_open f_X0_setLock
        rw [hc, if_pos (show nI q < (12 : Int32) from nI_lt (b := 12) hlt (by decide)), if_neg (show ¬ nI q = (12 : Int32) from fun z => h12 ((nI_eq (b := 12) (by omega) (by decide)).mp z))]
        simp only [if_pos hin, Option.bind_some, hcl]
        obtain ⟨nk, hnk, ek⟩ := b3 hb
        rw [show nI q + (1 : Int32) - (1 : Int32) = nI q from np q]
        refine ⟨_, _, cal, evr, rom, bef, rfl, rfl, k, e, t, ⟨hn.1, by omega⟩, ⟨⟨q + 1, by omega, nI_1 q⟩, ?_⟩, hS, hD, hW, hE, hN⟩
        intro a2 ha2
        show ∃ n, n < 65536 ∧ upd (x_kys u) q kk a2 = nI n
        by_cases e2 : a2 = q
        · subst e2
          rw [pk_us]
          exact ⟨nk, hnk, ek⟩
        · rw [pk_un e2]
          exact hky a2 ha2
  · simp only [if_neg ha, Option.bind_some]
    exact op_same h _
/-- is there such an account: both say so alike -/
theorem acc_eq (h : Inv n u cal evr) (a : Int32) : ∃ b : Int32, f_X0_has a u = some b ∧ f_X7_isAccount a (mk u cal evr rom bef) = some b ∧ (¬ b = 0 → ∃ j, j < 12 ∧ a = nI j) := by
  obtain ⟨k, e, t, hn, ⟨⟨q, hq, hc⟩, hky⟩, hS, hD, hW, hE, hN⟩ := id h
  have h1 := xhas_eq (k := q) (by omega) (a := a) hc
  refine ⟨_, h1, isacc_eq a _, fun hb => ?_⟩
  by_cases hv : (0 : Int) ≤ a.toInt ∧ a.toInt ≤ (x_cnt u - 1).toInt
  · obtain ⟨j, hj, e⟩ := (has_eq (k := q) (by omega) hc).mp hv
    exact ⟨j, by omega, e⟩
  · rw [if_neg hv] at hb
    exact absurd rfl hb
theorem op_lock (h : Inv n u cal evr) (a kk th : Int32) : OpI (n + 1) (f_X6_lock a kk th u) (f_X7_lock a kk th (mk u cal evr rom bef)) := by
  obtain ⟨k, e, t, hn, ⟨⟨q, hq, hc⟩, hky⟩, hS, hD, hW, hE, hN⟩ := id h
  unfold f_X6_lock f_X7_lock
  obtain ⟨g, g1, g2, g3⟩ := acc_eq (rom := rom) (bef := bef) h a
  obtain ⟨b, b1, b2, b3⟩ := isLock_eq kk th
  simp only [g1, g2, Option.bind_some, b1, b2]
  by_cases hg : g = 0
  · simp only [if_pos hg]
    exact op_same h _
  · obtain ⟨j, hj, rfl⟩ := g3 hg
    simp only [if_neg hg]
    by_cases hb : b = 0
    · simp only [if_pos hb]
      exact op_same h _
    · obtain ⟨nk, hnk, ek⟩ := b3 hb
      have hin : inb (nI j) 12 = true := inb_n hj (by decide)
      have hcl : Int32.toNatClampNeg (nI j) = j := cl_n (by omega)
      unfold f_X0_setLock
      simp only [if_neg hb, if_pos hin, Option.bind_some, hcl]
      refine ⟨_, _, cal, evr, rom, bef, rfl, rfl, k, e, t, ⟨hn.1, by omega⟩, ⟨⟨q, hq, hc⟩, ?_⟩, hS, hD, hW, hE, hN⟩
      intro a2 ha2
      show ∃ n, n < 65536 ∧ upd (x_kys u) j kk a2 = nI n
      by_cases e2 : a2 = j
      · subst e2
        rw [pk_us]
        exact ⟨nk, hnk, ek⟩
      · rw [pk_un e2]
        exact hky a2 ha2
theorem op_funds (h : Inv n u cal evr) (a : Int32) : ∃ r, f_X6_funds a u = some r ∧ f_X7_funds a (mk u cal evr rom bef) = some r := by
  unfold f_X6_funds f_X7_funds
  obtain ⟨g, g1, g2, g3⟩ := acc_eq (rom := rom) (bef := bef) h a
  simp only [g1, g2, Option.bind_some]
  by_cases hg : g = 0
  · simp only [if_pos hg]
    exact ⟨_, rfl, rfl⟩
  · obtain ⟨j, hj, rfl⟩ := g3 hg
    simp only [if_neg hg, if_pos (inb_n hj (by decide))]
    exact ⟨_, rfl, rfl⟩
theorem op_next (h : Inv n u cal evr) (a : Int32) : ∃ r, f_X6_next a u = some r ∧ f_X7_next a (mk u cal evr rom bef) = some r := by
  unfold f_X6_next f_X7_next
  obtain ⟨g, g1, g2, g3⟩ := acc_eq (rom := rom) (bef := bef) h a
  simp only [g1, g2, Option.bind_some]
  by_cases hg : g = 0
  · simp only [if_pos hg]
    exact ⟨_, rfl, rfl⟩
  · obtain ⟨j, hj, rfl⟩ := g3 hg
    simp only [if_neg hg, if_pos (inb_n hj (by decide))]
    exact ⟨_, rfl, rfl⟩
theorem op_paid : ∃ r, f_X6_paid u = some r ∧ f_X7_paid (mk u cal evr rom bef) = some r := ⟨_, rfl, rfl⟩
theorem op_told (a : Int32) : ∃ r, f_X6_told a u = some r ∧ f_X7_told_ a (mk u cal evr rom bef) = some r := by
  have h : ∃ r, f_X6_told a u = some r := by
    unfold f_X6_told
    repeat' split
    all_goals exact ⟨_, rfl⟩
  obtain ⟨r, h⟩ := h
  exact ⟨r, h, h⟩
theorem op_sign (h : Inv n u cal evr) (a : Int32) (d : Int64) : OpI (n + 1) (f_X6_sign a d u) (f_X7_sign a d (mk u cal evr rom bef)) := by
  obtain ⟨k, e, t, hn, hA, ⟨q, hq, hc⟩, hD, hW, hE, hN⟩ := id h
  unfold f_X6_sign f_X7_sign
  rw [in_eq, z64, Int32.toInt_toInt64, show (15 : Int64).toInt = 15 from by decide]
  have e0 : (0 : Int32).toInt = 0 := by decide
  have e16 : (16 : Int32).toInt = 16 := by decide
  simp only [Int32.lt_iff_toInt_lt (x := a), e0, e16, mk_sgc, Option.bind_some]
  by_cases h0 : a.toInt < 0
  · simp only [if_pos h0, if_neg (show ¬ ((0 : Int) ≤ a.toInt ∧ a.toInt ≤ 15) by omega), ↓reduceIte]
    exact op_same h _
  · by_cases h1 : a.toInt < 16
    · simp only [if_neg h0, if_pos h1, if_pos (show ((0 : Int) ≤ a.toInt ∧ a.toInt ≤ 15) by omega), if_neg one0, ↓reduceIte]
      by_cases h2 : q = 200
      · subst h2
        rw [hc, if_neg (show ¬ nI 200 < (200 : Int32) from by decide), if_pos (show nI 200 = (200 : Int32) from by decide)]
        exact op_same h _
      · have hlt : q < 200 := by omega
        have hin : inb (nI q) 200 = true := inb_n hlt (by decide)
        have hcl : Int32.toNatClampNeg (nI q) = q := cl_n (by omega)
        unfold f_X4_keep
        rw [hc, if_pos (show nI q < (200 : Int32) from nI_lt (b := 200) hlt (by decide)), if_neg (show ¬ nI q = (200 : Int32) from fun z => h2 ((nI_eq (b := 200) (by omega) (by decide)).mp z))]
        simp only [if_pos hin, Option.bind_some, hcl]
        rw [show nI q + (1 : Int32) - (1 : Int32) = nI q from np q]
        exact ⟨_, _, cal, evr, rom, bef, rfl, rfl, k, e, t, ⟨hn.1, by omega⟩, hA, ⟨q + 1, by omega, nI_1 q⟩, hD, hW, hE, hN⟩
    · simp only [if_neg h0, if_neg h1, if_neg (show ¬ ((0 : Int) ≤ a.toInt ∧ a.toInt ≤ 15) by omega), ↓reduceIte]
      exact op_same h _
theorem op_step (h : Inv n u cal evr) (a : Int32) : OpI (n + 1) (f_X6_step a u) (f_X7_step a (mk u cal evr rom bef)) := by
  obtain ⟨k, e, t, hn, hA, hS, hD, hW, hE, hN⟩ := id h
  unfold f_X6_step f_X7_step
  rw [in_eq, Int32.toInt_toInt64, show (1 : Int64).toInt = 1 from by decide, show (1000 : Int64).toInt = 1000 from by decide]
  have e0 : (1 : Int32).toInt = 1 := by decide
  have e16 : (1000 : Int32).toInt = 1000 := by decide
  simp only [Int32.lt_iff_toInt_lt (x := a), Int32.le_iff_toInt_le (x := a), e0, e16, Option.bind_some]
  by_cases h0 : a.toInt < 1
  · simp only [if_pos h0, if_neg (show ¬ ((1 : Int) ≤ a.toInt ∧ a.toInt ≤ 1000) by omega), ↓reduceIte]
    exact op_same h _
  · by_cases h1 : a.toInt ≤ 1000
    · simp only [if_neg h0, if_pos h1, if_pos (show ((1 : Int) ≤ a.toInt ∧ a.toInt ≤ 1000) by omega), if_neg one0, ↓reduceIte]
      refine ⟨_, _, cal, evr, rom, bef, rfl, rfl, k, e, t, ⟨hn.1, by omega⟩, hA, hS, hD, hW, hE, hN.1, a.toInt.toNat, by omega, ?_⟩
      show a = _
      rw [← Int32.toInt_inj, nI_toInt (by omega)]
      omega
    · simp only [if_neg h0, if_neg h1, if_neg (show ¬ ((1 : Int) ≤ a.toInt ∧ a.toInt ≤ 1000) by omega), ↓reduceIte]
      exact op_same h _
end OPS
