/-! ===== the row and the events: answers, one out, one event ===== -/
section RW
variable {n : Nat} {u : XS} {cal : Nat → Int64} {evr : Nat → Int32} {rom : Int32} {bef : Nat → Int64} {k : Nat}
theorem op_waiting (h : Inv n u cal evr) (a b : Int32) : ∃ r, f_X6_waiting a b u = some r ∧ f_X7_waiting a b (mk u cal evr rom bef) = some r := by
  obtain ⟨k, e, t, hn, hA, hS, hD, hW, hE, hN⟩ := id h
  obtain ⟨h1, h2, h3, -, -, -, -⟩ := id hW
  have hh := has_eq (k := k) (by omega) (a := a) h2
  unfold f_X6_waiting f_X7_waiting
  simp only [in_eq, z64, Int32.toInt_toInt64, mk_wts, Option.bind_some]
  by_cases hv : (0 : Int) ≤ a.toInt ∧ a.toInt ≤ (x_rwc u - 1).toInt
  · obtain ⟨i, hi, rfl⟩ := hh.mp hv
    have hin : inb (nI i) 24 = true := inb_n (show i < 24 by omega) (by decide)
    have hci : Int32.toNatClampNeg (nI i) = i := cl_n (by omega)
    obtain ⟨a0, a1, a2, a3, a4, a5, a6, a7⟩ := row0 hW hi
    have hw : i + 1 ≤ 25 := by omega
    simp only [if_pos hv, if_neg one0]
    simp only [h2, if_neg (nI_pos (show i < 2 ^ 31 by omega)), if_pos (nI_lt hi (by omega)), if_pos hin, hci, if_pos (h3 i (by omega)).2, nI_1, mk_cal]
    have e3 : (3 : Int64).toInt = 3 := by decide
    simp only [e3]
    by_cases b0 : b = 0
    · subst b0
      refine ⟨_, rfl, ?_⟩
      simp only [show (0 : Int) ≤ (0 : Int32).toInt ∧ (0 : Int32).toInt ≤ 3 from by decide, and_self, ↓reduceIte, if_neg one0]
      rw [ixw (i + 1) 7 7 rfl, if_pos (inw hw (by decide)), cl_n (by omega), a7, i64_32]
    simp only [if_neg b0]
    by_cases b1 : b = 1
    · subst b1
      refine ⟨_, rfl, ?_⟩
      simp only [show (0 : Int) ≤ (1 : Int32).toInt ∧ (1 : Int32).toInt ≤ 3 from by decide, and_self, ↓reduceIte, if_neg one0]
      rw [ixw (i + 1) 0 (1 - 1) (by decide), if_pos (inw hw (by decide)), cl_n (by omega), a0, i64_32]
    simp only [if_neg b1]
    by_cases b2 : b = 2
    · subst b2
      refine ⟨_, rfl, ?_⟩
      simp only [show (0 : Int) ≤ (2 : Int32).toInt ∧ (2 : Int32).toInt ≤ 3 from by decide, and_self, ↓reduceIte, if_neg one0]
      rw [ixw (i + 1) 1 (2 - 1) (by decide), if_pos (inw hw (by decide)), cl_n (by omega), a1, i64_32]
    simp only [if_neg b2]
    by_cases b3 : b = 3
    · subst b3
      refine ⟨_, rfl, ?_⟩
      simp only [show (0 : Int) ≤ (3 : Int32).toInt ∧ (3 : Int32).toInt ≤ 3 from by decide, and_self, ↓reduceIte, if_neg one0]
      rw [ixw (i + 1) 2 (3 - 1) (by decide), if_pos (inw hw (by decide)), cl_n (by omega), a2, i64_32]
    simp only [if_neg b3]
    have n0 := lv_neT (a := 0) b0 (by decide)
    have n1 := lv_neT (a := 1) b1 (by decide)
    have n2 := lv_neT (a := 2) b2 (by decide)
    have n3 := lv_neT (a := 3) b3 (by decide)
    refine ⟨-1, rfl, ?_⟩
    rw [if_neg (show ¬ ((0 : Int) ≤ b.toInt ∧ b.toInt ≤ 3) by omega), if_pos rfl]
  · refine ⟨-1, ?_, ?_⟩
    · rcases pk_ix a (n := k) (by omega) with q | q | ⟨j, hj, rfl⟩
      · rw [if_pos q]
      · by_cases q0 : a < 0
        · rw [if_pos q0]
        · rw [if_neg q0, h2, if_neg (fun z => by
            rw [Int32.lt_iff_toInt_lt] at z
            rw [Int32.le_iff_toInt_le] at q
            omega)]
      · exact absurd (hh.mpr ⟨j, hj, rfl⟩) hv
    · rw [if_neg hv, if_pos rfl]
theorem place_eq {e i : Nat} (hi : i < e) (h60 : i < 60) (he : e < 2 ^ 30) (hq : x_nws u = nI ((e + 59) % 60)) : f_X3_placeOf (nI i) u = some (nI ((e - 1 - i) % 60)) := by
  unfold f_X3_placeOf
  rw [hq]
  by_cases hx : i ≤ (e + 59) % 60
  · rw [pk_sub hx, if_neg (nI_pos (by omega))]
    congr 2
    omega
  · rw [if_pos (pk_sneg (by omega) (by omega))]
    congr 1
    have e1 : nI ((e - 1 - i) % 60) = nI ((e + 59) % 60 + 60) - nI i := by
      rw [pk_sub (by omega)]
      congr 1
      omega
    rw [e1, ← nI_add]
    show nI ((e + 59) % 60) - nI i + nI 60 = _
    grind
theorem ev_i1 {e i : Nat} (h : i < e) : (nI e - (1 : Int32)) - nI i = nI (e - 1 - i) := by
  rw [show (1 : Int32) = nI 1 from rfl, pk_sub (a := e) (b := 1) (by omega), pk_sub (a := e - 1) (b := i) (by omega)]
theorem op_event (h : Inv n u cal evr) (hn5 : n ≤ 512) (a b : Int32) : ∃ r, f_X6_event a b u = some r ∧ f_X7_event a b (mk u cal evr rom bef) = some r := by
  obtain ⟨k, e, t, hn, hA, hS, hD, hW, ⟨w1, w2, w3, w4⟩, hN⟩ := id h
  have hM : f_X7_event a b (mk u cal evr rom bef) = (if (0 : Int) ≤ a.toInt ∧ a.toInt ≤ (x_kep u - 1).toInt then (if (0 : Int) ≤ b.toInt ∧ b.toInt ≤ 2 then (if inb (((3 : Int32) * ((((x_ina u) - (1 : Int32)) - a) - (((x_ina u) - (1 : Int32)) - a) / (60 : Int32) * (60 : Int32))) + b) 180 = true then some (evr (Int32.toNatClampNeg (((3 : Int32) * ((((x_ina u) - (1 : Int32)) - a) - (((x_ina u) - (1 : Int32)) - a) / (60 : Int32) * (60 : Int32))) + b))) else none) else some (-1)) else some (-1)) := by
    unfold f_X7_event
    simp only [in_eq, z64, Int32.toInt_toInt64, mk_evs, mk_evr, Option.bind_some, show (2 : Int64).toInt = 2 from by decide]
    have hk : (if (60 : Int32) ≤ x_ina u then (60 : Int32) else x_ina u) = x_kep u := by
      rw [w1, w2]
      by_cases z : 60 ≤ e
      · rw [if_pos (show (60 : Int32) ≤ nI e from nI_le (a := 60) z (by omega)), Nat.min_eq_right z]
        rfl
      · rw [if_neg (show ¬ (60 : Int32) ≤ nI e from nI_ge (b := 60) (by omega) (by decide)), Nat.min_eq_left (by omega)]
    by_cases z : (60 : Int32) ≤ x_ina u
    · rw [if_pos z] at hk ⊢
      rw [← hk]
      by_cases v1 : (0 : Int) ≤ a.toInt ∧ a.toInt ≤ ((60 : Int32) - 1).toInt
      · rw [if_pos v1, if_pos v1, if_neg one0]
        by_cases v2 : (0 : Int) ≤ b.toInt ∧ b.toInt ≤ 2
        · rw [if_pos v2, if_pos v2, if_neg one0]
        · rw [if_neg v2, if_neg v2, if_pos rfl]
      · rw [if_neg v1, if_neg v1, if_pos rfl]
    · rw [if_neg z] at hk ⊢
      rw [← hk]
      by_cases v1 : (0 : Int) ≤ a.toInt ∧ a.toInt ≤ (x_ina u - 1).toInt
      · rw [if_pos v1, if_pos v1, if_neg one0]
        by_cases v2 : (0 : Int) ≤ b.toInt ∧ b.toInt ≤ 2
        · rw [if_pos v2, if_pos v2, if_neg one0]
        · rw [if_neg v2, if_neg v2, if_pos rfl]
      · rw [if_neg v1, if_neg v1, if_pos rfl]
  rw [hM]
  have hh := has_eq (k := min e 60) (by omega) (a := a) w2
  unfold f_X6_event
  by_cases hv : (0 : Int) ≤ a.toInt ∧ a.toInt ≤ (x_kep u - 1).toInt
  · obtain ⟨i, hi, rfl⟩ := hh.mp hv
    rw [if_pos hv, if_neg (nI_pos (by omega)), w2, if_pos (nI_lt hi (by omega)), place_eq (show i < e by omega) (by omega) (by omega) w3, w1]
    have hp : (e - 1 - i) % 60 < 60 := Nat.mod_lt _ (by decide)
    have i1 : (nI e - (1 : Int32)) - nI i = nI (e - 1 - i) := ev_i1 (Nat.lt_of_lt_of_le hi (Nat.min_le_left _ _))
    have i2 : nI (e - 1 - i) - nI (e - 1 - i) / (60 : Int32) * (60 : Int32) = nI ((e - 1 - i) % 60) := pk_rem (d := 60) (by omega) (by decide) (by decide)
    rw [i1, i2]
    generalize (e - 1 - i) % 60 = p at *
    obtain ⟨z0, z1, z2⟩ := w4 p hp
    have i3 : ∀ (j : Nat) (J : Int32), J = nI j → (3 : Int32) * nI p + J = nI (3 * p + j) := by
      intro j J hJ
      subst hJ
      rw [show (3 : Int32) = nI 3 from rfl, pk_mul, nI_add]
    have hin : inb (nI p) 60 = true := inb_n hp (by decide)
    have hcp : Int32.toNatClampNeg (nI p) = p := cl_n (by omega)
    simp only [Option.bind_some, if_pos hin, hcp]
    by_cases b0 : b = 0
    · subst b0
      refine ⟨_, rfl, ?_⟩
      rw [if_pos (by decide), i3 0 0 rfl, if_pos (inb_n (by omega) (by decide)), cl_n (by omega), Nat.add_zero, z0]
    simp only [if_neg b0]
    by_cases b1 : b = 1
    · subst b1
      refine ⟨_, rfl, ?_⟩
      rw [if_pos (by decide), i3 1 1 rfl, if_pos (inb_n (by omega) (by decide)), cl_n (by omega), z1]
    simp only [if_neg b1]
    by_cases b2 : b = 2
    · subst b2
      refine ⟨_, rfl, ?_⟩
      rw [if_pos (by decide), i3 2 2 rfl, if_pos (inb_n (by omega) (by decide)), cl_n (by omega), z2]
    simp only [if_neg b2]
    have n0 := lv_neT (a := 0) b0 (by decide)
    have n1 := lv_neT (a := 1) b1 (by decide)
    have n2 := lv_neT (a := 2) b2 (by decide)
    refine ⟨-1, rfl, ?_⟩
    rw [if_neg (by omega)]
  · refine ⟨-1, ?_, by rw [if_neg hv]⟩
    rcases pk_ix a (n := min e 60) (by omega) with q | q | ⟨j, hj, rfl⟩
    · rw [if_pos q]
    · by_cases q0 : a < 0
      · rw [if_pos q0]
      · rw [if_neg q0, w2, if_neg (fun z => by
          rw [Int32.lt_iff_toInt_lt] at z
          rw [Int32.le_iff_toInt_le] at q
          omega)]
    · exact absurd (hh.mpr ⟨j, hj, rfl⟩) hv
def NX (t w un : Int32) (e : Nat) (u : XS) : XS := xs_ina (xs_kep (xs_eun (xs_ewh (xs_etk (xs_nws u (nI (e % 60))) (upd (x_etk u) (e % 60) t)) (upd (x_ewh u) (e % 60) w)) (upd (x_eun u) (e % 60) un)) (nI (min (e + 1) 60))) (nI (e + 1))
def NE (t w un : Int32) (e : Nat) (evr : Nat → Int32) : Nat → Int32 := upd (upd (upd evr (3 * (e % 60)) t) (3 * (e % 60) + 1) w) (3 * (e % 60) + 2) un
theorem note_X {e : Nat} (he : e < 2 ^ 30) (hE : QE e (x_ina u) (x_kep u) (x_nws u) (x_etk u) (x_ewh u) (x_eun u) evr) (t w un : Int32) : f_X3_note t w un u = some (NX t w un e u) := by
  obtain ⟨w1, w2, w3, w4⟩ := hE
  have hk : (if (60 : Int32) < ((x_kep u) + (1 : Int32)) then (60 : Int32) else ((x_kep u) + (1 : Int32))) = nI (min (e + 1) 60) := by
    rw [w2, nI_1]
    by_cases z : 60 ≤ e
    · rw [if_pos (show (60 : Int32) < nI (min e 60 + 1) from nI_lt (a := 60) (by omega) (by omega)), Nat.min_eq_right (by omega)]
      rfl
    · rw [if_neg (show ¬ (60 : Int32) < nI (min e 60 + 1) from nI_nlt (a := 60) (by omega) (by decide))]
      congr 1
      omega
  unfold f_X3_note
  rw [hk, w1, w3, nI_1, nI_1]
  by_cases z : (e + 59) % 60 = 59
  · rw [if_pos (show (60 : Int32) ≤ nI ((e + 59) % 60 + 1) from nI_le (a := 60) (by omega) (by omega))]
    have hin : inb (0 : Int32) 60 = true := by decide
    have z2 : e % 60 = 0 := by omega
    simp only [if_pos hin, tn0]
    unfold NX
    rw [z2]
    rfl
  · rw [if_neg (show ¬ (60 : Int32) ≤ nI ((e + 59) % 60 + 1) from nI_ge (b := 60) (by omega) (by decide))]
    have z2 : (e + 59) % 60 + 1 = e % 60 := by omega
    rw [z2]
    have hin : inb (nI (e % 60)) 60 = true := inb_n (by omega) (by decide)
    simp only [if_pos hin, cl_n (show e % 60 < 2 ^ 31 by omega)]
    rfl
theorem note_M {e : Nat} (he : e < 2 ^ 30) (hE : QE e (x_ina u) (x_kep u) (x_nws u) (x_etk u) (x_ewh u) (x_eun u) evr) (t w un : Int32) : f_X7_comes t w un (mk u cal evr rom bef) = some (mk (NX t w un e u) cal (NE t w un e evr) rom bef) := by
  obtain ⟨w1, w2, w3, w4⟩ := hE
  unfold f_X7_comes
  have i2 : nI e - nI e / (60 : Int32) * (60 : Int32) = nI (e % 60) := pk_rem (d := 60) (by omega) (by decide) (by decide)
  have i3 : (3 : Int32) * nI (e % 60) = nI (3 * (e % 60)) := pk_mul 3 _
  rw [mk_evs, w1, i2, i3, nI_1, show nI (3 * (e % 60)) + (2 : Int32) = nI (3 * (e % 60) + 2) from nI_add _ 2, if_pos (inb_n (by omega) (by decide)), if_pos (inb_n (by omega) (by decide)), if_pos (inb_n (by omega) (by decide)), cl_n (show 3 * (e % 60) < 2 ^ 31 by omega), cl_n (show 3 * (e % 60) + 1 < 2 ^ 31 by omega), cl_n (show 3 * (e % 60) + 2 < 2 ^ 31 by omega), mk_evr, nI_1]
  rfl
theorem note_E {e : Nat} (hE : QE e (x_ina u) (x_kep u) (x_nws u) (x_etk u) (x_ewh u) (x_eun u) evr) (t w un : Int32) : QE (e + 1) (nI (e + 1)) (nI (min (e + 1) 60)) (nI (e % 60)) (upd (x_etk u) (e % 60) t) (upd (x_ewh u) (e % 60) w) (upd (x_eun u) (e % 60) un) (NE t w un e evr) := by
  obtain ⟨w1, w2, w3, w4⟩ := hE
  refine ⟨rfl, rfl, ?_, fun p hp => ?_⟩
  · congr 1
    omega
  · unfold NE
    obtain ⟨z0, z1, z2⟩ := w4 p hp
    by_cases hq : p = e % 60
    · subst hq
      refine ⟨?_, ?_, ?_⟩
      · rw [pk_un (by omega), pk_un (by omega), pk_us, pk_us]
      · rw [pk_un (by omega), pk_us, pk_us]
      · rw [pk_us, pk_us]
    · refine ⟨?_, ?_, ?_⟩
      · rw [pk_un (by omega), pk_un (by omega), pk_un (by omega), pk_un hq, z0]
      · rw [pk_un (by omega), pk_un (by omega), pk_un (by omega), pk_un hq, z1]
      · rw [pk_un (by omega), pk_un (by omega), pk_un (by omega), pk_un hq, z2]
end RW
