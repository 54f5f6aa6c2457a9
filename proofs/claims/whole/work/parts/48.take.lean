/-! ===== one is taken out of the row ===== -/
section TK
variable {n : Nat} {u : XS} {cal : Nat → Int64} {evr : Nat → Int32} {rom : Int32} {bef : Nat → Int64} {k p : Nat}
def rsf (row : Nat → Nat) (p i : Nat) : Nat → Nat := fun j => if p ≤ j ∧ j + 1 < i then row (j + 1) else row j
def rsT (row : Nat → Nat) (p k : Nat) : Nat → Nat := va_up (rsf row p k) (k - 1) (row p)
def csf (cal : Nat → Int64) (p j : Nat) : Nat → Int64 := fun x => if 17 * (p + 1) ≤ x ∧ x < j then cal (x + 17) else cal x
def sgT (p k i : Nat) : Nat := if i = k - 1 then p else if p ≤ i ∧ i + 1 < k then i + 1 else i
theorem rsT_sg (row : Nat → Nat) (p k i : Nat) : rsT row p k i = row (sgT p k i) := by
  simp only [rsT, rsf, sgT, va_up]
  by_cases h1 : i = k - 1
  · rw [if_pos h1, if_pos h1]
  · rw [if_neg h1, if_neg h1]
    by_cases h2 : p ≤ i ∧ i + 1 < k
    · rw [if_pos h2, if_pos h2]
    · rw [if_neg h2, if_neg h2]
theorem take_loop (h2 : x_rwc u = nI k) (hk : k ≤ 24) (h3 : ∀ i, i < 24 → 1 ≤ x_row u i ∧ x_row u i < 25) (l1 : Int32) (c : Nat) : ∀ (n i : Nat) (l : Int32) (w : XS), l = nI i → w = xs_row u (rsf (x_row u) p i) → p + 1 ≤ i → i ≤ k → k < i + n → f_X5_take_11 n l1 c l w = some (c, xs_row (xs_rwc u (nI (k - 1))) (va_up (rsf (x_row u) p k) (k - 1) c)) := by
  intro n
  induction n with
  | zero => intro i l w _ _ h4 h5 h6; omega
  | succ n ih =>
    intro i l w el ew h4 h5 h6
    subst el ew
    have e1 : x_rwc (xs_row u (rsf (x_row u) p i)) = nI k := h2
    have e2 : x_row (xs_row u (rsf (x_row u) p i)) = rsf (x_row u) p i := rfl
    rw [f_X5_take_11, e1, e2]
    have hk1 : nI k - (1 : Int32) = nI (k - 1) := pk_sub (a := k) (b := 1) (by omega)
    by_cases hi : i = k
    · subst hi
      rw [if_pos (nI_le (Nat.le_refl _) (by omega)), hk1, if_pos (inb_n (show i - 1 < 24 by omega) (by decide)), cl_n (show i - 1 < 2 ^ 31 by omega)]
    · have hi1 : nI i - (1 : Int32) = nI (i - 1) := pk_sub (a := i) (b := 1) (by omega)
      have er : rsf (x_row u) p i i = x_row u i := by
        unfold rsf
        rw [if_neg (by omega)]
      rw [if_neg (nI_ge (show i < k by omega) (by omega)), if_pos (inb_n (show i < 24 by omega) (by decide)), cl_n (show i < 2 ^ 31 by omega), er, if_pos (h3 i (by omega)).2, hi1, if_pos (inb_n (show i - 1 < 24 by omega) (by decide)), cl_n (show i - 1 < 2 ^ 31 by omega)]
      refine ih (i + 1) _ _ (nI_1 i) ?_ (by omega) (by omega) (by omega)
      have ef : va_up (rsf (x_row u) p i) (i - 1) (x_row u i) = rsf (x_row u) p (i + 1) := by
        funext j
        unfold va_up rsf
        by_cases hj : j = i - 1
        · subst hj
          rw [if_pos rfl, if_pos (by omega)]
          congr 1
          omega
        · rw [if_neg hj]
          by_cases hq : p ≤ j ∧ j + 1 < i
          · rw [if_pos hq, if_pos (by omega)]
          · rw [if_neg hq, if_neg (by omega)]
      rw [ef]
def TX (p k : Nat) (u : XS) : XS := xs_row (xs_rwc u (nI (k - 1))) (rsT (x_row u) p k)
theorem take_X (hW : QW k (x_rwc u) (x_row u) (x_cf u) (x_rc u) (x_am u) cal) (hp : p < k) : f_X5_take (nI p) u = some (x_row u p, TX p k u) := by
  obtain ⟨h1, h2, h3, -, -, -, -⟩ := id hW
  unfold f_X5_take
  rw [if_pos (inb_n (show p < 24 by omega) (by decide)), cl_n (show p < 2 ^ 31 by omega), if_pos (h3 p (by omega)).2]
  refine take_loop (p := p) h2 h1 h3 (nI p) (x_row u p) 1000 (p + 1) _ _ (nI_1 p) ?_ (by omega) (by omega) (by omega)
  have ef : rsf (x_row u) p (p + 1) = x_row u := by
    funext j
    unfold rsf
    rw [if_neg (by omega)]
  rw [ef]
theorem out_loop {v0 : MS} (hk : k ≤ 24) (h2 : m_wts v0 = nI k) (l1 : Int32) : ∀ (n j : Nat) (l : Int32) (v : MS), l = nI j → v = ms_cal v0 (csf (m_cal v0) p j) → 17 * (p + 1) ≤ j → j ≤ 17 * k → 17 * k < j + n → f_X7_takeOut_5 n l1 l v = some (ms_wts (ms_cal v0 (csf (m_cal v0) p (17 * k))) (nI (k - 1))) := by
  intro n
  induction n with
  | zero => intro j l v _ _ h4 h5 h6; omega
  | succ n ih =>
    intro j l v el ev h4 h5 h6
    subst el ev
    have e1 : m_wts (ms_cal v0 (csf (m_cal v0) p j)) = nI k := h2
    have e2 : m_cal (ms_cal v0 (csf (m_cal v0) p j)) = csf (m_cal v0) p j := rfl
    have e3 : (17 : Int32) * nI k = nI (17 * k) := pk_mul 17 k
    rw [f_X7_takeOut_5, e1, e2, e3]
    by_cases hj : j = 17 * k
    · subst hj
      have hk1 : nI k - (1 : Int32) = nI (k - 1) := pk_sub (a := k) (b := 1) (by omega)
      rw [if_pos (nI_le (Nat.le_refl _) (by omega)), hk1]
    · have e4 : nI j + (17 : Int32) = nI (j + 17) := nI_add j 17
      have e5 : csf (m_cal v0) p j (j + 17) = m_cal v0 (j + 17) := by
        unfold csf
        rw [if_neg (by omega)]
      rw [if_neg (nI_ge (show j < 17 * k by omega) (by omega)), e4, if_pos (inb_n (show j + 17 < 442 by omega) (by decide)), if_pos (inb_n (show j < 442 by omega) (by decide)), cl_n (show j < 2 ^ 31 by omega), cl_n (show j + 17 < 2 ^ 31 by omega), e5]
      refine ih (j + 1) _ _ (nI_1 j) ?_ (by omega) (by omega) (by omega)
      have ef : vp_updL (csf (m_cal v0) p j) j (m_cal v0 (j + 17)) = csf (m_cal v0) p (j + 1) := by
        funext x
        unfold vp_updL csf
        by_cases hx : x = j
        · subst hx
          rw [if_pos rfl, if_pos (by omega)]
        · rw [if_neg hx]
          by_cases hq : 17 * (p + 1) ≤ x ∧ x < j
          · rw [if_pos hq, if_pos (by omega)]
          · rw [if_neg hq, if_neg (by omega)]
      rw [ef]
def CT (cal : Nat → Int64) (p k : Nat) : Nat → Int64 := csf cal p (17 * k)
theorem take_M (hk : k ≤ 24) (h2 : x_rwc u = nI k) (hp : p < k) : f_X7_takeOut (nI (p + 1)) (mk u cal evr rom bef) = some (mk (TX p k u) (CT cal p k) evr rom bef) := by
  unfold f_X7_takeOut
  have e3 : (17 : Int32) * nI (p + 1) = nI (17 * (p + 1)) := pk_mul 17 (p + 1)
  refine (out_loop (v0 := mk u cal evr rom bef) (p := p) hk h2 (nI (p + 1)) 1000 (17 * (p + 1)) _ _ e3 ?_ (by omega) (by omega) (by omega)).trans rfl
  have ef : csf cal p (17 * (p + 1)) = cal := by
    funext j
    unfold csf
    rw [if_neg (by omega)]
  show _ = ms_cal (mk u cal evr rom bef) (csf cal p (17 * (p + 1)))
  rw [ef]
theorem sgT_lt {i : Nat} (hp : p < k) (hk : k ≤ 24) (hi : i < 24) : sgT p k i < 24 := by
  unfold sgT
  by_cases h1 : i = k - 1
  · rw [if_pos h1]; omega
  · rw [if_neg h1]
    by_cases h2 : p ≤ i ∧ i + 1 < k
    · rw [if_pos h2]; omega
    · rw [if_neg h2]; omega
theorem sgT_inj {i j : Nat} (hp : p < k) (h : sgT p k i = sgT p k j) : i = j := by
  unfold sgT at h
  repeat' split at h
  all_goals omega
theorem sgT_k {i : Nat} (hp : p < k) (hi : i < k - 1) : sgT p k i < k ∧ ((i < p ∧ sgT p k i = i) ∨ (p ≤ i ∧ sgT p k i = i + 1)) := by
  unfold sgT
  rw [if_neg (show ¬ i = k - 1 by omega)]
  by_cases h2 : p ≤ i ∧ i + 1 < k
  · rw [if_pos h2]; omega
  · rw [if_neg h2]; omega
theorem take_W {rwc : Int32} {row : Nat → Nat} {cf rc : Nat → Nat → Int32} {am : Nat → Nat → Int64} (hW : QW k rwc row cf rc am cal) (hp : p < k) : QW (k - 1) (nI (k - 1)) (rsT row p k) cf rc am (CT cal p k) := by
  obtain ⟨h1, h2, h3, h4, h5, h6, h7⟩ := hW
  refine ⟨by omega, rfl, fun i hi => ?_, fun i j hi hj e => ?_, ?_, fun i hi => ?_, fun i j hi hj e1 e2 => ?_⟩
  · rw [rsT_sg]
    exact h3 _ (sgT_lt hp h1 hi)
  · rw [rsT_sg, rsT_sg] at e
    exact sgT_inj hp (h4 _ _ (sgT_lt hp h1 hi) (sgT_lt hp h1 hj) e)
  · exact h5.congr (fun _ _ => rfl) rfl rfl (fun j hj => by
      unfold CT csf
      rw [if_neg (by omega)])
  · obtain ⟨s1, s2⟩ := sgT_k hp hi
    obtain ⟨c1, c2⟩ := h6 _ s1
    have hc : ∀ j, j < 17 → CT cal p k (17 * (i + 1) + j) = cal (17 * (sgT p k i + 1) + j) := by
      intro j hj
      unfold CT csf
      rcases s2 with ⟨q1, q2⟩ | ⟨q1, q2⟩
      · rw [if_neg (by omega), q2]
      · rw [if_pos (by omega), q2]
        congr 1
        omega
    rw [rsT_sg]
    exact ⟨c1.congr (fun _ _ => rfl) rfl rfl hc, by rw [hc 7 (by decide)]; exact c2⟩
  · obtain ⟨s1, -⟩ := sgT_k hp hi
    obtain ⟨s2, -⟩ := sgT_k hp hj
    rw [rsT_sg, rsT_sg] at e1 e2
    exact sgT_inj hp (h7 _ _ s1 s2 e1 e2)
end TK
