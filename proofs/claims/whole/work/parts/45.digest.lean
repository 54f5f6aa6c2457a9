/-! ===== digests and signatures ===== -/
def dg (f : Nat → Int64) (h : Int64) : Nat → Int64
  | 0 => h
  | i + 1 => (31 : Int64) * dg f h i + f i
theorem dg15 (v : MS) : ∀ (n i : Nat) (h : Int64) (l : Int32), l = nI i → h = dg (m_cal v) 17 i → i ≤ 7 → 7 < i + n → f_X7_digest_15 n h l v = f_X7_digest_42 1000 (dg (m_cal v) 17 7) 0 v := by
  intro n
  induction n with
  | zero => intro i h l _ _ h1 h2; omega
  | succ n ih =>
    intro i h l el eh h1 h2
    subst el
    rw [f_X7_digest_15]
    by_cases hi : i = 7
    · subst hi
      rw [if_pos (show (7 : Int32) ≤ nI 7 from nI_le (Nat.le_refl _) (by decide)), eh]
    · rw [if_neg (show ¬ (7 : Int32) ≤ nI i from nI_ge (show i < 7 by omega) (by decide)), if_pos (inb_n (show i < 442 by omega) (by decide)), cl_n (by omega)]
      exact ih (i + 1) _ _ (nI_1 i) (by rw [eh, dg]) (by omega) (by omega)
theorem dg42 (v : MS) {a : Nat} (ha : a ≤ 4) (h8 : m_cal v 8 = lN a) (h0 : Int64) : ∀ (n i : Nat) (h : Int64) (l : Int32), l = nI i → h = dg (fun k => m_cal v (9 + k)) h0 i → i ≤ 2 * a → 2 * a < i + n → f_X7_digest_42 n h l v = some (dg (fun k => m_cal v (9 + k)) h0 (2 * a)) := by
  intro n
  induction n with
  | zero => intro i h l _ _ h1 h2; omega
  | succ n ih =>
    intro i h l el eh h1 h2
    subst el
    rw [f_X7_digest_42, tn8, h8, if_pos ib8, show (2 : Int64) * lN a = lN (2 * a) from lN_mul 2 a, nI_l (show i < 2 ^ 31 by omega)]
    by_cases hi : i = 2 * a
    · subst hi
      rw [if_pos ((lN_le (by omega) (by omega)).mpr (Nat.le_refl _)), eh]
    · rw [if_neg (fun q => hi (Nat.le_antisymm h1 ((lN_le (by omega) (by omega)).mp q))), show (9 : Int32) + nI i = nI (9 + i) from nI_add 9 i, if_pos (inb_n (show 9 + i < 442 by omega) (by decide)), cl_n (show 9 + i < 2 ^ 31 by omega)]
      exact ih (i + 1) _ _ (nI_1 i) (by rw [eh, dg]) (by omega) (by omega)
theorem dg90 {u : XS} {c a : Nat} (h2 : x_cf u 2 c = nI a) (ha : a ≤ 4) (g : Nat → Int64) (hg : ∀ k, k < a → g (2 * k) = (x_rc u c k).toInt64 ∧ g (2 * k + 1) = x_am u c k) (h0 : Int64) : ∀ (n i : Nat) (h : Int64) (l : Int32), l = nI i → h = dg g h0 (2 * i) → i ≤ a → a < i + n → f_X1_computeDigest_90 n c h l u = some (dg g h0 (2 * a)) := by
  intro n
  induction n with
  | zero => intro i h l _ _ h1 h2; omega
  | succ n ih =>
    intro i h l el eh h1 h3
    subst el
    rw [f_X1_computeDigest_90, h2]
    by_cases hi : i = a
    · subst hi
      rw [if_pos (nI_le (Nat.le_refl _) (by omega)), eh]
    · have hin : inb (nI i) 4 = true := inb_n (show i < 4 by omega) (by decide)
      obtain ⟨g1, g2⟩ := hg i (by omega)
      rw [if_neg (nI_ge (show i < a by omega) (by omega)), if_pos hin, if_pos hin, cl_n (by omega), ← g1, ← g2]
      exact ih (i + 1) _ _ (nI_1 i) (by rw [eh, show 2 * (i + 1) = 2 * i + 1 + 1 from rfl, dg, dg]) (by omega) (by omega)
section DIG
variable {n : Nat} {u : XS} {cal : Nat → Int64} {evr : Nat → Int32} {rom : Int32} {bef : Nat → Int64}
theorem dig_eq (h : CR (x_cf u) (x_rc u) (x_am u) 0 cal) (ht : ¬ x_the u = 0) : ∃ D, f_X1_computeDigest 0 u = some D ∧ f_X7_digest (mk u cal evr rom bef) = some D := by
  obtain ⟨⟨a0, a1, a2, a3, a4, a5, a6⟩, ⟨m, ha, hb, hc, hd⟩, ho, hs, hp⟩ := h
  have hM : f_X7_digest_15 1000 17 0 (mk u cal evr rom bef) = f_X7_digest_42 1000 (dg cal 17 7) 0 (mk u cal evr rom bef) := dg15 (mk u cal evr rom bef) 1000 0 17 0 rfl rfl (by decide) (by decide)
  have hM2 : f_X7_digest_42 1000 (dg cal 17 7) 0 (mk u cal evr rom bef) = some (dg (fun k => cal (9 + k)) (dg cal 17 7) (2 * m)) := dg42 (mk u cal evr rom bef) ha hc (dg cal 17 7) 1000 0 (dg cal 17 7) 0 rfl rfl (by omega) (by omega)
  have hX := dg90 (u := u) (c := 0) hb ha (fun k => cal (9 + k)) (fun k hk => by
    obtain ⟨j, hj, h1, h2, h3⟩ := hd k hk
    refine ⟨?_, ?_⟩
    · show cal (9 + 2 * k) = _
      rw [h2, h1]
      exact (nI_l (by omega)).symm
    · show cal (9 + (2 * k + 1)) = _
      rw [← h3]
      congr 1
      omega) (dg cal 17 7) 1000 0 (dg cal 17 7) 0 rfl rfl (by omega) (by omega)
  refine ⟨dg (fun k => cal (9 + k)) (dg cal 17 7) (2 * m), ?_, ?_⟩
  · unfold f_X1_computeDigest
    rw [if_pos (by decide), ← a0, ← a1, ← a2, ← a3, ← a4, ← a5, ← a6]
    simp only [dg] at hX ⊢
    exact hX
  · unfold f_X7_digest
    rw [if_neg (show ¬ m_dra (mk u cal evr rom bef) = 0 from ht)]
    exact hM.trans hM2
theorem op_digest (h : Inv n u cal evr) : ∃ r, f_X6_digest u = some r ∧ f_X7_digest (mk u cal evr rom bef) = some r := by
  obtain ⟨k, e, t, hn, hA, hS, hD, hW, hE, hN⟩ := id h
  by_cases ht : x_the u = 0
  · refine ⟨0, ?_, ?_⟩
    · unfold f_X6_digest
      rw [if_pos ht]
    · unfold f_X7_digest
      rw [if_pos (show m_dra (mk u cal evr rom bef) = 0 from ht)]
  · obtain ⟨D, d1, d2⟩ := dig_eq (evr := evr) (rom := rom) (bef := bef) hW.2.2.2.2.1 ht
    refine ⟨D, ?_, d2⟩
    unfold f_X6_digest
    rw [if_neg ht, d1]
    rfl
theorem or0 (x : Int32) : x ||| (0 : Int32) = x := by simp
theorem sig_loop (D : Int64) {m : Nat} (hm : m ≤ 12) (hma : x_add u = nI m) (hd : ∀ i, i < m → ∃ j, j < 200 ∧ x_dsg u i = nI j) : ∀ (n i : Nat) (hs l : Int32), l = nI i → i ≤ m → m < i + n → ∃ sg, f_X6_signersOfDraft_16 n D hs l u = some sg ∧ ∀ l1, f_X7_meets_11 n l1 D hs l (mk u cal evr rom bef) = f_X7_meets_72 1000 l1 D sg 0 0 (mk u cal evr rom bef) := by
  intro n
  induction n with
  | zero => intro i hs l _ h1 h2; omega
  | succ n ih =>
    intro i hs l el h1 h2
    subst el
    by_cases hi : i = m
    · refine ⟨hs, ?_, fun l1 => ?_⟩
      · rw [f_X6_signersOfDraft_16, hma, if_pos (nI_le (by omega) (by omega))]
      · rw [f_X7_meets_11, mk_mny, hma, if_pos (nI_le (by omega) (by omega))]
    · obtain ⟨j, hj, ej⟩ := hd i (by omega)
      have hin : inb (nI i) 12 = true := inb_n (show i < 12 by omega) (by decide)
      have hin2 : inb (nI j) 200 = true := inb_n hj (by decide)
      have hci : Int32.toNatClampNeg (nI i) = i := cl_n (by omega)
      have hcj : Int32.toNatClampNeg (nI j) = j := cl_n (by omega)
      by_cases hq : x_sdg u j = D
      · obtain ⟨sg, s1, s2⟩ := ih (i + 1) (hs ||| ((1 : Int32) <<< ((x_sky u j) &&& 31))) _ (nI_1 i) (by omega) (by omega)
        refine ⟨sg, ?_, fun l1 => ?_⟩
        · rw [f_X6_signersOfDraft_16, hma, if_neg (nI_ge (show i < m by omega) (by omega)), if_pos hin, hci, ej, if_pos hin2, hcj, if_pos hq, if_pos hin2]
          exact s1
        · rw [f_X7_meets_11, mk_mny, mk_min, mk_sdg, mk_sky, hma, if_neg (nI_ge (show i < m by omega) (by omega)), if_pos hin, hci, ej, if_pos hin2, hcj, if_pos hq, if_pos hin, if_pos hin2]
          exact s2 l1
      · obtain ⟨sg, s1, s2⟩ := ih (i + 1) hs _ (nI_1 i) (by omega) (by omega)
        refine ⟨sg, ?_, fun l1 => ?_⟩
        · rw [f_X6_signersOfDraft_16, hma, if_neg (nI_ge (show i < m by omega) (by omega)), if_pos hin, hci, ej, if_pos hin2, hcj, if_neg hq]
          exact s1
        · rw [f_X7_meets_11, mk_mny, mk_min, mk_sdg, mk_sky, hma, if_neg (nI_ge (show i < m by omega) (by omega)), if_pos hin, hci, ej, if_pos hin2, hcj, if_neg hq, or0]
          exact s2 l1
theorem sig_eq (h : Inv n u cal evr) (ht : ¬ x_the u = 0) : ∃ sg, f_X6_signersOfDraft u = some sg ∧ ∀ a, a < 12 → ∃ b, f_X0_isMet (nI a) sg u = some b ∧ f_X7_meets (nI a) (mk u cal evr rom bef) = some b := by
  obtain ⟨k, e, t, hn, ⟨hA1, hA2⟩, hS, ⟨m, hm, hma, hmd⟩, hW, hE, hN⟩ := id h
  obtain ⟨D, d1, d2⟩ := dig_eq (evr := evr) (rom := rom) (bef := bef) hW.2.2.2.2.1 ht
  obtain ⟨sg, s1, s2⟩ := sig_loop (u := u) (cal := cal) (evr := evr) (rom := rom) (bef := bef) D hm hma hmd 1000 0 0 0 rfl (by omega) (by omega)
  refine ⟨sg, ?_, fun a ha => ?_⟩
  · unfold f_X6_signersOfDraft
    rw [d1]
    exact s1
  · obtain ⟨q, hq, ek⟩ := hA2 a ha
    obtain ⟨b, b1, b2⟩ := met_eq (v := mk u cal evr rom bef) ha ek hq rfl rfl sg D
    refine ⟨b, b1, ?_⟩
    unfold f_X7_meets
    rw [d2]
    exact (s2 (nI a)).trans b2
end DIG
