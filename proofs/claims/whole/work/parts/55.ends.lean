/-! ===== a block: those that are over ===== -/
section EN
variable {u : XS} {cal : Nat → Int64} {evr : Nat → Int32} {rom : Int32} {bef : Nat → Int64} {k p e T : Nat}
def PP (k e T : Nat) (u : XS) (cal : Nat → Int64) (evr : Nat → Int32) : Prop := (e + k = T ∧ T ≤ 512) ∧ IA (x_cnt u) (x_kys u) ∧ IS (x_sgc u) ∧ ID (x_dsg u) (x_add u) ∧
  QW k (x_rwc u) (x_row u) (x_cf u) (x_rc u) (x_am u) cal ∧ QE e (x_ina u) (x_kep u) (x_nws u) (x_etk u) (x_ewh u) (x_eun u) evr ∧ IN T (x_tik u) (x_stp u)
theorem end_P (h : PP k e T u cal evr) (hp : p < k) (w : Int32) : PP (k - 1) (e + 1) T (EX p k w e u) (CT cal p k) (NE (x_cf u 10 (x_row u p)) w 0 e evr) := by
  obtain ⟨⟨h1, h2⟩, hA, hS, hD, hW, hE, hN⟩ := h
  exact ⟨⟨by omega, h2⟩, by rw [EX_cnt, EX_kys]; exact hA, by rw [EX_sgc]; exact hS, by rw [EX_dsg, EX_add]; exact hD, end_W hW hp w, end_E hE w, by rw [EX_tik, EX_stp]; exact hN⟩
theorem ends_eq : ∀ (m n N i k e : Nat) (u : XS) (cal : Nat → Int64) (evr : Nat → Int32) (l1 l2 L : Int32), l1 = nI i → l2 = nI m → L = nI (i + 1) → i + m = k → m < n → m < N → PP k e T u cal evr → ∃ (u' : XS) (cal' : Nat → Int64) (evr' : Nat → Int32) (k' e' : Nat), f_X6_endThoseOver_10 n l1 l2 u = some u' ∧ f_X7_ends_2 N L (mk u cal evr rom bef) = some (mk u' cal' evr' rom bef) ∧ PP k' e' T u' cal' evr' := by
  intro m
  induction m with
  | zero =>
    intro n N i k e u cal evr l1 l2 L q1 q2 q3 hk hn hN h
    subst q1 q2 q3
    obtain ⟨n, rfl⟩ : ∃ n', n = n' + 1 := ⟨n - 1, by omega⟩
    obtain ⟨N, rfl⟩ : ∃ n', N = n' + 1 := ⟨N - 1, by omega⟩
    obtain ⟨-, -, -, -, hW, -, -⟩ := id h
    have := hW.1
    refine ⟨u, cal, evr, k, e, ?_, ?_, h⟩
    · rw [f_X6_endThoseOver_10, if_pos (show nI 0 ≤ (0 : Int32) by decide)]
    · rw [f_X7_ends_2, mk_wts, hW.2.1, if_pos (nI_lt (by omega) (by omega))]
  | succ m ih =>
    intro n N i k e u cal evr l1 l2 L q1 q2 q3 hk hn hN h
    subst q1 q2 q3
    obtain ⟨n, rfl⟩ : ∃ n', n = n' + 1 := ⟨n - 1, by omega⟩
    obtain ⟨N, rfl⟩ : ∃ n', N = n' + 1 := ⟨N - 1, by omega⟩
    obtain ⟨hT, hA, hS, hD, hW, hE, hN2⟩ := id h
    have hk24 := hW.1
    have hik : i < k := by omega
    have hr := (hW.2.2.1 i (by omega)).2
    obtain ⟨-, -, -, -, a4, -, -, a7⟩ := row0 hW hik
    rw [f_X6_endThoseOver_10, if_neg (nI_nle (by omega) (by omega)), if_pos (inb_n (show i < 24 by omega) (by decide)), cl_n (show i < 2 ^ 31 by omega), if_pos hr, f_X7_ends_2, mk_wts, hW.2.1, if_neg (nI_nlt (show i + 1 ≤ k by omega) (by omega)), ixw (i + 1) 4 4 rfl, if_pos (inw (by omega) (by decide)), ixw (i + 1) 7 7 rfl, if_pos (inw (by omega) (by decide)), cl_n (show 17 * (i + 1) + 4 < 2 ^ 31 by omega), cl_n (show 17 * (i + 1) + 7 < 2 ^ 31 by omega), mk_cal, mk_hgt, a4, a7, i64_32, pk_m1]
    simp only [i64_le]
    by_cases hc : x_hgt u ≤ x_cf u 7 (x_row u i)
    · rw [if_pos hc, if_pos hc]
      exact ih n N (i + 1) k e u cal evr _ _ _ (nI_1 i) rfl (nI_1 (i + 1)) (by omega) (by omega) (by omega) h
    · rw [if_neg hc, if_neg hc]
      have he : e < 2 ^ 30 := by omega
      obtain ⟨m1, m2⟩ := end_M (rom := rom) (bef := bef) he hW hE hik 2
      rw [end_X he hW hE hik 2, m1]
      simp only [Option.bind_some]
      rw [m2]
      simp only [Option.bind_some]
      exact ih n N i (k - 1) (e + 1) _ _ _ _ _ _ rfl rfl rfl (by omega) (by omega) (by omega) (end_P h hik 2)
end EN
