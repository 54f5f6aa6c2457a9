/-! ===== the row: searches ===== -/
theorem ixw (w j : Nat) (J : Int32) (hJ : J = nI j) : (17 : Int32) * nI w + J = nI (17 * w + j) := by
  subst hJ
  rw [show (17 : Int32) = nI 17 from rfl, pk_mul, nI_add]
theorem inw {w j : Nat} (hw : w ≤ 25) (hj : j < 17) : inb (nI (17 * w + j)) 442 = true := inb_n (by omega) (by decide)
section SC
variable {u : XS} {cal : Nat → Int64} {evr : Nat → Int32} {rom : Int32} {bef : Nat → Int64} {k : Nat}
def mch (u : XS) (a b : Int32) (j : Nat) : Prop := x_cf u 3 (x_row u j) = a ∧ x_cf u 4 (x_row u j) = b
theorem idx_none (hW : QW k (x_rwc u) (x_row u) (x_cf u) (x_rc u) (x_am u) cal) (a b : Int32) (hno : ∀ j, j < k → ¬ mch u a b j) : ∀ (n i : Nat) (l : Int32), l = nI i → i ≤ k → k < i + n → f_X5_indexOf_2 n a b l u = some (-1) := by
  obtain ⟨h1, h2, h3, -, -, -, -⟩ := hW
  intro n
  induction n with
  | zero => intro i l _ h4 h5; omega
  | succ n ih =>
    intro i l el h4 h5
    subst el
    rw [f_X5_indexOf_2, h2]
    by_cases hi : i = k
    · rw [if_pos (nI_le (by omega) (by omega))]
    · have hin : inb (nI i) 24 = true := inb_n (show i < 24 by omega) (by decide)
      have hr := (h3 i (by omega)).2
      rw [if_neg (nI_ge (show i < k by omega) (by omega)), if_pos hin, cl_n (by omega), if_pos hr]
      by_cases q1 : x_cf u 3 (x_row u i) = a
      · by_cases q2 : x_cf u 4 (x_row u i) = b
        · exact absurd ⟨q1, q2⟩ (hno i (by omega))
        · rw [if_pos q1, if_pos hin, if_pos hr, if_neg q2]
          exact ih (i + 1) _ (nI_1 i) (by omega) (by omega)
      · rw [if_neg q1]
        exact ih (i + 1) _ (nI_1 i) (by omega) (by omega)
theorem idx_some (hW : QW k (x_rwc u) (x_row u) (x_cf u) (x_rc u) (x_am u) cal) (a b : Int32) {p : Nat} (hp : p < k) (hm : mch u a b p) (hno : ∀ j, j < p → ¬ mch u a b j) : ∀ (n i : Nat) (l : Int32), l = nI i → i ≤ p → k < i + n → f_X5_indexOf_2 n a b l u = some (nI p) := by
  obtain ⟨h1, h2, h3, -, -, -, -⟩ := hW
  intro n
  induction n with
  | zero => intro i l _ h4 h5; omega
  | succ n ih =>
    intro i l el h4 h5
    subst el
    have hin : inb (nI i) 24 = true := inb_n (show i < 24 by omega) (by decide)
    have hr := (h3 i (by omega)).2
    rw [f_X5_indexOf_2, h2, if_neg (nI_ge (show i < k by omega) (by omega)), if_pos hin, cl_n (by omega), if_pos hr]
    by_cases q1 : x_cf u 3 (x_row u i) = a
    · rw [if_pos q1, if_pos hin, if_pos hr]
      by_cases q2 : x_cf u 4 (x_row u i) = b
      · by_cases hi : i = p
        · rw [if_pos q2, hi]
        · exact absurd ⟨q1, q2⟩ (hno i (by omega))
      · rw [if_neg q2]
        exact ih (i + 1) _ (nI_1 i) (by
          rcases Nat.lt_or_ge i p with z | z
          · omega
          · have : i = p := by omega
            subst this
            exact absurd hm.2 q2) (by omega)
    · rw [if_neg q1]
      exact ih (i + 1) _ (nI_1 i) (by
        rcases Nat.lt_or_ge i p with z | z
        · omega
        · have : i = p := by omega
          subst this
          exact absurd hm.1 q1) (by omega)
/-- the reference's row i+1 is the class's i-th -/
theorem row0 (hW : QW k (x_rwc u) (x_row u) (x_cf u) (x_rc u) (x_am u) cal) {i : Nat} (hi : i < k) : cal (17 * (i + 1) + 0) = (x_cf u 3 (x_row u i)).toInt64 ∧ cal (17 * (i + 1) + 1) = (x_cf u 4 (x_row u i)).toInt64 ∧ cal (17 * (i + 1) + 2) = (x_cf u 5 (x_row u i)).toInt64 ∧ cal (17 * (i + 1) + 3) = (x_cf u 6 (x_row u i)).toInt64 ∧ cal (17 * (i + 1) + 4) = (x_cf u 7 (x_row u i)).toInt64 ∧ cal (17 * (i + 1) + 5) = (x_cf u 8 (x_row u i)).toInt64 ∧ cal (17 * (i + 1) + 6) = (x_cf u 9 (x_row u i)).toInt64 ∧ cal (17 * (i + 1) + 7) = (x_cf u 10 (x_row u i)).toInt64 := by
  obtain ⟨-, -, -, -, -, h6, -⟩ := hW
  obtain ⟨⟨⟨a0, a1, a2, a3, a4, a5, a6⟩, -⟩, a7⟩ := h6 i hi
  exact ⟨a0, a1, a2, a3, a4, a5, a6, a7⟩
theorem same_step (hW : QW k (x_rwc u) (x_row u) (x_cf u) (x_rc u) (x_am u) cal) (n : Nat) (at0 : Int32) {i : Nat} (hi : i < k) : (mch u (x_cf u 3 0) (x_cf u 4 0) i → f_X7_sameCall_4 (n + 1) at0 (nI (i + 1)) (mk u cal evr rom bef) = f_X7_sameCall_4 n (nI (i + 1)) (nI (i + 1) + 1) (mk u cal evr rom bef)) ∧ (¬ mch u (x_cf u 3 0) (x_cf u 4 0) i → f_X7_sameCall_4 (n + 1) at0 (nI (i + 1)) (mk u cal evr rom bef) = f_X7_sameCall_4 n at0 (nI (i + 1) + 1) (mk u cal evr rom bef)) := by
  obtain ⟨a0, a1, -, -, -, -, -, -⟩ := row0 hW hi
  obtain ⟨h1, h2, -, -, ⟨⟨d0, d1, -⟩, -⟩, -, -⟩ := hW
  have hw : i + 1 ≤ 25 := by omega
  have e0 : ((17 : Int32) * nI (i + 1) + 0) = nI (17 * (i + 1) + 0) := ixw (i + 1) 0 0 rfl
  have e1 : ((17 : Int32) * nI (i + 1) + 1) = nI (17 * (i + 1) + 1) := ixw (i + 1) 1 1 rfl
  have c0 : Int32.toNatClampNeg (nI (17 * (i + 1) + 0)) = 17 * (i + 1) + 0 := cl_n (by omega)
  have c1 : Int32.toNatClampNeg (nI (17 * (i + 1) + 1)) = 17 * (i + 1) + 1 := cl_n (by omega)
  rw [f_X7_sameCall_4, mk_wts, h2, if_neg (nI_nlt (show i + 1 ≤ k by omega) (by omega)), e0, e1, if_pos (inw hw (by decide)), if_pos ib0, if_pos (inw hw (by decide)), if_pos ib1, c0, c1, tn0, tn1, mk_cal, a0, a1, d0, d1]
  simp only [i64_eq]
  constructor
  · intro q
    rw [if_pos q.1, if_pos q.2]
  · intro q
    by_cases q1 : x_cf u 3 (x_row u i) = x_cf u 3 0
    · rw [if_pos q1, if_neg (fun q2 => q ⟨q1, q2⟩)]
    · rw [if_neg q1]
theorem same_none (hW : QW k (x_rwc u) (x_row u) (x_cf u) (x_rc u) (x_am u) cal) : ∀ (n i : Nat) (at0 l : Int32), l = nI (i + 1) → i ≤ k → k < i + n → (∀ j, i ≤ j → j < k → ¬ mch u (x_cf u 3 0) (x_cf u 4 0) j) → f_X7_sameCall_4 n at0 l (mk u cal evr rom bef) = some at0 := by
  intro n
  induction n with
  | zero => intro i at0 l _ h4 h5; omega
  | succ n ih =>
    intro i at0 l el h4 h5 hno
    subst el
    by_cases hi : i = k
    · rw [f_X7_sameCall_4, mk_wts, hW.2.1, if_pos (nI_lt (by omega) (by have := hW.1; omega))]
    · rw [(same_step hW n at0 (show i < k by omega)).2 (hno i (Nat.le_refl _) (by omega))]
      exact ih (i + 1) at0 _ (nI_1 _) (by omega) (by omega) (fun j h6 h7 => hno j (by omega) h7)
theorem same_some (hW : QW k (x_rwc u) (x_row u) (x_cf u) (x_rc u) (x_am u) cal) {p : Nat} (hp : p < k) (hm : mch u (x_cf u 3 0) (x_cf u 4 0) p) (hu : ∀ j, j < k → mch u (x_cf u 3 0) (x_cf u 4 0) j → j = p) : ∀ (n i : Nat) (at0 l : Int32), l = nI (i + 1) → i ≤ p → k < i + n → f_X7_sameCall_4 n at0 l (mk u cal evr rom bef) = some (nI (p + 1)) := by
  intro n
  induction n with
  | zero => intro i at0 l _ h4 h5; omega
  | succ n ih =>
    intro i at0 l el h4 h5
    subst el
    by_cases hi : i = p
    · subst hi
      rw [(same_step hW n at0 hp).1 hm]
      exact same_none hW n (i + 1) _ _ (nI_1 _) (by omega) (by omega) (fun j h6 h7 q => by have := hu j h7 q; omega)
    · rw [(same_step hW n at0 (show i < k by omega)).2 (fun q => hi (hu i (by omega) q))]
      exact ih (i + 1) at0 _ (nI_1 _) (by omega) (by omega)
theorem same_eq (hW : QW k (x_rwc u) (x_row u) (x_cf u) (x_rc u) (x_am u) cal) : (f_X5_indexOf (x_cf u 3 0) (x_cf u 4 0) u = some (-1) ∧ f_X7_sameCall (mk u cal evr rom bef) = some 0 ∧ ∀ j, j < k → ¬ mch u (x_cf u 3 0) (x_cf u 4 0) j) ∨ ∃ p, p < k ∧ mch u (x_cf u 3 0) (x_cf u 4 0) p ∧ f_X5_indexOf (x_cf u 3 0) (x_cf u 4 0) u = some (nI p) ∧ f_X7_sameCall (mk u cal evr rom bef) = some (nI (p + 1)) := by
  have hk := hW.1
  by_cases hx : ∃ p, p < k ∧ mch u (x_cf u 3 0) (x_cf u 4 0) p
  · obtain ⟨p, hp, hm⟩ := hx
    have hu : ∀ j, j < k → mch u (x_cf u 3 0) (x_cf u 4 0) j → j = p := fun j hj hj2 => hW.2.2.2.2.2.2 j p hj hp (hj2.1.trans hm.1.symm) (hj2.2.trans hm.2.symm)
    refine Or.inr ⟨p, hp, hm, ?_, ?_⟩
    · exact idx_some hW _ _ hp hm (fun j hj q => by have := hu j (by omega) q; omega) 1000 0 0 rfl (by omega) (by omega)
    · exact same_some hW hp hm hu 1000 0 0 1 rfl (by omega) (by omega)
  · have hno : ∀ j, j < k → ¬ mch u (x_cf u 3 0) (x_cf u 4 0) j := fun j hj q => hx ⟨j, hj, q⟩
    refine Or.inl ⟨?_, ?_, hno⟩
    · exact idx_none hW _ _ hno 1000 0 0 rfl (by omega) (by omega)
    · exact same_none hW 1000 0 0 1 rfl (by omega) (by omega) (fun j _ h => hno j h)
theorem chp_loop (hW : QW k (x_rwc u) (x_row u) (x_cf u) (x_rc u) (x_am u) cal) : ∀ (n i b : Nat) (l1 l2 L1 L2 : Int32), l1 = nI b → l2 = nI i → L1 = nI (b + 1) → L2 = nI (i + 1) → b < k → i ≤ k → k < i + n → ∃ r, r < k ∧ f_X5_cheapest_4 n l1 l2 u = some (nI r) ∧ f_X7_cheapest_4 n L1 L2 (mk u cal evr rom bef) = some (nI (r + 1)) := by
  obtain ⟨h1, h2, h3, -, -, -, -⟩ := id hW
  intro n
  induction n with
  | zero => intro i b l1 l2 L1 L2 _ _ _ _ _ h4 h5; omega
  | succ n ih =>
    intro i b l1 l2 L1 L2 q1 q2 q3 q4 hb h4 h5
    subst q1 q2 q3 q4
    by_cases hi : i = k
    · refine ⟨b, hb, ?_, ?_⟩
      · rw [f_X5_cheapest_4, h2, if_pos (nI_le (by omega) (by omega))]
      · rw [f_X7_cheapest_4, mk_wts, h2, if_pos (nI_lt (by omega) (by omega))]
    · have hin : inb (nI i) 24 = true := inb_n (show i < 24 by omega) (by decide)
      have hin2 : inb (nI b) 24 = true := inb_n (show b < 24 by omega) (by decide)
      have hr := (h3 i (by omega)).2
      have hr2 := (h3 b (by omega)).2
      obtain ⟨-, -, a2, -⟩ := row0 hW (show i < k by omega)
      obtain ⟨-, -, b2, -⟩ := row0 hW hb
      have hX : f_X5_cheapest_4 (n + 1) (nI b) (nI i) u = if x_cf u 5 (x_row u b) < x_cf u 5 (x_row u i) then f_X5_cheapest_4 n (nI b) (nI i + 1) u else f_X5_cheapest_4 n (nI i) (nI i + 1) u := by
        rw [f_X5_cheapest_4, h2, if_neg (nI_ge (show i < k by omega) (by omega)), if_pos hin, cl_n (show i < 2 ^ 31 by omega), if_pos hr, if_pos hin2, cl_n (show b < 2 ^ 31 by omega), if_pos hr2]
      have hM : f_X7_cheapest_4 (n + 1) (nI (b + 1)) (nI (i + 1)) (mk u cal evr rom bef) = if x_cf u 5 (x_row u b) < x_cf u 5 (x_row u i) then f_X7_cheapest_4 n (nI (b + 1)) (nI (i + 1) + 1) (mk u cal evr rom bef) else f_X7_cheapest_4 n (nI (i + 1)) (nI (i + 1) + 1) (mk u cal evr rom bef) := by
        rw [f_X7_cheapest_4, mk_wts, h2, if_neg (nI_nlt (show i + 1 ≤ k by omega) (by omega)), ixw (i + 1) 2 2 rfl, ixw (b + 1) 2 2 rfl, if_pos (inw (by omega) (by decide)), if_pos (inw (by omega) (by decide)), cl_n (show 17 * (i + 1) + 2 < 2 ^ 31 by omega), cl_n (show 17 * (b + 1) + 2 < 2 ^ 31 by omega), mk_cal, a2, b2]
        simp only [i64_lt]
      rw [hX, hM]
      by_cases hq : x_cf u 5 (x_row u b) < x_cf u 5 (x_row u i)
      · rw [if_pos hq, if_pos hq]
        exact ih (i + 1) b _ _ _ _ rfl (nI_1 i) rfl (nI_1 (i + 1)) hb (by omega) (by omega)
      · rw [if_neg hq, if_neg hq]
        exact ih (i + 1) i _ _ _ _ rfl (nI_1 i) rfl (nI_1 (i + 1)) (by omega) (by omega) (by omega)
theorem chp_eq (hW : QW k (x_rwc u) (x_row u) (x_cf u) (x_rc u) (x_am u) cal) (h0 : 0 < k) : ∃ r, r < k ∧ f_X5_cheapest u = some (nI r) ∧ f_X7_cheapest (mk u cal evr rom bef) = some (nI (r + 1)) := by
  have hk := hW.1
  exact chp_loop hW 1000 1 0 0 1 1 2 rfl rfl rfl rfl h0 h0 (by omega)
def xv : Option Nat → Int32
  | none => -1
  | some b => nI b
def mv : Option Nat → Int32
  | none => 0
  | some b => nI (b + 1)
theorem mv0 {bo : Option Nat} (hb : ∀ b, bo = some b → b < 24) : (mv bo = 0 ↔ bo = none) ∧ (xv bo = -1 ↔ bo = none) := by
  cases bo with
  | none => exact ⟨⟨fun _ => rfl, fun _ => rfl⟩, ⟨fun _ => rfl, fun _ => rfl⟩⟩
  | some b =>
    have := hb b rfl
    refine ⟨⟨fun q => absurd q (nI_ne0 (by omega) (by omega)), fun q => by cases q⟩, ⟨fun q => ?_, fun q => by cases q⟩⟩
    have q2 : (nI b).toInt = (-1 : Int32).toInt := congrArg Int32.toInt q
    rw [nI_toInt (by omega), show (-1 : Int32).toInt = -1 from by decide] at q2
    omega
theorem dst_loop (hW : QW k (x_rwc u) (x_row u) (x_cf u) (x_rc u) (x_am u) cal) : ∀ (n i : Nat) (bo : Option Nat) (l L x1 m1 : Int32), l = nI i → L = nI (i + 1) → x1 = xv bo → m1 = mv bo → (∀ b, bo = some b → b < k) → i ≤ k → k < i + n → ∃ ro : Option Nat, (∀ b, ro = some b → b < k) ∧ f_X6_dearestReady_4 n rom x1 l u = some (xv ro) ∧ f_X7_dearest_4 n m1 L (mk u cal evr rom bef) = some (mv ro) := by
  obtain ⟨h1, h2, h3, -, -, h6, -⟩ := id hW
  intro n
  induction n with
  | zero => intro i bo l L x1 m1 _ _ _ _ _ h4 h5; omega
  | succ n ih =>
    intro i bo l L x1 m1 q1 q2 q3 q4 hb h4 h5
    subst q1 q2 q3 q4
    by_cases hi : i = k
    · refine ⟨bo, hb, ?_, ?_⟩
      · rw [f_X6_dearestReady_4, h2, if_pos (nI_le (by omega) (by omega))]
      · rw [f_X7_dearest_4, mk_wts, h2, if_pos (nI_lt (by omega) (by omega))]
    · have hik : i < k := by omega
      have hin : inb (nI i) 24 = true := inb_n (show i < 24 by omega) (by decide)
      have hr := (h3 i (by omega)).2
      have hci : Int32.toNatClampNeg (nI i) = i := cl_n (by omega)
      obtain ⟨a0, a1, a2, a3, a4, a5, a6, a7⟩ := row0 hW hik
      obtain ⟨⟨-, -, ⟨o, ho, eo⟩, -, -⟩, -⟩ := h6 i hik
      have ho2 : inb (nI o) 12 = true := inb_n ho (by decide)
      have hco : Int32.toNatClampNeg (nI o) = o := cl_n (by omega)
      have hw : i + 1 ≤ 25 := by omega
      have m1 : (mv bo = 0 ↔ bo = none) ∧ (xv bo = -1 ↔ bo = none) := mv0 (fun b hb2 => by have := hb b hb2; omega)
      have hX : f_X6_dearestReady_4 (n + 1) rom (xv bo) (nI i) u = ((f_X6_isReady (x_row u i) rom u).bind fun q_4 => (if q_4 = (0 : Int32) then (f_X6_dearestReady_4 n rom (xv bo) (nI i + (1 : Int32)) u) else (if xv bo = (-1 : Int32) then (f_X6_dearestReady_4 n rom (nI i) (nI i + (1 : Int32)) u) else (if inb (xv bo) 24 = true then (if ((x_row u) (Int32.toNatClampNeg (xv bo))) < 25 then (if ((x_cf u) 5 (x_row u i)) ≤ ((x_cf u) 5 ((x_row u) (Int32.toNatClampNeg (xv bo)))) then (f_X6_dearestReady_4 n rom (xv bo) (nI i + (1 : Int32)) u) else (f_X6_dearestReady_4 n rom (nI i) (nI i + (1 : Int32)) u)) else none) else none)))) := by
        rw [f_X6_dearestReady_4, h2, if_neg (nI_ge hik (by omega)), if_pos hin, hci, if_pos hr]
        simp only [if_pos hin, if_pos hr]
      have hX2 : f_X6_isReady (x_row u i) rom u = (if x_cf u 4 (x_row u i) = x_nxt u o then (if (x_hgt u) < ((x_cf u) 8 (x_row u i)) then some (0 : Int32) else (if rom < ((x_cf u) 6 (x_row u i)) then some (0 : Int32) else some (1 : Int32))) else some (0 : Int32)) := by
        unfold f_X6_isReady
        rw [if_pos hr, eo, if_pos ho2, hco]
      have hM : f_X7_dearest_4 (n + 1) (mv bo) (nI (i + 1)) (mk u cal evr rom bef) = (if x_cf u 4 (x_row u i) = x_nxt u o then (if (x_hgt u) < ((x_cf u) 8 (x_row u i)) then (f_X7_dearest_4 n (mv bo) (nI (i + 1) + (1 : Int32)) (mk u cal evr rom bef)) else (if rom < ((x_cf u) 6 (x_row u i)) then (f_X7_dearest_4 n (mv bo) (nI (i + 1) + (1 : Int32)) (mk u cal evr rom bef)) else (if mv bo = (0 : Int32) then (f_X7_dearest_4 n (nI (i + 1)) (nI (i + 1) + (1 : Int32)) (mk u cal evr rom bef)) else (if inb (((17 : Int32) * (mv bo)) + (2 : Int32)) 442 = true then (if (x_cf u 5 (x_row u i)).toInt64 ≤ (cal (Int32.toNatClampNeg (((17 : Int32) * (mv bo)) + (2 : Int32)))) then (f_X7_dearest_4 n (mv bo) (nI (i + 1) + (1 : Int32)) (mk u cal evr rom bef)) else (f_X7_dearest_4 n (nI (i + 1)) (nI (i + 1) + (1 : Int32)) (mk u cal evr rom bef))) else none)))) else (f_X7_dearest_4 n (mv bo) (nI (i + 1) + (1 : Int32)) (mk u cal evr rom bef))) := by
        rw [f_X7_dearest_4, mk_wts, h2, if_neg (nI_nlt (show i + 1 ≤ k by omega) (by omega))]
        rw [ixw (i + 1) 0 0 rfl, ixw (i + 1) 1 1 rfl, ixw (i + 1) 2 2 rfl, ixw (i + 1) 3 3 rfl, ixw (i + 1) 5 5 rfl]
        simp only [if_pos (inw hw (show 0 < 17 by decide)), if_pos (inw hw (show 1 < 17 by decide)), if_pos (inw hw (show 2 < 17 by decide)), if_pos (inw hw (show 3 < 17 by decide)), if_pos (inw hw (show 5 < 17 by decide)), cl_n (show 17 * (i + 1) + 0 < 2 ^ 31 by omega), cl_n (show 17 * (i + 1) + 1 < 2 ^ 31 by omega), cl_n (show 17 * (i + 1) + 2 < 2 ^ 31 by omega), cl_n (show 17 * (i + 1) + 3 < 2 ^ 31 by omega), cl_n (show 17 * (i + 1) + 5 < 2 ^ 31 by omega), mk_cal, mk_nxt, mk_hgt, mk_rom, a0, a1, a2, a3, a5, i64_32, eo, if_pos ho2, hco, i64_eq, i64_lt]
      rw [hX, hX2, hM]
      by_cases c1 : x_cf u 4 (x_row u i) = x_nxt u o
      rotate_left
      · rw [if_neg c1, if_neg c1]
        simp only [Option.bind_some, ↓reduceIte]
        exact ih (i + 1) bo _ _ _ _ (nI_1 i) (nI_1 (i + 1)) rfl rfl hb (by omega) (by omega)
      rw [if_pos c1, if_pos c1]
      by_cases c2 : x_hgt u < x_cf u 8 (x_row u i)
      · rw [if_pos c2, if_pos c2]
        simp only [Option.bind_some, ↓reduceIte]
        exact ih (i + 1) bo _ _ _ _ (nI_1 i) (nI_1 (i + 1)) rfl rfl hb (by omega) (by omega)
      rw [if_neg c2, if_neg c2]
      by_cases c3 : rom < x_cf u 6 (x_row u i)
      · rw [if_pos c3, if_pos c3]
        simp only [Option.bind_some, ↓reduceIte]
        exact ih (i + 1) bo _ _ _ _ (nI_1 i) (nI_1 (i + 1)) rfl rfl hb (by omega) (by omega)
      rw [if_neg c3, if_neg c3]
      simp only [Option.bind_some, if_neg one0]
      cases bo with
      | none =>
        rw [if_pos (m1.1.mpr rfl), if_pos (m1.2.mpr rfl)]
        exact ih (i + 1) (some i) _ _ _ _ (nI_1 i) (nI_1 (i + 1)) rfl rfl (fun b h => by cases h; exact hik) (by omega) (by omega)
      | some b =>
        have hbk := hb b rfl
        obtain ⟨-, -, b2, -⟩ := row0 hW hbk
        have z1 : ¬ xv (some b) = -1 := fun q => by cases m1.2.mp q
        have z2 : ¬ mv (some b) = 0 := fun q => by cases m1.1.mp q
        rw [if_neg z1, if_neg z2]
        simp only [xv, mv, if_pos (inb_n (show b < 24 by omega) (by decide)), cl_n (show b < 2 ^ 31 by omega), if_pos (h3 b (by omega)).2, if_pos (inw (show b + 1 ≤ 25 by omega) (show 2 < 17 by decide)), cl_n (show 17 * (b + 1) + 2 < 2 ^ 31 by omega), ixw (b + 1) 2 2 rfl, b2, i64_le]
        by_cases c4 : x_cf u 5 (x_row u i) ≤ x_cf u 5 (x_row u b)
        · simp only [if_pos c4]
          exact ih (i + 1) (some b) _ _ _ _ (nI_1 i) (nI_1 (i + 1)) rfl rfl hb (by omega) (by omega)
        · simp only [if_neg c4]
          exact ih (i + 1) (some i) _ _ _ _ (nI_1 i) (nI_1 (i + 1)) rfl rfl (fun b h => by cases h; exact hik) (by omega) (by omega)
theorem dst_eq (hW : QW k (x_rwc u) (x_row u) (x_cf u) (x_rc u) (x_am u) cal) : ∃ ro : Option Nat, (∀ b, ro = some b → b < k) ∧ f_X6_dearestReady rom u = some (xv ro) ∧ f_X7_dearest (mk u cal evr rom bef) = some (mv ro) := by
  have hk := hW.1
  exact dst_loop hW 1000 0 none 0 1 (-1) 0 rfl rfl rfl rfl (fun b h => by cases h) (by omega) (by omega)
end SC
