/-! ===== our own core: partial pure functions, states, worlds, rows ===== -/
def inb (i : Int32) (n : Nat) : Bool := decide (¬ i < 0) && decide (i.toNatClampNeg < n)
theorem og {α : Type} {i : Int32} {n : Nat} {X : Option α} {G : α} (h : (if inb i n = true then X else none) = some G) : vp_in i n ∧ X = some G := by
  by_cases hb : inb i n = true
  · rw [if_pos hb] at h
    refine ⟨?_, h⟩
    simp only [inb, Bool.and_eq_true, decide_eq_true_eq] at hb
    intro hq
    rcases hq with q | q
    · exact hb.1 q
    · omega
  · rw [if_neg hb] at h
    cases h
theorem ot {α : Type} {P : Prop} [Decidable P] {X : Option α} {G : α} (h : (if P then X else none) = some G) : P ∧ X = some G := by
  by_cases hb : P
  · rw [if_pos hb] at h
    exact ⟨hb, h⟩
  · rw [if_neg hb] at h
    cases h
theorem ob {α β : Type} {o : Option α} {f : α → Option β} {G : β} (h : o.bind f = some G) : ∃ q, o = some q ∧ f q = some G := by
  cases o with
  | none => cases h
  | some q => exact ⟨q, rfl, h⟩
theorem ip {α : Type} {P : Prop} [Decidable P] {a b G : α} (h : P) (hG : (if P then a else b) = G) : a = G := by rw [if_pos h] at hG; exact hG
theorem inn {α : Type} {P : Prop} [Decidable P] {a b G : α} (h : ¬ P) (hG : (if P then a else b) = G) : b = G := by rw [if_neg h] at hG; exact hG
theorem ret2 {α β : Type} {v r : α} {u w : β} (h : some (v, u) = some (r, w)) : v = r ∧ u = w := by cases h; exact ⟨rfl, rfl⟩
theorem ret1 {α β : Type} {v r : α} {u : β} (h : some v = some r) : v = r ∧ u = u := by cases h; exact ⟨rfl, rfl⟩
theorem retv {α : Type} {v r : α} (h : some v = some r) : v = r := by cases h; rfl
theorem ns {α : Type} {G : α} {P : Prop} (h : (none : Option α) = some G) : P := by cases h
theorem nz {v : Int32} (h : v = 0 ∨ v = 1) : narrow .boolean (.int v) = .int v := by rcases h with rfl | rfl <;> rfl
def up2 {α : Type} (f : Nat → Nat → α) (k c : Nat) (v : α) : Nat → Nat → α := fun k' c' => if k' = k ∧ c' = c then v else f k' c'
theorem tsw_in {x : Int32} {k : Nat} {lo : Int} (h : x = Int32.ofNat k) (hk : (k : Int) < 2 ^ 31) : x.toInt = (k : Int) := by
  subst h
  exact nI_toInt (n := k) (by omega)
theorem rg_get {α : Type} (pre : List α) (f : Nat → α) (n : Nat) (post : List α) {i k : Nat} (h : i < n) (hk : k = pre.length + i) : (pre ++ ((List.range n).map f ++ post))[k]? = some (f i) := by
  subst hk
  rw [List.getElem?_append_right (by omega), Nat.add_sub_cancel_left, List.getElem?_append_left (by simpa using h)]
  simp [h]
theorem rg_set {α : Type} (pre : List α) (f g : Nat → α) (n : Nat) (post : List α) {i k : Nat} (a : α) (h : i < n) (hk : k = pre.length + i) (hi : g i = a) (ho : ∀ j, j ≠ i → g j = f j) : (pre ++ ((List.range n).map f ++ post)).set k a = pre ++ ((List.range n).map g ++ post) := by
  subst hk
  apply List.ext_getElem?
  intro j
  by_cases hj : j = pre.length + i
  · subst hj
    rw [List.getElem?_set_self (by simp; omega), rg_get pre g n post h rfl, hi]
  · rw [List.getElem?_set_ne (Ne.symm hj)]
    by_cases hp : j < pre.length
    · rw [List.getElem?_append_left hp, List.getElem?_append_left hp]
    · rw [List.getElem?_append_right (Nat.le_of_not_lt hp), List.getElem?_append_right (Nat.le_of_not_lt hp)]
      by_cases hq : j - pre.length < n
      · rw [List.getElem?_append_left (l₁ := (List.range n).map f) (by simpa using hq), List.getElem?_append_left (l₁ := (List.range n).map g) (by simpa using hq)]
        simp [hq]
        exact (ho _ (by omega)).symm
      · rw [List.getElem?_append_right (l₁ := (List.range n).map f) (by simp; omega), List.getElem?_append_right (l₁ := (List.range n).map g) (by simp; omega)]
        simp
abbrev XS : Type := Int32 × (Nat → Int64) × (Nat → Int32) × (Nat → Int32) × (Nat → Int32) × Int32 × (Nat → Int32) × (Nat → Int64) × (Nat → Nat) × Int32 × (Nat → Int32) × Int32 × Int32 × Int32 × Int32 × Int32 × Int64 × Int32 × Int32 × Int32 × (Nat → Int32) × (Nat → Int32) × (Nat → Int32) × (Nat → Nat → Int32) × (Nat → Nat → Int32) × (Nat → Nat → Int64)
abbrev x_cnt (u : XS) : Int32 := u.1
abbrev xs_cnt (u : XS) (v : Int32) : XS := (v, u.2)
abbrev x_fun (u : XS) : Nat → Int64 := u.2.1
abbrev xs_fun (u : XS) (v : Nat → Int64) : XS := (u.1, v, u.2.2)
abbrev x_nxt (u : XS) : Nat → Int32 := u.2.2.1
abbrev xs_nxt (u : XS) (v : Nat → Int32) : XS := (u.1, u.2.1, v, u.2.2.2)
abbrev x_kys (u : XS) : Nat → Int32 := u.2.2.2.1
abbrev xs_kys (u : XS) (v : Nat → Int32) : XS := (u.1, u.2.1, u.2.2.1, v, u.2.2.2.2)
abbrev x_thr (u : XS) : Nat → Int32 := u.2.2.2.2.1
abbrev xs_thr (u : XS) (v : Nat → Int32) : XS := (u.1, u.2.1, u.2.2.1, u.2.2.2.1, v, u.2.2.2.2.2)
abbrev x_sgc (u : XS) : Int32 := u.2.2.2.2.2.1
abbrev xs_sgc (u : XS) (v : Int32) : XS := (u.1, u.2.1, u.2.2.1, u.2.2.2.1, u.2.2.2.2.1, v, u.2.2.2.2.2.2)
abbrev x_sky (u : XS) : Nat → Int32 := u.2.2.2.2.2.2.1
abbrev xs_sky (u : XS) (v : Nat → Int32) : XS := (u.1, u.2.1, u.2.2.1, u.2.2.2.1, u.2.2.2.2.1, u.2.2.2.2.2.1, v, u.2.2.2.2.2.2.2)
abbrev x_sdg (u : XS) : Nat → Int64 := u.2.2.2.2.2.2.2.1
abbrev xs_sdg (u : XS) (v : Nat → Int64) : XS := (u.1, u.2.1, u.2.2.1, u.2.2.2.1, u.2.2.2.2.1, u.2.2.2.2.2.1, u.2.2.2.2.2.2.1, v, u.2.2.2.2.2.2.2.2)
abbrev x_row (u : XS) : Nat → Nat := u.2.2.2.2.2.2.2.2.1
abbrev xs_row (u : XS) (v : Nat → Nat) : XS := (u.1, u.2.1, u.2.2.1, u.2.2.2.1, u.2.2.2.2.1, u.2.2.2.2.2.1, u.2.2.2.2.2.2.1, u.2.2.2.2.2.2.2.1, v, u.2.2.2.2.2.2.2.2.2)
abbrev x_the (u : XS) : Int32 := u.2.2.2.2.2.2.2.2.2.1
abbrev xs_the (u : XS) (v : Int32) : XS := (u.1, u.2.1, u.2.2.1, u.2.2.2.1, u.2.2.2.2.1, u.2.2.2.2.2.1, u.2.2.2.2.2.2.1, u.2.2.2.2.2.2.2.1, u.2.2.2.2.2.2.2.2.1, v, u.2.2.2.2.2.2.2.2.2.2)
abbrev x_dsg (u : XS) : Nat → Int32 := u.2.2.2.2.2.2.2.2.2.2.1
abbrev xs_dsg (u : XS) (v : Nat → Int32) : XS := (u.1, u.2.1, u.2.2.1, u.2.2.2.1, u.2.2.2.2.1, u.2.2.2.2.2.1, u.2.2.2.2.2.2.1, u.2.2.2.2.2.2.2.1, u.2.2.2.2.2.2.2.2.1, u.2.2.2.2.2.2.2.2.2.1, v, u.2.2.2.2.2.2.2.2.2.2.2)
abbrev x_add (u : XS) : Int32 := u.2.2.2.2.2.2.2.2.2.2.2.1
abbrev xs_add (u : XS) (v : Int32) : XS := (u.1, u.2.1, u.2.2.1, u.2.2.2.1, u.2.2.2.2.1, u.2.2.2.2.2.1, u.2.2.2.2.2.2.1, u.2.2.2.2.2.2.2.1, u.2.2.2.2.2.2.2.2.1, u.2.2.2.2.2.2.2.2.2.1, u.2.2.2.2.2.2.2.2.2.2.1, v, u.2.2.2.2.2.2.2.2.2.2.2.2)
abbrev x_rwc (u : XS) : Int32 := u.2.2.2.2.2.2.2.2.2.2.2.2.1
abbrev xs_rwc (u : XS) (v : Int32) : XS := (u.1, u.2.1, u.2.2.1, u.2.2.2.1, u.2.2.2.2.1, u.2.2.2.2.2.1, u.2.2.2.2.2.2.1, u.2.2.2.2.2.2.2.1, u.2.2.2.2.2.2.2.2.1, u.2.2.2.2.2.2.2.2.2.1, u.2.2.2.2.2.2.2.2.2.2.1, u.2.2.2.2.2.2.2.2.2.2.2.1, v, u.2.2.2.2.2.2.2.2.2.2.2.2.2)
abbrev x_tik (u : XS) : Int32 := u.2.2.2.2.2.2.2.2.2.2.2.2.2.1
abbrev xs_tik (u : XS) (v : Int32) : XS := (u.1, u.2.1, u.2.2.1, u.2.2.2.1, u.2.2.2.2.1, u.2.2.2.2.2.1, u.2.2.2.2.2.2.1, u.2.2.2.2.2.2.2.1, u.2.2.2.2.2.2.2.2.1, u.2.2.2.2.2.2.2.2.2.1, u.2.2.2.2.2.2.2.2.2.2.1, u.2.2.2.2.2.2.2.2.2.2.2.1, u.2.2.2.2.2.2.2.2.2.2.2.2.1, v, u.2.2.2.2.2.2.2.2.2.2.2.2.2.2)
abbrev x_stp (u : XS) : Int32 := u.2.2.2.2.2.2.2.2.2.2.2.2.2.2.1
abbrev xs_stp (u : XS) (v : Int32) : XS := (u.1, u.2.1, u.2.2.1, u.2.2.2.1, u.2.2.2.2.1, u.2.2.2.2.2.1, u.2.2.2.2.2.2.1, u.2.2.2.2.2.2.2.1, u.2.2.2.2.2.2.2.2.1, u.2.2.2.2.2.2.2.2.2.1, u.2.2.2.2.2.2.2.2.2.2.1, u.2.2.2.2.2.2.2.2.2.2.2.1, u.2.2.2.2.2.2.2.2.2.2.2.2.1, u.2.2.2.2.2.2.2.2.2.2.2.2.2.1, v, u.2.2.2.2.2.2.2.2.2.2.2.2.2.2.2)
abbrev x_hgt (u : XS) : Int32 := u.2.2.2.2.2.2.2.2.2.2.2.2.2.2.2.1
abbrev xs_hgt (u : XS) (v : Int32) : XS := (u.1, u.2.1, u.2.2.1, u.2.2.2.1, u.2.2.2.2.1, u.2.2.2.2.2.1, u.2.2.2.2.2.2.1, u.2.2.2.2.2.2.2.1, u.2.2.2.2.2.2.2.2.1, u.2.2.2.2.2.2.2.2.2.1, u.2.2.2.2.2.2.2.2.2.2.1, u.2.2.2.2.2.2.2.2.2.2.2.1, u.2.2.2.2.2.2.2.2.2.2.2.2.1, u.2.2.2.2.2.2.2.2.2.2.2.2.2.1, u.2.2.2.2.2.2.2.2.2.2.2.2.2.2.1, v, u.2.2.2.2.2.2.2.2.2.2.2.2.2.2.2.2)
abbrev x_pai (u : XS) : Int64 := u.2.2.2.2.2.2.2.2.2.2.2.2.2.2.2.2.1
abbrev xs_pai (u : XS) (v : Int64) : XS := (u.1, u.2.1, u.2.2.1, u.2.2.2.1, u.2.2.2.2.1, u.2.2.2.2.2.1, u.2.2.2.2.2.2.1, u.2.2.2.2.2.2.2.1, u.2.2.2.2.2.2.2.2.1, u.2.2.2.2.2.2.2.2.2.1, u.2.2.2.2.2.2.2.2.2.2.1, u.2.2.2.2.2.2.2.2.2.2.2.1, u.2.2.2.2.2.2.2.2.2.2.2.2.1, u.2.2.2.2.2.2.2.2.2.2.2.2.2.1, u.2.2.2.2.2.2.2.2.2.2.2.2.2.2.1, u.2.2.2.2.2.2.2.2.2.2.2.2.2.2.2.1, v, u.2.2.2.2.2.2.2.2.2.2.2.2.2.2.2.2.2)
abbrev x_ina (u : XS) : Int32 := u.2.2.2.2.2.2.2.2.2.2.2.2.2.2.2.2.2.1
abbrev xs_ina (u : XS) (v : Int32) : XS := (u.1, u.2.1, u.2.2.1, u.2.2.2.1, u.2.2.2.2.1, u.2.2.2.2.2.1, u.2.2.2.2.2.2.1, u.2.2.2.2.2.2.2.1, u.2.2.2.2.2.2.2.2.1, u.2.2.2.2.2.2.2.2.2.1, u.2.2.2.2.2.2.2.2.2.2.1, u.2.2.2.2.2.2.2.2.2.2.2.1, u.2.2.2.2.2.2.2.2.2.2.2.2.1, u.2.2.2.2.2.2.2.2.2.2.2.2.2.1, u.2.2.2.2.2.2.2.2.2.2.2.2.2.2.1, u.2.2.2.2.2.2.2.2.2.2.2.2.2.2.2.1, u.2.2.2.2.2.2.2.2.2.2.2.2.2.2.2.2.1, v, u.2.2.2.2.2.2.2.2.2.2.2.2.2.2.2.2.2.2)
abbrev x_kep (u : XS) : Int32 := u.2.2.2.2.2.2.2.2.2.2.2.2.2.2.2.2.2.2.1
abbrev xs_kep (u : XS) (v : Int32) : XS := (u.1, u.2.1, u.2.2.1, u.2.2.2.1, u.2.2.2.2.1, u.2.2.2.2.2.1, u.2.2.2.2.2.2.1, u.2.2.2.2.2.2.2.1, u.2.2.2.2.2.2.2.2.1, u.2.2.2.2.2.2.2.2.2.1, u.2.2.2.2.2.2.2.2.2.2.1, u.2.2.2.2.2.2.2.2.2.2.2.1, u.2.2.2.2.2.2.2.2.2.2.2.2.1, u.2.2.2.2.2.2.2.2.2.2.2.2.2.1, u.2.2.2.2.2.2.2.2.2.2.2.2.2.2.1, u.2.2.2.2.2.2.2.2.2.2.2.2.2.2.2.1, u.2.2.2.2.2.2.2.2.2.2.2.2.2.2.2.2.1, u.2.2.2.2.2.2.2.2.2.2.2.2.2.2.2.2.2.1, v, u.2.2.2.2.2.2.2.2.2.2.2.2.2.2.2.2.2.2.2)
abbrev x_nws (u : XS) : Int32 := u.2.2.2.2.2.2.2.2.2.2.2.2.2.2.2.2.2.2.2.1
abbrev xs_nws (u : XS) (v : Int32) : XS := (u.1, u.2.1, u.2.2.1, u.2.2.2.1, u.2.2.2.2.1, u.2.2.2.2.2.1, u.2.2.2.2.2.2.1, u.2.2.2.2.2.2.2.1, u.2.2.2.2.2.2.2.2.1, u.2.2.2.2.2.2.2.2.2.1, u.2.2.2.2.2.2.2.2.2.2.1, u.2.2.2.2.2.2.2.2.2.2.2.1, u.2.2.2.2.2.2.2.2.2.2.2.2.1, u.2.2.2.2.2.2.2.2.2.2.2.2.2.1, u.2.2.2.2.2.2.2.2.2.2.2.2.2.2.1, u.2.2.2.2.2.2.2.2.2.2.2.2.2.2.2.1, u.2.2.2.2.2.2.2.2.2.2.2.2.2.2.2.2.1, u.2.2.2.2.2.2.2.2.2.2.2.2.2.2.2.2.2.1, u.2.2.2.2.2.2.2.2.2.2.2.2.2.2.2.2.2.2.1, v, u.2.2.2.2.2.2.2.2.2.2.2.2.2.2.2.2.2.2.2.2)
abbrev x_etk (u : XS) : Nat → Int32 := u.2.2.2.2.2.2.2.2.2.2.2.2.2.2.2.2.2.2.2.2.1
abbrev xs_etk (u : XS) (v : Nat → Int32) : XS := (u.1, u.2.1, u.2.2.1, u.2.2.2.1, u.2.2.2.2.1, u.2.2.2.2.2.1, u.2.2.2.2.2.2.1, u.2.2.2.2.2.2.2.1, u.2.2.2.2.2.2.2.2.1, u.2.2.2.2.2.2.2.2.2.1, u.2.2.2.2.2.2.2.2.2.2.1, u.2.2.2.2.2.2.2.2.2.2.2.1, u.2.2.2.2.2.2.2.2.2.2.2.2.1, u.2.2.2.2.2.2.2.2.2.2.2.2.2.1, u.2.2.2.2.2.2.2.2.2.2.2.2.2.2.1, u.2.2.2.2.2.2.2.2.2.2.2.2.2.2.2.1, u.2.2.2.2.2.2.2.2.2.2.2.2.2.2.2.2.1, u.2.2.2.2.2.2.2.2.2.2.2.2.2.2.2.2.2.1, u.2.2.2.2.2.2.2.2.2.2.2.2.2.2.2.2.2.2.1, u.2.2.2.2.2.2.2.2.2.2.2.2.2.2.2.2.2.2.2.1, v, u.2.2.2.2.2.2.2.2.2.2.2.2.2.2.2.2.2.2.2.2.2)
abbrev x_ewh (u : XS) : Nat → Int32 := u.2.2.2.2.2.2.2.2.2.2.2.2.2.2.2.2.2.2.2.2.2.1
abbrev xs_ewh (u : XS) (v : Nat → Int32) : XS := (u.1, u.2.1, u.2.2.1, u.2.2.2.1, u.2.2.2.2.1, u.2.2.2.2.2.1, u.2.2.2.2.2.2.1, u.2.2.2.2.2.2.2.1, u.2.2.2.2.2.2.2.2.1, u.2.2.2.2.2.2.2.2.2.1, u.2.2.2.2.2.2.2.2.2.2.1, u.2.2.2.2.2.2.2.2.2.2.2.1, u.2.2.2.2.2.2.2.2.2.2.2.2.1, u.2.2.2.2.2.2.2.2.2.2.2.2.2.1, u.2.2.2.2.2.2.2.2.2.2.2.2.2.2.1, u.2.2.2.2.2.2.2.2.2.2.2.2.2.2.2.1, u.2.2.2.2.2.2.2.2.2.2.2.2.2.2.2.2.1, u.2.2.2.2.2.2.2.2.2.2.2.2.2.2.2.2.2.1, u.2.2.2.2.2.2.2.2.2.2.2.2.2.2.2.2.2.2.1, u.2.2.2.2.2.2.2.2.2.2.2.2.2.2.2.2.2.2.2.1, u.2.2.2.2.2.2.2.2.2.2.2.2.2.2.2.2.2.2.2.2.1, v, u.2.2.2.2.2.2.2.2.2.2.2.2.2.2.2.2.2.2.2.2.2.2)
abbrev x_eun (u : XS) : Nat → Int32 := u.2.2.2.2.2.2.2.2.2.2.2.2.2.2.2.2.2.2.2.2.2.2.1
abbrev xs_eun (u : XS) (v : Nat → Int32) : XS := (u.1, u.2.1, u.2.2.1, u.2.2.2.1, u.2.2.2.2.1, u.2.2.2.2.2.1, u.2.2.2.2.2.2.1, u.2.2.2.2.2.2.2.1, u.2.2.2.2.2.2.2.2.1, u.2.2.2.2.2.2.2.2.2.1, u.2.2.2.2.2.2.2.2.2.2.1, u.2.2.2.2.2.2.2.2.2.2.2.1, u.2.2.2.2.2.2.2.2.2.2.2.2.1, u.2.2.2.2.2.2.2.2.2.2.2.2.2.1, u.2.2.2.2.2.2.2.2.2.2.2.2.2.2.1, u.2.2.2.2.2.2.2.2.2.2.2.2.2.2.2.1, u.2.2.2.2.2.2.2.2.2.2.2.2.2.2.2.2.1, u.2.2.2.2.2.2.2.2.2.2.2.2.2.2.2.2.2.1, u.2.2.2.2.2.2.2.2.2.2.2.2.2.2.2.2.2.2.1, u.2.2.2.2.2.2.2.2.2.2.2.2.2.2.2.2.2.2.2.1, u.2.2.2.2.2.2.2.2.2.2.2.2.2.2.2.2.2.2.2.2.1, u.2.2.2.2.2.2.2.2.2.2.2.2.2.2.2.2.2.2.2.2.2.1, v, u.2.2.2.2.2.2.2.2.2.2.2.2.2.2.2.2.2.2.2.2.2.2.2)
abbrev x_cf (u : XS) : Nat → Nat → Int32 := u.2.2.2.2.2.2.2.2.2.2.2.2.2.2.2.2.2.2.2.2.2.2.2.1
abbrev xs_cf (u : XS) (v : Nat → Nat → Int32) : XS := (u.1, u.2.1, u.2.2.1, u.2.2.2.1, u.2.2.2.2.1, u.2.2.2.2.2.1, u.2.2.2.2.2.2.1, u.2.2.2.2.2.2.2.1, u.2.2.2.2.2.2.2.2.1, u.2.2.2.2.2.2.2.2.2.1, u.2.2.2.2.2.2.2.2.2.2.1, u.2.2.2.2.2.2.2.2.2.2.2.1, u.2.2.2.2.2.2.2.2.2.2.2.2.1, u.2.2.2.2.2.2.2.2.2.2.2.2.2.1, u.2.2.2.2.2.2.2.2.2.2.2.2.2.2.1, u.2.2.2.2.2.2.2.2.2.2.2.2.2.2.2.1, u.2.2.2.2.2.2.2.2.2.2.2.2.2.2.2.2.1, u.2.2.2.2.2.2.2.2.2.2.2.2.2.2.2.2.2.1, u.2.2.2.2.2.2.2.2.2.2.2.2.2.2.2.2.2.2.1, u.2.2.2.2.2.2.2.2.2.2.2.2.2.2.2.2.2.2.2.1, u.2.2.2.2.2.2.2.2.2.2.2.2.2.2.2.2.2.2.2.2.1, u.2.2.2.2.2.2.2.2.2.2.2.2.2.2.2.2.2.2.2.2.2.1, u.2.2.2.2.2.2.2.2.2.2.2.2.2.2.2.2.2.2.2.2.2.2.1, v, u.2.2.2.2.2.2.2.2.2.2.2.2.2.2.2.2.2.2.2.2.2.2.2.2)
abbrev x_rc (u : XS) : Nat → Nat → Int32 := u.2.2.2.2.2.2.2.2.2.2.2.2.2.2.2.2.2.2.2.2.2.2.2.2.1
abbrev xs_rc (u : XS) (v : Nat → Nat → Int32) : XS := (u.1, u.2.1, u.2.2.1, u.2.2.2.1, u.2.2.2.2.1, u.2.2.2.2.2.1, u.2.2.2.2.2.2.1, u.2.2.2.2.2.2.2.1, u.2.2.2.2.2.2.2.2.1, u.2.2.2.2.2.2.2.2.2.1, u.2.2.2.2.2.2.2.2.2.2.1, u.2.2.2.2.2.2.2.2.2.2.2.1, u.2.2.2.2.2.2.2.2.2.2.2.2.1, u.2.2.2.2.2.2.2.2.2.2.2.2.2.1, u.2.2.2.2.2.2.2.2.2.2.2.2.2.2.1, u.2.2.2.2.2.2.2.2.2.2.2.2.2.2.2.1, u.2.2.2.2.2.2.2.2.2.2.2.2.2.2.2.2.1, u.2.2.2.2.2.2.2.2.2.2.2.2.2.2.2.2.2.1, u.2.2.2.2.2.2.2.2.2.2.2.2.2.2.2.2.2.2.1, u.2.2.2.2.2.2.2.2.2.2.2.2.2.2.2.2.2.2.2.1, u.2.2.2.2.2.2.2.2.2.2.2.2.2.2.2.2.2.2.2.2.1, u.2.2.2.2.2.2.2.2.2.2.2.2.2.2.2.2.2.2.2.2.2.1, u.2.2.2.2.2.2.2.2.2.2.2.2.2.2.2.2.2.2.2.2.2.2.1, u.2.2.2.2.2.2.2.2.2.2.2.2.2.2.2.2.2.2.2.2.2.2.2.1, v, u.2.2.2.2.2.2.2.2.2.2.2.2.2.2.2.2.2.2.2.2.2.2.2.2.2)
abbrev x_am (u : XS) : Nat → Nat → Int64 := u.2.2.2.2.2.2.2.2.2.2.2.2.2.2.2.2.2.2.2.2.2.2.2.2.2
abbrev xs_am (u : XS) (v : Nat → Nat → Int64) : XS := (u.1, u.2.1, u.2.2.1, u.2.2.2.1, u.2.2.2.2.1, u.2.2.2.2.2.1, u.2.2.2.2.2.2.1, u.2.2.2.2.2.2.2.1, u.2.2.2.2.2.2.2.2.1, u.2.2.2.2.2.2.2.2.2.1, u.2.2.2.2.2.2.2.2.2.2.1, u.2.2.2.2.2.2.2.2.2.2.2.1, u.2.2.2.2.2.2.2.2.2.2.2.2.1, u.2.2.2.2.2.2.2.2.2.2.2.2.2.1, u.2.2.2.2.2.2.2.2.2.2.2.2.2.2.1, u.2.2.2.2.2.2.2.2.2.2.2.2.2.2.2.1, u.2.2.2.2.2.2.2.2.2.2.2.2.2.2.2.2.1, u.2.2.2.2.2.2.2.2.2.2.2.2.2.2.2.2.2.1, u.2.2.2.2.2.2.2.2.2.2.2.2.2.2.2.2.2.2.1, u.2.2.2.2.2.2.2.2.2.2.2.2.2.2.2.2.2.2.2.1, u.2.2.2.2.2.2.2.2.2.2.2.2.2.2.2.2.2.2.2.2.1, u.2.2.2.2.2.2.2.2.2.2.2.2.2.2.2.2.2.2.2.2.2.1, u.2.2.2.2.2.2.2.2.2.2.2.2.2.2.2.2.2.2.2.2.2.2.1, u.2.2.2.2.2.2.2.2.2.2.2.2.2.2.2.2.2.2.2.2.2.2.2.1, u.2.2.2.2.2.2.2.2.2.2.2.2.2.2.2.2.2.2.2.2.2.2.2.2.1, v)
abbrev MS : Type := Int32 × (Nat → Int64) × (Nat → Int32) × (Nat → Int32) × (Nat → Int32) × Int32 × (Nat → Int32) × (Nat → Int64) × (Nat → Int64) × Int32 × (Nat → Int32) × Int32 × Int32 × Int32 × Int32 × Int32 × Int64 × Int32 × (Nat → Int32) × Int32 × (Nat → Int64)
abbrev m_cnt (u : MS) : Int32 := u.1
abbrev ms_cnt (u : MS) (v : Int32) : MS := (v, u.2)
abbrev m_fun (u : MS) : Nat → Int64 := u.2.1
abbrev ms_fun (u : MS) (v : Nat → Int64) : MS := (u.1, v, u.2.2)
abbrev m_nxt (u : MS) : Nat → Int32 := u.2.2.1
abbrev ms_nxt (u : MS) (v : Nat → Int32) : MS := (u.1, u.2.1, v, u.2.2.2)
abbrev m_kys (u : MS) : Nat → Int32 := u.2.2.2.1
abbrev ms_kys (u : MS) (v : Nat → Int32) : MS := (u.1, u.2.1, u.2.2.1, v, u.2.2.2.2)
abbrev m_thr (u : MS) : Nat → Int32 := u.2.2.2.2.1
abbrev ms_thr (u : MS) (v : Nat → Int32) : MS := (u.1, u.2.1, u.2.2.1, u.2.2.2.1, v, u.2.2.2.2.2)
abbrev m_sgc (u : MS) : Int32 := u.2.2.2.2.2.1
abbrev ms_sgc (u : MS) (v : Int32) : MS := (u.1, u.2.1, u.2.2.1, u.2.2.2.1, u.2.2.2.2.1, v, u.2.2.2.2.2.2)
abbrev m_sky (u : MS) : Nat → Int32 := u.2.2.2.2.2.2.1
abbrev ms_sky (u : MS) (v : Nat → Int32) : MS := (u.1, u.2.1, u.2.2.1, u.2.2.2.1, u.2.2.2.2.1, u.2.2.2.2.2.1, v, u.2.2.2.2.2.2.2)
abbrev m_sdg (u : MS) : Nat → Int64 := u.2.2.2.2.2.2.2.1
abbrev ms_sdg (u : MS) (v : Nat → Int64) : MS := (u.1, u.2.1, u.2.2.1, u.2.2.2.1, u.2.2.2.2.1, u.2.2.2.2.2.1, u.2.2.2.2.2.2.1, v, u.2.2.2.2.2.2.2.2)
abbrev m_cal (u : MS) : Nat → Int64 := u.2.2.2.2.2.2.2.2.1
abbrev ms_cal (u : MS) (v : Nat → Int64) : MS := (u.1, u.2.1, u.2.2.1, u.2.2.2.1, u.2.2.2.2.1, u.2.2.2.2.2.1, u.2.2.2.2.2.2.1, u.2.2.2.2.2.2.2.1, v, u.2.2.2.2.2.2.2.2.2)
abbrev m_dra (u : MS) : Int32 := u.2.2.2.2.2.2.2.2.2.1
abbrev ms_dra (u : MS) (v : Int32) : MS := (u.1, u.2.1, u.2.2.1, u.2.2.2.1, u.2.2.2.2.1, u.2.2.2.2.2.1, u.2.2.2.2.2.2.1, u.2.2.2.2.2.2.2.1, u.2.2.2.2.2.2.2.2.1, v, u.2.2.2.2.2.2.2.2.2.2)
abbrev m_min (u : MS) : Nat → Int32 := u.2.2.2.2.2.2.2.2.2.2.1
abbrev ms_min (u : MS) (v : Nat → Int32) : MS := (u.1, u.2.1, u.2.2.1, u.2.2.2.1, u.2.2.2.2.1, u.2.2.2.2.2.1, u.2.2.2.2.2.2.1, u.2.2.2.2.2.2.2.1, u.2.2.2.2.2.2.2.2.1, u.2.2.2.2.2.2.2.2.2.1, v, u.2.2.2.2.2.2.2.2.2.2.2)
abbrev m_mny (u : MS) : Int32 := u.2.2.2.2.2.2.2.2.2.2.2.1
abbrev ms_mny (u : MS) (v : Int32) : MS := (u.1, u.2.1, u.2.2.1, u.2.2.2.1, u.2.2.2.2.1, u.2.2.2.2.2.1, u.2.2.2.2.2.2.1, u.2.2.2.2.2.2.2.1, u.2.2.2.2.2.2.2.2.1, u.2.2.2.2.2.2.2.2.2.1, u.2.2.2.2.2.2.2.2.2.2.1, v, u.2.2.2.2.2.2.2.2.2.2.2.2)
abbrev m_wts (u : MS) : Int32 := u.2.2.2.2.2.2.2.2.2.2.2.2.1
abbrev ms_wts (u : MS) (v : Int32) : MS := (u.1, u.2.1, u.2.2.1, u.2.2.2.1, u.2.2.2.2.1, u.2.2.2.2.2.1, u.2.2.2.2.2.2.1, u.2.2.2.2.2.2.2.1, u.2.2.2.2.2.2.2.2.1, u.2.2.2.2.2.2.2.2.2.1, u.2.2.2.2.2.2.2.2.2.2.1, u.2.2.2.2.2.2.2.2.2.2.2.1, v, u.2.2.2.2.2.2.2.2.2.2.2.2.2)
abbrev m_tik (u : MS) : Int32 := u.2.2.2.2.2.2.2.2.2.2.2.2.2.1
abbrev ms_tik (u : MS) (v : Int32) : MS := (u.1, u.2.1, u.2.2.1, u.2.2.2.1, u.2.2.2.2.1, u.2.2.2.2.2.1, u.2.2.2.2.2.2.1, u.2.2.2.2.2.2.2.1, u.2.2.2.2.2.2.2.2.1, u.2.2.2.2.2.2.2.2.2.1, u.2.2.2.2.2.2.2.2.2.2.1, u.2.2.2.2.2.2.2.2.2.2.2.1, u.2.2.2.2.2.2.2.2.2.2.2.2.1, v, u.2.2.2.2.2.2.2.2.2.2.2.2.2.2)
abbrev m_stp (u : MS) : Int32 := u.2.2.2.2.2.2.2.2.2.2.2.2.2.2.1
abbrev ms_stp (u : MS) (v : Int32) : MS := (u.1, u.2.1, u.2.2.1, u.2.2.2.1, u.2.2.2.2.1, u.2.2.2.2.2.1, u.2.2.2.2.2.2.1, u.2.2.2.2.2.2.2.1, u.2.2.2.2.2.2.2.2.1, u.2.2.2.2.2.2.2.2.2.1, u.2.2.2.2.2.2.2.2.2.2.1, u.2.2.2.2.2.2.2.2.2.2.2.1, u.2.2.2.2.2.2.2.2.2.2.2.2.1, u.2.2.2.2.2.2.2.2.2.2.2.2.2.1, v, u.2.2.2.2.2.2.2.2.2.2.2.2.2.2.2)
abbrev m_hgt (u : MS) : Int32 := u.2.2.2.2.2.2.2.2.2.2.2.2.2.2.2.1
abbrev ms_hgt (u : MS) (v : Int32) : MS := (u.1, u.2.1, u.2.2.1, u.2.2.2.1, u.2.2.2.2.1, u.2.2.2.2.2.1, u.2.2.2.2.2.2.1, u.2.2.2.2.2.2.2.1, u.2.2.2.2.2.2.2.2.1, u.2.2.2.2.2.2.2.2.2.1, u.2.2.2.2.2.2.2.2.2.2.1, u.2.2.2.2.2.2.2.2.2.2.2.1, u.2.2.2.2.2.2.2.2.2.2.2.2.1, u.2.2.2.2.2.2.2.2.2.2.2.2.2.1, u.2.2.2.2.2.2.2.2.2.2.2.2.2.2.1, v, u.2.2.2.2.2.2.2.2.2.2.2.2.2.2.2.2)
abbrev m_pai (u : MS) : Int64 := u.2.2.2.2.2.2.2.2.2.2.2.2.2.2.2.2.1
abbrev ms_pai (u : MS) (v : Int64) : MS := (u.1, u.2.1, u.2.2.1, u.2.2.2.1, u.2.2.2.2.1, u.2.2.2.2.2.1, u.2.2.2.2.2.2.1, u.2.2.2.2.2.2.2.1, u.2.2.2.2.2.2.2.2.1, u.2.2.2.2.2.2.2.2.2.1, u.2.2.2.2.2.2.2.2.2.2.1, u.2.2.2.2.2.2.2.2.2.2.2.1, u.2.2.2.2.2.2.2.2.2.2.2.2.1, u.2.2.2.2.2.2.2.2.2.2.2.2.2.1, u.2.2.2.2.2.2.2.2.2.2.2.2.2.2.1, u.2.2.2.2.2.2.2.2.2.2.2.2.2.2.2.1, v, u.2.2.2.2.2.2.2.2.2.2.2.2.2.2.2.2.2)
abbrev m_evs (u : MS) : Int32 := u.2.2.2.2.2.2.2.2.2.2.2.2.2.2.2.2.2.1
abbrev ms_evs (u : MS) (v : Int32) : MS := (u.1, u.2.1, u.2.2.1, u.2.2.2.1, u.2.2.2.2.1, u.2.2.2.2.2.1, u.2.2.2.2.2.2.1, u.2.2.2.2.2.2.2.1, u.2.2.2.2.2.2.2.2.1, u.2.2.2.2.2.2.2.2.2.1, u.2.2.2.2.2.2.2.2.2.2.1, u.2.2.2.2.2.2.2.2.2.2.2.1, u.2.2.2.2.2.2.2.2.2.2.2.2.1, u.2.2.2.2.2.2.2.2.2.2.2.2.2.1, u.2.2.2.2.2.2.2.2.2.2.2.2.2.2.1, u.2.2.2.2.2.2.2.2.2.2.2.2.2.2.2.1, u.2.2.2.2.2.2.2.2.2.2.2.2.2.2.2.2.1, v, u.2.2.2.2.2.2.2.2.2.2.2.2.2.2.2.2.2.2)
abbrev m_evr (u : MS) : Nat → Int32 := u.2.2.2.2.2.2.2.2.2.2.2.2.2.2.2.2.2.2.1
abbrev ms_evr (u : MS) (v : Nat → Int32) : MS := (u.1, u.2.1, u.2.2.1, u.2.2.2.1, u.2.2.2.2.1, u.2.2.2.2.2.1, u.2.2.2.2.2.2.1, u.2.2.2.2.2.2.2.1, u.2.2.2.2.2.2.2.2.1, u.2.2.2.2.2.2.2.2.2.1, u.2.2.2.2.2.2.2.2.2.2.1, u.2.2.2.2.2.2.2.2.2.2.2.1, u.2.2.2.2.2.2.2.2.2.2.2.2.1, u.2.2.2.2.2.2.2.2.2.2.2.2.2.1, u.2.2.2.2.2.2.2.2.2.2.2.2.2.2.1, u.2.2.2.2.2.2.2.2.2.2.2.2.2.2.2.1, u.2.2.2.2.2.2.2.2.2.2.2.2.2.2.2.2.1, u.2.2.2.2.2.2.2.2.2.2.2.2.2.2.2.2.2.1, v, u.2.2.2.2.2.2.2.2.2.2.2.2.2.2.2.2.2.2.2)
abbrev m_rom (u : MS) : Int32 := u.2.2.2.2.2.2.2.2.2.2.2.2.2.2.2.2.2.2.2.1
abbrev ms_rom (u : MS) (v : Int32) : MS := (u.1, u.2.1, u.2.2.1, u.2.2.2.1, u.2.2.2.2.1, u.2.2.2.2.2.1, u.2.2.2.2.2.2.1, u.2.2.2.2.2.2.2.1, u.2.2.2.2.2.2.2.2.1, u.2.2.2.2.2.2.2.2.2.1, u.2.2.2.2.2.2.2.2.2.2.1, u.2.2.2.2.2.2.2.2.2.2.2.1, u.2.2.2.2.2.2.2.2.2.2.2.2.1, u.2.2.2.2.2.2.2.2.2.2.2.2.2.1, u.2.2.2.2.2.2.2.2.2.2.2.2.2.2.1, u.2.2.2.2.2.2.2.2.2.2.2.2.2.2.2.1, u.2.2.2.2.2.2.2.2.2.2.2.2.2.2.2.2.1, u.2.2.2.2.2.2.2.2.2.2.2.2.2.2.2.2.2.1, u.2.2.2.2.2.2.2.2.2.2.2.2.2.2.2.2.2.2.1, v, u.2.2.2.2.2.2.2.2.2.2.2.2.2.2.2.2.2.2.2.2)
abbrev m_bef (u : MS) : Nat → Int64 := u.2.2.2.2.2.2.2.2.2.2.2.2.2.2.2.2.2.2.2.2
abbrev ms_bef (u : MS) (v : Nat → Int64) : MS := (u.1, u.2.1, u.2.2.1, u.2.2.2.1, u.2.2.2.2.1, u.2.2.2.2.2.1, u.2.2.2.2.2.2.1, u.2.2.2.2.2.2.2.1, u.2.2.2.2.2.2.2.2.1, u.2.2.2.2.2.2.2.2.2.1, u.2.2.2.2.2.2.2.2.2.2.1, u.2.2.2.2.2.2.2.2.2.2.2.1, u.2.2.2.2.2.2.2.2.2.2.2.2.1, u.2.2.2.2.2.2.2.2.2.2.2.2.2.1, u.2.2.2.2.2.2.2.2.2.2.2.2.2.2.1, u.2.2.2.2.2.2.2.2.2.2.2.2.2.2.2.1, u.2.2.2.2.2.2.2.2.2.2.2.2.2.2.2.2.1, u.2.2.2.2.2.2.2.2.2.2.2.2.2.2.2.2.2.1, u.2.2.2.2.2.2.2.2.2.2.2.2.2.2.2.2.2.2.1, u.2.2.2.2.2.2.2.2.2.2.2.2.2.2.2.2.2.2.2.1, v)
abbrev wXp (ad : Nat → Nat) (cI cJ cR : ClassId) (u : XS) : va_W :=
   [(ad 0, .inr (6, [.ref (ad 1), .ref (ad 6), .ref (ad 9), .ref (ad 11), .ref (ad 13), .int (x_stp u), .int (x_hgt u), .long (x_pai u)])),
    (ad 1, .inr (0, [.ref (ad 2), .ref (ad 3), .ref (ad 4), .ref (ad 5), .int (x_cnt u)])),
    (ad 2, .inl (cJ, 12, .inr (.inl (x_fun u)))),
    (ad 3, .inl (cI, 12, .inl (x_nxt u))),
    (ad 4, .inl (cI, 12, .inl (x_kys u))),
    (ad 5, .inl (cI, 12, .inl (x_thr u))),
    (ad 6, .inr (4, [.ref (ad 7), .ref (ad 8), .int (x_sgc u)])),
    (ad 7, .inl (cI, 200, .inl (x_sky u))),
    (ad 8, .inl (cJ, 200, .inr (.inl (x_sdg u)))),
    (ad 9, .inr (2, [.ref (ad 17), .ref (ad 10), .int (x_add u), .int (x_the u)])),
    (ad 10, .inl (cI, 12, .inl (x_dsg u))),
    (ad 11, .inr (5, [.ref (ad 12), .int (x_rwc u), .int (x_tik u)])),
    (ad 12, .inl (cR, 24, .inr (.inr (.inr (.inr (fun i => some (ad (17 + x_row u i)))))))),
    (ad 13, .inr (3, [.ref (ad 14), .ref (ad 15), .ref (ad 16), .int (x_kep u), .int (x_nws u), .int (x_ina u)])),
    (ad 14, .inl (cI, 60, .inl (x_etk u))),
    (ad 15, .inl (cI, 60, .inl (x_ewh u))),
    (ad 16, .inl (cI, 60, .inl (x_eun u)))]
abbrev wXc (ad : Nat → Nat) (u : XS) (c : Nat) : Nat × va_E := (ad (17 + c), .inr (1, [.ref (ad (42 + c)), .ref (ad (67 + c)), .int (x_cf u 2 c), .int (x_cf u 3 c), .int (x_cf u 4 c), .int (x_cf u 5 c), .int (x_cf u 6 c), .int (x_cf u 7 c), .int (x_cf u 8 c), .int (x_cf u 9 c), .int (x_cf u 10 c), .int (x_cf u 11 c)]))
abbrev wXr (ad : Nat → Nat) (cI : ClassId) (u : XS) (c : Nat) : Nat × va_E := (ad (42 + c), .inl (cI, 4, .inl (x_rc u c)))
abbrev wXa (ad : Nat → Nat) (cJ : ClassId) (u : XS) (c : Nat) : Nat × va_E := (ad (67 + c), .inl (cJ, 4, .inr (.inl (x_am u c))))
abbrev wX (ad : Nat → Nat) (cI cJ cR : ClassId) (u : XS) : va_W := wXp ad cI cJ cR u ++ ((List.range 25).map (wXc ad u) ++ ((List.range 25).map (wXr ad cI u) ++ ((List.range 25).map (wXa ad cJ u) ++ [])))
abbrev wM (ad : Nat → Nat) (cI cJ : ClassId) (u : MS) : va_W :=
   [(ad 0, .inr (7, [.int (m_cnt u), .ref (ad 1), .ref (ad 2), .ref (ad 3), .ref (ad 4), .int (m_sgc u), .ref (ad 5), .ref (ad 6), .ref (ad 7), .int (m_dra u), .ref (ad 8), .int (m_mny u), .int (m_wts u), .int (m_tik u), .int (m_stp u), .int (m_hgt u), .long (m_pai u), .int (m_evs u), .ref (ad 9), .int (m_rom u), .ref (ad 10)])),
    (ad 1, .inl (cJ, 12, .inr (.inl (m_fun u)))),
    (ad 2, .inl (cI, 12, .inl (m_nxt u))),
    (ad 3, .inl (cI, 12, .inl (m_kys u))),
    (ad 4, .inl (cI, 12, .inl (m_thr u))),
    (ad 5, .inl (cI, 200, .inl (m_sky u))),
    (ad 6, .inl (cJ, 200, .inr (.inl (m_sdg u)))),
    (ad 7, .inl (cJ, 442, .inr (.inl (m_cal u)))),
    (ad 8, .inl (cI, 12, .inl (m_min u))),
    (ad 9, .inl (cI, 180, .inl (m_evr u))),
    (ad 10, .inl (cJ, 12, .inr (.inl (m_bef u))))]
abbrev xT (cI cJ cR : ClassId) : List (ClassId × FieldType) := [(cI, .int), (cJ, .long), (cR, .object "SignedCalls$Call")]
def AX (ad : Nat → Nat) : Nat → Prop := fun q => ∃ i : Nat, i < 92 ∧ q = ad i
abbrev XW (D : va_G) (ad : Nat → Nat) (cI cJ cR : ClassId) (H0 H : Heap) (locs : List Loc) (u : XS) : Prop := va_P D vwCl (wX ad cI cJ cR u) H ∧ va_D (AX ad) (wX ad cI cJ cR u) ∧ va_S (AX ad) H0 H locs
abbrev XB (D : va_G) (ad : Nat → Nat) (cI cJ cR : ClassId) (u : XS) (t : State) : Prop := va_P D vwCl (wX ad cI cJ cR u) t.heap ∧ va_K D vwCl (xT cI cJ cR) t ∧ va_D (AX ad) (wX ad cI cJ cR u)
theorem XB_blind {D : va_G} {ad : Nat → Nat} {cI cJ cR : ClassId} {u : XS} {vs : List Value} : FrameBlind (va_Pc vs (XB D ad cI cJ cR u)) := fun a U g mk q => ⟨q.1, q.2.1, va_K.moved (u := U) (U := U.calling g mk a) (Vm.Alike.refl U.vm) q.2.2.1, q.2.2.2⟩
abbrev mT (cI cJ : ClassId) : List (ClassId × FieldType) := [(cI, .int), (cJ, .long)]
def AM (ad : Nat → Nat) : Nat → Prop := fun q => ∃ i : Nat, i < 11 ∧ q = ad i
abbrev MW (D : va_G) (ad : Nat → Nat) (cI cJ : ClassId) (H0 H : Heap) (locs : List Loc) (u : MS) : Prop := va_P D vwCl (wM ad cI cJ u) H ∧ va_D (AM ad) (wM ad cI cJ u) ∧ va_S (AM ad) H0 H locs
abbrev MB (D : va_G) (ad : Nat → Nat) (cI cJ : ClassId) (u : MS) (t : State) : Prop := va_P D vwCl (wM ad cI cJ u) t.heap ∧ va_K D vwCl (mT cI cJ) t ∧ va_D (AM ad) (wM ad cI cJ u)
theorem MB_blind {D : va_G} {ad : Nat → Nat} {cI cJ : ClassId} {u : MS} {vs : List Value} : FrameBlind (va_Pc vs (MB D ad cI cJ u)) := fun a U g mk q => ⟨q.1, q.2.1, va_K.moved (u := U) (U := U.calling g mk a) (Vm.Alike.refl U.vm) q.2.2.1, q.2.2.2⟩
