section AP
variable {n : Nat} {u : XS} {cal : Nat → Int64} {evr : Nat → Int32} {rom : Int32} {bef : Nat → Int64} {k p e t : Nat}
theorem like_loop {c a : Nat} (hc : c < 25) (hc0 : c ≠ 0) (ha : a ≤ 4) (h2 : x_cf u 2 0 = nI a) : ∀ (n i : Nat) (l : Int32) (w : XS) (cf rc : Nat → Nat → Int32) (am : Nat → Nat → Int64), l = nI i → w = UX u cf rc am → LK u c i cf rc am → i ≤ a → a < i + n → ∃ cf' rc' am', f_X1_becomeLike_46 n c 0 l w = some (UX u cf' rc' am') ∧ LK u c a cf' rc' am' := by
  intro n
  induction n with
  | zero => intro i l w cf rc am _ _ _ h4 h5; omega
  | succ n ih =>
    intro i l w cf rc am el ew hL h4 h5
    subst el ew
    obtain ⟨g1, g2, g3, g4, g5⟩ := id hL
    have e1 : x_cf (UX u cf rc am) = cf := UX_cf
    have e2 : x_rc (UX u cf rc am) = rc := UX_rc
    have e3 : x_am (UX u cf rc am) = am := UX_am
    rw [f_X1_becomeLike_46, e1, e2, e3, g1 2 0 (Ne.symm hc0), h2]
    by_cases hi : i = a
    · subst hi
      rw [if_pos (nI_le (Nat.le_refl _) (by omega))]
      exact ⟨cf, rc, am, rfl, hL⟩
    · have hin : inb (nI i) 4 = true := inb_n (show i < 4 by omega) (by decide)
      have hci : Int32.toNatClampNeg (nI i) = i := cl_n (by omega)
      rw [if_neg (nI_ge (show i < a by omega) (by omega)), if_pos hin, if_pos hin, hci]
      unfold f_X1_append
      rw [e1, e2, e3, g3]
      simp only [if_pos hc, if_pos hin, hci, Option.bind_some]
      rw [UX_e]
      refine ih (i + 1) _ _ (up2 cf 2 c (nI i + 1)) (va_up rc c (upd (rc c) i (rc 0 i))) (va_up am c (vp_updL (am c) i (am 0 i))) (nI_1 i) rfl ⟨fun f c' h => ?_, fun f h1 h2 => ?_, ?_, fun c' h => ⟨?_, ?_⟩, fun j hj => ?_⟩ (by omega) (by omega)
      · rw [up2_ne h]
        exact g1 f c' h
      · rw [up2_nk (by omega)]
        exact g2 f h1 h2
      · rw [up2_s, nI_1]
      · rw [va_up_ne _ _ h]
        exact (g4 c' h).1
      · rw [va_up_ne _ _ h]
        exact (g4 c' h).2
      · rw [va_up_self, va_up_self]
        by_cases hj2 : j = i
        · subst hj2
          rw [pk_us, pk_uLs, (g4 0 (Ne.symm hc0)).1, (g4 0 (Ne.symm hc0)).2]
          exact ⟨rfl, rfl⟩
        · rw [pk_un hj2, pk_uLn hj2]
          exact g5 j (by omega)
end AP
