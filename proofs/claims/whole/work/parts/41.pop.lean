def A8 (x : Nat) : Nat := x - ((x / 2) &&& 85)
def B8 (x : Nat) : Nat := (A8 x &&& 51) + ((A8 x / 4) &&& 51)
def C8 (x : Nat) : Nat := (B8 x + B8 x / 16) &&& 15
theorem land_dec (a b c d : Nat) (hb : b < 256) (hd : d < 256) : (256 * a + b) &&& (256 * c + d) = 256 * (a &&& c) + (b &&& d) := by
  have h1 := Nat.and_div_two_pow (a := 256 * a + b) (b := 256 * c + d) (n := 8)
  have h2 := Nat.and_mod_two_pow (a := 256 * a + b) (b := 256 * c + d) (n := 8)
  have e1 : (256 * a + b) / 2 ^ 8 = a := by omega
  have e2 : (256 * c + d) / 2 ^ 8 = c := by omega
  have e3 : (256 * a + b) % 2 ^ 8 = b := by omega
  have e4 : (256 * c + d) % 2 ^ 8 = d := by omega
  rw [e1, e2] at h1
  rw [e3, e4] at h2
  have h3 := Nat.div_add_mod ((256 * a + b) &&& (256 * c + d)) (2 ^ 8)
  rw [h1, h2] at h3
  omega
theorem ck1 : ∀ x, x < 256 → ∀ k, k < 2 → (k * 128 + x / 2) &&& 85 = (x / 2) &&& 85 := by decide +kernel
theorem ck1h : ∀ x, x < 256 → (x / 2) &&& 5592405 = (x / 2) &&& 85 ∧ ((x / 2) &&& 85) ≤ x := by decide +kernel
theorem ck2 : ∀ x, x < 256 → ∀ k, k < 4 → (k * 64 + A8 x / 4) &&& 51 = (A8 x / 4) &&& 51 := by decide +kernel
theorem ck2h : ∀ x, x < 256 → A8 x &&& 3355443 = A8 x &&& 51 ∧ (A8 x / 4) &&& 3355443 = (A8 x / 4) &&& 51 := by decide +kernel
theorem ck3 : ∀ x, x < 256 → ∀ k, k < 5 → B8 x + k * 16 + B8 x / 16 < 256 ∧ (B8 x + k * 16 + B8 x / 16) &&& 15 = C8 x := by decide +kernel
theorem ck3h : ∀ x, x < 256 → B8 x < 256 ∧ B8 x % 16 < 5 ∧ (B8 x + B8 x / 16) &&& 986895 = C8 x := by decide +kernel
theorem ck4 : ∀ x, x < 256 → C8 x = p8 x ∧ C8 x ≤ 8 := by decide +kernel
theorem sw_1 (h l : Nat) (hh : h < 256) (hl : l < 256) : sw1 (256 * h + l) = 256 * A8 h + A8 l := by
  have s1 : ((256 * h + l) / 2) &&& 1431655765 = 256 * ((h / 2) &&& 85) + ((l / 2) &&& 85) := by
    have e : (256 * h + l) / 2 = 256 * (h / 2) + ((h % 2) * 128 + l / 2) := by omega
    rw [e, show 1431655765 = 256 * 5592405 + 85 from rfl, land_dec _ _ _ _ (by omega) (by omega), ck1 l hl _ (by omega), (ck1h h hh).1]
  have h1 := (ck1h h hh).2
  have h2 := (ck1h l hl).2
  unfold sw1 A8
  rw [s1]
  clear s1
  generalize (h / 2) &&& 85 = x at *
  generalize (l / 2) &&& 85 = y at *
  omega
theorem sw_2 (h l : Nat) (hh : h < 256) (hl : l < 256) : sw2 (256 * A8 h + A8 l) = 256 * B8 h + B8 l := by
  have a8l : A8 l < 256 := by unfold A8; omega
  have e : (256 * A8 h + A8 l) / 4 = 256 * (A8 h / 4) + ((A8 h % 4) * 64 + A8 l / 4) := by omega
  unfold sw2
  rw [e, show 858993459 = 256 * 3355443 + 51 from rfl, land_dec _ _ _ _ a8l (by omega), land_dec _ _ _ _ (by omega) (by omega), ck2 l hl _ (by omega), (ck2h h hh).1, (ck2h h hh).2]
  unfold B8
  generalize A8 h &&& 51 = x
  generalize A8 l &&& 51 = y
  generalize (A8 h / 4) &&& 51 = z
  generalize (A8 l / 4) &&& 51 = w
  clear e a8l
  omega
theorem sw_3 (h l : Nat) (hh : h < 256) (hl : l < 256) : sw3 (256 * B8 h + B8 l) = 256 * C8 h + C8 l := by
  have b1 := ck3h h hh
  have b3 := ck3 l hl (B8 h % 16) b1.2.1
  have e : (256 * B8 h + B8 l) + (256 * B8 h + B8 l) / 16 = 256 * (B8 h + B8 h / 16) + (B8 l + (B8 h % 16) * 16 + B8 l / 16) := by
    clear b1 b3
    omega
  unfold sw3
  rw [e, show 252645135 = 256 * 986895 + 15 from rfl, land_dec _ _ _ _ b3.1 (by decide), b3.2, b1.2.2]
theorem sw_4 (y x : Nat) (hy : y ≤ 8) (hx : x ≤ 8) : sw5 (sw4 (256 * y + x)) % 64 = y + x := by
  unfold sw5 sw4
  have d1 : (256 * y + x) / 256 = y := by omega
  rw [d1]
  have d2 : (256 * y + x + y) / 65536 = 0 := by omega
  rw [d2]
  omega
theorem sw_hl (h l : Nat) (hh : h < 256) (hl : l < 256) : sw (256 * h + l) = p8 h + p8 l := by
  unfold sw
  rw [sw_1 h l hh hl, sw_2 h l hh hl, sw_3 h l hh hl, sw_4 _ _ (ck4 h hh).2 (ck4 l hl).2, (ck4 h hh).1, (ck4 l hl).1]
theorem pz0 (n : Nat) : (n % 256) % 2 = n / 2 ^ 0 % 2 := by omega
theorem py0 (n : Nat) : (n / 256) % 2 = n / 2 ^ 8 % 2 := by omega
theorem pz1 (n : Nat) : (n % 256) / 2 % 2 = n / 2 ^ 1 % 2 := by omega
theorem py1 (n : Nat) : (n / 256) / 2 % 2 = n / 2 ^ 9 % 2 := by omega
theorem pz2 (n : Nat) : (n % 256) / 4 % 2 = n / 2 ^ 2 % 2 := by omega
theorem py2 (n : Nat) : (n / 256) / 4 % 2 = n / 2 ^ 10 % 2 := by omega
theorem pz3 (n : Nat) : (n % 256) / 8 % 2 = n / 2 ^ 3 % 2 := by omega
theorem py3 (n : Nat) : (n / 256) / 8 % 2 = n / 2 ^ 11 % 2 := by omega
theorem pz4 (n : Nat) : (n % 256) / 16 % 2 = n / 2 ^ 4 % 2 := by omega
theorem py4 (n : Nat) : (n / 256) / 16 % 2 = n / 2 ^ 12 % 2 := by omega
theorem pz5 (n : Nat) : (n % 256) / 32 % 2 = n / 2 ^ 5 % 2 := by omega
theorem py5 (n : Nat) : (n / 256) / 32 % 2 = n / 2 ^ 13 % 2 := by omega
theorem pz6 (n : Nat) : (n % 256) / 64 % 2 = n / 2 ^ 6 % 2 := by omega
theorem py6 (n : Nat) : (n / 256) / 64 % 2 = n / 2 ^ 14 % 2 := by omega
theorem pz7 (n : Nat) : (n % 256) / 128 % 2 = n / 2 ^ 7 % 2 := by omega
theorem py7 (n : Nat) : (n / 256) / 128 % 2 = n / 2 ^ 15 % 2 := by omega
theorem p8_eq (n : Nat) : p8 n = n % 2 + (n / 2 % 2 + (n / 4 % 2 + (n / 8 % 2 + (n / 16 % 2 + (n / 32 % 2 + (n / 64 % 2 + n / 128 % 2)))))) := rfl
theorem sw_sum {n : Nat} (hn : n < 65536) : sw n = nsum (fun i => n / 2 ^ i % 2) 16 := by
  have h := sw_hl (n / 256) (n % 256) (by omega) (by omega)
  rw [Nat.div_add_mod] at h
  rw [h, Nat.add_comm, p8_eq, p8_eq, pz0, pz1, pz2, pz3, pz4, pz5, pz6, pz7, py0, py1, py2, py3, py4, py5, py6, py7]
  simp only [nsum, Nat.add_assoc, Nat.zero_add]
