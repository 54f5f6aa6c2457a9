/-! ===== what the constructors leave is the start of both worlds ===== -/
def adF (h0 : Nat) (a b : Nat → Nat) : Nat → Nat := fun i => ([h0, a 0, a 1, a 2, a 3, a 4, a 5, a 6, a 7, a 8, a 12, a 13, b 0, a 14, a 15, a 16, a 17, a 9, b 1, b 4, b 7, b 10, b 13, b 16, b 19, b 22, b 25, b 28, b 31, b 34, b 37, b 40, b 43, b 46, b 49, b 52, b 55, b 58, b 61, b 64, b 67, b 70, a 10, b 2, b 5, b 8, b 11, b 14, b 17, b 20, b 23, b 26, b 29, b 32, b 35, b 38, b 41, b 44, b 47, b 50, b 53, b 56, b 59, b 62, b 65, b 68, b 71, a 11, b 3, b 6, b 9, b 12, b 15, b 18, b 21, b 24, b 27, b 30, b 33, b 36, b 39, b 42, b 45, b 48, b 51, b 54, b 57, b 60, b 63, b 66, b 69, b 72] : List Nat).getD i 0
def piF : Nat → Nat := fun i => ([0, 1, 2, 3, 4, 5, 6, 7, 8, 9, 13, 14, 15, 88, 89, 90, 91, 10, 16, 19, 22, 25, 28, 31, 34, 37, 40, 43, 46, 49, 52, 55, 58, 61, 64, 67, 70, 73, 76, 79, 82, 85, 11, 17, 20, 23, 26, 29, 32, 35, 38, 41, 44, 47, 50, 53, 56, 59, 62, 65, 68, 71, 74, 77, 80, 83, 86, 12, 18, 21, 24, 27, 30, 33, 36, 39, 42, 45, 48, 51, 54, 57, 60, 63, 66, 69, 72, 75, 78, 81, 84, 87] : List Nat).getD i 0
def x0 : XS := (0, fun _ => 0, fun _ => 0, fun _ => 0, fun _ => 0, 0, fun _ => 0, fun _ => 0, fun i => i + 1, 0, fun _ => 0, 0, 0, 0, 1, 0, 0, 0, 0, 59, fun _ => 0, fun _ => 0, fun _ => 0, fun _ _ => 0, fun _ _ => 0, fun _ _ => 0)
abbrev wX' (h0 : Nat) (a b : Nat → Nat) (cI cJ cR : ClassId) : va_W := (wX (adF h0 a b) cI cJ cR x0).set 12 (b 0, .inl (cR, 24, .inr (.inr (.inr (.inr (fun j => if j < 24 then some (b (1 + 3 * j)) else none))))))
section CV
variable {h0 : Nat} {a b : Nat → Nat} {cI cJ cR : ClassId}
theorem pm_0 : (wX' h0 a b cI cJ cR)[0]? = (w6 cI cJ cR h0 a b)[0]? := rfl
theorem pm_1 : (wX' h0 a b cI cJ cR)[1]? = (w6 cI cJ cR h0 a b)[1]? := rfl
theorem pm_2 : (wX' h0 a b cI cJ cR)[2]? = (w6 cI cJ cR h0 a b)[2]? := rfl
theorem pm_3 : (wX' h0 a b cI cJ cR)[3]? = (w6 cI cJ cR h0 a b)[3]? := rfl
theorem pm_4 : (wX' h0 a b cI cJ cR)[4]? = (w6 cI cJ cR h0 a b)[4]? := rfl
theorem pm_5 : (wX' h0 a b cI cJ cR)[5]? = (w6 cI cJ cR h0 a b)[5]? := rfl
theorem pm_6 : (wX' h0 a b cI cJ cR)[6]? = (w6 cI cJ cR h0 a b)[6]? := rfl
theorem pm_7 : (wX' h0 a b cI cJ cR)[7]? = (w6 cI cJ cR h0 a b)[7]? := rfl
theorem pm_8 : (wX' h0 a b cI cJ cR)[8]? = (w6 cI cJ cR h0 a b)[8]? := rfl
theorem pm_9 : (wX' h0 a b cI cJ cR)[9]? = (w6 cI cJ cR h0 a b)[9]? := rfl
theorem pm_10 : (wX' h0 a b cI cJ cR)[10]? = (w6 cI cJ cR h0 a b)[13]? := rfl
theorem pm_11 : (wX' h0 a b cI cJ cR)[11]? = (w6 cI cJ cR h0 a b)[14]? := rfl
theorem pm_12 : (wX' h0 a b cI cJ cR)[12]? = (w6 cI cJ cR h0 a b)[15]? := rfl
theorem pm_13 : (wX' h0 a b cI cJ cR)[13]? = (w6 cI cJ cR h0 a b)[88]? := rfl
theorem pm_14 : (wX' h0 a b cI cJ cR)[14]? = (w6 cI cJ cR h0 a b)[89]? := rfl
theorem pm_15 : (wX' h0 a b cI cJ cR)[15]? = (w6 cI cJ cR h0 a b)[90]? := rfl
theorem pm_16 : (wX' h0 a b cI cJ cR)[16]? = (w6 cI cJ cR h0 a b)[91]? := rfl
theorem pm_17 : (wX' h0 a b cI cJ cR)[17]? = (w6 cI cJ cR h0 a b)[10]? := rfl
theorem pm_18 : (wX' h0 a b cI cJ cR)[18]? = (w6 cI cJ cR h0 a b)[16]? := rfl
theorem pm_19 : (wX' h0 a b cI cJ cR)[19]? = (w6 cI cJ cR h0 a b)[19]? := rfl
theorem pm_20 : (wX' h0 a b cI cJ cR)[20]? = (w6 cI cJ cR h0 a b)[22]? := rfl
theorem pm_21 : (wX' h0 a b cI cJ cR)[21]? = (w6 cI cJ cR h0 a b)[25]? := rfl
theorem pm_22 : (wX' h0 a b cI cJ cR)[22]? = (w6 cI cJ cR h0 a b)[28]? := rfl
theorem pm_23 : (wX' h0 a b cI cJ cR)[23]? = (w6 cI cJ cR h0 a b)[31]? := rfl
theorem pm_24 : (wX' h0 a b cI cJ cR)[24]? = (w6 cI cJ cR h0 a b)[34]? := rfl
theorem pm_25 : (wX' h0 a b cI cJ cR)[25]? = (w6 cI cJ cR h0 a b)[37]? := rfl
theorem pm_26 : (wX' h0 a b cI cJ cR)[26]? = (w6 cI cJ cR h0 a b)[40]? := rfl
theorem pm_27 : (wX' h0 a b cI cJ cR)[27]? = (w6 cI cJ cR h0 a b)[43]? := rfl
theorem pm_28 : (wX' h0 a b cI cJ cR)[28]? = (w6 cI cJ cR h0 a b)[46]? := rfl
theorem pm_29 : (wX' h0 a b cI cJ cR)[29]? = (w6 cI cJ cR h0 a b)[49]? := rfl
theorem pm_30 : (wX' h0 a b cI cJ cR)[30]? = (w6 cI cJ cR h0 a b)[52]? := rfl
theorem pm_31 : (wX' h0 a b cI cJ cR)[31]? = (w6 cI cJ cR h0 a b)[55]? := rfl
theorem pm_32 : (wX' h0 a b cI cJ cR)[32]? = (w6 cI cJ cR h0 a b)[58]? := rfl
theorem pm_33 : (wX' h0 a b cI cJ cR)[33]? = (w6 cI cJ cR h0 a b)[61]? := rfl
theorem pm_34 : (wX' h0 a b cI cJ cR)[34]? = (w6 cI cJ cR h0 a b)[64]? := rfl
theorem pm_35 : (wX' h0 a b cI cJ cR)[35]? = (w6 cI cJ cR h0 a b)[67]? := rfl
theorem pm_36 : (wX' h0 a b cI cJ cR)[36]? = (w6 cI cJ cR h0 a b)[70]? := rfl
theorem pm_37 : (wX' h0 a b cI cJ cR)[37]? = (w6 cI cJ cR h0 a b)[73]? := rfl
theorem pm_38 : (wX' h0 a b cI cJ cR)[38]? = (w6 cI cJ cR h0 a b)[76]? := rfl
theorem pm_39 : (wX' h0 a b cI cJ cR)[39]? = (w6 cI cJ cR h0 a b)[79]? := rfl
theorem pm_40 : (wX' h0 a b cI cJ cR)[40]? = (w6 cI cJ cR h0 a b)[82]? := rfl
theorem pm_41 : (wX' h0 a b cI cJ cR)[41]? = (w6 cI cJ cR h0 a b)[85]? := rfl
theorem pm_42 : (wX' h0 a b cI cJ cR)[42]? = (w6 cI cJ cR h0 a b)[11]? := rfl
theorem pm_43 : (wX' h0 a b cI cJ cR)[43]? = (w6 cI cJ cR h0 a b)[17]? := rfl
theorem pm_44 : (wX' h0 a b cI cJ cR)[44]? = (w6 cI cJ cR h0 a b)[20]? := rfl
theorem pm_45 : (wX' h0 a b cI cJ cR)[45]? = (w6 cI cJ cR h0 a b)[23]? := rfl
theorem pm_46 : (wX' h0 a b cI cJ cR)[46]? = (w6 cI cJ cR h0 a b)[26]? := rfl
theorem pm_47 : (wX' h0 a b cI cJ cR)[47]? = (w6 cI cJ cR h0 a b)[29]? := rfl
theorem pm_48 : (wX' h0 a b cI cJ cR)[48]? = (w6 cI cJ cR h0 a b)[32]? := rfl
theorem pm_49 : (wX' h0 a b cI cJ cR)[49]? = (w6 cI cJ cR h0 a b)[35]? := rfl
theorem pm_50 : (wX' h0 a b cI cJ cR)[50]? = (w6 cI cJ cR h0 a b)[38]? := rfl
theorem pm_51 : (wX' h0 a b cI cJ cR)[51]? = (w6 cI cJ cR h0 a b)[41]? := rfl
theorem pm_52 : (wX' h0 a b cI cJ cR)[52]? = (w6 cI cJ cR h0 a b)[44]? := rfl
theorem pm_53 : (wX' h0 a b cI cJ cR)[53]? = (w6 cI cJ cR h0 a b)[47]? := rfl
theorem pm_54 : (wX' h0 a b cI cJ cR)[54]? = (w6 cI cJ cR h0 a b)[50]? := rfl
theorem pm_55 : (wX' h0 a b cI cJ cR)[55]? = (w6 cI cJ cR h0 a b)[53]? := rfl
theorem pm_56 : (wX' h0 a b cI cJ cR)[56]? = (w6 cI cJ cR h0 a b)[56]? := rfl
theorem pm_57 : (wX' h0 a b cI cJ cR)[57]? = (w6 cI cJ cR h0 a b)[59]? := rfl
theorem pm_58 : (wX' h0 a b cI cJ cR)[58]? = (w6 cI cJ cR h0 a b)[62]? := rfl
theorem pm_59 : (wX' h0 a b cI cJ cR)[59]? = (w6 cI cJ cR h0 a b)[65]? := rfl
theorem pm_60 : (wX' h0 a b cI cJ cR)[60]? = (w6 cI cJ cR h0 a b)[68]? := rfl
theorem pm_61 : (wX' h0 a b cI cJ cR)[61]? = (w6 cI cJ cR h0 a b)[71]? := rfl
theorem pm_62 : (wX' h0 a b cI cJ cR)[62]? = (w6 cI cJ cR h0 a b)[74]? := rfl
theorem pm_63 : (wX' h0 a b cI cJ cR)[63]? = (w6 cI cJ cR h0 a b)[77]? := rfl
theorem pm_64 : (wX' h0 a b cI cJ cR)[64]? = (w6 cI cJ cR h0 a b)[80]? := rfl
theorem pm_65 : (wX' h0 a b cI cJ cR)[65]? = (w6 cI cJ cR h0 a b)[83]? := rfl
theorem pm_66 : (wX' h0 a b cI cJ cR)[66]? = (w6 cI cJ cR h0 a b)[86]? := rfl
theorem pm_67 : (wX' h0 a b cI cJ cR)[67]? = (w6 cI cJ cR h0 a b)[12]? := rfl
theorem pm_68 : (wX' h0 a b cI cJ cR)[68]? = (w6 cI cJ cR h0 a b)[18]? := rfl
theorem pm_69 : (wX' h0 a b cI cJ cR)[69]? = (w6 cI cJ cR h0 a b)[21]? := rfl
theorem pm_70 : (wX' h0 a b cI cJ cR)[70]? = (w6 cI cJ cR h0 a b)[24]? := rfl
theorem pm_71 : (wX' h0 a b cI cJ cR)[71]? = (w6 cI cJ cR h0 a b)[27]? := rfl
theorem pm_72 : (wX' h0 a b cI cJ cR)[72]? = (w6 cI cJ cR h0 a b)[30]? := rfl
theorem pm_73 : (wX' h0 a b cI cJ cR)[73]? = (w6 cI cJ cR h0 a b)[33]? := rfl
theorem pm_74 : (wX' h0 a b cI cJ cR)[74]? = (w6 cI cJ cR h0 a b)[36]? := rfl
theorem pm_75 : (wX' h0 a b cI cJ cR)[75]? = (w6 cI cJ cR h0 a b)[39]? := rfl
theorem pm_76 : (wX' h0 a b cI cJ cR)[76]? = (w6 cI cJ cR h0 a b)[42]? := rfl
theorem pm_77 : (wX' h0 a b cI cJ cR)[77]? = (w6 cI cJ cR h0 a b)[45]? := rfl
theorem pm_78 : (wX' h0 a b cI cJ cR)[78]? = (w6 cI cJ cR h0 a b)[48]? := rfl
theorem pm_79 : (wX' h0 a b cI cJ cR)[79]? = (w6 cI cJ cR h0 a b)[51]? := rfl
theorem pm_80 : (wX' h0 a b cI cJ cR)[80]? = (w6 cI cJ cR h0 a b)[54]? := rfl
theorem pm_81 : (wX' h0 a b cI cJ cR)[81]? = (w6 cI cJ cR h0 a b)[57]? := rfl
theorem pm_82 : (wX' h0 a b cI cJ cR)[82]? = (w6 cI cJ cR h0 a b)[60]? := rfl
theorem pm_83 : (wX' h0 a b cI cJ cR)[83]? = (w6 cI cJ cR h0 a b)[63]? := rfl
theorem pm_84 : (wX' h0 a b cI cJ cR)[84]? = (w6 cI cJ cR h0 a b)[66]? := rfl
theorem pm_85 : (wX' h0 a b cI cJ cR)[85]? = (w6 cI cJ cR h0 a b)[69]? := rfl
theorem pm_86 : (wX' h0 a b cI cJ cR)[86]? = (w6 cI cJ cR h0 a b)[72]? := rfl
theorem pm_87 : (wX' h0 a b cI cJ cR)[87]? = (w6 cI cJ cR h0 a b)[75]? := rfl
theorem pm_88 : (wX' h0 a b cI cJ cR)[88]? = (w6 cI cJ cR h0 a b)[78]? := rfl
theorem pm_89 : (wX' h0 a b cI cJ cR)[89]? = (w6 cI cJ cR h0 a b)[81]? := rfl
theorem pm_90 : (wX' h0 a b cI cJ cR)[90]? = (w6 cI cJ cR h0 a b)[84]? := rfl
theorem pm_91 : (wX' h0 a b cI cJ cR)[91]? = (w6 cI cJ cR h0 a b)[87]? := rfl
theorem pm_all : ∀ k, k < 92 → (wX' h0 a b cI cJ cR)[k]? = (w6 cI cJ cR h0 a b)[piF k]?
  | 0, _ => pm_0
  | 1, _ => pm_1
  | 2, _ => pm_2
  | 3, _ => pm_3
  | 4, _ => pm_4
  | 5, _ => pm_5
  | 6, _ => pm_6
  | 7, _ => pm_7
  | 8, _ => pm_8
  | 9, _ => pm_9
  | 10, _ => pm_10
  | 11, _ => pm_11
  | 12, _ => pm_12
  | 13, _ => pm_13
  | 14, _ => pm_14
  | 15, _ => pm_15
  | 16, _ => pm_16
  | 17, _ => pm_17
  | 18, _ => pm_18
  | 19, _ => pm_19
  | 20, _ => pm_20
  | 21, _ => pm_21
  | 22, _ => pm_22
  | 23, _ => pm_23
  | 24, _ => pm_24
  | 25, _ => pm_25
  | 26, _ => pm_26
  | 27, _ => pm_27
  | 28, _ => pm_28
  | 29, _ => pm_29
  | 30, _ => pm_30
  | 31, _ => pm_31
  | 32, _ => pm_32
  | 33, _ => pm_33
  | 34, _ => pm_34
  | 35, _ => pm_35
  | 36, _ => pm_36
  | 37, _ => pm_37
  | 38, _ => pm_38
  | 39, _ => pm_39
  | 40, _ => pm_40
  | 41, _ => pm_41
  | 42, _ => pm_42
  | 43, _ => pm_43
  | 44, _ => pm_44
  | 45, _ => pm_45
  | 46, _ => pm_46
  | 47, _ => pm_47
  | 48, _ => pm_48
  | 49, _ => pm_49
  | 50, _ => pm_50
  | 51, _ => pm_51
  | 52, _ => pm_52
  | 53, _ => pm_53
  | 54, _ => pm_54
  | 55, _ => pm_55
  | 56, _ => pm_56
  | 57, _ => pm_57
  | 58, _ => pm_58
  | 59, _ => pm_59
  | 60, _ => pm_60
  | 61, _ => pm_61
  | 62, _ => pm_62
  | 63, _ => pm_63
  | 64, _ => pm_64
  | 65, _ => pm_65
  | 66, _ => pm_66
  | 67, _ => pm_67
  | 68, _ => pm_68
  | 69, _ => pm_69
  | 70, _ => pm_70
  | 71, _ => pm_71
  | 72, _ => pm_72
  | 73, _ => pm_73
  | 74, _ => pm_74
  | 75, _ => pm_75
  | 76, _ => pm_76
  | 77, _ => pm_77
  | 78, _ => pm_78
  | 79, _ => pm_79
  | 80, _ => pm_80
  | 81, _ => pm_81
  | 82, _ => pm_82
  | 83, _ => pm_83
  | 84, _ => pm_84
  | 85, _ => pm_85
  | 86, _ => pm_86
  | 87, _ => pm_87
  | 88, _ => pm_88
  | 89, _ => pm_89
  | 90, _ => pm_90
  | 91, _ => pm_91
  | k + 92, h => absurd h (by omega)
theorem wX_fst (ad : Nat → Nat) (u : XS) : (wX ad cI cJ cR u).map Prod.fst = (List.range 92).map ad := rfl
theorem wX_len (ad : Nat → Nat) (u : XS) : (wX ad cI cJ cR u).length = 92 := rfl
theorem wX_ad {ad : Nat → Nat} {u : XS} {k : Nat} {q : Nat × va_E} (h : (wX ad cI cJ cR u)[k]? = some q) : k < 92 ∧ q.1 = ad k := by
  have hk : k < 92 := by
    have := (List.getElem?_eq_some_iff.mp h).1
    rwa [wX_len] at this
  refine ⟨hk, ?_⟩
  have h1 : ((wX ad cI cJ cR u).map Prod.fst)[k]? = some q.1 := by rw [List.getElem?_map, h]; rfl
  rw [wX_fst, List.getElem?_map, List.getElem?_range hk] at h1
  exact (Option.some.inj h1).symm
theorem piF_inj : ∀ i, i < 92 → ∀ j, j < 92 → piF i = piF j → i = j := by decide +kernel
theorem arrV_cg {c : ClassId} {N : Nat} {f g : Nat → Value} (h : ∀ j, j < N → f j = g j) : arrV c N f = arrV c N g := by
  unfold arrV
  congr 1
  apply congrArg
  funext j
  exact h j.val j.isLt
theorem row0_ad (h0 : Nat) (a b : Nat → Nat) : ∀ j, j < 24 → adF h0 a b (17 + (j + 1)) = b (1 + 3 * j)
  | 0, _ => rfl
  | 1, _ => rfl
  | 2, _ => rfl
  | 3, _ => rfl
  | 4, _ => rfl
  | 5, _ => rfl
  | 6, _ => rfl
  | 7, _ => rfl
  | 8, _ => rfl
  | 9, _ => rfl
  | 10, _ => rfl
  | 11, _ => rfl
  | 12, _ => rfl
  | 13, _ => rfl
  | 14, _ => rfl
  | 15, _ => rfl
  | 16, _ => rfl
  | 17, _ => rfl
  | 18, _ => rfl
  | 19, _ => rfl
  | 20, _ => rfl
  | 21, _ => rfl
  | 22, _ => rfl
  | 23, _ => rfl
  | j + 24, h => absurd h (by omega)
theorem sub12 {k : Nat} {q : Nat × va_E} (h : (wX (adF h0 a b) cI cJ cR x0)[k]? = some q) : ∃ q', (w6 cI cJ cR h0 a b)[piF k]? = some q' ∧ q'.1 = q.1 ∧ (k ≠ 12 → q' = q) := by
  obtain ⟨hk, hq⟩ := wX_ad h
  rw [← pm_all k hk]
  by_cases h12 : k = 12
  · subst h12
    refine ⟨_, List.getElem?_set_self (by rw [wX_len]; decide), hq.symm, fun z => absurd rfl z⟩
  · refine ⟨q, ?_, rfl, fun _ => rfl⟩
    show ((wX (adF h0 a b) cI cJ cR x0).set 12 _)[k]? = _
    rw [List.getElem?_set_ne (Ne.symm h12)]
    exact h
theorem conv_P {D : va_G} {H : Heap} (h : va_P D vwCl (w6 cI cJ cR h0 a b) H) : va_P D vwCl (wX (adF h0 a b) cI cJ cR x0) H := by
  intro k q hk
  by_cases h12 : k = 12
  · subst h12
    have e : q = (adF h0 a b 12, .inl (cR, 24, .inr (.inr (.inr (.inr (fun i => some (adF h0 a b (17 + (i + 1))))))))) := (Option.some.inj hk).symm
    subst e
    have h2 : H[b 0]? = some (vp_cell cR (24, .inr (.inr (.inr (.inr (fun j => if j < 24 then some (b (1 + 3 * j)) else none)))))) := h 15 (b 0, .inl (cR, 24, .inr (.inr (.inr (.inr (fun j => if j < 24 then some (b (1 + 3 * j)) else none)))))) rfl
    show H[b 0]? = some (vp_cell cR (24, .inr (.inr (.inr (.inr (fun i => some (adF h0 a b (17 + (i + 1)))))))))
    rw [h2]
    congr 1
  · obtain ⟨q', h1, -, h3⟩ := sub12 hk
    rw [h3 h12] at h1
    exact h _ _ h1
theorem conv_D {A : Nat → Prop} (h : va_D A (w6 cI cJ cR h0 a b)) : va_D (AX (adF h0 a b)) (wX (adF h0 a b) cI cJ cR x0) ∧ ∀ q, AX (adF h0 a b) q → A q := by
  have hm : ∀ k, k < 92 → ∃ q, (wX (adF h0 a b) cI cJ cR x0)[k]? = some q := fun k hk => ⟨_, List.getElem?_eq_getElem (by rw [wX_len]; exact hk)⟩
  refine ⟨⟨fun i j p q hi hj e => ?_, fun k q hk => ?_⟩, ?_⟩
  · obtain ⟨p', p1, p2, -⟩ := sub12 hi
    obtain ⟨q', q1, q2, -⟩ := sub12 hj
    exact piF_inj i (wX_ad hi).1 j (wX_ad hj).1 (h.1 _ _ _ _ p1 q1 (by rw [p2, q2, e]))
  · obtain ⟨hk2, e⟩ := wX_ad hk
    exact ⟨k, hk2, e⟩
  · rintro q ⟨i, hi, rfl⟩
    obtain ⟨x, hx⟩ := hm i hi
    obtain ⟨x', x1, x2, -⟩ := sub12 hx
    rw [← (wX_ad hx).2, ← x2]
    exact h.2 _ _ x1
end CV
abbrev cal0 : Nat → Int64 := fun _ => 0
abbrev evr0 : Nat → Int32 := fun _ => 0
def adM (h0 : Nat) (u : Nat → Nat) : Nat → Nat := fun i => ([h0, u 0, u 1, u 2, u 3, u 4, u 5, u 6, u 7, u 8, u 9] : List Nat).getD i 0
theorem wM_fst {cI cJ : ClassId} (ad : Nat → Nat) (u : MS) : (wM ad cI cJ u).map Prod.fst = (List.range 11).map ad := rfl
theorem wM_ad {cI cJ : ClassId} {ad : Nat → Nat} {u : MS} {k : Nat} {q : Nat × va_E} (h : (wM ad cI cJ u)[k]? = some q) : k < 11 ∧ q.1 = ad k := by
  have hk : k < 11 := (List.getElem?_eq_some_iff.mp h).1
  refine ⟨hk, ?_⟩
  have h1 : ((wM ad cI cJ u).map Prod.fst)[k]? = some q.1 := by rw [List.getElem?_map, h]; rfl
  rw [wM_fst, List.getElem?_map, List.getElem?_range hk] at h1
  exact (Option.some.inj h1).symm
theorem convM_D {A : Nat → Prop} {cI cJ : ClassId} {ad : Nat → Nat} {u : MS} (h : va_D A (wM ad cI cJ u)) : va_D (AM ad) (wM ad cI cJ u) ∧ ∀ q, AM ad q → A q := by
  refine ⟨⟨h.1, fun k q hk => ?_⟩, ?_⟩
  · obtain ⟨hk2, e⟩ := wM_ad hk
    exact ⟨k, hk2, e⟩
  · rintro q ⟨i, hi, rfl⟩
    obtain ⟨x, hx⟩ : ∃ x, (wM ad cI cJ u)[i]? = some x := ⟨_, List.getElem?_eq_getElem hi⟩
    rw [← (wM_ad hx).2]
    exact h.2 _ _ hx
theorem inv0 : Inv 0 x0 cal0 evr0 := by
  refine ⟨0, 0, 0, ⟨rfl, Nat.le_refl _⟩, ⟨⟨0, by decide, rfl⟩, fun a _ => ⟨0, by decide, rfl⟩⟩, ⟨0, by decide, rfl⟩, ⟨0, by decide, rfl, fun i hi => absurd hi (by omega)⟩, ⟨by decide, rfl, fun i hi => ⟨Nat.le_add_left 1 i, show i + 1 < 25 by omega⟩, fun i j _ _ e => Nat.add_right_cancel (show i + 1 = j + 1 from e), ⟨⟨rfl, rfl, rfl, rfl, rfl, rfl, rfl⟩, ⟨0, by decide, rfl, rfl, fun k hk => absurd hk (by omega)⟩, ⟨0, by decide, rfl⟩, Or.inr ⟨0, by decide, rfl⟩, ⟨0, by decide, rfl⟩⟩, fun i hi => absurd hi (by omega), fun i j hi => absurd hi (by omega)⟩, ⟨rfl, rfl, rfl, fun p _ => ⟨rfl, rfl, rfl⟩⟩, ⟨rfl, 1, by decide, rfl⟩⟩
