/-! ===== mathematics: Grids.passOver ===== -/
section PASSO
variable {pv : PV} {nb nc : Nat} {M : (Nat → Nat) → Prop} {tl bs cs : Int32} {al pr or : Nat → Int32} {br cr : Nat → Option Nat}
theorem e_X3_passOverWithA (hg : GS pv nb nc M tl al pr bs br cs cr) {a s T R : Nat} (hs : 13824 * a = s) (ha : a < 24) (k0 : bt (al 0) a = true) (hR : R < 2 ^ 31) (hT : cnt (pM M) s + R = T) {C0 D0 : Int32} {Q : Int32 → Int32 → Int32 → Int32 → (Nat → Int32) → Prop}
    (h0 : ∀ C D or' R', cnt (pM M) (s + 13824) + R' = T → Q 0 C D (nI R') or')
    (h1 : ∀ m C D rest or', m < 331776 → pM M m → cnt (pM M) m = T → (∀ i, i < 4 → or' i = nI (odM m i)) → Q 1 C D rest or') : wp_X3_passOverWithA (nI a) pv tl C0 D0 (nI R) al pr bs br cs cr or Q := by
  unfold wp_X3_passOverWithA
  rw [show (0 : Int32) + nI a = nI (0 + a) from nI_add 0 a, nI_clamp (n := 0 + a) (by omega), show (0 : Int32).toNatClampNeg = 0 from by decide, show (1 : Int32).toNatClampNeg = 1 from by decide]
  refine ⟨vp_in_nI (by omega) (by decide), ?_⟩
  rintro _ rfl
  refine ⟨fun l2 l3 _ _ rest o => l2 = al 1 &&& pr (0 + a) ∧ o 0 = nI a ∧ ∃ b R', b ≤ 24 ∧ l3 = nI b ∧ rest = nI R' ∧ R' ≤ R ∧ cnt (pM M) (s + 576 * b) + R' = T, fun _ l3 _ _ _ _ => 24 - l3.toNatClampNeg, ⟨rfl, pk_us, 0, R, Nat.zero_le _, nI_0.symm, rfl, Nat.le_refl _, hT⟩, ?_⟩
  rintro l2 l3 C D rest o ⟨rfl, q0, b, R', hb, rfl, rfl, hR', hi⟩
  refine ⟨fun q => ?_, fun q => ?_⟩
  · have e : b = 24 := Nat.le_antisymm hb ((nI_leI (a := 24) (by decide) (by omega)).mp q)
    subst e
    exact h0 _ _ _ _ hi
  · have hbl : b < 24 := Nat.lt_of_not_le (fun z => q ((nI_leI (a := 24) (by decide) (by omega)).mpr z))
    have mu := mu_dec (B := 24) (i := b) hbl (by decide)
    have em : s + 576 * b + 576 = s + 576 * (b + 1) := by omega
    rw [nI_1]
    refine e_X6_isIn (by omega) (fun hb1 => ⟨fun z => absurd z (by decide), fun _ => ?_⟩) (fun hb0 => ⟨fun _ => ⟨⟨rfl, q0, b + 1, R', hbl, rfl, rfl, hR', ?_⟩, mu⟩, fun z => absurd rfl z⟩)
    · rw [b_and, Bool.and_eq_true] at hb1
      refine e_X3_totalWithB hg (s := s + 576 * b) (by omega) ha hbl q0 k0 hb1.1 hb1.2 (fun C' D' o' r0 r1 hB => ?_)
      have mn := cnt_mono (p := pM M) (show s + 576 * b ≤ s + 576 * b + 576 by omega)
      have cl := cnt_le (p := pM M) (s + 576 * b + 576)
      refine ⟨fun e => ⟨⟨rfl, r0, b + 1, R' - (cnt (pM M) (s + 576 * b + 576) - cnt (pM M) (s + 576 * b)), hbl, rfl, ?_, by omega, ?_⟩, mu⟩, fun e => ?_⟩
      · rw [pk_sub ((nI_leI (by omega) (by omega)).mp e)]
      · have := (nI_leI (by omega) (by omega)).mp e
        rw [← em]; omega
      · have : ¬ cnt (pM M) (s + 576 * b + 576) - cnt (pM M) (s + 576 * b) ≤ R' := fun z => e ((nI_leI (by omega) (by omega)).mpr z)
        exact e_X3_lookAtC hg (s := s + 576 * b) (by omega) ha hbl hB r0 r1 hi (by omega) (fun m rest or' m1 m2 m3 m4 => h1 m _ _ rest or' m1 m2 m3 m4)
    · have := (skip (p := pM M) (w := fun _ _ => 0) (a := s + 576 * b) 576 (fun x h1 h2 hx => by
        obtain ⟨e0, e1, e2, e3, ho⟩ := od_at (c := (x - (s + 576 * b)) / 24) (d := (x - (s + 576 * b)) % 24) ha hbl (by omega) (by omega)
        rw [show 13824 * a + 576 * b + 24 * ((x - (s + 576 * b)) / 24) + (x - (s + 576 * b)) % 24 = x by omega] at e0 e1 ho
        obtain ⟨g1, g2, g3, g4, g5, g6, g7, g8, g9, g10⟩ := hg
        obtain ⟨⟨u1, u2⟩, -, -⟩ := (g10 _ ho).mp hx
        have w1 := u1 1 (by decide)
        have w2 := u2 1 (by decide) 0 (by decide)
        rw [e1] at w1
        rw [pst_01.1, e0, e1] at w2
        rw [b_and, w1, w2] at hb0
        cases hb0)).1
      rw [← em, this]; exact hi
theorem e_X3_passOver (hg : GS pv nb nc M tl al pr bs br cs cr) {R : Nat} (hR : R < 2 ^ 31) {C0 D0 : Int32} {Q : Int32 → Int32 → Int32 → Int32 → (Nat → Int32) → Prop}
    (h0 : cnt (pM M) 331776 ≤ R → ∀ C D or', Q 0 C D (nI (R - cnt (pM M) 331776)) or')
    (h1 : ∀ m C D rest or', m < 331776 → pM M m → cnt (pM M) m = R → (∀ i, i < 4 → or' i = nI (odM m i)) → Q 1 C D rest or') : wp_X3_passOver (nI R) pv tl C0 D0 al pr bs br cs cr or Q := by
  refine ⟨fun l2 _ _ rest _ => ∃ a R', a ≤ 24 ∧ l2 = nI a ∧ rest = nI R' ∧ cnt (pM M) (13824 * a) + R' = R, fun l2 _ _ _ _ => 24 - l2.toNatClampNeg, ⟨0, R, Nat.zero_le _, nI_0.symm, rfl, by rw [Nat.mul_zero]; exact Nat.zero_add _⟩, ?_⟩
  rintro l2 C D rest o ⟨a, R', ha, rfl, rfl, hi⟩
  refine ⟨fun q => ?_, fun q => ?_⟩
  · have e : a = 24 := Nat.le_antisymm ha ((nI_leI (a := 24) (by decide) (by omega)).mp q)
    subst e
    have hi : cnt (pM M) 331776 + R' = R := hi
    have := h0 (by omega) C D o
    rw [show R - cnt (pM M) 331776 = R' by omega] at this
    exact this
  · have hal : a < 24 := Nat.lt_of_not_le (fun z => q ((nI_leI (a := 24) (by decide) (by omega)).mpr z))
    have mu := mu_dec (B := 24) (i := a) hal (by decide)
    have em : 13824 * a + 13824 = 13824 * (a + 1) := by omega
    rw [nI_1, show (0 : Int32).toNatClampNeg = 0 from by decide]
    refine e_X6_isIn (by omega) (fun hb1 => ⟨fun z => absurd z (by decide), fun _ => ?_⟩) (fun hb0 => ⟨fun _ => ⟨⟨a + 1, R', hal, rfl, rfl, ?_⟩, mu⟩, fun z => absurd rfl z⟩)
    · refine e_X3_passOverWithA hg rfl hal hb1 (by omega) hi (fun C' D' o' R'' e => ⟨fun _ => ⟨⟨a + 1, R'', hal, rfl, rfl, ?_⟩, mu⟩, fun z => absurd rfl z⟩) (fun m C' D' rest o' m1 m2 m3 m4 => ⟨fun z => absurd z (by decide), fun _ => h1 m C' D' rest o' m1 m2 m3 m4⟩)
      rw [← em]; exact e
    · have := (skip (p := pM M) (w := fun _ _ => 0) (a := 13824 * a) 13824 (fun x h1 h2 hx => by
        have ho : OrdOK (odM x) := odM_ok (by omega)
        have e0 : odM x 0 = a := by
          show x / 13824 = a
          omega
        obtain ⟨g1, g2, g3, g4, g5, g6, g7, g8, g9, g10⟩ := hg
        obtain ⟨⟨u1, u2⟩, -, -⟩ := (g10 _ ho).mp hx
        have w1 := u1 0 (by decide)
        rw [e0, hb0] at w1
        cases w1)).1
      rw [← em, this]; exact hi
theorem e_X3_total (hg : GS pv nb nc M tl al pr bs br cs cr) {C0 D0 : Int32} {Q : Int32 → Int32 → Int32 → Int32 → (Nat → Int32) → Prop}
    (h : ∀ C D rest or', Q (nI (cnt (pM M) 331776)) C D rest or') : wp_X3_total pv tl C0 D0 al pr bs br cs cr or Q := by
  have cl := cnt_le (p := pM M) 331776
  refine e_X3_passOver (R := 331776) hg (by decide) (fun _ C D or' => ?_) (fun m C D rest or' m1 m2 m3 _ => ?_)
  · rw [show (331776 : Int32) = nI 331776 from rfl, pk_sub (by omega), show 331776 - (331776 - cnt (pM M) 331776) = cnt (pM M) 331776 by omega]
    exact h _ _ _ _
  · have := cnt_le (p := pM M) m
    omega
end PASSO
