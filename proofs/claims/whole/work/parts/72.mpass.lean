/-! ===== mathematics: Grids, the orders of c and d ===== -/
theorem cnt_add {p q : Nat → Prop} {s : Nat} : ∀ n, (∀ d, d < n → (p (s + d) ↔ q d)) → cnt p (s + n) = cnt p s + cnt q n
  | 0, _ => rfl
  | n + 1, h => by
    have ih := cnt_add (p := p) (q := q) (s := s) n (fun d hd => h d (by omega))
    by_cases e : q n
    · rw [← Nat.add_assoc, cnt_t ((h n (by omega)).mpr e), cnt_t e, ih]
      omega
    · rw [← Nat.add_assoc, cnt_f (fun z => e ((h n (by omega)).mp z)), cnt_f e, ih]
theorem cnt_mono {p : Nat → Prop} {a b : Nat} (h : a ≤ b) : cnt p a ≤ cnt p b := by
  have := cnt_add (p := p) (q := fun d => p (a + d)) (s := a) (b - a) (fun _ _ => Iff.rfl)
  rw [show a + (b - a) = b by omega] at this
  omega
/-- the grids that meet M, by their numbers -/
def pM (M : (Nat → Nat) → Prop) (m : Nat) : Prop := M (odM m)
/-- what ties c and d -/
def EC (pv : PV) (pr : Nat → Int32) (nc : Nat) (cr : Nat → Option Nat) (od : Nat → Nat) : Prop := bt (pr (120 + od 2)) (od 3) = true ∧ ∀ k, k < nc → ∀ a, cr k = some a → AlO pv a od
section ORD
variable {pv : PV} {nb nc : Nat} {M : (Nat → Nat) → Prop} {tl bs cs : Int32} {al pr or : Nat → Int32} {br cr : Nat → Option Nat}
theorem e_X3_ordersOfDWithC (hg : GS pv nb nc M tl al pr bs br cs cr) {a b c : Nat} (hc : c < 24) (ha : a < 24) (hb : b < 24) (o0 : or 0 = nI a) (o1 : or 1 = nI b) {D : Int32} (hD : ∀ i, 24 ≤ i → bt D i = false) {Q : Int32 → (Nat → Int32) → Prop}
    (h : ∀ r or', or' 0 = nI a → or' 1 = nI b → or' 2 = nI c → (∀ i, 24 ≤ i → bt r i = false) → (∀ od, OrdOK od → od 0 = a → od 1 = b → od 2 = c → (bt r (od 3) = true ↔ bt D (od 3) = true ∧ EC pv pr nc cr od)) → Q r or') : wp_X3_ordersOfDWithC (nI c) pv D pr cs cr or Q := by
  obtain ⟨g1, g2, g3, rfl, g5, g6, g7, g8, g9, g10⟩ := hg
  unfold wp_X3_ordersOfDWithC
  rw [show (120 : Int32) + nI c = nI (120 + c) from nI_add 120 c, nI_clamp (n := 120 + c) (by omega), show (2 : Int32).toNatClampNeg = 2 from by decide]
  refine ⟨vp_in_nI (by omega) (by decide), ?_⟩
  rintro _ rfl
  refine ⟨fun l2 l3 o => o = upd or 2 (nI c) ∧ (∀ i, 24 ≤ i → bt l2 i = false) ∧ ∃ k, k ≤ nc ∧ l3 = nI k ∧ ∀ od, OrdOK od → od 0 = a → od 1 = b → od 2 = c → (bt l2 (od 3) = true ↔ bt D (od 3) = true ∧ bt (pr (120 + od 2)) (od 3) = true ∧ ∀ j, j < k → ∀ x, cr j = some x → AlO pv x od), fun _ l3 _ => 12 - l3.toNatClampNeg, ⟨rfl, fun i hi => by rw [b_and, hD i hi]; rfl, 0, Nat.zero_le _, nI_0.symm, fun od ho e0 e1 e2 => ?_⟩, ?_⟩
  · rw [b_and, Bool.and_eq_true, e2]
    exact ⟨fun q => ⟨q.1, q.2, fun j hj => absurd hj (Nat.not_lt_zero _)⟩, fun q => ⟨q.1, q.2.1⟩⟩
  · rintro l2 l3 o ⟨rfl, hz, k, hk, rfl, hi⟩
    have u0 : upd or 2 (nI c) 0 = nI a := by rw [pk_un (by decide)]; exact o0
    have u1 : upd or 2 (nI c) 1 = nI b := by rw [pk_un (by decide)]; exact o1
    have u2 : upd or 2 (nI c) 2 = nI c := pk_us
    refine ⟨fun d => ?_, fun d => ⟨fun e => ?_, fun e => ?_⟩⟩
    · have e : k = nc := Nat.le_antisymm hk ((nI_leI (by omega) (by omega)).mp d)
      subst e
      exact h l2 _ u0 u1 u2 hz hi
    · subst e
      refine h 0 _ u0 u1 u2 hz (fun od ho e0 e1 e2 => ⟨fun q => ?_, fun q => ?_⟩)
      · rw [b_0] at q; cases q
      · exact (hi od ho e0 e1 e2).mpr ⟨q.1, q.2.1, fun j hj => q.2.2 j (by omega)⟩
    · have hlt : k < nc := Nat.lt_of_not_le (fun q => d ((nI_leI (by omega) (by omega)).mpr q))
      obtain ⟨x, hx, hp, u, v, hu, hv1, hv2, f5, f6, f7⟩ := g9 k hlt
      refine ⟨vp_in_nI (by omega) (by decide), x, by rw [nI_clamp (by omega)]; exact hx, ?_⟩
      have oo : ∀ i, i < 3 → upd or 2 (nI c) i = nI (od4 a b c i) ∧ od4 a b c i < 24 := by
        intro i hi
        rcases (show i = 0 ∨ i = 1 ∨ i = 2 by omega) with q | q | q <;> subst q
        · exact ⟨u0, ha⟩
        · exact ⟨u1, hb⟩
        · exact ⟨u2, hc⟩
      refine e_X3_allowedNow (od := od4 a b c) hp (by omega) f6 f7 (Or.inr ⟨v, by omega, rfl⟩) (oo _ (by omega)) (fun y hy ey => ?_) ?_
      · have : v = y := (nI_eq (by omega) (by omega)).mp ey
        subst this
        exact oo _ (by omega)
      · rintro _ rfl
        rw [nI_1]
        refine ⟨⟨rfl, fun i hi => by rw [b_and, hz i hi]; rfl, k + 1, hlt, rfl, fun od ho e0 e1 e2 => ?_⟩, mu_dec (by omega) (by decide)⟩
        have key : AlO pv x od ↔ bt (pv.2.2.2 x (4 * fsC (pv.2.1 x 6) (od4 a b c) + fsC (pv.2.1 x 7) (od4 a b c))) (od 3) = true := by
          have oe : ∀ i, i < 3 → od i = od4 a b c i := by
            intro i hi
            rcases (show i = 0 ∨ i = 1 ∨ i = 2 by omega) with q | q | q <;> subst q
            · exact e0
            · exact e1
            · exact e2
          unfold AlO
          rw [fsC_congr (v := pv.2.1 x 6) (od := od) (od' := od4 a b c) (fun _ => by rw [f6, nI_clamp (by omega)]; exact oe _ (by omega)), fsC_congr (v := pv.2.1 x 7) (od := od) (od' := od4 a b c) (fun _ => by rw [f7, nI_clamp (by omega)]; exact oe _ (by omega)), f5, nI_clamp (by decide)]
        rw [b_and, Bool.and_eq_true, hi od ho e0 e1 e2, ← key]
        constructor
        · rintro ⟨⟨q1, q2, q3⟩, q4⟩
          refine ⟨q1, q2, fun j hj y hy => ?_⟩
          by_cases e : j = k
          · subst e
            rw [hx] at hy
            cases hy
            exact q4
          · exact q3 j (by omega) y hy
        · rintro ⟨q1, q2, q3⟩
          exact ⟨⟨q1, q2, fun j hj => q3 j (by omega)⟩, q3 k (by omega) x hx⟩
/-- the grids with the orders a and b, by the sets of orders of c and d -/
def HB (pv : PV) (M : (Nat → Nat) → Prop) (pr : Nat → Int32) (nc : Nat) (cr : Nat → Option Nat) (a b : Nat) (C D : Int32) : Prop := (∀ i, 24 ≤ i → bt C i = false) ∧ (∀ i, 24 ≤ i → bt D i = false) ∧ ∀ od, OrdOK od → od 0 = a → od 1 = b → (M od ↔ bt C (od 2) = true ∧ bt D (od 3) = true ∧ EC pv pr nc cr od)
theorem e_X3_chooseB (hg : GS pv nb nc M tl al pr bs br cs cr) {a b : Nat} (ha : a < 24) (hb : b < 24) (o0 : or 0 = nI a) (k0 : bt (al 0) a = true) (k1 : bt (al 1) b = true) (k2 : bt (pr (0 + a)) b = true) {Q : Int32 → Int32 → (Nat → Int32) → Prop}
    (h : ∀ C D or', or' 0 = nI a → or' 1 = nI b → HB pv M pr nc cr a b C D → Q C D or') : wp_X3_chooseB (nI b) pv al pr bs br or Q := by
  obtain ⟨g1, g2, rfl, g4, g5, g6, g7, g8, g9, g10⟩ := hg
  obtain ⟨p01, p02, p03, p12, p13, p23⟩ := pst_01
  unfold wp_X3_chooseB
  rw [show (0 : Int32).toNatClampNeg = 0 from by decide, show (1 : Int32).toNatClampNeg = 1 from by decide, show (2 : Int32).toNatClampNeg = 2 from by decide, show (3 : Int32).toNatClampNeg = 3 from by decide, o0]
  rintro _ rfl
  rw [show (24 : Int32) + nI a = nI (24 + a) from nI_add 24 a, show (72 : Int32) + nI b = nI (72 + b) from nI_add 72 b, show (48 : Int32) + nI a = nI (48 + a) from nI_add 48 a, show (96 : Int32) + nI b = nI (96 + b) from nI_add 96 b, nI_clamp (n := 24 + a) (by omega), nI_clamp (n := 72 + b) (by omega), nI_clamp (n := 48 + a) (by omega), nI_clamp (n := 96 + b) (by omega)]
  refine ⟨vp_in_nI (by omega) (by decide), vp_in_nI (by omega) (by decide), vp_in_nI (by omega) (by decide), vp_in_nI (by omega) (by decide), ?_⟩
  refine ⟨fun l3 C D o => o = upd or 1 (nI b) ∧ (∀ i, 24 ≤ i → bt C i = false) ∧ (∀ i, 24 ≤ i → bt D i = false) ∧ ∃ k, k ≤ nb ∧ l3 = nI k ∧ ∀ od, OrdOK od → od 0 = a → od 1 = b → (bt C (od 2) = true ∧ bt D (od 3) = true ↔ ((bt (al 2) (od 2) = true ∧ bt (pr (24 + a)) (od 2) = true) ∧ bt (pr (72 + b)) (od 2) = true) ∧ ((bt (al 3) (od 3) = true ∧ bt (pr (48 + a)) (od 3) = true) ∧ bt (pr (96 + b)) (od 3) = true) ∧ ∀ j, j < k → ∀ x, br j = some x → AlO pv x od), fun l3 _ _ _ => 12 - l3.toNatClampNeg, ⟨rfl, fun i hi => by rw [b_and, b_and, g6 2 (by decide) i hi]; rfl, fun i hi => by rw [b_and, b_and, g6 3 (by decide) i hi]; rfl, 0, Nat.zero_le _, nI_0.symm, fun od ho e0 e1 => ?_⟩, ?_⟩
  · simp only [b_and, Bool.and_eq_true]
    exact ⟨fun q => ⟨q.1, q.2, fun j hj => absurd hj (Nat.not_lt_zero _)⟩, fun q => ⟨q.1, q.2.1⟩⟩
  · rintro l3 C D o ⟨rfl, hzC, hzD, k, hk, rfl, hi⟩
    have u0 : upd or 1 (nI b) 0 = nI a := by rw [pk_un (by decide)]; exact o0
    have u1 : upd or 1 (nI b) 1 = nI b := pk_us
    refine ⟨fun d => ?_, fun d => ?_⟩
    · have e : k = nb := Nat.le_antisymm hk ((nI_leI (by omega) (by omega)).mp d)
      subst e
      refine h C D _ u0 u1 ⟨hzC, hzD, fun od ho e0 e1 => ?_⟩
      rw [g10 od ho, show (bt C (od 2) = true ∧ bt D (od 3) = true ∧ EC pv pr nc cr od) ↔ (bt C (od 2) = true ∧ bt D (od 3) = true) ∧ EC pv pr nc cr od from and_assoc.symm, hi od ho e0 e1]
      constructor
      · rintro ⟨⟨q1, q2⟩, q3, q4⟩
        have w02 := q2 2 (by decide) 0 (by decide)
        have w12 := q2 2 (by decide) 1 (by decide)
        have w03 := q2 3 (by decide) 0 (by decide)
        have w13 := q2 3 (by decide) 1 (by decide)
        have w23 := q2 3 (by decide) 2 (by decide)
        rw [p02, e0] at w02
        rw [p12, e1] at w12
        rw [p03, e0] at w03
        rw [p13, e1] at w13
        rw [p23] at w23
        exact ⟨⟨⟨⟨q1 2 (by decide), w02⟩, w12⟩, ⟨⟨q1 3 (by decide), w03⟩, w13⟩, q3⟩, w23, q4⟩
      · rintro ⟨⟨⟨⟨q1, w02⟩, w12⟩, ⟨⟨q2, w03⟩, w13⟩, q3⟩, w23, q4⟩
        refine ⟨⟨fun c hc => ?_, fun t ht l hl => ?_⟩, q3, q4⟩
        · rcases (show c = 0 ∨ c = 1 ∨ c = 2 ∨ c = 3 by omega) with q | q | q | q <;> subst q
          · rw [e0]; exact k0
          · rw [e1]; exact k1
          · exact q1
          · exact q2
        · rcases (show (t = 1 ∧ l = 0) ∨ (t = 2 ∧ l = 0) ∨ (t = 2 ∧ l = 1) ∨ (t = 3 ∧ l = 0) ∨ (t = 3 ∧ l = 1) ∨ (t = 3 ∧ l = 2) by omega) with ⟨q, q'⟩ | ⟨q, q'⟩ | ⟨q, q'⟩ | ⟨q, q'⟩ | ⟨q, q'⟩ | ⟨q, q'⟩ <;> subst q <;> subst q'
          · rw [p01, e0, e1]; exact k2
          · rw [p02, e0]; exact w02
          · rw [p12, e1]; exact w12
          · rw [p03, e0]; exact w03
          · rw [p13, e1]; exact w13
          · rw [p23]; exact w23
    · have hlt : k < nb := Nat.lt_of_not_le (fun q => d ((nI_leI (by omega) (by omega)).mpr q))
      obtain ⟨x, hx, hp, t, u, v, ht, hu, hv1, hv2, f5, f6, f7⟩ := g8 k hlt
      refine ⟨vp_in_nI (by omega) (by decide), x, by rw [nI_clamp (by omega)]; exact hx, hp, ?_⟩
      have oo : ∀ i, i < 2 → upd or 1 (nI b) i = nI (od4 a b 0 i) ∧ od4 a b 0 i < 24 := by
        intro i hi
        rcases (show i = 0 ∨ i = 1 by omega) with q | q <;> subst q
        · exact ⟨u0, ha⟩
        · exact ⟨u1, hb⟩
      have key : ∀ od, od 0 = a → od 1 = b → (AlO pv x od ↔ bt (pv.2.2.2 x (4 * fsC (pv.2.1 x 6) (od4 a b 0) + fsC (pv.2.1 x 7) (od4 a b 0))) (od t) = true) := by
        intro od e0 e1
        have oe : ∀ i, i < 2 → od i = od4 a b 0 i := by
          intro i hi
          rcases (show i = 0 ∨ i = 1 by omega) with q | q <;> subst q
          · exact e0
          · exact e1
        unfold AlO
        rw [fsC_congr (v := pv.2.1 x 6) (od := od) (od' := od4 a b 0) (fun _ => by rw [f6, nI_clamp (by omega)]; exact oe _ (by omega)), fsC_congr (v := pv.2.1 x 7) (od := od) (od' := od4 a b 0) (fun _ => by rw [f7, nI_clamp (by omega)]; exact oe _ (by omega)), f5, nI_clamp (by omega)]
      have all : ∀ od, ((∀ j, j < k + 1 → ∀ y, br j = some y → AlO pv y od) ↔ (∀ j, j < k → ∀ y, br j = some y → AlO pv y od) ∧ AlO pv x od) := by
        intro od
        constructor
        · intro q
          exact ⟨fun j hj => q j (by omega), q k (by omega) x hx⟩
        · rintro ⟨q1, q2⟩ j hj y hy
          by_cases e : j = k
          · subst e
            rw [hx] at hy
            cases hy
            exact q2
          · exact q1 j (by omega) y hy
      have o2 : ∀ y, y < 16 → nI v = nI y → upd or 1 (nI b) (y / 4) = nI (od4 a b 0 (y / 4)) ∧ od4 a b 0 (y / 4) < 24 := by
        intro y hy ey
        have : v = y := (nI_eq (by omega) (by omega)).mp ey
        subst this
        exact oo _ (by omega)
      rw [nI_1]
      refine ⟨fun e => ?_, fun e => ?_⟩
      · have e2 : t = 2 := (nI_eq (b := 2) (by omega) (by decide)).mp (f5.symm.trans e)
        refine e_X3_allowedNow (od := od4 a b 0) hp (by omega) f6 f7 (Or.inr ⟨v, by omega, rfl⟩) (oo _ (by omega)) o2 ⟨⟨rfl, fun i hi => by rw [b_and, hzC i hi]; rfl, hzD, k + 1, hlt, rfl, fun od ho e0 e1 => ?_⟩, mu_dec (by omega) (by decide)⟩
        have kk := key od e0 e1
        rw [e2] at kk
        rw [all od, b_and, Bool.and_eq_true, kk]
        have hh := hi od ho e0 e1
        constructor
        · rintro ⟨⟨q1, q2⟩, q3⟩
          obtain ⟨z1, z2, z3⟩ := hh.mp ⟨q1, q3⟩
          exact ⟨z1, z2, z3, q2⟩
        · rintro ⟨z1, z2, z3, q2⟩
          obtain ⟨q1, q3⟩ := hh.mpr ⟨z1, z2, z3⟩
          exact ⟨⟨q1, q2⟩, q3⟩
      · have e3 : t = 3 := by
          rcases ht with q | q
          · exact absurd (by rw [f5, q]; rfl) e
          · exact q
        refine e_X3_allowedNow (od := od4 a b 0) hp (by omega) f6 f7 (Or.inr ⟨v, by omega, rfl⟩) (oo _ (by omega)) o2 ⟨⟨rfl, hzC, fun i hi => by rw [b_and, hzD i hi]; rfl, k + 1, hlt, rfl, fun od ho e0 e1 => ?_⟩, mu_dec (by omega) (by decide)⟩
        have kk := key od e0 e1
        rw [e3] at kk
        rw [all od, b_and, Bool.and_eq_true, kk]
        have hh := hi od ho e0 e1
        constructor
        · rintro ⟨q1, q3, q2⟩
          obtain ⟨z1, z2, z3⟩ := hh.mp ⟨q1, q3⟩
          exact ⟨z1, z2, z3, q2⟩
        · rintro ⟨z1, z2, z3, q2⟩
          obtain ⟨q1, q3⟩ := hh.mpr ⟨z1, z2, z3⟩
          exact ⟨q1, q3, q2⟩
end ORD
