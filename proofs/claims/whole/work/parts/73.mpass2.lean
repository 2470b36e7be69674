/-! ===== mathematics: Grids, counting and passing over ===== -/
section PASS
variable {pv : PV} {nb nc : Nat} {M : (Nat → Nat) → Prop} {tl bs cs : Int32} {al pr or : Nat → Int32} {br cr : Nat → Option Nat}
theorem od_at {a b c d : Nat} (ha : a < 24) (hb : b < 24) (hc : c < 24) (hd : d < 24) : odM (13824 * a + 576 * b + 24 * c + d) 0 = a ∧ odM (13824 * a + 576 * b + 24 * c + d) 1 = b ∧ odM (13824 * a + 576 * b + 24 * c + d) 2 = c ∧ odM (13824 * a + 576 * b + 24 * c + d) 3 = d ∧ OrdOK (odM (13824 * a + 576 * b + 24 * c + d)) := by
  have h := odM_at (i := a) hb hc hd
  rw [show a * 13824 + b * 576 + c * 24 + d = 13824 * a + 576 * b + 24 * c + d by omega] at h
  exact ⟨h.1, h.2.1, h.2.2.1, h.2.2.2, odM_ok (by omega)⟩
/-- one block of 24: the grids with the orders a, b, c -/
theorem blk {a b c s : Nat} {C D r : Int32} (hs : 13824 * a + 576 * b + 24 * c = s) (ha : a < 24) (hb : b < 24) (hc : c < 24) (hB : HB pv M pr nc cr a b C D) (hr : ∀ od, OrdOK od → od 0 = a → od 1 = b → od 2 = c → (bt r (od 3) = true ↔ bt D (od 3) = true ∧ EC pv pr nc cr od)) (hC : bt C c = true) : ∀ d, d < 24 → (pM M (s + d) ↔ bt r d = true) := by
  intro d hd
  obtain ⟨e0, e1, e2, e3, ho⟩ := od_at ha hb hc hd
  rw [hs] at e0 e1 e2 e3 ho
  unfold pM
  rw [hB.2.2 _ ho e0 e1]
  have := hr _ ho e0 e1 e2
  rw [e3] at this
  rw [e2, e3, this]
  exact ⟨fun q => q.2, fun q => ⟨hC, q⟩⟩
theorem blk0 {a b c s : Nat} {C D : Int32} (hs : 13824 * a + 576 * b + 24 * c = s) (ha : a < 24) (hb : b < 24) (hc : c < 24) (hB : HB pv M pr nc cr a b C D) (hC : bt C c = false) : cnt (pM M) (s + 24) = cnt (pM M) s := by
  refine (skip (p := pM M) (w := fun _ _ => 0) 24 (fun x h1 h2 => ?_)).1
  obtain ⟨e0, e1, e2, e3, ho⟩ := od_at (d := x - s) ha hb hc (by omega)
  rw [hs, show s + (x - s) = x by omega] at e0 e1 e2 e3 ho
  intro q
  have := (hB.2.2 _ ho e0 e1).mp q
  rw [e2, hC] at this
  exact absurd this.1 (by decide)
theorem e_X3_lookAtD {a b c s T R : Nat} (hs : 13824 * a + 576 * b + 24 * c = s) (ha : a < 24) (hb : b < 24) (hc : c < 24) {r : Int32} (hr : ∀ d, d < 24 → (pM M (s + d) ↔ bt r d = true)) (o0 : or 0 = nI a) (o1 : or 1 = nI b) (o2 : or 2 = nI c) (hT : cnt (pM M) s + R = T) (hlt : T < cnt (pM M) (s + 24)) {Q : Int32 → (Nat → Int32) → Prop}
    (h : ∀ m rest or', m < 331776 → pM M m → cnt (pM M) m = T → (∀ i, i < 4 → or' i = nI (odM m i)) → Q rest or') : wp_X3_lookAtD r (nI R) or Q := by
  have hT31 : T < 1000000 := by
    have := cnt_le (p := pM M) (s + 24)
    omega
  refine ⟨fun l2 rest o => o = or ∧ ∃ d R', d ≤ 24 ∧ l2 = nI d ∧ rest = nI R' ∧ cnt (pM M) (s + d) + R' = T, fun l2 _ _ => 24 - l2.toNatClampNeg, ⟨rfl, 0, R, Nat.zero_le _, nI_0.symm, rfl, hT⟩, ?_⟩
  rintro l2 rest o ⟨rfl, d, R', hd, rfl, rfl, hi⟩
  refine ⟨fun q => ?_, fun q => ?_⟩
  · have e : d = 24 := Nat.le_antisymm hd ((nI_leI (a := 24) (by decide) (by omega)).mp q)
    subst e
    omega
  · have hdl : d < 24 := Nat.lt_of_not_le (fun z => q ((nI_leI (a := 24) (by decide) (by omega)).mpr z))
    have mu := mu_dec (B := 24) (i := d) hdl (by decide)
    rw [nI_1]
    refine e_X6_isIn (by omega) (fun hb1 => ⟨fun z => absurd z (by decide), fun _ => ⟨fun e => ?_, fun e => ?_⟩⟩) (fun hb0 => ⟨fun _ => ⟨⟨rfl, d + 1, R', hdl, rfl, rfl, ?_⟩, mu⟩, fun z => absurd rfl z⟩)
    · have e0 : R' = 0 := (nI_eq (b := 0) (by omega) (by decide)).mp e
      obtain ⟨f0, f1, f2, f3, ho⟩ := od_at ha hb hc hdl
      rw [hs] at f0 f1 f2 f3
      refine h (s + d) _ _ (by omega) ((hr d hdl).mpr hb1) (by omega) (fun i hi => ?_)
      rw [show (3 : Int32).toNatClampNeg = 3 from by decide]
      rcases (show i = 0 ∨ i = 1 ∨ i = 2 ∨ i = 3 by omega) with z | z | z | z <;> subst z
      · rw [pk_un (by decide), o0, f0]
      · rw [pk_un (by decide), o1, f1]
      · rw [pk_un (by decide), o2, f2]
      · rw [pk_us, f3]
    · have e0 : R' ≠ 0 := fun z => e (by rw [z]; rfl)
      have ct := cnt_t ((hr d hdl).mpr hb1)
      refine ⟨⟨rfl, d + 1, R' - 1, hdl, rfl, ?_, ?_⟩, mu⟩
      · rw [show (1 : Int32) = nI 1 from rfl, pk_sub (by omega)]
      · rw [← Nat.add_assoc]; omega
    · have cf := cnt_f (p := pM M) (m := s + d) (fun z => by rw [(hr d hdl).mp z] at hb0; cases hb0)
      rw [← Nat.add_assoc]; omega
theorem e_X3_lookAtC (hg : GS pv nb nc M tl al pr bs br cs cr) {a b s T R : Nat} {C D : Int32} (hs : 13824 * a + 576 * b = s) (ha : a < 24) (hb : b < 24) (hB : HB pv M pr nc cr a b C D) (o0 : or 0 = nI a) (o1 : or 1 = nI b) (hT : cnt (pM M) s + R = T) (hlt : T < cnt (pM M) (s + 576)) {Q : Int32 → (Nat → Int32) → Prop}
    (h : ∀ m rest or', m < 331776 → pM M m → cnt (pM M) m = T → (∀ i, i < 4 → or' i = nI (odM m i)) → Q rest or') : wp_X3_lookAtC pv C D (nI R) pr cs cr or Q := by
  have hT31 : T < 1000000 := by
    have := cnt_le (p := pM M) (s + 576)
    omega
  refine ⟨fun l1 rest o => o 0 = nI a ∧ o 1 = nI b ∧ ∃ c R', c ≤ 24 ∧ l1 = nI c ∧ rest = nI R' ∧ cnt (pM M) (s + 24 * c) + R' = T, fun l1 _ _ => 24 - l1.toNatClampNeg, ⟨o0, o1, 0, R, Nat.zero_le _, nI_0.symm, rfl, hT⟩, ?_⟩
  rintro l1 rest o ⟨q0, q1, c, R', hc, rfl, rfl, hi⟩
  refine ⟨fun q => ?_, fun q => ?_⟩
  · have e : c = 24 := Nat.le_antisymm hc ((nI_leI (a := 24) (by decide) (by omega)).mp q)
    subst e
    have hi : cnt (pM M) (s + 576) + R' = T := hi
    omega
  · have hcl : c < 24 := Nat.lt_of_not_le (fun z => q ((nI_leI (a := 24) (by decide) (by omega)).mpr z))
    have mu := mu_dec (B := 24) (i := c) hcl (by decide)
    have em : s + 24 * c + 24 = s + 24 * (c + 1) := by omega
    rw [nI_1]
    refine e_X6_isIn (by omega) (fun hb1 => ⟨fun z => absurd z (by decide), fun _ => ?_⟩) (fun hb0 => ⟨fun _ => ⟨⟨q0, q1, c + 1, R', hcl, rfl, rfl, ?_⟩, mu⟩, fun z => absurd rfl z⟩)
    · refine e_X3_ordersOfDWithC hg hcl ha hb q0 q1 hB.2.1 (fun r o' p0 p1 p2 hz hr => e_J6_bitCount hz ?_)
      have hbl := blk (s := s + 24 * c) (by omega) ha hb hcl hB hr hb1
      have ca := cnt_add (p := pM M) (q := fun d => bt r d = true) (s := s + 24 * c) 24 hbl
      have c24 := cnt_le (p := fun d => bt r d = true) 24
      refine ⟨fun e => ⟨⟨p0, p1, c + 1, R' - cnt (fun d => bt r d = true) 24, hcl, rfl, ?_, ?_⟩, mu⟩, fun e => ?_⟩
      · rw [pk_sub ((nI_leI (by omega) (by omega)).mp e)]
      · have := (nI_leI (by omega) (by omega)).mp e
        rw [← em]; omega
      · have : ¬ cnt (fun d => bt r d = true) 24 ≤ R' := fun z => e ((nI_leI (by omega) (by omega)).mpr z)
        exact e_X3_lookAtD (s := s + 24 * c) (by omega) ha hb hcl hbl p0 p1 p2 hi (by omega) (fun m rest or' m1 m2 m3 m4 => h m rest or' m1 m2 m3 m4)
    · have := blk0 (s := s + 24 * c) (by omega) ha hb hcl hB hb0
      rw [← em]; omega
theorem cnt_prod {a b s : Nat} {C D : Int32} (hs : 13824 * a + 576 * b = s) (ha : a < 24) (hb : b < 24) (hB : HB pv M pr nc cr a b C D) (hE : ∀ od, OrdOK od → EC pv pr nc cr od) : ∀ k, k ≤ 24 → cnt (pM M) (s + 24 * k) = cnt (pM M) s + cnt (fun i => bt C i = true) k * cnt (fun i => bt D i = true) 24
  | 0, _ => by
    show cnt (pM M) s = cnt (pM M) s + 0 * _
    rw [Nat.zero_mul, Nat.add_zero]
  | k + 1, hk => by
    have ih := cnt_prod hs ha hb hB hE k (by omega)
    have em : s + 24 * (k + 1) = s + 24 * k + 24 := by omega
    cases hb1 : bt C k with
    | false =>
      have := blk0 (s := s + 24 * k) (by omega) ha hb (by omega) hB hb1
      rw [em, this, ih, cnt_f (p := fun i => bt C i = true) (m := k) (by rw [hb1]; decide)]
    | true =>
      have hbl := blk (s := s + 24 * k) (r := D) (by omega) ha hb (by omega) hB (fun od ho _ _ _ => ⟨fun q => ⟨q, hE od ho⟩, fun q => q.1⟩) hb1
      have ca := cnt_add (p := pM M) (q := fun d => bt D d = true) (s := s + 24 * k) 24 hbl
      rw [em, ca, ih, cnt_t (p := fun i => bt C i = true) (m := k) hb1, Nat.succ_mul]
      omega
theorem e_X3_totalWithB (hg : GS pv nb nc M tl al pr bs br cs cr) {a b s : Nat} (hs : 13824 * a + 576 * b = s) (ha : a < 24) (hb : b < 24) (o0 : or 0 = nI a) (k0 : bt (al 0) a = true) (k1 : bt (al 1) b = true) (k2 : bt (pr (0 + a)) b = true) {Q : Int32 → Int32 → Int32 → (Nat → Int32) → Prop}
    (h : ∀ C D or', or' 0 = nI a → or' 1 = nI b → HB pv M pr nc cr a b C D → Q (nI (cnt (pM M) (s + 576) - cnt (pM M) s)) C D or') : wp_X3_totalWithB (nI b) pv tl al pr bs br cs cr or Q := by
  refine e_X3_chooseB hg ha hb o0 k0 k1 k2 (fun C D or' p0 p1 hB => ?_)
  have sk0 : (∀ x, s ≤ x → x < s + 576 → ¬ pM M x) → Q 0 C D or' := by
    intro hn
    have := (skip (p := pM M) (w := fun _ _ => 0) 576 hn).1
    have h' := h C D or' p0 p1 hB
    rw [this, Nat.sub_self] at h'
    exact h'
  have at_ : ∀ x, s ≤ x → x < s + 576 → odM x 0 = a ∧ odM x 1 = b ∧ OrdOK (odM x) := by
    intro x h1 h2
    obtain ⟨e0, e1, e2, e3, ho⟩ := od_at (c := (x - s) / 24) (d := (x - s) % 24) ha hb (by omega) (by omega)
    rw [show 13824 * a + 576 * b + 24 * ((x - s) / 24) + (x - s) % 24 = x by omega] at e0 e1 ho
    exact ⟨e0, e1, ho⟩
  refine ⟨fun e => sk0 (fun x h1 h2 q => ?_), fun e => ⟨fun f => sk0 (fun x h1 h2 q => ?_), fun f => ⟨fun g => ?_, fun g => ?_⟩⟩⟩
  · obtain ⟨e0, e1, ho⟩ := at_ x h1 h2
    have := (hB.2.2 _ ho e0 e1).mp q
    rw [e, b_0] at this
    exact absurd this.1 (by decide)
  · obtain ⟨e0, e1, ho⟩ := at_ x h1 h2
    have := (hB.2.2 _ ho e0 e1).mp q
    rw [f, b_0] at this
    exact absurd this.2.1 (by decide)
  · refine e_J6_bitCount hB.1 (e_J6_bitCount hB.2.1 ?_)
    have hE : ∀ od, OrdOK od → EC pv pr nc cr od := by
      obtain ⟨g1, g2, g3, g4, g5, g6, g7, g8, g9, g10⟩ := hg
      obtain ⟨f1, f2⟩ := g7 g
      intro od ho
      exact ⟨f2 _ (ho 2 (by decide)) _ (ho 3 (by decide)), fun k hk => absurd hk (by omega)⟩
    have := cnt_prod hs ha hb hB hE 24 (Nat.le_refl _)
    have h' := h C D or' p0 p1 hB
    rw [show s + 576 = s + 24 * 24 from rfl, this, Nat.add_sub_cancel_left] at h'
    rw [pk_mul]
    exact h'
  · refine ⟨fun l2 l3 C' D' o => C' = C ∧ D' = D ∧ o 0 = nI a ∧ o 1 = nI b ∧ ∃ c, c ≤ 24 ∧ l3 = nI c ∧ l2 = nI (cnt (pM M) (s + 24 * c) - cnt (pM M) s), fun _ l3 _ _ _ => 24 - l3.toNatClampNeg, ⟨rfl, rfl, p0, p1, 0, Nat.zero_le _, nI_0.symm, by rw [Nat.mul_zero, Nat.add_zero, Nat.sub_self]; rfl⟩, ?_⟩
    rintro l2 l3 C' D' o ⟨rfl, rfl, q0, q1, c, hc, rfl, rfl⟩
    refine ⟨fun q => ?_, fun q => ?_⟩
    · have e : c = 24 := Nat.le_antisymm hc ((nI_leI (a := 24) (by decide) (by omega)).mp q)
      subst e
      exact h _ _ _ q0 q1 hB
    · have hcl : c < 24 := Nat.lt_of_not_le (fun z => q ((nI_leI (a := 24) (by decide) (by omega)).mpr z))
      have mu := mu_dec (B := 24) (i := c) hcl (by decide)
      have em : s + 24 * c + 24 = s + 24 * (c + 1) := by omega
      have mn := cnt_mono (p := pM M) (show s ≤ s + 24 * c by omega)
      rw [nI_1]
      refine e_X6_isIn (by omega) (fun hb1 => ⟨fun z => absurd z (by decide), fun _ => ?_⟩) (fun hb0 => ⟨fun _ => ⟨⟨rfl, rfl, q0, q1, c + 1, hcl, rfl, ?_⟩, mu⟩, fun z => absurd rfl z⟩)
      · refine e_X3_ordersOfDWithC hg hcl ha hb q0 q1 hB.2.1 (fun r o' r0 r1 r2 hz hr => e_J6_bitCount hz ?_)
        have hbl := blk (s := s + 24 * c) (by omega) ha hb hcl hB hr hb1
        have ca := cnt_add (p := pM M) (q := fun d => bt r d = true) (s := s + 24 * c) 24 hbl
        rintro _ rfl
        refine ⟨⟨rfl, rfl, r0, r1, c + 1, hcl, rfl, ?_⟩, mu⟩
        rw [nI_add, ← em]
        congr 1
        omega
      · have := blk0 (s := s + 24 * c) (by omega) ha hb hcl hB hb0
        rw [← em, this]
end PASS
