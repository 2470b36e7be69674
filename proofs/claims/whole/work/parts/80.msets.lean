/-! ===== mathematics: sets of places. A set of places is 2 w, w < 16; bit r of w: place r + 1 ===== -/
theorem bt_tb (v : Int32) (i : Nat) : bt v i = v.toBitVec.toNat.testBit i := rfl
theorem w_bt {w : Nat} (hw : w < 16) (r : Nat) : bt (nI (2 * w)) (r + 1) = w.testBit r := by
  rw [bt_tb, pk_tn (by omega), Nat.testBit_succ, show 2 * w / 2 = w by omega]
theorem w_bt0 {w : Nat} (hw : w < 16) : bt (nI (2 * w)) 0 = false := by
  rw [bt_tb, pk_tn (by omega), Nat.testBit_zero]
  exact decide_eq_false (by omega)
theorem w_hi {w : Nat} (hw : w < 16) {i : Nat} (hi : 5 ≤ i) : bt (nI (2 * w)) i = false := by
  have p : 2 ^ 5 ≤ 2 ^ i := Nat.pow_le_pow_right (by decide) hi
  rw [nI_bt (by omega), Nat.div_eq_of_lt (by omega)]
  rfl
theorem two_and (a X : Nat) : 2 * a &&& X = 2 * (a &&& (X / 2)) := by
  apply Nat.eq_of_testBit_eq
  intro j
  cases j with
  | zero =>
    rw [Nat.testBit_and, Nat.testBit_zero, Nat.testBit_zero (2 * (a &&& (X / 2))), decide_eq_false (show ¬ 2 * a % 2 = 1 by omega), decide_eq_false (show ¬ 2 * (a &&& (X / 2)) % 2 = 1 by omega)]
    rfl
  | succ j =>
    rw [Nat.testBit_and, Nat.testBit_succ, Nat.testBit_succ, Nat.testBit_succ, show 2 * a / 2 = a by omega, show 2 * (a &&& (X / 2)) / 2 = (a &&& (X / 2)) by omega, Nat.testBit_and]
/-- a set cut with anything -/
theorem w_and {a : Nat} (ha : a < 16) (v : Int32) : ∃ u, u < 16 ∧ nI (2 * a) &&& v = nI (2 * u) ∧ ∀ r, u.testBit r = (a.testBit r && bt v (r + 1)) := by
  refine ⟨a &&& (v.toBitVec.toNat / 2), Nat.lt_of_le_of_lt Nat.and_le_left ha, ?_, fun r => ?_⟩
  · conv => lhs; rw [nI_self v]
    rw [nI_and, two_and]
  · rw [Nat.testBit_and, bt_tb, Nat.testBit_succ]
theorem w_ne : ∀ a, a < 16 → (a ≠ 0 → ∃ c, c < 4 ∧ a.testBit c = true) := by decide +kernel
theorem w_eq0 {a : Nat} (ha : a < 16) : nI (2 * a) = 0 ↔ a = 0 := by
  constructor
  · intro h
    have := (nI_eq (b := 0) (by omega) (by decide)).mp h
    omega
  · rintro rfl; rfl
theorem w_ext : ∀ a, a < 16 → ∀ b, b < 16 → (∀ r, r < 4 → a.testBit r = b.testBit r) → a = b := by decide +kernel
/-- a set without a place -/
theorem w_del {a r : Nat} (ha : a < 16) (hr : r < 4) : ∃ u, u < 16 ∧ nI (2 * a) &&& ((1 <<< (nI (r + 1) &&& 31)) ^^^ (-1)) = nI (2 * u) ∧ ∀ x, x < 4 → u.testBit x = (a.testBit x && !decide (x = r)) := by
  obtain ⟨u, h1, h2, h3⟩ := w_and ha ((1 <<< (nI (r + 1) &&& 31)) ^^^ (-1))
  refine ⟨u, h1, h2, fun x hx => ?_⟩
  rw [h3, b_not _ _ (by omega), b_one (by omega) _ (by omega)]
  by_cases e : x = r
  · subst e; simp
  · rw [decide_eq_false e, decide_eq_false (show ¬ x + 1 = r + 1 by omega)]
/-- how many places -/
def pc (w : Nat) : Nat := p8 (2 * w)
theorem e_bc {w : Nat} (hw : w < 16) {Q : Int32 → Prop} (h : Q (nI (pc w))) : wp_J6_bitCount_0f7a4 (nI (2 * w)) Q := by
  refine e_J6_bitCount (fun i hi => w_hi hw (by omega)) ?_
  rw [cnt_24 (v := nI (2 * w)) (b0 := 2 * w) (b1 := 0) (b2 := 0) (by omega) (by omega) (by rw [pk_tn (by omega)]; omega)]
  exact h
theorem pc_le : ∀ w, w < 16 → pc w ≤ 4 := by decide +kernel
def pcS (w : Nat) : Nat → Nat
  | 0 => 0
  | d + 1 => pcS w d + 2 * w / 2 ^ (d + 1) % 2
theorem pcS_4 : ∀ w, w < 16 → pcS w 4 = pc w := by decide +kernel
theorem sh_1 {w p : Nat} (hw : w < 16) (hp : p < 8) : (nI (2 * w) >>> (nI p &&& 31)) &&& 1 = nI (2 * w / 2 ^ p % 2) := by
  rw [pk_shrN (by omega) _ p (s_l p (by omega)), show (nI (2 * w / 2 ^ p)) &&& 1 = nI (2 * w / 2 ^ p % 2 ^ 1) from pk_andN (Nat.lt_of_le_of_lt (Nat.div_le_self _ _) (by omega)) 1 (by decide)]
theorem e_X7_bits {w : Nat} (hw : w < 16) {Q : Int32 → Prop} (h : Q (nI (pc w))) : wp_X7_bits (nI (2 * w)) Q := by
  refine ⟨fun l1 l2 => ∃ d, d ≤ 4 ∧ l2 = nI (d + 1) ∧ l1 = nI (pcS w d), fun _ l2 => 5 - l2.toNatClampNeg, ⟨0, by decide, rfl, rfl⟩, ?_⟩
  rintro l1 l2 ⟨d, hd, rfl, rfl⟩
  refine ⟨fun c => ?_, fun c => ?_⟩
  · have hc : 4 < d + 1 := (nI_ltI (a := 4) (by decide) (by omega)).mp c
    have e : d = 4 := by omega
    subst e
    rw [pcS_4 w hw]
    exact h
  · have hc : ¬ 4 < d + 1 := fun q => c ((nI_ltI (a := 4) (by decide) (by omega)).mpr q)
    rintro _ rfl
    refine ⟨⟨d + 1, by omega, nI_1 _, ?_⟩, ?_⟩
    · rw [sh_1 hw (by omega), nI_add]
      rfl
    · rw [nI_1]; exact mu_dec (B := 5) (by omega) (by decide)
theorem ntz_4 : ∀ u, u < 16 → u ≠ 0 → (((nI (2 * u) ^^^ (-1)) &&& (nI (2 * u) - 1) = 1 ∧ u.testBit 0 = true) ∨ ((nI (2 * u) ^^^ (-1)) &&& (nI (2 * u) - 1) = 3 ∧ u.testBit 0 = false ∧ u.testBit 1 = true) ∨ ((nI (2 * u) ^^^ (-1)) &&& (nI (2 * u) - 1) = 7 ∧ u.testBit 0 = false ∧ u.testBit 1 = false ∧ u.testBit 2 = true) ∨ ((nI (2 * u) ^^^ (-1)) &&& (nI (2 * u) - 1) = 15 ∧ u.testBit 0 = false ∧ u.testBit 1 = false ∧ u.testBit 2 = false ∧ u.testBit 3 = true)) := by decide +kernel
/-- the first place of a set -/
def Fp (u r : Nat) : Prop := r < 4 ∧ u.testBit r = true ∧ ∀ x, x < r → u.testBit x = false
theorem Fp.uniq {u r r' : Nat} (h : Fp u r) (h' : Fp u r') : r = r' := by
  rcases Nat.lt_trichotomy r r' with q | q | q
  · have := h'.2.2 r q
    rw [h.2.1] at this
    cases this
  · exact q
  · have := h.2.2 r' q
    rw [h'.2.1] at this
    cases this
theorem e_X4_firstOf {u : Nat} (hu : u < 16) (h0 : u ≠ 0) {Q : Int32 → Prop} (h : ∀ r, Fp u r → Q (nI (r + 1))) : wp_X4_firstOf (nI (2 * u)) Q := by
  rcases ntz_4 u hu h0 with ⟨e, b0⟩ | ⟨e, b0, b1⟩ | ⟨e, b0, b1, b2⟩ | ⟨e, b0, b1, b2, b3⟩
  · have hr := h 0 ⟨by decide, b0, fun x hx => absurd hx (Nat.not_lt_zero _)⟩
    intro w1 ew
    rw [e] at ew
    subst ew
    exact ⟨fun _ => ⟨fun _ => ⟨fun _ => ⟨fun _ => ⟨fun _ => hr, fun z => absurd (by decide) z⟩, fun z => absurd (by decide) z⟩, fun z => absurd (by decide) z⟩, fun z => absurd (by decide) z⟩, fun z => absurd (by decide) z⟩
  · have hr := h 1 ⟨by decide, b1, fun x hx => by
      have : x = 0 := by omega
      subst this; exact b0⟩
    intro w1 ew
    rw [e] at ew
    subst ew
    exact ⟨fun _ => ⟨fun _ => ⟨fun _ => ⟨fun _ => ⟨fun _ => hr, fun z => absurd (by decide) z⟩, fun z => absurd (by decide) z⟩, fun z => absurd (by decide) z⟩, fun z => absurd (by decide) z⟩, fun z => absurd (by decide) z⟩
  · have hr := h 2 ⟨by decide, b2, fun x hx => by
      rcases (show x = 0 ∨ x = 1 by omega) with q | q <;> subst q <;> assumption⟩
    intro w1 ew
    rw [e] at ew
    subst ew
    refine ⟨fun _ => ⟨fun _ => ⟨fun _ => ⟨fun _ => ⟨fun z => absurd z (by decide), fun _ => ?_⟩, fun z => absurd (by decide) z⟩, fun z => absurd (by decide) z⟩, fun z => absurd (by decide) z⟩, fun z => absurd (by decide) z⟩
    rintro _ rfl
    exact hr
  · have hr := h 3 ⟨by decide, b3, fun x hx => by
      rcases (show x = 0 ∨ x = 1 ∨ x = 2 by omega) with q | q | q <;> subst q <;> assumption⟩
    intro w1 ew
    rw [e] at ew
    subst ew
    refine ⟨fun _ => ⟨fun _ => ⟨fun _ => ⟨fun _ => ⟨fun z => absurd z (by decide), fun _ => ?_⟩, fun z => absurd (by decide) z⟩, fun z => absurd (by decide) z⟩, fun z => absurd (by decide) z⟩, fun z => absurd (by decide) z⟩
    rintro _ rfl
    exact hr
theorem e_X7_placeIn {u : Nat} (hu : u < 16) (h0 : u ≠ 0) {Q : Int32 → Prop} (h : ∀ r, Fp u r → Q (nI (r + 1))) : wp_X7_placeIn (nI (2 * u)) Q := by
  refine ⟨fun l1 => ∃ d, d < 4 ∧ l1 = nI (d + 1) ∧ ∀ x, x < d → u.testBit x = false, fun l1 => 5 - l1.toNatClampNeg, ⟨0, by decide, rfl, fun x hx => absurd hx (Nat.not_lt_zero _)⟩, ?_⟩
  rintro l1 ⟨d, hd, rfl, q⟩
  refine e_X7_has (by omega) (fun hb => ⟨fun z => absurd z (by decide), fun _ => h d ⟨hd, (w_bt hu d).symm.trans hb, q⟩⟩) (fun hb => ⟨fun _ => ?_, fun z => absurd rfl z⟩)
  rw [w_bt hu] at hb
  have q' : ∀ x, x < d + 1 → u.testBit x = false := fun x hx => by
    by_cases e : x = d
    · subst e; exact hb
    · exact q x (by omega)
  have hd' : d + 1 < 4 := by
    obtain ⟨c, hc, hcb⟩ := w_ne u hu h0
    have : ¬ c < d + 1 := fun z => by
      rw [q' c z] at hcb
      cases hcb
    omega
  exact ⟨⟨d + 1, hd', nI_1 _, q'⟩, by rw [nI_1]; exact mu_dec (B := 5) (by omega) (by decide)⟩
/-- the state of the strikes: w of each item -/
def RS (pl : Nat → Int32) (S : Nat → Nat) : Prop := ∀ i, i < 16 → pl i = nI (2 * S i) ∧ S i < 16
theorem e_X7_isLeft {pl : Nat → Int32} {S : Nat → Nat} (hs : RS pl S) {i r : Nat} (hi : i < 16) (hr : r < 4) {Q : Int32 → Prop} (h1 : (S i).testBit r = true → Q 1) (h0 : (S i).testBit r = false → Q 0) : wp_X7_isLeft (nI i) (nI (r + 1)) pl Q := by
  obtain ⟨e, hw⟩ := hs i hi
  refine ⟨vp_in_nI hi (by decide), ?_⟩
  rw [nI_clamp (by omega), e]
  exact e_X7_has (by omega) (fun hb => ⟨zb1, h1 ((w_bt hw r).symm.trans hb)⟩) (fun hb => ⟨zb0, h0 ((w_bt hw r).symm.trans hb)⟩)
