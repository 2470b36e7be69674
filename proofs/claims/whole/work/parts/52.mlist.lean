/-! ===== mathematics: the clues of both sides as lists; drop, told, image, restore, count ===== -/
/-- a clue of the pool has the numbers f; CW: what is true of each clue that was made -/
def CR (CW : (Nat → Int32) → (Nat → Int32) → Prop) (pv : PV) (a : Nat) (f : Nat → Int32) : Prop := pv.1 a ∧ (∀ j, j < 5 → pv.2.1 a j = f j) ∧ CW (pv.2.1 a) (pv.2.2.2 a)
/-- n clues: a row of the class, and the reference's numbers from place b on -/
def RLi (CW : (Nat → Int32) → (Nat → Int32) → Prop) (pv : PV) (n : Nat) (row : Nat → Option Nat) (zc : Nat → Int32) (b : Nat) : Prop := ∀ k, k < n → ∃ a, row k = some a ∧ CR CW pv a (fun j => zc (b + 5 * k + j))
theorem mu_dec {B i : Nat} (h : i < B) (hB : B ≤ 1000000) : B - (nI (i + 1)).toNatClampNeg < B - (nI i).toNatClampNeg := by
  rw [nI_clamp (n := i + 1) (by omega), nI_clamp (n := i) (by omega)]
  omega
section LISTS
variable {CW : (Nat → Int32) → (Nat → Int32) → Prop} {pv : PV}
theorem RLi.congr {n b b' : Nat} {row row' : Nat → Option Nat} {zc zc' : Nat → Int32} (h : RLi CW pv n row zc b) (hr : ∀ k, k < n → row' k = row k) (hz : ∀ m, m < 5 * n → zc' (b' + m) = zc (b + m)) : RLi CW pv n row' zc' b' := by
  intro k hk
  obtain ⟨a, ha, h1, h2, h3⟩ := h k hk
  refine ⟨a, (hr k hk).trans ha, h1, fun j hj => (h2 j hj).trans ?_, h3⟩
  show zc (b + 5 * k + j) = zc' (b' + 5 * k + j)
  rw [Nat.add_assoc, Nat.add_assoc]
  exact (hz _ (by omega)).symm
theorem e_X6_isClue {n : Nat} (hn : n ≤ 12) {x : Int32} {Q : Int32 → Prop} (h1 : ∀ c, c < n → x = nI c → Q 1) (h0 : (¬ ∃ c, c < n ∧ x = nI c) → Q 0) : wp_X6_isClue x (nI n) Q := by
  refine ⟨fun c => h0 ?_, fun c => ⟨fun d => h0 ?_, fun d => ?_⟩⟩
  · rintro ⟨k, hk, rfl⟩
    exact nI_pos (by omega) c
  · rintro ⟨k, hk, rfl⟩
    exact absurd ((nI_leI (by omega) (by omega)).mp d) (by omega)
  · obtain ⟨j, hj, rfl⟩ := nI_of c
    have hlt : j < n := Nat.lt_of_not_le (fun q => d ((nI_leI (by omega) (by omega)).mpr q))
    exact h1 j hlt rfl
theorem in_iff {n : Nat} (hn : n ≤ 12) {x : Int32} : (¬ x < 0 ∧ ¬ nI n - 1 < x) ↔ ∃ c, c < n ∧ x = nI c := by
  constructor
  · rintro ⟨c, d⟩
    obtain ⟨j, hj, rfl⟩ := nI_of c
    by_cases h0 : n = 0
    · subst h0
      exact absurd (show nI 0 - 1 < nI j from Int32.lt_of_lt_of_le (b := 0) (by decide) (nI_pos' hj)) d
    · rw [show (1 : Int32) = nI 1 from rfl, pk_sub (by omega)] at d
      refine ⟨j, ?_, rfl⟩
      have h9 : ¬ n - 1 < j := fun q => d ((nI_ltI (a := n - 1) (b := j) (by omega) (by omega)).mpr q)
      omega
  · rintro ⟨c, hc, rfl⟩
    refine ⟨nI_pos (by omega), ?_⟩
    rw [show (1 : Int32) = nI 1 from rfl, pk_sub (by omega)]
    exact fun q => absurd ((nI_ltI (by omega) (by omega)).mp q) (by omega)
theorem e_X7_isClue {n : Nat} (hn : n ≤ 12) {x : Int32} {Q : Int32 → Prop} (h1 : ∀ c, c < n → x = nI c → Q 1) (h0 : (¬ ∃ c, c < n ∧ x = nI c) → Q 0) : wp_X7_isClue x (nI n) Q := by
  refine e_X7_in (fun a => ?_) (fun a => ?_)
  · obtain ⟨c, hc, e⟩ := (in_iff hn).mp a
    exact ⟨zb1, h1 c hc e⟩
  · exact ⟨zb0, h0 (fun q => a ((in_iff hn).mpr q))⟩
theorem e_X2_remove {n c : Nat} (hn : n ≤ 12) (hc : c < n) {row : Nat → Option Nat} (hr : ∀ k, k < n → ∃ a, row k = some a ∧ pv.1 a) {Q : Int32 → (Nat → Option Nat) → Prop}
    (h : ∀ row', (∀ k, k < c → row' k = row k) → (∀ k, c ≤ k → k < n - 1 → row' k = row (k + 1)) → Q (nI (n - 1)) row') : wp_X2_remove (nI c) pv (nI n) row Q := by
  have e1 : nI n - 1 = nI (n - 1) := by rw [show (1 : Int32) = nI 1 from rfl, pk_sub (by omega)]
  refine ⟨fun l sz r => sz = nI n ∧ ∃ i, c ≤ i ∧ i ≤ n - 1 ∧ l = nI i ∧ (∀ k, k < c → r k = row k) ∧ (∀ k, c ≤ k → k < i → r k = row (k + 1)) ∧ (∀ k, i ≤ k → r k = row k), fun l _ _ => 12 - l.toNatClampNeg, ⟨rfl, c, Nat.le_refl _, by omega, rfl, fun _ _ => rfl, fun k h1 h2 => absurd h1 (by omega), fun _ _ => rfl⟩, ?_⟩
  rintro l sz r ⟨rfl, i, hi1, hi2, rfl, q1, q2, q3⟩
  rw [e1]
  refine ⟨fun d => ?_, fun d => ?_⟩
  · have e : i = n - 1 := Nat.le_antisymm hi2 ((nI_leI (by omega) (by omega)).mp d)
    subst e
    exact h r q1 q2
  · have hlt : i < n - 1 := Nat.lt_of_not_le (fun q => d ((nI_leI (by omega) (by omega)).mpr q))
    obtain ⟨a, ha, hpa⟩ := hr (i + 1) (by omega)
    rw [nI_1]
    refine ⟨vp_in_nI (by omega) (by decide), a, ?_, hpa, vp_in_nI (by omega) (by decide), ⟨rfl, i + 1, by omega, by omega, rfl, fun k hk => ?_, fun k h1 h2 => ?_, fun k hk => ?_⟩, ?_⟩
    · rw [nI_clamp (by omega), q3 _ (by omega)]; exact ha
    · rw [nI_clamp (by omega), va_up_ne _ _ (by omega)]; exact q1 k hk
    · rw [nI_clamp (by omega)]
      by_cases e : k = i
      · subst e; rw [va_up_self]; exact ha.symm
      · rw [va_up_ne _ _ e]; exact q2 k h1 (by omega)
    · rw [nI_clamp (by omega), va_up_ne _ _ (by omega)]; exact q3 k (by omega)
    · exact mu_dec (by omega) (by decide)
theorem e_X7_remove {n c : Nat} (hn : n ≤ 12) (hc : c < n) {zc : Nat → Int32} {Q : Int32 → (Nat → Int32) → Prop}
    (h : ∀ zc', (∀ m, m < 5 * c → zc' m = zc m) → (∀ m, 5 * c ≤ m → m < 5 * (n - 1) → zc' m = zc (m + 5)) → Q (nI (n - 1)) zc') : wp_X7_remove (nI c) zc (nI n) Q := by
  have e1 : nI n - 1 = nI (n - 1) := by rw [show (1 : Int32) = nI 1 from rfl, pk_sub (by omega)]
  intro w ew
  rw [show (5 : Int32) = nI 5 from rfl, pk_mul] at ew
  subst ew
  rw [e1]
  refine ⟨fun l z sz => sz = nI (n - 1) ∧ ∃ i, 5 * c ≤ i ∧ i ≤ 5 * (n - 1) ∧ l = nI i ∧ (∀ k, k < 5 * c → z k = zc k) ∧ (∀ k, 5 * c ≤ k → k < i → z k = zc (k + 5)) ∧ (∀ k, i ≤ k → z k = zc k), fun l _ _ => 60 - l.toNatClampNeg, ⟨rfl, 5 * c, Nat.le_refl _, by omega, rfl, fun _ _ => rfl, fun k h1 h2 => absurd h1 (by omega), fun _ _ => rfl⟩, ?_⟩
  rintro l z sz ⟨rfl, i, hi1, hi2, rfl, q1, q2, q3⟩
  rw [show (5 : Int32) = nI 5 from rfl, pk_mul]
  refine ⟨fun d => ?_, fun d => ?_⟩
  · have e : i = 5 * (n - 1) := Nat.le_antisymm hi2 ((nI_leI (by omega) (by omega)).mp d)
    subst e
    exact h z q1 q2
  · have hlt : i < 5 * (n - 1) := Nat.lt_of_not_le (fun q => d ((nI_leI (by omega) (by omega)).mpr q))
    rw [nI_add, nI_1]
    refine ⟨vp_in_nI (by omega) (by decide), vp_in_nI (by omega) (by decide), ⟨rfl, i + 1, by omega, by omega, rfl, fun k hk => ?_, fun k h1 h2 => ?_, fun k hk => ?_⟩, ?_⟩
    · rw [nI_clamp (by omega), pk_un (by omega)]; exact q1 k hk
    · rw [nI_clamp (n := i) (by omega), nI_clamp (n := i + 5) (by omega)]
      by_cases e : k = i
      · subst e; rw [pk_us]; exact q3 _ (by omega)
      · rw [pk_un e]; exact q2 k h1 (by omega)
    · rw [nI_clamp (n := i) (by omega), pk_un (by omega)]; exact q3 k (by omega)
    · exact mu_dec (by omega) (by decide)
/-- the clues of both sides -/
def RC (CW : (Nat → Int32) → (Nat → Int32) → Prop) (pv : PV) (sz : Int32) (row : Nat → Option Nat) (many : Int32) (zc : Nat → Int32) : Prop := ∃ n : Nat, n ≤ 12 ∧ sz = nI n ∧ many = nI n ∧ RLi CW pv n row zc 0
theorem op_drop {x sz many k1 k2 k3 k4 k5 : Int32} {row : Nat → Option Nat} {zc : Nat → Int32} (h : RC CW pv sz row many zc) {G : Prop} (hG : G) {F : Int32 → Int32 → (Nat → Option Nat) → Int32 → Int32 → Int32 → Int32 → Int32 → Int32 → Int32 → (Nat → Int32) → Prop}
    (hF0 : F (-1) sz row k1 k2 k3 k4 k5 (-1) many zc) (hF : ∀ r sz' row' many' zc', RC CW pv sz' row' many' zc' → F r sz' row' (-6) (-6) (-6) (-6) 0 r many' zc') :
    wp_X6_drop x pv sz row k1 k2 k3 k4 k5 (fun r a b c1 c2 c3 c4 c5 => G ∧ wp_X7_drop x zc many (fun r2 d e => F r a b c1 c2 c3 c4 c5 r2 d e)) := by
  obtain ⟨n, hn, rfl, rfl, hl⟩ := h
  refine e_X6_isClue hn (fun c hc e => ⟨fun z => absurd z (by decide), fun _ => ?_⟩) (fun he => ⟨fun _ => ⟨hG, ?_⟩, fun z => absurd rfl z⟩)
  · subst e
    refine e_X2_remove hn hc (fun k hk => ?_) (fun row' r1 r2 => ⟨hG, ?_⟩)
    · obtain ⟨a, ha, h1⟩ := hl k hk
      exact ⟨a, ha, h1.1⟩
    · refine e_X7_isClue hn (fun c' _ _ => ⟨fun z => absurd z (by decide), fun _ => ?_⟩) (fun q => absurd ⟨c, hc, rfl⟩ q)
      refine e_X7_remove hn hc (fun zc' z1 z2 => hF _ _ _ _ _ ⟨n - 1, by omega, rfl, rfl, fun k hk => ?_⟩)
      by_cases hkc : k < c
      · obtain ⟨a, ha, h1, h2, h3⟩ := hl k (by omega)
        refine ⟨a, (r1 k hkc).trans ha, h1, fun j hj => (h2 j hj).trans ?_, h3⟩
        show zc (0 + 5 * k + j) = zc' (0 + 5 * k + j)
        exact (z1 _ (by omega)).symm
      · obtain ⟨a, ha, h1, h2, h3⟩ := hl (k + 1) (by omega)
        refine ⟨a, (r2 k (by omega) hk).trans ha, h1, fun j hj => (h2 j hj).trans ?_, h3⟩
        show zc (0 + 5 * (k + 1) + j) = zc' (0 + 5 * k + j)
        rw [z2 _ (by omega) (by omega)]
        congr 1
        omega
  · exact e_X7_isClue hn (fun c hc e => absurd ⟨c, hc, e⟩ he) (fun _ => ⟨fun _ => hF0, fun z => absurd rfl z⟩)
end LISTS
