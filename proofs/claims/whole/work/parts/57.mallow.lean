/-! ===== mathematics: the row 'allowed' of a clue ===== -/
/-- the column of the i-th item in a number that holds the columns of all -/
def cN (n i : Nat) : Nat := n / 4 ^ i % 4
theorem cN_lt (n i : Nat) : cN n i < 4 := Nat.mod_lt _ (by decide)
theorem cN_I {n i : Nat} (hn : n < 1000) (hi : i < 8) : (nI n >>> ((2 * nI i) &&& 31)) &&& 3 = nI (cN n i) := by
  rw [show (2 : Int32) = nI 2 from rfl, pk_mul, pk_shrN (by omega) _ (2 * i) (s_l (2 * i) (by omega)), pk_andN (n := n / 2 ^ (2 * i)) (Nat.lt_of_le_of_lt (Nat.div_le_self _ _) (by omega)) 2 (by decide)]
  unfold cN
  rw [Nat.pow_mul]
theorem and3 {a : Nat} (h : a < 1000) : nI a &&& 3 = nI (a % 4) := pk_andN (by omega) 2 (by decide)
/-- the orders and the entry behind the first i items -/
def oeF (t : Nat) (low : Int32) (it : Nat → Nat) (n : Nat) : Nat → Int32 × Nat
  | 0 => (16777215, 0)
  | i + 1 => if it i / 4 = t then ((oeF t low it n i).1 &&& tOW (4 * (it i % 4) + cN n i), (oeF t low it n i).2) else if nI (it i) = low then ((oeF t low it n i).1, (oeF t low it n i).2 + 4 * cN n i) else ((oeF t low it n i).1, (oeF t low it n i).2 + cN n i)
theorem oeF_le {t : Nat} {low : Int32} {it : Nat → Nat} {n : Nat} : ∀ i, (oeF t low it n i).2 ≤ 12 * i
  | 0 => Nat.le_refl _
  | i + 1 => by
    have ih := oeF_le (t := t) (low := low) (it := it) (n := n) i
    have hc := cN_lt n i
    unfold oeF
    split
    · show (oeF t low it n i).2 ≤ _
      omega
    · split
      · show (oeF t low it n i).2 + 4 * cN n i ≤ _
        omega
      · show (oeF t low it n i).2 + cN n i ≤ _
        omega
theorem e_X1_allowColumns {kd t n : Nat} (hk : kd ≤ 6) (ht : t < 4) (hn : n < 64) {x y z low : Int32} {it : Nat → Nat} (hit : ∀ i, i < mI kd → itv x y z i = nI (it i) ∧ it i < 16) {al : Nat → Int32} (he : (oeF t low it n (mI kd)).2 < 16) {Q : (Nat → Int32) → Prop}
    (h : Q (upd al (oeF t low it n (mI kd)).2 (al (oeF t low it n (mI kd)).2 ||| (oeF t low it n (mI kd)).1))) : wp_X1_allowColumns (nI n) (nI kd) x y z (nI t) low al Q := by
  have hm := mI_le kd
  refine ⟨fun o e l a => a = al ∧ ∃ i, i ≤ mI kd ∧ l = nI i ∧ o = (oeF t low it n i).1 ∧ e = nI (oeF t low it n i).2, fun _ _ l _ => 3 - l.toNatClampNeg, ⟨rfl, 0, Nat.zero_le _, nI_0.symm, rfl, nI_0.symm⟩, ?_⟩
  rintro o e l a ⟨rfl, i, hi, rfl, rfl, rfl⟩
  refine e_X1_items hk ⟨fun d => ?_, fun d => ?_⟩
  · have e : i = mI kd := Nat.le_antisymm hi ((nI_leI (by omega) (by omega)).mp d)
    subst e
    rw [nI_clamp (n := (oeF t low it n (mI kd)).2) (by omega)]
    exact ⟨vp_in_nI he (by decide), vp_in_nI he (by decide), h⟩
  · have hlt : i < mI kd := Nat.lt_of_not_le (fun q => d ((nI_leI (by omega) (by omega)).mpr q))
    obtain ⟨h1, h2⟩ := hit i hlt
    refine e_X1_itemAt (by omega) ?_
    intro w ew
    rw [cN_I (by omega) (by omega)] at ew
    subst ew
    have hc := cN_lt n i
    have hb := oeF_le (t := t) (low := low) (it := it) (n := n) i
    rw [h1, and3 (by omega), show (4 : Int32) = nI 4 from rfl, pk_div (by omega) (by decide) (by decide), pk_mul, pk_mul, nI_1, nI_add, nI_add, nI_add]
    have mu := mu_dec (B := 3) (i := i) (by omega) (by decide)
    refine ⟨fun c => ⟨vp_in_nI (by omega) (by decide), ?_⟩, fun c => ⟨fun f => ?_, fun f => ?_⟩⟩
    · have hc : it i / 4 = t := (nI_eq (by omega) (by omega)).mp c
      rw [nI_clamp (n := 4 * (it i % 4) + cN n i) (by omega)]
      rintro w rfl
      refine ⟨⟨rfl, i + 1, hlt, rfl, ?_, ?_⟩, mu⟩
      · conv => rhs; unfold oeF; rw [if_pos hc]
      · conv => rhs; unfold oeF; rw [if_pos hc]
    · have hc : ¬ it i / 4 = t := fun q => c (by rw [q])
      rintro w rfl
      refine ⟨⟨rfl, i + 1, hlt, rfl, ?_, ?_⟩, mu⟩
      · conv => rhs; unfold oeF; rw [if_neg hc, if_pos f]
      · conv => rhs; unfold oeF; rw [if_neg hc, if_pos f]
    · have hc : ¬ it i / 4 = t := fun q => c (by rw [q])
      rintro w rfl
      refine ⟨⟨rfl, i + 1, hlt, rfl, ?_, ?_⟩, mu⟩
      · conv => rhs; unfold oeF; rw [if_neg hc, if_neg f]
      · conv => rhs; unfold oeF; rw [if_neg hc, if_neg f]
/-- the row behind the first n numbers of columns, as a property -/
def alP (kd t p : Nat) (low : Int32) (it : Nat → Nat) (n : Nat) (al : Nat → Int32) : Prop := ∀ e, e < 16 → ∀ o, o < 24 → (bt (al e) o = true ↔ ∃ c, c < n ∧ metC kd p (cN c 0) (cN c 1) (cN c 2) ∧ (oeF t low it c (mI kd)).2 = e ∧ bt (oeF t low it c (mI kd)).1 o = true)
theorem e_X1_fillAllowed {kd t p : Nat} (hk : kd ≤ 6) (ht : t < 4) {x y z pl low : Int32} (hp : kd = 5 → pl = nI p ∧ p < 5) {it : Nat → Nat} (hit : ∀ i, i < mI kd → itv x y z i = nI (it i) ∧ it i < 16) (he : ∀ n, (oeF t low it n (mI kd)).2 < 16) {Q : (Nat → Int32) → Prop}
    (h : ∀ al, alP kd t p low it (4 ^ mI kd) al → Q al) : wp_X1_fillAllowed (nI kd) x y z pl (nI t) low (fun _ => 0) Q := by
  have hm := mI_le kd
  have h64 : 4 ^ mI kd ≤ 64 := Nat.pow_le_pow_right (by decide) hm.2
  refine e_X1_items hk ?_
  intro w ew
  have ew2 : w = nI (4 ^ mI kd) := by
    rw [ew]
    rcases (show mI kd = 1 ∨ mI kd = 2 ∨ mI kd = 3 by omega) with r | r | r <;> rw [r] <;> decide
  subst ew2
  refine ⟨fun l1 l2 a => l1 = nI (4 ^ mI kd) ∧ ∃ n, n ≤ 4 ^ mI kd ∧ l2 = nI n ∧ alP kd t p low it n a, fun _ l _ => 64 - l.toNatClampNeg, ⟨rfl, 0, Nat.zero_le _, nI_0.symm, ?_⟩, ?_⟩
  · intro e _ o _
    constructor
    · intro q; rw [show bt ((fun _ => (0 : Int32)) e) o = bt 0 o from rfl, b_0] at q; cases q
    · rintro ⟨c, hc, -⟩; exact absurd hc (Nat.not_lt_zero _)
  · rintro l1 l2 a ⟨rfl, n, hn, rfl, ha⟩
    refine ⟨fun d => ?_, fun d => ?_⟩
    · have e : n = 4 ^ mI kd := Nat.le_antisymm hn ((nI_leI (by omega) (by omega)).mp d)
      subst e
      exact h a ha
    · have hlt : n < 4 ^ mI kd := Nat.lt_of_not_le (fun q => d ((nI_leI (by omega) (by omega)).mpr q))
      have c0 : nI n &&& 3 = nI (cN n 0) := by rw [and3 (by omega)]; unfold cN; rw [Nat.pow_zero, Nat.div_one]
      have c1 : (nI n >>> (2 &&& 31)) &&& 3 = nI (cN n 1) := by have := cN_I (n := n) (i := 1) (by omega) (by decide); rw [← this]; rfl
      have c2 : (nI n >>> (4 &&& 31)) &&& 3 = nI (cN n 2) := by have := cN_I (n := n) (i := 2) (by omega) (by decide); rw [← this]; rfl
      rw [c0, c1, c2, nI_1]
      have mu := mu_dec (B := 64) (i := n) (by omega) (by decide)
      refine e_X1_isMetBy hk hp (cN_lt _ _) (cN_lt _ _) (cN_lt _ _) (fun hmet => ⟨fun z => absurd z (by decide), fun _ => ?_⟩) (fun hmet => ⟨fun _ => ⟨⟨rfl, n + 1, hlt, rfl, ?_⟩, mu⟩, fun z => absurd rfl z⟩)
      · refine e_X1_allowColumns hk ht (by omega) hit (he n) ⟨⟨rfl, n + 1, hlt, rfl, ?_⟩, mu⟩
        intro e hE o hO
        by_cases q : e = (oeF t low it n (mI kd)).2
        · subst q
          rw [pk_us, b_or]
          constructor
          · intro hb
            rcases Bool.or_eq_true _ _ ▸ hb with r | r
            · obtain ⟨c, r1, r2⟩ := (ha _ hE o hO).mp r
              exact ⟨c, by omega, r2⟩
            · exact ⟨n, by omega, hmet, rfl, r⟩
          · rintro ⟨c, r1, r2, r3, r4⟩
            by_cases hcn : c = n
            · subst hcn
              rw [r4, Bool.or_true]
            · rw [(ha _ hE o hO).mpr ⟨c, by omega, r2, r3, r4⟩, Bool.true_or]
        · rw [pk_un q]
          constructor
          · intro hb
            obtain ⟨c, r1, r2⟩ := (ha _ hE o hO).mp hb
            exact ⟨c, by omega, r2⟩
          · rintro ⟨c, r1, r2, r3, r4⟩
            by_cases hcn : c = n
            · subst hcn; exact absurd r3.symm q
            · exact (ha _ hE o hO).mpr ⟨c, by omega, r2, r3, r4⟩
      · intro e hE o hO
        constructor
        · intro hb
          obtain ⟨c, r1, r2⟩ := (ha _ hE o hO).mp hb
          exact ⟨c, by omega, r2⟩
        · rintro ⟨c, r1, r2, r3, r4⟩
          by_cases hcn : c = n
          · subst hcn; exact absurd r2 hmet
          · exact (ha _ hE o hO).mpr ⟨c, by omega, r2, r3, r4⟩
