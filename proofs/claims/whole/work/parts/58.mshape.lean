/-! ===== mathematics: what low, high and the row of a clue mean ===== -/
theorem ne6 : ∀ n, n < 16 → ¬ nI n = -6 := by decide +kernel
theorem lhF_T {t i : Nat} {it : Nat → Nat} (h : it i / 4 = t) : lhF t it (i + 1) = lhF t it i := by
  conv => lhs; unfold lhF
  rw [if_pos (by omega)]
theorem lhF_N0 {t i : Nat} {it : Nat → Nat} (h : it i / 4 < t) (h0 : (lhF t it i).1 = -6) : lhF t it (i + 1) = (nI (it i), (lhF t it i).2) := by
  conv => lhs; unfold lhF
  rw [if_neg (by omega), if_pos h0]
theorem lhF_N1 {t i : Nat} {it : Nat → Nat} (h : it i / 4 < t) (h0 : ¬ (lhF t it i).1 = -6) : lhF t it (i + 1) = (if nI (it i) < (lhF t it i).1 then nI (it i) else (lhF t it i).1, if (lhF t it i).1 < nI (it i) then nI (it i) else (lhF t it i).1) := by
  conv => lhs; unfold lhF
  rw [if_neg (by omega), if_neg h0]
theorem oeF_T {t i n : Nat} {low : Int32} {it : Nat → Nat} (h : it i / 4 = t) : oeF t low it n (i + 1) = ((oeF t low it n i).1 &&& tOW (4 * (it i % 4) + cN n i), (oeF t low it n i).2) := by
  conv => lhs; unfold oeF
  rw [if_pos h]
theorem oeF_L {t i n : Nat} {low : Int32} {it : Nat → Nat} (h : it i / 4 < t) (hl : nI (it i) = low) : oeF t low it n (i + 1) = ((oeF t low it n i).1, (oeF t low it n i).2 + 4 * cN n i) := by
  conv => lhs; unfold oeF
  rw [if_neg (by omega), if_pos hl]
theorem oeF_H {t i n : Nat} {low : Int32} {it : Nat → Nat} (h : it i / 4 < t) (hl : ¬ nI (it i) = low) : oeF t low it n (i + 1) = ((oeF t low it n i).1, (oeF t low it n i).2 + cN n i) := by
  conv => lhs; unfold oeF
  rw [if_neg (by omega), if_neg hl]
theorem mm_lt {a b : Nat} (ha : a < 16) (hb : b < 16) (h : a < b) : (if nI b < nI a then nI b else nI a) = nI a ∧ (if nI a < nI b then nI b else nI a) = nI b := by
  rw [if_neg (fun q => absurd ((nI_ltI (by omega) (by omega)).mp q) (by omega)), if_pos ((nI_ltI (by omega) (by omega)).mpr h)]
  exact ⟨rfl, rfl⟩
theorem mm_gt {a b : Nat} (ha : a < 16) (hb : b < 16) (h : b < a) : (if nI b < nI a then nI b else nI a) = nI b ∧ (if nI a < nI b then nI b else nI a) = nI a := by
  rw [if_pos ((nI_ltI (by omega) (by omega)).mpr h), if_neg (fun q => absurd ((nI_ltI (by omega) (by omega)).mp q) (by omega))]
  exact ⟨rfl, rfl⟩
/-- low, high and the entry: none, one, or two items are not of the top category -/
def Shp (m t : Nat) (it : Nat → Nat) (low high : Int32) : Prop :=
  (low = -6 ∧ high = -6 ∧ (∀ i, i < m → it i / 4 = t) ∧ ∀ c, (oeF t low it c m).2 = 0) ∨
  (∃ j, j < m ∧ low = nI (it j) ∧ high = -6 ∧ it j / 4 < t ∧ (∀ i, i < m → i ≠ j → it i / 4 = t) ∧ ∀ c, (oeF t low it c m).2 = 4 * cN c j) ∨
  (∃ j k, j < m ∧ k < m ∧ j ≠ k ∧ it j < it k ∧ low = nI (it j) ∧ high = nI (it k) ∧ it j / 4 < t ∧ it k / 4 < t ∧ (∀ i, i < m → i ≠ j → i ≠ k → it i / 4 = t) ∧ ∀ c, (oeF t low it c m).2 = 4 * cN c j + cN c k)
theorem shape {m t : Nat} {it : Nat → Nat} (hm : 1 ≤ m ∧ m ≤ 3) (h16 : ∀ i, i < m → it i < 16) (hd : ∀ i j, i < m → j < m → i ≠ j → it i ≠ it j) (hle : ∀ i, i < m → it i / 4 ≤ t) (hex : ∃ i, i < m ∧ it i / 4 = t) : Shp m t it (lhF t it m).1 (lhF t it m).2 := by
  have L0 : lhF t it 0 = (-6, -6) := by unfold lhF; rfl
  have O0 : ∀ low c, oeF t low it c 0 = (16777215, 0) := fun low c => by unfold oeF; rfl
  have tn : ∀ i, i < m → it i / 4 = t ∨ it i / 4 < t := fun i hi => by have := hle i hi; omega
  have nn : ∀ i j, i < m → j < m → i ≠ j → ¬ nI (it i) = nI (it j) := fun i j hi hj hne e => hd i j hi hj hne ((nI_eq (by have := h16 i hi; omega) (by have := h16 j hj; omega)).mp e)
  rcases (show m = 1 ∨ m = 2 ∨ m = 3 by omega) with e | e | e
  · subst e
    have a0 : it 0 / 4 = t := by
      obtain ⟨i, hi, h⟩ := hex
      have e : i = 0 := by omega
      subst e; exact h
    refine Or.inl ⟨by rw [lhF_T a0, L0], by rw [lhF_T a0, L0], fun i hi => ?_, fun c => by rw [oeF_T a0, O0]⟩
    have e : i = 0 := by omega
    subst e; exact a0
  · subst e
    rcases tn 0 (by decide) with a0 | a0 <;> rcases tn 1 (by decide) with a1 | a1
    · refine Or.inl ⟨by rw [lhF_T a1, lhF_T a0, L0], by rw [lhF_T a1, lhF_T a0, L0], fun i hi => ?_, fun c => by rw [oeF_T a1, oeF_T a0, O0]⟩
      rcases (show i = 0 ∨ i = 1 by omega) with e | e <;> subst e <;> assumption
    · have e1 : lhF t it 2 = (nI (it 1), -6) := by rw [lhF_N0 a1 (by rw [lhF_T a0, L0]), lhF_T a0, L0]
      rw [e1]
      refine Or.inr (Or.inl ⟨1, by decide, rfl, rfl, a1, fun i hi hne => ?_, fun c => by rw [oeF_L a1 rfl, oeF_T a0, O0]; omega⟩)
      have e : i = 0 := by omega
      subst e; exact a0
    · have e1 : lhF t it 2 = (nI (it 0), -6) := by rw [lhF_T a1, lhF_N0 a0 (by rw [L0]), L0]
      rw [e1]
      refine Or.inr (Or.inl ⟨0, by decide, rfl, rfl, a0, fun i hi hne => ?_, fun c => by rw [oeF_T a1, oeF_L a0 rfl, O0]; omega⟩)
      have e : i = 1 := by omega
      subst e; exact a1
    · obtain ⟨i, hi, h⟩ := hex
      rcases (show i = 0 ∨ i = 1 by omega) with e | e <;> subst e <;> omega
  · subst e
    rcases tn 0 (by decide) with a0 | a0 <;> rcases tn 1 (by decide) with a1 | a1 <;> rcases tn 2 (by decide) with a2 | a2
    · refine Or.inl ⟨by rw [lhF_T a2, lhF_T a1, lhF_T a0, L0], by rw [lhF_T a2, lhF_T a1, lhF_T a0, L0], fun i hi => ?_, fun c => by rw [oeF_T a2, oeF_T a1, oeF_T a0, O0]⟩
      rcases (show i = 0 ∨ i = 1 ∨ i = 2 by omega) with e | e | e <;> subst e <;> assumption
    · have e1 : lhF t it 3 = (nI (it 2), -6) := by rw [lhF_N0 a2 (by rw [lhF_T a1, lhF_T a0, L0]), lhF_T a1, lhF_T a0, L0]
      rw [e1]
      refine Or.inr (Or.inl ⟨2, by decide, rfl, rfl, a2, fun i hi hne => ?_, fun c => by rw [oeF_L a2 rfl, oeF_T a1, oeF_T a0, O0]; omega⟩)
      rcases (show i = 0 ∨ i = 1 by omega) with e | e <;> subst e <;> assumption
    · have e1 : lhF t it 3 = (nI (it 1), -6) := by rw [lhF_T a2, lhF_N0 a1 (by rw [lhF_T a0, L0]), lhF_T a0, L0]
      rw [e1]
      refine Or.inr (Or.inl ⟨1, by decide, rfl, rfl, a1, fun i hi hne => ?_, fun c => by rw [oeF_T a2, oeF_L a1 rfl, oeF_T a0, O0]; omega⟩)
      rcases (show i = 0 ∨ i = 2 by omega) with e | e <;> subst e <;> assumption
    · have e0 : lhF t it 2 = (nI (it 1), -6) := by rw [lhF_N0 a1 (by rw [lhF_T a0, L0]), lhF_T a0, L0]
      have e1 := lhF_N1 (it := it) a2 (by rw [e0]; exact ne6 _ (h16 1 (by decide)))
      rw [e0] at e1
      rcases Nat.lt_or_gt_of_ne (hd 1 2 (by decide) (by decide) (by decide)) with q | q
      · rw [show (2 : Nat) + 1 = 3 from rfl, (mm_lt (h16 1 (by decide)) (h16 2 (by decide)) q).1, (mm_lt (h16 1 (by decide)) (h16 2 (by decide)) q).2] at e1
        rw [e1]
        refine Or.inr (Or.inr ⟨1, 2, by decide, by decide, by decide, q, rfl, rfl, a1, a2, fun i hi h1 h2 => ?_, fun c => by rw [oeF_H a2 (nn 2 1 (by decide) (by decide) (by decide)), oeF_L a1 rfl, oeF_T a0, O0]; omega⟩)
        have e : i = 0 := by omega
        subst e; exact a0
      · rw [show (2 : Nat) + 1 = 3 from rfl, (mm_gt (h16 1 (by decide)) (h16 2 (by decide)) q).1, (mm_gt (h16 1 (by decide)) (h16 2 (by decide)) q).2] at e1
        rw [e1]
        refine Or.inr (Or.inr ⟨2, 1, by decide, by decide, by decide, q, rfl, rfl, a2, a1, fun i hi h1 h2 => ?_, fun c => by rw [oeF_L a2 rfl, oeF_H a1 (nn 1 2 (by decide) (by decide) (by decide)), oeF_T a0, O0]; omega⟩)
        have e : i = 0 := by omega
        subst e; exact a0
    · have e1 : lhF t it 3 = (nI (it 0), -6) := by rw [lhF_T a2, lhF_T a1, lhF_N0 a0 (by rw [L0]), L0]
      rw [e1]
      refine Or.inr (Or.inl ⟨0, by decide, rfl, rfl, a0, fun i hi hne => ?_, fun c => by rw [oeF_T a2, oeF_T a1, oeF_L a0 rfl, O0]; omega⟩)
      rcases (show i = 1 ∨ i = 2 by omega) with e | e <;> subst e <;> assumption
    · have e0 : lhF t it 2 = (nI (it 0), -6) := by rw [lhF_T a1, lhF_N0 a0 (by rw [L0]), L0]
      have e1 := lhF_N1 (it := it) a2 (by rw [e0]; exact ne6 _ (h16 0 (by decide)))
      rw [e0] at e1
      rcases Nat.lt_or_gt_of_ne (hd 0 2 (by decide) (by decide) (by decide)) with q | q
      · rw [show (2 : Nat) + 1 = 3 from rfl, (mm_lt (h16 0 (by decide)) (h16 2 (by decide)) q).1, (mm_lt (h16 0 (by decide)) (h16 2 (by decide)) q).2] at e1
        rw [e1]
        refine Or.inr (Or.inr ⟨0, 2, by decide, by decide, by decide, q, rfl, rfl, a0, a2, fun i hi h1 h2 => ?_, fun c => by rw [oeF_H a2 (nn 2 0 (by decide) (by decide) (by decide)), oeF_T a1, oeF_L a0 rfl, O0]; omega⟩)
        have e : i = 1 := by omega
        subst e; exact a1
      · rw [show (2 : Nat) + 1 = 3 from rfl, (mm_gt (h16 0 (by decide)) (h16 2 (by decide)) q).1, (mm_gt (h16 0 (by decide)) (h16 2 (by decide)) q).2] at e1
        rw [e1]
        refine Or.inr (Or.inr ⟨2, 0, by decide, by decide, by decide, q, rfl, rfl, a2, a0, fun i hi h1 h2 => ?_, fun c => by rw [oeF_L a2 rfl, oeF_T a1, oeF_H a0 (nn 0 2 (by decide) (by decide) (by decide)), O0]; omega⟩)
        have e : i = 1 := by omega
        subst e; exact a1
    · have e0 : lhF t it 1 = (nI (it 0), -6) := by rw [lhF_N0 a0 (by rw [L0]), L0]
      have e1 := lhF_N1 (it := it) a1 (by rw [e0]; exact ne6 _ (h16 0 (by decide)))
      rw [e0] at e1
      rcases Nat.lt_or_gt_of_ne (hd 0 1 (by decide) (by decide) (by decide)) with q | q
      · rw [show (1 : Nat) + 1 = 2 from rfl, (mm_lt (h16 0 (by decide)) (h16 1 (by decide)) q).1, (mm_lt (h16 0 (by decide)) (h16 1 (by decide)) q).2] at e1
        have e2 : lhF t it 3 = (nI (it 0), nI (it 1)) := by rw [lhF_T a2, e1]
        rw [e2]
        refine Or.inr (Or.inr ⟨0, 1, by decide, by decide, by decide, q, rfl, rfl, a0, a1, fun i hi h1 h2 => ?_, fun c => by rw [oeF_T a2, oeF_H a1 (nn 1 0 (by decide) (by decide) (by decide)), oeF_L a0 rfl, O0]; omega⟩)
        have e : i = 2 := by omega
        subst e; exact a2
      · rw [show (1 : Nat) + 1 = 2 from rfl, (mm_gt (h16 0 (by decide)) (h16 1 (by decide)) q).1, (mm_gt (h16 0 (by decide)) (h16 1 (by decide)) q).2] at e1
        have e2 : lhF t it 3 = (nI (it 1), nI (it 0)) := by rw [lhF_T a2, e1]
        rw [e2]
        refine Or.inr (Or.inr ⟨1, 0, by decide, by decide, by decide, q, rfl, rfl, a1, a0, fun i hi h1 h2 => ?_, fun c => by rw [oeF_T a2, oeF_L a1 rfl, oeF_H a0 (nn 0 1 (by decide) (by decide) (by decide)), O0]; omega⟩)
        have e : i = 2 := by omega
        subst e; exact a2
    · obtain ⟨i, hi, h⟩ := hex
      rcases (show i = 0 ∨ i = 1 ∨ i = 2 by omega) with e | e | e <;> subst e <;> omega
