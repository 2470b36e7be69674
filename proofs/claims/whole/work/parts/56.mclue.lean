/-! ===== mathematics: how a clue is made ===== -/
/-- the column of the i-th item of a category in an order -/
def colN (o i : Nat) : Nat := (tCOL (4 * o + i)).toNatClampNeg
theorem col_ok : ∀ o, o < 24 → ∀ i, i < 4 → tCOL (4 * o + i) = nI (colN o i) ∧ colN o i < 4 := by decide +kernel
theorem ow_ok : ∀ r, r < 4 → ∀ c, c < 4 → ∀ o, o < 24 → bt (tOW (4 * r + c)) o = decide (colN o r = c) := by decide +kernel
/-- how many ITEMS a clue of a KIND has -/
def mI (kd : Nat) : Nat := if kd = 5 then 1 else if kd = 6 then 3 else 2
theorem mI_le (kd : Nat) : 1 ≤ mI kd ∧ mI kd ≤ 3 := by unfold mI; split <;> (try split) <;> omega
theorem e_X1_items {kd : Nat} (hk : kd ≤ 6) {Q : Int32 → Prop} (h : Q (nI (mI kd))) : wp_X1_items (nI kd) Q := by
  unfold mI at h
  refine ⟨fun c => ?_, fun c => ⟨fun d => ?_, fun d => ?_⟩⟩
  · rw [if_pos ((nI_eq (b := 5) (by omega) (by decide)).mp c)] at h; exact h
  · have e5 : ¬ kd = 5 := fun e => c (by rw [e]; rfl)
    rw [if_neg e5, if_pos ((nI_eq (b := 6) (by omega) (by decide)).mp d)] at h; exact h
  · have e5 : ¬ kd = 5 := fun e => c (by rw [e]; rfl)
    have e6 : ¬ kd = 6 := fun e => d (by rw [e]; rfl)
    rw [if_neg e5, if_neg e6] at h; exact h
/-- x, y, z of a clue, by their places -/
def itv (x y z : Int32) (i : Nat) : Int32 := if i = 0 then x else if i = 1 then y else z
theorem e_X1_itemAt {x y z : Int32} {i : Nat} (hi : i < 3) {Q : Int32 → Prop} (h : Q (itv x y z i)) : wp_X1_itemAt (nI i) x y z Q := by
  unfold itv at h
  refine ⟨fun c => ?_, fun c => ⟨fun d => ?_, fun d => ?_⟩⟩
  · rw [if_pos ((nI_eq (b := 0) (by omega) (by decide)).mp c)] at h; exact h
  · have e0 : ¬ i = 0 := fun e => c (by rw [e]; rfl)
    rw [if_neg e0, if_pos ((nI_eq (b := 1) (by omega) (by decide)).mp d)] at h; exact h
  · have e0 : ¬ i = 0 := fun e => c (by rw [e]; rfl)
    have e1 : ¬ i = 1 := fun e => d (by rw [e]; rfl)
    rw [if_neg e0, if_neg e1] at h; exact h
/-- low and high behind the first i items -/
def lhF (t : Nat) (it : Nat → Nat) : Nat → Int32 × Int32
  | 0 => (-6, -6)
  | i + 1 => if t ≤ it i / 4 then lhF t it i else if (lhF t it i).1 = -6 then (nI (it i), (lhF t it i).2) else (if nI (it i) < (lhF t it i).1 then nI (it i) else (lhF t it i).1, if (lhF t it i).1 < nI (it i) then nI (it i) else (lhF t it i).1)
theorem e_X1_findLowItems {kd t : Nat} (hk : kd ≤ 6) (ht : t < 4) {x y z : Int32} {it : Nat → Nat} (hit : ∀ i, i < mI kd → itv x y z i = nI (it i) ∧ it i < 16) {Q : Int32 → Int32 → Prop} (h : Q (lhF t it (mI kd)).1 (lhF t it (mI kd)).2) : wp_X1_findLowItems (nI kd) x y z (nI t) (-6) (-6) Q := by
  have hm := mI_le kd
  refine ⟨fun l a b => ∃ i, i ≤ mI kd ∧ l = nI i ∧ a = (lhF t it i).1 ∧ b = (lhF t it i).2, fun l _ _ => 3 - l.toNatClampNeg, ⟨0, Nat.zero_le _, nI_0.symm, rfl, rfl⟩, ?_⟩
  rintro l a b ⟨i, hi, rfl, rfl, rfl⟩
  refine e_X1_items hk ⟨fun d => ?_, fun d => ?_⟩
  · have e : i = mI kd := Nat.le_antisymm hi ((nI_leI (by omega) (by omega)).mp d)
    subst e
    exact h
  · have hlt : i < mI kd := Nat.lt_of_not_le (fun q => d ((nI_leI (by omega) (by omega)).mpr q))
    obtain ⟨h1, h2⟩ := hit i hlt
    refine e_X1_itemAt (by omega) ?_
    rw [h1, show (4 : Int32) = nI 4 from rfl, pk_div (by omega) (by decide) (by decide), nI_1]
    have mu := mu_dec (B := 3) (i := i) (by omega) (by decide)
    refine ⟨fun c => ⟨⟨i + 1, hlt, rfl, ?_, ?_⟩, mu⟩, fun c => ⟨fun f => ⟨⟨i + 1, hlt, rfl, ?_, ?_⟩, mu⟩, fun f => ⟨⟨i + 1, hlt, rfl, ?_, ?_⟩, mu⟩⟩⟩
    · have hc : t ≤ it i / 4 := (nI_leI (by omega) (by omega)).mp c
      show _ = (lhF t it (i + 1)).1
      conv => rhs; unfold lhF; rw [if_pos hc]
    · have hc : t ≤ it i / 4 := (nI_leI (by omega) (by omega)).mp c
      show _ = (lhF t it (i + 1)).2
      conv => rhs; unfold lhF; rw [if_pos hc]
    · have hc : ¬ t ≤ it i / 4 := fun q => c ((nI_leI (by omega) (by omega)).mpr q)
      show _ = (lhF t it (i + 1)).1
      conv => rhs; unfold lhF; rw [if_neg hc, if_pos f]
    · have hc : ¬ t ≤ it i / 4 := fun q => c ((nI_leI (by omega) (by omega)).mpr q)
      show _ = (lhF t it (i + 1)).2
      conv => rhs; unfold lhF; rw [if_neg hc, if_pos f]
    · have hc : ¬ t ≤ it i / 4 := fun q => c ((nI_leI (by omega) (by omega)).mpr q)
      show _ = (lhF t it (i + 1)).1
      conv => rhs; unfold lhF; rw [if_neg hc, if_neg f]
    · have hc : ¬ t ≤ it i / 4 := fun q => c ((nI_leI (by omega) (by omega)).mpr q)
      show _ = (lhF t it (i + 1)).2
      conv => rhs; unfold lhF; rw [if_neg hc, if_neg f]
/-- a clue is met by the columns of its items -/
def metC (kd p cx cy cz : Nat) : Prop := match kd with
  | 0 => cx = cy
  | 1 => ¬ cx = cy
  | 2 => cx < cy
  | 3 => cx + 1 = cy
  | 4 => cx = cy + 1 ∨ cy = cx + 1
  | 5 => cx + 1 = p
  | _ => cx = cy ∨ cx = cz
theorem abs4 : ∀ a, a < 4 → ∀ b, b < 4 → ((if 0 ≤ (nI a - nI b) then (nI a - nI b) else 0 - (nI a - nI b)) = 1 ↔ (a = b + 1 ∨ b = a + 1)) := by decide +kernel
theorem e_X1_isMetBy {kd p cx cy cz : Nat} {pl : Int32} (hk : kd ≤ 6) (hp : kd = 5 → pl = nI p ∧ p < 5) (hx : cx < 4) (hy : cy < 4) (hz : cz < 4) {Q : Int32 → Prop} (h1 : metC kd p cx cy cz → Q 1) (h0 : ¬ metC kd p cx cy cz → Q 0) : wp_X1_isMetBy (nI cx) (nI cy) (nI cz) (nI kd) pl Q := by
  have q : ∀ a b : Nat, a < 10 → b < 10 → (nI a = nI b ↔ a = b) := fun a b ha hb => nI_eq (by omega) (by omega)
  have k : ∀ j : Nat, j < 10 → nI kd = nI j → kd = j := fun j hj e => (q kd j (by omega) hj).mp e
  refine ⟨fun c => ?_, fun c => ?_, fun c => ?_, fun c => ?_, fun c => ?_, fun c => ?_, fun c => ?_⟩
  · have e := k 0 (by decide) c; subst e
    exact ⟨fun d => h1 ((q _ _ (by omega) (by omega)).mp d), fun d => h0 (fun e => d ((q _ _ (by omega) (by omega)).mpr e))⟩
  · have e := k 1 (by decide) c; subst e
    exact ⟨fun d => h0 (fun e => e ((q _ _ (by omega) (by omega)).mp d)), fun d => h1 (fun e => d ((q _ _ (by omega) (by omega)).mpr e))⟩
  · have e := k 2 (by decide) c; subst e
    exact ⟨fun d => h0 (fun e => absurd ((nI_leI (by omega) (by omega)).mp d) (Nat.not_le.mpr e)), fun d => h1 (Nat.lt_of_not_le (fun e => d ((nI_leI (by omega) (by omega)).mpr e)))⟩
  · have e := k 3 (by decide) c; subst e
    rw [nI_1]
    exact ⟨fun d => h1 ((q _ _ (by omega) (by omega)).mp d), fun d => h0 (fun e => d ((q _ _ (by omega) (by omega)).mpr e))⟩
  · have e := k 4 (by decide) c; subst e
    exact ⟨fun d => h1 ((abs4 cx hx cy hy).mp d), fun d => h0 (fun e => d ((abs4 cx hx cy hy).mpr e))⟩
  · have e := k 5 (by decide) c; subst e
    obtain ⟨hp1, hp2⟩ := hp rfl
    subst hp1
    rw [nI_1]
    exact ⟨fun d => h1 ((q _ _ (by omega) (by omega)).mp d), fun d => h0 (fun e => d ((q _ _ (by omega) (by omega)).mpr e))⟩
  · have e : kd = 6 := by
      obtain ⟨c0, c1, c2, c3, c4, c5⟩ := c
      rcases (show kd = 0 ∨ kd = 1 ∨ kd = 2 ∨ kd = 3 ∨ kd = 4 ∨ kd = 5 ∨ kd = 6 by omega) with r | r | r | r | r | r | r
      · subst r; exact absurd rfl c0
      · subst r; exact absurd rfl c1
      · subst r; exact absurd rfl c2
      · subst r; exact absurd rfl c3
      · subst r; exact absurd rfl c4
      · subst r; exact absurd rfl c5
      · exact r
    subst e
    exact ⟨fun d => h1 (Or.inl ((q _ _ (by omega) (by omega)).mp d)), fun d => ⟨fun f => h1 (Or.inr ((q _ _ (by omega) (by omega)).mp f)), fun f => h0 (fun e => e.elim (fun e => d ((q _ _ (by omega) (by omega)).mpr e)) (fun e => f ((q _ _ (by omega) (by omega)).mpr e)))⟩⟩
