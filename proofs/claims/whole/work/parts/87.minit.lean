/-! ===== mathematics: the beginning ===== -/
/-- a number of four digits that are all unlike -/
def isPm (c : Nat) : Bool := !decide (c / 64 = c / 16 % 4) && !decide (c / 64 = c / 4 % 4) && !decide (c / 64 = c % 4) && !decide (c / 16 % 4 = c / 4 % 4) && !decide (c / 16 % 4 = c % 4) && !decide (c / 4 % 4 = c % 4)
def nPm : Nat → Nat
  | 0 => 0
  | c + 1 => if isPm c = true then nPm c + 1 else nPm c
theorem nPm_t {c : Nat} (h : isPm c = true) : nPm (c + 1) = nPm c + 1 := by
  show (if isPm c = true then _ else _) = _
  rw [if_pos h]
theorem nPm_f {c : Nat} (h : ¬ isPm c = true) : nPm (c + 1) = nPm c := by
  show (if isPm c = true then _ else _) = _
  rw [if_neg h]
set_option maxRecDepth 20000 in
theorem nPm_ok : ∀ c, c < 256 → isPm c = true → (nPm c < 24 ∧ colN (nPm c) 0 = c / 64 ∧ colN (nPm c) 1 = c / 16 % 4 ∧ colN (nPm c) 2 = c / 4 % 4 ∧ colN (nPm c) 3 = c % 4) := by decide +kernel
set_option maxRecDepth 20000 in
theorem nPm_24 : nPm 256 = 24 := by decide +kernel
set_option maxRecDepth 20000 in
theorem cod_I : ∀ c, c < 256 → (nI c / 64 = nI (c / 64) ∧ nI c / 16 - nI c / 16 / 4 * 4 = nI (c / 16 % 4) ∧ nI c / 4 - nI c / 4 / 4 * 4 = nI (c / 4 % 4) ∧ nI c - nI c / 4 * 4 = nI (c % 4)) := by decide +kernel
set_option maxHeartbeats 1000000 in
theorem e_X7_init {Q : Nat → Nat → Nat → Nat → Nat → Nat → Nat → Nat → Int32 → (Nat → Int32) → (Nat → Int32) → (Nat → Int32) → (Nat → Int32) → (Nat → Int32) → (Nat → Int32) → (Nat → Int32) → (Nat → Int32) → Prop} (h : ∀ q1 q2 q3 q4 q5 q6 q7 q8 zo, RO zo → Q q1 q2 q3 q4 q5 q6 q7 q8 (-6) (fun _ => 0) (fun _ => 0) zo (fun _ => 0) (fun _ => 0) (fun _ => 0) (fun _ => 0) (fun _ => 0)) : wp_X7_init Q := by
  intro q1 q2 q3 q4 q5 q6 q7 q8
  refine ⟨fun l1 l2 f _ _ _ _ _ _ _ _ => ∃ c, c ≤ 256 ∧ l2 = nI c ∧ l1 = nI (nPm c) ∧ ∀ o, o < nPm c → ∀ i, i < 4 → f (4 * o + i) = nI (colN o i + 1), fun _ l2 _ _ _ _ _ _ _ _ _ => 256 - l2.toNatClampNeg, ⟨0, Nat.zero_le _, nI_0.symm, nI_0.symm, fun o ho => absurd ho (Nat.not_lt_zero _)⟩, ?_⟩
  rintro l1 l2 f q1 q2 q3 q4 q5 q6 q7 q8 ⟨c, hc, rfl, rfl, hf⟩
  refine ⟨fun d => ?_, fun d => ?_⟩
  · have e : c = 256 := Nat.le_antisymm hc ((nI_leI (a := 256) (by decide) (by omega)).mp d)
    subst e
    rw [nPm_24] at hf
    exact h _ _ _ _ _ _ _ _ f hf
  · have hlt : c < 256 := Nat.lt_of_not_le (fun q => d ((nI_leI (a := 256) (by decide) (by omega)).mpr q))
    have mu : 256 - (nI c + 1).toNatClampNeg < 256 - (nI c).toNatClampNeg := by
      rw [nI_1]; exact mu_dec (B := 256) (i := c) hlt (by decide)
    obtain ⟨c0, c1, c2, c3⟩ := cod_I c hlt
    rintro _ rfl _ rfl _ rfl _ rfl
    rw [c0, c1, c2, c3]
    have a0 : c / 64 < 4 := by omega
    have a1 : c / 16 % 4 < 4 := by omega
    have a2 : c / 4 % 4 < 4 := by omega
    have a3 : c % 4 < 4 := by omega
    have q : ∀ a b : Nat, a < 4 → b < 4 → (nI a = nI b ↔ a = b) := fun a b ha hb => nI_eq (by omega) (by omega)
    have nx : ¬ isPm c = true → ∃ c', c' ≤ 256 ∧ nI c + 1 = nI c' ∧ nI (nPm c) = nI (nPm c') ∧ ∀ o, o < nPm c' → ∀ i, i < 4 → f (4 * o + i) = nI (colN o i + 1) := fun hn => ⟨c + 1, hlt, nI_1 c, by rw [nPm_f hn], by rw [nPm_f hn]; exact hf⟩
    rw [q _ _ a0 a1, q _ _ a0 a2, q _ _ a0 a3, q _ _ a1 a2, q _ _ a1 a3, q _ _ a2 a3]
    refine ⟨fun e => ⟨nx (by unfold isPm; rw [decide_eq_true e]; simp), mu⟩, fun e1 => ⟨fun e => ⟨nx (by unfold isPm; rw [decide_eq_true e]; simp), mu⟩, fun e2 => ⟨fun e => ⟨nx (by unfold isPm; rw [decide_eq_true e]; simp), mu⟩, fun e3 => ⟨fun e => ⟨nx (by unfold isPm; rw [decide_eq_true e]; simp), mu⟩, fun e4 => ⟨fun e => ⟨nx (by unfold isPm; rw [decide_eq_true e]; simp), mu⟩, fun e5 => ⟨fun e => ⟨nx (by unfold isPm; rw [decide_eq_true e]; simp), mu⟩, fun e6 => ?_⟩⟩⟩⟩⟩⟩
    have hp : isPm c = true := by
      unfold isPm
      rw [decide_eq_false e1, decide_eq_false e2, decide_eq_false e3, decide_eq_false e4, decide_eq_false e5, decide_eq_false e6]
      rfl
    obtain ⟨p0, p1, p2, p3, p4⟩ := nPm_ok c hlt hp
    rw [show (4 : Int32) * nI (nPm c) = nI (4 * nPm c) from pk_mul 4 _, nI_1 (4 * nPm c), show nI (4 * nPm c) + 2 = nI (4 * nPm c + 2) from nI_add _ 2, show nI (4 * nPm c) + 3 = nI (4 * nPm c + 3) from nI_add _ 3, nI_clamp (n := 4 * nPm c) (by omega), nI_clamp (n := 4 * nPm c + 1) (by omega), nI_clamp (n := 4 * nPm c + 2) (by omega), nI_clamp (n := 4 * nPm c + 3) (by omega), nI_1 (c / 64), nI_1 (c / 16 % 4), nI_1 (c / 4 % 4), nI_1 (c % 4)]
    refine ⟨vp_in_nI (by omega) (by decide), vp_in_nI (by omega) (by decide), vp_in_nI (by omega) (by decide), vp_in_nI (by omega) (by decide), ⟨c + 1, hlt, nI_1 c, by rw [nPm_t hp, nI_1], fun o ho i hi => ?_⟩, mu⟩
    rw [nPm_t hp] at ho
    obtain ⟨u0, u1, u2, u3, u4⟩ := upd4 (f := f) (t := nPm c) (a := nI (c / 64 + 1)) (b := nI (c / 16 % 4 + 1)) (c := nI (c / 4 % 4 + 1)) (d := nI (c % 4 + 1))
    by_cases e : o = nPm c
    · subst e
      rcases (show i = 0 ∨ i = 1 ∨ i = 2 ∨ i = 3 by omega) with z | z | z | z <;> subst z
      · rw [p1]; exact u1
      · rw [p2]; exact u2
      · rw [p3]; exact u3
      · rw [p4]; exact u4
    · rw [u0 _ (by omega)]
      exact hf o (by omega) i hi
