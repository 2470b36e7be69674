/-! ===== mathematics: the reference's lay ===== -/
theorem e_X7_of {k j : Nat} (hk : k < 12) (hj : j < 5) {zc : Nat → Int32} {Q : Int32 → Prop} (h : Q (zc (5 * k + j))) : wp_X7_of (nI k) (nI j) zc Q := by
  unfold wp_X7_of
  rw [show (5 : Int32) = nI 5 from rfl, pk_mul, nI_add, nI_clamp (by omega)]
  exact ⟨vp_in_nI (by omega) (by decide), h⟩
theorem mx_le {a b : Nat} (ha : a < 16) (hb : b < 16) : (nI b ≤ nI a ↔ b ≤ a) := nI_leI (by omega) (by omega)
theorem neg6_le : ∀ a, a < 16 → (-6 : Int32) ≤ nI a := by decide +kernel
theorem e_X7_lastOf {kd : Nat} {it : Nat → Nat} {p k : Nat} {zc : Nat → Int32} (hk : k < 12) (hw : WFn kd it p (fun j => zc (5 * k + j))) {Q : Int32 → Prop} (h : ∀ t, t < 4 → (∀ i, i < mI kd → it i / 4 ≤ t) → (∃ i, i < mI kd ∧ it i / 4 = t) → Q (nI t)) : wp_X7_lastOf (nI k) zc Q := by
  obtain ⟨h1, h2, h3, h4, h5, h6, h7⟩ := hw
  have f1 : zc (5 * k + 1) = if 0 < mI kd then nI (it 0) else -6 := h5 0 (by decide)
  have f2 : zc (5 * k + 2) = if 1 < mI kd then nI (it 1) else -6 := h5 1 (by decide)
  have f3 : zc (5 * k + 3) = if 2 < mI kd then nI (it 2) else -6 := h5 2 (by decide)
  have hm := mI_le kd
  rw [if_pos (by omega)] at f1
  have a0 := h2 0 (by omega)
  have dv : ∀ a, a < 16 → nI a / 4 = nI (a / 4) := fun a ha => by rw [show (4 : Int32) = nI 4 from rfl, pk_div (by omega) (by decide) (by decide)]
  -- the end: s0 is the greatest so far
  have fin : ∀ s, s < 16 → (∀ i, i < 2 → i < mI kd → it i ≤ s) → (∃ i, i < mI kd ∧ it i = s) → wp_X7_lastOf_27 Q (nI k) zc (nI s) := by
    intro s hs hle hex
    refine e_X7_of (j := 3) hk (by decide) ?_
    rw [f3]
    by_cases q : 2 < mI kd
    · have a2 := h2 2 q
      rw [if_pos q]
      refine ⟨fun c => ?_, fun c => e_X7_of (j := 3) hk (by decide) ?_⟩
      · have c' := (mx_le hs a2).mp c
        rw [dv _ hs]
        obtain ⟨i, hi, e⟩ := hex
        refine h (s / 4) (by omega) (fun j hj => ?_) ⟨i, hi, by rw [e]⟩
        by_cases e2 : j = 2
        · subst e2; omega
        · have := hle j (by omega) hj; omega
      · have c' : ¬ it 2 ≤ s := fun z => c ((mx_le hs a2).mpr z)
        rw [f3, if_pos q, dv _ a2]
        refine h (it 2 / 4) (by omega) (fun j hj => ?_) ⟨2, q, rfl⟩
        by_cases e2 : j = 2
        · subst e2; omega
        · have := hle j (by omega) hj; omega
    · rw [if_neg q]
      refine ⟨fun _ => ?_, fun c => absurd (neg6_le s hs) c⟩
      rw [dv _ hs]
      obtain ⟨i, hi, e⟩ := hex
      refine h (s / 4) (by omega) (fun j hj => ?_) ⟨i, hi, by rw [e]⟩
      have := hle j (by omega) hj
      omega
  refine e_X7_of (j := 1) hk (by decide) (e_X7_of (j := 2) hk (by decide) ?_)
  rw [f1, f2]
  by_cases q : 1 < mI kd
  · have a1 := h2 1 q
    rw [if_pos q]
    refine ⟨fun c => fin _ a0 (fun i hi _ => ?_) ⟨0, by omega, rfl⟩, fun c => e_X7_of (j := 2) hk (by decide) ?_⟩
    · have c' := (mx_le a0 a1).mp c
      rcases (show i = 0 ∨ i = 1 by omega) with e | e <;> subst e <;> omega
    · have c' : ¬ it 1 ≤ it 0 := fun z => c ((mx_le a0 a1).mpr z)
      rw [f2, if_pos q]
      refine fin _ a1 (fun i hi _ => ?_) ⟨1, q, rfl⟩
      rcases (show i = 0 ∨ i = 1 by omega) with e | e <;> subst e <;> omega
  · rw [if_neg q]
    refine ⟨fun _ => fin _ a0 (fun i hi hi2 => ?_) ⟨0, by omega, rfl⟩, fun c => absurd (neg6_le _ a0) c⟩
    have e : i = 0 := by omega
    subst e; omega
