/-! ===== mathematics: the reference's sum, the outer loops ===== -/
section SUMO
variable {n : Nat} {zc : Nat → Int32} {KD : Nat → Nat} {IT : Nat → Nat → Nat} {PP' : Nat → Nat} {set : Int32} {zo : Nat → Int32} {what a b : Int32}
variable {Q : Int32 → Int32 → Int32 → Int32 → (Nat → Int32) → Prop} {K25 : Int32 → Int32 → Int32 → (Nat → Int32) → Int32 → Int32 → Int32 → Prop} {K46 : Int32 → Int32 → Int32 → Int32 → (Nat → Int32) → Int32 → Int32 → Int32 → Prop}
set_option maxRecDepth 100000 in
theorem s67 (hn : n ≤ 12) (hMC : MC n zc KD IT PP') (hRO : RO zo) (hask : askOK what a b) {i j M : Nat} (hM : i * 13824 + j * 576 = M) (hi : i < 24) (hj : j < 24) (c0 : LayOK n set KD IT PP' 0 (od4 i j 0)) (c1 : LayOK n set KD IT PP' 1 (od4 i j 0)) {pl : Nat → Int32} (hp : PLs pl (od4 i j 0) 2)
    (hK : ∀ pl', PLs pl' (od4 i j 0) 2 → K46 (nI (cnt (evM n set KD IT PP') (M + 576))) (sumW (evM n set KD IT PP') (wC what a b) (M + 576)) (nI i) (nI j + 1) pl' what a b) :
    wp_X7_sum_67 Q set zc (nI n) zo K25 K46 (nI (cnt (evM n set KD IT PP') M)) (sumW (evM n set KD IT PP') (wC what a b) M) (nI i) (nI j) 0 pl what a b := by
  refine ⟨fun l5 l6 l7 l8 l9 z s f g => l7 = nI i ∧ l8 = nI j ∧ s = what ∧ f = a ∧ g = b ∧ PLs z (od4 i j 0) 2 ∧ ∃ k, k ≤ 24 ∧ l9 = nI k ∧ l5 = nI (cnt (evM n set KD IT PP') (M + 24 * k)) ∧ l6 = sumW (evM n set KD IT PP') (wC what a b) (M + 24 * k), fun _ _ _ _ l9 _ _ _ _ => 24 - l9.toNatClampNeg, ⟨rfl, rfl, rfl, rfl, rfl, hp, 0, Nat.zero_le _, nI_0.symm, rfl, rfl⟩, ?_⟩
  rintro l5 l6 l7 l8 l9 z s f g ⟨rfl, rfl, rfl, rfl, rfl, hz, k, hk, rfl, rfl, rfl⟩
  refine ⟨fun d => ?_, fun d => ?_⟩
  · have e : k = 24 := Nat.le_antisymm hk ((nI_leI (a := 24) (by decide) (by omega)).mp d)
    subst e
    exact hK z hz
  · have hlt : k < 24 := Nat.lt_of_not_le (fun q => d ((nI_leI (a := 24) (by decide) (by omega)).mpr q))
    have mu := mu_dec (B := 24) (i := k) hlt (by decide)
    have oe : ∀ c, c < 3 → va_up (od4 i j 0) 2 k c = od4 i j k c := by
      intro c hc
      rcases (show c = 0 ∨ c = 1 ∨ c = 2 by omega) with e | e | e <;> subst e <;> rfl
    have oe2 : ∀ c, c < 2 → od4 i j 0 c = od4 i j k c := by
      intro c hc
      rcases (show c = 0 ∨ c = 1 by omega) with e | e <;> subst e <;> rfl
    have hod : ∀ c, c < 2 → od4 i j 0 c < 24 := by
      intro c hc
      rcases (show c = 0 ∨ c = 1 by omega) with e | e <;> subst e <;> assumption
    have em : M + 24 * k + 24 = M + 24 * (k + 1) := by omega
    refine e_X7_lay (cat := 2) hn hMC hRO (by decide) hlt hod hz (fun pl' hp' hok => ⟨fun q => absurd q (by decide), fun _ => ?_⟩) (fun pl' hp' hno => ⟨fun _ => ⟨⟨rfl, rfl, rfl, rfl, rfl, hp'.down, k + 1, hlt, nI_1 k, ?_, ?_⟩, ?_⟩, fun q => absurd rfl q⟩)
    · refine s88 (M := M + 24 * k) hn hMC hRO hask (by omega) hi hj hlt ((LayOK_congr hMC (fun c hc => oe2 c (by omega))).mp c0) ((LayOK_congr hMC (fun c hc => oe2 c (by omega))).mp c1) ((LayOK_congr hMC (fun c hc => oe c (by omega))).mp hok) (hp'.congr oe) (fun pl'' hp'' => ⟨⟨rfl, rfl, rfl, rfl, rfl, ?_, k + 1, hlt, nI_1 k, by rw [em], by rw [em]⟩, ?_⟩)
      · exact fun x hx => by
          have := hp'' x (by omega)
          rw [← oe2 (x / 4) (by omega)] at this
          exact this
      · show 24 - (nI k + 1).toNatClampNeg < 24 - (nI k).toNatClampNeg
        rw [nI_1]; exact mu
    all_goals (have sk := skip (p := evM n set KD IT PP') (w := wC s f g) (a := M + 24 * k) 24 (fun x h1 h2 hx => hno (by
      have om := odM_at (i := i) (j := j) (k := k) (l := x - (M + 24 * k)) hj hlt (by omega)
      rw [show i * 13824 + j * 576 + k * 24 + (x - (M + 24 * k)) = x by omega] at om
      refine (LayOK_congr hMC (fun c hc => ?_)).mp ((ev_lay hMC).mp hx 2 (by decide))
      rw [oe c (by omega)]
      rcases (show c = 0 ∨ c = 1 ∨ c = 2 by omega) with e | e | e <;> subst e
      · exact om.1
      · exact om.2.1
      · exact om.2.2.1)))
    · rw [← em, sk.1]
    · rw [← em, sk.2]
    · show 24 - (nI k + 1).toNatClampNeg < 24 - (nI k).toNatClampNeg
      rw [nI_1]; exact mu
end SUMO
