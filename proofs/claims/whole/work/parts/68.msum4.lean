/-! ===== mathematics: the reference's sum, whole ===== -/
section SUMP
variable {n : Nat} {zc : Nat → Int32} {KD : Nat → Nat} {IT : Nat → Nat → Nat} {PP' : Nat → Nat} {set : Int32} {zo : Nat → Int32} {what a b : Int32}
variable {Q : Int32 → Int32 → Int32 → Int32 → (Nat → Int32) → Prop} {K25 : Int32 → Int32 → Int32 → (Nat → Int32) → Int32 → Int32 → Int32 → Prop}
set_option maxRecDepth 100000 in
theorem s46 (hn : n ≤ 12) (hMC : MC n zc KD IT PP') (hRO : RO zo) (hask : askOK what a b) {i M : Nat} (hM : i * 13824 = M) (hi : i < 24) (c0 : LayOK n set KD IT PP' 0 (od4 i 0 0)) {pl : Nat → Int32} (hp : PLs pl (od4 i 0 0) 1)
    (hK : ∀ pl', PLs pl' (od4 i 0 0) 1 → K25 (nI (cnt (evM n set KD IT PP') (M + 13824))) (sumW (evM n set KD IT PP') (wC what a b) (M + 13824)) (nI i + 1) pl' what a b) :
    wp_X7_sum_46 Q set zc (nI n) zo K25 (nI (cnt (evM n set KD IT PP') M)) (sumW (evM n set KD IT PP') (wC what a b) M) (nI i) 0 pl what a b := by
  refine ⟨fun l5 l6 l7 l8 z s f g => l7 = nI i ∧ s = what ∧ f = a ∧ g = b ∧ PLs z (od4 i 0 0) 1 ∧ ∃ j, j ≤ 24 ∧ l8 = nI j ∧ l5 = nI (cnt (evM n set KD IT PP') (M + 576 * j)) ∧ l6 = sumW (evM n set KD IT PP') (wC what a b) (M + 576 * j), fun _ _ _ l8 _ _ _ _ => 24 - l8.toNatClampNeg, ⟨rfl, rfl, rfl, rfl, hp, 0, Nat.zero_le _, nI_0.symm, rfl, rfl⟩, ?_⟩
  rintro l5 l6 l7 l8 z s f g ⟨rfl, rfl, rfl, rfl, hz, j, hj, rfl, rfl, rfl⟩
  refine ⟨fun d => ?_, fun d => ?_⟩
  · have e : j = 24 := Nat.le_antisymm hj ((nI_leI (a := 24) (by decide) (by omega)).mp d)
    subst e
    exact hK z hz
  · have hlt : j < 24 := Nat.lt_of_not_le (fun q => d ((nI_leI (a := 24) (by decide) (by omega)).mpr q))
    have mu := mu_dec (B := 24) (i := j) hlt (by decide)
    have oe : ∀ c, c < 2 → va_up (od4 i 0 0) 1 j c = od4 i j 0 c := by
      intro c hc
      rcases (show c = 0 ∨ c = 1 by omega) with e | e <;> subst e <;> rfl
    have oe2 : ∀ c, c < 1 → od4 i 0 0 c = od4 i j 0 c := by
      intro c hc
      have e : c = 0 := by omega
      subst e; rfl
    have hod : ∀ c, c < 1 → od4 i 0 0 c < 24 := by
      intro c hc
      have e : c = 0 := by omega
      subst e; exact hi
    have em : M + 576 * j + 576 = M + 576 * (j + 1) := by omega
    refine e_X7_lay (cat := 1) hn hMC hRO (by decide) hlt hod hz (fun pl' hp' hok => ⟨fun q => absurd q (by decide), fun _ => ?_⟩) (fun pl' hp' hno => ⟨fun _ => ⟨⟨rfl, rfl, rfl, rfl, hp'.down, j + 1, hlt, nI_1 j, ?_, ?_⟩, ?_⟩, fun q => absurd rfl q⟩)
    · refine s67 (M := M + 576 * j) hn hMC hRO hask (by omega) hi hlt ((LayOK_congr hMC (fun c hc => oe2 c (by omega))).mp c0) ((LayOK_congr hMC (fun c hc => oe c (by omega))).mp hok) (hp'.congr oe) (fun pl'' hp'' => ⟨⟨rfl, rfl, rfl, rfl, ?_, j + 1, hlt, nI_1 j, by rw [em], by rw [em]⟩, ?_⟩)
      · exact fun x hx => by
          have := hp'' x (by omega)
          rw [← oe2 (x / 4) (by omega)] at this
          exact this
      · show 24 - (nI j + 1).toNatClampNeg < 24 - (nI j).toNatClampNeg
        rw [nI_1]; exact mu
    all_goals (have sk := skip (p := evM n set KD IT PP') (w := wC s f g) (a := M + 576 * j) 576 (fun x h1 h2 hx => hno (by
      have om := odM_at (i := i) (j := j) (k := (x - (M + 576 * j)) / 24) (l := (x - (M + 576 * j)) % 24) hlt (by omega) (by omega)
      rw [show i * 13824 + j * 576 + (x - (M + 576 * j)) / 24 * 24 + (x - (M + 576 * j)) % 24 = x by omega] at om
      refine (LayOK_congr hMC (fun c hc => ?_)).mp ((ev_lay hMC).mp hx 1 (by decide))
      rw [oe c (by omega)]
      rcases (show c = 0 ∨ c = 1 by omega) with e | e <;> subst e
      · exact om.1
      · exact om.2.1)))
    · rw [← em, sk.1]
    · rw [← em, sk.2]
    · show 24 - (nI j + 1).toNatClampNeg < 24 - (nI j).toNatClampNeg
      rw [nI_1]; exact mu
set_option maxRecDepth 100000 in
theorem e_X7_sum (hn : n ≤ 12) (hMC : MC n zc KD IT PP') (hRO : RO zo) (hask : askOK what a b) {pl : Nat → Int32} (h : ∀ pl', Q (sumW (evM n set KD IT PP') (wC what a b) 331776) what a b pl') : wp_X7_sum set what a b zc (nI n) zo pl Q := by
  refine ⟨fun l5 l6 l7 z s f g => s = what ∧ f = a ∧ g = b ∧ ∃ i, i ≤ 24 ∧ l7 = nI i ∧ l5 = nI (cnt (evM n set KD IT PP') (13824 * i)) ∧ l6 = sumW (evM n set KD IT PP') (wC what a b) (13824 * i), fun _ _ l7 _ _ _ _ => 24 - l7.toNatClampNeg, ⟨rfl, rfl, rfl, 0, Nat.zero_le _, nI_0.symm, nI_0.symm, rfl⟩, ?_⟩
  rintro l5 l6 l7 z s f g ⟨rfl, rfl, rfl, i, hi, rfl, rfl, rfl⟩
  refine ⟨fun d => ?_, fun d => ?_⟩
  · have e : i = 24 := Nat.le_antisymm hi ((nI_leI (a := 24) (by decide) (by omega)).mp d)
    subst e
    exact h z
  · have hlt : i < 24 := Nat.lt_of_not_le (fun q => d ((nI_leI (a := 24) (by decide) (by omega)).mpr q))
    have mu := mu_dec (B := 24) (i := i) hlt (by decide)
    have oe : ∀ c, c < 1 → va_up (od4 0 0 0) 0 i c = od4 i 0 0 c := by
      intro c hc
      have e : c = 0 := by omega
      subst e; rfl
    have em : 13824 * i + 13824 = 13824 * (i + 1) := by omega
    refine e_X7_lay (cat := 0) (od := od4 0 0 0) hn hMC hRO (by decide) hlt (fun c hc => absurd hc (Nat.not_lt_zero _)) (fun x hx => absurd hx (by omega)) (fun pl' hp' hok => ⟨fun q => absurd q (by decide), fun _ => ?_⟩) (fun pl' hp' hno => ⟨fun _ => ⟨⟨rfl, rfl, rfl, i + 1, hlt, nI_1 i, ?_, ?_⟩, ?_⟩, fun q => absurd rfl q⟩)
    · refine s46 (M := 13824 * i) hn hMC hRO hask (by omega) hlt ((LayOK_congr hMC (fun c hc => oe c (by omega))).mp hok) (hp'.congr oe) (fun pl'' hp'' => ⟨⟨rfl, rfl, rfl, i + 1, hlt, nI_1 i, by rw [em], by rw [em]⟩, ?_⟩)
      show 24 - (nI i + 1).toNatClampNeg < 24 - (nI i).toNatClampNeg
      rw [nI_1]; exact mu
    all_goals (have sk := skip (p := evM n set KD IT PP') (w := wC s f g) (a := 13824 * i) 13824 (fun x h1 h2 hx => hno (by
      refine (LayOK_congr hMC (fun c hc => ?_)).mp ((ev_lay hMC).mp hx 0 (by decide))
      have e : c = 0 := by omega
      subst e
      show x / 13824 = i
      omega)))
    · rw [← em, sk.1]
    · rw [← em, sk.2]
    · show 24 - (nI i + 1).toNatClampNeg < 24 - (nI i).toNatClampNeg
      rw [nI_1]; exact mu
end SUMP
