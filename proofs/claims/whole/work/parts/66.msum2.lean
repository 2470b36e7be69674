/-! ===== mathematics: the reference's sum, loop by loop ===== -/
def od4 (i j k : Nat) (c : Nat) : Nat := if c = 0 then i else if c = 1 then j else k
theorem odM_at {i j k l : Nat} (hj : j < 24) (hk : k < 24) (hl : l < 24) : odM (i * 13824 + j * 576 + k * 24 + l) 0 = i ∧ odM (i * 13824 + j * 576 + k * 24 + l) 1 = j ∧ odM (i * 13824 + j * 576 + k * 24 + l) 2 = k ∧ odM (i * 13824 + j * 576 + k * 24 + l) 3 = l := by
  refine ⟨?_, ?_, ?_, ?_⟩
  · show (i * 13824 + j * 576 + k * 24 + l) / 13824 = i
    omega
  · show (i * 13824 + j * 576 + k * 24 + l) / 576 % 24 = j
    omega
  · show (i * 13824 + j * 576 + k * 24 + l) / 24 % 24 = k
    omega
  · show (i * 13824 + j * 576 + k * 24 + l) % 24 = l
    omega
theorem PLs.congr {pl : Nat → Int32} {od od' : Nat → Nat} {cat : Nat} (h : PLs pl od cat) (e : ∀ c, c < cat → od c = od' c) : PLs pl od' cat := fun i hi => by rw [← e (i / 4) (by omega)]; exact h i hi
theorem PLs.down {pl : Nat → Int32} {od : Nat → Nat} {cat o : Nat} (h : PLs pl (va_up od cat o) (cat + 1)) : PLs pl od cat := fun i hi => by
  have := h i (by omega)
  rw [va_up_ne _ _ (show i / 4 ≠ cat by omega)] at this
  exact this
section SUML
variable {n : Nat} {zc : Nat → Int32} {KD : Nat → Nat} {IT : Nat → Nat → Nat} {PP' : Nat → Nat} {set : Int32} {zo : Nat → Int32} {what a b : Int32}
variable {Q : Int32 → Int32 → Int32 → Int32 → (Nat → Int32) → Prop} {K25 : Int32 → Int32 → Int32 → (Nat → Int32) → Int32 → Int32 → Int32 → Prop} {K46 : Int32 → Int32 → Int32 → Int32 → (Nat → Int32) → Int32 → Int32 → Int32 → Prop} {K67 : Int32 → Int32 → Int32 → Int32 → Int32 → (Nat → Int32) → Int32 → Int32 → Int32 → Prop}
theorem s88 (hn : n ≤ 12) (hMC : MC n zc KD IT PP') (hRO : RO zo) (hask : askOK what a b) {i j k M : Nat} (hM : i * 13824 + j * 576 + k * 24 = M) (hi : i < 24) (hj : j < 24) (hk : k < 24) (c0 : LayOK n set KD IT PP' 0 (od4 i j k)) (c1 : LayOK n set KD IT PP' 1 (od4 i j k)) (c2 : LayOK n set KD IT PP' 2 (od4 i j k)) {pl : Nat → Int32} (hp : PLs pl (od4 i j k) 3)
    (hK : ∀ pl', PLs pl' (od4 i j k) 3 → K67 (nI (cnt (evM n set KD IT PP') (M + 24))) (sumW (evM n set KD IT PP') (wC what a b) (M + 24)) (nI i) (nI j) (nI k + 1) pl' what a b) :
    wp_X7_sum_88 Q set zc (nI n) zo K25 K46 K67 (nI (cnt (evM n set KD IT PP') M)) (sumW (evM n set KD IT PP') (wC what a b) M) (nI i) (nI j) (nI k) 0 pl what a b := by
  refine ⟨fun l5 l6 l7 l8 l9 l10 z s f g => l7 = nI i ∧ l8 = nI j ∧ l9 = nI k ∧ s = what ∧ f = a ∧ g = b ∧ PLs z (od4 i j k) 3 ∧ ∃ l, l ≤ 24 ∧ l10 = nI l ∧ l5 = nI (cnt (evM n set KD IT PP') (M + l)) ∧ l6 = sumW (evM n set KD IT PP') (wC what a b) (M + l), fun _ _ _ _ _ l10 _ _ _ _ => 24 - l10.toNatClampNeg, ⟨rfl, rfl, rfl, rfl, rfl, rfl, hp, 0, Nat.zero_le _, nI_0.symm, rfl, rfl⟩, ?_⟩
  rintro l5 l6 l7 l8 l9 l10 z s f g ⟨rfl, rfl, rfl, rfl, rfl, rfl, hz, l, hl, rfl, rfl, rfl⟩
  refine ⟨fun d => ?_, fun d => ?_⟩
  · have e : l = 24 := Nat.le_antisymm hl ((nI_leI (a := 24) (by decide) (by omega)).mp d)
    subst e
    exact hK z hz
  · have hlt : l < 24 := Nat.lt_of_not_le (fun q => d ((nI_leI (a := 24) (by decide) (by omega)).mpr q))
    have mu := mu_dec (B := 24) (i := l) hlt (by decide)
    have om := odM_at (i := i) hj hk hlt
    rw [hM] at om
    have oe : ∀ c, c < 4 → va_up (od4 i j k) 3 l c = odM (M + l) c := by
      intro c hc
      rcases (show c = 0 ∨ c = 1 ∨ c = 2 ∨ c = 3 by omega) with e | e | e | e <;> subst e
      · exact om.1.symm
      · exact om.2.1.symm
      · exact om.2.2.1.symm
      · exact om.2.2.2.symm
    have oe3 : ∀ c, c < 3 → od4 i j k c = odM (M + l) c := fun c hc => by
      rw [← oe c (by omega), va_up_ne _ _ (by omega)]
    have hev : evM n set KD IT PP' (M + l) ↔ LayOK n set KD IT PP' 3 (va_up (od4 i j k) 3 l) := by
      rw [ev_lay hMC]
      constructor
      · intro q
        exact (LayOK_congr hMC (fun c hc => oe c (by omega))).mpr (q 3 (by decide))
      · intro q cat hcat
        rcases (show cat = 0 ∨ cat = 1 ∨ cat = 2 ∨ cat = 3 by omega) with e | e | e | e <;> subst e
        · exact (LayOK_congr hMC (fun c hc => oe3 c (by omega))).mp c0
        · exact (LayOK_congr hMC (fun c hc => oe3 c (by omega))).mp c1
        · exact (LayOK_congr hMC (fun c hc => oe3 c (by omega))).mp c2
        · exact (LayOK_congr hMC (fun c hc => oe c (by omega))).mp q
    have hod : ∀ c, c < 3 → od4 i j k c < 24 := by
      intro c hc
      rcases (show c = 0 ∨ c = 1 ∨ c = 2 by omega) with e | e | e <;> subst e <;> assumption
    rw [nI_1 l]
    refine e_X7_lay (cat := 3) hn hMC hRO (by decide) hlt hod hz (fun pl' hp' hok => ⟨fun q => absurd q (by decide), fun _ => ?_⟩) (fun pl' hp' hno => ⟨fun _ => ⟨⟨rfl, rfl, rfl, rfl, rfl, rfl, hp'.down, l + 1, hlt, rfl, ?_, ?_⟩, mu⟩, fun q => absurd rfl q⟩)
    · refine e_X7_counts hask (hp'.congr oe) ?_
      rintro w rfl
      refine ⟨⟨rfl, rfl, rfl, rfl, rfl, rfl, hp'.down, l + 1, hlt, rfl, ?_, ?_⟩, mu⟩
      · rw [nI_1, ← Nat.add_assoc, cnt_t (hev.mpr hok)]
      · rw [← Nat.add_assoc, sumW_t (hev.mpr hok)]
    · rw [← Nat.add_assoc, cnt_f (fun q => hno (hev.mp q))]
    · rw [← Nat.add_assoc, sumW_f (fun q => hno (hev.mp q))]
end SUML
