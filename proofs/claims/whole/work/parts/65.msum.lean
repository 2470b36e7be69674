/-! ===== mathematics: the reference's sum over all grids ===== -/
/-- how many x below m have p -/
noncomputable def cnt (p : Nat → Prop) : Nat → Nat
  | 0 => 0
  | m + 1 => @ite Nat (p m) (Classical.propDecidable (p m)) (cnt p m + 1) (cnt p m)
/-- what is counted in them, added; w: by how many came before, and by the number itself -/
noncomputable def sumW (p : Nat → Prop) (w : Nat → Nat → Int32) : Nat → Int32
  | 0 => 0
  | m + 1 => @ite Int32 (p m) (Classical.propDecidable (p m)) (sumW p w m + w (cnt p m) m) (sumW p w m)
theorem cnt_t {p : Nat → Prop} {m : Nat} (h : p m) : cnt p (m + 1) = cnt p m + 1 := by
  show @ite Nat (p m) (Classical.propDecidable (p m)) _ _ = _
  rw [if_pos h]
theorem cnt_f {p : Nat → Prop} {m : Nat} (h : ¬ p m) : cnt p (m + 1) = cnt p m := by
  show @ite Nat (p m) (Classical.propDecidable (p m)) _ _ = _
  rw [if_neg h]
theorem sumW_t {p : Nat → Prop} {w : Nat → Nat → Int32} {m : Nat} (h : p m) : sumW p w (m + 1) = sumW p w m + w (cnt p m) m := by
  show @ite Int32 (p m) (Classical.propDecidable (p m)) _ _ = _
  rw [if_pos h]
theorem sumW_f {p : Nat → Prop} {w : Nat → Nat → Int32} {m : Nat} (h : ¬ p m) : sumW p w (m + 1) = sumW p w m := by
  show @ite Int32 (p m) (Classical.propDecidable (p m)) _ _ = _
  rw [if_neg h]
theorem cnt_le {p : Nat → Prop} : ∀ m, cnt p m ≤ m
  | 0 => Nat.le_refl _
  | m + 1 => by
    have ih := cnt_le (p := p) m
    by_cases h : p m
    · rw [cnt_t h]; omega
    · rw [cnt_f h]; omega
/-- nothing in a block: it may be passed over -/
theorem skip {p : Nat → Prop} {w : Nat → Nat → Int32} {a : Nat} : ∀ d, (∀ x, a ≤ x → x < a + d → ¬ p x) → cnt p (a + d) = cnt p a ∧ sumW p w (a + d) = sumW p w a
  | 0, _ => ⟨rfl, rfl⟩
  | d + 1, h => by
    have ih := skip (w := w) d (fun x h1 h2 => h x h1 (by omega))
    have hn := h (a + d) (by omega) (by omega)
    rw [← Nat.add_assoc, cnt_f hn, sumW_f hn]
    exact ih
/-- the orders of the m-th grid -/
def odM (m c : Nat) : Nat := if c = 0 then m / 13824 else if c = 1 then m / 576 % 24 else if c = 2 then m / 24 % 24 else m % 24
theorem odM_ok {m : Nat} (h : m < 331776) : OrdOK (odM m) := by
  intro c hc
  unfold odM
  split
  · omega
  · split
    · omega
    · split <;> omega
/-- the grid meets all clues of the set -/
def evM (n : Nat) (set : Int32) (KD : Nat → Nat) (IT : Nat → Nat → Nat) (PP' : Nat → Nat) (m : Nat) : Prop := ∀ k, k < n → bt set k = true → Mof (KD k) (IT k) (PP' k) (odM m)
theorem Mof_congr {kd : Nat} {it : Nat → Nat} {p : Nat} (hk : kd ≤ 6) {t : Nat} (ht : ∀ i, i < mI kd → it i / 4 ≤ t) {od od' : Nat → Nat} (h : ∀ c, c ≤ t → od c = od' c) : Mof kd it p od ↔ Mof kd it p od' :=
  metC_congr hk (a := cit it od) (b := cit it od') (fun i hi => by unfold cit; rw [h _ (ht i hi)])
theorem WFn_top {kd : Nat} {it : Nat → Nat} {p : Nat} {f : Nat → Int32} (h : WFn kd it p f) : ∃ t, t < 4 ∧ TopOf kd it t := by
  obtain ⟨t, ht, -, h1, h2⟩ := of_top h
  exact ⟨t, ht, h1, h2⟩
section SUM
variable {n : Nat} {zc : Nat → Int32} {KD : Nat → Nat} {IT : Nat → Nat → Nat} {PP' : Nat → Nat} {set : Int32}
theorem LayOK_congr (hMC : MC n zc KD IT PP') {cat : Nat} {od od' : Nat → Nat} (h : ∀ c, c ≤ cat → od c = od' c) : LayOK n set KD IT PP' cat od ↔ LayOK n set KD IT PP' cat od' := by
  constructor
  · intro a k hk hb ht
    exact (Mof_congr (hMC k hk).1 ht.1 h).mp (a k hk hb ht)
  · intro a k hk hb ht
    exact (Mof_congr (hMC k hk).1 ht.1 h).mpr (a k hk hb ht)
theorem ev_lay (hMC : MC n zc KD IT PP') {m : Nat} : evM n set KD IT PP' m ↔ ∀ cat, cat < 4 → LayOK n set KD IT PP' cat (odM m) := by
  constructor
  · intro a cat _ k hk hb _
    exact a k hk hb
  · intro a k hk hb
    obtain ⟨t, ht, htop⟩ := WFn_top (hMC k hk)
    exact a t ht k hk hb htop
end SUM
/-- what is counted in a grid: in the reference's counts() -/
def wC (what a b : Int32) (c m : Nat) : Int32 :=
  if what = 1 then (if nI c = a then nI (colN (odM m (b.toNatClampNeg / 4)) (b.toNatClampNeg % 4) + 1) else 0)
  else if what = 2 then (if nI (colN (odM m (a.toNatClampNeg / 4)) (a.toNatClampNeg % 4) + 1) = b then 1 else 0)
  else if what = 3 then (if nI (colN (odM m (a.toNatClampNeg / 4)) (a.toNatClampNeg % 4) + 1) = nI (colN (odM m (b.toNatClampNeg / 4)) (b.toNatClampNeg % 4) + 1) then 1 else 0) else 1
/-- the numbers that sum may be asked with -/
def askOK (what a b : Int32) : Prop := (what = 1 → vp_in b 16) ∧ (what = 2 → vp_in a 16) ∧ (what = 3 → vp_in a 16 ∧ vp_in b 16)
theorem e_X7_counts {what a b : Int32} (hask : askOK what a b) {pl : Nat → Int32} {m c : Nat} (hp : PLs pl (odM m) 4) {Q : Int32 → Prop} (h : Q (wC what a b c m)) : wp_X7_counts (nI c) pl what a b Q := by
  have at_ : ∀ x : Int32, vp_in x 16 → pl x.toNatClampNeg = nI (colN (odM m (x.toNatClampNeg / 4)) (x.toNatClampNeg % 4) + 1) := by
    intro x hx
    obtain ⟨j, hj, rfl⟩ := vp_in_of hx (by decide)
    rw [nI_clamp (by omega)]
    exact hp j (by omega)
  unfold wC at h
  refine ⟨fun e => ?_, fun e => ?_, fun e => ?_, fun e => ?_⟩
  · rw [if_pos e] at h
    have hb := hask.1 e
    refine ⟨fun d => ?_, fun d => ?_⟩
    · rw [if_pos d, ← at_ b hb] at h
      refine ⟨fun _ => ⟨hb, h⟩, fun z => ?_⟩
      obtain ⟨j, hj, rfl⟩ := vp_in_of hb (by decide)
      exact absurd (nI_pos' (by omega)) z
    · rw [if_neg d] at h; exact h
  · rw [if_neg (by rw [e]; decide), if_pos e] at h
    have ha := hask.2.1 e
    refine ⟨ha, fun d => ?_, fun d => ?_⟩
    · rw [at_ a ha] at d; rw [if_pos d] at h; exact h
    · rw [at_ a ha] at d; rw [if_neg d] at h; exact h
  · rw [if_neg (by rw [e]; decide), if_neg (by rw [e]; decide), if_pos e] at h
    obtain ⟨ha, hb⟩ := hask.2.2 e
    refine ⟨ha, hb, fun d => ?_, fun d => ?_⟩
    · rw [at_ a ha, at_ b hb] at d; rw [if_pos d] at h; exact h
    · rw [at_ a ha, at_ b hb] at d; rw [if_neg d] at h; exact h
  · obtain ⟨e1, e2, e3⟩ := e
    rw [if_neg e1, if_neg e2, if_neg e3] at h
    exact h
