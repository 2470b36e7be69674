/-! ===== mathematics: Answers ===== -/
theorem WFn.congr {kd : Nat} {it : Nat → Nat} {p : Nat} {f g : Nat → Int32} (h : WFn kd it p f) (e : ∀ j, j < 5 → g j = f j) : WFn kd it p g := by
  obtain ⟨h1, h2, h3, h4, h5, h6, h7⟩ := h
  exact ⟨h1, h2, h3, (e 0 (by decide)).trans h4, fun i hi => (e (1 + i) (by omega)).trans (h5 i hi), fun k => ⟨(h6 k).1, (h6 k).2.1, (e 4 (by decide)).trans (h6 k).2.2⟩, fun k => (e 4 (by decide)).trans (h7 k)⟩
/-- the set of all clues -/
def aL (n : Nat) : Int32 := (1 <<< (nI n &&& 31)) - 1
theorem aL_bt : ∀ n, n < 13 → ∀ k, k < 32 → bt (aL n) k = decide (k < n) := by decide +kernel
theorem aL_nI : ∀ n, n < 13 → aL n = nI (2 ^ n - 1) := by decide +kernel
theorem e_X2_all {n : Nat} {Q : Int32 → Prop} (h : Q (aL n)) : wp_X2_all (nI n) Q := h
theorem e_X7_all {n : Nat} {Q : Int32 → Prop} (h : Q (aL n)) : wp_X7_all (nI n) Q := h
/-- what each clue asks -/
def MK (KD : Nat → Nat) (IT : Nat → Nat → Nat) (PP' : Nat → Nat) (k : Nat) (od : Nat → Nat) : Prop := Mof (KD k) (IT k) (PP' k) od
/-- the clues of both sides, by what they ask -/
def CK (pv : PV) (n : Nat) (row : Nat → Option Nat) (zc : Nat → Int32) (KD : Nat → Nat) (IT : Nat → Nat → Nat) (PP' : Nat → Nat) : Prop := MC n zc KD IT PP' ∧ ∀ k, k < n → ∃ a, row k = some a ∧ pv.1 a ∧ (∀ j, j < 5 → pv.2.1 a j = zc (5 * k + j)) ∧ TKo (KD k) (IT k) (PP' k) (pv.2.1 a 5) (pv.2.1 a 6) (pv.2.1 a 7) (pv.2.2.2 a)
theorem CK_of {pv : PV} {n : Nat} {row : Nat → Option Nat} {zc : Nat → Int32} (h : RLi CWd pv n row zc 0) : ∃ KD IT PP', CK pv n row zc KD IT PP' := by
  have ex : ∀ k, ∃ t : Nat × (Nat → Nat) × Nat, k < n → ∃ a, row k = some a ∧ pv.1 a ∧ (∀ j, j < 5 → pv.2.1 a j = zc (5 * k + j)) ∧ WFn t.1 t.2.1 t.2.2 (fun j => zc (5 * k + j)) ∧ TKo t.1 t.2.1 t.2.2 (pv.2.1 a 5) (pv.2.1 a 6) (pv.2.1 a 7) (pv.2.2.2 a) := by
    intro k
    by_cases hk : k < n
    · obtain ⟨a, ha, h1, h2, kd, it, p, hw, ht⟩ := h k hk
      have h3 : ∀ j, j < 5 → pv.2.1 a j = zc (5 * k + j) := fun j hj => by
        rw [h2 j hj]
        show zc (0 + 5 * k + j) = _
        rw [Nat.zero_add]
      exact ⟨(kd, it, p), fun _ => ⟨a, ha, h1, h3, hw.congr (fun j hj => (h3 j hj).symm), ht⟩⟩
    · exact ⟨(0, fun _ => 0, 0), fun q => absurd q hk⟩
  refine ⟨fun k => (Classical.choose (ex k)).1, fun k => (Classical.choose (ex k)).2.1, fun k => (Classical.choose (ex k)).2.2, fun k hk => ?_, fun k hk => ?_⟩
  · obtain ⟨a, _, _, _, hw, _⟩ := Classical.choose_spec (ex k) hk
    exact hw
  · obtain ⟨a, ha, h1, h2, _, ht⟩ := Classical.choose_spec (ex k) hk
    exact ⟨a, ha, h1, h2, ht⟩
theorem CK.cls {pv : PV} {n : Nat} {row : Nat → Option Nat} {zc : Nat → Int32} {KD : Nat → Nat} {IT : Nat → Nat → Nat} {PP' : Nat → Nat} (h : CK pv n row zc KD IT PP') : CLs pv n row (MK KD IT PP') := fun k hk => by
  obtain ⟨a, ha, h1, _, ht⟩ := h.2 k hk
  exact ⟨a, ha, h1, ht.1⟩
theorem CLs.grow {pv : PV} {n : Nat} {row : Nat → Option Nat} {Mk : Nat → (Nat → Nat) → Prop} {q aa : Nat} {fs : List Int32} {al : Nat → Int32} (hq : ¬ pv.1 q) (h : CLs pv n row Mk) : CLs (pvAdd pv q aa fs al) n row Mk := fun k hk => by
  obtain ⟨a, ha, h1, ht⟩ := h k hk
  have ne : a ≠ q := fun e => hq (e ▸ h1)
  refine ⟨a, ha, Or.inl h1, ?_⟩
  rw [pvAdd_ne1 ne, pvAdd_ne2 ne]
  exact ht
/-- how many grids meet the clues of a set -/
noncomputable def Tn (n : Nat) (Mk : Nat → (Nat → Nat) → Prop) (set : Int32) : Nat := cnt (pM (Mset n set Mk)) 331776
theorem Tn_lt (n : Nat) (Mk : Nat → (Nat → Nat) → Prop) (set : Int32) : Tn n Mk set ≤ 331776 := cnt_le _
theorem sumW_0 {p : Nat → Prop} {a b : Int32} : ∀ m, sumW p (wC 0 a b) m = nI (cnt p m)
  | 0 => nI_0.symm
  | m + 1 => by
    have ih := sumW_0 (p := p) (a := a) (b := b) m
    have w1 : wC 0 a b (cnt p m) m = 1 := by
      unfold wC
      rw [if_neg (by decide), if_neg (by decide), if_neg (by decide)]
    by_cases h : p m
    · rw [sumW_t h, cnt_t h, ih, w1, nI_1]
    · rw [sumW_f h, cnt_f h, ih]
theorem sumW_p {p r : Nat → Prop} {w : Nat → Nat → Int32} {N : Nat} (w1 : ∀ c m, m < N → r m → w c m = 1) (w0 : ∀ c m, m < N → ¬ r m → w c m = 0) : ∀ m, m ≤ N → sumW p w m = nI (cnt (fun x => p x ∧ r x) m)
  | 0, _ => nI_0.symm
  | m + 1, hm => by
    have ih := sumW_p (p := p) w1 w0 m (by omega)
    by_cases h : p m
    · by_cases h' : r m
      · rw [sumW_t h, cnt_t (p := fun x => p x ∧ r x) ⟨h, h'⟩, ih, w1 _ m (by omega) h', nI_1]
      · rw [sumW_t h, cnt_f (p := fun x => p x ∧ r x) (fun q => h' q.2), ih, w0 _ m (by omega) h', Int32.add_zero]
    · rw [sumW_f h, cnt_f (p := fun x => p x ∧ r x) (fun q => h q.1), ih]
theorem sumW_lo {p : Nat → Prop} {w : Nat → Nat → Int32} {i : Nat} (h0 : ∀ c m, c < i → w c m = 0) : ∀ m, cnt p m ≤ i → sumW p w m = 0
  | 0, _ => rfl
  | m + 1, hm => by
    by_cases h : p m
    · rw [cnt_t h] at hm
      rw [sumW_t h, sumW_lo h0 m (by omega), h0 _ m (by omega), Int32.add_zero]
    · rw [cnt_f h] at hm
      rw [sumW_f h, sumW_lo h0 m hm]
theorem sumW_at {p : Nat → Prop} {w : Nat → Nat → Int32} {i m0 : Nat} {v : Int32} (h0 : ∀ c m, c < i → w c m = 0) (h1 : ∀ c m, i < c → c ≤ 331776 → w c m = 0) (hp : p m0) (hc : cnt p m0 = i) (hv : w i m0 = v) : ∀ d, m0 + 1 + d ≤ 331776 → sumW p w (m0 + 1 + d) = v
  | 0, _ => by
    rw [Nat.add_zero, sumW_t hp, hc, hv, sumW_lo h0 m0 (by omega), Int32.zero_add]
  | d + 1, hd => by
    have ih := sumW_at h0 h1 hp hc hv d (by omega)
    have mn := cnt_mono (p := p) (show m0 + 1 ≤ m0 + 1 + d by omega)
    rw [cnt_t hp] at mn
    have cl := cnt_le (p := p) (m0 + 1 + d)
    by_cases h : p (m0 + 1 + d)
    · rw [← Nat.add_assoc, sumW_t h, ih, h1 _ _ (by omega) (by omega), Int32.add_zero]
    · rw [← Nat.add_assoc, sumW_f h, ih]
section SUM0
variable {n : Nat} {zc : Nat → Int32} {KD : Nat → Nat} {IT : Nat → Nat → Nat} {PP' : Nat → Nat} {zo : Nat → Int32}
theorem ev_pM {set : Int32} : evM n set KD IT PP' = pM (Mset n set (MK KD IT PP')) := rfl
theorem e_sum0 (hn : n ≤ 12) (hMC : MC n zc KD IT PP') (hRO : RO zo) {set : Int32} {pl : Nat → Int32} {Q : Int32 → Int32 → Int32 → Int32 → (Nat → Int32) → Prop} (h : ∀ pl', Q (nI (Tn n (MK KD IT PP') set)) 0 0 0 pl') : wp_X7_sum set 0 0 0 zc (nI n) zo pl Q := by
  refine e_X7_sum hn hMC hRO ⟨fun e => absurd e (by decide), fun e => absurd e (by decide), fun e => absurd e (by decide)⟩ (fun pl' => ?_)
  rw [sumW_0, ev_pM]
  exact h pl'
end SUM0
theorem e_X6_isItem {x : Int32} {Q : Int32 → Prop} (h1 : ∀ j, j < 16 → x = nI j → Q 1) (h0 : (¬ ∃ j, j < 16 ∧ x = nI j) → Q 0) : wp_X6_isItem x Q := by
  refine ⟨fun c => h0 ?_, fun c => ⟨fun d => h0 ?_, fun d => ?_⟩⟩
  · rintro ⟨k, hk, rfl⟩
    exact nI_pos (by omega) c
  · rintro ⟨k, hk, rfl⟩
    exact absurd ((nI_leI (a := 16) (by decide) (by omega)).mp d) (by omega)
  · obtain ⟨j, hj, rfl⟩ := nI_of c
    have : ¬ 16 ≤ j := fun q => d ((nI_leI (a := 16) (by decide) (by omega)).mpr q)
    exact h1 j (by omega) rfl
theorem e_X7_isItem {x : Int32} {Q : Int32 → Prop} (h1 : ∀ j, j < 16 → x = nI j → Q 1) (h0 : (¬ ∃ j, j < 16 ∧ x = nI j) → Q 0) : wp_X7_isItem x Q := by
  refine e_X7_in (fun a => ?_) (fun a => ?_)
  · obtain ⟨c, hc, e⟩ := (in_lit (m := 15) (by decide)).mp a
    exact ⟨zb1, h1 c hc e⟩
  · exact ⟨zb0, h0 (fun q => a ((in_lit (m := 15) (by decide)).mpr q))⟩
theorem in_place {x : Int32} : (¬ x < 1 ∧ ¬ 4 < x) ↔ ∃ j, 1 ≤ j ∧ j ≤ 4 ∧ x = nI j := by
  constructor
  · rintro ⟨c, d⟩
    obtain ⟨j, hj, rfl⟩ := nI_of (fun q : x < 0 => c (Int32.lt_trans q (by decide)))
    have h1 : ¬ j < 1 := fun q => c ((nI_ltI (b := 1) (by omega) (by decide)).mpr q)
    have h2 : ¬ 4 < j := fun q => d ((nI_ltI (a := 4) (by decide) (by omega)).mpr q)
    exact ⟨j, by omega, by omega, rfl⟩
  · rintro ⟨j, h1, h2, rfl⟩
    exact ⟨fun q => absurd ((nI_ltI (b := 1) (by omega) (by decide)).mp q) (by omega), fun q => absurd ((nI_ltI (a := 4) (by decide) (by omega)).mp q) (by omega)⟩
theorem e_X6_isPlace {x : Int32} {Q : Int32 → Prop} (h1 : ∀ j, 1 ≤ j → j ≤ 4 → x = nI j → Q 1) (h0 : (¬ ∃ j, 1 ≤ j ∧ j ≤ 4 ∧ x = nI j) → Q 0) : wp_X6_isPlace x Q := by
  refine ⟨fun c => h0 (fun q => (in_place.mpr q).1 c), fun c => ⟨fun d => h0 (fun q => (in_place.mpr q).2 d), fun d => ?_⟩⟩
  obtain ⟨j, a, b, e⟩ := in_place.mp ⟨c, d⟩
  exact h1 j a b e
theorem e_X7_isPlace {x : Int32} {Q : Int32 → Prop} (h1 : ∀ j, 1 ≤ j → j ≤ 4 → x = nI j → Q 1) (h0 : (¬ ∃ j, 1 ≤ j ∧ j ≤ 4 ∧ x = nI j) → Q 0) : wp_X7_isPlace x Q := by
  refine e_X7_in (fun a => ?_) (fun a => ?_)
  · obtain ⟨j, u, v, e⟩ := in_place.mp a
    exact ⟨zb1, h1 j u v e⟩
  · exact ⟨zb0, h0 (fun q => a (in_place.mpr q))⟩
/-- the answer that is kept -/
def KA (M : (Nat → Nat) → Prop) (kA : Int32) (kp : Nat → Int32) : Prop := kA = -6 ∨ ∃ i m, i < 2 ^ 31 ∧ kA = nI i ∧ m < 331776 ∧ pM M m ∧ cnt (pM M) m = i ∧ ∀ k, k < 16 → kp k = nI (colN (odM m (k / 4)) (k % 4) + 1)
/-- the place of an item in the i-th answer; none -/
def AnsR (M : (Nat → Nat) → Prop) (i item : Nat) (r : Int32) : Prop := (cnt (pM M) 331776 ≤ i ∧ r = -6) ∨ ∃ m, m < 331776 ∧ pM M m ∧ cnt (pM M) m = i ∧ r = nI (colN (odM m (item / 4)) (item % 4) + 1)
theorem e_X3_placeOf {m k : Nat} (hm : m < 331776) (hk : k < 16) {or : Nat → Int32} (ho : ∀ i, i < 4 → or i = nI (odM m i)) {Q : Int32 → Prop} (h : Q (nI (colN (odM m (k / 4)) (k % 4) + 1))) : wp_X3_placeOf (nI k) or Q := by
  have hod := odM_ok hm (k / 4) (by omega)
  have c1 := col_ok (odM m (k / 4)) hod (k % 4) (Nat.mod_lt _ (by decide))
  unfold wp_X3_placeOf
  rw [dv4 hk, and3 (by omega), nI_clamp (n := k / 4) (by omega), ho _ (by omega)]
  rw [show (4 : Int32) * nI (odM m (k / 4)) + nI (k % 4) = nI (4 * odM m (k / 4) + k % 4) from by rw [show (4 : Int32) = nI 4 from rfl, pk_mul, nI_add]]
  rw [nI_clamp (n := 4 * odM m (k / 4) + k % 4) (by omega), c1.1, nI_1]
  exact ⟨vp_in_nI (by omega) (by decide), vp_in_nI (by omega) (by decide), h⟩
section ANS
variable {pv : PV} {n : Nat} {row : Nat → Option Nat} {Mk : Nat → (Nat → Nat) → Prop} {tl C0 D0 rest bs cs : Int32} {al pr or : Nat → Int32} {br cr : Nat → Option Nat}
theorem e_X0_meeting (hn : n ≤ 12) (hc : CLs pv n row Mk) {set : Int32} {Q : Int32 → Int32 → Int32 → Int32 → Int32 → (Nat → Int32) → (Nat → Int32) → Int32 → (Nat → Option Nat) → Int32 → (Nat → Option Nat) → (Nat → Int32) → Prop}
    (h : ∀ tl C D rest al pr bs br cs cr or, Q (nI (Tn n Mk set)) tl C D rest al pr bs br cs cr or) : wp_X0_meeting set pv C0 D0 al pr br cr or (nI n) row Q :=
  e_X3_choose hn hc (fun _ _ _ _ _ _ _ _ _ _ hg _ => e_X3_total hg (fun _ _ _ _ => h _ _ _ _ _ _ _ _ _ _ _))
theorem e_X0_total (hn : n ≤ 12) (hc : CLs pv n row Mk) {kT : Int32} (hk : kT = -6 ∨ kT = nI (Tn n Mk (aL n))) {Q : Int32 → Int32 → Int32 → Int32 → Int32 → Int32 → (Nat → Int32) → (Nat → Int32) → Int32 → (Nat → Option Nat) → Int32 → (Nat → Option Nat) → (Nat → Int32) → Prop}
    (h : ∀ tl C D rest al pr bs br cs cr or, Q (nI (Tn n Mk (aL n))) (nI (Tn n Mk (aL n))) tl C D rest al pr bs br cs cr or) : wp_X0_total pv kT tl C0 D0 rest al pr bs br cs cr or (nI n) row Q := by
  refine ⟨fun _ => e_X2_all (e_X3_choose hn hc (fun _ _ _ _ _ _ _ _ _ _ hg _ => e_X3_total hg (fun _ _ _ _ => h _ _ _ _ _ _ _ _ _ _ _))), fun e => ?_⟩
  rw [hk.resolve_left e]
  exact h _ _ _ _ _ _ _ _ _ _ _
theorem e_X0_totalWith (hn : n ≤ 12) (hc : CLs pv n row Mk) {a : Nat} {M' : (Nat → Nat) → Prop} (ha : pv.1 a) (hT : TK (pv.2.1 a 5) (pv.2.1 a 6) (pv.2.1 a 7) (pv.2.2.2 a) M') (h7 : pv.2.1 a 7 = -6) {Q : Int32 → Int32 → Int32 → Int32 → Int32 → (Nat → Int32) → (Nat → Int32) → Int32 → (Nat → Option Nat) → Int32 → (Nat → Option Nat) → (Nat → Int32) → Prop}
    (h : ∀ tl C D rest al pr bs br cs cr or, Q (nI (cnt (pM (fun od => Mset n (aL n) Mk od ∧ M' od)) 331776)) tl C D rest al pr bs br cs cr or) : wp_X0_totalWith a pv C0 D0 al pr br cr or (nI n) row Q :=
  e_X2_all (e_X3_choose hn hc (fun _ _ _ _ _ _ _ _ _ _ hg _ => e_X3_take hg ha hT (Or.inl h7) (fun _ _ _ _ _ _ _ _ _ _ _ _ hg' => e_X3_total hg' (fun _ _ _ _ => h _ _ _ _ _ _ _ _ _ _ _))))
theorem e_X0_placeIn (hn : n ≤ 12) (hc : CLs pv n row Mk) {i item : Nat} (hi : i < 2 ^ 31) (hit : item < 16) {kA : Int32} {kp : Nat → Int32} (hk : KA (Mset n (aL n) Mk) kA kp) {Q : Int32 → Int32 → (Nat → Int32) → Int32 → Int32 → Int32 → Int32 → (Nat → Int32) → (Nat → Int32) → Int32 → (Nat → Option Nat) → Int32 → (Nat → Option Nat) → (Nat → Int32) → Prop}
    (h : ∀ r kA' kp' tl C D rest al pr bs br cs cr or, AnsR (Mset n (aL n) Mk) i item r → KA (Mset n (aL n) Mk) kA' kp' → Q r kA' kp' tl C D rest al pr bs br cs cr or) : wp_X0_placeIn (nI i) (nI item) pv kA kp tl C0 D0 rest al pr bs br cs cr or (nI n) row Q := by
  refine ⟨fun e => ⟨vp_in_nI hit (by decide), ?_⟩, fun e => ?_⟩
  · rw [nI_clamp (n := item) (by omega)]
    refine h _ _ _ _ _ _ _ _ _ _ _ _ _ _ ?_ hk
    rcases hk with q | ⟨i', m, hi', ei, hm, hp, hcn, hkp⟩
    · have z := nI_pos hi
      rw [e, q] at z
      exact absurd (by decide) z
    · have ee : i = i' := (nI_eq hi hi').mp (e.trans ei)
      subst ee
      exact Or.inr ⟨m, hm, hp, hcn, hkp item hit⟩
  · refine e_X2_all (e_X3_choose hn hc (fun nb nc tl1 al1 pr1 bs1 br1 cs1 cr1 or1 hg _ => e_X3_passOver hg hi (fun hle C D or' => ⟨fun _ => h _ _ _ _ _ _ _ _ _ _ _ _ _ _ (Or.inl ⟨hle, rfl⟩) hk, fun z => absurd rfl z⟩) (fun m C D rest' or' m1 m2 m3 m4 => ⟨fun z => absurd z (by decide), fun _ => ?_⟩)))
    refine ⟨fun l4 _ kp' _ _ _ _ _ _ _ _ _ _ o => o = or' ∧ ∃ k, k ≤ 16 ∧ l4 = nI k ∧ ∀ j, j < k → kp' j = nI (colN (odM m (j / 4)) (j % 4) + 1), fun l4 _ _ _ _ _ _ _ _ _ _ _ _ _ => 16 - l4.toNatClampNeg, ⟨rfl, 0, Nat.zero_le _, nI_0.symm, fun j hj => absurd hj (Nat.not_lt_zero _)⟩, ?_⟩
    rintro l4 ka kp' tl' C' D' rest'' al' pr' bs' br' cs' cr' o ⟨rfl, k, hk', rfl, q⟩
    refine ⟨fun d => ?_, fun d => ?_⟩
    · have ek : k = 16 := Nat.le_antisymm hk' ((nI_leI (a := 16) (by decide) (by omega)).mp d)
      subst ek
      rw [nI_clamp (n := item) (by omega)]
      exact ⟨vp_in_nI hit (by decide), h _ _ _ _ _ _ _ _ _ _ _ _ _ _ (Or.inr ⟨m, m1, m2, m3, q item hit⟩) (Or.inr ⟨i, m, hi, rfl, m1, m2, m3, q⟩)⟩
    · have hlt : k < 16 := Nat.lt_of_not_le (fun q => d ((nI_leI (a := 16) (by decide) (by omega)).mpr q))
      rw [nI_1, nI_clamp (n := k) (by omega)]
      refine e_X3_placeOf m1 hlt m4 ⟨vp_in_nI hlt (by decide), ⟨rfl, k + 1, hlt, rfl, fun j hj => ?_⟩, mu_dec hlt (by decide)⟩
      by_cases ej : j = k
      · subst ej; rw [pk_us]
      · rw [pk_un ej]; exact q j (by omega)
end ANS
