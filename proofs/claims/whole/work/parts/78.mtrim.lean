/-! ===== mathematics: trim ===== -/
/-- which clues are left when those that are not in the set went, from n - 1 down to n - d: how many, and where each was -/
def TS (set : Int32) (n : Nat) : Nat → Nat × (Nat → Nat)
  | 0 => (n, fun k => k)
  | d + 1 => if bt set (n - 1 - d) = true then TS set n d else ((TS set n d).1 - 1, fun k => if k < n - 1 - d then (TS set n d).2 k else (TS set n d).2 (k + 1))
theorem TS_t {set : Int32} {n d : Nat} (h : bt set (n - 1 - d) = true) : TS set n (d + 1) = TS set n d := by
  show (if bt set (n - 1 - d) = true then _ else _) = _
  rw [if_pos h]
theorem TS_f {set : Int32} {n d : Nat} (h : bt set (n - 1 - d) = false) : TS set n (d + 1) = ((TS set n d).1 - 1, fun k => if k < n - 1 - d then (TS set n d).2 k else (TS set n d).2 (k + 1)) := by
  show (if bt set (n - 1 - d) = true then _ else _) = _
  rw [if_neg (by rw [h]; decide)]
theorem TS_ok {set : Int32} {n : Nat} : ∀ d, d ≤ n → n - d ≤ (TS set n d).1 ∧ (TS set n d).1 ≤ n ∧ ∀ k, k < (TS set n d).1 → (TS set n d).2 k < n
  | 0, _ => ⟨Nat.le_refl _, Nat.le_refl _, fun k hk => hk⟩
  | d + 1, hd => by
    obtain ⟨h1, h2, h3⟩ := TS_ok (set := set) (n := n) d (by omega)
    cases hb : bt set (n - 1 - d) with
    | true =>
      rw [TS_t hb]
      exact ⟨by omega, h2, h3⟩
    | false =>
      rw [TS_f hb]
      refine ⟨?_, ?_, fun k hk => ?_⟩
      · show n - (d + 1) ≤ (TS set n d).1 - 1
        omega
      · show (TS set n d).1 - 1 ≤ n
        omega
      · have hk : k < (TS set n d).1 - 1 := hk
        show (if k < n - 1 - d then (TS set n d).2 k else (TS set n d).2 (k + 1)) < n
        by_cases q : k < n - 1 - d
        · rw [if_pos q]; exact h3 k (by omega)
        · rw [if_neg q]; exact h3 (k + 1) (by omega)
section TRIM
variable {pv : PV} {n : Nat} {row : Nat → Option Nat} {zc zo pl : Nat → Int32} {KD : Nat → Nat} {IT : Nat → Nat → Nat} {PP' : Nat → Nat} {tl C0 D0 rest bs cs : Int32} {al pr or : Nat → Int32} {br cr : Nat → Option Nat}
set_option maxHeartbeats 1000000 in
theorem e_X6_trim22 (hn : n ≤ 12) (hr : ∀ k, k < n → ∃ a, row k = some a ∧ pv.1 a) {set k1 k2 k3 k4 k5 : Int32} {Q : Int32 → Int32 → (Nat → Option Nat) → Int32 → Int32 → Int32 → Int32 → Int32 → Int32 → Int32 → Int32 → (Nat → Int32) → (Nat → Int32) → Int32 → (Nat → Option Nat) → Int32 → (Nat → Option Nat) → (Nat → Int32) → Int32 → Prop}
    (h : ∀ row' tl C D rest al pr bs br cs cr or, (∀ k, k < (TS set n n).1 → row' k = row ((TS set n n).2 k)) → Q (nI (TS set n n).1) (nI (TS set n n).1) row' (-6) (-6) (-6) (-6) tl C D rest al pr bs br cs cr or 0) : wp_X6_trim_22 Q pv set (dn n 0) (nI n) row k1 k2 k3 k4 tl C0 D0 rest al pr bs br cs cr or k5 := by
  refine ⟨fun l1 l2 sz row' _ _ _ _ _ _ _ _ _ _ _ _ _ _ _ _ => l1 = set ∧ ∃ d, d ≤ n ∧ l2 = dn n d ∧ sz = nI (TS set n d).1 ∧ ∀ k, k < (TS set n d).1 → row' k = row ((TS set n d).2 k), fun _ l2 _ _ _ _ _ _ _ _ _ _ _ _ _ _ _ _ _ _ => (l2 + 1).toNatClampNeg, ⟨rfl, 0, Nat.zero_le _, rfl, rfl, fun _ _ => rfl⟩, ?_⟩
  rintro l1 l2 sz row' a1 a2 a3 a4 a5 a6 a7 a8 a9 a10 a11 a12 a13 a14 a15 a16 ⟨rfl, d, hd, rfl, rfl, hrow⟩
  rw [dn_neg hn]
  obtain ⟨o1, o2, o3⟩ := TS_ok (set := l1) d hd
  refine ⟨fun q => ?_, fun q => ?_⟩
  · have ed : d = n := by omega
    subst ed
    exact h _ _ _ _ _ _ _ _ _ _ _ _ hrow
  · have hlt : d < n := Classical.not_not.mp q
    have mu := mu_dn hn hlt
    rw [dn_in hlt, dn_1 hn hlt]
    refine e_X6_isIn (by omega) (fun hb => ⟨fun z => absurd z (by decide), fun _ => ⟨⟨rfl, d + 1, hlt, rfl, by rw [TS_t hb], by rw [TS_t hb]; exact hrow⟩, ?_⟩⟩) (fun hb => ⟨fun _ => ?_, fun z => absurd rfl z⟩)
    · rw [← dn_in hlt]; exact mu
    · refine e_X2_remove (n := (TS l1 n d).1) (c := n - 1 - d) (by omega) (by omega) (fun k hk => ?_) (fun row2 r1 r2 => ⟨⟨rfl, d + 1, hlt, rfl, by rw [TS_f hb], ?_⟩, ?_⟩)
      · rw [hrow k hk]; exact hr _ (o3 k hk)
      · rw [TS_f hb]
        intro k hk
        have hk : k < (TS l1 n d).1 - 1 := hk
        show row2 k = row (if k < n - 1 - d then (TS l1 n d).2 k else (TS l1 n d).2 (k + 1))
        by_cases q : k < n - 1 - d
        · rw [if_pos q, r1 k q]; exact hrow k (by omega)
        · rw [if_neg q, r2 k (by omega) hk]; exact hrow (k + 1) (by omega)
      · rw [← dn_in hlt]; exact mu
set_option maxHeartbeats 1000000 in
theorem e_X7_trim12 (hn : n ≤ 12) {set s0 f0 g0 : Int32} {Q : Int32 → Int32 → Int32 → Int32 → Int32 → (Nat → Int32) → (Nat → Int32) → Prop}
    (h : ∀ s f g zc' pl', (∀ k, k < (TS set n n).1 → ∀ j, j < 5 → zc' (5 * k + j) = zc (5 * (TS set n n).2 k + j)) → Q (nI (TS set n n).1) (nI (TS set n n).1) s f g zc' pl') : wp_X7_trim_12 Q set (dn n 0) zc (nI n) pl s0 f0 g0 := by
  refine ⟨fun l1 l2 zc' sz _ _ _ _ => l1 = set ∧ ∃ d, d ≤ n ∧ l2 = dn n d ∧ sz = nI (TS set n d).1 ∧ ∀ k, k < (TS set n d).1 → ∀ j, j < 5 → zc' (5 * k + j) = zc (5 * (TS set n d).2 k + j), fun _ l2 _ _ _ _ _ _ => (l2 + 1).toNatClampNeg, ⟨rfl, 0, Nat.zero_le _, rfl, rfl, fun _ _ _ _ => rfl⟩, ?_⟩
  rintro l1 l2 zc' sz a1 a2 a3 a4 ⟨rfl, d, hd, rfl, rfl, hrow⟩
  rw [dn_neg hn]
  obtain ⟨o1, o2, o3⟩ := TS_ok (set := l1) d hd
  refine ⟨fun q => ?_, fun q => ?_⟩
  · have ed : d = n := by omega
    subst ed
    exact h _ _ _ _ _ hrow
  · have hlt : d < n := Classical.not_not.mp q
    have mu := mu_dn hn hlt
    rw [dn_in hlt, dn_1 hn hlt]
    refine e_X7_has (by omega) (fun hb => ⟨fun z => absurd z (by decide), fun _ => ⟨⟨rfl, d + 1, hlt, rfl, by rw [TS_t hb], by rw [TS_t hb]; exact hrow⟩, ?_⟩⟩) (fun hb => ⟨fun _ => ?_, fun z => absurd rfl z⟩)
    · rw [← dn_in hlt]; exact mu
    · refine e_X7_remove (n := (TS l1 n d).1) (c := n - 1 - d) (by omega) (by omega) (fun zc2 r1 r2 => ⟨⟨rfl, d + 1, hlt, rfl, by rw [TS_f hb], ?_⟩, ?_⟩)
      · rw [TS_f hb]
        intro k hk j hj
        have hk : k < (TS l1 n d).1 - 1 := hk
        show zc2 (5 * k + j) = zc (5 * (if k < n - 1 - d then (TS l1 n d).2 k else (TS l1 n d).2 (k + 1)) + j)
        by_cases q : k < n - 1 - d
        · rw [if_pos q, r1 _ (by omega)]; exact hrow k (by omega) j hj
        · rw [if_neg q, r2 _ (by omega) (by omega), show 5 * k + j + 5 = 5 * (k + 1) + j by omega]; exact hrow (k + 1) (by omega) j hj
      · rw [← dn_in hlt]; exact mu
theorem op_trim (hn : n ≤ 12) (hl : RLi CWd pv n row zc 0) (hck : CK pv n row zc KD IT PP') (hRO : RO zo) {kT kN kC kA sv : Int32} (hC : kC = -6 ∨ kC = CO n (MK KD IT PP') n)
    {F : Int32 → Int32 → (Nat → Option Nat) → Int32 → Int32 → Int32 → Int32 → Int32 → Int32 → Int32 → Int32 → (Nat → Int32) → (Nat → Int32) → Int32 → (Nat → Option Nat) → Int32 → (Nat → Option Nat) → (Nat → Int32) → Int32 → Int32 → Int32 → Int32 → Int32 → Int32 → (Nat → Int32) → (Nat → Int32) → Prop}
    (hF : ∀ r sz' row' tl C D rest al pr bs br cs cr or many' s f g zc' pl', RC CWd pv sz' row' many' zc' → F r sz' row' (-6) (-6) (-6) (-6) tl C D rest al pr bs br cs cr or 0 r many' s f g zc' pl') :
    wp_X6_trim pv (nI n) row kT kN kC kA tl C0 D0 rest al pr bs br cs cr or sv (fun r sz' row' c1 c2 c3 c4 tl C D rest al pr bs br cs cr or c5 => wp_X7_trim zc (nI n) zo pl (fun r2 many' s f g zc' pl' => F r sz' row' c1 c2 c3 c4 tl C D rest al pr bs br cs cr or c5 r2 many' s f g zc' pl')) := by
  refine e_X0_coreSet hn hck hC (fun tl1 C1 D1 rest1 al1 pr1 bs1 br1 cs1 cr1 or1 => ?_)
  rintro _ rfl
  rw [dn_0 hn]
  refine e_X6_trim22 hn hl.mem (fun row' tl2 C2 D2 rest2 al2 pr2 bs2 br2 cs2 cr2 or2 hrow => ?_)
  refine e_X7_coreNow hn hck.1 hRO (fun a b c d => ?_)
  rintro _ rfl
  rw [dn_0 hn]
  refine e_X7_trim12 hn (fun s f g zc' pl' hz => ?_)
  obtain ⟨o1, o2, o3⟩ := TS_ok (set := CO n (MK KD IT PP') n) n (Nat.le_refl _)
  refine hF _ _ _ _ _ _ _ _ _ _ _ _ _ _ _ _ _ _ _ _ ⟨_, Nat.le_trans o2 hn, rfl, rfl, fun k hk => ?_⟩
  obtain ⟨x, hx, h1, h2, h3⟩ := hl _ (o3 k hk)
  refine ⟨x, (hrow k hk).trans hx, h1, fun j hj => (h2 j hj).trans ?_, h3⟩
  show zc (0 + 5 * (TS (CO n (MK KD IT PP') n) n n).2 k + j) = zc' (0 + 5 * k + j)
  rw [Nat.zero_add, Nat.zero_add]
  exact (hz k hk j hj).symm
end TRIM
