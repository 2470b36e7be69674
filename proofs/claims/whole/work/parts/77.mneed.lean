/-! ===== mathematics: needless, core ===== -/
section GROW
variable {pv : PV} {q aa : Nat} {fs : List Int32} {f : Nat → Int32}
theorem AlO_ne {a : Nat} (h : a ≠ q) {od : Nat → Nat} : AlO (pvAdd pv q aa fs f) a od ↔ AlO pv a od := by
  unfold AlO
  rw [pvAdd_ne1 h, pvAdd_ne2 h]
theorem GS.grow (hq : ¬ pv.1 q) {nb nc : Nat} {M : (Nat → Nat) → Prop} {tl bs cs : Int32} {al pr : Nat → Int32} {br cr : Nat → Option Nat} (h : GS pv nb nc M tl al pr bs br cs cr) : GS (pvAdd pv q aa fs f) nb nc M tl al pr bs br cs cr := by
  obtain ⟨h1, h2, h3, h4, h5, h6, h7, h8, h9, h10⟩ := h
  have ne : ∀ a, pv.1 a → a ≠ q := fun a ha e => hq (e ▸ ha)
  refine ⟨h1, h2, h3, h4, h5, h6, h7, fun k hk => ?_, fun k hk => ?_, fun od ho => (h10 od ho).trans ?_⟩
  · obtain ⟨a, ha, hp, t, x, y, r1, r2, r3, r4, r5, r6, r7⟩ := h8 k hk
    refine ⟨a, ha, Or.inl hp, t, x, y, r1, r2, r3, r4, ?_, ?_, ?_⟩
    · rw [pvAdd_ne1 (ne a hp)]; exact r5
    · rw [pvAdd_ne1 (ne a hp)]; exact r6
    · rw [pvAdd_ne1 (ne a hp)]; exact r7
  · obtain ⟨a, ha, hp, x, y, r2, r3, r4, r5, r6, r7⟩ := h9 k hk
    refine ⟨a, ha, Or.inl hp, x, y, r2, r3, r4, ?_, ?_, ?_⟩
    · rw [pvAdd_ne1 (ne a hp)]; exact r5
    · rw [pvAdd_ne1 (ne a hp)]; exact r6
    · rw [pvAdd_ne1 (ne a hp)]; exact r7
  · have eb : ∀ k, k < nb → ∀ a, br k = some a → a ≠ q := fun k hk a ha => by
      obtain ⟨a', ha', hp, _⟩ := h8 k hk
      rw [ha] at ha'
      cases ha'
      exact ne a hp
    have ec : ∀ k, k < nc → ∀ a, cr k = some a → a ≠ q := fun k hk a ha => by
      obtain ⟨a', ha', hp, _⟩ := h9 k hk
      rw [ha] at ha'
      cases ha'
      exact ne a hp
    constructor
    · rintro ⟨u, v, w⟩
      exact ⟨u, fun k hk a ha => (AlO_ne (eb k hk a ha)).mpr (v k hk a ha), fun k hk a ha => (AlO_ne (ec k hk a ha)).mpr (w k hk a ha)⟩
    · rintro ⟨u, v, w⟩
      exact ⟨u, fun k hk a ha => (AlO_ne (eb k hk a ha)).mp (v k hk a ha), fun k hk a ha => (AlO_ne (ec k hk a ha)).mp (w k hk a ha)⟩
end GROW
theorem fsC_lt {v : Int32} {od : Nat → Nat} (ho : OrdOK od) (h : v = -6 ∨ ∃ a, a < 16 ∧ v = nI a) : fsC v od < 4 := by
  rcases h with e | ⟨a, ha, e⟩
  · rw [e, fsC_6]; decide
  · rw [e, fsC_n ha]
    exact (col_ok _ (ho _ (by omega)) _ (Nat.mod_lt _ (by decide))).2
theorem e_X1_opposite {pv : PV} {a kd : Nat} {it : Nat → Nat} {p : Nat} (ha : pv.1 a) (hw : WFn kd it p (pv.2.1 a)) (hT : TKo kd it p (pv.2.1 a 5) (pv.2.1 a 6) (pv.2.1 a 7) (pv.2.2.2 a)) {Q : Nat → Nat → Int32 → Int32 → Int32 → Int32 → Int32 → Int32 → Int32 → Int32 → (Nat → Int32) → Prop}
    (h : ∀ q1 q3 v0 v1 v2 v3 v4 v5 al', ¬ pv.1 q1 → TK v5 (pv.2.1 a 6) (pv.2.1 a 7) al' (fun od => ¬ Mof kd it p od) → Q q1 q3 v0 v1 v2 v3 v4 v5 (pv.2.1 a 6) (pv.2.1 a 7) al') : wp_X1_opposite a pv Q := by
  obtain ⟨t0, ht0, et0, hle0, hex0⟩ := of_top hw
  obtain ⟨⟨t, ht, et, hs, hM⟩, ⟨t1, ht1, et1, hle1, hex1⟩, -⟩ := hT
  have e1 : t = t1 := (nI_eq (by omega) (by omega)).mp (et.symm.trans et1)
  have e0 : t0 = t1 := TopOf.uniq ⟨hle0, hex0⟩ ⟨hle1, hex1⟩
  intro q1 hq1
  refine ⟨ha, ?_⟩
  intro q3
  rw [et0]
  refine ⟨fun l2 f r1 r3 v0 v1 v2 v3 v4 v5 v6 v7 => r1 = q1 ∧ r3 = q3 ∧ v5 = nI t0 ∧ v6 = pv.2.1 a 6 ∧ v7 = pv.2.1 a 7 ∧ ∃ k, k ≤ 16 ∧ l2 = nI k ∧ ∀ j, j < k → f j = 16777215 &&& ((pv.2.2.2 a j) ^^^ (-1)), fun l2 _ _ _ _ _ _ _ _ _ _ _ => 16 - l2.toNatClampNeg, ⟨rfl, rfl, rfl, rfl, rfl, 0, Nat.zero_le _, nI_0.symm, fun j hj => absurd hj (Nat.not_lt_zero _)⟩, ?_⟩
  rintro l2 f r1 r3 v0 v1 v2 v3 v4 v5 v6 v7 ⟨rfl, rfl, rfl, rfl, rfl, k, hk, rfl, hf⟩
  refine ⟨fun d => ?_, fun d => ?_⟩
  · have ek : k = 16 := Nat.le_antisymm hk ((nI_leI (a := 16) (by decide) (by omega)).mp d)
    subst ek
    refine h _ _ _ _ _ _ _ _ _ hq1 ⟨t, ht, by rw [e0, e1], hs, fun od ho => ?_⟩
    have b6 : fsC (pv.2.1 a 6) od < 4 := fsC_lt ho (by
      rcases hs with ⟨u, v⟩ | ⟨x, hx, _, u, v⟩ | ⟨x, y, hxy, hy, _, u, v⟩
      · exact Or.inl u
      · exact Or.inr ⟨x, hx, u⟩
      · exact Or.inr ⟨x, by omega, u⟩)
    have b7 : fsC (pv.2.1 a 7) od < 4 := fsC_lt ho (by
      rcases hs with ⟨u, v⟩ | ⟨x, hx, _, u, v⟩ | ⟨x, y, hxy, hy, _, u, v⟩
      · exact Or.inl v
      · exact Or.inl v
      · exact Or.inr ⟨y, hy, v⟩)
    have o24 : od t < 24 := ho t ht
    show _ ↔ ¬ Mof kd it p od
    rw [hf _ (by omega), b_and, b_alll o24, b_not _ _ (by omega), Bool.true_and, ← hM od ho]
    cases bt (pv.2.2.2 a (4 * fsC (pv.2.1 a 6) od + fsC (pv.2.1 a 7) od)) (od t) <;> simp
  · have hlt : k < 16 := Nat.lt_of_not_le (fun q => d ((nI_leI (a := 16) (by decide) (by omega)).mpr q))
    rw [nI_1, nI_clamp (n := k) (by omega)]
    refine ⟨ha, vp_in_nI hlt (by decide), vp_in_nI hlt (by decide), ⟨rfl, rfl, rfl, rfl, rfl, k + 1, hlt, rfl, fun j hj => ?_⟩, mu_dec hlt (by decide)⟩
    by_cases ej : j = k
    · subst ej; rw [pk_us]
    · rw [pk_un ej]; exact hf j (by omega)
/-- a set without k -/
def wo (set : Int32) (k : Nat) : Int32 := set &&& ((1 <<< (nI k &&& 31)) ^^^ (-1))
theorem wo_bt {set : Int32} {k : Nat} (hk : k < 32) {i : Nat} (hi : i < 32) : bt (wo set k) i = (bt set i && !decide (i = k)) := by
  unfold wo
  rw [b_and, b_not _ i hi, b_one hk i hi]
theorem cnt_sub {p q : Nat → Prop} : ∀ m, (∀ x, x < m → q x → p x) → cnt q m ≤ cnt p m ∧ (cnt q m = cnt p m ↔ cnt (fun x => p x ∧ ¬ q x) m = 0)
  | 0, _ => ⟨Nat.le_refl _, ⟨fun _ => rfl, fun _ => rfl⟩⟩
  | m + 1, h => by
    obtain ⟨a, b⟩ := cnt_sub (p := p) (q := q) m (fun x hx => h x (by omega))
    by_cases hq : q m
    · have hp := h m (by omega) hq
      rw [cnt_t hq, cnt_t hp, cnt_f (p := fun x => p x ∧ ¬ q x) (fun z => z.2 hq)]
      refine ⟨by omega, ?_⟩
      rw [← b]
      omega
    · by_cases hp : p m
      · rw [cnt_f hq, cnt_t hp, cnt_t (p := fun x => p x ∧ ¬ q x) ⟨hp, hq⟩]
        refine ⟨by omega, ⟨fun z => ?_, fun z => ?_⟩⟩ <;> omega
      · rw [cnt_f hq, cnt_f hp, cnt_f (p := fun x => p x ∧ ¬ q x) (fun z => hp z.1)]
        exact ⟨a, b⟩
/-- a clue of a set is needless in it -/
theorem need_iff {n : Nat} {Mk : Nat → (Nat → Nat) → Prop} {set : Int32} {k : Nat} (hn : n ≤ 12) (hk : k < n) (hb : bt set k = true) : Tn n Mk set = Tn n Mk (wo set k) ↔ cnt (pM (fun od => Mset n (wo set k) Mk od ∧ ¬ Mk k od)) 331776 = 0 := by
  have e : ∀ od, Mset n set Mk od ↔ Mset n (wo set k) Mk od ∧ Mk k od := by
    intro od
    constructor
    · intro h
      refine ⟨fun j hj hbj => h j hj ?_, h k hk hb⟩
      rw [wo_bt (by omega) (by omega), Bool.and_eq_true] at hbj
      exact hbj.1
    · rintro ⟨h1, h2⟩ j hj hbj
      by_cases ej : j = k
      · subst ej; exact h2
      · refine h1 j hj ?_
        rw [wo_bt (by omega) (by omega), hbj, decide_eq_false ej]
        rfl
  have c := (cnt_sub (p := pM (Mset n (wo set k) Mk)) (q := pM (Mset n set Mk)) 331776 (fun x _ hx => ((e _).mp hx).1)).2
  have ee : (fun x => pM (Mset n (wo set k) Mk) x ∧ ¬ pM (Mset n set Mk) x) = pM (fun od => Mset n (wo set k) Mk od ∧ ¬ Mk k od) := by
    funext x
    apply propext
    show (Mset n (wo set k) Mk (odM x) ∧ ¬ Mset n set Mk (odM x)) ↔ (Mset n (wo set k) Mk (odM x) ∧ ¬ Mk k (odM x))
    rw [e]
    constructor
    · rintro ⟨u, v⟩
      exact ⟨u, fun z => v ⟨u, z⟩⟩
    · rintro ⟨u, v⟩
      exact ⟨u, fun z => v z.2⟩
  rw [ee] at c
  exact c
section NEED
variable {pv : PV} {n : Nat} {row : Nat → Option Nat} {zc zo pl : Nat → Int32} {KD : Nat → Nat} {IT : Nat → Nat → Nat} {PP' : Nat → Nat} {tl C0 D0 rest bs cs : Int32} {al pr or : Nat → Int32} {br cr : Nat → Option Nat}
set_option maxHeartbeats 1000000 in
theorem e_X0_isNeedlessAmong (hn : n ≤ 12) (hck : CK pv n row zc KD IT PP') {set : Int32} {k : Nat} (hk : k < n) (hb : bt set k = true) {Q : Int32 → Int32 → Int32 → Int32 → Int32 → (Nat → Int32) → (Nat → Int32) → Int32 → (Nat → Option Nat) → Int32 → (Nat → Option Nat) → (Nat → Int32) → Prop}
    (h1 : Tn n (MK KD IT PP') set = Tn n (MK KD IT PP') (wo set k) → ∀ tl C D rest al pr bs br cs cr or, Q 1 tl C D rest al pr bs br cs cr or)
    (h0 : ¬ Tn n (MK KD IT PP') set = Tn n (MK KD IT PP') (wo set k) → ∀ tl C D rest al pr bs br cs cr or, Q 0 tl C D rest al pr bs br cs cr or) : wp_X0_isNeedlessAmong set (nI k) pv C0 D0 al pr br cr or (nI n) row Q := by
  obtain ⟨a, ha, hp, hnum, hT⟩ := hck.2 k hk
  have hw : WFn (KD k) (IT k) (PP' k) (pv.2.1 a) := (hck.1 k hk).congr (fun j hj => hnum j hj)
  refine e_X3_choose (set := wo set k) hn hck.cls (fun nb nc tl1 al1 pr1 bs1 br1 cs1 cr1 or1 hg hroom => ⟨vp_in_nI (by omega) (by decide), a, by rw [nI_clamp (by omega)]; exact ha, hp, ?_⟩)
  refine e_X1_opposite hp hw hT (fun q1 q3 v0 v1 v2 v3 v4 v5 al' hq hT' => ?_)
  refine e_X3_take (M' := fun od => ¬ MK KD IT PP' k od) (hg.grow hq) (Or.inr rfl) (by rw [pvAdd_eq1, pvAdd_eq2]; exact hT') (Or.inr (hroom k hk (by rw [wo_bt (by omega) (by omega), decide_eq_true rfl]; simp))) (fun nb' nc' tl' al2 pr2 bs2 br2 cs2 cr2 or2 _ _ hg' => ?_)
  refine e_X3_passOver (R := 0) hg' (by decide) (fun hle C D or' => ⟨fun _ => h1 ?_ _ _ _ _ _ _ _ _ _ _ _, fun z => absurd rfl z⟩) (fun m C D rest' or' m1 m2 m3 m4 => ⟨fun z => absurd z (by decide), fun _ => h0 (fun z => ?_) _ _ _ _ _ _ _ _ _ _ _⟩)
  · exact (need_iff hn hk hb).mpr (Nat.le_zero.mp hle)
  · have z' := (need_iff hn hk hb).mp z
    have mn := cnt_mono (p := pM (fun od => Mset n (wo set k) (MK KD IT PP') od ∧ ¬ MK KD IT PP' k od)) (show m + 1 ≤ 331776 by omega)
    rw [cnt_t m2] at mn
    omega
/-- the set of needless clues among the first k -/
noncomputable def NL (n : Nat) (Mk : Nat → (Nat → Nat) → Prop) : Nat → Int32
  | 0 => 0
  | k + 1 => @ite Int32 (Tn n Mk (aL n) = Tn n Mk (wo (aL n) k)) (Classical.propDecidable _) (NL n Mk k ||| (1 <<< (nI k &&& 31))) (NL n Mk k)
theorem NL_t {Mk : Nat → (Nat → Nat) → Prop} {k : Nat} (h : Tn n Mk (aL n) = Tn n Mk (wo (aL n) k)) : NL n Mk (k + 1) = NL n Mk k ||| (1 <<< (nI k &&& 31)) := by
  show @ite Int32 _ (Classical.propDecidable _) _ _ = _
  rw [if_pos h]
theorem NL_f {Mk : Nat → (Nat → Nat) → Prop} {k : Nat} (h : ¬ Tn n Mk (aL n) = Tn n Mk (wo (aL n) k)) : NL n Mk (k + 1) = NL n Mk k := by
  show @ite Int32 _ (Classical.propDecidable _) _ _ = _
  rw [if_neg h]
set_option maxHeartbeats 1000000 in
theorem e_X0_needlessSet (hn : n ≤ 12) (hck : CK pv n row zc KD IT PP') {kN : Int32} (hN : kN = -6 ∨ kN = NL n (MK KD IT PP') n) {Q : Int32 → Int32 → Int32 → Int32 → Int32 → Int32 → (Nat → Int32) → (Nat → Int32) → Int32 → (Nat → Option Nat) → Int32 → (Nat → Option Nat) → (Nat → Int32) → Prop}
    (h : ∀ tl C D rest al pr bs br cs cr or, Q (NL n (MK KD IT PP') n) (NL n (MK KD IT PP') n) tl C D rest al pr bs br cs cr or) : wp_X0_needlessSet pv kN tl C0 D0 rest al pr bs br cs cr or (nI n) row Q := by
  refine ⟨fun _ => ?_, fun e => ?_⟩
  · refine ⟨fun l2 l3 _ _ _ _ _ _ _ _ _ _ _ _ cc ss => ∃ k, k ≤ n ∧ l3 = nI k ∧ l2 = NL n (MK KD IT PP') k ∧ cc = 2 * k ∧ ss = 25 * k, fun _ l3 _ _ _ _ _ _ _ _ _ _ _ _ _ _ => 12 - l3.toNatClampNeg, ⟨0, Nat.zero_le _, nI_0.symm, rfl, rfl, rfl⟩, ?_⟩
    rintro l2 l3 k1 tl1 C1 D1 rest1 al1 pr1 bs1 br1 cs1 cr1 or1 cc ss ⟨k, hk, rfl, rfl, rfl, rfl⟩
    refine ⟨fun d => ?_, fun d => ?_⟩
    · have ek : k = n := Nat.le_antisymm hk ((nI_leI (by omega) (by omega)).mp d)
      subst ek
      exact ⟨⟨by omega, by omega⟩, h _ _ _ _ _ _ _ _ _ _ _⟩
    · have hlt : k < n := Nat.lt_of_not_le (fun q => d ((nI_leI (by omega) (by omega)).mpr q))
      have mu := mu_dec (B := 12) (i := k) (by omega) (by decide)
      refine ⟨⟨by omega, by omega⟩, e_X2_all ⟨⟨by omega, by omega⟩, ?_⟩⟩
      rw [nI_1]
      refine e_X0_isNeedlessAmong hn hck hlt (by rw [aL_bt n (by omega) k (by omega), decide_eq_true hlt]) (fun q _ _ _ _ _ _ _ _ _ _ _ => ⟨fun z => absurd z (by decide), fun _ => ?_⟩) (fun q _ _ _ _ _ _ _ _ _ _ _ => ⟨fun _ => ⟨⟨k + 1, hlt, rfl, (NL_f q).symm, by omega, by omega⟩, mu⟩, fun z => absurd rfl z⟩)
      rintro _ rfl
      exact ⟨⟨k + 1, hlt, rfl, (NL_t q).symm, by omega, by omega⟩, mu⟩
  · rw [hN.resolve_left e]
    exact h _ _ _ _ _ _ _ _ _ _ _
theorem e_X7_needless (hn : n ≤ 12) (hMC : MC n zc KD IT PP') (hRO : RO zo) {Q : Int32 → Int32 → Int32 → Int32 → (Nat → Int32) → Prop} (h : ∀ a b c d, Q (NL n (MK KD IT PP') n) a b c d) : wp_X7_needless zc (nI n) zo pl Q := by
  refine e_X7_all (e_sum0 hn hMC hRO (fun pl1 => ?_))
  refine ⟨fun l1 l2 l3 _ _ _ _ => l1 = nI (Tn n (MK KD IT PP') (aL n)) ∧ ∃ k, k ≤ n ∧ l3 = nI k ∧ l2 = NL n (MK KD IT PP') k, fun _ _ l3 _ _ _ _ => 12 - l3.toNatClampNeg, ⟨rfl, 0, Nat.zero_le _, nI_0.symm, rfl⟩, ?_⟩
  rintro l1 l2 l3 pl2 s f g ⟨rfl, k, hk, rfl, rfl⟩
  refine ⟨fun d => ?_, fun d => ?_⟩
  · have ek : k = n := Nat.le_antisymm hk ((nI_leI (by omega) (by omega)).mp d)
    subst ek
    exact h _ _ _ _
  · have hlt : k < n := Nat.lt_of_not_le (fun q => d ((nI_leI (by omega) (by omega)).mpr q))
    have mu := mu_dec (B := 12) (i := k) (by omega) (by decide)
    rw [nI_1]
    have t1 := Tn_lt n (MK KD IT PP') (aL n)
    have t2 := Tn_lt n (MK KD IT PP') (wo (aL n) k)
    refine e_X7_all (e_sum0 (set := wo (aL n) k) hn hMC hRO (fun pl3 => ⟨fun e => ?_, fun e => ?_⟩))
    · have q := (nI_eq (by omega) (by omega)).mp e
      rintro _ rfl
      exact ⟨⟨rfl, k + 1, hlt, rfl, (NL_t q.symm).symm⟩, mu⟩
    · rintro _ rfl
      refine ⟨⟨rfl, k + 1, hlt, rfl, ?_⟩, mu⟩
      rw [NL_f (fun q => e (by rw [q])), Int32.or_zero]
theorem op_needless (hn : n ≤ 12) (hck : CK pv n row zc KD IT PP') (hRO : RO zo) {kN : Int32} (hN : kN = -6 ∨ kN = NL n (MK KD IT PP') n)
    {F : Int32 → Int32 → Int32 → Int32 → Int32 → Int32 → (Nat → Int32) → (Nat → Int32) → Int32 → (Nat → Option Nat) → Int32 → (Nat → Option Nat) → (Nat → Int32) → Int32 → Int32 → Int32 → Int32 → (Nat → Int32) → Prop}
    (hF : ∀ r kN' tl C D rest al pr bs br cs cr or a b c d, (kN' = -6 ∨ kN' = NL n (MK KD IT PP') n) → F r kN' tl C D rest al pr bs br cs cr or r a b c d) :
    wp_X6_needless pv (nI n) row kN tl C0 D0 rest al pr bs br cs cr or (fun r kN' tl C D rest al pr bs br cs cr or => wp_X7_needless zc (nI n) zo pl (fun r2 a b c d => F r kN' tl C D rest al pr bs br cs cr or r2 a b c d)) :=
  e_X0_needlessSet hn hck hN (fun _ _ _ _ _ _ _ _ _ _ _ => e_X7_needless hn hck.1 hRO (fun _ _ _ _ => hF _ _ _ _ _ _ _ _ _ _ _ _ _ _ _ _ _ (Or.inr rfl)))
/-- the core behind d steps: clues n - 1, .., n - d are looked at -/
noncomputable def CO (n : Nat) (Mk : Nat → (Nat → Nat) → Prop) : Nat → Int32
  | 0 => aL n
  | d + 1 => @ite Int32 (Tn n Mk (wo (CO n Mk d) (n - 1 - d)) = Tn n Mk (aL n)) (Classical.propDecidable _) (wo (CO n Mk d) (n - 1 - d)) (CO n Mk d)
theorem CO_t {Mk : Nat → (Nat → Nat) → Prop} {d : Nat} (h : Tn n Mk (wo (CO n Mk d) (n - 1 - d)) = Tn n Mk (aL n)) : CO n Mk (d + 1) = wo (CO n Mk d) (n - 1 - d) := by
  show @ite Int32 _ (Classical.propDecidable _) _ _ = _
  rw [if_pos h]
theorem CO_f {Mk : Nat → (Nat → Nat) → Prop} {d : Nat} (h : ¬ Tn n Mk (wo (CO n Mk d) (n - 1 - d)) = Tn n Mk (aL n)) : CO n Mk (d + 1) = CO n Mk d := by
  show @ite Int32 _ (Classical.propDecidable _) _ _ = _
  rw [if_neg h]
theorem CO_ok {Mk : Nat → (Nat → Nat) → Prop} (hn : n ≤ 12) : ∀ d, d ≤ n → Tn n Mk (CO n Mk d) = Tn n Mk (aL n) ∧ ∀ i, i < n - d → bt (CO n Mk d) i = true
  | 0, _ => ⟨rfl, fun i hi => by
      show bt (aL n) i = true
      rw [aL_bt n (by omega) i (by omega), decide_eq_true (by omega)]⟩
  | d + 1, hd => by
    obtain ⟨h1, h2⟩ := CO_ok (Mk := Mk) hn d (by omega)
    by_cases h : Tn n Mk (wo (CO n Mk d) (n - 1 - d)) = Tn n Mk (aL n)
    · rw [CO_t h]
      refine ⟨h, fun i hi => ?_⟩
      rw [wo_bt (by omega) (by omega), h2 i (by omega), decide_eq_false (by omega)]
      rfl
    · rw [CO_f h]
      exact ⟨h1, fun i hi => h2 i (by omega)⟩
theorem m1_pos {k : Nat} (hk : k < 1000) : nI k + (-1) = if k = 0 then -1 else nI (k - 1) := by
  by_cases e : k = 0
  · subst e; decide
  · rw [if_neg e]
    obtain ⟨j, rfl⟩ : ∃ j, k = j + 1 := ⟨k - 1, by omega⟩
    rw [pk_m1]; rfl
/-- a falling count: n - 1 - d, or -1 behind the last -/
def dn (n d : Nat) : Int32 := if d < n then nI (n - 1 - d) else -1
theorem dn_0 {n : Nat} (hn : n ≤ 12) : nI n - 1 = dn n 0 := by
  unfold dn
  by_cases h : 0 < n
  · rw [if_pos h, show (1 : Int32) = nI 1 from rfl, pk_sub (by omega)]; rfl
  · rw [if_neg h, show n = 0 by omega]; decide
theorem dn_neg {n d : Nat} (hn : n ≤ 12) : dn n d < 0 ↔ ¬ d < n := by
  unfold dn
  by_cases h : d < n
  · rw [if_pos h]
    exact ⟨fun q => absurd q (nI_pos (by omega)), fun q => absurd h q⟩
  · rw [if_neg h]
    exact ⟨fun _ => h, fun _ => by decide⟩
theorem dn_in {n d : Nat} (h : d < n) : dn n d = nI (n - 1 - d) := if_pos h
theorem dn_1 {n d : Nat} (hn : n ≤ 12) (h : d < n) : nI (n - 1 - d) + (-1) = dn n (d + 1) := by
  unfold dn
  by_cases q : d + 1 < n
  · rw [if_pos q, show n - 1 - d = (n - 1 - (d + 1)) + 1 by omega, pk_m1]
  · rw [if_neg q, show n - 1 - d = 0 by omega]; decide
theorem mu_dn {n d : Nat} (hn : n ≤ 12) (h : d < n) : (dn n (d + 1) + 1).toNatClampNeg < (dn n d + 1).toNatClampNeg := by
  rw [dn_in h, nI_1, nI_clamp (by omega)]
  by_cases q : d + 1 < n
  · rw [dn_in q, nI_1, nI_clamp (by omega)]; omega
  · unfold dn
    rw [if_neg q]
    have : ((-1 : Int32) + 1).toNatClampNeg = 0 := by decide
    omega
set_option maxHeartbeats 1000000 in
theorem e_X0_coreSet (hn : n ≤ 12) (hck : CK pv n row zc KD IT PP') {kC : Int32} (hC : kC = -6 ∨ kC = CO n (MK KD IT PP') n) {Q : Int32 → Int32 → Int32 → Int32 → Int32 → Int32 → (Nat → Int32) → (Nat → Int32) → Int32 → (Nat → Option Nat) → Int32 → (Nat → Option Nat) → (Nat → Int32) → Prop}
    (h : ∀ tl C D rest al pr bs br cs cr or, Q (CO n (MK KD IT PP') n) (CO n (MK KD IT PP') n) tl C D rest al pr bs br cs cr or) : wp_X0_coreSet pv kC tl C0 D0 rest al pr bs br cs cr or (nI n) row Q := by
  refine ⟨fun _ => e_X2_all ?_, fun e => ?_⟩
  · rintro _ rfl
    rw [dn_0 hn]
    refine ⟨fun l2 l3 _ _ _ _ _ _ _ _ _ _ _ _ cc ss => ∃ d, d ≤ n ∧ l3 = dn n d ∧ l2 = CO n (MK KD IT PP') d ∧ cc = 2 * d ∧ ss = 25 * d, fun _ l3 _ _ _ _ _ _ _ _ _ _ _ _ _ _ => (l3 + 1).toNatClampNeg, ⟨0, Nat.zero_le _, rfl, rfl, rfl, rfl⟩, ?_⟩
    rintro l2 l3 k1 tl1 C1 D1 rest1 al1 pr1 bs1 br1 cs1 cr1 or1 cc ss ⟨d, hd, rfl, rfl, rfl, rfl⟩
    rw [dn_neg hn]
    refine ⟨fun q => ?_, fun q => ?_⟩
    · have ed : d = n := by omega
      subst ed
      exact ⟨⟨by omega, by omega⟩, h _ _ _ _ _ _ _ _ _ _ _⟩
    · have hlt : d < n := Classical.not_not.mp q
      have mu := mu_dn hn hlt
      obtain ⟨o1, o2⟩ := CO_ok (Mk := MK KD IT PP') hn d hd
      rw [dn_in hlt, dn_1 hn hlt]
      refine ⟨⟨by omega, by omega⟩, ?_⟩
      refine e_X0_isNeedlessAmong hn hck (show n - 1 - d < n by omega) (o2 _ (by omega)) (fun q _ _ _ _ _ _ _ _ _ _ _ => ⟨fun z => absurd z (by decide), fun _ => ?_⟩) (fun q _ _ _ _ _ _ _ _ _ _ _ => ⟨fun _ => ⟨⟨d + 1, hlt, rfl, (CO_f (fun z => q (o1.trans z.symm))).symm, by omega, by omega⟩, ?_⟩, fun z => absurd rfl z⟩)
      · rintro _ rfl
        refine ⟨⟨d + 1, hlt, rfl, (CO_t (q.symm.trans o1)).symm, by omega, by omega⟩, ?_⟩
        rw [← dn_in hlt]; exact mu
      · rw [← dn_in hlt]; exact mu
  · rw [hC.resolve_left e]
    exact h _ _ _ _ _ _ _ _ _ _ _
theorem e_X7_coreNow (hn : n ≤ 12) (hMC : MC n zc KD IT PP') (hRO : RO zo) {Q : Int32 → Int32 → Int32 → Int32 → (Nat → Int32) → Prop} (h : ∀ a b c d, Q (CO n (MK KD IT PP') n) a b c d) : wp_X7_coreNow zc (nI n) zo pl Q := by
  refine e_X7_all (e_sum0 hn hMC hRO (fun pl1 => e_X7_all ?_))
  rintro _ rfl
  rw [dn_0 hn]
  refine ⟨fun l1 l2 l3 _ _ _ _ => l1 = nI (Tn n (MK KD IT PP') (aL n)) ∧ ∃ d, d ≤ n ∧ l3 = dn n d ∧ l2 = CO n (MK KD IT PP') d, fun _ _ l3 _ _ _ _ => (l3 + 1).toNatClampNeg, ⟨rfl, 0, Nat.zero_le _, rfl, rfl⟩, ?_⟩
  rintro l1 l2 l3 pl2 s f g ⟨rfl, d, hd, rfl, rfl⟩
  rw [dn_neg hn]
  refine ⟨fun q => ?_, fun q => ?_⟩
  · have ed : d = n := by omega
    subst ed
    exact h _ _ _ _
  · have hlt : d < n := Classical.not_not.mp q
    have mu := mu_dn hn hlt
    rw [dn_in hlt, dn_1 hn hlt]
    have t1 := Tn_lt n (MK KD IT PP') (aL n)
    have t2 := Tn_lt n (MK KD IT PP') (wo (CO n (MK KD IT PP') d) (n - 1 - d))
    refine e_sum0 (set := wo (CO n (MK KD IT PP') d) (n - 1 - d)) hn hMC hRO (fun pl3 => ⟨fun e => ?_, fun e => ?_⟩)
    · have q := (nI_eq (by omega) (by omega)).mp e
      rintro _ rfl
      refine ⟨⟨rfl, d + 1, hlt, rfl, (CO_t q).symm⟩, ?_⟩
      rw [← dn_in hlt]; exact mu
    · refine ⟨⟨rfl, d + 1, hlt, rfl, (CO_f (fun q => e (by rw [q]))).symm⟩, ?_⟩
      rw [← dn_in hlt]; exact mu
theorem op_core (hn : n ≤ 12) (hck : CK pv n row zc KD IT PP') (hRO : RO zo) {kC : Int32} (hC : kC = -6 ∨ kC = CO n (MK KD IT PP') n)
    {F : Int32 → Int32 → Int32 → Int32 → Int32 → Int32 → (Nat → Int32) → (Nat → Int32) → Int32 → (Nat → Option Nat) → Int32 → (Nat → Option Nat) → (Nat → Int32) → Int32 → Int32 → Int32 → Int32 → (Nat → Int32) → Prop}
    (hF : ∀ r kC' tl C D rest al pr bs br cs cr or a b c d, (kC' = -6 ∨ kC' = CO n (MK KD IT PP') n) → F r kC' tl C D rest al pr bs br cs cr or r a b c d) :
    wp_X6_core pv (nI n) row kC tl C0 D0 rest al pr bs br cs cr or (fun r kC' tl C D rest al pr bs br cs cr or => wp_X7_core zc (nI n) zo pl (fun r2 a b c d => F r kC' tl C D rest al pr bs br cs cr or r2 a b c d)) :=
  e_X0_coreSet hn hck hC (fun _ _ _ _ _ _ _ _ _ _ _ => e_X7_coreNow hn hck.1 hRO (fun _ _ _ _ => hF _ _ _ _ _ _ _ _ _ _ _ _ _ _ _ _ _ (Or.inr rfl)))
end NEED
