/-! ===== mathematics: answers, answer, often, together, met ===== -/
section OPSA
variable {pv : PV} {n : Nat} {row : Nat → Option Nat} {zc zo pl kp : Nat → Int32} {KD : Nat → Nat} {IT : Nat → Nat → Nat} {PP' : Nat → Nat} {tl C0 D0 rest bs cs kT kA s0 f0 g0 : Int32} {al pr or : Nat → Int32} {br cr : Nat → Option Nat}
theorem op_answers (hn : n ≤ 12) (hck : CK pv n row zc KD IT PP') (hRO : RO zo) (hT : kT = -6 ∨ kT = nI (Tn n (MK KD IT PP') (aL n)))
    {F : Int32 → Int32 → Int32 → Int32 → Int32 → Int32 → (Nat → Int32) → (Nat → Int32) → Int32 → (Nat → Option Nat) → Int32 → (Nat → Option Nat) → (Nat → Int32) → Int32 → Int32 → Int32 → Int32 → (Nat → Int32) → Prop}
    (hF : ∀ r kT' tl C D rest al pr bs br cs cr or a b c d, (kT' = -6 ∨ kT' = nI (Tn n (MK KD IT PP') (aL n))) → F r kT' tl C D rest al pr bs br cs cr or r a b c d) :
    wp_X6_answers pv (nI n) row kT tl C0 D0 rest al pr bs br cs cr or (fun r kT' tl C D rest al pr bs br cs cr or => wp_X7_answers zc (nI n) zo pl (fun r2 a b c d => F r kT' tl C D rest al pr bs br cs cr or r2 a b c d)) :=
  e_X0_total hn hck.cls hT (fun _ _ _ _ _ _ _ _ _ _ _ => e_X7_all (e_sum0 hn hck.1 hRO (fun _ => hF _ _ _ _ _ _ _ _ _ _ _ _ _ _ _ _ _ (Or.inr rfl))))
theorem wC_1 {i item c m : Nat} (hit : item < 16) : wC 1 (nI i) (nI item) c m = if nI c = nI i then nI (colN (odM m (item / 4)) (item % 4) + 1) else 0 := by
  unfold wC
  rw [if_pos rfl, nI_clamp (n := item) (by omega)]
theorem m_answer (hn : n ≤ 12) (hMC : MC n zc KD IT PP') (hRO : RO zo) {i item : Nat} (hi : i < 2 ^ 31) (hit : item < 16) {r : Int32} (hr : AnsR (Mset n (aL n) (MK KD IT PP')) i item r) {Q : Int32 → Int32 → Int32 → Int32 → (Nat → Int32) → Prop} (h : ∀ a b c d, Q r a b c d) : wp_X7_answer (nI i) (nI item) zc (nI n) zo pl s0 f0 g0 Q := by
  refine ⟨fun c => absurd c (nI_pos hi), fun _ => e_X7_isItem (fun j hj e => ⟨fun z => absurd z (by decide), fun _ => ?_⟩) (fun q => absurd ⟨item, hit, rfl⟩ q)⟩
  refine e_X7_all (e_X7_sum hn hMC hRO ⟨fun _ => vp_in_nI hit (by decide), fun e => absurd e (by decide), fun e => absurd e (by decide)⟩ (fun pl' => ?_))
  have lo : ∀ c m, c < i → wC 1 (nI i) (nI item) c m = 0 := fun c m hc => by
    rw [wC_1 hit, if_neg (fun e => by have := (nI_eq (by omega) hi).mp e; omega)]
  rcases hr with ⟨hle, rfl⟩ | ⟨m, hm, hp, hcn, rfl⟩
  · have e0 : sumW (evM n (aL n) KD IT PP') (wC 1 (nI i) (nI item)) 331776 = 0 := sumW_lo lo 331776 hle
    rw [e0]
    exact ⟨fun _ => h _ _ _ _, fun z => absurd rfl z⟩
  · have hod := odM_ok hm (item / 4) (by omega)
    have c1 := col_ok (odM m (item / 4)) hod (item % 4) (Nat.mod_lt _ (by decide))
    have e1 : sumW (evM n (aL n) KD IT PP') (wC 1 (nI i) (nI item)) (m + 1 + (331776 - (m + 1))) = nI (colN (odM m (item / 4)) (item % 4) + 1) := by
      refine sumW_at lo (fun c x hc hc' => ?_) hp hcn ?_ _ (by omega)
      · rw [wC_1 hit, if_neg (fun e => by have := (nI_eq (by omega) hi).mp e; omega)]
      · rw [wC_1 hit, if_pos rfl]
    rw [show m + 1 + (331776 - (m + 1)) = 331776 by omega] at e1
    rw [e1]
    exact ⟨fun z => absurd z (nI_ne0 (by omega) (by omega)), fun _ => h _ _ _ _⟩
theorem op_answer {x y : Int32} (hn : n ≤ 12) (hck : CK pv n row zc KD IT PP') (hRO : RO zo) (hk : KA (Mset n (aL n) (MK KD IT PP')) kA kp) {G1 G2 : Prop} (hG1 : G1) (hG2 : G2)
    {F : Int32 → Int32 → (Nat → Int32) → Int32 → Int32 → Int32 → Int32 → (Nat → Int32) → (Nat → Int32) → Int32 → (Nat → Option Nat) → Int32 → (Nat → Option Nat) → (Nat → Int32) → Int32 → Int32 → Int32 → Int32 → (Nat → Int32) → Prop}
    (hF : ∀ r kA' kp' tl C D rest al pr bs br cs cr or a b c d, KA (Mset n (aL n) (MK KD IT PP')) kA' kp' → F r kA' kp' tl C D rest al pr bs br cs cr or r a b c d) :
    wp_X6_answer x y pv (nI n) row kA kp tl C0 D0 rest al pr bs br cs cr or (fun r kA' kp' tl C D rest al pr bs br cs cr or => G1 ∧ (G2 ∧ wp_X7_answer x y zc (nI n) zo pl s0 f0 g0 (fun r2 a b c d => F r kA' kp' tl C D rest al pr bs br cs cr or r2 a b c d))) := by
  refine ⟨fun c => ⟨hG1, hG2, fun _ => hF _ _ _ _ _ _ _ _ _ _ _ _ _ _ _ _ _ _ hk, fun z => absurd c z⟩, fun c => e_X6_isItem (fun j hj e => ⟨fun z => absurd z (by decide), fun _ => ?_⟩) (fun q => ⟨fun _ => ⟨hG1, hG2, ?_⟩, fun z => absurd rfl z⟩)⟩
  · obtain ⟨i, hi, rfl⟩ := nI_of c
    subst e
    exact e_X0_placeIn hn hck.cls hi hj hk (fun _ _ _ _ _ _ _ _ _ _ _ _ _ _ hr hk' => ⟨hG1, hG2, m_answer hn hck.1 hRO hi hj hr (fun _ _ _ _ => hF _ _ _ _ _ _ _ _ _ _ _ _ _ _ _ _ _ _ hk')⟩)
  · exact ⟨fun z => absurd z c, fun _ => e_X7_isItem (fun j hj e => absurd ⟨j, hj, e⟩ q) (fun _ => ⟨fun _ => hF _ _ _ _ _ _ _ _ _ _ _ _ _ _ _ _ _ _ hk, fun z => absurd rfl z⟩)⟩
theorem op_often {x y : Int32} (hn : n ≤ 12) (hck : CK pv n row zc KD IT PP') (hRO : RO zo) {G1 G2 : Prop} (hG1 : G1) (hG2 : G2)
    {F : Int32 → Int32 → Int32 → Int32 → Int32 → (Nat → Int32) → (Nat → Int32) → Int32 → (Nat → Option Nat) → Int32 → (Nat → Option Nat) → (Nat → Int32) → Int32 → Int32 → Int32 → Int32 → (Nat → Int32) → Prop}
    (hF : ∀ r tl C D rest al pr bs br cs cr or a b c d, F r tl C D rest al pr bs br cs cr or r a b c d) :
    wp_X6_often x y pv (nI n) row tl C0 D0 rest al pr bs br cs cr or (fun r tl C D rest al pr bs br cs cr or => G1 ∧ (G2 ∧ wp_X7_often x y zc (nI n) zo pl s0 f0 g0 (fun r2 a b c d => F r tl C D rest al pr bs br cs cr or r2 a b c d))) := by
  refine e_X6_isItem (fun item hit ex => ⟨fun z => absurd z (by decide), fun _ => e_X6_isPlace (fun p hp1 hp4 ep => ⟨fun z => absurd z (by decide), fun _ => ?_⟩) (fun q => ⟨fun _ => ⟨hG1, hG2, ?_⟩, fun z => absurd rfl z⟩)⟩) (fun q => ⟨fun _ => ⟨hG1, hG2, ?_⟩, fun z => absurd rfl z⟩)
  · subst ex
    subst ep
    have wf : WFn 5 (fun _ => item) p (fun j => ([5, nI item, -6, -6, nI p] : List Int32).getD j 0) := by
      refine ⟨by decide, fun i hi => hit, fun i j hi hj hne => ?_, rfl, fun i hi => ?_, fun _ => ⟨hp1, hp4, rfl⟩, fun q => absurd rfl q⟩
      · have hi : i < 1 := hi
        have hj : j < 1 := hj
        omega
      · rcases (show i = 0 ∨ i = 1 ∨ i = 2 by omega) with e | e | e <;> subst e <;> rfl
    refine e_X1_of wf (fun q1 q2 top low high al' hq hT => ?_)
    refine e_X0_totalWith (M' := Mof 5 (fun _ => item) p) hn (hck.cls.grow hq) (Or.inr rfl) (by rw [pvAdd_eq1, pvAdd_eq2]; exact hT.1) (by rw [pvAdd_eq1]; exact hT.2.2 (by decide)) (fun tl C D rest al pr bs br cs cr or => ⟨hG1, hG2, ?_⟩)
    refine e_X7_isItem (fun _ _ _ => ⟨fun z => absurd z (by decide), fun _ => e_X7_isPlace (fun _ _ _ _ => ⟨fun z => absurd z (by decide), fun _ => ?_⟩) (fun q => absurd ⟨p, hp1, hp4, rfl⟩ q)⟩) (fun q => absurd ⟨item, hit, rfl⟩ q)
    refine e_X7_all (e_X7_sum hn hck.1 hRO ⟨fun e => absurd e (by decide), fun _ => vp_in_nI hit (by decide), fun e => absurd e (by decide)⟩ (fun pl' => ?_))
    have key := sumW_p (p := evM n (aL n) KD IT PP') (r := fun m => Mof 5 (fun _ => item) p (odM m)) (w := wC 2 (nI item) (nI p)) (N := 331776) (fun c m hm hr => ?_) (fun c m hm hr => ?_) 331776 (Nat.le_refl _)
    · rw [key]
      exact hF _ _ _ _ _ _ _ _ _ _ _ _ _ _ _ _
    · have hr : colN (odM m (item / 4)) (item % 4) + 1 = p := hr
      unfold wC
      rw [if_neg (by decide), if_pos rfl, nI_clamp (n := item) (by omega), hr, if_pos rfl]
    · have hod := odM_ok hm (item / 4) (by omega)
      have c1 := col_ok (odM m (item / 4)) hod (item % 4) (Nat.mod_lt _ (by decide))
      have hr : ¬ colN (odM m (item / 4)) (item % 4) + 1 = p := hr
      unfold wC
      rw [if_neg (by decide), if_pos rfl, nI_clamp (n := item) (by omega), if_neg (fun e => hr ((nI_eq (by omega) (by omega)).mp e))]
  · subst ex
    exact e_X7_isItem (fun _ _ _ => ⟨fun z => absurd z (by decide), fun _ => e_X7_isPlace (fun j a b e => absurd ⟨j, a, b, e⟩ q) (fun _ => ⟨fun _ => hF _ _ _ _ _ _ _ _ _ _ _ _ _ _ _ _, fun z => absurd rfl z⟩)⟩) (fun q => absurd ⟨item, hit, rfl⟩ q)
  · exact e_X7_isItem (fun j hj e => absurd ⟨j, hj, e⟩ q) (fun _ => ⟨fun _ => hF _ _ _ _ _ _ _ _ _ _ _ _ _ _ _ _, fun z => absurd rfl z⟩)
theorem op_together {x y : Int32} (hn : n ≤ 12) (hck : CK pv n row zc KD IT PP') (hRO : RO zo) (hT : kT = -6 ∨ kT = nI (Tn n (MK KD IT PP') (aL n))) {G1 G2 : Prop} (hG1 : G1) (hG2 : G2)
    {F : Int32 → Int32 → Int32 → Int32 → Int32 → Int32 → (Nat → Int32) → (Nat → Int32) → Int32 → (Nat → Option Nat) → Int32 → (Nat → Option Nat) → (Nat → Int32) → Int32 → Int32 → Int32 → Int32 → (Nat → Int32) → Prop}
    (hF : ∀ r kT' tl C D rest al pr bs br cs cr or a b c d, (kT' = -6 ∨ kT' = nI (Tn n (MK KD IT PP') (aL n))) → F r kT' tl C D rest al pr bs br cs cr or r a b c d) :
    wp_X6_together x y pv (nI n) row kT tl C0 D0 rest al pr bs br cs cr or (fun r kT' tl C D rest al pr bs br cs cr or => G1 ∧ (G2 ∧ wp_X7_together x y zc (nI n) zo pl s0 f0 g0 (fun r2 a b c d => F r kT' tl C D rest al pr bs br cs cr or r2 a b c d))) := by
  refine e_X6_isItem (fun one h1 ex => ⟨fun z => absurd z (by decide), fun _ => e_X6_isItem (fun other h2 ep => ⟨fun z => absurd z (by decide), fun _ => ⟨fun e => ?_, fun e => ?_⟩⟩) (fun q => ⟨fun _ => ⟨hG1, hG2, ?_⟩, fun z => absurd rfl z⟩)⟩) (fun q => ⟨fun _ => ⟨hG1, hG2, ?_⟩, fun z => absurd rfl z⟩)
  · subst ex
    subst ep
    have eo : one = other := (nI_eq (by omega) (by omega)).mp e
    subst eo
    refine e_X0_total hn hck.cls hT (fun _ _ _ _ _ _ _ _ _ _ _ => ⟨hG1, hG2, ?_⟩)
    refine e_X7_isItem (fun _ _ _ => ⟨fun z => absurd z (by decide), fun _ => e_X7_isItem (fun _ _ _ => ⟨fun z => absurd z (by decide), fun _ => ?_⟩) (fun q => absurd ⟨one, h1, rfl⟩ q)⟩) (fun q => absurd ⟨one, h1, rfl⟩ q)
    refine e_X7_all (e_X7_sum hn hck.1 hRO ⟨fun e => absurd e (by decide), fun e => absurd e (by decide), fun _ => ⟨vp_in_nI h1 (by decide), vp_in_nI h1 (by decide)⟩⟩ (fun pl' => ?_))
    have key := sumW_p (p := evM n (aL n) KD IT PP') (r := fun _ => True) (w := wC 3 (nI one) (nI one)) (N := 331776) (fun c m hm hr => ?_) (fun c m hm hr => absurd trivial hr) 331776 (Nat.le_refl _)
    · rw [key, show (fun x => evM n (aL n) KD IT PP' x ∧ True) = pM (Mset n (aL n) (MK KD IT PP')) from funext (fun x => by rw [and_true]; rfl)]
      exact hF _ _ _ _ _ _ _ _ _ _ _ _ _ _ _ _ _ (Or.inr rfl)
    · unfold wC
      rw [if_neg (by decide), if_neg (by decide), if_pos rfl, if_pos rfl]
  · subst ex
    subst ep
    have ne : one ≠ other := fun q => e (by rw [q])
    have wf : WFn 0 (fun i => if i = 0 then one else other) 0 (fun j => ([0, nI one, nI other, -6, -6] : List Int32).getD j 0) := by
      refine ⟨by decide, fun i hi => ?_, fun i j hi hj hne => ?_, rfl, fun i hi => ?_, fun q => absurd q (by decide), fun _ => rfl⟩
      · show (if i = 0 then one else other) < 16
        split <;> assumption
      · have hi : i < 2 := hi
        have hj : j < 2 := hj
        show (if i = 0 then one else other) ≠ (if j = 0 then one else other)
        rcases (show (i = 0 ∧ j = 1) ∨ (i = 1 ∧ j = 0) by omega) with ⟨a, b⟩ | ⟨a, b⟩ <;> subst a <;> subst b
        · exact ne
        · exact ne.symm
      · rcases (show i = 0 ∨ i = 1 ∨ i = 2 by omega) with e | e | e <;> subst e <;> rfl
    refine e_X1_of wf (fun q1 q2 top low high al' hq hT' => ?_)
    refine e_X0_totalWith (M' := Mof 0 (fun i => if i = 0 then one else other) 0) hn (hck.cls.grow hq) (Or.inr rfl) (by rw [pvAdd_eq1, pvAdd_eq2]; exact hT'.1) (by rw [pvAdd_eq1]; exact hT'.2.2 (by decide)) (fun tl C D rest al pr bs br cs cr or => ⟨hG1, hG2, ?_⟩)
    refine e_X7_isItem (fun _ _ _ => ⟨fun z => absurd z (by decide), fun _ => e_X7_isItem (fun _ _ _ => ⟨fun z => absurd z (by decide), fun _ => ?_⟩) (fun q => absurd ⟨other, h2, rfl⟩ q)⟩) (fun q => absurd ⟨one, h1, rfl⟩ q)
    refine e_X7_all (e_X7_sum hn hck.1 hRO ⟨fun e => absurd e (by decide), fun e => absurd e (by decide), fun _ => ⟨vp_in_nI h1 (by decide), vp_in_nI h2 (by decide)⟩⟩ (fun pl' => ?_))
    have key := sumW_p (p := evM n (aL n) KD IT PP') (r := fun m => Mof 0 (fun i => if i = 0 then one else other) 0 (odM m)) (w := wC 3 (nI one) (nI other)) (N := 331776) (fun c m hm hr => ?_) (fun c m hm hr => ?_) 331776 (Nat.le_refl _)
    · rw [key]
      exact hF _ _ _ _ _ _ _ _ _ _ _ _ _ _ _ _ _ hT
    · have hr : colN (odM m (one / 4)) (one % 4) = colN (odM m (other / 4)) (other % 4) := hr
      unfold wC
      rw [if_neg (by decide), if_neg (by decide), if_pos rfl, nI_clamp (n := one) (by omega), nI_clamp (n := other) (by omega), hr, if_pos rfl]
    · have hod := odM_ok hm (one / 4) (by omega)
      have c1 := col_ok (odM m (one / 4)) hod (one % 4) (Nat.mod_lt _ (by decide))
      have hod2 := odM_ok hm (other / 4) (by omega)
      have c2 := col_ok (odM m (other / 4)) hod2 (other % 4) (Nat.mod_lt _ (by decide))
      have hr : ¬ colN (odM m (one / 4)) (one % 4) = colN (odM m (other / 4)) (other % 4) := hr
      unfold wC
      rw [if_neg (by decide), if_neg (by decide), if_pos rfl, nI_clamp (n := one) (by omega), nI_clamp (n := other) (by omega), if_neg (fun e => hr (by have := (nI_eq (by omega) (by omega)).mp e; omega))]
  · subst ex
    exact e_X7_isItem (fun _ _ _ => ⟨fun z => absurd z (by decide), fun _ => e_X7_isItem (fun j a e => absurd ⟨j, a, e⟩ q) (fun _ => ⟨fun _ => hF _ _ _ _ _ _ _ _ _ _ _ _ _ _ _ _ _ hT, fun z => absurd rfl z⟩)⟩) (fun q => absurd ⟨one, h1, rfl⟩ q)
  · exact e_X7_isItem (fun j hj e => absurd ⟨j, hj, e⟩ q) (fun _ => ⟨fun _ => hF _ _ _ _ _ _ _ _ _ _ _ _ _ _ _ _ _ hT, fun z => absurd rfl z⟩)
theorem nI_bt {j k : Nat} (hj : j < 2 ^ 32) : bt (nI j) k = decide (j / 2 ^ k % 2 = 1) := by rw [bt_nat, pk_tn hj]
theorem p2_12 {n : Nat} (hn : n ≤ 12) : 1 ≤ 2 ^ n ∧ 2 ^ n ≤ 4096 := ⟨Nat.one_le_two_pow, by have := Nat.pow_le_pow_right (n := 2) (by decide) hn; omega⟩
theorem aL_tn {n : Nat} (hn : n ≤ 12) : (aL n).toBitVec.toNat = 2 ^ n - 1 := by
  have := p2_12 hn
  rw [aL_nI n (by omega), pk_tn (by omega)]
theorem in_all {x : Int32} (hn : n ≤ 12) : (x &&& (aL n ^^^ (-1))) = 0 ↔ (¬ x < 0 ∧ ¬ aL n < x) := by
  have p2 := p2_12 hn
  constructor
  · intro h
    have e : x = x &&& aL n := by
      apply b_ext
      intro i hi
      have hb : bt (x &&& (aL n ^^^ (-1))) i = false := by rw [h]; exact b_0 i
      rw [b_and, b_not _ i hi] at hb
      rw [b_and]
      revert hb
      cases bt x i <;> cases bt (aL n) i <;> simp
    rw [pk_and x n (aL_tn hn)] at e
    have hlt : x.toBitVec.toNat % 2 ^ n < 2 ^ n := Nat.mod_lt _ (by omega)
    generalize x.toBitVec.toNat % 2 ^ n = j at e hlt
    subst e
    rw [aL_nI n (by omega)]
    exact ⟨nI_pos (by omega), fun q => absurd ((nI_ltI (by omega) (by omega)).mp q) (by omega)⟩
  · rintro ⟨c, d⟩
    obtain ⟨j, hj, rfl⟩ := nI_of c
    rw [aL_nI n (by omega)] at d
    have hle : ¬ 2 ^ n - 1 < j := fun q => d ((nI_ltI (by omega) (by omega)).mpr q)
    apply b_ext
    intro i hi
    rw [b_and, b_not _ i hi, b_0, aL_bt n (by omega) i hi]
    by_cases q : i < n
    · rw [decide_eq_true q]; simp
    · have pp : 2 ^ n ≤ 2 ^ i := Nat.pow_le_pow_right (by decide) (by omega)
      rw [nI_bt (by omega), Nat.div_eq_of_lt (by omega)]
      simp
theorem op_met {x : Int32} (hn : n ≤ 12) (hck : CK pv n row zc KD IT PP') (hRO : RO zo) {G : Prop} (hG : G)
    {F : Int32 → Int32 → Int32 → Int32 → Int32 → (Nat → Int32) → (Nat → Int32) → Int32 → (Nat → Option Nat) → Int32 → (Nat → Option Nat) → (Nat → Int32) → Int32 → Int32 → Int32 → Int32 → (Nat → Int32) → Prop}
    (hF : ∀ r tl C D rest al pr bs br cs cr or a b c d, F r tl C D rest al pr bs br cs cr or r a b c d) :
    wp_X6_met x pv (nI n) row tl C0 D0 rest al pr bs br cs cr or (fun r tl C D rest al pr bs br cs cr or => G ∧ wp_X7_met x zc (nI n) zo pl s0 f0 g0 (fun r2 a b c d => F r tl C D rest al pr bs br cs cr or r2 a b c d)) := by
  refine e_X2_all ⟨fun e => ?_, fun e => ⟨hG, e_X7_all (e_X7_in (fun q => absurd ((in_all hn).mpr q) e) (fun _ => ⟨fun _ => hF _ _ _ _ _ _ _ _ _ _ _ _ _ _ _ _, fun z => absurd rfl z⟩))⟩⟩
  refine e_X0_meeting hn hck.cls (fun _ _ _ _ _ _ _ _ _ _ _ => ⟨hG, e_X7_all (e_X7_in (fun _ => ⟨fun z => absurd z (by decide), fun _ => e_sum0 hn hck.1 hRO (fun _ => hF _ _ _ _ _ _ _ _ _ _ _ _ _ _ _ _)⟩) (fun q => absurd ((in_all hn).mp e) q))⟩)
end OPSA
