/-! ===== mathematics: the RULES, as the class strikes ===== -/
/-- the first of N that has B; none has it -/
def Fst (B : Nat → Prop) (N m : Nat) : Prop := m < N ∧ B m ∧ ∀ x, x < m → ¬ B x
def Nne (B : Nat → Prop) (N : Nat) : Prop := ∀ x, x < N → ¬ B x
theorem Fst.uniq {B : Nat → Prop} {N m m' : Nat} (h : Fst B N m) (h' : Fst B N m') : m = m' := by
  rcases Nat.lt_trichotomy m m' with q | q | q
  · exact absurd h.2.1 (h'.2.2 m q)
  · exact q
  · exact absurd h'.2.1 (h.2.2 m' q)
theorem Nne.snoc {B : Nat → Prop} {N : Nat} (h : Nne B N) (hn : ¬ B N) : Nne B (N + 1) := fun x hx => by
  by_cases e : x = N
  · subst e; exact hn
  · exact h x (by omega)
def B0 (KD : Nat → Nat) (IT : Nat → Nat → Nat) (PP' : Nat → Nat) (S : Nat → Nat) (m : Nat) : Prop := m / 4 % 3 < mI (KD (m / 12)) ∧ (S (IT (m / 12) (m / 4 % 3))).testBit (m % 4) = true ∧ ¬ mayP (KD (m / 12)) (PP' (m / 12)) (fun j => S (IT (m / 12) j)) (m / 4 % 3) (m % 4)
theorem ix12 {k i r : Nat} (hi : i < 3) (hr : r < 4) : (12 * k + 4 * i + r) / 12 = k ∧ (12 * k + 4 * i + r) / 4 % 3 = i ∧ (12 * k + 4 * i + r) % 4 = r := ⟨by omega, by omega, by omega⟩
theorem B0_at {KD : Nat → Nat} {IT : Nat → Nat → Nat} {PP' : Nat → Nat} {S : Nat → Nat} {k i r : Nat} (hi : i < 3) (hr : r < 4) : B0 KD IT PP' S (12 * k + 4 * i + r) ↔ i < mI (KD k) ∧ (S (IT k i)).testBit r = true ∧ ¬ mayP (KD k) (PP' k) (fun j => S (IT k j)) i r := by
  obtain ⟨e1, e2, e3⟩ := ix12 (k := k) hi hr
  unfold B0
  rw [e1, e2, e3]
theorem WFn.itv {kd : Nat} {it : Nat → Nat} {p : Nat} {f : Nat → Int32} (h : WFn kd it p f) {i : Nat} (hi : i < mI kd) : itv (f 1) (f 2) (f 3) i = nI (it i) := by
  obtain ⟨f1, f2, f3⟩ := h.its
  have hm := mI_le kd
  rcases (show i = 0 ∨ i = 1 ∨ i = 2 by omega) with e | e | e <;> subst e
  · exact f1
  · rw [if_pos hi] at f2; exact f2
  · rw [if_pos hi] at f3; exact f3
def B1 (S : Nat → Nat) (m : Nat) : Prop := pc (S (m / 4)) = 1 ∧ m / 16 * 4 + m % 4 ≠ m / 4 ∧ ¬ (nI (2 * S (m / 16 * 4 + m % 4)) &&& nI (2 * S (m / 4)) = 0)
theorem ix4 {k o : Nat} (ho : o < 4) : (4 * k + o) / 4 = k ∧ (4 * k + o) / 16 = k / 4 ∧ (4 * k + o) % 4 = o := ⟨by omega, by omega, by omega⟩
theorem B1_at {S : Nat → Nat} {k o : Nat} (ho : o < 4) : B1 S (4 * k + o) ↔ pc (S k) = 1 ∧ k / 4 * 4 + o ≠ k ∧ ¬ (nI (2 * S (k / 4 * 4 + o)) &&& nI (2 * S k) = 0) := by
  obtain ⟨e1, e2, e3⟩ := ix4 (k := k) ho
  unfold B1
  rw [e1, e2, e3]
/-- a place is left to one item alone of a category -/
def Only (S : Nat → Nat) (cat r item : Nat) : Prop := item / 4 = cat ∧ (S item).testBit r = true ∧ ∀ j, j / 4 = cat → j ≠ item → (S j).testBit r = false
theorem Only.uniq {S : Nat → Nat} {cat r i i' : Nat} (h : Only S cat r i) (h' : Only S cat r i') : i = i' := by
  by_cases e : i = i'
  · exact e
  · have := h'.2.2 i h.1 e
    rw [h.2.1] at this
    cases this
def B2 (S : Nat → Nat) (m : Nat) : Prop := ∃ item, Only S (m / 4) (m % 4) item ∧ ∃ x, x < 4 ∧ x ≠ m % 4 ∧ (S item).testBit x = true
theorem B2_at {S : Nat → Nat} {c r : Nat} (hr : r < 4) : B2 S (4 * c + r) ↔ ∃ item, Only S c r item ∧ ∃ x, x < 4 ∧ x ≠ r ∧ (S item).testBit x = true := by
  obtain ⟨e1, e2, e3⟩ := ix4 (k := c) hr
  unfold B2
  rw [e1, e3]
/-- the first place but r of a set -/
def D2 (w r x : Nat) : Prop := x < 4 ∧ x ≠ r ∧ w.testBit x = true ∧ ∀ y, y < x → y ≠ r → w.testBit y = false
theorem D2.uniq {w r x x' : Nat} (h : D2 w r x) (h' : D2 w r x') : x = x' := by
  rcases Nat.lt_trichotomy x x' with q | q | q
  · have := h'.2.2.2 x q h.2.1
    rw [h.2.2.1] at this
    cases this
  · exact q
  · have := h.2.2.2 x' q h'.2.1
    rw [h'.2.2.1] at this
    cases this
/-- a set without a place: empty, or its first place -/
theorem del_0 {w r u : Nat} (hu : u < 16) (h : ∀ x, x < 4 → u.testBit x = (w.testBit x && !decide (x = r))) : u = 0 ↔ ¬ ∃ x, x < 4 ∧ x ≠ r ∧ w.testBit x = true := by
  constructor
  · rintro rfl ⟨x, hx, hne, hb⟩
    have := h x hx
    rw [hb, decide_eq_false hne, Nat.zero_testBit] at this
    cases this
  · intro q
    by_cases e : u = 0
    · exact e
    · obtain ⟨c, hc, hb⟩ := w_ne u hu e
      have := h c hc
      rw [hb] at this
      have h2 := Bool.and_eq_true _ _ ▸ this.symm
      exact absurd ⟨c, hc, fun z => by rw [z, decide_eq_true rfl] at h2; exact absurd h2.2 (by decide), h2.1⟩ q
theorem del_D2 {w r u x : Nat} (h : ∀ x, x < 4 → u.testBit x = (w.testBit x && !decide (x = r))) (hf : Fp u x) : D2 w r x := by
  obtain ⟨h1, h2, h3⟩ := hf
  have a := h x h1
  rw [h2] at a
  have a2 := Bool.and_eq_true _ _ ▸ a.symm
  refine ⟨h1, fun z => ?_, a2.1, fun y hy hne => ?_⟩
  · rw [z, decide_eq_true rfl] at a2
    exact absurd a2.2 (by decide)
  · have b := h y (by omega)
    rw [h3 y hy, decide_eq_false hne] at b
    revert b
    cases w.testBit y <;> simp
section RUC
variable {pv : PV} {n : Nat} {row : Nat → Option Nat} {zc pl st : Nat → Int32} {KD : Nat → Nat} {IT : Nat → Nat → Nat} {PP' : Nat → Nat} {S : Nat → Nat} {sz : Int32} {Q : Int32 → Int32 → (Nat → Int32) → (Nat → Int32) → Prop}
set_option maxHeartbeats 1000000 in
theorem e_X4_strikeByClue (hn : n ≤ 12) (hck : CK pv n row zc KD IT PP') (hs : RS pl S) (hne : ∀ j, j < 16 → S j ≠ 0)
    (h1 : ∀ m, Fst (B0 KD IT PP' S) (12 * n) m → wp_X4_strike 0 (nI (m / 12)) (nI (IT (m / 12) (m / 4 % 3))) (nI (m % 4 + 1)) sz pl st (fun a b c => Q 1 a b c))
    (h0 : Nne (B0 KD IT PP' S) (12 * n) → Q 0 sz pl st) : wp_X4_strikeByClue pv sz pl st (nI n) row Q := by
  refine ⟨fun l2 s p t => s = sz ∧ p = pl ∧ t = st ∧ ∃ k, k ≤ n ∧ l2 = nI k ∧ Nne (B0 KD IT PP' S) (12 * k), fun l2 _ _ _ => 12 - l2.toNatClampNeg, ⟨rfl, rfl, rfl, 0, Nat.zero_le _, nI_0.symm, fun x hx => absurd hx (by omega)⟩, ?_⟩
  rintro l2 s1 p1 t1 ⟨rfl, rfl, rfl, k, hk, rfl, q⟩
  refine ⟨fun d => ?_, fun d => ?_⟩
  · have e : k = n := Nat.le_antisymm hk ((nI_leI (by omega) (by omega)).mp d)
    subst e
    exact h0 q
  · have hlt : k < n := Nat.lt_of_not_le (fun q => d ((nI_leI (by omega) (by omega)).mpr q))
    obtain ⟨a, ha, hp, hnum, hT⟩ := hck.2 k hlt
    have hw : WFn (KD k) (IT k) (PP' k) (pv.2.1 a) := (hck.1 k hlt).congr (fun j hj => hnum j hj)
    have hm := mI_le (KD k)
    have mu := mu_dec (B := 12) (i := k) (by omega) (by decide)
    refine ⟨vp_in_nI (by omega) (by decide), a, by rw [nI_clamp (by omega)]; exact ha, ?_⟩
    refine ⟨fun l2 p3 l4 s p t => l2 = nI k ∧ p3 = a ∧ s = s1 ∧ p = p1 ∧ t = t1 ∧ ∃ i, i ≤ mI (KD k) ∧ l4 = nI i ∧ Nne (B0 KD IT PP' S) (12 * k + 4 * i), fun _ _ l4 _ _ _ => 3 - l4.toNatClampNeg, ⟨rfl, rfl, rfl, rfl, rfl, 0, Nat.zero_le _, nI_0.symm, q⟩, ?_⟩
    rintro l2 p3 l4 s2 p2 t2 ⟨rfl, rfl, rfl, rfl, rfl, i, hi, rfl, q'⟩
    refine ⟨hp, ?_⟩
    rw [show pv.2.1 p3 0 = nI (KD k) from hw.2.2.2.1]
    refine e_X1_items hw.1 ⟨fun d => ?_, fun d => ?_⟩
    · have e : i = mI (KD k) := Nat.le_antisymm hi ((nI_leI (by omega) (by omega)).mp d)
      subst e
      refine ⟨⟨rfl, rfl, rfl, k + 1, hlt, nI_1 k, fun x hx => ?_⟩, by rw [nI_1]; exact mu⟩
      by_cases hx2 : x < 12 * k + 4 * mI (KD k)
      · exact q' x hx2
      · rintro ⟨b, -⟩
        rw [show x / 12 = k by omega] at b
        omega
    · have hil : i < mI (KD k) := Nat.lt_of_not_le (fun q => d ((nI_leI (by omega) (by omega)).mpr q))
      have i16 : IT k i < 16 := hw.2.1 i hil
      obtain ⟨es, S16⟩ := hs _ i16
      refine e_X1_itemAt (by omega) ?_
      rw [hw.itv hil]
      refine ⟨vp_in_nI i16 (by decide), e_X4_supported hp hw hs hne hil (fun v hv => ?_)⟩
      rintro _ rfl
      rw [nI_clamp (n := IT k i) (by omega), es]
      obtain ⟨u, hu, eu, hub⟩ := w_and S16 (v ^^^ (-1))
      rw [eu, w_eq0 hu]
      refine ⟨fun e0 => ⟨⟨rfl, rfl, rfl, rfl, rfl, i + 1, hil, nI_1 i, fun x hx => ?_⟩, ?_⟩, fun e0 => e_X4_firstOf hu e0 (fun r hf => ?_)⟩
      · by_cases hx2 : x < 12 * k + 4 * i
        · exact q' x hx2
        · obtain ⟨r, hr, rfl⟩ : ∃ r, r < 4 ∧ x = 12 * k + 4 * i + r := ⟨x - (12 * k + 4 * i), by omega, by omega⟩
          rw [B0_at (by omega) hr]
          rintro ⟨-, b, nm⟩
          have h3 := hub r
          rw [e0, Nat.zero_testBit, b, b_not _ _ (by omega), Bool.true_and] at h3
          refine nm ((hv r hr b).mp ?_)
          revert h3
          cases bt v (r + 1) <;> simp
      · rw [nI_1]; exact mu_dec (B := 3) (by omega) (by decide)
      · obtain ⟨hr, hb, hlo⟩ := hf
        have at_ : ∀ x, x < 4 → (u.testBit x = true ↔ (S (IT k i)).testBit x = true ∧ ¬ mayP (KD k) (PP' k) (fun j => S (IT k j)) i x) := fun x hx => by
          rw [hub x, b_not _ _ (by omega), Bool.and_eq_true]
          constructor
          · rintro ⟨b1, b2⟩
            refine ⟨b1, fun hmay => ?_⟩
            rw [(hv x hx b1).mpr hmay] at b2
            cases b2
          · rintro ⟨b1, b2⟩
            refine ⟨b1, ?_⟩
            cases hbv : bt v (x + 1) with
            | false => rfl
            | true => exact absurd ((hv x hx b1).mp hbv) b2
        have hh := h1 (12 * k + 4 * i + r) ⟨by omega, (B0_at (by omega) hr).mpr ⟨hil, (at_ r hr).mp hb⟩, fun x hx => ?_⟩
        · obtain ⟨e1, e2, e3⟩ := ix12 (k := k) (show i < 3 by omega) hr
          rw [e1, e2, e3] at hh
          exact hh
        · by_cases hx2 : x < 12 * k + 4 * i
          · exact q' x hx2
          · obtain ⟨y, hy, rfl⟩ : ∃ y, y < r ∧ x = 12 * k + 4 * i + y := ⟨x - (12 * k + 4 * i), by omega, by omega⟩
            rw [B0_at (by omega) (by omega)]
            rintro ⟨-, b⟩
            have := (at_ y (by omega)).mpr b
            rw [hlo y hy] at this
            cases this
theorem dvm {k : Nat} (hk : k < 16) : nI k / 4 * 4 = nI (k / 4 * 4) := by
  rw [dv4 hk, show (4 : Int32) = nI 4 from rfl, pk_mul]
theorem pc_ne {w : Nat} (h : pc w = 1) : w ≠ 0 := fun e => by
  rw [e] at h
  exact absurd h (by decide)
set_option maxHeartbeats 1000000 in
theorem e_X4_strikeByOnlyPlace (hs : RS pl S)
    (h1 : ∀ m r, Fst (B1 S) 64 m → Fp (S (m / 4)) r → wp_X4_strike 1 (-6) (nI (m / 16 * 4 + m % 4)) (nI (r + 1)) sz pl st (fun a b c => Q 1 a b c))
    (h0 : Nne (B1 S) 64 → Q 0 sz pl st) : wp_X4_strikeByOnlyPlace sz pl st Q := by
  refine ⟨fun l2 s p t => s = sz ∧ p = pl ∧ t = st ∧ ∃ k, k ≤ 16 ∧ l2 = nI k ∧ Nne (B1 S) (4 * k), fun l2 _ _ _ => 16 - l2.toNatClampNeg, ⟨rfl, rfl, rfl, 0, Nat.zero_le _, nI_0.symm, fun x hx => absurd hx (by omega)⟩, ?_⟩
  rintro l2 s1 p1 t1 ⟨rfl, rfl, rfl, k, hk, rfl, q⟩
  refine ⟨fun d => ?_, fun d => ?_⟩
  · have e : k = 16 := Nat.le_antisymm hk ((nI_leI (a := 16) (by decide) (by omega)).mp d)
    subst e
    exact h0 q
  · have hlt : k < 16 := Nat.lt_of_not_le (fun q => d ((nI_leI (a := 16) (by decide) (by omega)).mpr q))
    have mu := mu_dec (B := 16) (i := k) (by omega) (by decide)
    obtain ⟨es, S16⟩ := hs k hlt
    refine ⟨vp_in_nI hlt (by decide), ?_⟩
    rw [nI_clamp (n := k) (by omega), es]
    refine e_bc S16 ⟨fun e1 => ?_, fun e1 => ?_⟩
    · have p1' : pc (S k) = 1 := (nI_eq (b := 1) (by have := pc_le _ S16; omega) (by decide)).mp e1
      rintro _ rfl
      rw [dvm hlt]
      refine ⟨fun l1 l2 l3 s p t => l1 = nI k ∧ l2 = nI (k / 4 * 4) ∧ s = s1 ∧ p = p1 ∧ t = t1 ∧ ∃ o, o ≤ 4 ∧ l3 = nI (k / 4 * 4 + o) ∧ Nne (B1 S) (4 * k + o), fun _ _ l3 _ _ _ => 20 - l3.toNatClampNeg, ⟨rfl, rfl, rfl, rfl, rfl, 0, Nat.zero_le _, rfl, q⟩, ?_⟩
      rintro l1 l2 l3 s2 p2 t2 ⟨rfl, rfl, rfl, rfl, rfl, o, ho, rfl, q'⟩
      rw [show nI (k / 4 * 4) + 4 = nI (k / 4 * 4 + 4) from nI_add _ 4]
      have mu2 : o < 4 → 20 - (nI (k / 4 * 4 + o) + 1).toNatClampNeg < 20 - (nI (k / 4 * 4 + o)).toNatClampNeg := fun hol => by
        rw [nI_1]; exact mu_dec (by omega) (by decide)
      refine ⟨fun d => ?_, fun d => ?_⟩
      · have e : o = 4 := by
          have := (nI_leI (by omega) (by omega)).mp d
          omega
        subst e
        exact ⟨⟨rfl, rfl, rfl, k + 1, hlt, nI_1 k, q'⟩, by rw [nI_1]; exact mu⟩
      · have hol : o < 4 := by
          have : ¬ k / 4 * 4 + 4 ≤ k / 4 * 4 + o := fun q => d ((nI_leI (by omega) (by omega)).mpr q)
          omega
        have o16 : k / 4 * 4 + o < 16 := by omega
        obtain ⟨eo, So⟩ := hs _ o16
        refine ⟨fun e => ⟨⟨rfl, rfl, rfl, rfl, rfl, o + 1, hol, nI_1 _, q'.snoc (fun z => ?_)⟩, mu2 hol⟩, fun e => ?_⟩
        · exact ((B1_at hol).mp z).2.1 ((nI_eq (by omega) (by omega)).mp e)
        · refine ⟨vp_in_nI o16 (by decide), vp_in_nI hlt (by decide), ?_⟩
          rw [nI_clamp (n := k / 4 * 4 + o) (by omega), nI_clamp (n := k) (by omega), eo, es]
          refine ⟨fun f => ⟨⟨rfl, rfl, rfl, rfl, rfl, o + 1, hol, nI_1 _, q'.snoc (fun z => ((B1_at hol).mp z).2.2 f)⟩, ?_⟩, fun f => ⟨vp_in_nI hlt (by decide), e_X4_firstOf S16 (pc_ne p1') (fun r hf => ?_)⟩⟩
          · exact mu2 hol
          · obtain ⟨x1, x2, x3⟩ := ix4 (k := k) hol
            have hh := h1 (4 * k + o) r ⟨by omega, (B1_at hol).mpr ⟨p1', fun z => e (by rw [z]), f⟩, q'⟩ (by rw [x1]; exact hf)
            rw [x2, x3] at hh
            exact hh
    · refine ⟨⟨rfl, rfl, rfl, k + 1, hlt, nI_1 k, fun x hx => ?_⟩, by rw [nI_1]; exact mu⟩
      by_cases hx2 : x < 4 * k
      · exact q x hx2
      · rintro ⟨b, -⟩
        rw [show x / 4 = k by omega] at b
        exact e1 (by rw [b]; rfl)
theorem e_X4_onlyItemWith (hs : RS pl S) {cat r : Nat} (hc : cat < 4) (hr : r < 4) {Q : Int32 → Prop} (h1 : ∀ item, Only S cat r item → Q (nI item)) (h0 : (¬ ∃ item, Only S cat r item) → Q (-6)) : wp_X4_onlyItemWith (nI cat) (nI (r + 1)) pl Q := by
  rintro _ rfl
  unfold wp_X4_onlyItemWith_8
  rw [show (4 : Int32) * nI cat = nI (4 * cat) from pk_mul 4 cat, show nI (4 * cat) + 4 = nI (4 * cat + 4) from nI_add _ 4]
  refine ⟨fun l3 l4 => ∃ o, o ≤ 4 ∧ l4 = nI (4 * cat + o) ∧ ((l3 = -6 ∧ ∀ j, j < o → (S (4 * cat + j)).testBit r = false) ∨ ∃ t, t < o ∧ l3 = nI (4 * cat + t) ∧ (S (4 * cat + t)).testBit r = true ∧ ∀ j, j < o → j ≠ t → (S (4 * cat + j)).testBit r = false), fun _ l4 => 20 - l4.toNatClampNeg, ⟨0, Nat.zero_le _, rfl, Or.inl ⟨rfl, fun j hj => absurd hj (Nat.not_lt_zero _)⟩⟩, ?_⟩
  rintro l3 l4 ⟨o, ho, rfl, hst⟩
  refine ⟨fun d => ?_, fun d => ?_⟩
  · have e : o = 4 := by
      have := (nI_leI (by omega) (by omega)).mp d
      omega
    subst e
    rcases hst with ⟨rfl, ha⟩ | ⟨t, ht, rfl, hb, ha⟩
    · refine h0 (fun ⟨item, a1, a2, _⟩ => ?_)
      have := ha (item % 4) (by omega)
      rw [show 4 * cat + item % 4 = item by omega, a2] at this
      cases this
    · refine h1 _ ⟨by omega, hb, fun j hj hne => ?_⟩
      have := ha (j % 4) (by omega) (by omega)
      rw [show 4 * cat + j % 4 = j by omega] at this
      exact this
  · have hol : o < 4 := by
      have : ¬ 4 * cat + 4 ≤ 4 * cat + o := fun q => d ((nI_leI (by omega) (by omega)).mpr q)
      omega
    have mu : 20 - (nI (4 * cat + o) + 1).toNatClampNeg < 20 - (nI (4 * cat + o)).toNatClampNeg := by
      rw [nI_1]; exact mu_dec (by omega) (by decide)
    obtain ⟨eo, So⟩ := hs (4 * cat + o) (by omega)
    refine ⟨vp_in_nI (by omega) (by decide), ?_⟩
    rw [nI_clamp (n := 4 * cat + o) (by omega), eo]
    refine e_X6_isIn (by omega) (fun hb => ⟨fun z => absurd z (by decide), fun _ => ?_⟩) (fun hb => ⟨fun _ => ⟨⟨o + 1, hol, nI_1 _, ?_⟩, ?_⟩, fun z => absurd rfl z⟩)
    · rw [w_bt So] at hb
      rcases hst with ⟨rfl, ha⟩ | ⟨t, ht, rfl, hbt, ha⟩
      · refine ⟨fun _ => ⟨⟨o + 1, hol, nI_1 _, Or.inr ⟨o, by omega, rfl, hb, fun j hj hne => ha j (by omega)⟩⟩, ?_⟩, fun z => absurd rfl z⟩
        exact mu
      · refine ⟨fun z => absurd z (ne6 _ (by omega)), fun _ => h0 (fun ⟨item, a1, a2, a3⟩ => ?_)⟩
        by_cases e : 4 * cat + t = item
        · have := a3 (4 * cat + o) (by omega) (by omega)
          rw [hb] at this
          cases this
        · have := a3 (4 * cat + t) (by omega) e
          rw [hbt] at this
          cases this
    · rw [w_bt So] at hb
      rcases hst with ⟨rfl, ha⟩ | ⟨t, ht, rfl, hbt, ha⟩
      · refine Or.inl ⟨rfl, fun j hj => ?_⟩
        by_cases e : j = o
        · subst e; exact hb
        · exact ha j (by omega)
      · refine Or.inr ⟨t, by omega, rfl, hbt, fun j hj hne => ?_⟩
        by_cases e : j = o
        · subst e; exact hb
        · exact ha j (by omega) hne
    · exact mu
theorem Only.lt {cat r item : Nat} (hc : cat < 4) (h : Only S cat r item) : item < 16 := by
  have := h.1
  omega
set_option maxHeartbeats 1000000 in
theorem e_X4_strikeByOnlyItem (hs : RS pl S)
    (h1 : ∀ m item x, Fst (B2 S) 16 m → Only S (m / 4) (m % 4) item → D2 (S item) (m % 4) x → wp_X4_strike 2 (-6) (nI item) (nI (x + 1)) sz pl st (fun a b c => Q 1 a b c))
    (h0 : Nne (B2 S) 16 → Q 0 sz pl st) : wp_X4_strikeByOnlyItem sz pl st Q := by
  refine ⟨fun l2 s p t => s = sz ∧ p = pl ∧ t = st ∧ ∃ k, k ≤ 4 ∧ l2 = nI k ∧ Nne (B2 S) (4 * k), fun l2 _ _ _ => 4 - l2.toNatClampNeg, ⟨rfl, rfl, rfl, 0, Nat.zero_le _, nI_0.symm, fun x hx => absurd hx (by omega)⟩, ?_⟩
  rintro l2 s1 p1 t1 ⟨rfl, rfl, rfl, k, hk, rfl, q⟩
  refine ⟨fun d => ?_, fun d => ?_⟩
  · have e : k = 4 := Nat.le_antisymm hk ((nI_leI (a := 4) (by decide) (by omega)).mp d)
    subst e
    exact h0 q
  · have hlt : k < 4 := Nat.lt_of_not_le (fun q => d ((nI_leI (a := 4) (by decide) (by omega)).mpr q))
    have mu := mu_dec (B := 4) (i := k) (by omega) (by decide)
    refine ⟨fun l1 l2 s p t => l1 = nI k ∧ s = s1 ∧ p = p1 ∧ t = t1 ∧ ∃ r, r ≤ 4 ∧ l2 = nI (r + 1) ∧ Nne (B2 S) (4 * k + r), fun _ l2 _ _ _ => 5 - l2.toNatClampNeg, ⟨rfl, rfl, rfl, rfl, 0, Nat.zero_le _, rfl, q⟩, ?_⟩
    rintro l1 l2 s2 p2 t2 ⟨rfl, rfl, rfl, rfl, r, hr, rfl, q'⟩
    refine ⟨fun d => ?_, fun d => ?_⟩
    · have e : r = 4 := by
        have := (nI_ltI (a := 4) (by decide) (by omega)).mp d
        omega
      subst e
      exact ⟨⟨rfl, rfl, rfl, k + 1, hlt, nI_1 k, q'⟩, by rw [nI_1]; exact mu⟩
    · have hrl : r < 4 := by
        have : ¬ 4 < r + 1 := fun q => d ((nI_ltI (a := 4) (by decide) (by omega)).mpr q)
        omega
      have mu2 : 5 - (nI (r + 1) + 1).toNatClampNeg < 5 - (nI (r + 1)).toNatClampNeg := by
        rw [nI_1]; exact mu_dec (B := 5) (i := r + 1) (by omega) (by decide)
      refine e_X4_onlyItemWith hs hlt hrl (fun item ho => ⟨fun z => absurd z (ne6 _ (ho.lt hlt)), fun _ => ⟨vp_in_nI (ho.lt hlt) (by decide), ?_⟩⟩) (fun hno => ⟨fun _ => ⟨fun _ => ⟨⟨rfl, rfl, rfl, rfl, r + 1, hrl, nI_1 _, q'.snoc (fun z => ?_)⟩, mu2⟩, fun z => absurd rfl z⟩, fun z => absurd rfl z⟩)
      · obtain ⟨es, S16⟩ := hs item (ho.lt hlt)
        obtain ⟨u, hu, eu, hub⟩ := w_del (r := r) S16 hrl
        rw [nI_clamp (n := item) (by have := ho.lt hlt; omega), es, eu]
        unfold wp_X4_strikeByOnlyItem_43
        rw [w_eq0 hu, del_0 hu hub]
        refine ⟨fun e0 => ⟨⟨rfl, rfl, rfl, rfl, r + 1, hrl, nI_1 _, q'.snoc (fun z => ?_)⟩, mu2⟩, fun e0 => ?_⟩
        · obtain ⟨i2, ho2, hx⟩ := (B2_at hrl).mp z
          have := ho.uniq ho2
          subst this
          exact e0 hx
        · refine e_X4_firstOf hu (fun z => e0 ((del_0 hu hub).mp z)) (fun x hf => ?_)
          obtain ⟨x1, x2, x3⟩ := ix4 (k := k) hrl
          exact h1 (4 * k + r) item x ⟨by omega, (B2_at hrl).mpr ⟨item, ho, Classical.not_not.mp e0⟩, q'⟩ (by rw [x1, x3]; exact ho) (by rw [x3]; exact del_D2 hub hf)
      · obtain ⟨i2, ho2, hx⟩ := (B2_at hrl).mp z
        exact hno ⟨i2, ho2⟩
end RUC
