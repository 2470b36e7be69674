/-! ===== mathematics: the RULES, as the reference strikes ===== -/
section RUM
variable {n : Nat} {zc pl st : Nat → Int32} {KD : Nat → Nat} {IT : Nat → Nat → Nat} {PP' : Nat → Nat} {S : Nat → Nat} {sz : Int32} {Q : Int32 → Int32 → (Nat → Int32) → (Nat → Int32) → Prop}
set_option maxHeartbeats 1000000 in
theorem e_X7_strikeByClue (hn : n ≤ 12) (hMC : MC n zc KD IT PP') (hs : RS pl S)
    (h1 : ∀ m, Fst (B0 KD IT PP' S) (12 * n) m → wp_X7_strike 0 (nI (m / 12)) (nI (IT (m / 12) (m / 4 % 3))) (nI (m % 4 + 1)) pl st sz (fun a b c => Q 1 a b c))
    (h0 : Nne (B0 KD IT PP' S) (12 * n) → Q 0 sz pl st) : wp_X7_strikeByClue zc (nI n) pl st sz Q := by
  refine ⟨fun l2 p t s => s = sz ∧ p = pl ∧ t = st ∧ ∃ k, k ≤ n ∧ l2 = nI k ∧ Nne (B0 KD IT PP' S) (12 * k), fun l2 _ _ _ => 12 - l2.toNatClampNeg, ⟨rfl, rfl, rfl, 0, Nat.zero_le _, nI_0.symm, fun x hx => absurd hx (by omega)⟩, ?_⟩
  rintro l2 p1 t1 s1 ⟨rfl, rfl, rfl, k, hk, rfl, q⟩
  refine ⟨fun d => ?_, fun d => ?_⟩
  · have e : k = n := Nat.le_antisymm hk ((nI_leI (by omega) (by omega)).mp d)
    subst e
    exact h0 q
  · have hlt : k < n := Nat.lt_of_not_le (fun q => d ((nI_leI (by omega) (by omega)).mpr q))
    have hw := hMC k hlt
    have hm := mI_le (KD k)
    have mu := mu_dec (B := 12) (i := k) (by omega) (by decide)
    refine ⟨fun l1 l2 p t s => l1 = nI k ∧ s = s1 ∧ p = p1 ∧ t = t1 ∧ ∃ i, i ≤ 3 ∧ l2 = nI (i + 1) ∧ Nne (B0 KD IT PP' S) (12 * k + 4 * i), fun _ l2 _ _ _ => 4 - l2.toNatClampNeg, ⟨rfl, rfl, rfl, rfl, 0, Nat.zero_le _, rfl, q⟩, ?_⟩
    rintro l1 l2 p2 t2 s2 ⟨rfl, rfl, rfl, rfl, i, hi, rfl, q'⟩
    refine ⟨fun d => ?_, fun d => ?_⟩
    · have e : i = 3 := by
        have := (nI_ltI (a := 3) (by decide) (by omega)).mp d
        omega
      subst e
      exact ⟨⟨rfl, rfl, rfl, k + 1, hlt, nI_1 k, q'⟩, by rw [nI_1]; exact mu⟩
    · have hil : i < 3 := by
        have : ¬ 3 < i + 1 := fun q => d ((nI_ltI (a := 3) (by decide) (by omega)).mpr q)
        omega
      have mu2 : 4 - (nI (i + 1) + 1).toNatClampNeg < 4 - (nI (i + 1)).toNatClampNeg := by
        rw [nI_1]; exact mu_dec (B := 4) (i := i + 1) (by omega) (by decide)
      refine e_X7_of (j := i + 1) (by omega) (by omega) ?_
      have ev : zc (5 * k + (i + 1)) = if i < mI (KD k) then nI (IT k i) else -6 := by
        rw [Nat.add_comm i 1]
        exact hw.2.2.2.2.1 i hil
      rw [ev]
      by_cases him : i < mI (KD k)
      · rw [if_pos him]
        have i16 : IT k i < 16 := hw.2.1 i him
        refine ⟨fun l1 l2 l3 l4 p t s => l1 = nI k ∧ l2 = nI (i + 1) ∧ l3 = nI (IT k i) ∧ s = s2 ∧ p = p2 ∧ t = t2 ∧ ∃ r, r ≤ 4 ∧ l4 = nI (r + 1) ∧ Nne (B0 KD IT PP' S) (12 * k + 4 * i + r), fun _ _ _ l4 _ _ _ => 5 - l4.toNatClampNeg, ⟨rfl, rfl, rfl, rfl, rfl, rfl, 0, Nat.zero_le _, rfl, q'⟩, ?_⟩
        rintro l1 l2 l3 l4 p3 t3 s3 ⟨rfl, rfl, rfl, rfl, rfl, rfl, r, hr, rfl, q2⟩
        refine ⟨fun d => ?_, fun d => ⟨fun z => absurd z (nI_pos (by omega)), fun _ => ?_⟩⟩
        · have e : r = 4 := by
            have := (nI_ltI (a := 4) (by decide) (by omega)).mp d
            omega
          subst e
          exact ⟨⟨rfl, rfl, rfl, rfl, i + 1, by omega, nI_1 _, q2⟩, mu2⟩
        · have hrl : r < 4 := by
            have : ¬ 4 < r + 1 := fun q => d ((nI_ltI (a := 4) (by decide) (by omega)).mpr q)
            omega
          have mu3 : 5 - (nI (r + 1) + 1).toNatClampNeg < 5 - (nI (r + 1)).toNatClampNeg := by
            rw [nI_1]; exact mu_dec (B := 5) (i := r + 1) (by omega) (by decide)
          refine e_X7_isLeft hs i16 hrl (fun hb => ⟨fun z => absurd z (by decide), fun _ => ?_⟩) (fun hb => ⟨fun _ => ⟨⟨rfl, rfl, rfl, rfl, rfl, rfl, r + 1, hrl, nI_1 _, q2.snoc (fun z => ?_)⟩, mu3⟩, fun z => absurd rfl z⟩)
          · refine e_X7_may (by omega) hw hs him hrl (fun hmay => ⟨fun z => absurd z (by decide), fun _ => ⟨⟨rfl, rfl, rfl, rfl, rfl, rfl, r + 1, hrl, nI_1 _, q2.snoc (fun z => ((B0_at hil hrl).mp z).2.2 hmay)⟩, mu3⟩⟩) (fun hmay => ⟨fun _ => ?_, fun z => absurd rfl z⟩)
            have hh := h1 (12 * k + 4 * i + r) ⟨by omega, (B0_at hil hrl).mpr ⟨him, hb, hmay⟩, q2⟩
            obtain ⟨e1, e2, e3⟩ := ix12 (k := k) hil hrl
            rw [e1, e2, e3] at hh
            exact hh
          · have := ((B0_at hil hrl).mp z).2.1
            rw [hb] at this
            cases this
      · rw [if_neg him]
        have nxt : Nne (B0 KD IT PP' S) (12 * k + 4 * (i + 1)) := fun x hx => by
          by_cases hx2 : x < 12 * k + 4 * i
          · exact q' x hx2
          · obtain ⟨r, hr, rfl⟩ : ∃ r, r < 4 ∧ x = 12 * k + 4 * i + r := ⟨x - (12 * k + 4 * i), by omega, by omega⟩
            rw [B0_at hil hr]
            rintro ⟨b, -⟩
            exact him b
        refine ⟨fun l1 l2 l3 l4 p t s => l1 = nI k ∧ l2 = nI (i + 1) ∧ l3 = -6 ∧ s = s2 ∧ p = p2 ∧ t = t2, fun _ _ _ _ _ _ _ => 0, ⟨rfl, rfl, rfl, rfl, rfl, rfl⟩, ?_⟩
        rintro l1 l2 l3 l4 p3 t3 s3 ⟨rfl, rfl, rfl, rfl, rfl, rfl⟩
        exact ⟨fun _ => ⟨⟨rfl, rfl, rfl, rfl, i + 1, by omega, nI_1 _, nxt⟩, mu2⟩, fun _ => ⟨fun _ => ⟨⟨rfl, rfl, rfl, rfl, i + 1, by omega, nI_1 _, nxt⟩, mu2⟩, fun z => absurd (by decide) z⟩⟩
set_option maxHeartbeats 1000000 in
theorem e_X7_strikeByItem (hs : RS pl S)
    (h1 : ∀ m r, Fst (B1 S) 64 m → Fp (S (m / 4)) r → wp_X7_strike 1 (-6) (nI (m / 16 * 4 + m % 4)) (nI (r + 1)) pl st sz (fun a b c => Q 1 a b c))
    (h0 : Nne (B1 S) 64 → Q 0 sz pl st) : wp_X7_strikeByItem pl st sz Q := by
  refine ⟨fun l2 p t s => s = sz ∧ p = pl ∧ t = st ∧ ∃ k, k ≤ 16 ∧ l2 = nI k ∧ Nne (B1 S) (4 * k), fun l2 _ _ _ => 16 - l2.toNatClampNeg, ⟨rfl, rfl, rfl, 0, Nat.zero_le _, nI_0.symm, fun x hx => absurd hx (by omega)⟩, ?_⟩
  rintro l2 p1 t1 s1 ⟨rfl, rfl, rfl, k, hk, rfl, q⟩
  refine ⟨fun d => ?_, fun d => ?_⟩
  · have e : k = 16 := Nat.le_antisymm hk ((nI_leI (a := 16) (by decide) (by omega)).mp d)
    subst e
    exact h0 q
  · have hlt : k < 16 := Nat.lt_of_not_le (fun q => d ((nI_leI (a := 16) (by decide) (by omega)).mpr q))
    have mu := mu_dec (B := 16) (i := k) (by omega) (by decide)
    obtain ⟨es, S16⟩ := hs k hlt
    refine ⟨vp_in_nI hlt (by decide), ?_⟩
    rw [nI_clamp (n := k) (by omega), es]
    refine e_X7_bits S16 ⟨fun e1 => ?_, fun e1 => ?_⟩
    · have p1' : pc (S k) = 1 := (nI_eq (b := 1) (by have := pc_le _ S16; omega) (by decide)).mp e1
      rintro _ rfl
      rw [dvm hlt]
      refine ⟨fun l1 l3 p t s => l1 = nI k ∧ s = s1 ∧ p = p1 ∧ t = t1 ∧ ∃ o, o ≤ 4 ∧ l3 = nI (k / 4 * 4 + o) ∧ Nne (B1 S) (4 * k + o), fun _ l3 _ _ _ => 20 - l3.toNatClampNeg, ⟨rfl, rfl, rfl, rfl, 0, Nat.zero_le _, rfl, q⟩, ?_⟩
      rintro l1 l3 p2 t2 s2 ⟨rfl, rfl, rfl, rfl, o, ho, rfl, q'⟩
      rw [dvm hlt, show nI (k / 4 * 4) + 4 = nI (k / 4 * 4 + 4) from nI_add _ 4]
      have mu2 : o < 4 → 20 - (nI (k / 4 * 4 + o) + 1).toNatClampNeg < 20 - (nI (k / 4 * 4 + o)).toNatClampNeg := fun hol => by
        rw [nI_1]; exact mu_dec (by omega) (by decide)
      refine ⟨fun d => ?_, fun d => ?_⟩
      · have e : o = 4 := by
          have := (nI_leI (by omega) (by omega)).mp d
          omega
        subst e
        exact ⟨⟨rfl, rfl, rfl, k + 1, hlt, nI_1 k, q'⟩, by rw [nI_1]; exact mu⟩
      · have hol : o < 4 := by
          have : ¬ k / 4 * 4 + 4 ≤ k / 4 * 4 + o := fun q => d ((nI_leI (by omega) (by omega)).mpr q)
          omega
        have o16 : k / 4 * 4 + o < 16 := by omega
        obtain ⟨eo, So⟩ := hs _ o16
        refine ⟨fun e => ⟨⟨rfl, rfl, rfl, rfl, o + 1, hol, nI_1 _, q'.snoc (fun z => ?_)⟩, mu2 hol⟩, fun e => ?_⟩
        · exact ((B1_at hol).mp z).2.1 ((nI_eq (by omega) (by omega)).mp e)
        · refine ⟨vp_in_nI o16 (by decide), vp_in_nI hlt (by decide), ?_⟩
          rw [nI_clamp (n := k / 4 * 4 + o) (by omega), nI_clamp (n := k) (by omega), eo, es]
          refine ⟨fun f => ⟨⟨rfl, rfl, rfl, rfl, o + 1, hol, nI_1 _, q'.snoc (fun z => ((B1_at hol).mp z).2.2 f)⟩, ?_⟩, fun f => ⟨vp_in_nI hlt (by decide), e_X7_placeIn S16 (pc_ne p1') (fun r hf => ?_)⟩⟩
          · exact mu2 hol
          · obtain ⟨x1, x2, x3⟩ := ix4 (k := k) hol
            have hh := h1 (4 * k + o) r ⟨by omega, (B1_at hol).mpr ⟨p1', fun z => e (by rw [z]), f⟩, q'⟩ (by rw [x1]; exact hf)
            rw [x2, x3] at hh
            exact hh
    · refine ⟨⟨rfl, rfl, rfl, k + 1, hlt, nI_1 k, fun x hx => ?_⟩, by rw [nI_1]; exact mu⟩
      by_cases hx2 : x < 4 * k
      · exact q x hx2
      · rintro ⟨b, -⟩
        rw [show x / 4 = k by omega] at b
        exact e1 (by rw [b]; rfl)
theorem e_X7_onlyOne (hs : RS pl S) {cat r : Nat} (hc : cat < 4) (hr : r < 4) {Q : Int32 → Prop} (h1 : ∀ item, Only S cat r item → Q (nI item)) (h0 : (¬ ∃ item, Only S cat r item) → Q (-6)) : wp_X7_onlyOne (nI cat) (nI (r + 1)) pl Q := by
  rintro _ rfl
  unfold wp_X7_onlyOne_11
  rw [show (4 : Int32) * nI cat = nI (4 * cat) from pk_mul 4 cat, show nI (4 * cat) + 4 = nI (4 * cat + 4) from nI_add _ 4]
  refine ⟨fun l3 l4 l5 => ∃ o, o ≤ 4 ∧ l5 = nI (4 * cat + o) ∧ ((l3 = -6 ∧ l4 = nI 0 ∧ ∀ j, j < o → (S (4 * cat + j)).testBit r = false) ∨ (∃ t, t < o ∧ l3 = nI (4 * cat + t) ∧ l4 = nI 1 ∧ (S (4 * cat + t)).testBit r = true ∧ ∀ j, j < o → j ≠ t → (S (4 * cat + j)).testBit r = false) ∨ ∃ c, 2 ≤ c ∧ c ≤ o ∧ l4 = nI c ∧ ¬ ∃ item, Only S cat r item), fun _ _ l5 => 20 - l5.toNatClampNeg, ⟨0, Nat.zero_le _, rfl, Or.inl ⟨rfl, rfl, fun j hj => absurd hj (Nat.not_lt_zero _)⟩⟩, ?_⟩
  rintro l3 l4 l5 ⟨o, ho, rfl, hst⟩
  refine ⟨fun d => ?_, fun d => ?_⟩
  · have e : o = 4 := by
      have := (nI_leI (by omega) (by omega)).mp d
      omega
    subst e
    rcases hst with ⟨rfl, rfl, ha⟩ | ⟨t, ht, rfl, rfl, hb, ha⟩ | ⟨c, hc2, hc4, rfl, hno⟩
    · refine ⟨fun z => absurd z (by decide), fun _ => h0 (fun ⟨item, a1, a2, _⟩ => ?_)⟩
      have := ha (item % 4) (by omega)
      rw [show 4 * cat + item % 4 = item by omega, a2] at this
      cases this
    · refine ⟨fun _ => h1 _ ⟨by omega, hb, fun j hj hne => ?_⟩, fun z => absurd rfl z⟩
      have := ha (j % 4) (by omega) (by omega)
      rw [show 4 * cat + j % 4 = j by omega] at this
      exact this
    · exact ⟨fun z => absurd ((nI_eq (b := 1) (by omega) (by decide)).mp z) (by omega), fun _ => h0 hno⟩
  · have hol : o < 4 := by
      have : ¬ 4 * cat + 4 ≤ 4 * cat + o := fun q => d ((nI_leI (by omega) (by omega)).mpr q)
      omega
    have mu : 20 - (nI (4 * cat + o) + 1).toNatClampNeg < 20 - (nI (4 * cat + o)).toNatClampNeg := by
      rw [nI_1]; exact mu_dec (by omega) (by decide)
    refine e_X7_isLeft hs (by omega) hr (fun hb => ⟨fun z => absurd z (by decide), fun _ => ⟨⟨o + 1, hol, nI_1 _, ?_⟩, mu⟩⟩) (fun hb => ⟨fun _ => ⟨⟨o + 1, hol, nI_1 _, ?_⟩, mu⟩, fun z => absurd rfl z⟩)
    · rcases hst with ⟨rfl, rfl, ha⟩ | ⟨t, ht, rfl, rfl, hbt, ha⟩ | ⟨c, hc2, hc4, rfl, hno⟩
      · exact Or.inr (Or.inl ⟨o, by omega, rfl, nI_1 0, hb, fun j hj hne => ha j (by omega)⟩)
      · refine Or.inr (Or.inr ⟨2, by omega, by omega, nI_1 1, fun ⟨item, a1, a2, a3⟩ => ?_⟩)
        by_cases e : 4 * cat + t = item
        · have := a3 (4 * cat + o) (by omega) (by omega)
          rw [hb] at this
          cases this
        · have := a3 (4 * cat + t) (by omega) e
          rw [hbt] at this
          cases this
      · exact Or.inr (Or.inr ⟨c + 1, by omega, by omega, nI_1 c, hno⟩)
    · rcases hst with ⟨rfl, rfl, ha⟩ | ⟨t, ht, rfl, rfl, hbt, ha⟩ | ⟨c, hc2, hc4, rfl, hno⟩
      · refine Or.inl ⟨rfl, rfl, fun j hj => ?_⟩
        by_cases e : j = o
        · subst e; exact hb
        · exact ha j (by omega)
      · refine Or.inr (Or.inl ⟨t, by omega, rfl, rfl, hbt, fun j hj hne => ?_⟩)
        by_cases e : j = o
        · subst e; exact hb
        · exact ha j (by omega) hne
      · exact Or.inr (Or.inr ⟨c, hc2, by omega, rfl, hno⟩)
theorem pc_1 : ∀ w, w < 16 → ∀ r, r < 4 → w.testBit r = true → (pc w ≤ 1 ↔ ¬ ∃ x, x < 4 ∧ x ≠ r ∧ w.testBit x = true) := by decide +kernel
theorem rem4 {k : Nat} (hk : k < 16) : (nI k - nI k / 4 * 4) + 1 = nI (k % 4 + 1) := by
  rw [show (4 : Int32) = nI 4 from rfl, pk_rem (by omega) (by decide) (by decide), nI_1]
set_option maxHeartbeats 1000000 in
theorem e_X7_strikeByPlace (hs : RS pl S)
    (h1 : ∀ m item x, Fst (B2 S) 16 m → Only S (m / 4) (m % 4) item → D2 (S item) (m % 4) x → wp_X7_strike 2 (-6) (nI item) (nI (x + 1)) pl st sz (fun a b c => Q 1 a b c))
    (h0 : Nne (B2 S) 16 → Q 0 sz pl st) : wp_X7_strikeByPlace pl st sz Q := by
  refine ⟨fun l2 p t s => s = sz ∧ p = pl ∧ t = st ∧ ∃ k, k ≤ 16 ∧ l2 = nI k ∧ Nne (B2 S) k, fun l2 _ _ _ => 16 - l2.toNatClampNeg, ⟨rfl, rfl, rfl, 0, Nat.zero_le _, nI_0.symm, fun x hx => absurd hx (by omega)⟩, ?_⟩
  rintro l2 p1 t1 s1 ⟨rfl, rfl, rfl, k, hk, rfl, q⟩
  refine ⟨fun d => ?_, fun d => ?_⟩
  · have e : k = 16 := Nat.le_antisymm hk ((nI_leI (a := 16) (by decide) (by omega)).mp d)
    subst e
    exact h0 q
  · have hlt : k < 16 := Nat.lt_of_not_le (fun q => d ((nI_leI (a := 16) (by decide) (by omega)).mpr q))
    have mu : 16 - (nI k + 1).toNatClampNeg < 16 - (nI k).toNatClampNeg := by
      rw [nI_1]; exact mu_dec (B := 16) (i := k) (by omega) (by decide)
    rintro _ rfl
    rw [rem4 hlt, dv4 hlt]
    have hr : k % 4 < 4 := by omega
    refine e_X7_onlyOne hs (by omega) hr (fun item ho => ?_) (fun hno => ⟨fun _ => ⟨⟨rfl, rfl, rfl, k + 1, hlt, nI_1 k, q.snoc (fun z => ?_)⟩, mu⟩, fun z => absurd (by decide) z⟩)
    · have i16 : item < 16 := ho.lt (by omega)
      obtain ⟨es, S16⟩ := hs item i16
      obtain ⟨u, hu, eu, hub⟩ := w_del (r := k % 4) S16 hr
      have p4 := pc_le _ S16
      have p1' := pc_1 _ S16 _ hr ho.2.1
      refine ⟨fun z => absurd z (nI_pos (by omega)), fun _ => ⟨vp_in_nI i16 (by decide), ?_⟩⟩
      rw [nI_clamp (n := item) (by omega), es]
      refine e_X7_bits S16 ⟨fun e => ⟨⟨rfl, rfl, rfl, k + 1, hlt, nI_1 k, q.snoc (fun z => ?_)⟩, mu⟩, fun e => ⟨vp_in_nI i16 (by decide), ?_⟩⟩
      · obtain ⟨i2, ho2, hx⟩ := z
        have := ho.uniq ho2
        subst this
        exact p1'.mp ((nI_leI (b := 1) (by omega) (by decide)).mp e) hx
      · have hex : ∃ x, x < 4 ∧ x ≠ k % 4 ∧ (S item).testBit x = true := Classical.not_not.mp (fun z => e ((nI_leI (b := 1) (by omega) (by decide)).mpr (p1'.mpr z)))
        rw [eu]
        exact e_X7_placeIn hu (fun z => (del_0 hu hub).mp z hex) (fun x hf => h1 k item x ⟨hlt, ⟨item, ho, hex⟩, q⟩ ho (del_D2 hub hf))
    · obtain ⟨i2, ho2, hx⟩ := z
      exact hno ⟨i2, ho2⟩
end RUM
