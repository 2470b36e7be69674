/-! ===== mathematics: solve of both sides ===== -/
section SOLVE
variable {pv : PV} {n : Nat} {row : Nat → Option Nat} {zc : Nat → Int32} {KD : Nat → Nat} {IT : Nat → Nat → Nat} {PP' : Nat → Nat}
/-- what the class keeps of the STEPS -/
def SVr (n : Nat) (KD : Nat → Nat) (IT : Nat → Nat → Nat) (PP' : Nat → Nat) (sz sv : Int32) (pl st : Nat → Int32) : Prop := sv = 0 ∨ (sv = 1 ∧ ∃ t S, sz = nI t ∧ Fi n KD IT PP' 64 t S st ∧ RS pl S)
theorem RS_15 {pl : Nat → Int32} (h : ∀ j, j < 16 → pl j = 30) : RS pl (fun _ => 15) := fun i hi => ⟨(h i hi).trans (show (30 : Int32) = nI (2 * 15) by decide), show (15 : Nat) < 16 by decide⟩
theorem NE.upd {S : Nat → Nat} (h : NE S) {item w : Nat} (hw : w ≠ 0) : NE (va_up S item w) := fun j hj => by
  by_cases e : j = item
  · subst e; rw [va_up_self]; exact hw
  · rw [va_up_ne _ _ e]; exact h j hj
set_option maxHeartbeats 2000000 in
theorem e_X4_solve (hn : n ≤ 12) (hck : CK pv n row zc KD IT PP') {sz sv : Int32} {pl st : Nat → Int32} (hc : SVr n KD IT PP' sz sv pl st) {Q : Int32 → Int32 → (Nat → Int32) → (Nat → Int32) → Prop}
    (h : ∀ t S pl' st', Fi n KD IT PP' 64 t S st' → RS pl' S → Q (nI t) 1 pl' st') : wp_X4_solve pv sz sv pl st (nI n) row Q := by
  refine ⟨fun _ => e_fill (by decide) (fun pl0 hpl0 => ?_), fun e => ?_⟩
  · refine ⟨fun l2 s _ p st => ∃ t S, t ≤ 64 ∧ l2 = nI t ∧ s = nI t ∧ Tr n KD IT PP' t S st ∧ NE S ∧ RS p S, fun l2 _ _ _ _ => 64 - l2.toNatClampNeg, ⟨0, fun _ => 15, Nat.zero_le _, nI_0.symm, nI_0.symm, rfl, fun j _ => (show (15 : Nat) ≠ 0 by decide), RS_15 hpl0⟩, ?_⟩
    rintro l2 s v p lg ⟨t, S, ht, rfl, rfl, hT, hN, hR⟩
    refine ⟨fun d => ?_, fun d => ?_⟩
    · have e : t = 64 := Nat.le_antisymm ht ((nI_leI (a := 64) (by decide) (by omega)).mp d)
      subst e
      exact h _ S _ _ ⟨Nat.le_refl _, hT, Or.inl rfl⟩ hR
    · have hlt : t < 64 := Nat.lt_of_not_le (fun q => d ((nI_leI (a := 64) (by decide) (by omega)).mpr q))
      have mu : 64 - (nI t + 1).toNatClampNeg < 64 - (nI t).toNatClampNeg := by
        rw [nI_1]; exact mu_dec (B := 64) (i := t) hlt (by decide)
      have tail : ∀ (K : Int32 → Int32 → Int32 → (Nat → Int32) → (Nat → Int32) → Prop), (∀ s' v' p' lg', (∃ t' S', t' ≤ 64 ∧ nI t + 1 = nI t' ∧ s' = nI t' ∧ Tr n KD IT PP' t' S' lg' ∧ NE S' ∧ RS p' S') → K (nI t + 1) s' v' p' lg') → ∀ rl cl item r, StepR n KD IT PP' S rl cl item r → ∀ p' lg', RS p' (va_up S item (delN (S item) r)) → Tr n KD IT PP' (t + 1) (va_up S item (delN (S item) r)) lg' → lg' (4 * t + 2) = nI item → wp_X4_solve_57 Q K (nI t) 1 (nI (t + 1)) v p' lg' := by
        intro K hK rl cl item r hs p' lg' hR' hT' hlg
        obtain ⟨hi, hr⟩ := hs.lt hck.1
        obtain ⟨ep, ew⟩ := hR' item hi
        unfold wp_X4_solve_57
        rw [show (4 : Int32) * nI t = nI (4 * t) from pk_mul 4 t, show nI (4 * t) + 2 = nI (4 * t + 2) from nI_add _ 2, nI_clamp (n := 4 * t + 2) (by omega), hlg, nI_clamp (n := item) (by omega), ep, w_eq0 ew]
        refine ⟨fun z => absurd z (by decide), fun _ => ⟨vp_in_nI (by omega) (by decide), vp_in_nI hi (by decide), fun e0 => ?_, fun e0 => ?_⟩⟩
        · exact h _ _ _ _ ⟨hlt, hT', Or.inr (Or.inl ⟨item, hi, e0⟩)⟩ hR'
        · refine hK _ _ _ _ ⟨t + 1, _, hlt, nI_1 t, rfl, hT', hN.upd ?_, hR'⟩
          rw [va_up_self] at e0
          exact e0
      refine e_X4_strikeByClue hn hck hR hN (fun m hF => ?_) (fun n0 => ⟨fun _ => e_X4_strikeByOnlyPlace hR (fun m r hF hr => ?_) (fun n1 => ⟨fun _ => e_X4_strikeByOnlyItem hR (fun m item x hF ho hx => ?_) (fun n2 => ⟨fun _ => ⟨fun _ => h _ S _ _ ⟨ht, hT, Or.inr (Or.inr ⟨n0, n1, n2⟩)⟩ hR, fun z => absurd rfl z⟩, fun z => absurd rfl z⟩), fun z => absurd rfl z⟩), fun z => absurd rfl z⟩)
      · have hs : StepR n KD IT PP' S 0 (nI (m / 12)) (IT (m / 12) (m / 4 % 3)) (m % 4) := Or.inl ⟨m, hF, rfl, rfl, rfl, rfl⟩
        obtain ⟨hi, hr⟩ := hs.lt hck.1
        exact e_X4_strike hlt hR hT hN hs hi hr (fun p' lg' a b c => ⟨fun z => absurd z (by decide), fun _ => tail _ (fun _ _ _ _ q => ⟨q, mu⟩) _ _ _ _ hs p' lg' a b c⟩)
      · have hs : StepR n KD IT PP' S 1 (-6) (m / 16 * 4 + m % 4) r := Or.inr (Or.inl ⟨n0, m, hF, rfl, rfl, rfl, hr⟩)
        obtain ⟨hi, hr⟩ := hs.lt hck.1
        exact e_X4_strike hlt hR hT hN hs hi hr (fun p' lg' a b c => ⟨fun z => absurd z (by decide), fun _ => tail _ (fun _ _ _ _ q => ⟨q, mu⟩) _ _ _ _ hs p' lg' a b c⟩)
      · have hs : StepR n KD IT PP' S 2 (-6) item x := Or.inr (Or.inr ⟨n0, n1, m, hF, rfl, rfl, ho, hx⟩)
        obtain ⟨hi, hr⟩ := hs.lt hck.1
        exact e_X4_strike hlt hR hT hN hs hi hr (fun p' lg' a b c => ⟨fun z => absurd z (by decide), fun _ => tail _ (fun _ _ _ _ q => ⟨q, mu⟩) _ _ _ _ hs p' lg' a b c⟩)
  · obtain ⟨rfl, t, S, rfl, hF, hR⟩ := hc.resolve_left e
    exact h t S _ _ hF hR
theorem e_X7_isEmpty {pl : Nat → Int32} {S : Nat → Nat} (hR : RS pl S) {Q : Int32 → Prop} (h1 : (∃ i, i < 16 ∧ S i = 0) → Q 1) (h0 : NE S → Q 0) : wp_X7_isEmpty pl Q := by
  refine ⟨fun l1 l2 => ∃ k, k ≤ 16 ∧ l2 = nI k ∧ ((l1 = 0 ∧ ∀ j, j < k → S j ≠ 0) ∨ (l1 = 1 ∧ ∃ j, j < 16 ∧ S j = 0)), fun _ l2 => 16 - l2.toNatClampNeg, ⟨0, Nat.zero_le _, nI_0.symm, Or.inl ⟨rfl, fun j hj => absurd hj (Nat.not_lt_zero _)⟩⟩, ?_⟩
  rintro l1 l2 ⟨k, hk, rfl, hst⟩
  refine ⟨fun d => ?_, fun d => ?_⟩
  · have e : k = 16 := Nat.le_antisymm hk ((nI_leI (a := 16) (by decide) (by omega)).mp d)
    subst e
    rcases hst with ⟨rfl, ha⟩ | ⟨rfl, ha⟩
    · exact ⟨zb0, h0 ha⟩
    · exact ⟨zb1, h1 ha⟩
  · have hlt : k < 16 := Nat.lt_of_not_le (fun q => d ((nI_leI (a := 16) (by decide) (by omega)).mpr q))
    have mu : 16 - (nI k + 1).toNatClampNeg < 16 - (nI k).toNatClampNeg := by
      rw [nI_1]; exact mu_dec (B := 16) (i := k) hlt (by decide)
    obtain ⟨ep, ew⟩ := hR k hlt
    rw [nI_clamp (n := k) (by omega), ep, w_eq0 ew]
    rcases hst with ⟨rfl, ha⟩ | ⟨rfl, ha⟩
    · refine ⟨fun _ => ⟨vp_in_nI hlt (by decide), fun e => ⟨⟨k + 1, hlt, nI_1 k, Or.inr ⟨rfl, k, hlt, e⟩⟩, mu⟩, fun e => ⟨⟨k + 1, hlt, nI_1 k, Or.inl ⟨rfl, fun j hj => ?_⟩⟩, mu⟩⟩, fun z => absurd rfl z⟩
      by_cases q : j = k
      · subst q; exact e
      · exact ha j (by omega)
    · exact ⟨fun z => absurd z (by decide), fun _ => ⟨⟨k + 1, hlt, nI_1 k, Or.inr ⟨rfl, ha⟩⟩, mu⟩⟩
set_option maxHeartbeats 2000000 in
theorem e_X7_solve (hn : n ≤ 12) (hMC : MC n zc KD IT PP') {most : Nat} (hm : most ≤ 64) {lf st : Nat → Int32} {Q : Int32 → (Nat → Int32) → (Nat → Int32) → Prop}
    (h : ∀ t S lf' st', Fi n KD IT PP' most t S st' → RS lf' S → Q (nI t) lf' st') : wp_X7_solve (nI most) zc (nI n) lf st Q := by
  refine ⟨fun l2 f _ s => s = 0 ∧ ∃ k, k ≤ 16 ∧ l2 = nI k ∧ ∀ j, j < k → f j = 30, fun l2 _ _ _ => 16 - l2.toNatClampNeg, ⟨rfl, 0, Nat.zero_le _, nI_0.symm, fun j hj => absurd hj (Nat.not_lt_zero _)⟩, ?_⟩
  rintro l2 f st1 s ⟨rfl, k, hk, rfl, hf⟩
  refine ⟨fun d => ?_, fun d => ?_⟩
  · have e : k = 16 := Nat.le_antisymm hk ((nI_leI (a := 16) (by decide) (by omega)).mp d)
    subst e
    refine ⟨fun l2 f st s => ∃ t S, t ≤ most ∧ s = nI t ∧ Tr n KD IT PP' t S st ∧ RS f S ∧ (l2 = 1 ∨ (l2 = 0 ∧ StpR n KD IT PP' S)), fun l2 _ _ s => 2 * (64 - s.toNatClampNeg) + l2.toNatClampNeg, ⟨0, fun _ => 15, Nat.zero_le _, nI_0.symm, rfl, RS_15 hf, Or.inl rfl⟩, ?_⟩
    rintro l2 p lg s ⟨t, S, ht, rfl, hT, hR, hst⟩
    refine ⟨fun e => ?_, fun e => ⟨fun d => ?_, fun d => ?_⟩⟩
    · refine h t S _ _ ⟨ht, hT, Or.inr ?_⟩ hR
      rcases hst with q | q
      · exact absurd (e.symm.trans q) (by decide)
      · exact q.2
    · have e2 : t = most := Nat.le_antisymm ht ((nI_leI (by omega) (by omega)).mp d)
      subst e2
      exact h t S _ _ ⟨ht, hT, Or.inl rfl⟩ hR
    · have hlt : t < most := Nat.lt_of_not_le (fun q => d ((nI_leI (by omega) (by omega)).mpr q))
      have e1 : l2 = 1 := hst.resolve_right (fun q => e q.1)
      subst e1
      have mu1 : 2 * (64 - (nI (t + 1)).toNatClampNeg) + (1 : Int32).toNatClampNeg < 2 * (64 - (nI t).toNatClampNeg) + (1 : Int32).toNatClampNeg := by
        rw [nI_clamp (n := t + 1) (by omega), nI_clamp (n := t) (by omega)]; omega
      have mu0 : 2 * (64 - (nI t).toNatClampNeg) + (0 : Int32).toNatClampNeg < 2 * (64 - (nI t).toNatClampNeg) + (1 : Int32).toNatClampNeg := by
        rw [show (0 : Int32).toNatClampNeg = 0 from by decide, show (1 : Int32).toNatClampNeg = 1 from by decide]; omega
      refine e_X7_isEmpty hR (fun hz => ⟨fun z => absurd z (by decide), fun _ => h t S _ _ ⟨ht, hT, Or.inr (Or.inl hz)⟩ hR⟩) (fun hN => ⟨fun _ => ?_, fun z => absurd rfl z⟩)
      refine e_X7_strikeByClue hn hMC hR (fun m hF => ?_) (fun n0 => ⟨fun _ => e_X7_strikeByItem hR (fun m r hF hr => ?_) (fun n1 => ⟨fun _ => e_X7_strikeByPlace hR (fun m item x hF ho hx => ?_) (fun n2 => ⟨fun _ => ⟨⟨t, S, ht, rfl, hT, hR, Or.inr ⟨rfl, Or.inr ⟨n0, n1, n2⟩⟩⟩, mu0⟩, fun z => absurd rfl z⟩), fun z => absurd rfl z⟩), fun z => absurd rfl z⟩)
      · have hs : StepR n KD IT PP' S 0 (nI (m / 12)) (IT (m / 12) (m / 4 % 3)) (m % 4) := Or.inl ⟨m, hF, rfl, rfl, rfl, rfl⟩
        obtain ⟨hi, hr⟩ := hs.lt hMC
        exact e_X7_strike (by omega) hR hT hN hs hi hr (fun p' lg' a b => ⟨fun z => absurd z (by decide), fun _ => ⟨⟨t + 1, _, hlt, rfl, b, a, Or.inl rfl⟩, mu1⟩⟩)
      · have hs : StepR n KD IT PP' S 1 (-6) (m / 16 * 4 + m % 4) r := Or.inr (Or.inl ⟨n0, m, hF, rfl, rfl, rfl, hr⟩)
        obtain ⟨hi, hr⟩ := hs.lt hMC
        exact e_X7_strike (by omega) hR hT hN hs hi hr (fun p' lg' a b => ⟨fun z => absurd z (by decide), fun _ => ⟨⟨t + 1, _, hlt, rfl, b, a, Or.inl rfl⟩, mu1⟩⟩)
      · have hs : StepR n KD IT PP' S 2 (-6) item x := Or.inr (Or.inr ⟨n0, n1, m, hF, rfl, rfl, ho, hx⟩)
        obtain ⟨hi, hr⟩ := hs.lt hMC
        exact e_X7_strike (by omega) hR hT hN hs hi hr (fun p' lg' a b => ⟨fun z => absurd z (by decide), fun _ => ⟨⟨t + 1, _, hlt, rfl, b, a, Or.inl rfl⟩, mu1⟩⟩)
  · have hlt : k < 16 := Nat.lt_of_not_le (fun q => d ((nI_leI (a := 16) (by decide) (by omega)).mpr q))
    rw [nI_1, nI_clamp (n := k) (by omega)]
    refine ⟨vp_in_nI hlt (by decide), ⟨rfl, k + 1, hlt, rfl, fun j hj => ?_⟩, mu_dec hlt (by decide)⟩
    by_cases e : j = k
    · subst e; rw [pk_us]
    · rw [pk_un e]; exact hf j (by omega)
/-- the set left behind the first steps -/
theorem e_X4_leftBehind {t : Nat} {S : Nat → Nat} {st : Nat → Int32} (ht : t ≤ 64) (hT : Tr n KD IT PP' t S st) {item k : Nat} (hi : item < 16) (hk : k < 2 ^ 31) {Q : Int32 → Prop} (h : ∀ e Se, e ≤ t → e ≤ k → (e = t ∨ e = k) → Tr n KD IT PP' e Se st → Q (nI (2 * Se item))) : wp_X4_leftBehind (nI item) (nI k) (nI t) st Q := by
  rintro _ rfl
  obtain ⟨e, ee, e1, e2, e3⟩ : ∃ e, (if nI t < nI k then nI t else nI k) = nI e ∧ e ≤ t ∧ e ≤ k ∧ (e = t ∨ e = k) := by
    by_cases q : t < k
    · exact ⟨t, if_pos ((nI_ltI (by omega) hk).mpr q), Nat.le_refl _, by omega, Or.inl rfl⟩
    · exact ⟨k, if_neg (fun z => q ((nI_ltI (by omega) hk).mp z)), by omega, Nat.le_refl _, Or.inr rfl⟩
  rw [ee]
  refine ⟨fun l3 l4 l5 => l4 = nI e ∧ ∃ j Sj, j ≤ e ∧ l5 = nI j ∧ Tr n KD IT PP' j Sj st ∧ l3 = nI (2 * Sj item), fun _ _ l5 => 64 - l5.toNatClampNeg, ⟨rfl, 0, fun _ => 15, Nat.zero_le _, nI_0.symm, rfl, (show (30 : Int32) = nI (2 * 15) by decide)⟩, ?_⟩
  rintro l3 l4 l5 ⟨rfl, j, Sj, hj, rfl, hTj, rfl⟩
  refine ⟨fun d => ?_, fun d => ?_⟩
  · have ej : j = e := Nat.le_antisymm hj ((nI_leI (by omega) (by omega)).mp d)
    subst ej
    exact h j Sj e1 e2 e3 hTj
  · have hlt : j < e := Nat.lt_of_not_le (fun q => d ((nI_leI (by omega) (by omega)).mpr q))
    have mu : 64 - (nI j + 1).toNatClampNeg < 64 - (nI j).toNatClampNeg := by
      rw [nI_1]; exact mu_dec (B := 64) (i := j) (by omega) (by decide)
    obtain ⟨S1, hT1⟩ := hT.le (show j + 1 ≤ t by omega)
    have hT1' := hT1
    obtain ⟨S0, rl, cl, it, r, g1, g2, g3, g4, g5, g6, g7, g8, g9, g10⟩ := hT1
    have es := (hTj.uniq g1).1
    subst es
    have lt16 := hTj.lt16 item
    rw [show (4 : Int32) * nI j = nI (4 * j) from pk_mul 4 j, show nI (4 * j) + 2 = nI (4 * j + 2) from nI_add _ 2, show nI (4 * j) + 3 = nI (4 * j + 3) from nI_add _ 3, nI_clamp (n := 4 * j + 2) (by omega), nI_clamp (n := 4 * j + 3) (by omega), g9, g10]
    refine ⟨vp_in_nI (by omega) (by decide), fun ei => ⟨vp_in_nI (by omega) (by decide), ?_⟩, fun ei => ⟨⟨rfl, j + 1, S1, hlt, nI_1 j, hT1', ?_⟩, mu⟩⟩
    · have ei : it = item := (nI_eq (by omega) (by omega)).mp ei
      subst ei
      rintro _ rfl
      refine ⟨⟨rfl, j + 1, S1, hlt, nI_1 j, hT1', ?_⟩, mu⟩
      rw [(delN_ok _ lt16 r g5).1, g6, va_up_self]
    · rw [g6, va_up_ne _ _ (fun q => ei (by rw [q]))]
/-- THE END -/
def HEr (S : Nat → Nat) (r : Int32) : Prop := ((∃ i, i < 16 ∧ S i = 0) ∧ r = 2) ∨ (NE S ∧ (∃ i, i < 16 ∧ ¬ pc (S i) = 1) ∧ r = 1) ∨ (NE S ∧ (∀ i, i < 16 → pc (S i) = 1) ∧ r = 0)
theorem HEr.uniq {S : Nat → Nat} {r r' : Int32} (h : HEr S r) (h' : HEr S r') : r = r' := by
  rcases h with ⟨⟨i, hi, e⟩, rfl⟩ | ⟨a, ⟨i, hi, e⟩, rfl⟩ | ⟨a, b, rfl⟩
  · rcases h' with ⟨_, rfl⟩ | ⟨a', _, _⟩ | ⟨a', _, _⟩
    · rfl
    · exact absurd e (a' i hi)
    · exact absurd e (a' i hi)
  · rcases h' with ⟨⟨j, hj, e'⟩, rfl⟩ | ⟨_, _, rfl⟩ | ⟨_, b', _⟩
    · exact absurd e' (a j hj)
    · rfl
    · exact absurd (b' i hi) e
  · rcases h' with ⟨⟨j, hj, e'⟩, rfl⟩ | ⟨_, ⟨j, hj, e'⟩, _⟩ | ⟨_, _, rfl⟩
    · exact absurd e' (a j hj)
    · exact absurd (b j hj) e'
    · rfl
theorem pc_0 : ∀ w, w < 16 → w ≠ 0 → 1 ≤ pc w := by decide +kernel
theorem e_X4_howItEnds {pl : Nat → Int32} {S : Nat → Nat} (hR : RS pl S) {Q : Int32 → Prop} (h : ∀ r, HEr S r → Q r) : wp_X4_howItEnds pl Q := by
  refine ⟨fun l1 l2 => ∃ k, k ≤ 16 ∧ l2 = nI k ∧ (∀ j, j < k → S j ≠ 0) ∧ ((l1 = 0 ∧ ∀ j, j < k → pc (S j) = 1) ∨ (l1 = 1 ∧ ∃ j, j < 16 ∧ ¬ pc (S j) = 1)), fun _ l2 => 16 - l2.toNatClampNeg, ⟨0, Nat.zero_le _, nI_0.symm, fun j hj => absurd hj (Nat.not_lt_zero _), Or.inl ⟨rfl, fun j hj => absurd hj (Nat.not_lt_zero _)⟩⟩, ?_⟩
  rintro l1 l2 ⟨k, hk, rfl, hnz, hst⟩
  refine ⟨fun d => ?_, fun d => ?_⟩
  · have e : k = 16 := Nat.le_antisymm hk ((nI_leI (a := 16) (by decide) (by omega)).mp d)
    subst e
    rcases hst with ⟨rfl, ha⟩ | ⟨rfl, ha⟩
    · exact h _ (Or.inr (Or.inr ⟨hnz, ha, rfl⟩))
    · exact h _ (Or.inr (Or.inl ⟨hnz, ha, rfl⟩))
  · have hlt : k < 16 := Nat.lt_of_not_le (fun q => d ((nI_leI (a := 16) (by decide) (by omega)).mpr q))
    have mu : 16 - (nI k + 1).toNatClampNeg < 16 - (nI k).toNatClampNeg := by
      rw [nI_1]; exact mu_dec (B := 16) (i := k) hlt (by decide)
    obtain ⟨ep, ew⟩ := hR k hlt
    have p4 := pc_le _ ew
    rw [nI_clamp (n := k) (by omega), ep, w_eq0 ew]
    refine ⟨vp_in_nI hlt (by decide), fun e => h _ (Or.inl ⟨⟨k, hlt, e⟩, rfl⟩), fun e => ⟨vp_in_nI hlt (by decide), e_bc ew ⟨fun c => ⟨⟨k + 1, hlt, nI_1 k, ?_, ?_⟩, mu⟩, fun c => ⟨⟨k + 1, hlt, nI_1 k, ?_, Or.inr ⟨rfl, k, hlt, ?_⟩⟩, mu⟩⟩⟩⟩
    · intro j hj
      by_cases q : j = k
      · subst q; exact e
      · exact hnz j (by omega)
    · have c' := (nI_leI (b := 1) (by omega) (by decide)).mp c
      have c0 := pc_0 _ ew e
      rcases hst with ⟨rfl, ha⟩ | ⟨rfl, ha⟩
      · refine Or.inl ⟨rfl, fun j hj => ?_⟩
        by_cases q : j = k
        · subst q; omega
        · exact ha j (by omega)
      · exact Or.inr ⟨rfl, ha⟩
    · intro j hj
      by_cases q : j = k
      · subst q; exact e
      · exact hnz j (by omega)
    · intro q
      exact c (by rw [q]; decide)
theorem e_X7_end10 {pl st : Nat → Int32} {S : Nat → Nat} {md : Int32} (hR : RS pl S) {Q : Int32 → Int32 → (Nat → Int32) → (Nat → Int32) → Prop} (h : ∀ r, HEr S r → Q r md pl st) : wp_X7_end_10 Q 1 0 pl st md := by
  refine ⟨fun l1 l2 p t s => s = md ∧ p = pl ∧ t = st ∧ ∃ k, k ≤ 16 ∧ l2 = nI k ∧ ((l1 = 1 ∧ ∀ j, j < k → pc (S j) = 1) ∨ (l1 = 0 ∧ ∃ j, j < 16 ∧ ¬ pc (S j) = 1)), fun _ l2 _ _ _ => 16 - l2.toNatClampNeg, ⟨rfl, rfl, rfl, 0, Nat.zero_le _, nI_0.symm, Or.inl ⟨rfl, fun j hj => absurd hj (Nat.not_lt_zero _)⟩⟩, ?_⟩
  rintro l1 l2 p t s ⟨rfl, rfl, rfl, k, hk, rfl, hst⟩
  refine ⟨fun d => ?_, fun d => ?_⟩
  · have e : k = 16 := Nat.le_antisymm hk ((nI_leI (a := 16) (by decide) (by omega)).mp d)
    subst e
    refine e_X7_isEmpty hR (fun hz => ⟨fun z => absurd z (by decide), fun _ => h _ (Or.inl ⟨hz, rfl⟩)⟩) (fun hN => ⟨fun _ => ?_, fun z => absurd rfl z⟩)
    rcases hst with ⟨rfl, ha⟩ | ⟨rfl, ha⟩
    · exact ⟨fun z => absurd z (by decide), fun _ => h _ (Or.inr (Or.inr ⟨hN, ha, rfl⟩))⟩
    · exact ⟨fun _ => h _ (Or.inr (Or.inl ⟨hN, ha, rfl⟩)), fun z => absurd rfl z⟩
  · have hlt : k < 16 := Nat.lt_of_not_le (fun q => d ((nI_leI (a := 16) (by decide) (by omega)).mpr q))
    have mu : 16 - (nI k + 1).toNatClampNeg < 16 - (nI k).toNatClampNeg := by
      rw [nI_1]; exact mu_dec (B := 16) (i := k) hlt (by decide)
    obtain ⟨ep, ew⟩ := hR k hlt
    have p4 := pc_le _ ew
    rw [nI_clamp (n := k) (by omega), ep]
    rcases hst with ⟨rfl, ha⟩ | ⟨rfl, ha⟩
    · refine ⟨fun z => absurd z (by decide), fun _ => ⟨vp_in_nI hlt (by decide), e_X7_bits ew ⟨fun c => ⟨⟨rfl, rfl, rfl, k + 1, hlt, nI_1 k, Or.inl ⟨rfl, fun j hj => ?_⟩⟩, mu⟩, fun c => ⟨⟨rfl, rfl, rfl, k + 1, hlt, nI_1 k, Or.inr ⟨rfl, k, hlt, fun q => c (by rw [q]; rfl)⟩⟩, mu⟩⟩⟩⟩
      by_cases q : j = k
      · subst q; exact (nI_eq (b := 1) (by omega) (by decide)).mp c
      · exact ha j (by omega)
    · exact ⟨fun _ => ⟨⟨rfl, rfl, rfl, k + 1, hlt, nI_1 k, Or.inr ⟨rfl, ha⟩⟩, mu⟩, fun z => absurd rfl z⟩
end SOLVE
