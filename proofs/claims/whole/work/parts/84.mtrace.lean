/-! ===== mathematics: the STEPS, one after another ===== -/
/-- each item has a place left -/
def NE (S : Nat → Nat) : Prop := ∀ j, j < 16 → S j ≠ 0
/-- a set without place r + 1 -/
def delN (w r : Nat) : Nat := w &&& (15 - 2 ^ r)
theorem delN_ok : ∀ w, w < 16 → ∀ r, r < 4 → (nI (2 * w) &&& ((1 <<< (nI (r + 1) &&& 31)) ^^^ (-1)) = nI (2 * delN w r) ∧ delN w r < 16) := by decide +kernel
section TRACE
variable {n : Nat} {KD : Nat → Nat} {IT : Nat → Nat → Nat} {PP' : Nat → Nat}
/-- the next STEP: its RULE, its CLUE, its ITEM, its PLACE less one -/
def StepR (n : Nat) (KD : Nat → Nat) (IT : Nat → Nat → Nat) (PP' : Nat → Nat) (S : Nat → Nat) (rl cl : Int32) (item r : Nat) : Prop :=
  (∃ m, Fst (B0 KD IT PP' S) (12 * n) m ∧ rl = 0 ∧ cl = nI (m / 12) ∧ item = IT (m / 12) (m / 4 % 3) ∧ r = m % 4) ∨
  (Nne (B0 KD IT PP' S) (12 * n) ∧ ∃ m, Fst (B1 S) 64 m ∧ rl = 1 ∧ cl = -6 ∧ item = m / 16 * 4 + m % 4 ∧ Fp (S (m / 4)) r) ∨
  (Nne (B0 KD IT PP' S) (12 * n) ∧ Nne (B1 S) 64 ∧ ∃ m, Fst (B2 S) 16 m ∧ rl = 2 ∧ cl = -6 ∧ Only S (m / 4) (m % 4) item ∧ D2 (S item) (m % 4) r)
def NoStep (n : Nat) (KD : Nat → Nat) (IT : Nat → Nat → Nat) (PP' : Nat → Nat) (S : Nat → Nat) : Prop := Nne (B0 KD IT PP' S) (12 * n) ∧ Nne (B1 S) 64 ∧ Nne (B2 S) 16
theorem Fst.no {B : Nat → Prop} {N m : Nat} (h : Fst B N m) (h' : Nne B N) : False := h' m h.1 h.2.1
theorem StepR.uniq {S : Nat → Nat} {rl cl rl' cl' : Int32} {item r item' r' : Nat} (h : StepR n KD IT PP' S rl cl item r) (h' : StepR n KD IT PP' S rl' cl' item' r') : rl = rl' ∧ cl = cl' ∧ item = item' ∧ r = r' := by
  rcases h with ⟨m, a, rfl, rfl, rfl, rfl⟩ | ⟨a0, m, a, rfl, rfl, rfl, b⟩ | ⟨a0, a1, m, a, rfl, rfl, b, c⟩
  · rcases h' with ⟨m', a', rfl, rfl, rfl, rfl⟩ | ⟨a0', m', a', rfl, rfl, rfl, b'⟩ | ⟨a0', a1', m', a', rfl, rfl, b', c'⟩
    · have e := a.uniq a'
      subst e
      exact ⟨rfl, rfl, rfl, rfl⟩
    · exact (a.no a0').elim
    · exact (a.no a0').elim
  · rcases h' with ⟨m', a', rfl, rfl, rfl, rfl⟩ | ⟨a0', m', a', rfl, rfl, rfl, b'⟩ | ⟨a0', a1', m', a', rfl, rfl, b', c'⟩
    · exact (a'.no a0).elim
    · have e := a.uniq a'
      subst e
      exact ⟨rfl, rfl, rfl, b.uniq b'⟩
    · exact (a.no a1').elim
  · rcases h' with ⟨m', a', rfl, rfl, rfl, rfl⟩ | ⟨a0', m', a', rfl, rfl, rfl, b'⟩ | ⟨a0', a1', m', a', rfl, rfl, b', c'⟩
    · exact (a'.no a0).elim
    · exact (a'.no a1).elim
    · have e := a.uniq a'
      subst e
      have e2 := b.uniq b'
      subst e2
      exact ⟨rfl, rfl, rfl, c.uniq c'⟩
theorem StepR.not {S : Nat → Nat} {rl cl : Int32} {item r : Nat} (h : StepR n KD IT PP' S rl cl item r) : ¬ NoStep n KD IT PP' S := by
  rintro ⟨n0, n1, n2⟩
  rcases h with ⟨m, a, _⟩ | ⟨_, m, a, _⟩ | ⟨_, _, m, a, _⟩
  · exact a.no n0
  · exact a.no n1
  · exact a.no n2
theorem StepR.lt {zc : Nat → Int32} (hMC : MC n zc KD IT PP') {S : Nat → Nat} {rl cl : Int32} {item r : Nat} (h : StepR n KD IT PP' S rl cl item r) : item < 16 ∧ r < 4 := by
  rcases h with ⟨m, a, rfl, rfl, rfl, rfl⟩ | ⟨a0, m, a, rfl, rfl, rfl, b⟩ | ⟨a0, a1, m, a, rfl, rfl, b, c⟩
  · have := a.1
    exact ⟨(hMC (m / 12) (by omega)).2.1 _ a.2.1.1, by omega⟩
  · have := a.1
    exact ⟨by omega, b.1⟩
  · have := a.1
    exact ⟨b.lt (by omega), c.1⟩
/-- t STEPS from the beginning, the state behind them, and what is written of them -/
def Tr (n : Nat) (KD : Nat → Nat) (IT : Nat → Nat → Nat) (PP' : Nat → Nat) : Nat → (Nat → Nat) → (Nat → Int32) → Prop
  | 0, S, _ => S = fun _ => 15
  | t + 1, S, lg => ∃ S0 rl cl item r, Tr n KD IT PP' t S0 lg ∧ NE S0 ∧ StepR n KD IT PP' S0 rl cl item r ∧ item < 16 ∧ r < 4 ∧ S = va_up S0 item (delN (S0 item) r) ∧ lg (4 * t) = rl ∧ lg (4 * t + 1) = cl ∧ lg (4 * t + 2) = nI item ∧ lg (4 * t + 3) = nI (r + 1)
theorem Tr.congr : ∀ {t : Nat} {S : Nat → Nat} {lg lg' : Nat → Int32}, Tr n KD IT PP' t S lg → (∀ j, j < 4 * t → lg' j = lg j) → Tr n KD IT PP' t S lg'
  | 0, _, _, _, h, _ => h
  | t + 1, S, lg, lg', h, e => by
    obtain ⟨S0, rl, cl, item, r, h1, h2, h3, h4, h5, h6, h7, h8, h9, h10⟩ := h
    exact ⟨S0, rl, cl, item, r, Tr.congr h1 (fun j hj => e j (by omega)), h2, h3, h4, h5, h6, (e _ (by omega)).trans h7, (e _ (by omega)).trans h8, (e _ (by omega)).trans h9, (e _ (by omega)).trans h10⟩
theorem Tr.uniq : ∀ {t : Nat} {S S' : Nat → Nat} {lg lg' : Nat → Int32}, Tr n KD IT PP' t S lg → Tr n KD IT PP' t S' lg' → S = S' ∧ ∀ j, j < 4 * t → lg j = lg' j
  | 0, S, S', _, _, h, h' => ⟨(show S = fun _ => 15 from h).trans (show S' = fun _ => 15 from h').symm, fun j hj => absurd hj (by omega)⟩
  | t + 1, S, S', lg, lg', h, h' => by
    obtain ⟨S0, rl, cl, item, r, h1, h2, h3, h4, h5, h6, h7, h8, h9, h10⟩ := h
    obtain ⟨S0', rl', cl', item', r', g1, g2, g3, g4, g5, g6, g7, g8, g9, g10⟩ := h'
    obtain ⟨e, el⟩ := Tr.uniq h1 g1
    subst e
    obtain ⟨e1, e2, e3, e4⟩ := h3.uniq g3
    subst e1
    subst e2
    subst e3
    subst e4
    refine ⟨h6.trans g6.symm, fun j hj => ?_⟩
    by_cases q : j < 4 * t
    · exact el j q
    · rcases (show j = 4 * t ∨ j = 4 * t + 1 ∨ j = 4 * t + 2 ∨ j = 4 * t + 3 by omega) with e | e | e | e <;> subst e
      · rw [h7, g7]
      · rw [h8, g8]
      · rw [h9, g9]
      · rw [h10, g10]
theorem Tr.pre : ∀ {t : Nat} {S : Nat → Nat} {lg : Nat → Int32}, Tr n KD IT PP' t S lg → ∀ t', t' < t → ∃ S' rl cl item r, Tr n KD IT PP' t' S' lg ∧ NE S' ∧ StepR n KD IT PP' S' rl cl item r
  | 0, _, _, _, _, ht => absurd ht (Nat.not_lt_zero _)
  | t + 1, S, lg, h, t', ht => by
    obtain ⟨S0, rl, cl, item, r, h1, h2, h3, _⟩ := h
    by_cases e : t' = t
    · subst e
      exact ⟨S0, rl, cl, item, r, h1, h2, h3⟩
    · exact Tr.pre h1 t' (by omega)
theorem Tr.le {t t' : Nat} {S : Nat → Nat} {lg : Nat → Int32} (h : Tr n KD IT PP' t S lg) (ht : t' ≤ t) : ∃ S', Tr n KD IT PP' t' S' lg := by
  by_cases e : t' = t
  · subst e; exact ⟨S, h⟩
  · obtain ⟨S', _, _, _, _, h1, _⟩ := h.pre t' (by omega)
    exact ⟨S', h1⟩
theorem Tr.lt16 : ∀ {t : Nat} {S : Nat → Nat} {lg : Nat → Int32}, Tr n KD IT PP' t S lg → ∀ i, S i < 16
  | 0, S, _, h, i => by
    rw [show S = fun _ => 15 from h]
    show 15 < 16
    decide
  | t + 1, S, lg, h, i => by
    obtain ⟨S0, rl, cl, item, r, h1, h2, h3, h4, h5, h6, _⟩ := h
    have ih := Tr.lt16 h1
    rw [h6]
    by_cases e : i = item
    · subst e
      rw [va_up_self]
      exact (delN_ok _ (ih i) r h5).2
    · rw [va_up_ne _ _ e]
      exact ih i
/-- no STEP follows -/
def StpR (n : Nat) (KD : Nat → Nat) (IT : Nat → Nat → Nat) (PP' : Nat → Nat) (S : Nat → Nat) : Prop := (∃ i, i < 16 ∧ S i = 0) ∨ NoStep n KD IT PP' S
/-- all STEPS, but at most so many -/
def Fi (n : Nat) (KD : Nat → Nat) (IT : Nat → Nat → Nat) (PP' : Nat → Nat) (most t : Nat) (S : Nat → Nat) (lg : Nat → Int32) : Prop := t ≤ most ∧ Tr n KD IT PP' t S lg ∧ (t = most ∨ StpR n KD IT PP' S)
theorem Tr.go {t t' : Nat} {S S' : Nat → Nat} {lg lg' : Nat → Int32} (h : Tr n KD IT PP' t S lg) (h' : Tr n KD IT PP' t' S' lg') (hlt : t < t') : ¬ StpR n KD IT PP' S := by
  obtain ⟨S2, rl, cl, item, r, a, b, c⟩ := h'.pre t hlt
  have e := (h.uniq a).1
  subst e
  rintro (⟨i, hi, e⟩ | q)
  · exact b i hi e
  · exact c.not q
theorem Fi.uniq {most t t' : Nat} {S S' : Nat → Nat} {lg lg' : Nat → Int32} (h : Fi n KD IT PP' most t S lg) (h' : Fi n KD IT PP' most t' S' lg') : t = t' := by
  obtain ⟨a1, a2, a3⟩ := h
  obtain ⟨b1, b2, b3⟩ := h'
  rcases Nat.lt_trichotomy t t' with q | q | q
  · exact absurd (a3.resolve_left (by omega)) (a2.go b2 q)
  · exact q
  · exact absurd (b3.resolve_left (by omega)) (b2.go a2 q)
theorem upd4 {f : Nat → Int32} {t : Nat} {a b c d : Int32} : (∀ j, j < 4 * t → upd (upd (upd (upd f (4 * t) a) (4 * t + 1) b) (4 * t + 2) c) (4 * t + 3) d j = f j) ∧ upd (upd (upd (upd f (4 * t) a) (4 * t + 1) b) (4 * t + 2) c) (4 * t + 3) d (4 * t) = a ∧ upd (upd (upd (upd f (4 * t) a) (4 * t + 1) b) (4 * t + 2) c) (4 * t + 3) d (4 * t + 1) = b ∧ upd (upd (upd (upd f (4 * t) a) (4 * t + 1) b) (4 * t + 2) c) (4 * t + 3) d (4 * t + 2) = c ∧ upd (upd (upd (upd f (4 * t) a) (4 * t + 1) b) (4 * t + 2) c) (4 * t + 3) d (4 * t + 3) = d := by
  refine ⟨fun j hj => ?_, ?_, ?_, ?_, ?_⟩
  · rw [pk_un (by omega), pk_un (by omega), pk_un (by omega), pk_un (by omega)]
  · rw [pk_un (by omega), pk_un (by omega), pk_un (by omega), pk_us]
  · rw [pk_un (by omega), pk_un (by omega), pk_us]
  · rw [pk_un (by omega), pk_us]
  · rw [pk_us]
theorem RS.del {pl : Nat → Int32} {S : Nat → Nat} (hs : RS pl S) {item r : Nat} (hi : item < 16) (hr : r < 4) : RS (upd pl item (pl item &&& ((1 <<< (nI (r + 1) &&& 31)) ^^^ (-1)))) (va_up S item (delN (S item) r)) := by
  intro i h
  obtain ⟨e, hw⟩ := hs i h
  by_cases q : i = item
  · subst q
    obtain ⟨d1, d2⟩ := delN_ok _ hw r hr
    rw [pk_us, va_up_self, e, d1]
    exact ⟨rfl, d2⟩
  · rw [pk_un q, va_up_ne _ _ q]
    exact ⟨e, hw⟩
theorem Tr.next {t : Nat} {S : Nat → Nat} {lg : Nat → Int32} (h : Tr n KD IT PP' t S lg) (hN : NE S) {rl cl : Int32} {item r : Nat} (hs : StepR n KD IT PP' S rl cl item r) (hi : item < 16) (hr : r < 4) : Tr n KD IT PP' (t + 1) (va_up S item (delN (S item) r)) (upd (upd (upd (upd lg (4 * t) rl) (4 * t + 1) cl) (4 * t + 2) (nI item)) (4 * t + 3) (nI (r + 1))) := by
  obtain ⟨u0, u1, u2, u3, u4⟩ := upd4 (f := lg) (t := t) (a := rl) (b := cl) (c := nI item) (d := nI (r + 1))
  exact ⟨S, rl, cl, item, r, h.congr u0, hN, hs, hi, hr, rfl, u1, u2, u3, u4⟩
section STR
variable {t item r : Nat} {S : Nat → Nat} {pl lg : Nat → Int32} {rl cl : Int32} {Q' : Int32 → (Nat → Int32) → (Nat → Int32) → Prop}
theorem e_X4_strike (ht : t < 64) (hR : RS pl S) (hT : Tr n KD IT PP' t S lg) (hN : NE S) (hs : StepR n KD IT PP' S rl cl item r) (hi : item < 16) (hr : r < 4)
    (h : ∀ pl' lg', RS pl' (va_up S item (delN (S item) r)) → Tr n KD IT PP' (t + 1) (va_up S item (delN (S item) r)) lg' → lg' (4 * t + 2) = nI item → Q' (nI (t + 1)) pl' lg') : wp_X4_strike rl cl (nI item) (nI (r + 1)) (nI t) pl lg Q' := by
  refine ⟨vp_in_nI hi (by decide), vp_in_nI hi (by decide), ?_⟩
  rintro _ rfl
  rw [show (4 : Int32) * nI t = nI (4 * t) from pk_mul 4 t, nI_1, nI_1, show nI (4 * t) + 2 = nI (4 * t + 2) from nI_add _ 2, show nI (4 * t) + 3 = nI (4 * t + 3) from nI_add _ 3]
  refine ⟨vp_in_nI (by omega) (by decide), vp_in_nI (by omega) (by decide), vp_in_nI (by omega) (by decide), vp_in_nI (by omega) (by decide), ?_⟩
  rw [nI_clamp (n := item) (by omega), nI_clamp (n := 4 * t) (by omega), nI_clamp (n := 4 * t + 1) (by omega), nI_clamp (n := 4 * t + 2) (by omega), nI_clamp (n := 4 * t + 3) (by omega)]
  exact h _ _ (hR.del hi hr) (hT.next hN hs hi hr) (upd4 (f := lg)).2.2.2.1
theorem e_X7_strike (ht : t < 64) (hR : RS pl S) (hT : Tr n KD IT PP' t S lg) (hN : NE S) (hs : StepR n KD IT PP' S rl cl item r) (hi : item < 16) (hr : r < 4)
    (h : ∀ pl' lg', RS pl' (va_up S item (delN (S item) r)) → Tr n KD IT PP' (t + 1) (va_up S item (delN (S item) r)) lg' → Q' (nI (t + 1)) pl' lg') : wp_X7_strike rl cl (nI item) (nI (r + 1)) pl lg (nI t) Q' := by
  unfold wp_X7_strike
  rw [show (4 : Int32) * nI t = nI (4 * t) from pk_mul 4 t, nI_1, nI_1, show nI (4 * t) + 2 = nI (4 * t + 2) from nI_add _ 2, show nI (4 * t) + 3 = nI (4 * t + 3) from nI_add _ 3]
  refine ⟨vp_in_nI (by omega) (by decide), vp_in_nI (by omega) (by decide), vp_in_nI (by omega) (by decide), vp_in_nI (by omega) (by decide), vp_in_nI hi (by decide), vp_in_nI hi (by decide), ?_⟩
  rw [nI_clamp (n := item) (by omega), nI_clamp (n := 4 * t) (by omega), nI_clamp (n := 4 * t + 1) (by omega), nI_clamp (n := 4 * t + 2) (by omega), nI_clamp (n := 4 * t + 3) (by omega)]
  exact h _ _ (hR.del hi hr) (hT.next hN hs hi hr)
end STR
end TRACE
