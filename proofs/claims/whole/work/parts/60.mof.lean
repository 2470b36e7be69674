/-! ===== mathematics: Clue.of ===== -/
/-- the five numbers f of a clue: KIND kd, items it, place p -/
def WFn (kd : Nat) (it : Nat → Nat) (p : Nat) (f : Nat → Int32) : Prop := kd ≤ 6 ∧ (∀ i, i < mI kd → it i < 16) ∧ (∀ i j, i < mI kd → j < mI kd → i ≠ j → it i ≠ it j) ∧ f 0 = nI kd ∧ (∀ i, i < 3 → f (1 + i) = if i < mI kd then nI (it i) else -6) ∧ (kd = 5 → 1 ≤ p ∧ p ≤ 4 ∧ f 4 = nI p) ∧ (¬ kd = 5 → f 4 = -6)
/-- which orders meet it -/
def Mof (kd : Nat) (it : Nat → Nat) (p : Nat) (od : Nat → Nat) : Prop := metC kd p (cit it od 0) (cit it od 1) (cit it od 2)
/-- a clue's row tells which orders meet it; top is its last category; high is none where it has two items at most -/
def TKo (kd : Nat) (it : Nat → Nat) (p : Nat) (top low high : Int32) (al : Nat → Int32) : Prop := TK top low high al (Mof kd it p) ∧ (∃ t, t < 4 ∧ top = nI t ∧ (∀ i, i < mI kd → it i / 4 ≤ t) ∧ ∃ i, i < mI kd ∧ it i / 4 = t) ∧ (mI kd ≤ 2 → high = -6)
/-- what is true of each clue in the pool -/
def CWd (h : Nat → Int32) (al : Nat → Int32) : Prop := ∃ kd it p, WFn kd it p h ∧ TKo kd it p (h 5) (h 6) (h 7) al
theorem neg6_lt : ∀ a, a < 16 → (-6 : Int32) < nI a ∧ ¬ nI a < (-6 : Int32) := by decide +kernel
theorem Shp_e {m t : Nat} {it : Nat → Nat} {low high : Int32} (hs : Shp m t it low high) : ∀ n, (oeF t low it n m).2 < 16 := by
  intro n
  rcases hs with ⟨e1, e2, e3, e4⟩ | ⟨j, hj, e1, e2, e3, e4, e5⟩ | ⟨j, k, hj, hk', hjk, hlt, e1, e2, e3, e3', e4, e5⟩
  · rw [e4 n]; decide
  · rw [e5 n]; have := cN_lt n j; omega
  · rw [e5 n]; have := cN_lt n j; have := cN_lt n k; omega
theorem of_top {kd : Nat} {it : Nat → Nat} {p : Nat} {f : Nat → Int32} (h : WFn kd it p f) : ∃ t, t < 4 ∧ ((if f 1 < (if f 2 < f 3 then f 3 else f 2) then (if f 2 < f 3 then f 3 else f 2) else f 1) / 4) = nI t ∧ (∀ i, i < mI kd → it i / 4 ≤ t) ∧ ∃ i, i < mI kd ∧ it i / 4 = t := by
  obtain ⟨h1, h2, h3, h4, h5, h6, h7⟩ := h
  have f1 := h5 0 (by decide)
  have f2 := h5 1 (by decide)
  have f3 := h5 2 (by decide)
  rw [show (1 : Nat) + 0 = 1 from rfl] at f1
  rw [show (1 : Nat) + 1 = 2 from rfl] at f2
  rw [show (1 : Nat) + 2 = 3 from rfl] at f3
  have dv : ∀ a, a < 16 → nI a / 4 = nI (a / 4) := fun a ha => by rw [show (4 : Int32) = nI 4 from rfl, pk_div (by omega) (by decide) (by decide)]
  have lt : ∀ a b, a < 16 → b < 16 → (nI a < nI b ↔ a < b) := fun a b ha hb => nI_ltI (by omega) (by omega)
  rcases (show mI kd = 1 ∨ mI kd = 2 ∨ mI kd = 3 by have := mI_le kd; omega) with e | e | e
  · rw [e] at f1 f2 f3 h2
    rw [if_pos (show 0 < 1 by decide)] at f1
    rw [if_neg (show ¬ 1 < 1 by decide)] at f2
    rw [if_neg (show ¬ 2 < 1 by decide)] at f3
    rw [f1, f2, f3, if_neg (show ¬ (-6 : Int32) < -6 by decide), if_neg (neg6_lt _ (h2 0 (by decide))).2, dv _ (h2 0 (by decide))]
    have := h2 0 (by decide)
    refine ⟨it 0 / 4, by omega, rfl, fun i hi => ?_, 0, by omega, rfl⟩
    have e0 : i = 0 := by omega
    subst e0; omega
  · rw [e] at f1 f2 f3 h2
    have a0 := h2 0 (by decide)
    have a1 := h2 1 (by decide)
    rw [if_pos (show 0 < 2 by decide)] at f1
    rw [if_pos (show 1 < 2 by decide)] at f2
    rw [if_neg (show ¬ 2 < 2 by decide)] at f3
    rw [f1, f2, f3, if_neg (neg6_lt _ a1).2]
    by_cases q : it 0 < it 1
    · rw [if_pos ((lt _ _ a0 a1).mpr q), dv _ a1]
      refine ⟨it 1 / 4, by omega, rfl, fun i hi => ?_, 1, by omega, rfl⟩
      rcases (show i = 0 ∨ i = 1 by omega) with e0 | e0 <;> subst e0 <;> omega
    · rw [if_neg (fun z => q ((lt _ _ a0 a1).mp z)), dv _ a0]
      refine ⟨it 0 / 4, by omega, rfl, fun i hi => ?_, 0, by omega, rfl⟩
      rcases (show i = 0 ∨ i = 1 by omega) with e0 | e0 <;> subst e0 <;> omega
  · rw [e] at f1 f2 f3 h2
    have a0 := h2 0 (by decide)
    have a1 := h2 1 (by decide)
    have a2 := h2 2 (by decide)
    rw [if_pos (show 0 < 3 by decide)] at f1
    rw [if_pos (show 1 < 3 by decide)] at f2
    rw [if_pos (show 2 < 3 by decide)] at f3
    rw [f1, f2, f3]
    by_cases r : it 1 < it 2
    · rw [if_pos ((lt _ _ a1 a2).mpr r)]
      by_cases q : it 0 < it 2
      · rw [if_pos ((lt _ _ a0 a2).mpr q), dv _ a2]
        refine ⟨it 2 / 4, by omega, rfl, fun i hi => ?_, 2, by omega, rfl⟩
        rcases (show i = 0 ∨ i = 1 ∨ i = 2 by omega) with e0 | e0 | e0 <;> subst e0 <;> omega
      · rw [if_neg (fun z => q ((lt _ _ a0 a2).mp z)), dv _ a0]
        refine ⟨it 0 / 4, by omega, rfl, fun i hi => ?_, 0, by omega, rfl⟩
        rcases (show i = 0 ∨ i = 1 ∨ i = 2 by omega) with e0 | e0 | e0 <;> subst e0 <;> omega
    · rw [if_neg (fun z => r ((lt _ _ a1 a2).mp z))]
      by_cases q : it 0 < it 1
      · rw [if_pos ((lt _ _ a0 a1).mpr q), dv _ a1]
        refine ⟨it 1 / 4, by omega, rfl, fun i hi => ?_, 1, by omega, rfl⟩
        rcases (show i = 0 ∨ i = 1 ∨ i = 2 by omega) with e0 | e0 | e0 <;> subst e0 <;> omega
      · rw [if_neg (fun z => q ((lt _ _ a0 a1).mp z)), dv _ a0]
        refine ⟨it 0 / 4, by omega, rfl, fun i hi => ?_, 0, by omega, rfl⟩
        rcases (show i = 0 ∨ i = 1 ∨ i = 2 by omega) with e0 | e0 | e0 <;> subst e0 <;> omega
theorem e_X1_of {kd : Nat} {it : Nat → Nat} {p : Nat} {f : Nat → Int32} {pv : PV} (h : WFn kd it p f) {Q : Nat → Nat → Int32 → Int32 → Int32 → Int32 → Int32 → Int32 → Int32 → Int32 → (Nat → Int32) → Prop}
    (hQ : ∀ q1 q2 top low high al, ¬ pv.1 q1 → TKo kd it p top low high al → Q q1 q2 (f 0) (f 1) (f 2) (f 3) (f 4) top low high al) : wp_X1_of (f 0) (f 1) (f 2) (f 3) (f 4) pv Q := by
  obtain ⟨t, ht, et, hle, hex⟩ := of_top h
  obtain ⟨h1, h2, h3, h4, h5, h6, h7⟩ := h
  have hs := shape (mI_le kd) h2 h3 hle hex
  have hit : ∀ i, i < mI kd → itv (f 1) (f 2) (f 3) i = nI (it i) ∧ it i < 16 := by
    intro i hi
    have hm := mI_le kd
    refine ⟨?_, h2 i hi⟩
    have := h5 i (by omega)
    rw [if_pos hi] at this
    rw [← this]
    rcases (show i = 0 ∨ i = 1 ∨ i = 2 by omega) with e0 | e0 | e0 <;> subst e0 <;> rfl
  intro q1 hq1 q2
  rw [et]
  rw [h4]
  refine e_X1_findLowItems h1 ht hit ?_
  refine e_X1_fillAllowed (p := p) h1 ht (fun e => ⟨(h6 e).2.2, by have := (h6 e).2.1; omega⟩) hit (Shp_e hs) (fun al ha => ?_)
  rw [← h4]
  refine hQ q1 q2 _ _ _ al hq1 ⟨TK_of h1 ht h2 hs ha, ⟨t, ht, rfl, hle, hex⟩, fun hm2 => ?_⟩
  rcases hs with ⟨_, e2, _⟩ | ⟨_, _, _, e2, _⟩ | ⟨j, k, hj, hk', hjk, _, _, _, e3, e3', _⟩
  · exact e2
  · exact e2
  · obtain ⟨i, hi, ei⟩ := hex
    have : i = j ∨ i = k := by omega
    rcases this with q | q <;> subst q <;> omega
