/-! ===== mathematics: THE TEXT ===== -/
/-- branches of a predicate -/
theorem br2 {c A B : Prop} (a : c → A) (b : ¬ c → B) : (c → A) ∧ (¬ c → B) := ⟨a, b⟩
def isLet (w : Int32) : Prop := ¬ w < 97 ∧ ¬ 100 < w
def isFig (w : Int32) : Prop := ¬ w < 49 ∧ ¬ 52 < w
theorem e_X5_isLetter {w : Int32} {Q : Int32 → Prop} (h1 : isLet w → Q 1) (h0 : ¬ isLet w → Q 0) : wp_X5_isLetter w Q :=
  ⟨fun c => h0 (fun h => h.1 c), fun c => ⟨fun d => h0 (fun h => h.2 d), fun d => h1 ⟨c, d⟩⟩⟩
theorem e_X5_isFigure {w : Int32} {Q : Int32 → Prop} (h1 : isFig w → Q 1) (h0 : ¬ isFig w → Q 0) : wp_X5_isFigure w Q :=
  ⟨fun c => h0 (fun h => h.1 c), fun c => ⟨fun d => h0 (fun h => h.2 d), fun d => h1 ⟨c, d⟩⟩⟩
theorem e_X7_in {x lo hi : Int32} {Q : Int32 → Prop} (h1 : ¬ x < lo ∧ ¬ hi < x → Q 1) (h0 : ¬ (¬ x < lo ∧ ¬ hi < x) → Q 0) : wp_X7_in x lo hi Q :=
  ⟨fun c => h0 (fun h => h.1 c), fun c => ⟨fun d => h0 (fun h => h.2 d), fun d => h1 ⟨c, d⟩⟩⟩
/-- the KIND that a sign tells -/
def knd (w : Int32) : Int32 := if w = 61 then 0 else if w = 33 then 1 else if w = 60 then 2 else if w = 43 then 3 else if w = 126 then 4 else if w = 64 then 5 else -6
theorem e_X7_kindOf {w : Int32} {Q : Int32 → Prop} (h : Q (knd w)) : wp_X7_kindOf w Q := by
  unfold knd at h
  refine ⟨fun c => ?_, fun c1 => ⟨fun c => ?_, fun c2 => ⟨fun c => ?_, fun c3 => ⟨fun c => ?_, fun c4 => ⟨fun c => ?_, fun c5 => ⟨fun c => ?_, fun c6 => ?_⟩⟩⟩⟩⟩⟩
  · rw [if_pos c] at h; exact h
  · rw [if_neg c1, if_pos c] at h; exact h
  · rw [if_neg c1, if_neg c2, if_pos c] at h; exact h
  · rw [if_neg c1, if_neg c2, if_neg c3, if_pos c] at h; exact h
  · rw [if_neg c1, if_neg c2, if_neg c3, if_neg c4, if_pos c] at h; exact h
  · rw [if_neg c1, if_neg c2, if_neg c3, if_neg c4, if_neg c5, if_pos c] at h; exact h
  · rw [if_neg c1, if_neg c2, if_neg c3, if_neg c4, if_neg c5, if_neg c6] at h; exact h
theorem e_X5_kindOf {w : Int32} {Q : Int32 → Prop} (h : Q (knd w)) : wp_X5_kindOf w Q := by
  unfold knd at h
  unfold wp_X5_kindOf
  refine ⟨fun c => ?_, fun c => ?_, fun c => ?_, fun c => ?_, fun c => ?_, fun c => ?_, fun c => ?_⟩
  · subst c; simpa using h
  · subst c; simpa using h
  · subst c; simpa using h
  · subst c; simpa using h
  · subst c; simpa using h
  · subst c; simpa using h
  · obtain ⟨c1, c2, c3, c4, c5, c6⟩ := c
    simpa [c1, c2, c3, c4, c5, c6] using h
theorem knd_neg (w : Int32) : knd w < 0 ↔ knd w = -6 := by
  unfold knd
  split <;> (try split) <;> (try split) <;> (try split) <;> (try split) <;> (try split) <;> decide
/-- a sign may stand at a place -/
def cst (t : Nat → Int32) (i : Nat) : Prop := match i with
  | 0 => isLet (t 0)
  | 1 => isFig (t 1)
  | 2 => ¬ knd (t 2) = -6
  | 3 => (t 2 = 64 ∧ isFig (t 3)) ∨ (¬ t 2 = 64 ∧ isLet (t 3))
  | 4 => ¬ t 2 = 64 ∧ isFig (t 4)
  | 5 => t 2 = 61 ∧ t 5 = 124
  | 6 => isLet (t 6)
  | 7 => isFig (t 7)
  | _ => False
theorem cl2 : (2 : Int32).toNatClampNeg = 2 := by decide
theorem nI_cl {n : Nat} (h : n < 10) : (nI n).toNatClampNeg = n := nI_clamp (by omega)
set_option maxRecDepth 20000 in
theorem e_X5_canStand {t : Nat → Int32} {i : Nat} (hi : i < 10) {Q : Int32 → Prop} (h1 : cst t i → Q 1) (h0 : ¬ cst t i → Q 0) : wp_X5_canStand (nI i) t Q := by
  refine ⟨vp_in_nI hi (by omega), ?_⟩
  intro w ew
  rw [nI_cl hi] at ew
  subst ew
  simp only [cl2]
  have ne : ∀ j : Nat, j < 10 → j ≠ i → ¬ nI i = nI j := fun j hj hne e => hne ((nI_eq (by omega) (by omega)).mp e).symm
  have lit : ∀ j : Nat, j < 10 → i = j → ∀ {P : Prop}, (i = j → P) → P := fun j _ e P f => f e
  refine ⟨fun c => ?_, fun c => ?_, fun c => ?_, fun c => ?_, fun c => ?_, fun c => ?_, fun c => ?_, fun c => ?_, fun c => ?_⟩
  · have e : i = 0 := (nI_eq (by omega) (by decide)).mp c
    subst e
    exact e_X5_isLetter (fun h => ⟨zb1, h1 h⟩) (fun h => ⟨zb0, h0 h⟩)
  · have e : i = 1 := (nI_eq (by omega) (by decide)).mp c
    subst e
    exact e_X5_isFigure (fun h => ⟨zb1, h1 h⟩) (fun h => ⟨zb0, h0 h⟩)
  · have e : i = 2 := (nI_eq (by omega) (by decide)).mp c
    subst e
    exact e_X5_kindOf ⟨fun h => h0 (fun k => k h), fun h => h1 h⟩
  · have e : i = 3 := (nI_eq (by omega) (by decide)).mp c
    subst e
    exact ⟨fun d => e_X5_isFigure (fun h => ⟨zb1, h1 (Or.inl ⟨d, h⟩)⟩) (fun h => ⟨zb0, h0 (fun k => k.elim (fun k => h k.2) (fun k => k.1 d))⟩), fun d => e_X5_isLetter (fun h => ⟨zb1, h1 (Or.inr ⟨d, h⟩)⟩) (fun h => ⟨zb0, h0 (fun k => k.elim (fun k => d k.1) (fun k => h k.2))⟩)⟩
  · have e : i = 4 := (nI_eq (by omega) (by decide)).mp c
    subst e
    exact ⟨fun d => h0 (fun k => k.1 d), fun d => e_X5_isFigure (fun h => ⟨fun z => absurd z (by decide), fun _ => h1 ⟨d, h⟩⟩) (fun h => ⟨fun _ => h0 (fun k => h k.2), fun z => absurd rfl z⟩)⟩
  · have e : i = 5 := (nI_eq (by omega) (by decide)).mp c
    subst e
    exact ⟨fun d => ⟨fun f => h1 ⟨d, f⟩, fun f => h0 (fun k => f k.2)⟩, fun d => h0 (fun k => d k.1)⟩
  · have e : i = 6 := (nI_eq (by omega) (by decide)).mp c
    subst e
    exact e_X5_isLetter (fun h => ⟨zb1, h1 h⟩) (fun h => ⟨zb0, h0 h⟩)
  · have e : i = 7 := (nI_eq (by omega) (by decide)).mp c
    subst e
    exact e_X5_isFigure (fun h => ⟨zb1, h1 h⟩) (fun h => ⟨zb0, h0 h⟩)
  · obtain ⟨c0, c1, c2, c3, c4, c5, c6, c7⟩ := c
    have hge : 8 ≤ i := by
      rcases (show i = 0 ∨ i = 1 ∨ i = 2 ∨ i = 3 ∨ i = 4 ∨ i = 5 ∨ i = 6 ∨ i = 7 ∨ 8 ≤ i by omega) with e | e | e | e | e | e | e | e | e
      · subst e; exact absurd rfl c0
      · subst e; exact absurd rfl c1
      · subst e; exact absurd rfl c2
      · subst e; exact absurd rfl c3
      · subst e; exact absurd rfl c4
      · subst e; exact absurd rfl c5
      · subst e; exact absurd rfl c6
      · subst e; exact absurd rfl c7
      · exact e
    rcases (show i = 8 ∨ i = 9 by omega) with e | e
    · subst e; exact h0 (fun k => k)
    · subst e; exact h0 (fun k => k)
theorem e_X7_canStand {t : Nat → Int32} {i : Nat} (hi : i < 10) {Q : Int32 → Prop} (h1 : cst t i → Q 1) (h0 : ¬ cst t i → Q 0) : wp_X7_canStand (nI i) t Q := by
  refine ⟨vp_in_nI hi (by omega), ?_⟩
  intro w ew
  rw [nI_cl hi] at ew
  subst ew
  simp only [cl2]
  have fin : ∀ (r2 r3 : Int32), (r2 = 1 ∧ isLet (t i) ∨ r2 = 0 ∧ ¬ isLet (t i)) → (r3 = 1 ∧ isFig (t i) ∨ r3 = 0 ∧ ¬ isFig (t i)) → ((nI i = 0 → (zb r2 ∧ Q r2)) ∧ (nI i = 1 → (zb r3 ∧ Q r3)) ∧ (nI i = 2 → (wp_X7_kindOf (t i) (fun r5 => ((r5 < 0 → Q 0) ∧ (¬ (r5 < 0) → Q 1))))) ∧ (nI i = 3 → (((t 2) = 64 → (zb r3 ∧ Q r3)) ∧ (¬ ((t 2) = 64) → (zb r2 ∧ Q r2)))) ∧ (nI i = 4 → (((t 2) = 64 → Q 0) ∧ (¬ ((t 2) = 64) → ((r3 = 0 → Q 0) ∧ (¬ (r3 = 0) → Q 1))))) ∧ (nI i = 5 → (((t 2) = 61 → ((t i = 124 → Q 1) ∧ (¬ (t i = 124) → Q 0))) ∧ (¬ ((t 2) = 61) → Q 0))) ∧ (nI i = 6 → (zb r2 ∧ Q r2)) ∧ (nI i = 7 → (zb r3 ∧ Q r3)) ∧ (¬ nI i = 0 ∧ ¬ nI i = 1 ∧ ¬ nI i = 2 ∧ ¬ nI i = 3 ∧ ¬ nI i = 4 ∧ ¬ nI i = 5 ∧ ¬ nI i = 6 ∧ ¬ nI i = 7 → Q 0)) := by
    intro r2 r3 a2 a3
    have z2 : zb r2 := a2.elim (fun h => Or.inr h.1) (fun h => Or.inl h.1)
    have z3 : zb r3 := a3.elim (fun h => Or.inr h.1) (fun h => Or.inl h.1)
    have q2 : ∀ {P : Prop}, (isLet (t i) → P) → (¬ isLet (t i) → ¬ P) → (P → Q 1) → (¬ P → Q 0) → Q r2 := fun f g u v => a2.elim (fun h => by rw [h.1]; exact u (f h.2)) (fun h => by rw [h.1]; exact v (g h.2))
    have q3 : ∀ {P : Prop}, (isFig (t i) → P) → (¬ isFig (t i) → ¬ P) → (P → Q 1) → (¬ P → Q 0) → Q r3 := fun f g u v => a3.elim (fun h => by rw [h.1]; exact u (f h.2)) (fun h => by rw [h.1]; exact v (g h.2))
    refine ⟨fun c => ?_, fun c => ?_, fun c => ?_, fun c => ?_, fun c => ?_, fun c => ?_, fun c => ?_, fun c => ?_, fun c => ?_⟩
    · have e : i = 0 := (nI_eq (by omega) (by decide)).mp c
      subst e
      exact ⟨z2, q2 (P := cst t 0) id id h1 h0⟩
    · have e : i = 1 := (nI_eq (by omega) (by decide)).mp c
      subst e
      exact ⟨z3, q3 (P := cst t 1) id id h1 h0⟩
    · have e : i = 2 := (nI_eq (by omega) (by decide)).mp c
      subst e
      exact e_X7_kindOf ⟨fun h => h0 (fun k => k ((knd_neg _).mp h)), fun h => h1 (fun k => h ((knd_neg _).mpr k))⟩
    · have e : i = 3 := (nI_eq (by omega) (by decide)).mp c
      subst e
      exact ⟨fun d => ⟨z3, q3 (P := cst t 3) (fun h => Or.inl ⟨d, h⟩) (fun h k => k.elim (fun k => h k.2) (fun k => k.1 d)) h1 h0⟩, fun d => ⟨z2, q2 (P := cst t 3) (fun h => Or.inr ⟨d, h⟩) (fun h k => k.elim (fun k => d k.1) (fun k => h k.2)) h1 h0⟩⟩
    · have e : i = 4 := (nI_eq (by omega) (by decide)).mp c
      subst e
      refine ⟨fun d => h0 (fun k => k.1 d), fun d => ⟨fun z => ?_, fun z => ?_⟩⟩
      · exact a3.elim (fun h => absurd (h.1.symm.trans z) (by decide)) (fun h => h0 (fun k => h.2 k.2))
      · exact a3.elim (fun h => h1 ⟨d, h.2⟩) (fun h => absurd h.1 z)
    · have e : i = 5 := (nI_eq (by omega) (by decide)).mp c
      subst e
      exact ⟨fun d => ⟨fun f => h1 ⟨d, f⟩, fun f => h0 (fun k => f k.2)⟩, fun d => h0 (fun k => d k.1)⟩
    · have e : i = 6 := (nI_eq (by omega) (by decide)).mp c
      subst e
      exact ⟨z2, q2 (P := cst t 6) id id h1 h0⟩
    · have e : i = 7 := (nI_eq (by omega) (by decide)).mp c
      subst e
      exact ⟨z3, q3 (P := cst t 7) id id h1 h0⟩
    · obtain ⟨c0, c1, c2, c3, c4, c5, c6, c7⟩ := c
      rcases (show i = 0 ∨ i = 1 ∨ i = 2 ∨ i = 3 ∨ i = 4 ∨ i = 5 ∨ i = 6 ∨ i = 7 ∨ i = 8 ∨ i = 9 by omega) with e | e | e | e | e | e | e | e | e | e
      · subst e; exact absurd rfl c0
      · subst e; exact absurd rfl c1
      · subst e; exact absurd rfl c2
      · subst e; exact absurd rfl c3
      · subst e; exact absurd rfl c4
      · subst e; exact absurd rfl c5
      · subst e; exact absurd rfl c6
      · subst e; exact absurd rfl c7
      · subst e; exact h0 (fun k => k)
      · subst e; exact h0 (fun k => k)
  exact e_X7_in (fun a => e_X7_in (fun b => fin 1 1 (Or.inl ⟨rfl, a⟩) (Or.inl ⟨rfl, b⟩)) (fun b => fin 1 0 (Or.inl ⟨rfl, a⟩) (Or.inr ⟨rfl, b⟩))) (fun a => e_X7_in (fun b => fin 0 1 (Or.inr ⟨rfl, a⟩) (Or.inl ⟨rfl, b⟩)) (fun b => fin 0 0 (Or.inr ⟨rfl, a⟩) (Or.inr ⟨rfl, b⟩)))
/-- the FAULT of a text of n signs: v -/
def FP (t : Nat → Int32) (n : Nat) (v : Int32) : Prop := (∃ i, i < n ∧ (∀ j, j < i → cst t j) ∧ ¬ cst t i ∧ v = nI i) ∨ ((∀ j, j < n → cst t j) ∧ ((n = 8 ∨ n = 5 ∨ (n = 4 ∧ t 2 = 64)) ∧ v = -6 ∨ ¬ (n = 8 ∨ n = 5 ∨ (n = 4 ∧ t 2 = 64)) ∧ v = nI n))
theorem e_X5_isWhole {t : Nat → Int32} {n : Nat} (hn : n ≤ 10) (hc : ∀ j, j < n → cst t j) {Q : Int32 → Prop} (h1 : (n = 8 ∨ n = 5 ∨ (n = 4 ∧ t 2 = 64)) → Q 1) (h0 : ¬ (n = 8 ∨ n = 5 ∨ (n = 4 ∧ t 2 = 64)) → Q 0) : wp_X5_isWhole (nI n) t Q := by
  unfold wp_X5_isWhole
  simp only [cl2]
  refine ⟨fun c => ⟨fun d => h1 ?_, fun d => ⟨fun f => h1 ?_, fun f => ⟨fun k => h1 ?_, fun k => h0 ?_⟩⟩⟩, fun c => h0 ?_⟩
  · have h4 : 4 ≤ n := (nI_leI (a := 4) (by decide) (by omega)).mp c
    by_cases h5 : 4 < n
    · exact absurd d (hc 4 h5).1
    · exact Or.inr (Or.inr ⟨by omega, d⟩)
  · exact Or.inr (Or.inl ((nI_eq (b := 5) (by omega) (by decide)).mp f))
  · exact Or.inl ((nI_eq (b := 8) (by omega) (by decide)).mp k)
  · rintro (e | e | e)
    · subst e; exact k rfl
    · subst e; exact f rfl
    · exact d e.2
  · rintro (e | e | e)
    · subst e; exact c (by decide)
    · subst e; exact c (by decide)
    · obtain ⟨e, -⟩ := e; subst e; exact c (by decide)
theorem e_X5_faultPlace {t : Nat → Int32} {n : Nat} (hn : n ≤ 10) {Q : Int32 → Prop} (h : ∀ v, FP t n v → Q v) : wp_X5_faultPlace (nI n) t Q := by
  refine ⟨fun l => ∃ i, i ≤ n ∧ l = nI i ∧ ∀ j, j < i → cst t j, fun l => 10 - l.toNatClampNeg, ⟨0, Nat.zero_le _, nI_0.symm, fun j hj => absurd hj (Nat.not_lt_zero _)⟩, ?_⟩
  rintro l ⟨i, hi, rfl, hc⟩
  refine ⟨fun c => ?_, fun c => ?_⟩
  · have e : i = n := Nat.le_antisymm hi ((nI_leI (by omega) (by omega)).mp c)
    subst e
    exact e_X5_isWhole hn hc (fun w => ⟨fun z => absurd z (by decide), fun _ => h _ (Or.inr ⟨hc, Or.inl ⟨w, rfl⟩⟩)⟩) (fun w => ⟨fun _ => h _ (Or.inr ⟨hc, Or.inr ⟨w, rfl⟩⟩), fun z => absurd rfl z⟩)
  · have hlt : i < n := Nat.lt_of_not_le (fun q => c ((nI_leI (by omega) (by omega)).mpr q))
    refine e_X5_canStand (by omega) (fun k => ⟨fun z => absurd z (by decide), fun _ => ⟨⟨i + 1, hlt, nI_1 i, fun j hj => ?_⟩, ?_⟩⟩) (fun k => ⟨fun _ => h _ (Or.inl ⟨i, hlt, hc, k, rfl⟩), fun z => absurd rfl z⟩)
    · rcases Nat.lt_succ_iff_lt_or_eq.mp hj with q | q
      · exact hc j q
      · subst q; exact k
    · show 10 - (nI i + 1).toNatClampNeg < 10 - (nI i).toNatClampNeg
      rw [nI_1, nI_clamp (by omega), nI_clamp (by omega)]
      omega
theorem e_X7_faultNow {t : Nat → Int32} {n : Nat} (hn : n ≤ 10) {Q : Int32 → Prop} (h : ∀ v, FP t n v → Q v) : wp_X7_faultNow t (nI n) Q := by
  refine ⟨fun l => ∃ i, i ≤ n ∧ l = nI i ∧ ∀ j, j < i → cst t j, fun l => 10 - l.toNatClampNeg, ⟨0, Nat.zero_le _, nI_0.symm, fun j hj => absurd hj (Nat.not_lt_zero _)⟩, ?_⟩
  rintro l ⟨i, hi, rfl, hc⟩
  refine ⟨fun c => ?_, fun c => ?_⟩
  · have e : i = n := Nat.le_antisymm hi ((nI_leI (by omega) (by omega)).mp c)
    subst e
    have y1 : (i = 8 ∨ i = 5 ∨ (i = 4 ∧ t 2 = 64)) → wp_X7_faultNow_67 Q (nI i) 1 := fun w => ⟨fun z => absurd z (by decide), fun _ => h _ (Or.inr ⟨hc, Or.inl ⟨w, rfl⟩⟩)⟩
    have y0 : ¬ (i = 8 ∨ i = 5 ∨ (i = 4 ∧ t 2 = 64)) → wp_X7_faultNow_67 Q (nI i) 0 := fun w => ⟨fun _ => h _ (Or.inr ⟨hc, Or.inr ⟨w, rfl⟩⟩), fun z => absurd rfl z⟩
    simp only [cl2]
    have q : ∀ k : Nat, k < 20 → (nI i = nI k ↔ i = k) := fun k hk => nI_eq (by omega) (by omega)
    refine ⟨fun a => y1 (Or.inl ((q 8 (by decide)).mp a)), fun a => ⟨fun b => y1 (Or.inr (Or.inl ((q 5 (by decide)).mp b))), fun b => ⟨fun d => ⟨fun f => y1 (Or.inr (Or.inr ⟨(q 4 (by decide)).mp d, f⟩)), fun f => y0 ?_⟩, fun d => y0 ?_⟩⟩⟩
    · rintro (e | e | e)
      · exact a ((q 8 (by decide)).mpr e)
      · exact b ((q 5 (by decide)).mpr e)
      · exact f e.2
    · rintro (e | e | e)
      · exact a ((q 8 (by decide)).mpr e)
      · exact b ((q 5 (by decide)).mpr e)
      · exact d ((q 4 (by decide)).mpr e.1)
  · have hlt : i < n := Nat.lt_of_not_le (fun q => c ((nI_leI (by omega) (by omega)).mpr q))
    refine e_X7_canStand (by omega) (fun k => ⟨fun z => absurd z (by decide), fun _ => ⟨⟨i + 1, hlt, nI_1 i, fun j hj => ?_⟩, ?_⟩⟩) (fun k => ⟨fun _ => h _ (Or.inl ⟨i, hlt, hc, k, rfl⟩), fun z => absurd rfl z⟩)
    · rcases Nat.lt_succ_iff_lt_or_eq.mp hj with q | q
      · exact hc j q
      · subst q; exact k
    · show 10 - (nI i + 1).toNatClampNeg < 10 - (nI i).toNatClampNeg
      rw [nI_1, nI_clamp (by omega), nI_clamp (by omega)]
      omega
theorem cst_8 {t : Nat → Int32} {i : Nat} (h : 8 ≤ i) : ¬ cst t i := by
  obtain ⟨k, rfl⟩ : ∃ k, i = k + 8 := ⟨i - 8, by omega⟩
  intro q
  simp [cst] at q
theorem cst_congr {t t' : Nat → Int32} {n : Nat} (h : ∀ j, j < n → t j = t' j) {i : Nat} (hi : i < n) : cst t i ↔ cst t' i := by
  by_cases h8 : 8 ≤ i
  · exact ⟨fun q => absurd q (cst_8 h8), fun q => absurd q (cst_8 h8)⟩
  · rcases (show i = 0 ∨ i = 1 ∨ i = 2 ∨ i = 3 ∨ i = 4 ∨ i = 5 ∨ i = 6 ∨ i = 7 by omega) with e | e | e | e | e | e | e | e
    · subst e; simp only [cst, h 0 hi]
    · subst e; simp only [cst, h 1 hi]
    · subst e; simp only [cst, h 2 hi]
    · subst e; simp only [cst, h 2 (show 2 < n by omega), h 3 hi]
    · subst e; simp only [cst, h 2 (show 2 < n by omega), h 4 hi]
    · subst e; simp only [cst, h 2 (show 2 < n by omega), h 5 hi]
    · subst e; simp only [cst, h 6 hi]
    · subst e; simp only [cst, h 7 hi]
theorem FP_uniq {t t' : Nat → Int32} {n : Nat} (hn : n ≤ 10) (h : ∀ j, j < n → t j = t' j) {v v' : Int32} (a : FP t n v) (b : FP t' n v') : v = v' := by
  have h2 : n = 4 → (t 2 = 64 ↔ t' 2 = 64) := fun e => by rw [h 2 (by omega)]
  have hw : (n = 8 ∨ n = 5 ∨ (n = 4 ∧ t 2 = 64)) ↔ (n = 8 ∨ n = 5 ∨ (n = 4 ∧ t' 2 = 64)) := by
    constructor
    · rintro (e | e | e)
      · exact Or.inl e
      · exact Or.inr (Or.inl e)
      · exact Or.inr (Or.inr ⟨e.1, (h2 e.1).mp e.2⟩)
    · rintro (e | e | e)
      · exact Or.inl e
      · exact Or.inr (Or.inl e)
      · exact Or.inr (Or.inr ⟨e.1, (h2 e.1).mpr e.2⟩)
  rcases a with ⟨i, hi, ai, ni, rfl⟩ | ⟨ac, a⟩
  · rcases b with ⟨j, hj, bj, nj, rfl⟩ | ⟨bc, b⟩
    · rcases Nat.lt_trichotomy i j with q | q | q
      · exact absurd ((cst_congr h hi).mpr (bj i q)) ni
      · rw [q]
      · exact absurd ((cst_congr h hj).mp (ai j q)) nj
    · exact absurd ((cst_congr h hi).mpr (bc i hi)) ni
  · rcases b with ⟨j, hj, bj, nj, rfl⟩ | ⟨bc, b⟩
    · exact absurd ((cst_congr h hj).mp (ac j hj)) nj
    · rcases a with ⟨w, rfl⟩ | ⟨w, rfl⟩
      · rcases b with ⟨w', rfl⟩ | ⟨w', rfl⟩
        · rfl
        · exact absurd (hw.mp w) w'
      · rcases b with ⟨w', rfl⟩ | ⟨w', rfl⟩
        · exact absurd (hw.mpr w') w
        · rfl
