/-! ===== mathematics: a clue's row tells which orders meet it ===== -/
def OrdOK (od : Nat → Nat) : Prop := ∀ c, c < 4 → od c < 24
/-- the column of an item when the categories have the orders od -/
def cit (it : Nat → Nat) (od : Nat → Nat) (i : Nat) : Nat := colN (od (it i / 4)) (it i % 4)
/-- the column that low, or high, tells -/
def fsC (v : Int32) (od : Nat → Nat) : Nat := if v = -6 then 0 else colN (od (v.toNatClampNeg / 4)) (v.toNatClampNeg % 4)
theorem fsC_6 {od : Nat → Nat} : fsC (-6) od = 0 := if_pos rfl
theorem fsC_n {a : Nat} (ha : a < 16) {od : Nat → Nat} : fsC (nI a) od = colN (od (a / 4)) (a % 4) := by
  unfold fsC
  rw [if_neg (ne6 a ha), nI_clamp (by omega)]
def ShpV (t : Nat) (low high : Int32) : Prop := (low = -6 ∧ high = -6) ∨ (∃ a, a < 16 ∧ a / 4 < t ∧ low = nI a ∧ high = -6) ∨ (∃ a b, a < b ∧ b < 16 ∧ b / 4 < t ∧ low = nI a ∧ high = nI b)
/-- what Grids needs of a clue: its top, low and high, and that its row tells which orders M has -/
def TK (top low high : Int32) (al : Nat → Int32) (M : (Nat → Nat) → Prop) : Prop := ∃ t, t < 4 ∧ top = nI t ∧ ShpV t low high ∧ ∀ od, OrdOK od → (bt (al (4 * fsC low od + fsC high od)) (od t) = true ↔ M od)
theorem oeF_bt {t n : Nat} {low : Int32} {it : Nat → Nat} {o : Nat} (ho : o < 24) : ∀ i, (bt (oeF t low it n i).1 o = true ↔ ∀ j, j < i → it j / 4 = t → colN o (it j % 4) = cN n j)
  | 0 => by
    have e : (oeF t low it n 0).1 = 16777215 := by unfold oeF; rfl
    rw [e, b_all o (by omega), decide_eq_true ho]
    exact ⟨fun _ j hj => absurd hj (Nat.not_lt_zero _), fun _ => rfl⟩
  | i + 1 => by
    have ih := oeF_bt (t := t) (n := n) (low := low) (it := it) ho i
    by_cases h : it i / 4 = t
    · rw [oeF_T h, b_and, ow_ok (it i % 4) (Nat.mod_lt _ (by decide)) (cN n i) (cN_lt n i) o ho, Bool.and_eq_true, ih, decide_eq_true_iff]
      constructor
      · rintro ⟨a, b⟩ j hj ht
        by_cases e : j = i
        · subst e; exact b
        · exact a j (by omega) ht
      · intro a
        exact ⟨fun j hj ht => a j (by omega) ht, a i (by omega) h⟩
    · have e : (oeF t low it n (i + 1)).1 = (oeF t low it n i).1 := by
        conv => lhs; unfold oeF
        rw [if_neg h]
        split <;> rfl
      rw [e, ih]
      constructor
      · intro a j hj ht
        by_cases e : j = i
        · subst e; exact absurd ht h
        · exact a j (by omega) ht
      · intro a j hj ht
        exact a j (by omega) ht
theorem metC_congr {kd p : Nat} (hk : kd ≤ 6) {a b : Nat → Nat} (h : ∀ i, i < mI kd → a i = b i) : metC kd p (a 0) (a 1) (a 2) ↔ metC kd p (b 0) (b 1) (b 2) := by
  rcases (show kd = 0 ∨ kd = 1 ∨ kd = 2 ∨ kd = 3 ∨ kd = 4 ∨ kd = 5 ∨ kd = 6 by omega) with r | r | r | r | r | r | r
  · subst r; simp only [metC, h 0 (by decide), h 1 (by decide)]
  · subst r; simp only [metC, h 0 (by decide), h 1 (by decide)]
  · subst r; simp only [metC, h 0 (by decide), h 1 (by decide)]
  · subst r; simp only [metC, h 0 (by decide), h 1 (by decide)]
  · subst r; simp only [metC, h 0 (by decide), h 1 (by decide)]
  · subst r; simp only [metC, h 0 (by decide)]
  · subst r; simp only [metC, h 0 (by decide), h 1 (by decide), h 2 (by decide)]
theorem cN_ex {m : Nat} (hm : 1 ≤ m ∧ m ≤ 3) {a : Nat → Nat} (ha : ∀ i, i < m → a i < 4) : ∃ c, c < 4 ^ m ∧ ∀ i, i < m → cN c i = a i := by
  rcases (show m = 1 ∨ m = 2 ∨ m = 3 by omega) with e | e | e
  · subst e
    have h0 := ha 0 (by decide)
    refine ⟨a 0, by omega, fun i hi => ?_⟩
    have e : i = 0 := by omega
    subst e
    show a 0 / 1 % 4 = a 0
    omega
  · subst e
    have h0 := ha 0 (by decide)
    have h1 := ha 1 (by decide)
    refine ⟨a 0 + 4 * a 1, by omega, fun i hi => ?_⟩
    rcases (show i = 0 ∨ i = 1 by omega) with e | e <;> subst e
    · show (a 0 + 4 * a 1) / 1 % 4 = a 0
      omega
    · show (a 0 + 4 * a 1) / 4 % 4 = a 1
      omega
  · subst e
    have h0 := ha 0 (by decide)
    have h1 := ha 1 (by decide)
    have h2 := ha 2 (by decide)
    refine ⟨a 0 + 4 * a 1 + 16 * a 2, by omega, fun i hi => ?_⟩
    rcases (show i = 0 ∨ i = 1 ∨ i = 2 by omega) with e | e | e <;> subst e
    · show (a 0 + 4 * a 1 + 16 * a 2) / 1 % 4 = a 0
      omega
    · show (a 0 + 4 * a 1 + 16 * a 2) / 4 % 4 = a 1
      omega
    · show (a 0 + 4 * a 1 + 16 * a 2) / 16 % 4 = a 2
      omega
theorem TK_of {kd t p : Nat} (hk : kd ≤ 6) (ht : t < 4) {it : Nat → Nat} (h16 : ∀ i, i < mI kd → it i < 16) {low high : Int32} {al : Nat → Int32} (hs : Shp (mI kd) t it low high) (ha : alP kd t p low it (4 ^ mI kd) al) : TK (nI t) low high al (fun od => metC kd p (cit it od 0) (cit it od 1) (cit it od 2)) := by
  have hm := mI_le kd
  have clt : ∀ od, OrdOK od → ∀ i, i < mI kd → cit it od i < 4 := fun od ho i hi => (col_ok _ (ho _ (by have := h16 i hi; omega)) _ (Nat.mod_lt _ (by decide))).2
  -- the entry of the numbers c, and the entry that od asks for
  have key : ∀ od, OrdOK od → (4 * fsC low od + fsC high od < 16) ∧ ∀ c, ((oeF t low it c (mI kd)).2 = 4 * fsC low od + fsC high od ↔ ∀ i, i < mI kd → ¬ it i / 4 = t → cN c i = cit it od i) := by
    intro od ho
    rcases hs with ⟨e1, e2, e3, e4⟩ | ⟨j, hj, e1, e2, e3, e4, e5⟩ | ⟨j, k, hj, hk', hjk, hlt, e1, e2, e3, e3', e4, e5⟩
    · rw [e1, e2, fsC_6]
      refine ⟨by decide, fun c => ?_⟩
      rw [← e1, e4 c]
      exact ⟨fun _ i hi hn => absurd (e3 i hi) hn, fun _ => rfl⟩
    · have h1 : fsC low od = cit it od j := by rw [e1, fsC_n (h16 j hj)]; rfl
      have hc := clt od ho j hj
      rw [h1, e2, fsC_6]
      refine ⟨by omega, fun c => ?_⟩
      rw [e5 c]
      constructor
      · intro q i hi hn
        by_cases e : i = j
        · subst e; omega
        · exact absurd (e4 i hi e) hn
      · intro q
        have := q j hj (by omega)
        omega
    · have h1 : fsC low od = cit it od j := by rw [e1, fsC_n (h16 j hj)]; rfl
      have h2 : fsC high od = cit it od k := by rw [e2, fsC_n (h16 k hk')]; rfl
      have hc := clt od ho j hj
      have hc2 := clt od ho k hk'
      rw [h1, h2]
      refine ⟨by omega, fun c => ?_⟩
      rw [e5 c]
      have g1 := cN_lt c j
      have g2 := cN_lt c k
      constructor
      · intro q i hi hn
        by_cases e : i = j
        · subst e; omega
        · by_cases f : i = k
          · subst f; omega
          · exact absurd (e4 i hi e f) hn
      · intro q
        have a1 := q j hj (by omega)
        have a2 := q k hk' (by omega)
        omega
  refine ⟨t, ht, rfl, ?_, fun od ho => ?_⟩
  · rcases hs with ⟨e1, e2, e3, e4⟩ | ⟨j, hj, e1, e2, e3, e4, e5⟩ | ⟨j, k, hj, hk', hjk, hlt, e1, e2, e3, e3', e4, e5⟩
    · exact Or.inl ⟨e1, e2⟩
    · exact Or.inr (Or.inl ⟨it j, h16 j hj, e3, e1, e2⟩)
    · exact Or.inr (Or.inr ⟨it j, it k, hlt, h16 k hk', e3', e1, e2⟩)
  · obtain ⟨k1, k2⟩ := key od ho
    rw [ha _ k1 (od t) (ho t ht)]
    constructor
    · rintro ⟨c, hc, hmet, hent, hbit⟩
      refine (metC_congr hk (a := cN c) (b := cit it od) (fun i hi => ?_)).mp hmet
      by_cases h : it i / 4 = t
      · have := (oeF_bt (ho t ht) _).mp hbit i hi h
        rw [← this]
        unfold cit
        rw [h]
      · exact (k2 c).mp hent i hi h
    · intro hmet
      obtain ⟨c, hc, hce⟩ := cN_ex hm (clt od ho)
      refine ⟨c, hc, (metC_congr hk (a := cN c) (b := cit it od) hce).mpr hmet, (k2 c).mpr (fun i hi _ => hce i hi), (oeF_bt (ho t ht) _).mpr (fun j hj hjt => ?_)⟩
      rw [hce j hj]
      unfold cit
      rw [hjt]
