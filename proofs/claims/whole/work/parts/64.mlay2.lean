/-! ===== mathematics: the reference's isMet and lay ===== -/
theorem plc_eq : ∀ a, a < 4 → ∀ b, b < 4 → ((nI (a + 1) = nI (b + 1) ↔ a = b) ∧ (nI (b + 1) ≤ nI (a + 1) ↔ b ≤ a) ∧ (nI (b + 1) = nI (a + 1) + 1 ↔ a + 1 = b)) := by decide +kernel
/-- the place that placeOf answers for the i-th item: 0 where there is none -/
def plc (kd : Nat) (c : Nat → Nat) (i : Nat) : Int32 := if i < mI kd then nI (c i + 1) else 0
theorem e_X7_isMet {kd : Nat} {it : Nat → Nat} {p k : Nat} {zc : Nat → Int32} (hk : k < 12) (hw : WFn kd it p (fun j => zc (5 * k + j))) {c : Nat → Nat} (hc : ∀ i, i < mI kd → c i < 4) {Q : Int32 → Prop} (h1 : metC kd p (c 0) (c 1) (c 2) → Q 1) (h0 : ¬ metC kd p (c 0) (c 1) (c 2) → Q 0) : wp_X7_isMet (nI k) (plc kd c 0) (plc kd c 1) (plc kd c 2) zc Q := by
  obtain ⟨g1, g2, g3, g4, g5, g6, g7⟩ := hw
  have g4 : zc (5 * k + 0) = nI kd := g4
  refine e_X7_of (j := 0) hk (by decide) ?_
  rw [g4]
  have q : ∀ j : Nat, j < 10 → nI kd = nI j → kd = j := fun j hj e => (nI_eq (by omega) (by omega)).mp e
  have p0 : plc kd c 0 = nI (c 0 + 1) := if_pos (by have := mI_le kd; omega)
  refine ⟨fun e => ?_, fun e => ?_, fun e => ?_, fun e => ?_, fun e => ?_, fun e => ?_, fun e => ?_⟩
  · have e := q 0 (by decide) e; subst e
    have x := plc_eq (c 0) (hc 0 (by decide)) (c 1) (hc 1 (by decide))
    rw [p0, show plc 0 c 1 = nI (c 1 + 1) from rfl]
    exact ⟨fun d => h1 (x.1.mp d), fun d => h0 (fun z => d (x.1.mpr z))⟩
  · have e := q 1 (by decide) e; subst e
    have x := plc_eq (c 0) (hc 0 (by decide)) (c 1) (hc 1 (by decide))
    rw [p0, show plc 1 c 1 = nI (c 1 + 1) from rfl]
    exact ⟨fun d => h0 (fun z => z (x.1.mp d)), fun d => h1 (fun z => d (x.1.mpr z))⟩
  · have e := q 2 (by decide) e; subst e
    have x := plc_eq (c 0) (hc 0 (by decide)) (c 1) (hc 1 (by decide))
    rw [p0, show plc 2 c 1 = nI (c 1 + 1) from rfl]
    exact ⟨fun d => h0 (fun z => absurd (x.2.1.mp d) (Nat.not_le.mpr z)), fun d => h1 (Nat.lt_of_not_le (fun z => d (x.2.1.mpr z)))⟩
  · have e := q 3 (by decide) e; subst e
    have x := plc_eq (c 0) (hc 0 (by decide)) (c 1) (hc 1 (by decide))
    rw [p0, show plc 3 c 1 = nI (c 1 + 1) from rfl]
    exact ⟨fun d => h1 (x.2.2.mp d), fun d => h0 (fun z => d (x.2.2.mpr z))⟩
  · have e := q 4 (by decide) e; subst e
    have x := plc_eq (c 0) (hc 0 (by decide)) (c 1) (hc 1 (by decide))
    have y := plc_eq (c 1) (hc 1 (by decide)) (c 0) (hc 0 (by decide))
    rw [p0, show plc 4 c 1 = nI (c 1 + 1) from rfl]
    exact ⟨fun d => h1 (Or.inr (x.2.2.mp d).symm), fun d => ⟨fun f => h1 (Or.inl (y.2.2.mp f).symm), fun f => h0 (fun z => z.elim (fun z => f (y.2.2.mpr z.symm)) (fun z => d (x.2.2.mpr z.symm)))⟩⟩
  · have e := q 5 (by decide) e; subst e
    obtain ⟨p1, p2, p3⟩ := g6 rfl
    have p3 : zc (5 * k + 4) = nI p := p3
    refine e_X7_of (j := 4) hk (by decide) ?_
    have c0 := hc 0 (by decide)
    rw [p0, p3]
    exact ⟨fun d => h1 ((nI_eq (by omega) (by omega)).mp d), fun d => h0 (fun z => d (by rw [z]))⟩
  · have e6 : kd = 6 := by
      obtain ⟨c0, c1, c2, c3, c4, c5⟩ := e
      rcases (show kd = 0 ∨ kd = 1 ∨ kd = 2 ∨ kd = 3 ∨ kd = 4 ∨ kd = 5 ∨ kd = 6 by omega) with r | r | r | r | r | r | r
      · subst r; exact absurd rfl c0
      · subst r; exact absurd rfl c1
      · subst r; exact absurd rfl c2
      · subst r; exact absurd rfl c3
      · subst r; exact absurd rfl c4
      · subst r; exact absurd rfl c5
      · exact r
    subst e6
    have x := plc_eq (c 0) (hc 0 (by decide)) (c 1) (hc 1 (by decide))
    have y := plc_eq (c 0) (hc 0 (by decide)) (c 2) (hc 2 (by decide))
    rw [p0, show plc 6 c 1 = nI (c 1 + 1) from rfl, show plc 6 c 2 = nI (c 2 + 1) from rfl]
    exact ⟨fun d => h1 (Or.inl (x.1.mp d)), fun d => ⟨fun f => h1 (Or.inr (y.1.mp f)), fun f => h0 (fun z => z.elim (fun z => d (x.1.mpr z)) (fun z => f (y.1.mpr z)))⟩⟩
/-- the places of the categories up to c are those of the orders od -/
def PLs (pl : Nat → Int32) (od : Nat → Nat) (c : Nat) : Prop := ∀ i, i < 4 * c → pl i = nI (colN (od (i / 4)) (i % 4) + 1)
/-- a clue's top category -/
def TopOf (kd : Nat) (it : Nat → Nat) (t : Nat) : Prop := (∀ i, i < mI kd → it i / 4 ≤ t) ∧ ∃ i, i < mI kd ∧ it i / 4 = t
theorem TopOf.uniq {kd : Nat} {it : Nat → Nat} {t t' : Nat} (h : TopOf kd it t) (h' : TopOf kd it t') : t = t' := by
  obtain ⟨a, i, hi, e⟩ := h
  obtain ⟨b, j, hj, f⟩ := h'
  have := a j hj
  have := b i hi
  omega
/-- the clues of the reference: n of them, by their numbers -/
def MC (n : Nat) (zc : Nat → Int32) (KD : Nat → Nat) (IT : Nat → Nat → Nat) (PP' : Nat → Nat) : Prop := ∀ k, k < n → WFn (KD k) (IT k) (PP' k) (fun j => zc (5 * k + j))
/-- the tables of orders of the reference -/
def RO (zo : Nat → Int32) : Prop := ∀ o, o < 24 → ∀ i, i < 4 → zo (4 * o + i) = nI (colN o i + 1)
theorem e_X7_placeOf {pl : Nat → Int32} {od : Nat → Nat} {cat : Nat} (hp : PLs pl od cat) {i : Nat} (hi : i < 16) (hc : i / 4 < cat) {Q : Int32 → Prop} (h : Q (nI (colN (od (i / 4)) (i % 4) + 1))) : wp_X7_placeOf (nI i) pl Q := by
  refine ⟨fun _ => ⟨vp_in_nI hi (by decide), ?_⟩, fun z => absurd (nI_pos' (by omega)) z⟩
  rw [nI_clamp (by omega), hp i (by omega)]
  exact h
theorem e_place {kd : Nat} {it : Nat → Nat} {p k : Nat} {zc : Nat → Int32} (hk : k < 12) (hw : WFn kd it p (fun j => zc (5 * k + j))) {pl : Nat → Int32} {od : Nat → Nat} {cat : Nat} (hp : PLs pl od cat) (hle : ∀ i, i < mI kd → it i / 4 < cat) {i : Nat} (hi : i < 3) {Q : Int32 → Prop} (h : Q (plc kd (cit it od) i)) : wp_X7_of (nI k) (nI (1 + i)) zc (fun r => wp_X7_placeOf r pl Q) := by
  obtain ⟨g1, g2, g3, g4, g5, g6, g7⟩ := hw
  refine e_X7_of hk (by omega) ?_
  have f : zc (5 * k + (1 + i)) = if i < mI kd then nI (it i) else -6 := g5 i hi
  rw [f]
  unfold plc at h
  by_cases q : i < mI kd
  · rw [if_pos q] at h ⊢
    exact e_X7_placeOf hp (g2 i q) (hle i q) h
  · rw [if_neg q] at h ⊢
    exact ⟨fun z => absurd z (by decide), fun _ => h⟩
/-- all clues of the set whose top category is cat are met -/
def LayOK (n : Nat) (set : Int32) (KD : Nat → Nat) (IT : Nat → Nat → Nat) (PP' : Nat → Nat) (cat : Nat) (od : Nat → Nat) : Prop := ∀ k, k < n → bt set k = true → TopOf (KD k) (IT k) cat → Mof (KD k) (IT k) (PP' k) od
theorem e_X7_lay {n : Nat} (hn : n ≤ 12) {zc : Nat → Int32} {KD : Nat → Nat} {IT : Nat → Nat → Nat} {PP' : Nat → Nat} (hMC : MC n zc KD IT PP') {zo : Nat → Int32} (hRO : RO zo) {pl : Nat → Int32} {od : Nat → Nat} {cat o : Nat} (hcat : cat < 4) (ho : o < 24) (hod : ∀ c, c < cat → od c < 24) (hpl : PLs pl od cat) {set : Int32} {Q : Int32 → (Nat → Int32) → Prop}
    (h1 : ∀ pl', PLs pl' (va_up od cat o) (cat + 1) → LayOK n set KD IT PP' cat (va_up od cat o) → Q 1 pl') (h0 : ∀ pl', PLs pl' (va_up od cat o) (cat + 1) → ¬ LayOK n set KD IT PP' cat (va_up od cat o) → Q 0 pl') : wp_X7_lay (nI cat) (nI o) set zc (nI n) zo pl Q := by
  have hod' : ∀ c, c < cat + 1 → va_up od cat o c < 24 := fun c hc => by
    by_cases e : c = cat
    · subst e; rw [va_up_self]; exact ho
    · rw [va_up_ne _ _ e]; exact hod c (by omega)
  -- the clues, the places being laid
  have second : ∀ pl', PLs pl' (va_up od cat o) (cat + 1) → wp_X7_lay_43 Q (nI cat) set zc (nI n) 1 0 pl' := by
    intro pl' hpl'
    refine ⟨fun l4 l5 z => z = pl' ∧ ∃ k, k ≤ n ∧ l5 = nI k ∧ ((l4 = 1 ∧ ∀ j, j < k → bt set j = true → TopOf (KD j) (IT j) cat → Mof (KD j) (IT j) (PP' j) (va_up od cat o)) ∨ (l4 = 0 ∧ ¬ LayOK n set KD IT PP' cat (va_up od cat o))), fun _ l5 _ => 12 - l5.toNatClampNeg, ⟨rfl, 0, Nat.zero_le _, nI_0.symm, Or.inl ⟨rfl, fun j hj => absurd hj (Nat.not_lt_zero _)⟩⟩, ?_⟩
    rintro l4 l5 z ⟨rfl, k, hk, rfl, hst⟩
    refine ⟨fun d => ?_, fun d => ?_⟩
    · have e : k = n := Nat.le_antisymm hk ((nI_leI (by omega) (by omega)).mp d)
      subst e
      rcases hst with ⟨rfl, ha⟩ | ⟨rfl, ha⟩
      · exact ⟨zb1, h1 _ hpl' ha⟩
      · exact ⟨zb0, h0 _ hpl' ha⟩
    · have hlt : k < n := Nat.lt_of_not_le (fun q => d ((nI_leI (by omega) (by omega)).mpr q))
      refine ⟨fun e => ?_, fun e => ?_⟩
      · rcases hst with ⟨rfl, ha⟩ | ⟨rfl, ha⟩
        · exact absurd e (by decide)
        · exact ⟨zb0, h0 _ hpl' ha⟩
      · rcases hst with ⟨rfl, ha⟩ | ⟨rfl, ha⟩
        · have mu := mu_dec (B := 12) (i := k) (by omega) (by decide)
          rw [nI_1]
          have next : (bt set k = true → TopOf (KD k) (IT k) cat → Mof (KD k) (IT k) (PP' k) (va_up od cat o)) → ∀ j, j < k + 1 → bt set j = true → TopOf (KD j) (IT j) cat → Mof (KD j) (IT j) (PP' j) (va_up od cat o) := by
            intro hx j hj
            by_cases e : j = k
            · subst e; exact hx
            · exact ha j (by omega)
          refine e_X7_has (by omega) (fun hb => ⟨fun z => absurd z (by decide), fun _ => ?_⟩) (fun hb => ⟨fun _ => ⟨⟨rfl, k + 1, hlt, rfl, Or.inl ⟨rfl, next (fun z => by rw [hb] at z; cases z)⟩⟩, mu⟩, fun z => absurd rfl z⟩)
          have hw := hMC k hlt
          refine e_X7_lastOf (by omega) hw (fun t ht hle hex => ⟨fun et => ?_, fun et => ⟨⟨rfl, k + 1, hlt, rfl, Or.inl ⟨rfl, next (fun _ htop => ?_)⟩⟩, mu⟩⟩)
          · have e : t = cat := (nI_eq (by omega) (by omega)).mp et
            subst e
            have hle' : ∀ i, i < mI (KD k) → IT k i / 4 < t + 1 := fun i hi => Nat.lt_succ_of_le (hle i hi)
            refine e_place (i := 0) (by omega) hw hpl' hle' (by decide) (e_place (i := 1) (by omega) hw hpl' hle' (by decide) (e_place (i := 2) (by omega) hw hpl' hle' (by decide) ?_))
            refine e_X7_isMet (by omega) hw (c := cit (IT k) (va_up od t o)) (fun i hi => (col_ok _ (hod' _ (hle' i hi)) _ (Nat.mod_lt _ (by decide))).2) (fun hm => ⟨⟨rfl, k + 1, hlt, rfl, Or.inl ⟨rfl, next (fun _ _ => hm)⟩⟩, mu⟩) (fun hm => ⟨⟨rfl, k + 1, hlt, rfl, Or.inr ⟨rfl, fun hall => hm (hall k hlt hb ⟨hle, hex⟩)⟩⟩, mu⟩)
          · exact absurd (by rw [TopOf.uniq ⟨hle, hex⟩ htop]) et
        · exact absurd rfl e
  refine ⟨fun l4 z => ∃ i, i ≤ 4 ∧ l4 = nI i ∧ (∀ j, j < 4 * cat → z j = pl j) ∧ (∀ j, j < i → z (4 * cat + j) = nI (colN o j + 1)), fun l4 _ => 4 - l4.toNatClampNeg, ⟨0, Nat.zero_le _, nI_0.symm, fun _ _ => rfl, fun j hj => absurd hj (Nat.not_lt_zero _)⟩, ?_⟩
  rintro l4 z ⟨i, hi, rfl, z1, z2⟩
  refine ⟨fun d => ?_, fun d => ?_⟩
  · have e : i = 4 := Nat.le_antisymm hi ((nI_leI (a := 4) (by decide) (by omega)).mp d)
    subst e
    refine second z (fun j hj => ?_)
    by_cases q : j < 4 * cat
    · rw [z1 j q, hpl j q, va_up_ne _ _ (show j / 4 ≠ cat by omega)]
    · have ej : j = 4 * cat + (j - 4 * cat) := by omega
      have := z2 (j - 4 * cat) (by omega)
      rw [← ej] at this
      rw [this, show j / 4 = cat by omega, va_up_self, show j % 4 = j - 4 * cat by omega]
  · have hlt : i < 4 := Nat.lt_of_not_le (fun q => d ((nI_leI (a := 4) (by decide) (by omega)).mpr q))
    rw [show (4 : Int32) = nI 4 from rfl, pk_mul, pk_mul, nI_add, nI_add, nI_1, nI_clamp (n := 4 * cat + i) (by omega), nI_clamp (n := 4 * o + i) (by omega), hRO o ho i hlt]
    refine ⟨vp_in_nI (by omega) (by decide), vp_in_nI (by omega) (by decide), ⟨i + 1, hlt, rfl, fun j hj => ?_, fun j hj => ?_⟩, mu_dec hlt (by decide)⟩
    · rw [pk_un (by omega)]; exact z1 j hj
    · by_cases e : j = i
      · subst e; rw [pk_us]
      · rw [pk_un (by omega)]; exact z2 j (by omega)
