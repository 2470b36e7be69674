/-! ===== mathematics: which places a clue leaves to an item ===== -/
def itc (c0 c1 c2 i : Nat) : Nat := if i = 0 then c0 else if i = 1 then c1 else c2
/-- one way to place the items of a clue: number w < 64 -/
def Wy (kd p : Nat) (A : Nat → Nat) (i r w : Nat) : Prop := (A 0).testBit (w / 16) = true ∧ (1 < mI kd → (A 1).testBit (w / 4 % 4) = true) ∧ (2 < mI kd → (A 2).testBit (w % 4) = true) ∧ itc (w / 16) (w / 4 % 4) (w % 4) i = r ∧ metC kd p (w / 16) (w / 4 % 4) (w % 4)
/-- the i-th item of a clue may be at place r + 1 -/
def mayP (kd p : Nat) (A : Nat → Nat) (i r : Nat) : Prop := ∃ w, w < 64 ∧ Wy kd p A i r w
theorem mayP_mk {kd p i r c0 c1 c2 : Nat} {A : Nat → Nat} (h0 : c0 < 4) (h1 : c1 < 4) (h2 : c2 < 4) (b0 : (A 0).testBit c0 = true) (b1 : 1 < mI kd → (A 1).testBit c1 = true) (b2 : 2 < mI kd → (A 2).testBit c2 = true) (e : itc c0 c1 c2 i = r) (m : metC kd p c0 c1 c2) : mayP kd p A i r := by
  refine ⟨16 * c0 + 4 * c1 + c2, by omega, ?_⟩
  unfold Wy
  rw [show (16 * c0 + 4 * c1 + c2) / 16 = c0 by omega, show (16 * c0 + 4 * c1 + c2) / 4 % 4 = c1 by omega, show (16 * c0 + 4 * c1 + c2) % 4 = c2 by omega]
  exact ⟨b0, b1, b2, e, m⟩
theorem e_X7_isMet2 {kd : Nat} {it : Nat → Nat} {p k : Nat} {zc : Nat → Int32} (hk : k < 12) (hw : WFn kd it p (fun j => zc (5 * k + j))) {c0 c1 c2 : Nat} (h0' : c0 < 4) (h1' : c1 < 4) (h2' : c2 < 4) {Q : Int32 → Prop} (h1 : metC kd p c0 c1 c2 → Q 1) (h0 : ¬ metC kd p c0 c1 c2 → Q 0) : wp_X7_isMet (nI k) (nI (c0 + 1)) (nI (c1 + 1)) (nI (c2 + 1)) zc Q := by
  obtain ⟨g1, g2, g3, g4, g5, g6, g7⟩ := hw
  have g4 : zc (5 * k + 0) = nI kd := g4
  refine e_X7_of (j := 0) hk (by decide) ?_
  rw [g4]
  have q : ∀ j : Nat, j < 10 → nI kd = nI j → kd = j := fun j hj e => (nI_eq (by omega) (by omega)).mp e
  have x := plc_eq c0 h0' c1 h1'
  have y := plc_eq c1 h1' c0 h0'
  have z := plc_eq c0 h0' c2 h2'
  refine ⟨fun e => ?_, fun e => ?_, fun e => ?_, fun e => ?_, fun e => ?_, fun e => ?_, fun e => ?_⟩
  · have e := q 0 (by decide) e; subst e
    exact ⟨fun d => h1 (x.1.mp d), fun d => h0 (fun z => d (x.1.mpr z))⟩
  · have e := q 1 (by decide) e; subst e
    exact ⟨fun d => h0 (fun z => z (x.1.mp d)), fun d => h1 (fun z => d (x.1.mpr z))⟩
  · have e := q 2 (by decide) e; subst e
    exact ⟨fun d => h0 (fun z => absurd (x.2.1.mp d) (Nat.not_le.mpr z)), fun d => h1 (Nat.lt_of_not_le (fun z => d (x.2.1.mpr z)))⟩
  · have e := q 3 (by decide) e; subst e
    exact ⟨fun d => h1 (x.2.2.mp d), fun d => h0 (fun z => d (x.2.2.mpr z))⟩
  · have e := q 4 (by decide) e; subst e
    exact ⟨fun d => h1 (Or.inr (x.2.2.mp d).symm), fun d => ⟨fun f => h1 (Or.inl (y.2.2.mp f).symm), fun f => h0 (fun z => z.elim (fun z => f (y.2.2.mpr z.symm)) (fun z => d (x.2.2.mpr z.symm)))⟩⟩
  · have e := q 5 (by decide) e; subst e
    obtain ⟨p1, p2, p3⟩ := g6 rfl
    have p3 : zc (5 * k + 4) = nI p := p3
    refine e_X7_of (j := 4) hk (by decide) ?_
    rw [p3]
    exact ⟨fun d => h1 ((nI_eq (by omega) (by omega)).mp d), fun d => h0 (fun z => d (by rw [show c0 + 1 = p from z]))⟩
  · have e6 : kd = 6 := by
      obtain ⟨c0, c1, c2, c3, c4, c5⟩ := e
      rcases (show kd = 0 ∨ kd = 1 ∨ kd = 2 ∨ kd = 3 ∨ kd = 4 ∨ kd = 5 ∨ kd = 6 by omega) with r | r | r | r | r | r | r
      · subst r; exact absurd rfl c0
      · subst r; exact absurd rfl c1
      · subst r; exact absurd rfl c2
      · subst r; exact absurd rfl c3
      · subst r; exact absurd rfl c4
      · subst r; exact absurd rfl c5
      · exact r
    subst e6
    exact ⟨fun d => h1 (Or.inl (x.1.mp d)), fun d => ⟨fun f => h1 (Or.inr (z.1.mp f)), fun f => h0 (fun q => q.elim (fun q => d (x.1.mpr q)) (fun q => f (z.1.mpr q)))⟩⟩
theorem way_I : ∀ w, w < 64 → (nI w / 16 + 1 = nI (w / 16 + 1) ∧ (nI w / 4 - nI w / 4 / 4 * 4) + 1 = nI (w / 4 % 4 + 1) ∧ (nI w - nI w / 4 * 4) + 1 = nI (w % 4 + 1)) := by decide +kernel
/-- the numbers of a clue's items -/
theorem WFn.its {kd : Nat} {it : Nat → Nat} {p : Nat} {f : Nat → Int32} (h : WFn kd it p f) : f 1 = nI (it 0) ∧ f 2 = (if 1 < mI kd then nI (it 1) else -6) ∧ f 3 = (if 2 < mI kd then nI (it 2) else -6) := by
  obtain ⟨g1, g2, g3, g4, g5, g6, g7⟩ := h
  have hm := mI_le kd
  have f1 := g5 0 (by decide)
  rw [if_pos (by omega)] at f1
  exact ⟨f1, g5 1 (by decide), g5 2 (by decide)⟩
set_option maxHeartbeats 1000000 in
theorem e_X7_may {kd : Nat} {it : Nat → Nat} {p k i r : Nat} {zc pl : Nat → Int32} {S : Nat → Nat} (hk : k < 12) (hw : WFn kd it p (fun j => zc (5 * k + j))) (hs : RS pl S) (hi : i < mI kd) (hr : r < 4) {Q : Int32 → Prop} (h1 : mayP kd p (fun j => S (it j)) i r → Q 1) (h0 : ¬ mayP kd p (fun j => S (it j)) i r → Q 0) : wp_X7_may (nI k) (nI (it i)) (nI (r + 1)) zc pl Q := by
  have hm := mI_le kd
  obtain ⟨f1, f2, f3⟩ := hw.its
  have f1 : zc (5 * k + 1) = nI (it 0) := f1
  have f2 : zc (5 * k + 2) = (if 1 < mI kd then nI (it 1) else -6) := f2
  have f3 : zc (5 * k + 3) = (if 2 < mI kd then nI (it 2) else -6) := f3
  have i16 : ∀ j, j < mI kd → it j < 16 := hw.2.1
  have dst : ∀ a b, a < mI kd → b < mI kd → a ≠ b → ¬ nI (it a) = nI (it b) := fun a b ha hb hne e => hw.2.2.1 a b ha hb hne ((nI_eq (by have := i16 a ha; omega) (by have := i16 b hb; omega)).mp e)
  refine e_X7_of (j := 1) hk (by decide) (e_X7_of (j := 2) hk (by decide) (e_X7_of (j := 3) hk (by decide) ?_))
  rw [f1, f2, f3]
  generalize hY : (if 1 < mI kd then nI (it 1) else (-6 : Int32)) = Y
  generalize hZ : (if 2 < mI kd then nI (it 2) else (-6 : Int32)) = Z
  refine ⟨fun l4 l5 l6 l7 => l4 = nI (it 0) ∧ l5 = Y ∧ l6 = Z ∧ ∃ w, w ≤ 64 ∧ l7 = nI w ∧ ∀ x, x < w → ¬ Wy kd p (fun j => S (it j)) i r x, fun _ _ _ l7 => 64 - l7.toNatClampNeg, ⟨rfl, rfl, rfl, 0, Nat.zero_le _, nI_0.symm, fun j hj => absurd hj (Nat.not_lt_zero _)⟩, ?_⟩
  rintro l4 l5 l6 l7 ⟨rfl, rfl, rfl, w, hw64, rfl, q⟩
  refine ⟨fun d => ?_, fun d => ?_⟩
  · have e : w = 64 := Nat.le_antisymm hw64 ((nI_leI (a := 64) (by decide) (by omega)).mp d)
    subst e
    exact h0 (fun ⟨x, hx, hW⟩ => q x hx hW)
  · have hlt : w < 64 := Nat.lt_of_not_le (fun q => d ((nI_leI (a := 64) (by decide) (by omega)).mpr q))
    have mu := mu_dec (B := 64) (i := w) hlt (by decide)
    obtain ⟨w1, w2, w3⟩ := way_I w hlt
    rintro _ rfl _ rfl _ rfl
    rw [w1, w2, w3]
    have nx : ¬ Wy kd p (fun j => S (it j)) i r w → ((nI (it 0) = nI (it 0) ∧ l5 = l5 ∧ l6 = l6 ∧ ∃ w', w' ≤ 64 ∧ nI w + 1 = nI w' ∧ ∀ x, x < w' → ¬ Wy kd p (fun j => S (it j)) i r x) ∧ 64 - (nI w + 1).toNatClampNeg < 64 - (nI w).toNatClampNeg) := fun hn => ⟨⟨rfl, rfl, rfl, w + 1, hlt, nI_1 w, fun x hx => by
      by_cases e : x = w
      · subst e; exact hn
      · exact q x (by omega)⟩, by rw [nI_1]; exact mu⟩
    have c0 : w / 16 < 4 := by omega
    have c1 : w / 4 % 4 < 4 := by omega
    have c2 : w % 4 < 4 := by omega
    have zero : ∀ (K : Int32 → Int32 → Int32 → Int32 → Prop) (l8 l9 l10 : Int32), K (nI (it 0)) l5 l6 (nI w + 1) → wp_X7_may_109 Q (nI k) (nI (it i)) (nI (r + 1)) zc K (nI (it 0)) l5 l6 (nI w) l8 l9 l10 0 := fun K l8 l9 l10 hK => ⟨fun _ => ⟨fun _ => hK, fun z => absurd rfl z⟩, fun _ => ⟨fun _ => ⟨fun _ => hK, fun z => absurd rfl z⟩, fun _ => ⟨fun _ => hK, fun z => absurd rfl z⟩⟩⟩
    have one : ∀ (K : Int32 → Int32 → Int32 → Int32 → Prop), (¬ Wy kd p (fun j => S (it j)) i r w → K (nI (it 0)) l5 l6 (nI w + 1)) → (S (it 0)).testBit (w / 16) = true → (1 < mI kd → (S (it 1)).testBit (w / 4 % 4) = true) → (2 < mI kd → (S (it 2)).testBit (w % 4) = true) → wp_X7_may_109 Q (nI k) (nI (it i)) (nI (r + 1)) zc K (nI (it 0)) l5 l6 (nI w) (nI (w / 16 + 1)) (nI (w / 4 % 4 + 1)) (nI (w % 4 + 1)) 1 := by
      intro K hK b0 b1 b2
      have t : wp_X7_may_135 Q (nI k) (nI (r + 1)) zc K (nI (it 0)) l5 l6 (nI w) (nI (w / 16 + 1)) (nI (w / 4 % 4 + 1)) (nI (w % 4 + 1)) 1 (nI (itc (w / 16) (w / 4 % 4) (w % 4) i + 1)) := by
        have hic : itc (w / 16) (w / 4 % 4) (w % 4) i < 4 := by
          unfold itc
          split
          · exact c0
          · split
            · exact c1
            · exact c2
        refine ⟨fun z => absurd z (by decide), fun _ => ⟨fun e => ?_, fun e => hK (fun hW => e (by rw [hW.2.2.2.1]))⟩⟩
        have e' : itc (w / 16) (w / 4 % 4) (w % 4) i = r := by
          have := (nI_eq (by omega) (by omega)).mp e
          omega
        exact e_X7_isMet2 hk hw c0 c1 c2 (fun m => ⟨fun z => absurd z (by decide), fun _ => h1 ⟨w, hlt, b0, b1, b2, e', m⟩⟩) (fun m => ⟨fun _ => hK (fun hW => m hW.2.2.2.2), fun z => absurd rfl z⟩)
      rcases (show i = 0 ∨ i = 1 ∨ i = 2 by omega) with e | e | e
      · subst e
        exact ⟨fun _ => t, fun z => absurd rfl z⟩
      · subst e
        rw [if_pos hi] at hY
        exact ⟨fun z => absurd z (dst 1 0 hi (by omega) (by decide)), fun _ => ⟨fun _ => t, fun z => absurd hY z⟩⟩
      · subst e
        rw [if_pos (by omega)] at hY
        refine ⟨fun z => absurd z (dst 2 0 hi (by omega) (by decide)), fun _ => ⟨fun z => absurd z ?_, fun _ => t⟩⟩
        rw [← hY]
        exact dst 2 1 hi (by omega) (by decide)
    have two : ∀ (K : Int32 → Int32 → Int32 → Int32 → Prop), (¬ Wy kd p (fun j => S (it j)) i r w → K (nI (it 0)) l5 l6 (nI w + 1)) → (S (it 0)).testBit (w / 16) = true → (1 < mI kd → (S (it 1)).testBit (w / 4 % 4) = true) → wp_X7_may_88 Q (nI k) (nI (it i)) (nI (r + 1)) zc pl K (nI (it 0)) l5 l6 (nI w) (nI (w / 16 + 1)) (nI (w / 4 % 4 + 1)) (nI (w % 4 + 1)) := by
      intro K hK b0 b1
      by_cases h3 : 2 < mI kd
      · rw [if_pos h3] at hZ
        subst hZ
        refine ⟨fun z => absurd z (nI_pos (by have := i16 2 h3; omega)), fun _ => e_X7_isLeft hs (i16 2 h3) c2 (fun hb => ⟨fun z => absurd z (by decide), fun _ => one K hK b0 b1 (fun _ => hb)⟩) (fun hb => ⟨fun _ => zero K _ _ _ (hK (fun hW => ?_)), fun z => absurd rfl z⟩)⟩
        have := hW.2.2.1 h3
        rw [hb] at this
        cases this
      · rw [if_neg h3] at hZ
        subst hZ
        exact ⟨fun _ => one K hK b0 b1 (fun z => absurd z h3), fun z => absurd (by decide) z⟩
    refine e_X7_isLeft hs (i16 0 (by omega)) c0 (fun hb => ⟨fun z => absurd z (by decide), fun _ => ?_⟩) (fun hb => ⟨fun _ => zero _ _ _ _ (nx (fun hW => ?_)), fun z => absurd rfl z⟩)
    · by_cases h2 : 1 < mI kd
      · rw [if_pos h2] at hY
        subst hY
        refine ⟨fun z => absurd z (nI_pos (by have := i16 1 h2; omega)), fun _ => e_X7_isLeft hs (i16 1 h2) c1 (fun hb1 => ⟨fun z => absurd z (by decide), fun _ => two _ nx hb (fun _ => hb1)⟩) (fun hb1 => ⟨fun _ => zero _ _ _ _ (nx (fun hW => ?_)), fun z => absurd rfl z⟩)⟩
        have := hW.2.1 h2
        rw [hb1] at this
        cases this
      · rw [if_neg h2] at hY
        subst hY
        exact ⟨fun _ => two _ nx hb (fun z => absurd z h2), fun z => absurd (by decide) z⟩
    · have := hW.1
      rw [hb] at this
      cases this
/-- the KINDS of two items, as a test -/
def metB (kd x y : Nat) : Bool := if kd = 0 then decide (x = y) else if kd = 1 then !decide (x = y) else if kd = 2 then decide (x < y) else if kd = 3 then decide (x + 1 = y) else (decide (x = y + 1) || decide (y = x + 1))
theorem metC_B {kd p x y z : Nat} (hk : kd ≤ 4) : metC kd p x y z ↔ metB kd x y = true := by
  rcases (show kd = 0 ∨ kd = 1 ∨ kd = 2 ∨ kd = 3 ∨ kd = 4 by omega) with e | e | e | e | e <;> subst e <;> simp [metC, metB]
theorem mI_2 {kd : Nat} (hk : kd ≤ 4) : mI kd = 2 := by
  unfold mI
  rw [if_neg (by omega), if_neg (by omega)]
theorem may_20 {kd p r : Nat} {A : Nat → Nat} (hk : kd ≤ 4) (hr : r < 4) (hb : (A 0).testBit r = true) : mayP kd p A 0 r ↔ ∃ c, c < 4 ∧ (A 1).testBit c = true ∧ metB kd r c = true := by
  constructor
  · rintro ⟨w, hw, b0, b1, b2, e, m⟩
    have e : w / 16 = r := e
    rw [e] at m
    exact ⟨w / 4 % 4, by omega, b1 (by rw [mI_2 hk]; decide), (metC_B hk).mp m⟩
  · rintro ⟨c, hc, b, m⟩
    exact mayP_mk hr hc (c2 := 0) (by decide) hb (fun _ => b) (fun z => by rw [mI_2 hk] at z; omega) rfl ((metC_B hk).mpr m)
theorem may_21 {kd p r : Nat} {A : Nat → Nat} (hk : kd ≤ 4) (hr : r < 4) (hb : (A 1).testBit r = true) : mayP kd p A 1 r ↔ ∃ c, c < 4 ∧ (A 0).testBit c = true ∧ metB kd c r = true := by
  constructor
  · rintro ⟨w, hw, b0, b1, b2, e, m⟩
    have e : w / 4 % 4 = r := e
    rw [e] at m
    exact ⟨w / 16, by omega, b0, (metC_B hk).mp m⟩
  · rintro ⟨c, hc, b, m⟩
    exact mayP_mk hc hr (c2 := 0) (by decide) b (fun _ => hb) (fun z => by rw [mI_2 hk] at z; omega) rfl ((metC_B hk).mpr m)
/-- what the class leaves to the i-th item, by the set b of the other -/
def supV (kd i b : Nat) : Int32 :=
  if kd = 0 then nI (2 * b) else if kd = 1 then (if pc b = 1 then nI (2 * b) ^^^ (-1) else 30)
  else if kd = 2 then (if i = 0 then ((nI (2 * b) >>> (1 &&& 31)) ||| ((nI (2 * b) >>> (1 &&& 31)) >>> (1 &&& 31))) ||| ((nI (2 * b) >>> (1 &&& 31)) >>> (2 &&& 31)) else ((nI (2 * b) <<< (1 &&& 31)) ||| ((nI (2 * b) <<< (1 &&& 31)) <<< (1 &&& 31))) ||| ((nI (2 * b) <<< (1 &&& 31)) <<< (2 &&& 31)))
  else if kd = 3 then (if i = 0 then nI (2 * b) >>> (1 &&& 31) else nI (2 * b) <<< (1 &&& 31)) else (nI (2 * b) >>> (1 &&& 31)) ||| (nI (2 * b) <<< (1 &&& 31))
set_option maxRecDepth 20000 in
theorem supV_fl : ∀ x, x < 640 → x / 4 % 16 ≠ 0 → (bt (supV (x / 128) (x / 64 % 2) (x / 4 % 16)) (x % 4 + 1) = true ↔ ∃ c, c < 4 ∧ (x / 4 % 16).testBit c = true ∧ (if x / 64 % 2 = 0 then metB (x / 128) (x % 4) c else metB (x / 128) c (x % 4)) = true) := by decide +kernel
theorem supV_ok {kd i b r : Nat} (hk : kd < 5) (hi : i < 2) (hb : b < 16) (h0 : b ≠ 0) (hr : r < 4) : (bt (supV kd i b) (r + 1) = true ↔ ∃ c, c < 4 ∧ b.testBit c = true ∧ (if i = 0 then metB kd r c else metB kd c r) = true) := by
  have := supV_fl (128 * kd + 64 * i + 4 * b + r) (by omega)
  rw [show (128 * kd + 64 * i + 4 * b + r) / 128 = kd by omega, show (128 * kd + 64 * i + 4 * b + r) / 64 % 2 = i by omega, show (128 * kd + 64 * i + 4 * b + r) / 4 % 16 = b by omega, show (128 * kd + 64 * i + 4 * b + r) % 4 = r by omega] at this
  exact this h0
theorem w_cut : ∀ a, a < 16 → ∀ b, b < 16 → (nI (2 * a) &&& nI (2 * b) = 0 ↔ ¬ ∃ c, c < 4 ∧ a.testBit c = true ∧ b.testBit c = true) := by decide +kernel
set_option maxHeartbeats 1000000 in
theorem e_X4_supported {pv : PV} {a kd : Nat} {it : Nat → Nat} {p i : Nat} {pl : Nat → Int32} {S : Nat → Nat} (ha : pv.1 a) (hw : WFn kd it p (pv.2.1 a)) (hs : RS pl S) (hne : ∀ j, j < 16 → S j ≠ 0) (hi : i < mI kd) {Q : Int32 → Prop}
    (h : ∀ v, (∀ r, r < 4 → (S (it i)).testBit r = true → (bt v (r + 1) = true ↔ mayP kd p (fun j => S (it j)) i r)) → Q v) : wp_X4_supported a (nI i) pv pl Q := by
  have hm := mI_le kd
  obtain ⟨f1, f2, f3⟩ := hw.its
  have i16 : ∀ j, j < mI kd → it j < 16 := hw.2.1
  obtain ⟨g1, g2, g3, g4, g5, g6, g7⟩ := hw
  have kd_ : ∀ j : Nat, j < 10 → (pv.2.1 a 0 = nI j ↔ kd = j) := fun j hj => by rw [g4]; exact nI_eq (by omega) (by omega)
  have S16 : ∀ j, j < mI kd → S (it j) < 16 := fun j hj => (hs _ (i16 j hj)).2
  have pls : ∀ j, j < mI kd → pl (nI (it j)).toNatClampNeg = nI (2 * S (it j)) := fun j hj => by
    rw [nI_clamp (by have := i16 j hj; omega)]
    exact (hs _ (i16 j hj)).1
  refine ⟨ha, fun e5 => ?_, fun e5 => ⟨fun e6 => ?_, fun e6 => ?_⟩⟩
  · have e := (kd_ 5 (by decide)).mp e5
    subst e
    obtain ⟨p1, p4, ep⟩ := g6 rfl
    have hi : i < 1 := hi
    have e0 : i = 0 := by omega
    subst e0
    rw [ep]
    refine h _ (fun r hr hb => ?_)
    rw [b_one (by omega) _ (by omega), decide_eq_true_iff]
    constructor
    · intro e
      exact mayP_mk hr (c1 := 0) (c2 := 0) (by decide) (by decide) hb (fun z => absurd z (by decide)) (fun z => absurd z (by decide)) rfl e
    · rintro ⟨w, hw, b0, b1, b2, e, m⟩
      have e : w / 16 = r := e
      have m : w / 16 + 1 = p := m
      omega
  · have e := (kd_ 6 (by decide)).mp e6
    subst e
    have hi : i < 3 := hi
    rw [if_pos (by decide)] at f2 f3
    have n0 := w_ne _ (S16 0 (by decide)) (hne _ (i16 0 (by decide)))
    have n1 := w_ne _ (S16 1 (by decide)) (hne _ (i16 1 (by decide)))
    have n2 := w_ne _ (S16 2 (by decide)) (hne _ (i16 2 (by decide)))
    have cutl : ∀ j, j < 3 → (pl (nI (it 0)).toNatClampNeg &&& pl (nI (it j)).toNatClampNeg = 0 ↔ ¬ ∃ c, c < 4 ∧ (S (it 0)).testBit c = true ∧ (S (it j)).testBit c = true) := fun j hj => by
      rw [pls 0 (by decide), pls j hj]
      exact w_cut _ (S16 0 (by decide)) _ (S16 j hj)
    rcases (show i = 0 ∨ i = 1 ∨ i = 2 by omega) with e | e | e
    · subst e
      refine ⟨fun _ => ⟨ha, ?_⟩, fun z => absurd rfl z⟩
      rw [f2, f3]
      refine ⟨vp_in_nI (i16 1 (by decide)) (by decide), vp_in_nI (i16 2 (by decide)) (by decide), h _ (fun r hr hb => ?_)⟩
      rw [pls 1 (by decide), pls 2 (by decide), b_or, w_bt (S16 1 (by decide)), w_bt (S16 2 (by decide)), Bool.or_eq_true]
      constructor
      · rintro (q | q)
        · obtain ⟨c, hc, hcb⟩ := n2
          exact mayP_mk hr hr hc hb (fun _ => q) (fun _ => hcb) rfl (Or.inl rfl)
        · obtain ⟨c, hc, hcb⟩ := n1
          exact mayP_mk hr hc hr hb (fun _ => hcb) (fun _ => q) rfl (Or.inr rfl)
      · rintro ⟨w, hw, b0, b1, b2, e, m⟩
        have e : w / 16 = r := e
        rcases (show w / 16 = w / 4 % 4 ∨ w / 16 = w % 4 from m) with m | m
        · exact Or.inl (by rw [← e, m]; exact b1 (by decide))
        · exact Or.inr (by rw [← e, m]; exact b2 (by decide))
    · subst e
      refine ⟨fun z => absurd z (by decide), fun _ => ⟨ha, ?_⟩⟩
      rw [f1]
      refine ⟨vp_in_nI (i16 0 (by decide)) (by decide), ?_⟩
      rintro _ rfl
      refine ⟨fun _ => ?_, fun z => absurd rfl z⟩
      rw [f3]
      refine ⟨vp_in_nI (i16 2 (by decide)) (by decide), ?_⟩
      rintro _ rfl
      rw [cutl 2 (by decide), pls 0 (by decide)]
      refine ⟨fun q => h _ (fun r hr hb => ?_), fun q => h _ (fun r hr hb => ?_)⟩
      · rw [w_bt (S16 0 (by decide))]
        constructor
        · intro b
          obtain ⟨c, hc, hcb⟩ := n2
          exact mayP_mk hr hr hc b (fun _ => hb) (fun _ => hcb) rfl (Or.inl rfl)
        · rintro ⟨w, hw, b0, b1, b2, e, m⟩
          have e : w / 4 % 4 = r := e
          rcases (show w / 16 = w / 4 % 4 ∨ w / 16 = w % 4 from m) with m | m
          · rw [← e, ← m]; exact b0
          · exact absurd ⟨w / 16, by omega, b0, by rw [m]; exact b2 (by decide)⟩ q
      · refine ⟨fun _ => ?_, fun _ => ?_⟩
        · obtain ⟨c, hc, x, y⟩ := Classical.not_not.mp q
          exact mayP_mk hc hr hc x (fun _ => hb) (fun _ => y) rfl (Or.inr rfl)
        · exact (show ∀ r, r < 4 → bt 30 (r + 1) = true by decide +kernel) r hr
    · subst e
      refine ⟨fun z => absurd z (by decide), fun _ => ⟨ha, ?_⟩⟩
      rw [f1]
      refine ⟨vp_in_nI (i16 0 (by decide)) (by decide), ?_⟩
      rintro _ rfl
      refine ⟨fun z => absurd z (by decide), fun _ => ?_⟩
      rw [f2]
      refine ⟨vp_in_nI (i16 1 (by decide)) (by decide), ?_⟩
      rintro _ rfl
      rw [cutl 1 (by decide), pls 0 (by decide)]
      refine ⟨fun q => h _ (fun r hr hb => ?_), fun q => h _ (fun r hr hb => ?_)⟩
      · rw [w_bt (S16 0 (by decide))]
        constructor
        · intro b
          obtain ⟨c, hc, hcb⟩ := n1
          exact mayP_mk hr hc hr b (fun _ => hcb) (fun _ => hb) rfl (Or.inr rfl)
        · rintro ⟨w, hw, b0, b1, b2, e, m⟩
          have e : w % 4 = r := e
          rcases (show w / 16 = w / 4 % 4 ∨ w / 16 = w % 4 from m) with m | m
          · exact absurd ⟨w / 16, by omega, b0, by rw [m]; exact b1 (by decide)⟩ q
          · rw [← e, ← m]; exact b0
      · refine ⟨fun _ => ?_, fun _ => ?_⟩
        · obtain ⟨c, hc, x, y⟩ := Classical.not_not.mp q
          exact mayP_mk hc hc hr x (fun _ => y) (fun _ => hb) rfl (Or.inl rfl)
        · exact (show ∀ r, r < 4 → bt 30 (r + 1) = true by decide +kernel) r hr
  · have hk4 : kd ≤ 4 := by
      have a5 : ¬ kd = 5 := fun q => e5 ((kd_ 5 (by decide)).mpr q)
      have a6 : ¬ kd = 6 := fun q => e6 ((kd_ 6 (by decide)).mpr q)
      omega
    have m2 := mI_2 hk4
    rw [m2] at hi hm
    have i16 : ∀ j, j < 2 → it j < 16 := fun j hj => i16 j (by omega)
    have S16 : ∀ j, j < 2 → S (it j) < 16 := fun j hj => S16 j (by omega)
    have pls : ∀ j, j < 2 → pl (nI (it j)).toNatClampNeg = nI (2 * S (it j)) := fun j hj => pls j (by omega)
    rw [if_pos (by omega)] at f2
    have it1 : wp_X1_itemAt (1 - nI i) (pv.2.1 a 1) (pv.2.1 a 2) (pv.2.1 a 3) = wp_X1_itemAt (nI (1 - i)) (nI (it 0)) (nI (it 1)) (pv.2.1 a 3) := by
      rw [f1, f2, show (1 : Int32) - nI i = nI (1 - i) from by rw [show (1 : Int32) = nI 1 from rfl, pk_sub (by omega)]]
    rw [it1]
    refine e_X1_itemAt (by omega) ?_
    have io : itv (nI (it 0)) (nI (it 1)) (pv.2.1 a 3) (1 - i) = nI (it (1 - i)) := by
      rcases (show i = 0 ∨ i = 1 by omega) with e | e <;> subst e <;> rfl
    rw [io]
    have ok : Q (supV kd i (S (it (1 - i)))) := by
      refine h _ (fun r hr hb => ?_)
      rw [supV_ok (kd := kd) (by omega) hi (S16 (1 - i) (by omega)) (hne _ (i16 (1 - i) (by omega))) hr]
      rcases (show i = 0 ∨ i = 1 by omega) with e | e <;> subst e
      · exact (may_20 (A := fun j => S (it j)) hk4 hr hb).symm
      · exact (may_21 (A := fun j => S (it j)) hk4 hr hb).symm
    refine ⟨vp_in_nI (i16 (1 - i) (by omega)) (by decide), ?_⟩
    rintro _ rfl _ rfl _ rfl
    rw [pls (1 - i) (by omega)]
    have ii : (nI i = 0 ↔ i = 0) := nI_eq (b := 0) (by omega) (by decide)
    refine ⟨fun e => ?_, fun e => ?_, fun e => ?_, fun e => ?_, fun e => ?_⟩
    · have e := (kd_ 0 (by decide)).mp e
      subst e
      exact ok
    · have e := (kd_ 1 (by decide)).mp e
      subst e
      refine e_bc (S16 (1 - i) (by omega)) ?_
      have pl4 := pc_le _ (S16 (1 - i) (by omega))
      unfold supV at ok
      rw [if_neg (by decide), if_pos rfl] at ok
      refine ⟨fun q => ?_, fun q => ?_⟩
      · rw [if_pos ((nI_eq (b := 1) (by omega) (by decide)).mp q)] at ok
        exact ok
      · rw [if_neg (fun z => q (by rw [z]; rfl))] at ok
        exact ok
    · have e := (kd_ 2 (by decide)).mp e
      subst e
      unfold supV at ok
      rw [if_neg (by decide), if_neg (by decide), if_pos rfl] at ok
      rw [ii]
      refine ⟨fun q => ?_, fun q => ?_⟩
      · rw [if_pos q] at ok; exact ok
      · rw [if_neg q] at ok; exact ok
    · have e := (kd_ 3 (by decide)).mp e
      subst e
      unfold supV at ok
      rw [if_neg (by decide), if_neg (by decide), if_neg (by decide), if_pos rfl] at ok
      rw [ii]
      refine ⟨fun q => ?_, fun q => ?_⟩
      · rw [if_pos q] at ok; exact ok
      · rw [if_neg q] at ok; exact ok
    · obtain ⟨a0, a1, a2, a3⟩ := e
      have b0 : ¬ kd = 0 := fun q => a0 ((kd_ 0 (by decide)).mpr q)
      have b1 : ¬ kd = 1 := fun q => a1 ((kd_ 1 (by decide)).mpr q)
      have b2 : ¬ kd = 2 := fun q => a2 ((kd_ 2 (by decide)).mpr q)
      have b3 : ¬ kd = 3 := fun q => a3 ((kd_ 3 (by decide)).mpr q)
      unfold supV at ok
      rw [if_neg b0, if_neg b1, if_neg b2, if_neg b3] at ok
      exact ok
