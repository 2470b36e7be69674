/-! ===== mathematics: Grids, what is chosen ===== -/
/-- a clue of the pool allows the orders od -/
def AlO (pv : PV) (a : Nat) (od : Nat → Nat) : Prop := bt (pv.2.2.2 a (4 * fsC (pv.2.1 a 6) od + fsC (pv.2.1 a 7) od)) (od (pv.2.1 a 5).toNatClampNeg) = true
/-- where the pairs of two categories begin -/
def pst (l t : Nat) : Nat := (tPAIR (4 * l + t)).toNatClampNeg
theorem pst_ok : ∀ t, t < 4 → ∀ l, l < t → tPAIR (4 * l + t) = nI (pst l t) ∧ pst l t + 24 ≤ 144 := by decide +kernel
theorem pst_val : ∀ t, t < 4 → ∀ l, l < t → pst l t = 24 * (if l = 0 then t - 1 else if l = 1 then t + 1 else 5) := by decide +kernel
theorem pst_ne : ∀ t, t < 4 → ∀ l, l < t → ∀ t', t' < 4 → ∀ l', l' < t' → (l = l' ∧ t = t') ∨ pst l t + 24 ≤ pst l' t' ∨ pst l' t' + 24 ≤ pst l t := by
  intro t ht l hl t' ht' l' hl'
  rw [pst_val t ht l hl, pst_val t' ht' l' hl']
  split <;> (try split) <;> (try split) <;> (try split) <;> omega
theorem pst_lo : ∀ t, t < 4 → ∀ l, l < t → l ≠ 2 → pst l t + 24 ≤ 120 := by decide +kernel
/-- what alone and pairs leave -/
def bsO (al pr : Nat → Int32) (od : Nat → Nat) : Prop := (∀ c, c < 4 → bt (al c) (od c) = true) ∧ ∀ t, t < 4 → ∀ l, l < t → bt (pr (pst l t + od l)) (od t) = true
def inB (pv : PV) (a : Nat) : Prop := pv.1 a ∧ ∃ t x y, (t = 2 ∨ t = 3) ∧ x < 4 ∧ 4 ≤ y ∧ y < 8 ∧ pv.2.1 a 5 = nI t ∧ pv.2.1 a 6 = nI x ∧ pv.2.1 a 7 = nI y
def inC (pv : PV) (a : Nat) : Prop := pv.1 a ∧ ∃ x y, x < 8 ∧ 8 ≤ y ∧ y < 12 ∧ pv.2.1 a 5 = nI 3 ∧ pv.2.1 a 6 = nI x ∧ pv.2.1 a 7 = nI y
/-- Grids as it is, M being what the chosen clues ask -/
def GS (pv : PV) (nb nc : Nat) (M : (Nat → Nat) → Prop) (tl : Int32) (al pr : Nat → Int32) (bs : Int32) (br : Nat → Option Nat) (cs : Int32) (cr : Nat → Option Nat) : Prop :=
  nb ≤ 12 ∧ nc ≤ 12 ∧ bs = nI nb ∧ cs = nI nc ∧ zb tl ∧ (∀ c, c < 4 → ∀ i, 24 ≤ i → bt (al c) i = false) ∧ (tl = 0 → nc = 0 ∧ ∀ c, c < 24 → ∀ d, d < 24 → bt (pr (120 + c)) d = true) ∧ (∀ k, k < nb → ∃ a, br k = some a ∧ inB pv a) ∧ (∀ k, k < nc → ∃ a, cr k = some a ∧ inC pv a) ∧ ∀ od, OrdOK od → (M od ↔ bsO al pr od ∧ (∀ k, k < nb → ∀ a, br k = some a → AlO pv a od) ∧ (∀ k, k < nc → ∀ a, cr k = some a → AlO pv a od))
theorem GS.congr {pv : PV} {nb nc : Nat} {M M' : (Nat → Nat) → Prop} {tl bs cs : Int32} {al pr : Nat → Int32} {br cr : Nat → Option Nat} (h : GS pv nb nc M tl al pr bs br cs cr) (e : ∀ od, OrdOK od → (M' od ↔ M od)) : GS pv nb nc M' tl al pr bs br cs cr := by
  obtain ⟨h1, h2, h3, h4, h5, h6, h7, h8, h9, h10⟩ := h
  exact ⟨h1, h2, h3, h4, h5, h6, h7, h8, h9, fun od ho => (e od ho).trans (h10 od ho)⟩
theorem fsC_congr {v : Int32} {od od' : Nat → Nat} (h : ¬ v = -6 → od (v.toNatClampNeg / 4) = od' (v.toNatClampNeg / 4)) : fsC v od = fsC v od' := by
  unfold fsC
  by_cases q : v = -6
  · rw [if_pos q, if_pos q]
  · rw [if_neg q, if_neg q, h q]
theorem dv4 {z : Nat} (hz : z < 16) : nI z / 4 = nI (z / 4) := by rw [show (4 : Int32) = nI 4 from rfl, pk_div (by omega) (by decide) (by decide)]
theorem e_an58 {pv : PV} {a c s : Nat} (ha : pv.1 a) (hc : c < 4) (hs : s < 4) {Q : Int32 → Prop} (h : Q (pv.2.2.2 a (4 * c + s))) : wp_X3_allowedNow_58 Q a pv (nI c) (nI s) := by
  refine ⟨ha, ?_⟩
  rw [show (4 : Int32) = nI 4 from rfl, pk_mul, nI_add, nI_clamp (n := 4 * c + s) (by omega)]
  exact ⟨vp_in_nI (by omega) (by decide), h⟩
theorem e_X3_allowedNow {pv : PV} {a x : Nat} {high : Int32} (ha : pv.1 a) (hx : x < 16) (h6 : pv.2.1 a 6 = nI x) (h7 : pv.2.1 a 7 = high) (hh : high = -6 ∨ ∃ y, y < 16 ∧ high = nI y) {or : Nat → Int32} {od : Nat → Nat} (o1 : or (x / 4) = nI (od (x / 4)) ∧ od (x / 4) < 24) (o2 : ∀ y, y < 16 → high = nI y → or (y / 4) = nI (od (y / 4)) ∧ od (y / 4) < 24) {Q : Int32 → Prop} (h : Q (pv.2.2.2 a (4 * fsC (pv.2.1 a 6) od + fsC (pv.2.1 a 7) od))) : wp_X3_allowedNow a pv or Q := by
  rw [h6, h7, fsC_n hx] at h
  have c1 := col_ok (od (x / 4)) o1.2 (x % 4) (Nat.mod_lt _ (by decide))
  refine ⟨ha, ?_⟩
  rintro _ rfl _ rfl
  rw [h6, h7, dv4 hx, and3 (by omega), nI_clamp (n := x / 4) (by omega), o1.1]
  rw [show (4 : Int32) * nI (od (x / 4)) + nI (x % 4) = nI (4 * od (x / 4) + x % 4) from by rw [show (4 : Int32) = nI 4 from rfl, pk_mul, nI_add]]
  rw [nI_clamp (n := 4 * od (x / 4) + x % 4) (by have := o1.2; omega), c1.1]
  refine ⟨vp_in_nI (by omega) (by decide), vp_in_nI (by have := o1.2; omega) (by decide), ?_⟩
  rintro _ rfl
  refine ⟨fun e => ?_, fun e => ?_⟩
  · rw [e, fsC_6] at h
    exact e_an58 (s := 0) ha c1.2 (by decide) h
  · obtain ⟨y, hy, ey⟩ := hh.resolve_left e
    obtain ⟨p1, p2⟩ := o2 y hy ey
    have c2 := col_ok (od (y / 4)) p2 (y % 4) (Nat.mod_lt _ (by decide))
    rw [ey, fsC_n hy] at h
    rw [ey, dv4 hy, and3 (by omega), nI_clamp (n := y / 4) (by omega), p1]
    rw [show (4 : Int32) * nI (od (y / 4)) + nI (y % 4) = nI (4 * od (y / 4) + y % 4) from by rw [show (4 : Int32) = nI 4 from rfl, pk_mul, nI_add]]
    rw [nI_clamp (n := 4 * od (y / 4) + y % 4) (by omega), c2.1]
    exact ⟨vp_in_nI (by omega) (by decide), vp_in_nI (by omega) (by decide), e_an58 ha c1.2 c2.2 h⟩
theorem e_X3_takePair {pv : PV} {a x t : Nat} {high : Int32} (ha : pv.1 a) (hx : x < 16) (ht : t < 4) (hlt : x / 4 < t) (h5 : pv.2.1 a 5 = nI t) (h6 : pv.2.1 a 6 = nI x) (h7 : pv.2.1 a 7 = high) (hh : high = -6 ∨ ∃ y, y < 16 ∧ high = nI y ∧ y / 4 = x / 4) {pr or : Nat → Int32} {Q : (Nat → Int32) → (Nat → Int32) → Prop}
    (h : ∀ pr' or', (∀ k, k < 24 → pr' (pst (x / 4) t + k) = pr (pst (x / 4) t + k) &&& pv.2.2.2 a (4 * fsC (pv.2.1 a 6) (fun _ => k) + fsC (pv.2.1 a 7) (fun _ => k))) → (∀ j, (j < pst (x / 4) t ∨ pst (x / 4) t + 24 ≤ j) → pr' j = pr j) → Q pr' or') : wp_X3_takePair a (nI (x / 4)) pv pr or Q := by
  obtain ⟨p1, p2⟩ := pst_ok t ht (x / 4) hlt
  refine ⟨ha, ?_⟩
  rw [h5, show (4 : Int32) * nI (x / 4) + nI t = nI (4 * (x / 4) + t) from by rw [show (4 : Int32) = nI 4 from rfl, pk_mul, nI_add], nI_clamp (n := 4 * (x / 4) + t) (by omega), p1]
  generalize pst (x / 4) t = s at *
  refine ⟨vp_in_nI (by omega) (by decide), ?_⟩
  rintro _ rfl
  refine ⟨fun l3 l4 p _ => l3 = nI s ∧ ∃ k, k ≤ 24 ∧ l4 = nI k ∧ (∀ j, j < k → p (s + j) = pr (s + j) &&& pv.2.2.2 a (4 * fsC (pv.2.1 a 6) (fun _ => j) + fsC (pv.2.1 a 7) (fun _ => j))) ∧ (∀ j, (j < s ∨ s + k ≤ j) → p j = pr j), fun _ l4 _ _ => 24 - l4.toNatClampNeg, ⟨rfl, 0, Nat.zero_le _, nI_0.symm, fun j hj => absurd hj (Nat.not_lt_zero _), fun _ _ => rfl⟩, ?_⟩
  rintro l3 l4 p o ⟨rfl, k, hk, rfl, q1, q2⟩
  refine ⟨fun d => ?_, fun d => ?_⟩
  · have e : k = 24 := Nat.le_antisymm hk ((nI_leI (a := 24) (by decide) (by omega)).mp d)
    subst e
    exact h p o q1 q2
  · have hlt' : k < 24 := Nat.lt_of_not_le (fun q => d ((nI_leI (a := 24) (by decide) (by omega)).mpr q))
    rw [nI_add, nI_1, nI_clamp (n := x / 4) (by omega), nI_clamp (n := s + k) (by omega)]
    refine ⟨vp_in_nI (by omega) (by decide), vp_in_nI (by omega) (by decide), ?_⟩
    refine e_X3_allowedNow (od := fun _ => k) ha hx h6 h7 (hh.imp id (fun ⟨y, u, v, _⟩ => ⟨y, u, v⟩)) ⟨pk_us, hlt'⟩ (fun y hy ey => ⟨?_, hlt'⟩) ⟨vp_in_nI (by omega) (by decide), ⟨rfl, k + 1, hlt', rfl, fun j hj => ?_, fun j hj => ?_⟩, mu_dec hlt' (by decide)⟩
    · have e4 : y / 4 = x / 4 := by
        rcases hh with q | ⟨y', u, v, w⟩
        · exact absurd (ey.symm.trans q) (ne6 y hy)
        · have : y = y' := (nI_eq (by omega) (by omega)).mp (ey.symm.trans v)
          rw [this]; exact w
      rw [e4, pk_us]
    · by_cases e : j = k
      · subst e; rw [pk_us, q2 _ (Or.inr (Nat.le_refl _))]
      · rw [pk_un (by omega)]; exact q1 j (by omega)
    · rw [pk_un (by omega)]; exact q2 j (by omega)
theorem bsO_al {al pr : Nat → Int32} {od : Nat → Nat} {t : Nat} {v : Int32} (ht : t < 4) : bsO (upd al t (al t &&& v)) pr od ↔ bsO al pr od ∧ bt v (od t) = true := by
  constructor
  · rintro ⟨h1, h2⟩
    have ht' := h1 t ht
    rw [pk_us, b_and, Bool.and_eq_true] at ht'
    refine ⟨⟨fun c hc => ?_, h2⟩, ht'.2⟩
    by_cases e : c = t
    · subst e; exact ht'.1
    · have := h1 c hc
      rw [pk_un e] at this
      exact this
  · rintro ⟨⟨h1, h2⟩, h3⟩
    refine ⟨fun c hc => ?_, h2⟩
    by_cases e : c = t
    · subst e
      rw [pk_us, b_and, h1 c hc, h3]; rfl
    · rw [pk_un e]; exact h1 c hc
theorem bsO_pr {al pr pr' : Nat → Int32} {od : Nat → Nat} {l t : Nat} {A : Nat → Int32} (ht : t < 4) (hl : l < t) (h1 : ∀ k, k < 24 → pr' (pst l t + k) = pr (pst l t + k) &&& A k) (h2 : ∀ j, (j < pst l t ∨ pst l t + 24 ≤ j) → pr' j = pr j) (ho : OrdOK od) : bsO al pr' od ↔ bsO al pr od ∧ bt (A (od l)) (od t) = true := by
  have ol : ∀ c, c < 4 → od c < 24 := ho
  have eq : ∀ t', t' < 4 → ∀ l', l' < t' → ¬ (l = l' ∧ t = t') → pr' (pst l' t' + od l') = pr (pst l' t' + od l') := by
    intro t' ht' l' hl' hne
    have o := ol l' (by omega)
    rcases pst_ne t ht l hl t' ht' l' hl' with q | q | q
    · exact absurd q hne
    · exact h2 _ (by omega)
    · exact h2 _ (by omega)
  constructor
  · rintro ⟨g1, g2⟩
    have gt := g2 t ht l hl
    rw [h1 _ (ol l (by omega)), b_and, Bool.and_eq_true] at gt
    refine ⟨⟨g1, fun t' ht' l' hl' => ?_⟩, gt.2⟩
    by_cases e : l = l' ∧ t = t'
    · obtain ⟨rfl, rfl⟩ := e; exact gt.1
    · rw [← eq t' ht' l' hl' e]; exact g2 t' ht' l' hl'
  · rintro ⟨⟨g1, g2⟩, g3⟩
    refine ⟨g1, fun t' ht' l' hl' => ?_⟩
    by_cases e : l = l' ∧ t = t'
    · obtain ⟨rfl, rfl⟩ := e
      rw [h1 _ (ol l (by omega)), b_and, g2 t ht l hl, g3]; rfl
    · rw [eq t' ht' l' hl' e]; exact g2 t' ht' l' hl'
theorem rows_snoc {r : Nat → Option Nat} {n a : Nat} {P : Nat → Prop} : (∀ k, k < n + 1 → ∀ b, va_up r n (some a) k = some b → P b) ↔ (∀ k, k < n → ∀ b, r k = some b → P b) ∧ P a := by
  constructor
  · intro h
    refine ⟨fun k hk b hb => h k (by omega) b (by rw [va_up_ne _ _ (by omega)]; exact hb), h n (by omega) a (va_up_self _ _ _)⟩
  · rintro ⟨h1, h2⟩ k hk b hb
    by_cases e : k = n
    · subst e
      rw [va_up_self] at hb
      cases hb
      exact h2
    · rw [va_up_ne _ _ e] at hb
      exact h1 k (by omega) b hb
theorem rows_snocE {r : Nat → Option Nat} {n a : Nat} {P : Nat → Prop} (h1 : ∀ k, k < n → ∃ b, r k = some b ∧ P b) (h2 : P a) : ∀ k, k < n + 1 → ∃ b, va_up r n (some a) k = some b ∧ P b := by
  intro k hk
  by_cases e : k = n
  · subst e; exact ⟨a, va_up_self _ _ _, h2⟩
  · rw [va_up_ne _ _ e]; exact h1 k (by omega)
section TAKE
variable {pv : PV} {a nb nc : Nat} {M M' : (Nat → Nat) → Prop} {tl bs cs : Int32} {al pr or : Nat → Int32} {br cr : Nat → Option Nat} {Q : Int32 → (Nat → Int32) → (Nat → Int32) → Int32 → (Nat → Option Nat) → Int32 → (Nat → Option Nat) → (Nat → Int32) → Prop}
theorem e_take54 {l2 mid : Int32} (h : ∀ s, zb s → (s = 0 → tl = 0 ∧ ¬ mid = 2) → wp_X3_take_73 Q a pv l2 mid s tl al pr bs br cs cr or) : wp_X3_take_54 Q a pv l2 mid tl al pr bs br cs cr or :=
  ⟨fun e => ⟨fun f => h 1 zb1 (fun z => absurd z (by decide)), fun f => h 0 zb0 (fun _ => ⟨e, f⟩)⟩, fun e => h 1 zb1 (fun z => absurd z (by decide))⟩
theorem e_X3_take (hg : GS pv nb nc M tl al pr bs br cs cr) (ha : pv.1 a) (hT : TK (pv.2.1 a 5) (pv.2.1 a 6) (pv.2.1 a 7) (pv.2.2.2 a) M') (hroom : pv.2.1 a 7 = -6 ∨ (nb < 12 ∧ nc < 12))
    (h : ∀ nb' nc' tl' al' pr' bs' br' cs' cr' or', nb' ≤ nb + 1 → nc' ≤ nc + 1 → GS pv nb' nc' (fun od => M od ∧ M' od) tl' al' pr' bs' br' cs' cr' → Q tl' al' pr' bs' br' cs' cr' or') : wp_X3_take a pv tl al pr bs br cs cr or Q := by
  obtain ⟨t, ht, h5, hs, hM⟩ := hT
  obtain ⟨g1, g2, rfl, rfl, g5, g6, g7, g8, g9, g10⟩ := hg
  have hal : ∀ od, OrdOK od → (AlO pv a od ↔ M' od) := fun od ho => by
    unfold AlO
    rw [h5, nI_clamp (by omega)]
    exact hM od ho
  have mv : ∀ {X Y Z W : Prop}, (X ∧ Y ∧ Z) ∧ W ↔ (X ∧ W) ∧ Y ∧ Z := fun {X Y Z W} => ⟨fun ⟨⟨x, y, z⟩, w⟩ => ⟨⟨x, w⟩, y, z⟩, fun ⟨⟨x, w⟩, y, z⟩ => ⟨⟨x, y, z⟩, w⟩⟩
  -- two categories: pairs
  have pair : ∀ x, x < 16 → x / 4 < t → pv.2.1 a 6 = nI x → (pv.2.1 a 7 = -6 ∨ ∃ y, y < 16 ∧ pv.2.1 a 7 = nI y ∧ y / 4 = x / 4) → wp_X3_take_54 Q a pv (nI (x / 4)) (nI (x / 4)) tl al pr (nI nb) br (nI nc) cr or := by
    intro x hx hxt h6 hh
    refine e_take54 (fun s hz hs0 => ⟨hz, fun _ => ?_, fun z => absurd rfl z⟩)
    refine e_X3_takePair ha hx ht hxt h5 h6 rfl hh (fun pr' or' p1 p2 => ?_)
    refine h nb nc s al pr' _ br _ cr or' (by omega) (by omega) ⟨g1, g2, rfl, rfl, hz, g6, fun e => ?_, g8, g9, fun od ho => ?_⟩
    · obtain ⟨e1, e2⟩ := hs0 e
      obtain ⟨f1, f2⟩ := g7 e1
      have ne : x / 4 ≠ 2 := fun q => e2 (by rw [q]; rfl)
      have := pst_lo t ht (x / 4) hxt ne
      refine ⟨f1, fun c hc d hd => ?_⟩
      rw [p2 _ (by omega)]
      exact f2 c hc d hd
    · have key : AlO pv a od ↔ bt (pv.2.2.2 a (4 * fsC (pv.2.1 a 6) (fun _ => od (x / 4)) + fsC (pv.2.1 a 7) (fun _ => od (x / 4)))) (od t) = true := by
        have e6 : fsC (pv.2.1 a 6) od = fsC (pv.2.1 a 6) (fun _ => od (x / 4)) := fsC_congr (fun _ => by rw [h6, nI_clamp (by omega)])
        have e7 : fsC (pv.2.1 a 7) od = fsC (pv.2.1 a 7) (fun _ => od (x / 4)) := fsC_congr (fun q => by
          obtain ⟨y, hy, ey, e4⟩ := hh.resolve_left q
          rw [ey, nI_clamp (by omega), e4])
        unfold AlO
        rw [h5, nI_clamp (by omega), e6, e7]
      show (M od ∧ M' od) ↔ _
      rw [g10 od ho, ← hal od ho, key, bsO_pr (A := fun k => pv.2.2.2 a (4 * fsC (pv.2.1 a 6) (fun _ => k) + fsC (pv.2.1 a 7) (fun _ => k))) ht hxt p1 p2 ho]
      exact mv
  rcases hs with ⟨e6, e7⟩ | ⟨x, hx, hxt, e6, e7⟩ | ⟨x, y, hxy, hy, hyt, e6, e7⟩
  · refine ⟨ha, fun _ => ?_, fun z => absurd e6 z⟩
    rw [h5, nI_clamp (n := t) (by omega)]
    refine ⟨vp_in_nI ht (by decide), vp_in_nI ht (by decide), h nb nc _ _ _ _ _ _ _ or (by omega) (by omega) ⟨g1, g2, rfl, rfl, g5, fun c hc i hi => ?_, g7, g8, g9, fun od ho => ?_⟩⟩
    · by_cases e : c = t
      · subst e; rw [pk_us, b_and, g6 c hc i hi]; rfl
      · rw [pk_un e]; exact g6 c hc i hi
    · show (M od ∧ M' od) ↔ _
      rw [g10 od ho, ← hal od ho, bsO_al ht]
      unfold AlO
      rw [h5, e6, e7, fsC_6, nI_clamp (by omega)]
      exact mv
  · refine ⟨ha, fun z => absurd (e6.symm.trans z) (ne6 x hx), fun _ => ?_⟩
    rw [e6, e7, dv4 hx]
    rintro _ rfl
    exact ⟨fun _ => pair x hx hxt e6 (Or.inl e7), fun z => absurd rfl z⟩
  · have hx : x < 16 := by omega
    refine ⟨ha, fun z => absurd (e6.symm.trans z) (ne6 x hx), fun _ => ?_⟩
    rw [e6, e7, dv4 hx]
    rintro _ rfl
    refine ⟨fun z => absurd z (ne6 y hy), fun _ => ?_⟩
    rw [dv4 hy]
    by_cases e4 : y / 4 = x / 4
    · rw [e4]
      exact pair x hx (by omega) e6 (Or.inr ⟨y, hy, e7, e4⟩)
    · obtain ⟨r1, r2⟩ := hroom.resolve_left (fun q => ne6 y hy (e7.symm.trans q))
      have ne : ¬ nI (y / 4) = nI (x / 4) := fun q => e4 ((nI_eq (by omega) (by omega)).mp q)
      have hle : x / 4 < y / 4 := by omega
      refine e_take54 (fun s hz hs0 => ⟨hz, fun q => absurd q ne, fun _ => ⟨fun e1 => ?_, fun e1 => ?_⟩⟩)
      · have e1 : y / 4 = 1 := (nI_eq (b := 1) (by omega) (by decide)).mp e1
        refine ⟨fun q => absurd ((nI_leI (a := 12) (by decide) (by omega)).mp q) (by omega), fun _ => ⟨ha, vp_in_nI r1 (by decide), ?_⟩⟩
        rw [nI_1, nI_clamp (n := nb) (by omega)]
        refine h (nb + 1) nc _ _ _ _ _ _ _ or (by omega) (by omega) ⟨r1, g2, rfl, rfl, hz, g6, fun e => g7 (hs0 e).1, rows_snocE g8 ⟨ha, t, x, y, by omega, by omega, by omega, by omega, h5, e6, e7⟩, g9, fun od ho => ?_⟩
        show (M od ∧ M' od) ↔ _
        rw [g10 od ho, ← hal od ho, rows_snoc]
        exact ⟨fun ⟨⟨u, v, w⟩, z⟩ => ⟨u, ⟨v, z⟩, w⟩, fun ⟨u, ⟨v, z⟩, w⟩ => ⟨⟨u, v, w⟩, z⟩⟩
      · have e1 : ¬ y / 4 = 1 := fun q => e1 (by rw [q]; rfl)
        have e2 : y / 4 = 2 := by omega
        refine ⟨fun q => absurd ((nI_leI (a := 12) (by decide) (by omega)).mp q) (by omega), fun _ => ⟨ha, vp_in_nI r2 (by decide), ?_⟩⟩
        rw [nI_1, nI_clamp (n := nc) (by omega)]
        have e3 : t = 3 := by omega
        refine h nb (nc + 1) _ _ _ _ _ _ _ or (by omega) (by omega) ⟨g1, r2, rfl, rfl, hz, g6, fun e => absurd (show nI (y / 4) = 2 by rw [e2]; rfl) (hs0 e).2, g8, rows_snocE g9 ⟨ha, x, y, by omega, by omega, by omega, by rw [h5, e3], e6, e7⟩, fun od ho => ?_⟩
        show (M od ∧ M' od) ↔ _
        rw [g10 od ho, ← hal od ho, rows_snoc]
        exact ⟨fun ⟨⟨u, v, w⟩, z⟩ => ⟨u, v, w, z⟩, fun ⟨u, v, w, z⟩ => ⟨⟨u, v, w⟩, z⟩⟩
end TAKE
