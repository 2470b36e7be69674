/-! ===== mathematics: told, count, image, restore ===== -/
theorem in_lit {m : Nat} (hm : m < 1000000) {x : Int32} : (¬ x < 0 ∧ ¬ nI m < x) ↔ ∃ c, c < m + 1 ∧ x = nI c := by
  constructor
  · rintro ⟨c, d⟩
    obtain ⟨j, hj, rfl⟩ := nI_of c
    have h9 : ¬ m < j := fun q => d ((nI_ltI (by omega) (by omega)).mpr q)
    exact ⟨j, by omega, rfl⟩
  · rintro ⟨c, hc, rfl⟩
    exact ⟨nI_pos (by omega), fun q => absurd ((nI_ltI (by omega) (by omega)).mp q) (by omega)⟩
section LISTS2
variable {CW : (Nat → Int32) → (Nat → Int32) → Prop} {pv : PV}
theorem op_told {x w sz many : Int32} {row : Nat → Option Nat} {zc : Nat → Int32} (h : RC CW pv sz row many zc) {G1 G2 : Prop} (hG1 : G1) (hG2 : G2) {F : Int32 → Int32 → Prop} (hF : ∀ r, F r r) :
    wp_X6_told x w pv sz row (fun r => G1 ∧ (G2 ∧ wp_X7_told x w zc many (fun r2 => F r r2))) := by
  obtain ⟨n, hn, rfl, rfl, hl⟩ := h
  refine e_X6_isClue hn (fun c hc e => ⟨fun z => absurd z (by decide), fun _ => ?_⟩) (fun he => ⟨fun _ => ⟨hG1, hG2, ?_⟩, fun z => absurd rfl z⟩)
  · subst e
    obtain ⟨a, ha, h1, h2, h3⟩ := hl c hc
    refine ⟨vp_in_nI (by omega) (by decide), a, by rw [nI_clamp (by omega)]; exact ha, ?_⟩
    have inn : ∀ j : Nat, j < 5 → w = nI j → F (pv.2.1 a j) (zc (5 * c + j)) → wp_X7_told (nI c) w zc (nI n) (fun r2 => F (pv.2.1 a j) r2) := by
      intro j hj e hf
      refine e_X7_isClue hn (fun _ _ _ => ⟨fun z => absurd z (by decide), fun _ => ?_⟩) (fun q => absurd ⟨c, hc, rfl⟩ q)
      refine e_X7_in (fun _ => ⟨fun z => absurd z (by decide), fun _ => ?_⟩) (fun q => absurd ((in_lit (m := 4) (by decide)).mpr ⟨j, hj, e⟩) q)
      subst e
      unfold wp_X7_of
      rw [show (5 : Int32) = nI 5 from rfl, pk_mul, nI_add, nI_clamp (by omega)]
      exact ⟨vp_in_nI (by omega) (by decide), hf⟩
    have eqf : ∀ j : Nat, j < 5 → F (pv.2.1 a j) (zc (5 * c + j)) := fun j hj => by
      rw [h2 j hj]
      show F (zc (0 + 5 * c + j)) _
      rw [Nat.zero_add]
      exact hF _
    refine ⟨fun e => ⟨h1, hG1, hG2, inn 0 (by decide) e (eqf 0 (by decide))⟩, fun e => ⟨h1, hG1, hG2, inn 1 (by decide) e (eqf 1 (by decide))⟩, fun e => ⟨h1, hG1, hG2, inn 2 (by decide) e (eqf 2 (by decide))⟩, fun e => ⟨h1, hG1, hG2, inn 3 (by decide) e (eqf 3 (by decide))⟩, fun e => ⟨h1, hG1, hG2, inn 4 (by decide) e (eqf 4 (by decide))⟩, fun e => ⟨hG1, hG2, ?_⟩⟩
    refine e_X7_isClue hn (fun _ _ _ => ⟨fun z => absurd z (by decide), fun _ => ?_⟩) (fun q => absurd ⟨c, hc, rfl⟩ q)
    refine e_X7_in (fun q => ?_) (fun _ => ⟨fun _ => hF _, fun z => absurd rfl z⟩)
    obtain ⟨j, hj, rfl⟩ := (in_lit (m := 4) (by decide)).mp q
    obtain ⟨e0, e1, e2, e3, e4⟩ := e
    rcases (show j = 0 ∨ j = 1 ∨ j = 2 ∨ j = 3 ∨ j = 4 by omega) with r | r | r | r | r
    · subst r; exact absurd rfl e0
    · subst r; exact absurd rfl e1
    · subst r; exact absurd rfl e2
    · subst r; exact absurd rfl e3
    · subst r; exact absurd rfl e4
  · exact e_X7_isClue hn (fun c hc e => absurd ⟨c, hc, e⟩ he) (fun _ => ⟨fun _ => hF _, fun z => absurd rfl z⟩)
/-- how many of n numbers are kd -/
def okc (f : Nat → Int32) (kd : Int32) : Nat → Int32
  | 0 => 0
  | n + 1 => if f n = kd then okc f kd n + 1 else okc f kd n
theorem e_X2_ofKind {n : Nat} (hn : n ≤ 12) {kd : Int32} {row : Nat → Option Nat} {f : Nat → Int32} (hr : ∀ k, k < n → ∃ a, row k = some a ∧ pv.1 a ∧ pv.2.1 a 0 = f k) {Q : Int32 → Prop} (h : Q (okc f kd n)) : wp_X2_ofKind kd pv (nI n) row Q := by
  refine ⟨fun s l => ∃ i, i ≤ n ∧ l = nI i ∧ s = okc f kd i, fun _ l => 12 - l.toNatClampNeg, ⟨0, Nat.zero_le _, nI_0.symm, rfl⟩, ?_⟩
  rintro s l ⟨i, hi, rfl, rfl⟩
  refine ⟨fun d => ?_, fun d => ?_⟩
  · have e : i = n := Nat.le_antisymm hi ((nI_leI (by omega) (by omega)).mp d)
    subst e
    exact h
  · have hlt : i < n := Nat.lt_of_not_le (fun q => d ((nI_leI (by omega) (by omega)).mpr q))
    obtain ⟨a, ha, hp, hf⟩ := hr i hlt
    refine ⟨vp_in_nI (by omega) (by decide), a, by rw [nI_clamp (by omega)]; exact ha, hp, fun e => ?_, fun e => ?_⟩
    · rw [hf] at e
      exact ⟨⟨i + 1, hlt, nI_1 i, by show _ = if f i = kd then _ else _; rw [if_pos e]⟩, by rw [nI_1]; exact mu_dec (by omega) (by decide)⟩
    · rw [hf] at e
      exact ⟨⟨i + 1, hlt, nI_1 i, by show _ = if f i = kd then _ else _; rw [if_neg e]⟩, by rw [nI_1]; exact mu_dec (by omega) (by decide)⟩
theorem e_X7_ofKind {n : Nat} (hn : n ≤ 12) {kd : Int32} {zc : Nat → Int32} {Q : Int32 → Prop} (h : Q (okc (fun k => zc (5 * k)) kd n)) : wp_X7_ofKind kd zc (nI n) Q := by
  refine ⟨fun s l => ∃ i, i ≤ n ∧ l = nI i ∧ s = okc (fun k => zc (5 * k)) kd i, fun _ l => 12 - l.toNatClampNeg, ⟨0, Nat.zero_le _, nI_0.symm, rfl⟩, ?_⟩
  rintro s l ⟨i, hi, rfl, rfl⟩
  refine ⟨fun d => ?_, fun d => ?_⟩
  · have e : i = n := Nat.le_antisymm hi ((nI_leI (by omega) (by omega)).mp d)
    subst e
    exact h
  · have hlt : i < n := Nat.lt_of_not_le (fun q => d ((nI_leI (by omega) (by omega)).mpr q))
    unfold wp_X7_of
    rw [show (5 : Int32) = nI 5 from rfl, pk_mul, show (0 : Int32) = nI 0 from rfl, nI_add, nI_clamp (n := 5 * i + 0) (by omega)]
    refine ⟨vp_in_nI (by omega) (by decide), fun e => ?_, fun e => ?_⟩
    · rintro w rfl
      exact ⟨⟨i + 1, hlt, nI_1 i, (if_pos (show zc (5 * i) = kd from e)).symm⟩, by rw [nI_1]; exact mu_dec (by omega) (by decide)⟩
    · rintro w rfl
      exact ⟨⟨i + 1, hlt, nI_1 i, (Int32.add_zero _).trans (if_neg (show ¬ zc (5 * i) = kd from e)).symm⟩, by rw [nI_1]; exact mu_dec (by omega) (by decide)⟩
/-- which images are kept, of both sides -/
def RK (ki : Int32) (zk : Nat → Int32) (b0 b1 : Bool) : Prop := ki = (if b0 then 1 else 0) + (if b1 then 2 else 0) ∧ zk 0 = (if b0 then 1 else 0) ∧ zk 1 = (if b1 then 1 else 0)
theorem op_count {x sz many ki lf zf ts zs : Int32} {row : Nat → Option Nat} {zc zk : Nat → Int32} {sg zt : Nat → Int32} {b0 b1 : Bool} (h : RC CW pv sz row many zc) (ht : RT ts sg zs zt) (hf : lf = zf) (hk : RK ki zk b0 b1) {G : Prop} (hG : G) {F : Int32 → Int32 → Prop} (hF : ∀ r, F r r) :
    wp_X6_count x pv ki lf ts sz row (fun r => G ∧ wp_X7_count x zc many zs zf zk (fun r2 => F r r2)) := by
  obtain ⟨n, hn, rfl, rfl, hl⟩ := h
  obtain ⟨m, hm, rfl, rfl, -⟩ := ht
  subst hf
  obtain ⟨k1, k2, k3⟩ := hk
  have out : (¬ (¬ x < 10 ∧ ¬ 16 < x)) → wp_X6_count_24 (fun r => G ∧ wp_X7_count x zc (nI n) (nI m) lf zk (fun r2 => F r r2)) x ki lf (nI m) (nI n) := by
    intro ho
    refine ⟨fun e => ⟨hG, ?_⟩, fun e => ⟨hG, ?_⟩, fun e => ⟨hG, ?_⟩, fun e => ⟨hG, ?_⟩, fun e => ⟨hG, ?_⟩⟩
    · exact e_X7_in (fun q => absurd q ho) (fun _ => ⟨fun _ => ⟨fun _ => hF _, fun z => absurd (e.symm.trans z) (by decide), fun z => absurd (e.symm.trans z) (by decide), fun z => absurd (e.symm.trans z) (by decide), fun z => absurd e z.1⟩, fun z => absurd rfl z⟩)
    · exact e_X7_in (fun q => absurd q ho) (fun _ => ⟨fun _ => ⟨fun z => absurd (e.symm.trans z) (by decide), fun _ => hF _, fun z => absurd (e.symm.trans z) (by decide), fun z => absurd (e.symm.trans z) (by decide), fun z => absurd e z.2.1⟩, fun z => absurd rfl z⟩)
    · exact e_X7_in (fun q => absurd q ho) (fun _ => ⟨fun _ => ⟨fun z => absurd (e.symm.trans z) (by decide), fun z => absurd (e.symm.trans z) (by decide), fun _ => hF _, fun z => absurd (e.symm.trans z) (by decide), fun z => absurd e z.2.2.1⟩, fun z => absurd rfl z⟩)
    · refine e_X7_in (fun q => absurd q ho) (fun _ => ⟨fun _ => ⟨fun z => absurd (e.symm.trans z) (by decide), fun z => absurd (e.symm.trans z) (by decide), fun z => absurd (e.symm.trans z) (by decide), fun _ => ?_, fun z => absurd e z.2.2.2⟩, fun z => absurd rfl z⟩)
      unfold wp_X7_count_81
      rw [show (0 : Int32).toNatClampNeg = 0 from by decide, show (1 : Int32).toNatClampNeg = 1 from by decide, k2, k3, k1]
      cases b0 <;> cases b1 <;> simp <;> exact hF _
    · exact e_X7_in (fun q => absurd q ho) (fun _ => ⟨fun _ => ⟨fun z => absurd z e.1, fun z => absurd z e.2.1, fun z => absurd z e.2.2.1, fun z => absurd z e.2.2.2, fun _ => hF _⟩, fun z => absurd rfl z⟩)
  refine ⟨fun c => out (fun q => q.1 c), fun c => ⟨fun d => out (fun q => q.2 (Int32.lt_of_lt_of_le (b := 17) (by decide) d)), fun d => ?_⟩⟩
  refine e_X2_ofKind (f := fun k => zc (5 * k)) hn (fun k hk => ?_) ⟨hG, ?_⟩
  · obtain ⟨a, ha, h1, h2, h3⟩ := hl k hk
    refine ⟨a, ha, h1, (h2 0 (by decide)).trans ?_⟩
    show zc (0 + 5 * k + 0) = zc (5 * k)
    rw [Nat.zero_add, Nat.add_zero]
  · refine e_X7_in (fun _ => ⟨fun z => absurd z (by decide), fun _ => e_X7_ofKind hn (hF _)⟩) (fun q => ?_)
    refine absurd ⟨c, fun z => d ?_⟩ q
    rw [Int32.le_iff_toInt_le]
    rw [Int32.lt_iff_toInt_lt] at z
    have e1 : (16 : Int32).toInt = 16 := by decide
    have e2 : (17 : Int32).toInt = 17 := by decide
    omega
theorem e_X2_copy {n : Nat} (hn : n ≤ 12) {row row9 : Nat → Option Nat} (hr : ∀ k, k < n → ∃ a, row9 k = some a ∧ pv.1 a) {Q : Int32 → (Nat → Option Nat) → Prop} (h : ∀ row', (∀ k, k < n → row' k = row9 k) → Q (nI n) row') : wp_X2_copy pv row (nI n) row9 Q := by
  refine ⟨fun l sz r => sz = nI n ∧ ∃ i, i ≤ n ∧ l = nI i ∧ ∀ k, k < i → r k = row9 k, fun l _ _ => 12 - l.toNatClampNeg, ⟨rfl, 0, Nat.zero_le _, nI_0.symm, fun k hk => absurd hk (Nat.not_lt_zero _)⟩, ?_⟩
  rintro l sz r ⟨rfl, i, hi, rfl, q⟩
  refine ⟨fun d => ?_, fun d => ?_⟩
  · have e : i = n := Nat.le_antisymm hi ((nI_leI (by omega) (by omega)).mp d)
    subst e
    exact h r q
  · have hlt : i < n := Nat.lt_of_not_le (fun q => d ((nI_leI (by omega) (by omega)).mpr q))
    obtain ⟨a, ha, hp⟩ := hr i hlt
    rw [nI_1, nI_clamp (n := i) (by omega)]
    refine ⟨vp_in_nI (by omega) (by decide), a, ha, hp, vp_in_nI (by omega) (by decide), ⟨rfl, i + 1, hlt, rfl, fun k hk => ?_⟩, mu_dec (by omega) (by decide)⟩
    by_cases e : k = i
    · subst e; rw [va_up_self]; exact ha.symm
    · rw [va_up_ne _ _ e]; exact q k (by omega)
/-- an image that is kept, of both sides: the reference's numbers stand from place b on -/
def RIm (CW : (Nat → Int32) → (Nat → Int32) → Prop) (pv : PV) (kept : Bool) (sz : Int32) (row : Nat → Option Nat) (zi : Nat → Int32) (b : Nat) : Prop := kept = true → ∃ n : Nat, n ≤ 12 ∧ sz = nI n ∧ zi (b + 60) = nI n ∧ RLi CW pv n row zi b
theorem e_X7_image {c n : Nat} (hc : c < 2) {zc zi zk : Nat → Int32} {Q : Int32 → (Nat → Int32) → (Nat → Int32) → Prop} (h : ∀ zi', (∀ m, m < 60 → zi' (61 * c + m) = zc m) → zi' (61 * c + 60) = nI n → (∀ m, (m < 61 * c ∨ 61 * c + 60 < m) → zi' m = zi m) → Q 1 zi' (upd zk c 1)) : wp_X7_image_14 Q (nI c) zc (nI n) 0 zi zk := by
  refine ⟨fun l z k => k = zk ∧ ∃ i, i ≤ 60 ∧ l = nI i ∧ (∀ m, m < i → z (61 * c + m) = zc m) ∧ (∀ m, (m < 61 * c ∨ 61 * c + i ≤ m) → z m = zi m), fun l _ _ => 60 - l.toNatClampNeg, ⟨rfl, 0, Nat.zero_le _, nI_0.symm, fun k hk => absurd hk (Nat.not_lt_zero _), fun _ _ => rfl⟩, ?_⟩
  rintro l z k ⟨rfl, i, hi, rfl, q1, q2⟩
  rw [show (61 : Int32) = nI 61 from rfl, pk_mul, show (60 : Int32) = nI 60 from rfl, nI_add, nI_add, nI_1, nI_clamp (n := 61 * c + i) (by omega), nI_clamp (n := 61 * c + 60) (by omega), nI_clamp (n := i) (by omega), nI_clamp (n := c) (by omega)]
  refine ⟨fun d => ⟨vp_in_nI (by omega) (by decide), vp_in_nI hc (by decide), ?_⟩, fun d => ⟨vp_in_nI ?_ (by decide), vp_in_nI ?_ (by decide), ⟨rfl, i + 1, ?_, rfl, fun m hm => ?_, fun m hm => ?_⟩, mu_dec ?_ (by decide)⟩⟩
  · have e : i = 60 := Nat.le_antisymm hi ((nI_leI (by omega) (by omega)).mp d)
    subst e
    refine h _ (fun m hm => ?_) ?_ (fun m hm => ?_)
    · rw [pk_un (by omega)]; exact q1 m hm
    · rw [pk_us]
    · rw [pk_un (by omega)]; exact q2 m (by omega)
  all_goals (have hlt : i < 60 := Nat.lt_of_not_le (fun q => d ((nI_leI (by omega) (by omega)).mpr q)))
  · exact hlt
  · omega
  · omega
  · by_cases e : m = i
    · subst e; rw [pk_us]
    · rw [pk_un (by omega)]; exact q1 m (by omega)
  · rw [pk_un (by omega)]; exact q2 m (by omega)
  · exact hlt
theorem e_X7_restore {c n : Nat} (hc : c < 2) {zc zi : Nat → Int32} {mn : Int32} {Q : Int32 → Int32 → (Nat → Int32) → Prop} (hz : zi (61 * c + 60) = nI n) (h : ∀ zc', (∀ m, m < 60 → zc' m = zi (61 * c + m)) → Q 1 (nI n) zc') : wp_X7_restore_26 Q (nI c) zi 0 zc mn := by
  refine ⟨fun l z k => ∃ i, i ≤ 60 ∧ l = nI i ∧ (∀ m, m < i → z m = zi (61 * c + m)), fun l _ _ => 60 - l.toNatClampNeg, ⟨0, Nat.zero_le _, nI_0.symm, fun k hk => absurd hk (Nat.not_lt_zero _)⟩, ?_⟩
  rintro l z k ⟨i, hi, rfl, q1⟩
  rw [show (61 : Int32) = nI 61 from rfl, pk_mul, show (60 : Int32) = nI 60 from rfl, nI_add, nI_add, nI_1, nI_clamp (n := 61 * c + i) (by omega), nI_clamp (n := 61 * c + 60) (by omega), nI_clamp (n := i) (by omega), hz]
  refine ⟨fun d => ⟨vp_in_nI (by omega) (by decide), ?_⟩, fun d => ⟨vp_in_nI ?_ (by decide), vp_in_nI ?_ (by decide), ⟨i + 1, ?_, rfl, fun m hm => ?_⟩, mu_dec ?_ (by decide)⟩⟩
  · have e : i = 60 := Nat.le_antisymm hi ((nI_leI (by omega) (by omega)).mp d)
    subst e
    exact h z q1
  all_goals (have hlt : i < 60 := Nat.lt_of_not_le (fun q => d ((nI_leI (by omega) (by omega)).mpr q)))
  · omega
  · exact hlt
  · omega
  · by_cases e : m = i
    · subst e; rw [pk_us]
    · rw [pk_un e]; exact q1 m (by omega)
  · exact hlt
end LISTS2
