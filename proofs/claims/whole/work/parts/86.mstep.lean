/-! ===== mathematics: step, left, end ===== -/
section OPST
variable {pv : PV} {n : Nat} {row : Nat → Option Nat} {zc zl zs pl st : Nat → Int32} {KD : Nat → Nat} {IT : Nat → Nat → Nat} {PP' : Nat → Nat} {sz sv zm : Int32}
theorem ge0 {x : Int32} (h1 : ¬ x < -1) (h2 : ¬ x = -1) : ¬ x < 0 := by
  intro q
  rw [Int32.lt_iff_toInt_lt] at h1 q
  have e1 : (-1 : Int32).toInt = -1 := by decide
  have e0 : (0 : Int32).toInt = 0 := by decide
  exact h2 (Int32.toInt_inj.mp (by omega))
theorem op_step {x y : Int32} (hn : n ≤ 12) (hck : CK pv n row zc KD IT PP') (hv : SVr n KD IT PP' sz sv pl st) {G1 G2 : Prop} (hG1 : G1) (hG2 : G2)
    {F : Int32 → Int32 → Int32 → (Nat → Int32) → (Nat → Int32) → Int32 → Int32 → (Nat → Int32) → (Nat → Int32) → Prop}
    (hF : ∀ r a b c d e f g, SVr n KD IT PP' a b c d → F r a b c d r e f g) :
    wp_X6_step x y pv (nI n) row sz sv pl st (fun r a b c d => G1 ∧ (G2 ∧ wp_X7_step x y zc (nI n) zl zs zm (fun r2 e f g => F r a b c d r2 e f g))) := by
  refine ⟨fun c => ⟨hG1, hG2, fun _ => hF _ _ _ _ _ _ _ _ hv, fun z => absurd c z⟩, fun c => ⟨fun d => ⟨hG1, hG2, fun z => absurd z c, fun _ => ?_⟩, fun d => ⟨fun f => ?_, fun f => ⟨hG1, hG2, fun z => absurd z c, fun _ => ?_⟩⟩⟩⟩
  · exact e_X7_in (fun q => absurd d q.1) (fun _ => ⟨fun _ => hF _ _ _ _ _ _ _ _ hv, fun z => absurd rfl z⟩)
  · refine e_X4_solve hn hck hv (fun t S pl' st' hFi hR => ?_)
    have hv' : SVr n KD IT PP' (nI t) 1 pl' st' := Or.inr ⟨rfl, t, S, rfl, hFi, hR⟩
    have ht := hFi.1
    have hin : ¬ y < 0 ∧ ¬ 3 < y := ⟨d, Int32.not_lt.mpr f⟩
    obtain ⟨cy, hcy, ey⟩ := (in_lit (m := 3) (by decide)).mp hin
    have ref : ∀ (Q : Int32 → Int32 → (Nat → Int32) → (Nat → Int32) → Prop), (∀ lf' lg, (∀ j, j < 4 * t → lg j = st' j) → (x = -1 → Q (nI t) (nI t) lf' lg) ∧ (¬ x = -1 → (nI t ≤ x → Q (-6) (nI t) lf' lg) ∧ (¬ nI t ≤ x → vp_in ((4 * x) + y) 256 ∧ Q (lg ((4 * x) + y).toNatClampNeg) (nI t) lf' lg))) → wp_X7_step x y zc (nI n) zl zs zm Q := by
      intro Q hQ
      refine ⟨fun z => absurd z c, fun _ => e_X7_in (fun _ => ⟨fun z => absurd z (by decide), fun _ => ?_⟩) (fun q => absurd hin q)⟩
      refine e_X7_solve (most := 64) hn hck.1 (by decide) (fun t2 S2 lf' lg hFi2 hR2 => ?_)
      have et := hFi.uniq hFi2
      subst et
      exact hQ lf' lg (fun j hj => ((hFi2.2.1.uniq hFi.2.1).2 j hj))
    refine ⟨fun e => ⟨hG1, hG2, ref _ (fun lf' lg hl => ⟨fun _ => hF _ _ _ _ _ _ _ _ hv', fun z => absurd e z⟩)⟩, fun e => ⟨fun g => ⟨hG1, hG2, ref _ (fun lf' lg hl => ⟨fun z => absurd z e, fun _ => ⟨fun _ => hF _ _ _ _ _ _ _ _ hv', fun z => absurd g z⟩⟩)⟩, fun g => ?_⟩⟩
    obtain ⟨k, hk, rfl⟩ := nI_of (ge0 c e)
    subst ey
    have hkt : k < t := Nat.lt_of_not_le (fun q => g ((nI_leI (by omega) hk).mpr q))
    have ea : (4 : Int32) * nI k + nI cy = nI (4 * k + cy) := by rw [show (4 : Int32) = nI 4 from rfl, pk_mul, nI_add]
    rw [ea]
    refine ⟨vp_in_nI (by omega) (by decide), hG1, hG2, ref _ (fun lf' lg hl => ⟨fun z => absurd z e, fun _ => ⟨fun z => absurd z g, fun _ => ?_⟩⟩)⟩
    rw [ea, nI_clamp (n := 4 * k + cy) (by omega), hl _ (by omega)]
    exact ⟨vp_in_nI (by omega) (by decide), hF _ _ _ _ _ _ _ _ hv'⟩
  · exact e_X7_in (fun q => absurd (Int32.not_lt.mp q.2) f) (fun _ => ⟨fun _ => hF _ _ _ _ _ _ _ _ hv, fun z => absurd rfl z⟩)
theorem op_left {x y : Int32} (hn : n ≤ 12) (hck : CK pv n row zc KD IT PP') (hv : SVr n KD IT PP' sz sv pl st) {G1 G2 : Prop} (hG1 : G1) (hG2 : G2)
    {F : Int32 → Int32 → Int32 → (Nat → Int32) → (Nat → Int32) → Int32 → Int32 → (Nat → Int32) → (Nat → Int32) → Prop}
    (hF : ∀ r a b c d e f g, SVr n KD IT PP' a b c d → F r a b c d r e f g) :
    wp_X6_left x y pv (nI n) row sz sv pl st (fun r a b c d => G1 ∧ (G2 ∧ wp_X7_left x y zc (nI n) zl zs zm (fun r2 e f g => F r a b c d r2 e f g))) := by
  refine e_X6_isItem (fun item hit ex => ⟨fun z => absurd z (by decide), fun _ => ⟨fun c => ?_, fun c => ⟨hG1, hG2, ?_⟩⟩⟩) (fun q => ⟨fun _ => ⟨hG1, hG2, ?_⟩, fun z => absurd rfl z⟩)
  · subst ex
    obtain ⟨k, hk, rfl⟩ := nI_of (Int32.not_lt.mpr c)
    refine e_X4_solve hn hck hv (fun t S pl' st' hFi hR => ?_)
    have hv' : SVr n KD IT PP' (nI t) 1 pl' st' := Or.inr ⟨rfl, t, S, rfl, hFi, hR⟩
    have ht := hFi.1
    refine e_X4_leftBehind ht hFi.2.1 hit hk (fun e Se h1 h2 h3 hTe => ⟨hG1, hG2, ?_⟩)
    have ref : ∀ most, most ≤ 64 → (most = k ∨ (most = 64 ∧ 64 ≤ k)) → ∀ (Q : Int32 → Int32 → (Nat → Int32) → (Nat → Int32) → Prop), (∀ a b c, Q (nI (2 * Se item)) a b c) → wp_X7_left_27 Q (nI item) zc (nI n) (nI most) zl zs zm := by
      intro most hm hmk Q hQ
      refine e_X7_solve hn hck.1 hm (fun t2 S2 lf' lg hFi2 hR2 => ⟨vp_in_nI hit (by decide), ?_⟩)
      have et : t2 = e := by
        obtain ⟨a1, a2, a3⟩ := hFi
        obtain ⟨b1, b2, b3⟩ := hFi2
        rcases Nat.lt_trichotomy t2 e with q | q | q
        · exact absurd (b3.resolve_left (by omega)) (b2.go hTe q)
        · exact q
        · have et : e = t := h3.resolve_right (by omega)
          subst et
          exact absurd (a3.resolve_left (by omega)) (a2.go b2 q)
      subst et
      have es := (hFi2.2.1.uniq hTe).1
      subst es
      rw [nI_clamp (n := item) (by omega), (hR2 item hit).1]
      exact hQ _ _ _
    refine e_X7_isItem (fun _ _ _ => ⟨fun z => absurd z (by decide), fun _ => ⟨fun _ => ⟨fun d => ?_, fun d => ?_⟩, fun z => absurd c z⟩⟩) (fun q => absurd ⟨item, hit, rfl⟩ q)
    · have d' : 64 ≤ k := (nI_leI (a := 64) (by decide) hk).mp d
      exact ref 64 (by decide) (Or.inr ⟨rfl, d'⟩) _ (fun _ _ _ => hF _ _ _ _ _ _ _ _ hv')
    · have d' : ¬ 64 ≤ k := fun q => d ((nI_leI (a := 64) (by decide) hk).mpr q)
      exact ref k (by omega) (Or.inl rfl) _ (fun _ _ _ => hF _ _ _ _ _ _ _ _ hv')
  · subst ex
    exact e_X7_isItem (fun _ _ _ => ⟨fun z => absurd z (by decide), fun _ => ⟨fun z => absurd z c, fun _ => hF _ _ _ _ _ _ _ _ hv⟩⟩) (fun q => absurd ⟨item, hit, rfl⟩ q)
  · exact e_X7_isItem (fun j hj e => absurd ⟨j, hj, e⟩ q) (fun _ => ⟨fun _ => hF _ _ _ _ _ _ _ _ hv, fun z => absurd rfl z⟩)
theorem op_end (hn : n ≤ 12) (hck : CK pv n row zc KD IT PP') (hv : SVr n KD IT PP' sz sv pl st)
    {F : Int32 → Int32 → Int32 → (Nat → Int32) → (Nat → Int32) → Int32 → Int32 → (Nat → Int32) → (Nat → Int32) → Prop}
    (hF : ∀ r a b c d e f g, SVr n KD IT PP' a b c d → F r a b c d r e f g) :
    wp_X6_end pv (nI n) row sz sv pl st (fun r a b c d => wp_X7_end zc (nI n) zl zs (fun r2 e f g => F r a b c d r2 e f g)) := by
  refine e_X4_solve hn hck hv (fun t S pl' st' hFi hR => ?_)
  have hv' : SVr n KD IT PP' (nI t) 1 pl' st' := Or.inr ⟨rfl, t, S, rfl, hFi, hR⟩
  refine e_X4_howItEnds hR (fun r hr => ?_)
  refine e_X7_solve (most := 64) hn hck.1 (by decide) (fun t2 S2 lf' lg hFi2 hR2 => ?_)
  have et := hFi.uniq hFi2
  subst et
  have es := (hFi2.2.1.uniq hFi.2.1).1
  subst es
  refine e_X7_end10 hR2 (fun r2 hr2 => ?_)
  have er := hr.uniq hr2
  subst er
  exact hF _ _ _ _ _ _ _ _ hv'
end OPST
