/-! ===== mathematics: image, restore ===== -/
section IMGS
variable {CW : (Nat → Int32) → (Nat → Int32) → Prop} {pv : PV}
theorem RLi.mem {n b : Nat} {row : Nat → Option Nat} {zc : Nat → Int32} (h : RLi CW pv n row zc b) : ∀ k, k < n → ∃ a, row k = some a ∧ pv.1 a := fun k hk => by
  obtain ⟨a, ha, h1⟩ := h k hk
  exact ⟨a, ha, h1.1⟩
theorem op_image {x sz many ki s1 s2 : Int32} {row r1 r2 : Nat → Option Nat} {zc zi zk : Nat → Int32} {b0 b1 : Bool} (h : RC CW pv sz row many zc) (hk : RK ki zk b0 b1) (h1 : RIm CW pv b0 s1 r1 zi 0) (h2 : RIm CW pv b1 s2 r2 zi 61) {G : Prop} (hG : G)
    {F : Int32 → Int32 → Int32 → (Nat → Option Nat) → Int32 → (Nat → Option Nat) → Int32 → (Nat → Int32) → (Nat → Int32) → Prop}
    (hF : ∀ r ki' s1' r1' s2' r2' zi' zk' b0' b1', RK ki' zk' b0' b1' → RIm CW pv b0' s1' r1' zi' 0 → RIm CW pv b1' s2' r2' zi' 61 → F r ki' s1' r1' s2' r2' r zi' zk') :
    wp_X6_image x pv ki sz row s1 r1 s2 r2 (fun r a b c d e => G ∧ wp_X7_image x zc many zi zk (fun r2 f g => F r a b c d e r2 f g)) := by
  obtain ⟨n, hn, rfl, rfl, hl⟩ := h
  refine ⟨fun c => ⟨hG, e_X7_in (fun q => absurd c q.1) (fun _ => ⟨fun _ => hF _ _ _ _ _ _ _ _ _ _ hk h1 h2, fun z => absurd rfl z⟩)⟩, fun c => ⟨fun d => ?_, fun d => ⟨hG, e_X7_in (fun q => ?_) (fun _ => ⟨fun _ => hF _ _ _ _ _ _ _ _ _ _ hk h1 h2, fun z => absurd rfl z⟩)⟩⟩⟩
  · obtain ⟨j, hj, rfl⟩ := nI_of c
    have hlt : j < 2 := (nI_ltI (b := 2) (by omega) (by decide)).mp d
    have inn : ¬ (nI j < 0) ∧ ¬ (1 < nI j) := (in_lit (m := 1) (by decide)).mpr ⟨j, hlt, rfl⟩
    refine ⟨vp_in_nI hlt (by decide), fun e => ?_, fun e => ?_⟩
    · have e0 : j = 0 := (nI_eq (b := 0) (by omega) (by decide)).mp e
      subst e0
      refine e_X2_copy hn hl.mem (fun row' hr => ⟨hG, e_X7_in (fun _ => ⟨fun z => absurd z (by decide), fun _ => ?_⟩) (fun q => absurd inn q)⟩)
      refine e_X7_image (c := 0) (by decide) (fun zi' z1 z2 z3 => ?_)
      refine hF _ _ _ _ _ _ _ _ true b1 ⟨?_, rfl, hk.2.2⟩ (fun _ => ⟨n, hn, rfl, ?_, hl.congr hr (fun m hm => ?_)⟩) (fun hb => ?_)
      · rw [hk.1]; cases b0 <;> cases b1 <;> decide
      · exact z2
      · have := z1 m (by omega)
        rw [Nat.mul_zero] at this
        rw [this, Nat.zero_add]
      · obtain ⟨n2, a1, a2, a3, a4⟩ := h2 hb
        refine ⟨n2, a1, a2, (z3 _ (by omega)).trans a3, a4.congr (fun _ _ => rfl) (fun m hm => z3 _ (by omega))⟩
    · have e1 : j = 1 := by
        have : j ≠ 0 := fun q => e (by rw [q]; rfl)
        omega
      subst e1
      refine e_X2_copy hn hl.mem (fun row' hr => ⟨hG, e_X7_in (fun _ => ⟨fun z => absurd z (by decide), fun _ => ?_⟩) (fun q => absurd inn q)⟩)
      refine e_X7_image (c := 1) (by decide) (fun zi' z1 z2 z3 => ?_)
      refine hF _ _ _ _ _ _ _ _ b0 true ⟨?_, hk.2.1, rfl⟩ (fun hb => ?_) (fun _ => ⟨n, hn, rfl, z2, hl.congr hr (fun m hm => ?_)⟩)
      · rw [hk.1]; cases b0 <;> cases b1 <;> decide
      · obtain ⟨n2, a1, a2, a3, a4⟩ := h1 hb
        refine ⟨n2, a1, a2, (z3 _ (by omega)).trans a3, a4.congr (fun _ _ => rfl) (fun m hm => z3 _ (by omega))⟩
      · have := z1 m (by omega)
        rw [Nat.mul_one] at this
        rw [this, Nat.zero_add]
  · obtain ⟨j, hj, rfl⟩ := (in_lit (m := 1) (by decide)).mp q
    exact absurd ((nI_ltI (b := 2) (by omega) (by decide)).mpr hj) d
theorem op_restore {x sz many ki s1 s2 k1 k2 k3 k4 k5 : Int32} {row r1 r2 : Nat → Option Nat} {zc zi zk : Nat → Int32} {b0 b1 : Bool} (h : RC CW pv sz row many zc) (hk : RK ki zk b0 b1) (h1 : RIm CW pv b0 s1 r1 zi 0) (h2 : RIm CW pv b1 s2 r2 zi 61) {G : Prop} (hG : G)
    {F : Int32 → Int32 → (Nat → Option Nat) → Int32 → Int32 → Int32 → Int32 → Int32 → Int32 → Int32 → (Nat → Int32) → Prop}
    (hF0 : ∀ r, F r sz row k1 k2 k3 k4 k5 r many zc) (hF : ∀ r sz' row' many' zc', RC CW pv sz' row' many' zc' → F r sz' row' (-6) (-6) (-6) (-6) 0 r many' zc') :
    wp_X6_restore x pv ki sz row s1 r1 s2 r2 k1 k2 k3 k4 k5 (fun r a b c1 c2 c3 c4 c5 => G ∧ wp_X7_restore x zc many zi zk (fun r2 d e => F r a b c1 c2 c3 c4 c5 r2 d e)) := by
  obtain ⟨n, hn, rfl, rfl, hl⟩ := h
  refine ⟨fun c => ⟨hG, e_X7_in (fun q => absurd c q.1) (fun _ => ⟨fun _ => hF0 _, fun z => absurd rfl z⟩)⟩, fun c => ⟨fun d => ?_, fun d => ⟨hG, e_X7_in (fun q => ?_) (fun _ => ⟨fun _ => hF0 _, fun z => absurd rfl z⟩)⟩⟩⟩
  · obtain ⟨j, hj, rfl⟩ := nI_of c
    have hlt : j < 2 := (nI_ltI (b := 2) (by omega) (by decide)).mp d
    have inn : ¬ (nI j < 0) ∧ ¬ (1 < nI j) := (in_lit (m := 1) (by decide)).mpr ⟨j, hlt, rfl⟩
    rcases (show j = 0 ∨ j = 1 by omega) with e | e
    · subst e
      have hb : (((ki >>> (nI 0 &&& 31)) &&& 1) = 0) ↔ b0 = false := by
        rw [hk.1]; cases b0 <;> cases b1 <;> decide
      have hz : zk (nI 0).toNatClampNeg = 0 ↔ b0 = false := by
        rw [show (nI 0).toNatClampNeg = 0 from by decide, hk.2.1]; cases b0 <;> decide
      refine ⟨fun e => ⟨fun _ => ⟨hG, ?_⟩, fun z => absurd rfl z⟩, fun e => ⟨fun z => absurd z (by decide), fun _ => ⟨vp_in_nI hlt (by decide), fun _ => ?_, fun z => absurd rfl z⟩⟩⟩
      · exact e_X7_in (fun _ => ⟨fun z => absurd z (by decide), fun _ => ⟨vp_in_nI hlt (by decide), fun _ => hF0 _, fun z => absurd (hz.mpr (hb.mp e)) z⟩⟩) (fun q => absurd inn q)
      · have hb0 : b0 = true := by cases b0 <;> simp_all
        obtain ⟨n2, a1, rfl, a3, a4⟩ := h1 hb0
        refine e_X2_copy a1 a4.mem (fun row' hr => ⟨hG, e_X7_in (fun _ => ⟨fun z => absurd z (by decide), fun _ => ⟨vp_in_nI hlt (by decide), fun z => absurd (hb.mpr (hz.mp z)) e, fun _ => ?_⟩⟩) (fun q => absurd inn q)⟩)
        refine e_X7_restore (c := 0) (n := n2) (by decide) a3 (fun zc' z1 => hF _ _ _ _ _ ⟨n2, a1, rfl, rfl, a4.congr hr (fun m hm => ?_)⟩)
        rw [Nat.zero_add, z1 m (by omega)]
        congr 1
        omega
    · subst e
      have hb : (((ki >>> (nI 1 &&& 31)) &&& 1) = 0) ↔ b1 = false := by
        rw [hk.1]; cases b0 <;> cases b1 <;> decide
      have hz : zk (nI 1).toNatClampNeg = 0 ↔ b1 = false := by
        rw [show (nI 1).toNatClampNeg = 1 from by decide, hk.2.2]; cases b1 <;> decide
      refine ⟨fun e => ⟨fun _ => ⟨hG, ?_⟩, fun z => absurd rfl z⟩, fun e => ⟨fun z => absurd z (by decide), fun _ => ⟨vp_in_nI hlt (by decide), fun z => absurd z (by decide), fun _ => ?_⟩⟩⟩
      · exact e_X7_in (fun _ => ⟨fun z => absurd z (by decide), fun _ => ⟨vp_in_nI hlt (by decide), fun _ => hF0 _, fun z => absurd (hz.mpr (hb.mp e)) z⟩⟩) (fun q => absurd inn q)
      · have hb1 : b1 = true := by cases b1 <;> simp_all
        obtain ⟨n2, a1, rfl, a3, a4⟩ := h2 hb1
        refine e_X2_copy a1 a4.mem (fun row' hr => ⟨hG, e_X7_in (fun _ => ⟨fun z => absurd z (by decide), fun _ => ⟨vp_in_nI hlt (by decide), fun z => absurd (hb.mpr (hz.mp z)) e, fun _ => ?_⟩⟩) (fun q => absurd inn q)⟩)
        refine e_X7_restore (c := 1) (n := n2) (by decide) a3 (fun zc' z1 => hF _ _ _ _ _ ⟨n2, a1, rfl, rfl, a4.congr hr (fun m hm => ?_)⟩)
        rw [Nat.zero_add, z1 m (by omega)]
  · obtain ⟨j, hj, rfl⟩ := (in_lit (m := 1) (by decide)).mp q
    exact absurd ((nI_ltI (b := 2) (by omega) (by decide)).mpr hj) d
end IMGS
