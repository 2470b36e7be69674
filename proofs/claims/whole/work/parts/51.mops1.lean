/-! ===== mathematics: say, wipe, fault ===== -/
/-- THE TEXT of both sides -/
def RT (sz : Int32) (sg : Nat → Int32) (zs : Int32) (zt : Nat → Int32) : Prop := ∃ n : Nat, n ≤ 10 ∧ sz = nI n ∧ zs = nI n ∧ ∀ i, i < n → sg i = zt i
theorem op_say {x sz zs : Int32} {sg zt : Nat → Int32} (h : RT sz sg zs zt) {G : Prop} (hG : G) {F : Int32 → Int32 → (Nat → Int32) → Int32 → Int32 → (Nat → Int32) → Prop}
    (hF : ∀ r sz' sg' zs' zt', RT sz' sg' zs' zt' → F r sz' sg' r zs' zt') : wp_X6_say x sz sg (fun r a b => G ∧ wp_X7_say x zt zs (fun r2 c d => F r a b r2 c d)) := by
  obtain ⟨n, hn, rfl, rfl, ht⟩ := h
  have same : RT (nI n) sg (nI n) zt := ⟨n, hn, rfl, rfl, ht⟩
  refine ⟨fun c => ⟨hG, ?_⟩, fun c => ⟨fun d => ⟨fun f => ?_, fun f => ⟨hG, ?_⟩⟩, fun d => ⟨hG, ?_⟩⟩⟩
  · exact e_X7_in (fun a => absurd c a.1) (fun _ => ⟨fun _ => hF _ _ _ _ _ same, fun z => absurd rfl z⟩)
  · have hlt : n < 10 := (nI_ltI (b := 10) (by omega) (by decide)).mp f
    refine ⟨fun k => absurd ((nI_leI (a := 10) (by decide) (by omega)).mp k) (by omega), fun k => ⟨vp_in_nI hlt (by decide), hG, ?_⟩⟩
    refine e_X7_in (fun _ => ⟨fun z => absurd z (by decide), fun _ => ⟨fun z => ?_, fun _ => ⟨vp_in_nI hlt (by decide), ?_⟩⟩⟩) (fun a => absurd ⟨c, Int32.not_lt.mpr d⟩ a)
    · exact absurd ((nI_eq (b := 10) (by omega) (by decide)).mp z) (by omega)
    · refine hF _ _ _ _ _ ⟨n + 1, hlt, nI_1 n, nI_1 n, fun i hi => ?_⟩
      rw [nI_clamp (by omega)]
      unfold upd
      by_cases e : i = n
      · rw [if_pos e, if_pos e]
      · rw [if_neg e, if_neg e]; exact ht i (by omega)
  · have hge : n = 10 := by
      have h9 : ¬ n < 10 := fun q => f ((nI_ltI (a := n) (b := 10) (by omega) (by decide)).mpr q)
      omega
    subst hge
    refine e_X7_in (fun _ => ⟨fun z => absurd z (by decide), fun _ => ⟨fun _ => hF _ _ _ _ _ same, fun z => absurd rfl z⟩⟩) (fun a => absurd ⟨c, Int32.not_lt.mpr d⟩ a)
  · exact e_X7_in (fun a => absurd (Int32.not_lt.mp a.2) d) (fun _ => ⟨fun _ => hF _ _ _ _ _ same, fun z => absurd rfl z⟩)
theorem op_wipe {sz zs : Int32} {sg zt : Nat → Int32} (h : RT sz sg zs zt) {F : Int32 → Int32 → Int32 → Int32 → Prop}
    (hF : ∀ r sz' zs', RT sz' sg zs' zt → F r sz' r zs') : wp_X6_wipe sz (fun r a => wp_X7_wipe zs (fun r2 c => F r a r2 c)) := by
  obtain ⟨n, hn, rfl, rfl, ht⟩ := h
  exact hF _ _ _ ⟨0, by omega, nI_0.symm, nI_0.symm, fun i hi => absurd hi (Nat.not_lt_zero _)⟩
theorem op_fault {sz zs : Int32} {sg zt : Nat → Int32} (h : RT sz sg zs zt) {F : Int32 → Int32 → Prop}
    (hF : ∀ r, F r r) : wp_X6_fault sz sg (fun r => wp_X7_fault zt zs (fun r2 => F r r2)) := by
  obtain ⟨n, hn, rfl, rfl, ht⟩ := h
  refine e_X5_faultPlace hn (fun v hv => e_X7_faultNow hn (fun v' hv' => ?_))
  have e := FP_uniq hn ht hv hv'
  subst e
  exact hF _
