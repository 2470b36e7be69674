/-! ===== what the Statement gives at the law's start ===== -/
theorem tab_of {s : State} {b : Nat} {C n : String} {N : Nat} {f : Nat → Int32} (hN : N < 2 ^ 31) (hgv : (Jvm.Cond.and given_1 narrow_1).before #[Value.ref b] s = true) (hl : (Cond.laysStatic C n "[I").before #[Value.ref b] s = true) (hini : (Cond.initialized C).before #[Value.ref b] s = true)
    (h1 : Cond.arrayOf (.static C n "[I") .int ∈ flatC (Jvm.Cond.and given_1 narrow_1)) (h2 : Cond.eq (.length (.static C n "[I")) (.int (Int32.ofNat N)) ∈ flatC (Jvm.Cond.and given_1 narrow_1)) (h3 : ∀ j, j < N → Cond.eq (.elem (.static C n "[I") (.int (Int32.ofNat j))) (.int (f j)) ∈ flatC (Jvm.Cond.and given_1 narrow_1)) :
    ∃ t : Nat, roTab C n t N f (fun q : Nat => s.heap.size ≤ q) s s.heap := by
  have hs := flat_of_before _ hgv
  obtain ⟨t, ht, hT⟩ := va_Tof (args := #[Value.ref b]) (s := s) (tm := .static C n "[I") (ty := .int) (N := N) (f := fun j => .int (f j)) (A := fun q : Nat => s.heap.size ≤ q) hN (hs _ h1) (va_eqt (hs _ h2)) (fun j hj => va_eqt (hs _ (h3 j hj))) (fun a h => Nat.not_le.mpr h)
  exact ⟨t, va_Zof hl hini ht (fun a h => Nat.not_le.mpr h), hT⟩
set_option maxRecDepth 100000 in
theorem tabm_COL1 : Cond.arrayOf (.static "GridRiddles$Clue" "COLUMNS" "[I") .int ∈ flatC (Jvm.Cond.and given_1 narrow_1) := by decide +kernel
set_option maxRecDepth 100000 in
theorem tabm_COL2 : Cond.eq (.length (.static "GridRiddles$Clue" "COLUMNS" "[I")) (.int (Int32.ofNat 96)) ∈ flatC (Jvm.Cond.and given_1 narrow_1) := by decide +kernel
set_option maxRecDepth 100000 in
theorem tabm_COL3 : ∀ j, j < 96 → Cond.eq (.elem (.static "GridRiddles$Clue" "COLUMNS" "[I") (.int (Int32.ofNat j))) (.int (tCOL j)) ∈ flatC (Jvm.Cond.and given_1 narrow_1) := by decide +kernel
set_option maxRecDepth 100000 in
theorem tabm_OW1 : Cond.arrayOf (.static "GridRiddles$Clue" "ORDERS_WITH" "[I") .int ∈ flatC (Jvm.Cond.and given_1 narrow_1) := by decide +kernel
set_option maxRecDepth 100000 in
theorem tabm_OW2 : Cond.eq (.length (.static "GridRiddles$Clue" "ORDERS_WITH" "[I")) (.int (Int32.ofNat 16)) ∈ flatC (Jvm.Cond.and given_1 narrow_1) := by decide +kernel
set_option maxRecDepth 100000 in
theorem tabm_OW3 : ∀ j, j < 16 → Cond.eq (.elem (.static "GridRiddles$Clue" "ORDERS_WITH" "[I") (.int (Int32.ofNat j))) (.int (tOW j)) ∈ flatC (Jvm.Cond.and given_1 narrow_1) := by decide +kernel
set_option maxRecDepth 100000 in
theorem tabm_PA1 : Cond.arrayOf (.static "GridRiddles$Grids" "PAIR" "[I") .int ∈ flatC (Jvm.Cond.and given_1 narrow_1) := by decide +kernel
set_option maxRecDepth 100000 in
theorem tabm_PA2 : Cond.eq (.length (.static "GridRiddles$Grids" "PAIR" "[I")) (.int (Int32.ofNat 12)) ∈ flatC (Jvm.Cond.and given_1 narrow_1) := by decide +kernel
set_option maxRecDepth 100000 in
theorem tabm_PA3 : ∀ j, j < 12 → Cond.eq (.elem (.static "GridRiddles$Grids" "PAIR" "[I") (.int (Int32.ofNat j))) (.int (tPAIR j)) ∈ flatC (Jvm.Cond.and given_1 narrow_1) := by decide +kernel
set_option maxRecDepth 100000 in
set_option maxHeartbeats 4000000 in
theorem law_tabs {s : State} {b : Nat} (hts : ∀ w ∈ lw_tbl, w.before #[Value.ref b] s = true) (hgv : (Jvm.Cond.and given_1 narrow_1).before #[Value.ref b] s = true) : ∃ tb : TB, roL tb (fun q : Nat => s.heap.size ≤ q) s s.heap := by
  obtain ⟨t1, h1⟩ := tab_of (f := tCOL) (by decide) hgv (hts (.laysStatic "GridRiddles$Clue" "COLUMNS" "[I") (by decide +kernel)) (hts (.initialized "GridRiddles$Clue") (by decide +kernel)) tabm_COL1 tabm_COL2 tabm_COL3
  obtain ⟨t2, h2⟩ := tab_of (f := tOW) (by decide) hgv (hts (.laysStatic "GridRiddles$Clue" "ORDERS_WITH" "[I") (by decide +kernel)) (hts (.initialized "GridRiddles$Clue") (by decide +kernel)) tabm_OW1 tabm_OW2 tabm_OW3
  obtain ⟨t3, h3⟩ := tab_of (f := tPAIR) (by decide) hgv (hts (.laysStatic "GridRiddles$Grids" "PAIR" "[I") (by decide +kernel)) (hts (.initialized "GridRiddles$Grids") (by decide +kernel)) tabm_PA1 tabm_PA2 tabm_PA3
  refine ⟨(t1, t2, t3), h1, h2, h3, ?_⟩
  exact ⟨va_Nw.of rfl (hts (.methodLinkNest RX6 9 yX5_init RX6) (by decide +kernel)), va_Nw.of rfl (hts (.methodLinkNest RX6 18 yX2_init RX6) (by decide +kernel)), va_Nw.of rfl (hts (.methodLinkNest RX6 29 yX0_init RX6) (by decide +kernel)), va_Nw.of rfl (hts (.methodLinkNest RX0 11 yX3_init RX6) (by decide +kernel)), va_Nw.of rfl (hts (.methodLinkNest RX3 22 yX2_init RX6) (by decide +kernel)), va_Nw.of rfl (hts (.methodLinkNest RX6 36 yX4_init RX6) (by decide +kernel)), va_Nw.of rfl (hts (.methodLinkNest RX3 48 yX6_isIn RX6) (by decide +kernel)), va_Nw.of rfl (hts (.methodLinkNest RX4 98 yX6_isIn RX6) (by decide +kernel)), va_AO.of (hts (.arrayOver (.object "GridRiddles$Clue")) (by decide +kernel)), va_AO.of (hts (.arrayOver (.object "GridRiddles$Clues")) (by decide +kernel))⟩
set_option maxRecDepth 100000 in
set_option maxHeartbeats 4000000 in
theorem law_known {s : State} {b : Nat} (hts : ∀ w ∈ lw_tbl, w.before #[Value.ref b] s = true) : ∃ g : GG, KK g s := by
  obtain ⟨c0, i0, k0⟩ := u_known (C := RX0) (T := TX0) (N := 6) (n := 6) hts inX0 (hts (.instantiable RX0 6) (by decide +kernel))
  obtain ⟨c1, i1, k1⟩ := u_known (C := RX1) (T := TX1) (N := 9) (n := 9) hts inX1 (hts (.instantiable RX1 9) (by decide +kernel))
  obtain ⟨c2, i2, k2⟩ := u_known (C := RX2) (T := TX2) (N := 2) (n := 2) hts inX2 (hts (.instantiable RX2 2) (by decide +kernel))
  obtain ⟨c3, i3, k3⟩ := u_known (C := RX3) (T := TX3) (N := 9) (n := 9) hts inX3 (hts (.instantiable RX3 9) (by decide +kernel))
  obtain ⟨c4, i4, k4⟩ := u_known (C := RX4) (T := TX4) (N := 4) (n := 4) hts inX4 (hts (.instantiable RX4 4) (by decide +kernel))
  obtain ⟨c5, i5, k5⟩ := u_known (C := RX5) (T := TX5) (N := 2) (n := 2) hts inX5 (hts (.instantiable RX5 2) (by decide +kernel))
  obtain ⟨c6, i6, k6⟩ := u_known (C := RX6) (T := TX6) (N := 7) (n := 7) hts inX6 (hts (.instantiable RX6 7) (by decide +kernel))
  obtain ⟨c7, i7, k7⟩ := u_known (C := RX7) (T := TX7) (N := 15) (n := 15) hts inX7 (hts (.instantiable RX7 15) (by decide +kernel))
  obtain ⟨aI, kI, cI, f1, f2, f3⟩ := Cond.arrayClass_spec (hts (.arrayClass .int) (by decide +kernel))
  obtain ⟨aZ, kZ, cZ, z1, z2, z3⟩ := Cond.arrayClass_spec (hts (.arrayClass .boolean) (by decide +kernel))
  obtain ⟨cC, aC, kC, o1, o2, o3, o4, o5⟩ := Cond.arrayOver_spec (hts (.arrayOver (.object "GridRiddles$Clue")) (by decide +kernel))
  obtain ⟨cS, aS, kS, p1, p2, p3, p4, p5⟩ := Cond.arrayOver_spec (hts (.arrayOver (.object "GridRiddles$Clues")) (by decide +kernel))
  refine ⟨((fun k => match k with | 0 => c0 | 1 => c1 | 2 => c2 | 3 => c3 | 4 => c4 | 5 => c5 | 6 => c6 | _ => c7, fun k => match k with | 0 => i0 | 1 => i1 | 2 => i2 | 3 => i3 | 4 => i4 | 5 => i5 | 6 => i6 | _ => i7), aI, aZ, aC, aS), ?_, ?_⟩
  · intro k q hq
    match k, hq with
    | 0, hq => cases hq; exact k0
    | 1, hq => cases hq; exact k1
    | 2, hq => cases hq; exact k2
    | 3, hq => cases hq; exact k3
    | 4, hq => cases hq; exact k4
    | 5, hq => cases hq; exact k5
    | 6, hq => cases hq; exact k6
    | 7, hq => cases hq; exact k7
    | k + 8, hq => simp [vwCl] at hq
  · intro k q hq
    match k, hq with
    | 0, hq => cases hq; exact ⟨fun n z => ⟨fun k h => (by cases h), kI, f2, cI, f3⟩, f1⟩
    | 1, hq => cases hq; exact ⟨fun n z => ⟨fun k h => (by cases h), kZ, z2, cZ, z3⟩, z1⟩
    | 2, hq => cases hq; exact ⟨fun n z => ⟨fun k h => (by cases h), kC, o3, cC, o4⟩, kC, cC, o3, o4, o1, o5⟩
    | 3, hq => cases hq; exact ⟨fun n z => ⟨fun k h => (by cases h), kS, p3, cS, p4⟩, kS, cS, p3, p4, p1, p5⟩
    | k + 4, hq => simp [tyL] at hq
/-- THE LAW, from its entry, out of its predicate -/
theorem start_of_wp {p : Program} {e : Env} {s : State} {m : MethodId} {below : List Frame} {meth : Method} {c : Code} (l : Launch) {b L : Nat} {xs : Nat → Int32} (C0 : lw_At p s m meth c b L xs) (hw : wp_L L xs) : W p l e room_1 s m #[Value.ref b] below meth c s.heap [] 0 0 (lw_Z below #[Value.ref b] s) (entryFrame m ([Value.ref b] : List Value).toArray 4) := by
  obtain ⟨g, hK⟩ := law_known C0.2.2.2.2.2.1
  obtain ⟨tb, hL⟩ := law_tabs C0.2.2.2.2.2.1 C0.2.2.2.2.2.2.2.2.2
  exact law_walk l C0 g tb hK hL hw
