/-! ===== the pool of clues and the tables: what a method may read, and nobody writes; making; calls that make ===== -/
/-- the clues made so far: which addresses; the eight numbers of each; where its row lies; what its row holds -/
abbrev PV : Type := (Nat → Prop) × (Nat → Nat → Int32) × (Nat → Nat) × (Nat → Nat → Int32)
/-- where the three tables lie: COLUMNS, ORDERS_WITH, PAIR -/
abbrev TB : Type := Nat × Nat × Nat
def tCOL : Nat → Int32 := fun j => ([0, 1, 2, 3, 0, 1, 3, 2, 0, 2, 1, 3, 0, 2, 3, 1, 0, 3, 1, 2, 0, 3, 2, 1, 1, 0, 2, 3, 1, 0, 3, 2, 1, 2, 0, 3, 1, 2, 3, 0, 1, 3, 0, 2, 1, 3, 2, 0, 2, 0, 1, 3, 2, 0, 3, 1, 2, 1, 0, 3, 2, 1, 3, 0, 2, 3, 0, 1, 2, 3, 1, 0, 3, 0, 1, 2, 3, 0, 2, 1, 3, 1, 0, 2, 3, 1, 2, 0, 3, 2, 0, 1, 3, 2, 1, 0] : List Int32).getD j 0
def tOW : Nat → Int32 := fun j => ([0x00003F, 0x000FC0, 0x03F000, 0xFC0000, 0x0C30C0, 0x30C003, 0xC0030C, 0x030C30, 0x514500, 0x861014, 0x280861, 0x00A28A, 0xA28A00, 0x492028, 0x140492, 0x005145] : List Int32).getD j 0
def tPAIR : Nat → Int32 := fun j => ([0, 0, 24, 48, 0, 0, 72, 96, 0, 0, 0, 120] : List Int32).getD j 0
abbrev clO (pv : PV) (a : Nat) : Nat × va_E := (a, .inr (1, [.int (pv.2.1 a 0), .int (pv.2.1 a 1), .int (pv.2.1 a 2), .int (pv.2.1 a 3), .int (pv.2.1 a 4), .int (pv.2.1 a 5), .int (pv.2.1 a 6), .int (pv.2.1 a 7), .ref (pv.2.2.1 a)]))
abbrev clA (g : GG) (pv : PV) (a : Nat) : Nat × va_E := (pv.2.2.1 a, .inl (g.2.1, 16, .inl (pv.2.2.2 a)))
def roTab (C n : String) (t N : Nat) (f : Nat → Int32) : Ro := fun A U H => va_Z C n "[I" (.ref t) A U H ∧ va_T .int t N (fun j => .int (f j)) A U H
def roPool (g : GG) (pv : PV) : Ro := fun A _ H => ∀ a, pv.1 a → ¬ A a ∧ ¬ A (pv.2.2.1 a) ∧ va_at g.1 vwCl (clO pv a) H ∧ va_at g.1 vwCl (clA g pv a) H
/-- the private calls between the classes -/
def NS (U : State) : Prop := va_Nw (.methodLinkNest RX6 9 yX5_init RX6) U ∧ va_Nw (.methodLinkNest RX6 18 yX2_init RX6) U ∧ va_Nw (.methodLinkNest RX6 29 yX0_init RX6) U ∧ va_Nw (.methodLinkNest RX0 11 yX3_init RX6) U ∧ va_Nw (.methodLinkNest RX3 22 yX2_init RX6) U ∧ va_Nw (.methodLinkNest RX6 36 yX4_init RX6) U ∧ va_Nw (.methodLinkNest RX3 48 yX6_isIn RX6) U ∧ va_Nw (.methodLinkNest RX4 98 yX6_isIn RX6) U ∧ va_AO "GridRiddles$Clue" U ∧ va_AO "GridRiddles$Clues" U
theorem NS.warm {U V : State} (hW : U.WarmedH V.vm) (h : NS U) : NS V := ⟨h.1.warmM hW, h.2.1.warmM hW, h.2.2.1.warmM hW, h.2.2.2.1.warmM hW, h.2.2.2.2.1.warmM hW, h.2.2.2.2.2.1.warmM hW, h.2.2.2.2.2.2.1.warmM hW, h.2.2.2.2.2.2.2.1.warmM hW, h.2.2.2.2.2.2.2.2.1.moved hW.alike, h.2.2.2.2.2.2.2.2.2.moved hW.alike⟩
theorem NS.same {U V : State} (e : U.vm = V.vm) (h : NS U) : NS V := ⟨h.1.same rfl e, h.2.1.same rfl e, h.2.2.1.same rfl e, h.2.2.2.1.same rfl e, h.2.2.2.2.1.same rfl e, h.2.2.2.2.2.1.same rfl e, h.2.2.2.2.2.2.1.same rfl e, h.2.2.2.2.2.2.2.1.same rfl e, h.2.2.2.2.2.2.2.2.1.moved (e ▸ Vm.Alike.refl U.vm), h.2.2.2.2.2.2.2.2.2.moved (e ▸ Vm.Alike.refl U.vm)⟩
def roC (g : GG) (tb : TB) (pv : PV) : Ro := fun A U H => roTab "GridRiddles$Clue" "COLUMNS" tb.1 96 tCOL A U H ∧ roTab "GridRiddles$Clue" "ORDERS_WITH" tb.2.1 16 tOW A U H ∧ roTab "GridRiddles$Grids" "PAIR" tb.2.2 12 tPAIR A U H ∧ roPool g pv A U H ∧ NS U
theorem roTab_ok {C n : String} {t N : Nat} {f : Nat → Int32} : RoOK (roTab C n t N f) :=
  ⟨fun _ _ _ _ h hAB => ⟨h.1.narrow hAB, h.2.narrow hAB⟩, fun _ _ _ _ h hq => ⟨h.1.kept hq, h.2.kept hq⟩, fun _ _ _ _ hvm h => ⟨h.1.moved hvm.alike, h.2.moved hvm.alike⟩, fun _ U V _ hvm h => ⟨h.1.moved (hvm ▸ Vm.Alike.refl U.vm), h.2.moved (hvm ▸ Vm.Alike.refl U.vm)⟩⟩
theorem roPool_ok {g : GG} {pv : PV} : RoOK (roPool g pv) := by
  refine ⟨fun A B U H h hAB a ha => ?_, fun A U H H1 h hq a ha => ?_, fun _ _ _ _ _ h => h, fun _ _ _ _ _ h => h⟩
  · obtain ⟨h1, h2, h3, h4⟩ := h a ha
    exact ⟨fun q => h1 (hAB _ q), fun q => h2 (hAB _ q), h3, h4⟩
  · obtain ⟨h1, h2, h3, h4⟩ := h a ha
    exact ⟨h1, h2, h3.kept (hq _ h3.lt h1), h4.kept (hq _ h4.lt h2)⟩
theorem roC_ok {g : GG} {tb : TB} {pv : PV} : RoOK (roC g tb pv) :=
  ⟨fun A B U H h hAB => ⟨roTab_ok.1 A B U H h.1 hAB, roTab_ok.1 A B U H h.2.1 hAB, roTab_ok.1 A B U H h.2.2.1 hAB, roPool_ok.1 A B U H h.2.2.2.1 hAB, h.2.2.2.2⟩,
   fun A U H H1 h hq => ⟨roTab_ok.2.1 A U H H1 h.1 hq, roTab_ok.2.1 A U H H1 h.2.1 hq, roTab_ok.2.1 A U H H1 h.2.2.1 hq, roPool_ok.2.1 A U H H1 h.2.2.2.1 hq, h.2.2.2.2⟩,
   fun A U V H hvm h => ⟨roTab_ok.2.2.1 A U V H hvm h.1, roTab_ok.2.2.1 A U V H hvm h.2.1, roTab_ok.2.2.1 A U V H hvm h.2.2.1, roPool_ok.2.2.1 A U V H hvm h.2.2.2.1, h.2.2.2.2.warm hvm⟩,
   fun A U V H hvm h => ⟨roTab_ok.2.2.2 A U V H hvm h.1, roTab_ok.2.2.2 A U V H hvm h.2.1, roTab_ok.2.2.2 A U V H hvm h.2.2.1, roPool_ok.2.2.2 A U V H hvm h.2.2.2.1, h.2.2.2.2.same hvm⟩⟩
theorem PP_one {g : GG} {H : Heap} {q : Nat × va_E} (h : va_at g.1 vwCl q H) : PP g [q] H := fun k x hk => by
  have hz : k < 1 := (List.getElem?_eq_some_iff.mp hk).1
  rw [show k = 0 by omega] at hk
  cases hk
  exact h
section POOL
variable {g : GG} {tb : TB} {pv : PV} {A : Nat → Prop} {s : State} {H : Heap} {locs : List Loc} {a : Nat}
theorem pool_O (hro : roC g tb pv A s s.heap) (hS : va_S A s.heap H locs) (ha : pv.1 a) : PP g [clO pv a] H := by
  obtain ⟨h1, h2, h3, h4⟩ := hro.2.2.2.1 a ha
  exact PP_one (h3.kept (hS.2.1 _ h3.lt h1))
theorem pool_A (hro : roC g tb pv A s s.heap) (hS : va_S A s.heap H locs) (ha : pv.1 a) : PP g [clA g pv a] H := by
  obtain ⟨h1, h2, h3, h4⟩ := hro.2.2.2.1 a ha
  exact PP_one (h4.kept (hS.2.1 _ h4.lt h2))
theorem pool_any (hK : KK g s) (hro : roC g tb pv A s s.heap) (hS : va_S A s.heap H locs) (ha : pv.1 a) : va_Any "GridRiddles$Clue" s H a :=
  va_rAny hK (pool_O hro hS ha) (q0 := 0) rfl (ci := 1) rfl (fun comp c0 h1 h2 => by
    have hcls := (hK.1 1 (RX1, TX1, 9) rfl).2
    have e1 : comp = g.1.1 1 := Option.some.inj (h1.symm.trans hcls.1)
    have e2 : c0 = g.1.1 1 := Option.some.inj (h2.symm.trans hcls.1)
    rw [e1, e2]
    exact va_assign hcls)
theorem ro_pass {ro : Ro} {B : Nat → Prop} (hok : RoOK ro) (hro : ro A s s.heap) (hS : va_S A s.heap H locs) (hB : ∀ q, B q → A q) : ∀ U : State, s.WarmedH U.vm → ro B U H := fun U h => ro_at hok hro hS h hB
/-- the start of a method that answers a new object -/
def BR (g : GG) {S : Type} (pic : Nat × S → va_W) (A : Nat → Prop) : Nat × S → Nat → State → Prop := fun u r t => u.1 = r ∧ PP g (pic u) t.heap ∧ KK g t ∧ va_D A (pic u)
end POOL
theorem cy_int {g : GG} {s : State} {cA : ClassId} (h : va_K g.1 vwCl (tyL g ++ [(cA, .int)]) s) : cA = g.2.1 :=
  Option.some.inj (((h.2 4 (cA, .int) rfl).2 : s.vm.findClass _ = some cA).symm.trans ((h.2 0 (g.2.1, .int) rfl).2 : s.vm.findClass _ = some g.2.1))
theorem cy_bool {g : GG} {s : State} {cA : ClassId} (h : va_K g.1 vwCl (tyL g ++ [(cA, .boolean)]) s) : cA = g.2.2.1 :=
  Option.some.inj (((h.2 4 (cA, .boolean) rfl).2 : s.vm.findClass _ = some cA).symm.trans ((h.2 1 (g.2.2.1, .boolean) rfl).2 : s.vm.findClass _ = some g.2.2.1))
theorem cy_clue {g : GG} {s : State} {cA : ClassId} (h : va_K g.1 vwCl (tyL g ++ [(cA, .object "GridRiddles$Clue")]) s) : cA = g.2.2.2.1 := by
  obtain ⟨k1, c1, a1, a2, a3, a4⟩ := (h.2 4 (cA, .object "GridRiddles$Clue") rfl).2
  obtain ⟨k2, c2, b1, b2, b3, b4⟩ := (h.2 2 (g.2.2.2.1, .object "GridRiddles$Clue") rfl).2
  exact Option.some.inj (a4.symm.trans b4)
theorem cy_clues {g : GG} {s : State} {cA : ClassId} (h : va_K g.1 vwCl (tyL g ++ [(cA, .object "GridRiddles$Clues")]) s) : cA = g.2.2.2.2 := by
  obtain ⟨k1, c1, a1, a2, a3, a4⟩ := (h.2 4 (cA, .object "GridRiddles$Clues") rfl).2
  obtain ⟨k2, c2, b1, b2, b3, b4⟩ := (h.2 3 (g.2.2.2.2, .object "GridRiddles$Clues") rfl).2
  exact Option.some.inj (a4.symm.trans b4)
section MAKE
variable {p : Program} {l : Launch} {e : Env} {R : Room} {s : State} {m : MethodId} {args : Array Value} {below : List Frame} {meth : Method} {c : Code} {H : Heap} {locs : List Loc} {cells slots : Nat} {Q : State → Prop}
variable {pc : Nat} {ls : Array Slot} {rest st0 : List Value} {y : MethodName} {bytes cc : ByteArray} {maxL nL mc ms n index : Nat} {ret : Option FieldType} {ws : List Cond} {rm : Room} {Ts : List Cond} {own C : String} {b : Addr} {As : List Value} {g : GG} {ro : Ro} {wc w0 wr : va_W} {A : Nat → Prop} {H0 : Heap}
theorem kw_newI (hx : p.tables.exec = Jvm.exec) (hb : c.code = cc) (harr : (Cond.arrayClass .int).before args s = true) (hK : KK g s) (hP : PP g w0 H) (hD : va_D A w0) (hS : va_S A H0 H locs) (hA : ∀ q, H0.size ≤ q → A q) {n : Int32} {N' : Nat} (hn : ¬ n < 0) (hN : n.toNatClampNeg = N') (hbytes : N' * 4 ≤ 536870912) (hcells : cells + 1 ≤ R.cells) (hslots : slots + N' ≤ R.slots) (hdg : decode cc pc = .ok (.newarray .int, 2))
    (kk : ∀ (q : Nat) (H1 : Heap), PP g (w0 ++ [(q, .inl (g.2.1, N', .inl (fun _ => 0)))]) H1 → va_D A (w0 ++ [(q, .inl (g.2.1, N', .inl (fun _ => 0)))]) → va_S A H0 H1 locs → W p l e R s m args below meth c H1 locs (cells + 1) (slots + N') Q (F0 m (pc + 2) ls (.ref q :: rest))) : W p l e R s m args below meth c H locs cells slots Q (F0 m pc ls (.int n :: rest)) := by
  refine va_newa (atype := .int) (a0 := (N', .inl (fun _ => 0))) hx hb harr rfl hK hP hD hS hA (fun _ => rfl) hn hN hbytes hcells hslots hdg (fun q cA H1 hK1 hP1 hD1 hS1 => ?_)
  have e := cy_int hK1
  subst e
  exact kk q H1 hP1 hD1 hS1
theorem kw_newZ (hx : p.tables.exec = Jvm.exec) (hb : c.code = cc) (harr : (Cond.arrayClass .boolean).before args s = true) (hK : KK g s) (hP : PP g w0 H) (hD : va_D A w0) (hS : va_S A H0 H locs) (hA : ∀ q, H0.size ≤ q → A q) {n : Int32} {N' : Nat} (hn : ¬ n < 0) (hN : n.toNatClampNeg = N') (hbytes : N' * 1 ≤ 536870912) (hcells : cells + 1 ≤ R.cells) (hslots : slots + N' ≤ R.slots) (hdg : decode cc pc = .ok (.newarray .boolean, 2))
    (kk : ∀ (q : Nat) (H1 : Heap), PP g (w0 ++ [(q, .inl (g.2.2.1, N', .inl (fun _ => 0)))]) H1 → va_D A (w0 ++ [(q, .inl (g.2.2.1, N', .inl (fun _ => 0)))]) → va_S A H0 H1 locs → W p l e R s m args below meth c H1 locs (cells + 1) (slots + N') Q (F0 m (pc + 2) ls (.ref q :: rest))) : W p l e R s m args below meth c H locs cells slots Q (F0 m pc ls (.int n :: rest)) := by
  refine va_newa (atype := .boolean) (a0 := (N', .inl (fun _ => 0))) hx hb harr rfl hK hP hD hS hA (fun _ => rfl) hn hN hbytes hcells hslots hdg (fun q cA H1 hK1 hP1 hD1 hS1 => ?_)
  have e := cy_bool hK1
  subst e
  exact kk q H1 hP1 hD1 hS1
theorem kw_newC (hx : p.tables.exec = Jvm.exec) (hb : c.code = cc) (hown : s.vm.findClass own = some m.cls) (hclink : (Cond.classLink own index "GridRiddles$Clue").before args s = true) (hover : va_AO "GridRiddles$Clue" s) (hK : KK g s) (hP : PP g w0 H) (hD : va_D A w0) (hS : va_S A H0 H locs) (hA : ∀ q, H0.size ≤ q → A q) {n : Int32} {N' : Nat} (hn : ¬ n < 0) (hN : n.toNatClampNeg = N') (hbytes : N' * 4 ≤ 536870912) (hcells : cells + 1 ≤ R.cells) (hslots : slots + N' ≤ R.slots) (hdg : decode cc pc = .ok (.anewarray index, 3))
    (kk : ∀ (q : Nat) (H1 : Heap), PP g (w0 ++ [(q, .inl (g.2.2.2.1, N', .inr (.inr (.inr (.inr (fun _ => none))))))]) H1 → va_D A (w0 ++ [(q, .inl (g.2.2.2.1, N', .inr (.inr (.inr (.inr (fun _ => none))))))]) → va_S A H0 H1 locs → W p l e R s m args below meth c H1 locs (cells + 1) (slots + N') Q (F0 m (pc + 3) ls (.ref q :: rest))) : W p l e R s m args below meth c H locs cells slots Q (F0 m pc ls (.int n :: rest)) := by
  refine va_newq hx hb hown hclink hover hK hP hD hS hA hn hN hbytes hcells hslots hdg (fun q cA H1 hK1 hP1 hD1 hS1 => ?_)
  have e := cy_clue hK1
  subst e
  exact kk q H1 hP1 hD1 hS1
theorem kw_newS (hx : p.tables.exec = Jvm.exec) (hb : c.code = cc) (hown : s.vm.findClass own = some m.cls) (hclink : (Cond.classLink own index "GridRiddles$Clues").before args s = true) (hover : va_AO "GridRiddles$Clues" s) (hK : KK g s) (hP : PP g w0 H) (hD : va_D A w0) (hS : va_S A H0 H locs) (hA : ∀ q, H0.size ≤ q → A q) {n : Int32} {N' : Nat} (hn : ¬ n < 0) (hN : n.toNatClampNeg = N') (hbytes : N' * 4 ≤ 536870912) (hcells : cells + 1 ≤ R.cells) (hslots : slots + N' ≤ R.slots) (hdg : decode cc pc = .ok (.anewarray index, 3))
    (kk : ∀ (q : Nat) (H1 : Heap), PP g (w0 ++ [(q, .inl (g.2.2.2.2, N', .inr (.inr (.inr (.inr (fun _ => none))))))]) H1 → va_D A (w0 ++ [(q, .inl (g.2.2.2.2, N', .inr (.inr (.inr (.inr (fun _ => none))))))]) → va_S A H0 H1 locs → W p l e R s m args below meth c H1 locs (cells + 1) (slots + N') Q (F0 m (pc + 3) ls (.ref q :: rest))) : W p l e R s m args below meth c H locs cells slots Q (F0 m pc ls (.int n :: rest)) := by
  refine va_newq hx hb hown hclink hover hK hP hD hS hA hn hN hbytes hcells hslots hdg (fun q cA H1 hK1 hP1 hD1 hS1 => ?_)
  have e := cy_clues hK1
  subst e
  exact kk q H1 hP1 hD1 hS1
end MAKE
section CALLN
variable {p : Program} {l : Launch} {e : Env} {R : Room} {s : State} {m : MethodId} {args : Array Value} {below : List Frame} {meth : Method} {c : Code} {H : Heap} {locs : List Loc} {cells slots : Nat} {Q : State → Prop}
variable {pc : Nat} {ls : Array Slot} {rest st0 : List Value} {y : MethodName} {bytes cc : ByteArray} {maxL nL mc ms n index : Nat} {ret : Option FieldType} {ws : List Cond} {rm : Room} {Ts : List Cond} {own C : String} {b : Addr} {As : List Value} {g : GG} {ro : Ro} {wc w0 wr : va_W} {A : Nat → Prop}
theorem pre_N (hok : RoOK ro) (hK : KK g s) (hP : PP g w0 H) (hD : va_D A w0) (hro : ∀ U : State, s.WarmedH U.vm → ro (va_A wc H.size) U H) (isC : List Nat) (hnC : va_nd isC = true) (hC : isC.map (fun i => w0[i]?) = wc.map some) : PreS s H (PcM g ro wc H.size As) As := by
  have hf : isC.filterMap (fun i => w0[i]?) = wc := by
    have h1 : isC.filterMap (fun i => w0[i]?) = (isC.map (fun i => w0[i]?)).filterMap id := by rw [List.filterMap_map]; rfl
    rw [h1, hC, List.filterMap_map]
    exact List.filterMap_some
  exact ⟨PcM_blind hok, fun U hU hW => ⟨rfl, by rw [hU], by rw [hU]; exact hP.sub isC hf, va_K.moved hW.alike hK, (hD.sub isC hnC hC).weaken (fun _ _ _ _ => trivial), by rw [hU]; exact hro U hW⟩⟩
theorem kn_Vi {S : Type} {post : Int32 → S → Prop} {pic : S → va_W} {cq : vw_C} (S0 : CallFix p m c cc nL s args Ts own) (hM : Met l y ws rm (PcM g ro wc H.size (.ref b :: As)) (va_Qi post (BM g pic (va_A wc H.size)) (va_A wc H.size)) mc ms (va_A wc H.size)) (cw : CallW R s args own cq.1 index y bytes maxL ret ws rm mc ms n)
    (hok : RoOK ro) (hK : KK g s) (hP : PP g w0 H) (hD : va_D A w0) (hS : va_S A s.heap H locs) (hA : ∀ q, s.heap.size ≤ q → A q) (hro : ∀ U : State, s.WarmedH U.vm → ro (va_A wc H.size) U H) (isC isR : List Nat) (hC : isC.map (fun i => w0[i]?) = wc.map some) (hR : isR.map (fun i => w0[i]?) = wr.map some) (hnC : va_nd isC = true) (hnR : va_nd isR = true) (hdis : ∀ i ∈ isR, i ∉ isC)
    (hrec : ∃ cell : Cell, H[b]? = some cell ∧ cell.vm.isStatics = false ∧ s.vm.findClass cq.1 = some cell.cls) (hn : As.length = n) (hls : ls.size = nL) (hst : st0 = As.reverse ++ .ref b :: rest) (hW : (rest.map fun v => v.category).sum ≤ 8) (hdg : decode cc pc = .ok (.invokevirtual index, 3)) (hf : cells + mc ≤ R.cells ∧ slots + ms ≤ R.slots)
    (kk : ∀ (r : Int32) (u : S) (H1 : Heap) (locs1 : List Loc), post r u → PP g (wr ++ pic u) H1 → va_D A (wr ++ pic u) → va_S A s.heap H1 locs1 → W p l e R s m args below meth c H1 locs1 (cells + mc) (slots + ms) Q (F0 m (pc + 3) ls (.int r :: rest))) : W p l e R s m args below meth c H locs cells slots Q (F0 m pc ls st0) := by
  have hFc := va_free hD hS hA isC hC
  refine va_calli (va_runV (As := As) (rest := rest) S0 hM cw ⟨(pre_N (As := .ref b :: As) hok hK hP hD hro isC hnC hC).1, hrec, (pre_N (As := .ref b :: As) hok hK hP hD hro isC hnC hC).2⟩ rfl hn hls hst (lv_room hW) hdg hf) hS (fun q _ h => hFc q h) hFc (fun r u t H1 locs1 ht hvm hw hB hz1 hk1 hS1 => ?_)
  obtain ⟨hP1, hK1, hD1⟩ := hB
  rw [ht] at hP1
  obtain ⟨hP2, hD2⟩ := va_join hP hD isC isR hC hR hnR hdis hk1 hFc hP1 hD1
  exact kk r u H1 locs1 hw hP2 hD2 hS1
theorem kn_Vv {S : Type} {post : S → Prop} {pic : S → va_W} {cq : vw_C} (S0 : CallFix p m c cc nL s args Ts own) (hM : Met l y ws rm (PcM g ro wc H.size (.ref b :: As)) (va_Qv post (BM g pic (va_A wc H.size)) (va_A wc H.size)) mc ms (va_A wc H.size)) (cw : CallW R s args own cq.1 index y bytes maxL ret ws rm mc ms n)
    (hok : RoOK ro) (hK : KK g s) (hP : PP g w0 H) (hD : va_D A w0) (hS : va_S A s.heap H locs) (hA : ∀ q, s.heap.size ≤ q → A q) (hro : ∀ U : State, s.WarmedH U.vm → ro (va_A wc H.size) U H) (isC isR : List Nat) (hC : isC.map (fun i => w0[i]?) = wc.map some) (hR : isR.map (fun i => w0[i]?) = wr.map some) (hnC : va_nd isC = true) (hnR : va_nd isR = true) (hdis : ∀ i ∈ isR, i ∉ isC)
    (hrec : ∃ cell : Cell, H[b]? = some cell ∧ cell.vm.isStatics = false ∧ s.vm.findClass cq.1 = some cell.cls) (hn : As.length = n) (hls : ls.size = nL) (hst : st0 = As.reverse ++ .ref b :: rest) (hW : (rest.map fun v => v.category).sum ≤ 8) (hdg : decode cc pc = .ok (.invokevirtual index, 3)) (hf : cells + mc ≤ R.cells ∧ slots + ms ≤ R.slots)
    (kk : ∀ (u : S) (H1 : Heap) (locs1 : List Loc), post u → PP g (wr ++ pic u) H1 → va_D A (wr ++ pic u) → va_S A s.heap H1 locs1 → W p l e R s m args below meth c H1 locs1 (cells + mc) (slots + ms) Q (F0 m (pc + 3) ls rest)) : W p l e R s m args below meth c H locs cells slots Q (F0 m pc ls st0) := by
  have hFc := va_free hD hS hA isC hC
  refine va_callv (va_runV (As := As) (rest := rest) S0 hM cw ⟨(pre_N (As := .ref b :: As) hok hK hP hD hro isC hnC hC).1, hrec, (pre_N (As := .ref b :: As) hok hK hP hD hro isC hnC hC).2⟩ rfl hn hls hst (lv_room hW) hdg hf) hS (fun q _ h => hFc q h) hFc (fun u t H1 locs1 ht hvm hw hB hz1 hk1 hS1 => ?_)
  obtain ⟨hP1, hK1, hD1⟩ := hB
  rw [ht] at hP1
  obtain ⟨hP2, hD2⟩ := va_join hP hD isC isR hC hR hnR hdis hk1 hFc hP1 hD1
  exact kk u H1 locs1 hw hP2 hD2 hS1
theorem kn_Vr {S : Type} {post : Nat × S → Prop} {pic : Nat × S → va_W} {cq : vw_C} (S0 : CallFix p m c cc nL s args Ts own) (hM : Met l y ws rm (PcM g ro wc H.size (.ref b :: As)) (va_Qr post (BR g pic (va_A wc H.size)) (va_A wc H.size)) mc ms (va_A wc H.size)) (cw : CallW R s args own cq.1 index y bytes maxL ret ws rm mc ms n)
    (hok : RoOK ro) (hK : KK g s) (hP : PP g w0 H) (hD : va_D A w0) (hS : va_S A s.heap H locs) (hA : ∀ q, s.heap.size ≤ q → A q) (hro : ∀ U : State, s.WarmedH U.vm → ro (va_A wc H.size) U H) (isC isR : List Nat) (hC : isC.map (fun i => w0[i]?) = wc.map some) (hR : isR.map (fun i => w0[i]?) = wr.map some) (hnC : va_nd isC = true) (hnR : va_nd isR = true) (hdis : ∀ i ∈ isR, i ∉ isC)
    (hrec : ∃ cell : Cell, H[b]? = some cell ∧ cell.vm.isStatics = false ∧ s.vm.findClass cq.1 = some cell.cls) (hn : As.length = n) (hls : ls.size = nL) (hst : st0 = As.reverse ++ .ref b :: rest) (hW : (rest.map fun v => v.category).sum ≤ 8) (hdg : decode cc pc = .ok (.invokevirtual index, 3)) (hf : cells + mc ≤ R.cells ∧ slots + ms ≤ R.slots)
    (kk : ∀ (u : Nat × S) (H1 : Heap) (locs1 : List Loc), post u → PP g (wr ++ pic u) H1 → va_D A (wr ++ pic u) → va_S A s.heap H1 locs1 → W p l e R s m args below meth c H1 locs1 (cells + mc) (slots + ms) Q (F0 m (pc + 3) ls (.ref u.1 :: rest))) : W p l e R s m args below meth c H locs cells slots Q (F0 m pc ls st0) := by
  have hFc := va_free hD hS hA isC hC
  refine va_callr (va_runV (As := As) (rest := rest) S0 hM cw ⟨(pre_N (As := .ref b :: As) hok hK hP hD hro isC hnC hC).1, hrec, (pre_N (As := .ref b :: As) hok hK hP hD hro isC hnC hC).2⟩ rfl hn hls hst (lv_room hW) hdg hf) hS (fun q _ h => hFc q h) hFc (fun u ra t H1 locs1 ht hvm hw hB hz1 hk1 hS1 => ?_)
  obtain ⟨er, hP1, hK1, hD1⟩ := hB
  subst er
  rw [ht] at hP1
  obtain ⟨hP2, hD2⟩ := va_join hP hD isC isR hC hR hnR hdis hk1 hFc hP1 hD1
  exact kk u H1 locs1 hw hP2 hD2 hS1
theorem kn_Si {S : Type} {post : Int32 → S → Prop} {pic : S → va_W} (S0 : CallFix p m c cc nL s args Ts own) (hM : Met l y ws rm (PcM g ro wc H.size As) (va_Qi post (BM g pic (va_A wc H.size)) (va_A wc H.size)) mc ms (va_A wc H.size)) (cw : CallB R s args own index y bytes maxL ret ws rm mc ms n ∧ (Cond.static y).before args s = true)
    (hok : RoOK ro) (hK : KK g s) (hP : PP g w0 H) (hD : va_D A w0) (hS : va_S A s.heap H locs) (hA : ∀ q, s.heap.size ≤ q → A q) (hro : ∀ U : State, s.WarmedH U.vm → ro (va_A wc H.size) U H) (isC isR : List Nat) (hC : isC.map (fun i => w0[i]?) = wc.map some) (hR : isR.map (fun i => w0[i]?) = wr.map some) (hnC : va_nd isC = true) (hnR : va_nd isR = true) (hdis : ∀ i ∈ isR, i ∉ isC)
    (hn : As.length = n) (hls : ls.size = nL) (hst : st0 = As.reverse ++ rest) (hW : (rest.map fun v => v.category).sum ≤ 8) (hdg : decode cc pc = .ok (.invokestatic index, 3)) (hf : cells + mc ≤ R.cells ∧ slots + ms ≤ R.slots)
    (kk : ∀ (r : Int32) (u : S) (H1 : Heap) (locs1 : List Loc), post r u → PP g (wr ++ pic u) H1 → va_D A (wr ++ pic u) → va_S A s.heap H1 locs1 → W p l e R s m args below meth c H1 locs1 (cells + mc) (slots + ms) Q (F0 m (pc + 3) ls (.int r :: rest))) : W p l e R s m args below meth c H locs cells slots Q (F0 m pc ls st0) := by
  have hFc := va_free hD hS hA isC hC
  refine va_calli (va_runS (As := As) (rest := rest) S0 hM cw (pre_N (As := As) hok hK hP hD hro isC hnC hC) rfl hn hls hst (lv_room hW) hdg hf) hS (fun q _ h => hFc q h) hFc (fun r u t H1 locs1 ht hvm hw hB hz1 hk1 hS1 => ?_)
  obtain ⟨hP1, hK1, hD1⟩ := hB
  rw [ht] at hP1
  obtain ⟨hP2, hD2⟩ := va_join hP hD isC isR hC hR hnR hdis hk1 hFc hP1 hD1
  exact kk r u H1 locs1 hw hP2 hD2 hS1
theorem kn_Sv {S : Type} {post : S → Prop} {pic : S → va_W} (S0 : CallFix p m c cc nL s args Ts own) (hM : Met l y ws rm (PcM g ro wc H.size As) (va_Qv post (BM g pic (va_A wc H.size)) (va_A wc H.size)) mc ms (va_A wc H.size)) (cw : CallB R s args own index y bytes maxL ret ws rm mc ms n ∧ (Cond.static y).before args s = true)
    (hok : RoOK ro) (hK : KK g s) (hP : PP g w0 H) (hD : va_D A w0) (hS : va_S A s.heap H locs) (hA : ∀ q, s.heap.size ≤ q → A q) (hro : ∀ U : State, s.WarmedH U.vm → ro (va_A wc H.size) U H) (isC isR : List Nat) (hC : isC.map (fun i => w0[i]?) = wc.map some) (hR : isR.map (fun i => w0[i]?) = wr.map some) (hnC : va_nd isC = true) (hnR : va_nd isR = true) (hdis : ∀ i ∈ isR, i ∉ isC)
    (hn : As.length = n) (hls : ls.size = nL) (hst : st0 = As.reverse ++ rest) (hW : (rest.map fun v => v.category).sum ≤ 8) (hdg : decode cc pc = .ok (.invokestatic index, 3)) (hf : cells + mc ≤ R.cells ∧ slots + ms ≤ R.slots)
    (kk : ∀ (u : S) (H1 : Heap) (locs1 : List Loc), post u → PP g (wr ++ pic u) H1 → va_D A (wr ++ pic u) → va_S A s.heap H1 locs1 → W p l e R s m args below meth c H1 locs1 (cells + mc) (slots + ms) Q (F0 m (pc + 3) ls rest)) : W p l e R s m args below meth c H locs cells slots Q (F0 m pc ls st0) := by
  have hFc := va_free hD hS hA isC hC
  refine va_callv (va_runS (As := As) (rest := rest) S0 hM cw (pre_N (As := As) hok hK hP hD hro isC hnC hC) rfl hn hls hst (lv_room hW) hdg hf) hS (fun q _ h => hFc q h) hFc (fun u t H1 locs1 ht hvm hw hB hz1 hk1 hS1 => ?_)
  obtain ⟨hP1, hK1, hD1⟩ := hB
  rw [ht] at hP1
  obtain ⟨hP2, hD2⟩ := va_join hP hD isC isR hC hR hnR hdis hk1 hFc hP1 hD1
  exact kk u H1 locs1 hw hP2 hD2 hS1
theorem kn_Sr {S : Type} {post : Nat × S → Prop} {pic : Nat × S → va_W} (S0 : CallFix p m c cc nL s args Ts own) (hM : Met l y ws rm (PcM g ro wc H.size As) (va_Qr post (BR g pic (va_A wc H.size)) (va_A wc H.size)) mc ms (va_A wc H.size)) (cw : CallB R s args own index y bytes maxL ret ws rm mc ms n ∧ (Cond.static y).before args s = true)
    (hok : RoOK ro) (hK : KK g s) (hP : PP g w0 H) (hD : va_D A w0) (hS : va_S A s.heap H locs) (hA : ∀ q, s.heap.size ≤ q → A q) (hro : ∀ U : State, s.WarmedH U.vm → ro (va_A wc H.size) U H) (isC isR : List Nat) (hC : isC.map (fun i => w0[i]?) = wc.map some) (hR : isR.map (fun i => w0[i]?) = wr.map some) (hnC : va_nd isC = true) (hnR : va_nd isR = true) (hdis : ∀ i ∈ isR, i ∉ isC)
    (hn : As.length = n) (hls : ls.size = nL) (hst : st0 = As.reverse ++ rest) (hW : (rest.map fun v => v.category).sum ≤ 8) (hdg : decode cc pc = .ok (.invokestatic index, 3)) (hf : cells + mc ≤ R.cells ∧ slots + ms ≤ R.slots)
    (kk : ∀ (u : Nat × S) (H1 : Heap) (locs1 : List Loc), post u → PP g (wr ++ pic u) H1 → va_D A (wr ++ pic u) → va_S A s.heap H1 locs1 → W p l e R s m args below meth c H1 locs1 (cells + mc) (slots + ms) Q (F0 m (pc + 3) ls (.ref u.1 :: rest))) : W p l e R s m args below meth c H locs cells slots Q (F0 m pc ls st0) := by
  have hFc := va_free hD hS hA isC hC
  refine va_callr (va_runS (As := As) (rest := rest) S0 hM cw (pre_N (As := As) hok hK hP hD hro isC hnC hC) rfl hn hls hst (lv_room hW) hdg hf) hS (fun q _ h => hFc q h) hFc (fun u ra t H1 locs1 ht hvm hw hB hz1 hk1 hS1 => ?_)
  obtain ⟨er, hP1, hK1, hD1⟩ := hB
  subst er
  rw [ht] at hP1
  obtain ⟨hP2, hD2⟩ := va_join hP hD isC isR hC hR hnR hdis hk1 hFc hP1 hD1
  exact kk u H1 locs1 hw hP2 hD2 hS1
theorem kn_Iv {S : Type} {post : S → Prop} {pic : S → va_W} (S0 : CallFix p m c cc nL s args Ts own) (hM : Met l y ws rm (PcM g ro wc H.size (.ref b :: As)) (va_Qv post (BM g pic (va_A wc H.size)) (va_A wc H.size)) mc ms (va_A wc H.size)) (cw : CallB R s args own index y bytes maxL none ws rm mc ms n ∧ y.name = "<init>" ∧ (Cond.instanceMethod y).before args s = true)
    (hok : RoOK ro) (hK : KK g s) (hP : PP g w0 H) (hD : va_D A w0) (hS : va_S A s.heap H locs) (hA : ∀ q, s.heap.size ≤ q → A q) (hro : ∀ U : State, s.WarmedH U.vm → ro (va_A wc H.size) U H) (isC isR : List Nat) (hC : isC.map (fun i => w0[i]?) = wc.map some) (hR : isR.map (fun i => w0[i]?) = wr.map some) (hnC : va_nd isC = true) (hnR : va_nd isR = true) (hdis : ∀ i ∈ isR, i ∉ isC)
    (hn : As.length = n) (hls : ls.size = nL) (hst : st0 = As.reverse ++ .ref b :: rest) (hW : (rest.map fun v => v.category).sum ≤ 8) (hdg : decode cc pc = .ok (.invokespecial index, 3)) (hf : cells + mc ≤ R.cells ∧ slots + ms ≤ R.slots)
    (kk : ∀ (u : S) (H1 : Heap) (locs1 : List Loc), post u → PP g (wr ++ pic u) H1 → va_D A (wr ++ pic u) → va_S A s.heap H1 locs1 → W p l e R s m args below meth c H1 locs1 (cells + mc) (slots + ms) Q (F0 m (pc + 3) ls rest)) : W p l e R s m args below meth c H locs cells slots Q (F0 m pc ls st0) := by
  have hFc := va_free hD hS hA isC hC
  refine va_callv (va_runI (As := As) (rest := rest) S0 hM cw (pre_N (As := .ref b :: As) hok hK hP hD hro isC hnC hC) rfl hn hls hst (lv_room hW) hdg hf) hS (fun q _ h => hFc q h) hFc (fun u t H1 locs1 ht hvm hw hB hz1 hk1 hS1 => ?_)
  obtain ⟨hP1, hK1, hD1⟩ := hB
  rw [ht] at hP1
  obtain ⟨hP2, hD2⟩ := va_join hP hD isC isR hC hR hnR hdis hk1 hFc hP1 hD1
  exact kk u H1 locs1 hw hP2 hD2 hS1
theorem kn_Nv {host : String} {S : Type} {post : S → Prop} {pic : S → va_W} (S0 : CallFix p m c cc nL s args Ts own) (hM : Met l y ws rm (PcM g ro wc H.size (.ref b :: As)) (va_Qv post (BM g pic (va_A wc H.size)) (va_A wc H.size)) mc ms (va_A wc H.size)) (cw : va_CN R s args own index y host bytes maxL none ws rm mc ms n ∧ y.name = "<init>" ∧ (Cond.instanceMethod y).before args s = true)
    (hok : RoOK ro) (hK : KK g s) (hP : PP g w0 H) (hD : va_D A w0) (hS : va_S A s.heap H locs) (hA : ∀ q, s.heap.size ≤ q → A q) (hro : ∀ U : State, s.WarmedH U.vm → ro (va_A wc H.size) U H) (isC isR : List Nat) (hC : isC.map (fun i => w0[i]?) = wc.map some) (hR : isR.map (fun i => w0[i]?) = wr.map some) (hnC : va_nd isC = true) (hnR : va_nd isR = true) (hdis : ∀ i ∈ isR, i ∉ isC)
    (hn : As.length = n) (hls : ls.size = nL) (hst : st0 = As.reverse ++ .ref b :: rest) (hW : (rest.map fun v => v.category).sum ≤ 8) (hdg : decode cc pc = .ok (.invokespecial index, 3)) (hf : cells + mc ≤ R.cells ∧ slots + ms ≤ R.slots)
    (kk : ∀ (u : S) (H1 : Heap) (locs1 : List Loc), post u → PP g (wr ++ pic u) H1 → va_D A (wr ++ pic u) → va_S A s.heap H1 locs1 → W p l e R s m args below meth c H1 locs1 (cells + mc) (slots + ms) Q (F0 m (pc + 3) ls rest)) : W p l e R s m args below meth c H locs cells slots Q (F0 m pc ls st0) := by
  have hFc := va_free hD hS hA isC hC
  refine va_callv (va_runIN (As := As) (rest := rest) S0 hM cw (pre_N (As := .ref b :: As) hok hK hP hD hro isC hnC hC) rfl hn hls hst (lv_room hW) hdg hf) hS (fun q _ h => hFc q h) hFc (fun u t H1 locs1 ht hvm hw hB hz1 hk1 hS1 => ?_)
  obtain ⟨hP1, hK1, hD1⟩ := hB
  rw [ht] at hP1
  obtain ⟨hP2, hD2⟩ := va_join hP hD isC isR hC hR hnR hdis hk1 hFc hP1 hD1
  exact kk u H1 locs1 hw hP2 hD2 hS1
end CALLN
/-- the pool with one clue more -/
def pvAdd (pv : PV) (a aa : Nat) (fs : List Int32) (f : Nat → Int32) : PV := (fun x => pv.1 x ∨ x = a, fun x k => if x = a then fs.getD k 0 else pv.2.1 x k, fun x => if x = a then aa else pv.2.2.1 x, fun x => if x = a then f else pv.2.2.2 x)
theorem va_A_not {A : Nat → Prop} {g : GG} {w0 wc : va_W} {H : Heap} (hP : PP g w0 H) (hD : va_D A w0) (isC : List Nat) (hC : isC.map (fun i => w0[i]?) = wc.map some) {i a : Nat} {e : va_E} (hi : w0[i]? = some (a, e)) (hiC : i ∉ isC) : ¬ va_A wc H.size a := by
  rintro (⟨k, e', hk⟩ | h)
  · have h1 : (isC.map (fun i => w0[i]?))[k]? = some (some (a, e')) := by rw [hC, List.getElem?_map, hk]; rfl
    rw [List.getElem?_map] at h1
    cases hc : isC[k]? with
    | none => rw [hc] at h1; cases h1
    | some j =>
      rw [hc] at h1
      have h2 : w0[j]? = some (a, e') := Option.some.inj h1
      have h3 : i = j := hD.1 i j _ _ hi h2 rfl
      exact hiC (h3 ▸ List.mem_of_getElem? hc)
  · exact absurd (hP i _ hi).lt (Nat.not_lt.mpr h)
theorem ro_add {g : GG} {tb : TB} {pv : PV} {A : Nat → Prop} {s : State} {H : Heap} {locs : List Loc} {w0 wc : va_W} (hro : roC g tb pv A s s.heap) (hS : va_S A s.heap H locs) (hA : ∀ q, s.heap.size ≤ q → A q) (hP : PP g w0 H) (hD : va_D A w0) (isC : List Nat) (hC : isC.map (fun i => w0[i]?) = wc.map some) (i j : Nat) {a aa : Nat} {f0 f1 f2 f3 f4 f5 f6 f7 : Int32} {f : Nat → Int32}
    (hi : w0[i]? = some (a, .inr (1, [.int f0, .int f1, .int f2, .int f3, .int f4, .int f5, .int f6, .int f7, .ref aa]))) (hj : w0[j]? = some (aa, .inl (g.2.1, 16, .inl f))) (hiC : i ∉ isC) (hjC : j ∉ isC) : ∀ U : State, s.WarmedH U.vm → roC g tb (pvAdd pv a aa [f0, f1, f2, f3, f4, f5, f6, f7] f) (va_A wc H.size) U H := by
  intro U hvm
  have h0 : roC g tb pv (va_A wc H.size) U H := ro_at roC_ok hro hS hvm (va_free hD hS hA isC hC)
  refine ⟨h0.1, h0.2.1, h0.2.2.1, fun x hx => ?_, h0.2.2.2.2⟩
  by_cases e : x = a
  · subst e
    refine ⟨va_A_not hP hD isC hC hi hiC, ?_, ?_, ?_⟩
    · show ¬ va_A wc H.size (if x = x then aa else pv.2.2.1 x)
      rw [if_pos rfl]
      exact va_A_not hP hD isC hC hj hjC
    · have h1 := hP i _ hi
      show va_at g.1 vwCl (x, .inr (1, [.int (if x = x then f0 else pv.2.1 x 0), .int (if x = x then f1 else pv.2.1 x 1), .int (if x = x then f2 else pv.2.1 x 2), .int (if x = x then f3 else pv.2.1 x 3), .int (if x = x then f4 else pv.2.1 x 4), .int (if x = x then f5 else pv.2.1 x 5), .int (if x = x then f6 else pv.2.1 x 6), .int (if x = x then f7 else pv.2.1 x 7), .ref (if x = x then aa else pv.2.2.1 x)])) H
      simp only [if_true]
      exact h1
    · have h1 := hP j _ hj
      show va_at g.1 vwCl ((if x = x then aa else pv.2.2.1 x), .inl (g.2.1, 16, .inl (if x = x then f else pv.2.2.2 x))) H
      simp only [if_true]
      exact h1
  · have hx' : pv.1 x := hx.resolve_right e
    obtain ⟨p1, p2, p3, p4⟩ := h0.2.2.2.1 x hx'
    refine ⟨p1, ?_, ?_, ?_⟩
    · show ¬ va_A wc H.size (if x = a then aa else pv.2.2.1 x)
      rw [if_neg e]
      exact p2
    · show va_at g.1 vwCl (x, .inr (1, [.int (if x = a then f0 else pv.2.1 x 0), .int (if x = a then f1 else pv.2.1 x 1), .int (if x = a then f2 else pv.2.1 x 2), .int (if x = a then f3 else pv.2.1 x 3), .int (if x = a then f4 else pv.2.1 x 4), .int (if x = a then f5 else pv.2.1 x 5), .int (if x = a then f6 else pv.2.1 x 6), .int (if x = a then f7 else pv.2.1 x 7), .ref (if x = a then aa else pv.2.2.1 x)])) H
      simp only [if_neg e]
      exact p3
    · show va_at g.1 vwCl ((if x = a then aa else pv.2.2.1 x), .inl (g.2.1, 16, .inl (if x = a then f else pv.2.2.2 x))) H
      simp only [if_neg e]
      exact p4
theorem in2 {i : Int32} (h : vp_in i 2) (h0 : ¬ i = 0) : i = 1 := by
  obtain ⟨j, hj, rfl⟩ := vp_in_of h (by decide)
  rcases (show j = 0 ∨ j = 1 by omega) with rfl | rfl
  · exact absurd nI_0 h0
  · rfl
/-- a clue that was made, if one was: where it and its row lie, its numbers, its row -/
abbrev EX : Type := Option (Nat × Nat × List Int32 × (Nat → Int32))
def exW (g : GG) (x : EX) : va_W := match x with
  | none => []
  | some (a, aa, fs, f) => [(a, .inr (1, [.int (fs.getD 0 0), .int (fs.getD 1 0), .int (fs.getD 2 0), .int (fs.getD 3 0), .int (fs.getD 4 0), .int (fs.getD 5 0), .int (fs.getD 6 0), .int (fs.getD 7 0), .ref aa])), (aa, .inl (g.2.1, 16, .inl f))]
