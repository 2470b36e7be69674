/-! ===== the law's own rows: the pool beside the cells, calls that keep it, the start ===== -/
/-- the clues of the pool stand in the heap, apart from the cells ws -/
def PoolOK (g : GG) (pv : PV) (ws : va_W) (H : Heap) : Prop := ∀ a, pv.1 a → (∀ (k : Nat) (q : Nat × va_E), ws[k]? = some q → q.1 ≠ a ∧ q.1 ≠ pv.2.2.1 a) ∧ va_at g.1 vwCl (clO pv a) H ∧ va_at g.1 vwCl (clA g pv a) H
/-- no clue yet -/
def pv0 : PV := (fun _ => False, fun _ _ => 0, fun _ => 0, fun _ _ => 0)
theorem PoolOK_0 {g : GG} {ws : va_W} {H : Heap} : PoolOK g pv0 ws H := fun a h => h.elim
theorem PoolOK.sub {g : GG} {pv : PV} {ws ws' : va_W} {H : Heap} (h : PoolOK g pv ws H) (is : List Nat) (hs : is.filterMap (fun i => ws[i]?) = ws') : PoolOK g pv ws' H := by
  intro a ha
  obtain ⟨h1, h2, h3⟩ := h a ha
  refine ⟨fun k q hk => ?_, h2, h3⟩
  subst hs
  obtain ⟨i, -, hi⟩ := List.mem_filterMap.mp (List.mem_of_getElem? hk)
  exact h1 i q hi
/-- tables and links at the law's start -/
def roL (tb : TB) : Ro := fun A U H => roTab "GridRiddles$Clue" "COLUMNS" tb.1 96 tCOL A U H ∧ roTab "GridRiddles$Clue" "ORDERS_WITH" tb.2.1 16 tOW A U H ∧ roTab "GridRiddles$Grids" "PAIR" tb.2.2 12 tPAIR A U H ∧ NS U
theorem roL_ok {tb : TB} : RoOK (roL tb) :=
  ⟨fun A B U H h hAB => ⟨roTab_ok.1 A B U H h.1 hAB, roTab_ok.1 A B U H h.2.1 hAB, roTab_ok.1 A B U H h.2.2.1 hAB, h.2.2.2⟩,
   fun A U H H1 h hq => ⟨roTab_ok.2.1 A U H H1 h.1 hq, roTab_ok.2.1 A U H H1 h.2.1 hq, roTab_ok.2.1 A U H H1 h.2.2.1 hq, h.2.2.2⟩,
   fun A U V H hvm h => ⟨roTab_ok.2.2.1 A U V H hvm h.1, roTab_ok.2.2.1 A U V H hvm h.2.1, roTab_ok.2.2.1 A U V H hvm h.2.2.1, h.2.2.2.warm hvm⟩,
   fun A U V H hvm h => ⟨roTab_ok.2.2.2 A U V H hvm h.1, roTab_ok.2.2.2 A U V H hvm h.2.1, roTab_ok.2.2.2 A U V H hvm h.2.2.1, h.2.2.2.same hvm⟩⟩
theorem roL_C {g : GG} {tb : TB} {pv : PV} {A : Nat → Prop} {U : State} {H : Heap} (h : roL tb A U H) (hp : roPool g pv A U H) : roC g tb pv A U H := ⟨h.1, h.2.1, h.2.2.1, hp, h.2.2.2⟩
section LAWCALL
variable {p : Program} {l : Launch} {e : Env} {R : Room} {s : State} {m : MethodId} {args : Array Value} {below : List Frame} {meth : Method} {c : Code} {H : Heap} {locs : List Loc} {cells slots : Nat} {Q : State → Prop}
variable {pc : Nat} {ls : Array Slot} {rest st0 : List Value} {y : MethodName} {bytes cc : ByteArray} {maxL nL mc ms n index : Nat} {ret : Option FieldType} {ws : List Cond} {rm : Room} {Ts : List Cond} {own C : String} {b : Addr} {As : List Value} {g : GG} {ro : Ro} {wc w0 wr : va_W} {A : Nat → Prop} {pv : PV} {tb : TB}
theorem ro_law (hL : roL tb A s s.heap) (hS : va_S A s.heap H locs) (hD : va_D A w0) (hA : ∀ q, s.heap.size ≤ q → A q) (isC : List Nat) (hC : isC.map (fun i => w0[i]?) = wc.map some) (hp : PoolOK g pv w0 H) : ∀ U : State, s.WarmedH U.vm → roC g tb pv (va_A wc H.size) U H := by
  intro U hW
  refine roL_C (ro_at roL_ok hL hS hW (va_free hD hS hA isC hC)) (fun a ha => ?_)
  obtain ⟨h1, h2, h3⟩ := hp a ha
  have key : ∀ (x : Nat), x < H.size → (∀ (k : Nat) (q : Nat × va_E), w0[k]? = some q → q.1 ≠ x) → ¬ va_A wc H.size x := by
    rintro x hx hn (⟨k, e', hk⟩ | h)
    · have h4 : (isC.map (fun i => w0[i]?))[k]? = some (some (x, e')) := by rw [hC, List.getElem?_map, hk]; rfl
      rw [List.getElem?_map] at h4
      cases hc : isC[k]? with
      | none => rw [hc] at h4; cases h4
      | some j =>
        rw [hc] at h4
        exact hn j (x, e') (Option.some.inj h4) rfl
    · exact absurd hx (Nat.not_lt.mpr h)
  exact ⟨key _ h2.lt (fun k q hk => (h1 k q hk).1), key _ h3.lt (fun k q hk => (h1 k q hk).2), h2, h3⟩
/-- the pool behind a call -/
theorem pool_call {w1 : va_W} {H1 : Heap} (hp : PoolOK g pv w0 H) (isC isR : List Nat) (hC : isC.map (fun i => w0[i]?) = wc.map some) (hR : isR.map (fun i => w0[i]?) = wr.map some) (hk : ∀ q : Nat, q < H.size → ¬ va_A wc H.size q → H1[q]? = H[q]?) (hD1 : va_D (va_A wc H.size) w1) : PoolOK g pv (wr ++ w1) H1 := by
  intro a ha
  obtain ⟨h1, h2, h3⟩ := hp a ha
  have inw : ∀ (is : List Nat) (w : va_W), is.map (fun i => w0[i]?) = w.map some → ∀ (k : Nat) (q : Nat × va_E), w[k]? = some q → ∃ j : Nat, w0[j]? = some q := by
    intro is w hw k q hq
    have h4 : (is.map (fun i => w0[i]?))[k]? = some (some q) := by rw [hw, List.getElem?_map, hq]; rfl
    rw [List.getElem?_map] at h4
    cases hc : is[k]? with
    | none => rw [hc] at h4; cases h4
    | some j => rw [hc] at h4; exact ⟨j, Option.some.inj h4⟩
  have key : ∀ (x : Nat), x < H.size → (∀ (k : Nat) (q : Nat × va_E), w0[k]? = some q → q.1 ≠ x) → ¬ va_A wc H.size x := by
    rintro x hx hn (⟨k, e', hk⟩ | h)
    · obtain ⟨j, hj⟩ := inw isC wc hC k _ hk
      exact hn j _ hj rfl
    · exact absurd hx (Nat.not_lt.mpr h)
  have k1 := key _ h2.lt (fun k q hk => (h1 k q hk).1)
  have k2 := key _ h3.lt (fun k q hk => (h1 k q hk).2)
  refine ⟨fun k q hq => ?_, h2.kept (hk _ h2.lt k1), h3.kept (hk _ h3.lt k2)⟩
  by_cases hl : k < wr.length
  · rw [List.getElem?_append_left hl] at hq
    obtain ⟨j, hj⟩ := inw isR wr hR k q hq
    exact h1 j q hj
  · rw [List.getElem?_append_right (by omega)] at hq
    have h5 := hD1.2 _ q hq
    exact ⟨fun e => k1 (show va_A wc H.size a from e ▸ h5), fun e => k2 (show va_A wc H.size (pv.2.2.1 a) from e ▸ h5)⟩
/-- a call from the law that may write and answers an int -/
theorem kl_Vi {S : Type} {post : Int32 → S → Prop} {pic : S → va_W} {cq : vw_C} (S0 : CallFix p m c cc nL s args Ts own) (hM : Met l y ws rm (PcM g ro wc H.size (.ref b :: As)) (va_Qi post (BM g pic (va_A wc H.size)) (va_A wc H.size)) mc ms (va_A wc H.size)) (cw : CallW R s args own cq.1 index y bytes maxL ret ws rm mc ms n)
    (hok : RoOK ro) (hK : KK g s) (hP : PP g w0 H) (hD : va_D A w0) (hS : va_S A s.heap H locs) (hA : ∀ q, s.heap.size ≤ q → A q) (hp : PoolOK g pv w0 H) (hro : ∀ U : State, s.WarmedH U.vm → ro (va_A wc H.size) U H) (isC isR : List Nat) (hC : isC.map (fun i => w0[i]?) = wc.map some) (hR : isR.map (fun i => w0[i]?) = wr.map some) (hnC : va_nd isC = true) (hnR : va_nd isR = true) (hdis : ∀ i ∈ isR, i ∉ isC)
    (hrec : ∃ cell : Cell, H[b]? = some cell ∧ cell.vm.isStatics = false ∧ s.vm.findClass cq.1 = some cell.cls) (hn : As.length = n) (hls : ls.size = nL) (hst : st0 = As.reverse ++ .ref b :: rest) (hW : (rest.map fun v => v.category).sum ≤ 8) (hdg : decode cc pc = .ok (.invokevirtual index, 3)) (hf : cells + mc ≤ R.cells ∧ slots + ms ≤ R.slots)
    (kk : ∀ (r : Int32) (u : S) (H1 : Heap) (locs1 : List Loc), post r u → PP g (wr ++ pic u) H1 → va_D A (wr ++ pic u) → va_S A s.heap H1 locs1 → PoolOK g pv (wr ++ pic u) H1 → W p l e R s m args below meth c H1 locs1 (cells + mc) (slots + ms) Q (F0 m (pc + 3) ls (.int r :: rest))) : W p l e R s m args below meth c H locs cells slots Q (F0 m pc ls st0) := by
  have hFc := va_free hD hS hA isC hC
  refine va_calli (va_runV (As := As) (rest := rest) S0 hM cw ⟨(pre_N (As := .ref b :: As) hok hK hP hD hro isC hnC hC).1, hrec, (pre_N (As := .ref b :: As) hok hK hP hD hro isC hnC hC).2⟩ rfl hn hls hst (lv_room hW) hdg hf) hS (fun q _ h => hFc q h) hFc (fun r u t H1 locs1 ht hvm hw hB hz1 hk1 hS1 => ?_)
  obtain ⟨hP1, hK1, hD1⟩ := hB
  rw [ht] at hP1
  obtain ⟨hP2, hD2⟩ := va_join hP hD isC isR hC hR hnR hdis hk1 hFc hP1 hD1
  exact kk r u H1 locs1 hw hP2 hD2 hS1 (pool_call hp isC isR hC hR hk1 hD1)
/-- a call from the law that writes nothing -/
theorem kl_P {post : Int32 → Prop} {cq : vw_C} (S0 : CallFix p m c cc nL s args Ts own) (hM : Met l y ws rm (PcP g ro wc (.ref b :: As)) (vp_Si post) 0 0 (fun _ => False)) (cw : CallW R s args own cq.1 index y bytes maxL ret ws rm 0 0 n)
    (hok : RoOK ro) (hK : KK g s) (hP : PP g wc H) (hro : ∀ U : State, s.WarmedH U.vm → ro (fun q => H.size ≤ q) U H) (hrec : ∃ cell : Cell, H[b]? = some cell ∧ cell.vm.isStatics = false ∧ s.vm.findClass cq.1 = some cell.cls) (hn : As.length = n) (hls : ls.size = nL) (hst : st0 = As.reverse ++ .ref b :: rest) (hW : (rest.map fun v => v.category).sum ≤ 8) (hdg : decode cc pc = .ok (.invokevirtual index, 3)) (hf : cells ≤ R.cells ∧ slots ≤ R.slots)
    (kk : ∀ r : Int32, post r → W p l e R s m args below meth c H locs cells slots Q (F0 m (pc + 3) ls (.int r :: rest))) : W p l e R s m args below meth c H locs cells slots Q (F0 m pc ls st0) :=
  vp_callSi (va_Run.run (va_runV (As := As) (rest := rest) S0 hM cw ⟨PcP_blind hok, hrec, fun U hU hW => ⟨rfl, by rw [hU]; exact hP, va_K.moved hW.alike hK, by rw [hU]; exact hro U hW⟩⟩ rfl hn hls hst (lv_room hW) hdg hf)) kk
theorem ro_lawP (hL : roL tb A s s.heap) (hS : va_S A s.heap H locs) (hA : ∀ q, s.heap.size ≤ q → A q) (hp : PoolOK g pv w0 H) : ∀ U : State, s.WarmedH U.vm → roC g tb pv (fun q => H.size ≤ q) U H := by
  intro U hW
  refine roL_C (ro_at roL_ok hL hS hW (fun q h => hA q (Nat.le_trans hS.1 h))) (fun a ha => ?_)
  obtain ⟨h1, h2, h3⟩ := hp a ha
  exact ⟨Nat.not_le.mpr h2.lt, Nat.not_le.mpr h3.lt, h2, h3⟩
end LAWCALL
/-- the pool with what clue() made -/
def exPv (pv : PV) (x : EX) : PV := match x with
  | none => pv
  | some (a, aa, fs, f) => pvAdd pv a aa fs f
theorem pool_ex {g : GG} {pv : PV} {A : Nat → Prop} {w : va_W} {x : EX} {H : Heap} (hP : PP g (w ++ exW g x) H) (hD : va_D A (w ++ exW g x)) (hp : PoolOK g pv (w ++ exW g x) H) : PP g w H ∧ va_D A w ∧ PoolOK g (exPv pv x) w H := by
  have hin : ∀ (k : Nat) (q : Nat × va_E), w[k]? = some q → (w ++ exW g x)[k]? = some q := fun k q h => by
    rw [List.getElem?_append_left ((List.getElem?_eq_some_iff.mp h).1)]; exact h
  refine ⟨fun k q h => hP k q (hin k q h), ⟨fun i j p q hi hj e => hD.1 i j p q (hin i p hi) (hin j q hj) e, fun k q h => hD.2 k q (hin k q h)⟩, ?_⟩
  match x, hP, hD, hp, hin with
  | none, hP, hD, hp, hin => exact fun a ha => ⟨fun k q h => (hp a ha).1 k q (hin k q h), (hp a ha).2⟩
  | some (a, aa, fs, f), hP, hD, hp, hin =>
    have g1 : (w ++ exW g (some (a, aa, fs, f)))[w.length]? = some (a, .inr (1, [.int (fs.getD 0 0), .int (fs.getD 1 0), .int (fs.getD 2 0), .int (fs.getD 3 0), .int (fs.getD 4 0), .int (fs.getD 5 0), .int (fs.getD 6 0), .int (fs.getD 7 0), .ref aa])) := by
      rw [List.getElem?_append_right (Nat.le_refl _), Nat.sub_self]; rfl
    have g2 : (w ++ exW g (some (a, aa, fs, f)))[w.length + 1]? = some (aa, .inl (g.2.1, 16, .inl f)) := by
      rw [List.getElem?_append_right (by omega), show w.length + 1 - w.length = 1 by omega]; rfl
    intro y hy
    by_cases e : y = a
    · subst e
      refine ⟨fun k q hk => ⟨fun e1 => ?_, fun e1 => ?_⟩, ?_, ?_⟩
      · have := hD.1 k w.length q _ (hin k q hk) g1 e1
        exact absurd (List.getElem?_eq_some_iff.mp hk).1 (by omega)
      · have e2 : q.1 = aa := by rw [e1]; show (if y = y then aa else pv.2.2.1 y) = aa; rw [if_pos rfl]
        have := hD.1 k (w.length + 1) q _ (hin k q hk) g2 e2
        exact absurd (List.getElem?_eq_some_iff.mp hk).1 (by omega)
      · have h1 := hP _ _ g1
        show va_at g.1 vwCl (y, .inr (1, [.int (if y = y then fs.getD 0 0 else pv.2.1 y 0), .int (if y = y then fs.getD 1 0 else pv.2.1 y 1), .int (if y = y then fs.getD 2 0 else pv.2.1 y 2), .int (if y = y then fs.getD 3 0 else pv.2.1 y 3), .int (if y = y then fs.getD 4 0 else pv.2.1 y 4), .int (if y = y then fs.getD 5 0 else pv.2.1 y 5), .int (if y = y then fs.getD 6 0 else pv.2.1 y 6), .int (if y = y then fs.getD 7 0 else pv.2.1 y 7), .ref (if y = y then aa else pv.2.2.1 y)])) H
        simp only [if_true]
        exact h1
      · have h1 := hP _ _ g2
        show va_at g.1 vwCl ((if y = y then aa else pv.2.2.1 y), .inl (g.2.1, 16, .inl (if y = y then f else pv.2.2.2 y))) H
        simp only [if_true]
        exact h1
    · have hy' : pv.1 y := hy.resolve_right e
      obtain ⟨p1, p2, p3⟩ := hp y hy'
      refine ⟨fun k q hk => ⟨(p1 k q (hin k q hk)).1, ?_⟩, ?_, ?_⟩
      · show q.1 ≠ (if y = a then aa else pv.2.2.1 y)
        rw [if_neg e]
        exact (p1 k q (hin k q hk)).2
      · show va_at g.1 vwCl (y, .inr (1, [.int (if y = a then fs.getD 0 0 else pv.2.1 y 0), .int (if y = a then fs.getD 1 0 else pv.2.1 y 1), .int (if y = a then fs.getD 2 0 else pv.2.1 y 2), .int (if y = a then fs.getD 3 0 else pv.2.1 y 3), .int (if y = a then fs.getD 4 0 else pv.2.1 y 4), .int (if y = a then fs.getD 5 0 else pv.2.1 y 5), .int (if y = a then fs.getD 6 0 else pv.2.1 y 6), .int (if y = a then fs.getD 7 0 else pv.2.1 y 7), .ref (if y = a then aa else pv.2.2.1 y)])) H
        simp only [if_neg e]
        exact p2
      · show va_at g.1 vwCl ((if y = a then aa else pv.2.2.1 y), .inl (g.2.1, 16, .inl (if y = a then f else pv.2.2.2 y))) H
        simp only [if_neg e]
        exact p3
