/-! ===== base: bundles, read-only facts, call rows in one piece ===== -/
/-- the class ids: (slots of the classes, int[], boolean[], Clue[], Clues[]) -/
abbrev GG : Type := va_G × ClassId × ClassId × ClassId × ClassId
def tyL (g : GG) : List (ClassId × FieldType) := [(g.2.1, .int), (g.2.2.1, .boolean), (g.2.2.2.1, .object "GridRiddles$Clue"), (g.2.2.2.2, .object "GridRiddles$Clues")]
abbrev KK (g : GG) (U : State) : Prop := va_K g.1 vwCl (tyL g) U
abbrev PP (g : GG) (ws : va_W) (H : Heap) : Prop := va_P g.1 vwCl ws H
/-- facts about cells that a method may read and nobody writes: outside A -/
abbrev Ro : Type := (Nat → Prop) → State → Heap → Prop
def RoOK (ro : Ro) : Prop := (∀ (A B : Nat → Prop) (U : State) (H : Heap), ro A U H → (∀ q, B q → A q) → ro B U H) ∧ (∀ (A : Nat → Prop) (U : State) (H H1 : Heap), ro A U H → (∀ a : Nat, a < H.size → ¬ A a → H1[a]? = H[a]?) → ro A U H1) ∧ (∀ (A : Nat → Prop) (U V : State) (H : Heap), U.WarmedH V.vm → ro A U H → ro A V H) ∧ ∀ (A : Nat → Prop) (U V : State) (H : Heap), U.vm = V.vm → ro A U H → ro A V H
def roT : Ro := fun _ _ _ => True
theorem roT_ok : RoOK roT := ⟨fun _ _ _ _ _ _ => trivial, fun _ _ _ _ _ _ => trivial, fun _ _ _ _ _ _ => trivial, fun _ _ _ _ _ _ => trivial⟩
/-- the start of a method that writes and makes nothing -/
def PcP (g : GG) (ro : Ro) (ws : va_W) (av : List Value) : Array Value → State → Prop := va_Pc av (fun U => PP g ws U.heap ∧ KK g U ∧ ro (fun q => U.heap.size ≤ q) U U.heap)
/-- the start of a method that may write the cells ws, and make new ones -/
def PcM (g : GG) (ro : Ro) (ws : va_W) (sz : Nat) (av : List Value) : Array Value → State → Prop := va_Pc av (fun U => U.heap.size = sz ∧ PP g ws U.heap ∧ KK g U ∧ va_D (fun _ => True) ws ∧ ro (va_A ws sz) U U.heap)
/-- what such a method leaves -/
def BM (g : GG) {S : Type} (pic : S → va_W) (A : Nat → Prop) : S → State → Prop := fun u t => PP g (pic u) t.heap ∧ KK g t ∧ va_D A (pic u)
theorem PcP_blind {g : GG} {ro : Ro} (hok : RoOK ro) {ws : va_W} {av : List Value} : FrameBlind (PcP g ro ws av) := by
  intro a U f mk q
  obtain ⟨q0, qP, qK, qR⟩ := q
  exact ⟨q0, qP, va_K.moved (u := U) (U := U.calling f mk a) (Vm.Alike.refl U.vm) qK, hok.2.2.2 _ U (U.calling f mk a) _ rfl qR⟩
theorem PcM_blind {g : GG} {ro : Ro} (hok : RoOK ro) {ws : va_W} {sz : Nat} {av : List Value} : FrameBlind (PcM g ro ws sz av) := by
  intro a U f mk q
  obtain ⟨q0, q1, qP, qK, qD, qR⟩ := q
  exact ⟨q0, q1, qP, va_K.moved (u := U) (U := U.calling f mk a) (Vm.Alike.refl U.vm) qK, qD, hok.2.2.2 _ U (U.calling f mk a) _ rfl qR⟩
/-- the read-only facts at a later heap of the same method, for a smaller part -/
theorem ro_at {ro : Ro} (hok : RoOK ro) {A B : Nat → Prop} {s U : State} {H : Heap} {locs : List Loc} (hro : ro A s s.heap) (hS : va_S A s.heap H locs) (hvm : s.WarmedH U.vm) (hAB : ∀ q, B q → A q) : ro B U H :=
  hok.2.2.1 _ s U _ hvm (hok.1 _ _ _ _ (hok.2.1 _ _ _ _ hro (fun a h1 h2 => hS.2.1 a h1 h2)) hAB)
section CALLS
variable {p : Program} {l : Launch} {e : Env} {R : Room} {s : State} {m : MethodId} {args : Array Value} {below : List Frame} {meth : Method} {c : Code} {H : Heap} {locs : List Loc} {cells slots : Nat} {Q : State → Prop}
variable {pc : Nat} {ls : Array Slot} {rest st0 : List Value} {y : MethodName} {bytes cc : ByteArray} {maxL nL mc ms n index : Nat} {ret : Option FieldType} {ws : List Cond} {rm : Room} {Ts : List Cond} {own C : String} {b : Addr} {As : List Value} {g : GG} {ro : Ro} {wc w0 wr : va_W} {A : Nat → Prop}
theorem pre_P (hok : RoOK ro) (hK : KK g s) (hP : PP g wc H) (hro : ro A s s.heap) (hS : va_S A s.heap H locs) (hA : ∀ q, s.heap.size ≤ q → A q) : PreS s H (PcP g ro wc As) As :=
  ⟨PcP_blind hok, fun U hU hW => ⟨rfl, by rw [hU]; exact hP, va_K.moved hW.alike hK, by rw [hU]; exact ro_at hok hro hS hW (fun q hq => hA q (Nat.le_trans hS.1 hq))⟩⟩
theorem pre_M (hok : RoOK ro) (hK : KK g s) (hP : PP g w0 H) (hD : va_D A w0) (hro : ro A s s.heap) (hS : va_S A s.heap H locs) (hA : ∀ q, s.heap.size ≤ q → A q) (isC : List Nat) (hnC : va_nd isC = true) (hC : isC.map (fun i => w0[i]?) = wc.map some) : PreS s H (PcM g ro wc H.size As) As := by
  have hf : isC.filterMap (fun i => w0[i]?) = wc := by
    have h1 : isC.filterMap (fun i => w0[i]?) = (isC.map (fun i => w0[i]?)).filterMap id := by rw [List.filterMap_map]; rfl
    rw [h1, hC, List.filterMap_map]
    exact List.filterMap_some
  exact ⟨PcM_blind hok, fun U hU hW => ⟨rfl, by rw [hU], by rw [hU]; exact hP.sub isC hf, va_K.moved hW.alike hK, (hD.sub isC hnC hC).weaken (fun _ _ _ _ => trivial), by rw [hU]; exact ro_at hok hro hS hW (va_free hD hS hA isC hC)⟩⟩
/-- a static call that writes nothing -/
theorem kp_S {post : Int32 → Prop} (S0 : CallFix p m c cc nL s args Ts own) (hM : Met l y ws rm (PcP g ro wc As) (vp_Si post) 0 0 (fun _ => False)) (cw : CallB R s args own index y bytes maxL ret ws rm 0 0 n ∧ (Cond.static y).before args s = true)
    (hok : RoOK ro) (hK : KK g s) (hP : PP g wc H) (hro : ro A s s.heap) (hS : va_S A s.heap H locs) (hA : ∀ q, s.heap.size ≤ q → A q) (hn : As.length = n) (hls : ls.size = nL) (hst : st0 = As.reverse ++ rest) (hW : (rest.map fun v => v.category).sum ≤ 8) (hdg : decode cc pc = .ok (.invokestatic index, 3)) (hf : cells ≤ R.cells ∧ slots ≤ R.slots)
    (kk : ∀ r : Int32, post r → W p l e R s m args below meth c H locs cells slots Q (F0 m (pc + 3) ls (.int r :: rest))) : W p l e R s m args below meth c H locs cells slots Q (F0 m pc ls st0) :=
  vp_callSi (va_Run.run (va_runS (As := As) (rest := rest) S0 hM cw (pre_P hok hK hP hro hS hA) rfl hn hls hst (lv_room hW) hdg hf)) kk
/-- a static call of a nest mate that writes nothing -/
theorem kp_N {host : String} {post : Int32 → Prop} (S0 : CallFix p m c cc nL s args Ts own) (hM : Met l y ws rm (PcP g ro wc As) (vp_Si post) 0 0 (fun _ => False)) (cw : va_CN R s args own index y host bytes maxL ret ws rm 0 0 n ∧ (Cond.static y).before args s = true ∧ True)
    (hok : RoOK ro) (hK : KK g s) (hP : PP g wc H) (hro : ro A s s.heap) (hS : va_S A s.heap H locs) (hA : ∀ q, s.heap.size ≤ q → A q) (hn : As.length = n) (hls : ls.size = nL) (hst : st0 = As.reverse ++ rest) (hW : (rest.map fun v => v.category).sum ≤ 8) (hdg : decode cc pc = .ok (.invokestatic index, 3)) (hf : cells ≤ R.cells ∧ slots ≤ R.slots)
    (kk : ∀ r : Int32, post r → W p l e R s m args below meth c H locs cells slots Q (F0 m (pc + 3) ls (.int r :: rest))) : W p l e R s m args below meth c H locs cells slots Q (F0 m pc ls st0) :=
  vp_callSi (va_Run.run (va_runSN (As := As) (rest := rest) S0 hM cw (pre_P hok hK hP hro hS hA) rfl hn hls hst (lv_room hW) hdg hf)) kk
/-- an instance call that writes nothing -/
theorem kp_V {post : Int32 → Prop} {cq : vw_C} (S0 : CallFix p m c cc nL s args Ts own) (hM : Met l y ws rm (PcP g ro wc (.ref b :: As)) (vp_Si post) 0 0 (fun _ => False)) (cw : CallW R s args own cq.1 index y bytes maxL ret ws rm 0 0 n)
    (hok : RoOK ro) (hK : KK g s) (hP : PP g wc H) (hro : ro A s s.heap) (hS : va_S A s.heap H locs) (hA : ∀ q, s.heap.size ≤ q → A q) (q0 ci : Nat) {fs : List Value} (hci : vwCl[ci]? = some cq) (hb0 : wc[q0]? = some (b, .inr (ci, fs))) (hn : As.length = n) (hls : ls.size = nL) (hst : st0 = As.reverse ++ .ref b :: rest) (hW : (rest.map fun v => v.category).sum ≤ 8) (hdg : decode cc pc = .ok (.invokevirtual index, 3)) (hf : cells ≤ R.cells ∧ slots ≤ R.slots)
    (kk : ∀ r : Int32, post r → W p l e R s m args below meth c H locs cells slots Q (F0 m (pc + 3) ls (.int r :: rest))) : W p l e R s m args below meth c H locs cells slots Q (F0 m pc ls st0) :=
  vp_callSi (va_Run.run (va_runV (As := As) (rest := rest) S0 hM cw ⟨(pre_P (As := .ref b :: As) hok hK hP hro hS hA).1, va_recv hK hP hci hb0, (pre_P (As := .ref b :: As) hok hK hP hro hS hA).2⟩ rfl hn hls hst (lv_room hW) hdg hf)) kk
/-- an instance call that may write, and answers an int -/
theorem km_Vi {S : Type} {post : Int32 → S → Prop} {pic : S → va_W} {cq : vw_C} (S0 : CallFix p m c cc nL s args Ts own) (hM : Met l y ws rm (PcM g ro wc H.size (.ref b :: As)) (va_Qi post (BM g pic (va_A wc H.size)) (va_A wc H.size)) mc ms (va_A wc H.size)) (cw : CallW R s args own cq.1 index y bytes maxL ret ws rm mc ms n)
    (hok : RoOK ro) (hK : KK g s) (hP : PP g w0 H) (hD : va_D A w0) (hro : ro A s s.heap) (hS : va_S A s.heap H locs) (hA : ∀ q, s.heap.size ≤ q → A q) (isC isR : List Nat) (hC : isC.map (fun i => w0[i]?) = wc.map some) (hR : isR.map (fun i => w0[i]?) = wr.map some) (hnC : va_nd isC = true) (hnR : va_nd isR = true) (hdis : ∀ i ∈ isR, i ∉ isC)
    (q0 ci : Nat) {fs : List Value} (hci : vwCl[ci]? = some cq) (hb0 : w0[q0]? = some (b, .inr (ci, fs))) (hn : As.length = n) (hls : ls.size = nL) (hst : st0 = As.reverse ++ .ref b :: rest) (hW : (rest.map fun v => v.category).sum ≤ 8) (hdg : decode cc pc = .ok (.invokevirtual index, 3)) (hf : cells + mc ≤ R.cells ∧ slots + ms ≤ R.slots)
    (kk : ∀ (r : Int32) (u : S) (H1 : Heap) (locs1 : List Loc), post r u → PP g (wr ++ pic u) H1 → va_D A (wr ++ pic u) → va_S A s.heap H1 locs1 → W p l e R s m args below meth c H1 locs1 (cells + mc) (slots + ms) Q (F0 m (pc + 3) ls (.int r :: rest))) : W p l e R s m args below meth c H locs cells slots Q (F0 m pc ls st0) := by
  have hFc := va_free hD hS hA isC hC
  refine va_calli (va_runV (As := As) (rest := rest) S0 hM cw ⟨(pre_M (As := .ref b :: As) hok hK hP hD hro hS hA isC hnC hC).1, va_recv hK hP hci hb0, (pre_M (As := .ref b :: As) hok hK hP hD hro hS hA isC hnC hC).2⟩ rfl hn hls hst (lv_room hW) hdg hf) hS (fun q _ h => hFc q h) hFc (fun r u t H1 locs1 ht hvm hw hB hz1 hk1 hS1 => ?_)
  obtain ⟨hP1, hK1, hD1⟩ := hB
  rw [ht] at hP1
  obtain ⟨hP2, hD2⟩ := va_join hP hD isC isR hC hR hnR hdis hk1 hFc hP1 hD1
  exact kk r u H1 locs1 hw hP2 hD2 hS1
/-- an instance call that may write, and answers nothing -/
theorem km_Vv {S : Type} {post : S → Prop} {pic : S → va_W} {cq : vw_C} (S0 : CallFix p m c cc nL s args Ts own) (hM : Met l y ws rm (PcM g ro wc H.size (.ref b :: As)) (va_Qv post (BM g pic (va_A wc H.size)) (va_A wc H.size)) mc ms (va_A wc H.size)) (cw : CallW R s args own cq.1 index y bytes maxL ret ws rm mc ms n)
    (hok : RoOK ro) (hK : KK g s) (hP : PP g w0 H) (hD : va_D A w0) (hro : ro A s s.heap) (hS : va_S A s.heap H locs) (hA : ∀ q, s.heap.size ≤ q → A q) (isC isR : List Nat) (hC : isC.map (fun i => w0[i]?) = wc.map some) (hR : isR.map (fun i => w0[i]?) = wr.map some) (hnC : va_nd isC = true) (hnR : va_nd isR = true) (hdis : ∀ i ∈ isR, i ∉ isC)
    (q0 ci : Nat) {fs : List Value} (hci : vwCl[ci]? = some cq) (hb0 : w0[q0]? = some (b, .inr (ci, fs))) (hn : As.length = n) (hls : ls.size = nL) (hst : st0 = As.reverse ++ .ref b :: rest) (hW : (rest.map fun v => v.category).sum ≤ 8) (hdg : decode cc pc = .ok (.invokevirtual index, 3)) (hf : cells + mc ≤ R.cells ∧ slots + ms ≤ R.slots)
    (kk : ∀ (u : S) (H1 : Heap) (locs1 : List Loc), post u → PP g (wr ++ pic u) H1 → va_D A (wr ++ pic u) → va_S A s.heap H1 locs1 → W p l e R s m args below meth c H1 locs1 (cells + mc) (slots + ms) Q (F0 m (pc + 3) ls rest)) : W p l e R s m args below meth c H locs cells slots Q (F0 m pc ls st0) := by
  have hFc := va_free hD hS hA isC hC
  refine va_callv (va_runV (As := As) (rest := rest) S0 hM cw ⟨(pre_M (As := .ref b :: As) hok hK hP hD hro hS hA isC hnC hC).1, va_recv hK hP hci hb0, (pre_M (As := .ref b :: As) hok hK hP hD hro hS hA isC hnC hC).2⟩ rfl hn hls hst (lv_room hW) hdg hf) hS (fun q _ h => hFc q h) hFc (fun u t H1 locs1 ht hvm hw hB hz1 hk1 hS1 => ?_)
  obtain ⟨hP1, hK1, hD1⟩ := hB
  rw [ht] at hP1
  obtain ⟨hP2, hD2⟩ := va_join hP hD isC isR hC hR hnR hdis hk1 hFc hP1 hD1
  exact kk u H1 locs1 hw hP2 hD2 hS1
end CALLS
/-- a boolean as the machine has it -/
def zb (r : Int32) : Prop := r = 0 ∨ r = 1
theorem zb0 : zb 0 := Or.inl rfl
theorem zb1 : zb 1 := Or.inr rfl
theorem zb_nar {r : Int32} (h : zb r) : narrow .boolean (.int r) = .int r := by rcases h with h | h <;> subst h <;> decide
theorem zb_fit {r : Int32} (h : zb r) : fits .boolean (.int r) = true := by rcases h with h | h <;> subst h <;> decide
theorem vin {i : Int32} {n : Nat} (h : ¬ (i < 0 ∨ n ≤ i.toNatClampNeg)) : vp_in i n := h
theorem ne_toInt {x k : Int32} (h : ¬ x = k) : x.toInt ≠ k.toInt := fun e => h (Int32.toInt_inj.mp e)
theorem PP_nil {g : GG} {H : Heap} : PP g [] H := fun k q h => by simp at h
