def wp_X7_in (x1 : Int32) (x2 : Int32) (x3 : Int32) (Q : Int32 → Prop) : Prop :=
  ((x1 < x2 → Q 0) ∧ (¬ (x1 < x2) → ((x3 < x1 → Q 0) ∧ (¬ (x3 < x1) → Q 1))))
theorem hd_X7_in : yX7_in.cls ≠ "java/lang/invoke/MethodHandle" ∧ yX7_in.cls ≠ "java/lang/invoke/VarHandle" ∧ (parseMethodDescriptor yX7_in.desc).map (fun d => d.parameters.length) = some 3 := by decide +kernel
set_option maxHeartbeats 4000000 in
set_option maxRecDepth 100000 in
theorem m_X7_in (l : Launch) (g : GG) {ro : Ro} (hok : RoOK ro) {x1 : Int32} {x2 : Int32} {x3 : Int32} {Q : Int32 → Prop} (hw : wp_X7_in x1 x2 x3 Q) : Met l yX7_in wsX7_in ({ frames := 0, cells := 0, slots := 0, locals := 0 } : Room) (PcP g ro [] [.int x1, .int x2, .int x3]) (vp_Si Q) 0 0 (fun _ => False) := by
  refine Met.ofW (cc := cX7_in) (maxL := 3) (ret := (some .boolean)) (by decide) rfl ?_
  intro p e s m args below meth c s₁ B hml hv
  obtain ⟨rfl, hP, hK, hro⟩ := hv
  have hx := B.exec
  have hb := B.bytes
  have hr := B.returns
  have hts := atoms_spec (ws := wsX7_in) B.pre
  have hown : s.vm.findClass RX7 = some m.cls := findClass_of_methodNamed B.named
  have hlocks := B.notSynchronized
  have hA : ∀ q : Nat, s.heap.size ≤ q → (fun q : Nat => s.heap.size ≤ q) q := fun _ h => h
  have hS : va_S (fun q : Nat => s.heap.size ≤ q) s.heap s.heap [] := va_S.rf
  have hP : PP g [] s.heap := hP
  have hl := lv_entry ([.int x1, .int x2, .int x3]) (n := 3) (Nat.le_of_ble_eq_true rfl)
  rw [lg_entry_eq]
  generalize (lg_sl ([.int x1, .int x2, .int x3]) ++ List.replicate (3 - (lg_sl ([.int x1, .int x2, .int x3])).length) Slot.unset).toArray = ls at hl ⊢
  have hl : lv_has ls 3 [(0, .int x1), (1, .int x2), (2, .int x3)] := hl
  unfold wp_X7_in at hw
  refine lv_iload_n hx hb dX7_in_0 rfl (lv_at hl 0 rfl) ?_
  refine lv_iload_n hx hb dX7_in_1 rfl (lv_at hl 1 rfl) ?_
  refine lv_icmp_lt (tgt := 14) hx hb dX7_in_2 (by decide) (fun c1 => ?_) (fun c1 => ?_)
  · replace hw := hw.1 c1
    refine lv_iconst (v := 0) hx hb dX7_in_14 (by decide) ?_
    exact W.zret hx hb hr (zb_nar zb0) (fun t ht _ => ⟨0, rfl, hw, ht⟩) t_nil dX7_in_15
  · replace hw := hw.2 c1
    refine lv_iload_n hx hb dX7_in_5 rfl (lv_at hl 0 rfl) ?_
    refine lv_iload_n hx hb dX7_in_6 rfl (lv_at hl 2 rfl) ?_
    refine lv_icmp_gt (tgt := 14) hx hb dX7_in_7 (by decide) (fun c2 => ?_) (fun c2 => ?_)
    · replace hw := hw.1 c2
      refine lv_iconst (v := 0) hx hb dX7_in_14 (by decide) ?_
      exact W.zret hx hb hr (zb_nar zb0) (fun t ht _ => ⟨0, rfl, hw, ht⟩) t_nil dX7_in_15
    · replace hw := hw.2 c2
      refine lv_iconst (v := 1) hx hb dX7_in_10 (by decide) ?_
      refine lv_goto (tgt := 15) hx hb dX7_in_11 (by decide) ?_
      exact W.zret hx hb hr (zb_nar zb1) (fun t ht _ => ⟨1, rfl, hw, ht⟩) t_nil dX7_in_15

def wp_X7_isItem (x1 : Int32) (Q : Int32 → Prop) : Prop :=
  (wp_X7_in x1 0 15 (fun r1 => (zb r1 ∧ Q r1)))
theorem hd_X7_isItem : yX7_isItem.cls ≠ "java/lang/invoke/MethodHandle" ∧ yX7_isItem.cls ≠ "java/lang/invoke/VarHandle" ∧ (parseMethodDescriptor yX7_isItem.desc).map (fun d => d.parameters.length) = some 1 := by decide +kernel
set_option maxHeartbeats 4000000 in
set_option maxRecDepth 100000 in
theorem m_X7_isItem (l : Launch) (g : GG) {ro : Ro} (hok : RoOK ro) {x1 : Int32} {Q : Int32 → Prop} (hw : wp_X7_isItem x1 Q) : Met l yX7_isItem wsX7_isItem ({ frames := 1, cells := 0, slots := 0, locals := 22 } : Room) (PcP g ro [] [.int x1]) (vp_Si Q) 0 0 (fun _ => False) := by
  refine Met.ofW (cc := cX7_isItem) (maxL := 1) (ret := (some .boolean)) (by decide) rfl ?_
  intro p e s m args below meth c s₁ B hml hv
  obtain ⟨rfl, hP, hK, hro⟩ := hv
  have hx := B.exec
  have hb := B.bytes
  have hr := B.returns
  have hts := atoms_spec (ws := wsX7_isItem) B.pre
  have hown : s.vm.findClass RX7 = some m.cls := findClass_of_methodNamed B.named
  have hlocks := B.notSynchronized
  have hA : ∀ q : Nat, s.heap.size ≤ q → (fun q : Nat => s.heap.size ≤ q) q := fun _ h => h
  have hS : va_S (fun q : Nat => s.heap.size ≤ q) s.heap s.heap [] := va_S.rf
  have hP : PP g [] s.heap := hP
  have hl := lv_entry ([.int x1]) (n := 1) (Nat.le_of_ble_eq_true rfl)
  rw [lg_entry_eq]
  generalize (lg_sl ([.int x1]) ++ List.replicate (1 - (lg_sl ([.int x1])).length) Slot.unset).toArray = ls at hl ⊢
  have hl : lv_has ls 1 [(0, .int x1)] := hl
  unfold wp_X7_isItem at hw
  refine lv_iload_n hx hb dX7_isItem_0 rfl (lv_at hl 0 rfl) ?_
  refine lv_iconst (v := 0) hx hb dX7_isItem_1 (by decide) ?_
  refine lv_bipush (v := 15) hx hb dX7_isItem_2 (by decide) ?_
  refine kp_S (As := [.int x1, .int 0, .int 15]) (rest := []) (wc := []) ⟨hx, hb, hml, hown, hts⟩ (m_X7_in l g hok (x1 := x1) (x2 := 0) (x3 := 15) hw) (va_cwS 3 hts gX7_isItem_X7_in rfl rfl rfl hd_X7_in ⟨Nat.le_of_ble_eq_true rfl, Nat.le_of_ble_eq_true rfl⟩) hok hK PP_nil hro hS hA rfl hl.1 rfl (Nat.le_of_ble_eq_true rfl) dX7_isItem_4 ⟨Nat.le_of_ble_eq_true rfl, Nat.le_of_ble_eq_true rfl⟩ (fun r1 hw => ?_)
  obtain ⟨hz, hw⟩ := hw
  exact W.zret hx hb hr (zb_nar hz) (fun t ht _ => ⟨r1, rfl, hw, ht⟩) t_nil dX7_isItem_7

def wp_X7_isPlace (x1 : Int32) (Q : Int32 → Prop) : Prop :=
  (wp_X7_in x1 1 4 (fun r1 => (zb r1 ∧ Q r1)))
theorem hd_X7_isPlace : yX7_isPlace.cls ≠ "java/lang/invoke/MethodHandle" ∧ yX7_isPlace.cls ≠ "java/lang/invoke/VarHandle" ∧ (parseMethodDescriptor yX7_isPlace.desc).map (fun d => d.parameters.length) = some 1 := by decide +kernel
set_option maxHeartbeats 4000000 in
set_option maxRecDepth 100000 in
theorem m_X7_isPlace (l : Launch) (g : GG) {ro : Ro} (hok : RoOK ro) {x1 : Int32} {Q : Int32 → Prop} (hw : wp_X7_isPlace x1 Q) : Met l yX7_isPlace wsX7_isPlace ({ frames := 1, cells := 0, slots := 0, locals := 22 } : Room) (PcP g ro [] [.int x1]) (vp_Si Q) 0 0 (fun _ => False) := by
  refine Met.ofW (cc := cX7_isPlace) (maxL := 1) (ret := (some .boolean)) (by decide) rfl ?_
  intro p e s m args below meth c s₁ B hml hv
  obtain ⟨rfl, hP, hK, hro⟩ := hv
  have hx := B.exec
  have hb := B.bytes
  have hr := B.returns
  have hts := atoms_spec (ws := wsX7_isPlace) B.pre
  have hown : s.vm.findClass RX7 = some m.cls := findClass_of_methodNamed B.named
  have hlocks := B.notSynchronized
  have hA : ∀ q : Nat, s.heap.size ≤ q → (fun q : Nat => s.heap.size ≤ q) q := fun _ h => h
  have hS : va_S (fun q : Nat => s.heap.size ≤ q) s.heap s.heap [] := va_S.rf
  have hP : PP g [] s.heap := hP
  have hl := lv_entry ([.int x1]) (n := 1) (Nat.le_of_ble_eq_true rfl)
  rw [lg_entry_eq]
  generalize (lg_sl ([.int x1]) ++ List.replicate (1 - (lg_sl ([.int x1])).length) Slot.unset).toArray = ls at hl ⊢
  have hl : lv_has ls 1 [(0, .int x1)] := hl
  unfold wp_X7_isPlace at hw
  refine lv_iload_n hx hb dX7_isPlace_0 rfl (lv_at hl 0 rfl) ?_
  refine lv_iconst (v := 1) hx hb dX7_isPlace_1 (by decide) ?_
  refine lv_iconst (v := 4) hx hb dX7_isPlace_2 (by decide) ?_
  refine kp_S (As := [.int x1, .int 1, .int 4]) (rest := []) (wc := []) ⟨hx, hb, hml, hown, hts⟩ (m_X7_in l g hok (x1 := x1) (x2 := 1) (x3 := 4) hw) (va_cwS 3 hts gX7_isPlace_X7_in rfl rfl rfl hd_X7_in ⟨Nat.le_of_ble_eq_true rfl, Nat.le_of_ble_eq_true rfl⟩) hok hK PP_nil hro hS hA rfl hl.1 rfl (Nat.le_of_ble_eq_true rfl) dX7_isPlace_3 ⟨Nat.le_of_ble_eq_true rfl, Nat.le_of_ble_eq_true rfl⟩ (fun r1 hw => ?_)
  obtain ⟨hz, hw⟩ := hw
  exact W.zret hx hb hr (zb_nar hz) (fun t ht _ => ⟨r1, rfl, hw, ht⟩) t_nil dX7_isPlace_6

def wp_X7_has (x1 : Int32) (x2 : Int32) (Q : Int32 → Prop) : Prop :=
  ((((x1 >>> (x2 &&& 31)) &&& 1) = 1 → Q 1) ∧ (¬ (((x1 >>> (x2 &&& 31)) &&& 1) = 1) → Q 0))
theorem hd_X7_has : yX7_has.cls ≠ "java/lang/invoke/MethodHandle" ∧ yX7_has.cls ≠ "java/lang/invoke/VarHandle" ∧ (parseMethodDescriptor yX7_has.desc).map (fun d => d.parameters.length) = some 2 := by decide +kernel
set_option maxHeartbeats 4000000 in
set_option maxRecDepth 100000 in
theorem m_X7_has (l : Launch) (g : GG) {ro : Ro} (hok : RoOK ro) {x1 : Int32} {x2 : Int32} {Q : Int32 → Prop} (hw : wp_X7_has x1 x2 Q) : Met l yX7_has wsX7_has ({ frames := 0, cells := 0, slots := 0, locals := 0 } : Room) (PcP g ro [] [.int x1, .int x2]) (vp_Si Q) 0 0 (fun _ => False) := by
  refine Met.ofW (cc := cX7_has) (maxL := 2) (ret := (some .boolean)) (by decide) rfl ?_
  intro p e s m args below meth c s₁ B hml hv
  obtain ⟨rfl, hP, hK, hro⟩ := hv
  have hx := B.exec
  have hb := B.bytes
  have hr := B.returns
  have hts := atoms_spec (ws := wsX7_has) B.pre
  have hown : s.vm.findClass RX7 = some m.cls := findClass_of_methodNamed B.named
  have hlocks := B.notSynchronized
  have hA : ∀ q : Nat, s.heap.size ≤ q → (fun q : Nat => s.heap.size ≤ q) q := fun _ h => h
  have hS : va_S (fun q : Nat => s.heap.size ≤ q) s.heap s.heap [] := va_S.rf
  have hP : PP g [] s.heap := hP
  have hl := lv_entry ([.int x1, .int x2]) (n := 2) (Nat.le_of_ble_eq_true rfl)
  rw [lg_entry_eq]
  generalize (lg_sl ([.int x1, .int x2]) ++ List.replicate (2 - (lg_sl ([.int x1, .int x2])).length) Slot.unset).toArray = ls at hl ⊢
  have hl : lv_has ls 2 [(0, .int x1), (1, .int x2)] := hl
  unfold wp_X7_has at hw
  refine lv_iload_n hx hb dX7_has_0 rfl (lv_at hl 0 rfl) ?_
  refine lv_iload_n hx hb dX7_has_1 rfl (lv_at hl 1 rfl) ?_
  refine lv_ishr hx hb dX7_has_2 ?_
  refine lv_iconst (v := 1) hx hb dX7_has_3 (by decide) ?_
  refine lv_iand hx hb dX7_has_4 ?_
  refine lv_iconst (v := 1) hx hb dX7_has_5 (by decide) ?_
  refine lv_icmp_ne (tgt := 13) hx hb dX7_has_6 (by decide) (fun c1 => ?_) (fun c1 => ?_)
  · replace hw := hw.2 c1
    refine lv_iconst (v := 0) hx hb dX7_has_13 (by decide) ?_
    exact W.zret hx hb hr (zb_nar zb0) (fun t ht _ => ⟨0, rfl, hw, ht⟩) t_nil dX7_has_14
  · replace hw := hw.1 c1
    refine lv_iconst (v := 1) hx hb dX7_has_9 (by decide) ?_
    refine lv_goto (tgt := 14) hx hb dX7_has_10 (by decide) ?_
    exact W.zret hx hb hr (zb_nar zb1) (fun t ht _ => ⟨1, rfl, hw, ht⟩) t_nil dX7_has_14

def wp_X7_isClue (x1 : Int32) (zmany : Int32) (Q : Int32 → Prop) : Prop :=
  (wp_X7_in x1 0 (zmany - 1) (fun r1 => (zb r1 ∧ Q r1)))
theorem hd_X7_isClue : yX7_isClue.cls = RX7 ∧ yX7_isClue.cls ≠ "java/lang/invoke/MethodHandle" ∧ yX7_isClue.cls ≠ "java/lang/invoke/VarHandle" ∧ (parseMethodDescriptor yX7_isClue.desc).map (fun d => d.parameters.length) = some 1 := by decide +kernel
set_option maxHeartbeats 4000000 in
set_option maxRecDepth 100000 in
theorem m_X7_isClue (l : Launch) (g : GG) {ro : Ro} (hok : RoOK ro) {h0 a_clues a_text a_orders a_places a_lefts a_steps a_image a_isKept : Nat} {zclues : Nat → Int32} {zmany : Int32} {ztext : Nat → Int32} {zsigns : Int32} {zfault : Int32} {zorders : Nat → Int32} {zplaces : Nat → Int32} {zsought : Int32} {zfirst : Int32} {zsecond : Int32} {zlefts : Nat → Int32} {zsteps : Nat → Int32} {zmade : Int32} {zimage : Nat → Int32} {zisKept : Nat → Int32} {x1 : Int32} {Q : Int32 → Prop} (hw : wp_X7_isClue x1 zmany Q) : Met l yX7_isClue wsX7_isClue ({ frames := 1, cells := 0, slots := 0, locals := 22 } : Room) (PcP g ro [(h0, .inr (7, [.ref a_clues, .int zmany, .ref a_text, .int zsigns, .int zfault, .ref a_orders, .ref a_places, .int zsought, .int zfirst, .int zsecond, .ref a_lefts, .ref a_steps, .int zmade, .ref a_image, .ref a_isKept])), (a_clues, .inl (g.2.1, 60, .inl zclues)), (a_text, .inl (g.2.1, 10, .inl ztext)), (a_orders, .inl (g.2.1, 96, .inl zorders)), (a_places, .inl (g.2.1, 16, .inl zplaces)), (a_lefts, .inl (g.2.1, 16, .inl zlefts)), (a_steps, .inl (g.2.1, 256, .inl zsteps)), (a_image, .inl (g.2.1, 122, .inl zimage)), (a_isKept, .inl (g.2.2.1, 2, .inl zisKept))] [.ref h0, .int x1]) (vp_Si Q) 0 0 (fun _ => False) := by
  refine Met.ofW (cc := cX7_isClue) (maxL := 2) (ret := (some .boolean)) (by decide) rfl ?_
  intro p e s m args below meth c s₁ B hml hv
  obtain ⟨rfl, hP, hK, hro⟩ := hv
  have hx := B.exec
  have hb := B.bytes
  have hr := B.returns
  have hts := atoms_spec (ws := wsX7_isClue) B.pre
  have hown : s.vm.findClass RX7 = some m.cls := findClass_of_methodNamed B.named
  have hlocks := B.notSynchronized
  have hA : ∀ q : Nat, s.heap.size ≤ q → (fun q : Nat => s.heap.size ≤ q) q := fun _ h => h
  have hS : va_S (fun q : Nat => s.heap.size ≤ q) s.heap s.heap [] := va_S.rf
  have hP : PP g [(h0, .inr (7, [.ref a_clues, .int zmany, .ref a_text, .int zsigns, .int zfault, .ref a_orders, .ref a_places, .int zsought, .int zfirst, .int zsecond, .ref a_lefts, .ref a_steps, .int zmade, .ref a_image, .ref a_isKept])), (a_clues, .inl (g.2.1, 60, .inl zclues)), (a_text, .inl (g.2.1, 10, .inl ztext)), (a_orders, .inl (g.2.1, 96, .inl zorders)), (a_places, .inl (g.2.1, 16, .inl zplaces)), (a_lefts, .inl (g.2.1, 16, .inl zlefts)), (a_steps, .inl (g.2.1, 256, .inl zsteps)), (a_image, .inl (g.2.1, 122, .inl zimage)), (a_isKept, .inl (g.2.2.1, 2, .inl zisKept))] s.heap := hP
  have lk1 := hts (.fieldLink RX7 43 "GridRiddlesModel" "many" "I") (by decide +kernel)
  have hinX7 : ∀ w ∈ u_ws RX7 TX7 15, w ∈ wsX7_isClue := by decide +kernel
  have hl := lv_entry ([.ref h0, .int x1]) (n := 2) (Nat.le_of_ble_eq_true rfl)
  rw [lg_entry_eq]
  generalize (lg_sl ([.ref h0, .int x1]) ++ List.replicate (2 - (lg_sl ([.ref h0, .int x1])).length) Slot.unset).toArray = ls at hl ⊢
  have hl : lv_has ls 2 [(0, .ref h0), (1, .int x1)] := hl
  unfold wp_X7_isClue at hw
  refine lv_iload_n hx hb dX7_isClue_0 rfl (lv_at hl 1 rfl) ?_
  refine lv_iconst (v := 0) hx hb dX7_isClue_1 (by decide) ?_
  refine lv_aload_n hx hb dX7_isClue_2 rfl (lv_at hl 0 rfl) ?_
  refine va_get (D := g.1) (ci := 7) (v := .int zmany) (C := RX7) (T := TX7) (N := 15) hx hb hts hinX7 hown hK hP 0 rfl rfl 1 (by decide) lk1 (fun _ h9 => h9) rfl dX7_isClue_3 ?_
  refine lv_iconst (v := 1) hx hb dX7_isClue_6 (by decide) ?_
  refine lv_isub hx hb dX7_isClue_7 ?_
  refine kp_S (As := [.int x1, .int 0, .int (zmany - 1)]) (rest := []) (wc := []) ⟨hx, hb, hml, hown, hts⟩ (m_X7_in l g hok (x1 := x1) (x2 := 0) (x3 := (zmany - 1)) hw) (va_cwS 3 hts gX7_isClue_X7_in rfl rfl rfl hd_X7_in ⟨Nat.le_of_ble_eq_true rfl, Nat.le_of_ble_eq_true rfl⟩) hok hK PP_nil hro hS hA rfl hl.1 rfl (Nat.le_of_ble_eq_true rfl) dX7_isClue_8 ⟨Nat.le_of_ble_eq_true rfl, Nat.le_of_ble_eq_true rfl⟩ (fun r1 hw => ?_)
  obtain ⟨hz, hw⟩ := hw
  exact W.zret hx hb hr (zb_nar hz) (fun t ht _ => ⟨r1, rfl, hw, ht⟩) t_nil dX7_isClue_11

def wp_X7_of (x1 : Int32) (x2 : Int32) (zclues : Nat → Int32) (Q : Int32 → Prop) : Prop :=
  (vp_in ((5 * x1) + x2) 60 ∧ Q (zclues ((5 * x1) + x2).toNatClampNeg))
theorem hd_X7_of : yX7_of.cls = RX7 ∧ yX7_of.cls ≠ "java/lang/invoke/MethodHandle" ∧ yX7_of.cls ≠ "java/lang/invoke/VarHandle" ∧ (parseMethodDescriptor yX7_of.desc).map (fun d => d.parameters.length) = some 2 := by decide +kernel
set_option maxHeartbeats 4000000 in
set_option maxRecDepth 100000 in
theorem m_X7_of (l : Launch) (g : GG) {ro : Ro} (hok : RoOK ro) {h0 a_clues a_text a_orders a_places a_lefts a_steps a_image a_isKept : Nat} {zclues : Nat → Int32} {zmany : Int32} {ztext : Nat → Int32} {zsigns : Int32} {zfault : Int32} {zorders : Nat → Int32} {zplaces : Nat → Int32} {zsought : Int32} {zfirst : Int32} {zsecond : Int32} {zlefts : Nat → Int32} {zsteps : Nat → Int32} {zmade : Int32} {zimage : Nat → Int32} {zisKept : Nat → Int32} {x1 : Int32} {x2 : Int32} {Q : Int32 → Prop} (hw : wp_X7_of x1 x2 zclues Q) : Met l yX7_of wsX7_of ({ frames := 0, cells := 0, slots := 0, locals := 0 } : Room) (PcP g ro [(h0, .inr (7, [.ref a_clues, .int zmany, .ref a_text, .int zsigns, .int zfault, .ref a_orders, .ref a_places, .int zsought, .int zfirst, .int zsecond, .ref a_lefts, .ref a_steps, .int zmade, .ref a_image, .ref a_isKept])), (a_clues, .inl (g.2.1, 60, .inl zclues)), (a_text, .inl (g.2.1, 10, .inl ztext)), (a_orders, .inl (g.2.1, 96, .inl zorders)), (a_places, .inl (g.2.1, 16, .inl zplaces)), (a_lefts, .inl (g.2.1, 16, .inl zlefts)), (a_steps, .inl (g.2.1, 256, .inl zsteps)), (a_image, .inl (g.2.1, 122, .inl zimage)), (a_isKept, .inl (g.2.2.1, 2, .inl zisKept))] [.ref h0, .int x1, .int x2]) (vp_Si Q) 0 0 (fun _ => False) := by
  refine Met.ofW (cc := cX7_of) (maxL := 3) (ret := (some .int)) (by decide) rfl ?_
  intro p e s m args below meth c s₁ B hml hv
  obtain ⟨rfl, hP, hK, hro⟩ := hv
  have hx := B.exec
  have hb := B.bytes
  have hr := B.returns
  have hts := atoms_spec (ws := wsX7_of) B.pre
  have hown : s.vm.findClass RX7 = some m.cls := findClass_of_methodNamed B.named
  have hlocks := B.notSynchronized
  have hA : ∀ q : Nat, s.heap.size ≤ q → (fun q : Nat => s.heap.size ≤ q) q := fun _ h => h
  have hS : va_S (fun q : Nat => s.heap.size ≤ q) s.heap s.heap [] := va_S.rf
  have hP : PP g [(h0, .inr (7, [.ref a_clues, .int zmany, .ref a_text, .int zsigns, .int zfault, .ref a_orders, .ref a_places, .int zsought, .int zfirst, .int zsecond, .ref a_lefts, .ref a_steps, .int zmade, .ref a_image, .ref a_isKept])), (a_clues, .inl (g.2.1, 60, .inl zclues)), (a_text, .inl (g.2.1, 10, .inl ztext)), (a_orders, .inl (g.2.1, 96, .inl zorders)), (a_places, .inl (g.2.1, 16, .inl zplaces)), (a_lefts, .inl (g.2.1, 16, .inl zlefts)), (a_steps, .inl (g.2.1, 256, .inl zsteps)), (a_image, .inl (g.2.1, 122, .inl zimage)), (a_isKept, .inl (g.2.2.1, 2, .inl zisKept))] s.heap := hP
  have lk1 := hts (.fieldLink RX7 7 "GridRiddlesModel" "clues" "[I") (by decide +kernel)
  have hinX7 : ∀ w ∈ u_ws RX7 TX7 15, w ∈ wsX7_of := by decide +kernel
  have hl := lv_entry ([.ref h0, .int x1, .int x2]) (n := 3) (Nat.le_of_ble_eq_true rfl)
  rw [lg_entry_eq]
  generalize (lg_sl ([.ref h0, .int x1, .int x2]) ++ List.replicate (3 - (lg_sl ([.ref h0, .int x1, .int x2])).length) Slot.unset).toArray = ls at hl ⊢
  have hl : lv_has ls 3 [(0, .ref h0), (1, .int x1), (2, .int x2)] := hl
  unfold wp_X7_of at hw
  refine lv_aload_n hx hb dX7_of_0 rfl (lv_at hl 0 rfl) ?_
  refine va_get (D := g.1) (ci := 7) (v := .ref a_clues) (C := RX7) (T := TX7) (N := 15) hx hb hts hinX7 hown hK hP 0 rfl rfl 0 (by decide) lk1 (fun _ h9 => h9) rfl dX7_of_1 ?_
  refine lv_iconst (v := 5) hx hb dX7_of_4 (by decide) ?_
  refine lv_iload_n hx hb dX7_of_5 rfl (lv_at hl 1 rfl) ?_
  refine lv_imul hx hb dX7_of_6 ?_
  refine lv_iload_n hx hb dX7_of_7 rfl (lv_at hl 2 rfl) ?_
  refine lv_iadd hx hb dX7_of_8 ?_
  obtain ⟨hi, hw⟩ := hw
  refine va_iald hx hb hK hP 1 0 rfl rfl hi dX7_of_9 ?_
  exact W.iret hx hb hr (fun t ht _ => ⟨(zclues ((5 * x1) + x2).toNatClampNeg), rfl, hw, ht⟩) t_nil dX7_of_10

def wp_X7_say (x1 : Int32) (ztext : Nat → Int32) (zsigns : Int32) (Q : Int32 → Int32 → (Nat → Int32) → Prop) : Prop :=
  (wp_X7_in x1 33 126 (fun r1 => ((r1 = 0 → Q (-2) zsigns ztext) ∧ (¬ (r1 = 0) → ((zsigns = 10 → Q (-4) zsigns ztext) ∧ (¬ (zsigns = 10) → (vp_in zsigns 10 ∧ Q (zsigns + 1) (zsigns + 1) (upd ztext zsigns.toNatClampNeg x1))))))))
theorem hd_X7_say : yX7_say.cls = RX7 ∧ yX7_say.cls ≠ "java/lang/invoke/MethodHandle" ∧ yX7_say.cls ≠ "java/lang/invoke/VarHandle" ∧ (parseMethodDescriptor yX7_say.desc).map (fun d => d.parameters.length) = some 1 := by decide +kernel
set_option maxHeartbeats 4000000 in
set_option maxRecDepth 100000 in
theorem m_X7_say (l : Launch) (g : GG) {ro : Ro} (hok : RoOK ro) {h0 a_clues a_text a_orders a_places a_lefts a_steps a_image a_isKept : Nat} {zclues : Nat → Int32} {zmany : Int32} {ztext : Nat → Int32} {zsigns : Int32} {zfault : Int32} {zorders : Nat → Int32} {zplaces : Nat → Int32} {zsought : Int32} {zfirst : Int32} {zsecond : Int32} {zlefts : Nat → Int32} {zsteps : Nat → Int32} {zmade : Int32} {zimage : Nat → Int32} {zisKept : Nat → Int32} {x1 : Int32} {sz : Nat} {Q : Int32 → Int32 → (Nat → Int32) → Prop} (hw : wp_X7_say x1 ztext zsigns Q) : Met l yX7_say wsX7_say ({ frames := 1, cells := 0, slots := 0, locals := 22 } : Room) (PcM g ro [(h0, .inr (7, [.ref a_clues, .int zmany, .ref a_text, .int zsigns, .int zfault, .ref a_orders, .ref a_places, .int zsought, .int zfirst, .int zsecond, .ref a_lefts, .ref a_steps, .int zmade, .ref a_image, .ref a_isKept])), (a_clues, .inl (g.2.1, 60, .inl zclues)), (a_text, .inl (g.2.1, 10, .inl ztext)), (a_orders, .inl (g.2.1, 96, .inl zorders)), (a_places, .inl (g.2.1, 16, .inl zplaces)), (a_lefts, .inl (g.2.1, 16, .inl zlefts)), (a_steps, .inl (g.2.1, 256, .inl zsteps)), (a_image, .inl (g.2.1, 122, .inl zimage)), (a_isKept, .inl (g.2.2.1, 2, .inl zisKept))] sz [.ref h0, .int x1]) (va_Qi (fun (r : Int32) (u : Int32 × (Nat → Int32)) => Q r u.1 u.2) (BM g (fun u : Int32 × (Nat → Int32) => [(h0, .inr (7, [.ref a_clues, .int zmany, .ref a_text, .int u.1, .int zfault, .ref a_orders, .ref a_places, .int zsought, .int zfirst, .int zsecond, .ref a_lefts, .ref a_steps, .int zmade, .ref a_image, .ref a_isKept])), (a_clues, .inl (g.2.1, 60, .inl zclues)), (a_text, .inl (g.2.1, 10, .inl u.2)), (a_orders, .inl (g.2.1, 96, .inl zorders)), (a_places, .inl (g.2.1, 16, .inl zplaces)), (a_lefts, .inl (g.2.1, 16, .inl zlefts)), (a_steps, .inl (g.2.1, 256, .inl zsteps)), (a_image, .inl (g.2.1, 122, .inl zimage)), (a_isKept, .inl (g.2.2.1, 2, .inl zisKept))]) (va_A [(h0, .inr (7, [.ref a_clues, .int zmany, .ref a_text, .int zsigns, .int zfault, .ref a_orders, .ref a_places, .int zsought, .int zfirst, .int zsecond, .ref a_lefts, .ref a_steps, .int zmade, .ref a_image, .ref a_isKept])), (a_clues, .inl (g.2.1, 60, .inl zclues)), (a_text, .inl (g.2.1, 10, .inl ztext)), (a_orders, .inl (g.2.1, 96, .inl zorders)), (a_places, .inl (g.2.1, 16, .inl zplaces)), (a_lefts, .inl (g.2.1, 16, .inl zlefts)), (a_steps, .inl (g.2.1, 256, .inl zsteps)), (a_image, .inl (g.2.1, 122, .inl zimage)), (a_isKept, .inl (g.2.2.1, 2, .inl zisKept))] sz)) (va_A [(h0, .inr (7, [.ref a_clues, .int zmany, .ref a_text, .int zsigns, .int zfault, .ref a_orders, .ref a_places, .int zsought, .int zfirst, .int zsecond, .ref a_lefts, .ref a_steps, .int zmade, .ref a_image, .ref a_isKept])), (a_clues, .inl (g.2.1, 60, .inl zclues)), (a_text, .inl (g.2.1, 10, .inl ztext)), (a_orders, .inl (g.2.1, 96, .inl zorders)), (a_places, .inl (g.2.1, 16, .inl zplaces)), (a_lefts, .inl (g.2.1, 16, .inl zlefts)), (a_steps, .inl (g.2.1, 256, .inl zsteps)), (a_image, .inl (g.2.1, 122, .inl zimage)), (a_isKept, .inl (g.2.2.1, 2, .inl zisKept))] sz)) 0 0 (va_A [(h0, .inr (7, [.ref a_clues, .int zmany, .ref a_text, .int zsigns, .int zfault, .ref a_orders, .ref a_places, .int zsought, .int zfirst, .int zsecond, .ref a_lefts, .ref a_steps, .int zmade, .ref a_image, .ref a_isKept])), (a_clues, .inl (g.2.1, 60, .inl zclues)), (a_text, .inl (g.2.1, 10, .inl ztext)), (a_orders, .inl (g.2.1, 96, .inl zorders)), (a_places, .inl (g.2.1, 16, .inl zplaces)), (a_lefts, .inl (g.2.1, 16, .inl zlefts)), (a_steps, .inl (g.2.1, 256, .inl zsteps)), (a_image, .inl (g.2.1, 122, .inl zimage)), (a_isKept, .inl (g.2.2.1, 2, .inl zisKept))] sz) := by
  refine Met.ofW (cc := cX7_say) (maxL := 2) (ret := (some .int)) (by decide) rfl ?_
  intro p e s m args below meth c s₁ B hml hv
  obtain ⟨rfl, hsz, hP, hK, hD0, hro⟩ := hv
  have hx := B.exec
  have hb := B.bytes
  have hr := B.returns
  have hts := atoms_spec (ws := wsX7_say) B.pre
  have hown : s.vm.findClass RX7 = some m.cls := findClass_of_methodNamed B.named
  have hlocks := B.notSynchronized
  subst hsz
  have hD := hD0.self (sz := s.heap.size)
  generalize hAe : va_A [(h0, .inr (7, [.ref a_clues, .int zmany, .ref a_text, .int zsigns, .int zfault, .ref a_orders, .ref a_places, .int zsought, .int zfirst, .int zsecond, .ref a_lefts, .ref a_steps, .int zmade, .ref a_image, .ref a_isKept])), (a_clues, .inl (g.2.1, 60, .inl zclues)), (a_text, .inl (g.2.1, 10, .inl ztext)), (a_orders, .inl (g.2.1, 96, .inl zorders)), (a_places, .inl (g.2.1, 16, .inl zplaces)), (a_lefts, .inl (g.2.1, 16, .inl zlefts)), (a_steps, .inl (g.2.1, 256, .inl zsteps)), (a_image, .inl (g.2.1, 122, .inl zimage)), (a_isKept, .inl (g.2.2.1, 2, .inl zisKept))] s.heap.size = A at hD hro ⊢
  have hA : ∀ q : Nat, s.heap.size ≤ q → A q := fun q h => by rw [← hAe]; exact Or.inr h
  have hS : va_S A s.heap s.heap [] := va_S.rf
  have hP : PP g [(h0, .inr (7, [.ref a_clues, .int zmany, .ref a_text, .int zsigns, .int zfault, .ref a_orders, .ref a_places, .int zsought, .int zfirst, .int zsecond, .ref a_lefts, .ref a_steps, .int zmade, .ref a_image, .ref a_isKept])), (a_clues, .inl (g.2.1, 60, .inl zclues)), (a_text, .inl (g.2.1, 10, .inl ztext)), (a_orders, .inl (g.2.1, 96, .inl zorders)), (a_places, .inl (g.2.1, 16, .inl zplaces)), (a_lefts, .inl (g.2.1, 16, .inl zlefts)), (a_steps, .inl (g.2.1, 256, .inl zsteps)), (a_image, .inl (g.2.1, 122, .inl zimage)), (a_isKept, .inl (g.2.2.1, 2, .inl zisKept))] s.heap := hP
  have lk1 := hts (.fieldLink RX7 46 "GridRiddlesModel" "signs" "I") (by decide +kernel)
  have hinX7 : ∀ w ∈ u_ws RX7 TX7 15, w ∈ wsX7_say := by decide +kernel
  have lk3 := hts (.fieldLink RX7 13 "GridRiddlesModel" "text" "[I") (by decide +kernel)
  have hl := lv_entry ([.ref h0, .int x1]) (n := 2) (Nat.le_of_ble_eq_true rfl)
  rw [lg_entry_eq]
  generalize (lg_sl ([.ref h0, .int x1]) ++ List.replicate (2 - (lg_sl ([.ref h0, .int x1])).length) Slot.unset).toArray = ls at hl ⊢
  have hl : lv_has ls 2 [(0, .ref h0), (1, .int x1)] := hl
  unfold wp_X7_say at hw
  refine lv_iload_n hx hb dX7_say_0 rfl (lv_at hl 1 rfl) ?_
  refine lv_bipush (v := 33) hx hb dX7_say_1 (by decide) ?_
  refine lv_bipush (v := 126) hx hb dX7_say_3 (by decide) ?_
  refine kp_S (As := [.int x1, .int 33, .int 126]) (rest := []) (wc := []) ⟨hx, hb, hml, hown, hts⟩ (m_X7_in l g hok (x1 := x1) (x2 := 33) (x3 := 126) hw) (va_cwS 3 hts gX7_say_X7_in rfl rfl rfl hd_X7_in ⟨Nat.le_of_ble_eq_true rfl, Nat.le_of_ble_eq_true rfl⟩) hok hK PP_nil hro hS hA rfl hl.1 rfl (Nat.le_of_ble_eq_true rfl) dX7_say_5 ⟨Nat.le_of_ble_eq_true rfl, Nat.le_of_ble_eq_true rfl⟩ (fun r1 hw => ?_)
  refine lv_if_ne (tgt := 14) hx hb dX7_say_8 (by decide) (fun c2 => ?_) (fun c2 => ?_)
  · replace hw := hw.2 c2
    refine lv_aload_n hx hb dX7_say_14 rfl (lv_at hl 0 rfl) ?_
    refine va_get (D := g.1) (ci := 7) (v := .int zsigns) (C := RX7) (T := TX7) (N := 15) hx hb hts hinX7 hown hK hP 0 rfl rfl 3 (by decide) lk1 (fun _ h9 => h9) rfl dX7_say_15 ?_
    refine lv_bipush (v := 10) hx hb dX7_say_18 (by decide) ?_
    refine lv_icmp_ne (tgt := 26) hx hb dX7_say_20 (by decide) (fun c3 => ?_) (fun c3 => ?_)
    · replace hw := hw.2 c3
      refine lv_aload_n hx hb dX7_say_26 rfl (lv_at hl 0 rfl) ?_
      refine va_get (D := g.1) (ci := 7) (v := .ref a_text) (C := RX7) (T := TX7) (N := 15) hx hb hts hinX7 hown hK hP 0 rfl rfl 2 (by decide) lk3 (fun _ h9 => h9) rfl dX7_say_27 ?_
      refine lv_aload_n hx hb dX7_say_30 rfl (lv_at hl 0 rfl) ?_
      refine va_get (D := g.1) (ci := 7) (v := .int zsigns) (C := RX7) (T := TX7) (N := 15) hx hb hts hinX7 hown hK hP 0 rfl rfl 3 (by decide) lk1 (fun _ h9 => h9) rfl dX7_say_31 ?_
      refine lv_iload_n hx hb dX7_say_34 rfl (lv_at hl 1 rfl) ?_
      obtain ⟨hi, hw⟩ := hw
      refine va_iast hx hb hK hP hD hS 2 0 rfl rfl hi dX7_say_35 (fun H locs hP hD hS => ?_)
      have hP : PP g [(h0, .inr (7, [.ref a_clues, .int zmany, .ref a_text, .int zsigns, .int zfault, .ref a_orders, .ref a_places, .int zsought, .int zfirst, .int zsecond, .ref a_lefts, .ref a_steps, .int zmade, .ref a_image, .ref a_isKept])), (a_clues, .inl (g.2.1, 60, .inl zclues)), (a_text, .inl (g.2.1, 10, .inl (upd ztext zsigns.toNatClampNeg x1))), (a_orders, .inl (g.2.1, 96, .inl zorders)), (a_places, .inl (g.2.1, 16, .inl zplaces)), (a_lefts, .inl (g.2.1, 16, .inl zlefts)), (a_steps, .inl (g.2.1, 256, .inl zsteps)), (a_image, .inl (g.2.1, 122, .inl zimage)), (a_isKept, .inl (g.2.2.1, 2, .inl zisKept))] H := hP
      have hD : va_D A [(h0, .inr (7, [.ref a_clues, .int zmany, .ref a_text, .int zsigns, .int zfault, .ref a_orders, .ref a_places, .int zsought, .int zfirst, .int zsecond, .ref a_lefts, .ref a_steps, .int zmade, .ref a_image, .ref a_isKept])), (a_clues, .inl (g.2.1, 60, .inl zclues)), (a_text, .inl (g.2.1, 10, .inl (upd ztext zsigns.toNatClampNeg x1))), (a_orders, .inl (g.2.1, 96, .inl zorders)), (a_places, .inl (g.2.1, 16, .inl zplaces)), (a_lefts, .inl (g.2.1, 16, .inl zlefts)), (a_steps, .inl (g.2.1, 256, .inl zsteps)), (a_image, .inl (g.2.1, 122, .inl zimage)), (a_isKept, .inl (g.2.2.1, 2, .inl zisKept))] := hD
      refine lv_aload_n hx hb dX7_say_36 rfl (lv_at hl 0 rfl) ?_
      refine lv_dup hx hb dX7_say_37 rfl ?_
      refine va_get (D := g.1) (ci := 7) (v := .int zsigns) (C := RX7) (T := TX7) (N := 15) hx hb hts hinX7 hown hK hP 0 rfl rfl 3 (by decide) lk1 (fun _ h9 => h9) rfl dX7_say_38 ?_
      refine lv_iconst (v := 1) hx hb dX7_say_41 (by decide) ?_
      refine lv_iadd hx hb dX7_say_42 ?_
      refine va_put (D := g.1) (ci := 7) (v := .int (zsigns + 1)) (ty := .int) (C := RX7) (T := TX7) (N := 15) hx hb hts hinX7 tyX7 tyX7_ok nmX7 hown hK hP hD hS 0 rfl rfl 3 (by decide) lk1 (fun _ h9 => h9) rfl (by decide +kernel) rfl rfl (Nat.le_of_ble_eq_true rfl) dX7_say_43 (fun H locs hP hD hS => ?_)
      have hP : PP g [(h0, .inr (7, [.ref a_clues, .int zmany, .ref a_text, .int (zsigns + 1), .int zfault, .ref a_orders, .ref a_places, .int zsought, .int zfirst, .int zsecond, .ref a_lefts, .ref a_steps, .int zmade, .ref a_image, .ref a_isKept])), (a_clues, .inl (g.2.1, 60, .inl zclues)), (a_text, .inl (g.2.1, 10, .inl (upd ztext zsigns.toNatClampNeg x1))), (a_orders, .inl (g.2.1, 96, .inl zorders)), (a_places, .inl (g.2.1, 16, .inl zplaces)), (a_lefts, .inl (g.2.1, 16, .inl zlefts)), (a_steps, .inl (g.2.1, 256, .inl zsteps)), (a_image, .inl (g.2.1, 122, .inl zimage)), (a_isKept, .inl (g.2.2.1, 2, .inl zisKept))] H := hP
      have hD : va_D A [(h0, .inr (7, [.ref a_clues, .int zmany, .ref a_text, .int (zsigns + 1), .int zfault, .ref a_orders, .ref a_places, .int zsought, .int zfirst, .int zsecond, .ref a_lefts, .ref a_steps, .int zmade, .ref a_image, .ref a_isKept])), (a_clues, .inl (g.2.1, 60, .inl zclues)), (a_text, .inl (g.2.1, 10, .inl (upd ztext zsigns.toNatClampNeg x1))), (a_orders, .inl (g.2.1, 96, .inl zorders)), (a_places, .inl (g.2.1, 16, .inl zplaces)), (a_lefts, .inl (g.2.1, 16, .inl zlefts)), (a_steps, .inl (g.2.1, 256, .inl zsteps)), (a_image, .inl (g.2.1, 122, .inl zimage)), (a_isKept, .inl (g.2.2.1, 2, .inl zisKept))] := hD
      refine lv_aload_n hx hb dX7_say_46 rfl (lv_at hl 0 rfl) ?_
      refine va_get (D := g.1) (ci := 7) (v := .int (zsigns + 1)) (C := RX7) (T := TX7) (N := 15) hx hb hts hinX7 hown hK hP 0 rfl rfl 3 (by decide) lk1 (fun _ h9 => h9) rfl dX7_say_47 ?_
      exact W.iret hx hb hr (fun t ht hW => ⟨⟨(zsigns + 1), ((zsigns + 1), (upd ztext zsigns.toNatClampNeg x1)), rfl, hw, by rw [ht]; exact hP, va_K.moved hW.alike hK, hD⟩, hS.F ht⟩) hS.2.2 dX7_say_50
    · replace hw := hw.1 c3
      refine lv_bipush (v := (-4)) hx hb dX7_say_23 (by decide) ?_
      exact W.iret hx hb hr (fun t ht hW => ⟨⟨(-4), (zsigns, ztext), rfl, hw, by rw [ht]; exact hP, va_K.moved hW.alike hK, hD⟩, hS.F ht⟩) hS.2.2 dX7_say_25
  · replace hw := hw.1 c2
    refine lv_bipush (v := (-2)) hx hb dX7_say_11 (by decide) ?_
    exact W.iret hx hb hr (fun t ht hW => ⟨⟨(-2), (zsigns, ztext), rfl, hw, by rw [ht]; exact hP, va_K.moved hW.alike hK, hD⟩, hS.F ht⟩) hS.2.2 dX7_say_13

def wp_X7_wipe (zsigns : Int32) (Q : Int32 → Int32 → Prop) : Prop :=
  Q zsigns 0
theorem hd_X7_wipe : yX7_wipe.cls = RX7 ∧ yX7_wipe.cls ≠ "java/lang/invoke/MethodHandle" ∧ yX7_wipe.cls ≠ "java/lang/invoke/VarHandle" ∧ (parseMethodDescriptor yX7_wipe.desc).map (fun d => d.parameters.length) = some 0 := by decide +kernel
set_option maxHeartbeats 4000000 in
set_option maxRecDepth 100000 in
theorem m_X7_wipe (l : Launch) (g : GG) {ro : Ro} (hok : RoOK ro) {h0 a_clues a_text a_orders a_places a_lefts a_steps a_image a_isKept : Nat} {zclues : Nat → Int32} {zmany : Int32} {ztext : Nat → Int32} {zsigns : Int32} {zfault : Int32} {zorders : Nat → Int32} {zplaces : Nat → Int32} {zsought : Int32} {zfirst : Int32} {zsecond : Int32} {zlefts : Nat → Int32} {zsteps : Nat → Int32} {zmade : Int32} {zimage : Nat → Int32} {zisKept : Nat → Int32} {sz : Nat} {Q : Int32 → Int32 → Prop} (hw : wp_X7_wipe zsigns Q) : Met l yX7_wipe wsX7_wipe ({ frames := 0, cells := 0, slots := 0, locals := 0 } : Room) (PcM g ro [(h0, .inr (7, [.ref a_clues, .int zmany, .ref a_text, .int zsigns, .int zfault, .ref a_orders, .ref a_places, .int zsought, .int zfirst, .int zsecond, .ref a_lefts, .ref a_steps, .int zmade, .ref a_image, .ref a_isKept])), (a_clues, .inl (g.2.1, 60, .inl zclues)), (a_text, .inl (g.2.1, 10, .inl ztext)), (a_orders, .inl (g.2.1, 96, .inl zorders)), (a_places, .inl (g.2.1, 16, .inl zplaces)), (a_lefts, .inl (g.2.1, 16, .inl zlefts)), (a_steps, .inl (g.2.1, 256, .inl zsteps)), (a_image, .inl (g.2.1, 122, .inl zimage)), (a_isKept, .inl (g.2.2.1, 2, .inl zisKept))] sz [.ref h0]) (va_Qi (fun (r : Int32) (u : Int32) => Q r u) (BM g (fun u : Int32 => [(h0, .inr (7, [.ref a_clues, .int zmany, .ref a_text, .int u, .int zfault, .ref a_orders, .ref a_places, .int zsought, .int zfirst, .int zsecond, .ref a_lefts, .ref a_steps, .int zmade, .ref a_image, .ref a_isKept])), (a_clues, .inl (g.2.1, 60, .inl zclues)), (a_text, .inl (g.2.1, 10, .inl ztext)), (a_orders, .inl (g.2.1, 96, .inl zorders)), (a_places, .inl (g.2.1, 16, .inl zplaces)), (a_lefts, .inl (g.2.1, 16, .inl zlefts)), (a_steps, .inl (g.2.1, 256, .inl zsteps)), (a_image, .inl (g.2.1, 122, .inl zimage)), (a_isKept, .inl (g.2.2.1, 2, .inl zisKept))]) (va_A [(h0, .inr (7, [.ref a_clues, .int zmany, .ref a_text, .int zsigns, .int zfault, .ref a_orders, .ref a_places, .int zsought, .int zfirst, .int zsecond, .ref a_lefts, .ref a_steps, .int zmade, .ref a_image, .ref a_isKept])), (a_clues, .inl (g.2.1, 60, .inl zclues)), (a_text, .inl (g.2.1, 10, .inl ztext)), (a_orders, .inl (g.2.1, 96, .inl zorders)), (a_places, .inl (g.2.1, 16, .inl zplaces)), (a_lefts, .inl (g.2.1, 16, .inl zlefts)), (a_steps, .inl (g.2.1, 256, .inl zsteps)), (a_image, .inl (g.2.1, 122, .inl zimage)), (a_isKept, .inl (g.2.2.1, 2, .inl zisKept))] sz)) (va_A [(h0, .inr (7, [.ref a_clues, .int zmany, .ref a_text, .int zsigns, .int zfault, .ref a_orders, .ref a_places, .int zsought, .int zfirst, .int zsecond, .ref a_lefts, .ref a_steps, .int zmade, .ref a_image, .ref a_isKept])), (a_clues, .inl (g.2.1, 60, .inl zclues)), (a_text, .inl (g.2.1, 10, .inl ztext)), (a_orders, .inl (g.2.1, 96, .inl zorders)), (a_places, .inl (g.2.1, 16, .inl zplaces)), (a_lefts, .inl (g.2.1, 16, .inl zlefts)), (a_steps, .inl (g.2.1, 256, .inl zsteps)), (a_image, .inl (g.2.1, 122, .inl zimage)), (a_isKept, .inl (g.2.2.1, 2, .inl zisKept))] sz)) 0 0 (va_A [(h0, .inr (7, [.ref a_clues, .int zmany, .ref a_text, .int zsigns, .int zfault, .ref a_orders, .ref a_places, .int zsought, .int zfirst, .int zsecond, .ref a_lefts, .ref a_steps, .int zmade, .ref a_image, .ref a_isKept])), (a_clues, .inl (g.2.1, 60, .inl zclues)), (a_text, .inl (g.2.1, 10, .inl ztext)), (a_orders, .inl (g.2.1, 96, .inl zorders)), (a_places, .inl (g.2.1, 16, .inl zplaces)), (a_lefts, .inl (g.2.1, 16, .inl zlefts)), (a_steps, .inl (g.2.1, 256, .inl zsteps)), (a_image, .inl (g.2.1, 122, .inl zimage)), (a_isKept, .inl (g.2.2.1, 2, .inl zisKept))] sz) := by
  refine Met.ofW (cc := cX7_wipe) (maxL := 2) (ret := (some .int)) (by decide) rfl ?_
  intro p e s m args below meth c s₁ B hml hv
  obtain ⟨rfl, hsz, hP, hK, hD0, hro⟩ := hv
  have hx := B.exec
  have hb := B.bytes
  have hr := B.returns
  have hts := atoms_spec (ws := wsX7_wipe) B.pre
  have hown : s.vm.findClass RX7 = some m.cls := findClass_of_methodNamed B.named
  have hlocks := B.notSynchronized
  subst hsz
  have hD := hD0.self (sz := s.heap.size)
  generalize hAe : va_A [(h0, .inr (7, [.ref a_clues, .int zmany, .ref a_text, .int zsigns, .int zfault, .ref a_orders, .ref a_places, .int zsought, .int zfirst, .int zsecond, .ref a_lefts, .ref a_steps, .int zmade, .ref a_image, .ref a_isKept])), (a_clues, .inl (g.2.1, 60, .inl zclues)), (a_text, .inl (g.2.1, 10, .inl ztext)), (a_orders, .inl (g.2.1, 96, .inl zorders)), (a_places, .inl (g.2.1, 16, .inl zplaces)), (a_lefts, .inl (g.2.1, 16, .inl zlefts)), (a_steps, .inl (g.2.1, 256, .inl zsteps)), (a_image, .inl (g.2.1, 122, .inl zimage)), (a_isKept, .inl (g.2.2.1, 2, .inl zisKept))] s.heap.size = A at hD hro ⊢
  have hA : ∀ q : Nat, s.heap.size ≤ q → A q := fun q h => by rw [← hAe]; exact Or.inr h
  have hS : va_S A s.heap s.heap [] := va_S.rf
  have hP : PP g [(h0, .inr (7, [.ref a_clues, .int zmany, .ref a_text, .int zsigns, .int zfault, .ref a_orders, .ref a_places, .int zsought, .int zfirst, .int zsecond, .ref a_lefts, .ref a_steps, .int zmade, .ref a_image, .ref a_isKept])), (a_clues, .inl (g.2.1, 60, .inl zclues)), (a_text, .inl (g.2.1, 10, .inl ztext)), (a_orders, .inl (g.2.1, 96, .inl zorders)), (a_places, .inl (g.2.1, 16, .inl zplaces)), (a_lefts, .inl (g.2.1, 16, .inl zlefts)), (a_steps, .inl (g.2.1, 256, .inl zsteps)), (a_image, .inl (g.2.1, 122, .inl zimage)), (a_isKept, .inl (g.2.2.1, 2, .inl zisKept))] s.heap := hP
  have lk1 := hts (.fieldLink RX7 46 "GridRiddlesModel" "signs" "I") (by decide +kernel)
  have hinX7 : ∀ w ∈ u_ws RX7 TX7 15, w ∈ wsX7_wipe := by decide +kernel
  have hl := lv_entry ([.ref h0]) (n := 2) (Nat.le_of_ble_eq_true rfl)
  rw [lg_entry_eq]
  generalize (lg_sl ([.ref h0]) ++ List.replicate (2 - (lg_sl ([.ref h0])).length) Slot.unset).toArray = ls at hl ⊢
  have hl : lv_has ls 2 [(0, .ref h0)] := hl
  unfold wp_X7_wipe at hw
  refine lv_aload_n hx hb dX7_wipe_0 rfl (lv_at hl 0 rfl) ?_
  refine va_get (D := g.1) (ci := 7) (v := .int zsigns) (C := RX7) (T := TX7) (N := 15) hx hb hts hinX7 hown hK hP 0 rfl rfl 3 (by decide) lk1 (fun _ h9 => h9) rfl dX7_wipe_1 ?_
  refine lv_istore_n (lv' := [(1, .int zsigns), (0, .ref h0)]) hx hb dX7_wipe_4 rfl hl (by decide) rfl (fun ls hl => ?_)
  refine lv_aload_n hx hb dX7_wipe_5 rfl (lv_at hl 1 rfl) ?_
  refine lv_iconst (v := 0) hx hb dX7_wipe_6 (by decide) ?_
  refine va_put (D := g.1) (ci := 7) (v := .int 0) (ty := .int) (C := RX7) (T := TX7) (N := 15) hx hb hts hinX7 tyX7 tyX7_ok nmX7 hown hK hP hD hS 0 rfl rfl 3 (by decide) lk1 (fun _ h9 => h9) rfl (by decide +kernel) rfl rfl (Nat.le_of_ble_eq_true rfl) dX7_wipe_7 (fun H locs hP hD hS => ?_)
  have hP : PP g [(h0, .inr (7, [.ref a_clues, .int zmany, .ref a_text, .int 0, .int zfault, .ref a_orders, .ref a_places, .int zsought, .int zfirst, .int zsecond, .ref a_lefts, .ref a_steps, .int zmade, .ref a_image, .ref a_isKept])), (a_clues, .inl (g.2.1, 60, .inl zclues)), (a_text, .inl (g.2.1, 10, .inl ztext)), (a_orders, .inl (g.2.1, 96, .inl zorders)), (a_places, .inl (g.2.1, 16, .inl zplaces)), (a_lefts, .inl (g.2.1, 16, .inl zlefts)), (a_steps, .inl (g.2.1, 256, .inl zsteps)), (a_image, .inl (g.2.1, 122, .inl zimage)), (a_isKept, .inl (g.2.2.1, 2, .inl zisKept))] H := hP
  have hD : va_D A [(h0, .inr (7, [.ref a_clues, .int zmany, .ref a_text, .int 0, .int zfault, .ref a_orders, .ref a_places, .int zsought, .int zfirst, .int zsecond, .ref a_lefts, .ref a_steps, .int zmade, .ref a_image, .ref a_isKept])), (a_clues, .inl (g.2.1, 60, .inl zclues)), (a_text, .inl (g.2.1, 10, .inl ztext)), (a_orders, .inl (g.2.1, 96, .inl zorders)), (a_places, .inl (g.2.1, 16, .inl zplaces)), (a_lefts, .inl (g.2.1, 16, .inl zlefts)), (a_steps, .inl (g.2.1, 256, .inl zsteps)), (a_image, .inl (g.2.1, 122, .inl zimage)), (a_isKept, .inl (g.2.2.1, 2, .inl zisKept))] := hD
  refine lv_iload_n hx hb dX7_wipe_10 rfl (lv_at hl 0 rfl) ?_
  exact W.iret hx hb hr (fun t ht hW => ⟨⟨zsigns, (0), rfl, hw, by rw [ht]; exact hP, va_K.moved hW.alike hK, hD⟩, hS.F ht⟩) hS.2.2 dX7_wipe_11

def wp_X7_kindOf (x1 : Int32) (Q : Int32 → Prop) : Prop :=
  ((x1 = 61 → Q 0) ∧ (¬ (x1 = 61) → ((x1 = 33 → Q 1) ∧ (¬ (x1 = 33) → ((x1 = 60 → Q 2) ∧ (¬ (x1 = 60) → ((x1 = 43 → Q 3) ∧ (¬ (x1 = 43) → ((x1 = 126 → Q 4) ∧ (¬ (x1 = 126) → ((x1 = 64 → Q 5) ∧ (¬ (x1 = 64) → Q (-6)))))))))))))
theorem hd_X7_kindOf : yX7_kindOf.cls ≠ "java/lang/invoke/MethodHandle" ∧ yX7_kindOf.cls ≠ "java/lang/invoke/VarHandle" ∧ (parseMethodDescriptor yX7_kindOf.desc).map (fun d => d.parameters.length) = some 1 := by decide +kernel
set_option maxHeartbeats 4000000 in
set_option maxRecDepth 100000 in
theorem m_X7_kindOf (l : Launch) (g : GG) {ro : Ro} (hok : RoOK ro) {x1 : Int32} {Q : Int32 → Prop} (hw : wp_X7_kindOf x1 Q) : Met l yX7_kindOf wsX7_kindOf ({ frames := 0, cells := 0, slots := 0, locals := 0 } : Room) (PcP g ro [] [.int x1]) (vp_Si Q) 0 0 (fun _ => False) := by
  refine Met.ofW (cc := cX7_kindOf) (maxL := 1) (ret := (some .int)) (by decide) rfl ?_
  intro p e s m args below meth c s₁ B hml hv
  obtain ⟨rfl, hP, hK, hro⟩ := hv
  have hx := B.exec
  have hb := B.bytes
  have hr := B.returns
  have hts := atoms_spec (ws := wsX7_kindOf) B.pre
  have hown : s.vm.findClass RX7 = some m.cls := findClass_of_methodNamed B.named
  have hlocks := B.notSynchronized
  have hA : ∀ q : Nat, s.heap.size ≤ q → (fun q : Nat => s.heap.size ≤ q) q := fun _ h => h
  have hS : va_S (fun q : Nat => s.heap.size ≤ q) s.heap s.heap [] := va_S.rf
  have hP : PP g [] s.heap := hP
  have hl := lv_entry ([.int x1]) (n := 1) (Nat.le_of_ble_eq_true rfl)
  rw [lg_entry_eq]
  generalize (lg_sl ([.int x1]) ++ List.replicate (1 - (lg_sl ([.int x1])).length) Slot.unset).toArray = ls at hl ⊢
  have hl : lv_has ls 1 [(0, .int x1)] := hl
  unfold wp_X7_kindOf at hw
  refine lv_iload_n hx hb dX7_kindOf_0 rfl (lv_at hl 0 rfl) ?_
  refine lv_bipush (v := 61) hx hb dX7_kindOf_1 (by decide) ?_
  refine lv_icmp_ne (tgt := 10) hx hb dX7_kindOf_3 (by decide) (fun c1 => ?_) (fun c1 => ?_)
  · replace hw := hw.2 c1
    refine lv_iload_n hx hb dX7_kindOf_10 rfl (lv_at hl 0 rfl) ?_
    refine lv_bipush (v := 33) hx hb dX7_kindOf_11 (by decide) ?_
    refine lv_icmp_ne (tgt := 20) hx hb dX7_kindOf_13 (by decide) (fun c2 => ?_) (fun c2 => ?_)
    · replace hw := hw.2 c2
      refine lv_iload_n hx hb dX7_kindOf_20 rfl (lv_at hl 0 rfl) ?_
      refine lv_bipush (v := 60) hx hb dX7_kindOf_21 (by decide) ?_
      refine lv_icmp_ne (tgt := 30) hx hb dX7_kindOf_23 (by decide) (fun c3 => ?_) (fun c3 => ?_)
      · replace hw := hw.2 c3
        refine lv_iload_n hx hb dX7_kindOf_30 rfl (lv_at hl 0 rfl) ?_
        refine lv_bipush (v := 43) hx hb dX7_kindOf_31 (by decide) ?_
        refine lv_icmp_ne (tgt := 40) hx hb dX7_kindOf_33 (by decide) (fun c4 => ?_) (fun c4 => ?_)
        · replace hw := hw.2 c4
          refine lv_iload_n hx hb dX7_kindOf_40 rfl (lv_at hl 0 rfl) ?_
          refine lv_bipush (v := 126) hx hb dX7_kindOf_41 (by decide) ?_
          refine lv_icmp_ne (tgt := 50) hx hb dX7_kindOf_43 (by decide) (fun c5 => ?_) (fun c5 => ?_)
          · replace hw := hw.2 c5
            refine lv_iload_n hx hb dX7_kindOf_50 rfl (lv_at hl 0 rfl) ?_
            refine lv_bipush (v := 64) hx hb dX7_kindOf_51 (by decide) ?_
            refine lv_icmp_ne (tgt := 60) hx hb dX7_kindOf_53 (by decide) (fun c6 => ?_) (fun c6 => ?_)
            · replace hw := hw.2 c6
              refine lv_bipush (v := (-6)) hx hb dX7_kindOf_60 (by decide) ?_
              exact W.iret hx hb hr (fun t ht _ => ⟨(-6), rfl, hw, ht⟩) t_nil dX7_kindOf_62
            · replace hw := hw.1 c6
              refine lv_iconst (v := 5) hx hb dX7_kindOf_56 (by decide) ?_
              refine lv_goto (tgt := 62) hx hb dX7_kindOf_57 (by decide) ?_
              exact W.iret hx hb hr (fun t ht _ => ⟨5, rfl, hw, ht⟩) t_nil dX7_kindOf_62
          · replace hw := hw.1 c5
            refine lv_iconst (v := 4) hx hb dX7_kindOf_46 (by decide) ?_
            refine lv_goto (tgt := 62) hx hb dX7_kindOf_47 (by decide) ?_
            exact W.iret hx hb hr (fun t ht _ => ⟨4, rfl, hw, ht⟩) t_nil dX7_kindOf_62
        · replace hw := hw.1 c4
          refine lv_iconst (v := 3) hx hb dX7_kindOf_36 (by decide) ?_
          refine lv_goto (tgt := 62) hx hb dX7_kindOf_37 (by decide) ?_
          exact W.iret hx hb hr (fun t ht _ => ⟨3, rfl, hw, ht⟩) t_nil dX7_kindOf_62
      · replace hw := hw.1 c3
        refine lv_iconst (v := 2) hx hb dX7_kindOf_26 (by decide) ?_
        refine lv_goto (tgt := 62) hx hb dX7_kindOf_27 (by decide) ?_
        exact W.iret hx hb hr (fun t ht _ => ⟨2, rfl, hw, ht⟩) t_nil dX7_kindOf_62
    · replace hw := hw.1 c2
      refine lv_iconst (v := 1) hx hb dX7_kindOf_16 (by decide) ?_
      refine lv_goto (tgt := 62) hx hb dX7_kindOf_17 (by decide) ?_
      exact W.iret hx hb hr (fun t ht _ => ⟨1, rfl, hw, ht⟩) t_nil dX7_kindOf_62
  · replace hw := hw.1 c1
    refine lv_iconst (v := 0) hx hb dX7_kindOf_6 (by decide) ?_
    refine lv_goto (tgt := 62) hx hb dX7_kindOf_7 (by decide) ?_
    exact W.iret hx hb hr (fun t ht _ => ⟨0, rfl, hw, ht⟩) t_nil dX7_kindOf_62

def wp_X7_canStand (x1 : Int32) (ztext : Nat → Int32) (Q : Int32 → Prop) : Prop :=
  (vp_in x1 10 ∧ ∀ w1 : Int32, w1 = (ztext x1.toNatClampNeg) → (wp_X7_in w1 97 100 (fun r2 => (wp_X7_in w1 49 52 (fun r3 => ((x1 = 0 → (zb r2 ∧ Q r2)) ∧ (x1 = 1 → (zb r3 ∧ Q r3)) ∧ (x1 = 2 → (wp_X7_kindOf w1 (fun r5 => ((r5 < 0 → Q 0) ∧ (¬ (r5 < 0) → Q 1))))) ∧ (x1 = 3 → (((ztext (2 : Int32).toNatClampNeg) = 64 → (zb r3 ∧ Q r3)) ∧ (¬ ((ztext (2 : Int32).toNatClampNeg) = 64) → (zb r2 ∧ Q r2)))) ∧ (x1 = 4 → (((ztext (2 : Int32).toNatClampNeg) = 64 → Q 0) ∧ (¬ ((ztext (2 : Int32).toNatClampNeg) = 64) → ((r3 = 0 → Q 0) ∧ (¬ (r3 = 0) → Q 1))))) ∧ (x1 = 5 → (((ztext (2 : Int32).toNatClampNeg) = 61 → ((w1 = 124 → Q 1) ∧ (¬ (w1 = 124) → Q 0))) ∧ (¬ ((ztext (2 : Int32).toNatClampNeg) = 61) → Q 0))) ∧ (x1 = 6 → (zb r2 ∧ Q r2)) ∧ (x1 = 7 → (zb r3 ∧ Q r3)) ∧ (¬ x1 = 0 ∧ ¬ x1 = 1 ∧ ¬ x1 = 2 ∧ ¬ x1 = 3 ∧ ¬ x1 = 4 ∧ ¬ x1 = 5 ∧ ¬ x1 = 6 ∧ ¬ x1 = 7 → Q 0)))))))
theorem hd_X7_canStand : yX7_canStand.cls = RX7 ∧ yX7_canStand.cls ≠ "java/lang/invoke/MethodHandle" ∧ yX7_canStand.cls ≠ "java/lang/invoke/VarHandle" ∧ (parseMethodDescriptor yX7_canStand.desc).map (fun d => d.parameters.length) = some 1 := by decide +kernel
set_option maxHeartbeats 4000000 in
set_option maxRecDepth 100000 in
theorem m_X7_canStand (l : Launch) (g : GG) {ro : Ro} (hok : RoOK ro) {h0 a_clues a_text a_orders a_places a_lefts a_steps a_image a_isKept : Nat} {zclues : Nat → Int32} {zmany : Int32} {ztext : Nat → Int32} {zsigns : Int32} {zfault : Int32} {zorders : Nat → Int32} {zplaces : Nat → Int32} {zsought : Int32} {zfirst : Int32} {zsecond : Int32} {zlefts : Nat → Int32} {zsteps : Nat → Int32} {zmade : Int32} {zimage : Nat → Int32} {zisKept : Nat → Int32} {x1 : Int32} {Q : Int32 → Prop} (hw : wp_X7_canStand x1 ztext Q) : Met l yX7_canStand wsX7_canStand ({ frames := 1, cells := 0, slots := 0, locals := 22 } : Room) (PcP g ro [(h0, .inr (7, [.ref a_clues, .int zmany, .ref a_text, .int zsigns, .int zfault, .ref a_orders, .ref a_places, .int zsought, .int zfirst, .int zsecond, .ref a_lefts, .ref a_steps, .int zmade, .ref a_image, .ref a_isKept])), (a_clues, .inl (g.2.1, 60, .inl zclues)), (a_text, .inl (g.2.1, 10, .inl ztext)), (a_orders, .inl (g.2.1, 96, .inl zorders)), (a_places, .inl (g.2.1, 16, .inl zplaces)), (a_lefts, .inl (g.2.1, 16, .inl zlefts)), (a_steps, .inl (g.2.1, 256, .inl zsteps)), (a_image, .inl (g.2.1, 122, .inl zimage)), (a_isKept, .inl (g.2.2.1, 2, .inl zisKept))] [.ref h0, .int x1]) (vp_Si Q) 0 0 (fun _ => False) := by
  refine Met.ofW (cc := cX7_canStand) (maxL := 5) (ret := (some .boolean)) (by decide) rfl ?_
  intro p e s m args below meth c s₁ B hml hv
  obtain ⟨rfl, hP, hK, hro⟩ := hv
  have hx := B.exec
  have hb := B.bytes
  have hr := B.returns
  have hts := atoms_spec (ws := wsX7_canStand) B.pre
  have hown : s.vm.findClass RX7 = some m.cls := findClass_of_methodNamed B.named
  have hlocks := B.notSynchronized
  have hA : ∀ q : Nat, s.heap.size ≤ q → (fun q : Nat => s.heap.size ≤ q) q := fun _ h => h
  have hS : va_S (fun q : Nat => s.heap.size ≤ q) s.heap s.heap [] := va_S.rf
  have hP : PP g [(h0, .inr (7, [.ref a_clues, .int zmany, .ref a_text, .int zsigns, .int zfault, .ref a_orders, .ref a_places, .int zsought, .int zfirst, .int zsecond, .ref a_lefts, .ref a_steps, .int zmade, .ref a_image, .ref a_isKept])), (a_clues, .inl (g.2.1, 60, .inl zclues)), (a_text, .inl (g.2.1, 10, .inl ztext)), (a_orders, .inl (g.2.1, 96, .inl zorders)), (a_places, .inl (g.2.1, 16, .inl zplaces)), (a_lefts, .inl (g.2.1, 16, .inl zlefts)), (a_steps, .inl (g.2.1, 256, .inl zsteps)), (a_image, .inl (g.2.1, 122, .inl zimage)), (a_isKept, .inl (g.2.2.1, 2, .inl zisKept))] s.heap := hP
  have lk1 := hts (.fieldLink RX7 13 "GridRiddlesModel" "text" "[I") (by decide +kernel)
  have hinX7 : ∀ w ∈ u_ws RX7 TX7 15, w ∈ wsX7_canStand := by decide +kernel
  have hl := lv_entry ([.ref h0, .int x1]) (n := 5) (Nat.le_of_ble_eq_true rfl)
  rw [lg_entry_eq]
  generalize (lg_sl ([.ref h0, .int x1]) ++ List.replicate (5 - (lg_sl ([.ref h0, .int x1])).length) Slot.unset).toArray = ls at hl ⊢
  have hl : lv_has ls 5 [(0, .ref h0), (1, .int x1)] := hl
  unfold wp_X7_canStand at hw
  refine lv_aload_n hx hb dX7_canStand_0 rfl (lv_at hl 0 rfl) ?_
  refine va_get (D := g.1) (ci := 7) (v := .ref a_text) (C := RX7) (T := TX7) (N := 15) hx hb hts hinX7 hown hK hP 0 rfl rfl 2 (by decide) lk1 (fun _ h9 => h9) rfl dX7_canStand_1 ?_
  refine lv_iload_n hx hb dX7_canStand_4 rfl (lv_at hl 1 rfl) ?_
  obtain ⟨hi, hw⟩ := hw
  refine va_iald hx hb hK hP 2 0 rfl rfl hi dX7_canStand_5 ?_
  refine lv_topi (fun w1 ew1 => ?_)
  have hw := hw w1 ew1
  refine lv_istore_n (lv' := [(2, .int w1), (0, .ref h0), (1, .int x1)]) hx hb dX7_canStand_6 rfl hl (by decide) rfl (fun ls hl => ?_)
  refine lv_iload_n hx hb dX7_canStand_7 rfl (lv_at hl 0 rfl) ?_
  refine lv_bipush (v := 97) hx hb dX7_canStand_8 (by decide) ?_
  refine lv_bipush (v := 100) hx hb dX7_canStand_10 (by decide) ?_
  refine kp_S (As := [.int w1, .int 97, .int 100]) (rest := []) (wc := []) ⟨hx, hb, hml, hown, hts⟩ (m_X7_in l g hok (x1 := w1) (x2 := 97) (x3 := 100) hw) (va_cwS 3 hts gX7_canStand_X7_in rfl rfl rfl hd_X7_in ⟨Nat.le_of_ble_eq_true rfl, Nat.le_of_ble_eq_true rfl⟩) hok hK PP_nil hro hS hA rfl hl.1 rfl (Nat.le_of_ble_eq_true rfl) dX7_canStand_12 ⟨Nat.le_of_ble_eq_true rfl, Nat.le_of_ble_eq_true rfl⟩ (fun r2 hw => ?_)
  refine lv_istore_n (lv' := [(3, .int r2), (2, .int w1), (0, .ref h0), (1, .int x1)]) hx hb dX7_canStand_15 rfl hl (by decide) rfl (fun ls hl => ?_)
  refine lv_iload_n hx hb dX7_canStand_16 rfl (lv_at hl 1 rfl) ?_
  refine lv_bipush (v := 49) hx hb dX7_canStand_17 (by decide) ?_
  refine lv_bipush (v := 52) hx hb dX7_canStand_19 (by decide) ?_
  refine kp_S (As := [.int w1, .int 49, .int 52]) (rest := []) (wc := []) ⟨hx, hb, hml, hown, hts⟩ (m_X7_in l g hok (x1 := w1) (x2 := 49) (x3 := 52) hw) (va_cwS 3 hts gX7_canStand_X7_in rfl rfl rfl hd_X7_in ⟨Nat.le_of_ble_eq_true rfl, Nat.le_of_ble_eq_true rfl⟩) hok hK PP_nil hro hS hA rfl hl.1 rfl (Nat.le_of_ble_eq_true rfl) dX7_canStand_21 ⟨Nat.le_of_ble_eq_true rfl, Nat.le_of_ble_eq_true rfl⟩ (fun r3 hw => ?_)
  refine lv_istore (lv' := [(4, .int r3), (3, .int r2), (2, .int w1), (0, .ref h0), (1, .int x1)]) hx hb dX7_canStand_24 hl (by decide) rfl (fun ls hl => ?_)
  refine lv_iload_n hx hb dX7_canStand_26 rfl (lv_at hl 4 rfl) ?_
  by_cases c4_0 : x1 = 0
  · refine lv_tableIn (tgt := 72) hx hb dX7_canStand_27 (by rw [c4_0]; decide) (by rw [c4_0]; decide) (by rw [c4_0]; rfl) (by decide) ?_
    replace hw := hw.1 c4_0
    refine lv_iload_n hx hb dX7_canStand_72 rfl (lv_at hl 1 rfl) ?_
    obtain ⟨hz, hw⟩ := hw
    exact W.zret hx hb hr (zb_nar hz) (fun t ht _ => ⟨r2, rfl, hw, ht⟩) t_nil dX7_canStand_73
  replace hw := hw.2
  by_cases c4_1 : x1 = 1
  · refine lv_tableIn (tgt := 74) hx hb dX7_canStand_27 (by rw [c4_1]; decide) (by rw [c4_1]; decide) (by rw [c4_1]; rfl) (by decide) ?_
    replace hw := hw.1 c4_1
    refine lv_iload hx hb dX7_canStand_74 (lv_at hl 0 rfl) ?_
    obtain ⟨hz, hw⟩ := hw
    exact W.zret hx hb hr (zb_nar hz) (fun t ht _ => ⟨r3, rfl, hw, ht⟩) t_nil dX7_canStand_76
  replace hw := hw.2
  by_cases c4_2 : x1 = 2
  · refine lv_tableIn (tgt := 77) hx hb dX7_canStand_27 (by rw [c4_2]; decide) (by rw [c4_2]; decide) (by rw [c4_2]; rfl) (by decide) ?_
    replace hw := hw.1 c4_2
    refine lv_iload_n hx hb dX7_canStand_77 rfl (lv_at hl 2 rfl) ?_
    refine kp_S (As := [.int w1]) (rest := []) (wc := []) ⟨hx, hb, hml, hown, hts⟩ (m_X7_kindOf l g hok (x1 := w1) hw) (va_cwS 1 hts gX7_canStand_X7_kindOf rfl rfl rfl hd_X7_kindOf ⟨Nat.le_of_ble_eq_true rfl, Nat.le_of_ble_eq_true rfl⟩) hok hK PP_nil hro hS hA rfl hl.1 rfl (Nat.le_of_ble_eq_true rfl) dX7_canStand_78 ⟨Nat.le_of_ble_eq_true rfl, Nat.le_of_ble_eq_true rfl⟩ (fun r5 hw => ?_)
    refine lv_if_lt (tgt := 88) hx hb dX7_canStand_81 (by decide) (fun c6 => ?_) (fun c6 => ?_)
    · replace hw := hw.1 c6
      refine lv_iconst (v := 0) hx hb dX7_canStand_88 (by decide) ?_
      exact W.zret hx hb hr (zb_nar zb0) (fun t ht _ => ⟨0, rfl, hw, ht⟩) t_nil dX7_canStand_89
    · replace hw := hw.2 c6
      refine lv_iconst (v := 1) hx hb dX7_canStand_84 (by decide) ?_
      refine lv_goto (tgt := 89) hx hb dX7_canStand_85 (by decide) ?_
      exact W.zret hx hb hr (zb_nar zb1) (fun t ht _ => ⟨1, rfl, hw, ht⟩) t_nil dX7_canStand_89
  replace hw := hw.2
  by_cases c4_3 : x1 = 3
  · refine lv_tableIn (tgt := 90) hx hb dX7_canStand_27 (by rw [c4_3]; decide) (by rw [c4_3]; decide) (by rw [c4_3]; rfl) (by decide) ?_
    replace hw := hw.1 c4_3
    refine lv_aload_n hx hb dX7_canStand_90 rfl (lv_at hl 3 rfl) ?_
    refine va_get (D := g.1) (ci := 7) (v := .ref a_text) (C := RX7) (T := TX7) (N := 15) hx hb hts hinX7 hown hK hP 0 rfl rfl 2 (by decide) lk1 (fun _ h9 => h9) rfl dX7_canStand_91 ?_
    refine lv_iconst (v := 2) hx hb dX7_canStand_94 (by decide) ?_
    refine va_iald hx hb hK hP 2 0 rfl rfl (vin (by decide)) dX7_canStand_95 ?_
    refine lv_bipush (v := 64) hx hb dX7_canStand_96 (by decide) ?_
    refine lv_icmp_ne (tgt := 106) hx hb dX7_canStand_98 (by decide) (fun c7 => ?_) (fun c7 => ?_)
    · replace hw := hw.2 c7
      refine lv_iload_n hx hb dX7_canStand_106 rfl (lv_at hl 1 rfl) ?_
      obtain ⟨hz, hw⟩ := hw
      exact W.zret hx hb hr (zb_nar hz) (fun t ht _ => ⟨r2, rfl, hw, ht⟩) t_nil dX7_canStand_107
    · replace hw := hw.1 c7
      refine lv_iload hx hb dX7_canStand_101 (lv_at hl 0 rfl) ?_
      refine lv_goto (tgt := 107) hx hb dX7_canStand_103 (by decide) ?_
      obtain ⟨hz, hw⟩ := hw
      exact W.zret hx hb hr (zb_nar hz) (fun t ht _ => ⟨r3, rfl, hw, ht⟩) t_nil dX7_canStand_107
  replace hw := hw.2
  by_cases c4_4 : x1 = 4
  · refine lv_tableIn (tgt := 108) hx hb dX7_canStand_27 (by rw [c4_4]; decide) (by rw [c4_4]; decide) (by rw [c4_4]; rfl) (by decide) ?_
    replace hw := hw.1 c4_4
    refine lv_aload_n hx hb dX7_canStand_108 rfl (lv_at hl 3 rfl) ?_
    refine va_get (D := g.1) (ci := 7) (v := .ref a_text) (C := RX7) (T := TX7) (N := 15) hx hb hts hinX7 hown hK hP 0 rfl rfl 2 (by decide) lk1 (fun _ h9 => h9) rfl dX7_canStand_109 ?_
    refine lv_iconst (v := 2) hx hb dX7_canStand_112 (by decide) ?_
    refine va_iald hx hb hK hP 2 0 rfl rfl (vin (by decide)) dX7_canStand_113 ?_
    refine lv_bipush (v := 64) hx hb dX7_canStand_114 (by decide) ?_
    refine lv_icmp_eq (tgt := 128) hx hb dX7_canStand_116 (by decide) (fun c8 => ?_) (fun c8 => ?_)
    · replace hw := hw.1 c8
      refine lv_iconst (v := 0) hx hb dX7_canStand_128 (by decide) ?_
      exact W.zret hx hb hr (zb_nar zb0) (fun t ht _ => ⟨0, rfl, hw, ht⟩) t_nil dX7_canStand_129
    · replace hw := hw.2 c8
      refine lv_iload hx hb dX7_canStand_119 (lv_at hl 0 rfl) ?_
      refine lv_if_eq (tgt := 128) hx hb dX7_canStand_121 (by decide) (fun c9 => ?_) (fun c9 => ?_)
      · replace hw := hw.1 c9
        refine lv_iconst (v := 0) hx hb dX7_canStand_128 (by decide) ?_
        exact W.zret hx hb hr (zb_nar zb0) (fun t ht _ => ⟨0, rfl, hw, ht⟩) t_nil dX7_canStand_129
      · replace hw := hw.2 c9
        refine lv_iconst (v := 1) hx hb dX7_canStand_124 (by decide) ?_
        refine lv_goto (tgt := 129) hx hb dX7_canStand_125 (by decide) ?_
        exact W.zret hx hb hr (zb_nar zb1) (fun t ht _ => ⟨1, rfl, hw, ht⟩) t_nil dX7_canStand_129
  replace hw := hw.2
  by_cases c4_5 : x1 = 5
  · refine lv_tableIn (tgt := 130) hx hb dX7_canStand_27 (by rw [c4_5]; decide) (by rw [c4_5]; decide) (by rw [c4_5]; rfl) (by decide) ?_
    replace hw := hw.1 c4_5
    refine lv_aload_n hx hb dX7_canStand_130 rfl (lv_at hl 3 rfl) ?_
    refine va_get (D := g.1) (ci := 7) (v := .ref a_text) (C := RX7) (T := TX7) (N := 15) hx hb hts hinX7 hown hK hP 0 rfl rfl 2 (by decide) lk1 (fun _ h9 => h9) rfl dX7_canStand_131 ?_
    refine lv_iconst (v := 2) hx hb dX7_canStand_134 (by decide) ?_
    refine va_iald hx hb hK hP 2 0 rfl rfl (vin (by decide)) dX7_canStand_135 ?_
    refine lv_bipush (v := 61) hx hb dX7_canStand_136 (by decide) ?_
    refine lv_icmp_ne (tgt := 151) hx hb dX7_canStand_138 (by decide) (fun c10 => ?_) (fun c10 => ?_)
    · replace hw := hw.2 c10
      refine lv_iconst (v := 0) hx hb dX7_canStand_151 (by decide) ?_
      exact W.zret hx hb hr (zb_nar zb0) (fun t ht _ => ⟨0, rfl, hw, ht⟩) t_nil dX7_canStand_152
    · replace hw := hw.1 c10
      refine lv_iload_n hx hb dX7_canStand_141 rfl (lv_at hl 2 rfl) ?_
      refine lv_bipush (v := 124) hx hb dX7_canStand_142 (by decide) ?_
      refine lv_icmp_ne (tgt := 151) hx hb dX7_canStand_144 (by decide) (fun c11 => ?_) (fun c11 => ?_)
      · replace hw := hw.2 c11
        refine lv_iconst (v := 0) hx hb dX7_canStand_151 (by decide) ?_
        exact W.zret hx hb hr (zb_nar zb0) (fun t ht _ => ⟨0, rfl, hw, ht⟩) t_nil dX7_canStand_152
      · replace hw := hw.1 c11
        refine lv_iconst (v := 1) hx hb dX7_canStand_147 (by decide) ?_
        refine lv_goto (tgt := 152) hx hb dX7_canStand_148 (by decide) ?_
        exact W.zret hx hb hr (zb_nar zb1) (fun t ht _ => ⟨1, rfl, hw, ht⟩) t_nil dX7_canStand_152
  replace hw := hw.2
  by_cases c4_6 : x1 = 6
  · refine lv_tableIn (tgt := 153) hx hb dX7_canStand_27 (by rw [c4_6]; decide) (by rw [c4_6]; decide) (by rw [c4_6]; rfl) (by decide) ?_
    replace hw := hw.1 c4_6
    refine lv_iload_n hx hb dX7_canStand_153 rfl (lv_at hl 1 rfl) ?_
    obtain ⟨hz, hw⟩ := hw
    exact W.zret hx hb hr (zb_nar hz) (fun t ht _ => ⟨r2, rfl, hw, ht⟩) t_nil dX7_canStand_154
  replace hw := hw.2
  by_cases c4_7 : x1 = 7
  · refine lv_tableIn (tgt := 155) hx hb dX7_canStand_27 (by rw [c4_7]; decide) (by rw [c4_7]; decide) (by rw [c4_7]; rfl) (by decide) ?_
    replace hw := hw.1 c4_7
    refine lv_iload hx hb dX7_canStand_155 (lv_at hl 0 rfl) ?_
    obtain ⟨hz, hw⟩ := hw
    exact W.zret hx hb hr (zb_nar hz) (fun t ht _ => ⟨r3, rfl, hw, ht⟩) t_nil dX7_canStand_157
  replace hw := hw.2
  have hout : x1.toInt < 0 ∨ 7 < x1.toInt := by
    have n_c4_0 := ne_toInt c4_0
    rw [show (0 : Int32).toInt = 0 from by decide] at n_c4_0
    have n_c4_1 := ne_toInt c4_1
    rw [show (1 : Int32).toInt = 1 from by decide] at n_c4_1
    have n_c4_2 := ne_toInt c4_2
    rw [show (2 : Int32).toInt = 2 from by decide] at n_c4_2
    have n_c4_3 := ne_toInt c4_3
    rw [show (3 : Int32).toInt = 3 from by decide] at n_c4_3
    have n_c4_4 := ne_toInt c4_4
    rw [show (4 : Int32).toInt = 4 from by decide] at n_c4_4
    have n_c4_5 := ne_toInt c4_5
    rw [show (5 : Int32).toInt = 5 from by decide] at n_c4_5
    have n_c4_6 := ne_toInt c4_6
    rw [show (6 : Int32).toInt = 6 from by decide] at n_c4_6
    have n_c4_7 := ne_toInt c4_7
    rw [show (7 : Int32).toInt = 7 from by decide] at n_c4_7
    omega
  refine lv_tableOut (tgt := 158) hx hb dX7_canStand_27 hout (by decide) ?_
  replace hw := hw ⟨c4_0, c4_1, c4_2, c4_3, c4_4, c4_5, c4_6, c4_7⟩
  refine lv_iconst (v := 0) hx hb dX7_canStand_158 (by decide) ?_
  exact W.zret hx hb hr (zb_nar zb0) (fun t ht _ => ⟨0, rfl, hw, ht⟩) t_nil dX7_canStand_159

def wp_X7_faultNow_67 (Q : Int32 → Prop) (zsigns : Int32)  (s0 : Int32) : Prop :=
  ((s0 = 0 → Q zsigns) ∧ (¬ (s0 = 0) → Q (-6)))
def wp_X7_faultNow_2 (Q : Int32 → Prop) (ztext : Nat → Int32) (zsigns : Int32)  (l1 : Int32) : Prop :=
  ∃ (I2 : Int32 → Prop) (mu2 : Int32 → Nat), I2 l1 ∧ ∀ (l1 : Int32), I2 l1 → ((zsigns ≤ l1 → ((zsigns = 8 → wp_X7_faultNow_67 Q zsigns  1) ∧ (¬ (zsigns = 8) → ((zsigns = 5 → wp_X7_faultNow_67 Q zsigns  1) ∧ (¬ (zsigns = 5) → ((zsigns = 4 → (((ztext (2 : Int32).toNatClampNeg) = 64 → wp_X7_faultNow_67 Q zsigns  1) ∧ (¬ ((ztext (2 : Int32).toNatClampNeg) = 64) → wp_X7_faultNow_67 Q zsigns  0))) ∧ (¬ (zsigns = 4) → wp_X7_faultNow_67 Q zsigns  0))))))) ∧ (¬ (zsigns ≤ l1) → (wp_X7_canStand l1 ztext (fun r7 => ((r7 = 0 → Q l1) ∧ (¬ (r7 = 0) → (I2 (l1 + 1) ∧ mu2 (l1 + 1) < mu2 l1)))))))
def wp_X7_faultNow (ztext : Nat → Int32) (zsigns : Int32) (Q : Int32 → Prop) : Prop :=
  wp_X7_faultNow_2 Q ztext zsigns  0
theorem hd_X7_faultNow : yX7_faultNow.cls = RX7 ∧ yX7_faultNow.cls ≠ "java/lang/invoke/MethodHandle" ∧ yX7_faultNow.cls ≠ "java/lang/invoke/VarHandle" ∧ (parseMethodDescriptor yX7_faultNow.desc).map (fun d => d.parameters.length) = some 0 := by decide +kernel
set_option maxHeartbeats 4000000 in
set_option maxRecDepth 100000 in
theorem m_X7_faultNow (l : Launch) (g : GG) {ro : Ro} (hok : RoOK ro) {h0 a_clues a_text a_orders a_places a_lefts a_steps a_image a_isKept : Nat} {zclues : Nat → Int32} {zmany : Int32} {ztext : Nat → Int32} {zsigns : Int32} {zfault : Int32} {zorders : Nat → Int32} {zplaces : Nat → Int32} {zsought : Int32} {zfirst : Int32} {zsecond : Int32} {zlefts : Nat → Int32} {zsteps : Nat → Int32} {zmade : Int32} {zimage : Nat → Int32} {zisKept : Nat → Int32} {Q : Int32 → Prop} (hw : wp_X7_faultNow ztext zsigns Q) : Met l yX7_faultNow wsX7_faultNow ({ frames := 2, cells := 0, slots := 0, locals := 46 } : Room) (PcP g ro [(h0, .inr (7, [.ref a_clues, .int zmany, .ref a_text, .int zsigns, .int zfault, .ref a_orders, .ref a_places, .int zsought, .int zfirst, .int zsecond, .ref a_lefts, .ref a_steps, .int zmade, .ref a_image, .ref a_isKept])), (a_clues, .inl (g.2.1, 60, .inl zclues)), (a_text, .inl (g.2.1, 10, .inl ztext)), (a_orders, .inl (g.2.1, 96, .inl zorders)), (a_places, .inl (g.2.1, 16, .inl zplaces)), (a_lefts, .inl (g.2.1, 16, .inl zlefts)), (a_steps, .inl (g.2.1, 256, .inl zsteps)), (a_image, .inl (g.2.1, 122, .inl zimage)), (a_isKept, .inl (g.2.2.1, 2, .inl zisKept))] [.ref h0]) (vp_Si Q) 0 0 (fun _ => False) := by
  refine Met.ofW (cc := cX7_faultNow) (maxL := 2) (ret := (some .int)) (by decide) rfl ?_
  intro p e s m args below meth c s₁ B hml hv
  obtain ⟨rfl, hP, hK, hro⟩ := hv
  have hx := B.exec
  have hb := B.bytes
  have hr := B.returns
  have hts := atoms_spec (ws := wsX7_faultNow) B.pre
  have hown : s.vm.findClass RX7 = some m.cls := findClass_of_methodNamed B.named
  have hlocks := B.notSynchronized
  have hA : ∀ q : Nat, s.heap.size ≤ q → (fun q : Nat => s.heap.size ≤ q) q := fun _ h => h
  have hS : va_S (fun q : Nat => s.heap.size ≤ q) s.heap s.heap [] := va_S.rf
  have hP : PP g [(h0, .inr (7, [.ref a_clues, .int zmany, .ref a_text, .int zsigns, .int zfault, .ref a_orders, .ref a_places, .int zsought, .int zfirst, .int zsecond, .ref a_lefts, .ref a_steps, .int zmade, .ref a_image, .ref a_isKept])), (a_clues, .inl (g.2.1, 60, .inl zclues)), (a_text, .inl (g.2.1, 10, .inl ztext)), (a_orders, .inl (g.2.1, 96, .inl zorders)), (a_places, .inl (g.2.1, 16, .inl zplaces)), (a_lefts, .inl (g.2.1, 16, .inl zlefts)), (a_steps, .inl (g.2.1, 256, .inl zsteps)), (a_image, .inl (g.2.1, 122, .inl zimage)), (a_isKept, .inl (g.2.2.1, 2, .inl zisKept))] s.heap := hP
  have lk1 := hts (.fieldLink RX7 46 "GridRiddlesModel" "signs" "I") (by decide +kernel)
  have hinX7 : ∀ w ∈ u_ws RX7 TX7 15, w ∈ wsX7_faultNow := by decide +kernel
  have lk3 := hts (.fieldLink RX7 13 "GridRiddlesModel" "text" "[I") (by decide +kernel)
  have B67 : ∀ (s0 : Int32), wp_X7_faultNow_67 Q zsigns  s0 → ∀ (ls : Array Slot), lv_has ls 2 [(0, .ref h0)] → W p l e (headSpec wsX7_faultNow ({ frames := 2, cells := 0, slots := 0, locals := 46 } : Room)).room s m ([.ref h0] : List Value).toArray below meth c s.heap [] 0 0 (MQ below (vp_Si Q) ([.ref h0] : List Value).toArray s 0 0 (fun _ => False)) (F0 m 67 ls [.int s0]) := by
    intro  s0 hw ls hl
    refine lv_istore_n (lv' := [(1, .int s0), (0, .ref h0)]) hx hb dX7_faultNow_67 rfl hl (by decide) rfl (fun ls hl => ?_)
    refine lv_iload_n hx hb dX7_faultNow_68 rfl (lv_at hl 0 rfl) ?_
    refine lv_if_eq (tgt := 77) hx hb dX7_faultNow_69 (by decide) (fun c3 => ?_) (fun c3 => ?_)
    · replace hw := hw.1 c3
      refine lv_aload_n hx hb dX7_faultNow_77 rfl (lv_at hl 1 rfl) ?_
      refine va_get (D := g.1) (ci := 7) (v := .int zsigns) (C := RX7) (T := TX7) (N := 15) hx hb hts hinX7 hown hK hP 0 rfl rfl 3 (by decide) lk1 (fun _ h9 => h9) rfl dX7_faultNow_78 ?_
      exact W.iret hx hb hr (fun t ht _ => ⟨zsigns, rfl, hw, ht⟩) t_nil dX7_faultNow_81
    · replace hw := hw.2 c3
      refine lv_bipush (v := (-6)) hx hb dX7_faultNow_72 (by decide) ?_
      refine lv_goto (tgt := 81) hx hb dX7_faultNow_74 (by decide) ?_
      exact W.iret hx hb hr (fun t ht _ => ⟨(-6), rfl, hw, ht⟩) t_nil dX7_faultNow_81
  have B2 : ∀ (l1 : Int32), wp_X7_faultNow_2 Q ztext zsigns  l1 → ∀ (ls : Array Slot), lv_has ls 2 [(0, .ref h0), (1, .int l1)] → W p l e (headSpec wsX7_faultNow ({ frames := 2, cells := 0, slots := 0, locals := 46 } : Room)).room s m ([.ref h0] : List Value).toArray below meth c s.heap [] 0 0 (MQ below (vp_Si Q) ([.ref h0] : List Value).toArray s 0 0 (fun _ => False)) (F0 m 2 ls []) := by
    intro  l1 hw
    obtain ⟨I2, mu2, hI, hstep⟩ := hw
    have key : ∀ (n : Nat) (l1 : Int32), mu2 l1 < n → I2 l1 → ∀ (ls : Array Slot), lv_has ls 2 [(0, .ref h0), (1, .int l1)] → W p l e (headSpec wsX7_faultNow ({ frames := 2, cells := 0, slots := 0, locals := 46 } : Room)).room s m ([.ref h0] : List Value).toArray below meth c s.heap [] 0 0 (MQ below (vp_Si Q) ([.ref h0] : List Value).toArray s 0 0 (fun _ => False)) (F0 m 2 ls []) := by
      intro n
      induction n with
      | zero => intro l1 h; exact absurd h (Nat.not_lt_zero _)
      | succ n ih =>
          intro l1 hn hI ls hl
          have hw := hstep l1 hI
          have hK2 : ∀ (l1' : Int32), (I2 l1' ∧ mu2 l1' < mu2 l1) → ∀ (ls : Array Slot), lv_has ls 2 [(0, .ref h0), (1, .int l1')] → W p l e (headSpec wsX7_faultNow ({ frames := 2, cells := 0, slots := 0, locals := 46 } : Room)).room s m ([.ref h0] : List Value).toArray below meth c s.heap [] 0 0 (MQ below (vp_Si Q) ([.ref h0] : List Value).toArray s 0 0 (fun _ => False)) (F0 m 2 ls []) := fun l1' h => ih l1' (Nat.lt_of_lt_of_le h.2 (Nat.le_of_lt_succ hn)) h.1
          refine lv_iload_n hx hb dX7_faultNow_2 rfl (lv_at hl 1 rfl) ?_
          refine lv_aload_n hx hb dX7_faultNow_3 rfl (lv_at hl 0 rfl) ?_
          refine va_get (D := g.1) (ci := 7) (v := .int zsigns) (C := RX7) (T := TX7) (N := 15) hx hb hts hinX7 hown hK hP 0 rfl rfl 3 (by decide) lk1 (fun _ h9 => h9) rfl dX7_faultNow_4 ?_
          refine lv_icmp_ge (tgt := 26) hx hb dX7_faultNow_7 (by decide) (fun c1 => ?_) (fun c1 => ?_)
          · replace hw := hw.1 c1
            refine lv_aload_n hx hb dX7_faultNow_26 rfl (lv_at hl 0 rfl) ?_
            refine va_get (D := g.1) (ci := 7) (v := .int zsigns) (C := RX7) (T := TX7) (N := 15) hx hb hts hinX7 hown hK hP 0 rfl rfl 3 (by decide) lk1 (fun _ h9 => h9) rfl dX7_faultNow_27 ?_
            refine lv_bipush (v := 8) hx hb dX7_faultNow_30 (by decide) ?_
            refine lv_icmp_eq (tgt := 62) hx hb dX7_faultNow_32 (by decide) (fun c2 => ?_) (fun c2 => ?_)
            · replace hw := hw.1 c2
              refine lv_iconst (v := 1) hx hb dX7_faultNow_62 (by decide) ?_
              refine lv_goto (tgt := 67) hx hb dX7_faultNow_63 (by decide) ?_
              exact B67  1 hw ls (lv_sub hl [0] rfl)
            · replace hw := hw.2 c2
              refine lv_aload_n hx hb dX7_faultNow_35 rfl (lv_at hl 0 rfl) ?_
              refine va_get (D := g.1) (ci := 7) (v := .int zsigns) (C := RX7) (T := TX7) (N := 15) hx hb hts hinX7 hown hK hP 0 rfl rfl 3 (by decide) lk1 (fun _ h9 => h9) rfl dX7_faultNow_36 ?_
              refine lv_iconst (v := 5) hx hb dX7_faultNow_39 (by decide) ?_
              refine lv_icmp_eq (tgt := 62) hx hb dX7_faultNow_40 (by decide) (fun c4 => ?_) (fun c4 => ?_)
              · replace hw := hw.1 c4
                refine lv_iconst (v := 1) hx hb dX7_faultNow_62 (by decide) ?_
                refine lv_goto (tgt := 67) hx hb dX7_faultNow_63 (by decide) ?_
                exact B67  1 hw ls (lv_sub hl [0] rfl)
              · replace hw := hw.2 c4
                refine lv_aload_n hx hb dX7_faultNow_43 rfl (lv_at hl 0 rfl) ?_
                refine va_get (D := g.1) (ci := 7) (v := .int zsigns) (C := RX7) (T := TX7) (N := 15) hx hb hts hinX7 hown hK hP 0 rfl rfl 3 (by decide) lk1 (fun _ h9 => h9) rfl dX7_faultNow_44 ?_
                refine lv_iconst (v := 4) hx hb dX7_faultNow_47 (by decide) ?_
                refine lv_icmp_ne (tgt := 66) hx hb dX7_faultNow_48 (by decide) (fun c5 => ?_) (fun c5 => ?_)
                · replace hw := hw.2 c5
                  refine lv_iconst (v := 0) hx hb dX7_faultNow_66 (by decide) ?_
                  exact B67  0 hw ls (lv_sub hl [0] rfl)
                · replace hw := hw.1 c5
                  refine lv_aload_n hx hb dX7_faultNow_51 rfl (lv_at hl 0 rfl) ?_
                  refine va_get (D := g.1) (ci := 7) (v := .ref a_text) (C := RX7) (T := TX7) (N := 15) hx hb hts hinX7 hown hK hP 0 rfl rfl 2 (by decide) lk3 (fun _ h9 => h9) rfl dX7_faultNow_52 ?_
                  refine lv_iconst (v := 2) hx hb dX7_faultNow_55 (by decide) ?_
                  refine va_iald hx hb hK hP 2 0 rfl rfl (vin (by decide)) dX7_faultNow_56 ?_
                  refine lv_bipush (v := 64) hx hb dX7_faultNow_57 (by decide) ?_
                  refine lv_icmp_ne (tgt := 66) hx hb dX7_faultNow_59 (by decide) (fun c6 => ?_) (fun c6 => ?_)
                  · replace hw := hw.2 c6
                    refine lv_iconst (v := 0) hx hb dX7_faultNow_66 (by decide) ?_
                    exact B67  0 hw ls (lv_sub hl [0] rfl)
                  · replace hw := hw.1 c6
                    refine lv_iconst (v := 1) hx hb dX7_faultNow_62 (by decide) ?_
                    refine lv_goto (tgt := 67) hx hb dX7_faultNow_63 (by decide) ?_
                    exact B67  1 hw ls (lv_sub hl [0] rfl)
          · replace hw := hw.2 c1
            refine lv_aload_n hx hb dX7_faultNow_10 rfl (lv_at hl 0 rfl) ?_
            refine lv_iload_n hx hb dX7_faultNow_11 rfl (lv_at hl 1 rfl) ?_
            refine kp_V (As := [.int l1]) (rest := []) (wc := [(h0, .inr (7, [.ref a_clues, .int zmany, .ref a_text, .int zsigns, .int zfault, .ref a_orders, .ref a_places, .int zsought, .int zfirst, .int zsecond, .ref a_lefts, .ref a_steps, .int zmade, .ref a_image, .ref a_isKept])), (a_clues, .inl (g.2.1, 60, .inl zclues)), (a_text, .inl (g.2.1, 10, .inl ztext)), (a_orders, .inl (g.2.1, 96, .inl zorders)), (a_places, .inl (g.2.1, 16, .inl zplaces)), (a_lefts, .inl (g.2.1, 16, .inl zlefts)), (a_steps, .inl (g.2.1, 256, .inl zsteps)), (a_image, .inl (g.2.1, 122, .inl zimage)), (a_isKept, .inl (g.2.2.1, 2, .inl zisKept))]) (cq := (RX7, TX7, 15)) ⟨hx, hb, hml, hown, hts⟩ (m_X7_canStand l g hok (h0 := h0) (a_clues := a_clues) (a_text := a_text) (a_orders := a_orders) (a_places := a_places) (a_lefts := a_lefts) (a_steps := a_steps) (a_image := a_image) (a_isKept := a_isKept) (zclues := zclues) (zmany := zmany) (ztext := ztext) (zsigns := zsigns) (zfault := zfault) (zorders := zorders) (zplaces := zplaces) (zsought := zsought) (zfirst := zfirst) (zsecond := zsecond) (zlefts := zlefts) (zsteps := zsteps) (zmade := zmade) (zimage := zimage) (zisKept := zisKept) (x1 := l1) hw) (cwV 1 hts gX7_faultNow_X7_canStand rfl rfl rfl hd_X7_canStand ⟨Nat.le_of_ble_eq_true rfl, Nat.le_of_ble_eq_true rfl⟩) hok hK hP hro hS hA 0 7 rfl rfl rfl hl.1 rfl (Nat.le_of_ble_eq_true rfl) dX7_faultNow_12 ⟨Nat.le_of_ble_eq_true rfl, Nat.le_of_ble_eq_true rfl⟩ (fun r7 hw => ?_)
            refine lv_if_ne (tgt := 20) hx hb dX7_faultNow_15 (by decide) (fun c8 => ?_) (fun c8 => ?_)
            · replace hw := hw.2 c8
              refine lv_iinc (v := (l1 + 1)) (lv' := [(1, .int (l1 + 1)), (0, .ref h0)]) hx hb dX7_faultNow_20 hl (k := 1) rfl rfl (by decide) rfl (fun ls hl => ?_)
              refine lv_goto (tgt := 2) hx hb dX7_faultNow_23 (by decide) ?_
              exact hK2 (l1 + 1) hw ls (lv_sub hl [1, 0] rfl)
            · replace hw := hw.1 c8
              refine lv_iload_n hx hb dX7_faultNow_18 rfl (lv_at hl 1 rfl) ?_
              exact W.iret hx hb hr (fun t ht _ => ⟨l1, rfl, hw, ht⟩) t_nil dX7_faultNow_19
    exact key _ l1 (Nat.lt_succ_self _) hI
  have hl := lv_entry ([.ref h0]) (n := 2) (Nat.le_of_ble_eq_true rfl)
  rw [lg_entry_eq]
  generalize (lg_sl ([.ref h0]) ++ List.replicate (2 - (lg_sl ([.ref h0])).length) Slot.unset).toArray = ls at hl ⊢
  have hl : lv_has ls 2 [(0, .ref h0)] := hl
  unfold wp_X7_faultNow at hw
  refine lv_iconst (v := 0) hx hb dX7_faultNow_0 (by decide) ?_
  refine lv_istore_n (lv' := [(1, .int 0), (0, .ref h0)]) hx hb dX7_faultNow_1 rfl hl (by decide) rfl (fun ls hl => ?_)
  exact B2  0 hw ls (lv_sub hl [1, 0] rfl)

def wp_X7_fault (ztext : Nat → Int32) (zsigns : Int32) (Q : Int32 → Prop) : Prop :=
  (wp_X7_faultNow ztext zsigns (fun r1 => Q r1))
theorem hd_X7_fault : yX7_fault.cls = RX7 ∧ yX7_fault.cls ≠ "java/lang/invoke/MethodHandle" ∧ yX7_fault.cls ≠ "java/lang/invoke/VarHandle" ∧ (parseMethodDescriptor yX7_fault.desc).map (fun d => d.parameters.length) = some 0 := by decide +kernel
set_option maxHeartbeats 4000000 in
set_option maxRecDepth 100000 in
theorem m_X7_fault (l : Launch) (g : GG) {ro : Ro} (hok : RoOK ro) {h0 a_clues a_text a_orders a_places a_lefts a_steps a_image a_isKept : Nat} {zclues : Nat → Int32} {zmany : Int32} {ztext : Nat → Int32} {zsigns : Int32} {zfault : Int32} {zorders : Nat → Int32} {zplaces : Nat → Int32} {zsought : Int32} {zfirst : Int32} {zsecond : Int32} {zlefts : Nat → Int32} {zsteps : Nat → Int32} {zmade : Int32} {zimage : Nat → Int32} {zisKept : Nat → Int32} {Q : Int32 → Prop} (hw : wp_X7_fault ztext zsigns Q) : Met l yX7_fault wsX7_fault ({ frames := 3, cells := 0, slots := 0, locals := 67 } : Room) (PcP g ro [(h0, .inr (7, [.ref a_clues, .int zmany, .ref a_text, .int zsigns, .int zfault, .ref a_orders, .ref a_places, .int zsought, .int zfirst, .int zsecond, .ref a_lefts, .ref a_steps, .int zmade, .ref a_image, .ref a_isKept])), (a_clues, .inl (g.2.1, 60, .inl zclues)), (a_text, .inl (g.2.1, 10, .inl ztext)), (a_orders, .inl (g.2.1, 96, .inl zorders)), (a_places, .inl (g.2.1, 16, .inl zplaces)), (a_lefts, .inl (g.2.1, 16, .inl zlefts)), (a_steps, .inl (g.2.1, 256, .inl zsteps)), (a_image, .inl (g.2.1, 122, .inl zimage)), (a_isKept, .inl (g.2.2.1, 2, .inl zisKept))] [.ref h0]) (vp_Si Q) 0 0 (fun _ => False) := by
  refine Met.ofW (cc := cX7_fault) (maxL := 1) (ret := (some .int)) (by decide) rfl ?_
  intro p e s m args below meth c s₁ B hml hv
  obtain ⟨rfl, hP, hK, hro⟩ := hv
  have hx := B.exec
  have hb := B.bytes
  have hr := B.returns
  have hts := atoms_spec (ws := wsX7_fault) B.pre
  have hown : s.vm.findClass RX7 = some m.cls := findClass_of_methodNamed B.named
  have hlocks := B.notSynchronized
  have hA : ∀ q : Nat, s.heap.size ≤ q → (fun q : Nat => s.heap.size ≤ q) q := fun _ h => h
  have hS : va_S (fun q : Nat => s.heap.size ≤ q) s.heap s.heap [] := va_S.rf
  have hP : PP g [(h0, .inr (7, [.ref a_clues, .int zmany, .ref a_text, .int zsigns, .int zfault, .ref a_orders, .ref a_places, .int zsought, .int zfirst, .int zsecond, .ref a_lefts, .ref a_steps, .int zmade, .ref a_image, .ref a_isKept])), (a_clues, .inl (g.2.1, 60, .inl zclues)), (a_text, .inl (g.2.1, 10, .inl ztext)), (a_orders, .inl (g.2.1, 96, .inl zorders)), (a_places, .inl (g.2.1, 16, .inl zplaces)), (a_lefts, .inl (g.2.1, 16, .inl zlefts)), (a_steps, .inl (g.2.1, 256, .inl zsteps)), (a_image, .inl (g.2.1, 122, .inl zimage)), (a_isKept, .inl (g.2.2.1, 2, .inl zisKept))] s.heap := hP
  have hl := lv_entry ([.ref h0]) (n := 1) (Nat.le_of_ble_eq_true rfl)
  rw [lg_entry_eq]
  generalize (lg_sl ([.ref h0]) ++ List.replicate (1 - (lg_sl ([.ref h0])).length) Slot.unset).toArray = ls at hl ⊢
  have hl : lv_has ls 1 [(0, .ref h0)] := hl
  unfold wp_X7_fault at hw
  refine lv_aload_n hx hb dX7_fault_0 rfl (lv_at hl 0 rfl) ?_
  refine kp_V (As := []) (rest := []) (wc := [(h0, .inr (7, [.ref a_clues, .int zmany, .ref a_text, .int zsigns, .int zfault, .ref a_orders, .ref a_places, .int zsought, .int zfirst, .int zsecond, .ref a_lefts, .ref a_steps, .int zmade, .ref a_image, .ref a_isKept])), (a_clues, .inl (g.2.1, 60, .inl zclues)), (a_text, .inl (g.2.1, 10, .inl ztext)), (a_orders, .inl (g.2.1, 96, .inl zorders)), (a_places, .inl (g.2.1, 16, .inl zplaces)), (a_lefts, .inl (g.2.1, 16, .inl zlefts)), (a_steps, .inl (g.2.1, 256, .inl zsteps)), (a_image, .inl (g.2.1, 122, .inl zimage)), (a_isKept, .inl (g.2.2.1, 2, .inl zisKept))]) (cq := (RX7, TX7, 15)) ⟨hx, hb, hml, hown, hts⟩ (m_X7_faultNow l g hok (h0 := h0) (a_clues := a_clues) (a_text := a_text) (a_orders := a_orders) (a_places := a_places) (a_lefts := a_lefts) (a_steps := a_steps) (a_image := a_image) (a_isKept := a_isKept) (zclues := zclues) (zmany := zmany) (ztext := ztext) (zsigns := zsigns) (zfault := zfault) (zorders := zorders) (zplaces := zplaces) (zsought := zsought) (zfirst := zfirst) (zsecond := zsecond) (zlefts := zlefts) (zsteps := zsteps) (zmade := zmade) (zimage := zimage) (zisKept := zisKept) hw) (cwV 0 hts gX7_fault_X7_faultNow rfl rfl rfl hd_X7_faultNow ⟨Nat.le_of_ble_eq_true rfl, Nat.le_of_ble_eq_true rfl⟩) hok hK hP hro hS hA 0 7 rfl rfl rfl hl.1 rfl (Nat.le_of_ble_eq_true rfl) dX7_fault_1 ⟨Nat.le_of_ble_eq_true rfl, Nat.le_of_ble_eq_true rfl⟩ (fun r1 hw => ?_)
  exact W.iret hx hb hr (fun t ht _ => ⟨r1, rfl, hw, ht⟩) t_nil dX7_fault_4

def wp_X7_itemAt (x1 : Int32) (ztext : Nat → Int32) (Q : Int32 → Prop) : Prop :=
  (vp_in x1 10 ∧ (vp_in (x1 + 1) 10 ∧ Q (((4 * ((ztext x1.toNatClampNeg) - 97)) + (ztext (x1 + 1).toNatClampNeg)) - 49)))
theorem hd_X7_itemAt : yX7_itemAt.cls = RX7 ∧ yX7_itemAt.cls ≠ "java/lang/invoke/MethodHandle" ∧ yX7_itemAt.cls ≠ "java/lang/invoke/VarHandle" ∧ (parseMethodDescriptor yX7_itemAt.desc).map (fun d => d.parameters.length) = some 1 := by decide +kernel
set_option maxHeartbeats 4000000 in
set_option maxRecDepth 100000 in
theorem m_X7_itemAt (l : Launch) (g : GG) {ro : Ro} (hok : RoOK ro) {h0 a_clues a_text a_orders a_places a_lefts a_steps a_image a_isKept : Nat} {zclues : Nat → Int32} {zmany : Int32} {ztext : Nat → Int32} {zsigns : Int32} {zfault : Int32} {zorders : Nat → Int32} {zplaces : Nat → Int32} {zsought : Int32} {zfirst : Int32} {zsecond : Int32} {zlefts : Nat → Int32} {zsteps : Nat → Int32} {zmade : Int32} {zimage : Nat → Int32} {zisKept : Nat → Int32} {x1 : Int32} {Q : Int32 → Prop} (hw : wp_X7_itemAt x1 ztext Q) : Met l yX7_itemAt wsX7_itemAt ({ frames := 0, cells := 0, slots := 0, locals := 0 } : Room) (PcP g ro [(h0, .inr (7, [.ref a_clues, .int zmany, .ref a_text, .int zsigns, .int zfault, .ref a_orders, .ref a_places, .int zsought, .int zfirst, .int zsecond, .ref a_lefts, .ref a_steps, .int zmade, .ref a_image, .ref a_isKept])), (a_clues, .inl (g.2.1, 60, .inl zclues)), (a_text, .inl (g.2.1, 10, .inl ztext)), (a_orders, .inl (g.2.1, 96, .inl zorders)), (a_places, .inl (g.2.1, 16, .inl zplaces)), (a_lefts, .inl (g.2.1, 16, .inl zlefts)), (a_steps, .inl (g.2.1, 256, .inl zsteps)), (a_image, .inl (g.2.1, 122, .inl zimage)), (a_isKept, .inl (g.2.2.1, 2, .inl zisKept))] [.ref h0, .int x1]) (vp_Si Q) 0 0 (fun _ => False) := by
  refine Met.ofW (cc := cX7_itemAt) (maxL := 2) (ret := (some .int)) (by decide) rfl ?_
  intro p e s m args below meth c s₁ B hml hv
  obtain ⟨rfl, hP, hK, hro⟩ := hv
  have hx := B.exec
  have hb := B.bytes
  have hr := B.returns
  have hts := atoms_spec (ws := wsX7_itemAt) B.pre
  have hown : s.vm.findClass RX7 = some m.cls := findClass_of_methodNamed B.named
  have hlocks := B.notSynchronized
  have hA : ∀ q : Nat, s.heap.size ≤ q → (fun q : Nat => s.heap.size ≤ q) q := fun _ h => h
  have hS : va_S (fun q : Nat => s.heap.size ≤ q) s.heap s.heap [] := va_S.rf
  have hP : PP g [(h0, .inr (7, [.ref a_clues, .int zmany, .ref a_text, .int zsigns, .int zfault, .ref a_orders, .ref a_places, .int zsought, .int zfirst, .int zsecond, .ref a_lefts, .ref a_steps, .int zmade, .ref a_image, .ref a_isKept])), (a_clues, .inl (g.2.1, 60, .inl zclues)), (a_text, .inl (g.2.1, 10, .inl ztext)), (a_orders, .inl (g.2.1, 96, .inl zorders)), (a_places, .inl (g.2.1, 16, .inl zplaces)), (a_lefts, .inl (g.2.1, 16, .inl zlefts)), (a_steps, .inl (g.2.1, 256, .inl zsteps)), (a_image, .inl (g.2.1, 122, .inl zimage)), (a_isKept, .inl (g.2.2.1, 2, .inl zisKept))] s.heap := hP
  have lk1 := hts (.fieldLink RX7 13 "GridRiddlesModel" "text" "[I") (by decide +kernel)
  have hinX7 : ∀ w ∈ u_ws RX7 TX7 15, w ∈ wsX7_itemAt := by decide +kernel
  have hl := lv_entry ([.ref h0, .int x1]) (n := 2) (Nat.le_of_ble_eq_true rfl)
  rw [lg_entry_eq]
  generalize (lg_sl ([.ref h0, .int x1]) ++ List.replicate (2 - (lg_sl ([.ref h0, .int x1])).length) Slot.unset).toArray = ls at hl ⊢
  have hl : lv_has ls 2 [(0, .ref h0), (1, .int x1)] := hl
  unfold wp_X7_itemAt at hw
  refine lv_iconst (v := 4) hx hb dX7_itemAt_0 (by decide) ?_
  refine lv_aload_n hx hb dX7_itemAt_1 rfl (lv_at hl 0 rfl) ?_
  refine va_get (D := g.1) (ci := 7) (v := .ref a_text) (C := RX7) (T := TX7) (N := 15) hx hb hts hinX7 hown hK hP 0 rfl rfl 2 (by decide) lk1 (fun _ h9 => h9) rfl dX7_itemAt_2 ?_
  refine lv_iload_n hx hb dX7_itemAt_5 rfl (lv_at hl 1 rfl) ?_
  obtain ⟨hi, hw⟩ := hw
  refine va_iald hx hb hK hP 2 0 rfl rfl hi dX7_itemAt_6 ?_
  refine lv_bipush (v := 97) hx hb dX7_itemAt_7 (by decide) ?_
  refine lv_isub hx hb dX7_itemAt_9 ?_
  refine lv_imul hx hb dX7_itemAt_10 ?_
  refine lv_aload_n hx hb dX7_itemAt_11 rfl (lv_at hl 0 rfl) ?_
  refine va_get (D := g.1) (ci := 7) (v := .ref a_text) (C := RX7) (T := TX7) (N := 15) hx hb hts hinX7 hown hK hP 0 rfl rfl 2 (by decide) lk1 (fun _ h9 => h9) rfl dX7_itemAt_12 ?_
  refine lv_iload_n hx hb dX7_itemAt_15 rfl (lv_at hl 1 rfl) ?_
  refine lv_iconst (v := 1) hx hb dX7_itemAt_16 (by decide) ?_
  refine lv_iadd hx hb dX7_itemAt_17 ?_
  obtain ⟨hi, hw⟩ := hw
  refine va_iald hx hb hK hP 2 0 rfl rfl hi dX7_itemAt_18 ?_
  refine lv_iadd hx hb dX7_itemAt_19 ?_
  refine lv_bipush (v := 49) hx hb dX7_itemAt_20 (by decide) ?_
  refine lv_isub hx hb dX7_itemAt_22 ?_
  exact W.iret hx hb hr (fun t ht _ => ⟨(((4 * ((ztext x1.toNatClampNeg) - 97)) + (ztext (x1 + 1).toNatClampNeg)) - 49), rfl, hw, ht⟩) t_nil dX7_itemAt_23

def wp_X7_clue_197 (Q : Int32 → Int32 → Int32 → Int32 → (Nat → Int32) → Prop)   (s0 : Int32) (s1 : Int32) (zclues : Nat → Int32) (zmany : Int32) (zsigns : Int32) (zfault : Int32) : Prop :=
  (vp_in s1 60 ∧ Q ((zmany + 1) - 1) (zmany + 1) 0 zfault (upd zclues s1.toNatClampNeg s0))
def wp_X7_clue_110 (Q : Int32 → Int32 → Int32 → Int32 → (Nat → Int32) → Prop) (ztext : Nat → Int32)  (l2 : Int32) (l3 : Int32) (l4 : Int32) (l5 : Int32) (zclues : Nat → Int32) (zmany : Int32) (zsigns : Int32) (zfault : Int32) : Prop :=
  ((zmany = 12 → Q (-4) zmany zsigns zfault zclues) ∧ (¬ (zmany = 12) → ∀ w13 : Int32, w13 = (5 * zmany) → (vp_in w13 60 ∧ (vp_in (w13 + 1) 60 ∧ (vp_in (w13 + 2) 60 ∧ (vp_in (w13 + 3) 60 ∧ ((l2 = 5 → wp_X7_clue_197 Q   ((ztext (3 : Int32).toNatClampNeg) - 48) (w13 + 4) (upd (upd (upd (upd zclues w13.toNatClampNeg l2) (w13 + 1).toNatClampNeg l3) (w13 + 2).toNatClampNeg l4) (w13 + 3).toNatClampNeg l5) zmany zsigns zfault) ∧ (¬ (l2 = 5) → wp_X7_clue_197 Q   (-6) (w13 + 4) (upd (upd (upd (upd zclues w13.toNatClampNeg l2) (w13 + 1).toNatClampNeg l3) (w13 + 2).toNatClampNeg l4) (w13 + 3).toNatClampNeg l5) zmany zsigns zfault))))))))
def wp_X7_clue_81 (Q : Int32 → Int32 → Int32 → Int32 → (Nat → Int32) → Prop) (ztext : Nat → Int32)  (l2 : Int32) (l3 : Int32) (l4 : Int32) (s0 : Int32) (zclues : Nat → Int32) (zmany : Int32) (zsigns : Int32) (zfault : Int32) : Prop :=
  ((l3 = l4 → Q (-5) zmany zsigns zfault zclues) ∧ (¬ (l3 = l4) → ((l3 = s0 → Q (-5) zmany zsigns zfault zclues) ∧ (¬ (l3 = s0) → ((l4 < 0 → wp_X7_clue_110 Q ztext  l2 l3 l4 s0 zclues zmany zsigns zfault) ∧ (¬ (l4 < 0) → ((l4 = s0 → Q (-5) zmany zsigns zfault zclues) ∧ (¬ (l4 = s0) → wp_X7_clue_110 Q ztext  l2 l3 l4 s0 zclues zmany zsigns zfault))))))))
def wp_X7_clue_62 (Q : Int32 → Int32 → Int32 → Int32 → (Nat → Int32) → Prop) (ztext : Nat → Int32)  (l2 : Int32) (l3 : Int32) (s0 : Int32) (zclues : Nat → Int32) (zmany : Int32) (zsigns : Int32) (zfault : Int32) : Prop :=
  ((l2 = 6 → (wp_X7_itemAt 6 ztext (fun r16 => wp_X7_clue_81 Q ztext  l2 l3 s0 r16 zclues zmany zsigns zfault))) ∧ (¬ (l2 = 6) → wp_X7_clue_81 Q ztext  l2 l3 s0 (-6) zclues zmany zsigns zfault))
def wp_X7_clue_40 (Q : Int32 → Int32 → Int32 → Int32 → (Nat → Int32) → Prop) (ztext : Nat → Int32)  (s0 : Int32) (zclues : Nat → Int32) (zmany : Int32) (zsigns : Int32) (zfault : Int32) : Prop :=
  (wp_X7_itemAt 0 ztext (fun r5 => ((s0 = 5 → wp_X7_clue_62 Q ztext  s0 r5 (-6) zclues zmany zsigns zfault) ∧ (¬ (s0 = 5) → (wp_X7_itemAt 3 ztext (fun r7 => wp_X7_clue_62 Q ztext  s0 r5 r7 zclues zmany zsigns zfault))))))
def wp_X7_clue (zclues : Nat → Int32) (zmany : Int32) (ztext : Nat → Int32) (zsigns : Int32) (zfault : Int32) (Q : Int32 → Int32 → Int32 → Int32 → (Nat → Int32) → Prop) : Prop :=
  (wp_X7_faultNow ztext zsigns (fun r1 => ((r1 < 0 → ((zsigns = 8 → wp_X7_clue_40 Q ztext  6 zclues zmany zsigns zfault) ∧ (¬ (zsigns = 8) → (wp_X7_kindOf (ztext (2 : Int32).toNatClampNeg) (fun r4 => wp_X7_clue_40 Q ztext  r4 zclues zmany zsigns zfault))))) ∧ (¬ (r1 < 0) → Q (-7) zmany zsigns r1 zclues))))
theorem hd_X7_clue : yX7_clue.cls = RX7 ∧ yX7_clue.cls ≠ "java/lang/invoke/MethodHandle" ∧ yX7_clue.cls ≠ "java/lang/invoke/VarHandle" ∧ (parseMethodDescriptor yX7_clue.desc).map (fun d => d.parameters.length) = some 0 := by decide +kernel
set_option maxHeartbeats 4000000 in
set_option maxRecDepth 100000 in
theorem m_X7_clue (l : Launch) (g : GG) {ro : Ro} (hok : RoOK ro) {h0 a_clues a_text a_orders a_places a_lefts a_steps a_image a_isKept : Nat} {zclues : Nat → Int32} {zmany : Int32} {ztext : Nat → Int32} {zsigns : Int32} {zfault : Int32} {zorders : Nat → Int32} {zplaces : Nat → Int32} {zsought : Int32} {zfirst : Int32} {zsecond : Int32} {zlefts : Nat → Int32} {zsteps : Nat → Int32} {zmade : Int32} {zimage : Nat → Int32} {zisKept : Nat → Int32} {sz : Nat} {Q : Int32 → Int32 → Int32 → Int32 → (Nat → Int32) → Prop} (hw : wp_X7_clue zclues zmany ztext zsigns zfault Q) : Met l yX7_clue wsX7_clue ({ frames := 3, cells := 0, slots := 0, locals := 67 } : Room) (PcM g ro [(h0, .inr (7, [.ref a_clues, .int zmany, .ref a_text, .int zsigns, .int zfault, .ref a_orders, .ref a_places, .int zsought, .int zfirst, .int zsecond, .ref a_lefts, .ref a_steps, .int zmade, .ref a_image, .ref a_isKept])), (a_clues, .inl (g.2.1, 60, .inl zclues)), (a_text, .inl (g.2.1, 10, .inl ztext)), (a_orders, .inl (g.2.1, 96, .inl zorders)), (a_places, .inl (g.2.1, 16, .inl zplaces)), (a_lefts, .inl (g.2.1, 16, .inl zlefts)), (a_steps, .inl (g.2.1, 256, .inl zsteps)), (a_image, .inl (g.2.1, 122, .inl zimage)), (a_isKept, .inl (g.2.2.1, 2, .inl zisKept))] sz [.ref h0]) (va_Qi (fun (r : Int32) (u : Int32 × Int32 × Int32 × (Nat → Int32)) => Q r u.1 u.2.1 u.2.2.1 u.2.2.2) (BM g (fun u : Int32 × Int32 × Int32 × (Nat → Int32) => [(h0, .inr (7, [.ref a_clues, .int u.1, .ref a_text, .int u.2.1, .int u.2.2.1, .ref a_orders, .ref a_places, .int zsought, .int zfirst, .int zsecond, .ref a_lefts, .ref a_steps, .int zmade, .ref a_image, .ref a_isKept])), (a_clues, .inl (g.2.1, 60, .inl u.2.2.2)), (a_text, .inl (g.2.1, 10, .inl ztext)), (a_orders, .inl (g.2.1, 96, .inl zorders)), (a_places, .inl (g.2.1, 16, .inl zplaces)), (a_lefts, .inl (g.2.1, 16, .inl zlefts)), (a_steps, .inl (g.2.1, 256, .inl zsteps)), (a_image, .inl (g.2.1, 122, .inl zimage)), (a_isKept, .inl (g.2.2.1, 2, .inl zisKept))]) (va_A [(h0, .inr (7, [.ref a_clues, .int zmany, .ref a_text, .int zsigns, .int zfault, .ref a_orders, .ref a_places, .int zsought, .int zfirst, .int zsecond, .ref a_lefts, .ref a_steps, .int zmade, .ref a_image, .ref a_isKept])), (a_clues, .inl (g.2.1, 60, .inl zclues)), (a_text, .inl (g.2.1, 10, .inl ztext)), (a_orders, .inl (g.2.1, 96, .inl zorders)), (a_places, .inl (g.2.1, 16, .inl zplaces)), (a_lefts, .inl (g.2.1, 16, .inl zlefts)), (a_steps, .inl (g.2.1, 256, .inl zsteps)), (a_image, .inl (g.2.1, 122, .inl zimage)), (a_isKept, .inl (g.2.2.1, 2, .inl zisKept))] sz)) (va_A [(h0, .inr (7, [.ref a_clues, .int zmany, .ref a_text, .int zsigns, .int zfault, .ref a_orders, .ref a_places, .int zsought, .int zfirst, .int zsecond, .ref a_lefts, .ref a_steps, .int zmade, .ref a_image, .ref a_isKept])), (a_clues, .inl (g.2.1, 60, .inl zclues)), (a_text, .inl (g.2.1, 10, .inl ztext)), (a_orders, .inl (g.2.1, 96, .inl zorders)), (a_places, .inl (g.2.1, 16, .inl zplaces)), (a_lefts, .inl (g.2.1, 16, .inl zlefts)), (a_steps, .inl (g.2.1, 256, .inl zsteps)), (a_image, .inl (g.2.1, 122, .inl zimage)), (a_isKept, .inl (g.2.2.1, 2, .inl zisKept))] sz)) 0 0 (va_A [(h0, .inr (7, [.ref a_clues, .int zmany, .ref a_text, .int zsigns, .int zfault, .ref a_orders, .ref a_places, .int zsought, .int zfirst, .int zsecond, .ref a_lefts, .ref a_steps, .int zmade, .ref a_image, .ref a_isKept])), (a_clues, .inl (g.2.1, 60, .inl zclues)), (a_text, .inl (g.2.1, 10, .inl ztext)), (a_orders, .inl (g.2.1, 96, .inl zorders)), (a_places, .inl (g.2.1, 16, .inl zplaces)), (a_lefts, .inl (g.2.1, 16, .inl zlefts)), (a_steps, .inl (g.2.1, 256, .inl zsteps)), (a_image, .inl (g.2.1, 122, .inl zimage)), (a_isKept, .inl (g.2.2.1, 2, .inl zisKept))] sz) := by
  refine Met.ofW (cc := cX7_clue) (maxL := 7) (ret := (some .int)) (by decide) rfl ?_
  intro p e s m args below meth c s₁ B hml hv
  obtain ⟨rfl, hsz, hP, hK, hD0, hro⟩ := hv
  have hx := B.exec
  have hb := B.bytes
  have hr := B.returns
  have hts := atoms_spec (ws := wsX7_clue) B.pre
  have hown : s.vm.findClass RX7 = some m.cls := findClass_of_methodNamed B.named
  have hlocks := B.notSynchronized
  subst hsz
  have hD := hD0.self (sz := s.heap.size)
  generalize hAe : va_A [(h0, .inr (7, [.ref a_clues, .int zmany, .ref a_text, .int zsigns, .int zfault, .ref a_orders, .ref a_places, .int zsought, .int zfirst, .int zsecond, .ref a_lefts, .ref a_steps, .int zmade, .ref a_image, .ref a_isKept])), (a_clues, .inl (g.2.1, 60, .inl zclues)), (a_text, .inl (g.2.1, 10, .inl ztext)), (a_orders, .inl (g.2.1, 96, .inl zorders)), (a_places, .inl (g.2.1, 16, .inl zplaces)), (a_lefts, .inl (g.2.1, 16, .inl zlefts)), (a_steps, .inl (g.2.1, 256, .inl zsteps)), (a_image, .inl (g.2.1, 122, .inl zimage)), (a_isKept, .inl (g.2.2.1, 2, .inl zisKept))] s.heap.size = A at hD hro ⊢
  have hA : ∀ q : Nat, s.heap.size ≤ q → A q := fun q h => by rw [← hAe]; exact Or.inr h
  have hS : va_S A s.heap s.heap [] := va_S.rf
  have hP : PP g [(h0, .inr (7, [.ref a_clues, .int zmany, .ref a_text, .int zsigns, .int zfault, .ref a_orders, .ref a_places, .int zsought, .int zfirst, .int zsecond, .ref a_lefts, .ref a_steps, .int zmade, .ref a_image, .ref a_isKept])), (a_clues, .inl (g.2.1, 60, .inl zclues)), (a_text, .inl (g.2.1, 10, .inl ztext)), (a_orders, .inl (g.2.1, 96, .inl zorders)), (a_places, .inl (g.2.1, 16, .inl zplaces)), (a_lefts, .inl (g.2.1, 16, .inl zlefts)), (a_steps, .inl (g.2.1, 256, .inl zsteps)), (a_image, .inl (g.2.1, 122, .inl zimage)), (a_isKept, .inl (g.2.2.1, 2, .inl zisKept))] s.heap := hP
  have lk1 := hts (.fieldLink RX7 46 "GridRiddlesModel" "signs" "I") (by decide +kernel)
  have hinX7 : ∀ w ∈ u_ws RX7 TX7 15, w ∈ wsX7_clue := by decide +kernel
  have lk3 := hts (.fieldLink RX7 13 "GridRiddlesModel" "text" "[I") (by decide +kernel)
  have lk4 := hts (.fieldLink RX7 43 "GridRiddlesModel" "many" "I") (by decide +kernel)
  have lk5 := hts (.fieldLink RX7 7 "GridRiddlesModel" "clues" "[I") (by decide +kernel)
  have lk6 := hts (.fieldLink RX7 16 "GridRiddlesModel" "fault" "I") (by decide +kernel)
  have B197 : ∀ (s0 : Int32) (s1 : Int32) (zclues : Nat → Int32) (zmany : Int32) (zsigns : Int32) (zfault : Int32), wp_X7_clue_197 Q   s0 s1 zclues zmany zsigns zfault → ∀ (H : Heap) (locs : List Loc), PP g [(h0, .inr (7, [.ref a_clues, .int zmany, .ref a_text, .int zsigns, .int zfault, .ref a_orders, .ref a_places, .int zsought, .int zfirst, .int zsecond, .ref a_lefts, .ref a_steps, .int zmade, .ref a_image, .ref a_isKept])), (a_clues, .inl (g.2.1, 60, .inl zclues)), (a_text, .inl (g.2.1, 10, .inl ztext)), (a_orders, .inl (g.2.1, 96, .inl zorders)), (a_places, .inl (g.2.1, 16, .inl zplaces)), (a_lefts, .inl (g.2.1, 16, .inl zlefts)), (a_steps, .inl (g.2.1, 256, .inl zsteps)), (a_image, .inl (g.2.1, 122, .inl zimage)), (a_isKept, .inl (g.2.2.1, 2, .inl zisKept))] H → va_D A [(h0, .inr (7, [.ref a_clues, .int zmany, .ref a_text, .int zsigns, .int zfault, .ref a_orders, .ref a_places, .int zsought, .int zfirst, .int zsecond, .ref a_lefts, .ref a_steps, .int zmade, .ref a_image, .ref a_isKept])), (a_clues, .inl (g.2.1, 60, .inl zclues)), (a_text, .inl (g.2.1, 10, .inl ztext)), (a_orders, .inl (g.2.1, 96, .inl zorders)), (a_places, .inl (g.2.1, 16, .inl zplaces)), (a_lefts, .inl (g.2.1, 16, .inl zlefts)), (a_steps, .inl (g.2.1, 256, .inl zsteps)), (a_image, .inl (g.2.1, 122, .inl zimage)), (a_isKept, .inl (g.2.2.1, 2, .inl zisKept))] → va_S A s.heap H locs → ∀ (ls : Array Slot), lv_has ls 7 [(0, .ref h0)] → W p l e (headSpec wsX7_clue ({ frames := 3, cells := 0, slots := 0, locals := 67 } : Room)).room s m ([.ref h0] : List Value).toArray below meth c H locs 0 0 (MQ below (va_Qi (fun (r : Int32) (u : Int32 × Int32 × Int32 × (Nat → Int32)) => Q r u.1 u.2.1 u.2.2.1 u.2.2.2) (BM g (fun u : Int32 × Int32 × Int32 × (Nat → Int32) => [(h0, .inr (7, [.ref a_clues, .int u.1, .ref a_text, .int u.2.1, .int u.2.2.1, .ref a_orders, .ref a_places, .int zsought, .int zfirst, .int zsecond, .ref a_lefts, .ref a_steps, .int zmade, .ref a_image, .ref a_isKept])), (a_clues, .inl (g.2.1, 60, .inl u.2.2.2)), (a_text, .inl (g.2.1, 10, .inl ztext)), (a_orders, .inl (g.2.1, 96, .inl zorders)), (a_places, .inl (g.2.1, 16, .inl zplaces)), (a_lefts, .inl (g.2.1, 16, .inl zlefts)), (a_steps, .inl (g.2.1, 256, .inl zsteps)), (a_image, .inl (g.2.1, 122, .inl zimage)), (a_isKept, .inl (g.2.2.1, 2, .inl zisKept))]) A) A) ([.ref h0] : List Value).toArray s 0 0 A) (F0 m 197 ls [.int s0, .int s1, .ref a_clues]) := by
    intro  s0 s1 zclues zmany zsigns zfault hw  H locs hP hD hS ls hl
    obtain ⟨hi, hw⟩ := hw
    refine va_iast hx hb hK hP hD hS 1 0 rfl rfl hi dX7_clue_197 (fun H locs hP hD hS => ?_)
    have hP : PP g [(h0, .inr (7, [.ref a_clues, .int zmany, .ref a_text, .int zsigns, .int zfault, .ref a_orders, .ref a_places, .int zsought, .int zfirst, .int zsecond, .ref a_lefts, .ref a_steps, .int zmade, .ref a_image, .ref a_isKept])), (a_clues, .inl (g.2.1, 60, .inl (upd zclues s1.toNatClampNeg s0))), (a_text, .inl (g.2.1, 10, .inl ztext)), (a_orders, .inl (g.2.1, 96, .inl zorders)), (a_places, .inl (g.2.1, 16, .inl zplaces)), (a_lefts, .inl (g.2.1, 16, .inl zlefts)), (a_steps, .inl (g.2.1, 256, .inl zsteps)), (a_image, .inl (g.2.1, 122, .inl zimage)), (a_isKept, .inl (g.2.2.1, 2, .inl zisKept))] H := hP
    have hD : va_D A [(h0, .inr (7, [.ref a_clues, .int zmany, .ref a_text, .int zsigns, .int zfault, .ref a_orders, .ref a_places, .int zsought, .int zfirst, .int zsecond, .ref a_lefts, .ref a_steps, .int zmade, .ref a_image, .ref a_isKept])), (a_clues, .inl (g.2.1, 60, .inl (upd zclues s1.toNatClampNeg s0))), (a_text, .inl (g.2.1, 10, .inl ztext)), (a_orders, .inl (g.2.1, 96, .inl zorders)), (a_places, .inl (g.2.1, 16, .inl zplaces)), (a_lefts, .inl (g.2.1, 16, .inl zlefts)), (a_steps, .inl (g.2.1, 256, .inl zsteps)), (a_image, .inl (g.2.1, 122, .inl zimage)), (a_isKept, .inl (g.2.2.1, 2, .inl zisKept))] := hD
    refine lv_aload_n hx hb dX7_clue_198 rfl (lv_at hl 0 rfl) ?_
    refine lv_dup hx hb dX7_clue_199 rfl ?_
    refine va_get (D := g.1) (ci := 7) (v := .int zmany) (C := RX7) (T := TX7) (N := 15) hx hb hts hinX7 hown hK hP 0 rfl rfl 1 (by decide) lk4 (fun _ h9 => h9) rfl dX7_clue_200 ?_
    refine lv_iconst (v := 1) hx hb dX7_clue_203 (by decide) ?_
    refine lv_iadd hx hb dX7_clue_204 ?_
    refine va_put (D := g.1) (ci := 7) (v := .int (zmany + 1)) (ty := .int) (C := RX7) (T := TX7) (N := 15) hx hb hts hinX7 tyX7 tyX7_ok nmX7 hown hK hP hD hS 0 rfl rfl 1 (by decide) lk4 (fun _ h9 => h9) rfl (by decide +kernel) rfl rfl (Nat.le_of_ble_eq_true rfl) dX7_clue_205 (fun H locs hP hD hS => ?_)
    have hP : PP g [(h0, .inr (7, [.ref a_clues, .int (zmany + 1), .ref a_text, .int zsigns, .int zfault, .ref a_orders, .ref a_places, .int zsought, .int zfirst, .int zsecond, .ref a_lefts, .ref a_steps, .int zmade, .ref a_image, .ref a_isKept])), (a_clues, .inl (g.2.1, 60, .inl (upd zclues s1.toNatClampNeg s0))), (a_text, .inl (g.2.1, 10, .inl ztext)), (a_orders, .inl (g.2.1, 96, .inl zorders)), (a_places, .inl (g.2.1, 16, .inl zplaces)), (a_lefts, .inl (g.2.1, 16, .inl zlefts)), (a_steps, .inl (g.2.1, 256, .inl zsteps)), (a_image, .inl (g.2.1, 122, .inl zimage)), (a_isKept, .inl (g.2.2.1, 2, .inl zisKept))] H := hP
    have hD : va_D A [(h0, .inr (7, [.ref a_clues, .int (zmany + 1), .ref a_text, .int zsigns, .int zfault, .ref a_orders, .ref a_places, .int zsought, .int zfirst, .int zsecond, .ref a_lefts, .ref a_steps, .int zmade, .ref a_image, .ref a_isKept])), (a_clues, .inl (g.2.1, 60, .inl (upd zclues s1.toNatClampNeg s0))), (a_text, .inl (g.2.1, 10, .inl ztext)), (a_orders, .inl (g.2.1, 96, .inl zorders)), (a_places, .inl (g.2.1, 16, .inl zplaces)), (a_lefts, .inl (g.2.1, 16, .inl zlefts)), (a_steps, .inl (g.2.1, 256, .inl zsteps)), (a_image, .inl (g.2.1, 122, .inl zimage)), (a_isKept, .inl (g.2.2.1, 2, .inl zisKept))] := hD
    refine lv_aload_n hx hb dX7_clue_208 rfl (lv_at hl 0 rfl) ?_
    refine lv_iconst (v := 0) hx hb dX7_clue_209 (by decide) ?_
    refine va_put (D := g.1) (ci := 7) (v := .int 0) (ty := .int) (C := RX7) (T := TX7) (N := 15) hx hb hts hinX7 tyX7 tyX7_ok nmX7 hown hK hP hD hS 0 rfl rfl 3 (by decide) lk1 (fun _ h9 => h9) rfl (by decide +kernel) rfl rfl (Nat.le_of_ble_eq_true rfl) dX7_clue_210 (fun H locs hP hD hS => ?_)
    have hP : PP g [(h0, .inr (7, [.ref a_clues, .int (zmany + 1), .ref a_text, .int 0, .int zfault, .ref a_orders, .ref a_places, .int zsought, .int zfirst, .int zsecond, .ref a_lefts, .ref a_steps, .int zmade, .ref a_image, .ref a_isKept])), (a_clues, .inl (g.2.1, 60, .inl (upd zclues s1.toNatClampNeg s0))), (a_text, .inl (g.2.1, 10, .inl ztext)), (a_orders, .inl (g.2.1, 96, .inl zorders)), (a_places, .inl (g.2.1, 16, .inl zplaces)), (a_lefts, .inl (g.2.1, 16, .inl zlefts)), (a_steps, .inl (g.2.1, 256, .inl zsteps)), (a_image, .inl (g.2.1, 122, .inl zimage)), (a_isKept, .inl (g.2.2.1, 2, .inl zisKept))] H := hP
    have hD : va_D A [(h0, .inr (7, [.ref a_clues, .int (zmany + 1), .ref a_text, .int 0, .int zfault, .ref a_orders, .ref a_places, .int zsought, .int zfirst, .int zsecond, .ref a_lefts, .ref a_steps, .int zmade, .ref a_image, .ref a_isKept])), (a_clues, .inl (g.2.1, 60, .inl (upd zclues s1.toNatClampNeg s0))), (a_text, .inl (g.2.1, 10, .inl ztext)), (a_orders, .inl (g.2.1, 96, .inl zorders)), (a_places, .inl (g.2.1, 16, .inl zplaces)), (a_lefts, .inl (g.2.1, 16, .inl zlefts)), (a_steps, .inl (g.2.1, 256, .inl zsteps)), (a_image, .inl (g.2.1, 122, .inl zimage)), (a_isKept, .inl (g.2.2.1, 2, .inl zisKept))] := hD
    refine lv_aload_n hx hb dX7_clue_213 rfl (lv_at hl 0 rfl) ?_
    refine va_get (D := g.1) (ci := 7) (v := .int (zmany + 1)) (C := RX7) (T := TX7) (N := 15) hx hb hts hinX7 hown hK hP 0 rfl rfl 1 (by decide) lk4 (fun _ h9 => h9) rfl dX7_clue_214 ?_
    refine lv_iconst (v := 1) hx hb dX7_clue_217 (by decide) ?_
    refine lv_isub hx hb dX7_clue_218 ?_
    exact W.iret hx hb hr (fun t ht hW => ⟨⟨((zmany + 1) - 1), ((zmany + 1), 0, zfault, (upd zclues s1.toNatClampNeg s0)), rfl, hw, by rw [ht]; exact hP, va_K.moved hW.alike hK, hD⟩, hS.F ht⟩) hS.2.2 dX7_clue_219
  have B110 : ∀ (l2 : Int32) (l3 : Int32) (l4 : Int32) (l5 : Int32) (zclues : Nat → Int32) (zmany : Int32) (zsigns : Int32) (zfault : Int32), wp_X7_clue_110 Q ztext  l2 l3 l4 l5 zclues zmany zsigns zfault → ∀ (H : Heap) (locs : List Loc), PP g [(h0, .inr (7, [.ref a_clues, .int zmany, .ref a_text, .int zsigns, .int zfault, .ref a_orders, .ref a_places, .int zsought, .int zfirst, .int zsecond, .ref a_lefts, .ref a_steps, .int zmade, .ref a_image, .ref a_isKept])), (a_clues, .inl (g.2.1, 60, .inl zclues)), (a_text, .inl (g.2.1, 10, .inl ztext)), (a_orders, .inl (g.2.1, 96, .inl zorders)), (a_places, .inl (g.2.1, 16, .inl zplaces)), (a_lefts, .inl (g.2.1, 16, .inl zlefts)), (a_steps, .inl (g.2.1, 256, .inl zsteps)), (a_image, .inl (g.2.1, 122, .inl zimage)), (a_isKept, .inl (g.2.2.1, 2, .inl zisKept))] H → va_D A [(h0, .inr (7, [.ref a_clues, .int zmany, .ref a_text, .int zsigns, .int zfault, .ref a_orders, .ref a_places, .int zsought, .int zfirst, .int zsecond, .ref a_lefts, .ref a_steps, .int zmade, .ref a_image, .ref a_isKept])), (a_clues, .inl (g.2.1, 60, .inl zclues)), (a_text, .inl (g.2.1, 10, .inl ztext)), (a_orders, .inl (g.2.1, 96, .inl zorders)), (a_places, .inl (g.2.1, 16, .inl zplaces)), (a_lefts, .inl (g.2.1, 16, .inl zlefts)), (a_steps, .inl (g.2.1, 256, .inl zsteps)), (a_image, .inl (g.2.1, 122, .inl zimage)), (a_isKept, .inl (g.2.2.1, 2, .inl zisKept))] → va_S A s.heap H locs → ∀ (ls : Array Slot), lv_has ls 7 [(0, .ref h0), (2, .int l2), (3, .int l3), (4, .int l4), (5, .int l5)] → W p l e (headSpec wsX7_clue ({ frames := 3, cells := 0, slots := 0, locals := 67 } : Room)).room s m ([.ref h0] : List Value).toArray below meth c H locs 0 0 (MQ below (va_Qi (fun (r : Int32) (u : Int32 × Int32 × Int32 × (Nat → Int32)) => Q r u.1 u.2.1 u.2.2.1 u.2.2.2) (BM g (fun u : Int32 × Int32 × Int32 × (Nat → Int32) => [(h0, .inr (7, [.ref a_clues, .int u.1, .ref a_text, .int u.2.1, .int u.2.2.1, .ref a_orders, .ref a_places, .int zsought, .int zfirst, .int zsecond, .ref a_lefts, .ref a_steps, .int zmade, .ref a_image, .ref a_isKept])), (a_clues, .inl (g.2.1, 60, .inl u.2.2.2)), (a_text, .inl (g.2.1, 10, .inl ztext)), (a_orders, .inl (g.2.1, 96, .inl zorders)), (a_places, .inl (g.2.1, 16, .inl zplaces)), (a_lefts, .inl (g.2.1, 16, .inl zlefts)), (a_steps, .inl (g.2.1, 256, .inl zsteps)), (a_image, .inl (g.2.1, 122, .inl zimage)), (a_isKept, .inl (g.2.2.1, 2, .inl zisKept))]) A) A) ([.ref h0] : List Value).toArray s 0 0 A) (F0 m 110 ls []) := by
    intro  l2 l3 l4 l5 zclues zmany zsigns zfault hw  H locs hP hD hS ls hl
    refine lv_aload_n hx hb dX7_clue_110 rfl (lv_at hl 0 rfl) ?_
    refine va_get (D := g.1) (ci := 7) (v := .int zmany) (C := RX7) (T := TX7) (N := 15) hx hb hts hinX7 hown hK hP 0 rfl rfl 1 (by decide) lk4 (fun _ h9 => h9) rfl dX7_clue_111 ?_
    refine lv_bipush (v := 12) hx hb dX7_clue_114 (by decide) ?_
    refine lv_icmp_ne (tgt := 122) hx hb dX7_clue_116 (by decide) (fun c12 => ?_) (fun c12 => ?_)
    · replace hw := hw.2 c12
      refine lv_iconst (v := 5) hx hb dX7_clue_122 (by decide) ?_
      refine lv_aload_n hx hb dX7_clue_123 rfl (lv_at hl 0 rfl) ?_
      refine va_get (D := g.1) (ci := 7) (v := .int zmany) (C := RX7) (T := TX7) (N := 15) hx hb hts hinX7 hown hK hP 0 rfl rfl 1 (by decide) lk4 (fun _ h9 => h9) rfl dX7_clue_124 ?_
      refine lv_imul hx hb dX7_clue_127 ?_
      refine lv_topi (fun w13 ew13 => ?_)
      have hw := hw w13 ew13
      refine lv_istore (lv' := [(6, .int w13), (0, .ref h0), (2, .int l2), (3, .int l3), (4, .int l4), (5, .int l5)]) hx hb dX7_clue_128 hl (by decide) rfl (fun ls hl => ?_)
      refine lv_aload_n hx hb dX7_clue_130 rfl (lv_at hl 1 rfl) ?_
      refine va_get (D := g.1) (ci := 7) (v := .ref a_clues) (C := RX7) (T := TX7) (N := 15) hx hb hts hinX7 hown hK hP 0 rfl rfl 0 (by decide) lk5 (fun _ h9 => h9) rfl dX7_clue_131 ?_
      refine lv_iload hx hb dX7_clue_134 (lv_at hl 0 rfl) ?_
      refine lv_iload_n hx hb dX7_clue_136 rfl (lv_at hl 2 rfl) ?_
      obtain ⟨hi, hw⟩ := hw
      refine va_iast hx hb hK hP hD hS 1 0 rfl rfl hi dX7_clue_137 (fun H locs hP hD hS => ?_)
      have hP : PP g [(h0, .inr (7, [.ref a_clues, .int zmany, .ref a_text, .int zsigns, .int zfault, .ref a_orders, .ref a_places, .int zsought, .int zfirst, .int zsecond, .ref a_lefts, .ref a_steps, .int zmade, .ref a_image, .ref a_isKept])), (a_clues, .inl (g.2.1, 60, .inl (upd zclues w13.toNatClampNeg l2))), (a_text, .inl (g.2.1, 10, .inl ztext)), (a_orders, .inl (g.2.1, 96, .inl zorders)), (a_places, .inl (g.2.1, 16, .inl zplaces)), (a_lefts, .inl (g.2.1, 16, .inl zlefts)), (a_steps, .inl (g.2.1, 256, .inl zsteps)), (a_image, .inl (g.2.1, 122, .inl zimage)), (a_isKept, .inl (g.2.2.1, 2, .inl zisKept))] H := hP
      have hD : va_D A [(h0, .inr (7, [.ref a_clues, .int zmany, .ref a_text, .int zsigns, .int zfault, .ref a_orders, .ref a_places, .int zsought, .int zfirst, .int zsecond, .ref a_lefts, .ref a_steps, .int zmade, .ref a_image, .ref a_isKept])), (a_clues, .inl (g.2.1, 60, .inl (upd zclues w13.toNatClampNeg l2))), (a_text, .inl (g.2.1, 10, .inl ztext)), (a_orders, .inl (g.2.1, 96, .inl zorders)), (a_places, .inl (g.2.1, 16, .inl zplaces)), (a_lefts, .inl (g.2.1, 16, .inl zlefts)), (a_steps, .inl (g.2.1, 256, .inl zsteps)), (a_image, .inl (g.2.1, 122, .inl zimage)), (a_isKept, .inl (g.2.2.1, 2, .inl zisKept))] := hD
      refine lv_aload_n hx hb dX7_clue_138 rfl (lv_at hl 1 rfl) ?_
      refine va_get (D := g.1) (ci := 7) (v := .ref a_clues) (C := RX7) (T := TX7) (N := 15) hx hb hts hinX7 hown hK hP 0 rfl rfl 0 (by decide) lk5 (fun _ h9 => h9) rfl dX7_clue_139 ?_
      refine lv_iload hx hb dX7_clue_142 (lv_at hl 0 rfl) ?_
      refine lv_iconst (v := 1) hx hb dX7_clue_144 (by decide) ?_
      refine lv_iadd hx hb dX7_clue_145 ?_
      refine lv_iload_n hx hb dX7_clue_146 rfl (lv_at hl 3 rfl) ?_
      obtain ⟨hi, hw⟩ := hw
      refine va_iast hx hb hK hP hD hS 1 0 rfl rfl hi dX7_clue_147 (fun H locs hP hD hS => ?_)
      have hP : PP g [(h0, .inr (7, [.ref a_clues, .int zmany, .ref a_text, .int zsigns, .int zfault, .ref a_orders, .ref a_places, .int zsought, .int zfirst, .int zsecond, .ref a_lefts, .ref a_steps, .int zmade, .ref a_image, .ref a_isKept])), (a_clues, .inl (g.2.1, 60, .inl (upd (upd zclues w13.toNatClampNeg l2) (w13 + 1).toNatClampNeg l3))), (a_text, .inl (g.2.1, 10, .inl ztext)), (a_orders, .inl (g.2.1, 96, .inl zorders)), (a_places, .inl (g.2.1, 16, .inl zplaces)), (a_lefts, .inl (g.2.1, 16, .inl zlefts)), (a_steps, .inl (g.2.1, 256, .inl zsteps)), (a_image, .inl (g.2.1, 122, .inl zimage)), (a_isKept, .inl (g.2.2.1, 2, .inl zisKept))] H := hP
      have hD : va_D A [(h0, .inr (7, [.ref a_clues, .int zmany, .ref a_text, .int zsigns, .int zfault, .ref a_orders, .ref a_places, .int zsought, .int zfirst, .int zsecond, .ref a_lefts, .ref a_steps, .int zmade, .ref a_image, .ref a_isKept])), (a_clues, .inl (g.2.1, 60, .inl (upd (upd zclues w13.toNatClampNeg l2) (w13 + 1).toNatClampNeg l3))), (a_text, .inl (g.2.1, 10, .inl ztext)), (a_orders, .inl (g.2.1, 96, .inl zorders)), (a_places, .inl (g.2.1, 16, .inl zplaces)), (a_lefts, .inl (g.2.1, 16, .inl zlefts)), (a_steps, .inl (g.2.1, 256, .inl zsteps)), (a_image, .inl (g.2.1, 122, .inl zimage)), (a_isKept, .inl (g.2.2.1, 2, .inl zisKept))] := hD
      refine lv_aload_n hx hb dX7_clue_148 rfl (lv_at hl 1 rfl) ?_
      refine va_get (D := g.1) (ci := 7) (v := .ref a_clues) (C := RX7) (T := TX7) (N := 15) hx hb hts hinX7 hown hK hP 0 rfl rfl 0 (by decide) lk5 (fun _ h9 => h9) rfl dX7_clue_149 ?_
      refine lv_iload hx hb dX7_clue_152 (lv_at hl 0 rfl) ?_
      refine lv_iconst (v := 2) hx hb dX7_clue_154 (by decide) ?_
      refine lv_iadd hx hb dX7_clue_155 ?_
      refine lv_iload hx hb dX7_clue_156 (lv_at hl 4 rfl) ?_
      obtain ⟨hi, hw⟩ := hw
      refine va_iast hx hb hK hP hD hS 1 0 rfl rfl hi dX7_clue_158 (fun H locs hP hD hS => ?_)
      have hP : PP g [(h0, .inr (7, [.ref a_clues, .int zmany, .ref a_text, .int zsigns, .int zfault, .ref a_orders, .ref a_places, .int zsought, .int zfirst, .int zsecond, .ref a_lefts, .ref a_steps, .int zmade, .ref a_image, .ref a_isKept])), (a_clues, .inl (g.2.1, 60, .inl (upd (upd (upd zclues w13.toNatClampNeg l2) (w13 + 1).toNatClampNeg l3) (w13 + 2).toNatClampNeg l4))), (a_text, .inl (g.2.1, 10, .inl ztext)), (a_orders, .inl (g.2.1, 96, .inl zorders)), (a_places, .inl (g.2.1, 16, .inl zplaces)), (a_lefts, .inl (g.2.1, 16, .inl zlefts)), (a_steps, .inl (g.2.1, 256, .inl zsteps)), (a_image, .inl (g.2.1, 122, .inl zimage)), (a_isKept, .inl (g.2.2.1, 2, .inl zisKept))] H := hP
      have hD : va_D A [(h0, .inr (7, [.ref a_clues, .int zmany, .ref a_text, .int zsigns, .int zfault, .ref a_orders, .ref a_places, .int zsought, .int zfirst, .int zsecond, .ref a_lefts, .ref a_steps, .int zmade, .ref a_image, .ref a_isKept])), (a_clues, .inl (g.2.1, 60, .inl (upd (upd (upd zclues w13.toNatClampNeg l2) (w13 + 1).toNatClampNeg l3) (w13 + 2).toNatClampNeg l4))), (a_text, .inl (g.2.1, 10, .inl ztext)), (a_orders, .inl (g.2.1, 96, .inl zorders)), (a_places, .inl (g.2.1, 16, .inl zplaces)), (a_lefts, .inl (g.2.1, 16, .inl zlefts)), (a_steps, .inl (g.2.1, 256, .inl zsteps)), (a_image, .inl (g.2.1, 122, .inl zimage)), (a_isKept, .inl (g.2.2.1, 2, .inl zisKept))] := hD
      refine lv_aload_n hx hb dX7_clue_159 rfl (lv_at hl 1 rfl) ?_
      refine va_get (D := g.1) (ci := 7) (v := .ref a_clues) (C := RX7) (T := TX7) (N := 15) hx hb hts hinX7 hown hK hP 0 rfl rfl 0 (by decide) lk5 (fun _ h9 => h9) rfl dX7_clue_160 ?_
      refine lv_iload hx hb dX7_clue_163 (lv_at hl 0 rfl) ?_
      refine lv_iconst (v := 3) hx hb dX7_clue_165 (by decide) ?_
      refine lv_iadd hx hb dX7_clue_166 ?_
      refine lv_iload hx hb dX7_clue_167 (lv_at hl 5 rfl) ?_
      obtain ⟨hi, hw⟩ := hw
      refine va_iast hx hb hK hP hD hS 1 0 rfl rfl hi dX7_clue_169 (fun H locs hP hD hS => ?_)
      have hP : PP g [(h0, .inr (7, [.ref a_clues, .int zmany, .ref a_text, .int zsigns, .int zfault, .ref a_orders, .ref a_places, .int zsought, .int zfirst, .int zsecond, .ref a_lefts, .ref a_steps, .int zmade, .ref a_image, .ref a_isKept])), (a_clues, .inl (g.2.1, 60, .inl (upd (upd (upd (upd zclues w13.toNatClampNeg l2) (w13 + 1).toNatClampNeg l3) (w13 + 2).toNatClampNeg l4) (w13 + 3).toNatClampNeg l5))), (a_text, .inl (g.2.1, 10, .inl ztext)), (a_orders, .inl (g.2.1, 96, .inl zorders)), (a_places, .inl (g.2.1, 16, .inl zplaces)), (a_lefts, .inl (g.2.1, 16, .inl zlefts)), (a_steps, .inl (g.2.1, 256, .inl zsteps)), (a_image, .inl (g.2.1, 122, .inl zimage)), (a_isKept, .inl (g.2.2.1, 2, .inl zisKept))] H := hP
      have hD : va_D A [(h0, .inr (7, [.ref a_clues, .int zmany, .ref a_text, .int zsigns, .int zfault, .ref a_orders, .ref a_places, .int zsought, .int zfirst, .int zsecond, .ref a_lefts, .ref a_steps, .int zmade, .ref a_image, .ref a_isKept])), (a_clues, .inl (g.2.1, 60, .inl (upd (upd (upd (upd zclues w13.toNatClampNeg l2) (w13 + 1).toNatClampNeg l3) (w13 + 2).toNatClampNeg l4) (w13 + 3).toNatClampNeg l5))), (a_text, .inl (g.2.1, 10, .inl ztext)), (a_orders, .inl (g.2.1, 96, .inl zorders)), (a_places, .inl (g.2.1, 16, .inl zplaces)), (a_lefts, .inl (g.2.1, 16, .inl zlefts)), (a_steps, .inl (g.2.1, 256, .inl zsteps)), (a_image, .inl (g.2.1, 122, .inl zimage)), (a_isKept, .inl (g.2.2.1, 2, .inl zisKept))] := hD
      refine lv_aload_n hx hb dX7_clue_170 rfl (lv_at hl 1 rfl) ?_
      refine va_get (D := g.1) (ci := 7) (v := .ref a_clues) (C := RX7) (T := TX7) (N := 15) hx hb hts hinX7 hown hK hP 0 rfl rfl 0 (by decide) lk5 (fun _ h9 => h9) rfl dX7_clue_171 ?_
      refine lv_iload hx hb dX7_clue_174 (lv_at hl 0 rfl) ?_
      refine lv_iconst (v := 4) hx hb dX7_clue_176 (by decide) ?_
      refine lv_iadd hx hb dX7_clue_177 ?_
      refine lv_iload_n hx hb dX7_clue_178 rfl (lv_at hl 2 rfl) ?_
      refine lv_iconst (v := 5) hx hb dX7_clue_179 (by decide) ?_
      refine lv_icmp_ne (tgt := 195) hx hb dX7_clue_180 (by decide) (fun c14 => ?_) (fun c14 => ?_)
      · replace hw := hw.2 c14
        refine lv_bipush (v := (-6)) hx hb dX7_clue_195 (by decide) ?_
        exact B197  (-6) (w13 + 4) (upd (upd (upd (upd zclues w13.toNatClampNeg l2) (w13 + 1).toNatClampNeg l3) (w13 + 2).toNatClampNeg l4) (w13 + 3).toNatClampNeg l5) zmany zsigns zfault hw  _ _ hP hD hS ls (lv_sub hl [1] rfl)
      · replace hw := hw.1 c14
        refine lv_aload_n hx hb dX7_clue_183 rfl (lv_at hl 1 rfl) ?_
        refine va_get (D := g.1) (ci := 7) (v := .ref a_text) (C := RX7) (T := TX7) (N := 15) hx hb hts hinX7 hown hK hP 0 rfl rfl 2 (by decide) lk3 (fun _ h9 => h9) rfl dX7_clue_184 ?_
        refine lv_iconst (v := 3) hx hb dX7_clue_187 (by decide) ?_
        refine va_iald hx hb hK hP 2 0 rfl rfl (vin (by decide)) dX7_clue_188 ?_
        refine lv_bipush (v := 48) hx hb dX7_clue_189 (by decide) ?_
        refine lv_isub hx hb dX7_clue_191 ?_
        refine lv_goto (tgt := 197) hx hb dX7_clue_192 (by decide) ?_
        exact B197  ((ztext (3 : Int32).toNatClampNeg) - 48) (w13 + 4) (upd (upd (upd (upd zclues w13.toNatClampNeg l2) (w13 + 1).toNatClampNeg l3) (w13 + 2).toNatClampNeg l4) (w13 + 3).toNatClampNeg l5) zmany zsigns zfault hw  _ _ hP hD hS ls (lv_sub hl [1] rfl)
    · replace hw := hw.1 c12
      refine lv_bipush (v := (-4)) hx hb dX7_clue_119 (by decide) ?_
      exact W.iret hx hb hr (fun t ht hW => ⟨⟨(-4), (zmany, zsigns, zfault, zclues), rfl, hw, by rw [ht]; exact hP, va_K.moved hW.alike hK, hD⟩, hS.F ht⟩) hS.2.2 dX7_clue_121
  have B81 : ∀ (l2 : Int32) (l3 : Int32) (l4 : Int32) (s0 : Int32) (zclues : Nat → Int32) (zmany : Int32) (zsigns : Int32) (zfault : Int32), wp_X7_clue_81 Q ztext  l2 l3 l4 s0 zclues zmany zsigns zfault → ∀ (H : Heap) (locs : List Loc), PP g [(h0, .inr (7, [.ref a_clues, .int zmany, .ref a_text, .int zsigns, .int zfault, .ref a_orders, .ref a_places, .int zsought, .int zfirst, .int zsecond, .ref a_lefts, .ref a_steps, .int zmade, .ref a_image, .ref a_isKept])), (a_clues, .inl (g.2.1, 60, .inl zclues)), (a_text, .inl (g.2.1, 10, .inl ztext)), (a_orders, .inl (g.2.1, 96, .inl zorders)), (a_places, .inl (g.2.1, 16, .inl zplaces)), (a_lefts, .inl (g.2.1, 16, .inl zlefts)), (a_steps, .inl (g.2.1, 256, .inl zsteps)), (a_image, .inl (g.2.1, 122, .inl zimage)), (a_isKept, .inl (g.2.2.1, 2, .inl zisKept))] H → va_D A [(h0, .inr (7, [.ref a_clues, .int zmany, .ref a_text, .int zsigns, .int zfault, .ref a_orders, .ref a_places, .int zsought, .int zfirst, .int zsecond, .ref a_lefts, .ref a_steps, .int zmade, .ref a_image, .ref a_isKept])), (a_clues, .inl (g.2.1, 60, .inl zclues)), (a_text, .inl (g.2.1, 10, .inl ztext)), (a_orders, .inl (g.2.1, 96, .inl zorders)), (a_places, .inl (g.2.1, 16, .inl zplaces)), (a_lefts, .inl (g.2.1, 16, .inl zlefts)), (a_steps, .inl (g.2.1, 256, .inl zsteps)), (a_image, .inl (g.2.1, 122, .inl zimage)), (a_isKept, .inl (g.2.2.1, 2, .inl zisKept))] → va_S A s.heap H locs → ∀ (ls : Array Slot), lv_has ls 7 [(0, .ref h0), (2, .int l2), (3, .int l3), (4, .int l4)] → W p l e (headSpec wsX7_clue ({ frames := 3, cells := 0, slots := 0, locals := 67 } : Room)).room s m ([.ref h0] : List Value).toArray below meth c H locs 0 0 (MQ below (va_Qi (fun (r : Int32) (u : Int32 × Int32 × Int32 × (Nat → Int32)) => Q r u.1 u.2.1 u.2.2.1 u.2.2.2) (BM g (fun u : Int32 × Int32 × Int32 × (Nat → Int32) => [(h0, .inr (7, [.ref a_clues, .int u.1, .ref a_text, .int u.2.1, .int u.2.2.1, .ref a_orders, .ref a_places, .int zsought, .int zfirst, .int zsecond, .ref a_lefts, .ref a_steps, .int zmade, .ref a_image, .ref a_isKept])), (a_clues, .inl (g.2.1, 60, .inl u.2.2.2)), (a_text, .inl (g.2.1, 10, .inl ztext)), (a_orders, .inl (g.2.1, 96, .inl zorders)), (a_places, .inl (g.2.1, 16, .inl zplaces)), (a_lefts, .inl (g.2.1, 16, .inl zlefts)), (a_steps, .inl (g.2.1, 256, .inl zsteps)), (a_image, .inl (g.2.1, 122, .inl zimage)), (a_isKept, .inl (g.2.2.1, 2, .inl zisKept))]) A) A) ([.ref h0] : List Value).toArray s 0 0 A) (F0 m 81 ls [.int s0]) := by
    intro  l2 l3 l4 s0 zclues zmany zsigns zfault hw  H locs hP hD hS ls hl
    refine lv_istore (lv' := [(5, .int s0), (0, .ref h0), (2, .int l2), (3, .int l3), (4, .int l4)]) hx hb dX7_clue_81 hl (by decide) rfl (fun ls hl => ?_)
    refine lv_iload_n hx hb dX7_clue_83 rfl (lv_at hl 3 rfl) ?_
    refine lv_iload hx hb dX7_clue_84 (lv_at hl 4 rfl) ?_
    refine lv_icmp_eq (tgt := 107) hx hb dX7_clue_86 (by decide) (fun c9 => ?_) (fun c9 => ?_)
    · replace hw := hw.1 c9
      refine lv_bipush (v := (-5)) hx hb dX7_clue_107 (by decide) ?_
      exact W.iret hx hb hr (fun t ht hW => ⟨⟨(-5), (zmany, zsigns, zfault, zclues), rfl, hw, by rw [ht]; exact hP, va_K.moved hW.alike hK, hD⟩, hS.F ht⟩) hS.2.2 dX7_clue_109
    · replace hw := hw.2 c9
      refine lv_iload_n hx hb dX7_clue_89 rfl (lv_at hl 3 rfl) ?_
      refine lv_iload hx hb dX7_clue_90 (lv_at hl 0 rfl) ?_
      refine lv_icmp_eq (tgt := 107) hx hb dX7_clue_92 (by decide) (fun c10 => ?_) (fun c10 => ?_)
      · replace hw := hw.1 c10
        refine lv_bipush (v := (-5)) hx hb dX7_clue_107 (by decide) ?_
        exact W.iret hx hb hr (fun t ht hW => ⟨⟨(-5), (zmany, zsigns, zfault, zclues), rfl, hw, by rw [ht]; exact hP, va_K.moved hW.alike hK, hD⟩, hS.F ht⟩) hS.2.2 dX7_clue_109
      · replace hw := hw.2 c10
        refine lv_iload hx hb dX7_clue_95 (lv_at hl 4 rfl) ?_
        refine lv_if_lt (tgt := 110) hx hb dX7_clue_97 (by decide) (fun c11 => ?_) (fun c11 => ?_)
        · replace hw := hw.1 c11
          exact B110  l2 l3 l4 s0 zclues zmany zsigns zfault hw  _ _ hP hD hS ls (lv_sub hl [1, 2, 3, 4, 0] rfl)
        · replace hw := hw.2 c11
          refine lv_iload hx hb dX7_clue_100 (lv_at hl 4 rfl) ?_
          refine lv_iload hx hb dX7_clue_102 (lv_at hl 0 rfl) ?_
          refine lv_icmp_ne (tgt := 110) hx hb dX7_clue_104 (by decide) (fun c15 => ?_) (fun c15 => ?_)
          · replace hw := hw.2 c15
            exact B110  l2 l3 l4 s0 zclues zmany zsigns zfault hw  _ _ hP hD hS ls (lv_sub hl [1, 2, 3, 4, 0] rfl)
          · replace hw := hw.1 c15
            refine lv_bipush (v := (-5)) hx hb dX7_clue_107 (by decide) ?_
            exact W.iret hx hb hr (fun t ht hW => ⟨⟨(-5), (zmany, zsigns, zfault, zclues), rfl, hw, by rw [ht]; exact hP, va_K.moved hW.alike hK, hD⟩, hS.F ht⟩) hS.2.2 dX7_clue_109
  have B62 : ∀ (l2 : Int32) (l3 : Int32) (s0 : Int32) (zclues : Nat → Int32) (zmany : Int32) (zsigns : Int32) (zfault : Int32), wp_X7_clue_62 Q ztext  l2 l3 s0 zclues zmany zsigns zfault → ∀ (H : Heap) (locs : List Loc), PP g [(h0, .inr (7, [.ref a_clues, .int zmany, .ref a_text, .int zsigns, .int zfault, .ref a_orders, .ref a_places, .int zsought, .int zfirst, .int zsecond, .ref a_lefts, .ref a_steps, .int zmade, .ref a_image, .ref a_isKept])), (a_clues, .inl (g.2.1, 60, .inl zclues)), (a_text, .inl (g.2.1, 10, .inl ztext)), (a_orders, .inl (g.2.1, 96, .inl zorders)), (a_places, .inl (g.2.1, 16, .inl zplaces)), (a_lefts, .inl (g.2.1, 16, .inl zlefts)), (a_steps, .inl (g.2.1, 256, .inl zsteps)), (a_image, .inl (g.2.1, 122, .inl zimage)), (a_isKept, .inl (g.2.2.1, 2, .inl zisKept))] H → va_D A [(h0, .inr (7, [.ref a_clues, .int zmany, .ref a_text, .int zsigns, .int zfault, .ref a_orders, .ref a_places, .int zsought, .int zfirst, .int zsecond, .ref a_lefts, .ref a_steps, .int zmade, .ref a_image, .ref a_isKept])), (a_clues, .inl (g.2.1, 60, .inl zclues)), (a_text, .inl (g.2.1, 10, .inl ztext)), (a_orders, .inl (g.2.1, 96, .inl zorders)), (a_places, .inl (g.2.1, 16, .inl zplaces)), (a_lefts, .inl (g.2.1, 16, .inl zlefts)), (a_steps, .inl (g.2.1, 256, .inl zsteps)), (a_image, .inl (g.2.1, 122, .inl zimage)), (a_isKept, .inl (g.2.2.1, 2, .inl zisKept))] → va_S A s.heap H locs → ∀ (ls : Array Slot), lv_has ls 7 [(0, .ref h0), (2, .int l2), (3, .int l3)] → W p l e (headSpec wsX7_clue ({ frames := 3, cells := 0, slots := 0, locals := 67 } : Room)).room s m ([.ref h0] : List Value).toArray below meth c H locs 0 0 (MQ below (va_Qi (fun (r : Int32) (u : Int32 × Int32 × Int32 × (Nat → Int32)) => Q r u.1 u.2.1 u.2.2.1 u.2.2.2) (BM g (fun u : Int32 × Int32 × Int32 × (Nat → Int32) => [(h0, .inr (7, [.ref a_clues, .int u.1, .ref a_text, .int u.2.1, .int u.2.2.1, .ref a_orders, .ref a_places, .int zsought, .int zfirst, .int zsecond, .ref a_lefts, .ref a_steps, .int zmade, .ref a_image, .ref a_isKept])), (a_clues, .inl (g.2.1, 60, .inl u.2.2.2)), (a_text, .inl (g.2.1, 10, .inl ztext)), (a_orders, .inl (g.2.1, 96, .inl zorders)), (a_places, .inl (g.2.1, 16, .inl zplaces)), (a_lefts, .inl (g.2.1, 16, .inl zlefts)), (a_steps, .inl (g.2.1, 256, .inl zsteps)), (a_image, .inl (g.2.1, 122, .inl zimage)), (a_isKept, .inl (g.2.2.1, 2, .inl zisKept))]) A) A) ([.ref h0] : List Value).toArray s 0 0 A) (F0 m 62 ls [.int s0]) := by
    intro  l2 l3 s0 zclues zmany zsigns zfault hw  H locs hP hD hS ls hl
    refine lv_istore (lv' := [(4, .int s0), (0, .ref h0), (2, .int l2), (3, .int l3)]) hx hb dX7_clue_62 hl (by decide) rfl (fun ls hl => ?_)
    refine lv_iload_n hx hb dX7_clue_64 rfl (lv_at hl 2 rfl) ?_
    refine lv_bipush (v := 6) hx hb dX7_clue_65 (by decide) ?_
    refine lv_icmp_ne (tgt := 79) hx hb dX7_clue_67 (by decide) (fun c8 => ?_) (fun c8 => ?_)
    · replace hw := hw.2 c8
      refine lv_bipush (v := (-6)) hx hb dX7_clue_79 (by decide) ?_
      exact B81  l2 l3 s0 (-6) zclues zmany zsigns zfault hw  _ _ hP hD hS ls (lv_sub hl [1, 2, 3, 0] rfl)
    · replace hw := hw.1 c8
      refine lv_aload_n hx hb dX7_clue_70 rfl (lv_at hl 1 rfl) ?_
      refine lv_bipush (v := 6) hx hb dX7_clue_71 (by decide) ?_
      refine kp_V (As := [.int 6]) (rest := []) (wc := [(h0, .inr (7, [.ref a_clues, .int zmany, .ref a_text, .int zsigns, .int zfault, .ref a_orders, .ref a_places, .int zsought, .int zfirst, .int zsecond, .ref a_lefts, .ref a_steps, .int zmade, .ref a_image, .ref a_isKept])), (a_clues, .inl (g.2.1, 60, .inl zclues)), (a_text, .inl (g.2.1, 10, .inl ztext)), (a_orders, .inl (g.2.1, 96, .inl zorders)), (a_places, .inl (g.2.1, 16, .inl zplaces)), (a_lefts, .inl (g.2.1, 16, .inl zlefts)), (a_steps, .inl (g.2.1, 256, .inl zsteps)), (a_image, .inl (g.2.1, 122, .inl zimage)), (a_isKept, .inl (g.2.2.1, 2, .inl zisKept))]) (cq := (RX7, TX7, 15)) ⟨hx, hb, hml, hown, hts⟩ (m_X7_itemAt l g hok (h0 := h0) (a_clues := a_clues) (a_text := a_text) (a_orders := a_orders) (a_places := a_places) (a_lefts := a_lefts) (a_steps := a_steps) (a_image := a_image) (a_isKept := a_isKept) (zclues := zclues) (zmany := zmany) (ztext := ztext) (zsigns := zsigns) (zfault := zfault) (zorders := zorders) (zplaces := zplaces) (zsought := zsought) (zfirst := zfirst) (zsecond := zsecond) (zlefts := zlefts) (zsteps := zsteps) (zmade := zmade) (zimage := zimage) (zisKept := zisKept) (x1 := 6) hw) (cwV 1 hts gX7_clue_X7_itemAt rfl rfl rfl hd_X7_itemAt ⟨Nat.le_of_ble_eq_true rfl, Nat.le_of_ble_eq_true rfl⟩) hok hK hP hro hS hA 0 7 rfl rfl rfl hl.1 rfl (Nat.le_of_ble_eq_true rfl) dX7_clue_73 ⟨Nat.le_of_ble_eq_true rfl, Nat.le_of_ble_eq_true rfl⟩ (fun r16 hw => ?_)
      refine lv_goto (tgt := 81) hx hb dX7_clue_76 (by decide) ?_
      exact B81  l2 l3 s0 r16 zclues zmany zsigns zfault hw  _ _ hP hD hS ls (lv_sub hl [1, 2, 3, 0] rfl)
  have B40 : ∀ (s0 : Int32) (zclues : Nat → Int32) (zmany : Int32) (zsigns : Int32) (zfault : Int32), wp_X7_clue_40 Q ztext  s0 zclues zmany zsigns zfault → ∀ (H : Heap) (locs : List Loc), PP g [(h0, .inr (7, [.ref a_clues, .int zmany, .ref a_text, .int zsigns, .int zfault, .ref a_orders, .ref a_places, .int zsought, .int zfirst, .int zsecond, .ref a_lefts, .ref a_steps, .int zmade, .ref a_image, .ref a_isKept])), (a_clues, .inl (g.2.1, 60, .inl zclues)), (a_text, .inl (g.2.1, 10, .inl ztext)), (a_orders, .inl (g.2.1, 96, .inl zorders)), (a_places, .inl (g.2.1, 16, .inl zplaces)), (a_lefts, .inl (g.2.1, 16, .inl zlefts)), (a_steps, .inl (g.2.1, 256, .inl zsteps)), (a_image, .inl (g.2.1, 122, .inl zimage)), (a_isKept, .inl (g.2.2.1, 2, .inl zisKept))] H → va_D A [(h0, .inr (7, [.ref a_clues, .int zmany, .ref a_text, .int zsigns, .int zfault, .ref a_orders, .ref a_places, .int zsought, .int zfirst, .int zsecond, .ref a_lefts, .ref a_steps, .int zmade, .ref a_image, .ref a_isKept])), (a_clues, .inl (g.2.1, 60, .inl zclues)), (a_text, .inl (g.2.1, 10, .inl ztext)), (a_orders, .inl (g.2.1, 96, .inl zorders)), (a_places, .inl (g.2.1, 16, .inl zplaces)), (a_lefts, .inl (g.2.1, 16, .inl zlefts)), (a_steps, .inl (g.2.1, 256, .inl zsteps)), (a_image, .inl (g.2.1, 122, .inl zimage)), (a_isKept, .inl (g.2.2.1, 2, .inl zisKept))] → va_S A s.heap H locs → ∀ (ls : Array Slot), lv_has ls 7 [(0, .ref h0)] → W p l e (headSpec wsX7_clue ({ frames := 3, cells := 0, slots := 0, locals := 67 } : Room)).room s m ([.ref h0] : List Value).toArray below meth c H locs 0 0 (MQ below (va_Qi (fun (r : Int32) (u : Int32 × Int32 × Int32 × (Nat → Int32)) => Q r u.1 u.2.1 u.2.2.1 u.2.2.2) (BM g (fun u : Int32 × Int32 × Int32 × (Nat → Int32) => [(h0, .inr (7, [.ref a_clues, .int u.1, .ref a_text, .int u.2.1, .int u.2.2.1, .ref a_orders, .ref a_places, .int zsought, .int zfirst, .int zsecond, .ref a_lefts, .ref a_steps, .int zmade, .ref a_image, .ref a_isKept])), (a_clues, .inl (g.2.1, 60, .inl u.2.2.2)), (a_text, .inl (g.2.1, 10, .inl ztext)), (a_orders, .inl (g.2.1, 96, .inl zorders)), (a_places, .inl (g.2.1, 16, .inl zplaces)), (a_lefts, .inl (g.2.1, 16, .inl zlefts)), (a_steps, .inl (g.2.1, 256, .inl zsteps)), (a_image, .inl (g.2.1, 122, .inl zimage)), (a_isKept, .inl (g.2.2.1, 2, .inl zisKept))]) A) A) ([.ref h0] : List Value).toArray s 0 0 A) (F0 m 40 ls [.int s0]) := by
    intro  s0 zclues zmany zsigns zfault hw  H locs hP hD hS ls hl
    refine lv_istore_n (lv' := [(2, .int s0), (0, .ref h0)]) hx hb dX7_clue_40 rfl hl (by decide) rfl (fun ls hl => ?_)
    refine lv_aload_n hx hb dX7_clue_41 rfl (lv_at hl 1 rfl) ?_
    refine lv_iconst (v := 0) hx hb dX7_clue_42 (by decide) ?_
    refine kp_V (As := [.int 0]) (rest := []) (wc := [(h0, .inr (7, [.ref a_clues, .int zmany, .ref a_text, .int zsigns, .int zfault, .ref a_orders, .ref a_places, .int zsought, .int zfirst, .int zsecond, .ref a_lefts, .ref a_steps, .int zmade, .ref a_image, .ref a_isKept])), (a_clues, .inl (g.2.1, 60, .inl zclues)), (a_text, .inl (g.2.1, 10, .inl ztext)), (a_orders, .inl (g.2.1, 96, .inl zorders)), (a_places, .inl (g.2.1, 16, .inl zplaces)), (a_lefts, .inl (g.2.1, 16, .inl zlefts)), (a_steps, .inl (g.2.1, 256, .inl zsteps)), (a_image, .inl (g.2.1, 122, .inl zimage)), (a_isKept, .inl (g.2.2.1, 2, .inl zisKept))]) (cq := (RX7, TX7, 15)) ⟨hx, hb, hml, hown, hts⟩ (m_X7_itemAt l g hok (h0 := h0) (a_clues := a_clues) (a_text := a_text) (a_orders := a_orders) (a_places := a_places) (a_lefts := a_lefts) (a_steps := a_steps) (a_image := a_image) (a_isKept := a_isKept) (zclues := zclues) (zmany := zmany) (ztext := ztext) (zsigns := zsigns) (zfault := zfault) (zorders := zorders) (zplaces := zplaces) (zsought := zsought) (zfirst := zfirst) (zsecond := zsecond) (zlefts := zlefts) (zsteps := zsteps) (zmade := zmade) (zimage := zimage) (zisKept := zisKept) (x1 := 0) hw) (cwV 1 hts gX7_clue_X7_itemAt rfl rfl rfl hd_X7_itemAt ⟨Nat.le_of_ble_eq_true rfl, Nat.le_of_ble_eq_true rfl⟩) hok hK hP hro hS hA 0 7 rfl rfl rfl hl.1 rfl (Nat.le_of_ble_eq_true rfl) dX7_clue_43 ⟨Nat.le_of_ble_eq_true rfl, Nat.le_of_ble_eq_true rfl⟩ (fun r5 hw => ?_)
    refine lv_istore_n (lv' := [(3, .int r5), (2, .int s0), (0, .ref h0)]) hx hb dX7_clue_46 rfl hl (by decide) rfl (fun ls hl => ?_)
    refine lv_iload_n hx hb dX7_clue_47 rfl (lv_at hl 1 rfl) ?_
    refine lv_iconst (v := 5) hx hb dX7_clue_48 (by decide) ?_
    refine lv_icmp_ne (tgt := 57) hx hb dX7_clue_49 (by decide) (fun c6 => ?_) (fun c6 => ?_)
    · replace hw := hw.2 c6
      refine lv_aload_n hx hb dX7_clue_57 rfl (lv_at hl 2 rfl) ?_
      refine lv_iconst (v := 3) hx hb dX7_clue_58 (by decide) ?_
      refine kp_V (As := [.int 3]) (rest := []) (wc := [(h0, .inr (7, [.ref a_clues, .int zmany, .ref a_text, .int zsigns, .int zfault, .ref a_orders, .ref a_places, .int zsought, .int zfirst, .int zsecond, .ref a_lefts, .ref a_steps, .int zmade, .ref a_image, .ref a_isKept])), (a_clues, .inl (g.2.1, 60, .inl zclues)), (a_text, .inl (g.2.1, 10, .inl ztext)), (a_orders, .inl (g.2.1, 96, .inl zorders)), (a_places, .inl (g.2.1, 16, .inl zplaces)), (a_lefts, .inl (g.2.1, 16, .inl zlefts)), (a_steps, .inl (g.2.1, 256, .inl zsteps)), (a_image, .inl (g.2.1, 122, .inl zimage)), (a_isKept, .inl (g.2.2.1, 2, .inl zisKept))]) (cq := (RX7, TX7, 15)) ⟨hx, hb, hml, hown, hts⟩ (m_X7_itemAt l g hok (h0 := h0) (a_clues := a_clues) (a_text := a_text) (a_orders := a_orders) (a_places := a_places) (a_lefts := a_lefts) (a_steps := a_steps) (a_image := a_image) (a_isKept := a_isKept) (zclues := zclues) (zmany := zmany) (ztext := ztext) (zsigns := zsigns) (zfault := zfault) (zorders := zorders) (zplaces := zplaces) (zsought := zsought) (zfirst := zfirst) (zsecond := zsecond) (zlefts := zlefts) (zsteps := zsteps) (zmade := zmade) (zimage := zimage) (zisKept := zisKept) (x1 := 3) hw) (cwV 1 hts gX7_clue_X7_itemAt rfl rfl rfl hd_X7_itemAt ⟨Nat.le_of_ble_eq_true rfl, Nat.le_of_ble_eq_true rfl⟩) hok hK hP hro hS hA 0 7 rfl rfl rfl hl.1 rfl (Nat.le_of_ble_eq_true rfl) dX7_clue_59 ⟨Nat.le_of_ble_eq_true rfl, Nat.le_of_ble_eq_true rfl⟩ (fun r7 hw => ?_)
      exact B62  s0 r5 r7 zclues zmany zsigns zfault hw  _ _ hP hD hS ls (lv_sub hl [2, 1, 0] rfl)
    · replace hw := hw.1 c6
      refine lv_bipush (v := (-6)) hx hb dX7_clue_52 (by decide) ?_
      refine lv_goto (tgt := 62) hx hb dX7_clue_54 (by decide) ?_
      exact B62  s0 r5 (-6) zclues zmany zsigns zfault hw  _ _ hP hD hS ls (lv_sub hl [2, 1, 0] rfl)
  have hl := lv_entry ([.ref h0]) (n := 7) (Nat.le_of_ble_eq_true rfl)
  rw [lg_entry_eq]
  generalize (lg_sl ([.ref h0]) ++ List.replicate (7 - (lg_sl ([.ref h0])).length) Slot.unset).toArray = ls at hl ⊢
  have hl : lv_has ls 7 [(0, .ref h0)] := hl
  unfold wp_X7_clue at hw
  refine lv_aload_n hx hb dX7_clue_0 rfl (lv_at hl 0 rfl) ?_
  refine kp_V (As := []) (rest := []) (wc := [(h0, .inr (7, [.ref a_clues, .int zmany, .ref a_text, .int zsigns, .int zfault, .ref a_orders, .ref a_places, .int zsought, .int zfirst, .int zsecond, .ref a_lefts, .ref a_steps, .int zmade, .ref a_image, .ref a_isKept])), (a_clues, .inl (g.2.1, 60, .inl zclues)), (a_text, .inl (g.2.1, 10, .inl ztext)), (a_orders, .inl (g.2.1, 96, .inl zorders)), (a_places, .inl (g.2.1, 16, .inl zplaces)), (a_lefts, .inl (g.2.1, 16, .inl zlefts)), (a_steps, .inl (g.2.1, 256, .inl zsteps)), (a_image, .inl (g.2.1, 122, .inl zimage)), (a_isKept, .inl (g.2.2.1, 2, .inl zisKept))]) (cq := (RX7, TX7, 15)) ⟨hx, hb, hml, hown, hts⟩ (m_X7_faultNow l g hok (h0 := h0) (a_clues := a_clues) (a_text := a_text) (a_orders := a_orders) (a_places := a_places) (a_lefts := a_lefts) (a_steps := a_steps) (a_image := a_image) (a_isKept := a_isKept) (zclues := zclues) (zmany := zmany) (ztext := ztext) (zsigns := zsigns) (zfault := zfault) (zorders := zorders) (zplaces := zplaces) (zsought := zsought) (zfirst := zfirst) (zsecond := zsecond) (zlefts := zlefts) (zsteps := zsteps) (zmade := zmade) (zimage := zimage) (zisKept := zisKept) hw) (cwV 0 hts gX7_clue_X7_faultNow rfl rfl rfl hd_X7_faultNow ⟨Nat.le_of_ble_eq_true rfl, Nat.le_of_ble_eq_true rfl⟩) hok hK hP hro hS hA 0 7 rfl rfl rfl hl.1 rfl (Nat.le_of_ble_eq_true rfl) dX7_clue_1 ⟨Nat.le_of_ble_eq_true rfl, Nat.le_of_ble_eq_true rfl⟩ (fun r1 hw => ?_)
  refine lv_istore_n (lv' := [(1, .int r1), (0, .ref h0)]) hx hb dX7_clue_4 rfl hl (by decide) rfl (fun ls hl => ?_)
  refine lv_iload_n hx hb dX7_clue_5 rfl (lv_at hl 0 rfl) ?_
  refine lv_if_lt (tgt := 17) hx hb dX7_clue_6 (by decide) (fun c2 => ?_) (fun c2 => ?_)
  · replace hw := hw.1 c2
    refine lv_aload_n hx hb dX7_clue_17 rfl (lv_at hl 1 rfl) ?_
    refine va_get (D := g.1) (ci := 7) (v := .int zsigns) (C := RX7) (T := TX7) (N := 15) hx hb hts hinX7 hown hK hP 0 rfl rfl 3 (by decide) lk1 (fun _ h9 => h9) rfl dX7_clue_18 ?_
    refine lv_bipush (v := 8) hx hb dX7_clue_21 (by decide) ?_
    refine lv_icmp_ne (tgt := 31) hx hb dX7_clue_23 (by decide) (fun c3 => ?_) (fun c3 => ?_)
    · replace hw := hw.2 c3
      refine lv_aload_n hx hb dX7_clue_31 rfl (lv_at hl 1 rfl) ?_
      refine va_get (D := g.1) (ci := 7) (v := .ref a_text) (C := RX7) (T := TX7) (N := 15) hx hb hts hinX7 hown hK hP 0 rfl rfl 2 (by decide) lk3 (fun _ h9 => h9) rfl dX7_clue_32 ?_
      refine lv_iconst (v := 2) hx hb dX7_clue_35 (by decide) ?_
      refine va_iald hx hb hK hP 2 0 rfl rfl (vin (by decide)) dX7_clue_36 ?_
      refine kp_S (As := [.int (ztext (2 : Int32).toNatClampNeg)]) (rest := []) (wc := []) ⟨hx, hb, hml, hown, hts⟩ (m_X7_kindOf l g hok (x1 := (ztext (2 : Int32).toNatClampNeg)) hw) (va_cwS 1 hts gX7_clue_X7_kindOf rfl rfl rfl hd_X7_kindOf ⟨Nat.le_of_ble_eq_true rfl, Nat.le_of_ble_eq_true rfl⟩) hok hK PP_nil hro hS hA rfl hl.1 rfl (Nat.le_of_ble_eq_true rfl) dX7_clue_37 ⟨Nat.le_of_ble_eq_true rfl, Nat.le_of_ble_eq_true rfl⟩ (fun r4 hw => ?_)
      exact B40  r4 zclues zmany zsigns zfault hw  _ _ hP hD hS ls (lv_sub hl [1] rfl)
    · replace hw := hw.1 c3
      refine lv_bipush (v := 6) hx hb dX7_clue_26 (by decide) ?_
      refine lv_goto (tgt := 40) hx hb dX7_clue_28 (by decide) ?_
      exact B40  6 zclues zmany zsigns zfault hw  _ _ hP hD hS ls (lv_sub hl [1] rfl)
  · replace hw := hw.2 c2
    refine lv_aload_n hx hb dX7_clue_9 rfl (lv_at hl 1 rfl) ?_
    refine lv_iload_n hx hb dX7_clue_10 rfl (lv_at hl 0 rfl) ?_
    refine va_put (D := g.1) (ci := 7) (v := .int r1) (ty := .int) (C := RX7) (T := TX7) (N := 15) hx hb hts hinX7 tyX7 tyX7_ok nmX7 hown hK hP hD hS 0 rfl rfl 4 (by decide) lk6 (fun _ h9 => h9) rfl (by decide +kernel) rfl rfl (Nat.le_of_ble_eq_true rfl) dX7_clue_11 (fun H locs hP hD hS => ?_)
    have hP : PP g [(h0, .inr (7, [.ref a_clues, .int zmany, .ref a_text, .int zsigns, .int r1, .ref a_orders, .ref a_places, .int zsought, .int zfirst, .int zsecond, .ref a_lefts, .ref a_steps, .int zmade, .ref a_image, .ref a_isKept])), (a_clues, .inl (g.2.1, 60, .inl zclues)), (a_text, .inl (g.2.1, 10, .inl ztext)), (a_orders, .inl (g.2.1, 96, .inl zorders)), (a_places, .inl (g.2.1, 16, .inl zplaces)), (a_lefts, .inl (g.2.1, 16, .inl zlefts)), (a_steps, .inl (g.2.1, 256, .inl zsteps)), (a_image, .inl (g.2.1, 122, .inl zimage)), (a_isKept, .inl (g.2.2.1, 2, .inl zisKept))] H := hP
    have hD : va_D A [(h0, .inr (7, [.ref a_clues, .int zmany, .ref a_text, .int zsigns, .int r1, .ref a_orders, .ref a_places, .int zsought, .int zfirst, .int zsecond, .ref a_lefts, .ref a_steps, .int zmade, .ref a_image, .ref a_isKept])), (a_clues, .inl (g.2.1, 60, .inl zclues)), (a_text, .inl (g.2.1, 10, .inl ztext)), (a_orders, .inl (g.2.1, 96, .inl zorders)), (a_places, .inl (g.2.1, 16, .inl zplaces)), (a_lefts, .inl (g.2.1, 16, .inl zlefts)), (a_steps, .inl (g.2.1, 256, .inl zsteps)), (a_image, .inl (g.2.1, 122, .inl zimage)), (a_isKept, .inl (g.2.2.1, 2, .inl zisKept))] := hD
    refine lv_bipush (v := (-7)) hx hb dX7_clue_14 (by decide) ?_
    exact W.iret hx hb hr (fun t ht hW => ⟨⟨(-7), (zmany, zsigns, r1, zclues), rfl, hw, by rw [ht]; exact hP, va_K.moved hW.alike hK, hD⟩, hS.F ht⟩) hS.2.2 dX7_clue_16

def wp_X7_remove_14 (Q : Int32 → (Nat → Int32) → Prop)   (l2 : Int32) (zclues : Nat → Int32) (zmany : Int32) : Prop :=
  ∃ (I14 : Int32 → (Nat → Int32) → Int32 → Prop) (mu14 : Int32 → (Nat → Int32) → Int32 → Nat), I14 l2 zclues zmany ∧ ∀ (l2 : Int32) (zclues : Nat → Int32) (zmany : Int32), I14 l2 zclues zmany → (((5 * zmany) ≤ l2 → Q zmany zclues) ∧ (¬ ((5 * zmany) ≤ l2) → (vp_in (l2 + 5) 60 ∧ (vp_in l2 60 ∧ (I14 (l2 + 1) (upd zclues l2.toNatClampNeg (zclues (l2 + 5).toNatClampNeg)) zmany ∧ mu14 (l2 + 1) (upd zclues l2.toNatClampNeg (zclues (l2 + 5).toNatClampNeg)) zmany < mu14 l2 zclues zmany)))))
def wp_X7_remove (x1 : Int32) (zclues : Nat → Int32) (zmany : Int32) (Q : Int32 → (Nat → Int32) → Prop) : Prop :=
  ∀ w1 : Int32, w1 = (5 * x1) → wp_X7_remove_14 Q   w1 zclues (zmany - 1)
theorem hd_X7_remove : yX7_remove.cls = RX7 ∧ yX7_remove.cls ≠ "java/lang/invoke/MethodHandle" ∧ yX7_remove.cls ≠ "java/lang/invoke/VarHandle" ∧ (parseMethodDescriptor yX7_remove.desc).map (fun d => d.parameters.length) = some 1 := by decide +kernel
set_option maxHeartbeats 4000000 in
set_option maxRecDepth 100000 in
theorem m_X7_remove (l : Launch) (g : GG) {ro : Ro} (hok : RoOK ro) {h0 a_clues a_text a_orders a_places a_lefts a_steps a_image a_isKept : Nat} {zclues : Nat → Int32} {zmany : Int32} {ztext : Nat → Int32} {zsigns : Int32} {zfault : Int32} {zorders : Nat → Int32} {zplaces : Nat → Int32} {zsought : Int32} {zfirst : Int32} {zsecond : Int32} {zlefts : Nat → Int32} {zsteps : Nat → Int32} {zmade : Int32} {zimage : Nat → Int32} {zisKept : Nat → Int32} {x1 : Int32} {sz : Nat} {Q : Int32 → (Nat → Int32) → Prop} (hw : wp_X7_remove x1 zclues zmany Q) : Met l yX7_remove wsX7_remove ({ frames := 0, cells := 0, slots := 0, locals := 0 } : Room) (PcM g ro [(h0, .inr (7, [.ref a_clues, .int zmany, .ref a_text, .int zsigns, .int zfault, .ref a_orders, .ref a_places, .int zsought, .int zfirst, .int zsecond, .ref a_lefts, .ref a_steps, .int zmade, .ref a_image, .ref a_isKept])), (a_clues, .inl (g.2.1, 60, .inl zclues)), (a_text, .inl (g.2.1, 10, .inl ztext)), (a_orders, .inl (g.2.1, 96, .inl zorders)), (a_places, .inl (g.2.1, 16, .inl zplaces)), (a_lefts, .inl (g.2.1, 16, .inl zlefts)), (a_steps, .inl (g.2.1, 256, .inl zsteps)), (a_image, .inl (g.2.1, 122, .inl zimage)), (a_isKept, .inl (g.2.2.1, 2, .inl zisKept))] sz [.ref h0, .int x1]) (va_Qv (fun (u : Int32 × (Nat → Int32)) => Q u.1 u.2) (BM g (fun u : Int32 × (Nat → Int32) => [(h0, .inr (7, [.ref a_clues, .int u.1, .ref a_text, .int zsigns, .int zfault, .ref a_orders, .ref a_places, .int zsought, .int zfirst, .int zsecond, .ref a_lefts, .ref a_steps, .int zmade, .ref a_image, .ref a_isKept])), (a_clues, .inl (g.2.1, 60, .inl u.2)), (a_text, .inl (g.2.1, 10, .inl ztext)), (a_orders, .inl (g.2.1, 96, .inl zorders)), (a_places, .inl (g.2.1, 16, .inl zplaces)), (a_lefts, .inl (g.2.1, 16, .inl zlefts)), (a_steps, .inl (g.2.1, 256, .inl zsteps)), (a_image, .inl (g.2.1, 122, .inl zimage)), (a_isKept, .inl (g.2.2.1, 2, .inl zisKept))]) (va_A [(h0, .inr (7, [.ref a_clues, .int zmany, .ref a_text, .int zsigns, .int zfault, .ref a_orders, .ref a_places, .int zsought, .int zfirst, .int zsecond, .ref a_lefts, .ref a_steps, .int zmade, .ref a_image, .ref a_isKept])), (a_clues, .inl (g.2.1, 60, .inl zclues)), (a_text, .inl (g.2.1, 10, .inl ztext)), (a_orders, .inl (g.2.1, 96, .inl zorders)), (a_places, .inl (g.2.1, 16, .inl zplaces)), (a_lefts, .inl (g.2.1, 16, .inl zlefts)), (a_steps, .inl (g.2.1, 256, .inl zsteps)), (a_image, .inl (g.2.1, 122, .inl zimage)), (a_isKept, .inl (g.2.2.1, 2, .inl zisKept))] sz)) (va_A [(h0, .inr (7, [.ref a_clues, .int zmany, .ref a_text, .int zsigns, .int zfault, .ref a_orders, .ref a_places, .int zsought, .int zfirst, .int zsecond, .ref a_lefts, .ref a_steps, .int zmade, .ref a_image, .ref a_isKept])), (a_clues, .inl (g.2.1, 60, .inl zclues)), (a_text, .inl (g.2.1, 10, .inl ztext)), (a_orders, .inl (g.2.1, 96, .inl zorders)), (a_places, .inl (g.2.1, 16, .inl zplaces)), (a_lefts, .inl (g.2.1, 16, .inl zlefts)), (a_steps, .inl (g.2.1, 256, .inl zsteps)), (a_image, .inl (g.2.1, 122, .inl zimage)), (a_isKept, .inl (g.2.2.1, 2, .inl zisKept))] sz)) 0 0 (va_A [(h0, .inr (7, [.ref a_clues, .int zmany, .ref a_text, .int zsigns, .int zfault, .ref a_orders, .ref a_places, .int zsought, .int zfirst, .int zsecond, .ref a_lefts, .ref a_steps, .int zmade, .ref a_image, .ref a_isKept])), (a_clues, .inl (g.2.1, 60, .inl zclues)), (a_text, .inl (g.2.1, 10, .inl ztext)), (a_orders, .inl (g.2.1, 96, .inl zorders)), (a_places, .inl (g.2.1, 16, .inl zplaces)), (a_lefts, .inl (g.2.1, 16, .inl zlefts)), (a_steps, .inl (g.2.1, 256, .inl zsteps)), (a_image, .inl (g.2.1, 122, .inl zimage)), (a_isKept, .inl (g.2.2.1, 2, .inl zisKept))] sz) := by
  refine Met.ofW (cc := cX7_remove) (maxL := 3) (ret := none) (by decide) rfl ?_
  intro p e s m args below meth c s₁ B hml hv
  obtain ⟨rfl, hsz, hP, hK, hD0, hro⟩ := hv
  have hx := B.exec
  have hb := B.bytes
  have hr := B.returns
  have hts := atoms_spec (ws := wsX7_remove) B.pre
  have hown : s.vm.findClass RX7 = some m.cls := findClass_of_methodNamed B.named
  have hlocks := B.notSynchronized
  subst hsz
  have hD := hD0.self (sz := s.heap.size)
  generalize hAe : va_A [(h0, .inr (7, [.ref a_clues, .int zmany, .ref a_text, .int zsigns, .int zfault, .ref a_orders, .ref a_places, .int zsought, .int zfirst, .int zsecond, .ref a_lefts, .ref a_steps, .int zmade, .ref a_image, .ref a_isKept])), (a_clues, .inl (g.2.1, 60, .inl zclues)), (a_text, .inl (g.2.1, 10, .inl ztext)), (a_orders, .inl (g.2.1, 96, .inl zorders)), (a_places, .inl (g.2.1, 16, .inl zplaces)), (a_lefts, .inl (g.2.1, 16, .inl zlefts)), (a_steps, .inl (g.2.1, 256, .inl zsteps)), (a_image, .inl (g.2.1, 122, .inl zimage)), (a_isKept, .inl (g.2.2.1, 2, .inl zisKept))] s.heap.size = A at hD hro ⊢
  have hA : ∀ q : Nat, s.heap.size ≤ q → A q := fun q h => by rw [← hAe]; exact Or.inr h
  have hS : va_S A s.heap s.heap [] := va_S.rf
  have hP : PP g [(h0, .inr (7, [.ref a_clues, .int zmany, .ref a_text, .int zsigns, .int zfault, .ref a_orders, .ref a_places, .int zsought, .int zfirst, .int zsecond, .ref a_lefts, .ref a_steps, .int zmade, .ref a_image, .ref a_isKept])), (a_clues, .inl (g.2.1, 60, .inl zclues)), (a_text, .inl (g.2.1, 10, .inl ztext)), (a_orders, .inl (g.2.1, 96, .inl zorders)), (a_places, .inl (g.2.1, 16, .inl zplaces)), (a_lefts, .inl (g.2.1, 16, .inl zlefts)), (a_steps, .inl (g.2.1, 256, .inl zsteps)), (a_image, .inl (g.2.1, 122, .inl zimage)), (a_isKept, .inl (g.2.2.1, 2, .inl zisKept))] s.heap := hP
  have lk1 := hts (.fieldLink RX7 43 "GridRiddlesModel" "many" "I") (by decide +kernel)
  have hinX7 : ∀ w ∈ u_ws RX7 TX7 15, w ∈ wsX7_remove := by decide +kernel
  have lk3 := hts (.fieldLink RX7 7 "GridRiddlesModel" "clues" "[I") (by decide +kernel)
  have B14 : ∀ (l2 : Int32) (zclues : Nat → Int32) (zmany : Int32), wp_X7_remove_14 Q   l2 zclues zmany → ∀ (H : Heap) (locs : List Loc), PP g [(h0, .inr (7, [.ref a_clues, .int zmany, .ref a_text, .int zsigns, .int zfault, .ref a_orders, .ref a_places, .int zsought, .int zfirst, .int zsecond, .ref a_lefts, .ref a_steps, .int zmade, .ref a_image, .ref a_isKept])), (a_clues, .inl (g.2.1, 60, .inl zclues)), (a_text, .inl (g.2.1, 10, .inl ztext)), (a_orders, .inl (g.2.1, 96, .inl zorders)), (a_places, .inl (g.2.1, 16, .inl zplaces)), (a_lefts, .inl (g.2.1, 16, .inl zlefts)), (a_steps, .inl (g.2.1, 256, .inl zsteps)), (a_image, .inl (g.2.1, 122, .inl zimage)), (a_isKept, .inl (g.2.2.1, 2, .inl zisKept))] H → va_D A [(h0, .inr (7, [.ref a_clues, .int zmany, .ref a_text, .int zsigns, .int zfault, .ref a_orders, .ref a_places, .int zsought, .int zfirst, .int zsecond, .ref a_lefts, .ref a_steps, .int zmade, .ref a_image, .ref a_isKept])), (a_clues, .inl (g.2.1, 60, .inl zclues)), (a_text, .inl (g.2.1, 10, .inl ztext)), (a_orders, .inl (g.2.1, 96, .inl zorders)), (a_places, .inl (g.2.1, 16, .inl zplaces)), (a_lefts, .inl (g.2.1, 16, .inl zlefts)), (a_steps, .inl (g.2.1, 256, .inl zsteps)), (a_image, .inl (g.2.1, 122, .inl zimage)), (a_isKept, .inl (g.2.2.1, 2, .inl zisKept))] → va_S A s.heap H locs → ∀ (ls : Array Slot), lv_has ls 3 [(0, .ref h0), (2, .int l2)] → W p l e (headSpec wsX7_remove ({ frames := 0, cells := 0, slots := 0, locals := 0 } : Room)).room s m ([.ref h0, .int x1] : List Value).toArray below meth c H locs 0 0 (MQ below (va_Qv (fun (u : Int32 × (Nat → Int32)) => Q u.1 u.2) (BM g (fun u : Int32 × (Nat → Int32) => [(h0, .inr (7, [.ref a_clues, .int u.1, .ref a_text, .int zsigns, .int zfault, .ref a_orders, .ref a_places, .int zsought, .int zfirst, .int zsecond, .ref a_lefts, .ref a_steps, .int zmade, .ref a_image, .ref a_isKept])), (a_clues, .inl (g.2.1, 60, .inl u.2)), (a_text, .inl (g.2.1, 10, .inl ztext)), (a_orders, .inl (g.2.1, 96, .inl zorders)), (a_places, .inl (g.2.1, 16, .inl zplaces)), (a_lefts, .inl (g.2.1, 16, .inl zlefts)), (a_steps, .inl (g.2.1, 256, .inl zsteps)), (a_image, .inl (g.2.1, 122, .inl zimage)), (a_isKept, .inl (g.2.2.1, 2, .inl zisKept))]) A) A) ([.ref h0, .int x1] : List Value).toArray s 0 0 A) (F0 m 14 ls []) := by
    intro  l2 zclues zmany hw
    obtain ⟨I14, mu14, hI, hstep⟩ := hw
    have key : ∀ (n : Nat) (l2 : Int32) (zclues : Nat → Int32) (zmany : Int32), mu14 l2 zclues zmany < n → I14 l2 zclues zmany → ∀ (H : Heap) (locs : List Loc), PP g [(h0, .inr (7, [.ref a_clues, .int zmany, .ref a_text, .int zsigns, .int zfault, .ref a_orders, .ref a_places, .int zsought, .int zfirst, .int zsecond, .ref a_lefts, .ref a_steps, .int zmade, .ref a_image, .ref a_isKept])), (a_clues, .inl (g.2.1, 60, .inl zclues)), (a_text, .inl (g.2.1, 10, .inl ztext)), (a_orders, .inl (g.2.1, 96, .inl zorders)), (a_places, .inl (g.2.1, 16, .inl zplaces)), (a_lefts, .inl (g.2.1, 16, .inl zlefts)), (a_steps, .inl (g.2.1, 256, .inl zsteps)), (a_image, .inl (g.2.1, 122, .inl zimage)), (a_isKept, .inl (g.2.2.1, 2, .inl zisKept))] H → va_D A [(h0, .inr (7, [.ref a_clues, .int zmany, .ref a_text, .int zsigns, .int zfault, .ref a_orders, .ref a_places, .int zsought, .int zfirst, .int zsecond, .ref a_lefts, .ref a_steps, .int zmade, .ref a_image, .ref a_isKept])), (a_clues, .inl (g.2.1, 60, .inl zclues)), (a_text, .inl (g.2.1, 10, .inl ztext)), (a_orders, .inl (g.2.1, 96, .inl zorders)), (a_places, .inl (g.2.1, 16, .inl zplaces)), (a_lefts, .inl (g.2.1, 16, .inl zlefts)), (a_steps, .inl (g.2.1, 256, .inl zsteps)), (a_image, .inl (g.2.1, 122, .inl zimage)), (a_isKept, .inl (g.2.2.1, 2, .inl zisKept))] → va_S A s.heap H locs → ∀ (ls : Array Slot), lv_has ls 3 [(0, .ref h0), (2, .int l2)] → W p l e (headSpec wsX7_remove ({ frames := 0, cells := 0, slots := 0, locals := 0 } : Room)).room s m ([.ref h0, .int x1] : List Value).toArray below meth c H locs 0 0 (MQ below (va_Qv (fun (u : Int32 × (Nat → Int32)) => Q u.1 u.2) (BM g (fun u : Int32 × (Nat → Int32) => [(h0, .inr (7, [.ref a_clues, .int u.1, .ref a_text, .int zsigns, .int zfault, .ref a_orders, .ref a_places, .int zsought, .int zfirst, .int zsecond, .ref a_lefts, .ref a_steps, .int zmade, .ref a_image, .ref a_isKept])), (a_clues, .inl (g.2.1, 60, .inl u.2)), (a_text, .inl (g.2.1, 10, .inl ztext)), (a_orders, .inl (g.2.1, 96, .inl zorders)), (a_places, .inl (g.2.1, 16, .inl zplaces)), (a_lefts, .inl (g.2.1, 16, .inl zlefts)), (a_steps, .inl (g.2.1, 256, .inl zsteps)), (a_image, .inl (g.2.1, 122, .inl zimage)), (a_isKept, .inl (g.2.2.1, 2, .inl zisKept))]) A) A) ([.ref h0, .int x1] : List Value).toArray s 0 0 A) (F0 m 14 ls []) := by
      intro n
      induction n with
      | zero => intro l2 zclues zmany h; exact absurd h (Nat.not_lt_zero _)
      | succ n ih =>
          intro l2 zclues zmany hn hI  H locs hP hD hS ls hl
          have hw := hstep l2 zclues zmany hI
          have hK14 : ∀ (l2' : Int32) (zclues' : Nat → Int32) (zmany' : Int32), (I14 l2' zclues' zmany' ∧ mu14 l2' zclues' zmany' < mu14 l2 zclues zmany) → ∀ (H : Heap) (locs : List Loc), PP g [(h0, .inr (7, [.ref a_clues, .int zmany', .ref a_text, .int zsigns, .int zfault, .ref a_orders, .ref a_places, .int zsought, .int zfirst, .int zsecond, .ref a_lefts, .ref a_steps, .int zmade, .ref a_image, .ref a_isKept])), (a_clues, .inl (g.2.1, 60, .inl zclues')), (a_text, .inl (g.2.1, 10, .inl ztext)), (a_orders, .inl (g.2.1, 96, .inl zorders)), (a_places, .inl (g.2.1, 16, .inl zplaces)), (a_lefts, .inl (g.2.1, 16, .inl zlefts)), (a_steps, .inl (g.2.1, 256, .inl zsteps)), (a_image, .inl (g.2.1, 122, .inl zimage)), (a_isKept, .inl (g.2.2.1, 2, .inl zisKept))] H → va_D A [(h0, .inr (7, [.ref a_clues, .int zmany', .ref a_text, .int zsigns, .int zfault, .ref a_orders, .ref a_places, .int zsought, .int zfirst, .int zsecond, .ref a_lefts, .ref a_steps, .int zmade, .ref a_image, .ref a_isKept])), (a_clues, .inl (g.2.1, 60, .inl zclues')), (a_text, .inl (g.2.1, 10, .inl ztext)), (a_orders, .inl (g.2.1, 96, .inl zorders)), (a_places, .inl (g.2.1, 16, .inl zplaces)), (a_lefts, .inl (g.2.1, 16, .inl zlefts)), (a_steps, .inl (g.2.1, 256, .inl zsteps)), (a_image, .inl (g.2.1, 122, .inl zimage)), (a_isKept, .inl (g.2.2.1, 2, .inl zisKept))] → va_S A s.heap H locs → ∀ (ls : Array Slot), lv_has ls 3 [(0, .ref h0), (2, .int l2')] → W p l e (headSpec wsX7_remove ({ frames := 0, cells := 0, slots := 0, locals := 0 } : Room)).room s m ([.ref h0, .int x1] : List Value).toArray below meth c H locs 0 0 (MQ below (va_Qv (fun (u : Int32 × (Nat → Int32)) => Q u.1 u.2) (BM g (fun u : Int32 × (Nat → Int32) => [(h0, .inr (7, [.ref a_clues, .int u.1, .ref a_text, .int zsigns, .int zfault, .ref a_orders, .ref a_places, .int zsought, .int zfirst, .int zsecond, .ref a_lefts, .ref a_steps, .int zmade, .ref a_image, .ref a_isKept])), (a_clues, .inl (g.2.1, 60, .inl u.2)), (a_text, .inl (g.2.1, 10, .inl ztext)), (a_orders, .inl (g.2.1, 96, .inl zorders)), (a_places, .inl (g.2.1, 16, .inl zplaces)), (a_lefts, .inl (g.2.1, 16, .inl zlefts)), (a_steps, .inl (g.2.1, 256, .inl zsteps)), (a_image, .inl (g.2.1, 122, .inl zimage)), (a_isKept, .inl (g.2.2.1, 2, .inl zisKept))]) A) A) ([.ref h0, .int x1] : List Value).toArray s 0 0 A) (F0 m 14 ls []) := fun l2' zclues' zmany' h => ih l2' zclues' zmany' (Nat.lt_of_lt_of_le h.2 (Nat.le_of_lt_succ hn)) h.1
          refine lv_iload_n hx hb dX7_remove_14 rfl (lv_at hl 1 rfl) ?_
          refine lv_iconst (v := 5) hx hb dX7_remove_15 (by decide) ?_
          refine lv_aload_n hx hb dX7_remove_16 rfl (lv_at hl 0 rfl) ?_
          refine va_get (D := g.1) (ci := 7) (v := .int zmany) (C := RX7) (T := TX7) (N := 15) hx hb hts hinX7 hown hK hP 0 rfl rfl 1 (by decide) lk1 (fun _ h9 => h9) rfl dX7_remove_17 ?_
          refine lv_imul hx hb dX7_remove_20 ?_
          refine lv_icmp_ge (tgt := 44) hx hb dX7_remove_21 (by decide) (fun c2 => ?_) (fun c2 => ?_)
          · replace hw := hw.1 c2
            exact W.vret hx hb hr (fun t ht hW => ⟨⟨(zmany, zclues), rfl, hw, by rw [ht]; exact hP, va_K.moved hW.alike hK, hD⟩, hS.F ht⟩) hS.2.2 dX7_remove_44
          · replace hw := hw.2 c2
            refine lv_aload_n hx hb dX7_remove_24 rfl (lv_at hl 0 rfl) ?_
            refine va_get (D := g.1) (ci := 7) (v := .ref a_clues) (C := RX7) (T := TX7) (N := 15) hx hb hts hinX7 hown hK hP 0 rfl rfl 0 (by decide) lk3 (fun _ h9 => h9) rfl dX7_remove_25 ?_
            refine lv_iload_n hx hb dX7_remove_28 rfl (lv_at hl 1 rfl) ?_
            refine lv_aload_n hx hb dX7_remove_29 rfl (lv_at hl 0 rfl) ?_
            refine va_get (D := g.1) (ci := 7) (v := .ref a_clues) (C := RX7) (T := TX7) (N := 15) hx hb hts hinX7 hown hK hP 0 rfl rfl 0 (by decide) lk3 (fun _ h9 => h9) rfl dX7_remove_30 ?_
            refine lv_iload_n hx hb dX7_remove_33 rfl (lv_at hl 1 rfl) ?_
            refine lv_iconst (v := 5) hx hb dX7_remove_34 (by decide) ?_
            refine lv_iadd hx hb dX7_remove_35 ?_
            obtain ⟨hi, hw⟩ := hw
            refine va_iald hx hb hK hP 1 0 rfl rfl hi dX7_remove_36 ?_
            obtain ⟨hi, hw⟩ := hw
            refine va_iast hx hb hK hP hD hS 1 0 rfl rfl hi dX7_remove_37 (fun H locs hP hD hS => ?_)
            have hP : PP g [(h0, .inr (7, [.ref a_clues, .int zmany, .ref a_text, .int zsigns, .int zfault, .ref a_orders, .ref a_places, .int zsought, .int zfirst, .int zsecond, .ref a_lefts, .ref a_steps, .int zmade, .ref a_image, .ref a_isKept])), (a_clues, .inl (g.2.1, 60, .inl (upd zclues l2.toNatClampNeg (zclues (l2 + 5).toNatClampNeg)))), (a_text, .inl (g.2.1, 10, .inl ztext)), (a_orders, .inl (g.2.1, 96, .inl zorders)), (a_places, .inl (g.2.1, 16, .inl zplaces)), (a_lefts, .inl (g.2.1, 16, .inl zlefts)), (a_steps, .inl (g.2.1, 256, .inl zsteps)), (a_image, .inl (g.2.1, 122, .inl zimage)), (a_isKept, .inl (g.2.2.1, 2, .inl zisKept))] H := hP
            have hD : va_D A [(h0, .inr (7, [.ref a_clues, .int zmany, .ref a_text, .int zsigns, .int zfault, .ref a_orders, .ref a_places, .int zsought, .int zfirst, .int zsecond, .ref a_lefts, .ref a_steps, .int zmade, .ref a_image, .ref a_isKept])), (a_clues, .inl (g.2.1, 60, .inl (upd zclues l2.toNatClampNeg (zclues (l2 + 5).toNatClampNeg)))), (a_text, .inl (g.2.1, 10, .inl ztext)), (a_orders, .inl (g.2.1, 96, .inl zorders)), (a_places, .inl (g.2.1, 16, .inl zplaces)), (a_lefts, .inl (g.2.1, 16, .inl zlefts)), (a_steps, .inl (g.2.1, 256, .inl zsteps)), (a_image, .inl (g.2.1, 122, .inl zimage)), (a_isKept, .inl (g.2.2.1, 2, .inl zisKept))] := hD
            refine lv_iinc (v := (l2 + 1)) (lv' := [(2, .int (l2 + 1)), (0, .ref h0)]) hx hb dX7_remove_38 hl (k := 1) rfl rfl (by decide) rfl (fun ls hl => ?_)
            refine lv_goto (tgt := 14) hx hb dX7_remove_41 (by decide) ?_
            exact hK14 (l2 + 1) (upd zclues l2.toNatClampNeg (zclues (l2 + 5).toNatClampNeg)) zmany hw  _ _ hP hD hS ls (lv_sub hl [1, 0] rfl)
    exact key _ l2 zclues zmany (Nat.lt_succ_self _) hI
  have hl := lv_entry ([.ref h0, .int x1]) (n := 3) (Nat.le_of_ble_eq_true rfl)
  rw [lg_entry_eq]
  generalize (lg_sl ([.ref h0, .int x1]) ++ List.replicate (3 - (lg_sl ([.ref h0, .int x1])).length) Slot.unset).toArray = ls at hl ⊢
  have hl : lv_has ls 3 [(0, .ref h0), (1, .int x1)] := hl
  unfold wp_X7_remove at hw
  refine lv_aload_n hx hb dX7_remove_0 rfl (lv_at hl 0 rfl) ?_
  refine lv_dup hx hb dX7_remove_1 rfl ?_
  refine va_get (D := g.1) (ci := 7) (v := .int zmany) (C := RX7) (T := TX7) (N := 15) hx hb hts hinX7 hown hK hP 0 rfl rfl 1 (by decide) lk1 (fun _ h9 => h9) rfl dX7_remove_2 ?_
  refine lv_iconst (v := 1) hx hb dX7_remove_5 (by decide) ?_
  refine lv_isub hx hb dX7_remove_6 ?_
  refine va_put (D := g.1) (ci := 7) (v := .int (zmany - 1)) (ty := .int) (C := RX7) (T := TX7) (N := 15) hx hb hts hinX7 tyX7 tyX7_ok nmX7 hown hK hP hD hS 0 rfl rfl 1 (by decide) lk1 (fun _ h9 => h9) rfl (by decide +kernel) rfl rfl (Nat.le_of_ble_eq_true rfl) dX7_remove_7 (fun H locs hP hD hS => ?_)
  have hP : PP g [(h0, .inr (7, [.ref a_clues, .int (zmany - 1), .ref a_text, .int zsigns, .int zfault, .ref a_orders, .ref a_places, .int zsought, .int zfirst, .int zsecond, .ref a_lefts, .ref a_steps, .int zmade, .ref a_image, .ref a_isKept])), (a_clues, .inl (g.2.1, 60, .inl zclues)), (a_text, .inl (g.2.1, 10, .inl ztext)), (a_orders, .inl (g.2.1, 96, .inl zorders)), (a_places, .inl (g.2.1, 16, .inl zplaces)), (a_lefts, .inl (g.2.1, 16, .inl zlefts)), (a_steps, .inl (g.2.1, 256, .inl zsteps)), (a_image, .inl (g.2.1, 122, .inl zimage)), (a_isKept, .inl (g.2.2.1, 2, .inl zisKept))] H := hP
  have hD : va_D A [(h0, .inr (7, [.ref a_clues, .int (zmany - 1), .ref a_text, .int zsigns, .int zfault, .ref a_orders, .ref a_places, .int zsought, .int zfirst, .int zsecond, .ref a_lefts, .ref a_steps, .int zmade, .ref a_image, .ref a_isKept])), (a_clues, .inl (g.2.1, 60, .inl zclues)), (a_text, .inl (g.2.1, 10, .inl ztext)), (a_orders, .inl (g.2.1, 96, .inl zorders)), (a_places, .inl (g.2.1, 16, .inl zplaces)), (a_lefts, .inl (g.2.1, 16, .inl zlefts)), (a_steps, .inl (g.2.1, 256, .inl zsteps)), (a_image, .inl (g.2.1, 122, .inl zimage)), (a_isKept, .inl (g.2.2.1, 2, .inl zisKept))] := hD
  refine lv_iconst (v := 5) hx hb dX7_remove_10 (by decide) ?_
  refine lv_iload_n hx hb dX7_remove_11 rfl (lv_at hl 1 rfl) ?_
  refine lv_imul hx hb dX7_remove_12 ?_
  refine lv_topi (fun w1 ew1 => ?_)
  have hw := hw w1 ew1
  refine lv_istore_n (lv' := [(2, .int w1), (0, .ref h0), (1, .int x1)]) hx hb dX7_remove_13 rfl hl (by decide) rfl (fun ls hl => ?_)
  exact B14  w1 zclues (zmany - 1) hw  _ _ hP hD hS ls (lv_sub hl [1, 0] rfl)
