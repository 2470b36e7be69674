def wp_X1_items (h0_kind : Int32) (Q : Int32 → Prop) : Prop :=
  ((h0_kind = 5 → Q 1) ∧ (¬ (h0_kind = 5) → ((h0_kind = 6 → Q 3) ∧ (¬ (h0_kind = 6) → Q 2))))
theorem hd_X1_items : yX1_items.cls = RX1 ∧ yX1_items.cls ≠ "java/lang/invoke/MethodHandle" ∧ yX1_items.cls ≠ "java/lang/invoke/VarHandle" ∧ (parseMethodDescriptor yX1_items.desc).map (fun d => d.parameters.length) = some 0 := by decide +kernel
set_option maxHeartbeats 4000000 in
set_option maxRecDepth 100000 in
theorem m_X1_items (l : Launch) (g : GG) {ro : Ro} (hok : RoOK ro) {h0 h0w : Nat} {h0_kind : Int32} {h0_x : Int32} {h0_y : Int32} {h0_z : Int32} {h0_place : Int32} {h0_top : Int32} {h0_low : Int32} {h0_high : Int32} {Q : Int32 → Prop} (hw : wp_X1_items h0_kind Q) : Met l yX1_items wsX1_items ({ frames := 0, cells := 0, slots := 0, locals := 0 } : Room) (PcP g ro [(h0, .inr (1, [.int h0_kind, .int h0_x, .int h0_y, .int h0_z, .int h0_place, .int h0_top, .int h0_low, .int h0_high, .ref h0w]))] [.ref h0]) (vp_Si Q) 0 0 (fun _ => False) := by
  refine Met.ofW (cc := cX1_items) (maxL := 1) (ret := (some .int)) (by decide) rfl ?_
  intro p e s m args below meth c s₁ B hml hv
  obtain ⟨rfl, hP, hK, hro⟩ := hv
  have hx := B.exec
  have hb := B.bytes
  have hr := B.returns
  have hts := atoms_spec (ws := wsX1_items) B.pre
  have hown : s.vm.findClass RX1 = some m.cls := findClass_of_methodNamed B.named
  have hlocks := B.notSynchronized
  have hA : ∀ q : Nat, s.heap.size ≤ q → (fun q : Nat => s.heap.size ≤ q) q := fun _ h => h
  have hS : va_S (fun q : Nat => s.heap.size ≤ q) s.heap s.heap [] := va_S.rf
  have hP : PP g [(h0, .inr (1, [.int h0_kind, .int h0_x, .int h0_y, .int h0_z, .int h0_place, .int h0_top, .int h0_low, .int h0_high, .ref h0w]))] s.heap := hP
  have lk1 := hts (.fieldLink RX1 22 "GridRiddles$Clue" "kind" "I") (by decide +kernel)
  have hinX1 : ∀ w ∈ u_ws RX1 TX1 9, w ∈ wsX1_items := by decide +kernel
  have hl := lv_entry ([.ref h0]) (n := 1) (Nat.le_of_ble_eq_true rfl)
  rw [lg_entry_eq]
  generalize (lg_sl ([.ref h0]) ++ List.replicate (1 - (lg_sl ([.ref h0])).length) Slot.unset).toArray = ls at hl ⊢
  have hl : lv_has ls 1 [(0, .ref h0)] := hl
  unfold wp_X1_items at hw
  refine lv_aload_n hx hb dX1_items_0 rfl (lv_at hl 0 rfl) ?_
  refine va_get (D := g.1) (ci := 1) (v := .int h0_kind) (C := RX1) (T := TX1) (N := 9) hx hb hts hinX1 hown hK hP 0 rfl rfl 0 (by decide) lk1 (fun _ h9 => h9) rfl dX1_items_1 ?_
  refine lv_iconst (v := 5) hx hb dX1_items_4 (by decide) ?_
  refine lv_icmp_ne (tgt := 12) hx hb dX1_items_5 (by decide) (fun c1 => ?_) (fun c1 => ?_)
  · replace hw := hw.2 c1
    refine lv_aload_n hx hb dX1_items_12 rfl (lv_at hl 0 rfl) ?_
    refine va_get (D := g.1) (ci := 1) (v := .int h0_kind) (C := RX1) (T := TX1) (N := 9) hx hb hts hinX1 hown hK hP 0 rfl rfl 0 (by decide) lk1 (fun _ h9 => h9) rfl dX1_items_13 ?_
    refine lv_bipush (v := 6) hx hb dX1_items_16 (by decide) ?_
    refine lv_icmp_ne (tgt := 25) hx hb dX1_items_18 (by decide) (fun c2 => ?_) (fun c2 => ?_)
    · replace hw := hw.2 c2
      refine lv_iconst (v := 2) hx hb dX1_items_25 (by decide) ?_
      exact W.iret hx hb hr (fun t ht _ => ⟨2, rfl, hw, ht⟩) t_nil dX1_items_26
    · replace hw := hw.1 c2
      refine lv_iconst (v := 3) hx hb dX1_items_21 (by decide) ?_
      refine lv_goto (tgt := 26) hx hb dX1_items_22 (by decide) ?_
      exact W.iret hx hb hr (fun t ht _ => ⟨3, rfl, hw, ht⟩) t_nil dX1_items_26
  · replace hw := hw.1 c1
    refine lv_iconst (v := 1) hx hb dX1_items_8 (by decide) ?_
    refine lv_goto (tgt := 26) hx hb dX1_items_9 (by decide) ?_
    exact W.iret hx hb hr (fun t ht _ => ⟨1, rfl, hw, ht⟩) t_nil dX1_items_26

def wp_X1_itemAt (x1 : Int32) (h0_x : Int32) (h0_y : Int32) (h0_z : Int32) (Q : Int32 → Prop) : Prop :=
  ((x1 = 0 → Q h0_x) ∧ (¬ (x1 = 0) → ((x1 = 1 → Q h0_y) ∧ (¬ (x1 = 1) → Q h0_z))))
theorem hd_X1_itemAt : yX1_itemAt.cls = RX1 ∧ yX1_itemAt.cls ≠ "java/lang/invoke/MethodHandle" ∧ yX1_itemAt.cls ≠ "java/lang/invoke/VarHandle" ∧ (parseMethodDescriptor yX1_itemAt.desc).map (fun d => d.parameters.length) = some 1 := by decide +kernel
set_option maxHeartbeats 4000000 in
set_option maxRecDepth 100000 in
theorem m_X1_itemAt (l : Launch) (g : GG) {ro : Ro} (hok : RoOK ro) {h0 h0w : Nat} {h0_kind : Int32} {h0_x : Int32} {h0_y : Int32} {h0_z : Int32} {h0_place : Int32} {h0_top : Int32} {h0_low : Int32} {h0_high : Int32} {x1 : Int32} {Q : Int32 → Prop} (hw : wp_X1_itemAt x1 h0_x h0_y h0_z Q) : Met l yX1_itemAt wsX1_itemAt ({ frames := 0, cells := 0, slots := 0, locals := 0 } : Room) (PcP g ro [(h0, .inr (1, [.int h0_kind, .int h0_x, .int h0_y, .int h0_z, .int h0_place, .int h0_top, .int h0_low, .int h0_high, .ref h0w]))] [.ref h0, .int x1]) (vp_Si Q) 0 0 (fun _ => False) := by
  refine Met.ofW (cc := cX1_itemAt) (maxL := 2) (ret := (some .int)) (by decide) rfl ?_
  intro p e s m args below meth c s₁ B hml hv
  obtain ⟨rfl, hP, hK, hro⟩ := hv
  have hx := B.exec
  have hb := B.bytes
  have hr := B.returns
  have hts := atoms_spec (ws := wsX1_itemAt) B.pre
  have hown : s.vm.findClass RX1 = some m.cls := findClass_of_methodNamed B.named
  have hlocks := B.notSynchronized
  have hA : ∀ q : Nat, s.heap.size ≤ q → (fun q : Nat => s.heap.size ≤ q) q := fun _ h => h
  have hS : va_S (fun q : Nat => s.heap.size ≤ q) s.heap s.heap [] := va_S.rf
  have hP : PP g [(h0, .inr (1, [.int h0_kind, .int h0_x, .int h0_y, .int h0_z, .int h0_place, .int h0_top, .int h0_low, .int h0_high, .ref h0w]))] s.heap := hP
  have lk1 := hts (.fieldLink RX1 31 "GridRiddles$Clue" "z" "I") (by decide +kernel)
  have hinX1 : ∀ w ∈ u_ws RX1 TX1 9, w ∈ wsX1_itemAt := by decide +kernel
  have lk3 := hts (.fieldLink RX1 28 "GridRiddles$Clue" "y" "I") (by decide +kernel)
  have lk4 := hts (.fieldLink RX1 25 "GridRiddles$Clue" "x" "I") (by decide +kernel)
  have hl := lv_entry ([.ref h0, .int x1]) (n := 2) (Nat.le_of_ble_eq_true rfl)
  rw [lg_entry_eq]
  generalize (lg_sl ([.ref h0, .int x1]) ++ List.replicate (2 - (lg_sl ([.ref h0, .int x1])).length) Slot.unset).toArray = ls at hl ⊢
  have hl : lv_has ls 2 [(0, .ref h0), (1, .int x1)] := hl
  unfold wp_X1_itemAt at hw
  refine lv_iload_n hx hb dX1_itemAt_0 rfl (lv_at hl 1 rfl) ?_
  refine lv_if_ne (tgt := 11) hx hb dX1_itemAt_1 (by decide) (fun c1 => ?_) (fun c1 => ?_)
  · replace hw := hw.2 c1
    refine lv_iload_n hx hb dX1_itemAt_11 rfl (lv_at hl 1 rfl) ?_
    refine lv_iconst (v := 1) hx hb dX1_itemAt_12 (by decide) ?_
    refine lv_icmp_ne (tgt := 23) hx hb dX1_itemAt_13 (by decide) (fun c2 => ?_) (fun c2 => ?_)
    · replace hw := hw.2 c2
      refine lv_aload_n hx hb dX1_itemAt_23 rfl (lv_at hl 0 rfl) ?_
      refine va_get (D := g.1) (ci := 1) (v := .int h0_z) (C := RX1) (T := TX1) (N := 9) hx hb hts hinX1 hown hK hP 0 rfl rfl 3 (by decide) lk1 (fun _ h9 => h9) rfl dX1_itemAt_24 ?_
      exact W.iret hx hb hr (fun t ht _ => ⟨h0_z, rfl, hw, ht⟩) t_nil dX1_itemAt_27
    · replace hw := hw.1 c2
      refine lv_aload_n hx hb dX1_itemAt_16 rfl (lv_at hl 0 rfl) ?_
      refine va_get (D := g.1) (ci := 1) (v := .int h0_y) (C := RX1) (T := TX1) (N := 9) hx hb hts hinX1 hown hK hP 0 rfl rfl 2 (by decide) lk3 (fun _ h9 => h9) rfl dX1_itemAt_17 ?_
      refine lv_goto (tgt := 27) hx hb dX1_itemAt_20 (by decide) ?_
      exact W.iret hx hb hr (fun t ht _ => ⟨h0_y, rfl, hw, ht⟩) t_nil dX1_itemAt_27
  · replace hw := hw.1 c1
    refine lv_aload_n hx hb dX1_itemAt_4 rfl (lv_at hl 0 rfl) ?_
    refine va_get (D := g.1) (ci := 1) (v := .int h0_x) (C := RX1) (T := TX1) (N := 9) hx hb hts hinX1 hown hK hP 0 rfl rfl 1 (by decide) lk4 (fun _ h9 => h9) rfl dX1_itemAt_5 ?_
    refine lv_goto (tgt := 27) hx hb dX1_itemAt_8 (by decide) ?_
    exact W.iret hx hb hr (fun t ht _ => ⟨h0_x, rfl, hw, ht⟩) t_nil dX1_itemAt_27

def wp_X1_isMetBy (x1 : Int32) (x2 : Int32) (x3 : Int32) (h0_kind : Int32) (h0_place : Int32) (Q : Int32 → Prop) : Prop :=
  ((h0_kind = 0 → ((x1 = x2 → Q 1) ∧ (¬ (x1 = x2) → Q 0))) ∧ (h0_kind = 1 → ((x1 = x2 → Q 0) ∧ (¬ (x1 = x2) → Q 1))) ∧ (h0_kind = 2 → ((x2 ≤ x1 → Q 0) ∧ (¬ (x2 ≤ x1) → Q 1))) ∧ (h0_kind = 3 → (((x1 + 1) = x2 → Q 1) ∧ (¬ ((x1 + 1) = x2) → Q 0))) ∧ (h0_kind = 4 → (((if 0 ≤ (x1 - x2) then (x1 - x2) else 0 - (x1 - x2)) = 1 → Q 1) ∧ (¬ ((if 0 ≤ (x1 - x2) then (x1 - x2) else 0 - (x1 - x2)) = 1) → Q 0))) ∧ (h0_kind = 5 → (((x1 + 1) = h0_place → Q 1) ∧ (¬ ((x1 + 1) = h0_place) → Q 0))) ∧ (¬ h0_kind = 0 ∧ ¬ h0_kind = 1 ∧ ¬ h0_kind = 2 ∧ ¬ h0_kind = 3 ∧ ¬ h0_kind = 4 ∧ ¬ h0_kind = 5 → ((x1 = x2 → Q 1) ∧ (¬ (x1 = x2) → ((x1 = x3 → Q 1) ∧ (¬ (x1 = x3) → Q 0))))))
theorem hd_X1_isMetBy : yX1_isMetBy.cls = RX1 ∧ yX1_isMetBy.cls ≠ "java/lang/invoke/MethodHandle" ∧ yX1_isMetBy.cls ≠ "java/lang/invoke/VarHandle" ∧ (parseMethodDescriptor yX1_isMetBy.desc).map (fun d => d.parameters.length) = some 3 := by decide +kernel
set_option maxHeartbeats 4000000 in
set_option maxRecDepth 100000 in
theorem m_X1_isMetBy (l : Launch) (g : GG) {ro : Ro} (hok : RoOK ro) {h0 h0w : Nat} {h0_kind : Int32} {h0_x : Int32} {h0_y : Int32} {h0_z : Int32} {h0_place : Int32} {h0_top : Int32} {h0_low : Int32} {h0_high : Int32} {x1 : Int32} {x2 : Int32} {x3 : Int32} {Q : Int32 → Prop} (hw : wp_X1_isMetBy x1 x2 x3 h0_kind h0_place Q) : Met l yX1_isMetBy wsX1_isMetBy ({ frames := 1, cells := 0, slots := 0, locals := 21 } : Room) (PcP g ro [(h0, .inr (1, [.int h0_kind, .int h0_x, .int h0_y, .int h0_z, .int h0_place, .int h0_top, .int h0_low, .int h0_high, .ref h0w]))] [.ref h0, .int x1, .int x2, .int x3]) (vp_Si Q) 0 0 (fun _ => False) := by
  refine Met.ofW (cc := cX1_isMetBy) (maxL := 4) (ret := (some .boolean)) (by decide) rfl ?_
  intro p e s m args below meth c s₁ B hml hv
  obtain ⟨rfl, hP, hK, hro⟩ := hv
  have hx := B.exec
  have hb := B.bytes
  have hr := B.returns
  have hts := atoms_spec (ws := wsX1_isMetBy) B.pre
  have hown : s.vm.findClass RX1 = some m.cls := findClass_of_methodNamed B.named
  have hlocks := B.notSynchronized
  have hA : ∀ q : Nat, s.heap.size ≤ q → (fun q : Nat => s.heap.size ≤ q) q := fun _ h => h
  have hS : va_S (fun q : Nat => s.heap.size ≤ q) s.heap s.heap [] := va_S.rf
  have hP : PP g [(h0, .inr (1, [.int h0_kind, .int h0_x, .int h0_y, .int h0_z, .int h0_place, .int h0_top, .int h0_low, .int h0_high, .ref h0w]))] s.heap := hP
  have lk1 := hts (.fieldLink RX1 22 "GridRiddles$Clue" "kind" "I") (by decide +kernel)
  have hinX1 : ∀ w ∈ u_ws RX1 TX1 9, w ∈ wsX1_isMetBy := by decide +kernel
  have lk3 := hts (.methodLink RX1 75 Lib.Math.abs.name) (by decide +kernel)
  have lk4 := hts (.static Lib.Math.abs.name) (by decide +kernel)
  have lk5 := hts (.initialized "java/lang/Math") (by decide +kernel)
  have lk6 := hts (.code Lib.Math.abs.name Lib.Math.abs.code 1 (some .int)) (by decide +kernel)
  have lk7 := hts (.fieldLink RX1 34 "GridRiddles$Clue" "place" "I") (by decide +kernel)
  have hl := lv_entry ([.ref h0, .int x1, .int x2, .int x3]) (n := 4) (Nat.le_of_ble_eq_true rfl)
  rw [lg_entry_eq]
  generalize (lg_sl ([.ref h0, .int x1, .int x2, .int x3]) ++ List.replicate (4 - (lg_sl ([.ref h0, .int x1, .int x2, .int x3])).length) Slot.unset).toArray = ls at hl ⊢
  have hl : lv_has ls 4 [(0, .ref h0), (1, .int x1), (2, .int x2), (3, .int x3)] := hl
  unfold wp_X1_isMetBy at hw
  refine lv_aload_n hx hb dX1_isMetBy_0 rfl (lv_at hl 0 rfl) ?_
  refine va_get (D := g.1) (ci := 1) (v := .int h0_kind) (C := RX1) (T := TX1) (N := 9) hx hb hts hinX1 hown hK hP 0 rfl rfl 0 (by decide) lk1 (fun _ h9 => h9) rfl dX1_isMetBy_1 ?_
  by_cases c1_0 : h0_kind = 0
  · refine lv_tableIn (tgt := 44) hx hb dX1_isMetBy_4 (by rw [c1_0]; decide) (by rw [c1_0]; decide) (by rw [c1_0]; rfl) (by decide) ?_
    replace hw := hw.1 c1_0
    refine lv_iload_n hx hb dX1_isMetBy_44 rfl (lv_at hl 1 rfl) ?_
    refine lv_iload_n hx hb dX1_isMetBy_45 rfl (lv_at hl 2 rfl) ?_
    refine lv_icmp_ne (tgt := 53) hx hb dX1_isMetBy_46 (by decide) (fun c2 => ?_) (fun c2 => ?_)
    · replace hw := hw.2 c2
      refine lv_iconst (v := 0) hx hb dX1_isMetBy_53 (by decide) ?_
      exact W.zret hx hb hr (zb_nar zb0) (fun t ht _ => ⟨0, rfl, hw, ht⟩) t_nil dX1_isMetBy_54
    · replace hw := hw.1 c2
      refine lv_iconst (v := 1) hx hb dX1_isMetBy_49 (by decide) ?_
      refine lv_goto (tgt := 54) hx hb dX1_isMetBy_50 (by decide) ?_
      exact W.zret hx hb hr (zb_nar zb1) (fun t ht _ => ⟨1, rfl, hw, ht⟩) t_nil dX1_isMetBy_54
  replace hw := hw.2
  by_cases c1_1 : h0_kind = 1
  · refine lv_tableIn (tgt := 55) hx hb dX1_isMetBy_4 (by rw [c1_1]; decide) (by rw [c1_1]; decide) (by rw [c1_1]; rfl) (by decide) ?_
    replace hw := hw.1 c1_1
    refine lv_iload_n hx hb dX1_isMetBy_55 rfl (lv_at hl 1 rfl) ?_
    refine lv_iload_n hx hb dX1_isMetBy_56 rfl (lv_at hl 2 rfl) ?_
    refine lv_icmp_eq (tgt := 64) hx hb dX1_isMetBy_57 (by decide) (fun c3 => ?_) (fun c3 => ?_)
    · replace hw := hw.1 c3
      refine lv_iconst (v := 0) hx hb dX1_isMetBy_64 (by decide) ?_
      exact W.zret hx hb hr (zb_nar zb0) (fun t ht _ => ⟨0, rfl, hw, ht⟩) t_nil dX1_isMetBy_65
    · replace hw := hw.2 c3
      refine lv_iconst (v := 1) hx hb dX1_isMetBy_60 (by decide) ?_
      refine lv_goto (tgt := 65) hx hb dX1_isMetBy_61 (by decide) ?_
      exact W.zret hx hb hr (zb_nar zb1) (fun t ht _ => ⟨1, rfl, hw, ht⟩) t_nil dX1_isMetBy_65
  replace hw := hw.2
  by_cases c1_2 : h0_kind = 2
  · refine lv_tableIn (tgt := 66) hx hb dX1_isMetBy_4 (by rw [c1_2]; decide) (by rw [c1_2]; decide) (by rw [c1_2]; rfl) (by decide) ?_
    replace hw := hw.1 c1_2
    refine lv_iload_n hx hb dX1_isMetBy_66 rfl (lv_at hl 1 rfl) ?_
    refine lv_iload_n hx hb dX1_isMetBy_67 rfl (lv_at hl 2 rfl) ?_
    refine lv_icmp_ge (tgt := 75) hx hb dX1_isMetBy_68 (by decide) (fun c4 => ?_) (fun c4 => ?_)
    · replace hw := hw.1 c4
      refine lv_iconst (v := 0) hx hb dX1_isMetBy_75 (by decide) ?_
      exact W.zret hx hb hr (zb_nar zb0) (fun t ht _ => ⟨0, rfl, hw, ht⟩) t_nil dX1_isMetBy_76
    · replace hw := hw.2 c4
      refine lv_iconst (v := 1) hx hb dX1_isMetBy_71 (by decide) ?_
      refine lv_goto (tgt := 76) hx hb dX1_isMetBy_72 (by decide) ?_
      exact W.zret hx hb hr (zb_nar zb1) (fun t ht _ => ⟨1, rfl, hw, ht⟩) t_nil dX1_isMetBy_76
  replace hw := hw.2
  by_cases c1_3 : h0_kind = 3
  · refine lv_tableIn (tgt := 77) hx hb dX1_isMetBy_4 (by rw [c1_3]; decide) (by rw [c1_3]; decide) (by rw [c1_3]; rfl) (by decide) ?_
    replace hw := hw.1 c1_3
    refine lv_iload_n hx hb dX1_isMetBy_77 rfl (lv_at hl 1 rfl) ?_
    refine lv_iconst (v := 1) hx hb dX1_isMetBy_78 (by decide) ?_
    refine lv_iadd hx hb dX1_isMetBy_79 ?_
    refine lv_iload_n hx hb dX1_isMetBy_80 rfl (lv_at hl 2 rfl) ?_
    refine lv_icmp_ne (tgt := 88) hx hb dX1_isMetBy_81 (by decide) (fun c5 => ?_) (fun c5 => ?_)
    · replace hw := hw.2 c5
      refine lv_iconst (v := 0) hx hb dX1_isMetBy_88 (by decide) ?_
      exact W.zret hx hb hr (zb_nar zb0) (fun t ht _ => ⟨0, rfl, hw, ht⟩) t_nil dX1_isMetBy_89
    · replace hw := hw.1 c5
      refine lv_iconst (v := 1) hx hb dX1_isMetBy_84 (by decide) ?_
      refine lv_goto (tgt := 89) hx hb dX1_isMetBy_85 (by decide) ?_
      exact W.zret hx hb hr (zb_nar zb1) (fun t ht _ => ⟨1, rfl, hw, ht⟩) t_nil dX1_isMetBy_89
  replace hw := hw.2
  by_cases c1_4 : h0_kind = 4
  · refine lv_tableIn (tgt := 90) hx hb dX1_isMetBy_4 (by rw [c1_4]; decide) (by rw [c1_4]; decide) (by rw [c1_4]; rfl) (by decide) ?_
    replace hw := hw.1 c1_4
    refine lv_iload_n hx hb dX1_isMetBy_90 rfl (lv_at hl 1 rfl) ?_
    refine lv_iload_n hx hb dX1_isMetBy_91 rfl (lv_at hl 2 rfl) ?_
    refine lv_isub hx hb dX1_isMetBy_92 ?_
    refine va_mabs hx hb (hml.trans hl.1.symm) hown lk3 lk4 lk5 lk6 (Nat.le_of_ble_eq_true rfl) (Nat.le_of_ble_eq_true rfl) (Nat.le_of_ble_eq_true rfl) (Nat.le_of_ble_eq_true rfl) dX1_isMetBy_93 ?_
    refine lv_iconst (v := 1) hx hb dX1_isMetBy_96 (by decide) ?_
    refine lv_icmp_ne (tgt := 104) hx hb dX1_isMetBy_97 (by decide) (fun c6 => ?_) (fun c6 => ?_)
    · replace hw := hw.2 c6
      refine lv_iconst (v := 0) hx hb dX1_isMetBy_104 (by decide) ?_
      exact W.zret hx hb hr (zb_nar zb0) (fun t ht _ => ⟨0, rfl, hw, ht⟩) t_nil dX1_isMetBy_105
    · replace hw := hw.1 c6
      refine lv_iconst (v := 1) hx hb dX1_isMetBy_100 (by decide) ?_
      refine lv_goto (tgt := 105) hx hb dX1_isMetBy_101 (by decide) ?_
      exact W.zret hx hb hr (zb_nar zb1) (fun t ht _ => ⟨1, rfl, hw, ht⟩) t_nil dX1_isMetBy_105
  replace hw := hw.2
  by_cases c1_5 : h0_kind = 5
  · refine lv_tableIn (tgt := 106) hx hb dX1_isMetBy_4 (by rw [c1_5]; decide) (by rw [c1_5]; decide) (by rw [c1_5]; rfl) (by decide) ?_
    replace hw := hw.1 c1_5
    refine lv_iload_n hx hb dX1_isMetBy_106 rfl (lv_at hl 1 rfl) ?_
    refine lv_iconst (v := 1) hx hb dX1_isMetBy_107 (by decide) ?_
    refine lv_iadd hx hb dX1_isMetBy_108 ?_
    refine lv_aload_n hx hb dX1_isMetBy_109 rfl (lv_at hl 0 rfl) ?_
    refine va_get (D := g.1) (ci := 1) (v := .int h0_place) (C := RX1) (T := TX1) (N := 9) hx hb hts hinX1 hown hK hP 0 rfl rfl 4 (by decide) lk7 (fun _ h9 => h9) rfl dX1_isMetBy_110 ?_
    refine lv_icmp_ne (tgt := 120) hx hb dX1_isMetBy_113 (by decide) (fun c7 => ?_) (fun c7 => ?_)
    · replace hw := hw.2 c7
      refine lv_iconst (v := 0) hx hb dX1_isMetBy_120 (by decide) ?_
      exact W.zret hx hb hr (zb_nar zb0) (fun t ht _ => ⟨0, rfl, hw, ht⟩) t_nil dX1_isMetBy_121
    · replace hw := hw.1 c7
      refine lv_iconst (v := 1) hx hb dX1_isMetBy_116 (by decide) ?_
      refine lv_goto (tgt := 121) hx hb dX1_isMetBy_117 (by decide) ?_
      exact W.zret hx hb hr (zb_nar zb1) (fun t ht _ => ⟨1, rfl, hw, ht⟩) t_nil dX1_isMetBy_121
  replace hw := hw.2
  have hout : h0_kind.toInt < 0 ∨ 5 < h0_kind.toInt := by
    have n_c1_0 := ne_toInt c1_0
    rw [show (0 : Int32).toInt = 0 from by decide] at n_c1_0
    have n_c1_1 := ne_toInt c1_1
    rw [show (1 : Int32).toInt = 1 from by decide] at n_c1_1
    have n_c1_2 := ne_toInt c1_2
    rw [show (2 : Int32).toInt = 2 from by decide] at n_c1_2
    have n_c1_3 := ne_toInt c1_3
    rw [show (3 : Int32).toInt = 3 from by decide] at n_c1_3
    have n_c1_4 := ne_toInt c1_4
    rw [show (4 : Int32).toInt = 4 from by decide] at n_c1_4
    have n_c1_5 := ne_toInt c1_5
    rw [show (5 : Int32).toInt = 5 from by decide] at n_c1_5
    omega
  refine lv_tableOut (tgt := 122) hx hb dX1_isMetBy_4 hout (by decide) ?_
  replace hw := hw ⟨c1_0, c1_1, c1_2, c1_3, c1_4, c1_5⟩
  refine lv_iload_n hx hb dX1_isMetBy_122 rfl (lv_at hl 1 rfl) ?_
  refine lv_iload_n hx hb dX1_isMetBy_123 rfl (lv_at hl 2 rfl) ?_
  refine lv_icmp_eq (tgt := 132) hx hb dX1_isMetBy_124 (by decide) (fun c8 => ?_) (fun c8 => ?_)
  · replace hw := hw.1 c8
    refine lv_iconst (v := 1) hx hb dX1_isMetBy_132 (by decide) ?_
    refine lv_goto (tgt := 137) hx hb dX1_isMetBy_133 (by decide) ?_
    exact W.zret hx hb hr (zb_nar zb1) (fun t ht _ => ⟨1, rfl, hw, ht⟩) t_nil dX1_isMetBy_137
  · replace hw := hw.2 c8
    refine lv_iload_n hx hb dX1_isMetBy_127 rfl (lv_at hl 1 rfl) ?_
    refine lv_iload_n hx hb dX1_isMetBy_128 rfl (lv_at hl 3 rfl) ?_
    refine lv_icmp_ne (tgt := 136) hx hb dX1_isMetBy_129 (by decide) (fun c9 => ?_) (fun c9 => ?_)
    · replace hw := hw.2 c9
      refine lv_iconst (v := 0) hx hb dX1_isMetBy_136 (by decide) ?_
      exact W.zret hx hb hr (zb_nar zb0) (fun t ht _ => ⟨0, rfl, hw, ht⟩) t_nil dX1_isMetBy_137
    · replace hw := hw.1 c9
      refine lv_iconst (v := 1) hx hb dX1_isMetBy_132 (by decide) ?_
      refine lv_goto (tgt := 137) hx hb dX1_isMetBy_133 (by decide) ?_
      exact W.zret hx hb hr (zb_nar zb1) (fun t ht _ => ⟨1, rfl, hw, ht⟩) t_nil dX1_isMetBy_137

def wp_X1_allowColumns_8 (Q : (Nat → Int32) → Prop) (x1 : Int32) (h0_kind : Int32) (h0_x : Int32) (h0_y : Int32) (h0_z : Int32) (h0_top : Int32) (h0_low : Int32)  (l2 : Int32) (l3 : Int32) (l4 : Int32) (h0_al : Nat → Int32) : Prop :=
  ∃ (I8 : Int32 → Int32 → Int32 → (Nat → Int32) → Prop) (mu8 : Int32 → Int32 → Int32 → (Nat → Int32) → Nat), I8 l2 l3 l4 h0_al ∧ ∀ (l2 : Int32) (l3 : Int32) (l4 : Int32) (h0_al : Nat → Int32), I8 l2 l3 l4 h0_al → (wp_X1_items h0_kind (fun r1 => ((r1 ≤ l4 → (vp_in l3 16 ∧ (vp_in l3 16 ∧ Q (upd h0_al l3.toNatClampNeg ((h0_al l3.toNatClampNeg) ||| l2))))) ∧ (¬ (r1 ≤ l4) → (wp_X1_itemAt l4 h0_x h0_y h0_z (fun r3 => ∀ w4 : Int32, w4 = ((x1 >>> ((2 * l4) &&& 31)) &&& 3) → (((r3 / 4) = h0_top → (vp_in ((4 * (r3 &&& 3)) + w4) 16 ∧ ∀ w9 : Int32, w9 = (l2 &&& (tOW ((4 * (r3 &&& 3)) + w4).toNatClampNeg)) → (I8 w9 l3 (l4 + 1) h0_al ∧ mu8 w9 l3 (l4 + 1) h0_al < mu8 l2 l3 l4 h0_al))) ∧ (¬ ((r3 / 4) = h0_top) → ((r3 = h0_low → ∀ w8 : Int32, w8 = (l3 + (4 * w4)) → (I8 l2 w8 (l4 + 1) h0_al ∧ mu8 l2 w8 (l4 + 1) h0_al < mu8 l2 l3 l4 h0_al)) ∧ (¬ (r3 = h0_low) → ∀ w7 : Int32, w7 = (l3 + w4) → (I8 l2 w7 (l4 + 1) h0_al ∧ mu8 l2 w7 (l4 + 1) h0_al < mu8 l2 l3 l4 h0_al)))))))))))
def wp_X1_allowColumns (x1 : Int32) (h0_kind : Int32) (h0_x : Int32) (h0_y : Int32) (h0_z : Int32) (h0_top : Int32) (h0_low : Int32) (h0_al : Nat → Int32) (Q : (Nat → Int32) → Prop) : Prop :=
  wp_X1_allowColumns_8 Q x1 h0_kind h0_x h0_y h0_z h0_top h0_low  16777215 0 0 h0_al
theorem hd_X1_allowColumns : yX1_allowColumns.cls = RX1 ∧ yX1_allowColumns.cls ≠ "java/lang/invoke/MethodHandle" ∧ yX1_allowColumns.cls ≠ "java/lang/invoke/VarHandle" ∧ (parseMethodDescriptor yX1_allowColumns.desc).map (fun d => d.parameters.length) = some 1 := by decide +kernel
set_option maxHeartbeats 4000000 in
set_option maxRecDepth 100000 in
theorem m_X1_allowColumns (l : Launch) (g : GG) {tb : TB} {pv : PV} {h0 h0w : Nat} {h0_kind : Int32} {h0_x : Int32} {h0_y : Int32} {h0_z : Int32} {h0_place : Int32} {h0_top : Int32} {h0_low : Int32} {h0_high : Int32} {h0_al : Nat → Int32} {x1 : Int32} {sz : Nat} {Q : (Nat → Int32) → Prop} (hw : wp_X1_allowColumns x1 h0_kind h0_x h0_y h0_z h0_top h0_low h0_al Q) : Met l yX1_allowColumns wsX1_allowColumns ({ frames := 1, cells := 0, slots := 0, locals := 21 } : Room) (PcM g (roC g tb pv) [(h0, .inr (1, [.int h0_kind, .int h0_x, .int h0_y, .int h0_z, .int h0_place, .int h0_top, .int h0_low, .int h0_high, .ref h0w])), (h0w, .inl (g.2.1, 16, .inl h0_al))] sz [.ref h0, .int x1]) (va_Qv (fun (u : (Nat → Int32)) => Q u) (BM g (fun u : (Nat → Int32) => [(h0, .inr (1, [.int h0_kind, .int h0_x, .int h0_y, .int h0_z, .int h0_place, .int h0_top, .int h0_low, .int h0_high, .ref h0w])), (h0w, .inl (g.2.1, 16, .inl u))]) (va_A [(h0, .inr (1, [.int h0_kind, .int h0_x, .int h0_y, .int h0_z, .int h0_place, .int h0_top, .int h0_low, .int h0_high, .ref h0w])), (h0w, .inl (g.2.1, 16, .inl h0_al))] sz)) (va_A [(h0, .inr (1, [.int h0_kind, .int h0_x, .int h0_y, .int h0_z, .int h0_place, .int h0_top, .int h0_low, .int h0_high, .ref h0w])), (h0w, .inl (g.2.1, 16, .inl h0_al))] sz)) 0 0 (va_A [(h0, .inr (1, [.int h0_kind, .int h0_x, .int h0_y, .int h0_z, .int h0_place, .int h0_top, .int h0_low, .int h0_high, .ref h0w])), (h0w, .inl (g.2.1, 16, .inl h0_al))] sz) := by
  have hok : RoOK (roC g tb pv) := roC_ok
  refine Met.ofW (cc := cX1_allowColumns) (maxL := 7) (ret := none) (by decide) rfl ?_
  intro p e s m args below meth c s₁ B hml hv
  obtain ⟨rfl, hsz, hP, hK, hD0, hro⟩ := hv
  have hx := B.exec
  have hb := B.bytes
  have hr := B.returns
  have hts := atoms_spec (ws := wsX1_allowColumns) B.pre
  have hown : s.vm.findClass RX1 = some m.cls := findClass_of_methodNamed B.named
  have hlocks := B.notSynchronized
  subst hsz
  have hD := hD0.self (sz := s.heap.size)
  generalize hAe : va_A [(h0, .inr (1, [.int h0_kind, .int h0_x, .int h0_y, .int h0_z, .int h0_place, .int h0_top, .int h0_low, .int h0_high, .ref h0w])), (h0w, .inl (g.2.1, 16, .inl h0_al))] s.heap.size = A at hD hro ⊢
  have hA : ∀ q : Nat, s.heap.size ≤ q → A q := fun q h => by rw [← hAe]; exact Or.inr h
  have hS : va_S A s.heap s.heap [] := va_S.rf
  have hP : PP g [(h0, .inr (1, [.int h0_kind, .int h0_x, .int h0_y, .int h0_z, .int h0_place, .int h0_top, .int h0_low, .int h0_high, .ref h0w])), (h0w, .inl (g.2.1, 16, .inl h0_al))] s.heap := hP
  have lk1 := hts (.constant RX1 55 (16777215)) (by decide +kernel)
  have lk2 := hts (.fieldLink RX1 18 "GridRiddles$Clue" "allowed" "[I") (by decide +kernel)
  have hinX1 : ∀ w ∈ u_ws RX1 TX1 9, w ∈ wsX1_allowColumns := by decide +kernel
  have lk4 := hts (.fieldLink RX1 43 "GridRiddles$Clue" "top" "I") (by decide +kernel)
  have lk5 := hts (.fieldLink RX1 11 "GridRiddles$Clue" "low" "I") (by decide +kernel)
  have lk6 := hts (.fieldLink RX1 78 "GridRiddles$Clue" "ORDERS_WITH" "[I") (by decide +kernel)
  have B8 : ∀ (l2 : Int32) (l3 : Int32) (l4 : Int32) (h0_al : Nat → Int32), wp_X1_allowColumns_8 Q x1 h0_kind h0_x h0_y h0_z h0_top h0_low  l2 l3 l4 h0_al → ∀ (H : Heap) (locs : List Loc), PP g [(h0, .inr (1, [.int h0_kind, .int h0_x, .int h0_y, .int h0_z, .int h0_place, .int h0_top, .int h0_low, .int h0_high, .ref h0w])), (h0w, .inl (g.2.1, 16, .inl h0_al))] H → va_D A [(h0, .inr (1, [.int h0_kind, .int h0_x, .int h0_y, .int h0_z, .int h0_place, .int h0_top, .int h0_low, .int h0_high, .ref h0w])), (h0w, .inl (g.2.1, 16, .inl h0_al))] → va_S A s.heap H locs → ∀ (ls : Array Slot), lv_has ls 7 [(0, .ref h0), (1, .int x1), (2, .int l2), (3, .int l3), (4, .int l4)] → W p l e (headSpec wsX1_allowColumns ({ frames := 1, cells := 0, slots := 0, locals := 21 } : Room)).room s m ([.ref h0, .int x1] : List Value).toArray below meth c H locs 0 0 (MQ below (va_Qv (fun (u : (Nat → Int32)) => Q u) (BM g (fun u : (Nat → Int32) => [(h0, .inr (1, [.int h0_kind, .int h0_x, .int h0_y, .int h0_z, .int h0_place, .int h0_top, .int h0_low, .int h0_high, .ref h0w])), (h0w, .inl (g.2.1, 16, .inl u))]) A) A) ([.ref h0, .int x1] : List Value).toArray s 0 0 A) (F0 m 8 ls []) := by
    intro  l2 l3 l4 h0_al hw
    obtain ⟨I8, mu8, hI, hstep⟩ := hw
    have key : ∀ (n : Nat) (l2 : Int32) (l3 : Int32) (l4 : Int32) (h0_al : Nat → Int32), mu8 l2 l3 l4 h0_al < n → I8 l2 l3 l4 h0_al → ∀ (H : Heap) (locs : List Loc), PP g [(h0, .inr (1, [.int h0_kind, .int h0_x, .int h0_y, .int h0_z, .int h0_place, .int h0_top, .int h0_low, .int h0_high, .ref h0w])), (h0w, .inl (g.2.1, 16, .inl h0_al))] H → va_D A [(h0, .inr (1, [.int h0_kind, .int h0_x, .int h0_y, .int h0_z, .int h0_place, .int h0_top, .int h0_low, .int h0_high, .ref h0w])), (h0w, .inl (g.2.1, 16, .inl h0_al))] → va_S A s.heap H locs → ∀ (ls : Array Slot), lv_has ls 7 [(0, .ref h0), (1, .int x1), (2, .int l2), (3, .int l3), (4, .int l4)] → W p l e (headSpec wsX1_allowColumns ({ frames := 1, cells := 0, slots := 0, locals := 21 } : Room)).room s m ([.ref h0, .int x1] : List Value).toArray below meth c H locs 0 0 (MQ below (va_Qv (fun (u : (Nat → Int32)) => Q u) (BM g (fun u : (Nat → Int32) => [(h0, .inr (1, [.int h0_kind, .int h0_x, .int h0_y, .int h0_z, .int h0_place, .int h0_top, .int h0_low, .int h0_high, .ref h0w])), (h0w, .inl (g.2.1, 16, .inl u))]) A) A) ([.ref h0, .int x1] : List Value).toArray s 0 0 A) (F0 m 8 ls []) := by
      intro n
      induction n with
      | zero => intro l2 l3 l4 h0_al h; exact absurd h (Nat.not_lt_zero _)
      | succ n ih =>
          intro l2 l3 l4 h0_al hn hI  H locs hP hD hS ls hl
          have hw := hstep l2 l3 l4 h0_al hI
          have hK8 : ∀ (l2' : Int32) (l3' : Int32) (l4' : Int32) (h0_al' : Nat → Int32), (I8 l2' l3' l4' h0_al' ∧ mu8 l2' l3' l4' h0_al' < mu8 l2 l3 l4 h0_al) → ∀ (H : Heap) (locs : List Loc), PP g [(h0, .inr (1, [.int h0_kind, .int h0_x, .int h0_y, .int h0_z, .int h0_place, .int h0_top, .int h0_low, .int h0_high, .ref h0w])), (h0w, .inl (g.2.1, 16, .inl h0_al'))] H → va_D A [(h0, .inr (1, [.int h0_kind, .int h0_x, .int h0_y, .int h0_z, .int h0_place, .int h0_top, .int h0_low, .int h0_high, .ref h0w])), (h0w, .inl (g.2.1, 16, .inl h0_al'))] → va_S A s.heap H locs → ∀ (ls : Array Slot), lv_has ls 7 [(0, .ref h0), (1, .int x1), (2, .int l2'), (3, .int l3'), (4, .int l4')] → W p l e (headSpec wsX1_allowColumns ({ frames := 1, cells := 0, slots := 0, locals := 21 } : Room)).room s m ([.ref h0, .int x1] : List Value).toArray below meth c H locs 0 0 (MQ below (va_Qv (fun (u : (Nat → Int32)) => Q u) (BM g (fun u : (Nat → Int32) => [(h0, .inr (1, [.int h0_kind, .int h0_x, .int h0_y, .int h0_z, .int h0_place, .int h0_top, .int h0_low, .int h0_high, .ref h0w])), (h0w, .inl (g.2.1, 16, .inl u))]) A) A) ([.ref h0, .int x1] : List Value).toArray s 0 0 A) (F0 m 8 ls []) := fun l2' l3' l4' h0_al' h => ih l2' l3' l4' h0_al' (Nat.lt_of_lt_of_le h.2 (Nat.le_of_lt_succ hn)) h.1
          refine lv_iload hx hb dX1_allowColumns_8 (lv_at hl 4 rfl) ?_
          refine lv_aload_n hx hb dX1_allowColumns_10 rfl (lv_at hl 0 rfl) ?_
          refine kp_V (As := []) (rest := [.int l4]) (wc := [(h0, .inr (1, [.int h0_kind, .int h0_x, .int h0_y, .int h0_z, .int h0_place, .int h0_top, .int h0_low, .int h0_high, .ref h0w]))]) (cq := (RX1, TX1, 9)) ⟨hx, hb, hml, hown, hts⟩ (m_X1_items l g hok (h0 := h0) (h0w := h0w) (h0_kind := h0_kind) (h0_x := h0_x) (h0_y := h0_y) (h0_z := h0_z) (h0_place := h0_place) (h0_top := h0_top) (h0_low := h0_low) (h0_high := h0_high) hw) (cwV 0 hts gX1_allowColumns_X1_items rfl rfl rfl hd_X1_items ⟨Nat.le_of_ble_eq_true rfl, Nat.le_of_ble_eq_true rfl⟩) hok hK (hP.sub (ws' := [(h0, .inr (1, [.int h0_kind, .int h0_x, .int h0_y, .int h0_z, .int h0_place, .int h0_top, .int h0_low, .int h0_high, .ref h0w]))]) [0] rfl) hro hS hA 0 1 rfl rfl rfl hl.1 rfl (Nat.le_of_ble_eq_true rfl) dX1_allowColumns_11 ⟨Nat.le_of_ble_eq_true rfl, Nat.le_of_ble_eq_true rfl⟩ (fun r1 hw => ?_)
          refine lv_icmp_ge (tgt := 92) hx hb dX1_allowColumns_14 (by decide) (fun c2 => ?_) (fun c2 => ?_)
          · replace hw := hw.1 c2
            refine lv_aload_n hx hb dX1_allowColumns_92 rfl (lv_at hl 0 rfl) ?_
            refine va_get (D := g.1) (ci := 1) (v := .ref h0w) (C := RX1) (T := TX1) (N := 9) hx hb hts hinX1 hown hK hP 0 rfl rfl 8 (by decide) lk2 (fun _ h9 => h9) rfl dX1_allowColumns_93 ?_
            refine lv_iload_n hx hb dX1_allowColumns_96 rfl (lv_at hl 3 rfl) ?_
            refine lv_dup2_11 hx hb dX1_allowColumns_97 rfl rfl ?_
            obtain ⟨hi, hw⟩ := hw
            refine va_iald hx hb hK hP 1 0 rfl rfl hi dX1_allowColumns_98 ?_
            refine lv_iload_n hx hb dX1_allowColumns_99 rfl (lv_at hl 2 rfl) ?_
            refine lv_ior hx hb dX1_allowColumns_100 ?_
            obtain ⟨hi, hw⟩ := hw
            refine va_iast hx hb hK hP hD hS 1 0 rfl rfl hi dX1_allowColumns_101 (fun H locs hP hD hS => ?_)
            have hP : PP g [(h0, .inr (1, [.int h0_kind, .int h0_x, .int h0_y, .int h0_z, .int h0_place, .int h0_top, .int h0_low, .int h0_high, .ref h0w])), (h0w, .inl (g.2.1, 16, .inl (upd h0_al l3.toNatClampNeg ((h0_al l3.toNatClampNeg) ||| l2))))] H := hP
            have hD : va_D A [(h0, .inr (1, [.int h0_kind, .int h0_x, .int h0_y, .int h0_z, .int h0_place, .int h0_top, .int h0_low, .int h0_high, .ref h0w])), (h0w, .inl (g.2.1, 16, .inl (upd h0_al l3.toNatClampNeg ((h0_al l3.toNatClampNeg) ||| l2))))] := hD
            exact W.vret hx hb hr (fun t ht hW => ⟨⟨((upd h0_al l3.toNatClampNeg ((h0_al l3.toNatClampNeg) ||| l2))), rfl, hw, by rw [ht]; exact hP, va_K.moved hW.alike hK, hD⟩, hS.F ht⟩) hS.2.2 dX1_allowColumns_102
          · replace hw := hw.2 c2
            refine lv_aload_n hx hb dX1_allowColumns_17 rfl (lv_at hl 0 rfl) ?_
            refine lv_iload hx hb dX1_allowColumns_18 (lv_at hl 4 rfl) ?_
            refine kp_V (As := [.int l4]) (rest := []) (wc := [(h0, .inr (1, [.int h0_kind, .int h0_x, .int h0_y, .int h0_z, .int h0_place, .int h0_top, .int h0_low, .int h0_high, .ref h0w]))]) (cq := (RX1, TX1, 9)) ⟨hx, hb, hml, hown, hts⟩ (m_X1_itemAt l g hok (h0 := h0) (h0w := h0w) (h0_kind := h0_kind) (h0_x := h0_x) (h0_y := h0_y) (h0_z := h0_z) (h0_place := h0_place) (h0_top := h0_top) (h0_low := h0_low) (h0_high := h0_high) (x1 := l4) hw) (cwV 1 hts gX1_allowColumns_X1_itemAt rfl rfl rfl hd_X1_itemAt ⟨Nat.le_of_ble_eq_true rfl, Nat.le_of_ble_eq_true rfl⟩) hok hK (hP.sub (ws' := [(h0, .inr (1, [.int h0_kind, .int h0_x, .int h0_y, .int h0_z, .int h0_place, .int h0_top, .int h0_low, .int h0_high, .ref h0w]))]) [0] rfl) hro hS hA 0 1 rfl rfl rfl hl.1 rfl (Nat.le_of_ble_eq_true rfl) dX1_allowColumns_20 ⟨Nat.le_of_ble_eq_true rfl, Nat.le_of_ble_eq_true rfl⟩ (fun r3 hw => ?_)
            refine lv_istore (lv' := [(5, .int r3), (0, .ref h0), (1, .int x1), (2, .int l2), (3, .int l3), (4, .int l4)]) hx hb dX1_allowColumns_23 hl (by decide) rfl (fun ls hl => ?_)
            refine lv_iload_n hx hb dX1_allowColumns_25 rfl (lv_at hl 2 rfl) ?_
            refine lv_iconst (v := 2) hx hb dX1_allowColumns_26 (by decide) ?_
            refine lv_iload hx hb dX1_allowColumns_27 (lv_at hl 5 rfl) ?_
            refine lv_imul hx hb dX1_allowColumns_29 ?_
            refine lv_ishr hx hb dX1_allowColumns_30 ?_
            refine lv_iconst (v := 3) hx hb dX1_allowColumns_31 (by decide) ?_
            refine lv_iand hx hb dX1_allowColumns_32 ?_
            refine lv_topi (fun w4 ew4 => ?_)
            have hw := hw w4 ew4
            refine lv_istore (lv' := [(6, .int w4), (5, .int r3), (0, .ref h0), (1, .int x1), (2, .int l2), (3, .int l3), (4, .int l4)]) hx hb dX1_allowColumns_33 hl (by decide) rfl (fun ls hl => ?_)
            refine lv_iload hx hb dX1_allowColumns_35 (lv_at hl 1 rfl) ?_
            refine lv_iconst (v := 4) hx hb dX1_allowColumns_37 (by decide) ?_
            refine lv_idiv hx hb dX1_allowColumns_38 (by decide) ?_
            refine lv_aload_n hx hb dX1_allowColumns_39 rfl (lv_at hl 2 rfl) ?_
            refine va_get (D := g.1) (ci := 1) (v := .int h0_top) (C := RX1) (T := TX1) (N := 9) hx hb hts hinX1 hown hK hP 0 rfl rfl 5 (by decide) lk4 (fun _ h9 => h9) rfl dX1_allowColumns_40 ?_
            refine lv_icmp_ne (tgt := 65) hx hb dX1_allowColumns_43 (by decide) (fun c5 => ?_) (fun c5 => ?_)
            · replace hw := hw.2 c5
              refine lv_iload_n hx hb dX1_allowColumns_65 rfl (lv_at hl 5 rfl) ?_
              refine lv_iload hx hb dX1_allowColumns_66 (lv_at hl 1 rfl) ?_
              refine lv_aload_n hx hb dX1_allowColumns_68 rfl (lv_at hl 2 rfl) ?_
              refine va_get (D := g.1) (ci := 1) (v := .int h0_low) (C := RX1) (T := TX1) (N := 9) hx hb hts hinX1 hown hK hP 0 rfl rfl 6 (by decide) lk5 (fun _ h9 => h9) rfl dX1_allowColumns_69 ?_
              refine lv_icmp_ne (tgt := 82) hx hb dX1_allowColumns_72 (by decide) (fun c6 => ?_) (fun c6 => ?_)
              · replace hw := hw.2 c6
                refine lv_iload hx hb dX1_allowColumns_82 (lv_at hl 0 rfl) ?_
                refine lv_iadd hx hb dX1_allowColumns_84 ?_
                refine lv_topi (fun w7 ew7 => ?_)
                have hw := hw w7 ew7
                refine lv_istore_n (lv' := [(3, .int w7), (6, .int w4), (5, .int r3), (0, .ref h0), (1, .int x1), (2, .int l2), (4, .int l4)]) hx hb dX1_allowColumns_85 rfl hl (by decide) rfl (fun ls hl => ?_)
                refine lv_iinc (v := (l4 + 1)) (lv' := [(4, .int (l4 + 1)), (3, .int w7), (6, .int w4), (5, .int r3), (0, .ref h0), (1, .int x1), (2, .int l2)]) hx hb dX1_allowColumns_86 hl (k := 6) rfl rfl (by decide) rfl (fun ls hl => ?_)
                refine lv_goto (tgt := 8) hx hb dX1_allowColumns_89 (by decide) ?_
                exact hK8 l2 w7 (l4 + 1) h0_al hw  _ _ hP hD hS ls (lv_sub hl [4, 5, 6, 1, 0] rfl)
              · replace hw := hw.1 c6
                refine lv_iconst (v := 4) hx hb dX1_allowColumns_75 (by decide) ?_
                refine lv_iload hx hb dX1_allowColumns_76 (lv_at hl 0 rfl) ?_
                refine lv_imul hx hb dX1_allowColumns_78 ?_
                refine lv_goto (tgt := 84) hx hb dX1_allowColumns_79 (by decide) ?_
                refine lv_iadd hx hb dX1_allowColumns_84 ?_
                refine lv_topi (fun w8 ew8 => ?_)
                have hw := hw w8 ew8
                refine lv_istore_n (lv' := [(3, .int w8), (6, .int w4), (5, .int r3), (0, .ref h0), (1, .int x1), (2, .int l2), (4, .int l4)]) hx hb dX1_allowColumns_85 rfl hl (by decide) rfl (fun ls hl => ?_)
                refine lv_iinc (v := (l4 + 1)) (lv' := [(4, .int (l4 + 1)), (3, .int w8), (6, .int w4), (5, .int r3), (0, .ref h0), (1, .int x1), (2, .int l2)]) hx hb dX1_allowColumns_86 hl (k := 6) rfl rfl (by decide) rfl (fun ls hl => ?_)
                refine lv_goto (tgt := 8) hx hb dX1_allowColumns_89 (by decide) ?_
                exact hK8 l2 w8 (l4 + 1) h0_al hw  _ _ hP hD hS ls (lv_sub hl [4, 5, 6, 1, 0] rfl)
            · replace hw := hw.1 c5
              refine lv_iload_n hx hb dX1_allowColumns_46 rfl (lv_at hl 4 rfl) ?_
              refine va_gets hx hb hro.2.1.1 hS hown lk6 (fun _ h9 => h9) dX1_allowColumns_47 ?_
              refine lv_iconst (v := 4) hx hb dX1_allowColumns_50 (by decide) ?_
              refine lv_iload hx hb dX1_allowColumns_51 (lv_at hl 1 rfl) ?_
              refine lv_iconst (v := 3) hx hb dX1_allowColumns_53 (by decide) ?_
              refine lv_iand hx hb dX1_allowColumns_54 ?_
              refine lv_imul hx hb dX1_allowColumns_55 ?_
              refine lv_iload hx hb dX1_allowColumns_56 (lv_at hl 0 rfl) ?_
              refine lv_iadd hx hb dX1_allowColumns_58 ?_
              obtain ⟨hi, hw⟩ := hw
              refine va_ti (v := .int (tOW ((4 * (r3 &&& 3)) + w4).toNatClampNeg)) hx hb hro.2.1.2 hS hi rfl dX1_allowColumns_59 ?_
              refine lv_iand hx hb dX1_allowColumns_60 ?_
              refine lv_topi (fun w9 ew9 => ?_)
              have hw := hw w9 ew9
              refine lv_istore_n (lv' := [(2, .int w9), (6, .int w4), (5, .int r3), (0, .ref h0), (1, .int x1), (3, .int l3), (4, .int l4)]) hx hb dX1_allowColumns_61 rfl hl (by decide) rfl (fun ls hl => ?_)
              refine lv_goto (tgt := 86) hx hb dX1_allowColumns_62 (by decide) ?_
              refine lv_iinc (v := (l4 + 1)) (lv' := [(4, .int (l4 + 1)), (2, .int w9), (6, .int w4), (5, .int r3), (0, .ref h0), (1, .int x1), (3, .int l3)]) hx hb dX1_allowColumns_86 hl (k := 6) rfl rfl (by decide) rfl (fun ls hl => ?_)
              refine lv_goto (tgt := 8) hx hb dX1_allowColumns_89 (by decide) ?_
              exact hK8 w9 l3 (l4 + 1) h0_al hw  _ _ hP hD hS ls (lv_sub hl [4, 5, 1, 6, 0] rfl)
    exact key _ l2 l3 l4 h0_al (Nat.lt_succ_self _) hI
  have hl := lv_entry ([.ref h0, .int x1]) (n := 7) (Nat.le_of_ble_eq_true rfl)
  rw [lg_entry_eq]
  generalize (lg_sl ([.ref h0, .int x1]) ++ List.replicate (7 - (lg_sl ([.ref h0, .int x1])).length) Slot.unset).toArray = ls at hl ⊢
  have hl : lv_has ls 7 [(0, .ref h0), (1, .int x1)] := hl
  unfold wp_X1_allowColumns at hw
  refine lv_ldc hx hb hown lk1 dX1_allowColumns_0 ?_
  refine lv_istore_n (lv' := [(2, .int 16777215), (0, .ref h0), (1, .int x1)]) hx hb dX1_allowColumns_2 rfl hl (by decide) rfl (fun ls hl => ?_)
  refine lv_iconst (v := 0) hx hb dX1_allowColumns_3 (by decide) ?_
  refine lv_istore_n (lv' := [(3, .int 0), (2, .int 16777215), (0, .ref h0), (1, .int x1)]) hx hb dX1_allowColumns_4 rfl hl (by decide) rfl (fun ls hl => ?_)
  refine lv_iconst (v := 0) hx hb dX1_allowColumns_5 (by decide) ?_
  refine lv_istore (lv' := [(4, .int 0), (3, .int 0), (2, .int 16777215), (0, .ref h0), (1, .int x1)]) hx hb dX1_allowColumns_6 hl (by decide) rfl (fun ls hl => ?_)
  exact B8  16777215 0 0 h0_al hw  _ _ hP hD hS ls (lv_sub hl [3, 4, 2, 1, 0] rfl)

def wp_X1_fillAllowed_11 (Q : (Nat → Int32) → Prop) (h0_kind : Int32) (h0_x : Int32) (h0_y : Int32) (h0_z : Int32) (h0_place : Int32) (h0_top : Int32) (h0_low : Int32)  (l1 : Int32) (l2 : Int32) (h0_al : Nat → Int32) : Prop :=
  ∃ (I11 : Int32 → Int32 → (Nat → Int32) → Prop) (mu11 : Int32 → Int32 → (Nat → Int32) → Nat), I11 l1 l2 h0_al ∧ ∀ (l1 : Int32) (l2 : Int32) (h0_al : Nat → Int32), I11 l1 l2 h0_al → ((l1 ≤ l2 → Q h0_al) ∧ (¬ (l1 ≤ l2) → (wp_X1_isMetBy (l2 &&& 3) ((l2 >>> (2 &&& 31)) &&& 3) ((l2 >>> (4 &&& 31)) &&& 3) h0_kind h0_place (fun r4 => ((r4 = 0 → (I11 l1 (l2 + 1) h0_al ∧ mu11 l1 (l2 + 1) h0_al < mu11 l1 l2 h0_al)) ∧ (¬ (r4 = 0) → (wp_X1_allowColumns l2 h0_kind h0_x h0_y h0_z h0_top h0_low h0_al (fun w6 => (I11 l1 (l2 + 1) w6 ∧ mu11 l1 (l2 + 1) w6 < mu11 l1 l2 h0_al)))))))))
def wp_X1_fillAllowed (h0_kind : Int32) (h0_x : Int32) (h0_y : Int32) (h0_z : Int32) (h0_place : Int32) (h0_top : Int32) (h0_low : Int32) (h0_al : Nat → Int32) (Q : (Nat → Int32) → Prop) : Prop :=
  (wp_X1_items h0_kind (fun r1 => ∀ w2 : Int32, w2 = (1 <<< ((2 * r1) &&& 31)) → wp_X1_fillAllowed_11 Q h0_kind h0_x h0_y h0_z h0_place h0_top h0_low  w2 0 h0_al))
theorem hd_X1_fillAllowed : yX1_fillAllowed.cls = RX1 ∧ yX1_fillAllowed.cls ≠ "java/lang/invoke/MethodHandle" ∧ yX1_fillAllowed.cls ≠ "java/lang/invoke/VarHandle" ∧ (parseMethodDescriptor yX1_fillAllowed.desc).map (fun d => d.parameters.length) = some 0 := by decide +kernel
set_option maxHeartbeats 4000000 in
set_option maxRecDepth 100000 in
theorem m_X1_fillAllowed (l : Launch) (g : GG) {tb : TB} {pv : PV} {h0 h0w : Nat} {h0_kind : Int32} {h0_x : Int32} {h0_y : Int32} {h0_z : Int32} {h0_place : Int32} {h0_top : Int32} {h0_low : Int32} {h0_high : Int32} {h0_al : Nat → Int32} {sz : Nat} {Q : (Nat → Int32) → Prop} (hw : wp_X1_fillAllowed h0_kind h0_x h0_y h0_z h0_place h0_top h0_low h0_al Q) : Met l yX1_fillAllowed wsX1_fillAllowed ({ frames := 2, cells := 0, slots := 0, locals := 47 } : Room) (PcM g (roC g tb pv) [(h0, .inr (1, [.int h0_kind, .int h0_x, .int h0_y, .int h0_z, .int h0_place, .int h0_top, .int h0_low, .int h0_high, .ref h0w])), (h0w, .inl (g.2.1, 16, .inl h0_al))] sz [.ref h0]) (va_Qv (fun (u : (Nat → Int32)) => Q u) (BM g (fun u : (Nat → Int32) => [(h0, .inr (1, [.int h0_kind, .int h0_x, .int h0_y, .int h0_z, .int h0_place, .int h0_top, .int h0_low, .int h0_high, .ref h0w])), (h0w, .inl (g.2.1, 16, .inl u))]) (va_A [(h0, .inr (1, [.int h0_kind, .int h0_x, .int h0_y, .int h0_z, .int h0_place, .int h0_top, .int h0_low, .int h0_high, .ref h0w])), (h0w, .inl (g.2.1, 16, .inl h0_al))] sz)) (va_A [(h0, .inr (1, [.int h0_kind, .int h0_x, .int h0_y, .int h0_z, .int h0_place, .int h0_top, .int h0_low, .int h0_high, .ref h0w])), (h0w, .inl (g.2.1, 16, .inl h0_al))] sz)) 0 0 (va_A [(h0, .inr (1, [.int h0_kind, .int h0_x, .int h0_y, .int h0_z, .int h0_place, .int h0_top, .int h0_low, .int h0_high, .ref h0w])), (h0w, .inl (g.2.1, 16, .inl h0_al))] sz) := by
  have hok : RoOK (roC g tb pv) := roC_ok
  refine Met.ofW (cc := cX1_fillAllowed) (maxL := 3) (ret := none) (by decide) rfl ?_
  intro p e s m args below meth c s₁ B hml hv
  obtain ⟨rfl, hsz, hP, hK, hD0, hro⟩ := hv
  have hx := B.exec
  have hb := B.bytes
  have hr := B.returns
  have hts := atoms_spec (ws := wsX1_fillAllowed) B.pre
  have hown : s.vm.findClass RX1 = some m.cls := findClass_of_methodNamed B.named
  have hlocks := B.notSynchronized
  subst hsz
  have hD := hD0.self (sz := s.heap.size)
  generalize hAe : va_A [(h0, .inr (1, [.int h0_kind, .int h0_x, .int h0_y, .int h0_z, .int h0_place, .int h0_top, .int h0_low, .int h0_high, .ref h0w])), (h0w, .inl (g.2.1, 16, .inl h0_al))] s.heap.size = A at hD hro ⊢
  have hA : ∀ q : Nat, s.heap.size ≤ q → A q := fun q h => by rw [← hAe]; exact Or.inr h
  have hS : va_S A s.heap s.heap [] := va_S.rf
  have hP : PP g [(h0, .inr (1, [.int h0_kind, .int h0_x, .int h0_y, .int h0_z, .int h0_place, .int h0_top, .int h0_low, .int h0_high, .ref h0w])), (h0w, .inl (g.2.1, 16, .inl h0_al))] s.heap := hP
  have B11 : ∀ (l1 : Int32) (l2 : Int32) (h0_al : Nat → Int32), wp_X1_fillAllowed_11 Q h0_kind h0_x h0_y h0_z h0_place h0_top h0_low  l1 l2 h0_al → ∀ (H : Heap) (locs : List Loc), PP g [(h0, .inr (1, [.int h0_kind, .int h0_x, .int h0_y, .int h0_z, .int h0_place, .int h0_top, .int h0_low, .int h0_high, .ref h0w])), (h0w, .inl (g.2.1, 16, .inl h0_al))] H → va_D A [(h0, .inr (1, [.int h0_kind, .int h0_x, .int h0_y, .int h0_z, .int h0_place, .int h0_top, .int h0_low, .int h0_high, .ref h0w])), (h0w, .inl (g.2.1, 16, .inl h0_al))] → va_S A s.heap H locs → ∀ (ls : Array Slot), lv_has ls 3 [(0, .ref h0), (1, .int l1), (2, .int l2)] → W p l e (headSpec wsX1_fillAllowed ({ frames := 2, cells := 0, slots := 0, locals := 47 } : Room)).room s m ([.ref h0] : List Value).toArray below meth c H locs 0 0 (MQ below (va_Qv (fun (u : (Nat → Int32)) => Q u) (BM g (fun u : (Nat → Int32) => [(h0, .inr (1, [.int h0_kind, .int h0_x, .int h0_y, .int h0_z, .int h0_place, .int h0_top, .int h0_low, .int h0_high, .ref h0w])), (h0w, .inl (g.2.1, 16, .inl u))]) A) A) ([.ref h0] : List Value).toArray s 0 0 A) (F0 m 11 ls []) := by
    intro  l1 l2 h0_al hw
    obtain ⟨I11, mu11, hI, hstep⟩ := hw
    have key : ∀ (n : Nat) (l1 : Int32) (l2 : Int32) (h0_al : Nat → Int32), mu11 l1 l2 h0_al < n → I11 l1 l2 h0_al → ∀ (H : Heap) (locs : List Loc), PP g [(h0, .inr (1, [.int h0_kind, .int h0_x, .int h0_y, .int h0_z, .int h0_place, .int h0_top, .int h0_low, .int h0_high, .ref h0w])), (h0w, .inl (g.2.1, 16, .inl h0_al))] H → va_D A [(h0, .inr (1, [.int h0_kind, .int h0_x, .int h0_y, .int h0_z, .int h0_place, .int h0_top, .int h0_low, .int h0_high, .ref h0w])), (h0w, .inl (g.2.1, 16, .inl h0_al))] → va_S A s.heap H locs → ∀ (ls : Array Slot), lv_has ls 3 [(0, .ref h0), (1, .int l1), (2, .int l2)] → W p l e (headSpec wsX1_fillAllowed ({ frames := 2, cells := 0, slots := 0, locals := 47 } : Room)).room s m ([.ref h0] : List Value).toArray below meth c H locs 0 0 (MQ below (va_Qv (fun (u : (Nat → Int32)) => Q u) (BM g (fun u : (Nat → Int32) => [(h0, .inr (1, [.int h0_kind, .int h0_x, .int h0_y, .int h0_z, .int h0_place, .int h0_top, .int h0_low, .int h0_high, .ref h0w])), (h0w, .inl (g.2.1, 16, .inl u))]) A) A) ([.ref h0] : List Value).toArray s 0 0 A) (F0 m 11 ls []) := by
      intro n
      induction n with
      | zero => intro l1 l2 h0_al h; exact absurd h (Nat.not_lt_zero _)
      | succ n ih =>
          intro l1 l2 h0_al hn hI  H locs hP hD hS ls hl
          have hw := hstep l1 l2 h0_al hI
          have hK11 : ∀ (l1' : Int32) (l2' : Int32) (h0_al' : Nat → Int32), (I11 l1' l2' h0_al' ∧ mu11 l1' l2' h0_al' < mu11 l1 l2 h0_al) → ∀ (H : Heap) (locs : List Loc), PP g [(h0, .inr (1, [.int h0_kind, .int h0_x, .int h0_y, .int h0_z, .int h0_place, .int h0_top, .int h0_low, .int h0_high, .ref h0w])), (h0w, .inl (g.2.1, 16, .inl h0_al'))] H → va_D A [(h0, .inr (1, [.int h0_kind, .int h0_x, .int h0_y, .int h0_z, .int h0_place, .int h0_top, .int h0_low, .int h0_high, .ref h0w])), (h0w, .inl (g.2.1, 16, .inl h0_al'))] → va_S A s.heap H locs → ∀ (ls : Array Slot), lv_has ls 3 [(0, .ref h0), (1, .int l1'), (2, .int l2')] → W p l e (headSpec wsX1_fillAllowed ({ frames := 2, cells := 0, slots := 0, locals := 47 } : Room)).room s m ([.ref h0] : List Value).toArray below meth c H locs 0 0 (MQ below (va_Qv (fun (u : (Nat → Int32)) => Q u) (BM g (fun u : (Nat → Int32) => [(h0, .inr (1, [.int h0_kind, .int h0_x, .int h0_y, .int h0_z, .int h0_place, .int h0_top, .int h0_low, .int h0_high, .ref h0w])), (h0w, .inl (g.2.1, 16, .inl u))]) A) A) ([.ref h0] : List Value).toArray s 0 0 A) (F0 m 11 ls []) := fun l1' l2' h0_al' h => ih l1' l2' h0_al' (Nat.lt_of_lt_of_le h.2 (Nat.le_of_lt_succ hn)) h.1
          refine lv_iload_n hx hb dX1_fillAllowed_11 rfl (lv_at hl 2 rfl) ?_
          refine lv_iload_n hx hb dX1_fillAllowed_12 rfl (lv_at hl 1 rfl) ?_
          refine lv_icmp_ge (tgt := 47) hx hb dX1_fillAllowed_13 (by decide) (fun c3 => ?_) (fun c3 => ?_)
          · replace hw := hw.1 c3
            exact W.vret hx hb hr (fun t ht hW => ⟨⟨(h0_al), rfl, hw, by rw [ht]; exact hP, va_K.moved hW.alike hK, hD⟩, hS.F ht⟩) hS.2.2 dX1_fillAllowed_47
          · replace hw := hw.2 c3
            refine lv_aload_n hx hb dX1_fillAllowed_16 rfl (lv_at hl 0 rfl) ?_
            refine lv_iload_n hx hb dX1_fillAllowed_17 rfl (lv_at hl 2 rfl) ?_
            refine lv_iconst (v := 3) hx hb dX1_fillAllowed_18 (by decide) ?_
            refine lv_iand hx hb dX1_fillAllowed_19 ?_
            refine lv_iload_n hx hb dX1_fillAllowed_20 rfl (lv_at hl 2 rfl) ?_
            refine lv_iconst (v := 2) hx hb dX1_fillAllowed_21 (by decide) ?_
            refine lv_ishr hx hb dX1_fillAllowed_22 ?_
            refine lv_iconst (v := 3) hx hb dX1_fillAllowed_23 (by decide) ?_
            refine lv_iand hx hb dX1_fillAllowed_24 ?_
            refine lv_iload_n hx hb dX1_fillAllowed_25 rfl (lv_at hl 2 rfl) ?_
            refine lv_iconst (v := 4) hx hb dX1_fillAllowed_26 (by decide) ?_
            refine lv_ishr hx hb dX1_fillAllowed_27 ?_
            refine lv_iconst (v := 3) hx hb dX1_fillAllowed_28 (by decide) ?_
            refine lv_iand hx hb dX1_fillAllowed_29 ?_
            refine kp_V (As := [.int (l2 &&& 3), .int ((l2 >>> (2 &&& 31)) &&& 3), .int ((l2 >>> (4 &&& 31)) &&& 3)]) (rest := []) (wc := [(h0, .inr (1, [.int h0_kind, .int h0_x, .int h0_y, .int h0_z, .int h0_place, .int h0_top, .int h0_low, .int h0_high, .ref h0w]))]) (cq := (RX1, TX1, 9)) ⟨hx, hb, hml, hown, hts⟩ (m_X1_isMetBy l g hok (h0 := h0) (h0w := h0w) (h0_kind := h0_kind) (h0_x := h0_x) (h0_y := h0_y) (h0_z := h0_z) (h0_place := h0_place) (h0_top := h0_top) (h0_low := h0_low) (h0_high := h0_high) (x1 := (l2 &&& 3)) (x2 := ((l2 >>> (2 &&& 31)) &&& 3)) (x3 := ((l2 >>> (4 &&& 31)) &&& 3)) hw) (cwV 3 hts gX1_fillAllowed_X1_isMetBy rfl rfl rfl hd_X1_isMetBy ⟨Nat.le_of_ble_eq_true rfl, Nat.le_of_ble_eq_true rfl⟩) hok hK (hP.sub (ws' := [(h0, .inr (1, [.int h0_kind, .int h0_x, .int h0_y, .int h0_z, .int h0_place, .int h0_top, .int h0_low, .int h0_high, .ref h0w]))]) [0] rfl) hro hS hA 0 1 rfl rfl rfl hl.1 rfl (Nat.le_of_ble_eq_true rfl) dX1_fillAllowed_30 ⟨Nat.le_of_ble_eq_true rfl, Nat.le_of_ble_eq_true rfl⟩ (fun r4 hw => ?_)
            refine lv_if_eq (tgt := 41) hx hb dX1_fillAllowed_33 (by decide) (fun c5 => ?_) (fun c5 => ?_)
            · replace hw := hw.1 c5
              refine lv_iinc (v := (l2 + 1)) (lv' := [(2, .int (l2 + 1)), (0, .ref h0), (1, .int l1)]) hx hb dX1_fillAllowed_41 hl (k := 2) rfl rfl (by decide) rfl (fun ls hl => ?_)
              refine lv_goto (tgt := 11) hx hb dX1_fillAllowed_44 (by decide) ?_
              exact hK11 l1 (l2 + 1) h0_al hw  _ _ hP hD hS ls (lv_sub hl [1, 2, 0] rfl)
            · replace hw := hw.2 c5
              refine lv_aload_n hx hb dX1_fillAllowed_36 rfl (lv_at hl 0 rfl) ?_
              refine lv_iload_n hx hb dX1_fillAllowed_37 rfl (lv_at hl 2 rfl) ?_
              refine kn_Vv (As := [.int l2]) (rest := []) (wc := [(h0, .inr (1, [.int h0_kind, .int h0_x, .int h0_y, .int h0_z, .int h0_place, .int h0_top, .int h0_low, .int h0_high, .ref h0w])), (h0w, .inl (g.2.1, 16, .inl h0_al))]) (wr := []) (cq := (RX1, TX1, 9)) ⟨hx, hb, hml, hown, hts⟩ (m_X1_allowColumns l g (tb := tb) (pv := pv) (h0 := h0) (h0w := h0w) (h0_kind := h0_kind) (h0_x := h0_x) (h0_y := h0_y) (h0_z := h0_z) (h0_place := h0_place) (h0_top := h0_top) (h0_low := h0_low) (h0_high := h0_high) (h0_al := h0_al) (x1 := l2) hw) (cwV 1 hts gX1_fillAllowed_X1_allowColumns rfl rfl rfl hd_X1_allowColumns ⟨Nat.le_of_ble_eq_true rfl, Nat.le_of_ble_eq_true rfl⟩) hok hK hP hD hS hA (ro_pass hok hro hS (va_free (wc := [(h0, .inr (1, [.int h0_kind, .int h0_x, .int h0_y, .int h0_z, .int h0_place, .int h0_top, .int h0_low, .int h0_high, .ref h0w])), (h0w, .inl (g.2.1, 16, .inl h0_al))]) hD hS hA [0, 1] rfl)) [0, 1] [] rfl rfl (by decide) (by decide) (by decide) (va_recv hK hP (ci := 1) (q0 := 0) rfl rfl) rfl hl.1 rfl (Nat.le_of_ble_eq_true rfl) dX1_fillAllowed_38 ⟨Nat.le_of_ble_eq_true rfl, Nat.le_of_ble_eq_true rfl⟩ (fun w6 H locs hw hP hD hS => ?_)
              have hP : PP g [(h0, .inr (1, [.int h0_kind, .int h0_x, .int h0_y, .int h0_z, .int h0_place, .int h0_top, .int h0_low, .int h0_high, .ref h0w])), (h0w, .inl (g.2.1, 16, .inl w6))] H := hP
              have hD : va_D A [(h0, .inr (1, [.int h0_kind, .int h0_x, .int h0_y, .int h0_z, .int h0_place, .int h0_top, .int h0_low, .int h0_high, .ref h0w])), (h0w, .inl (g.2.1, 16, .inl w6))] := hD
              refine lv_iinc (v := (l2 + 1)) (lv' := [(2, .int (l2 + 1)), (0, .ref h0), (1, .int l1)]) hx hb dX1_fillAllowed_41 hl (k := 2) rfl rfl (by decide) rfl (fun ls hl => ?_)
              refine lv_goto (tgt := 11) hx hb dX1_fillAllowed_44 (by decide) ?_
              exact hK11 l1 (l2 + 1) w6 hw  _ _ hP hD hS ls (lv_sub hl [1, 2, 0] rfl)
    exact key _ l1 l2 h0_al (Nat.lt_succ_self _) hI
  have hl := lv_entry ([.ref h0]) (n := 3) (Nat.le_of_ble_eq_true rfl)
  rw [lg_entry_eq]
  generalize (lg_sl ([.ref h0]) ++ List.replicate (3 - (lg_sl ([.ref h0])).length) Slot.unset).toArray = ls at hl ⊢
  have hl : lv_has ls 3 [(0, .ref h0)] := hl
  unfold wp_X1_fillAllowed at hw
  refine lv_iconst (v := 1) hx hb dX1_fillAllowed_0 (by decide) ?_
  refine lv_iconst (v := 2) hx hb dX1_fillAllowed_1 (by decide) ?_
  refine lv_aload_n hx hb dX1_fillAllowed_2 rfl (lv_at hl 0 rfl) ?_
  refine kp_V (As := []) (rest := [.int 2, .int 1]) (wc := [(h0, .inr (1, [.int h0_kind, .int h0_x, .int h0_y, .int h0_z, .int h0_place, .int h0_top, .int h0_low, .int h0_high, .ref h0w]))]) (cq := (RX1, TX1, 9)) ⟨hx, hb, hml, hown, hts⟩ (m_X1_items l g hok (h0 := h0) (h0w := h0w) (h0_kind := h0_kind) (h0_x := h0_x) (h0_y := h0_y) (h0_z := h0_z) (h0_place := h0_place) (h0_top := h0_top) (h0_low := h0_low) (h0_high := h0_high) hw) (cwV 0 hts gX1_fillAllowed_X1_items rfl rfl rfl hd_X1_items ⟨Nat.le_of_ble_eq_true rfl, Nat.le_of_ble_eq_true rfl⟩) hok hK (hP.sub (ws' := [(h0, .inr (1, [.int h0_kind, .int h0_x, .int h0_y, .int h0_z, .int h0_place, .int h0_top, .int h0_low, .int h0_high, .ref h0w]))]) [0] rfl) hro hS hA 0 1 rfl rfl rfl hl.1 rfl (Nat.le_of_ble_eq_true rfl) dX1_fillAllowed_3 ⟨Nat.le_of_ble_eq_true rfl, Nat.le_of_ble_eq_true rfl⟩ (fun r1 hw => ?_)
  refine lv_imul hx hb dX1_fillAllowed_6 ?_
  refine lv_ishl hx hb dX1_fillAllowed_7 ?_
  refine lv_topi (fun w2 ew2 => ?_)
  have hw := hw w2 ew2
  refine lv_istore_n (lv' := [(1, .int w2), (0, .ref h0)]) hx hb dX1_fillAllowed_8 rfl hl (by decide) rfl (fun ls hl => ?_)
  refine lv_iconst (v := 0) hx hb dX1_fillAllowed_9 (by decide) ?_
  refine lv_istore_n (lv' := [(2, .int 0), (1, .int w2), (0, .ref h0)]) hx hb dX1_fillAllowed_10 rfl hl (by decide) rfl (fun ls hl => ?_)
  exact B11  w2 0 h0_al hw  _ _ hP hD hS ls (lv_sub hl [2, 1, 0] rfl)

def wp_X1_findLowItems_2 (Q : Int32 → Int32 → Prop) (h0_kind : Int32) (h0_x : Int32) (h0_y : Int32) (h0_z : Int32) (h0_top : Int32)  (l1 : Int32) (h0_low : Int32) (h0_high : Int32) : Prop :=
  ∃ (I2 : Int32 → Int32 → Int32 → Prop) (mu2 : Int32 → Int32 → Int32 → Nat), I2 l1 h0_low h0_high ∧ ∀ (l1 : Int32) (h0_low : Int32) (h0_high : Int32), I2 l1 h0_low h0_high → (wp_X1_items h0_kind (fun r1 => ((r1 ≤ l1 → Q h0_low h0_high) ∧ (¬ (r1 ≤ l1) → (wp_X1_itemAt l1 h0_x h0_y h0_z (fun r3 => ((h0_top ≤ (r3 / 4) → (I2 (l1 + 1) h0_low h0_high ∧ mu2 (l1 + 1) h0_low h0_high < mu2 l1 h0_low h0_high)) ∧ (¬ (h0_top ≤ (r3 / 4)) → ((h0_low = (-6) → (I2 (l1 + 1) r3 h0_high ∧ mu2 (l1 + 1) r3 h0_high < mu2 l1 h0_low h0_high)) ∧ (¬ (h0_low = (-6)) → (I2 (l1 + 1) (if r3 < h0_low then r3 else h0_low) (if h0_low < r3 then r3 else h0_low) ∧ mu2 (l1 + 1) (if r3 < h0_low then r3 else h0_low) (if h0_low < r3 then r3 else h0_low) < mu2 l1 h0_low h0_high)))))))))))
def wp_X1_findLowItems (h0_kind : Int32) (h0_x : Int32) (h0_y : Int32) (h0_z : Int32) (h0_top : Int32) (h0_low : Int32) (h0_high : Int32) (Q : Int32 → Int32 → Prop) : Prop :=
  wp_X1_findLowItems_2 Q h0_kind h0_x h0_y h0_z h0_top  0 h0_low h0_high
theorem hd_X1_findLowItems : yX1_findLowItems.cls = RX1 ∧ yX1_findLowItems.cls ≠ "java/lang/invoke/MethodHandle" ∧ yX1_findLowItems.cls ≠ "java/lang/invoke/VarHandle" ∧ (parseMethodDescriptor yX1_findLowItems.desc).map (fun d => d.parameters.length) = some 0 := by decide +kernel
set_option maxHeartbeats 4000000 in
set_option maxRecDepth 100000 in
theorem m_X1_findLowItems (l : Launch) (g : GG) {ro : Ro} (hok : RoOK ro) {h0 h0w : Nat} {h0_kind : Int32} {h0_x : Int32} {h0_y : Int32} {h0_z : Int32} {h0_place : Int32} {h0_top : Int32} {h0_low : Int32} {h0_high : Int32} {h0_al : Nat → Int32} {sz : Nat} {Q : Int32 → Int32 → Prop} (hw : wp_X1_findLowItems h0_kind h0_x h0_y h0_z h0_top h0_low h0_high Q) : Met l yX1_findLowItems wsX1_findLowItems ({ frames := 1, cells := 0, slots := 0, locals := 21 } : Room) (PcM g ro [(h0, .inr (1, [.int h0_kind, .int h0_x, .int h0_y, .int h0_z, .int h0_place, .int h0_top, .int h0_low, .int h0_high, .ref h0w])), (h0w, .inl (g.2.1, 16, .inl h0_al))] sz [.ref h0]) (va_Qv (fun (u : Int32 × Int32) => Q u.1 u.2) (BM g (fun u : Int32 × Int32 => [(h0, .inr (1, [.int h0_kind, .int h0_x, .int h0_y, .int h0_z, .int h0_place, .int h0_top, .int u.1, .int u.2, .ref h0w])), (h0w, .inl (g.2.1, 16, .inl h0_al))]) (va_A [(h0, .inr (1, [.int h0_kind, .int h0_x, .int h0_y, .int h0_z, .int h0_place, .int h0_top, .int h0_low, .int h0_high, .ref h0w])), (h0w, .inl (g.2.1, 16, .inl h0_al))] sz)) (va_A [(h0, .inr (1, [.int h0_kind, .int h0_x, .int h0_y, .int h0_z, .int h0_place, .int h0_top, .int h0_low, .int h0_high, .ref h0w])), (h0w, .inl (g.2.1, 16, .inl h0_al))] sz)) 0 0 (va_A [(h0, .inr (1, [.int h0_kind, .int h0_x, .int h0_y, .int h0_z, .int h0_place, .int h0_top, .int h0_low, .int h0_high, .ref h0w])), (h0w, .inl (g.2.1, 16, .inl h0_al))] sz) := by
  refine Met.ofW (cc := cX1_findLowItems) (maxL := 3) (ret := none) (by decide) rfl ?_
  intro p e s m args below meth c s₁ B hml hv
  obtain ⟨rfl, hsz, hP, hK, hD0, hro⟩ := hv
  have hx := B.exec
  have hb := B.bytes
  have hr := B.returns
  have hts := atoms_spec (ws := wsX1_findLowItems) B.pre
  have hown : s.vm.findClass RX1 = some m.cls := findClass_of_methodNamed B.named
  have hlocks := B.notSynchronized
  subst hsz
  have hD := hD0.self (sz := s.heap.size)
  generalize hAe : va_A [(h0, .inr (1, [.int h0_kind, .int h0_x, .int h0_y, .int h0_z, .int h0_place, .int h0_top, .int h0_low, .int h0_high, .ref h0w])), (h0w, .inl (g.2.1, 16, .inl h0_al))] s.heap.size = A at hD hro ⊢
  have hA : ∀ q : Nat, s.heap.size ≤ q → A q := fun q h => by rw [← hAe]; exact Or.inr h
  have hS : va_S A s.heap s.heap [] := va_S.rf
  have hP : PP g [(h0, .inr (1, [.int h0_kind, .int h0_x, .int h0_y, .int h0_z, .int h0_place, .int h0_top, .int h0_low, .int h0_high, .ref h0w])), (h0w, .inl (g.2.1, 16, .inl h0_al))] s.heap := hP
  have lk1 := hts (.fieldLink RX1 43 "GridRiddles$Clue" "top" "I") (by decide +kernel)
  have hinX1 : ∀ w ∈ u_ws RX1 TX1 9, w ∈ wsX1_findLowItems := by decide +kernel
  have lk3 := hts (.fieldLink RX1 11 "GridRiddles$Clue" "low" "I") (by decide +kernel)
  have lk4 := hts (.methodLink RX1 37 Lib.Math.max.name) (by decide +kernel)
  have lk5 := hts (.static Lib.Math.max.name) (by decide +kernel)
  have lk6 := hts (.initialized "java/lang/Math") (by decide +kernel)
  have lk7 := hts (.code Lib.Math.max.name Lib.Math.max.code 2 (some .int)) (by decide +kernel)
  have lk8 := hts (.fieldLink RX1 15 "GridRiddles$Clue" "high" "I") (by decide +kernel)
  have lk9 := hts (.methodLink RX1 64 Lib.Math.min.name) (by decide +kernel)
  have lk10 := hts (.static Lib.Math.min.name) (by decide +kernel)
  have lk11 := hts (.code Lib.Math.min.name Lib.Math.min.code 2 (some .int)) (by decide +kernel)
  have B2 : ∀ (l1 : Int32) (h0_low : Int32) (h0_high : Int32), wp_X1_findLowItems_2 Q h0_kind h0_x h0_y h0_z h0_top  l1 h0_low h0_high → ∀ (H : Heap) (locs : List Loc), PP g [(h0, .inr (1, [.int h0_kind, .int h0_x, .int h0_y, .int h0_z, .int h0_place, .int h0_top, .int h0_low, .int h0_high, .ref h0w])), (h0w, .inl (g.2.1, 16, .inl h0_al))] H → va_D A [(h0, .inr (1, [.int h0_kind, .int h0_x, .int h0_y, .int h0_z, .int h0_place, .int h0_top, .int h0_low, .int h0_high, .ref h0w])), (h0w, .inl (g.2.1, 16, .inl h0_al))] → va_S A s.heap H locs → ∀ (ls : Array Slot), lv_has ls 3 [(0, .ref h0), (1, .int l1)] → W p l e (headSpec wsX1_findLowItems ({ frames := 1, cells := 0, slots := 0, locals := 21 } : Room)).room s m ([.ref h0] : List Value).toArray below meth c H locs 0 0 (MQ below (va_Qv (fun (u : Int32 × Int32) => Q u.1 u.2) (BM g (fun u : Int32 × Int32 => [(h0, .inr (1, [.int h0_kind, .int h0_x, .int h0_y, .int h0_z, .int h0_place, .int h0_top, .int u.1, .int u.2, .ref h0w])), (h0w, .inl (g.2.1, 16, .inl h0_al))]) A) A) ([.ref h0] : List Value).toArray s 0 0 A) (F0 m 2 ls []) := by
    intro  l1 h0_low h0_high hw
    obtain ⟨I2, mu2, hI, hstep⟩ := hw
    have key : ∀ (n : Nat) (l1 : Int32) (h0_low : Int32) (h0_high : Int32), mu2 l1 h0_low h0_high < n → I2 l1 h0_low h0_high → ∀ (H : Heap) (locs : List Loc), PP g [(h0, .inr (1, [.int h0_kind, .int h0_x, .int h0_y, .int h0_z, .int h0_place, .int h0_top, .int h0_low, .int h0_high, .ref h0w])), (h0w, .inl (g.2.1, 16, .inl h0_al))] H → va_D A [(h0, .inr (1, [.int h0_kind, .int h0_x, .int h0_y, .int h0_z, .int h0_place, .int h0_top, .int h0_low, .int h0_high, .ref h0w])), (h0w, .inl (g.2.1, 16, .inl h0_al))] → va_S A s.heap H locs → ∀ (ls : Array Slot), lv_has ls 3 [(0, .ref h0), (1, .int l1)] → W p l e (headSpec wsX1_findLowItems ({ frames := 1, cells := 0, slots := 0, locals := 21 } : Room)).room s m ([.ref h0] : List Value).toArray below meth c H locs 0 0 (MQ below (va_Qv (fun (u : Int32 × Int32) => Q u.1 u.2) (BM g (fun u : Int32 × Int32 => [(h0, .inr (1, [.int h0_kind, .int h0_x, .int h0_y, .int h0_z, .int h0_place, .int h0_top, .int u.1, .int u.2, .ref h0w])), (h0w, .inl (g.2.1, 16, .inl h0_al))]) A) A) ([.ref h0] : List Value).toArray s 0 0 A) (F0 m 2 ls []) := by
      intro n
      induction n with
      | zero => intro l1 h0_low h0_high h; exact absurd h (Nat.not_lt_zero _)
      | succ n ih =>
          intro l1 h0_low h0_high hn hI  H locs hP hD hS ls hl
          have hw := hstep l1 h0_low h0_high hI
          have hK2 : ∀ (l1' : Int32) (h0_low' : Int32) (h0_high' : Int32), (I2 l1' h0_low' h0_high' ∧ mu2 l1' h0_low' h0_high' < mu2 l1 h0_low h0_high) → ∀ (H : Heap) (locs : List Loc), PP g [(h0, .inr (1, [.int h0_kind, .int h0_x, .int h0_y, .int h0_z, .int h0_place, .int h0_top, .int h0_low', .int h0_high', .ref h0w])), (h0w, .inl (g.2.1, 16, .inl h0_al))] H → va_D A [(h0, .inr (1, [.int h0_kind, .int h0_x, .int h0_y, .int h0_z, .int h0_place, .int h0_top, .int h0_low', .int h0_high', .ref h0w])), (h0w, .inl (g.2.1, 16, .inl h0_al))] → va_S A s.heap H locs → ∀ (ls : Array Slot), lv_has ls 3 [(0, .ref h0), (1, .int l1')] → W p l e (headSpec wsX1_findLowItems ({ frames := 1, cells := 0, slots := 0, locals := 21 } : Room)).room s m ([.ref h0] : List Value).toArray below meth c H locs 0 0 (MQ below (va_Qv (fun (u : Int32 × Int32) => Q u.1 u.2) (BM g (fun u : Int32 × Int32 => [(h0, .inr (1, [.int h0_kind, .int h0_x, .int h0_y, .int h0_z, .int h0_place, .int h0_top, .int u.1, .int u.2, .ref h0w])), (h0w, .inl (g.2.1, 16, .inl h0_al))]) A) A) ([.ref h0] : List Value).toArray s 0 0 A) (F0 m 2 ls []) := fun l1' h0_low' h0_high' h => ih l1' h0_low' h0_high' (Nat.lt_of_lt_of_le h.2 (Nat.le_of_lt_succ hn)) h.1
          refine lv_iload_n hx hb dX1_findLowItems_2 rfl (lv_at hl 1 rfl) ?_
          refine lv_aload_n hx hb dX1_findLowItems_3 rfl (lv_at hl 0 rfl) ?_
          refine kp_V (As := []) (rest := [.int l1]) (wc := [(h0, .inr (1, [.int h0_kind, .int h0_x, .int h0_y, .int h0_z, .int h0_place, .int h0_top, .int h0_low, .int h0_high, .ref h0w]))]) (cq := (RX1, TX1, 9)) ⟨hx, hb, hml, hown, hts⟩ (m_X1_items l g hok (h0 := h0) (h0w := h0w) (h0_kind := h0_kind) (h0_x := h0_x) (h0_y := h0_y) (h0_z := h0_z) (h0_place := h0_place) (h0_top := h0_top) (h0_low := h0_low) (h0_high := h0_high) hw) (cwV 0 hts gX1_findLowItems_X1_items rfl rfl rfl hd_X1_items ⟨Nat.le_of_ble_eq_true rfl, Nat.le_of_ble_eq_true rfl⟩) hok hK (hP.sub (ws' := [(h0, .inr (1, [.int h0_kind, .int h0_x, .int h0_y, .int h0_z, .int h0_place, .int h0_top, .int h0_low, .int h0_high, .ref h0w]))]) [0] rfl) hro hS hA 0 1 rfl rfl rfl hl.1 rfl (Nat.le_of_ble_eq_true rfl) dX1_findLowItems_4 ⟨Nat.le_of_ble_eq_true rfl, Nat.le_of_ble_eq_true rfl⟩ (fun r1 hw => ?_)
          refine lv_icmp_ge (tgt := 73) hx hb dX1_findLowItems_7 (by decide) (fun c2 => ?_) (fun c2 => ?_)
          · replace hw := hw.1 c2
            exact W.vret hx hb hr (fun t ht hW => ⟨⟨(h0_low, h0_high), rfl, hw, by rw [ht]; exact hP, va_K.moved hW.alike hK, hD⟩, hS.F ht⟩) hS.2.2 dX1_findLowItems_73
          · replace hw := hw.2 c2
            refine lv_aload_n hx hb dX1_findLowItems_10 rfl (lv_at hl 0 rfl) ?_
            refine lv_iload_n hx hb dX1_findLowItems_11 rfl (lv_at hl 1 rfl) ?_
            refine kp_V (As := [.int l1]) (rest := []) (wc := [(h0, .inr (1, [.int h0_kind, .int h0_x, .int h0_y, .int h0_z, .int h0_place, .int h0_top, .int h0_low, .int h0_high, .ref h0w]))]) (cq := (RX1, TX1, 9)) ⟨hx, hb, hml, hown, hts⟩ (m_X1_itemAt l g hok (h0 := h0) (h0w := h0w) (h0_kind := h0_kind) (h0_x := h0_x) (h0_y := h0_y) (h0_z := h0_z) (h0_place := h0_place) (h0_top := h0_top) (h0_low := h0_low) (h0_high := h0_high) (x1 := l1) hw) (cwV 1 hts gX1_findLowItems_X1_itemAt rfl rfl rfl hd_X1_itemAt ⟨Nat.le_of_ble_eq_true rfl, Nat.le_of_ble_eq_true rfl⟩) hok hK (hP.sub (ws' := [(h0, .inr (1, [.int h0_kind, .int h0_x, .int h0_y, .int h0_z, .int h0_place, .int h0_top, .int h0_low, .int h0_high, .ref h0w]))]) [0] rfl) hro hS hA 0 1 rfl rfl rfl hl.1 rfl (Nat.le_of_ble_eq_true rfl) dX1_findLowItems_12 ⟨Nat.le_of_ble_eq_true rfl, Nat.le_of_ble_eq_true rfl⟩ (fun r3 hw => ?_)
            refine lv_istore_n (lv' := [(2, .int r3), (0, .ref h0), (1, .int l1)]) hx hb dX1_findLowItems_15 rfl hl (by decide) rfl (fun ls hl => ?_)
            refine lv_iload_n hx hb dX1_findLowItems_16 rfl (lv_at hl 0 rfl) ?_
            refine lv_iconst (v := 4) hx hb dX1_findLowItems_17 (by decide) ?_
            refine lv_idiv hx hb dX1_findLowItems_18 (by decide) ?_
            refine lv_aload_n hx hb dX1_findLowItems_19 rfl (lv_at hl 1 rfl) ?_
            refine va_get (D := g.1) (ci := 1) (v := .int h0_top) (C := RX1) (T := TX1) (N := 9) hx hb hts hinX1 hown hK hP 0 rfl rfl 5 (by decide) lk1 (fun _ h9 => h9) rfl dX1_findLowItems_20 ?_
            refine lv_icmp_ge (tgt := 67) hx hb dX1_findLowItems_23 (by decide) (fun c4 => ?_) (fun c4 => ?_)
            · replace hw := hw.1 c4
              refine lv_iinc (v := (l1 + 1)) (lv' := [(1, .int (l1 + 1)), (2, .int r3), (0, .ref h0)]) hx hb dX1_findLowItems_67 hl (k := 2) rfl rfl (by decide) rfl (fun ls hl => ?_)
              refine lv_goto (tgt := 2) hx hb dX1_findLowItems_70 (by decide) ?_
              exact hK2 (l1 + 1) h0_low h0_high hw  _ _ hP hD hS ls (lv_sub hl [2, 0] rfl)
            · replace hw := hw.2 c4
              refine lv_aload_n hx hb dX1_findLowItems_26 rfl (lv_at hl 1 rfl) ?_
              refine va_get (D := g.1) (ci := 1) (v := .int h0_low) (C := RX1) (T := TX1) (N := 9) hx hb hts hinX1 hown hK hP 0 rfl rfl 6 (by decide) lk3 (fun _ h9 => h9) rfl dX1_findLowItems_27 ?_
              refine lv_bipush (v := (-6)) hx hb dX1_findLowItems_30 (by decide) ?_
              refine lv_icmp_ne (tgt := 43) hx hb dX1_findLowItems_32 (by decide) (fun c5 => ?_) (fun c5 => ?_)
              · replace hw := hw.2 c5
                refine lv_aload_n hx hb dX1_findLowItems_43 rfl (lv_at hl 1 rfl) ?_
                refine lv_aload_n hx hb dX1_findLowItems_44 rfl (lv_at hl 1 rfl) ?_
                refine va_get (D := g.1) (ci := 1) (v := .int h0_low) (C := RX1) (T := TX1) (N := 9) hx hb hts hinX1 hown hK hP 0 rfl rfl 6 (by decide) lk3 (fun _ h9 => h9) rfl dX1_findLowItems_45 ?_
                refine lv_iload_n hx hb dX1_findLowItems_48 rfl (lv_at hl 0 rfl) ?_
                refine va_mmax hx hb (hml.trans hl.1.symm) hown lk4 lk5 lk6 lk7 (Nat.le_of_ble_eq_true rfl) (Nat.le_of_ble_eq_true rfl) (Nat.le_of_ble_eq_true rfl) (Nat.le_of_ble_eq_true rfl) dX1_findLowItems_49 ?_
                refine va_put (D := g.1) (ci := 1) (v := .int (if h0_low < r3 then r3 else h0_low)) (ty := .int) (C := RX1) (T := TX1) (N := 9) hx hb hts hinX1 tyX1 tyX1_ok nmX1 hown hK hP hD hS 0 rfl rfl 7 (by decide) lk8 (fun _ h9 => h9) rfl (by decide +kernel) rfl rfl (Nat.le_of_ble_eq_true rfl) dX1_findLowItems_52 (fun H locs hP hD hS => ?_)
                have hP : PP g [(h0, .inr (1, [.int h0_kind, .int h0_x, .int h0_y, .int h0_z, .int h0_place, .int h0_top, .int h0_low, .int (if h0_low < r3 then r3 else h0_low), .ref h0w])), (h0w, .inl (g.2.1, 16, .inl h0_al))] H := hP
                have hD : va_D A [(h0, .inr (1, [.int h0_kind, .int h0_x, .int h0_y, .int h0_z, .int h0_place, .int h0_top, .int h0_low, .int (if h0_low < r3 then r3 else h0_low), .ref h0w])), (h0w, .inl (g.2.1, 16, .inl h0_al))] := hD
                refine lv_aload_n hx hb dX1_findLowItems_55 rfl (lv_at hl 1 rfl) ?_
                refine lv_aload_n hx hb dX1_findLowItems_56 rfl (lv_at hl 1 rfl) ?_
                refine va_get (D := g.1) (ci := 1) (v := .int h0_low) (C := RX1) (T := TX1) (N := 9) hx hb hts hinX1 hown hK hP 0 rfl rfl 6 (by decide) lk3 (fun _ h9 => h9) rfl dX1_findLowItems_57 ?_
                refine lv_iload_n hx hb dX1_findLowItems_60 rfl (lv_at hl 0 rfl) ?_
                refine va_mmin hx hb (hml.trans hl.1.symm) hown lk9 lk10 lk6 lk11 (Nat.le_of_ble_eq_true rfl) (Nat.le_of_ble_eq_true rfl) (Nat.le_of_ble_eq_true rfl) (Nat.le_of_ble_eq_true rfl) dX1_findLowItems_61 ?_
                refine va_put (D := g.1) (ci := 1) (v := .int (if r3 < h0_low then r3 else h0_low)) (ty := .int) (C := RX1) (T := TX1) (N := 9) hx hb hts hinX1 tyX1 tyX1_ok nmX1 hown hK hP hD hS 0 rfl rfl 6 (by decide) lk3 (fun _ h9 => h9) rfl (by decide +kernel) rfl rfl (Nat.le_of_ble_eq_true rfl) dX1_findLowItems_64 (fun H locs hP hD hS => ?_)
                have hP : PP g [(h0, .inr (1, [.int h0_kind, .int h0_x, .int h0_y, .int h0_z, .int h0_place, .int h0_top, .int (if r3 < h0_low then r3 else h0_low), .int (if h0_low < r3 then r3 else h0_low), .ref h0w])), (h0w, .inl (g.2.1, 16, .inl h0_al))] H := hP
                have hD : va_D A [(h0, .inr (1, [.int h0_kind, .int h0_x, .int h0_y, .int h0_z, .int h0_place, .int h0_top, .int (if r3 < h0_low then r3 else h0_low), .int (if h0_low < r3 then r3 else h0_low), .ref h0w])), (h0w, .inl (g.2.1, 16, .inl h0_al))] := hD
                refine lv_iinc (v := (l1 + 1)) (lv' := [(1, .int (l1 + 1)), (2, .int r3), (0, .ref h0)]) hx hb dX1_findLowItems_67 hl (k := 2) rfl rfl (by decide) rfl (fun ls hl => ?_)
                refine lv_goto (tgt := 2) hx hb dX1_findLowItems_70 (by decide) ?_
                exact hK2 (l1 + 1) (if r3 < h0_low then r3 else h0_low) (if h0_low < r3 then r3 else h0_low) hw  _ _ hP hD hS ls (lv_sub hl [2, 0] rfl)
              · replace hw := hw.1 c5
                refine lv_aload_n hx hb dX1_findLowItems_35 rfl (lv_at hl 1 rfl) ?_
                refine lv_iload_n hx hb dX1_findLowItems_36 rfl (lv_at hl 0 rfl) ?_
                refine va_put (D := g.1) (ci := 1) (v := .int r3) (ty := .int) (C := RX1) (T := TX1) (N := 9) hx hb hts hinX1 tyX1 tyX1_ok nmX1 hown hK hP hD hS 0 rfl rfl 6 (by decide) lk3 (fun _ h9 => h9) rfl (by decide +kernel) rfl rfl (Nat.le_of_ble_eq_true rfl) dX1_findLowItems_37 (fun H locs hP hD hS => ?_)
                have hP : PP g [(h0, .inr (1, [.int h0_kind, .int h0_x, .int h0_y, .int h0_z, .int h0_place, .int h0_top, .int r3, .int h0_high, .ref h0w])), (h0w, .inl (g.2.1, 16, .inl h0_al))] H := hP
                have hD : va_D A [(h0, .inr (1, [.int h0_kind, .int h0_x, .int h0_y, .int h0_z, .int h0_place, .int h0_top, .int r3, .int h0_high, .ref h0w])), (h0w, .inl (g.2.1, 16, .inl h0_al))] := hD
                refine lv_goto (tgt := 67) hx hb dX1_findLowItems_40 (by decide) ?_
                refine lv_iinc (v := (l1 + 1)) (lv' := [(1, .int (l1 + 1)), (2, .int r3), (0, .ref h0)]) hx hb dX1_findLowItems_67 hl (k := 2) rfl rfl (by decide) rfl (fun ls hl => ?_)
                refine lv_goto (tgt := 2) hx hb dX1_findLowItems_70 (by decide) ?_
                exact hK2 (l1 + 1) r3 h0_high hw  _ _ hP hD hS ls (lv_sub hl [2, 0] rfl)
    exact key _ l1 h0_low h0_high (Nat.lt_succ_self _) hI
  have hl := lv_entry ([.ref h0]) (n := 3) (Nat.le_of_ble_eq_true rfl)
  rw [lg_entry_eq]
  generalize (lg_sl ([.ref h0]) ++ List.replicate (3 - (lg_sl ([.ref h0])).length) Slot.unset).toArray = ls at hl ⊢
  have hl : lv_has ls 3 [(0, .ref h0)] := hl
  unfold wp_X1_findLowItems at hw
  refine lv_iconst (v := 0) hx hb dX1_findLowItems_0 (by decide) ?_
  refine lv_istore_n (lv' := [(1, .int 0), (0, .ref h0)]) hx hb dX1_findLowItems_1 rfl hl (by decide) rfl (fun ls hl => ?_)
  exact B2  0 h0_low h0_high hw  _ _ hP hD hS ls (lv_sub hl [1, 0] rfl)

def wp_X1_init (x1 : Int32) (x2 : Int32) (x3 : Int32) (x4 : Int32) (x5 : Int32) (Q : Nat → Int32 → Int32 → Int32 → Int32 → Int32 → Int32 → Int32 → Int32 → (Nat → Int32) → Prop) : Prop :=
  ∀ q1 : Nat, Q q1 x1 x2 x3 x4 x5 ((if x2 < (if x3 < x4 then x4 else x3) then (if x3 < x4 then x4 else x3) else x2) / 4) (-6) (-6) (fun _ => 0)
theorem hd_X1_init : yX1_init.cls ≠ "java/lang/invoke/MethodHandle" ∧ yX1_init.cls ≠ "java/lang/invoke/VarHandle" ∧ (parseMethodDescriptor yX1_init.desc).map (fun d => d.parameters.length) = some 5 := by decide +kernel
set_option maxHeartbeats 4000000 in
set_option maxRecDepth 100000 in
theorem m_X1_init (l : Launch) (g : GG) {ro : Ro} (hok : RoOK ro) {h0 : Nat} {x1 : Int32} {x2 : Int32} {x3 : Int32} {x4 : Int32} {x5 : Int32} {sz : Nat} {Q : Nat → Int32 → Int32 → Int32 → Int32 → Int32 → Int32 → Int32 → Int32 → (Nat → Int32) → Prop} (hw : wp_X1_init x1 x2 x3 x4 x5 Q) : Met l yX1_init wsX1_init ({ frames := 1, cells := 1, slots := 16, locals := 21 } : Room) (PcM g ro [(h0, .inr (1, [.int 0, .int 0, .int 0, .int 0, .int 0, .int 0, .int 0, .int 0, .null]))] sz [.ref h0, .int x1, .int x2, .int x3, .int x4, .int x5]) (va_Qv (fun (u : Nat × Int32 × Int32 × Int32 × Int32 × Int32 × Int32 × Int32 × Int32 × (Nat → Int32)) => Q u.1 u.2.1 u.2.2.1 u.2.2.2.1 u.2.2.2.2.1 u.2.2.2.2.2.1 u.2.2.2.2.2.2.1 u.2.2.2.2.2.2.2.1 u.2.2.2.2.2.2.2.2.1 u.2.2.2.2.2.2.2.2.2) (BM g (fun u : Nat × Int32 × Int32 × Int32 × Int32 × Int32 × Int32 × Int32 × Int32 × (Nat → Int32) => [(h0, .inr (1, [.int u.2.1, .int u.2.2.1, .int u.2.2.2.1, .int u.2.2.2.2.1, .int u.2.2.2.2.2.1, .int u.2.2.2.2.2.2.1, .int u.2.2.2.2.2.2.2.1, .int u.2.2.2.2.2.2.2.2.1, .ref u.1])), (u.1, .inl (g.2.1, 16, .inl u.2.2.2.2.2.2.2.2.2))]) (va_A [(h0, .inr (1, [.int 0, .int 0, .int 0, .int 0, .int 0, .int 0, .int 0, .int 0, .null]))] sz)) (va_A [(h0, .inr (1, [.int 0, .int 0, .int 0, .int 0, .int 0, .int 0, .int 0, .int 0, .null]))] sz)) 1 16 (va_A [(h0, .inr (1, [.int 0, .int 0, .int 0, .int 0, .int 0, .int 0, .int 0, .int 0, .null]))] sz) := by
  refine Met.ofW (cc := cX1_init) (maxL := 6) (ret := none) (by decide) rfl ?_
  intro p e s m args below meth c s₁ B hml hv
  obtain ⟨rfl, hsz, hP, hK, hD0, hro⟩ := hv
  have hx := B.exec
  have hb := B.bytes
  have hr := B.returns
  have hts := atoms_spec (ws := wsX1_init) B.pre
  have hown : s.vm.findClass RX1 = some m.cls := findClass_of_methodNamed B.named
  have hlocks := B.notSynchronized
  have hin : meth.name = "<init>" := (name_of_methodNamed B.named B.method).1
  subst hsz
  have hD := hD0.self (sz := s.heap.size)
  generalize hAe : va_A [(h0, .inr (1, [.int 0, .int 0, .int 0, .int 0, .int 0, .int 0, .int 0, .int 0, .null]))] s.heap.size = A at hD hro ⊢
  have hA : ∀ q : Nat, s.heap.size ≤ q → A q := fun q h => by rw [← hAe]; exact Or.inr h
  have hS : va_S A s.heap s.heap [] := va_S.rf
  have hP : PP g [(h0, .inr (1, [.int 0, .int 0, .int 0, .int 0, .int 0, .int 0, .int 0, .int 0, .null]))] s.heap := hP
  have lk1 := hts (.methodLink RX1 5 objectInit) (by decide +kernel)
  have lk2 := hts (.instanceMethod objectInit) (by decide +kernel)
  have lk3 := hts (.code objectInit ⟨#[0xb1]⟩ 1 none) (by decide +kernel)
  have lk4 := hts (.fieldLink RX1 11 "GridRiddles$Clue" "low" "I") (by decide +kernel)
  have hinX1 : ∀ w ∈ u_ws RX1 TX1 9, w ∈ wsX1_init := by decide +kernel
  have lk6 := hts (.fieldLink RX1 15 "GridRiddles$Clue" "high" "I") (by decide +kernel)
  have lk7 := hts (.arrayClass .int) (by decide +kernel)
  have lk8 := hts (.fieldLink RX1 18 "GridRiddles$Clue" "allowed" "[I") (by decide +kernel)
  have lk9 := hts (.fieldLink RX1 22 "GridRiddles$Clue" "kind" "I") (by decide +kernel)
  have lk10 := hts (.fieldLink RX1 25 "GridRiddles$Clue" "x" "I") (by decide +kernel)
  have lk11 := hts (.fieldLink RX1 28 "GridRiddles$Clue" "y" "I") (by decide +kernel)
  have lk12 := hts (.fieldLink RX1 31 "GridRiddles$Clue" "z" "I") (by decide +kernel)
  have lk13 := hts (.fieldLink RX1 34 "GridRiddles$Clue" "place" "I") (by decide +kernel)
  have lk14 := hts (.methodLink RX1 37 Lib.Math.max.name) (by decide +kernel)
  have lk15 := hts (.static Lib.Math.max.name) (by decide +kernel)
  have lk16 := hts (.initialized "java/lang/Math") (by decide +kernel)
  have lk17 := hts (.code Lib.Math.max.name Lib.Math.max.code 2 (some .int)) (by decide +kernel)
  have lk18 := hts (.fieldLink RX1 43 "GridRiddles$Clue" "top" "I") (by decide +kernel)
  have hl := lv_entry ([.ref h0, .int x1, .int x2, .int x3, .int x4, .int x5]) (n := 6) (Nat.le_of_ble_eq_true rfl)
  rw [lg_entry_eq]
  generalize (lg_sl ([.ref h0, .int x1, .int x2, .int x3, .int x4, .int x5]) ++ List.replicate (6 - (lg_sl ([.ref h0, .int x1, .int x2, .int x3, .int x4, .int x5])).length) Slot.unset).toArray = ls at hl ⊢
  have hl : lv_has ls 6 [(0, .ref h0), (1, .int x1), (2, .int x2), (3, .int x3), (4, .int x4), (5, .int x5)] := hl
  unfold wp_X1_init at hw
  refine lv_aload_n hx hb dX1_init_0 rfl (lv_at hl 0 rfl) ?_
  refine W.objInit hx hb hown lk1 lk2 lk3 rfl (by rw [hml]; exact hl.1) rfl dX1_init_1 (Nat.le_of_ble_eq_true rfl) (Nat.le_of_ble_eq_true rfl) ?_
  refine W.eq (g2 := F0 m 4 ls []) rfl ?_
  refine lv_aload_n hx hb dX1_init_4 rfl (lv_at hl 0 rfl) ?_
  refine lv_bipush (v := (-6)) hx hb dX1_init_5 (by decide) ?_
  refine va_put (D := g.1) (ci := 1) (v := .int (-6)) (ty := .int) (C := RX1) (T := TX1) (N := 9) hx hb hts hinX1 tyX1 tyX1_ok nmX1 hown hK hP hD hS 0 rfl rfl 6 (by decide) lk4 (fun _ h9 => h9) rfl (by decide +kernel) rfl rfl (Nat.le_of_ble_eq_true rfl) dX1_init_7 (fun H locs hP hD hS => ?_)
  have hP : PP g [(h0, .inr (1, [.int 0, .int 0, .int 0, .int 0, .int 0, .int 0, .int (-6), .int 0, .null]))] H := hP
  have hD : va_D A [(h0, .inr (1, [.int 0, .int 0, .int 0, .int 0, .int 0, .int 0, .int (-6), .int 0, .null]))] := hD
  refine lv_aload_n hx hb dX1_init_10 rfl (lv_at hl 0 rfl) ?_
  refine lv_bipush (v := (-6)) hx hb dX1_init_11 (by decide) ?_
  refine va_put (D := g.1) (ci := 1) (v := .int (-6)) (ty := .int) (C := RX1) (T := TX1) (N := 9) hx hb hts hinX1 tyX1 tyX1_ok nmX1 hown hK hP hD hS 0 rfl rfl 7 (by decide) lk6 (fun _ h9 => h9) rfl (by decide +kernel) rfl rfl (Nat.le_of_ble_eq_true rfl) dX1_init_13 (fun H locs hP hD hS => ?_)
  have hP : PP g [(h0, .inr (1, [.int 0, .int 0, .int 0, .int 0, .int 0, .int 0, .int (-6), .int (-6), .null]))] H := hP
  have hD : va_D A [(h0, .inr (1, [.int 0, .int 0, .int 0, .int 0, .int 0, .int 0, .int (-6), .int (-6), .null]))] := hD
  refine lv_aload_n hx hb dX1_init_16 rfl (lv_at hl 0 rfl) ?_
  refine lv_bipush (v := 16) hx hb dX1_init_17 (by decide) ?_
  refine kw_newI hx hb lk7 hK hP hD hS hA (N' := 16) (by decide) (by decide) (by decide) (Nat.le_of_ble_eq_true rfl) (Nat.le_of_ble_eq_true rfl) dX1_init_19 (fun q1 H hP hD hS => ?_)
  have hP : PP g [(h0, .inr (1, [.int 0, .int 0, .int 0, .int 0, .int 0, .int 0, .int (-6), .int (-6), .null])), (q1, .inl (g.2.1, 16, .inl (fun _ => 0)))] H := hP
  have hD : va_D A [(h0, .inr (1, [.int 0, .int 0, .int 0, .int 0, .int 0, .int 0, .int (-6), .int (-6), .null])), (q1, .inl (g.2.1, 16, .inl (fun _ => 0)))] := hD
  replace hw := hw q1
  refine va_putF (D := g.1) (ci := 1) (v := .ref q1) (ty := .array .int) (C := RX1) (T := TX1) (N := 9) hx hb hts hinX1 tyX1 tyX1_ok nmX1 hown hK hP hD hS 0 rfl rfl 8 (by decide) lk8 (fun _ h9 => h9) rfl hin rfl (by decide +kernel) rfl rfl (Nat.le_of_ble_eq_true rfl) dX1_init_21 (fun H locs hP hD hS => ?_)
  have hP : PP g [(h0, .inr (1, [.int 0, .int 0, .int 0, .int 0, .int 0, .int 0, .int (-6), .int (-6), .ref q1])), (q1, .inl (g.2.1, 16, .inl (fun _ => 0)))] H := hP
  have hD : va_D A [(h0, .inr (1, [.int 0, .int 0, .int 0, .int 0, .int 0, .int 0, .int (-6), .int (-6), .ref q1])), (q1, .inl (g.2.1, 16, .inl (fun _ => 0)))] := hD
  refine lv_aload_n hx hb dX1_init_24 rfl (lv_at hl 0 rfl) ?_
  refine lv_iload_n hx hb dX1_init_25 rfl (lv_at hl 1 rfl) ?_
  refine va_putF (D := g.1) (ci := 1) (v := .int x1) (ty := .int) (C := RX1) (T := TX1) (N := 9) hx hb hts hinX1 tyX1 tyX1_ok nmX1 hown hK hP hD hS 0 rfl rfl 0 (by decide) lk9 (fun _ h9 => h9) rfl hin rfl (by decide +kernel) rfl rfl (Nat.le_of_ble_eq_true rfl) dX1_init_26 (fun H locs hP hD hS => ?_)
  have hP : PP g [(h0, .inr (1, [.int x1, .int 0, .int 0, .int 0, .int 0, .int 0, .int (-6), .int (-6), .ref q1])), (q1, .inl (g.2.1, 16, .inl (fun _ => 0)))] H := hP
  have hD : va_D A [(h0, .inr (1, [.int x1, .int 0, .int 0, .int 0, .int 0, .int 0, .int (-6), .int (-6), .ref q1])), (q1, .inl (g.2.1, 16, .inl (fun _ => 0)))] := hD
  refine lv_aload_n hx hb dX1_init_29 rfl (lv_at hl 0 rfl) ?_
  refine lv_iload_n hx hb dX1_init_30 rfl (lv_at hl 2 rfl) ?_
  refine va_putF (D := g.1) (ci := 1) (v := .int x2) (ty := .int) (C := RX1) (T := TX1) (N := 9) hx hb hts hinX1 tyX1 tyX1_ok nmX1 hown hK hP hD hS 0 rfl rfl 1 (by decide) lk10 (fun _ h9 => h9) rfl hin rfl (by decide +kernel) rfl rfl (Nat.le_of_ble_eq_true rfl) dX1_init_31 (fun H locs hP hD hS => ?_)
  have hP : PP g [(h0, .inr (1, [.int x1, .int x2, .int 0, .int 0, .int 0, .int 0, .int (-6), .int (-6), .ref q1])), (q1, .inl (g.2.1, 16, .inl (fun _ => 0)))] H := hP
  have hD : va_D A [(h0, .inr (1, [.int x1, .int x2, .int 0, .int 0, .int 0, .int 0, .int (-6), .int (-6), .ref q1])), (q1, .inl (g.2.1, 16, .inl (fun _ => 0)))] := hD
  refine lv_aload_n hx hb dX1_init_34 rfl (lv_at hl 0 rfl) ?_
  refine lv_iload_n hx hb dX1_init_35 rfl (lv_at hl 3 rfl) ?_
  refine va_putF (D := g.1) (ci := 1) (v := .int x3) (ty := .int) (C := RX1) (T := TX1) (N := 9) hx hb hts hinX1 tyX1 tyX1_ok nmX1 hown hK hP hD hS 0 rfl rfl 2 (by decide) lk11 (fun _ h9 => h9) rfl hin rfl (by decide +kernel) rfl rfl (Nat.le_of_ble_eq_true rfl) dX1_init_36 (fun H locs hP hD hS => ?_)
  have hP : PP g [(h0, .inr (1, [.int x1, .int x2, .int x3, .int 0, .int 0, .int 0, .int (-6), .int (-6), .ref q1])), (q1, .inl (g.2.1, 16, .inl (fun _ => 0)))] H := hP
  have hD : va_D A [(h0, .inr (1, [.int x1, .int x2, .int x3, .int 0, .int 0, .int 0, .int (-6), .int (-6), .ref q1])), (q1, .inl (g.2.1, 16, .inl (fun _ => 0)))] := hD
  refine lv_aload_n hx hb dX1_init_39 rfl (lv_at hl 0 rfl) ?_
  refine lv_iload hx hb dX1_init_40 (lv_at hl 4 rfl) ?_
  refine va_putF (D := g.1) (ci := 1) (v := .int x4) (ty := .int) (C := RX1) (T := TX1) (N := 9) hx hb hts hinX1 tyX1 tyX1_ok nmX1 hown hK hP hD hS 0 rfl rfl 3 (by decide) lk12 (fun _ h9 => h9) rfl hin rfl (by decide +kernel) rfl rfl (Nat.le_of_ble_eq_true rfl) dX1_init_42 (fun H locs hP hD hS => ?_)
  have hP : PP g [(h0, .inr (1, [.int x1, .int x2, .int x3, .int x4, .int 0, .int 0, .int (-6), .int (-6), .ref q1])), (q1, .inl (g.2.1, 16, .inl (fun _ => 0)))] H := hP
  have hD : va_D A [(h0, .inr (1, [.int x1, .int x2, .int x3, .int x4, .int 0, .int 0, .int (-6), .int (-6), .ref q1])), (q1, .inl (g.2.1, 16, .inl (fun _ => 0)))] := hD
  refine lv_aload_n hx hb dX1_init_45 rfl (lv_at hl 0 rfl) ?_
  refine lv_iload hx hb dX1_init_46 (lv_at hl 5 rfl) ?_
  refine va_putF (D := g.1) (ci := 1) (v := .int x5) (ty := .int) (C := RX1) (T := TX1) (N := 9) hx hb hts hinX1 tyX1 tyX1_ok nmX1 hown hK hP hD hS 0 rfl rfl 4 (by decide) lk13 (fun _ h9 => h9) rfl hin rfl (by decide +kernel) rfl rfl (Nat.le_of_ble_eq_true rfl) dX1_init_48 (fun H locs hP hD hS => ?_)
  have hP : PP g [(h0, .inr (1, [.int x1, .int x2, .int x3, .int x4, .int x5, .int 0, .int (-6), .int (-6), .ref q1])), (q1, .inl (g.2.1, 16, .inl (fun _ => 0)))] H := hP
  have hD : va_D A [(h0, .inr (1, [.int x1, .int x2, .int x3, .int x4, .int x5, .int 0, .int (-6), .int (-6), .ref q1])), (q1, .inl (g.2.1, 16, .inl (fun _ => 0)))] := hD
  refine lv_aload_n hx hb dX1_init_51 rfl (lv_at hl 0 rfl) ?_
  refine lv_iload_n hx hb dX1_init_52 rfl (lv_at hl 2 rfl) ?_
  refine lv_iload_n hx hb dX1_init_53 rfl (lv_at hl 3 rfl) ?_
  refine lv_iload hx hb dX1_init_54 (lv_at hl 4 rfl) ?_
  refine va_mmax hx hb (hml.trans hl.1.symm) hown lk14 lk15 lk16 lk17 (Nat.le_of_ble_eq_true rfl) (Nat.le_of_ble_eq_true rfl) (Nat.le_of_ble_eq_true rfl) (Nat.le_of_ble_eq_true rfl) dX1_init_56 ?_
  refine va_mmax hx hb (hml.trans hl.1.symm) hown lk14 lk15 lk16 lk17 (Nat.le_of_ble_eq_true rfl) (Nat.le_of_ble_eq_true rfl) (Nat.le_of_ble_eq_true rfl) (Nat.le_of_ble_eq_true rfl) dX1_init_59 ?_
  refine lv_iconst (v := 4) hx hb dX1_init_62 (by decide) ?_
  refine lv_idiv hx hb dX1_init_63 (by decide) ?_
  refine va_putF (D := g.1) (ci := 1) (v := .int ((if x2 < (if x3 < x4 then x4 else x3) then (if x3 < x4 then x4 else x3) else x2) / 4)) (ty := .int) (C := RX1) (T := TX1) (N := 9) hx hb hts hinX1 tyX1 tyX1_ok nmX1 hown hK hP hD hS 0 rfl rfl 5 (by decide) lk18 (fun _ h9 => h9) rfl hin rfl (by decide +kernel) rfl rfl (Nat.le_of_ble_eq_true rfl) dX1_init_64 (fun H locs hP hD hS => ?_)
  have hP : PP g [(h0, .inr (1, [.int x1, .int x2, .int x3, .int x4, .int x5, .int ((if x2 < (if x3 < x4 then x4 else x3) then (if x3 < x4 then x4 else x3) else x2) / 4), .int (-6), .int (-6), .ref q1])), (q1, .inl (g.2.1, 16, .inl (fun _ => 0)))] H := hP
  have hD : va_D A [(h0, .inr (1, [.int x1, .int x2, .int x3, .int x4, .int x5, .int ((if x2 < (if x3 < x4 then x4 else x3) then (if x3 < x4 then x4 else x3) else x2) / 4), .int (-6), .int (-6), .ref q1])), (q1, .inl (g.2.1, 16, .inl (fun _ => 0)))] := hD
  exact W.vret hx hb hr (fun t ht hW => ⟨⟨(q1, x1, x2, x3, x4, x5, ((if x2 < (if x3 < x4 then x4 else x3) then (if x3 < x4 then x4 else x3) else x2) / 4), (-6), (-6), (fun _ => 0)), rfl, hw, by rw [ht]; exact hP, va_K.moved hW.alike hK, hD⟩, hS.F ht⟩) hS.2.2 dX1_init_67

def wp_X1_of (x1 : Int32) (x2 : Int32) (x3 : Int32) (x4 : Int32) (x5 : Int32) (pv : PV) (Q : Nat → Nat → Int32 → Int32 → Int32 → Int32 → Int32 → Int32 → Int32 → Int32 → (Nat → Int32) → Prop) : Prop :=
  ∀ q1 : Nat, ¬ pv.1 q1 → (wp_X1_init x1 x2 x3 x4 x5 (fun q2 w3 w4 w5 w6 w7 w8 w9 w10 w11 => (wp_X1_findLowItems w3 w4 w5 w6 w8 w9 w10 (fun w12 w13 => (wp_X1_fillAllowed w3 w4 w5 w6 w7 w8 w12 w11 (fun w14 => Q q1 q2 w3 w4 w5 w6 w7 w8 w12 w13 w14))))))
theorem hd_X1_of : yX1_of.cls ≠ "java/lang/invoke/MethodHandle" ∧ yX1_of.cls ≠ "java/lang/invoke/VarHandle" ∧ (parseMethodDescriptor yX1_of.desc).map (fun d => d.parameters.length) = some 5 := by decide +kernel
set_option maxHeartbeats 4000000 in
set_option maxRecDepth 100000 in
theorem m_X1_of (l : Launch) (g : GG) {tb : TB} {pv : PV} {x1 : Int32} {x2 : Int32} {x3 : Int32} {x4 : Int32} {x5 : Int32} {sz : Nat} {Q : Nat → Nat → Int32 → Int32 → Int32 → Int32 → Int32 → Int32 → Int32 → Int32 → (Nat → Int32) → Prop} (hw : wp_X1_of x1 x2 x3 x4 x5 pv Q) : Met l yX1_of wsX1_of ({ frames := 3, cells := 2, slots := 25, locals := 69 } : Room) (PcM g (roC g tb pv) [] sz [.int x1, .int x2, .int x3, .int x4, .int x5]) (va_Qr (fun (u : Nat × (Nat × Int32 × Int32 × Int32 × Int32 × Int32 × Int32 × Int32 × Int32 × (Nat → Int32))) => Q u.1 u.2.1 u.2.2.1 u.2.2.2.1 u.2.2.2.2.1 u.2.2.2.2.2.1 u.2.2.2.2.2.2.1 u.2.2.2.2.2.2.2.1 u.2.2.2.2.2.2.2.2.1 u.2.2.2.2.2.2.2.2.2.1 u.2.2.2.2.2.2.2.2.2.2) (BR g (fun (u : Nat × (Nat × Int32 × Int32 × Int32 × Int32 × Int32 × Int32 × Int32 × Int32 × (Nat → Int32))) => [(u.1, .inr (1, [.int u.2.2.1, .int u.2.2.2.1, .int u.2.2.2.2.1, .int u.2.2.2.2.2.1, .int u.2.2.2.2.2.2.1, .int u.2.2.2.2.2.2.2.1, .int u.2.2.2.2.2.2.2.2.1, .int u.2.2.2.2.2.2.2.2.2.1, .ref u.2.1])), (u.2.1, .inl (g.2.1, 16, .inl u.2.2.2.2.2.2.2.2.2.2))]) (va_A [] sz)) (va_A [] sz)) 2 25 (va_A [] sz) := by
  have hok : RoOK (roC g tb pv) := roC_ok
  refine Met.ofW (cc := cX1_of) (maxL := 6) (ret := (some (.object "GridRiddles$Clue"))) (by decide) rfl ?_
  intro p e s m args below meth c s₁ B hml hv
  obtain ⟨rfl, hsz, hP, hK, hD0, hro⟩ := hv
  have hx := B.exec
  have hb := B.bytes
  have hr := B.returns
  have hts := atoms_spec (ws := wsX1_of) B.pre
  have hown : s.vm.findClass RX1 = some m.cls := findClass_of_methodNamed B.named
  have hlocks := B.notSynchronized
  subst hsz
  have hD := hD0.self (sz := s.heap.size)
  generalize hAe : va_A [] s.heap.size = A at hD hro ⊢
  have hA : ∀ q : Nat, s.heap.size ≤ q → A q := fun q h => by rw [← hAe]; exact Or.inr h
  have hS : va_S A s.heap s.heap [] := va_S.rf
  have hP : PP g [] s.heap := hP
  have lk1 := hts (.classLink RX1 1 RX1) (by decide +kernel)
  have lk2 := hts (.instantiable RX1 9) (by decide +kernel)
  have lk3 := hts (.initialized RX1) (by decide +kernel)
  have hinX1 : ∀ w ∈ u_ws RX1 TX1 9, w ∈ wsX1_of := by decide +kernel
  have lk5 := hts (.methodLink RX1 46 yX1_init) (by decide +kernel)
  have lk6 := hts (.instanceMethod yX1_init) (by decide +kernel)
  have hl := lv_entry ([.int x1, .int x2, .int x3, .int x4, .int x5]) (n := 6) (Nat.le_of_ble_eq_true rfl)
  rw [lg_entry_eq]
  generalize (lg_sl ([.int x1, .int x2, .int x3, .int x4, .int x5]) ++ List.replicate (6 - (lg_sl ([.int x1, .int x2, .int x3, .int x4, .int x5])).length) Slot.unset).toArray = ls at hl ⊢
  have hl : lv_has ls 6 [(0, .int x1), (1, .int x2), (2, .int x3), (3, .int x4), (4, .int x5)] := hl
  unfold wp_X1_of at hw
  refine va_new (D := g.1) (ci := 1) (fs := [.int 0, .int 0, .int 0, .int 0, .int 0, .int 0, .int 0, .int 0, .null]) (C := RX1) (T := TX1) (N := 9) hx hb hts hinX1 tyX1 tyX1_ok hown lk1 lk2 lk3 hK hP hD hS hA rfl (fun j hj => by rcases (show j = 0 ∨ j = 1 ∨ j = 2 ∨ j = 3 ∨ j = 4 ∨ j = 5 ∨ j = 6 ∨ j = 7 ∨ j = 8 by omega) with rfl | rfl | rfl | rfl | rfl | rfl | rfl | rfl | rfl <;> rfl) (Nat.le_of_ble_eq_true rfl) (Nat.le_of_ble_eq_true rfl) dX1_of_0 (fun q1 H hP hD hS => ?_)
  have hP : PP g [(q1, .inr (1, [.int 0, .int 0, .int 0, .int 0, .int 0, .int 0, .int 0, .int 0, .null]))] H := hP
  have hD : va_D A [(q1, .inr (1, [.int 0, .int 0, .int 0, .int 0, .int 0, .int 0, .int 0, .int 0, .null]))] := hD
  replace hw := hw q1 (fun h9 => (hro.2.2.2.1 q1 h9).1 (hD.2 0 _ rfl))
  refine lv_dup hx hb dX1_of_3 rfl ?_
  refine lv_iload_n hx hb dX1_of_4 rfl (lv_at hl 0 rfl) ?_
  refine lv_iload_n hx hb dX1_of_5 rfl (lv_at hl 1 rfl) ?_
  refine lv_iload_n hx hb dX1_of_6 rfl (lv_at hl 2 rfl) ?_
  refine lv_iload_n hx hb dX1_of_7 rfl (lv_at hl 3 rfl) ?_
  refine lv_iload hx hb dX1_of_8 (lv_at hl 4 rfl) ?_
  refine kn_Iv (As := [.int x1, .int x2, .int x3, .int x4, .int x5]) (rest := [.ref q1]) (wc := [(q1, .inr (1, [.int 0, .int 0, .int 0, .int 0, .int 0, .int 0, .int 0, .int 0, .null]))]) (wr := []) ⟨hx, hb, hml, hown, hts⟩ (m_X1_init l g hok (h0 := q1) (x1 := x1) (x2 := x2) (x3 := x3) (x4 := x4) (x5 := x5) hw) (cwI 5 hts ggX1_of_X1_init rfl rfl rfl lk3 lk5 lk6 rfl hd_X1_init ⟨Nat.le_of_ble_eq_true rfl, Nat.le_of_ble_eq_true rfl⟩) hok hK hP hD hS hA (ro_pass hok hro hS (va_free (wc := [(q1, .inr (1, [.int 0, .int 0, .int 0, .int 0, .int 0, .int 0, .int 0, .int 0, .null]))]) hD hS hA [0] rfl)) [0] [] rfl rfl (by decide) (by decide) (by decide)  rfl hl.1 rfl (Nat.le_of_ble_eq_true rfl) dX1_of_10 ⟨Nat.le_of_ble_eq_true rfl, Nat.le_of_ble_eq_true rfl⟩ (fun u H locs hw hP hD hS => ?_)
  obtain ⟨q2, w3, w4, w5, w6, w7, w8, w9, w10, w11⟩ := u
  have hP : PP g [(q1, .inr (1, [.int w3, .int w4, .int w5, .int w6, .int w7, .int w8, .int w9, .int w10, .ref q2])), (q2, .inl (g.2.1, 16, .inl w11))] H := hP
  have hD : va_D A [(q1, .inr (1, [.int w3, .int w4, .int w5, .int w6, .int w7, .int w8, .int w9, .int w10, .ref q2])), (q2, .inl (g.2.1, 16, .inl w11))] := hD
  refine lv_astore (lv' := [(5, .ref q1), (0, .int x1), (1, .int x2), (2, .int x3), (3, .int x4), (4, .int x5)]) hx hb dX1_of_13 hl (by decide) rfl (fun ls hl => ?_)
  refine lv_aload hx hb dX1_of_15 (lv_at hl 0 rfl) ?_
  refine kn_Vv (As := []) (rest := []) (wc := [(q1, .inr (1, [.int w3, .int w4, .int w5, .int w6, .int w7, .int w8, .int w9, .int w10, .ref q2])), (q2, .inl (g.2.1, 16, .inl w11))]) (wr := []) (cq := (RX1, TX1, 9)) ⟨hx, hb, hml, hown, hts⟩ (m_X1_findLowItems l g hok (h0 := q1) (h0w := q2) (h0_kind := w3) (h0_x := w4) (h0_y := w5) (h0_z := w6) (h0_place := w7) (h0_top := w8) (h0_low := w9) (h0_high := w10) (h0_al := w11) hw) (cwV 0 hts gX1_of_X1_findLowItems rfl rfl rfl hd_X1_findLowItems ⟨Nat.le_of_ble_eq_true rfl, Nat.le_of_ble_eq_true rfl⟩) hok hK hP hD hS hA (ro_pass hok hro hS (va_free (wc := [(q1, .inr (1, [.int w3, .int w4, .int w5, .int w6, .int w7, .int w8, .int w9, .int w10, .ref q2])), (q2, .inl (g.2.1, 16, .inl w11))]) hD hS hA [0, 1] rfl)) [0, 1] [] rfl rfl (by decide) (by decide) (by decide) (va_recv hK hP (ci := 1) (q0 := 0) rfl rfl) rfl hl.1 rfl (Nat.le_of_ble_eq_true rfl) dX1_of_17 ⟨Nat.le_of_ble_eq_true rfl, Nat.le_of_ble_eq_true rfl⟩ (fun u H locs hw hP hD hS => ?_)
  obtain ⟨w12, w13⟩ := u
  have hP : PP g [(q1, .inr (1, [.int w3, .int w4, .int w5, .int w6, .int w7, .int w8, .int w12, .int w13, .ref q2])), (q2, .inl (g.2.1, 16, .inl w11))] H := hP
  have hD : va_D A [(q1, .inr (1, [.int w3, .int w4, .int w5, .int w6, .int w7, .int w8, .int w12, .int w13, .ref q2])), (q2, .inl (g.2.1, 16, .inl w11))] := hD
  refine lv_aload hx hb dX1_of_20 (lv_at hl 0 rfl) ?_
  refine kn_Vv (As := []) (rest := []) (wc := [(q1, .inr (1, [.int w3, .int w4, .int w5, .int w6, .int w7, .int w8, .int w12, .int w13, .ref q2])), (q2, .inl (g.2.1, 16, .inl w11))]) (wr := []) (cq := (RX1, TX1, 9)) ⟨hx, hb, hml, hown, hts⟩ (m_X1_fillAllowed l g (tb := tb) (pv := pv) (h0 := q1) (h0w := q2) (h0_kind := w3) (h0_x := w4) (h0_y := w5) (h0_z := w6) (h0_place := w7) (h0_top := w8) (h0_low := w12) (h0_high := w13) (h0_al := w11) hw) (cwV 0 hts gX1_of_X1_fillAllowed rfl rfl rfl hd_X1_fillAllowed ⟨Nat.le_of_ble_eq_true rfl, Nat.le_of_ble_eq_true rfl⟩) hok hK hP hD hS hA (ro_pass hok hro hS (va_free (wc := [(q1, .inr (1, [.int w3, .int w4, .int w5, .int w6, .int w7, .int w8, .int w12, .int w13, .ref q2])), (q2, .inl (g.2.1, 16, .inl w11))]) hD hS hA [0, 1] rfl)) [0, 1] [] rfl rfl (by decide) (by decide) (by decide) (va_recv hK hP (ci := 1) (q0 := 0) rfl rfl) rfl hl.1 rfl (Nat.le_of_ble_eq_true rfl) dX1_of_22 ⟨Nat.le_of_ble_eq_true rfl, Nat.le_of_ble_eq_true rfl⟩ (fun w14 H locs hw hP hD hS => ?_)
  have hP : PP g [(q1, .inr (1, [.int w3, .int w4, .int w5, .int w6, .int w7, .int w8, .int w12, .int w13, .ref q2])), (q2, .inl (g.2.1, 16, .inl w14))] H := hP
  have hD : va_D A [(q1, .inr (1, [.int w3, .int w4, .int w5, .int w6, .int w7, .int w8, .int w12, .int w13, .ref q2])), (q2, .inl (g.2.1, 16, .inl w14))] := hD
  refine lv_aload hx hb dX1_of_25 (lv_at hl 0 rfl) ?_
  exact W.aret hx hb hr (Or.inl ⟨_, rfl⟩) (Or.inr ⟨_, rfl⟩) (fun t ht hW => ⟨⟨(q1, q2, w3, w4, w5, w6, w7, w8, w12, w13, w14), q1, rfl, hw, rfl, by rw [ht]; exact hP, va_K.moved hW.alike hK, hD⟩, hS.F ht⟩) hS.2.2 dX1_of_27

def wp_X1_opposite_46 (Q : Nat → Nat → Int32 → Int32 → Int32 → Int32 → Int32 → Int32 → Int32 → Int32 → (Nat → Int32) → Prop) (h0 : Nat) (pv : PV)  (l2 : Int32) (n_q3 : Nat → Int32) (q1 : Nat) (q3 : Nat) (vq1_0 : Int32) (vq1_1 : Int32) (vq1_2 : Int32) (vq1_3 : Int32) (vq1_4 : Int32) (vq1_5 : Int32) (vq1_6 : Int32) (vq1_7 : Int32) : Prop :=
  ∃ (I46 : Int32 → (Nat → Int32) → Nat → Nat → Int32 → Int32 → Int32 → Int32 → Int32 → Int32 → Int32 → Int32 → Prop) (mu46 : Int32 → (Nat → Int32) → Nat → Nat → Int32 → Int32 → Int32 → Int32 → Int32 → Int32 → Int32 → Int32 → Nat), I46 l2 n_q3 q1 q3 vq1_0 vq1_1 vq1_2 vq1_3 vq1_4 vq1_5 vq1_6 vq1_7 ∧ ∀ (l2 : Int32) (n_q3 : Nat → Int32) (q1 : Nat) (q3 : Nat) (vq1_0 : Int32) (vq1_1 : Int32) (vq1_2 : Int32) (vq1_3 : Int32) (vq1_4 : Int32) (vq1_5 : Int32) (vq1_6 : Int32) (vq1_7 : Int32), I46 l2 n_q3 q1 q3 vq1_0 vq1_1 vq1_2 vq1_3 vq1_4 vq1_5 vq1_6 vq1_7 → ((16 ≤ l2 → Q q1 q3 vq1_0 vq1_1 vq1_2 vq1_3 vq1_4 vq1_5 vq1_6 vq1_7 n_q3) ∧ (¬ (16 ≤ l2) → (pv.1 h0 ∧ (vp_in l2 16 ∧ (vp_in l2 16 ∧ (I46 (l2 + 1) (upd n_q3 l2.toNatClampNeg (16777215 &&& ((pv.2.2.2 h0 l2.toNatClampNeg) ^^^ (-1)))) q1 q3 vq1_0 vq1_1 vq1_2 vq1_3 vq1_4 vq1_5 vq1_6 vq1_7 ∧ mu46 (l2 + 1) (upd n_q3 l2.toNatClampNeg (16777215 &&& ((pv.2.2.2 h0 l2.toNatClampNeg) ^^^ (-1)))) q1 q3 vq1_0 vq1_1 vq1_2 vq1_3 vq1_4 vq1_5 vq1_6 vq1_7 < mu46 l2 n_q3 q1 q3 vq1_0 vq1_1 vq1_2 vq1_3 vq1_4 vq1_5 vq1_6 vq1_7))))))
def wp_X1_opposite (h0 : Nat) (pv : PV) (Q : Nat → Nat → Int32 → Int32 → Int32 → Int32 → Int32 → Int32 → Int32 → Int32 → (Nat → Int32) → Prop) : Prop :=
  ∀ q1 : Nat, ¬ pv.1 q1 → (pv.1 h0 ∧ (wp_X1_init (pv.2.1 h0 0) (pv.2.1 h0 1) (pv.2.1 h0 2) (pv.2.1 h0 3) (pv.2.1 h0 4) (fun q3 w4 w5 w6 w7 w8 w9 w10 w11 w12 => wp_X1_opposite_46 Q h0 pv  0 w12 q1 q3 w4 w5 w6 w7 w8 w9 (pv.2.1 h0 6) (pv.2.1 h0 7))))
theorem hd_X1_opposite : yX1_opposite.cls = RX1 ∧ yX1_opposite.cls ≠ "java/lang/invoke/MethodHandle" ∧ yX1_opposite.cls ≠ "java/lang/invoke/VarHandle" ∧ (parseMethodDescriptor yX1_opposite.desc).map (fun d => d.parameters.length) = some 0 := by decide +kernel
set_option maxHeartbeats 4000000 in
set_option maxRecDepth 100000 in
theorem m_X1_opposite (l : Launch) (g : GG) {tb : TB} {pv : PV} {h0 : Nat} {sz : Nat} {Q : Nat → Nat → Int32 → Int32 → Int32 → Int32 → Int32 → Int32 → Int32 → Int32 → (Nat → Int32) → Prop} (hw : wp_X1_opposite h0 pv Q) : Met l yX1_opposite wsX1_opposite ({ frames := 2, cells := 2, slots := 25, locals := 46 } : Room) (PcM g (roC g tb pv) [] sz [.ref h0]) (va_Qr (fun (u : Nat × (Nat × Int32 × Int32 × Int32 × Int32 × Int32 × Int32 × Int32 × Int32 × (Nat → Int32))) => Q u.1 u.2.1 u.2.2.1 u.2.2.2.1 u.2.2.2.2.1 u.2.2.2.2.2.1 u.2.2.2.2.2.2.1 u.2.2.2.2.2.2.2.1 u.2.2.2.2.2.2.2.2.1 u.2.2.2.2.2.2.2.2.2.1 u.2.2.2.2.2.2.2.2.2.2) (BR g (fun (u : Nat × (Nat × Int32 × Int32 × Int32 × Int32 × Int32 × Int32 × Int32 × Int32 × (Nat → Int32))) => [(u.1, .inr (1, [.int u.2.2.1, .int u.2.2.2.1, .int u.2.2.2.2.1, .int u.2.2.2.2.2.1, .int u.2.2.2.2.2.2.1, .int u.2.2.2.2.2.2.2.1, .int u.2.2.2.2.2.2.2.2.1, .int u.2.2.2.2.2.2.2.2.2.1, .ref u.2.1])), (u.2.1, .inl (g.2.1, 16, .inl u.2.2.2.2.2.2.2.2.2.2))]) (va_A [] sz)) (va_A [] sz)) 2 25 (va_A [] sz) := by
  have hok : RoOK (roC g tb pv) := roC_ok
  refine Met.ofW (cc := cX1_opposite) (maxL := 3) (ret := (some (.object "GridRiddles$Clue"))) (by decide) rfl ?_
  intro p e s m args below meth c s₁ B hml hv
  obtain ⟨rfl, hsz, hP, hK, hD0, hro⟩ := hv
  have hx := B.exec
  have hb := B.bytes
  have hr := B.returns
  have hts := atoms_spec (ws := wsX1_opposite) B.pre
  have hown : s.vm.findClass RX1 = some m.cls := findClass_of_methodNamed B.named
  have hlocks := B.notSynchronized
  subst hsz
  have hD := hD0.self (sz := s.heap.size)
  generalize hAe : va_A [] s.heap.size = A at hD hro ⊢
  have hA : ∀ q : Nat, s.heap.size ≤ q → A q := fun q h => by rw [← hAe]; exact Or.inr h
  have hS : va_S A s.heap s.heap [] := va_S.rf
  have hP : PP g [] s.heap := hP
  have lk1 := hts (.classLink RX1 1 RX1) (by decide +kernel)
  have lk2 := hts (.instantiable RX1 9) (by decide +kernel)
  have lk3 := hts (.initialized RX1) (by decide +kernel)
  have hinX1 : ∀ w ∈ u_ws RX1 TX1 9, w ∈ wsX1_opposite := by decide +kernel
  have lk5 := hts (.fieldLink RX1 22 "GridRiddles$Clue" "kind" "I") (by decide +kernel)
  have lk6 := hts (.fieldLink RX1 25 "GridRiddles$Clue" "x" "I") (by decide +kernel)
  have lk7 := hts (.fieldLink RX1 28 "GridRiddles$Clue" "y" "I") (by decide +kernel)
  have lk8 := hts (.fieldLink RX1 31 "GridRiddles$Clue" "z" "I") (by decide +kernel)
  have lk9 := hts (.fieldLink RX1 34 "GridRiddles$Clue" "place" "I") (by decide +kernel)
  have lk10 := hts (.fieldLink RX1 11 "GridRiddles$Clue" "low" "I") (by decide +kernel)
  have lk11 := hts (.fieldLink RX1 15 "GridRiddles$Clue" "high" "I") (by decide +kernel)
  have lk12 := hts (.fieldLink RX1 18 "GridRiddles$Clue" "allowed" "[I") (by decide +kernel)
  have lk13 := hts (.constant RX1 55 (16777215)) (by decide +kernel)
  have lk14 := hts (.methodLink RX1 46 yX1_init) (by decide +kernel)
  have lk15 := hts (.instanceMethod yX1_init) (by decide +kernel)
  have B46 : ∀ (l2 : Int32) (n_q3 : Nat → Int32) (q1 : Nat) (q3 : Nat) (vq1_0 : Int32) (vq1_1 : Int32) (vq1_2 : Int32) (vq1_3 : Int32) (vq1_4 : Int32) (vq1_5 : Int32) (vq1_6 : Int32) (vq1_7 : Int32), wp_X1_opposite_46 Q h0 pv  l2 n_q3 q1 q3 vq1_0 vq1_1 vq1_2 vq1_3 vq1_4 vq1_5 vq1_6 vq1_7 → ∀ (H : Heap) (locs : List Loc), PP g [(q1, .inr (1, [.int vq1_0, .int vq1_1, .int vq1_2, .int vq1_3, .int vq1_4, .int vq1_5, .int vq1_6, .int vq1_7, .ref q3])), (q3, .inl (g.2.1, 16, .inl n_q3))] H → va_D A [(q1, .inr (1, [.int vq1_0, .int vq1_1, .int vq1_2, .int vq1_3, .int vq1_4, .int vq1_5, .int vq1_6, .int vq1_7, .ref q3])), (q3, .inl (g.2.1, 16, .inl n_q3))] → va_S A s.heap H locs → ∀ (ls : Array Slot), lv_has ls 3 [(0, .ref h0), (1, .ref q1), (2, .int l2)] → W p l e (headSpec wsX1_opposite ({ frames := 2, cells := 2, slots := 25, locals := 46 } : Room)).room s m ([.ref h0] : List Value).toArray below meth c H locs 2 25 (MQ below (va_Qr (fun (u : Nat × (Nat × Int32 × Int32 × Int32 × Int32 × Int32 × Int32 × Int32 × Int32 × (Nat → Int32))) => Q u.1 u.2.1 u.2.2.1 u.2.2.2.1 u.2.2.2.2.1 u.2.2.2.2.2.1 u.2.2.2.2.2.2.1 u.2.2.2.2.2.2.2.1 u.2.2.2.2.2.2.2.2.1 u.2.2.2.2.2.2.2.2.2.1 u.2.2.2.2.2.2.2.2.2.2) (BR g (fun (u : Nat × (Nat × Int32 × Int32 × Int32 × Int32 × Int32 × Int32 × Int32 × Int32 × (Nat → Int32))) => [(u.1, .inr (1, [.int u.2.2.1, .int u.2.2.2.1, .int u.2.2.2.2.1, .int u.2.2.2.2.2.1, .int u.2.2.2.2.2.2.1, .int u.2.2.2.2.2.2.2.1, .int u.2.2.2.2.2.2.2.2.1, .int u.2.2.2.2.2.2.2.2.2.1, .ref u.2.1])), (u.2.1, .inl (g.2.1, 16, .inl u.2.2.2.2.2.2.2.2.2.2))]) A) A) ([.ref h0] : List Value).toArray s 2 25 A) (F0 m 46 ls []) := by
    intro  l2 n_q3 q1 q3 vq1_0 vq1_1 vq1_2 vq1_3 vq1_4 vq1_5 vq1_6 vq1_7 hw
    obtain ⟨I46, mu46, hI, hstep⟩ := hw
    have key : ∀ (n : Nat) (l2 : Int32) (n_q3 : Nat → Int32) (q1 : Nat) (q3 : Nat) (vq1_0 : Int32) (vq1_1 : Int32) (vq1_2 : Int32) (vq1_3 : Int32) (vq1_4 : Int32) (vq1_5 : Int32) (vq1_6 : Int32) (vq1_7 : Int32), mu46 l2 n_q3 q1 q3 vq1_0 vq1_1 vq1_2 vq1_3 vq1_4 vq1_5 vq1_6 vq1_7 < n → I46 l2 n_q3 q1 q3 vq1_0 vq1_1 vq1_2 vq1_3 vq1_4 vq1_5 vq1_6 vq1_7 → ∀ (H : Heap) (locs : List Loc), PP g [(q1, .inr (1, [.int vq1_0, .int vq1_1, .int vq1_2, .int vq1_3, .int vq1_4, .int vq1_5, .int vq1_6, .int vq1_7, .ref q3])), (q3, .inl (g.2.1, 16, .inl n_q3))] H → va_D A [(q1, .inr (1, [.int vq1_0, .int vq1_1, .int vq1_2, .int vq1_3, .int vq1_4, .int vq1_5, .int vq1_6, .int vq1_7, .ref q3])), (q3, .inl (g.2.1, 16, .inl n_q3))] → va_S A s.heap H locs → ∀ (ls : Array Slot), lv_has ls 3 [(0, .ref h0), (1, .ref q1), (2, .int l2)] → W p l e (headSpec wsX1_opposite ({ frames := 2, cells := 2, slots := 25, locals := 46 } : Room)).room s m ([.ref h0] : List Value).toArray below meth c H locs 2 25 (MQ below (va_Qr (fun (u : Nat × (Nat × Int32 × Int32 × Int32 × Int32 × Int32 × Int32 × Int32 × Int32 × (Nat → Int32))) => Q u.1 u.2.1 u.2.2.1 u.2.2.2.1 u.2.2.2.2.1 u.2.2.2.2.2.1 u.2.2.2.2.2.2.1 u.2.2.2.2.2.2.2.1 u.2.2.2.2.2.2.2.2.1 u.2.2.2.2.2.2.2.2.2.1 u.2.2.2.2.2.2.2.2.2.2) (BR g (fun (u : Nat × (Nat × Int32 × Int32 × Int32 × Int32 × Int32 × Int32 × Int32 × Int32 × (Nat → Int32))) => [(u.1, .inr (1, [.int u.2.2.1, .int u.2.2.2.1, .int u.2.2.2.2.1, .int u.2.2.2.2.2.1, .int u.2.2.2.2.2.2.1, .int u.2.2.2.2.2.2.2.1, .int u.2.2.2.2.2.2.2.2.1, .int u.2.2.2.2.2.2.2.2.2.1, .ref u.2.1])), (u.2.1, .inl (g.2.1, 16, .inl u.2.2.2.2.2.2.2.2.2.2))]) A) A) ([.ref h0] : List Value).toArray s 2 25 A) (F0 m 46 ls []) := by
      intro n
      induction n with
      | zero => intro l2 n_q3 q1 q3 vq1_0 vq1_1 vq1_2 vq1_3 vq1_4 vq1_5 vq1_6 vq1_7 h; exact absurd h (Nat.not_lt_zero _)
      | succ n ih =>
          intro l2 n_q3 q1 q3 vq1_0 vq1_1 vq1_2 vq1_3 vq1_4 vq1_5 vq1_6 vq1_7 hn hI  H locs hP hD hS ls hl
          have hw := hstep l2 n_q3 q1 q3 vq1_0 vq1_1 vq1_2 vq1_3 vq1_4 vq1_5 vq1_6 vq1_7 hI
          have hK46 : ∀ (l2' : Int32) (n_q3' : Nat → Int32) (q1' : Nat) (q3' : Nat) (vq1_0' : Int32) (vq1_1' : Int32) (vq1_2' : Int32) (vq1_3' : Int32) (vq1_4' : Int32) (vq1_5' : Int32) (vq1_6' : Int32) (vq1_7' : Int32), (I46 l2' n_q3' q1' q3' vq1_0' vq1_1' vq1_2' vq1_3' vq1_4' vq1_5' vq1_6' vq1_7' ∧ mu46 l2' n_q3' q1' q3' vq1_0' vq1_1' vq1_2' vq1_3' vq1_4' vq1_5' vq1_6' vq1_7' < mu46 l2 n_q3 q1 q3 vq1_0 vq1_1 vq1_2 vq1_3 vq1_4 vq1_5 vq1_6 vq1_7) → ∀ (H : Heap) (locs : List Loc), PP g [(q1', .inr (1, [.int vq1_0', .int vq1_1', .int vq1_2', .int vq1_3', .int vq1_4', .int vq1_5', .int vq1_6', .int vq1_7', .ref q3'])), (q3', .inl (g.2.1, 16, .inl n_q3'))] H → va_D A [(q1', .inr (1, [.int vq1_0', .int vq1_1', .int vq1_2', .int vq1_3', .int vq1_4', .int vq1_5', .int vq1_6', .int vq1_7', .ref q3'])), (q3', .inl (g.2.1, 16, .inl n_q3'))] → va_S A s.heap H locs → ∀ (ls : Array Slot), lv_has ls 3 [(0, .ref h0), (1, .ref q1'), (2, .int l2')] → W p l e (headSpec wsX1_opposite ({ frames := 2, cells := 2, slots := 25, locals := 46 } : Room)).room s m ([.ref h0] : List Value).toArray below meth c H locs 2 25 (MQ below (va_Qr (fun (u : Nat × (Nat × Int32 × Int32 × Int32 × Int32 × Int32 × Int32 × Int32 × Int32 × (Nat → Int32))) => Q u.1 u.2.1 u.2.2.1 u.2.2.2.1 u.2.2.2.2.1 u.2.2.2.2.2.1 u.2.2.2.2.2.2.1 u.2.2.2.2.2.2.2.1 u.2.2.2.2.2.2.2.2.1 u.2.2.2.2.2.2.2.2.2.1 u.2.2.2.2.2.2.2.2.2.2) (BR g (fun (u : Nat × (Nat × Int32 × Int32 × Int32 × Int32 × Int32 × Int32 × Int32 × Int32 × (Nat → Int32))) => [(u.1, .inr (1, [.int u.2.2.1, .int u.2.2.2.1, .int u.2.2.2.2.1, .int u.2.2.2.2.2.1, .int u.2.2.2.2.2.2.1, .int u.2.2.2.2.2.2.2.1, .int u.2.2.2.2.2.2.2.2.1, .int u.2.2.2.2.2.2.2.2.2.1, .ref u.2.1])), (u.2.1, .inl (g.2.1, 16, .inl u.2.2.2.2.2.2.2.2.2.2))]) A) A) ([.ref h0] : List Value).toArray s 2 25 A) (F0 m 46 ls []) := fun l2' n_q3' q1' q3' vq1_0' vq1_1' vq1_2' vq1_3' vq1_4' vq1_5' vq1_6' vq1_7' h => ih l2' n_q3' q1' q3' vq1_0' vq1_1' vq1_2' vq1_3' vq1_4' vq1_5' vq1_6' vq1_7' (Nat.lt_of_lt_of_le h.2 (Nat.le_of_lt_succ hn)) h.1
          refine lv_iload_n hx hb dX1_opposite_46 rfl (lv_at hl 2 rfl) ?_
          refine lv_bipush (v := 16) hx hb dX1_opposite_47 (by decide) ?_
          refine lv_icmp_ge (tgt := 75) hx hb dX1_opposite_49 (by decide) (fun c13 => ?_) (fun c13 => ?_)
          · replace hw := hw.1 c13
            refine lv_aload_n hx hb dX1_opposite_75 rfl (lv_at hl 1 rfl) ?_
            exact W.aret hx hb hr (Or.inl ⟨_, rfl⟩) (Or.inr ⟨_, rfl⟩) (fun t ht hW => ⟨⟨(q1, q3, vq1_0, vq1_1, vq1_2, vq1_3, vq1_4, vq1_5, vq1_6, vq1_7, n_q3), q1, rfl, hw, rfl, by rw [ht]; exact hP, va_K.moved hW.alike hK, hD⟩, hS.F ht⟩) hS.2.2 dX1_opposite_76
          · replace hw := hw.2 c13
            refine lv_aload_n hx hb dX1_opposite_52 rfl (lv_at hl 1 rfl) ?_
            refine va_get (D := g.1) (ci := 1) (v := .ref q3) (C := RX1) (T := TX1) (N := 9) hx hb hts hinX1 hown hK hP 0 rfl rfl 8 (by decide) lk12 (fun _ h9 => h9) rfl dX1_opposite_53 ?_
            refine lv_iload_n hx hb dX1_opposite_56 rfl (lv_at hl 2 rfl) ?_
            refine lv_ldc hx hb hown lk13 dX1_opposite_57 ?_
            refine lv_aload_n hx hb dX1_opposite_59 rfl (lv_at hl 0 rfl) ?_
            obtain ⟨hp14, hw⟩ := hw
            refine va_get (D := g.1) (ci := 1) (v := .ref (pv.2.2.1 h0)) (C := RX1) (T := TX1) (N := 9) hx hb hts hinX1 hown hK (pool_O hro hS hp14) 0 rfl rfl 8 (by decide) lk12 (fun _ h9 => h9) rfl dX1_opposite_60 ?_
            refine lv_iload_n hx hb dX1_opposite_63 rfl (lv_at hl 2 rfl) ?_
            obtain ⟨hi, hw⟩ := hw
            refine va_iald hx hb hK (pool_A hro hS hp14) 0 0 rfl rfl hi dX1_opposite_64 ?_
            refine lv_iconst (v := (-1)) hx hb dX1_opposite_65 (by decide) ?_
            refine lv_ixor hx hb dX1_opposite_66 ?_
            refine lv_iand hx hb dX1_opposite_67 ?_
            obtain ⟨hi, hw⟩ := hw
            refine va_iast hx hb hK hP hD hS 1 0 rfl rfl hi dX1_opposite_68 (fun H locs hP hD hS => ?_)
            have hP : PP g [(q1, .inr (1, [.int vq1_0, .int vq1_1, .int vq1_2, .int vq1_3, .int vq1_4, .int vq1_5, .int vq1_6, .int vq1_7, .ref q3])), (q3, .inl (g.2.1, 16, .inl (upd n_q3 l2.toNatClampNeg (16777215 &&& ((pv.2.2.2 h0 l2.toNatClampNeg) ^^^ (-1))))))] H := hP
            have hD : va_D A [(q1, .inr (1, [.int vq1_0, .int vq1_1, .int vq1_2, .int vq1_3, .int vq1_4, .int vq1_5, .int vq1_6, .int vq1_7, .ref q3])), (q3, .inl (g.2.1, 16, .inl (upd n_q3 l2.toNatClampNeg (16777215 &&& ((pv.2.2.2 h0 l2.toNatClampNeg) ^^^ (-1))))))] := hD
            refine lv_iinc (v := (l2 + 1)) (lv' := [(2, .int (l2 + 1)), (0, .ref h0), (1, .ref q1)]) hx hb dX1_opposite_69 hl (k := 2) rfl rfl (by decide) rfl (fun ls hl => ?_)
            refine lv_goto (tgt := 46) hx hb dX1_opposite_72 (by decide) ?_
            exact hK46 (l2 + 1) (upd n_q3 l2.toNatClampNeg (16777215 &&& ((pv.2.2.2 h0 l2.toNatClampNeg) ^^^ (-1)))) q1 q3 vq1_0 vq1_1 vq1_2 vq1_3 vq1_4 vq1_5 vq1_6 vq1_7 hw  _ _ hP hD hS ls (lv_sub hl [1, 2, 0] rfl)
    exact key _ l2 n_q3 q1 q3 vq1_0 vq1_1 vq1_2 vq1_3 vq1_4 vq1_5 vq1_6 vq1_7 (Nat.lt_succ_self _) hI
  have hl := lv_entry ([.ref h0]) (n := 3) (Nat.le_of_ble_eq_true rfl)
  rw [lg_entry_eq]
  generalize (lg_sl ([.ref h0]) ++ List.replicate (3 - (lg_sl ([.ref h0])).length) Slot.unset).toArray = ls at hl ⊢
  have hl : lv_has ls 3 [(0, .ref h0)] := hl
  unfold wp_X1_opposite at hw
  refine va_new (D := g.1) (ci := 1) (fs := [.int 0, .int 0, .int 0, .int 0, .int 0, .int 0, .int 0, .int 0, .null]) (C := RX1) (T := TX1) (N := 9) hx hb hts hinX1 tyX1 tyX1_ok hown lk1 lk2 lk3 hK hP hD hS hA rfl (fun j hj => by rcases (show j = 0 ∨ j = 1 ∨ j = 2 ∨ j = 3 ∨ j = 4 ∨ j = 5 ∨ j = 6 ∨ j = 7 ∨ j = 8 by omega) with rfl | rfl | rfl | rfl | rfl | rfl | rfl | rfl | rfl <;> rfl) (Nat.le_of_ble_eq_true rfl) (Nat.le_of_ble_eq_true rfl) dX1_opposite_0 (fun q1 H hP hD hS => ?_)
  have hP : PP g [(q1, .inr (1, [.int 0, .int 0, .int 0, .int 0, .int 0, .int 0, .int 0, .int 0, .null]))] H := hP
  have hD : va_D A [(q1, .inr (1, [.int 0, .int 0, .int 0, .int 0, .int 0, .int 0, .int 0, .int 0, .null]))] := hD
  replace hw := hw q1 (fun h9 => (hro.2.2.2.1 q1 h9).1 (hD.2 0 _ rfl))
  refine lv_dup hx hb dX1_opposite_3 rfl ?_
  refine lv_aload_n hx hb dX1_opposite_4 rfl (lv_at hl 0 rfl) ?_
  obtain ⟨hp2, hw⟩ := hw
  refine va_get (D := g.1) (ci := 1) (v := .int (pv.2.1 h0 0)) (C := RX1) (T := TX1) (N := 9) hx hb hts hinX1 hown hK (pool_O hro hS hp2) 0 rfl rfl 0 (by decide) lk5 (fun _ h9 => h9) rfl dX1_opposite_5 ?_
  refine lv_aload_n hx hb dX1_opposite_8 rfl (lv_at hl 0 rfl) ?_
  refine va_get (D := g.1) (ci := 1) (v := .int (pv.2.1 h0 1)) (C := RX1) (T := TX1) (N := 9) hx hb hts hinX1 hown hK (pool_O hro hS hp2) 0 rfl rfl 1 (by decide) lk6 (fun _ h9 => h9) rfl dX1_opposite_9 ?_
  refine lv_aload_n hx hb dX1_opposite_12 rfl (lv_at hl 0 rfl) ?_
  refine va_get (D := g.1) (ci := 1) (v := .int (pv.2.1 h0 2)) (C := RX1) (T := TX1) (N := 9) hx hb hts hinX1 hown hK (pool_O hro hS hp2) 0 rfl rfl 2 (by decide) lk7 (fun _ h9 => h9) rfl dX1_opposite_13 ?_
  refine lv_aload_n hx hb dX1_opposite_16 rfl (lv_at hl 0 rfl) ?_
  refine va_get (D := g.1) (ci := 1) (v := .int (pv.2.1 h0 3)) (C := RX1) (T := TX1) (N := 9) hx hb hts hinX1 hown hK (pool_O hro hS hp2) 0 rfl rfl 3 (by decide) lk8 (fun _ h9 => h9) rfl dX1_opposite_17 ?_
  refine lv_aload_n hx hb dX1_opposite_20 rfl (lv_at hl 0 rfl) ?_
  refine va_get (D := g.1) (ci := 1) (v := .int (pv.2.1 h0 4)) (C := RX1) (T := TX1) (N := 9) hx hb hts hinX1 hown hK (pool_O hro hS hp2) 0 rfl rfl 4 (by decide) lk9 (fun _ h9 => h9) rfl dX1_opposite_21 ?_
  refine kn_Iv (As := [.int (pv.2.1 h0 0), .int (pv.2.1 h0 1), .int (pv.2.1 h0 2), .int (pv.2.1 h0 3), .int (pv.2.1 h0 4)]) (rest := [.ref q1]) (wc := [(q1, .inr (1, [.int 0, .int 0, .int 0, .int 0, .int 0, .int 0, .int 0, .int 0, .null]))]) (wr := []) ⟨hx, hb, hml, hown, hts⟩ (m_X1_init l g hok (h0 := q1) (x1 := (pv.2.1 h0 0)) (x2 := (pv.2.1 h0 1)) (x3 := (pv.2.1 h0 2)) (x4 := (pv.2.1 h0 3)) (x5 := (pv.2.1 h0 4)) hw) (cwI 5 hts ggX1_opposite_X1_init rfl rfl rfl lk3 lk14 lk15 rfl hd_X1_init ⟨Nat.le_of_ble_eq_true rfl, Nat.le_of_ble_eq_true rfl⟩) hok hK hP hD hS hA (ro_pass hok hro hS (va_free (wc := [(q1, .inr (1, [.int 0, .int 0, .int 0, .int 0, .int 0, .int 0, .int 0, .int 0, .null]))]) hD hS hA [0] rfl)) [0] [] rfl rfl (by decide) (by decide) (by decide)  rfl hl.1 rfl (Nat.le_of_ble_eq_true rfl) dX1_opposite_24 ⟨Nat.le_of_ble_eq_true rfl, Nat.le_of_ble_eq_true rfl⟩ (fun u H locs hw hP hD hS => ?_)
  obtain ⟨q3, w4, w5, w6, w7, w8, w9, w10, w11, w12⟩ := u
  have hP : PP g [(q1, .inr (1, [.int w4, .int w5, .int w6, .int w7, .int w8, .int w9, .int w10, .int w11, .ref q3])), (q3, .inl (g.2.1, 16, .inl w12))] H := hP
  have hD : va_D A [(q1, .inr (1, [.int w4, .int w5, .int w6, .int w7, .int w8, .int w9, .int w10, .int w11, .ref q3])), (q3, .inl (g.2.1, 16, .inl w12))] := hD
  refine lv_astore_n (lv' := [(1, .ref q1), (0, .ref h0)]) hx hb dX1_opposite_27 rfl hl (by decide) rfl (fun ls hl => ?_)
  refine lv_aload_n hx hb dX1_opposite_28 rfl (lv_at hl 0 rfl) ?_
  refine lv_aload_n hx hb dX1_opposite_29 rfl (lv_at hl 1 rfl) ?_
  refine va_get (D := g.1) (ci := 1) (v := .int (pv.2.1 h0 6)) (C := RX1) (T := TX1) (N := 9) hx hb hts hinX1 hown hK (pool_O hro hS hp2) 0 rfl rfl 6 (by decide) lk10 (fun _ h9 => h9) rfl dX1_opposite_30 ?_
  refine va_put (D := g.1) (ci := 1) (v := .int (pv.2.1 h0 6)) (ty := .int) (C := RX1) (T := TX1) (N := 9) hx hb hts hinX1 tyX1 tyX1_ok nmX1 hown hK hP hD hS 0 rfl rfl 6 (by decide) lk10 (fun _ h9 => h9) rfl (by decide +kernel) rfl rfl (Nat.le_of_ble_eq_true rfl) dX1_opposite_33 (fun H locs hP hD hS => ?_)
  have hP : PP g [(q1, .inr (1, [.int w4, .int w5, .int w6, .int w7, .int w8, .int w9, .int (pv.2.1 h0 6), .int w11, .ref q3])), (q3, .inl (g.2.1, 16, .inl w12))] H := hP
  have hD : va_D A [(q1, .inr (1, [.int w4, .int w5, .int w6, .int w7, .int w8, .int w9, .int (pv.2.1 h0 6), .int w11, .ref q3])), (q3, .inl (g.2.1, 16, .inl w12))] := hD
  refine lv_aload_n hx hb dX1_opposite_36 rfl (lv_at hl 0 rfl) ?_
  refine lv_aload_n hx hb dX1_opposite_37 rfl (lv_at hl 1 rfl) ?_
  refine va_get (D := g.1) (ci := 1) (v := .int (pv.2.1 h0 7)) (C := RX1) (T := TX1) (N := 9) hx hb hts hinX1 hown hK (pool_O hro hS hp2) 0 rfl rfl 7 (by decide) lk11 (fun _ h9 => h9) rfl dX1_opposite_38 ?_
  refine va_put (D := g.1) (ci := 1) (v := .int (pv.2.1 h0 7)) (ty := .int) (C := RX1) (T := TX1) (N := 9) hx hb hts hinX1 tyX1 tyX1_ok nmX1 hown hK hP hD hS 0 rfl rfl 7 (by decide) lk11 (fun _ h9 => h9) rfl (by decide +kernel) rfl rfl (Nat.le_of_ble_eq_true rfl) dX1_opposite_41 (fun H locs hP hD hS => ?_)
  have hP : PP g [(q1, .inr (1, [.int w4, .int w5, .int w6, .int w7, .int w8, .int w9, .int (pv.2.1 h0 6), .int (pv.2.1 h0 7), .ref q3])), (q3, .inl (g.2.1, 16, .inl w12))] H := hP
  have hD : va_D A [(q1, .inr (1, [.int w4, .int w5, .int w6, .int w7, .int w8, .int w9, .int (pv.2.1 h0 6), .int (pv.2.1 h0 7), .ref q3])), (q3, .inl (g.2.1, 16, .inl w12))] := hD
  refine lv_iconst (v := 0) hx hb dX1_opposite_44 (by decide) ?_
  refine lv_istore_n (lv' := [(2, .int 0), (1, .ref q1), (0, .ref h0)]) hx hb dX1_opposite_45 rfl hl (by decide) rfl (fun ls hl => ?_)
  exact B46  0 w12 q1 q3 w4 w5 w6 w7 w8 w9 (pv.2.1 h0 6) (pv.2.1 h0 7) hw  _ _ hP hD hS ls (lv_sub hl [2, 1, 0] rfl)
