def wp_X5_init  (Q : Nat → (Nat → Int32) → Prop) : Prop :=
  ∀ q1 : Nat, Q q1 (fun _ => 0)
theorem hd_X5_init : yX5_init.cls ≠ "java/lang/invoke/MethodHandle" ∧ yX5_init.cls ≠ "java/lang/invoke/VarHandle" ∧ (parseMethodDescriptor yX5_init.desc).map (fun d => d.parameters.length) = some 0 := by decide +kernel
set_option maxHeartbeats 4000000 in
set_option maxRecDepth 100000 in
theorem m_X5_init (l : Launch) (g : GG) {ro : Ro} (hok : RoOK ro) {h0 : Nat} {sz : Nat} {Q : Nat → (Nat → Int32) → Prop} (hw : wp_X5_init  Q) : Met l yX5_init wsX5_init ({ frames := 1, cells := 1, slots := 10, locals := 20 } : Room) (PcM g ro [(h0, .inr (5, [.null, .int 0]))] sz [.ref h0]) (va_Qv (fun (u : Nat × (Nat → Int32)) => Q u.1 u.2) (BM g (fun u : Nat × (Nat → Int32) => [(h0, .inr (5, [.ref u.1, .int 0])), (u.1, .inl (g.2.1, 10, .inl u.2))]) (va_A [(h0, .inr (5, [.null, .int 0]))] sz)) (va_A [(h0, .inr (5, [.null, .int 0]))] sz)) 1 10 (va_A [(h0, .inr (5, [.null, .int 0]))] sz) := by
  refine Met.ofW (cc := cX5_init) (maxL := 1) (ret := none) (by decide) rfl ?_
  intro p e s m args below meth c s₁ B hml hv
  obtain ⟨rfl, hsz, hP, hK, hD0, hro⟩ := hv
  have hx := B.exec
  have hb := B.bytes
  have hr := B.returns
  have hts := atoms_spec (ws := wsX5_init) B.pre
  have hown : s.vm.findClass RX5 = some m.cls := findClass_of_methodNamed B.named
  have hlocks := B.notSynchronized
  have hin : meth.name = "<init>" := (name_of_methodNamed B.named B.method).1
  subst hsz
  have hD := hD0.self (sz := s.heap.size)
  generalize hAe : va_A [(h0, .inr (5, [.null, .int 0]))] s.heap.size = A at hD hro ⊢
  have hA : ∀ q : Nat, s.heap.size ≤ q → A q := fun q h => by rw [← hAe]; exact Or.inr h
  have hS : va_S A s.heap s.heap [] := va_S.rf
  have hP : PP g [(h0, .inr (5, [.null, .int 0]))] s.heap := hP
  have lk1 := hts (.methodLink RX5 3 objectInit) (by decide +kernel)
  have lk2 := hts (.instanceMethod objectInit) (by decide +kernel)
  have lk3 := hts (.code objectInit ⟨#[0xb1]⟩ 1 none) (by decide +kernel)
  have lk4 := hts (.arrayClass .int) (by decide +kernel)
  have lk5 := hts (.fieldLink RX5 9 "GridRiddles$Text" "signs" "[I") (by decide +kernel)
  have hinX5 : ∀ w ∈ u_ws RX5 TX5 2, w ∈ wsX5_init := by decide +kernel
  have lk7 := hts (.fieldLink RX5 15 "GridRiddles$Text" "size" "I") (by decide +kernel)
  have hl := lv_entry ([.ref h0]) (n := 1) (Nat.le_of_ble_eq_true rfl)
  rw [lg_entry_eq]
  generalize (lg_sl ([.ref h0]) ++ List.replicate (1 - (lg_sl ([.ref h0])).length) Slot.unset).toArray = ls at hl ⊢
  have hl : lv_has ls 1 [(0, .ref h0)] := hl
  unfold wp_X5_init at hw
  refine lv_aload_n hx hb dX5_init_0 rfl (lv_at hl 0 rfl) ?_
  refine W.objInit hx hb hown lk1 lk2 lk3 rfl (by rw [hml]; exact hl.1) rfl dX5_init_1 (Nat.le_of_ble_eq_true rfl) (Nat.le_of_ble_eq_true rfl) ?_
  refine W.eq (g2 := F0 m 4 ls []) rfl ?_
  refine lv_aload_n hx hb dX5_init_4 rfl (lv_at hl 0 rfl) ?_
  refine lv_bipush (v := 10) hx hb dX5_init_5 (by decide) ?_
  refine kw_newI hx hb lk4 hK hP hD hS hA (N' := 10) (by decide) (by decide) (by decide) (Nat.le_of_ble_eq_true rfl) (Nat.le_of_ble_eq_true rfl) dX5_init_7 (fun q1 H hP hD hS => ?_)
  have hP : PP g [(h0, .inr (5, [.null, .int 0])), (q1, .inl (g.2.1, 10, .inl (fun _ => 0)))] H := hP
  have hD : va_D A [(h0, .inr (5, [.null, .int 0])), (q1, .inl (g.2.1, 10, .inl (fun _ => 0)))] := hD
  replace hw := hw q1
  refine va_putF (D := g.1) (ci := 5) (v := .ref q1) (ty := .array .int) (C := RX5) (T := TX5) (N := 2) hx hb hts hinX5 tyX5 tyX5_ok nmX5 hown hK hP hD hS 0 rfl rfl 0 (by decide) lk5 (fun _ h9 => h9) rfl hin rfl (by decide +kernel) rfl rfl (Nat.le_of_ble_eq_true rfl) dX5_init_9 (fun H locs hP hD hS => ?_)
  have hP : PP g [(h0, .inr (5, [.ref q1, .int 0])), (q1, .inl (g.2.1, 10, .inl (fun _ => 0)))] H := hP
  have hD : va_D A [(h0, .inr (5, [.ref q1, .int 0])), (q1, .inl (g.2.1, 10, .inl (fun _ => 0)))] := hD
  refine lv_aload_n hx hb dX5_init_12 rfl (lv_at hl 0 rfl) ?_
  refine lv_iconst (v := 0) hx hb dX5_init_13 (by decide) ?_
  refine va_put (D := g.1) (ci := 5) (v := .int 0) (ty := .int) (C := RX5) (T := TX5) (N := 2) hx hb hts hinX5 tyX5 tyX5_ok nmX5 hown hK hP hD hS 0 rfl rfl 1 (by decide) lk7 (fun _ h9 => h9) rfl (by decide +kernel) rfl rfl (Nat.le_of_ble_eq_true rfl) dX5_init_14 (fun H locs hP hD hS => ?_)
  have hP : PP g [(h0, .inr (5, [.ref q1, .int 0])), (q1, .inl (g.2.1, 10, .inl (fun _ => 0)))] H := hP
  have hD : va_D A [(h0, .inr (5, [.ref q1, .int 0])), (q1, .inl (g.2.1, 10, .inl (fun _ => 0)))] := hD
  exact W.vret hx hb hr (fun t ht hW => ⟨⟨(q1, (fun _ => 0)), rfl, hw, by rw [ht]; exact hP, va_K.moved hW.alike hK, hD⟩, hS.F ht⟩) hS.2.2 dX5_init_17

def wp_X5_isLetter (x1 : Int32) (Q : Int32 → Prop) : Prop :=
  ((x1 < 97 → Q 0) ∧ (¬ (x1 < 97) → ((100 < x1 → Q 0) ∧ (¬ (100 < x1) → Q 1))))
theorem hd_X5_isLetter : yX5_isLetter.cls ≠ "java/lang/invoke/MethodHandle" ∧ yX5_isLetter.cls ≠ "java/lang/invoke/VarHandle" ∧ (parseMethodDescriptor yX5_isLetter.desc).map (fun d => d.parameters.length) = some 1 := by decide +kernel
set_option maxHeartbeats 4000000 in
set_option maxRecDepth 100000 in
theorem m_X5_isLetter (l : Launch) (g : GG) {ro : Ro} (hok : RoOK ro) {x1 : Int32} {Q : Int32 → Prop} (hw : wp_X5_isLetter x1 Q) : Met l yX5_isLetter wsX5_isLetter ({ frames := 0, cells := 0, slots := 0, locals := 0 } : Room) (PcP g ro [] [.int x1]) (vp_Si Q) 0 0 (fun _ => False) := by
  refine Met.ofW (cc := cX5_isLetter) (maxL := 1) (ret := (some .boolean)) (by decide) rfl ?_
  intro p e s m args below meth c s₁ B hml hv
  obtain ⟨rfl, hP, hK, hro⟩ := hv
  have hx := B.exec
  have hb := B.bytes
  have hr := B.returns
  have hts := atoms_spec (ws := wsX5_isLetter) B.pre
  have hown : s.vm.findClass RX5 = some m.cls := findClass_of_methodNamed B.named
  have hlocks := B.notSynchronized
  have hA : ∀ q : Nat, s.heap.size ≤ q → (fun q : Nat => s.heap.size ≤ q) q := fun _ h => h
  have hS : va_S (fun q : Nat => s.heap.size ≤ q) s.heap s.heap [] := va_S.rf
  have hP : PP g [] s.heap := hP
  have hl := lv_entry ([.int x1]) (n := 1) (Nat.le_of_ble_eq_true rfl)
  rw [lg_entry_eq]
  generalize (lg_sl ([.int x1]) ++ List.replicate (1 - (lg_sl ([.int x1])).length) Slot.unset).toArray = ls at hl ⊢
  have hl : lv_has ls 1 [(0, .int x1)] := hl
  unfold wp_X5_isLetter at hw
  refine lv_iload_n hx hb dX5_isLetter_0 rfl (lv_at hl 0 rfl) ?_
  refine lv_bipush (v := 97) hx hb dX5_isLetter_1 (by decide) ?_
  refine lv_icmp_lt (tgt := 16) hx hb dX5_isLetter_3 (by decide) (fun c1 => ?_) (fun c1 => ?_)
  · replace hw := hw.1 c1
    refine lv_iconst (v := 0) hx hb dX5_isLetter_16 (by decide) ?_
    exact W.zret hx hb hr (zb_nar zb0) (fun t ht _ => ⟨0, rfl, hw, ht⟩) t_nil dX5_isLetter_17
  · replace hw := hw.2 c1
    refine lv_iload_n hx hb dX5_isLetter_6 rfl (lv_at hl 0 rfl) ?_
    refine lv_bipush (v := 100) hx hb dX5_isLetter_7 (by decide) ?_
    refine lv_icmp_gt (tgt := 16) hx hb dX5_isLetter_9 (by decide) (fun c2 => ?_) (fun c2 => ?_)
    · replace hw := hw.1 c2
      refine lv_iconst (v := 0) hx hb dX5_isLetter_16 (by decide) ?_
      exact W.zret hx hb hr (zb_nar zb0) (fun t ht _ => ⟨0, rfl, hw, ht⟩) t_nil dX5_isLetter_17
    · replace hw := hw.2 c2
      refine lv_iconst (v := 1) hx hb dX5_isLetter_12 (by decide) ?_
      refine lv_goto (tgt := 17) hx hb dX5_isLetter_13 (by decide) ?_
      exact W.zret hx hb hr (zb_nar zb1) (fun t ht _ => ⟨1, rfl, hw, ht⟩) t_nil dX5_isLetter_17

def wp_X5_isFigure (x1 : Int32) (Q : Int32 → Prop) : Prop :=
  ((x1 < 49 → Q 0) ∧ (¬ (x1 < 49) → ((52 < x1 → Q 0) ∧ (¬ (52 < x1) → Q 1))))
theorem hd_X5_isFigure : yX5_isFigure.cls ≠ "java/lang/invoke/MethodHandle" ∧ yX5_isFigure.cls ≠ "java/lang/invoke/VarHandle" ∧ (parseMethodDescriptor yX5_isFigure.desc).map (fun d => d.parameters.length) = some 1 := by decide +kernel
set_option maxHeartbeats 4000000 in
set_option maxRecDepth 100000 in
theorem m_X5_isFigure (l : Launch) (g : GG) {ro : Ro} (hok : RoOK ro) {x1 : Int32} {Q : Int32 → Prop} (hw : wp_X5_isFigure x1 Q) : Met l yX5_isFigure wsX5_isFigure ({ frames := 0, cells := 0, slots := 0, locals := 0 } : Room) (PcP g ro [] [.int x1]) (vp_Si Q) 0 0 (fun _ => False) := by
  refine Met.ofW (cc := cX5_isFigure) (maxL := 1) (ret := (some .boolean)) (by decide) rfl ?_
  intro p e s m args below meth c s₁ B hml hv
  obtain ⟨rfl, hP, hK, hro⟩ := hv
  have hx := B.exec
  have hb := B.bytes
  have hr := B.returns
  have hts := atoms_spec (ws := wsX5_isFigure) B.pre
  have hown : s.vm.findClass RX5 = some m.cls := findClass_of_methodNamed B.named
  have hlocks := B.notSynchronized
  have hA : ∀ q : Nat, s.heap.size ≤ q → (fun q : Nat => s.heap.size ≤ q) q := fun _ h => h
  have hS : va_S (fun q : Nat => s.heap.size ≤ q) s.heap s.heap [] := va_S.rf
  have hP : PP g [] s.heap := hP
  have hl := lv_entry ([.int x1]) (n := 1) (Nat.le_of_ble_eq_true rfl)
  rw [lg_entry_eq]
  generalize (lg_sl ([.int x1]) ++ List.replicate (1 - (lg_sl ([.int x1])).length) Slot.unset).toArray = ls at hl ⊢
  have hl : lv_has ls 1 [(0, .int x1)] := hl
  unfold wp_X5_isFigure at hw
  refine lv_iload_n hx hb dX5_isFigure_0 rfl (lv_at hl 0 rfl) ?_
  refine lv_bipush (v := 49) hx hb dX5_isFigure_1 (by decide) ?_
  refine lv_icmp_lt (tgt := 16) hx hb dX5_isFigure_3 (by decide) (fun c1 => ?_) (fun c1 => ?_)
  · replace hw := hw.1 c1
    refine lv_iconst (v := 0) hx hb dX5_isFigure_16 (by decide) ?_
    exact W.zret hx hb hr (zb_nar zb0) (fun t ht _ => ⟨0, rfl, hw, ht⟩) t_nil dX5_isFigure_17
  · replace hw := hw.2 c1
    refine lv_iload_n hx hb dX5_isFigure_6 rfl (lv_at hl 0 rfl) ?_
    refine lv_bipush (v := 52) hx hb dX5_isFigure_7 (by decide) ?_
    refine lv_icmp_gt (tgt := 16) hx hb dX5_isFigure_9 (by decide) (fun c2 => ?_) (fun c2 => ?_)
    · replace hw := hw.1 c2
      refine lv_iconst (v := 0) hx hb dX5_isFigure_16 (by decide) ?_
      exact W.zret hx hb hr (zb_nar zb0) (fun t ht _ => ⟨0, rfl, hw, ht⟩) t_nil dX5_isFigure_17
    · replace hw := hw.2 c2
      refine lv_iconst (v := 1) hx hb dX5_isFigure_12 (by decide) ?_
      refine lv_goto (tgt := 17) hx hb dX5_isFigure_13 (by decide) ?_
      exact W.zret hx hb hr (zb_nar zb1) (fun t ht _ => ⟨1, rfl, hw, ht⟩) t_nil dX5_isFigure_17

def wp_X5_kindOf (x1 : Int32) (Q : Int32 → Prop) : Prop :=
  ((x1 = 33 → Q 1) ∧ (x1 = 43 → Q 3) ∧ (x1 = 60 → Q 2) ∧ (x1 = 61 → Q 0) ∧ (x1 = 64 → Q 5) ∧ (x1 = 126 → Q 4) ∧ (¬ x1 = 33 ∧ ¬ x1 = 43 ∧ ¬ x1 = 60 ∧ ¬ x1 = 61 ∧ ¬ x1 = 64 ∧ ¬ x1 = 126 → Q (-6)))
theorem hd_X5_kindOf : yX5_kindOf.cls ≠ "java/lang/invoke/MethodHandle" ∧ yX5_kindOf.cls ≠ "java/lang/invoke/VarHandle" ∧ (parseMethodDescriptor yX5_kindOf.desc).map (fun d => d.parameters.length) = some 1 := by decide +kernel
set_option maxHeartbeats 4000000 in
set_option maxRecDepth 100000 in
theorem m_X5_kindOf (l : Launch) (g : GG) {ro : Ro} (hok : RoOK ro) {x1 : Int32} {Q : Int32 → Prop} (hw : wp_X5_kindOf x1 Q) : Met l yX5_kindOf wsX5_kindOf ({ frames := 0, cells := 0, slots := 0, locals := 0 } : Room) (PcP g ro [] [.int x1]) (vp_Si Q) 0 0 (fun _ => False) := by
  refine Met.ofW (cc := cX5_kindOf) (maxL := 1) (ret := (some .int)) (by decide) rfl ?_
  intro p e s m args below meth c s₁ B hml hv
  obtain ⟨rfl, hP, hK, hro⟩ := hv
  have hx := B.exec
  have hb := B.bytes
  have hr := B.returns
  have hts := atoms_spec (ws := wsX5_kindOf) B.pre
  have hown : s.vm.findClass RX5 = some m.cls := findClass_of_methodNamed B.named
  have hlocks := B.notSynchronized
  have hA : ∀ q : Nat, s.heap.size ≤ q → (fun q : Nat => s.heap.size ≤ q) q := fun _ h => h
  have hS : va_S (fun q : Nat => s.heap.size ≤ q) s.heap s.heap [] := va_S.rf
  have hP : PP g [] s.heap := hP
  have hl := lv_entry ([.int x1]) (n := 1) (Nat.le_of_ble_eq_true rfl)
  rw [lg_entry_eq]
  generalize (lg_sl ([.int x1]) ++ List.replicate (1 - (lg_sl ([.int x1])).length) Slot.unset).toArray = ls at hl ⊢
  have hl : lv_has ls 1 [(0, .int x1)] := hl
  unfold wp_X5_kindOf at hw
  refine lv_iload_n hx hb dX5_kindOf_0 rfl (lv_at hl 0 rfl) ?_
  by_cases c1_0 : x1 = 33
  · refine lv_lookup (off := 61) (tgt := 62) hx hb dX5_kindOf_1 (by decide) (by rw [c1_0]; first | done | rfl) (by decide) ?_
    replace hw := hw.1 c1_0
    refine lv_iconst (v := 1) hx hb dX5_kindOf_62 (by decide) ?_
    exact W.iret hx hb hr (fun t ht _ => ⟨1, rfl, hw, ht⟩) t_nil dX5_kindOf_63
  replace hw := hw.2
  by_cases c1_1 : x1 = 43
  · refine lv_lookup (off := 65) (tgt := 66) hx hb dX5_kindOf_1 (by decide) (by rw [c1_1]; first | done | rfl) (by decide) ?_
    replace hw := hw.1 c1_1
    refine lv_iconst (v := 3) hx hb dX5_kindOf_66 (by decide) ?_
    exact W.iret hx hb hr (fun t ht _ => ⟨3, rfl, hw, ht⟩) t_nil dX5_kindOf_67
  replace hw := hw.2
  by_cases c1_2 : x1 = 60
  · refine lv_lookup (off := 63) (tgt := 64) hx hb dX5_kindOf_1 (by decide) (by rw [c1_2]; first | done | rfl) (by decide) ?_
    replace hw := hw.1 c1_2
    refine lv_iconst (v := 2) hx hb dX5_kindOf_64 (by decide) ?_
    exact W.iret hx hb hr (fun t ht _ => ⟨2, rfl, hw, ht⟩) t_nil dX5_kindOf_65
  replace hw := hw.2
  by_cases c1_3 : x1 = 61
  · refine lv_lookup (off := 59) (tgt := 60) hx hb dX5_kindOf_1 (by decide) (by rw [c1_3]; first | done | rfl) (by decide) ?_
    replace hw := hw.1 c1_3
    refine lv_iconst (v := 0) hx hb dX5_kindOf_60 (by decide) ?_
    exact W.iret hx hb hr (fun t ht _ => ⟨0, rfl, hw, ht⟩) t_nil dX5_kindOf_61
  replace hw := hw.2
  by_cases c1_4 : x1 = 64
  · refine lv_lookup (off := 69) (tgt := 70) hx hb dX5_kindOf_1 (by decide) (by rw [c1_4]; first | done | rfl) (by decide) ?_
    replace hw := hw.1 c1_4
    refine lv_iconst (v := 5) hx hb dX5_kindOf_70 (by decide) ?_
    exact W.iret hx hb hr (fun t ht _ => ⟨5, rfl, hw, ht⟩) t_nil dX5_kindOf_71
  replace hw := hw.2
  by_cases c1_5 : x1 = 126
  · refine lv_lookup (off := 67) (tgt := 68) hx hb dX5_kindOf_1 (by decide) (by rw [c1_5]; first | done | rfl) (by decide) ?_
    replace hw := hw.1 c1_5
    refine lv_iconst (v := 4) hx hb dX5_kindOf_68 (by decide) ?_
    exact W.iret hx hb hr (fun t ht _ => ⟨4, rfl, hw, ht⟩) t_nil dX5_kindOf_69
  replace hw := hw.2
  refine lv_lookup (off := 71) (tgt := 72) hx hb dX5_kindOf_1 (by decide) (by simp only [lv_osw c1_0 (show (33 : Int32).toInt = 33 from by decide), lv_osw c1_1 (show (43 : Int32).toInt = 43 from by decide), lv_osw c1_2 (show (60 : Int32).toInt = 60 from by decide), lv_osw c1_3 (show (61 : Int32).toInt = 61 from by decide), lv_osw c1_4 (show (64 : Int32).toInt = 64 from by decide), lv_osw c1_5 (show (126 : Int32).toInt = 126 from by decide)]; first | done | rfl) (by decide) ?_
  replace hw := hw ⟨c1_0, c1_1, c1_2, c1_3, c1_4, c1_5⟩
  refine lv_bipush (v := (-6)) hx hb dX5_kindOf_72 (by decide) ?_
  exact W.iret hx hb hr (fun t ht _ => ⟨(-6), rfl, hw, ht⟩) t_nil dX5_kindOf_74

def wp_X5_add (x1 : Int32) (h0_size : Int32) (h0_sg : Nat → Int32) (Q : Int32 → (Nat → Int32) → Prop) : Prop :=
  ((10 ≤ h0_size → Q h0_size h0_sg) ∧ (¬ (10 ≤ h0_size) → (vp_in h0_size 10 ∧ Q (h0_size + 1) (upd h0_sg h0_size.toNatClampNeg x1))))
theorem hd_X5_add : yX5_add.cls = RX5 ∧ yX5_add.cls ≠ "java/lang/invoke/MethodHandle" ∧ yX5_add.cls ≠ "java/lang/invoke/VarHandle" ∧ (parseMethodDescriptor yX5_add.desc).map (fun d => d.parameters.length) = some 1 := by decide +kernel
set_option maxHeartbeats 4000000 in
set_option maxRecDepth 100000 in
theorem m_X5_add (l : Launch) (g : GG) {ro : Ro} (hok : RoOK ro) {h0 h0s : Nat} {h0_size : Int32} {h0_sg : Nat → Int32} {x1 : Int32} {sz : Nat} {Q : Int32 → (Nat → Int32) → Prop} (hw : wp_X5_add x1 h0_size h0_sg Q) : Met l yX5_add wsX5_add ({ frames := 0, cells := 0, slots := 0, locals := 0 } : Room) (PcM g ro [(h0, .inr (5, [.ref h0s, .int h0_size])), (h0s, .inl (g.2.1, 10, .inl h0_sg))] sz [.ref h0, .int x1]) (va_Qv (fun (u : Int32 × (Nat → Int32)) => Q u.1 u.2) (BM g (fun u : Int32 × (Nat → Int32) => [(h0, .inr (5, [.ref h0s, .int u.1])), (h0s, .inl (g.2.1, 10, .inl u.2))]) (va_A [(h0, .inr (5, [.ref h0s, .int h0_size])), (h0s, .inl (g.2.1, 10, .inl h0_sg))] sz)) (va_A [(h0, .inr (5, [.ref h0s, .int h0_size])), (h0s, .inl (g.2.1, 10, .inl h0_sg))] sz)) 0 0 (va_A [(h0, .inr (5, [.ref h0s, .int h0_size])), (h0s, .inl (g.2.1, 10, .inl h0_sg))] sz) := by
  refine Met.ofW (cc := cX5_add) (maxL := 2) (ret := none) (by decide) rfl ?_
  intro p e s m args below meth c s₁ B hml hv
  obtain ⟨rfl, hsz, hP, hK, hD0, hro⟩ := hv
  have hx := B.exec
  have hb := B.bytes
  have hr := B.returns
  have hts := atoms_spec (ws := wsX5_add) B.pre
  have hown : s.vm.findClass RX5 = some m.cls := findClass_of_methodNamed B.named
  have hlocks := B.notSynchronized
  subst hsz
  have hD := hD0.self (sz := s.heap.size)
  generalize hAe : va_A [(h0, .inr (5, [.ref h0s, .int h0_size])), (h0s, .inl (g.2.1, 10, .inl h0_sg))] s.heap.size = A at hD hro ⊢
  have hA : ∀ q : Nat, s.heap.size ≤ q → A q := fun q h => by rw [← hAe]; exact Or.inr h
  have hS : va_S A s.heap s.heap [] := va_S.rf
  have hP : PP g [(h0, .inr (5, [.ref h0s, .int h0_size])), (h0s, .inl (g.2.1, 10, .inl h0_sg))] s.heap := hP
  have lk1 := hts (.fieldLink RX5 15 "GridRiddles$Text" "size" "I") (by decide +kernel)
  have hinX5 : ∀ w ∈ u_ws RX5 TX5 2, w ∈ wsX5_add := by decide +kernel
  have lk3 := hts (.fieldLink RX5 9 "GridRiddles$Text" "signs" "[I") (by decide +kernel)
  have hl := lv_entry ([.ref h0, .int x1]) (n := 2) (Nat.le_of_ble_eq_true rfl)
  rw [lg_entry_eq]
  generalize (lg_sl ([.ref h0, .int x1]) ++ List.replicate (2 - (lg_sl ([.ref h0, .int x1])).length) Slot.unset).toArray = ls at hl ⊢
  have hl : lv_has ls 2 [(0, .ref h0), (1, .int x1)] := hl
  unfold wp_X5_add at hw
  refine lv_aload_n hx hb dX5_add_0 rfl (lv_at hl 0 rfl) ?_
  refine va_get (D := g.1) (ci := 5) (v := .int h0_size) (C := RX5) (T := TX5) (N := 2) hx hb hts hinX5 hown hK hP 0 rfl rfl 1 (by decide) lk1 (fun _ h9 => h9) rfl dX5_add_1 ?_
  refine lv_bipush (v := 10) hx hb dX5_add_4 (by decide) ?_
  refine lv_icmp_ge (tgt := 29) hx hb dX5_add_6 (by decide) (fun c1 => ?_) (fun c1 => ?_)
  · replace hw := hw.1 c1
    exact W.vret hx hb hr (fun t ht hW => ⟨⟨(h0_size, h0_sg), rfl, hw, by rw [ht]; exact hP, va_K.moved hW.alike hK, hD⟩, hS.F ht⟩) hS.2.2 dX5_add_29
  · replace hw := hw.2 c1
    refine lv_aload_n hx hb dX5_add_9 rfl (lv_at hl 0 rfl) ?_
    refine va_get (D := g.1) (ci := 5) (v := .ref h0s) (C := RX5) (T := TX5) (N := 2) hx hb hts hinX5 hown hK hP 0 rfl rfl 0 (by decide) lk3 (fun _ h9 => h9) rfl dX5_add_10 ?_
    refine lv_aload_n hx hb dX5_add_13 rfl (lv_at hl 0 rfl) ?_
    refine va_get (D := g.1) (ci := 5) (v := .int h0_size) (C := RX5) (T := TX5) (N := 2) hx hb hts hinX5 hown hK hP 0 rfl rfl 1 (by decide) lk1 (fun _ h9 => h9) rfl dX5_add_14 ?_
    refine lv_iload_n hx hb dX5_add_17 rfl (lv_at hl 1 rfl) ?_
    obtain ⟨hi, hw⟩ := hw
    refine va_iast hx hb hK hP hD hS 1 0 rfl rfl hi dX5_add_18 (fun H locs hP hD hS => ?_)
    have hP : PP g [(h0, .inr (5, [.ref h0s, .int h0_size])), (h0s, .inl (g.2.1, 10, .inl (upd h0_sg h0_size.toNatClampNeg x1)))] H := hP
    have hD : va_D A [(h0, .inr (5, [.ref h0s, .int h0_size])), (h0s, .inl (g.2.1, 10, .inl (upd h0_sg h0_size.toNatClampNeg x1)))] := hD
    refine lv_aload_n hx hb dX5_add_19 rfl (lv_at hl 0 rfl) ?_
    refine lv_dup hx hb dX5_add_20 rfl ?_
    refine va_get (D := g.1) (ci := 5) (v := .int h0_size) (C := RX5) (T := TX5) (N := 2) hx hb hts hinX5 hown hK hP 0 rfl rfl 1 (by decide) lk1 (fun _ h9 => h9) rfl dX5_add_21 ?_
    refine lv_iconst (v := 1) hx hb dX5_add_24 (by decide) ?_
    refine lv_iadd hx hb dX5_add_25 ?_
    refine va_put (D := g.1) (ci := 5) (v := .int (h0_size + 1)) (ty := .int) (C := RX5) (T := TX5) (N := 2) hx hb hts hinX5 tyX5 tyX5_ok nmX5 hown hK hP hD hS 0 rfl rfl 1 (by decide) lk1 (fun _ h9 => h9) rfl (by decide +kernel) rfl rfl (Nat.le_of_ble_eq_true rfl) dX5_add_26 (fun H locs hP hD hS => ?_)
    have hP : PP g [(h0, .inr (5, [.ref h0s, .int (h0_size + 1)])), (h0s, .inl (g.2.1, 10, .inl (upd h0_sg h0_size.toNatClampNeg x1)))] H := hP
    have hD : va_D A [(h0, .inr (5, [.ref h0s, .int (h0_size + 1)])), (h0s, .inl (g.2.1, 10, .inl (upd h0_sg h0_size.toNatClampNeg x1)))] := hD
    exact W.vret hx hb hr (fun t ht hW => ⟨⟨((h0_size + 1), (upd h0_sg h0_size.toNatClampNeg x1)), rfl, hw, by rw [ht]; exact hP, va_K.moved hW.alike hK, hD⟩, hS.F ht⟩) hS.2.2 dX5_add_29

def wp_X5_canStand (x1 : Int32) (h0_sg : Nat → Int32) (Q : Int32 → Prop) : Prop :=
  (vp_in x1 10 ∧ ∀ w1 : Int32, w1 = (h0_sg x1.toNatClampNeg) → ((x1 = 0 → (wp_X5_isLetter w1 (fun r3 => (zb r3 ∧ Q r3)))) ∧ (x1 = 1 → (wp_X5_isFigure w1 (fun r4 => (zb r4 ∧ Q r4)))) ∧ (x1 = 2 → (wp_X5_kindOf w1 (fun r5 => ((r5 = (-6) → Q 0) ∧ (¬ (r5 = (-6)) → Q 1))))) ∧ (x1 = 3 → (((h0_sg (2 : Int32).toNatClampNeg) = 64 → (wp_X5_isFigure w1 (fun r9 => (zb r9 ∧ Q r9)))) ∧ (¬ ((h0_sg (2 : Int32).toNatClampNeg) = 64) → (wp_X5_isLetter w1 (fun r8 => (zb r8 ∧ Q r8)))))) ∧ (x1 = 4 → (((h0_sg (2 : Int32).toNatClampNeg) = 64 → Q 0) ∧ (¬ ((h0_sg (2 : Int32).toNatClampNeg) = 64) → (wp_X5_isFigure w1 (fun r11 => ((r11 = 0 → Q 0) ∧ (¬ (r11 = 0) → Q 1))))))) ∧ (x1 = 5 → (((h0_sg (2 : Int32).toNatClampNeg) = 61 → ((w1 = 124 → Q 1) ∧ (¬ (w1 = 124) → Q 0))) ∧ (¬ ((h0_sg (2 : Int32).toNatClampNeg) = 61) → Q 0))) ∧ (x1 = 6 → (wp_X5_isLetter w1 (fun r15 => (zb r15 ∧ Q r15)))) ∧ (x1 = 7 → (wp_X5_isFigure w1 (fun r16 => (zb r16 ∧ Q r16)))) ∧ (¬ x1 = 0 ∧ ¬ x1 = 1 ∧ ¬ x1 = 2 ∧ ¬ x1 = 3 ∧ ¬ x1 = 4 ∧ ¬ x1 = 5 ∧ ¬ x1 = 6 ∧ ¬ x1 = 7 → Q 0)))
theorem hd_X5_canStand : yX5_canStand.cls = RX5 ∧ yX5_canStand.cls ≠ "java/lang/invoke/MethodHandle" ∧ yX5_canStand.cls ≠ "java/lang/invoke/VarHandle" ∧ (parseMethodDescriptor yX5_canStand.desc).map (fun d => d.parameters.length) = some 1 := by decide +kernel
set_option maxHeartbeats 4000000 in
set_option maxRecDepth 100000 in
theorem m_X5_canStand (l : Launch) (g : GG) {ro : Ro} (hok : RoOK ro) {h0 h0s : Nat} {h0_size : Int32} {h0_sg : Nat → Int32} {x1 : Int32} {Q : Int32 → Prop} (hw : wp_X5_canStand x1 h0_sg Q) : Met l yX5_canStand wsX5_canStand ({ frames := 1, cells := 0, slots := 0, locals := 20 } : Room) (PcP g ro [(h0, .inr (5, [.ref h0s, .int h0_size])), (h0s, .inl (g.2.1, 10, .inl h0_sg))] [.ref h0, .int x1]) (vp_Si Q) 0 0 (fun _ => False) := by
  refine Met.ofW (cc := cX5_canStand) (maxL := 3) (ret := (some .boolean)) (by decide) rfl ?_
  intro p e s m args below meth c s₁ B hml hv
  obtain ⟨rfl, hP, hK, hro⟩ := hv
  have hx := B.exec
  have hb := B.bytes
  have hr := B.returns
  have hts := atoms_spec (ws := wsX5_canStand) B.pre
  have hown : s.vm.findClass RX5 = some m.cls := findClass_of_methodNamed B.named
  have hlocks := B.notSynchronized
  have hA : ∀ q : Nat, s.heap.size ≤ q → (fun q : Nat => s.heap.size ≤ q) q := fun _ h => h
  have hS : va_S (fun q : Nat => s.heap.size ≤ q) s.heap s.heap [] := va_S.rf
  have hP : PP g [(h0, .inr (5, [.ref h0s, .int h0_size])), (h0s, .inl (g.2.1, 10, .inl h0_sg))] s.heap := hP
  have lk1 := hts (.fieldLink RX5 9 "GridRiddles$Text" "signs" "[I") (by decide +kernel)
  have hinX5 : ∀ w ∈ u_ws RX5 TX5 2, w ∈ wsX5_canStand := by decide +kernel
  have hl := lv_entry ([.ref h0, .int x1]) (n := 3) (Nat.le_of_ble_eq_true rfl)
  rw [lg_entry_eq]
  generalize (lg_sl ([.ref h0, .int x1]) ++ List.replicate (3 - (lg_sl ([.ref h0, .int x1])).length) Slot.unset).toArray = ls at hl ⊢
  have hl : lv_has ls 3 [(0, .ref h0), (1, .int x1)] := hl
  unfold wp_X5_canStand at hw
  refine lv_aload_n hx hb dX5_canStand_0 rfl (lv_at hl 0 rfl) ?_
  refine va_get (D := g.1) (ci := 5) (v := .ref h0s) (C := RX5) (T := TX5) (N := 2) hx hb hts hinX5 hown hK hP 0 rfl rfl 0 (by decide) lk1 (fun _ h9 => h9) rfl dX5_canStand_1 ?_
  refine lv_iload_n hx hb dX5_canStand_4 rfl (lv_at hl 1 rfl) ?_
  obtain ⟨hi, hw⟩ := hw
  refine va_iald hx hb hK hP 1 0 rfl rfl hi dX5_canStand_5 ?_
  refine lv_topi (fun w1 ew1 => ?_)
  have hw := hw w1 ew1
  refine lv_istore_n (lv' := [(2, .int w1), (0, .ref h0), (1, .int x1)]) hx hb dX5_canStand_6 rfl hl (by decide) rfl (fun ls hl => ?_)
  refine lv_iload_n hx hb dX5_canStand_7 rfl (lv_at hl 2 rfl) ?_
  by_cases c2_0 : x1 = 0
  · refine lv_tableIn (tgt := 56) hx hb dX5_canStand_8 (by rw [c2_0]; decide) (by rw [c2_0]; decide) (by rw [c2_0]; rfl) (by decide) ?_
    replace hw := hw.1 c2_0
    refine lv_iload_n hx hb dX5_canStand_56 rfl (lv_at hl 0 rfl) ?_
    refine kp_S (As := [.int w1]) (rest := []) (wc := []) ⟨hx, hb, hml, hown, hts⟩ (m_X5_isLetter l g hok (x1 := w1) hw) (va_cwS 1 hts gX5_canStand_X5_isLetter rfl rfl rfl hd_X5_isLetter ⟨Nat.le_of_ble_eq_true rfl, Nat.le_of_ble_eq_true rfl⟩) hok hK PP_nil hro hS hA rfl hl.1 rfl (Nat.le_of_ble_eq_true rfl) dX5_canStand_57 ⟨Nat.le_of_ble_eq_true rfl, Nat.le_of_ble_eq_true rfl⟩ (fun r3 hw => ?_)
    obtain ⟨hz, hw⟩ := hw
    exact W.zret hx hb hr (zb_nar hz) (fun t ht _ => ⟨r3, rfl, hw, ht⟩) t_nil dX5_canStand_60
  replace hw := hw.2
  by_cases c2_1 : x1 = 1
  · refine lv_tableIn (tgt := 61) hx hb dX5_canStand_8 (by rw [c2_1]; decide) (by rw [c2_1]; decide) (by rw [c2_1]; rfl) (by decide) ?_
    replace hw := hw.1 c2_1
    refine lv_iload_n hx hb dX5_canStand_61 rfl (lv_at hl 0 rfl) ?_
    refine kp_S (As := [.int w1]) (rest := []) (wc := []) ⟨hx, hb, hml, hown, hts⟩ (m_X5_isFigure l g hok (x1 := w1) hw) (va_cwS 1 hts gX5_canStand_X5_isFigure rfl rfl rfl hd_X5_isFigure ⟨Nat.le_of_ble_eq_true rfl, Nat.le_of_ble_eq_true rfl⟩) hok hK PP_nil hro hS hA rfl hl.1 rfl (Nat.le_of_ble_eq_true rfl) dX5_canStand_62 ⟨Nat.le_of_ble_eq_true rfl, Nat.le_of_ble_eq_true rfl⟩ (fun r4 hw => ?_)
    obtain ⟨hz, hw⟩ := hw
    exact W.zret hx hb hr (zb_nar hz) (fun t ht _ => ⟨r4, rfl, hw, ht⟩) t_nil dX5_canStand_65
  replace hw := hw.2
  by_cases c2_2 : x1 = 2
  · refine lv_tableIn (tgt := 66) hx hb dX5_canStand_8 (by rw [c2_2]; decide) (by rw [c2_2]; decide) (by rw [c2_2]; rfl) (by decide) ?_
    replace hw := hw.1 c2_2
    refine lv_iload_n hx hb dX5_canStand_66 rfl (lv_at hl 0 rfl) ?_
    refine kp_S (As := [.int w1]) (rest := []) (wc := []) ⟨hx, hb, hml, hown, hts⟩ (m_X5_kindOf l g hok (x1 := w1) hw) (va_cwS 1 hts gX5_canStand_X5_kindOf rfl rfl rfl hd_X5_kindOf ⟨Nat.le_of_ble_eq_true rfl, Nat.le_of_ble_eq_true rfl⟩) hok hK PP_nil hro hS hA rfl hl.1 rfl (Nat.le_of_ble_eq_true rfl) dX5_canStand_67 ⟨Nat.le_of_ble_eq_true rfl, Nat.le_of_ble_eq_true rfl⟩ (fun r5 hw => ?_)
    refine lv_bipush (v := (-6)) hx hb dX5_canStand_70 (by decide) ?_
    refine lv_icmp_eq (tgt := 79) hx hb dX5_canStand_72 (by decide) (fun c6 => ?_) (fun c6 => ?_)
    · replace hw := hw.1 c6
      refine lv_iconst (v := 0) hx hb dX5_canStand_79 (by decide) ?_
      exact W.zret hx hb hr (zb_nar zb0) (fun t ht _ => ⟨0, rfl, hw, ht⟩) t_nil dX5_canStand_80
    · replace hw := hw.2 c6
      refine lv_iconst (v := 1) hx hb dX5_canStand_75 (by decide) ?_
      refine lv_goto (tgt := 80) hx hb dX5_canStand_76 (by decide) ?_
      exact W.zret hx hb hr (zb_nar zb1) (fun t ht _ => ⟨1, rfl, hw, ht⟩) t_nil dX5_canStand_80
  replace hw := hw.2
  by_cases c2_3 : x1 = 3
  · refine lv_tableIn (tgt := 81) hx hb dX5_canStand_8 (by rw [c2_3]; decide) (by rw [c2_3]; decide) (by rw [c2_3]; rfl) (by decide) ?_
    replace hw := hw.1 c2_3
    refine lv_aload_n hx hb dX5_canStand_81 rfl (lv_at hl 1 rfl) ?_
    refine va_get (D := g.1) (ci := 5) (v := .ref h0s) (C := RX5) (T := TX5) (N := 2) hx hb hts hinX5 hown hK hP 0 rfl rfl 0 (by decide) lk1 (fun _ h9 => h9) rfl dX5_canStand_82 ?_
    refine lv_iconst (v := 2) hx hb dX5_canStand_85 (by decide) ?_
    refine va_iald hx hb hK hP 1 0 rfl rfl (vin (by decide)) dX5_canStand_86 ?_
    refine lv_bipush (v := 64) hx hb dX5_canStand_87 (by decide) ?_
    refine lv_icmp_ne (tgt := 99) hx hb dX5_canStand_89 (by decide) (fun c7 => ?_) (fun c7 => ?_)
    · replace hw := hw.2 c7
      refine lv_iload_n hx hb dX5_canStand_99 rfl (lv_at hl 0 rfl) ?_
      refine kp_S (As := [.int w1]) (rest := []) (wc := []) ⟨hx, hb, hml, hown, hts⟩ (m_X5_isLetter l g hok (x1 := w1) hw) (va_cwS 1 hts gX5_canStand_X5_isLetter rfl rfl rfl hd_X5_isLetter ⟨Nat.le_of_ble_eq_true rfl, Nat.le_of_ble_eq_true rfl⟩) hok hK PP_nil hro hS hA rfl hl.1 rfl (Nat.le_of_ble_eq_true rfl) dX5_canStand_100 ⟨Nat.le_of_ble_eq_true rfl, Nat.le_of_ble_eq_true rfl⟩ (fun r8 hw => ?_)
      obtain ⟨hz, hw⟩ := hw
      exact W.zret hx hb hr (zb_nar hz) (fun t ht _ => ⟨r8, rfl, hw, ht⟩) t_nil dX5_canStand_103
    · replace hw := hw.1 c7
      refine lv_iload_n hx hb dX5_canStand_92 rfl (lv_at hl 0 rfl) ?_
      refine kp_S (As := [.int w1]) (rest := []) (wc := []) ⟨hx, hb, hml, hown, hts⟩ (m_X5_isFigure l g hok (x1 := w1) hw) (va_cwS 1 hts gX5_canStand_X5_isFigure rfl rfl rfl hd_X5_isFigure ⟨Nat.le_of_ble_eq_true rfl, Nat.le_of_ble_eq_true rfl⟩) hok hK PP_nil hro hS hA rfl hl.1 rfl (Nat.le_of_ble_eq_true rfl) dX5_canStand_93 ⟨Nat.le_of_ble_eq_true rfl, Nat.le_of_ble_eq_true rfl⟩ (fun r9 hw => ?_)
      refine lv_goto (tgt := 103) hx hb dX5_canStand_96 (by decide) ?_
      obtain ⟨hz, hw⟩ := hw
      exact W.zret hx hb hr (zb_nar hz) (fun t ht _ => ⟨r9, rfl, hw, ht⟩) t_nil dX5_canStand_103
  replace hw := hw.2
  by_cases c2_4 : x1 = 4
  · refine lv_tableIn (tgt := 104) hx hb dX5_canStand_8 (by rw [c2_4]; decide) (by rw [c2_4]; decide) (by rw [c2_4]; rfl) (by decide) ?_
    replace hw := hw.1 c2_4
    refine lv_aload_n hx hb dX5_canStand_104 rfl (lv_at hl 1 rfl) ?_
    refine va_get (D := g.1) (ci := 5) (v := .ref h0s) (C := RX5) (T := TX5) (N := 2) hx hb hts hinX5 hown hK hP 0 rfl rfl 0 (by decide) lk1 (fun _ h9 => h9) rfl dX5_canStand_105 ?_
    refine lv_iconst (v := 2) hx hb dX5_canStand_108 (by decide) ?_
    refine va_iald hx hb hK hP 1 0 rfl rfl (vin (by decide)) dX5_canStand_109 ?_
    refine lv_bipush (v := 64) hx hb dX5_canStand_110 (by decide) ?_
    refine lv_icmp_eq (tgt := 126) hx hb dX5_canStand_112 (by decide) (fun c10 => ?_) (fun c10 => ?_)
    · replace hw := hw.1 c10
      refine lv_iconst (v := 0) hx hb dX5_canStand_126 (by decide) ?_
      exact W.zret hx hb hr (zb_nar zb0) (fun t ht _ => ⟨0, rfl, hw, ht⟩) t_nil dX5_canStand_127
    · replace hw := hw.2 c10
      refine lv_iload_n hx hb dX5_canStand_115 rfl (lv_at hl 0 rfl) ?_
      refine kp_S (As := [.int w1]) (rest := []) (wc := []) ⟨hx, hb, hml, hown, hts⟩ (m_X5_isFigure l g hok (x1 := w1) hw) (va_cwS 1 hts gX5_canStand_X5_isFigure rfl rfl rfl hd_X5_isFigure ⟨Nat.le_of_ble_eq_true rfl, Nat.le_of_ble_eq_true rfl⟩) hok hK PP_nil hro hS hA rfl hl.1 rfl (Nat.le_of_ble_eq_true rfl) dX5_canStand_116 ⟨Nat.le_of_ble_eq_true rfl, Nat.le_of_ble_eq_true rfl⟩ (fun r11 hw => ?_)
      refine lv_if_eq (tgt := 126) hx hb dX5_canStand_119 (by decide) (fun c12 => ?_) (fun c12 => ?_)
      · replace hw := hw.1 c12
        refine lv_iconst (v := 0) hx hb dX5_canStand_126 (by decide) ?_
        exact W.zret hx hb hr (zb_nar zb0) (fun t ht _ => ⟨0, rfl, hw, ht⟩) t_nil dX5_canStand_127
      · replace hw := hw.2 c12
        refine lv_iconst (v := 1) hx hb dX5_canStand_122 (by decide) ?_
        refine lv_goto (tgt := 127) hx hb dX5_canStand_123 (by decide) ?_
        exact W.zret hx hb hr (zb_nar zb1) (fun t ht _ => ⟨1, rfl, hw, ht⟩) t_nil dX5_canStand_127
  replace hw := hw.2
  by_cases c2_5 : x1 = 5
  · refine lv_tableIn (tgt := 128) hx hb dX5_canStand_8 (by rw [c2_5]; decide) (by rw [c2_5]; decide) (by rw [c2_5]; rfl) (by decide) ?_
    replace hw := hw.1 c2_5
    refine lv_aload_n hx hb dX5_canStand_128 rfl (lv_at hl 1 rfl) ?_
    refine va_get (D := g.1) (ci := 5) (v := .ref h0s) (C := RX5) (T := TX5) (N := 2) hx hb hts hinX5 hown hK hP 0 rfl rfl 0 (by decide) lk1 (fun _ h9 => h9) rfl dX5_canStand_129 ?_
    refine lv_iconst (v := 2) hx hb dX5_canStand_132 (by decide) ?_
    refine va_iald hx hb hK hP 1 0 rfl rfl (vin (by decide)) dX5_canStand_133 ?_
    refine lv_bipush (v := 61) hx hb dX5_canStand_134 (by decide) ?_
    refine lv_icmp_ne (tgt := 149) hx hb dX5_canStand_136 (by decide) (fun c13 => ?_) (fun c13 => ?_)
    · replace hw := hw.2 c13
      refine lv_iconst (v := 0) hx hb dX5_canStand_149 (by decide) ?_
      exact W.zret hx hb hr (zb_nar zb0) (fun t ht _ => ⟨0, rfl, hw, ht⟩) t_nil dX5_canStand_150
    · replace hw := hw.1 c13
      refine lv_iload_n hx hb dX5_canStand_139 rfl (lv_at hl 0 rfl) ?_
      refine lv_bipush (v := 124) hx hb dX5_canStand_140 (by decide) ?_
      refine lv_icmp_ne (tgt := 149) hx hb dX5_canStand_142 (by decide) (fun c14 => ?_) (fun c14 => ?_)
      · replace hw := hw.2 c14
        refine lv_iconst (v := 0) hx hb dX5_canStand_149 (by decide) ?_
        exact W.zret hx hb hr (zb_nar zb0) (fun t ht _ => ⟨0, rfl, hw, ht⟩) t_nil dX5_canStand_150
      · replace hw := hw.1 c14
        refine lv_iconst (v := 1) hx hb dX5_canStand_145 (by decide) ?_
        refine lv_goto (tgt := 150) hx hb dX5_canStand_146 (by decide) ?_
        exact W.zret hx hb hr (zb_nar zb1) (fun t ht _ => ⟨1, rfl, hw, ht⟩) t_nil dX5_canStand_150
  replace hw := hw.2
  by_cases c2_6 : x1 = 6
  · refine lv_tableIn (tgt := 56) hx hb dX5_canStand_8 (by rw [c2_6]; decide) (by rw [c2_6]; decide) (by rw [c2_6]; rfl) (by decide) ?_
    replace hw := hw.1 c2_6
    refine lv_iload_n hx hb dX5_canStand_56 rfl (lv_at hl 0 rfl) ?_
    refine kp_S (As := [.int w1]) (rest := []) (wc := []) ⟨hx, hb, hml, hown, hts⟩ (m_X5_isLetter l g hok (x1 := w1) hw) (va_cwS 1 hts gX5_canStand_X5_isLetter rfl rfl rfl hd_X5_isLetter ⟨Nat.le_of_ble_eq_true rfl, Nat.le_of_ble_eq_true rfl⟩) hok hK PP_nil hro hS hA rfl hl.1 rfl (Nat.le_of_ble_eq_true rfl) dX5_canStand_57 ⟨Nat.le_of_ble_eq_true rfl, Nat.le_of_ble_eq_true rfl⟩ (fun r15 hw => ?_)
    obtain ⟨hz, hw⟩ := hw
    exact W.zret hx hb hr (zb_nar hz) (fun t ht _ => ⟨r15, rfl, hw, ht⟩) t_nil dX5_canStand_60
  replace hw := hw.2
  by_cases c2_7 : x1 = 7
  · refine lv_tableIn (tgt := 61) hx hb dX5_canStand_8 (by rw [c2_7]; decide) (by rw [c2_7]; decide) (by rw [c2_7]; rfl) (by decide) ?_
    replace hw := hw.1 c2_7
    refine lv_iload_n hx hb dX5_canStand_61 rfl (lv_at hl 0 rfl) ?_
    refine kp_S (As := [.int w1]) (rest := []) (wc := []) ⟨hx, hb, hml, hown, hts⟩ (m_X5_isFigure l g hok (x1 := w1) hw) (va_cwS 1 hts gX5_canStand_X5_isFigure rfl rfl rfl hd_X5_isFigure ⟨Nat.le_of_ble_eq_true rfl, Nat.le_of_ble_eq_true rfl⟩) hok hK PP_nil hro hS hA rfl hl.1 rfl (Nat.le_of_ble_eq_true rfl) dX5_canStand_62 ⟨Nat.le_of_ble_eq_true rfl, Nat.le_of_ble_eq_true rfl⟩ (fun r16 hw => ?_)
    obtain ⟨hz, hw⟩ := hw
    exact W.zret hx hb hr (zb_nar hz) (fun t ht _ => ⟨r16, rfl, hw, ht⟩) t_nil dX5_canStand_65
  replace hw := hw.2
  have hout : x1.toInt < 0 ∨ 7 < x1.toInt := by
    have n_c2_0 := ne_toInt c2_0
    rw [show (0 : Int32).toInt = 0 from by decide] at n_c2_0
    have n_c2_1 := ne_toInt c2_1
    rw [show (1 : Int32).toInt = 1 from by decide] at n_c2_1
    have n_c2_2 := ne_toInt c2_2
    rw [show (2 : Int32).toInt = 2 from by decide] at n_c2_2
    have n_c2_3 := ne_toInt c2_3
    rw [show (3 : Int32).toInt = 3 from by decide] at n_c2_3
    have n_c2_4 := ne_toInt c2_4
    rw [show (4 : Int32).toInt = 4 from by decide] at n_c2_4
    have n_c2_5 := ne_toInt c2_5
    rw [show (5 : Int32).toInt = 5 from by decide] at n_c2_5
    have n_c2_6 := ne_toInt c2_6
    rw [show (6 : Int32).toInt = 6 from by decide] at n_c2_6
    have n_c2_7 := ne_toInt c2_7
    rw [show (7 : Int32).toInt = 7 from by decide] at n_c2_7
    omega
  refine lv_tableOut (tgt := 151) hx hb dX5_canStand_8 hout (by decide) ?_
  replace hw := hw ⟨c2_0, c2_1, c2_2, c2_3, c2_4, c2_5, c2_6, c2_7⟩
  refine lv_iconst (v := 0) hx hb dX5_canStand_151 (by decide) ?_
  exact W.zret hx hb hr (zb_nar zb0) (fun t ht _ => ⟨0, rfl, hw, ht⟩) t_nil dX5_canStand_152

def wp_X5_isWhole (h0_size : Int32) (h0_sg : Nat → Int32) (Q : Int32 → Prop) : Prop :=
  ((4 ≤ h0_size → (((h0_sg (2 : Int32).toNatClampNeg) = 64 → Q 1) ∧ (¬ ((h0_sg (2 : Int32).toNatClampNeg) = 64) → ((h0_size = 5 → Q 1) ∧ (¬ (h0_size = 5) → ((h0_size = 8 → Q 1) ∧ (¬ (h0_size = 8) → Q 0))))))) ∧ (¬ (4 ≤ h0_size) → Q 0))
theorem hd_X5_isWhole : yX5_isWhole.cls = RX5 ∧ yX5_isWhole.cls ≠ "java/lang/invoke/MethodHandle" ∧ yX5_isWhole.cls ≠ "java/lang/invoke/VarHandle" ∧ (parseMethodDescriptor yX5_isWhole.desc).map (fun d => d.parameters.length) = some 0 := by decide +kernel
set_option maxHeartbeats 4000000 in
set_option maxRecDepth 100000 in
theorem m_X5_isWhole (l : Launch) (g : GG) {ro : Ro} (hok : RoOK ro) {h0 h0s : Nat} {h0_size : Int32} {h0_sg : Nat → Int32} {Q : Int32 → Prop} (hw : wp_X5_isWhole h0_size h0_sg Q) : Met l yX5_isWhole wsX5_isWhole ({ frames := 0, cells := 0, slots := 0, locals := 0 } : Room) (PcP g ro [(h0, .inr (5, [.ref h0s, .int h0_size])), (h0s, .inl (g.2.1, 10, .inl h0_sg))] [.ref h0]) (vp_Si Q) 0 0 (fun _ => False) := by
  refine Met.ofW (cc := cX5_isWhole) (maxL := 1) (ret := (some .boolean)) (by decide) rfl ?_
  intro p e s m args below meth c s₁ B hml hv
  obtain ⟨rfl, hP, hK, hro⟩ := hv
  have hx := B.exec
  have hb := B.bytes
  have hr := B.returns
  have hts := atoms_spec (ws := wsX5_isWhole) B.pre
  have hown : s.vm.findClass RX5 = some m.cls := findClass_of_methodNamed B.named
  have hlocks := B.notSynchronized
  have hA : ∀ q : Nat, s.heap.size ≤ q → (fun q : Nat => s.heap.size ≤ q) q := fun _ h => h
  have hS : va_S (fun q : Nat => s.heap.size ≤ q) s.heap s.heap [] := va_S.rf
  have hP : PP g [(h0, .inr (5, [.ref h0s, .int h0_size])), (h0s, .inl (g.2.1, 10, .inl h0_sg))] s.heap := hP
  have lk1 := hts (.fieldLink RX5 15 "GridRiddles$Text" "size" "I") (by decide +kernel)
  have hinX5 : ∀ w ∈ u_ws RX5 TX5 2, w ∈ wsX5_isWhole := by decide +kernel
  have lk3 := hts (.fieldLink RX5 9 "GridRiddles$Text" "signs" "[I") (by decide +kernel)
  have hl := lv_entry ([.ref h0]) (n := 1) (Nat.le_of_ble_eq_true rfl)
  rw [lg_entry_eq]
  generalize (lg_sl ([.ref h0]) ++ List.replicate (1 - (lg_sl ([.ref h0])).length) Slot.unset).toArray = ls at hl ⊢
  have hl : lv_has ls 1 [(0, .ref h0)] := hl
  unfold wp_X5_isWhole at hw
  refine lv_aload_n hx hb dX5_isWhole_0 rfl (lv_at hl 0 rfl) ?_
  refine va_get (D := g.1) (ci := 5) (v := .int h0_size) (C := RX5) (T := TX5) (N := 2) hx hb hts hinX5 hown hK hP 0 rfl rfl 1 (by decide) lk1 (fun _ h9 => h9) rfl dX5_isWhole_1 ?_
  refine lv_iconst (v := 4) hx hb dX5_isWhole_4 (by decide) ?_
  refine lv_icmp_ge (tgt := 10) hx hb dX5_isWhole_5 (by decide) (fun c1 => ?_) (fun c1 => ?_)
  · replace hw := hw.1 c1
    refine lv_aload_n hx hb dX5_isWhole_10 rfl (lv_at hl 0 rfl) ?_
    refine va_get (D := g.1) (ci := 5) (v := .ref h0s) (C := RX5) (T := TX5) (N := 2) hx hb hts hinX5 hown hK hP 0 rfl rfl 0 (by decide) lk3 (fun _ h9 => h9) rfl dX5_isWhole_11 ?_
    refine lv_iconst (v := 2) hx hb dX5_isWhole_14 (by decide) ?_
    refine va_iald hx hb hK hP 1 0 rfl rfl (vin (by decide)) dX5_isWhole_15 ?_
    refine lv_bipush (v := 64) hx hb dX5_isWhole_16 (by decide) ?_
    refine lv_icmp_eq (tgt := 38) hx hb dX5_isWhole_18 (by decide) (fun c2 => ?_) (fun c2 => ?_)
    · replace hw := hw.1 c2
      refine lv_iconst (v := 1) hx hb dX5_isWhole_38 (by decide) ?_
      refine lv_goto (tgt := 43) hx hb dX5_isWhole_39 (by decide) ?_
      exact W.zret hx hb hr (zb_nar zb1) (fun t ht _ => ⟨1, rfl, hw, ht⟩) t_nil dX5_isWhole_43
    · replace hw := hw.2 c2
      refine lv_aload_n hx hb dX5_isWhole_21 rfl (lv_at hl 0 rfl) ?_
      refine va_get (D := g.1) (ci := 5) (v := .int h0_size) (C := RX5) (T := TX5) (N := 2) hx hb hts hinX5 hown hK hP 0 rfl rfl 1 (by decide) lk1 (fun _ h9 => h9) rfl dX5_isWhole_22 ?_
      refine lv_iconst (v := 5) hx hb dX5_isWhole_25 (by decide) ?_
      refine lv_icmp_eq (tgt := 38) hx hb dX5_isWhole_26 (by decide) (fun c3 => ?_) (fun c3 => ?_)
      · replace hw := hw.1 c3
        refine lv_iconst (v := 1) hx hb dX5_isWhole_38 (by decide) ?_
        refine lv_goto (tgt := 43) hx hb dX5_isWhole_39 (by decide) ?_
        exact W.zret hx hb hr (zb_nar zb1) (fun t ht _ => ⟨1, rfl, hw, ht⟩) t_nil dX5_isWhole_43
      · replace hw := hw.2 c3
        refine lv_aload_n hx hb dX5_isWhole_29 rfl (lv_at hl 0 rfl) ?_
        refine va_get (D := g.1) (ci := 5) (v := .int h0_size) (C := RX5) (T := TX5) (N := 2) hx hb hts hinX5 hown hK hP 0 rfl rfl 1 (by decide) lk1 (fun _ h9 => h9) rfl dX5_isWhole_30 ?_
        refine lv_bipush (v := 8) hx hb dX5_isWhole_33 (by decide) ?_
        refine lv_icmp_ne (tgt := 42) hx hb dX5_isWhole_35 (by decide) (fun c4 => ?_) (fun c4 => ?_)
        · replace hw := hw.2 c4
          refine lv_iconst (v := 0) hx hb dX5_isWhole_42 (by decide) ?_
          exact W.zret hx hb hr (zb_nar zb0) (fun t ht _ => ⟨0, rfl, hw, ht⟩) t_nil dX5_isWhole_43
        · replace hw := hw.1 c4
          refine lv_iconst (v := 1) hx hb dX5_isWhole_38 (by decide) ?_
          refine lv_goto (tgt := 43) hx hb dX5_isWhole_39 (by decide) ?_
          exact W.zret hx hb hr (zb_nar zb1) (fun t ht _ => ⟨1, rfl, hw, ht⟩) t_nil dX5_isWhole_43
  · replace hw := hw.2 c1
    refine lv_iconst (v := 0) hx hb dX5_isWhole_8 (by decide) ?_
    exact W.zret hx hb hr (zb_nar zb0) (fun t ht _ => ⟨0, rfl, hw, ht⟩) t_nil dX5_isWhole_9

def wp_X5_faultPlace_2 (Q : Int32 → Prop) (h0_size : Int32) (h0_sg : Nat → Int32)  (l1 : Int32) : Prop :=
  ∃ (I2 : Int32 → Prop) (mu2 : Int32 → Nat), I2 l1 ∧ ∀ (l1 : Int32), I2 l1 → ((h0_size ≤ l1 → (wp_X5_isWhole h0_size h0_sg (fun r2 => ((r2 = 0 → Q h0_size) ∧ (¬ (r2 = 0) → Q (-6)))))) ∧ (¬ (h0_size ≤ l1) → (wp_X5_canStand l1 h0_sg (fun r4 => ((r4 = 0 → Q l1) ∧ (¬ (r4 = 0) → (I2 (l1 + 1) ∧ mu2 (l1 + 1) < mu2 l1)))))))
def wp_X5_faultPlace (h0_size : Int32) (h0_sg : Nat → Int32) (Q : Int32 → Prop) : Prop :=
  wp_X5_faultPlace_2 Q h0_size h0_sg  0
theorem hd_X5_faultPlace : yX5_faultPlace.cls = RX5 ∧ yX5_faultPlace.cls ≠ "java/lang/invoke/MethodHandle" ∧ yX5_faultPlace.cls ≠ "java/lang/invoke/VarHandle" ∧ (parseMethodDescriptor yX5_faultPlace.desc).map (fun d => d.parameters.length) = some 0 := by decide +kernel
set_option maxHeartbeats 4000000 in
set_option maxRecDepth 100000 in
theorem m_X5_faultPlace (l : Launch) (g : GG) {ro : Ro} (hok : RoOK ro) {h0 h0s : Nat} {h0_size : Int32} {h0_sg : Nat → Int32} {Q : Int32 → Prop} (hw : wp_X5_faultPlace h0_size h0_sg Q) : Met l yX5_faultPlace wsX5_faultPlace ({ frames := 2, cells := 0, slots := 0, locals := 42 } : Room) (PcP g ro [(h0, .inr (5, [.ref h0s, .int h0_size])), (h0s, .inl (g.2.1, 10, .inl h0_sg))] [.ref h0]) (vp_Si Q) 0 0 (fun _ => False) := by
  refine Met.ofW (cc := cX5_faultPlace) (maxL := 2) (ret := (some .int)) (by decide) rfl ?_
  intro p e s m args below meth c s₁ B hml hv
  obtain ⟨rfl, hP, hK, hro⟩ := hv
  have hx := B.exec
  have hb := B.bytes
  have hr := B.returns
  have hts := atoms_spec (ws := wsX5_faultPlace) B.pre
  have hown : s.vm.findClass RX5 = some m.cls := findClass_of_methodNamed B.named
  have hlocks := B.notSynchronized
  have hA : ∀ q : Nat, s.heap.size ≤ q → (fun q : Nat => s.heap.size ≤ q) q := fun _ h => h
  have hS : va_S (fun q : Nat => s.heap.size ≤ q) s.heap s.heap [] := va_S.rf
  have hP : PP g [(h0, .inr (5, [.ref h0s, .int h0_size])), (h0s, .inl (g.2.1, 10, .inl h0_sg))] s.heap := hP
  have lk1 := hts (.fieldLink RX5 15 "GridRiddles$Text" "size" "I") (by decide +kernel)
  have hinX5 : ∀ w ∈ u_ws RX5 TX5 2, w ∈ wsX5_faultPlace := by decide +kernel
  have B2 : ∀ (l1 : Int32), wp_X5_faultPlace_2 Q h0_size h0_sg  l1 → ∀ (ls : Array Slot), lv_has ls 2 [(0, .ref h0), (1, .int l1)] → W p l e (headSpec wsX5_faultPlace ({ frames := 2, cells := 0, slots := 0, locals := 42 } : Room)).room s m ([.ref h0] : List Value).toArray below meth c s.heap [] 0 0 (MQ below (vp_Si Q) ([.ref h0] : List Value).toArray s 0 0 (fun _ => False)) (F0 m 2 ls []) := by
    intro  l1 hw
    obtain ⟨I2, mu2, hI, hstep⟩ := hw
    have key : ∀ (n : Nat) (l1 : Int32), mu2 l1 < n → I2 l1 → ∀ (ls : Array Slot), lv_has ls 2 [(0, .ref h0), (1, .int l1)] → W p l e (headSpec wsX5_faultPlace ({ frames := 2, cells := 0, slots := 0, locals := 42 } : Room)).room s m ([.ref h0] : List Value).toArray below meth c s.heap [] 0 0 (MQ below (vp_Si Q) ([.ref h0] : List Value).toArray s 0 0 (fun _ => False)) (F0 m 2 ls []) := by
      intro n
      induction n with
      | zero => intro l1 h; exact absurd h (Nat.not_lt_zero _)
      | succ n ih =>
          intro l1 hn hI ls hl
          have hw := hstep l1 hI
          have hK2 : ∀ (l1' : Int32), (I2 l1' ∧ mu2 l1' < mu2 l1) → ∀ (ls : Array Slot), lv_has ls 2 [(0, .ref h0), (1, .int l1')] → W p l e (headSpec wsX5_faultPlace ({ frames := 2, cells := 0, slots := 0, locals := 42 } : Room)).room s m ([.ref h0] : List Value).toArray below meth c s.heap [] 0 0 (MQ below (vp_Si Q) ([.ref h0] : List Value).toArray s 0 0 (fun _ => False)) (F0 m 2 ls []) := fun l1' h => ih l1' (Nat.lt_of_lt_of_le h.2 (Nat.le_of_lt_succ hn)) h.1
          refine lv_iload_n hx hb dX5_faultPlace_2 rfl (lv_at hl 1 rfl) ?_
          refine lv_aload_n hx hb dX5_faultPlace_3 rfl (lv_at hl 0 rfl) ?_
          refine va_get (D := g.1) (ci := 5) (v := .int h0_size) (C := RX5) (T := TX5) (N := 2) hx hb hts hinX5 hown hK hP 0 rfl rfl 1 (by decide) lk1 (fun _ h9 => h9) rfl dX5_faultPlace_4 ?_
          refine lv_icmp_ge (tgt := 26) hx hb dX5_faultPlace_7 (by decide) (fun c1 => ?_) (fun c1 => ?_)
          · replace hw := hw.1 c1
            refine lv_aload_n hx hb dX5_faultPlace_26 rfl (lv_at hl 0 rfl) ?_
            refine kp_V (As := []) (rest := []) (wc := [(h0, .inr (5, [.ref h0s, .int h0_size])), (h0s, .inl (g.2.1, 10, .inl h0_sg))]) (cq := (RX5, TX5, 2)) ⟨hx, hb, hml, hown, hts⟩ (m_X5_isWhole l g hok (h0 := h0) (h0s := h0s) (h0_size := h0_size) (h0_sg := h0_sg) hw) (cwV 0 hts gX5_faultPlace_X5_isWhole rfl rfl rfl hd_X5_isWhole ⟨Nat.le_of_ble_eq_true rfl, Nat.le_of_ble_eq_true rfl⟩) hok hK hP hro hS hA 0 5 rfl rfl rfl hl.1 rfl (Nat.le_of_ble_eq_true rfl) dX5_faultPlace_27 ⟨Nat.le_of_ble_eq_true rfl, Nat.le_of_ble_eq_true rfl⟩ (fun r2 hw => ?_)
            refine lv_if_eq (tgt := 38) hx hb dX5_faultPlace_30 (by decide) (fun c3 => ?_) (fun c3 => ?_)
            · replace hw := hw.1 c3
              refine lv_aload_n hx hb dX5_faultPlace_38 rfl (lv_at hl 0 rfl) ?_
              refine va_get (D := g.1) (ci := 5) (v := .int h0_size) (C := RX5) (T := TX5) (N := 2) hx hb hts hinX5 hown hK hP 0 rfl rfl 1 (by decide) lk1 (fun _ h9 => h9) rfl dX5_faultPlace_39 ?_
              exact W.iret hx hb hr (fun t ht _ => ⟨h0_size, rfl, hw, ht⟩) t_nil dX5_faultPlace_42
            · replace hw := hw.2 c3
              refine lv_bipush (v := (-6)) hx hb dX5_faultPlace_33 (by decide) ?_
              refine lv_goto (tgt := 42) hx hb dX5_faultPlace_35 (by decide) ?_
              exact W.iret hx hb hr (fun t ht _ => ⟨(-6), rfl, hw, ht⟩) t_nil dX5_faultPlace_42
          · replace hw := hw.2 c1
            refine lv_aload_n hx hb dX5_faultPlace_10 rfl (lv_at hl 0 rfl) ?_
            refine lv_iload_n hx hb dX5_faultPlace_11 rfl (lv_at hl 1 rfl) ?_
            refine kp_V (As := [.int l1]) (rest := []) (wc := [(h0, .inr (5, [.ref h0s, .int h0_size])), (h0s, .inl (g.2.1, 10, .inl h0_sg))]) (cq := (RX5, TX5, 2)) ⟨hx, hb, hml, hown, hts⟩ (m_X5_canStand l g hok (h0 := h0) (h0s := h0s) (h0_size := h0_size) (h0_sg := h0_sg) (x1 := l1) hw) (cwV 1 hts gX5_faultPlace_X5_canStand rfl rfl rfl hd_X5_canStand ⟨Nat.le_of_ble_eq_true rfl, Nat.le_of_ble_eq_true rfl⟩) hok hK hP hro hS hA 0 5 rfl rfl rfl hl.1 rfl (Nat.le_of_ble_eq_true rfl) dX5_faultPlace_12 ⟨Nat.le_of_ble_eq_true rfl, Nat.le_of_ble_eq_true rfl⟩ (fun r4 hw => ?_)
            refine lv_if_ne (tgt := 20) hx hb dX5_faultPlace_15 (by decide) (fun c5 => ?_) (fun c5 => ?_)
            · replace hw := hw.2 c5
              refine lv_iinc (v := (l1 + 1)) (lv' := [(1, .int (l1 + 1)), (0, .ref h0)]) hx hb dX5_faultPlace_20 hl (k := 1) rfl rfl (by decide) rfl (fun ls hl => ?_)
              refine lv_goto (tgt := 2) hx hb dX5_faultPlace_23 (by decide) ?_
              exact hK2 (l1 + 1) hw ls (lv_sub hl [1, 0] rfl)
            · replace hw := hw.1 c5
              refine lv_iload_n hx hb dX5_faultPlace_18 rfl (lv_at hl 1 rfl) ?_
              exact W.iret hx hb hr (fun t ht _ => ⟨l1, rfl, hw, ht⟩) t_nil dX5_faultPlace_19
    exact key _ l1 (Nat.lt_succ_self _) hI
  have hl := lv_entry ([.ref h0]) (n := 2) (Nat.le_of_ble_eq_true rfl)
  rw [lg_entry_eq]
  generalize (lg_sl ([.ref h0]) ++ List.replicate (2 - (lg_sl ([.ref h0])).length) Slot.unset).toArray = ls at hl ⊢
  have hl : lv_has ls 2 [(0, .ref h0)] := hl
  unfold wp_X5_faultPlace at hw
  refine lv_iconst (v := 0) hx hb dX5_faultPlace_0 (by decide) ?_
  refine lv_istore_n (lv' := [(1, .int 0), (0, .ref h0)]) hx hb dX5_faultPlace_1 rfl hl (by decide) rfl (fun ls hl => ?_)
  exact B2  0 hw ls (lv_sub hl [1, 0] rfl)

def wp_X5_itemAt (x1 : Int32) (h0_sg : Nat → Int32) (Q : Int32 → Prop) : Prop :=
  (vp_in x1 10 ∧ (vp_in (x1 + 1) 10 ∧ Q (((4 * ((h0_sg x1.toNatClampNeg) - 97)) + (h0_sg (x1 + 1).toNatClampNeg)) - 49)))
theorem hd_X5_itemAt : yX5_itemAt.cls = RX5 ∧ yX5_itemAt.cls ≠ "java/lang/invoke/MethodHandle" ∧ yX5_itemAt.cls ≠ "java/lang/invoke/VarHandle" ∧ (parseMethodDescriptor yX5_itemAt.desc).map (fun d => d.parameters.length) = some 1 := by decide +kernel
set_option maxHeartbeats 4000000 in
set_option maxRecDepth 100000 in
theorem m_X5_itemAt (l : Launch) (g : GG) {ro : Ro} (hok : RoOK ro) {h0 h0s : Nat} {h0_size : Int32} {h0_sg : Nat → Int32} {x1 : Int32} {Q : Int32 → Prop} (hw : wp_X5_itemAt x1 h0_sg Q) : Met l yX5_itemAt wsX5_itemAt ({ frames := 0, cells := 0, slots := 0, locals := 0 } : Room) (PcP g ro [(h0, .inr (5, [.ref h0s, .int h0_size])), (h0s, .inl (g.2.1, 10, .inl h0_sg))] [.ref h0, .int x1]) (vp_Si Q) 0 0 (fun _ => False) := by
  refine Met.ofW (cc := cX5_itemAt) (maxL := 2) (ret := (some .int)) (by decide) rfl ?_
  intro p e s m args below meth c s₁ B hml hv
  obtain ⟨rfl, hP, hK, hro⟩ := hv
  have hx := B.exec
  have hb := B.bytes
  have hr := B.returns
  have hts := atoms_spec (ws := wsX5_itemAt) B.pre
  have hown : s.vm.findClass RX5 = some m.cls := findClass_of_methodNamed B.named
  have hlocks := B.notSynchronized
  have hA : ∀ q : Nat, s.heap.size ≤ q → (fun q : Nat => s.heap.size ≤ q) q := fun _ h => h
  have hS : va_S (fun q : Nat => s.heap.size ≤ q) s.heap s.heap [] := va_S.rf
  have hP : PP g [(h0, .inr (5, [.ref h0s, .int h0_size])), (h0s, .inl (g.2.1, 10, .inl h0_sg))] s.heap := hP
  have lk1 := hts (.fieldLink RX5 9 "GridRiddles$Text" "signs" "[I") (by decide +kernel)
  have hinX5 : ∀ w ∈ u_ws RX5 TX5 2, w ∈ wsX5_itemAt := by decide +kernel
  have hl := lv_entry ([.ref h0, .int x1]) (n := 2) (Nat.le_of_ble_eq_true rfl)
  rw [lg_entry_eq]
  generalize (lg_sl ([.ref h0, .int x1]) ++ List.replicate (2 - (lg_sl ([.ref h0, .int x1])).length) Slot.unset).toArray = ls at hl ⊢
  have hl : lv_has ls 2 [(0, .ref h0), (1, .int x1)] := hl
  unfold wp_X5_itemAt at hw
  refine lv_iconst (v := 4) hx hb dX5_itemAt_0 (by decide) ?_
  refine lv_aload_n hx hb dX5_itemAt_1 rfl (lv_at hl 0 rfl) ?_
  refine va_get (D := g.1) (ci := 5) (v := .ref h0s) (C := RX5) (T := TX5) (N := 2) hx hb hts hinX5 hown hK hP 0 rfl rfl 0 (by decide) lk1 (fun _ h9 => h9) rfl dX5_itemAt_2 ?_
  refine lv_iload_n hx hb dX5_itemAt_5 rfl (lv_at hl 1 rfl) ?_
  obtain ⟨hi, hw⟩ := hw
  refine va_iald hx hb hK hP 1 0 rfl rfl hi dX5_itemAt_6 ?_
  refine lv_bipush (v := 97) hx hb dX5_itemAt_7 (by decide) ?_
  refine lv_isub hx hb dX5_itemAt_9 ?_
  refine lv_imul hx hb dX5_itemAt_10 ?_
  refine lv_aload_n hx hb dX5_itemAt_11 rfl (lv_at hl 0 rfl) ?_
  refine va_get (D := g.1) (ci := 5) (v := .ref h0s) (C := RX5) (T := TX5) (N := 2) hx hb hts hinX5 hown hK hP 0 rfl rfl 0 (by decide) lk1 (fun _ h9 => h9) rfl dX5_itemAt_12 ?_
  refine lv_iload_n hx hb dX5_itemAt_15 rfl (lv_at hl 1 rfl) ?_
  refine lv_iconst (v := 1) hx hb dX5_itemAt_16 (by decide) ?_
  refine lv_iadd hx hb dX5_itemAt_17 ?_
  obtain ⟨hi, hw⟩ := hw
  refine va_iald hx hb hK hP 1 0 rfl rfl hi dX5_itemAt_18 ?_
  refine lv_iadd hx hb dX5_itemAt_19 ?_
  refine lv_bipush (v := 49) hx hb dX5_itemAt_20 (by decide) ?_
  refine lv_isub hx hb dX5_itemAt_22 ?_
  exact W.iret hx hb hr (fun t ht _ => ⟨(((4 * ((h0_sg x1.toNatClampNeg) - 97)) + (h0_sg (x1 + 1).toNatClampNeg)) - 49), rfl, hw, ht⟩) t_nil dX5_itemAt_23

def wp_X5_repeatsAnItem (h0_size : Int32) (h0_sg : Nat → Int32) (Q : Int32 → Prop) : Prop :=
  (((h0_sg (2 : Int32).toNatClampNeg) = 64 → Q 0) ∧ (¬ ((h0_sg (2 : Int32).toNatClampNeg) = 64) → (wp_X5_itemAt 0 h0_sg (fun r2 => (wp_X5_itemAt 3 h0_sg (fun r3 => ((8 ≤ h0_size → (wp_X5_itemAt 6 h0_sg (fun r5 => ((r2 = r3 → Q 1) ∧ (¬ (r2 = r3) → ((r2 = r5 → Q 1) ∧ (¬ (r2 = r5) → ((r3 = r5 → Q 1) ∧ (¬ (r3 = r5) → Q 0))))))))) ∧ (¬ (8 ≤ h0_size) → ((r2 = r3 → Q 1) ∧ (¬ (r2 = r3) → Q 0))))))))))
theorem hd_X5_repeatsAnItem : yX5_repeatsAnItem.cls = RX5 ∧ yX5_repeatsAnItem.cls ≠ "java/lang/invoke/MethodHandle" ∧ yX5_repeatsAnItem.cls ≠ "java/lang/invoke/VarHandle" ∧ (parseMethodDescriptor yX5_repeatsAnItem.desc).map (fun d => d.parameters.length) = some 0 := by decide +kernel
set_option maxHeartbeats 4000000 in
set_option maxRecDepth 100000 in
theorem m_X5_repeatsAnItem (l : Launch) (g : GG) {ro : Ro} (hok : RoOK ro) {h0 h0s : Nat} {h0_size : Int32} {h0_sg : Nat → Int32} {Q : Int32 → Prop} (hw : wp_X5_repeatsAnItem h0_size h0_sg Q) : Met l yX5_repeatsAnItem wsX5_repeatsAnItem ({ frames := 1, cells := 0, slots := 0, locals := 21 } : Room) (PcP g ro [(h0, .inr (5, [.ref h0s, .int h0_size])), (h0s, .inl (g.2.1, 10, .inl h0_sg))] [.ref h0]) (vp_Si Q) 0 0 (fun _ => False) := by
  refine Met.ofW (cc := cX5_repeatsAnItem) (maxL := 4) (ret := (some .boolean)) (by decide) rfl ?_
  intro p e s m args below meth c s₁ B hml hv
  obtain ⟨rfl, hP, hK, hro⟩ := hv
  have hx := B.exec
  have hb := B.bytes
  have hr := B.returns
  have hts := atoms_spec (ws := wsX5_repeatsAnItem) B.pre
  have hown : s.vm.findClass RX5 = some m.cls := findClass_of_methodNamed B.named
  have hlocks := B.notSynchronized
  have hA : ∀ q : Nat, s.heap.size ≤ q → (fun q : Nat => s.heap.size ≤ q) q := fun _ h => h
  have hS : va_S (fun q : Nat => s.heap.size ≤ q) s.heap s.heap [] := va_S.rf
  have hP : PP g [(h0, .inr (5, [.ref h0s, .int h0_size])), (h0s, .inl (g.2.1, 10, .inl h0_sg))] s.heap := hP
  have lk1 := hts (.fieldLink RX5 9 "GridRiddles$Text" "signs" "[I") (by decide +kernel)
  have hinX5 : ∀ w ∈ u_ws RX5 TX5 2, w ∈ wsX5_repeatsAnItem := by decide +kernel
  have lk3 := hts (.fieldLink RX5 15 "GridRiddles$Text" "size" "I") (by decide +kernel)
  have hl := lv_entry ([.ref h0]) (n := 4) (Nat.le_of_ble_eq_true rfl)
  rw [lg_entry_eq]
  generalize (lg_sl ([.ref h0]) ++ List.replicate (4 - (lg_sl ([.ref h0])).length) Slot.unset).toArray = ls at hl ⊢
  have hl : lv_has ls 4 [(0, .ref h0)] := hl
  unfold wp_X5_repeatsAnItem at hw
  refine lv_aload_n hx hb dX5_repeatsAnItem_0 rfl (lv_at hl 0 rfl) ?_
  refine va_get (D := g.1) (ci := 5) (v := .ref h0s) (C := RX5) (T := TX5) (N := 2) hx hb hts hinX5 hown hK hP 0 rfl rfl 0 (by decide) lk1 (fun _ h9 => h9) rfl dX5_repeatsAnItem_1 ?_
  refine lv_iconst (v := 2) hx hb dX5_repeatsAnItem_4 (by decide) ?_
  refine va_iald hx hb hK hP 1 0 rfl rfl (vin (by decide)) dX5_repeatsAnItem_5 ?_
  refine lv_bipush (v := 64) hx hb dX5_repeatsAnItem_6 (by decide) ?_
  refine lv_icmp_ne (tgt := 13) hx hb dX5_repeatsAnItem_8 (by decide) (fun c1 => ?_) (fun c1 => ?_)
  · replace hw := hw.2 c1
    refine lv_aload_n hx hb dX5_repeatsAnItem_13 rfl (lv_at hl 0 rfl) ?_
    refine lv_iconst (v := 0) hx hb dX5_repeatsAnItem_14 (by decide) ?_
    refine kp_V (As := [.int 0]) (rest := []) (wc := [(h0, .inr (5, [.ref h0s, .int h0_size])), (h0s, .inl (g.2.1, 10, .inl h0_sg))]) (cq := (RX5, TX5, 2)) ⟨hx, hb, hml, hown, hts⟩ (m_X5_itemAt l g hok (h0 := h0) (h0s := h0s) (h0_size := h0_size) (h0_sg := h0_sg) (x1 := 0) hw) (cwV 1 hts gX5_repeatsAnItem_X5_itemAt rfl rfl rfl hd_X5_itemAt ⟨Nat.le_of_ble_eq_true rfl, Nat.le_of_ble_eq_true rfl⟩) hok hK hP hro hS hA 0 5 rfl rfl rfl hl.1 rfl (Nat.le_of_ble_eq_true rfl) dX5_repeatsAnItem_15 ⟨Nat.le_of_ble_eq_true rfl, Nat.le_of_ble_eq_true rfl⟩ (fun r2 hw => ?_)
    refine lv_istore_n (lv' := [(1, .int r2), (0, .ref h0)]) hx hb dX5_repeatsAnItem_18 rfl hl (by decide) rfl (fun ls hl => ?_)
    refine lv_aload_n hx hb dX5_repeatsAnItem_19 rfl (lv_at hl 1 rfl) ?_
    refine lv_iconst (v := 3) hx hb dX5_repeatsAnItem_20 (by decide) ?_
    refine kp_V (As := [.int 3]) (rest := []) (wc := [(h0, .inr (5, [.ref h0s, .int h0_size])), (h0s, .inl (g.2.1, 10, .inl h0_sg))]) (cq := (RX5, TX5, 2)) ⟨hx, hb, hml, hown, hts⟩ (m_X5_itemAt l g hok (h0 := h0) (h0s := h0s) (h0_size := h0_size) (h0_sg := h0_sg) (x1 := 3) hw) (cwV 1 hts gX5_repeatsAnItem_X5_itemAt rfl rfl rfl hd_X5_itemAt ⟨Nat.le_of_ble_eq_true rfl, Nat.le_of_ble_eq_true rfl⟩) hok hK hP hro hS hA 0 5 rfl rfl rfl hl.1 rfl (Nat.le_of_ble_eq_true rfl) dX5_repeatsAnItem_21 ⟨Nat.le_of_ble_eq_true rfl, Nat.le_of_ble_eq_true rfl⟩ (fun r3 hw => ?_)
    refine lv_istore_n (lv' := [(2, .int r3), (1, .int r2), (0, .ref h0)]) hx hb dX5_repeatsAnItem_24 rfl hl (by decide) rfl (fun ls hl => ?_)
    refine lv_aload_n hx hb dX5_repeatsAnItem_25 rfl (lv_at hl 2 rfl) ?_
    refine va_get (D := g.1) (ci := 5) (v := .int h0_size) (C := RX5) (T := TX5) (N := 2) hx hb hts hinX5 hown hK hP 0 rfl rfl 1 (by decide) lk3 (fun _ h9 => h9) rfl dX5_repeatsAnItem_26 ?_
    refine lv_bipush (v := 8) hx hb dX5_repeatsAnItem_29 (by decide) ?_
    refine lv_icmp_ge (tgt := 45) hx hb dX5_repeatsAnItem_31 (by decide) (fun c4 => ?_) (fun c4 => ?_)
    · replace hw := hw.1 c4
      refine lv_aload_n hx hb dX5_repeatsAnItem_45 rfl (lv_at hl 2 rfl) ?_
      refine lv_bipush (v := 6) hx hb dX5_repeatsAnItem_46 (by decide) ?_
      refine kp_V (As := [.int 6]) (rest := []) (wc := [(h0, .inr (5, [.ref h0s, .int h0_size])), (h0s, .inl (g.2.1, 10, .inl h0_sg))]) (cq := (RX5, TX5, 2)) ⟨hx, hb, hml, hown, hts⟩ (m_X5_itemAt l g hok (h0 := h0) (h0s := h0s) (h0_size := h0_size) (h0_sg := h0_sg) (x1 := 6) hw) (cwV 1 hts gX5_repeatsAnItem_X5_itemAt rfl rfl rfl hd_X5_itemAt ⟨Nat.le_of_ble_eq_true rfl, Nat.le_of_ble_eq_true rfl⟩) hok hK hP hro hS hA 0 5 rfl rfl rfl hl.1 rfl (Nat.le_of_ble_eq_true rfl) dX5_repeatsAnItem_48 ⟨Nat.le_of_ble_eq_true rfl, Nat.le_of_ble_eq_true rfl⟩ (fun r5 hw => ?_)
      refine lv_istore_n (lv' := [(3, .int r5), (2, .int r3), (1, .int r2), (0, .ref h0)]) hx hb dX5_repeatsAnItem_51 rfl hl (by decide) rfl (fun ls hl => ?_)
      refine lv_iload_n hx hb dX5_repeatsAnItem_52 rfl (lv_at hl 2 rfl) ?_
      refine lv_iload_n hx hb dX5_repeatsAnItem_53 rfl (lv_at hl 1 rfl) ?_
      refine lv_icmp_eq (tgt := 67) hx hb dX5_repeatsAnItem_54 (by decide) (fun c6 => ?_) (fun c6 => ?_)
      · replace hw := hw.1 c6
        refine lv_iconst (v := 1) hx hb dX5_repeatsAnItem_67 (by decide) ?_
        refine lv_goto (tgt := 72) hx hb dX5_repeatsAnItem_68 (by decide) ?_
        exact W.zret hx hb hr (zb_nar zb1) (fun t ht _ => ⟨1, rfl, hw, ht⟩) t_nil dX5_repeatsAnItem_72
      · replace hw := hw.2 c6
        refine lv_iload_n hx hb dX5_repeatsAnItem_57 rfl (lv_at hl 2 rfl) ?_
        refine lv_iload_n hx hb dX5_repeatsAnItem_58 rfl (lv_at hl 0 rfl) ?_
        refine lv_icmp_eq (tgt := 67) hx hb dX5_repeatsAnItem_59 (by decide) (fun c7 => ?_) (fun c7 => ?_)
        · replace hw := hw.1 c7
          refine lv_iconst (v := 1) hx hb dX5_repeatsAnItem_67 (by decide) ?_
          refine lv_goto (tgt := 72) hx hb dX5_repeatsAnItem_68 (by decide) ?_
          exact W.zret hx hb hr (zb_nar zb1) (fun t ht _ => ⟨1, rfl, hw, ht⟩) t_nil dX5_repeatsAnItem_72
        · replace hw := hw.2 c7
          refine lv_iload_n hx hb dX5_repeatsAnItem_62 rfl (lv_at hl 1 rfl) ?_
          refine lv_iload_n hx hb dX5_repeatsAnItem_63 rfl (lv_at hl 0 rfl) ?_
          refine lv_icmp_ne (tgt := 71) hx hb dX5_repeatsAnItem_64 (by decide) (fun c8 => ?_) (fun c8 => ?_)
          · replace hw := hw.2 c8
            refine lv_iconst (v := 0) hx hb dX5_repeatsAnItem_71 (by decide) ?_
            exact W.zret hx hb hr (zb_nar zb0) (fun t ht _ => ⟨0, rfl, hw, ht⟩) t_nil dX5_repeatsAnItem_72
          · replace hw := hw.1 c8
            refine lv_iconst (v := 1) hx hb dX5_repeatsAnItem_67 (by decide) ?_
            refine lv_goto (tgt := 72) hx hb dX5_repeatsAnItem_68 (by decide) ?_
            exact W.zret hx hb hr (zb_nar zb1) (fun t ht _ => ⟨1, rfl, hw, ht⟩) t_nil dX5_repeatsAnItem_72
    · replace hw := hw.2 c4
      refine lv_iload_n hx hb dX5_repeatsAnItem_34 rfl (lv_at hl 1 rfl) ?_
      refine lv_iload_n hx hb dX5_repeatsAnItem_35 rfl (lv_at hl 0 rfl) ?_
      refine lv_icmp_ne (tgt := 43) hx hb dX5_repeatsAnItem_36 (by decide) (fun c9 => ?_) (fun c9 => ?_)
      · replace hw := hw.2 c9
        refine lv_iconst (v := 0) hx hb dX5_repeatsAnItem_43 (by decide) ?_
        exact W.zret hx hb hr (zb_nar zb0) (fun t ht _ => ⟨0, rfl, hw, ht⟩) t_nil dX5_repeatsAnItem_44
      · replace hw := hw.1 c9
        refine lv_iconst (v := 1) hx hb dX5_repeatsAnItem_39 (by decide) ?_
        refine lv_goto (tgt := 44) hx hb dX5_repeatsAnItem_40 (by decide) ?_
        exact W.zret hx hb hr (zb_nar zb1) (fun t ht _ => ⟨1, rfl, hw, ht⟩) t_nil dX5_repeatsAnItem_44
  · replace hw := hw.1 c1
    refine lv_iconst (v := 0) hx hb dX5_repeatsAnItem_11 (by decide) ?_
    exact W.zret hx hb hr (zb_nar zb0) (fun t ht _ => ⟨0, rfl, hw, ht⟩) t_nil dX5_repeatsAnItem_12

def wp_X5_toClue (pv : PV) (h0_size : Int32) (h0_sg : Nat → Int32) (Q : Nat → Nat → Int32 → Int32 → Int32 → Int32 → Int32 → Int32 → Int32 → Int32 → (Nat → Int32) → Prop) : Prop :=
  (wp_X5_itemAt 0 h0_sg (fun r1 => (((h0_sg (2 : Int32).toNatClampNeg) = 64 → (wp_X1_of 5 r1 (-6) (-6) ((h0_sg (3 : Int32).toNatClampNeg) - 48) pv (fun q39 q29 w30 w31 w32 w33 w34 w35 w36 w37 w38 => Q q39 q29 w30 w31 w32 w33 w34 w35 w36 w37 w38))) ∧ (¬ ((h0_sg (2 : Int32).toNatClampNeg) = 64) → (wp_X5_itemAt 3 h0_sg (fun r3 => ((h0_size = 8 → (wp_X5_itemAt 6 h0_sg (fun r17 => (wp_X1_of 6 r1 r3 r17 (-6) pv (fun q28 q18 w19 w20 w21 w22 w23 w24 w25 w26 w27 => Q q28 q18 w19 w20 w21 w22 w23 w24 w25 w26 w27))))) ∧ (¬ (h0_size = 8) → (wp_X5_kindOf (h0_sg (2 : Int32).toNatClampNeg) (fun r5 => (wp_X1_of r5 r1 r3 (-6) (-6) pv (fun q16 q6 w7 w8 w9 w10 w11 w12 w13 w14 w15 => Q q16 q6 w7 w8 w9 w10 w11 w12 w13 w14 w15))))))))))))
theorem hd_X5_toClue : yX5_toClue.cls = RX5 ∧ yX5_toClue.cls ≠ "java/lang/invoke/MethodHandle" ∧ yX5_toClue.cls ≠ "java/lang/invoke/VarHandle" ∧ (parseMethodDescriptor yX5_toClue.desc).map (fun d => d.parameters.length) = some 0 := by decide +kernel
set_option maxHeartbeats 4000000 in
set_option maxRecDepth 100000 in
theorem m_X5_toClue (l : Launch) (g : GG) {tb : TB} {pv : PV} {h0 h0s : Nat} {h0_size : Int32} {h0_sg : Nat → Int32} {sz : Nat} {Q : Nat → Nat → Int32 → Int32 → Int32 → Int32 → Int32 → Int32 → Int32 → Int32 → (Nat → Int32) → Prop} (hw : wp_X5_toClue pv h0_size h0_sg Q) : Met l yX5_toClue wsX5_toClue ({ frames := 4, cells := 2, slots := 25, locals := 94 } : Room) (PcM g (roC g tb pv) [(h0, .inr (5, [.ref h0s, .int h0_size])), (h0s, .inl (g.2.1, 10, .inl h0_sg))] sz [.ref h0]) (va_Qr (fun (u : Nat × (Nat × Int32 × Int32 × Int32 × Int32 × Int32 × Int32 × Int32 × Int32 × (Nat → Int32))) => Q u.1 u.2.1 u.2.2.1 u.2.2.2.1 u.2.2.2.2.1 u.2.2.2.2.2.1 u.2.2.2.2.2.2.1 u.2.2.2.2.2.2.2.1 u.2.2.2.2.2.2.2.2.1 u.2.2.2.2.2.2.2.2.2.1 u.2.2.2.2.2.2.2.2.2.2) (BR g (fun (u : Nat × (Nat × Int32 × Int32 × Int32 × Int32 × Int32 × Int32 × Int32 × Int32 × (Nat → Int32))) => [(h0, .inr (5, [.ref h0s, .int h0_size])), (h0s, .inl (g.2.1, 10, .inl h0_sg)), (u.1, .inr (1, [.int u.2.2.1, .int u.2.2.2.1, .int u.2.2.2.2.1, .int u.2.2.2.2.2.1, .int u.2.2.2.2.2.2.1, .int u.2.2.2.2.2.2.2.1, .int u.2.2.2.2.2.2.2.2.1, .int u.2.2.2.2.2.2.2.2.2.1, .ref u.2.1])), (u.2.1, .inl (g.2.1, 16, .inl u.2.2.2.2.2.2.2.2.2.2))]) (va_A [(h0, .inr (5, [.ref h0s, .int h0_size])), (h0s, .inl (g.2.1, 10, .inl h0_sg))] sz)) (va_A [(h0, .inr (5, [.ref h0s, .int h0_size])), (h0s, .inl (g.2.1, 10, .inl h0_sg))] sz)) 2 25 (va_A [(h0, .inr (5, [.ref h0s, .int h0_size])), (h0s, .inl (g.2.1, 10, .inl h0_sg))] sz) := by
  have hok : RoOK (roC g tb pv) := roC_ok
  refine Met.ofW (cc := cX5_toClue) (maxL := 3) (ret := (some (.object "GridRiddles$Clue"))) (by decide) rfl ?_
  intro p e s m args below meth c s₁ B hml hv
  obtain ⟨rfl, hsz, hP, hK, hD0, hro⟩ := hv
  have hx := B.exec
  have hb := B.bytes
  have hr := B.returns
  have hts := atoms_spec (ws := wsX5_toClue) B.pre
  have hown : s.vm.findClass RX5 = some m.cls := findClass_of_methodNamed B.named
  have hlocks := B.notSynchronized
  subst hsz
  have hD := hD0.self (sz := s.heap.size)
  generalize hAe : va_A [(h0, .inr (5, [.ref h0s, .int h0_size])), (h0s, .inl (g.2.1, 10, .inl h0_sg))] s.heap.size = A at hD hro ⊢
  have hA : ∀ q : Nat, s.heap.size ≤ q → A q := fun q h => by rw [← hAe]; exact Or.inr h
  have hS : va_S A s.heap s.heap [] := va_S.rf
  have hP : PP g [(h0, .inr (5, [.ref h0s, .int h0_size])), (h0s, .inl (g.2.1, 10, .inl h0_sg))] s.heap := hP
  have lk1 := hts (.fieldLink RX5 9 "GridRiddles$Text" "signs" "[I") (by decide +kernel)
  have hinX5 : ∀ w ∈ u_ws RX5 TX5 2, w ∈ wsX5_toClue := by decide +kernel
  have lk3 := hts (.fieldLink RX5 15 "GridRiddles$Text" "size" "I") (by decide +kernel)
  have hl := lv_entry ([.ref h0]) (n := 3) (Nat.le_of_ble_eq_true rfl)
  rw [lg_entry_eq]
  generalize (lg_sl ([.ref h0]) ++ List.replicate (3 - (lg_sl ([.ref h0])).length) Slot.unset).toArray = ls at hl ⊢
  have hl : lv_has ls 3 [(0, .ref h0)] := hl
  unfold wp_X5_toClue at hw
  refine lv_aload_n hx hb dX5_toClue_0 rfl (lv_at hl 0 rfl) ?_
  refine lv_iconst (v := 0) hx hb dX5_toClue_1 (by decide) ?_
  refine kp_V (As := [.int 0]) (rest := []) (wc := [(h0, .inr (5, [.ref h0s, .int h0_size])), (h0s, .inl (g.2.1, 10, .inl h0_sg))]) (cq := (RX5, TX5, 2)) ⟨hx, hb, hml, hown, hts⟩ (m_X5_itemAt l g hok (h0 := h0) (h0s := h0s) (h0_size := h0_size) (h0_sg := h0_sg) (x1 := 0) hw) (cwV 1 hts gX5_toClue_X5_itemAt rfl rfl rfl hd_X5_itemAt ⟨Nat.le_of_ble_eq_true rfl, Nat.le_of_ble_eq_true rfl⟩) hok hK hP hro hS hA 0 5 rfl rfl rfl hl.1 rfl (Nat.le_of_ble_eq_true rfl) dX5_toClue_2 ⟨Nat.le_of_ble_eq_true rfl, Nat.le_of_ble_eq_true rfl⟩ (fun r1 hw => ?_)
  refine lv_istore_n (lv' := [(1, .int r1), (0, .ref h0)]) hx hb dX5_toClue_5 rfl hl (by decide) rfl (fun ls hl => ?_)
  refine lv_aload_n hx hb dX5_toClue_6 rfl (lv_at hl 1 rfl) ?_
  refine va_get (D := g.1) (ci := 5) (v := .ref h0s) (C := RX5) (T := TX5) (N := 2) hx hb hts hinX5 hown hK hP 0 rfl rfl 0 (by decide) lk1 (fun _ h9 => h9) rfl dX5_toClue_7 ?_
  refine lv_iconst (v := 2) hx hb dX5_toClue_10 (by decide) ?_
  refine va_iald hx hb hK hP 1 0 rfl rfl (vin (by decide)) dX5_toClue_11 ?_
  refine lv_bipush (v := 64) hx hb dX5_toClue_12 (by decide) ?_
  refine lv_icmp_ne (tgt := 36) hx hb dX5_toClue_14 (by decide) (fun c2 => ?_) (fun c2 => ?_)
  · replace hw := hw.2 c2
    refine lv_aload_n hx hb dX5_toClue_36 rfl (lv_at hl 1 rfl) ?_
    refine lv_iconst (v := 3) hx hb dX5_toClue_37 (by decide) ?_
    refine kp_V (As := [.int 3]) (rest := []) (wc := [(h0, .inr (5, [.ref h0s, .int h0_size])), (h0s, .inl (g.2.1, 10, .inl h0_sg))]) (cq := (RX5, TX5, 2)) ⟨hx, hb, hml, hown, hts⟩ (m_X5_itemAt l g hok (h0 := h0) (h0s := h0s) (h0_size := h0_size) (h0_sg := h0_sg) (x1 := 3) hw) (cwV 1 hts gX5_toClue_X5_itemAt rfl rfl rfl hd_X5_itemAt ⟨Nat.le_of_ble_eq_true rfl, Nat.le_of_ble_eq_true rfl⟩) hok hK hP hro hS hA 0 5 rfl rfl rfl hl.1 rfl (Nat.le_of_ble_eq_true rfl) dX5_toClue_38 ⟨Nat.le_of_ble_eq_true rfl, Nat.le_of_ble_eq_true rfl⟩ (fun r3 hw => ?_)
    refine lv_istore_n (lv' := [(2, .int r3), (1, .int r1), (0, .ref h0)]) hx hb dX5_toClue_41 rfl hl (by decide) rfl (fun ls hl => ?_)
    refine lv_aload_n hx hb dX5_toClue_42 rfl (lv_at hl 2 rfl) ?_
    refine va_get (D := g.1) (ci := 5) (v := .int h0_size) (C := RX5) (T := TX5) (N := 2) hx hb hts hinX5 hown hK hP 0 rfl rfl 1 (by decide) lk3 (fun _ h9 => h9) rfl dX5_toClue_43 ?_
    refine lv_bipush (v := 8) hx hb dX5_toClue_46 (by decide) ?_
    refine lv_icmp_ne (tgt := 67) hx hb dX5_toClue_48 (by decide) (fun c4 => ?_) (fun c4 => ?_)
    · replace hw := hw.2 c4
      refine lv_aload_n hx hb dX5_toClue_67 rfl (lv_at hl 2 rfl) ?_
      refine va_get (D := g.1) (ci := 5) (v := .ref h0s) (C := RX5) (T := TX5) (N := 2) hx hb hts hinX5 hown hK hP 0 rfl rfl 0 (by decide) lk1 (fun _ h9 => h9) rfl dX5_toClue_68 ?_
      refine lv_iconst (v := 2) hx hb dX5_toClue_71 (by decide) ?_
      refine va_iald hx hb hK hP 1 0 rfl rfl (vin (by decide)) dX5_toClue_72 ?_
      refine kp_S (As := [.int (h0_sg (2 : Int32).toNatClampNeg)]) (rest := []) (wc := []) ⟨hx, hb, hml, hown, hts⟩ (m_X5_kindOf l g hok (x1 := (h0_sg (2 : Int32).toNatClampNeg)) hw) (va_cwS 1 hts gX5_toClue_X5_kindOf rfl rfl rfl hd_X5_kindOf ⟨Nat.le_of_ble_eq_true rfl, Nat.le_of_ble_eq_true rfl⟩) hok hK PP_nil hro hS hA rfl hl.1 rfl (Nat.le_of_ble_eq_true rfl) dX5_toClue_73 ⟨Nat.le_of_ble_eq_true rfl, Nat.le_of_ble_eq_true rfl⟩ (fun r5 hw => ?_)
      refine lv_iload_n hx hb dX5_toClue_76 rfl (lv_at hl 1 rfl) ?_
      refine lv_iload_n hx hb dX5_toClue_77 rfl (lv_at hl 0 rfl) ?_
      refine lv_bipush (v := (-6)) hx hb dX5_toClue_78 (by decide) ?_
      refine lv_bipush (v := (-6)) hx hb dX5_toClue_80 (by decide) ?_
      refine kn_Sr (As := [.int r5, .int r1, .int r3, .int (-6), .int (-6)]) (rest := []) (wc := []) (wr := [(h0, .inr (5, [.ref h0s, .int h0_size])), (h0s, .inl (g.2.1, 10, .inl h0_sg))]) ⟨hx, hb, hml, hown, hts⟩ (m_X1_of l g (tb := tb) (pv := pv) (x1 := r5) (x2 := r1) (x3 := r3) (x4 := (-6)) (x5 := (-6)) hw) (va_cwS 5 hts gX5_toClue_X1_of rfl rfl rfl hd_X1_of ⟨Nat.le_of_ble_eq_true rfl, Nat.le_of_ble_eq_true rfl⟩) hok hK hP hD hS hA (ro_pass hok hro hS (va_free (wc := []) hD hS hA [] rfl)) [] [0, 1] rfl rfl (by decide) (by decide) (by decide)  rfl hl.1 rfl (Nat.le_of_ble_eq_true rfl) dX5_toClue_82 ⟨Nat.le_of_ble_eq_true rfl, Nat.le_of_ble_eq_true rfl⟩ (fun u H locs hw hP hD hS => ?_)
      obtain ⟨q16, q6, w7, w8, w9, w10, w11, w12, w13, w14, w15⟩ := u
      refine W.eq (g2 := F0 m 85 ls [.ref q16]) rfl ?_
      have hP : PP g [(h0, .inr (5, [.ref h0s, .int h0_size])), (h0s, .inl (g.2.1, 10, .inl h0_sg)), (q16, .inr (1, [.int w7, .int w8, .int w9, .int w10, .int w11, .int w12, .int w13, .int w14, .ref q6])), (q6, .inl (g.2.1, 16, .inl w15))] H := hP
      have hD : va_D A [(h0, .inr (5, [.ref h0s, .int h0_size])), (h0s, .inl (g.2.1, 10, .inl h0_sg)), (q16, .inr (1, [.int w7, .int w8, .int w9, .int w10, .int w11, .int w12, .int w13, .int w14, .ref q6])), (q6, .inl (g.2.1, 16, .inl w15))] := hD
      exact W.aret hx hb hr (Or.inl ⟨_, rfl⟩) (Or.inr ⟨_, rfl⟩) (fun t ht hW => ⟨⟨(q16, q6, w7, w8, w9, w10, w11, w12, w13, w14, w15), q16, rfl, hw, rfl, by rw [ht]; exact hP, va_K.moved hW.alike hK, hD⟩, hS.F ht⟩) hS.2.2 dX5_toClue_85
    · replace hw := hw.1 c4
      refine lv_bipush (v := 6) hx hb dX5_toClue_51 (by decide) ?_
      refine lv_iload_n hx hb dX5_toClue_53 rfl (lv_at hl 1 rfl) ?_
      refine lv_iload_n hx hb dX5_toClue_54 rfl (lv_at hl 0 rfl) ?_
      refine lv_aload_n hx hb dX5_toClue_55 rfl (lv_at hl 2 rfl) ?_
      refine lv_bipush (v := 6) hx hb dX5_toClue_56 (by decide) ?_
      refine kp_V (As := [.int 6]) (rest := [.int r3, .int r1, .int 6]) (wc := [(h0, .inr (5, [.ref h0s, .int h0_size])), (h0s, .inl (g.2.1, 10, .inl h0_sg))]) (cq := (RX5, TX5, 2)) ⟨hx, hb, hml, hown, hts⟩ (m_X5_itemAt l g hok (h0 := h0) (h0s := h0s) (h0_size := h0_size) (h0_sg := h0_sg) (x1 := 6) hw) (cwV 1 hts gX5_toClue_X5_itemAt rfl rfl rfl hd_X5_itemAt ⟨Nat.le_of_ble_eq_true rfl, Nat.le_of_ble_eq_true rfl⟩) hok hK hP hro hS hA 0 5 rfl rfl rfl hl.1 rfl (Nat.le_of_ble_eq_true rfl) dX5_toClue_58 ⟨Nat.le_of_ble_eq_true rfl, Nat.le_of_ble_eq_true rfl⟩ (fun r17 hw => ?_)
      refine lv_bipush (v := (-6)) hx hb dX5_toClue_61 (by decide) ?_
      refine kn_Sr (As := [.int 6, .int r1, .int r3, .int r17, .int (-6)]) (rest := []) (wc := []) (wr := [(h0, .inr (5, [.ref h0s, .int h0_size])), (h0s, .inl (g.2.1, 10, .inl h0_sg))]) ⟨hx, hb, hml, hown, hts⟩ (m_X1_of l g (tb := tb) (pv := pv) (x1 := 6) (x2 := r1) (x3 := r3) (x4 := r17) (x5 := (-6)) hw) (va_cwS 5 hts gX5_toClue_X1_of rfl rfl rfl hd_X1_of ⟨Nat.le_of_ble_eq_true rfl, Nat.le_of_ble_eq_true rfl⟩) hok hK hP hD hS hA (ro_pass hok hro hS (va_free (wc := []) hD hS hA [] rfl)) [] [0, 1] rfl rfl (by decide) (by decide) (by decide)  rfl hl.1 rfl (Nat.le_of_ble_eq_true rfl) dX5_toClue_63 ⟨Nat.le_of_ble_eq_true rfl, Nat.le_of_ble_eq_true rfl⟩ (fun u H locs hw hP hD hS => ?_)
      obtain ⟨q28, q18, w19, w20, w21, w22, w23, w24, w25, w26, w27⟩ := u
      refine W.eq (g2 := F0 m 66 ls [.ref q28]) rfl ?_
      have hP : PP g [(h0, .inr (5, [.ref h0s, .int h0_size])), (h0s, .inl (g.2.1, 10, .inl h0_sg)), (q28, .inr (1, [.int w19, .int w20, .int w21, .int w22, .int w23, .int w24, .int w25, .int w26, .ref q18])), (q18, .inl (g.2.1, 16, .inl w27))] H := hP
      have hD : va_D A [(h0, .inr (5, [.ref h0s, .int h0_size])), (h0s, .inl (g.2.1, 10, .inl h0_sg)), (q28, .inr (1, [.int w19, .int w20, .int w21, .int w22, .int w23, .int w24, .int w25, .int w26, .ref q18])), (q18, .inl (g.2.1, 16, .inl w27))] := hD
      exact W.aret hx hb hr (Or.inl ⟨_, rfl⟩) (Or.inr ⟨_, rfl⟩) (fun t ht hW => ⟨⟨(q28, q18, w19, w20, w21, w22, w23, w24, w25, w26, w27), q28, rfl, hw, rfl, by rw [ht]; exact hP, va_K.moved hW.alike hK, hD⟩, hS.F ht⟩) hS.2.2 dX5_toClue_66
  · replace hw := hw.1 c2
    refine lv_iconst (v := 5) hx hb dX5_toClue_17 (by decide) ?_
    refine lv_iload_n hx hb dX5_toClue_18 rfl (lv_at hl 0 rfl) ?_
    refine lv_bipush (v := (-6)) hx hb dX5_toClue_19 (by decide) ?_
    refine lv_bipush (v := (-6)) hx hb dX5_toClue_21 (by decide) ?_
    refine lv_aload_n hx hb dX5_toClue_23 rfl (lv_at hl 1 rfl) ?_
    refine va_get (D := g.1) (ci := 5) (v := .ref h0s) (C := RX5) (T := TX5) (N := 2) hx hb hts hinX5 hown hK hP 0 rfl rfl 0 (by decide) lk1 (fun _ h9 => h9) rfl dX5_toClue_24 ?_
    refine lv_iconst (v := 3) hx hb dX5_toClue_27 (by decide) ?_
    refine va_iald hx hb hK hP 1 0 rfl rfl (vin (by decide)) dX5_toClue_28 ?_
    refine lv_bipush (v := 48) hx hb dX5_toClue_29 (by decide) ?_
    refine lv_isub hx hb dX5_toClue_31 ?_
    refine kn_Sr (As := [.int 5, .int r1, .int (-6), .int (-6), .int ((h0_sg (3 : Int32).toNatClampNeg) - 48)]) (rest := []) (wc := []) (wr := [(h0, .inr (5, [.ref h0s, .int h0_size])), (h0s, .inl (g.2.1, 10, .inl h0_sg))]) ⟨hx, hb, hml, hown, hts⟩ (m_X1_of l g (tb := tb) (pv := pv) (x1 := 5) (x2 := r1) (x3 := (-6)) (x4 := (-6)) (x5 := ((h0_sg (3 : Int32).toNatClampNeg) - 48)) hw) (va_cwS 5 hts gX5_toClue_X1_of rfl rfl rfl hd_X1_of ⟨Nat.le_of_ble_eq_true rfl, Nat.le_of_ble_eq_true rfl⟩) hok hK hP hD hS hA (ro_pass hok hro hS (va_free (wc := []) hD hS hA [] rfl)) [] [0, 1] rfl rfl (by decide) (by decide) (by decide)  rfl hl.1 rfl (Nat.le_of_ble_eq_true rfl) dX5_toClue_32 ⟨Nat.le_of_ble_eq_true rfl, Nat.le_of_ble_eq_true rfl⟩ (fun u H locs hw hP hD hS => ?_)
    obtain ⟨q39, q29, w30, w31, w32, w33, w34, w35, w36, w37, w38⟩ := u
    refine W.eq (g2 := F0 m 35 ls [.ref q39]) rfl ?_
    have hP : PP g [(h0, .inr (5, [.ref h0s, .int h0_size])), (h0s, .inl (g.2.1, 10, .inl h0_sg)), (q39, .inr (1, [.int w30, .int w31, .int w32, .int w33, .int w34, .int w35, .int w36, .int w37, .ref q29])), (q29, .inl (g.2.1, 16, .inl w38))] H := hP
    have hD : va_D A [(h0, .inr (5, [.ref h0s, .int h0_size])), (h0s, .inl (g.2.1, 10, .inl h0_sg)), (q39, .inr (1, [.int w30, .int w31, .int w32, .int w33, .int w34, .int w35, .int w36, .int w37, .ref q29])), (q29, .inl (g.2.1, 16, .inl w38))] := hD
    exact W.aret hx hb hr (Or.inl ⟨_, rfl⟩) (Or.inr ⟨_, rfl⟩) (fun t ht hW => ⟨⟨(q39, q29, w30, w31, w32, w33, w34, w35, w36, w37, w38), q39, rfl, hw, rfl, by rw [ht]; exact hP, va_K.moved hW.alike hK, hD⟩, hS.F ht⟩) hS.2.2 dX5_toClue_35
