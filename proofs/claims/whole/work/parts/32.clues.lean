def wp_X2_init  (Q : Nat → (Nat → Option Nat) → Prop) : Prop :=
  ∀ q1 : Nat, Q q1 (fun _ => none)
theorem hd_X2_init : yX2_init.cls ≠ "java/lang/invoke/MethodHandle" ∧ yX2_init.cls ≠ "java/lang/invoke/VarHandle" ∧ (parseMethodDescriptor yX2_init.desc).map (fun d => d.parameters.length) = some 0 := by decide +kernel
set_option maxHeartbeats 4000000 in
set_option maxRecDepth 100000 in
theorem m_X2_init (l : Launch) (g : GG) {tb : TB} {pv : PV} {h0 : Nat} {sz : Nat} {Q : Nat → (Nat → Option Nat) → Prop} (hw : wp_X2_init  Q) : Met l yX2_init wsX2_init ({ frames := 1, cells := 1, slots := 12, locals := 20 } : Room) (PcM g (roC g tb pv) [(h0, .inr (2, [.null, .int 0]))] sz [.ref h0]) (va_Qv (fun (u : Nat × (Nat → Option Nat)) => Q u.1 u.2) (BM g (fun u : Nat × (Nat → Option Nat) => [(h0, .inr (2, [.ref u.1, .int 0])), (u.1, .inl (g.2.2.2.1, 12, .inr (.inr (.inr (.inr u.2)))))]) (va_A [(h0, .inr (2, [.null, .int 0]))] sz)) (va_A [(h0, .inr (2, [.null, .int 0]))] sz)) 1 12 (va_A [(h0, .inr (2, [.null, .int 0]))] sz) := by
  have hok : RoOK (roC g tb pv) := roC_ok
  refine Met.ofW (cc := cX2_init) (maxL := 1) (ret := none) (by decide) rfl ?_
  intro p e s m args below meth c s₁ B hml hv
  obtain ⟨rfl, hsz, hP, hK, hD0, hro⟩ := hv
  have hx := B.exec
  have hb := B.bytes
  have hr := B.returns
  have hts := atoms_spec (ws := wsX2_init) B.pre
  have hown : s.vm.findClass RX2 = some m.cls := findClass_of_methodNamed B.named
  have hlocks := B.notSynchronized
  have hin : meth.name = "<init>" := (name_of_methodNamed B.named B.method).1
  subst hsz
  have hD := hD0.self (sz := s.heap.size)
  generalize hAe : va_A [(h0, .inr (2, [.null, .int 0]))] s.heap.size = A at hD hro ⊢
  have hA : ∀ q : Nat, s.heap.size ≤ q → A q := fun q h => by rw [← hAe]; exact Or.inr h
  have hS : va_S A s.heap s.heap [] := va_S.rf
  have hP : PP g [(h0, .inr (2, [.null, .int 0]))] s.heap := hP
  have lk1 := hts (.methodLink RX2 3 objectInit) (by decide +kernel)
  have lk2 := hts (.instanceMethod objectInit) (by decide +kernel)
  have lk3 := hts (.code objectInit ⟨#[0xb1]⟩ 1 none) (by decide +kernel)
  have lk4 := hts (.classLink RX2 9 RX1) (by decide +kernel)
  have lk5 := hts (.fieldLink RX2 11 "GridRiddles$Clues" "row" "[LGridRiddles$Clue;") (by decide +kernel)
  have hinX2 : ∀ w ∈ u_ws RX2 TX2 2, w ∈ wsX2_init := by decide +kernel
  have lk7 := hts (.fieldLink RX2 17 "GridRiddles$Clues" "size" "I") (by decide +kernel)
  have hl := lv_entry ([.ref h0]) (n := 1) (Nat.le_of_ble_eq_true rfl)
  rw [lg_entry_eq]
  generalize (lg_sl ([.ref h0]) ++ List.replicate (1 - (lg_sl ([.ref h0])).length) Slot.unset).toArray = ls at hl ⊢
  have hl : lv_has ls 1 [(0, .ref h0)] := hl
  unfold wp_X2_init at hw
  refine lv_aload_n hx hb dX2_init_0 rfl (lv_at hl 0 rfl) ?_
  refine W.objInit hx hb hown lk1 lk2 lk3 rfl (by rw [hml]; exact hl.1) rfl dX2_init_1 (Nat.le_of_ble_eq_true rfl) (Nat.le_of_ble_eq_true rfl) ?_
  refine W.eq (g2 := F0 m 4 ls []) rfl ?_
  refine lv_aload_n hx hb dX2_init_4 rfl (lv_at hl 0 rfl) ?_
  refine lv_bipush (v := 12) hx hb dX2_init_5 (by decide) ?_
  refine kw_newC hx hb hown lk4 hro.2.2.2.2.2.2.2.2.2.2.2.2.1 hK hP hD hS hA (N' := 12) (by decide) (by decide) (by decide) (Nat.le_of_ble_eq_true rfl) (Nat.le_of_ble_eq_true rfl) dX2_init_7 (fun q1 H hP hD hS => ?_)
  have hP : PP g [(h0, .inr (2, [.null, .int 0])), (q1, .inl (g.2.2.2.1, 12, .inr (.inr (.inr (.inr (fun _ => none))))))] H := hP
  have hD : va_D A [(h0, .inr (2, [.null, .int 0])), (q1, .inl (g.2.2.2.1, 12, .inr (.inr (.inr (.inr (fun _ => none))))))] := hD
  replace hw := hw q1
  refine va_putF (D := g.1) (ci := 2) (v := .ref q1) (ty := .array (.object "GridRiddles$Clue")) (C := RX2) (T := TX2) (N := 2) hx hb hts hinX2 tyX2 tyX2_ok nmX2 hown hK hP hD hS 0 rfl rfl 0 (by decide) lk5 (fun _ h9 => h9) rfl hin rfl (by decide +kernel) rfl rfl (Nat.le_of_ble_eq_true rfl) dX2_init_10 (fun H locs hP hD hS => ?_)
  have hP : PP g [(h0, .inr (2, [.ref q1, .int 0])), (q1, .inl (g.2.2.2.1, 12, .inr (.inr (.inr (.inr (fun _ => none))))))] H := hP
  have hD : va_D A [(h0, .inr (2, [.ref q1, .int 0])), (q1, .inl (g.2.2.2.1, 12, .inr (.inr (.inr (.inr (fun _ => none))))))] := hD
  refine lv_aload_n hx hb dX2_init_13 rfl (lv_at hl 0 rfl) ?_
  refine lv_iconst (v := 0) hx hb dX2_init_14 (by decide) ?_
  refine va_put (D := g.1) (ci := 2) (v := .int 0) (ty := .int) (C := RX2) (T := TX2) (N := 2) hx hb hts hinX2 tyX2 tyX2_ok nmX2 hown hK hP hD hS 0 rfl rfl 1 (by decide) lk7 (fun _ h9 => h9) rfl (by decide +kernel) rfl rfl (Nat.le_of_ble_eq_true rfl) dX2_init_15 (fun H locs hP hD hS => ?_)
  have hP : PP g [(h0, .inr (2, [.ref q1, .int 0])), (q1, .inl (g.2.2.2.1, 12, .inr (.inr (.inr (.inr (fun _ => none))))))] H := hP
  have hD : va_D A [(h0, .inr (2, [.ref q1, .int 0])), (q1, .inl (g.2.2.2.1, 12, .inr (.inr (.inr (.inr (fun _ => none))))))] := hD
  exact W.vret hx hb hr (fun t ht hW => ⟨⟨(q1, (fun _ => none)), rfl, hw, by rw [ht]; exact hP, va_K.moved hW.alike hK, hD⟩, hS.F ht⟩) hS.2.2 dX2_init_18

def wp_X2_add (x1 : Nat) (pv : PV) (h0_size : Int32) (h0_row : Nat → Option Nat) (Q : Int32 → (Nat → Option Nat) → Prop) : Prop :=
  ((12 ≤ h0_size → Q h0_size h0_row) ∧ (¬ (12 ≤ h0_size) → (pv.1 x1 ∧ (vp_in h0_size 12 ∧ Q (h0_size + 1) (va_up h0_row h0_size.toNatClampNeg (some x1))))))
theorem hd_X2_add : yX2_add.cls = RX2 ∧ yX2_add.cls ≠ "java/lang/invoke/MethodHandle" ∧ yX2_add.cls ≠ "java/lang/invoke/VarHandle" ∧ (parseMethodDescriptor yX2_add.desc).map (fun d => d.parameters.length) = some 1 := by decide +kernel
set_option maxHeartbeats 4000000 in
set_option maxRecDepth 100000 in
theorem m_X2_add (l : Launch) (g : GG) {tb : TB} {pv : PV} {h0 h0r : Nat} {h0_size : Int32} {h0_row : Nat → Option Nat} {x1 : Nat} {sz : Nat} {Q : Int32 → (Nat → Option Nat) → Prop} (hw : wp_X2_add x1 pv h0_size h0_row Q) : Met l yX2_add wsX2_add ({ frames := 0, cells := 0, slots := 0, locals := 0 } : Room) (PcM g (roC g tb pv) [(h0, .inr (2, [.ref h0r, .int h0_size])), (h0r, .inl (g.2.2.2.1, 12, .inr (.inr (.inr (.inr h0_row)))))] sz [.ref h0, .ref x1]) (va_Qv (fun (u : Int32 × (Nat → Option Nat)) => Q u.1 u.2) (BM g (fun u : Int32 × (Nat → Option Nat) => [(h0, .inr (2, [.ref h0r, .int u.1])), (h0r, .inl (g.2.2.2.1, 12, .inr (.inr (.inr (.inr u.2)))))]) (va_A [(h0, .inr (2, [.ref h0r, .int h0_size])), (h0r, .inl (g.2.2.2.1, 12, .inr (.inr (.inr (.inr h0_row)))))] sz)) (va_A [(h0, .inr (2, [.ref h0r, .int h0_size])), (h0r, .inl (g.2.2.2.1, 12, .inr (.inr (.inr (.inr h0_row)))))] sz)) 0 0 (va_A [(h0, .inr (2, [.ref h0r, .int h0_size])), (h0r, .inl (g.2.2.2.1, 12, .inr (.inr (.inr (.inr h0_row)))))] sz) := by
  have hok : RoOK (roC g tb pv) := roC_ok
  refine Met.ofW (cc := cX2_add) (maxL := 2) (ret := none) (by decide) rfl ?_
  intro p e s m args below meth c s₁ B hml hv
  obtain ⟨rfl, hsz, hP, hK, hD0, hro⟩ := hv
  have hx := B.exec
  have hb := B.bytes
  have hr := B.returns
  have hts := atoms_spec (ws := wsX2_add) B.pre
  have hown : s.vm.findClass RX2 = some m.cls := findClass_of_methodNamed B.named
  have hlocks := B.notSynchronized
  subst hsz
  have hD := hD0.self (sz := s.heap.size)
  generalize hAe : va_A [(h0, .inr (2, [.ref h0r, .int h0_size])), (h0r, .inl (g.2.2.2.1, 12, .inr (.inr (.inr (.inr h0_row)))))] s.heap.size = A at hD hro ⊢
  have hA : ∀ q : Nat, s.heap.size ≤ q → A q := fun q h => by rw [← hAe]; exact Or.inr h
  have hS : va_S A s.heap s.heap [] := va_S.rf
  have hP : PP g [(h0, .inr (2, [.ref h0r, .int h0_size])), (h0r, .inl (g.2.2.2.1, 12, .inr (.inr (.inr (.inr h0_row)))))] s.heap := hP
  have lk1 := hts (.fieldLink RX2 17 "GridRiddles$Clues" "size" "I") (by decide +kernel)
  have hinX2 : ∀ w ∈ u_ws RX2 TX2 2, w ∈ wsX2_add := by decide +kernel
  have lk3 := hts (.fieldLink RX2 11 "GridRiddles$Clues" "row" "[LGridRiddles$Clue;") (by decide +kernel)
  have hl := lv_entry ([.ref h0, .ref x1]) (n := 2) (Nat.le_of_ble_eq_true rfl)
  rw [lg_entry_eq]
  generalize (lg_sl ([.ref h0, .ref x1]) ++ List.replicate (2 - (lg_sl ([.ref h0, .ref x1])).length) Slot.unset).toArray = ls at hl ⊢
  have hl : lv_has ls 2 [(0, .ref h0), (1, .ref x1)] := hl
  unfold wp_X2_add at hw
  refine lv_aload_n hx hb dX2_add_0 rfl (lv_at hl 0 rfl) ?_
  refine va_get (D := g.1) (ci := 2) (v := .int h0_size) (C := RX2) (T := TX2) (N := 2) hx hb hts hinX2 hown hK hP 0 rfl rfl 1 (by decide) lk1 (fun _ h9 => h9) rfl dX2_add_1 ?_
  refine lv_bipush (v := 12) hx hb dX2_add_4 (by decide) ?_
  refine lv_icmp_ge (tgt := 29) hx hb dX2_add_6 (by decide) (fun c1 => ?_) (fun c1 => ?_)
  · replace hw := hw.1 c1
    exact W.vret hx hb hr (fun t ht hW => ⟨⟨(h0_size, h0_row), rfl, hw, by rw [ht]; exact hP, va_K.moved hW.alike hK, hD⟩, hS.F ht⟩) hS.2.2 dX2_add_29
  · replace hw := hw.2 c1
    refine lv_aload_n hx hb dX2_add_9 rfl (lv_at hl 0 rfl) ?_
    refine va_get (D := g.1) (ci := 2) (v := .ref h0r) (C := RX2) (T := TX2) (N := 2) hx hb hts hinX2 hown hK hP 0 rfl rfl 0 (by decide) lk3 (fun _ h9 => h9) rfl dX2_add_10 ?_
    refine lv_aload_n hx hb dX2_add_13 rfl (lv_at hl 0 rfl) ?_
    refine va_get (D := g.1) (ci := 2) (v := .int h0_size) (C := RX2) (T := TX2) (N := 2) hx hb hts hinX2 hown hK hP 0 rfl rfl 1 (by decide) lk1 (fun _ h9 => h9) rfl dX2_add_14 ?_
    refine lv_aload_n hx hb dX2_add_17 rfl (lv_at hl 1 rfl) ?_
    obtain ⟨hp2, hw⟩ := hw
    obtain ⟨hi, hw⟩ := hw
    refine va_astqM hx hb hK hP hD hS 1 2 rfl rfl (pool_any hK hro hS hp2) hi dX2_add_18 (fun H locs hP hD hS => ?_)
    have hP : PP g [(h0, .inr (2, [.ref h0r, .int h0_size])), (h0r, .inl (g.2.2.2.1, 12, .inr (.inr (.inr (.inr (va_up h0_row h0_size.toNatClampNeg (some x1)))))))] H := hP
    have hD : va_D A [(h0, .inr (2, [.ref h0r, .int h0_size])), (h0r, .inl (g.2.2.2.1, 12, .inr (.inr (.inr (.inr (va_up h0_row h0_size.toNatClampNeg (some x1)))))))] := hD
    refine lv_aload_n hx hb dX2_add_19 rfl (lv_at hl 0 rfl) ?_
    refine lv_dup hx hb dX2_add_20 rfl ?_
    refine va_get (D := g.1) (ci := 2) (v := .int h0_size) (C := RX2) (T := TX2) (N := 2) hx hb hts hinX2 hown hK hP 0 rfl rfl 1 (by decide) lk1 (fun _ h9 => h9) rfl dX2_add_21 ?_
    refine lv_iconst (v := 1) hx hb dX2_add_24 (by decide) ?_
    refine lv_iadd hx hb dX2_add_25 ?_
    refine va_put (D := g.1) (ci := 2) (v := .int (h0_size + 1)) (ty := .int) (C := RX2) (T := TX2) (N := 2) hx hb hts hinX2 tyX2 tyX2_ok nmX2 hown hK hP hD hS 0 rfl rfl 1 (by decide) lk1 (fun _ h9 => h9) rfl (by decide +kernel) rfl rfl (Nat.le_of_ble_eq_true rfl) dX2_add_26 (fun H locs hP hD hS => ?_)
    have hP : PP g [(h0, .inr (2, [.ref h0r, .int (h0_size + 1)])), (h0r, .inl (g.2.2.2.1, 12, .inr (.inr (.inr (.inr (va_up h0_row h0_size.toNatClampNeg (some x1)))))))] H := hP
    have hD : va_D A [(h0, .inr (2, [.ref h0r, .int (h0_size + 1)])), (h0r, .inl (g.2.2.2.1, 12, .inr (.inr (.inr (.inr (va_up h0_row h0_size.toNatClampNeg (some x1)))))))] := hD
    exact W.vret hx hb hr (fun t ht hW => ⟨⟨((h0_size + 1), (va_up h0_row h0_size.toNatClampNeg (some x1))), rfl, hw, by rw [ht]; exact hP, va_K.moved hW.alike hK, hD⟩, hS.F ht⟩) hS.2.2 dX2_add_29

def wp_X2_remove_2 (Q : Int32 → (Nat → Option Nat) → Prop) (pv : PV)  (l2 : Int32) (h0_size : Int32) (h0_row : Nat → Option Nat) : Prop :=
  ∃ (I2 : Int32 → Int32 → (Nat → Option Nat) → Prop) (mu2 : Int32 → Int32 → (Nat → Option Nat) → Nat), I2 l2 h0_size h0_row ∧ ∀ (l2 : Int32) (h0_size : Int32) (h0_row : Nat → Option Nat), I2 l2 h0_size h0_row → (((h0_size - 1) ≤ l2 → Q (h0_size - 1) h0_row) ∧ (¬ ((h0_size - 1) ≤ l2) → (vp_in (l2 + 1) 12 ∧ ∃ a2 : Nat, (h0_row (l2 + 1).toNatClampNeg) = some a2 ∧ (pv.1 a2 ∧ (vp_in l2 12 ∧ (I2 (l2 + 1) h0_size (va_up h0_row l2.toNatClampNeg (some a2)) ∧ mu2 (l2 + 1) h0_size (va_up h0_row l2.toNatClampNeg (some a2)) < mu2 l2 h0_size h0_row))))))
def wp_X2_remove (x1 : Int32) (pv : PV) (h0_size : Int32) (h0_row : Nat → Option Nat) (Q : Int32 → (Nat → Option Nat) → Prop) : Prop :=
  wp_X2_remove_2 Q pv  x1 h0_size h0_row
theorem hd_X2_remove : yX2_remove.cls = RX2 ∧ yX2_remove.cls ≠ "java/lang/invoke/MethodHandle" ∧ yX2_remove.cls ≠ "java/lang/invoke/VarHandle" ∧ (parseMethodDescriptor yX2_remove.desc).map (fun d => d.parameters.length) = some 1 := by decide +kernel
set_option maxHeartbeats 4000000 in
set_option maxRecDepth 100000 in
theorem m_X2_remove (l : Launch) (g : GG) {tb : TB} {pv : PV} {h0 h0r : Nat} {h0_size : Int32} {h0_row : Nat → Option Nat} {x1 : Int32} {sz : Nat} {Q : Int32 → (Nat → Option Nat) → Prop} (hw : wp_X2_remove x1 pv h0_size h0_row Q) : Met l yX2_remove wsX2_remove ({ frames := 0, cells := 0, slots := 0, locals := 0 } : Room) (PcM g (roC g tb pv) [(h0, .inr (2, [.ref h0r, .int h0_size])), (h0r, .inl (g.2.2.2.1, 12, .inr (.inr (.inr (.inr h0_row)))))] sz [.ref h0, .int x1]) (va_Qv (fun (u : Int32 × (Nat → Option Nat)) => Q u.1 u.2) (BM g (fun u : Int32 × (Nat → Option Nat) => [(h0, .inr (2, [.ref h0r, .int u.1])), (h0r, .inl (g.2.2.2.1, 12, .inr (.inr (.inr (.inr u.2)))))]) (va_A [(h0, .inr (2, [.ref h0r, .int h0_size])), (h0r, .inl (g.2.2.2.1, 12, .inr (.inr (.inr (.inr h0_row)))))] sz)) (va_A [(h0, .inr (2, [.ref h0r, .int h0_size])), (h0r, .inl (g.2.2.2.1, 12, .inr (.inr (.inr (.inr h0_row)))))] sz)) 0 0 (va_A [(h0, .inr (2, [.ref h0r, .int h0_size])), (h0r, .inl (g.2.2.2.1, 12, .inr (.inr (.inr (.inr h0_row)))))] sz) := by
  have hok : RoOK (roC g tb pv) := roC_ok
  refine Met.ofW (cc := cX2_remove) (maxL := 3) (ret := none) (by decide) rfl ?_
  intro p e s m args below meth c s₁ B hml hv
  obtain ⟨rfl, hsz, hP, hK, hD0, hro⟩ := hv
  have hx := B.exec
  have hb := B.bytes
  have hr := B.returns
  have hts := atoms_spec (ws := wsX2_remove) B.pre
  have hown : s.vm.findClass RX2 = some m.cls := findClass_of_methodNamed B.named
  have hlocks := B.notSynchronized
  subst hsz
  have hD := hD0.self (sz := s.heap.size)
  generalize hAe : va_A [(h0, .inr (2, [.ref h0r, .int h0_size])), (h0r, .inl (g.2.2.2.1, 12, .inr (.inr (.inr (.inr h0_row)))))] s.heap.size = A at hD hro ⊢
  have hA : ∀ q : Nat, s.heap.size ≤ q → A q := fun q h => by rw [← hAe]; exact Or.inr h
  have hS : va_S A s.heap s.heap [] := va_S.rf
  have hP : PP g [(h0, .inr (2, [.ref h0r, .int h0_size])), (h0r, .inl (g.2.2.2.1, 12, .inr (.inr (.inr (.inr h0_row)))))] s.heap := hP
  have lk1 := hts (.fieldLink RX2 17 "GridRiddles$Clues" "size" "I") (by decide +kernel)
  have hinX2 : ∀ w ∈ u_ws RX2 TX2 2, w ∈ wsX2_remove := by decide +kernel
  have lk3 := hts (.fieldLink RX2 11 "GridRiddles$Clues" "row" "[LGridRiddles$Clue;") (by decide +kernel)
  have B2 : ∀ (l2 : Int32) (h0_size : Int32) (h0_row : Nat → Option Nat), wp_X2_remove_2 Q pv  l2 h0_size h0_row → ∀ (H : Heap) (locs : List Loc), PP g [(h0, .inr (2, [.ref h0r, .int h0_size])), (h0r, .inl (g.2.2.2.1, 12, .inr (.inr (.inr (.inr h0_row)))))] H → va_D A [(h0, .inr (2, [.ref h0r, .int h0_size])), (h0r, .inl (g.2.2.2.1, 12, .inr (.inr (.inr (.inr h0_row)))))] → va_S A s.heap H locs → ∀ (ls : Array Slot), lv_has ls 3 [(0, .ref h0), (2, .int l2)] → W p l e (headSpec wsX2_remove ({ frames := 0, cells := 0, slots := 0, locals := 0 } : Room)).room s m ([.ref h0, .int x1] : List Value).toArray below meth c H locs 0 0 (MQ below (va_Qv (fun (u : Int32 × (Nat → Option Nat)) => Q u.1 u.2) (BM g (fun u : Int32 × (Nat → Option Nat) => [(h0, .inr (2, [.ref h0r, .int u.1])), (h0r, .inl (g.2.2.2.1, 12, .inr (.inr (.inr (.inr u.2)))))]) A) A) ([.ref h0, .int x1] : List Value).toArray s 0 0 A) (F0 m 2 ls []) := by
    intro  l2 h0_size h0_row hw
    obtain ⟨I2, mu2, hI, hstep⟩ := hw
    have key : ∀ (n : Nat) (l2 : Int32) (h0_size : Int32) (h0_row : Nat → Option Nat), mu2 l2 h0_size h0_row < n → I2 l2 h0_size h0_row → ∀ (H : Heap) (locs : List Loc), PP g [(h0, .inr (2, [.ref h0r, .int h0_size])), (h0r, .inl (g.2.2.2.1, 12, .inr (.inr (.inr (.inr h0_row)))))] H → va_D A [(h0, .inr (2, [.ref h0r, .int h0_size])), (h0r, .inl (g.2.2.2.1, 12, .inr (.inr (.inr (.inr h0_row)))))] → va_S A s.heap H locs → ∀ (ls : Array Slot), lv_has ls 3 [(0, .ref h0), (2, .int l2)] → W p l e (headSpec wsX2_remove ({ frames := 0, cells := 0, slots := 0, locals := 0 } : Room)).room s m ([.ref h0, .int x1] : List Value).toArray below meth c H locs 0 0 (MQ below (va_Qv (fun (u : Int32 × (Nat → Option Nat)) => Q u.1 u.2) (BM g (fun u : Int32 × (Nat → Option Nat) => [(h0, .inr (2, [.ref h0r, .int u.1])), (h0r, .inl (g.2.2.2.1, 12, .inr (.inr (.inr (.inr u.2)))))]) A) A) ([.ref h0, .int x1] : List Value).toArray s 0 0 A) (F0 m 2 ls []) := by
      intro n
      induction n with
      | zero => intro l2 h0_size h0_row h; exact absurd h (Nat.not_lt_zero _)
      | succ n ih =>
          intro l2 h0_size h0_row hn hI  H locs hP hD hS ls hl
          have hw := hstep l2 h0_size h0_row hI
          have hK2 : ∀ (l2' : Int32) (h0_size' : Int32) (h0_row' : Nat → Option Nat), (I2 l2' h0_size' h0_row' ∧ mu2 l2' h0_size' h0_row' < mu2 l2 h0_size h0_row) → ∀ (H : Heap) (locs : List Loc), PP g [(h0, .inr (2, [.ref h0r, .int h0_size'])), (h0r, .inl (g.2.2.2.1, 12, .inr (.inr (.inr (.inr h0_row')))))] H → va_D A [(h0, .inr (2, [.ref h0r, .int h0_size'])), (h0r, .inl (g.2.2.2.1, 12, .inr (.inr (.inr (.inr h0_row')))))] → va_S A s.heap H locs → ∀ (ls : Array Slot), lv_has ls 3 [(0, .ref h0), (2, .int l2')] → W p l e (headSpec wsX2_remove ({ frames := 0, cells := 0, slots := 0, locals := 0 } : Room)).room s m ([.ref h0, .int x1] : List Value).toArray below meth c H locs 0 0 (MQ below (va_Qv (fun (u : Int32 × (Nat → Option Nat)) => Q u.1 u.2) (BM g (fun u : Int32 × (Nat → Option Nat) => [(h0, .inr (2, [.ref h0r, .int u.1])), (h0r, .inl (g.2.2.2.1, 12, .inr (.inr (.inr (.inr u.2)))))]) A) A) ([.ref h0, .int x1] : List Value).toArray s 0 0 A) (F0 m 2 ls []) := fun l2' h0_size' h0_row' h => ih l2' h0_size' h0_row' (Nat.lt_of_lt_of_le h.2 (Nat.le_of_lt_succ hn)) h.1
          refine lv_iload_n hx hb dX2_remove_2 rfl (lv_at hl 1 rfl) ?_
          refine lv_aload_n hx hb dX2_remove_3 rfl (lv_at hl 0 rfl) ?_
          refine va_get (D := g.1) (ci := 2) (v := .int h0_size) (C := RX2) (T := TX2) (N := 2) hx hb hts hinX2 hown hK hP 0 rfl rfl 1 (by decide) lk1 (fun _ h9 => h9) rfl dX2_remove_4 ?_
          refine lv_iconst (v := 1) hx hb dX2_remove_7 (by decide) ?_
          refine lv_isub hx hb dX2_remove_8 ?_
          refine lv_icmp_ge (tgt := 32) hx hb dX2_remove_9 (by decide) (fun c1 => ?_) (fun c1 => ?_)
          · replace hw := hw.1 c1
            refine lv_aload_n hx hb dX2_remove_32 rfl (lv_at hl 0 rfl) ?_
            refine lv_dup hx hb dX2_remove_33 rfl ?_
            refine va_get (D := g.1) (ci := 2) (v := .int h0_size) (C := RX2) (T := TX2) (N := 2) hx hb hts hinX2 hown hK hP 0 rfl rfl 1 (by decide) lk1 (fun _ h9 => h9) rfl dX2_remove_34 ?_
            refine lv_iconst (v := 1) hx hb dX2_remove_37 (by decide) ?_
            refine lv_isub hx hb dX2_remove_38 ?_
            refine va_put (D := g.1) (ci := 2) (v := .int (h0_size - 1)) (ty := .int) (C := RX2) (T := TX2) (N := 2) hx hb hts hinX2 tyX2 tyX2_ok nmX2 hown hK hP hD hS 0 rfl rfl 1 (by decide) lk1 (fun _ h9 => h9) rfl (by decide +kernel) rfl rfl (Nat.le_of_ble_eq_true rfl) dX2_remove_39 (fun H locs hP hD hS => ?_)
            have hP : PP g [(h0, .inr (2, [.ref h0r, .int (h0_size - 1)])), (h0r, .inl (g.2.2.2.1, 12, .inr (.inr (.inr (.inr h0_row)))))] H := hP
            have hD : va_D A [(h0, .inr (2, [.ref h0r, .int (h0_size - 1)])), (h0r, .inl (g.2.2.2.1, 12, .inr (.inr (.inr (.inr h0_row)))))] := hD
            exact W.vret hx hb hr (fun t ht hW => ⟨⟨((h0_size - 1), h0_row), rfl, hw, by rw [ht]; exact hP, va_K.moved hW.alike hK, hD⟩, hS.F ht⟩) hS.2.2 dX2_remove_42
          · replace hw := hw.2 c1
            refine lv_aload_n hx hb dX2_remove_12 rfl (lv_at hl 0 rfl) ?_
            refine va_get (D := g.1) (ci := 2) (v := .ref h0r) (C := RX2) (T := TX2) (N := 2) hx hb hts hinX2 hown hK hP 0 rfl rfl 0 (by decide) lk3 (fun _ h9 => h9) rfl dX2_remove_13 ?_
            refine lv_iload_n hx hb dX2_remove_16 rfl (lv_at hl 1 rfl) ?_
            refine lv_aload_n hx hb dX2_remove_17 rfl (lv_at hl 0 rfl) ?_
            refine va_get (D := g.1) (ci := 2) (v := .ref h0r) (C := RX2) (T := TX2) (N := 2) hx hb hts hinX2 hown hK hP 0 rfl rfl 0 (by decide) lk3 (fun _ h9 => h9) rfl dX2_remove_18 ?_
            refine lv_iload_n hx hb dX2_remove_21 rfl (lv_at hl 1 rfl) ?_
            refine lv_iconst (v := 1) hx hb dX2_remove_22 (by decide) ?_
            refine lv_iadd hx hb dX2_remove_23 ?_
            obtain ⟨hi, hw⟩ := hw
            obtain ⟨a2, ea2, hw⟩ := hw
            refine va_aldq hx hb hK hP 1 2 rfl rfl hi dX2_remove_24 ?_
            rw [ea2]
            refine W.eq (g2 := F0 m 25 ls [.ref a2, .int l2, .ref h0r]) rfl ?_
            obtain ⟨hp3, hw⟩ := hw
            obtain ⟨hi, hw⟩ := hw
            refine va_astqM hx hb hK hP hD hS 1 2 rfl rfl (pool_any hK hro hS hp3) hi dX2_remove_25 (fun H locs hP hD hS => ?_)
            have hP : PP g [(h0, .inr (2, [.ref h0r, .int h0_size])), (h0r, .inl (g.2.2.2.1, 12, .inr (.inr (.inr (.inr (va_up h0_row l2.toNatClampNeg (some a2)))))))] H := hP
            have hD : va_D A [(h0, .inr (2, [.ref h0r, .int h0_size])), (h0r, .inl (g.2.2.2.1, 12, .inr (.inr (.inr (.inr (va_up h0_row l2.toNatClampNeg (some a2)))))))] := hD
            refine lv_iinc (v := (l2 + 1)) (lv' := [(2, .int (l2 + 1)), (0, .ref h0)]) hx hb dX2_remove_26 hl (k := 1) rfl rfl (by decide) rfl (fun ls hl => ?_)
            refine lv_goto (tgt := 2) hx hb dX2_remove_29 (by decide) ?_
            exact hK2 (l2 + 1) h0_size (va_up h0_row l2.toNatClampNeg (some a2)) hw  _ _ hP hD hS ls (lv_sub hl [1, 0] rfl)
    exact key _ l2 h0_size h0_row (Nat.lt_succ_self _) hI
  have hl := lv_entry ([.ref h0, .int x1]) (n := 3) (Nat.le_of_ble_eq_true rfl)
  rw [lg_entry_eq]
  generalize (lg_sl ([.ref h0, .int x1]) ++ List.replicate (3 - (lg_sl ([.ref h0, .int x1])).length) Slot.unset).toArray = ls at hl ⊢
  have hl : lv_has ls 3 [(0, .ref h0), (1, .int x1)] := hl
  unfold wp_X2_remove at hw
  refine lv_iload_n hx hb dX2_remove_0 rfl (lv_at hl 1 rfl) ?_
  refine lv_istore_n (lv' := [(2, .int x1), (0, .ref h0), (1, .int x1)]) hx hb dX2_remove_1 rfl hl (by decide) rfl (fun ls hl => ?_)
  exact B2  x1 h0_size h0_row hw  _ _ hP hD hS ls (lv_sub hl [1, 0] rfl)

def wp_X2_copy_10 (Q : Int32 → (Nat → Option Nat) → Prop) (pv : PV) (k9_row : Nat → Option Nat)  (l2 : Int32) (h0_size : Int32) (h0_row : Nat → Option Nat) : Prop :=
  ∃ (I10 : Int32 → Int32 → (Nat → Option Nat) → Prop) (mu10 : Int32 → Int32 → (Nat → Option Nat) → Nat), I10 l2 h0_size h0_row ∧ ∀ (l2 : Int32) (h0_size : Int32) (h0_row : Nat → Option Nat), I10 l2 h0_size h0_row → ((h0_size ≤ l2 → Q h0_size h0_row) ∧ (¬ (h0_size ≤ l2) → (vp_in l2 12 ∧ ∃ a2 : Nat, (k9_row l2.toNatClampNeg) = some a2 ∧ (pv.1 a2 ∧ (vp_in l2 12 ∧ (I10 (l2 + 1) h0_size (va_up h0_row l2.toNatClampNeg (some a2)) ∧ mu10 (l2 + 1) h0_size (va_up h0_row l2.toNatClampNeg (some a2)) < mu10 l2 h0_size h0_row))))))
def wp_X2_copy (pv : PV) (h0_row : Nat → Option Nat) (k9_size : Int32) (k9_row : Nat → Option Nat) (Q : Int32 → (Nat → Option Nat) → Prop) : Prop :=
  wp_X2_copy_10 Q pv k9_row  0 k9_size h0_row
theorem hd_X2_copy : yX2_copy.cls = RX2 ∧ yX2_copy.cls ≠ "java/lang/invoke/MethodHandle" ∧ yX2_copy.cls ≠ "java/lang/invoke/VarHandle" ∧ (parseMethodDescriptor yX2_copy.desc).map (fun d => d.parameters.length) = some 1 := by decide +kernel
set_option maxHeartbeats 4000000 in
set_option maxRecDepth 100000 in
theorem m_X2_copy (l : Launch) (g : GG) {tb : TB} {pv : PV} {h0 h0r k9 k9r : Nat} {h0_size : Int32} {h0_row : Nat → Option Nat} {k9_size : Int32} {k9_row : Nat → Option Nat} {sz : Nat} {Q : Int32 → (Nat → Option Nat) → Prop} (hw : wp_X2_copy pv h0_row k9_size k9_row Q) : Met l yX2_copy wsX2_copy ({ frames := 0, cells := 0, slots := 0, locals := 0 } : Room) (PcM g (roC g tb pv) [(h0, .inr (2, [.ref h0r, .int h0_size])), (h0r, .inl (g.2.2.2.1, 12, .inr (.inr (.inr (.inr h0_row))))), (k9, .inr (2, [.ref k9r, .int k9_size])), (k9r, .inl (g.2.2.2.1, 12, .inr (.inr (.inr (.inr k9_row)))))] sz [.ref h0, .ref k9]) (va_Qv (fun (u : Int32 × (Nat → Option Nat)) => Q u.1 u.2) (BM g (fun u : Int32 × (Nat → Option Nat) => [(h0, .inr (2, [.ref h0r, .int u.1])), (h0r, .inl (g.2.2.2.1, 12, .inr (.inr (.inr (.inr u.2))))), (k9, .inr (2, [.ref k9r, .int k9_size])), (k9r, .inl (g.2.2.2.1, 12, .inr (.inr (.inr (.inr k9_row)))))]) (va_A [(h0, .inr (2, [.ref h0r, .int h0_size])), (h0r, .inl (g.2.2.2.1, 12, .inr (.inr (.inr (.inr h0_row))))), (k9, .inr (2, [.ref k9r, .int k9_size])), (k9r, .inl (g.2.2.2.1, 12, .inr (.inr (.inr (.inr k9_row)))))] sz)) (va_A [(h0, .inr (2, [.ref h0r, .int h0_size])), (h0r, .inl (g.2.2.2.1, 12, .inr (.inr (.inr (.inr h0_row))))), (k9, .inr (2, [.ref k9r, .int k9_size])), (k9r, .inl (g.2.2.2.1, 12, .inr (.inr (.inr (.inr k9_row)))))] sz)) 0 0 (va_A [(h0, .inr (2, [.ref h0r, .int h0_size])), (h0r, .inl (g.2.2.2.1, 12, .inr (.inr (.inr (.inr h0_row))))), (k9, .inr (2, [.ref k9r, .int k9_size])), (k9r, .inl (g.2.2.2.1, 12, .inr (.inr (.inr (.inr k9_row)))))] sz) := by
  have hok : RoOK (roC g tb pv) := roC_ok
  refine Met.ofW (cc := cX2_copy) (maxL := 3) (ret := none) (by decide) rfl ?_
  intro p e s m args below meth c s₁ B hml hv
  obtain ⟨rfl, hsz, hP, hK, hD0, hro⟩ := hv
  have hx := B.exec
  have hb := B.bytes
  have hr := B.returns
  have hts := atoms_spec (ws := wsX2_copy) B.pre
  have hown : s.vm.findClass RX2 = some m.cls := findClass_of_methodNamed B.named
  have hlocks := B.notSynchronized
  subst hsz
  have hD := hD0.self (sz := s.heap.size)
  generalize hAe : va_A [(h0, .inr (2, [.ref h0r, .int h0_size])), (h0r, .inl (g.2.2.2.1, 12, .inr (.inr (.inr (.inr h0_row))))), (k9, .inr (2, [.ref k9r, .int k9_size])), (k9r, .inl (g.2.2.2.1, 12, .inr (.inr (.inr (.inr k9_row)))))] s.heap.size = A at hD hro ⊢
  have hA : ∀ q : Nat, s.heap.size ≤ q → A q := fun q h => by rw [← hAe]; exact Or.inr h
  have hS : va_S A s.heap s.heap [] := va_S.rf
  have hP : PP g [(h0, .inr (2, [.ref h0r, .int h0_size])), (h0r, .inl (g.2.2.2.1, 12, .inr (.inr (.inr (.inr h0_row))))), (k9, .inr (2, [.ref k9r, .int k9_size])), (k9r, .inl (g.2.2.2.1, 12, .inr (.inr (.inr (.inr k9_row)))))] s.heap := hP
  have lk1 := hts (.fieldLink RX2 17 "GridRiddles$Clues" "size" "I") (by decide +kernel)
  have hinX2 : ∀ w ∈ u_ws RX2 TX2 2, w ∈ wsX2_copy := by decide +kernel
  have lk3 := hts (.fieldLink RX2 11 "GridRiddles$Clues" "row" "[LGridRiddles$Clue;") (by decide +kernel)
  have B10 : ∀ (l2 : Int32) (h0_size : Int32) (h0_row : Nat → Option Nat), wp_X2_copy_10 Q pv k9_row  l2 h0_size h0_row → ∀ (H : Heap) (locs : List Loc), PP g [(h0, .inr (2, [.ref h0r, .int h0_size])), (h0r, .inl (g.2.2.2.1, 12, .inr (.inr (.inr (.inr h0_row))))), (k9, .inr (2, [.ref k9r, .int k9_size])), (k9r, .inl (g.2.2.2.1, 12, .inr (.inr (.inr (.inr k9_row)))))] H → va_D A [(h0, .inr (2, [.ref h0r, .int h0_size])), (h0r, .inl (g.2.2.2.1, 12, .inr (.inr (.inr (.inr h0_row))))), (k9, .inr (2, [.ref k9r, .int k9_size])), (k9r, .inl (g.2.2.2.1, 12, .inr (.inr (.inr (.inr k9_row)))))] → va_S A s.heap H locs → ∀ (ls : Array Slot), lv_has ls 3 [(0, .ref h0), (1, .ref k9), (2, .int l2)] → W p l e (headSpec wsX2_copy ({ frames := 0, cells := 0, slots := 0, locals := 0 } : Room)).room s m ([.ref h0, .ref k9] : List Value).toArray below meth c H locs 0 0 (MQ below (va_Qv (fun (u : Int32 × (Nat → Option Nat)) => Q u.1 u.2) (BM g (fun u : Int32 × (Nat → Option Nat) => [(h0, .inr (2, [.ref h0r, .int u.1])), (h0r, .inl (g.2.2.2.1, 12, .inr (.inr (.inr (.inr u.2))))), (k9, .inr (2, [.ref k9r, .int k9_size])), (k9r, .inl (g.2.2.2.1, 12, .inr (.inr (.inr (.inr k9_row)))))]) A) A) ([.ref h0, .ref k9] : List Value).toArray s 0 0 A) (F0 m 10 ls []) := by
    intro  l2 h0_size h0_row hw
    obtain ⟨I10, mu10, hI, hstep⟩ := hw
    have key : ∀ (n : Nat) (l2 : Int32) (h0_size : Int32) (h0_row : Nat → Option Nat), mu10 l2 h0_size h0_row < n → I10 l2 h0_size h0_row → ∀ (H : Heap) (locs : List Loc), PP g [(h0, .inr (2, [.ref h0r, .int h0_size])), (h0r, .inl (g.2.2.2.1, 12, .inr (.inr (.inr (.inr h0_row))))), (k9, .inr (2, [.ref k9r, .int k9_size])), (k9r, .inl (g.2.2.2.1, 12, .inr (.inr (.inr (.inr k9_row)))))] H → va_D A [(h0, .inr (2, [.ref h0r, .int h0_size])), (h0r, .inl (g.2.2.2.1, 12, .inr (.inr (.inr (.inr h0_row))))), (k9, .inr (2, [.ref k9r, .int k9_size])), (k9r, .inl (g.2.2.2.1, 12, .inr (.inr (.inr (.inr k9_row)))))] → va_S A s.heap H locs → ∀ (ls : Array Slot), lv_has ls 3 [(0, .ref h0), (1, .ref k9), (2, .int l2)] → W p l e (headSpec wsX2_copy ({ frames := 0, cells := 0, slots := 0, locals := 0 } : Room)).room s m ([.ref h0, .ref k9] : List Value).toArray below meth c H locs 0 0 (MQ below (va_Qv (fun (u : Int32 × (Nat → Option Nat)) => Q u.1 u.2) (BM g (fun u : Int32 × (Nat → Option Nat) => [(h0, .inr (2, [.ref h0r, .int u.1])), (h0r, .inl (g.2.2.2.1, 12, .inr (.inr (.inr (.inr u.2))))), (k9, .inr (2, [.ref k9r, .int k9_size])), (k9r, .inl (g.2.2.2.1, 12, .inr (.inr (.inr (.inr k9_row)))))]) A) A) ([.ref h0, .ref k9] : List Value).toArray s 0 0 A) (F0 m 10 ls []) := by
      intro n
      induction n with
      | zero => intro l2 h0_size h0_row h; exact absurd h (Nat.not_lt_zero _)
      | succ n ih =>
          intro l2 h0_size h0_row hn hI  H locs hP hD hS ls hl
          have hw := hstep l2 h0_size h0_row hI
          have hK10 : ∀ (l2' : Int32) (h0_size' : Int32) (h0_row' : Nat → Option Nat), (I10 l2' h0_size' h0_row' ∧ mu10 l2' h0_size' h0_row' < mu10 l2 h0_size h0_row) → ∀ (H : Heap) (locs : List Loc), PP g [(h0, .inr (2, [.ref h0r, .int h0_size'])), (h0r, .inl (g.2.2.2.1, 12, .inr (.inr (.inr (.inr h0_row'))))), (k9, .inr (2, [.ref k9r, .int k9_size])), (k9r, .inl (g.2.2.2.1, 12, .inr (.inr (.inr (.inr k9_row)))))] H → va_D A [(h0, .inr (2, [.ref h0r, .int h0_size'])), (h0r, .inl (g.2.2.2.1, 12, .inr (.inr (.inr (.inr h0_row'))))), (k9, .inr (2, [.ref k9r, .int k9_size])), (k9r, .inl (g.2.2.2.1, 12, .inr (.inr (.inr (.inr k9_row)))))] → va_S A s.heap H locs → ∀ (ls : Array Slot), lv_has ls 3 [(0, .ref h0), (1, .ref k9), (2, .int l2')] → W p l e (headSpec wsX2_copy ({ frames := 0, cells := 0, slots := 0, locals := 0 } : Room)).room s m ([.ref h0, .ref k9] : List Value).toArray below meth c H locs 0 0 (MQ below (va_Qv (fun (u : Int32 × (Nat → Option Nat)) => Q u.1 u.2) (BM g (fun u : Int32 × (Nat → Option Nat) => [(h0, .inr (2, [.ref h0r, .int u.1])), (h0r, .inl (g.2.2.2.1, 12, .inr (.inr (.inr (.inr u.2))))), (k9, .inr (2, [.ref k9r, .int k9_size])), (k9r, .inl (g.2.2.2.1, 12, .inr (.inr (.inr (.inr k9_row)))))]) A) A) ([.ref h0, .ref k9] : List Value).toArray s 0 0 A) (F0 m 10 ls []) := fun l2' h0_size' h0_row' h => ih l2' h0_size' h0_row' (Nat.lt_of_lt_of_le h.2 (Nat.le_of_lt_succ hn)) h.1
          refine lv_iload_n hx hb dX2_copy_10 rfl (lv_at hl 2 rfl) ?_
          refine lv_aload_n hx hb dX2_copy_11 rfl (lv_at hl 0 rfl) ?_
          refine va_get (D := g.1) (ci := 2) (v := .int h0_size) (C := RX2) (T := TX2) (N := 2) hx hb hts hinX2 hown hK hP 0 rfl rfl 1 (by decide) lk1 (fun _ h9 => h9) rfl dX2_copy_12 ?_
          refine lv_icmp_ge (tgt := 36) hx hb dX2_copy_15 (by decide) (fun c1 => ?_) (fun c1 => ?_)
          · replace hw := hw.1 c1
            exact W.vret hx hb hr (fun t ht hW => ⟨⟨(h0_size, h0_row), rfl, hw, by rw [ht]; exact hP, va_K.moved hW.alike hK, hD⟩, hS.F ht⟩) hS.2.2 dX2_copy_36
          · replace hw := hw.2 c1
            refine lv_aload_n hx hb dX2_copy_18 rfl (lv_at hl 0 rfl) ?_
            refine va_get (D := g.1) (ci := 2) (v := .ref h0r) (C := RX2) (T := TX2) (N := 2) hx hb hts hinX2 hown hK hP 0 rfl rfl 0 (by decide) lk3 (fun _ h9 => h9) rfl dX2_copy_19 ?_
            refine lv_iload_n hx hb dX2_copy_22 rfl (lv_at hl 2 rfl) ?_
            refine lv_aload_n hx hb dX2_copy_23 rfl (lv_at hl 1 rfl) ?_
            refine va_get (D := g.1) (ci := 2) (v := .ref k9r) (C := RX2) (T := TX2) (N := 2) hx hb hts hinX2 hown hK hP 2 rfl rfl 0 (by decide) lk3 (fun _ h9 => h9) rfl dX2_copy_24 ?_
            refine lv_iload_n hx hb dX2_copy_27 rfl (lv_at hl 2 rfl) ?_
            obtain ⟨hi, hw⟩ := hw
            obtain ⟨a2, ea2, hw⟩ := hw
            refine va_aldq hx hb hK hP 3 2 rfl rfl hi dX2_copy_28 ?_
            rw [ea2]
            refine W.eq (g2 := F0 m 29 ls [.ref a2, .int l2, .ref h0r]) rfl ?_
            obtain ⟨hp3, hw⟩ := hw
            obtain ⟨hi, hw⟩ := hw
            refine va_astqM hx hb hK hP hD hS 1 2 rfl rfl (pool_any hK hro hS hp3) hi dX2_copy_29 (fun H locs hP hD hS => ?_)
            have hP : PP g [(h0, .inr (2, [.ref h0r, .int h0_size])), (h0r, .inl (g.2.2.2.1, 12, .inr (.inr (.inr (.inr (va_up h0_row l2.toNatClampNeg (some a2))))))), (k9, .inr (2, [.ref k9r, .int k9_size])), (k9r, .inl (g.2.2.2.1, 12, .inr (.inr (.inr (.inr k9_row)))))] H := hP
            have hD : va_D A [(h0, .inr (2, [.ref h0r, .int h0_size])), (h0r, .inl (g.2.2.2.1, 12, .inr (.inr (.inr (.inr (va_up h0_row l2.toNatClampNeg (some a2))))))), (k9, .inr (2, [.ref k9r, .int k9_size])), (k9r, .inl (g.2.2.2.1, 12, .inr (.inr (.inr (.inr k9_row)))))] := hD
            refine lv_iinc (v := (l2 + 1)) (lv' := [(2, .int (l2 + 1)), (0, .ref h0), (1, .ref k9)]) hx hb dX2_copy_30 hl (k := 2) rfl rfl (by decide) rfl (fun ls hl => ?_)
            refine lv_goto (tgt := 10) hx hb dX2_copy_33 (by decide) ?_
            exact hK10 (l2 + 1) h0_size (va_up h0_row l2.toNatClampNeg (some a2)) hw  _ _ hP hD hS ls (lv_sub hl [1, 2, 0] rfl)
    exact key _ l2 h0_size h0_row (Nat.lt_succ_self _) hI
  have hl := lv_entry ([.ref h0, .ref k9]) (n := 3) (Nat.le_of_ble_eq_true rfl)
  rw [lg_entry_eq]
  generalize (lg_sl ([.ref h0, .ref k9]) ++ List.replicate (3 - (lg_sl ([.ref h0, .ref k9])).length) Slot.unset).toArray = ls at hl ⊢
  have hl : lv_has ls 3 [(0, .ref h0), (1, .ref k9)] := hl
  unfold wp_X2_copy at hw
  refine lv_aload_n hx hb dX2_copy_0 rfl (lv_at hl 0 rfl) ?_
  refine lv_aload_n hx hb dX2_copy_1 rfl (lv_at hl 1 rfl) ?_
  refine va_get (D := g.1) (ci := 2) (v := .int k9_size) (C := RX2) (T := TX2) (N := 2) hx hb hts hinX2 hown hK hP 2 rfl rfl 1 (by decide) lk1 (fun _ h9 => h9) rfl dX2_copy_2 ?_
  refine va_put (D := g.1) (ci := 2) (v := .int k9_size) (ty := .int) (C := RX2) (T := TX2) (N := 2) hx hb hts hinX2 tyX2 tyX2_ok nmX2 hown hK hP hD hS 0 rfl rfl 1 (by decide) lk1 (fun _ h9 => h9) rfl (by decide +kernel) rfl rfl (Nat.le_of_ble_eq_true rfl) dX2_copy_5 (fun H locs hP hD hS => ?_)
  have hP : PP g [(h0, .inr (2, [.ref h0r, .int k9_size])), (h0r, .inl (g.2.2.2.1, 12, .inr (.inr (.inr (.inr h0_row))))), (k9, .inr (2, [.ref k9r, .int k9_size])), (k9r, .inl (g.2.2.2.1, 12, .inr (.inr (.inr (.inr k9_row)))))] H := hP
  have hD : va_D A [(h0, .inr (2, [.ref h0r, .int k9_size])), (h0r, .inl (g.2.2.2.1, 12, .inr (.inr (.inr (.inr h0_row))))), (k9, .inr (2, [.ref k9r, .int k9_size])), (k9r, .inl (g.2.2.2.1, 12, .inr (.inr (.inr (.inr k9_row)))))] := hD
  refine lv_iconst (v := 0) hx hb dX2_copy_8 (by decide) ?_
  refine lv_istore_n (lv' := [(2, .int 0), (0, .ref h0), (1, .ref k9)]) hx hb dX2_copy_9 rfl hl (by decide) rfl (fun ls hl => ?_)
  exact B10  0 k9_size h0_row hw  _ _ hP hD hS ls (lv_sub hl [1, 2, 0] rfl)

def wp_X2_all (h0_size : Int32) (Q : Int32 → Prop) : Prop :=
  Q ((1 <<< (h0_size &&& 31)) - 1)
theorem hd_X2_all : yX2_all.cls = RX2 ∧ yX2_all.cls ≠ "java/lang/invoke/MethodHandle" ∧ yX2_all.cls ≠ "java/lang/invoke/VarHandle" ∧ (parseMethodDescriptor yX2_all.desc).map (fun d => d.parameters.length) = some 0 := by decide +kernel
set_option maxHeartbeats 4000000 in
set_option maxRecDepth 100000 in
theorem m_X2_all (l : Launch) (g : GG) {ro : Ro} (hok : RoOK ro) {h0 h0r : Nat} {h0_size : Int32} {h0_row : Nat → Option Nat} {Q : Int32 → Prop} (hw : wp_X2_all h0_size Q) : Met l yX2_all wsX2_all ({ frames := 0, cells := 0, slots := 0, locals := 0 } : Room) (PcP g ro [(h0, .inr (2, [.ref h0r, .int h0_size])), (h0r, .inl (g.2.2.2.1, 12, .inr (.inr (.inr (.inr h0_row)))))] [.ref h0]) (vp_Si Q) 0 0 (fun _ => False) := by
  refine Met.ofW (cc := cX2_all) (maxL := 1) (ret := (some .int)) (by decide) rfl ?_
  intro p e s m args below meth c s₁ B hml hv
  obtain ⟨rfl, hP, hK, hro⟩ := hv
  have hx := B.exec
  have hb := B.bytes
  have hr := B.returns
  have hts := atoms_spec (ws := wsX2_all) B.pre
  have hown : s.vm.findClass RX2 = some m.cls := findClass_of_methodNamed B.named
  have hlocks := B.notSynchronized
  have hA : ∀ q : Nat, s.heap.size ≤ q → (fun q : Nat => s.heap.size ≤ q) q := fun _ h => h
  have hS : va_S (fun q : Nat => s.heap.size ≤ q) s.heap s.heap [] := va_S.rf
  have hP : PP g [(h0, .inr (2, [.ref h0r, .int h0_size])), (h0r, .inl (g.2.2.2.1, 12, .inr (.inr (.inr (.inr h0_row)))))] s.heap := hP
  have lk1 := hts (.fieldLink RX2 17 "GridRiddles$Clues" "size" "I") (by decide +kernel)
  have hinX2 : ∀ w ∈ u_ws RX2 TX2 2, w ∈ wsX2_all := by decide +kernel
  have hl := lv_entry ([.ref h0]) (n := 1) (Nat.le_of_ble_eq_true rfl)
  rw [lg_entry_eq]
  generalize (lg_sl ([.ref h0]) ++ List.replicate (1 - (lg_sl ([.ref h0])).length) Slot.unset).toArray = ls at hl ⊢
  have hl : lv_has ls 1 [(0, .ref h0)] := hl
  unfold wp_X2_all at hw
  refine lv_iconst (v := 1) hx hb dX2_all_0 (by decide) ?_
  refine lv_aload_n hx hb dX2_all_1 rfl (lv_at hl 0 rfl) ?_
  refine va_get (D := g.1) (ci := 2) (v := .int h0_size) (C := RX2) (T := TX2) (N := 2) hx hb hts hinX2 hown hK hP 0 rfl rfl 1 (by decide) lk1 (fun _ h9 => h9) rfl dX2_all_2 ?_
  refine lv_ishl hx hb dX2_all_5 ?_
  refine lv_iconst (v := 1) hx hb dX2_all_6 (by decide) ?_
  refine lv_isub hx hb dX2_all_7 ?_
  exact W.iret hx hb hr (fun t ht _ => ⟨((1 <<< (h0_size &&& 31)) - 1), rfl, hw, ht⟩) t_nil dX2_all_8

def wp_X2_ofKind_4 (Q : Int32 → Prop) (x1 : Int32) (pv : PV) (h0_size : Int32) (h0_row : Nat → Option Nat)  (l2 : Int32) (l3 : Int32) : Prop :=
  ∃ (I4 : Int32 → Int32 → Prop) (mu4 : Int32 → Int32 → Nat), I4 l2 l3 ∧ ∀ (l2 : Int32) (l3 : Int32), I4 l2 l3 → ((h0_size ≤ l3 → Q l2) ∧ (¬ (h0_size ≤ l3) → (vp_in l3 12 ∧ ∃ a2 : Nat, (h0_row l3.toNatClampNeg) = some a2 ∧ (pv.1 a2 ∧ (((pv.2.1 a2 0) = x1 → (I4 (l2 + 1) (l3 + 1) ∧ mu4 (l2 + 1) (l3 + 1) < mu4 l2 l3)) ∧ (¬ ((pv.2.1 a2 0) = x1) → (I4 l2 (l3 + 1) ∧ mu4 l2 (l3 + 1) < mu4 l2 l3)))))))
def wp_X2_ofKind (x1 : Int32) (pv : PV) (h0_size : Int32) (h0_row : Nat → Option Nat) (Q : Int32 → Prop) : Prop :=
  wp_X2_ofKind_4 Q x1 pv h0_size h0_row  0 0
theorem hd_X2_ofKind : yX2_ofKind.cls = RX2 ∧ yX2_ofKind.cls ≠ "java/lang/invoke/MethodHandle" ∧ yX2_ofKind.cls ≠ "java/lang/invoke/VarHandle" ∧ (parseMethodDescriptor yX2_ofKind.desc).map (fun d => d.parameters.length) = some 1 := by decide +kernel
set_option maxHeartbeats 4000000 in
set_option maxRecDepth 100000 in
theorem m_X2_ofKind (l : Launch) (g : GG) {tb : TB} {pv : PV} {h0 h0r : Nat} {h0_size : Int32} {h0_row : Nat → Option Nat} {x1 : Int32} {Q : Int32 → Prop} (hw : wp_X2_ofKind x1 pv h0_size h0_row Q) : Met l yX2_ofKind wsX2_ofKind ({ frames := 0, cells := 0, slots := 0, locals := 0 } : Room) (PcP g (roC g tb pv) [(h0, .inr (2, [.ref h0r, .int h0_size])), (h0r, .inl (g.2.2.2.1, 12, .inr (.inr (.inr (.inr h0_row)))))] [.ref h0, .int x1]) (vp_Si Q) 0 0 (fun _ => False) := by
  have hok : RoOK (roC g tb pv) := roC_ok
  refine Met.ofW (cc := cX2_ofKind) (maxL := 4) (ret := (some .int)) (by decide) rfl ?_
  intro p e s m args below meth c s₁ B hml hv
  obtain ⟨rfl, hP, hK, hro⟩ := hv
  have hx := B.exec
  have hb := B.bytes
  have hr := B.returns
  have hts := atoms_spec (ws := wsX2_ofKind) B.pre
  have hown : s.vm.findClass RX2 = some m.cls := findClass_of_methodNamed B.named
  have hlocks := B.notSynchronized
  have hA : ∀ q : Nat, s.heap.size ≤ q → (fun q : Nat => s.heap.size ≤ q) q := fun _ h => h
  have hS : va_S (fun q : Nat => s.heap.size ≤ q) s.heap s.heap [] := va_S.rf
  have hP : PP g [(h0, .inr (2, [.ref h0r, .int h0_size])), (h0r, .inl (g.2.2.2.1, 12, .inr (.inr (.inr (.inr h0_row)))))] s.heap := hP
  have lk1 := hts (.fieldLink RX2 17 "GridRiddles$Clues" "size" "I") (by decide +kernel)
  have hinX2 : ∀ w ∈ u_ws RX2 TX2 2, w ∈ wsX2_ofKind := by decide +kernel
  have lk3 := hts (.fieldLink RX2 11 "GridRiddles$Clues" "row" "[LGridRiddles$Clue;") (by decide +kernel)
  have lk4 := hts (.fieldLink RX2 21 "GridRiddles$Clue" "kind" "I") (by decide +kernel)
  have hinX1 : ∀ w ∈ u_ws RX1 TX1 9, w ∈ wsX2_ofKind := by decide +kernel
  have B4 : ∀ (l2 : Int32) (l3 : Int32), wp_X2_ofKind_4 Q x1 pv h0_size h0_row  l2 l3 → ∀ (ls : Array Slot), lv_has ls 4 [(0, .ref h0), (1, .int x1), (2, .int l2), (3, .int l3)] → W p l e (headSpec wsX2_ofKind ({ frames := 0, cells := 0, slots := 0, locals := 0 } : Room)).room s m ([.ref h0, .int x1] : List Value).toArray below meth c s.heap [] 0 0 (MQ below (vp_Si Q) ([.ref h0, .int x1] : List Value).toArray s 0 0 (fun _ => False)) (F0 m 4 ls []) := by
    intro  l2 l3 hw
    obtain ⟨I4, mu4, hI, hstep⟩ := hw
    have key : ∀ (n : Nat) (l2 : Int32) (l3 : Int32), mu4 l2 l3 < n → I4 l2 l3 → ∀ (ls : Array Slot), lv_has ls 4 [(0, .ref h0), (1, .int x1), (2, .int l2), (3, .int l3)] → W p l e (headSpec wsX2_ofKind ({ frames := 0, cells := 0, slots := 0, locals := 0 } : Room)).room s m ([.ref h0, .int x1] : List Value).toArray below meth c s.heap [] 0 0 (MQ below (vp_Si Q) ([.ref h0, .int x1] : List Value).toArray s 0 0 (fun _ => False)) (F0 m 4 ls []) := by
      intro n
      induction n with
      | zero => intro l2 l3 h; exact absurd h (Nat.not_lt_zero _)
      | succ n ih =>
          intro l2 l3 hn hI ls hl
          have hw := hstep l2 l3 hI
          have hK4 : ∀ (l2' : Int32) (l3' : Int32), (I4 l2' l3' ∧ mu4 l2' l3' < mu4 l2 l3) → ∀ (ls : Array Slot), lv_has ls 4 [(0, .ref h0), (1, .int x1), (2, .int l2'), (3, .int l3')] → W p l e (headSpec wsX2_ofKind ({ frames := 0, cells := 0, slots := 0, locals := 0 } : Room)).room s m ([.ref h0, .int x1] : List Value).toArray below meth c s.heap [] 0 0 (MQ below (vp_Si Q) ([.ref h0, .int x1] : List Value).toArray s 0 0 (fun _ => False)) (F0 m 4 ls []) := fun l2' l3' h => ih l2' l3' (Nat.lt_of_lt_of_le h.2 (Nat.le_of_lt_succ hn)) h.1
          refine lv_iload_n hx hb dX2_ofKind_4 rfl (lv_at hl 3 rfl) ?_
          refine lv_aload_n hx hb dX2_ofKind_5 rfl (lv_at hl 0 rfl) ?_
          refine va_get (D := g.1) (ci := 2) (v := .int h0_size) (C := RX2) (T := TX2) (N := 2) hx hb hts hinX2 hown hK hP 0 rfl rfl 1 (by decide) lk1 (fun _ h9 => h9) rfl dX2_ofKind_6 ?_
          refine lv_icmp_ge (tgt := 34) hx hb dX2_ofKind_9 (by decide) (fun c1 => ?_) (fun c1 => ?_)
          · replace hw := hw.1 c1
            refine lv_iload_n hx hb dX2_ofKind_34 rfl (lv_at hl 2 rfl) ?_
            exact W.iret hx hb hr (fun t ht _ => ⟨l2, rfl, hw, ht⟩) t_nil dX2_ofKind_35
          · replace hw := hw.2 c1
            refine lv_aload_n hx hb dX2_ofKind_12 rfl (lv_at hl 0 rfl) ?_
            refine va_get (D := g.1) (ci := 2) (v := .ref h0r) (C := RX2) (T := TX2) (N := 2) hx hb hts hinX2 hown hK hP 0 rfl rfl 0 (by decide) lk3 (fun _ h9 => h9) rfl dX2_ofKind_13 ?_
            refine lv_iload_n hx hb dX2_ofKind_16 rfl (lv_at hl 3 rfl) ?_
            obtain ⟨hi, hw⟩ := hw
            obtain ⟨a2, ea2, hw⟩ := hw
            refine va_aldq hx hb hK hP 1 2 rfl rfl hi dX2_ofKind_17 ?_
            rw [ea2]
            refine W.eq (g2 := F0 m 18 ls [.ref a2]) rfl ?_
            obtain ⟨hp3, hw⟩ := hw
            refine va_get (D := g.1) (ci := 1) (v := .int (pv.2.1 a2 0)) (C := RX1) (T := TX1) (N := 9) hx hb hts hinX1 hown hK (pool_O hro hS hp3) 0 rfl rfl 0 (by decide) lk4 (fun _ h9 => h9) rfl dX2_ofKind_18 ?_
            refine lv_iload_n hx hb dX2_ofKind_21 rfl (lv_at hl 1 rfl) ?_
            refine lv_icmp_ne (tgt := 28) hx hb dX2_ofKind_22 (by decide) (fun c4 => ?_) (fun c4 => ?_)
            · replace hw := hw.2 c4
              refine lv_iinc (v := (l3 + 1)) (lv' := [(3, .int (l3 + 1)), (0, .ref h0), (1, .int x1), (2, .int l2)]) hx hb dX2_ofKind_28 hl (k := 3) rfl rfl (by decide) rfl (fun ls hl => ?_)
              refine lv_goto (tgt := 4) hx hb dX2_ofKind_31 (by decide) ?_
              exact hK4 l2 (l3 + 1) hw ls (lv_sub hl [1, 2, 3, 0] rfl)
            · replace hw := hw.1 c4
              refine lv_iinc (v := (l2 + 1)) (lv' := [(2, .int (l2 + 1)), (0, .ref h0), (1, .int x1), (3, .int l3)]) hx hb dX2_ofKind_25 hl (k := 2) rfl rfl (by decide) rfl (fun ls hl => ?_)
              refine lv_iinc (v := (l3 + 1)) (lv' := [(3, .int (l3 + 1)), (2, .int (l2 + 1)), (0, .ref h0), (1, .int x1)]) hx hb dX2_ofKind_28 hl (k := 3) rfl rfl (by decide) rfl (fun ls hl => ?_)
              refine lv_goto (tgt := 4) hx hb dX2_ofKind_31 (by decide) ?_
              exact hK4 (l2 + 1) (l3 + 1) hw ls (lv_sub hl [2, 3, 1, 0] rfl)
    exact key _ l2 l3 (Nat.lt_succ_self _) hI
  have hl := lv_entry ([.ref h0, .int x1]) (n := 4) (Nat.le_of_ble_eq_true rfl)
  rw [lg_entry_eq]
  generalize (lg_sl ([.ref h0, .int x1]) ++ List.replicate (4 - (lg_sl ([.ref h0, .int x1])).length) Slot.unset).toArray = ls at hl ⊢
  have hl : lv_has ls 4 [(0, .ref h0), (1, .int x1)] := hl
  unfold wp_X2_ofKind at hw
  refine lv_iconst (v := 0) hx hb dX2_ofKind_0 (by decide) ?_
  refine lv_istore_n (lv' := [(2, .int 0), (0, .ref h0), (1, .int x1)]) hx hb dX2_ofKind_1 rfl hl (by decide) rfl (fun ls hl => ?_)
  refine lv_iconst (v := 0) hx hb dX2_ofKind_2 (by decide) ?_
  refine lv_istore_n (lv' := [(3, .int 0), (2, .int 0), (0, .ref h0), (1, .int x1)]) hx hb dX2_ofKind_3 rfl hl (by decide) rfl (fun ls hl => ?_)
  exact B4  0 0 hw ls (lv_sub hl [2, 3, 1, 0] rfl)
