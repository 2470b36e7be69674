def wp_X4_init  (Q : Nat → Nat → (Nat → Int32) → (Nat → Int32) → Prop) : Prop :=
  ∀ q1 : Nat, ∀ q2 : Nat, Q q1 q2 (fun _ => 0) (fun _ => 0)
theorem hd_X4_init : yX4_init.cls ≠ "java/lang/invoke/MethodHandle" ∧ yX4_init.cls ≠ "java/lang/invoke/VarHandle" ∧ (parseMethodDescriptor yX4_init.desc).map (fun d => d.parameters.length) = some 0 := by decide +kernel
set_option maxHeartbeats 4000000 in
set_option maxRecDepth 100000 in
theorem m_X4_init (l : Launch) (g : GG) {ro : Ro} (hok : RoOK ro) {h0 : Nat} {sz : Nat} {Q : Nat → Nat → (Nat → Int32) → (Nat → Int32) → Prop} (hw : wp_X4_init  Q) : Met l yX4_init wsX4_init ({ frames := 1, cells := 2, slots := 272, locals := 20 } : Room) (PcM g ro [(h0, .inr (4, [.null, .null, .int 0, .int 0]))] sz [.ref h0]) (va_Qv (fun (u : Nat × Nat × (Nat → Int32) × (Nat → Int32)) => Q u.1 u.2.1 u.2.2.1 u.2.2.2) (BM g (fun u : Nat × Nat × (Nat → Int32) × (Nat → Int32) => [(h0, .inr (4, [.ref u.1, .ref u.2.1, .int 0, .int 0])), (u.1, .inl (g.2.1, 16, .inl u.2.2.1)), (u.2.1, .inl (g.2.1, 256, .inl u.2.2.2))]) (va_A [(h0, .inr (4, [.null, .null, .int 0, .int 0]))] sz)) (va_A [(h0, .inr (4, [.null, .null, .int 0, .int 0]))] sz)) 2 272 (va_A [(h0, .inr (4, [.null, .null, .int 0, .int 0]))] sz) := by
  refine Met.ofW (cc := cX4_init) (maxL := 1) (ret := none) (by decide) rfl ?_
  intro p e s m args below meth c s₁ B hml hv
  obtain ⟨rfl, hsz, hP, hK, hD0, hro⟩ := hv
  have hx := B.exec
  have hb := B.bytes
  have hr := B.returns
  have hts := atoms_spec (ws := wsX4_init) B.pre
  have hown : s.vm.findClass RX4 = some m.cls := findClass_of_methodNamed B.named
  have hlocks := B.notSynchronized
  have hin : meth.name = "<init>" := (name_of_methodNamed B.named B.method).1
  subst hsz
  have hD := hD0.self (sz := s.heap.size)
  generalize hAe : va_A [(h0, .inr (4, [.null, .null, .int 0, .int 0]))] s.heap.size = A at hD hro ⊢
  have hA : ∀ q : Nat, s.heap.size ≤ q → A q := fun q h => by rw [← hAe]; exact Or.inr h
  have hS : va_S A s.heap s.heap [] := va_S.rf
  have hP : PP g [(h0, .inr (4, [.null, .null, .int 0, .int 0]))] s.heap := hP
  have lk1 := hts (.methodLink RX4 3 objectInit) (by decide +kernel)
  have lk2 := hts (.instanceMethod objectInit) (by decide +kernel)
  have lk3 := hts (.code objectInit ⟨#[0xb1]⟩ 1 none) (by decide +kernel)
  have lk4 := hts (.arrayClass .int) (by decide +kernel)
  have lk5 := hts (.fieldLink RX4 9 "GridRiddles$Strikes" "places" "[I") (by decide +kernel)
  have hinX4 : ∀ w ∈ u_ws RX4 TX4 4, w ∈ wsX4_init := by decide +kernel
  have lk7 := hts (.fieldLink RX4 15 "GridRiddles$Strikes" "steps" "[I") (by decide +kernel)
  have lk8 := hts (.fieldLink RX4 18 "GridRiddles$Strikes" "size" "I") (by decide +kernel)
  have lk9 := hts (.fieldLink RX4 22 "GridRiddles$Strikes" "solved" "Z") (by decide +kernel)
  have hl := lv_entry ([.ref h0]) (n := 1) (Nat.le_of_ble_eq_true rfl)
  rw [lg_entry_eq]
  generalize (lg_sl ([.ref h0]) ++ List.replicate (1 - (lg_sl ([.ref h0])).length) Slot.unset).toArray = ls at hl ⊢
  have hl : lv_has ls 1 [(0, .ref h0)] := hl
  unfold wp_X4_init at hw
  refine lv_aload_n hx hb dX4_init_0 rfl (lv_at hl 0 rfl) ?_
  refine W.objInit hx hb hown lk1 lk2 lk3 rfl (by rw [hml]; exact hl.1) rfl dX4_init_1 (Nat.le_of_ble_eq_true rfl) (Nat.le_of_ble_eq_true rfl) ?_
  refine W.eq (g2 := F0 m 4 ls []) rfl ?_
  refine lv_aload_n hx hb dX4_init_4 rfl (lv_at hl 0 rfl) ?_
  refine lv_bipush (v := 16) hx hb dX4_init_5 (by decide) ?_
  refine kw_newI hx hb lk4 hK hP hD hS hA (N' := 16) (by decide) (by decide) (by decide) (Nat.le_of_ble_eq_true rfl) (Nat.le_of_ble_eq_true rfl) dX4_init_7 (fun q1 H hP hD hS => ?_)
  have hP : PP g [(h0, .inr (4, [.null, .null, .int 0, .int 0])), (q1, .inl (g.2.1, 16, .inl (fun _ => 0)))] H := hP
  have hD : va_D A [(h0, .inr (4, [.null, .null, .int 0, .int 0])), (q1, .inl (g.2.1, 16, .inl (fun _ => 0)))] := hD
  replace hw := hw q1
  refine va_putF (D := g.1) (ci := 4) (v := .ref q1) (ty := .array .int) (C := RX4) (T := TX4) (N := 4) hx hb hts hinX4 tyX4 tyX4_ok nmX4 hown hK hP hD hS 0 rfl rfl 0 (by decide) lk5 (fun _ h9 => h9) rfl hin rfl (by decide +kernel) rfl rfl (Nat.le_of_ble_eq_true rfl) dX4_init_9 (fun H locs hP hD hS => ?_)
  have hP : PP g [(h0, .inr (4, [.ref q1, .null, .int 0, .int 0])), (q1, .inl (g.2.1, 16, .inl (fun _ => 0)))] H := hP
  have hD : va_D A [(h0, .inr (4, [.ref q1, .null, .int 0, .int 0])), (q1, .inl (g.2.1, 16, .inl (fun _ => 0)))] := hD
  refine lv_aload_n hx hb dX4_init_12 rfl (lv_at hl 0 rfl) ?_
  refine lv_sipush (v := 256) hx hb dX4_init_13 (by decide) ?_
  refine kw_newI hx hb lk4 hK hP hD hS hA (N' := 256) (by decide) (by decide) (by decide) (Nat.le_of_ble_eq_true rfl) (Nat.le_of_ble_eq_true rfl) dX4_init_16 (fun q2 H hP hD hS => ?_)
  have hP : PP g [(h0, .inr (4, [.ref q1, .null, .int 0, .int 0])), (q1, .inl (g.2.1, 16, .inl (fun _ => 0))), (q2, .inl (g.2.1, 256, .inl (fun _ => 0)))] H := hP
  have hD : va_D A [(h0, .inr (4, [.ref q1, .null, .int 0, .int 0])), (q1, .inl (g.2.1, 16, .inl (fun _ => 0))), (q2, .inl (g.2.1, 256, .inl (fun _ => 0)))] := hD
  replace hw := hw q2
  refine va_putF (D := g.1) (ci := 4) (v := .ref q2) (ty := .array .int) (C := RX4) (T := TX4) (N := 4) hx hb hts hinX4 tyX4 tyX4_ok nmX4 hown hK hP hD hS 0 rfl rfl 1 (by decide) lk7 (fun _ h9 => h9) rfl hin rfl (by decide +kernel) rfl rfl (Nat.le_of_ble_eq_true rfl) dX4_init_18 (fun H locs hP hD hS => ?_)
  have hP : PP g [(h0, .inr (4, [.ref q1, .ref q2, .int 0, .int 0])), (q1, .inl (g.2.1, 16, .inl (fun _ => 0))), (q2, .inl (g.2.1, 256, .inl (fun _ => 0)))] H := hP
  have hD : va_D A [(h0, .inr (4, [.ref q1, .ref q2, .int 0, .int 0])), (q1, .inl (g.2.1, 16, .inl (fun _ => 0))), (q2, .inl (g.2.1, 256, .inl (fun _ => 0)))] := hD
  refine lv_aload_n hx hb dX4_init_21 rfl (lv_at hl 0 rfl) ?_
  refine lv_iconst (v := 0) hx hb dX4_init_22 (by decide) ?_
  refine va_put (D := g.1) (ci := 4) (v := .int 0) (ty := .int) (C := RX4) (T := TX4) (N := 4) hx hb hts hinX4 tyX4 tyX4_ok nmX4 hown hK hP hD hS 0 rfl rfl 2 (by decide) lk8 (fun _ h9 => h9) rfl (by decide +kernel) rfl rfl (Nat.le_of_ble_eq_true rfl) dX4_init_23 (fun H locs hP hD hS => ?_)
  have hP : PP g [(h0, .inr (4, [.ref q1, .ref q2, .int 0, .int 0])), (q1, .inl (g.2.1, 16, .inl (fun _ => 0))), (q2, .inl (g.2.1, 256, .inl (fun _ => 0)))] H := hP
  have hD : va_D A [(h0, .inr (4, [.ref q1, .ref q2, .int 0, .int 0])), (q1, .inl (g.2.1, 16, .inl (fun _ => 0))), (q2, .inl (g.2.1, 256, .inl (fun _ => 0)))] := hD
  refine lv_aload_n hx hb dX4_init_26 rfl (lv_at hl 0 rfl) ?_
  refine lv_iconst (v := 0) hx hb dX4_init_27 (by decide) ?_
  refine va_put (D := g.1) (ci := 4) (v := .int 0) (ty := .boolean) (C := RX4) (T := TX4) (N := 4) hx hb hts hinX4 tyX4 tyX4_ok nmX4 hown hK hP hD hS 0 rfl rfl 3 (by decide) lk9 (fun _ h9 => h9) rfl (by decide +kernel) (zb_nar zb0) (zb_fit zb0) (Nat.le_of_ble_eq_true rfl) dX4_init_28 (fun H locs hP hD hS => ?_)
  have hP : PP g [(h0, .inr (4, [.ref q1, .ref q2, .int 0, .int 0])), (q1, .inl (g.2.1, 16, .inl (fun _ => 0))), (q2, .inl (g.2.1, 256, .inl (fun _ => 0)))] H := hP
  have hD : va_D A [(h0, .inr (4, [.ref q1, .ref q2, .int 0, .int 0])), (q1, .inl (g.2.1, 16, .inl (fun _ => 0))), (q2, .inl (g.2.1, 256, .inl (fun _ => 0)))] := hD
  exact W.vret hx hb hr (fun t ht hW => ⟨⟨(q1, q2, (fun _ => 0), (fun _ => 0)), rfl, hw, by rw [ht]; exact hP, va_K.moved hW.alike hK, hD⟩, hS.F ht⟩) hS.2.2 dX4_init_31

def wp_X4_forget  (Q : Int32 → Prop) : Prop :=
  Q 0
theorem hd_X4_forget : yX4_forget.cls = RX4 ∧ yX4_forget.cls ≠ "java/lang/invoke/MethodHandle" ∧ yX4_forget.cls ≠ "java/lang/invoke/VarHandle" ∧ (parseMethodDescriptor yX4_forget.desc).map (fun d => d.parameters.length) = some 0 := by decide +kernel
set_option maxHeartbeats 4000000 in
set_option maxRecDepth 100000 in
theorem m_X4_forget (l : Launch) (g : GG) {ro : Ro} (hok : RoOK ro) {h0 h0p h0t : Nat} {h0_size : Int32} {h0_solved : Int32} {h0_pl : Nat → Int32} {h0_st : Nat → Int32} {sz : Nat} {Q : Int32 → Prop} (hw : wp_X4_forget  Q) : Met l yX4_forget wsX4_forget ({ frames := 0, cells := 0, slots := 0, locals := 0 } : Room) (PcM g ro [(h0, .inr (4, [.ref h0p, .ref h0t, .int h0_size, .int h0_solved])), (h0p, .inl (g.2.1, 16, .inl h0_pl)), (h0t, .inl (g.2.1, 256, .inl h0_st))] sz [.ref h0]) (va_Qv (fun (u : Int32) => Q u) (BM g (fun u : Int32 => [(h0, .inr (4, [.ref h0p, .ref h0t, .int h0_size, .int u])), (h0p, .inl (g.2.1, 16, .inl h0_pl)), (h0t, .inl (g.2.1, 256, .inl h0_st))]) (va_A [(h0, .inr (4, [.ref h0p, .ref h0t, .int h0_size, .int h0_solved])), (h0p, .inl (g.2.1, 16, .inl h0_pl)), (h0t, .inl (g.2.1, 256, .inl h0_st))] sz)) (va_A [(h0, .inr (4, [.ref h0p, .ref h0t, .int h0_size, .int h0_solved])), (h0p, .inl (g.2.1, 16, .inl h0_pl)), (h0t, .inl (g.2.1, 256, .inl h0_st))] sz)) 0 0 (va_A [(h0, .inr (4, [.ref h0p, .ref h0t, .int h0_size, .int h0_solved])), (h0p, .inl (g.2.1, 16, .inl h0_pl)), (h0t, .inl (g.2.1, 256, .inl h0_st))] sz) := by
  refine Met.ofW (cc := cX4_forget) (maxL := 1) (ret := none) (by decide) rfl ?_
  intro p e s m args below meth c s₁ B hml hv
  obtain ⟨rfl, hsz, hP, hK, hD0, hro⟩ := hv
  have hx := B.exec
  have hb := B.bytes
  have hr := B.returns
  have hts := atoms_spec (ws := wsX4_forget) B.pre
  have hown : s.vm.findClass RX4 = some m.cls := findClass_of_methodNamed B.named
  have hlocks := B.notSynchronized
  subst hsz
  have hD := hD0.self (sz := s.heap.size)
  generalize hAe : va_A [(h0, .inr (4, [.ref h0p, .ref h0t, .int h0_size, .int h0_solved])), (h0p, .inl (g.2.1, 16, .inl h0_pl)), (h0t, .inl (g.2.1, 256, .inl h0_st))] s.heap.size = A at hD hro ⊢
  have hA : ∀ q : Nat, s.heap.size ≤ q → A q := fun q h => by rw [← hAe]; exact Or.inr h
  have hS : va_S A s.heap s.heap [] := va_S.rf
  have hP : PP g [(h0, .inr (4, [.ref h0p, .ref h0t, .int h0_size, .int h0_solved])), (h0p, .inl (g.2.1, 16, .inl h0_pl)), (h0t, .inl (g.2.1, 256, .inl h0_st))] s.heap := hP
  have lk1 := hts (.fieldLink RX4 22 "GridRiddles$Strikes" "solved" "Z") (by decide +kernel)
  have hinX4 : ∀ w ∈ u_ws RX4 TX4 4, w ∈ wsX4_forget := by decide +kernel
  have hl := lv_entry ([.ref h0]) (n := 1) (Nat.le_of_ble_eq_true rfl)
  rw [lg_entry_eq]
  generalize (lg_sl ([.ref h0]) ++ List.replicate (1 - (lg_sl ([.ref h0])).length) Slot.unset).toArray = ls at hl ⊢
  have hl : lv_has ls 1 [(0, .ref h0)] := hl
  unfold wp_X4_forget at hw
  refine lv_aload_n hx hb dX4_forget_0 rfl (lv_at hl 0 rfl) ?_
  refine lv_iconst (v := 0) hx hb dX4_forget_1 (by decide) ?_
  refine va_put (D := g.1) (ci := 4) (v := .int 0) (ty := .boolean) (C := RX4) (T := TX4) (N := 4) hx hb hts hinX4 tyX4 tyX4_ok nmX4 hown hK hP hD hS 0 rfl rfl 3 (by decide) lk1 (fun _ h9 => h9) rfl (by decide +kernel) (zb_nar zb0) (zb_fit zb0) (Nat.le_of_ble_eq_true rfl) dX4_forget_2 (fun H locs hP hD hS => ?_)
  have hP : PP g [(h0, .inr (4, [.ref h0p, .ref h0t, .int h0_size, .int 0])), (h0p, .inl (g.2.1, 16, .inl h0_pl)), (h0t, .inl (g.2.1, 256, .inl h0_st))] H := hP
  have hD : va_D A [(h0, .inr (4, [.ref h0p, .ref h0t, .int h0_size, .int 0])), (h0p, .inl (g.2.1, 16, .inl h0_pl)), (h0t, .inl (g.2.1, 256, .inl h0_st))] := hD
  exact W.vret hx hb hr (fun t ht hW => ⟨⟨(0), rfl, hw, by rw [ht]; exact hP, va_K.moved hW.alike hK, hD⟩, hS.F ht⟩) hS.2.2 dX4_forget_5

def wp_X4_firstOf (x1 : Int32) (Q : Int32 → Prop) : Prop :=
  (wp_J6_numberOfTrailingZeros_0f7a4 x1 (fun r1 => Q r1))
theorem hd_X4_firstOf : yX4_firstOf.cls ≠ "java/lang/invoke/MethodHandle" ∧ yX4_firstOf.cls ≠ "java/lang/invoke/VarHandle" ∧ (parseMethodDescriptor yX4_firstOf.desc).map (fun d => d.parameters.length) = some 1 := by decide +kernel
set_option maxHeartbeats 4000000 in
set_option maxRecDepth 100000 in
theorem m_X4_firstOf (l : Launch) (g : GG) {ro : Ro} (hok : RoOK ro) {x1 : Int32} {Q : Int32 → Prop} (hw : wp_X4_firstOf x1 Q) : Met l yX4_firstOf wsX4_firstOf ({ frames := 1, cells := 0, slots := 0, locals := 21 } : Room) (PcP g ro [] [.int x1]) (vp_Si Q) 0 0 (fun _ => False) := by
  refine Met.ofW (cc := cX4_firstOf) (maxL := 1) (ret := (some .int)) (by decide) rfl ?_
  intro p e s m args below meth c s₁ B hml hv
  obtain ⟨rfl, hP, hK, hro⟩ := hv
  have hx := B.exec
  have hb := B.bytes
  have hr := B.returns
  have hts := atoms_spec (ws := wsX4_firstOf) B.pre
  have hown : s.vm.findClass RX4 = some m.cls := findClass_of_methodNamed B.named
  have hlocks := B.notSynchronized
  have hA : ∀ q : Nat, s.heap.size ≤ q → (fun q : Nat => s.heap.size ≤ q) q := fun _ h => h
  have hS : va_S (fun q : Nat => s.heap.size ≤ q) s.heap s.heap [] := va_S.rf
  have hP : PP g [] s.heap := hP
  have hl := lv_entry ([.int x1]) (n := 1) (Nat.le_of_ble_eq_true rfl)
  rw [lg_entry_eq]
  generalize (lg_sl ([.int x1]) ++ List.replicate (1 - (lg_sl ([.int x1])).length) Slot.unset).toArray = ls at hl ⊢
  have hl : lv_has ls 1 [(0, .int x1)] := hl
  unfold wp_X4_firstOf at hw
  refine lv_iload_n hx hb dX4_firstOf_0 rfl (lv_at hl 0 rfl) ?_
  refine kp_S (As := [.int x1]) (rest := []) (wc := []) ⟨hx, hb, hml, hown, hts⟩ (m_J6_numberOfTrailingZeros_0f7a4 l g hok (x1 := x1) hw) (va_cwS 1 hts gX4_firstOf_J6_numberOfTrailingZeros_0f7a4 rfl rfl rfl hd_J6_numberOfTrailingZeros_0f7a4 ⟨Nat.le_of_ble_eq_true rfl, Nat.le_of_ble_eq_true rfl⟩) hok hK PP_nil hro hS hA rfl hl.1 rfl (Nat.le_of_ble_eq_true rfl) dX4_firstOf_1 ⟨Nat.le_of_ble_eq_true rfl, Nat.le_of_ble_eq_true rfl⟩ (fun r1 hw => ?_)
  exact W.iret hx hb hr (fun t ht _ => ⟨r1, rfl, hw, ht⟩) t_nil dX4_firstOf_4

def wp_X4_strike (x1 : Int32) (x2 : Int32) (x3 : Int32) (x4 : Int32) (h0_size : Int32) (h0_pl : Nat → Int32) (h0_st : Nat → Int32) (Q : Int32 → (Nat → Int32) → (Nat → Int32) → Prop) : Prop :=
  (vp_in x3 16 ∧ (vp_in x3 16 ∧ ∀ w1 : Int32, w1 = (4 * h0_size) → (vp_in w1 256 ∧ (vp_in (w1 + 1) 256 ∧ (vp_in (w1 + 2) 256 ∧ (vp_in (w1 + 3) 256 ∧ Q (h0_size + 1) (upd h0_pl x3.toNatClampNeg ((h0_pl x3.toNatClampNeg) &&& ((1 <<< (x4 &&& 31)) ^^^ (-1)))) (upd (upd (upd (upd h0_st w1.toNatClampNeg x1) (w1 + 1).toNatClampNeg x2) (w1 + 2).toNatClampNeg x3) (w1 + 3).toNatClampNeg x4)))))))
theorem hd_X4_strike : yX4_strike.cls = RX4 ∧ yX4_strike.cls ≠ "java/lang/invoke/MethodHandle" ∧ yX4_strike.cls ≠ "java/lang/invoke/VarHandle" ∧ (parseMethodDescriptor yX4_strike.desc).map (fun d => d.parameters.length) = some 4 := by decide +kernel
set_option maxHeartbeats 4000000 in
set_option maxRecDepth 100000 in
theorem m_X4_strike (l : Launch) (g : GG) {ro : Ro} (hok : RoOK ro) {h0 h0p h0t : Nat} {h0_size : Int32} {h0_solved : Int32} {h0_pl : Nat → Int32} {h0_st : Nat → Int32} {x1 : Int32} {x2 : Int32} {x3 : Int32} {x4 : Int32} {sz : Nat} {Q : Int32 → (Nat → Int32) → (Nat → Int32) → Prop} (hw : wp_X4_strike x1 x2 x3 x4 h0_size h0_pl h0_st Q) : Met l yX4_strike wsX4_strike ({ frames := 0, cells := 0, slots := 0, locals := 0 } : Room) (PcM g ro [(h0, .inr (4, [.ref h0p, .ref h0t, .int h0_size, .int h0_solved])), (h0p, .inl (g.2.1, 16, .inl h0_pl)), (h0t, .inl (g.2.1, 256, .inl h0_st))] sz [.ref h0, .int x1, .int x2, .int x3, .int x4]) (va_Qv (fun (u : Int32 × (Nat → Int32) × (Nat → Int32)) => Q u.1 u.2.1 u.2.2) (BM g (fun u : Int32 × (Nat → Int32) × (Nat → Int32) => [(h0, .inr (4, [.ref h0p, .ref h0t, .int u.1, .int h0_solved])), (h0p, .inl (g.2.1, 16, .inl u.2.1)), (h0t, .inl (g.2.1, 256, .inl u.2.2))]) (va_A [(h0, .inr (4, [.ref h0p, .ref h0t, .int h0_size, .int h0_solved])), (h0p, .inl (g.2.1, 16, .inl h0_pl)), (h0t, .inl (g.2.1, 256, .inl h0_st))] sz)) (va_A [(h0, .inr (4, [.ref h0p, .ref h0t, .int h0_size, .int h0_solved])), (h0p, .inl (g.2.1, 16, .inl h0_pl)), (h0t, .inl (g.2.1, 256, .inl h0_st))] sz)) 0 0 (va_A [(h0, .inr (4, [.ref h0p, .ref h0t, .int h0_size, .int h0_solved])), (h0p, .inl (g.2.1, 16, .inl h0_pl)), (h0t, .inl (g.2.1, 256, .inl h0_st))] sz) := by
  refine Met.ofW (cc := cX4_strike) (maxL := 6) (ret := none) (by decide) rfl ?_
  intro p e s m args below meth c s₁ B hml hv
  obtain ⟨rfl, hsz, hP, hK, hD0, hro⟩ := hv
  have hx := B.exec
  have hb := B.bytes
  have hr := B.returns
  have hts := atoms_spec (ws := wsX4_strike) B.pre
  have hown : s.vm.findClass RX4 = some m.cls := findClass_of_methodNamed B.named
  have hlocks := B.notSynchronized
  subst hsz
  have hD := hD0.self (sz := s.heap.size)
  generalize hAe : va_A [(h0, .inr (4, [.ref h0p, .ref h0t, .int h0_size, .int h0_solved])), (h0p, .inl (g.2.1, 16, .inl h0_pl)), (h0t, .inl (g.2.1, 256, .inl h0_st))] s.heap.size = A at hD hro ⊢
  have hA : ∀ q : Nat, s.heap.size ≤ q → A q := fun q h => by rw [← hAe]; exact Or.inr h
  have hS : va_S A s.heap s.heap [] := va_S.rf
  have hP : PP g [(h0, .inr (4, [.ref h0p, .ref h0t, .int h0_size, .int h0_solved])), (h0p, .inl (g.2.1, 16, .inl h0_pl)), (h0t, .inl (g.2.1, 256, .inl h0_st))] s.heap := hP
  have lk1 := hts (.fieldLink RX4 9 "GridRiddles$Strikes" "places" "[I") (by decide +kernel)
  have hinX4 : ∀ w ∈ u_ws RX4 TX4 4, w ∈ wsX4_strike := by decide +kernel
  have lk3 := hts (.fieldLink RX4 18 "GridRiddles$Strikes" "size" "I") (by decide +kernel)
  have lk4 := hts (.fieldLink RX4 15 "GridRiddles$Strikes" "steps" "[I") (by decide +kernel)
  have hl := lv_entry ([.ref h0, .int x1, .int x2, .int x3, .int x4]) (n := 6) (Nat.le_of_ble_eq_true rfl)
  rw [lg_entry_eq]
  generalize (lg_sl ([.ref h0, .int x1, .int x2, .int x3, .int x4]) ++ List.replicate (6 - (lg_sl ([.ref h0, .int x1, .int x2, .int x3, .int x4])).length) Slot.unset).toArray = ls at hl ⊢
  have hl : lv_has ls 6 [(0, .ref h0), (1, .int x1), (2, .int x2), (3, .int x3), (4, .int x4)] := hl
  unfold wp_X4_strike at hw
  refine lv_aload_n hx hb dX4_strike_0 rfl (lv_at hl 0 rfl) ?_
  refine va_get (D := g.1) (ci := 4) (v := .ref h0p) (C := RX4) (T := TX4) (N := 4) hx hb hts hinX4 hown hK hP 0 rfl rfl 0 (by decide) lk1 (fun _ h9 => h9) rfl dX4_strike_1 ?_
  refine lv_iload_n hx hb dX4_strike_4 rfl (lv_at hl 3 rfl) ?_
  refine lv_dup2_11 hx hb dX4_strike_5 rfl rfl ?_
  obtain ⟨hi, hw⟩ := hw
  refine va_iald hx hb hK hP 1 0 rfl rfl hi dX4_strike_6 ?_
  refine lv_iconst (v := 1) hx hb dX4_strike_7 (by decide) ?_
  refine lv_iload hx hb dX4_strike_8 (lv_at hl 4 rfl) ?_
  refine lv_ishl hx hb dX4_strike_10 ?_
  refine lv_iconst (v := (-1)) hx hb dX4_strike_11 (by decide) ?_
  refine lv_ixor hx hb dX4_strike_12 ?_
  refine lv_iand hx hb dX4_strike_13 ?_
  obtain ⟨hi, hw⟩ := hw
  refine va_iast hx hb hK hP hD hS 1 0 rfl rfl hi dX4_strike_14 (fun H locs hP hD hS => ?_)
  have hP : PP g [(h0, .inr (4, [.ref h0p, .ref h0t, .int h0_size, .int h0_solved])), (h0p, .inl (g.2.1, 16, .inl (upd h0_pl x3.toNatClampNeg ((h0_pl x3.toNatClampNeg) &&& ((1 <<< (x4 &&& 31)) ^^^ (-1)))))), (h0t, .inl (g.2.1, 256, .inl h0_st))] H := hP
  have hD : va_D A [(h0, .inr (4, [.ref h0p, .ref h0t, .int h0_size, .int h0_solved])), (h0p, .inl (g.2.1, 16, .inl (upd h0_pl x3.toNatClampNeg ((h0_pl x3.toNatClampNeg) &&& ((1 <<< (x4 &&& 31)) ^^^ (-1)))))), (h0t, .inl (g.2.1, 256, .inl h0_st))] := hD
  refine lv_iconst (v := 4) hx hb dX4_strike_15 (by decide) ?_
  refine lv_aload_n hx hb dX4_strike_16 rfl (lv_at hl 0 rfl) ?_
  refine va_get (D := g.1) (ci := 4) (v := .int h0_size) (C := RX4) (T := TX4) (N := 4) hx hb hts hinX4 hown hK hP 0 rfl rfl 2 (by decide) lk3 (fun _ h9 => h9) rfl dX4_strike_17 ?_
  refine lv_imul hx hb dX4_strike_20 ?_
  refine lv_topi (fun w1 ew1 => ?_)
  have hw := hw w1 ew1
  refine lv_istore (lv' := [(5, .int w1), (0, .ref h0), (1, .int x1), (2, .int x2), (3, .int x3), (4, .int x4)]) hx hb dX4_strike_21 hl (by decide) rfl (fun ls hl => ?_)
  refine lv_aload_n hx hb dX4_strike_23 rfl (lv_at hl 1 rfl) ?_
  refine va_get (D := g.1) (ci := 4) (v := .ref h0t) (C := RX4) (T := TX4) (N := 4) hx hb hts hinX4 hown hK hP 0 rfl rfl 1 (by decide) lk4 (fun _ h9 => h9) rfl dX4_strike_24 ?_
  refine lv_iload hx hb dX4_strike_27 (lv_at hl 0 rfl) ?_
  refine lv_iload_n hx hb dX4_strike_29 rfl (lv_at hl 2 rfl) ?_
  obtain ⟨hi, hw⟩ := hw
  refine va_iast hx hb hK hP hD hS 2 0 rfl rfl hi dX4_strike_30 (fun H locs hP hD hS => ?_)
  have hP : PP g [(h0, .inr (4, [.ref h0p, .ref h0t, .int h0_size, .int h0_solved])), (h0p, .inl (g.2.1, 16, .inl (upd h0_pl x3.toNatClampNeg ((h0_pl x3.toNatClampNeg) &&& ((1 <<< (x4 &&& 31)) ^^^ (-1)))))), (h0t, .inl (g.2.1, 256, .inl (upd h0_st w1.toNatClampNeg x1)))] H := hP
  have hD : va_D A [(h0, .inr (4, [.ref h0p, .ref h0t, .int h0_size, .int h0_solved])), (h0p, .inl (g.2.1, 16, .inl (upd h0_pl x3.toNatClampNeg ((h0_pl x3.toNatClampNeg) &&& ((1 <<< (x4 &&& 31)) ^^^ (-1)))))), (h0t, .inl (g.2.1, 256, .inl (upd h0_st w1.toNatClampNeg x1)))] := hD
  refine lv_aload_n hx hb dX4_strike_31 rfl (lv_at hl 1 rfl) ?_
  refine va_get (D := g.1) (ci := 4) (v := .ref h0t) (C := RX4) (T := TX4) (N := 4) hx hb hts hinX4 hown hK hP 0 rfl rfl 1 (by decide) lk4 (fun _ h9 => h9) rfl dX4_strike_32 ?_
  refine lv_iload hx hb dX4_strike_35 (lv_at hl 0 rfl) ?_
  refine lv_iconst (v := 1) hx hb dX4_strike_37 (by decide) ?_
  refine lv_iadd hx hb dX4_strike_38 ?_
  refine lv_iload_n hx hb dX4_strike_39 rfl (lv_at hl 3 rfl) ?_
  obtain ⟨hi, hw⟩ := hw
  refine va_iast hx hb hK hP hD hS 2 0 rfl rfl hi dX4_strike_40 (fun H locs hP hD hS => ?_)
  have hP : PP g [(h0, .inr (4, [.ref h0p, .ref h0t, .int h0_size, .int h0_solved])), (h0p, .inl (g.2.1, 16, .inl (upd h0_pl x3.toNatClampNeg ((h0_pl x3.toNatClampNeg) &&& ((1 <<< (x4 &&& 31)) ^^^ (-1)))))), (h0t, .inl (g.2.1, 256, .inl (upd (upd h0_st w1.toNatClampNeg x1) (w1 + 1).toNatClampNeg x2)))] H := hP
  have hD : va_D A [(h0, .inr (4, [.ref h0p, .ref h0t, .int h0_size, .int h0_solved])), (h0p, .inl (g.2.1, 16, .inl (upd h0_pl x3.toNatClampNeg ((h0_pl x3.toNatClampNeg) &&& ((1 <<< (x4 &&& 31)) ^^^ (-1)))))), (h0t, .inl (g.2.1, 256, .inl (upd (upd h0_st w1.toNatClampNeg x1) (w1 + 1).toNatClampNeg x2)))] := hD
  refine lv_aload_n hx hb dX4_strike_41 rfl (lv_at hl 1 rfl) ?_
  refine va_get (D := g.1) (ci := 4) (v := .ref h0t) (C := RX4) (T := TX4) (N := 4) hx hb hts hinX4 hown hK hP 0 rfl rfl 1 (by decide) lk4 (fun _ h9 => h9) rfl dX4_strike_42 ?_
  refine lv_iload hx hb dX4_strike_45 (lv_at hl 0 rfl) ?_
  refine lv_iconst (v := 2) hx hb dX4_strike_47 (by decide) ?_
  refine lv_iadd hx hb dX4_strike_48 ?_
  refine lv_iload_n hx hb dX4_strike_49 rfl (lv_at hl 4 rfl) ?_
  obtain ⟨hi, hw⟩ := hw
  refine va_iast hx hb hK hP hD hS 2 0 rfl rfl hi dX4_strike_50 (fun H locs hP hD hS => ?_)
  have hP : PP g [(h0, .inr (4, [.ref h0p, .ref h0t, .int h0_size, .int h0_solved])), (h0p, .inl (g.2.1, 16, .inl (upd h0_pl x3.toNatClampNeg ((h0_pl x3.toNatClampNeg) &&& ((1 <<< (x4 &&& 31)) ^^^ (-1)))))), (h0t, .inl (g.2.1, 256, .inl (upd (upd (upd h0_st w1.toNatClampNeg x1) (w1 + 1).toNatClampNeg x2) (w1 + 2).toNatClampNeg x3)))] H := hP
  have hD : va_D A [(h0, .inr (4, [.ref h0p, .ref h0t, .int h0_size, .int h0_solved])), (h0p, .inl (g.2.1, 16, .inl (upd h0_pl x3.toNatClampNeg ((h0_pl x3.toNatClampNeg) &&& ((1 <<< (x4 &&& 31)) ^^^ (-1)))))), (h0t, .inl (g.2.1, 256, .inl (upd (upd (upd h0_st w1.toNatClampNeg x1) (w1 + 1).toNatClampNeg x2) (w1 + 2).toNatClampNeg x3)))] := hD
  refine lv_aload_n hx hb dX4_strike_51 rfl (lv_at hl 1 rfl) ?_
  refine va_get (D := g.1) (ci := 4) (v := .ref h0t) (C := RX4) (T := TX4) (N := 4) hx hb hts hinX4 hown hK hP 0 rfl rfl 1 (by decide) lk4 (fun _ h9 => h9) rfl dX4_strike_52 ?_
  refine lv_iload hx hb dX4_strike_55 (lv_at hl 0 rfl) ?_
  refine lv_iconst (v := 3) hx hb dX4_strike_57 (by decide) ?_
  refine lv_iadd hx hb dX4_strike_58 ?_
  refine lv_iload hx hb dX4_strike_59 (lv_at hl 5 rfl) ?_
  obtain ⟨hi, hw⟩ := hw
  refine va_iast hx hb hK hP hD hS 2 0 rfl rfl hi dX4_strike_61 (fun H locs hP hD hS => ?_)
  have hP : PP g [(h0, .inr (4, [.ref h0p, .ref h0t, .int h0_size, .int h0_solved])), (h0p, .inl (g.2.1, 16, .inl (upd h0_pl x3.toNatClampNeg ((h0_pl x3.toNatClampNeg) &&& ((1 <<< (x4 &&& 31)) ^^^ (-1)))))), (h0t, .inl (g.2.1, 256, .inl (upd (upd (upd (upd h0_st w1.toNatClampNeg x1) (w1 + 1).toNatClampNeg x2) (w1 + 2).toNatClampNeg x3) (w1 + 3).toNatClampNeg x4)))] H := hP
  have hD : va_D A [(h0, .inr (4, [.ref h0p, .ref h0t, .int h0_size, .int h0_solved])), (h0p, .inl (g.2.1, 16, .inl (upd h0_pl x3.toNatClampNeg ((h0_pl x3.toNatClampNeg) &&& ((1 <<< (x4 &&& 31)) ^^^ (-1)))))), (h0t, .inl (g.2.1, 256, .inl (upd (upd (upd (upd h0_st w1.toNatClampNeg x1) (w1 + 1).toNatClampNeg x2) (w1 + 2).toNatClampNeg x3) (w1 + 3).toNatClampNeg x4)))] := hD
  refine lv_aload_n hx hb dX4_strike_62 rfl (lv_at hl 1 rfl) ?_
  refine lv_dup hx hb dX4_strike_63 rfl ?_
  refine va_get (D := g.1) (ci := 4) (v := .int h0_size) (C := RX4) (T := TX4) (N := 4) hx hb hts hinX4 hown hK hP 0 rfl rfl 2 (by decide) lk3 (fun _ h9 => h9) rfl dX4_strike_64 ?_
  refine lv_iconst (v := 1) hx hb dX4_strike_67 (by decide) ?_
  refine lv_iadd hx hb dX4_strike_68 ?_
  refine va_put (D := g.1) (ci := 4) (v := .int (h0_size + 1)) (ty := .int) (C := RX4) (T := TX4) (N := 4) hx hb hts hinX4 tyX4 tyX4_ok nmX4 hown hK hP hD hS 0 rfl rfl 2 (by decide) lk3 (fun _ h9 => h9) rfl (by decide +kernel) rfl rfl (Nat.le_of_ble_eq_true rfl) dX4_strike_69 (fun H locs hP hD hS => ?_)
  have hP : PP g [(h0, .inr (4, [.ref h0p, .ref h0t, .int (h0_size + 1), .int h0_solved])), (h0p, .inl (g.2.1, 16, .inl (upd h0_pl x3.toNatClampNeg ((h0_pl x3.toNatClampNeg) &&& ((1 <<< (x4 &&& 31)) ^^^ (-1)))))), (h0t, .inl (g.2.1, 256, .inl (upd (upd (upd (upd h0_st w1.toNatClampNeg x1) (w1 + 1).toNatClampNeg x2) (w1 + 2).toNatClampNeg x3) (w1 + 3).toNatClampNeg x4)))] H := hP
  have hD : va_D A [(h0, .inr (4, [.ref h0p, .ref h0t, .int (h0_size + 1), .int h0_solved])), (h0p, .inl (g.2.1, 16, .inl (upd h0_pl x3.toNatClampNeg ((h0_pl x3.toNatClampNeg) &&& ((1 <<< (x4 &&& 31)) ^^^ (-1)))))), (h0t, .inl (g.2.1, 256, .inl (upd (upd (upd (upd h0_st w1.toNatClampNeg x1) (w1 + 1).toNatClampNeg x2) (w1 + 2).toNatClampNeg x3) (w1 + 3).toNatClampNeg x4)))] := hD
  exact W.vret hx hb hr (fun t ht hW => ⟨⟨((h0_size + 1), (upd h0_pl x3.toNatClampNeg ((h0_pl x3.toNatClampNeg) &&& ((1 <<< (x4 &&& 31)) ^^^ (-1)))), (upd (upd (upd (upd h0_st w1.toNatClampNeg x1) (w1 + 1).toNatClampNeg x2) (w1 + 2).toNatClampNeg x3) (w1 + 3).toNatClampNeg x4)), rfl, hw, by rw [ht]; exact hP, va_K.moved hW.alike hK, hD⟩, hS.F ht⟩) hS.2.2 dX4_strike_72

def wp_X4_supportedByEither_54 (Q : Int32 → Prop) (h0_pl : Nat → Int32)  (l3 : Int32) (s0 : Int32) : Prop :=
  (vp_in s0 16 ∧ ∀ w5 : Int32, w5 = (h0_pl s0.toNatClampNeg) → (((l3 &&& w5) = 0 → Q l3) ∧ (¬ ((l3 &&& w5) = 0) → Q 30)))
def wp_X4_supportedByEither (x1 : Nat) (x2 : Int32) (pv : PV) (h0_pl : Nat → Int32) (Q : Int32 → Prop) : Prop :=
  ((x2 = 0 → (pv.1 x1 ∧ (vp_in (pv.2.1 x1 2) 16 ∧ (vp_in (pv.2.1 x1 3) 16 ∧ Q ((h0_pl (pv.2.1 x1 2).toNatClampNeg) ||| (h0_pl (pv.2.1 x1 3).toNatClampNeg)))))) ∧ (¬ (x2 = 0) → (pv.1 x1 ∧ (vp_in (pv.2.1 x1 1) 16 ∧ ∀ w3 : Int32, w3 = (h0_pl (pv.2.1 x1 1).toNatClampNeg) → ((x2 = 1 → wp_X4_supportedByEither_54 Q h0_pl  w3 (pv.2.1 x1 3)) ∧ (¬ (x2 = 1) → wp_X4_supportedByEither_54 Q h0_pl  w3 (pv.2.1 x1 2)))))))
theorem hd_X4_supportedByEither : yX4_supportedByEither.cls = RX4 ∧ yX4_supportedByEither.cls ≠ "java/lang/invoke/MethodHandle" ∧ yX4_supportedByEither.cls ≠ "java/lang/invoke/VarHandle" ∧ (parseMethodDescriptor yX4_supportedByEither.desc).map (fun d => d.parameters.length) = some 2 := by decide +kernel
set_option maxHeartbeats 4000000 in
set_option maxRecDepth 100000 in
theorem m_X4_supportedByEither (l : Launch) (g : GG) {tb : TB} {pv : PV} {h0 h0p h0t : Nat} {h0_size : Int32} {h0_solved : Int32} {h0_pl : Nat → Int32} {h0_st : Nat → Int32} {x1 : Nat} {x2 : Int32} {Q : Int32 → Prop} (hw : wp_X4_supportedByEither x1 x2 pv h0_pl Q) : Met l yX4_supportedByEither wsX4_supportedByEither ({ frames := 0, cells := 0, slots := 0, locals := 0 } : Room) (PcP g (roC g tb pv) [(h0, .inr (4, [.ref h0p, .ref h0t, .int h0_size, .int h0_solved])), (h0p, .inl (g.2.1, 16, .inl h0_pl)), (h0t, .inl (g.2.1, 256, .inl h0_st))] [.ref h0, .ref x1, .int x2]) (vp_Si Q) 0 0 (fun _ => False) := by
  have hok : RoOK (roC g tb pv) := roC_ok
  refine Met.ofW (cc := cX4_supportedByEither) (maxL := 5) (ret := (some .int)) (by decide) rfl ?_
  intro p e s m args below meth c s₁ B hml hv
  obtain ⟨rfl, hP, hK, hro⟩ := hv
  have hx := B.exec
  have hb := B.bytes
  have hr := B.returns
  have hts := atoms_spec (ws := wsX4_supportedByEither) B.pre
  have hown : s.vm.findClass RX4 = some m.cls := findClass_of_methodNamed B.named
  have hlocks := B.notSynchronized
  have hA : ∀ q : Nat, s.heap.size ≤ q → (fun q : Nat => s.heap.size ≤ q) q := fun _ h => h
  have hS : va_S (fun q : Nat => s.heap.size ≤ q) s.heap s.heap [] := va_S.rf
  have hP : PP g [(h0, .inr (4, [.ref h0p, .ref h0t, .int h0_size, .int h0_solved])), (h0p, .inl (g.2.1, 16, .inl h0_pl)), (h0t, .inl (g.2.1, 256, .inl h0_st))] s.heap := hP
  have lk1 := hts (.fieldLink RX4 9 "GridRiddles$Strikes" "places" "[I") (by decide +kernel)
  have hinX4 : ∀ w ∈ u_ws RX4 TX4 4, w ∈ wsX4_supportedByEither := by decide +kernel
  have lk3 := hts (.fieldLink RX4 91 "GridRiddles$Clue" "x" "I") (by decide +kernel)
  have hinX1 : ∀ w ∈ u_ws RX1 TX1 9, w ∈ wsX4_supportedByEither := by decide +kernel
  have lk5 := hts (.fieldLink RX4 85 "GridRiddles$Clue" "y" "I") (by decide +kernel)
  have lk6 := hts (.fieldLink RX4 88 "GridRiddles$Clue" "z" "I") (by decide +kernel)
  have B54 : ∀ (l3 : Int32) (s0 : Int32), wp_X4_supportedByEither_54 Q h0_pl  l3 s0 → ∀ (ls : Array Slot), lv_has ls 5 [(3, .int l3)] → W p l e (headSpec wsX4_supportedByEither ({ frames := 0, cells := 0, slots := 0, locals := 0 } : Room)).room s m ([.ref h0, .ref x1, .int x2] : List Value).toArray below meth c s.heap [] 0 0 (MQ below (vp_Si Q) ([.ref h0, .ref x1, .int x2] : List Value).toArray s 0 0 (fun _ => False)) (F0 m 54 ls [.int s0, .ref h0p]) := by
    intro  l3 s0 hw ls hl
    obtain ⟨hi, hw⟩ := hw
    refine va_iald hx hb hK hP 1 0 rfl rfl hi dX4_supportedByEither_54 ?_
    refine lv_topi (fun w5 ew5 => ?_)
    have hw := hw w5 ew5
    refine lv_istore (lv' := [(4, .int w5), (3, .int l3)]) hx hb dX4_supportedByEither_55 hl (by decide) rfl (fun ls hl => ?_)
    refine lv_iload_n hx hb dX4_supportedByEither_57 rfl (lv_at hl 1 rfl) ?_
    refine lv_iload hx hb dX4_supportedByEither_58 (lv_at hl 0 rfl) ?_
    refine lv_iand hx hb dX4_supportedByEither_60 ?_
    refine lv_if_eq (tgt := 69) hx hb dX4_supportedByEither_61 (by decide) (fun c6 => ?_) (fun c6 => ?_)
    · replace hw := hw.1 c6
      refine lv_iload_n hx hb dX4_supportedByEither_69 rfl (lv_at hl 1 rfl) ?_
      exact W.iret hx hb hr (fun t ht _ => ⟨l3, rfl, hw, ht⟩) t_nil dX4_supportedByEither_70
    · replace hw := hw.2 c6
      refine lv_bipush (v := 30) hx hb dX4_supportedByEither_64 (by decide) ?_
      refine lv_goto (tgt := 70) hx hb dX4_supportedByEither_66 (by decide) ?_
      exact W.iret hx hb hr (fun t ht _ => ⟨30, rfl, hw, ht⟩) t_nil dX4_supportedByEither_70
  have hl := lv_entry ([.ref h0, .ref x1, .int x2]) (n := 5) (Nat.le_of_ble_eq_true rfl)
  rw [lg_entry_eq]
  generalize (lg_sl ([.ref h0, .ref x1, .int x2]) ++ List.replicate (5 - (lg_sl ([.ref h0, .ref x1, .int x2])).length) Slot.unset).toArray = ls at hl ⊢
  have hl : lv_has ls 5 [(0, .ref h0), (1, .ref x1), (2, .int x2)] := hl
  unfold wp_X4_supportedByEither at hw
  refine lv_iload_n hx hb dX4_supportedByEither_0 rfl (lv_at hl 2 rfl) ?_
  refine lv_if_ne (tgt := 24) hx hb dX4_supportedByEither_1 (by decide) (fun c1 => ?_) (fun c1 => ?_)
  · replace hw := hw.2 c1
    refine lv_aload_n hx hb dX4_supportedByEither_24 rfl (lv_at hl 0 rfl) ?_
    refine va_get (D := g.1) (ci := 4) (v := .ref h0p) (C := RX4) (T := TX4) (N := 4) hx hb hts hinX4 hown hK hP 0 rfl rfl 0 (by decide) lk1 (fun _ h9 => h9) rfl dX4_supportedByEither_25 ?_
    refine lv_aload_n hx hb dX4_supportedByEither_28 rfl (lv_at hl 1 rfl) ?_
    obtain ⟨hp2, hw⟩ := hw
    refine va_get (D := g.1) (ci := 1) (v := .int (pv.2.1 x1 1)) (C := RX1) (T := TX1) (N := 9) hx hb hts hinX1 hown hK (pool_O hro hS hp2) 0 rfl rfl 1 (by decide) lk3 (fun _ h9 => h9) rfl dX4_supportedByEither_29 ?_
    obtain ⟨hi, hw⟩ := hw
    refine va_iald hx hb hK hP 1 0 rfl rfl hi dX4_supportedByEither_32 ?_
    refine lv_topi (fun w3 ew3 => ?_)
    have hw := hw w3 ew3
    refine lv_istore_n (lv' := [(3, .int w3), (0, .ref h0), (1, .ref x1), (2, .int x2)]) hx hb dX4_supportedByEither_33 rfl hl (by decide) rfl (fun ls hl => ?_)
    refine lv_aload_n hx hb dX4_supportedByEither_34 rfl (lv_at hl 1 rfl) ?_
    refine va_get (D := g.1) (ci := 4) (v := .ref h0p) (C := RX4) (T := TX4) (N := 4) hx hb hts hinX4 hown hK hP 0 rfl rfl 0 (by decide) lk1 (fun _ h9 => h9) rfl dX4_supportedByEither_35 ?_
    refine lv_iload_n hx hb dX4_supportedByEither_38 rfl (lv_at hl 3 rfl) ?_
    refine lv_iconst (v := 1) hx hb dX4_supportedByEither_39 (by decide) ?_
    refine lv_icmp_ne (tgt := 50) hx hb dX4_supportedByEither_40 (by decide) (fun c4 => ?_) (fun c4 => ?_)
    · replace hw := hw.2 c4
      refine lv_aload_n hx hb dX4_supportedByEither_50 rfl (lv_at hl 2 rfl) ?_
      refine va_get (D := g.1) (ci := 1) (v := .int (pv.2.1 x1 2)) (C := RX1) (T := TX1) (N := 9) hx hb hts hinX1 hown hK (pool_O hro hS hp2) 0 rfl rfl 2 (by decide) lk5 (fun _ h9 => h9) rfl dX4_supportedByEither_51 ?_
      exact B54  w3 (pv.2.1 x1 2) hw ls (lv_sub hl [0] rfl)
    · replace hw := hw.1 c4
      refine lv_aload_n hx hb dX4_supportedByEither_43 rfl (lv_at hl 2 rfl) ?_
      refine va_get (D := g.1) (ci := 1) (v := .int (pv.2.1 x1 3)) (C := RX1) (T := TX1) (N := 9) hx hb hts hinX1 hown hK (pool_O hro hS hp2) 0 rfl rfl 3 (by decide) lk6 (fun _ h9 => h9) rfl dX4_supportedByEither_44 ?_
      refine lv_goto (tgt := 54) hx hb dX4_supportedByEither_47 (by decide) ?_
      exact B54  w3 (pv.2.1 x1 3) hw ls (lv_sub hl [0] rfl)
  · replace hw := hw.1 c1
    refine lv_aload_n hx hb dX4_supportedByEither_4 rfl (lv_at hl 0 rfl) ?_
    refine va_get (D := g.1) (ci := 4) (v := .ref h0p) (C := RX4) (T := TX4) (N := 4) hx hb hts hinX4 hown hK hP 0 rfl rfl 0 (by decide) lk1 (fun _ h9 => h9) rfl dX4_supportedByEither_5 ?_
    refine lv_aload_n hx hb dX4_supportedByEither_8 rfl (lv_at hl 1 rfl) ?_
    obtain ⟨hp7, hw⟩ := hw
    refine va_get (D := g.1) (ci := 1) (v := .int (pv.2.1 x1 2)) (C := RX1) (T := TX1) (N := 9) hx hb hts hinX1 hown hK (pool_O hro hS hp7) 0 rfl rfl 2 (by decide) lk5 (fun _ h9 => h9) rfl dX4_supportedByEither_9 ?_
    obtain ⟨hi, hw⟩ := hw
    refine va_iald hx hb hK hP 1 0 rfl rfl hi dX4_supportedByEither_12 ?_
    refine lv_aload_n hx hb dX4_supportedByEither_13 rfl (lv_at hl 0 rfl) ?_
    refine va_get (D := g.1) (ci := 4) (v := .ref h0p) (C := RX4) (T := TX4) (N := 4) hx hb hts hinX4 hown hK hP 0 rfl rfl 0 (by decide) lk1 (fun _ h9 => h9) rfl dX4_supportedByEither_14 ?_
    refine lv_aload_n hx hb dX4_supportedByEither_17 rfl (lv_at hl 1 rfl) ?_
    refine va_get (D := g.1) (ci := 1) (v := .int (pv.2.1 x1 3)) (C := RX1) (T := TX1) (N := 9) hx hb hts hinX1 hown hK (pool_O hro hS hp7) 0 rfl rfl 3 (by decide) lk6 (fun _ h9 => h9) rfl dX4_supportedByEither_18 ?_
    obtain ⟨hi, hw⟩ := hw
    refine va_iald hx hb hK hP 1 0 rfl rfl hi dX4_supportedByEither_21 ?_
    refine lv_ior hx hb dX4_supportedByEither_22 ?_
    exact W.iret hx hb hr (fun t ht _ => ⟨((h0_pl (pv.2.1 x1 2).toNatClampNeg) ||| (h0_pl (pv.2.1 x1 3).toNatClampNeg)), rfl, hw, ht⟩) t_nil dX4_supportedByEither_23

def wp_X4_supported (x1 : Nat) (x2 : Int32) (pv : PV) (h0_pl : Nat → Int32) (Q : Int32 → Prop) : Prop :=
  (pv.1 x1 ∧ (((pv.2.1 x1 0) = 5 → Q (1 <<< ((pv.2.1 x1 4) &&& 31))) ∧ (¬ ((pv.2.1 x1 0) = 5) → (((pv.2.1 x1 0) = 6 → (wp_X4_supportedByEither x1 x2 pv h0_pl (fun r13 => Q r13))) ∧ (¬ ((pv.2.1 x1 0) = 6) → (wp_X1_itemAt (1 - x2) (pv.2.1 x1 1) (pv.2.1 x1 2) (pv.2.1 x1 3) (fun r4 => (vp_in r4 16 ∧ ∀ w5 : Int32, w5 = (h0_pl r4.toNatClampNeg) → ∀ w6 : Int32, w6 = (w5 >>> (1 &&& 31)) → ∀ w7 : Int32, w7 = (w5 <<< (1 &&& 31)) → (((pv.2.1 x1 0) = 0 → Q w5) ∧ ((pv.2.1 x1 0) = 1 → (wp_J6_bitCount_0f7a4 w5 (fun r9 => ((r9 = 1 → Q (w5 ^^^ (-1))) ∧ (¬ (r9 = 1) → Q 30))))) ∧ ((pv.2.1 x1 0) = 2 → ((x2 = 0 → Q ((w6 ||| (w6 >>> (1 &&& 31))) ||| (w6 >>> (2 &&& 31)))) ∧ (¬ (x2 = 0) → Q ((w7 ||| (w7 <<< (1 &&& 31))) ||| (w7 <<< (2 &&& 31)))))) ∧ ((pv.2.1 x1 0) = 3 → ((x2 = 0 → Q w6) ∧ (¬ (x2 = 0) → Q w7))) ∧ (¬ (pv.2.1 x1 0) = 0 ∧ ¬ (pv.2.1 x1 0) = 1 ∧ ¬ (pv.2.1 x1 0) = 2 ∧ ¬ (pv.2.1 x1 0) = 3 → Q (w6 ||| w7)))))))))))
theorem hd_X4_supported : yX4_supported.cls = RX4 ∧ yX4_supported.cls ≠ "java/lang/invoke/MethodHandle" ∧ yX4_supported.cls ≠ "java/lang/invoke/VarHandle" ∧ (parseMethodDescriptor yX4_supported.desc).map (fun d => d.parameters.length) = some 2 := by decide +kernel
set_option maxHeartbeats 4000000 in
set_option maxRecDepth 100000 in
theorem m_X4_supported (l : Launch) (g : GG) {tb : TB} {pv : PV} {h0 h0p h0t : Nat} {h0_size : Int32} {h0_solved : Int32} {h0_pl : Nat → Int32} {h0_st : Nat → Int32} {x1 : Nat} {x2 : Int32} {Q : Int32 → Prop} (hw : wp_X4_supported x1 x2 pv h0_pl Q) : Met l yX4_supported wsX4_supported ({ frames := 1, cells := 0, slots := 0, locals := 24 } : Room) (PcP g (roC g tb pv) [(h0, .inr (4, [.ref h0p, .ref h0t, .int h0_size, .int h0_solved])), (h0p, .inl (g.2.1, 16, .inl h0_pl)), (h0t, .inl (g.2.1, 256, .inl h0_st))] [.ref h0, .ref x1, .int x2]) (vp_Si Q) 0 0 (fun _ => False) := by
  have hok : RoOK (roC g tb pv) := roC_ok
  refine Met.ofW (cc := cX4_supported) (maxL := 6) (ret := (some .int)) (by decide) rfl ?_
  intro p e s m args below meth c s₁ B hml hv
  obtain ⟨rfl, hP, hK, hro⟩ := hv
  have hx := B.exec
  have hb := B.bytes
  have hr := B.returns
  have hts := atoms_spec (ws := wsX4_supported) B.pre
  have hown : s.vm.findClass RX4 = some m.cls := findClass_of_methodNamed B.named
  have hlocks := B.notSynchronized
  have hA : ∀ q : Nat, s.heap.size ≤ q → (fun q : Nat => s.heap.size ≤ q) q := fun _ h => h
  have hS : va_S (fun q : Nat => s.heap.size ≤ q) s.heap s.heap [] := va_S.rf
  have hP : PP g [(h0, .inr (4, [.ref h0p, .ref h0t, .int h0_size, .int h0_solved])), (h0p, .inl (g.2.1, 16, .inl h0_pl)), (h0t, .inl (g.2.1, 256, .inl h0_st))] s.heap := hP
  have lk1 := hts (.fieldLink RX4 71 "GridRiddles$Clue" "kind" "I") (by decide +kernel)
  have hinX1 : ∀ w ∈ u_ws RX1 TX1 9, w ∈ wsX4_supported := by decide +kernel
  have lk3 := hts (.fieldLink RX4 9 "GridRiddles$Strikes" "places" "[I") (by decide +kernel)
  have hinX4 : ∀ w ∈ u_ws RX4 TX4 4, w ∈ wsX4_supported := by decide +kernel
  have lk5 := hts (.fieldLink RX4 74 "GridRiddles$Clue" "place" "I") (by decide +kernel)
  have hl := lv_entry ([.ref h0, .ref x1, .int x2]) (n := 6) (Nat.le_of_ble_eq_true rfl)
  rw [lg_entry_eq]
  generalize (lg_sl ([.ref h0, .ref x1, .int x2]) ++ List.replicate (6 - (lg_sl ([.ref h0, .ref x1, .int x2])).length) Slot.unset).toArray = ls at hl ⊢
  have hl : lv_has ls 6 [(0, .ref h0), (1, .ref x1), (2, .int x2)] := hl
  unfold wp_X4_supported at hw
  refine lv_aload_n hx hb dX4_supported_0 rfl (lv_at hl 1 rfl) ?_
  obtain ⟨hp1, hw⟩ := hw
  refine va_get (D := g.1) (ci := 1) (v := .int (pv.2.1 x1 0)) (C := RX1) (T := TX1) (N := 9) hx hb hts hinX1 hown hK (pool_O hro hS hp1) 0 rfl rfl 0 (by decide) lk1 (fun _ h9 => h9) rfl dX4_supported_1 ?_
  refine lv_iconst (v := 5) hx hb dX4_supported_4 (by decide) ?_
  refine lv_icmp_ne (tgt := 15) hx hb dX4_supported_5 (by decide) (fun c2 => ?_) (fun c2 => ?_)
  · replace hw := hw.2 c2
    refine lv_aload_n hx hb dX4_supported_15 rfl (lv_at hl 1 rfl) ?_
    refine va_get (D := g.1) (ci := 1) (v := .int (pv.2.1 x1 0)) (C := RX1) (T := TX1) (N := 9) hx hb hts hinX1 hown hK (pool_O hro hS hp1) 0 rfl rfl 0 (by decide) lk1 (fun _ h9 => h9) rfl dX4_supported_16 ?_
    refine lv_bipush (v := 6) hx hb dX4_supported_19 (by decide) ?_
    refine lv_icmp_ne (tgt := 31) hx hb dX4_supported_21 (by decide) (fun c3 => ?_) (fun c3 => ?_)
    · replace hw := hw.2 c3
      refine lv_aload_n hx hb dX4_supported_31 rfl (lv_at hl 0 rfl) ?_
      refine va_get (D := g.1) (ci := 4) (v := .ref h0p) (C := RX4) (T := TX4) (N := 4) hx hb hts hinX4 hown hK hP 0 rfl rfl 0 (by decide) lk3 (fun _ h9 => h9) rfl dX4_supported_32 ?_
      refine lv_aload_n hx hb dX4_supported_35 rfl (lv_at hl 1 rfl) ?_
      refine lv_iconst (v := 1) hx hb dX4_supported_36 (by decide) ?_
      refine lv_iload_n hx hb dX4_supported_37 rfl (lv_at hl 2 rfl) ?_
      refine lv_isub hx hb dX4_supported_38 ?_
      refine kp_V (As := [.int (1 - x2)]) (rest := [.ref h0p]) (wc := [clO pv x1]) (cq := (RX1, TX1, 9)) ⟨hx, hb, hml, hown, hts⟩ (m_X1_itemAt l g hok (h0 := x1) (h0w := (pv.2.2.1 x1)) (h0_kind := (pv.2.1 x1 0)) (h0_x := (pv.2.1 x1 1)) (h0_y := (pv.2.1 x1 2)) (h0_z := (pv.2.1 x1 3)) (h0_place := (pv.2.1 x1 4)) (h0_top := (pv.2.1 x1 5)) (h0_low := (pv.2.1 x1 6)) (h0_high := (pv.2.1 x1 7)) (x1 := (1 - x2)) hw) (cwV 1 hts gX4_supported_X1_itemAt rfl rfl rfl hd_X1_itemAt ⟨Nat.le_of_ble_eq_true rfl, Nat.le_of_ble_eq_true rfl⟩) hok hK (pool_O hro hS hp1) hro hS hA 0 1 rfl rfl rfl hl.1 rfl (Nat.le_of_ble_eq_true rfl) dX4_supported_39 ⟨Nat.le_of_ble_eq_true rfl, Nat.le_of_ble_eq_true rfl⟩ (fun r4 hw => ?_)
      obtain ⟨hi, hw⟩ := hw
      refine va_iald hx hb hK hP 1 0 rfl rfl hi dX4_supported_42 ?_
      refine lv_topi (fun w5 ew5 => ?_)
      have hw := hw w5 ew5
      refine lv_istore_n (lv' := [(3, .int w5), (0, .ref h0), (1, .ref x1), (2, .int x2)]) hx hb dX4_supported_43 rfl hl (by decide) rfl (fun ls hl => ?_)
      refine lv_iload_n hx hb dX4_supported_44 rfl (lv_at hl 0 rfl) ?_
      refine lv_iconst (v := 1) hx hb dX4_supported_45 (by decide) ?_
      refine lv_ishr hx hb dX4_supported_46 ?_
      refine lv_topi (fun w6 ew6 => ?_)
      have hw := hw w6 ew6
      refine lv_istore (lv' := [(4, .int w6), (3, .int w5), (0, .ref h0), (1, .ref x1), (2, .int x2)]) hx hb dX4_supported_47 hl (by decide) rfl (fun ls hl => ?_)
      refine lv_iload_n hx hb dX4_supported_49 rfl (lv_at hl 1 rfl) ?_
      refine lv_iconst (v := 1) hx hb dX4_supported_50 (by decide) ?_
      refine lv_ishl hx hb dX4_supported_51 ?_
      refine lv_topi (fun w7 ew7 => ?_)
      have hw := hw w7 ew7
      refine lv_istore (lv' := [(5, .int w7), (4, .int w6), (3, .int w5), (0, .ref h0), (1, .ref x1), (2, .int x2)]) hx hb dX4_supported_52 hl (by decide) rfl (fun ls hl => ?_)
      refine lv_aload_n hx hb dX4_supported_54 rfl (lv_at hl 4 rfl) ?_
      refine va_get (D := g.1) (ci := 1) (v := .int (pv.2.1 x1 0)) (C := RX1) (T := TX1) (N := 9) hx hb hts hinX1 hown hK (pool_O hro hS hp1) 0 rfl rfl 0 (by decide) lk1 (fun _ h9 => h9) rfl dX4_supported_55 ?_
      by_cases c8_0 : (pv.2.1 x1 0) = 0
      · refine lv_tableIn (tgt := 88) hx hb dX4_supported_58 (by rw [c8_0]; decide) (by rw [c8_0]; decide) (by rw [c8_0]; rfl) (by decide) ?_
        replace hw := hw.1 c8_0
        refine lv_iload_n hx hb dX4_supported_88 rfl (lv_at hl 2 rfl) ?_
        exact W.iret hx hb hr (fun t ht _ => ⟨w5, rfl, hw, ht⟩) t_nil dX4_supported_89
      replace hw := hw.2
      by_cases c8_1 : (pv.2.1 x1 0) = 1
      · refine lv_tableIn (tgt := 90) hx hb dX4_supported_58 (by rw [c8_1]; decide) (by rw [c8_1]; decide) (by rw [c8_1]; rfl) (by decide) ?_
        replace hw := hw.1 c8_1
        refine lv_iload_n hx hb dX4_supported_90 rfl (lv_at hl 2 rfl) ?_
        refine kp_S (As := [.int w5]) (rest := []) (wc := []) ⟨hx, hb, hml, hown, hts⟩ (m_J6_bitCount_0f7a4 l g hok (x1 := w5) hw) (va_cwS 1 hts gX4_supported_J6_bitCount_0f7a4 rfl rfl rfl hd_J6_bitCount_0f7a4 ⟨Nat.le_of_ble_eq_true rfl, Nat.le_of_ble_eq_true rfl⟩) hok hK PP_nil hro hS hA rfl hl.1 rfl (Nat.le_of_ble_eq_true rfl) dX4_supported_91 ⟨Nat.le_of_ble_eq_true rfl, Nat.le_of_ble_eq_true rfl⟩ (fun r9 hw => ?_)
        refine lv_iconst (v := 1) hx hb dX4_supported_94 (by decide) ?_
        refine lv_icmp_ne (tgt := 104) hx hb dX4_supported_95 (by decide) (fun c10 => ?_) (fun c10 => ?_)
        · replace hw := hw.2 c10
          refine lv_bipush (v := 30) hx hb dX4_supported_104 (by decide) ?_
          exact W.iret hx hb hr (fun t ht _ => ⟨30, rfl, hw, ht⟩) t_nil dX4_supported_106
        · replace hw := hw.1 c10
          refine lv_iload_n hx hb dX4_supported_98 rfl (lv_at hl 2 rfl) ?_
          refine lv_iconst (v := (-1)) hx hb dX4_supported_99 (by decide) ?_
          refine lv_ixor hx hb dX4_supported_100 ?_
          refine lv_goto (tgt := 106) hx hb dX4_supported_101 (by decide) ?_
          exact W.iret hx hb hr (fun t ht _ => ⟨(w5 ^^^ (-1)), rfl, hw, ht⟩) t_nil dX4_supported_106
      replace hw := hw.2
      by_cases c8_2 : (pv.2.1 x1 0) = 2
      · refine lv_tableIn (tgt := 107) hx hb dX4_supported_58 (by rw [c8_2]; decide) (by rw [c8_2]; decide) (by rw [c8_2]; rfl) (by decide) ?_
        replace hw := hw.1 c8_2
        refine lv_iload_n hx hb dX4_supported_107 rfl (lv_at hl 5 rfl) ?_
        refine lv_if_ne (tgt := 126) hx hb dX4_supported_108 (by decide) (fun c11 => ?_) (fun c11 => ?_)
        · replace hw := hw.2 c11
          refine lv_iload hx hb dX4_supported_126 (lv_at hl 0 rfl) ?_
          refine lv_iload hx hb dX4_supported_128 (lv_at hl 0 rfl) ?_
          refine lv_iconst (v := 1) hx hb dX4_supported_130 (by decide) ?_
          refine lv_ishl hx hb dX4_supported_131 ?_
          refine lv_ior hx hb dX4_supported_132 ?_
          refine lv_iload hx hb dX4_supported_133 (lv_at hl 0 rfl) ?_
          refine lv_iconst (v := 2) hx hb dX4_supported_135 (by decide) ?_
          refine lv_ishl hx hb dX4_supported_136 ?_
          refine lv_ior hx hb dX4_supported_137 ?_
          exact W.iret hx hb hr (fun t ht _ => ⟨((w7 ||| (w7 <<< (1 &&& 31))) ||| (w7 <<< (2 &&& 31))), rfl, hw, ht⟩) t_nil dX4_supported_138
        · replace hw := hw.1 c11
          refine lv_iload hx hb dX4_supported_111 (lv_at hl 1 rfl) ?_
          refine lv_iload hx hb dX4_supported_113 (lv_at hl 1 rfl) ?_
          refine lv_iconst (v := 1) hx hb dX4_supported_115 (by decide) ?_
          refine lv_ishr hx hb dX4_supported_116 ?_
          refine lv_ior hx hb dX4_supported_117 ?_
          refine lv_iload hx hb dX4_supported_118 (lv_at hl 1 rfl) ?_
          refine lv_iconst (v := 2) hx hb dX4_supported_120 (by decide) ?_
          refine lv_ishr hx hb dX4_supported_121 ?_
          refine lv_ior hx hb dX4_supported_122 ?_
          refine lv_goto (tgt := 138) hx hb dX4_supported_123 (by decide) ?_
          exact W.iret hx hb hr (fun t ht _ => ⟨((w6 ||| (w6 >>> (1 &&& 31))) ||| (w6 >>> (2 &&& 31))), rfl, hw, ht⟩) t_nil dX4_supported_138
      replace hw := hw.2
      by_cases c8_3 : (pv.2.1 x1 0) = 3
      · refine lv_tableIn (tgt := 139) hx hb dX4_supported_58 (by rw [c8_3]; decide) (by rw [c8_3]; decide) (by rw [c8_3]; rfl) (by decide) ?_
        replace hw := hw.1 c8_3
        refine lv_iload_n hx hb dX4_supported_139 rfl (lv_at hl 5 rfl) ?_
        refine lv_if_ne (tgt := 148) hx hb dX4_supported_140 (by decide) (fun c12 => ?_) (fun c12 => ?_)
        · replace hw := hw.2 c12
          refine lv_iload hx hb dX4_supported_148 (lv_at hl 0 rfl) ?_
          exact W.iret hx hb hr (fun t ht _ => ⟨w7, rfl, hw, ht⟩) t_nil dX4_supported_150
        · replace hw := hw.1 c12
          refine lv_iload hx hb dX4_supported_143 (lv_at hl 1 rfl) ?_
          refine lv_goto (tgt := 150) hx hb dX4_supported_145 (by decide) ?_
          exact W.iret hx hb hr (fun t ht _ => ⟨w6, rfl, hw, ht⟩) t_nil dX4_supported_150
      replace hw := hw.2
      have hout : (pv.2.1 x1 0).toInt < 0 ∨ 3 < (pv.2.1 x1 0).toInt := by
        have n_c8_0 := ne_toInt c8_0
        rw [show (0 : Int32).toInt = 0 from by decide] at n_c8_0
        have n_c8_1 := ne_toInt c8_1
        rw [show (1 : Int32).toInt = 1 from by decide] at n_c8_1
        have n_c8_2 := ne_toInt c8_2
        rw [show (2 : Int32).toInt = 2 from by decide] at n_c8_2
        have n_c8_3 := ne_toInt c8_3
        rw [show (3 : Int32).toInt = 3 from by decide] at n_c8_3
        omega
      refine lv_tableOut (tgt := 151) hx hb dX4_supported_58 hout (by decide) ?_
      replace hw := hw ⟨c8_0, c8_1, c8_2, c8_3⟩
      refine lv_iload hx hb dX4_supported_151 (lv_at hl 1 rfl) ?_
      refine lv_iload hx hb dX4_supported_153 (lv_at hl 0 rfl) ?_
      refine lv_ior hx hb dX4_supported_155 ?_
      exact W.iret hx hb hr (fun t ht _ => ⟨(w6 ||| w7), rfl, hw, ht⟩) t_nil dX4_supported_156
    · replace hw := hw.1 c3
      refine lv_aload_n hx hb dX4_supported_24 rfl (lv_at hl 0 rfl) ?_
      refine lv_aload_n hx hb dX4_supported_25 rfl (lv_at hl 1 rfl) ?_
      refine lv_iload_n hx hb dX4_supported_26 rfl (lv_at hl 2 rfl) ?_
      refine kp_V (As := [.ref x1, .int x2]) (rest := []) (wc := [(h0, .inr (4, [.ref h0p, .ref h0t, .int h0_size, .int h0_solved])), (h0p, .inl (g.2.1, 16, .inl h0_pl)), (h0t, .inl (g.2.1, 256, .inl h0_st))]) (cq := (RX4, TX4, 4)) ⟨hx, hb, hml, hown, hts⟩ (m_X4_supportedByEither l g (tb := tb) (pv := pv) (h0 := h0) (h0p := h0p) (h0t := h0t) (h0_size := h0_size) (h0_solved := h0_solved) (h0_pl := h0_pl) (h0_st := h0_st) (x1 := x1) (x2 := x2) hw) (cwV 2 hts gX4_supported_X4_supportedByEither rfl rfl rfl hd_X4_supportedByEither ⟨Nat.le_of_ble_eq_true rfl, Nat.le_of_ble_eq_true rfl⟩) hok hK hP hro hS hA 0 4 rfl rfl rfl hl.1 rfl (Nat.le_of_ble_eq_true rfl) dX4_supported_27 ⟨Nat.le_of_ble_eq_true rfl, Nat.le_of_ble_eq_true rfl⟩ (fun r13 hw => ?_)
      exact W.iret hx hb hr (fun t ht _ => ⟨r13, rfl, hw, ht⟩) t_nil dX4_supported_30
  · replace hw := hw.1 c2
    refine lv_iconst (v := 1) hx hb dX4_supported_8 (by decide) ?_
    refine lv_aload_n hx hb dX4_supported_9 rfl (lv_at hl 1 rfl) ?_
    refine va_get (D := g.1) (ci := 1) (v := .int (pv.2.1 x1 4)) (C := RX1) (T := TX1) (N := 9) hx hb hts hinX1 hown hK (pool_O hro hS hp1) 0 rfl rfl 4 (by decide) lk5 (fun _ h9 => h9) rfl dX4_supported_10 ?_
    refine lv_ishl hx hb dX4_supported_13 ?_
    exact W.iret hx hb hr (fun t ht _ => ⟨(1 <<< ((pv.2.1 x1 4) &&& 31)), rfl, hw, ht⟩) t_nil dX4_supported_14

def wp_X4_strikeByClue_20 (Q : Int32 → Int32 → (Nat → Int32) → (Nat → Int32) → Prop) (pv : PV) (K2 : Int32 → Int32 → (Nat → Int32) → (Nat → Int32) → Prop) (l2 : Int32) (p3 : Nat) (l4 : Int32) (h0_size : Int32) (h0_pl : Nat → Int32) (h0_st : Nat → Int32) : Prop :=
  ∃ (I20 : Int32 → Nat → Int32 → Int32 → (Nat → Int32) → (Nat → Int32) → Prop) (mu20 : Int32 → Nat → Int32 → Int32 → (Nat → Int32) → (Nat → Int32) → Nat), I20 l2 p3 l4 h0_size h0_pl h0_st ∧ ∀ (l2 : Int32) (p3 : Nat) (l4 : Int32) (h0_size : Int32) (h0_pl : Nat → Int32) (h0_st : Nat → Int32), I20 l2 p3 l4 h0_size h0_pl h0_st → (pv.1 p3 ∧ (wp_X1_items (pv.2.1 p3 0) (fun r4 => ((r4 ≤ l4 → K2 (l2 + 1) h0_size h0_pl h0_st) ∧ (¬ (r4 ≤ l4) → (wp_X1_itemAt l4 (pv.2.1 p3 1) (pv.2.1 p3 2) (pv.2.1 p3 3) (fun r6 => (vp_in r6 16 ∧ (wp_X4_supported p3 l4 pv h0_pl (fun r7 => ∀ w8 : Int32, w8 = ((h0_pl r6.toNatClampNeg) &&& (r7 ^^^ (-1))) → ((w8 = 0 → (I20 l2 p3 (l4 + 1) h0_size h0_pl h0_st ∧ mu20 l2 p3 (l4 + 1) h0_size h0_pl h0_st < mu20 l2 p3 l4 h0_size h0_pl h0_st)) ∧ (¬ (w8 = 0) → (wp_X4_firstOf w8 (fun r10 => (wp_X4_strike 0 l2 r6 r10 h0_size h0_pl h0_st (fun w11 w12 w13 => Q 1 w11 w12 w13))))))))))))))))
def wp_X4_strikeByClue_2 (Q : Int32 → Int32 → (Nat → Int32) → (Nat → Int32) → Prop) (pv : PV) (k9_size : Int32) (k9_row : Nat → Option Nat)  (l2 : Int32) (h0_size : Int32) (h0_pl : Nat → Int32) (h0_st : Nat → Int32) : Prop :=
  ∃ (I2 : Int32 → Int32 → (Nat → Int32) → (Nat → Int32) → Prop) (mu2 : Int32 → Int32 → (Nat → Int32) → (Nat → Int32) → Nat), I2 l2 h0_size h0_pl h0_st ∧ ∀ (l2 : Int32) (h0_size : Int32) (h0_pl : Nat → Int32) (h0_st : Nat → Int32), I2 l2 h0_size h0_pl h0_st → ((k9_size ≤ l2 → Q 0 h0_size h0_pl h0_st) ∧ (¬ (k9_size ≤ l2) → (vp_in l2 12 ∧ ∃ a2 : Nat, (k9_row l2.toNatClampNeg) = some a2 ∧ wp_X4_strikeByClue_20 Q pv (fun l2' h0_size' h0_pl' h0_st' => I2 l2' h0_size' h0_pl' h0_st' ∧ mu2 l2' h0_size' h0_pl' h0_st' < mu2 l2 h0_size h0_pl h0_st) l2 a2 0 h0_size h0_pl h0_st)))
def wp_X4_strikeByClue (pv : PV) (h0_size : Int32) (h0_pl : Nat → Int32) (h0_st : Nat → Int32) (k9_size : Int32) (k9_row : Nat → Option Nat) (Q : Int32 → Int32 → (Nat → Int32) → (Nat → Int32) → Prop) : Prop :=
  wp_X4_strikeByClue_2 Q pv k9_size k9_row  0 h0_size h0_pl h0_st
theorem hd_X4_strikeByClue : yX4_strikeByClue.cls = RX4 ∧ yX4_strikeByClue.cls ≠ "java/lang/invoke/MethodHandle" ∧ yX4_strikeByClue.cls ≠ "java/lang/invoke/VarHandle" ∧ (parseMethodDescriptor yX4_strikeByClue.desc).map (fun d => d.parameters.length) = some 1 := by decide +kernel
set_option maxHeartbeats 4000000 in
set_option maxRecDepth 100000 in
theorem m_X4_strikeByClue (l : Launch) (g : GG) {tb : TB} {pv : PV} {h0 h0p h0t k9 k9r : Nat} {h0_size : Int32} {h0_solved : Int32} {h0_pl : Nat → Int32} {h0_st : Nat → Int32} {k9_size : Int32} {k9_row : Nat → Option Nat} {sz : Nat} {Q : Int32 → Int32 → (Nat → Int32) → (Nat → Int32) → Prop} (hw : wp_X4_strikeByClue pv h0_size h0_pl h0_st k9_size k9_row Q) : Met l yX4_strikeByClue wsX4_strikeByClue ({ frames := 2, cells := 0, slots := 0, locals := 49 } : Room) (PcM g (roC g tb pv) [(h0, .inr (4, [.ref h0p, .ref h0t, .int h0_size, .int h0_solved])), (h0p, .inl (g.2.1, 16, .inl h0_pl)), (h0t, .inl (g.2.1, 256, .inl h0_st)), (k9, .inr (2, [.ref k9r, .int k9_size])), (k9r, .inl (g.2.2.2.1, 12, .inr (.inr (.inr (.inr k9_row)))))] sz [.ref h0, .ref k9]) (va_Qi (fun (r : Int32) (u : Int32 × (Nat → Int32) × (Nat → Int32)) => Q r u.1 u.2.1 u.2.2) (BM g (fun u : Int32 × (Nat → Int32) × (Nat → Int32) => [(h0, .inr (4, [.ref h0p, .ref h0t, .int u.1, .int h0_solved])), (h0p, .inl (g.2.1, 16, .inl u.2.1)), (h0t, .inl (g.2.1, 256, .inl u.2.2)), (k9, .inr (2, [.ref k9r, .int k9_size])), (k9r, .inl (g.2.2.2.1, 12, .inr (.inr (.inr (.inr k9_row)))))]) (va_A [(h0, .inr (4, [.ref h0p, .ref h0t, .int h0_size, .int h0_solved])), (h0p, .inl (g.2.1, 16, .inl h0_pl)), (h0t, .inl (g.2.1, 256, .inl h0_st)), (k9, .inr (2, [.ref k9r, .int k9_size])), (k9r, .inl (g.2.2.2.1, 12, .inr (.inr (.inr (.inr k9_row)))))] sz)) (va_A [(h0, .inr (4, [.ref h0p, .ref h0t, .int h0_size, .int h0_solved])), (h0p, .inl (g.2.1, 16, .inl h0_pl)), (h0t, .inl (g.2.1, 256, .inl h0_st)), (k9, .inr (2, [.ref k9r, .int k9_size])), (k9r, .inl (g.2.2.2.1, 12, .inr (.inr (.inr (.inr k9_row)))))] sz)) 0 0 (va_A [(h0, .inr (4, [.ref h0p, .ref h0t, .int h0_size, .int h0_solved])), (h0p, .inl (g.2.1, 16, .inl h0_pl)), (h0t, .inl (g.2.1, 256, .inl h0_st)), (k9, .inr (2, [.ref k9r, .int k9_size])), (k9r, .inl (g.2.2.2.1, 12, .inr (.inr (.inr (.inr k9_row)))))] sz) := by
  have hok : RoOK (roC g tb pv) := roC_ok
  refine Met.ofW (cc := cX4_strikeByClue) (maxL := 7) (ret := (some .boolean)) (by decide) rfl ?_
  intro p e s m args below meth c s₁ B hml hv
  obtain ⟨rfl, hsz, hP, hK, hD0, hro⟩ := hv
  have hx := B.exec
  have hb := B.bytes
  have hr := B.returns
  have hts := atoms_spec (ws := wsX4_strikeByClue) B.pre
  have hown : s.vm.findClass RX4 = some m.cls := findClass_of_methodNamed B.named
  have hlocks := B.notSynchronized
  subst hsz
  have hD := hD0.self (sz := s.heap.size)
  generalize hAe : va_A [(h0, .inr (4, [.ref h0p, .ref h0t, .int h0_size, .int h0_solved])), (h0p, .inl (g.2.1, 16, .inl h0_pl)), (h0t, .inl (g.2.1, 256, .inl h0_st)), (k9, .inr (2, [.ref k9r, .int k9_size])), (k9r, .inl (g.2.2.2.1, 12, .inr (.inr (.inr (.inr k9_row)))))] s.heap.size = A at hD hro ⊢
  have hA : ∀ q : Nat, s.heap.size ≤ q → A q := fun q h => by rw [← hAe]; exact Or.inr h
  have hS : va_S A s.heap s.heap [] := va_S.rf
  have hP : PP g [(h0, .inr (4, [.ref h0p, .ref h0t, .int h0_size, .int h0_solved])), (h0p, .inl (g.2.1, 16, .inl h0_pl)), (h0t, .inl (g.2.1, 256, .inl h0_st)), (k9, .inr (2, [.ref k9r, .int k9_size])), (k9r, .inl (g.2.2.2.1, 12, .inr (.inr (.inr (.inr k9_row)))))] s.heap := hP
  have lk1 := hts (.fieldLink RX4 43 "GridRiddles$Clues" "size" "I") (by decide +kernel)
  have hinX2 : ∀ w ∈ u_ws RX2 TX2 2, w ∈ wsX4_strikeByClue := by decide +kernel
  have lk3 := hts (.fieldLink RX4 46 "GridRiddles$Clues" "row" "[LGridRiddles$Clue;") (by decide +kernel)
  have lk4 := hts (.fieldLink RX4 9 "GridRiddles$Strikes" "places" "[I") (by decide +kernel)
  have hinX4 : ∀ w ∈ u_ws RX4 TX4 4, w ∈ wsX4_strikeByClue := by decide +kernel
  have B20 : ∀ (K2 : Int32 → Int32 → (Nat → Int32) → (Nat → Int32) → Prop) (hK2 : ∀ (l2 : Int32) (h0_size : Int32) (h0_pl : Nat → Int32) (h0_st : Nat → Int32), K2 l2 h0_size h0_pl h0_st → ∀ (H : Heap) (locs : List Loc), PP g [(h0, .inr (4, [.ref h0p, .ref h0t, .int h0_size, .int h0_solved])), (h0p, .inl (g.2.1, 16, .inl h0_pl)), (h0t, .inl (g.2.1, 256, .inl h0_st)), (k9, .inr (2, [.ref k9r, .int k9_size])), (k9r, .inl (g.2.2.2.1, 12, .inr (.inr (.inr (.inr k9_row)))))] H → va_D A [(h0, .inr (4, [.ref h0p, .ref h0t, .int h0_size, .int h0_solved])), (h0p, .inl (g.2.1, 16, .inl h0_pl)), (h0t, .inl (g.2.1, 256, .inl h0_st)), (k9, .inr (2, [.ref k9r, .int k9_size])), (k9r, .inl (g.2.2.2.1, 12, .inr (.inr (.inr (.inr k9_row)))))] → va_S A s.heap H locs → ∀ (ls : Array Slot), lv_has ls 7 [(0, .ref h0), (1, .ref k9), (2, .int l2)] → W p l e (headSpec wsX4_strikeByClue ({ frames := 2, cells := 0, slots := 0, locals := 49 } : Room)).room s m ([.ref h0, .ref k9] : List Value).toArray below meth c H locs 0 0 (MQ below (va_Qi (fun (r : Int32) (u : Int32 × (Nat → Int32) × (Nat → Int32)) => Q r u.1 u.2.1 u.2.2) (BM g (fun u : Int32 × (Nat → Int32) × (Nat → Int32) => [(h0, .inr (4, [.ref h0p, .ref h0t, .int u.1, .int h0_solved])), (h0p, .inl (g.2.1, 16, .inl u.2.1)), (h0t, .inl (g.2.1, 256, .inl u.2.2)), (k9, .inr (2, [.ref k9r, .int k9_size])), (k9r, .inl (g.2.2.2.1, 12, .inr (.inr (.inr (.inr k9_row)))))]) A) A) ([.ref h0, .ref k9] : List Value).toArray s 0 0 A) (F0 m 2 ls [])) (l2 : Int32) (p3 : Nat) (l4 : Int32) (h0_size : Int32) (h0_pl : Nat → Int32) (h0_st : Nat → Int32), wp_X4_strikeByClue_20 Q pv K2 l2 p3 l4 h0_size h0_pl h0_st → ∀ (H : Heap) (locs : List Loc), PP g [(h0, .inr (4, [.ref h0p, .ref h0t, .int h0_size, .int h0_solved])), (h0p, .inl (g.2.1, 16, .inl h0_pl)), (h0t, .inl (g.2.1, 256, .inl h0_st)), (k9, .inr (2, [.ref k9r, .int k9_size])), (k9r, .inl (g.2.2.2.1, 12, .inr (.inr (.inr (.inr k9_row)))))] H → va_D A [(h0, .inr (4, [.ref h0p, .ref h0t, .int h0_size, .int h0_solved])), (h0p, .inl (g.2.1, 16, .inl h0_pl)), (h0t, .inl (g.2.1, 256, .inl h0_st)), (k9, .inr (2, [.ref k9r, .int k9_size])), (k9r, .inl (g.2.2.2.1, 12, .inr (.inr (.inr (.inr k9_row)))))] → va_S A s.heap H locs → ∀ (ls : Array Slot), lv_has ls 7 [(0, .ref h0), (1, .ref k9), (2, .int l2), (3, .ref p3), (4, .int l4)] → W p l e (headSpec wsX4_strikeByClue ({ frames := 2, cells := 0, slots := 0, locals := 49 } : Room)).room s m ([.ref h0, .ref k9] : List Value).toArray below meth c H locs 0 0 (MQ below (va_Qi (fun (r : Int32) (u : Int32 × (Nat → Int32) × (Nat → Int32)) => Q r u.1 u.2.1 u.2.2) (BM g (fun u : Int32 × (Nat → Int32) × (Nat → Int32) => [(h0, .inr (4, [.ref h0p, .ref h0t, .int u.1, .int h0_solved])), (h0p, .inl (g.2.1, 16, .inl u.2.1)), (h0t, .inl (g.2.1, 256, .inl u.2.2)), (k9, .inr (2, [.ref k9r, .int k9_size])), (k9r, .inl (g.2.2.2.1, 12, .inr (.inr (.inr (.inr k9_row)))))]) A) A) ([.ref h0, .ref k9] : List Value).toArray s 0 0 A) (F0 m 20 ls []) := by
    intro K2 hK2 l2 p3 l4 h0_size h0_pl h0_st hw
    obtain ⟨I20, mu20, hI, hstep⟩ := hw
    have key : ∀ (n : Nat) (l2 : Int32) (p3 : Nat) (l4 : Int32) (h0_size : Int32) (h0_pl : Nat → Int32) (h0_st : Nat → Int32), mu20 l2 p3 l4 h0_size h0_pl h0_st < n → I20 l2 p3 l4 h0_size h0_pl h0_st → ∀ (H : Heap) (locs : List Loc), PP g [(h0, .inr (4, [.ref h0p, .ref h0t, .int h0_size, .int h0_solved])), (h0p, .inl (g.2.1, 16, .inl h0_pl)), (h0t, .inl (g.2.1, 256, .inl h0_st)), (k9, .inr (2, [.ref k9r, .int k9_size])), (k9r, .inl (g.2.2.2.1, 12, .inr (.inr (.inr (.inr k9_row)))))] H → va_D A [(h0, .inr (4, [.ref h0p, .ref h0t, .int h0_size, .int h0_solved])), (h0p, .inl (g.2.1, 16, .inl h0_pl)), (h0t, .inl (g.2.1, 256, .inl h0_st)), (k9, .inr (2, [.ref k9r, .int k9_size])), (k9r, .inl (g.2.2.2.1, 12, .inr (.inr (.inr (.inr k9_row)))))] → va_S A s.heap H locs → ∀ (ls : Array Slot), lv_has ls 7 [(0, .ref h0), (1, .ref k9), (2, .int l2), (3, .ref p3), (4, .int l4)] → W p l e (headSpec wsX4_strikeByClue ({ frames := 2, cells := 0, slots := 0, locals := 49 } : Room)).room s m ([.ref h0, .ref k9] : List Value).toArray below meth c H locs 0 0 (MQ below (va_Qi (fun (r : Int32) (u : Int32 × (Nat → Int32) × (Nat → Int32)) => Q r u.1 u.2.1 u.2.2) (BM g (fun u : Int32 × (Nat → Int32) × (Nat → Int32) => [(h0, .inr (4, [.ref h0p, .ref h0t, .int u.1, .int h0_solved])), (h0p, .inl (g.2.1, 16, .inl u.2.1)), (h0t, .inl (g.2.1, 256, .inl u.2.2)), (k9, .inr (2, [.ref k9r, .int k9_size])), (k9r, .inl (g.2.2.2.1, 12, .inr (.inr (.inr (.inr k9_row)))))]) A) A) ([.ref h0, .ref k9] : List Value).toArray s 0 0 A) (F0 m 20 ls []) := by
      intro n
      induction n with
      | zero => intro l2 p3 l4 h0_size h0_pl h0_st h; exact absurd h (Nat.not_lt_zero _)
      | succ n ih =>
          intro l2 p3 l4 h0_size h0_pl h0_st hn hI  H locs hP hD hS ls hl
          have hw := hstep l2 p3 l4 h0_size h0_pl h0_st hI
          have hK20 : ∀ (l2' : Int32) (p3' : Nat) (l4' : Int32) (h0_size' : Int32) (h0_pl' : Nat → Int32) (h0_st' : Nat → Int32), (I20 l2' p3' l4' h0_size' h0_pl' h0_st' ∧ mu20 l2' p3' l4' h0_size' h0_pl' h0_st' < mu20 l2 p3 l4 h0_size h0_pl h0_st) → ∀ (H : Heap) (locs : List Loc), PP g [(h0, .inr (4, [.ref h0p, .ref h0t, .int h0_size', .int h0_solved])), (h0p, .inl (g.2.1, 16, .inl h0_pl')), (h0t, .inl (g.2.1, 256, .inl h0_st')), (k9, .inr (2, [.ref k9r, .int k9_size])), (k9r, .inl (g.2.2.2.1, 12, .inr (.inr (.inr (.inr k9_row)))))] H → va_D A [(h0, .inr (4, [.ref h0p, .ref h0t, .int h0_size', .int h0_solved])), (h0p, .inl (g.2.1, 16, .inl h0_pl')), (h0t, .inl (g.2.1, 256, .inl h0_st')), (k9, .inr (2, [.ref k9r, .int k9_size])), (k9r, .inl (g.2.2.2.1, 12, .inr (.inr (.inr (.inr k9_row)))))] → va_S A s.heap H locs → ∀ (ls : Array Slot), lv_has ls 7 [(0, .ref h0), (1, .ref k9), (2, .int l2'), (3, .ref p3'), (4, .int l4')] → W p l e (headSpec wsX4_strikeByClue ({ frames := 2, cells := 0, slots := 0, locals := 49 } : Room)).room s m ([.ref h0, .ref k9] : List Value).toArray below meth c H locs 0 0 (MQ below (va_Qi (fun (r : Int32) (u : Int32 × (Nat → Int32) × (Nat → Int32)) => Q r u.1 u.2.1 u.2.2) (BM g (fun u : Int32 × (Nat → Int32) × (Nat → Int32) => [(h0, .inr (4, [.ref h0p, .ref h0t, .int u.1, .int h0_solved])), (h0p, .inl (g.2.1, 16, .inl u.2.1)), (h0t, .inl (g.2.1, 256, .inl u.2.2)), (k9, .inr (2, [.ref k9r, .int k9_size])), (k9r, .inl (g.2.2.2.1, 12, .inr (.inr (.inr (.inr k9_row)))))]) A) A) ([.ref h0, .ref k9] : List Value).toArray s 0 0 A) (F0 m 20 ls []) := fun l2' p3' l4' h0_size' h0_pl' h0_st' h => ih l2' p3' l4' h0_size' h0_pl' h0_st' (Nat.lt_of_lt_of_le h.2 (Nat.le_of_lt_succ hn)) h.1
          refine lv_iload hx hb dX4_strikeByClue_20 (lv_at hl 4 rfl) ?_
          refine lv_aload_n hx hb dX4_strikeByClue_22 rfl (lv_at hl 3 rfl) ?_
          obtain ⟨hp3, hw⟩ := hw
          refine kp_V (As := []) (rest := [.int l4]) (wc := [clO pv p3]) (cq := (RX1, TX1, 9)) ⟨hx, hb, hml, hown, hts⟩ (m_X1_items l g hok (h0 := p3) (h0w := (pv.2.2.1 p3)) (h0_kind := (pv.2.1 p3 0)) (h0_x := (pv.2.1 p3 1)) (h0_y := (pv.2.1 p3 2)) (h0_z := (pv.2.1 p3 3)) (h0_place := (pv.2.1 p3 4)) (h0_top := (pv.2.1 p3 5)) (h0_low := (pv.2.1 p3 6)) (h0_high := (pv.2.1 p3 7)) hw) (cwV 0 hts gX4_strikeByClue_X1_items rfl rfl rfl hd_X1_items ⟨Nat.le_of_ble_eq_true rfl, Nat.le_of_ble_eq_true rfl⟩) hok hK (pool_O hro hS hp3) hro hS hA 0 1 rfl rfl rfl hl.1 rfl (Nat.le_of_ble_eq_true rfl) dX4_strikeByClue_23 ⟨Nat.le_of_ble_eq_true rfl, Nat.le_of_ble_eq_true rfl⟩ (fun r4 hw => ?_)
          refine lv_icmp_ge (tgt := 82) hx hb dX4_strikeByClue_26 (by decide) (fun c5 => ?_) (fun c5 => ?_)
          · replace hw := hw.1 c5
            refine lv_iinc (v := (l2 + 1)) (lv' := [(2, .int (l2 + 1)), (0, .ref h0), (1, .ref k9), (3, .ref p3), (4, .int l4)]) hx hb dX4_strikeByClue_82 hl (k := 2) rfl rfl (by decide) rfl (fun ls hl => ?_)
            refine lv_goto (tgt := 2) hx hb dX4_strikeByClue_85 (by decide) ?_
            exact hK2 (l2 + 1) h0_size h0_pl h0_st hw  _ _ hP hD hS ls (lv_sub hl [1, 2, 0] rfl)
          · replace hw := hw.2 c5
            refine lv_aload_n hx hb dX4_strikeByClue_29 rfl (lv_at hl 3 rfl) ?_
            refine lv_iload hx hb dX4_strikeByClue_30 (lv_at hl 4 rfl) ?_
            refine kp_V (As := [.int l4]) (rest := []) (wc := [clO pv p3]) (cq := (RX1, TX1, 9)) ⟨hx, hb, hml, hown, hts⟩ (m_X1_itemAt l g hok (h0 := p3) (h0w := (pv.2.2.1 p3)) (h0_kind := (pv.2.1 p3 0)) (h0_x := (pv.2.1 p3 1)) (h0_y := (pv.2.1 p3 2)) (h0_z := (pv.2.1 p3 3)) (h0_place := (pv.2.1 p3 4)) (h0_top := (pv.2.1 p3 5)) (h0_low := (pv.2.1 p3 6)) (h0_high := (pv.2.1 p3 7)) (x1 := l4) hw) (cwV 1 hts gX4_strikeByClue_X1_itemAt rfl rfl rfl hd_X1_itemAt ⟨Nat.le_of_ble_eq_true rfl, Nat.le_of_ble_eq_true rfl⟩) hok hK (pool_O hro hS hp3) hro hS hA 0 1 rfl rfl rfl hl.1 rfl (Nat.le_of_ble_eq_true rfl) dX4_strikeByClue_32 ⟨Nat.le_of_ble_eq_true rfl, Nat.le_of_ble_eq_true rfl⟩ (fun r6 hw => ?_)
            refine lv_istore (lv' := [(5, .int r6), (0, .ref h0), (1, .ref k9), (2, .int l2), (3, .ref p3), (4, .int l4)]) hx hb dX4_strikeByClue_35 hl (by decide) rfl (fun ls hl => ?_)
            refine lv_aload_n hx hb dX4_strikeByClue_37 rfl (lv_at hl 1 rfl) ?_
            refine va_get (D := g.1) (ci := 4) (v := .ref h0p) (C := RX4) (T := TX4) (N := 4) hx hb hts hinX4 hown hK hP 0 rfl rfl 0 (by decide) lk4 (fun _ h9 => h9) rfl dX4_strikeByClue_38 ?_
            refine lv_iload hx hb dX4_strikeByClue_41 (lv_at hl 0 rfl) ?_
            obtain ⟨hi, hw⟩ := hw
            refine va_iald hx hb hK hP 1 0 rfl rfl hi dX4_strikeByClue_43 ?_
            refine lv_aload_n hx hb dX4_strikeByClue_44 rfl (lv_at hl 1 rfl) ?_
            refine lv_aload_n hx hb dX4_strikeByClue_45 rfl (lv_at hl 4 rfl) ?_
            refine lv_iload hx hb dX4_strikeByClue_46 (lv_at hl 5 rfl) ?_
            refine kp_V (As := [.ref p3, .int l4]) (rest := [.int (h0_pl r6.toNatClampNeg)]) (wc := [(h0, .inr (4, [.ref h0p, .ref h0t, .int h0_size, .int h0_solved])), (h0p, .inl (g.2.1, 16, .inl h0_pl)), (h0t, .inl (g.2.1, 256, .inl h0_st))]) (cq := (RX4, TX4, 4)) ⟨hx, hb, hml, hown, hts⟩ (m_X4_supported l g (tb := tb) (pv := pv) (h0 := h0) (h0p := h0p) (h0t := h0t) (h0_size := h0_size) (h0_solved := h0_solved) (h0_pl := h0_pl) (h0_st := h0_st) (x1 := p3) (x2 := l4) hw) (cwV 2 hts gX4_strikeByClue_X4_supported rfl rfl rfl hd_X4_supported ⟨Nat.le_of_ble_eq_true rfl, Nat.le_of_ble_eq_true rfl⟩) hok hK (hP.sub (ws' := [(h0, .inr (4, [.ref h0p, .ref h0t, .int h0_size, .int h0_solved])), (h0p, .inl (g.2.1, 16, .inl h0_pl)), (h0t, .inl (g.2.1, 256, .inl h0_st))]) [0, 1, 2] rfl) hro hS hA 0 4 rfl rfl rfl hl.1 rfl (Nat.le_of_ble_eq_true rfl) dX4_strikeByClue_48 ⟨Nat.le_of_ble_eq_true rfl, Nat.le_of_ble_eq_true rfl⟩ (fun r7 hw => ?_)
            refine lv_iconst (v := (-1)) hx hb dX4_strikeByClue_51 (by decide) ?_
            refine lv_ixor hx hb dX4_strikeByClue_52 ?_
            refine lv_iand hx hb dX4_strikeByClue_53 ?_
            refine lv_topi (fun w8 ew8 => ?_)
            have hw := hw w8 ew8
            refine lv_istore (lv' := [(6, .int w8), (5, .int r6), (0, .ref h0), (1, .ref k9), (2, .int l2), (3, .ref p3), (4, .int l4)]) hx hb dX4_strikeByClue_54 hl (by decide) rfl (fun ls hl => ?_)
            refine lv_iload hx hb dX4_strikeByClue_56 (lv_at hl 0 rfl) ?_
            refine lv_if_eq (tgt := 76) hx hb dX4_strikeByClue_58 (by decide) (fun c9 => ?_) (fun c9 => ?_)
            · replace hw := hw.1 c9
              refine lv_iinc (v := (l4 + 1)) (lv' := [(4, .int (l4 + 1)), (6, .int w8), (5, .int r6), (0, .ref h0), (1, .ref k9), (2, .int l2), (3, .ref p3)]) hx hb dX4_strikeByClue_76 hl (k := 6) rfl rfl (by decide) rfl (fun ls hl => ?_)
              refine lv_goto (tgt := 20) hx hb dX4_strikeByClue_79 (by decide) ?_
              exact hK20 l2 p3 (l4 + 1) h0_size h0_pl h0_st hw  _ _ hP hD hS ls (lv_sub hl [3, 4, 5, 6, 0] rfl)
            · replace hw := hw.2 c9
              refine lv_aload_n hx hb dX4_strikeByClue_61 rfl (lv_at hl 2 rfl) ?_
              refine lv_iconst (v := 0) hx hb dX4_strikeByClue_62 (by decide) ?_
              refine lv_iload_n hx hb dX4_strikeByClue_63 rfl (lv_at hl 4 rfl) ?_
              refine lv_iload hx hb dX4_strikeByClue_64 (lv_at hl 1 rfl) ?_
              refine lv_iload hx hb dX4_strikeByClue_66 (lv_at hl 0 rfl) ?_
              refine kp_S (As := [.int w8]) (rest := [.int r6, .int l2, .int 0, .ref h0]) (wc := []) ⟨hx, hb, hml, hown, hts⟩ (m_X4_firstOf l g hok (x1 := w8) hw) (va_cwS 1 hts gX4_strikeByClue_X4_firstOf rfl rfl rfl hd_X4_firstOf ⟨Nat.le_of_ble_eq_true rfl, Nat.le_of_ble_eq_true rfl⟩) hok hK PP_nil hro hS hA rfl hl.1 rfl (Nat.le_of_ble_eq_true rfl) dX4_strikeByClue_68 ⟨Nat.le_of_ble_eq_true rfl, Nat.le_of_ble_eq_true rfl⟩ (fun r10 hw => ?_)
              refine kn_Vv (As := [.int 0, .int l2, .int r6, .int r10]) (rest := []) (wc := [(h0, .inr (4, [.ref h0p, .ref h0t, .int h0_size, .int h0_solved])), (h0p, .inl (g.2.1, 16, .inl h0_pl)), (h0t, .inl (g.2.1, 256, .inl h0_st))]) (wr := [(k9, .inr (2, [.ref k9r, .int k9_size])), (k9r, .inl (g.2.2.2.1, 12, .inr (.inr (.inr (.inr k9_row)))))]) (cq := (RX4, TX4, 4)) ⟨hx, hb, hml, hown, hts⟩ (m_X4_strike l g hok (h0 := h0) (h0p := h0p) (h0t := h0t) (h0_size := h0_size) (h0_solved := h0_solved) (h0_pl := h0_pl) (h0_st := h0_st) (x1 := 0) (x2 := l2) (x3 := r6) (x4 := r10) hw) (cwV 4 hts gX4_strikeByClue_X4_strike rfl rfl rfl hd_X4_strike ⟨Nat.le_of_ble_eq_true rfl, Nat.le_of_ble_eq_true rfl⟩) hok hK hP hD hS hA (ro_pass hok hro hS (va_free (wc := [(h0, .inr (4, [.ref h0p, .ref h0t, .int h0_size, .int h0_solved])), (h0p, .inl (g.2.1, 16, .inl h0_pl)), (h0t, .inl (g.2.1, 256, .inl h0_st))]) hD hS hA [0, 1, 2] rfl)) [0, 1, 2] [3, 4] rfl rfl (by decide) (by decide) (by decide) (va_recv hK hP (ci := 4) (q0 := 0) rfl rfl) rfl hl.1 rfl (Nat.le_of_ble_eq_true rfl) dX4_strikeByClue_71 ⟨Nat.le_of_ble_eq_true rfl, Nat.le_of_ble_eq_true rfl⟩ (fun u H locs hw hP hD hS => ?_)
              obtain ⟨w11, w12, w13⟩ := u
              have hP : PP g [(k9, .inr (2, [.ref k9r, .int k9_size])), (k9r, .inl (g.2.2.2.1, 12, .inr (.inr (.inr (.inr k9_row))))), (h0, .inr (4, [.ref h0p, .ref h0t, .int w11, .int h0_solved])), (h0p, .inl (g.2.1, 16, .inl w12)), (h0t, .inl (g.2.1, 256, .inl w13))] H := hP
              have hD : va_D A [(k9, .inr (2, [.ref k9r, .int k9_size])), (k9r, .inl (g.2.2.2.1, 12, .inr (.inr (.inr (.inr k9_row))))), (h0, .inr (4, [.ref h0p, .ref h0t, .int w11, .int h0_solved])), (h0p, .inl (g.2.1, 16, .inl w12)), (h0t, .inl (g.2.1, 256, .inl w13))] := hD
              refine lv_iconst (v := 1) hx hb dX4_strikeByClue_74 (by decide) ?_
              have hP := hP.sub (ws' := [(h0, .inr (4, [.ref h0p, .ref h0t, .int w11, .int h0_solved])), (h0p, .inl (g.2.1, 16, .inl w12)), (h0t, .inl (g.2.1, 256, .inl w13)), (k9, .inr (2, [.ref k9r, .int k9_size])), (k9r, .inl (g.2.2.2.1, 12, .inr (.inr (.inr (.inr k9_row)))))]) [2, 3, 4, 0, 1] rfl
              have hD := hD.sub (ws' := [(h0, .inr (4, [.ref h0p, .ref h0t, .int w11, .int h0_solved])), (h0p, .inl (g.2.1, 16, .inl w12)), (h0t, .inl (g.2.1, 256, .inl w13)), (k9, .inr (2, [.ref k9r, .int k9_size])), (k9r, .inl (g.2.2.2.1, 12, .inr (.inr (.inr (.inr k9_row)))))]) [2, 3, 4, 0, 1] (by decide) rfl
              exact W.zret hx hb hr (zb_nar zb1) (fun t ht hW => ⟨⟨1, (w11, w12, w13), rfl, hw, by rw [ht]; exact hP, va_K.moved hW.alike hK, hD⟩, hS.F ht⟩) hS.2.2 dX4_strikeByClue_75
    exact key _ l2 p3 l4 h0_size h0_pl h0_st (Nat.lt_succ_self _) hI
  have B2 : ∀ (l2 : Int32) (h0_size : Int32) (h0_pl : Nat → Int32) (h0_st : Nat → Int32), wp_X4_strikeByClue_2 Q pv k9_size k9_row  l2 h0_size h0_pl h0_st → ∀ (H : Heap) (locs : List Loc), PP g [(h0, .inr (4, [.ref h0p, .ref h0t, .int h0_size, .int h0_solved])), (h0p, .inl (g.2.1, 16, .inl h0_pl)), (h0t, .inl (g.2.1, 256, .inl h0_st)), (k9, .inr (2, [.ref k9r, .int k9_size])), (k9r, .inl (g.2.2.2.1, 12, .inr (.inr (.inr (.inr k9_row)))))] H → va_D A [(h0, .inr (4, [.ref h0p, .ref h0t, .int h0_size, .int h0_solved])), (h0p, .inl (g.2.1, 16, .inl h0_pl)), (h0t, .inl (g.2.1, 256, .inl h0_st)), (k9, .inr (2, [.ref k9r, .int k9_size])), (k9r, .inl (g.2.2.2.1, 12, .inr (.inr (.inr (.inr k9_row)))))] → va_S A s.heap H locs → ∀ (ls : Array Slot), lv_has ls 7 [(0, .ref h0), (1, .ref k9), (2, .int l2)] → W p l e (headSpec wsX4_strikeByClue ({ frames := 2, cells := 0, slots := 0, locals := 49 } : Room)).room s m ([.ref h0, .ref k9] : List Value).toArray below meth c H locs 0 0 (MQ below (va_Qi (fun (r : Int32) (u : Int32 × (Nat → Int32) × (Nat → Int32)) => Q r u.1 u.2.1 u.2.2) (BM g (fun u : Int32 × (Nat → Int32) × (Nat → Int32) => [(h0, .inr (4, [.ref h0p, .ref h0t, .int u.1, .int h0_solved])), (h0p, .inl (g.2.1, 16, .inl u.2.1)), (h0t, .inl (g.2.1, 256, .inl u.2.2)), (k9, .inr (2, [.ref k9r, .int k9_size])), (k9r, .inl (g.2.2.2.1, 12, .inr (.inr (.inr (.inr k9_row)))))]) A) A) ([.ref h0, .ref k9] : List Value).toArray s 0 0 A) (F0 m 2 ls []) := by
    intro  l2 h0_size h0_pl h0_st hw
    obtain ⟨I2, mu2, hI, hstep⟩ := hw
    have key : ∀ (n : Nat) (l2 : Int32) (h0_size : Int32) (h0_pl : Nat → Int32) (h0_st : Nat → Int32), mu2 l2 h0_size h0_pl h0_st < n → I2 l2 h0_size h0_pl h0_st → ∀ (H : Heap) (locs : List Loc), PP g [(h0, .inr (4, [.ref h0p, .ref h0t, .int h0_size, .int h0_solved])), (h0p, .inl (g.2.1, 16, .inl h0_pl)), (h0t, .inl (g.2.1, 256, .inl h0_st)), (k9, .inr (2, [.ref k9r, .int k9_size])), (k9r, .inl (g.2.2.2.1, 12, .inr (.inr (.inr (.inr k9_row)))))] H → va_D A [(h0, .inr (4, [.ref h0p, .ref h0t, .int h0_size, .int h0_solved])), (h0p, .inl (g.2.1, 16, .inl h0_pl)), (h0t, .inl (g.2.1, 256, .inl h0_st)), (k9, .inr (2, [.ref k9r, .int k9_size])), (k9r, .inl (g.2.2.2.1, 12, .inr (.inr (.inr (.inr k9_row)))))] → va_S A s.heap H locs → ∀ (ls : Array Slot), lv_has ls 7 [(0, .ref h0), (1, .ref k9), (2, .int l2)] → W p l e (headSpec wsX4_strikeByClue ({ frames := 2, cells := 0, slots := 0, locals := 49 } : Room)).room s m ([.ref h0, .ref k9] : List Value).toArray below meth c H locs 0 0 (MQ below (va_Qi (fun (r : Int32) (u : Int32 × (Nat → Int32) × (Nat → Int32)) => Q r u.1 u.2.1 u.2.2) (BM g (fun u : Int32 × (Nat → Int32) × (Nat → Int32) => [(h0, .inr (4, [.ref h0p, .ref h0t, .int u.1, .int h0_solved])), (h0p, .inl (g.2.1, 16, .inl u.2.1)), (h0t, .inl (g.2.1, 256, .inl u.2.2)), (k9, .inr (2, [.ref k9r, .int k9_size])), (k9r, .inl (g.2.2.2.1, 12, .inr (.inr (.inr (.inr k9_row)))))]) A) A) ([.ref h0, .ref k9] : List Value).toArray s 0 0 A) (F0 m 2 ls []) := by
      intro n
      induction n with
      | zero => intro l2 h0_size h0_pl h0_st h; exact absurd h (Nat.not_lt_zero _)
      | succ n ih =>
          intro l2 h0_size h0_pl h0_st hn hI  H locs hP hD hS ls hl
          have hw := hstep l2 h0_size h0_pl h0_st hI
          have hK2 : ∀ (l2' : Int32) (h0_size' : Int32) (h0_pl' : Nat → Int32) (h0_st' : Nat → Int32), (I2 l2' h0_size' h0_pl' h0_st' ∧ mu2 l2' h0_size' h0_pl' h0_st' < mu2 l2 h0_size h0_pl h0_st) → ∀ (H : Heap) (locs : List Loc), PP g [(h0, .inr (4, [.ref h0p, .ref h0t, .int h0_size', .int h0_solved])), (h0p, .inl (g.2.1, 16, .inl h0_pl')), (h0t, .inl (g.2.1, 256, .inl h0_st')), (k9, .inr (2, [.ref k9r, .int k9_size])), (k9r, .inl (g.2.2.2.1, 12, .inr (.inr (.inr (.inr k9_row)))))] H → va_D A [(h0, .inr (4, [.ref h0p, .ref h0t, .int h0_size', .int h0_solved])), (h0p, .inl (g.2.1, 16, .inl h0_pl')), (h0t, .inl (g.2.1, 256, .inl h0_st')), (k9, .inr (2, [.ref k9r, .int k9_size])), (k9r, .inl (g.2.2.2.1, 12, .inr (.inr (.inr (.inr k9_row)))))] → va_S A s.heap H locs → ∀ (ls : Array Slot), lv_has ls 7 [(0, .ref h0), (1, .ref k9), (2, .int l2')] → W p l e (headSpec wsX4_strikeByClue ({ frames := 2, cells := 0, slots := 0, locals := 49 } : Room)).room s m ([.ref h0, .ref k9] : List Value).toArray below meth c H locs 0 0 (MQ below (va_Qi (fun (r : Int32) (u : Int32 × (Nat → Int32) × (Nat → Int32)) => Q r u.1 u.2.1 u.2.2) (BM g (fun u : Int32 × (Nat → Int32) × (Nat → Int32) => [(h0, .inr (4, [.ref h0p, .ref h0t, .int u.1, .int h0_solved])), (h0p, .inl (g.2.1, 16, .inl u.2.1)), (h0t, .inl (g.2.1, 256, .inl u.2.2)), (k9, .inr (2, [.ref k9r, .int k9_size])), (k9r, .inl (g.2.2.2.1, 12, .inr (.inr (.inr (.inr k9_row)))))]) A) A) ([.ref h0, .ref k9] : List Value).toArray s 0 0 A) (F0 m 2 ls []) := fun l2' h0_size' h0_pl' h0_st' h => ih l2' h0_size' h0_pl' h0_st' (Nat.lt_of_lt_of_le h.2 (Nat.le_of_lt_succ hn)) h.1
          refine lv_iload_n hx hb dX4_strikeByClue_2 rfl (lv_at hl 2 rfl) ?_
          refine lv_aload_n hx hb dX4_strikeByClue_3 rfl (lv_at hl 1 rfl) ?_
          refine va_get (D := g.1) (ci := 2) (v := .int k9_size) (C := RX2) (T := TX2) (N := 2) hx hb hts hinX2 hown hK hP 3 rfl rfl 1 (by decide) lk1 (fun _ h9 => h9) rfl dX4_strikeByClue_4 ?_
          refine lv_icmp_ge (tgt := 88) hx hb dX4_strikeByClue_7 (by decide) (fun c1 => ?_) (fun c1 => ?_)
          · replace hw := hw.1 c1
            refine lv_iconst (v := 0) hx hb dX4_strikeByClue_88 (by decide) ?_
            exact W.zret hx hb hr (zb_nar zb0) (fun t ht hW => ⟨⟨0, (h0_size, h0_pl, h0_st), rfl, hw, by rw [ht]; exact hP, va_K.moved hW.alike hK, hD⟩, hS.F ht⟩) hS.2.2 dX4_strikeByClue_89
          · replace hw := hw.2 c1
            refine lv_aload_n hx hb dX4_strikeByClue_10 rfl (lv_at hl 1 rfl) ?_
            refine va_get (D := g.1) (ci := 2) (v := .ref k9r) (C := RX2) (T := TX2) (N := 2) hx hb hts hinX2 hown hK hP 3 rfl rfl 0 (by decide) lk3 (fun _ h9 => h9) rfl dX4_strikeByClue_11 ?_
            refine lv_iload_n hx hb dX4_strikeByClue_14 rfl (lv_at hl 2 rfl) ?_
            obtain ⟨hi, hw⟩ := hw
            obtain ⟨a2, ea2, hw⟩ := hw
            refine va_aldq hx hb hK hP 4 2 rfl rfl hi dX4_strikeByClue_15 ?_
            rw [ea2]
            refine W.eq (g2 := F0 m 16 ls [.ref a2]) rfl ?_
            refine lv_astore_n (lv' := [(3, .ref a2), (0, .ref h0), (1, .ref k9), (2, .int l2)]) hx hb dX4_strikeByClue_16 rfl hl (by decide) rfl (fun ls hl => ?_)
            refine lv_iconst (v := 0) hx hb dX4_strikeByClue_17 (by decide) ?_
            refine lv_istore (lv' := [(4, .int 0), (3, .ref a2), (0, .ref h0), (1, .ref k9), (2, .int l2)]) hx hb dX4_strikeByClue_18 hl (by decide) rfl (fun ls hl => ?_)
            exact B20 (fun l2' h0_size' h0_pl' h0_st' => I2 l2' h0_size' h0_pl' h0_st' ∧ mu2 l2' h0_size' h0_pl' h0_st' < mu2 l2 h0_size h0_pl h0_st) hK2 l2 a2 0 h0_size h0_pl h0_st hw  _ _ hP hD hS ls (lv_sub hl [2, 3, 4, 1, 0] rfl)
    exact key _ l2 h0_size h0_pl h0_st (Nat.lt_succ_self _) hI
  have hl := lv_entry ([.ref h0, .ref k9]) (n := 7) (Nat.le_of_ble_eq_true rfl)
  rw [lg_entry_eq]
  generalize (lg_sl ([.ref h0, .ref k9]) ++ List.replicate (7 - (lg_sl ([.ref h0, .ref k9])).length) Slot.unset).toArray = ls at hl ⊢
  have hl : lv_has ls 7 [(0, .ref h0), (1, .ref k9)] := hl
  unfold wp_X4_strikeByClue at hw
  refine lv_iconst (v := 0) hx hb dX4_strikeByClue_0 (by decide) ?_
  refine lv_istore_n (lv' := [(2, .int 0), (0, .ref h0), (1, .ref k9)]) hx hb dX4_strikeByClue_1 rfl hl (by decide) rfl (fun ls hl => ?_)
  exact B2  0 h0_size h0_pl h0_st hw  _ _ hP hD hS ls (lv_sub hl [1, 2, 0] rfl)

def wp_X4_strikeByOnlyPlace_29 (Q : Int32 → Int32 → (Nat → Int32) → (Nat → Int32) → Prop)  (K2 : Int32 → Int32 → (Nat → Int32) → (Nat → Int32) → Prop) (l1 : Int32) (l2 : Int32) (l3 : Int32) (h0_size : Int32) (h0_pl : Nat → Int32) (h0_st : Nat → Int32) : Prop :=
  ∃ (I29 : Int32 → Int32 → Int32 → Int32 → (Nat → Int32) → (Nat → Int32) → Prop) (mu29 : Int32 → Int32 → Int32 → Int32 → (Nat → Int32) → (Nat → Int32) → Nat), I29 l1 l2 l3 h0_size h0_pl h0_st ∧ ∀ (l1 : Int32) (l2 : Int32) (l3 : Int32) (h0_size : Int32) (h0_pl : Nat → Int32) (h0_st : Nat → Int32), I29 l1 l2 l3 h0_size h0_pl h0_st → (((l2 + 4) ≤ l3 → K2 (l1 + 1) h0_size h0_pl h0_st) ∧ (¬ ((l2 + 4) ≤ l3) → ((l3 = l1 → (I29 l1 l2 (l3 + 1) h0_size h0_pl h0_st ∧ mu29 l1 l2 (l3 + 1) h0_size h0_pl h0_st < mu29 l1 l2 l3 h0_size h0_pl h0_st)) ∧ (¬ (l3 = l1) → (vp_in l3 16 ∧ (vp_in l1 16 ∧ ((((h0_pl l3.toNatClampNeg) &&& (h0_pl l1.toNatClampNeg)) = 0 → (I29 l1 l2 (l3 + 1) h0_size h0_pl h0_st ∧ mu29 l1 l2 (l3 + 1) h0_size h0_pl h0_st < mu29 l1 l2 l3 h0_size h0_pl h0_st)) ∧ (¬ (((h0_pl l3.toNatClampNeg) &&& (h0_pl l1.toNatClampNeg)) = 0) → (vp_in l1 16 ∧ (wp_X4_firstOf (h0_pl l1.toNatClampNeg) (fun r8 => (wp_X4_strike 1 (-6) l3 r8 h0_size h0_pl h0_st (fun w9 w10 w11 => Q 1 w9 w10 w11)))))))))))))
def wp_X4_strikeByOnlyPlace_2 (Q : Int32 → Int32 → (Nat → Int32) → (Nat → Int32) → Prop)   (l1 : Int32) (h0_size : Int32) (h0_pl : Nat → Int32) (h0_st : Nat → Int32) : Prop :=
  ∃ (I2 : Int32 → Int32 → (Nat → Int32) → (Nat → Int32) → Prop) (mu2 : Int32 → Int32 → (Nat → Int32) → (Nat → Int32) → Nat), I2 l1 h0_size h0_pl h0_st ∧ ∀ (l1 : Int32) (h0_size : Int32) (h0_pl : Nat → Int32) (h0_st : Nat → Int32), I2 l1 h0_size h0_pl h0_st → ((16 ≤ l1 → Q 0 h0_size h0_pl h0_st) ∧ (¬ (16 ≤ l1) → (vp_in l1 16 ∧ (wp_J6_bitCount_0f7a4 (h0_pl l1.toNatClampNeg) (fun r2 => ((r2 = 1 → ∀ w4 : Int32, w4 = ((l1 / 4) * 4) → wp_X4_strikeByOnlyPlace_29 Q  (fun l1' h0_size' h0_pl' h0_st' => I2 l1' h0_size' h0_pl' h0_st' ∧ mu2 l1' h0_size' h0_pl' h0_st' < mu2 l1 h0_size h0_pl h0_st) l1 w4 w4 h0_size h0_pl h0_st) ∧ (¬ (r2 = 1) → (I2 (l1 + 1) h0_size h0_pl h0_st ∧ mu2 (l1 + 1) h0_size h0_pl h0_st < mu2 l1 h0_size h0_pl h0_st))))))))
def wp_X4_strikeByOnlyPlace (h0_size : Int32) (h0_pl : Nat → Int32) (h0_st : Nat → Int32) (Q : Int32 → Int32 → (Nat → Int32) → (Nat → Int32) → Prop) : Prop :=
  wp_X4_strikeByOnlyPlace_2 Q   0 h0_size h0_pl h0_st
theorem hd_X4_strikeByOnlyPlace : yX4_strikeByOnlyPlace.cls = RX4 ∧ yX4_strikeByOnlyPlace.cls ≠ "java/lang/invoke/MethodHandle" ∧ yX4_strikeByOnlyPlace.cls ≠ "java/lang/invoke/VarHandle" ∧ (parseMethodDescriptor yX4_strikeByOnlyPlace.desc).map (fun d => d.parameters.length) = some 0 := by decide +kernel
set_option maxHeartbeats 4000000 in
set_option maxRecDepth 100000 in
theorem m_X4_strikeByOnlyPlace (l : Launch) (g : GG) {ro : Ro} (hok : RoOK ro) {h0 h0p h0t : Nat} {h0_size : Int32} {h0_solved : Int32} {h0_pl : Nat → Int32} {h0_st : Nat → Int32} {sz : Nat} {Q : Int32 → Int32 → (Nat → Int32) → (Nat → Int32) → Prop} (hw : wp_X4_strikeByOnlyPlace h0_size h0_pl h0_st Q) : Met l yX4_strikeByOnlyPlace wsX4_strikeByOnlyPlace ({ frames := 2, cells := 0, slots := 0, locals := 41 } : Room) (PcM g ro [(h0, .inr (4, [.ref h0p, .ref h0t, .int h0_size, .int h0_solved])), (h0p, .inl (g.2.1, 16, .inl h0_pl)), (h0t, .inl (g.2.1, 256, .inl h0_st))] sz [.ref h0]) (va_Qi (fun (r : Int32) (u : Int32 × (Nat → Int32) × (Nat → Int32)) => Q r u.1 u.2.1 u.2.2) (BM g (fun u : Int32 × (Nat → Int32) × (Nat → Int32) => [(h0, .inr (4, [.ref h0p, .ref h0t, .int u.1, .int h0_solved])), (h0p, .inl (g.2.1, 16, .inl u.2.1)), (h0t, .inl (g.2.1, 256, .inl u.2.2))]) (va_A [(h0, .inr (4, [.ref h0p, .ref h0t, .int h0_size, .int h0_solved])), (h0p, .inl (g.2.1, 16, .inl h0_pl)), (h0t, .inl (g.2.1, 256, .inl h0_st))] sz)) (va_A [(h0, .inr (4, [.ref h0p, .ref h0t, .int h0_size, .int h0_solved])), (h0p, .inl (g.2.1, 16, .inl h0_pl)), (h0t, .inl (g.2.1, 256, .inl h0_st))] sz)) 0 0 (va_A [(h0, .inr (4, [.ref h0p, .ref h0t, .int h0_size, .int h0_solved])), (h0p, .inl (g.2.1, 16, .inl h0_pl)), (h0t, .inl (g.2.1, 256, .inl h0_st))] sz) := by
  refine Met.ofW (cc := cX4_strikeByOnlyPlace) (maxL := 4) (ret := (some .boolean)) (by decide) rfl ?_
  intro p e s m args below meth c s₁ B hml hv
  obtain ⟨rfl, hsz, hP, hK, hD0, hro⟩ := hv
  have hx := B.exec
  have hb := B.bytes
  have hr := B.returns
  have hts := atoms_spec (ws := wsX4_strikeByOnlyPlace) B.pre
  have hown : s.vm.findClass RX4 = some m.cls := findClass_of_methodNamed B.named
  have hlocks := B.notSynchronized
  subst hsz
  have hD := hD0.self (sz := s.heap.size)
  generalize hAe : va_A [(h0, .inr (4, [.ref h0p, .ref h0t, .int h0_size, .int h0_solved])), (h0p, .inl (g.2.1, 16, .inl h0_pl)), (h0t, .inl (g.2.1, 256, .inl h0_st))] s.heap.size = A at hD hro ⊢
  have hA : ∀ q : Nat, s.heap.size ≤ q → A q := fun q h => by rw [← hAe]; exact Or.inr h
  have hS : va_S A s.heap s.heap [] := va_S.rf
  have hP : PP g [(h0, .inr (4, [.ref h0p, .ref h0t, .int h0_size, .int h0_solved])), (h0p, .inl (g.2.1, 16, .inl h0_pl)), (h0t, .inl (g.2.1, 256, .inl h0_st))] s.heap := hP
  have lk1 := hts (.fieldLink RX4 9 "GridRiddles$Strikes" "places" "[I") (by decide +kernel)
  have hinX4 : ∀ w ∈ u_ws RX4 TX4 4, w ∈ wsX4_strikeByOnlyPlace := by decide +kernel
  have B29 : ∀ (K2 : Int32 → Int32 → (Nat → Int32) → (Nat → Int32) → Prop) (hK2 : ∀ (l1 : Int32) (h0_size : Int32) (h0_pl : Nat → Int32) (h0_st : Nat → Int32), K2 l1 h0_size h0_pl h0_st → ∀ (H : Heap) (locs : List Loc), PP g [(h0, .inr (4, [.ref h0p, .ref h0t, .int h0_size, .int h0_solved])), (h0p, .inl (g.2.1, 16, .inl h0_pl)), (h0t, .inl (g.2.1, 256, .inl h0_st))] H → va_D A [(h0, .inr (4, [.ref h0p, .ref h0t, .int h0_size, .int h0_solved])), (h0p, .inl (g.2.1, 16, .inl h0_pl)), (h0t, .inl (g.2.1, 256, .inl h0_st))] → va_S A s.heap H locs → ∀ (ls : Array Slot), lv_has ls 4 [(0, .ref h0), (1, .int l1)] → W p l e (headSpec wsX4_strikeByOnlyPlace ({ frames := 2, cells := 0, slots := 0, locals := 41 } : Room)).room s m ([.ref h0] : List Value).toArray below meth c H locs 0 0 (MQ below (va_Qi (fun (r : Int32) (u : Int32 × (Nat → Int32) × (Nat → Int32)) => Q r u.1 u.2.1 u.2.2) (BM g (fun u : Int32 × (Nat → Int32) × (Nat → Int32) => [(h0, .inr (4, [.ref h0p, .ref h0t, .int u.1, .int h0_solved])), (h0p, .inl (g.2.1, 16, .inl u.2.1)), (h0t, .inl (g.2.1, 256, .inl u.2.2))]) A) A) ([.ref h0] : List Value).toArray s 0 0 A) (F0 m 2 ls [])) (l1 : Int32) (l2 : Int32) (l3 : Int32) (h0_size : Int32) (h0_pl : Nat → Int32) (h0_st : Nat → Int32), wp_X4_strikeByOnlyPlace_29 Q  K2 l1 l2 l3 h0_size h0_pl h0_st → ∀ (H : Heap) (locs : List Loc), PP g [(h0, .inr (4, [.ref h0p, .ref h0t, .int h0_size, .int h0_solved])), (h0p, .inl (g.2.1, 16, .inl h0_pl)), (h0t, .inl (g.2.1, 256, .inl h0_st))] H → va_D A [(h0, .inr (4, [.ref h0p, .ref h0t, .int h0_size, .int h0_solved])), (h0p, .inl (g.2.1, 16, .inl h0_pl)), (h0t, .inl (g.2.1, 256, .inl h0_st))] → va_S A s.heap H locs → ∀ (ls : Array Slot), lv_has ls 4 [(0, .ref h0), (1, .int l1), (2, .int l2), (3, .int l3)] → W p l e (headSpec wsX4_strikeByOnlyPlace ({ frames := 2, cells := 0, slots := 0, locals := 41 } : Room)).room s m ([.ref h0] : List Value).toArray below meth c H locs 0 0 (MQ below (va_Qi (fun (r : Int32) (u : Int32 × (Nat → Int32) × (Nat → Int32)) => Q r u.1 u.2.1 u.2.2) (BM g (fun u : Int32 × (Nat → Int32) × (Nat → Int32) => [(h0, .inr (4, [.ref h0p, .ref h0t, .int u.1, .int h0_solved])), (h0p, .inl (g.2.1, 16, .inl u.2.1)), (h0t, .inl (g.2.1, 256, .inl u.2.2))]) A) A) ([.ref h0] : List Value).toArray s 0 0 A) (F0 m 29 ls []) := by
    intro K2 hK2 l1 l2 l3 h0_size h0_pl h0_st hw
    obtain ⟨I29, mu29, hI, hstep⟩ := hw
    have key : ∀ (n : Nat) (l1 : Int32) (l2 : Int32) (l3 : Int32) (h0_size : Int32) (h0_pl : Nat → Int32) (h0_st : Nat → Int32), mu29 l1 l2 l3 h0_size h0_pl h0_st < n → I29 l1 l2 l3 h0_size h0_pl h0_st → ∀ (H : Heap) (locs : List Loc), PP g [(h0, .inr (4, [.ref h0p, .ref h0t, .int h0_size, .int h0_solved])), (h0p, .inl (g.2.1, 16, .inl h0_pl)), (h0t, .inl (g.2.1, 256, .inl h0_st))] H → va_D A [(h0, .inr (4, [.ref h0p, .ref h0t, .int h0_size, .int h0_solved])), (h0p, .inl (g.2.1, 16, .inl h0_pl)), (h0t, .inl (g.2.1, 256, .inl h0_st))] → va_S A s.heap H locs → ∀ (ls : Array Slot), lv_has ls 4 [(0, .ref h0), (1, .int l1), (2, .int l2), (3, .int l3)] → W p l e (headSpec wsX4_strikeByOnlyPlace ({ frames := 2, cells := 0, slots := 0, locals := 41 } : Room)).room s m ([.ref h0] : List Value).toArray below meth c H locs 0 0 (MQ below (va_Qi (fun (r : Int32) (u : Int32 × (Nat → Int32) × (Nat → Int32)) => Q r u.1 u.2.1 u.2.2) (BM g (fun u : Int32 × (Nat → Int32) × (Nat → Int32) => [(h0, .inr (4, [.ref h0p, .ref h0t, .int u.1, .int h0_solved])), (h0p, .inl (g.2.1, 16, .inl u.2.1)), (h0t, .inl (g.2.1, 256, .inl u.2.2))]) A) A) ([.ref h0] : List Value).toArray s 0 0 A) (F0 m 29 ls []) := by
      intro n
      induction n with
      | zero => intro l1 l2 l3 h0_size h0_pl h0_st h; exact absurd h (Nat.not_lt_zero _)
      | succ n ih =>
          intro l1 l2 l3 h0_size h0_pl h0_st hn hI  H locs hP hD hS ls hl
          have hw := hstep l1 l2 l3 h0_size h0_pl h0_st hI
          have hK29 : ∀ (l1' : Int32) (l2' : Int32) (l3' : Int32) (h0_size' : Int32) (h0_pl' : Nat → Int32) (h0_st' : Nat → Int32), (I29 l1' l2' l3' h0_size' h0_pl' h0_st' ∧ mu29 l1' l2' l3' h0_size' h0_pl' h0_st' < mu29 l1 l2 l3 h0_size h0_pl h0_st) → ∀ (H : Heap) (locs : List Loc), PP g [(h0, .inr (4, [.ref h0p, .ref h0t, .int h0_size', .int h0_solved])), (h0p, .inl (g.2.1, 16, .inl h0_pl')), (h0t, .inl (g.2.1, 256, .inl h0_st'))] H → va_D A [(h0, .inr (4, [.ref h0p, .ref h0t, .int h0_size', .int h0_solved])), (h0p, .inl (g.2.1, 16, .inl h0_pl')), (h0t, .inl (g.2.1, 256, .inl h0_st'))] → va_S A s.heap H locs → ∀ (ls : Array Slot), lv_has ls 4 [(0, .ref h0), (1, .int l1'), (2, .int l2'), (3, .int l3')] → W p l e (headSpec wsX4_strikeByOnlyPlace ({ frames := 2, cells := 0, slots := 0, locals := 41 } : Room)).room s m ([.ref h0] : List Value).toArray below meth c H locs 0 0 (MQ below (va_Qi (fun (r : Int32) (u : Int32 × (Nat → Int32) × (Nat → Int32)) => Q r u.1 u.2.1 u.2.2) (BM g (fun u : Int32 × (Nat → Int32) × (Nat → Int32) => [(h0, .inr (4, [.ref h0p, .ref h0t, .int u.1, .int h0_solved])), (h0p, .inl (g.2.1, 16, .inl u.2.1)), (h0t, .inl (g.2.1, 256, .inl u.2.2))]) A) A) ([.ref h0] : List Value).toArray s 0 0 A) (F0 m 29 ls []) := fun l1' l2' l3' h0_size' h0_pl' h0_st' h => ih l1' l2' l3' h0_size' h0_pl' h0_st' (Nat.lt_of_lt_of_le h.2 (Nat.le_of_lt_succ hn)) h.1
          refine lv_iload_n hx hb dX4_strikeByOnlyPlace_29 rfl (lv_at hl 3 rfl) ?_
          refine lv_iload_n hx hb dX4_strikeByOnlyPlace_30 rfl (lv_at hl 2 rfl) ?_
          refine lv_iconst (v := 4) hx hb dX4_strikeByOnlyPlace_31 (by decide) ?_
          refine lv_iadd hx hb dX4_strikeByOnlyPlace_32 ?_
          refine lv_icmp_ge (tgt := 82) hx hb dX4_strikeByOnlyPlace_33 (by decide) (fun c5 => ?_) (fun c5 => ?_)
          · replace hw := hw.1 c5
            refine lv_iinc (v := (l1 + 1)) (lv' := [(1, .int (l1 + 1)), (0, .ref h0), (2, .int l2), (3, .int l3)]) hx hb dX4_strikeByOnlyPlace_82 hl (k := 1) rfl rfl (by decide) rfl (fun ls hl => ?_)
            refine lv_goto (tgt := 2) hx hb dX4_strikeByOnlyPlace_85 (by decide) ?_
            exact hK2 (l1 + 1) h0_size h0_pl h0_st hw  _ _ hP hD hS ls (lv_sub hl [1, 0] rfl)
          · replace hw := hw.2 c5
            refine lv_iload_n hx hb dX4_strikeByOnlyPlace_36 rfl (lv_at hl 3 rfl) ?_
            refine lv_iload_n hx hb dX4_strikeByOnlyPlace_37 rfl (lv_at hl 1 rfl) ?_
            refine lv_icmp_eq (tgt := 76) hx hb dX4_strikeByOnlyPlace_38 (by decide) (fun c6 => ?_) (fun c6 => ?_)
            · replace hw := hw.1 c6
              refine lv_iinc (v := (l3 + 1)) (lv' := [(3, .int (l3 + 1)), (0, .ref h0), (1, .int l1), (2, .int l2)]) hx hb dX4_strikeByOnlyPlace_76 hl (k := 3) rfl rfl (by decide) rfl (fun ls hl => ?_)
              refine lv_goto (tgt := 29) hx hb dX4_strikeByOnlyPlace_79 (by decide) ?_
              exact hK29 l1 l2 (l3 + 1) h0_size h0_pl h0_st hw  _ _ hP hD hS ls (lv_sub hl [1, 2, 3, 0] rfl)
            · replace hw := hw.2 c6
              refine lv_aload_n hx hb dX4_strikeByOnlyPlace_41 rfl (lv_at hl 0 rfl) ?_
              refine va_get (D := g.1) (ci := 4) (v := .ref h0p) (C := RX4) (T := TX4) (N := 4) hx hb hts hinX4 hown hK hP 0 rfl rfl 0 (by decide) lk1 (fun _ h9 => h9) rfl dX4_strikeByOnlyPlace_42 ?_
              refine lv_iload_n hx hb dX4_strikeByOnlyPlace_45 rfl (lv_at hl 3 rfl) ?_
              obtain ⟨hi, hw⟩ := hw
              refine va_iald hx hb hK hP 1 0 rfl rfl hi dX4_strikeByOnlyPlace_46 ?_
              refine lv_aload_n hx hb dX4_strikeByOnlyPlace_47 rfl (lv_at hl 0 rfl) ?_
              refine va_get (D := g.1) (ci := 4) (v := .ref h0p) (C := RX4) (T := TX4) (N := 4) hx hb hts hinX4 hown hK hP 0 rfl rfl 0 (by decide) lk1 (fun _ h9 => h9) rfl dX4_strikeByOnlyPlace_48 ?_
              refine lv_iload_n hx hb dX4_strikeByOnlyPlace_51 rfl (lv_at hl 1 rfl) ?_
              obtain ⟨hi, hw⟩ := hw
              refine va_iald hx hb hK hP 1 0 rfl rfl hi dX4_strikeByOnlyPlace_52 ?_
              refine lv_iand hx hb dX4_strikeByOnlyPlace_53 ?_
              refine lv_if_eq (tgt := 76) hx hb dX4_strikeByOnlyPlace_54 (by decide) (fun c7 => ?_) (fun c7 => ?_)
              · replace hw := hw.1 c7
                refine lv_iinc (v := (l3 + 1)) (lv' := [(3, .int (l3 + 1)), (0, .ref h0), (1, .int l1), (2, .int l2)]) hx hb dX4_strikeByOnlyPlace_76 hl (k := 3) rfl rfl (by decide) rfl (fun ls hl => ?_)
                refine lv_goto (tgt := 29) hx hb dX4_strikeByOnlyPlace_79 (by decide) ?_
                exact hK29 l1 l2 (l3 + 1) h0_size h0_pl h0_st hw  _ _ hP hD hS ls (lv_sub hl [1, 2, 3, 0] rfl)
              · replace hw := hw.2 c7
                refine lv_aload_n hx hb dX4_strikeByOnlyPlace_57 rfl (lv_at hl 0 rfl) ?_
                refine lv_iconst (v := 1) hx hb dX4_strikeByOnlyPlace_58 (by decide) ?_
                refine lv_bipush (v := (-6)) hx hb dX4_strikeByOnlyPlace_59 (by decide) ?_
                refine lv_iload_n hx hb dX4_strikeByOnlyPlace_61 rfl (lv_at hl 3 rfl) ?_
                refine lv_aload_n hx hb dX4_strikeByOnlyPlace_62 rfl (lv_at hl 0 rfl) ?_
                refine va_get (D := g.1) (ci := 4) (v := .ref h0p) (C := RX4) (T := TX4) (N := 4) hx hb hts hinX4 hown hK hP 0 rfl rfl 0 (by decide) lk1 (fun _ h9 => h9) rfl dX4_strikeByOnlyPlace_63 ?_
                refine lv_iload_n hx hb dX4_strikeByOnlyPlace_66 rfl (lv_at hl 1 rfl) ?_
                obtain ⟨hi, hw⟩ := hw
                refine va_iald hx hb hK hP 1 0 rfl rfl hi dX4_strikeByOnlyPlace_67 ?_
                refine kp_S (As := [.int (h0_pl l1.toNatClampNeg)]) (rest := [.int l3, .int (-6), .int 1, .ref h0]) (wc := []) ⟨hx, hb, hml, hown, hts⟩ (m_X4_firstOf l g hok (x1 := (h0_pl l1.toNatClampNeg)) hw) (va_cwS 1 hts gX4_strikeByOnlyPlace_X4_firstOf rfl rfl rfl hd_X4_firstOf ⟨Nat.le_of_ble_eq_true rfl, Nat.le_of_ble_eq_true rfl⟩) hok hK PP_nil hro hS hA rfl hl.1 rfl (Nat.le_of_ble_eq_true rfl) dX4_strikeByOnlyPlace_68 ⟨Nat.le_of_ble_eq_true rfl, Nat.le_of_ble_eq_true rfl⟩ (fun r8 hw => ?_)
                refine kn_Vv (As := [.int 1, .int (-6), .int l3, .int r8]) (rest := []) (wc := [(h0, .inr (4, [.ref h0p, .ref h0t, .int h0_size, .int h0_solved])), (h0p, .inl (g.2.1, 16, .inl h0_pl)), (h0t, .inl (g.2.1, 256, .inl h0_st))]) (wr := []) (cq := (RX4, TX4, 4)) ⟨hx, hb, hml, hown, hts⟩ (m_X4_strike l g hok (h0 := h0) (h0p := h0p) (h0t := h0t) (h0_size := h0_size) (h0_solved := h0_solved) (h0_pl := h0_pl) (h0_st := h0_st) (x1 := 1) (x2 := (-6)) (x3 := l3) (x4 := r8) hw) (cwV 4 hts gX4_strikeByOnlyPlace_X4_strike rfl rfl rfl hd_X4_strike ⟨Nat.le_of_ble_eq_true rfl, Nat.le_of_ble_eq_true rfl⟩) hok hK hP hD hS hA (ro_pass hok hro hS (va_free (wc := [(h0, .inr (4, [.ref h0p, .ref h0t, .int h0_size, .int h0_solved])), (h0p, .inl (g.2.1, 16, .inl h0_pl)), (h0t, .inl (g.2.1, 256, .inl h0_st))]) hD hS hA [0, 1, 2] rfl)) [0, 1, 2] [] rfl rfl (by decide) (by decide) (by decide) (va_recv hK hP (ci := 4) (q0 := 0) rfl rfl) rfl hl.1 rfl (Nat.le_of_ble_eq_true rfl) dX4_strikeByOnlyPlace_71 ⟨Nat.le_of_ble_eq_true rfl, Nat.le_of_ble_eq_true rfl⟩ (fun u H locs hw hP hD hS => ?_)
                obtain ⟨w9, w10, w11⟩ := u
                have hP : PP g [(h0, .inr (4, [.ref h0p, .ref h0t, .int w9, .int h0_solved])), (h0p, .inl (g.2.1, 16, .inl w10)), (h0t, .inl (g.2.1, 256, .inl w11))] H := hP
                have hD : va_D A [(h0, .inr (4, [.ref h0p, .ref h0t, .int w9, .int h0_solved])), (h0p, .inl (g.2.1, 16, .inl w10)), (h0t, .inl (g.2.1, 256, .inl w11))] := hD
                refine lv_iconst (v := 1) hx hb dX4_strikeByOnlyPlace_74 (by decide) ?_
                exact W.zret hx hb hr (zb_nar zb1) (fun t ht hW => ⟨⟨1, (w9, w10, w11), rfl, hw, by rw [ht]; exact hP, va_K.moved hW.alike hK, hD⟩, hS.F ht⟩) hS.2.2 dX4_strikeByOnlyPlace_75
    exact key _ l1 l2 l3 h0_size h0_pl h0_st (Nat.lt_succ_self _) hI
  have B2 : ∀ (l1 : Int32) (h0_size : Int32) (h0_pl : Nat → Int32) (h0_st : Nat → Int32), wp_X4_strikeByOnlyPlace_2 Q   l1 h0_size h0_pl h0_st → ∀ (H : Heap) (locs : List Loc), PP g [(h0, .inr (4, [.ref h0p, .ref h0t, .int h0_size, .int h0_solved])), (h0p, .inl (g.2.1, 16, .inl h0_pl)), (h0t, .inl (g.2.1, 256, .inl h0_st))] H → va_D A [(h0, .inr (4, [.ref h0p, .ref h0t, .int h0_size, .int h0_solved])), (h0p, .inl (g.2.1, 16, .inl h0_pl)), (h0t, .inl (g.2.1, 256, .inl h0_st))] → va_S A s.heap H locs → ∀ (ls : Array Slot), lv_has ls 4 [(0, .ref h0), (1, .int l1)] → W p l e (headSpec wsX4_strikeByOnlyPlace ({ frames := 2, cells := 0, slots := 0, locals := 41 } : Room)).room s m ([.ref h0] : List Value).toArray below meth c H locs 0 0 (MQ below (va_Qi (fun (r : Int32) (u : Int32 × (Nat → Int32) × (Nat → Int32)) => Q r u.1 u.2.1 u.2.2) (BM g (fun u : Int32 × (Nat → Int32) × (Nat → Int32) => [(h0, .inr (4, [.ref h0p, .ref h0t, .int u.1, .int h0_solved])), (h0p, .inl (g.2.1, 16, .inl u.2.1)), (h0t, .inl (g.2.1, 256, .inl u.2.2))]) A) A) ([.ref h0] : List Value).toArray s 0 0 A) (F0 m 2 ls []) := by
    intro  l1 h0_size h0_pl h0_st hw
    obtain ⟨I2, mu2, hI, hstep⟩ := hw
    have key : ∀ (n : Nat) (l1 : Int32) (h0_size : Int32) (h0_pl : Nat → Int32) (h0_st : Nat → Int32), mu2 l1 h0_size h0_pl h0_st < n → I2 l1 h0_size h0_pl h0_st → ∀ (H : Heap) (locs : List Loc), PP g [(h0, .inr (4, [.ref h0p, .ref h0t, .int h0_size, .int h0_solved])), (h0p, .inl (g.2.1, 16, .inl h0_pl)), (h0t, .inl (g.2.1, 256, .inl h0_st))] H → va_D A [(h0, .inr (4, [.ref h0p, .ref h0t, .int h0_size, .int h0_solved])), (h0p, .inl (g.2.1, 16, .inl h0_pl)), (h0t, .inl (g.2.1, 256, .inl h0_st))] → va_S A s.heap H locs → ∀ (ls : Array Slot), lv_has ls 4 [(0, .ref h0), (1, .int l1)] → W p l e (headSpec wsX4_strikeByOnlyPlace ({ frames := 2, cells := 0, slots := 0, locals := 41 } : Room)).room s m ([.ref h0] : List Value).toArray below meth c H locs 0 0 (MQ below (va_Qi (fun (r : Int32) (u : Int32 × (Nat → Int32) × (Nat → Int32)) => Q r u.1 u.2.1 u.2.2) (BM g (fun u : Int32 × (Nat → Int32) × (Nat → Int32) => [(h0, .inr (4, [.ref h0p, .ref h0t, .int u.1, .int h0_solved])), (h0p, .inl (g.2.1, 16, .inl u.2.1)), (h0t, .inl (g.2.1, 256, .inl u.2.2))]) A) A) ([.ref h0] : List Value).toArray s 0 0 A) (F0 m 2 ls []) := by
      intro n
      induction n with
      | zero => intro l1 h0_size h0_pl h0_st h; exact absurd h (Nat.not_lt_zero _)
      | succ n ih =>
          intro l1 h0_size h0_pl h0_st hn hI  H locs hP hD hS ls hl
          have hw := hstep l1 h0_size h0_pl h0_st hI
          have hK2 : ∀ (l1' : Int32) (h0_size' : Int32) (h0_pl' : Nat → Int32) (h0_st' : Nat → Int32), (I2 l1' h0_size' h0_pl' h0_st' ∧ mu2 l1' h0_size' h0_pl' h0_st' < mu2 l1 h0_size h0_pl h0_st) → ∀ (H : Heap) (locs : List Loc), PP g [(h0, .inr (4, [.ref h0p, .ref h0t, .int h0_size', .int h0_solved])), (h0p, .inl (g.2.1, 16, .inl h0_pl')), (h0t, .inl (g.2.1, 256, .inl h0_st'))] H → va_D A [(h0, .inr (4, [.ref h0p, .ref h0t, .int h0_size', .int h0_solved])), (h0p, .inl (g.2.1, 16, .inl h0_pl')), (h0t, .inl (g.2.1, 256, .inl h0_st'))] → va_S A s.heap H locs → ∀ (ls : Array Slot), lv_has ls 4 [(0, .ref h0), (1, .int l1')] → W p l e (headSpec wsX4_strikeByOnlyPlace ({ frames := 2, cells := 0, slots := 0, locals := 41 } : Room)).room s m ([.ref h0] : List Value).toArray below meth c H locs 0 0 (MQ below (va_Qi (fun (r : Int32) (u : Int32 × (Nat → Int32) × (Nat → Int32)) => Q r u.1 u.2.1 u.2.2) (BM g (fun u : Int32 × (Nat → Int32) × (Nat → Int32) => [(h0, .inr (4, [.ref h0p, .ref h0t, .int u.1, .int h0_solved])), (h0p, .inl (g.2.1, 16, .inl u.2.1)), (h0t, .inl (g.2.1, 256, .inl u.2.2))]) A) A) ([.ref h0] : List Value).toArray s 0 0 A) (F0 m 2 ls []) := fun l1' h0_size' h0_pl' h0_st' h => ih l1' h0_size' h0_pl' h0_st' (Nat.lt_of_lt_of_le h.2 (Nat.le_of_lt_succ hn)) h.1
          refine lv_iload_n hx hb dX4_strikeByOnlyPlace_2 rfl (lv_at hl 1 rfl) ?_
          refine lv_bipush (v := 16) hx hb dX4_strikeByOnlyPlace_3 (by decide) ?_
          refine lv_icmp_ge (tgt := 88) hx hb dX4_strikeByOnlyPlace_5 (by decide) (fun c1 => ?_) (fun c1 => ?_)
          · replace hw := hw.1 c1
            refine lv_iconst (v := 0) hx hb dX4_strikeByOnlyPlace_88 (by decide) ?_
            exact W.zret hx hb hr (zb_nar zb0) (fun t ht hW => ⟨⟨0, (h0_size, h0_pl, h0_st), rfl, hw, by rw [ht]; exact hP, va_K.moved hW.alike hK, hD⟩, hS.F ht⟩) hS.2.2 dX4_strikeByOnlyPlace_89
          · replace hw := hw.2 c1
            refine lv_aload_n hx hb dX4_strikeByOnlyPlace_8 rfl (lv_at hl 0 rfl) ?_
            refine va_get (D := g.1) (ci := 4) (v := .ref h0p) (C := RX4) (T := TX4) (N := 4) hx hb hts hinX4 hown hK hP 0 rfl rfl 0 (by decide) lk1 (fun _ h9 => h9) rfl dX4_strikeByOnlyPlace_9 ?_
            refine lv_iload_n hx hb dX4_strikeByOnlyPlace_12 rfl (lv_at hl 1 rfl) ?_
            obtain ⟨hi, hw⟩ := hw
            refine va_iald hx hb hK hP 1 0 rfl rfl hi dX4_strikeByOnlyPlace_13 ?_
            refine kp_S (As := [.int (h0_pl l1.toNatClampNeg)]) (rest := []) (wc := []) ⟨hx, hb, hml, hown, hts⟩ (m_J6_bitCount_0f7a4 l g hok (x1 := (h0_pl l1.toNatClampNeg)) hw) (va_cwS 1 hts gX4_strikeByOnlyPlace_J6_bitCount_0f7a4 rfl rfl rfl hd_J6_bitCount_0f7a4 ⟨Nat.le_of_ble_eq_true rfl, Nat.le_of_ble_eq_true rfl⟩) hok hK PP_nil hro hS hA rfl hl.1 rfl (Nat.le_of_ble_eq_true rfl) dX4_strikeByOnlyPlace_14 ⟨Nat.le_of_ble_eq_true rfl, Nat.le_of_ble_eq_true rfl⟩ (fun r2 hw => ?_)
            refine lv_iconst (v := 1) hx hb dX4_strikeByOnlyPlace_17 (by decide) ?_
            refine lv_icmp_ne (tgt := 82) hx hb dX4_strikeByOnlyPlace_18 (by decide) (fun c3 => ?_) (fun c3 => ?_)
            · replace hw := hw.2 c3
              refine lv_iinc (v := (l1 + 1)) (lv' := [(1, .int (l1 + 1)), (0, .ref h0)]) hx hb dX4_strikeByOnlyPlace_82 hl (k := 1) rfl rfl (by decide) rfl (fun ls hl => ?_)
              refine lv_goto (tgt := 2) hx hb dX4_strikeByOnlyPlace_85 (by decide) ?_
              exact hK2 (l1 + 1) h0_size h0_pl h0_st hw  _ _ hP hD hS ls (lv_sub hl [1, 0] rfl)
            · replace hw := hw.1 c3
              refine lv_iload_n hx hb dX4_strikeByOnlyPlace_21 rfl (lv_at hl 1 rfl) ?_
              refine lv_iconst (v := 4) hx hb dX4_strikeByOnlyPlace_22 (by decide) ?_
              refine lv_idiv hx hb dX4_strikeByOnlyPlace_23 (by decide) ?_
              refine lv_iconst (v := 4) hx hb dX4_strikeByOnlyPlace_24 (by decide) ?_
              refine lv_imul hx hb dX4_strikeByOnlyPlace_25 ?_
              refine lv_topi (fun w4 ew4 => ?_)
              have hw := hw w4 ew4
              refine lv_istore_n (lv' := [(2, .int w4), (0, .ref h0), (1, .int l1)]) hx hb dX4_strikeByOnlyPlace_26 rfl hl (by decide) rfl (fun ls hl => ?_)
              refine lv_iload_n hx hb dX4_strikeByOnlyPlace_27 rfl (lv_at hl 0 rfl) ?_
              refine lv_istore_n (lv' := [(3, .int w4), (2, .int w4), (0, .ref h0), (1, .int l1)]) hx hb dX4_strikeByOnlyPlace_28 rfl hl (by decide) rfl (fun ls hl => ?_)
              exact B29 (fun l1' h0_size' h0_pl' h0_st' => I2 l1' h0_size' h0_pl' h0_st' ∧ mu2 l1' h0_size' h0_pl' h0_st' < mu2 l1 h0_size h0_pl h0_st) hK2 l1 w4 w4 h0_size h0_pl h0_st hw  _ _ hP hD hS ls (lv_sub hl [2, 3, 1, 0] rfl)
    exact key _ l1 h0_size h0_pl h0_st (Nat.lt_succ_self _) hI
  have hl := lv_entry ([.ref h0]) (n := 4) (Nat.le_of_ble_eq_true rfl)
  rw [lg_entry_eq]
  generalize (lg_sl ([.ref h0]) ++ List.replicate (4 - (lg_sl ([.ref h0])).length) Slot.unset).toArray = ls at hl ⊢
  have hl : lv_has ls 4 [(0, .ref h0)] := hl
  unfold wp_X4_strikeByOnlyPlace at hw
  refine lv_iconst (v := 0) hx hb dX4_strikeByOnlyPlace_0 (by decide) ?_
  refine lv_istore_n (lv' := [(1, .int 0), (0, .ref h0)]) hx hb dX4_strikeByOnlyPlace_1 rfl hl (by decide) rfl (fun ls hl => ?_)
  exact B2  0 h0_size h0_pl h0_st hw  _ _ hP hD hS ls (lv_sub hl [1, 0] rfl)

def wp_X4_onlyItemWith_8 (Q : Int32 → Prop) (x1 : Int32) (x2 : Int32) (h0_pl : Nat → Int32)  (l3 : Int32) (l4 : Int32) : Prop :=
  ∃ (I8 : Int32 → Int32 → Prop) (mu8 : Int32 → Int32 → Nat), I8 l3 l4 ∧ ∀ (l3 : Int32) (l4 : Int32), I8 l3 l4 → ((((4 * x1) + 4) ≤ l4 → Q l3) ∧ (¬ (((4 * x1) + 4) ≤ l4) → (vp_in l4 16 ∧ (wp_X6_isIn (h0_pl l4.toNatClampNeg) x2 (fun r3 => ((r3 = 0 → (I8 l3 (l4 + 1) ∧ mu8 l3 (l4 + 1) < mu8 l3 l4)) ∧ (¬ (r3 = 0) → ((l3 = (-6) → (I8 l4 (l4 + 1) ∧ mu8 l4 (l4 + 1) < mu8 l3 l4)) ∧ (¬ (l3 = (-6)) → Q (-6))))))))))
def wp_X4_onlyItemWith (x1 : Int32) (x2 : Int32) (h0_pl : Nat → Int32) (Q : Int32 → Prop) : Prop :=
  ∀ w1 : Int32, w1 = (4 * x1) → wp_X4_onlyItemWith_8 Q x1 x2 h0_pl  (-6) w1
theorem hd_X4_onlyItemWith : yX4_onlyItemWith.cls = RX4 ∧ yX4_onlyItemWith.cls ≠ "java/lang/invoke/MethodHandle" ∧ yX4_onlyItemWith.cls ≠ "java/lang/invoke/VarHandle" ∧ (parseMethodDescriptor yX4_onlyItemWith.desc).map (fun d => d.parameters.length) = some 2 := by decide +kernel
set_option maxHeartbeats 4000000 in
set_option maxRecDepth 100000 in
theorem m_X4_onlyItemWith (l : Launch) (g : GG) {tb : TB} {pv : PV} {h0 h0p h0t : Nat} {h0_size : Int32} {h0_solved : Int32} {h0_pl : Nat → Int32} {h0_st : Nat → Int32} {x1 : Int32} {x2 : Int32} {Q : Int32 → Prop} (hw : wp_X4_onlyItemWith x1 x2 h0_pl Q) : Met l yX4_onlyItemWith wsX4_onlyItemWith ({ frames := 1, cells := 0, slots := 0, locals := 21 } : Room) (PcP g (roC g tb pv) [(h0, .inr (4, [.ref h0p, .ref h0t, .int h0_size, .int h0_solved])), (h0p, .inl (g.2.1, 16, .inl h0_pl)), (h0t, .inl (g.2.1, 256, .inl h0_st))] [.ref h0, .int x1, .int x2]) (vp_Si Q) 0 0 (fun _ => False) := by
  have hok : RoOK (roC g tb pv) := roC_ok
  refine Met.ofW (cc := cX4_onlyItemWith) (maxL := 5) (ret := (some .int)) (by decide) rfl ?_
  intro p e s m args below meth c s₁ B hml hv
  obtain ⟨rfl, hP, hK, hro⟩ := hv
  have hx := B.exec
  have hb := B.bytes
  have hr := B.returns
  have hts := atoms_spec (ws := wsX4_onlyItemWith) B.pre
  have hown : s.vm.findClass RX4 = some m.cls := findClass_of_methodNamed B.named
  have hlocks := B.notSynchronized
  have hA : ∀ q : Nat, s.heap.size ≤ q → (fun q : Nat => s.heap.size ≤ q) q := fun _ h => h
  have hS : va_S (fun q : Nat => s.heap.size ≤ q) s.heap s.heap [] := va_S.rf
  have hP : PP g [(h0, .inr (4, [.ref h0p, .ref h0t, .int h0_size, .int h0_solved])), (h0p, .inl (g.2.1, 16, .inl h0_pl)), (h0t, .inl (g.2.1, 256, .inl h0_st))] s.heap := hP
  have lk1 := hts (.fieldLink RX4 9 "GridRiddles$Strikes" "places" "[I") (by decide +kernel)
  have hinX4 : ∀ w ∈ u_ws RX4 TX4 4, w ∈ wsX4_onlyItemWith := by decide +kernel
  have lk3 := hts (.initialized RX6) (by decide +kernel)
  have lk4 := hts (.static yX6_isIn) (by decide +kernel)
  have B8 : ∀ (l3 : Int32) (l4 : Int32), wp_X4_onlyItemWith_8 Q x1 x2 h0_pl  l3 l4 → ∀ (ls : Array Slot), lv_has ls 5 [(0, .ref h0), (1, .int x1), (2, .int x2), (3, .int l3), (4, .int l4)] → W p l e (headSpec wsX4_onlyItemWith ({ frames := 1, cells := 0, slots := 0, locals := 21 } : Room)).room s m ([.ref h0, .int x1, .int x2] : List Value).toArray below meth c s.heap [] 0 0 (MQ below (vp_Si Q) ([.ref h0, .int x1, .int x2] : List Value).toArray s 0 0 (fun _ => False)) (F0 m 8 ls []) := by
    intro  l3 l4 hw
    obtain ⟨I8, mu8, hI, hstep⟩ := hw
    have key : ∀ (n : Nat) (l3 : Int32) (l4 : Int32), mu8 l3 l4 < n → I8 l3 l4 → ∀ (ls : Array Slot), lv_has ls 5 [(0, .ref h0), (1, .int x1), (2, .int x2), (3, .int l3), (4, .int l4)] → W p l e (headSpec wsX4_onlyItemWith ({ frames := 1, cells := 0, slots := 0, locals := 21 } : Room)).room s m ([.ref h0, .int x1, .int x2] : List Value).toArray below meth c s.heap [] 0 0 (MQ below (vp_Si Q) ([.ref h0, .int x1, .int x2] : List Value).toArray s 0 0 (fun _ => False)) (F0 m 8 ls []) := by
      intro n
      induction n with
      | zero => intro l3 l4 h; exact absurd h (Nat.not_lt_zero _)
      | succ n ih =>
          intro l3 l4 hn hI ls hl
          have hw := hstep l3 l4 hI
          have hK8 : ∀ (l3' : Int32) (l4' : Int32), (I8 l3' l4' ∧ mu8 l3' l4' < mu8 l3 l4) → ∀ (ls : Array Slot), lv_has ls 5 [(0, .ref h0), (1, .int x1), (2, .int x2), (3, .int l3'), (4, .int l4')] → W p l e (headSpec wsX4_onlyItemWith ({ frames := 1, cells := 0, slots := 0, locals := 21 } : Room)).room s m ([.ref h0, .int x1, .int x2] : List Value).toArray below meth c s.heap [] 0 0 (MQ below (vp_Si Q) ([.ref h0, .int x1, .int x2] : List Value).toArray s 0 0 (fun _ => False)) (F0 m 8 ls []) := fun l3' l4' h => ih l3' l4' (Nat.lt_of_lt_of_le h.2 (Nat.le_of_lt_succ hn)) h.1
          refine lv_iload hx hb dX4_onlyItemWith_8 (lv_at hl 4 rfl) ?_
          refine lv_iconst (v := 4) hx hb dX4_onlyItemWith_10 (by decide) ?_
          refine lv_iload_n hx hb dX4_onlyItemWith_11 rfl (lv_at hl 1 rfl) ?_
          refine lv_imul hx hb dX4_onlyItemWith_12 ?_
          refine lv_iconst (v := 4) hx hb dX4_onlyItemWith_13 (by decide) ?_
          refine lv_iadd hx hb dX4_onlyItemWith_14 ?_
          refine lv_icmp_ge (tgt := 50) hx hb dX4_onlyItemWith_15 (by decide) (fun c2 => ?_) (fun c2 => ?_)
          · replace hw := hw.1 c2
            refine lv_iload_n hx hb dX4_onlyItemWith_50 rfl (lv_at hl 3 rfl) ?_
            exact W.iret hx hb hr (fun t ht _ => ⟨l3, rfl, hw, ht⟩) t_nil dX4_onlyItemWith_51
          · replace hw := hw.2 c2
            refine lv_aload_n hx hb dX4_onlyItemWith_18 rfl (lv_at hl 0 rfl) ?_
            refine va_get (D := g.1) (ci := 4) (v := .ref h0p) (C := RX4) (T := TX4) (N := 4) hx hb hts hinX4 hown hK hP 0 rfl rfl 0 (by decide) lk1 (fun _ h9 => h9) rfl dX4_onlyItemWith_19 ?_
            refine lv_iload hx hb dX4_onlyItemWith_22 (lv_at hl 4 rfl) ?_
            obtain ⟨hi, hw⟩ := hw
            refine va_iald hx hb hK hP 1 0 rfl rfl hi dX4_onlyItemWith_24 ?_
            refine lv_iload_n hx hb dX4_onlyItemWith_25 rfl (lv_at hl 2 rfl) ?_
            refine kp_N (As := [.int (h0_pl l4.toNatClampNeg), .int x2]) (rest := []) (wc := []) ⟨hx, hb, hml, hown, hts⟩ (m_X6_isIn l g hok (x1 := (h0_pl l4.toNatClampNeg)) (x2 := x2) hw) ⟨va_cnB 2 hts gX4_onlyItemWith_X6_isIn_n98 rfl rfl rfl hro.2.2.2.2.2.2.2.2.2.2.2.1 lk3 hd_X6_isIn ⟨Nat.le_of_ble_eq_true rfl, Nat.le_of_ble_eq_true rfl⟩, lk4, trivial⟩ hok hK PP_nil hro hS hA rfl hl.1 rfl (Nat.le_of_ble_eq_true rfl) dX4_onlyItemWith_26 ⟨Nat.le_of_ble_eq_true rfl, Nat.le_of_ble_eq_true rfl⟩ (fun r3 hw => ?_)
            refine lv_if_eq (tgt := 44) hx hb dX4_onlyItemWith_29 (by decide) (fun c4 => ?_) (fun c4 => ?_)
            · replace hw := hw.1 c4
              refine lv_iinc (v := (l4 + 1)) (lv' := [(4, .int (l4 + 1)), (0, .ref h0), (1, .int x1), (2, .int x2), (3, .int l3)]) hx hb dX4_onlyItemWith_44 hl (k := 4) rfl rfl (by decide) rfl (fun ls hl => ?_)
              refine lv_goto (tgt := 8) hx hb dX4_onlyItemWith_47 (by decide) ?_
              exact hK8 l3 (l4 + 1) hw ls (lv_sub hl [1, 2, 3, 4, 0] rfl)
            · replace hw := hw.2 c4
              refine lv_iload_n hx hb dX4_onlyItemWith_32 rfl (lv_at hl 3 rfl) ?_
              refine lv_bipush (v := (-6)) hx hb dX4_onlyItemWith_33 (by decide) ?_
              refine lv_icmp_eq (tgt := 41) hx hb dX4_onlyItemWith_35 (by decide) (fun c5 => ?_) (fun c5 => ?_)
              · replace hw := hw.1 c5
                refine lv_iload hx hb dX4_onlyItemWith_41 (lv_at hl 4 rfl) ?_
                refine lv_istore_n (lv' := [(3, .int l4), (0, .ref h0), (1, .int x1), (2, .int x2), (4, .int l4)]) hx hb dX4_onlyItemWith_43 rfl hl (by decide) rfl (fun ls hl => ?_)
                refine lv_iinc (v := (l4 + 1)) (lv' := [(4, .int (l4 + 1)), (3, .int l4), (0, .ref h0), (1, .int x1), (2, .int x2)]) hx hb dX4_onlyItemWith_44 hl (k := 4) rfl rfl (by decide) rfl (fun ls hl => ?_)
                refine lv_goto (tgt := 8) hx hb dX4_onlyItemWith_47 (by decide) ?_
                exact hK8 l4 (l4 + 1) hw ls (lv_sub hl [2, 3, 4, 1, 0] rfl)
              · replace hw := hw.2 c5
                refine lv_bipush (v := (-6)) hx hb dX4_onlyItemWith_38 (by decide) ?_
                exact W.iret hx hb hr (fun t ht _ => ⟨(-6), rfl, hw, ht⟩) t_nil dX4_onlyItemWith_40
    exact key _ l3 l4 (Nat.lt_succ_self _) hI
  have hl := lv_entry ([.ref h0, .int x1, .int x2]) (n := 5) (Nat.le_of_ble_eq_true rfl)
  rw [lg_entry_eq]
  generalize (lg_sl ([.ref h0, .int x1, .int x2]) ++ List.replicate (5 - (lg_sl ([.ref h0, .int x1, .int x2])).length) Slot.unset).toArray = ls at hl ⊢
  have hl : lv_has ls 5 [(0, .ref h0), (1, .int x1), (2, .int x2)] := hl
  unfold wp_X4_onlyItemWith at hw
  refine lv_bipush (v := (-6)) hx hb dX4_onlyItemWith_0 (by decide) ?_
  refine lv_istore_n (lv' := [(3, .int (-6)), (0, .ref h0), (1, .int x1), (2, .int x2)]) hx hb dX4_onlyItemWith_2 rfl hl (by decide) rfl (fun ls hl => ?_)
  refine lv_iconst (v := 4) hx hb dX4_onlyItemWith_3 (by decide) ?_
  refine lv_iload_n hx hb dX4_onlyItemWith_4 rfl (lv_at hl 2 rfl) ?_
  refine lv_imul hx hb dX4_onlyItemWith_5 ?_
  refine lv_topi (fun w1 ew1 => ?_)
  have hw := hw w1 ew1
  refine lv_istore (lv' := [(4, .int w1), (3, .int (-6)), (0, .ref h0), (1, .int x1), (2, .int x2)]) hx hb dX4_onlyItemWith_6 hl (by decide) rfl (fun ls hl => ?_)
  exact B8  (-6) w1 hw ls (lv_sub hl [2, 3, 4, 1, 0] rfl)

def wp_X4_strikeByOnlyItem_43 (Q : Int32 → Int32 → (Nat → Int32) → (Nat → Int32) → Prop)  (K2 : Int32 → Int32 → (Nat → Int32) → (Nat → Int32) → Prop) (K9 : Int32 → Int32 → Int32 → (Nat → Int32) → (Nat → Int32) → Prop) (l1 : Int32) (l2 : Int32) (l3 : Int32) (s0 : Int32) (h0_size : Int32) (h0_pl : Nat → Int32) (h0_st : Nat → Int32) : Prop :=
  ((s0 = 0 → K9 l1 (l2 + 1) h0_size h0_pl h0_st) ∧ (¬ (s0 = 0) → (wp_X4_firstOf s0 (fun r6 => (wp_X4_strike 2 (-6) l3 r6 h0_size h0_pl h0_st (fun w7 w8 w9 => Q 1 w7 w8 w9))))))
def wp_X4_strikeByOnlyItem_9 (Q : Int32 → Int32 → (Nat → Int32) → (Nat → Int32) → Prop)  (K2 : Int32 → Int32 → (Nat → Int32) → (Nat → Int32) → Prop) (l1 : Int32) (l2 : Int32) (h0_size : Int32) (h0_pl : Nat → Int32) (h0_st : Nat → Int32) : Prop :=
  ∃ (I9 : Int32 → Int32 → Int32 → (Nat → Int32) → (Nat → Int32) → Prop) (mu9 : Int32 → Int32 → Int32 → (Nat → Int32) → (Nat → Int32) → Nat), I9 l1 l2 h0_size h0_pl h0_st ∧ ∀ (l1 : Int32) (l2 : Int32) (h0_size : Int32) (h0_pl : Nat → Int32) (h0_st : Nat → Int32), I9 l1 l2 h0_size h0_pl h0_st → ((4 < l2 → K2 (l1 + 1) h0_size h0_pl h0_st) ∧ (¬ (4 < l2) → (wp_X4_onlyItemWith l1 l2 h0_pl (fun r3 => ((r3 = (-6) → wp_X4_strikeByOnlyItem_43 Q  (K2) (fun l1' l2' h0_size' h0_pl' h0_st' => I9 l1' l2' h0_size' h0_pl' h0_st' ∧ mu9 l1' l2' h0_size' h0_pl' h0_st' < mu9 l1 l2 h0_size h0_pl h0_st) l1 l2 r3 0 h0_size h0_pl h0_st) ∧ (¬ (r3 = (-6)) → (vp_in r3 16 ∧ wp_X4_strikeByOnlyItem_43 Q  (K2) (fun l1' l2' h0_size' h0_pl' h0_st' => I9 l1' l2' h0_size' h0_pl' h0_st' ∧ mu9 l1' l2' h0_size' h0_pl' h0_st' < mu9 l1 l2 h0_size h0_pl h0_st) l1 l2 r3 ((h0_pl r3.toNatClampNeg) &&& ((1 <<< (l2 &&& 31)) ^^^ (-1))) h0_size h0_pl h0_st)))))))
def wp_X4_strikeByOnlyItem_2 (Q : Int32 → Int32 → (Nat → Int32) → (Nat → Int32) → Prop)   (l1 : Int32) (h0_size : Int32) (h0_pl : Nat → Int32) (h0_st : Nat → Int32) : Prop :=
  ∃ (I2 : Int32 → Int32 → (Nat → Int32) → (Nat → Int32) → Prop) (mu2 : Int32 → Int32 → (Nat → Int32) → (Nat → Int32) → Nat), I2 l1 h0_size h0_pl h0_st ∧ ∀ (l1 : Int32) (h0_size : Int32) (h0_pl : Nat → Int32) (h0_st : Nat → Int32), I2 l1 h0_size h0_pl h0_st → ((4 ≤ l1 → Q 0 h0_size h0_pl h0_st) ∧ (¬ (4 ≤ l1) → wp_X4_strikeByOnlyItem_9 Q  (fun l1' h0_size' h0_pl' h0_st' => I2 l1' h0_size' h0_pl' h0_st' ∧ mu2 l1' h0_size' h0_pl' h0_st' < mu2 l1 h0_size h0_pl h0_st) l1 1 h0_size h0_pl h0_st))
def wp_X4_strikeByOnlyItem (h0_size : Int32) (h0_pl : Nat → Int32) (h0_st : Nat → Int32) (Q : Int32 → Int32 → (Nat → Int32) → (Nat → Int32) → Prop) : Prop :=
  wp_X4_strikeByOnlyItem_2 Q   0 h0_size h0_pl h0_st
theorem hd_X4_strikeByOnlyItem : yX4_strikeByOnlyItem.cls = RX4 ∧ yX4_strikeByOnlyItem.cls ≠ "java/lang/invoke/MethodHandle" ∧ yX4_strikeByOnlyItem.cls ≠ "java/lang/invoke/VarHandle" ∧ (parseMethodDescriptor yX4_strikeByOnlyItem.desc).map (fun d => d.parameters.length) = some 0 := by decide +kernel
set_option maxHeartbeats 4000000 in
set_option maxRecDepth 100000 in
theorem m_X4_strikeByOnlyItem (l : Launch) (g : GG) {tb : TB} {pv : PV} {h0 h0p h0t : Nat} {h0_size : Int32} {h0_solved : Int32} {h0_pl : Nat → Int32} {h0_st : Nat → Int32} {sz : Nat} {Q : Int32 → Int32 → (Nat → Int32) → (Nat → Int32) → Prop} (hw : wp_X4_strikeByOnlyItem h0_size h0_pl h0_st Q) : Met l yX4_strikeByOnlyItem wsX4_strikeByOnlyItem ({ frames := 2, cells := 0, slots := 0, locals := 45 } : Room) (PcM g (roC g tb pv) [(h0, .inr (4, [.ref h0p, .ref h0t, .int h0_size, .int h0_solved])), (h0p, .inl (g.2.1, 16, .inl h0_pl)), (h0t, .inl (g.2.1, 256, .inl h0_st))] sz [.ref h0]) (va_Qi (fun (r : Int32) (u : Int32 × (Nat → Int32) × (Nat → Int32)) => Q r u.1 u.2.1 u.2.2) (BM g (fun u : Int32 × (Nat → Int32) × (Nat → Int32) => [(h0, .inr (4, [.ref h0p, .ref h0t, .int u.1, .int h0_solved])), (h0p, .inl (g.2.1, 16, .inl u.2.1)), (h0t, .inl (g.2.1, 256, .inl u.2.2))]) (va_A [(h0, .inr (4, [.ref h0p, .ref h0t, .int h0_size, .int h0_solved])), (h0p, .inl (g.2.1, 16, .inl h0_pl)), (h0t, .inl (g.2.1, 256, .inl h0_st))] sz)) (va_A [(h0, .inr (4, [.ref h0p, .ref h0t, .int h0_size, .int h0_solved])), (h0p, .inl (g.2.1, 16, .inl h0_pl)), (h0t, .inl (g.2.1, 256, .inl h0_st))] sz)) 0 0 (va_A [(h0, .inr (4, [.ref h0p, .ref h0t, .int h0_size, .int h0_solved])), (h0p, .inl (g.2.1, 16, .inl h0_pl)), (h0t, .inl (g.2.1, 256, .inl h0_st))] sz) := by
  have hok : RoOK (roC g tb pv) := roC_ok
  refine Met.ofW (cc := cX4_strikeByOnlyItem) (maxL := 5) (ret := (some .boolean)) (by decide) rfl ?_
  intro p e s m args below meth c s₁ B hml hv
  obtain ⟨rfl, hsz, hP, hK, hD0, hro⟩ := hv
  have hx := B.exec
  have hb := B.bytes
  have hr := B.returns
  have hts := atoms_spec (ws := wsX4_strikeByOnlyItem) B.pre
  have hown : s.vm.findClass RX4 = some m.cls := findClass_of_methodNamed B.named
  have hlocks := B.notSynchronized
  subst hsz
  have hD := hD0.self (sz := s.heap.size)
  generalize hAe : va_A [(h0, .inr (4, [.ref h0p, .ref h0t, .int h0_size, .int h0_solved])), (h0p, .inl (g.2.1, 16, .inl h0_pl)), (h0t, .inl (g.2.1, 256, .inl h0_st))] s.heap.size = A at hD hro ⊢
  have hA : ∀ q : Nat, s.heap.size ≤ q → A q := fun q h => by rw [← hAe]; exact Or.inr h
  have hS : va_S A s.heap s.heap [] := va_S.rf
  have hP : PP g [(h0, .inr (4, [.ref h0p, .ref h0t, .int h0_size, .int h0_solved])), (h0p, .inl (g.2.1, 16, .inl h0_pl)), (h0t, .inl (g.2.1, 256, .inl h0_st))] s.heap := hP
  have lk1 := hts (.fieldLink RX4 9 "GridRiddles$Strikes" "places" "[I") (by decide +kernel)
  have hinX4 : ∀ w ∈ u_ws RX4 TX4 4, w ∈ wsX4_strikeByOnlyItem := by decide +kernel
  have B43 : ∀ (K2 : Int32 → Int32 → (Nat → Int32) → (Nat → Int32) → Prop) (hK2 : ∀ (l1 : Int32) (h0_size : Int32) (h0_pl : Nat → Int32) (h0_st : Nat → Int32), K2 l1 h0_size h0_pl h0_st → ∀ (H : Heap) (locs : List Loc), PP g [(h0, .inr (4, [.ref h0p, .ref h0t, .int h0_size, .int h0_solved])), (h0p, .inl (g.2.1, 16, .inl h0_pl)), (h0t, .inl (g.2.1, 256, .inl h0_st))] H → va_D A [(h0, .inr (4, [.ref h0p, .ref h0t, .int h0_size, .int h0_solved])), (h0p, .inl (g.2.1, 16, .inl h0_pl)), (h0t, .inl (g.2.1, 256, .inl h0_st))] → va_S A s.heap H locs → ∀ (ls : Array Slot), lv_has ls 5 [(0, .ref h0), (1, .int l1)] → W p l e (headSpec wsX4_strikeByOnlyItem ({ frames := 2, cells := 0, slots := 0, locals := 45 } : Room)).room s m ([.ref h0] : List Value).toArray below meth c H locs 0 0 (MQ below (va_Qi (fun (r : Int32) (u : Int32 × (Nat → Int32) × (Nat → Int32)) => Q r u.1 u.2.1 u.2.2) (BM g (fun u : Int32 × (Nat → Int32) × (Nat → Int32) => [(h0, .inr (4, [.ref h0p, .ref h0t, .int u.1, .int h0_solved])), (h0p, .inl (g.2.1, 16, .inl u.2.1)), (h0t, .inl (g.2.1, 256, .inl u.2.2))]) A) A) ([.ref h0] : List Value).toArray s 0 0 A) (F0 m 2 ls [])) (K9 : Int32 → Int32 → Int32 → (Nat → Int32) → (Nat → Int32) → Prop) (hK9 : ∀ (l1 : Int32) (l2 : Int32) (h0_size : Int32) (h0_pl : Nat → Int32) (h0_st : Nat → Int32), K9 l1 l2 h0_size h0_pl h0_st → ∀ (H : Heap) (locs : List Loc), PP g [(h0, .inr (4, [.ref h0p, .ref h0t, .int h0_size, .int h0_solved])), (h0p, .inl (g.2.1, 16, .inl h0_pl)), (h0t, .inl (g.2.1, 256, .inl h0_st))] H → va_D A [(h0, .inr (4, [.ref h0p, .ref h0t, .int h0_size, .int h0_solved])), (h0p, .inl (g.2.1, 16, .inl h0_pl)), (h0t, .inl (g.2.1, 256, .inl h0_st))] → va_S A s.heap H locs → ∀ (ls : Array Slot), lv_has ls 5 [(0, .ref h0), (1, .int l1), (2, .int l2)] → W p l e (headSpec wsX4_strikeByOnlyItem ({ frames := 2, cells := 0, slots := 0, locals := 45 } : Room)).room s m ([.ref h0] : List Value).toArray below meth c H locs 0 0 (MQ below (va_Qi (fun (r : Int32) (u : Int32 × (Nat → Int32) × (Nat → Int32)) => Q r u.1 u.2.1 u.2.2) (BM g (fun u : Int32 × (Nat → Int32) × (Nat → Int32) => [(h0, .inr (4, [.ref h0p, .ref h0t, .int u.1, .int h0_solved])), (h0p, .inl (g.2.1, 16, .inl u.2.1)), (h0t, .inl (g.2.1, 256, .inl u.2.2))]) A) A) ([.ref h0] : List Value).toArray s 0 0 A) (F0 m 9 ls [])) (l1 : Int32) (l2 : Int32) (l3 : Int32) (s0 : Int32) (h0_size : Int32) (h0_pl : Nat → Int32) (h0_st : Nat → Int32), wp_X4_strikeByOnlyItem_43 Q  K2 K9 l1 l2 l3 s0 h0_size h0_pl h0_st → ∀ (H : Heap) (locs : List Loc), PP g [(h0, .inr (4, [.ref h0p, .ref h0t, .int h0_size, .int h0_solved])), (h0p, .inl (g.2.1, 16, .inl h0_pl)), (h0t, .inl (g.2.1, 256, .inl h0_st))] H → va_D A [(h0, .inr (4, [.ref h0p, .ref h0t, .int h0_size, .int h0_solved])), (h0p, .inl (g.2.1, 16, .inl h0_pl)), (h0t, .inl (g.2.1, 256, .inl h0_st))] → va_S A s.heap H locs → ∀ (ls : Array Slot), lv_has ls 5 [(0, .ref h0), (1, .int l1), (2, .int l2), (3, .int l3)] → W p l e (headSpec wsX4_strikeByOnlyItem ({ frames := 2, cells := 0, slots := 0, locals := 45 } : Room)).room s m ([.ref h0] : List Value).toArray below meth c H locs 0 0 (MQ below (va_Qi (fun (r : Int32) (u : Int32 × (Nat → Int32) × (Nat → Int32)) => Q r u.1 u.2.1 u.2.2) (BM g (fun u : Int32 × (Nat → Int32) × (Nat → Int32) => [(h0, .inr (4, [.ref h0p, .ref h0t, .int u.1, .int h0_solved])), (h0p, .inl (g.2.1, 16, .inl u.2.1)), (h0t, .inl (g.2.1, 256, .inl u.2.2))]) A) A) ([.ref h0] : List Value).toArray s 0 0 A) (F0 m 43 ls [.int s0]) := by
    intro K2 hK2 K9 hK9 l1 l2 l3 s0 h0_size h0_pl h0_st hw  H locs hP hD hS ls hl
    refine lv_istore (lv' := [(4, .int s0), (0, .ref h0), (1, .int l1), (2, .int l2), (3, .int l3)]) hx hb dX4_strikeByOnlyItem_43 hl (by decide) rfl (fun ls hl => ?_)
    refine lv_iload hx hb dX4_strikeByOnlyItem_45 (lv_at hl 0 rfl) ?_
    refine lv_if_eq (tgt := 65) hx hb dX4_strikeByOnlyItem_47 (by decide) (fun c5 => ?_) (fun c5 => ?_)
    · replace hw := hw.1 c5
      refine lv_iinc (v := (l2 + 1)) (lv' := [(2, .int (l2 + 1)), (4, .int s0), (0, .ref h0), (1, .int l1), (3, .int l3)]) hx hb dX4_strikeByOnlyItem_65 hl (k := 3) rfl rfl (by decide) rfl (fun ls hl => ?_)
      refine lv_goto (tgt := 9) hx hb dX4_strikeByOnlyItem_68 (by decide) ?_
      exact hK9 l1 (l2 + 1) h0_size h0_pl h0_st hw  _ _ hP hD hS ls (lv_sub hl [2, 3, 0] rfl)
    · replace hw := hw.2 c5
      refine lv_aload_n hx hb dX4_strikeByOnlyItem_50 rfl (lv_at hl 1 rfl) ?_
      refine lv_iconst (v := 2) hx hb dX4_strikeByOnlyItem_51 (by decide) ?_
      refine lv_bipush (v := (-6)) hx hb dX4_strikeByOnlyItem_52 (by decide) ?_
      refine lv_iload_n hx hb dX4_strikeByOnlyItem_54 rfl (lv_at hl 4 rfl) ?_
      refine lv_iload hx hb dX4_strikeByOnlyItem_55 (lv_at hl 0 rfl) ?_
      refine kp_S (As := [.int s0]) (rest := [.int l3, .int (-6), .int 2, .ref h0]) (wc := []) ⟨hx, hb, hml, hown, hts⟩ (m_X4_firstOf l g hok (x1 := s0) hw) (va_cwS 1 hts gX4_strikeByOnlyItem_X4_firstOf rfl rfl rfl hd_X4_firstOf ⟨Nat.le_of_ble_eq_true rfl, Nat.le_of_ble_eq_true rfl⟩) hok hK PP_nil hro hS hA rfl hl.1 rfl (Nat.le_of_ble_eq_true rfl) dX4_strikeByOnlyItem_57 ⟨Nat.le_of_ble_eq_true rfl, Nat.le_of_ble_eq_true rfl⟩ (fun r6 hw => ?_)
      refine kn_Vv (As := [.int 2, .int (-6), .int l3, .int r6]) (rest := []) (wc := [(h0, .inr (4, [.ref h0p, .ref h0t, .int h0_size, .int h0_solved])), (h0p, .inl (g.2.1, 16, .inl h0_pl)), (h0t, .inl (g.2.1, 256, .inl h0_st))]) (wr := []) (cq := (RX4, TX4, 4)) ⟨hx, hb, hml, hown, hts⟩ (m_X4_strike l g hok (h0 := h0) (h0p := h0p) (h0t := h0t) (h0_size := h0_size) (h0_solved := h0_solved) (h0_pl := h0_pl) (h0_st := h0_st) (x1 := 2) (x2 := (-6)) (x3 := l3) (x4 := r6) hw) (cwV 4 hts gX4_strikeByOnlyItem_X4_strike rfl rfl rfl hd_X4_strike ⟨Nat.le_of_ble_eq_true rfl, Nat.le_of_ble_eq_true rfl⟩) hok hK hP hD hS hA (ro_pass hok hro hS (va_free (wc := [(h0, .inr (4, [.ref h0p, .ref h0t, .int h0_size, .int h0_solved])), (h0p, .inl (g.2.1, 16, .inl h0_pl)), (h0t, .inl (g.2.1, 256, .inl h0_st))]) hD hS hA [0, 1, 2] rfl)) [0, 1, 2] [] rfl rfl (by decide) (by decide) (by decide) (va_recv hK hP (ci := 4) (q0 := 0) rfl rfl) rfl hl.1 rfl (Nat.le_of_ble_eq_true rfl) dX4_strikeByOnlyItem_60 ⟨Nat.le_of_ble_eq_true rfl, Nat.le_of_ble_eq_true rfl⟩ (fun u H locs hw hP hD hS => ?_)
      obtain ⟨w7, w8, w9⟩ := u
      have hP : PP g [(h0, .inr (4, [.ref h0p, .ref h0t, .int w7, .int h0_solved])), (h0p, .inl (g.2.1, 16, .inl w8)), (h0t, .inl (g.2.1, 256, .inl w9))] H := hP
      have hD : va_D A [(h0, .inr (4, [.ref h0p, .ref h0t, .int w7, .int h0_solved])), (h0p, .inl (g.2.1, 16, .inl w8)), (h0t, .inl (g.2.1, 256, .inl w9))] := hD
      refine lv_iconst (v := 1) hx hb dX4_strikeByOnlyItem_63 (by decide) ?_
      exact W.zret hx hb hr (zb_nar zb1) (fun t ht hW => ⟨⟨1, (w7, w8, w9), rfl, hw, by rw [ht]; exact hP, va_K.moved hW.alike hK, hD⟩, hS.F ht⟩) hS.2.2 dX4_strikeByOnlyItem_64
  have B9 : ∀ (K2 : Int32 → Int32 → (Nat → Int32) → (Nat → Int32) → Prop) (hK2 : ∀ (l1 : Int32) (h0_size : Int32) (h0_pl : Nat → Int32) (h0_st : Nat → Int32), K2 l1 h0_size h0_pl h0_st → ∀ (H : Heap) (locs : List Loc), PP g [(h0, .inr (4, [.ref h0p, .ref h0t, .int h0_size, .int h0_solved])), (h0p, .inl (g.2.1, 16, .inl h0_pl)), (h0t, .inl (g.2.1, 256, .inl h0_st))] H → va_D A [(h0, .inr (4, [.ref h0p, .ref h0t, .int h0_size, .int h0_solved])), (h0p, .inl (g.2.1, 16, .inl h0_pl)), (h0t, .inl (g.2.1, 256, .inl h0_st))] → va_S A s.heap H locs → ∀ (ls : Array Slot), lv_has ls 5 [(0, .ref h0), (1, .int l1)] → W p l e (headSpec wsX4_strikeByOnlyItem ({ frames := 2, cells := 0, slots := 0, locals := 45 } : Room)).room s m ([.ref h0] : List Value).toArray below meth c H locs 0 0 (MQ below (va_Qi (fun (r : Int32) (u : Int32 × (Nat → Int32) × (Nat → Int32)) => Q r u.1 u.2.1 u.2.2) (BM g (fun u : Int32 × (Nat → Int32) × (Nat → Int32) => [(h0, .inr (4, [.ref h0p, .ref h0t, .int u.1, .int h0_solved])), (h0p, .inl (g.2.1, 16, .inl u.2.1)), (h0t, .inl (g.2.1, 256, .inl u.2.2))]) A) A) ([.ref h0] : List Value).toArray s 0 0 A) (F0 m 2 ls [])) (l1 : Int32) (l2 : Int32) (h0_size : Int32) (h0_pl : Nat → Int32) (h0_st : Nat → Int32), wp_X4_strikeByOnlyItem_9 Q  K2 l1 l2 h0_size h0_pl h0_st → ∀ (H : Heap) (locs : List Loc), PP g [(h0, .inr (4, [.ref h0p, .ref h0t, .int h0_size, .int h0_solved])), (h0p, .inl (g.2.1, 16, .inl h0_pl)), (h0t, .inl (g.2.1, 256, .inl h0_st))] H → va_D A [(h0, .inr (4, [.ref h0p, .ref h0t, .int h0_size, .int h0_solved])), (h0p, .inl (g.2.1, 16, .inl h0_pl)), (h0t, .inl (g.2.1, 256, .inl h0_st))] → va_S A s.heap H locs → ∀ (ls : Array Slot), lv_has ls 5 [(0, .ref h0), (1, .int l1), (2, .int l2)] → W p l e (headSpec wsX4_strikeByOnlyItem ({ frames := 2, cells := 0, slots := 0, locals := 45 } : Room)).room s m ([.ref h0] : List Value).toArray below meth c H locs 0 0 (MQ below (va_Qi (fun (r : Int32) (u : Int32 × (Nat → Int32) × (Nat → Int32)) => Q r u.1 u.2.1 u.2.2) (BM g (fun u : Int32 × (Nat → Int32) × (Nat → Int32) => [(h0, .inr (4, [.ref h0p, .ref h0t, .int u.1, .int h0_solved])), (h0p, .inl (g.2.1, 16, .inl u.2.1)), (h0t, .inl (g.2.1, 256, .inl u.2.2))]) A) A) ([.ref h0] : List Value).toArray s 0 0 A) (F0 m 9 ls []) := by
    intro K2 hK2 l1 l2 h0_size h0_pl h0_st hw
    obtain ⟨I9, mu9, hI, hstep⟩ := hw
    have key : ∀ (n : Nat) (l1 : Int32) (l2 : Int32) (h0_size : Int32) (h0_pl : Nat → Int32) (h0_st : Nat → Int32), mu9 l1 l2 h0_size h0_pl h0_st < n → I9 l1 l2 h0_size h0_pl h0_st → ∀ (H : Heap) (locs : List Loc), PP g [(h0, .inr (4, [.ref h0p, .ref h0t, .int h0_size, .int h0_solved])), (h0p, .inl (g.2.1, 16, .inl h0_pl)), (h0t, .inl (g.2.1, 256, .inl h0_st))] H → va_D A [(h0, .inr (4, [.ref h0p, .ref h0t, .int h0_size, .int h0_solved])), (h0p, .inl (g.2.1, 16, .inl h0_pl)), (h0t, .inl (g.2.1, 256, .inl h0_st))] → va_S A s.heap H locs → ∀ (ls : Array Slot), lv_has ls 5 [(0, .ref h0), (1, .int l1), (2, .int l2)] → W p l e (headSpec wsX4_strikeByOnlyItem ({ frames := 2, cells := 0, slots := 0, locals := 45 } : Room)).room s m ([.ref h0] : List Value).toArray below meth c H locs 0 0 (MQ below (va_Qi (fun (r : Int32) (u : Int32 × (Nat → Int32) × (Nat → Int32)) => Q r u.1 u.2.1 u.2.2) (BM g (fun u : Int32 × (Nat → Int32) × (Nat → Int32) => [(h0, .inr (4, [.ref h0p, .ref h0t, .int u.1, .int h0_solved])), (h0p, .inl (g.2.1, 16, .inl u.2.1)), (h0t, .inl (g.2.1, 256, .inl u.2.2))]) A) A) ([.ref h0] : List Value).toArray s 0 0 A) (F0 m 9 ls []) := by
      intro n
      induction n with
      | zero => intro l1 l2 h0_size h0_pl h0_st h; exact absurd h (Nat.not_lt_zero _)
      | succ n ih =>
          intro l1 l2 h0_size h0_pl h0_st hn hI  H locs hP hD hS ls hl
          have hw := hstep l1 l2 h0_size h0_pl h0_st hI
          have hK9 : ∀ (l1' : Int32) (l2' : Int32) (h0_size' : Int32) (h0_pl' : Nat → Int32) (h0_st' : Nat → Int32), (I9 l1' l2' h0_size' h0_pl' h0_st' ∧ mu9 l1' l2' h0_size' h0_pl' h0_st' < mu9 l1 l2 h0_size h0_pl h0_st) → ∀ (H : Heap) (locs : List Loc), PP g [(h0, .inr (4, [.ref h0p, .ref h0t, .int h0_size', .int h0_solved])), (h0p, .inl (g.2.1, 16, .inl h0_pl')), (h0t, .inl (g.2.1, 256, .inl h0_st'))] H → va_D A [(h0, .inr (4, [.ref h0p, .ref h0t, .int h0_size', .int h0_solved])), (h0p, .inl (g.2.1, 16, .inl h0_pl')), (h0t, .inl (g.2.1, 256, .inl h0_st'))] → va_S A s.heap H locs → ∀ (ls : Array Slot), lv_has ls 5 [(0, .ref h0), (1, .int l1'), (2, .int l2')] → W p l e (headSpec wsX4_strikeByOnlyItem ({ frames := 2, cells := 0, slots := 0, locals := 45 } : Room)).room s m ([.ref h0] : List Value).toArray below meth c H locs 0 0 (MQ below (va_Qi (fun (r : Int32) (u : Int32 × (Nat → Int32) × (Nat → Int32)) => Q r u.1 u.2.1 u.2.2) (BM g (fun u : Int32 × (Nat → Int32) × (Nat → Int32) => [(h0, .inr (4, [.ref h0p, .ref h0t, .int u.1, .int h0_solved])), (h0p, .inl (g.2.1, 16, .inl u.2.1)), (h0t, .inl (g.2.1, 256, .inl u.2.2))]) A) A) ([.ref h0] : List Value).toArray s 0 0 A) (F0 m 9 ls []) := fun l1' l2' h0_size' h0_pl' h0_st' h => ih l1' l2' h0_size' h0_pl' h0_st' (Nat.lt_of_lt_of_le h.2 (Nat.le_of_lt_succ hn)) h.1
          refine lv_iload_n hx hb dX4_strikeByOnlyItem_9 rfl (lv_at hl 2 rfl) ?_
          refine lv_iconst (v := 4) hx hb dX4_strikeByOnlyItem_10 (by decide) ?_
          refine lv_icmp_gt (tgt := 71) hx hb dX4_strikeByOnlyItem_11 (by decide) (fun c2 => ?_) (fun c2 => ?_)
          · replace hw := hw.1 c2
            refine lv_iinc (v := (l1 + 1)) (lv' := [(1, .int (l1 + 1)), (0, .ref h0), (2, .int l2)]) hx hb dX4_strikeByOnlyItem_71 hl (k := 1) rfl rfl (by decide) rfl (fun ls hl => ?_)
            refine lv_goto (tgt := 2) hx hb dX4_strikeByOnlyItem_74 (by decide) ?_
            exact hK2 (l1 + 1) h0_size h0_pl h0_st hw  _ _ hP hD hS ls (lv_sub hl [1, 0] rfl)
          · replace hw := hw.2 c2
            refine lv_aload_n hx hb dX4_strikeByOnlyItem_14 rfl (lv_at hl 0 rfl) ?_
            refine lv_iload_n hx hb dX4_strikeByOnlyItem_15 rfl (lv_at hl 1 rfl) ?_
            refine lv_iload_n hx hb dX4_strikeByOnlyItem_16 rfl (lv_at hl 2 rfl) ?_
            refine kp_V (As := [.int l1, .int l2]) (rest := []) (wc := [(h0, .inr (4, [.ref h0p, .ref h0t, .int h0_size, .int h0_solved])), (h0p, .inl (g.2.1, 16, .inl h0_pl)), (h0t, .inl (g.2.1, 256, .inl h0_st))]) (cq := (RX4, TX4, 4)) ⟨hx, hb, hml, hown, hts⟩ (m_X4_onlyItemWith l g (tb := tb) (pv := pv) (h0 := h0) (h0p := h0p) (h0t := h0t) (h0_size := h0_size) (h0_solved := h0_solved) (h0_pl := h0_pl) (h0_st := h0_st) (x1 := l1) (x2 := l2) hw) (cwV 2 hts gX4_strikeByOnlyItem_X4_onlyItemWith rfl rfl rfl hd_X4_onlyItemWith ⟨Nat.le_of_ble_eq_true rfl, Nat.le_of_ble_eq_true rfl⟩) hok hK hP hro hS hA 0 4 rfl rfl rfl hl.1 rfl (Nat.le_of_ble_eq_true rfl) dX4_strikeByOnlyItem_17 ⟨Nat.le_of_ble_eq_true rfl, Nat.le_of_ble_eq_true rfl⟩ (fun r3 hw => ?_)
            refine lv_istore_n (lv' := [(3, .int r3), (0, .ref h0), (1, .int l1), (2, .int l2)]) hx hb dX4_strikeByOnlyItem_20 rfl hl (by decide) rfl (fun ls hl => ?_)
            refine lv_iload_n hx hb dX4_strikeByOnlyItem_21 rfl (lv_at hl 0 rfl) ?_
            refine lv_bipush (v := (-6)) hx hb dX4_strikeByOnlyItem_22 (by decide) ?_
            refine lv_icmp_ne (tgt := 31) hx hb dX4_strikeByOnlyItem_24 (by decide) (fun c4 => ?_) (fun c4 => ?_)
            · replace hw := hw.2 c4
              refine lv_aload_n hx hb dX4_strikeByOnlyItem_31 rfl (lv_at hl 1 rfl) ?_
              refine va_get (D := g.1) (ci := 4) (v := .ref h0p) (C := RX4) (T := TX4) (N := 4) hx hb hts hinX4 hown hK hP 0 rfl rfl 0 (by decide) lk1 (fun _ h9 => h9) rfl dX4_strikeByOnlyItem_32 ?_
              refine lv_iload_n hx hb dX4_strikeByOnlyItem_35 rfl (lv_at hl 0 rfl) ?_
              obtain ⟨hi, hw⟩ := hw
              refine va_iald hx hb hK hP 1 0 rfl rfl hi dX4_strikeByOnlyItem_36 ?_
              refine lv_iconst (v := 1) hx hb dX4_strikeByOnlyItem_37 (by decide) ?_
              refine lv_iload_n hx hb dX4_strikeByOnlyItem_38 rfl (lv_at hl 3 rfl) ?_
              refine lv_ishl hx hb dX4_strikeByOnlyItem_39 ?_
              refine lv_iconst (v := (-1)) hx hb dX4_strikeByOnlyItem_40 (by decide) ?_
              refine lv_ixor hx hb dX4_strikeByOnlyItem_41 ?_
              refine lv_iand hx hb dX4_strikeByOnlyItem_42 ?_
              exact B43 (K2) hK2 (fun l1' l2' h0_size' h0_pl' h0_st' => I9 l1' l2' h0_size' h0_pl' h0_st' ∧ mu9 l1' l2' h0_size' h0_pl' h0_st' < mu9 l1 l2 h0_size h0_pl h0_st) hK9 l1 l2 r3 ((h0_pl r3.toNatClampNeg) &&& ((1 <<< (l2 &&& 31)) ^^^ (-1))) h0_size h0_pl h0_st hw  _ _ hP hD hS ls (lv_sub hl [1, 2, 3, 0] rfl)
            · replace hw := hw.1 c4
              refine lv_iconst (v := 0) hx hb dX4_strikeByOnlyItem_27 (by decide) ?_
              refine lv_goto (tgt := 43) hx hb dX4_strikeByOnlyItem_28 (by decide) ?_
              exact B43 (K2) hK2 (fun l1' l2' h0_size' h0_pl' h0_st' => I9 l1' l2' h0_size' h0_pl' h0_st' ∧ mu9 l1' l2' h0_size' h0_pl' h0_st' < mu9 l1 l2 h0_size h0_pl h0_st) hK9 l1 l2 r3 0 h0_size h0_pl h0_st hw  _ _ hP hD hS ls (lv_sub hl [1, 2, 3, 0] rfl)
    exact key _ l1 l2 h0_size h0_pl h0_st (Nat.lt_succ_self _) hI
  have B2 : ∀ (l1 : Int32) (h0_size : Int32) (h0_pl : Nat → Int32) (h0_st : Nat → Int32), wp_X4_strikeByOnlyItem_2 Q   l1 h0_size h0_pl h0_st → ∀ (H : Heap) (locs : List Loc), PP g [(h0, .inr (4, [.ref h0p, .ref h0t, .int h0_size, .int h0_solved])), (h0p, .inl (g.2.1, 16, .inl h0_pl)), (h0t, .inl (g.2.1, 256, .inl h0_st))] H → va_D A [(h0, .inr (4, [.ref h0p, .ref h0t, .int h0_size, .int h0_solved])), (h0p, .inl (g.2.1, 16, .inl h0_pl)), (h0t, .inl (g.2.1, 256, .inl h0_st))] → va_S A s.heap H locs → ∀ (ls : Array Slot), lv_has ls 5 [(0, .ref h0), (1, .int l1)] → W p l e (headSpec wsX4_strikeByOnlyItem ({ frames := 2, cells := 0, slots := 0, locals := 45 } : Room)).room s m ([.ref h0] : List Value).toArray below meth c H locs 0 0 (MQ below (va_Qi (fun (r : Int32) (u : Int32 × (Nat → Int32) × (Nat → Int32)) => Q r u.1 u.2.1 u.2.2) (BM g (fun u : Int32 × (Nat → Int32) × (Nat → Int32) => [(h0, .inr (4, [.ref h0p, .ref h0t, .int u.1, .int h0_solved])), (h0p, .inl (g.2.1, 16, .inl u.2.1)), (h0t, .inl (g.2.1, 256, .inl u.2.2))]) A) A) ([.ref h0] : List Value).toArray s 0 0 A) (F0 m 2 ls []) := by
    intro  l1 h0_size h0_pl h0_st hw
    obtain ⟨I2, mu2, hI, hstep⟩ := hw
    have key : ∀ (n : Nat) (l1 : Int32) (h0_size : Int32) (h0_pl : Nat → Int32) (h0_st : Nat → Int32), mu2 l1 h0_size h0_pl h0_st < n → I2 l1 h0_size h0_pl h0_st → ∀ (H : Heap) (locs : List Loc), PP g [(h0, .inr (4, [.ref h0p, .ref h0t, .int h0_size, .int h0_solved])), (h0p, .inl (g.2.1, 16, .inl h0_pl)), (h0t, .inl (g.2.1, 256, .inl h0_st))] H → va_D A [(h0, .inr (4, [.ref h0p, .ref h0t, .int h0_size, .int h0_solved])), (h0p, .inl (g.2.1, 16, .inl h0_pl)), (h0t, .inl (g.2.1, 256, .inl h0_st))] → va_S A s.heap H locs → ∀ (ls : Array Slot), lv_has ls 5 [(0, .ref h0), (1, .int l1)] → W p l e (headSpec wsX4_strikeByOnlyItem ({ frames := 2, cells := 0, slots := 0, locals := 45 } : Room)).room s m ([.ref h0] : List Value).toArray below meth c H locs 0 0 (MQ below (va_Qi (fun (r : Int32) (u : Int32 × (Nat → Int32) × (Nat → Int32)) => Q r u.1 u.2.1 u.2.2) (BM g (fun u : Int32 × (Nat → Int32) × (Nat → Int32) => [(h0, .inr (4, [.ref h0p, .ref h0t, .int u.1, .int h0_solved])), (h0p, .inl (g.2.1, 16, .inl u.2.1)), (h0t, .inl (g.2.1, 256, .inl u.2.2))]) A) A) ([.ref h0] : List Value).toArray s 0 0 A) (F0 m 2 ls []) := by
      intro n
      induction n with
      | zero => intro l1 h0_size h0_pl h0_st h; exact absurd h (Nat.not_lt_zero _)
      | succ n ih =>
          intro l1 h0_size h0_pl h0_st hn hI  H locs hP hD hS ls hl
          have hw := hstep l1 h0_size h0_pl h0_st hI
          have hK2 : ∀ (l1' : Int32) (h0_size' : Int32) (h0_pl' : Nat → Int32) (h0_st' : Nat → Int32), (I2 l1' h0_size' h0_pl' h0_st' ∧ mu2 l1' h0_size' h0_pl' h0_st' < mu2 l1 h0_size h0_pl h0_st) → ∀ (H : Heap) (locs : List Loc), PP g [(h0, .inr (4, [.ref h0p, .ref h0t, .int h0_size', .int h0_solved])), (h0p, .inl (g.2.1, 16, .inl h0_pl')), (h0t, .inl (g.2.1, 256, .inl h0_st'))] H → va_D A [(h0, .inr (4, [.ref h0p, .ref h0t, .int h0_size', .int h0_solved])), (h0p, .inl (g.2.1, 16, .inl h0_pl')), (h0t, .inl (g.2.1, 256, .inl h0_st'))] → va_S A s.heap H locs → ∀ (ls : Array Slot), lv_has ls 5 [(0, .ref h0), (1, .int l1')] → W p l e (headSpec wsX4_strikeByOnlyItem ({ frames := 2, cells := 0, slots := 0, locals := 45 } : Room)).room s m ([.ref h0] : List Value).toArray below meth c H locs 0 0 (MQ below (va_Qi (fun (r : Int32) (u : Int32 × (Nat → Int32) × (Nat → Int32)) => Q r u.1 u.2.1 u.2.2) (BM g (fun u : Int32 × (Nat → Int32) × (Nat → Int32) => [(h0, .inr (4, [.ref h0p, .ref h0t, .int u.1, .int h0_solved])), (h0p, .inl (g.2.1, 16, .inl u.2.1)), (h0t, .inl (g.2.1, 256, .inl u.2.2))]) A) A) ([.ref h0] : List Value).toArray s 0 0 A) (F0 m 2 ls []) := fun l1' h0_size' h0_pl' h0_st' h => ih l1' h0_size' h0_pl' h0_st' (Nat.lt_of_lt_of_le h.2 (Nat.le_of_lt_succ hn)) h.1
          refine lv_iload_n hx hb dX4_strikeByOnlyItem_2 rfl (lv_at hl 1 rfl) ?_
          refine lv_iconst (v := 4) hx hb dX4_strikeByOnlyItem_3 (by decide) ?_
          refine lv_icmp_ge (tgt := 77) hx hb dX4_strikeByOnlyItem_4 (by decide) (fun c1 => ?_) (fun c1 => ?_)
          · replace hw := hw.1 c1
            refine lv_iconst (v := 0) hx hb dX4_strikeByOnlyItem_77 (by decide) ?_
            exact W.zret hx hb hr (zb_nar zb0) (fun t ht hW => ⟨⟨0, (h0_size, h0_pl, h0_st), rfl, hw, by rw [ht]; exact hP, va_K.moved hW.alike hK, hD⟩, hS.F ht⟩) hS.2.2 dX4_strikeByOnlyItem_78
          · replace hw := hw.2 c1
            refine lv_iconst (v := 1) hx hb dX4_strikeByOnlyItem_7 (by decide) ?_
            refine lv_istore_n (lv' := [(2, .int 1), (0, .ref h0), (1, .int l1)]) hx hb dX4_strikeByOnlyItem_8 rfl hl (by decide) rfl (fun ls hl => ?_)
            exact B9 (fun l1' h0_size' h0_pl' h0_st' => I2 l1' h0_size' h0_pl' h0_st' ∧ mu2 l1' h0_size' h0_pl' h0_st' < mu2 l1 h0_size h0_pl h0_st) hK2 l1 1 h0_size h0_pl h0_st hw  _ _ hP hD hS ls (lv_sub hl [1, 2, 0] rfl)
    exact key _ l1 h0_size h0_pl h0_st (Nat.lt_succ_self _) hI
  have hl := lv_entry ([.ref h0]) (n := 5) (Nat.le_of_ble_eq_true rfl)
  rw [lg_entry_eq]
  generalize (lg_sl ([.ref h0]) ++ List.replicate (5 - (lg_sl ([.ref h0])).length) Slot.unset).toArray = ls at hl ⊢
  have hl : lv_has ls 5 [(0, .ref h0)] := hl
  unfold wp_X4_strikeByOnlyItem at hw
  refine lv_iconst (v := 0) hx hb dX4_strikeByOnlyItem_0 (by decide) ?_
  refine lv_istore_n (lv' := [(1, .int 0), (0, .ref h0)]) hx hb dX4_strikeByOnlyItem_1 rfl hl (by decide) rfl (fun ls hl => ?_)
  exact B2  0 h0_size h0_pl h0_st hw  _ _ hP hD hS ls (lv_sub hl [1, 0] rfl)

def wp_X4_solve_57 (Q : Int32 → Int32 → (Nat → Int32) → (Nat → Int32) → Prop)  (K24 : Int32 → Int32 → Int32 → (Nat → Int32) → (Nat → Int32) → Prop) (l2 : Int32) (s0 : Int32) (h0_size : Int32) (h0_solved : Int32) (h0_pl : Nat → Int32) (h0_st : Nat → Int32) : Prop :=
  ((s0 = 0 → Q h0_size 1 h0_pl h0_st) ∧ (¬ (s0 = 0) → (vp_in ((4 * l2) + 2) 256 ∧ (vp_in (h0_st ((4 * l2) + 2).toNatClampNeg) 16 ∧ (((h0_pl (h0_st ((4 * l2) + 2).toNatClampNeg).toNatClampNeg) = 0 → Q h0_size 1 h0_pl h0_st) ∧ (¬ ((h0_pl (h0_st ((4 * l2) + 2).toNatClampNeg).toNatClampNeg) = 0) → K24 (l2 + 1) h0_size h0_solved h0_pl h0_st))))))
def wp_X4_solve_24 (Q : Int32 → Int32 → (Nat → Int32) → (Nat → Int32) → Prop) (pv : PV) (k9_size : Int32) (k9_row : Nat → Option Nat)  (l2 : Int32) (h0_size : Int32) (h0_solved : Int32) (h0_pl : Nat → Int32) (h0_st : Nat → Int32) : Prop :=
  ∃ (I24 : Int32 → Int32 → Int32 → (Nat → Int32) → (Nat → Int32) → Prop) (mu24 : Int32 → Int32 → Int32 → (Nat → Int32) → (Nat → Int32) → Nat), I24 l2 h0_size h0_solved h0_pl h0_st ∧ ∀ (l2 : Int32) (h0_size : Int32) (h0_solved : Int32) (h0_pl : Nat → Int32) (h0_st : Nat → Int32), I24 l2 h0_size h0_solved h0_pl h0_st → ((64 ≤ l2 → Q h0_size 1 h0_pl h0_st) ∧ (¬ (64 ≤ l2) → (wp_X4_strikeByClue pv h0_size h0_pl h0_st k9_size k9_row (fun r7 w4 w5 w6 => ((r7 = 0 → (wp_X4_strikeByOnlyPlace w4 w5 w6 (fun r14 w11 w12 w13 => ((r14 = 0 → (wp_X4_strikeByOnlyItem w11 w12 w13 (fun r19 w16 w17 w18 => ((r19 = 0 → wp_X4_solve_57 Q  (fun l2' h0_size' h0_solved' h0_pl' h0_st' => I24 l2' h0_size' h0_solved' h0_pl' h0_st' ∧ mu24 l2' h0_size' h0_solved' h0_pl' h0_st' < mu24 l2 h0_size h0_solved h0_pl h0_st) l2 0 w16 h0_solved w17 w18) ∧ (¬ (r19 = 0) → wp_X4_solve_57 Q  (fun l2' h0_size' h0_solved' h0_pl' h0_st' => I24 l2' h0_size' h0_solved' h0_pl' h0_st' ∧ mu24 l2' h0_size' h0_solved' h0_pl' h0_st' < mu24 l2 h0_size h0_solved h0_pl h0_st) l2 1 w16 h0_solved w17 w18))))) ∧ (¬ (r14 = 0) → wp_X4_solve_57 Q  (fun l2' h0_size' h0_solved' h0_pl' h0_st' => I24 l2' h0_size' h0_solved' h0_pl' h0_st' ∧ mu24 l2' h0_size' h0_solved' h0_pl' h0_st' < mu24 l2 h0_size h0_solved h0_pl h0_st) l2 1 w11 h0_solved w12 w13))))) ∧ (¬ (r7 = 0) → wp_X4_solve_57 Q  (fun l2' h0_size' h0_solved' h0_pl' h0_st' => I24 l2' h0_size' h0_solved' h0_pl' h0_st' ∧ mu24 l2' h0_size' h0_solved' h0_pl' h0_st' < mu24 l2 h0_size h0_solved h0_pl h0_st) l2 1 w4 h0_solved w5 w6))))))
def wp_X4_solve (pv : PV) (h0_size : Int32) (h0_solved : Int32) (h0_pl : Nat → Int32) (h0_st : Nat → Int32) (k9_size : Int32) (k9_row : Nat → Option Nat) (Q : Int32 → Int32 → (Nat → Int32) → (Nat → Int32) → Prop) : Prop :=
  ((h0_solved = 0 → (wp_J7_fill_53178 16 30 h0_pl (fun w2 => wp_X4_solve_24 Q pv k9_size k9_row  0 0 h0_solved w2 h0_st))) ∧ (¬ (h0_solved = 0) → Q h0_size h0_solved h0_pl h0_st))
theorem hd_X4_solve : yX4_solve.cls = RX4 ∧ yX4_solve.cls ≠ "java/lang/invoke/MethodHandle" ∧ yX4_solve.cls ≠ "java/lang/invoke/VarHandle" ∧ (parseMethodDescriptor yX4_solve.desc).map (fun d => d.parameters.length) = some 1 := by decide +kernel
set_option maxHeartbeats 4000000 in
set_option maxRecDepth 100000 in
theorem m_X4_solve (l : Launch) (g : GG) {tb : TB} {pv : PV} {h0 h0p h0t k9 k9r : Nat} {h0_size : Int32} {h0_solved : Int32} {h0_pl : Nat → Int32} {h0_st : Nat → Int32} {k9_size : Int32} {k9_row : Nat → Option Nat} {sz : Nat} {Q : Int32 → Int32 → (Nat → Int32) → (Nat → Int32) → Prop} (hw : wp_X4_solve pv h0_size h0_solved h0_pl h0_st k9_size k9_row Q) : Met l yX4_solve wsX4_solve ({ frames := 3, cells := 0, slots := 0, locals := 75 } : Room) (PcM g (roC g tb pv) [(h0, .inr (4, [.ref h0p, .ref h0t, .int h0_size, .int h0_solved])), (h0p, .inl (g.2.1, 16, .inl h0_pl)), (h0t, .inl (g.2.1, 256, .inl h0_st)), (k9, .inr (2, [.ref k9r, .int k9_size])), (k9r, .inl (g.2.2.2.1, 12, .inr (.inr (.inr (.inr k9_row)))))] sz [.ref h0, .ref k9]) (va_Qv (fun (u : Int32 × Int32 × (Nat → Int32) × (Nat → Int32)) => Q u.1 u.2.1 u.2.2.1 u.2.2.2) (BM g (fun u : Int32 × Int32 × (Nat → Int32) × (Nat → Int32) => [(h0, .inr (4, [.ref h0p, .ref h0t, .int u.1, .int u.2.1])), (h0p, .inl (g.2.1, 16, .inl u.2.2.1)), (h0t, .inl (g.2.1, 256, .inl u.2.2.2)), (k9, .inr (2, [.ref k9r, .int k9_size])), (k9r, .inl (g.2.2.2.1, 12, .inr (.inr (.inr (.inr k9_row)))))]) (va_A [(h0, .inr (4, [.ref h0p, .ref h0t, .int h0_size, .int h0_solved])), (h0p, .inl (g.2.1, 16, .inl h0_pl)), (h0t, .inl (g.2.1, 256, .inl h0_st)), (k9, .inr (2, [.ref k9r, .int k9_size])), (k9r, .inl (g.2.2.2.1, 12, .inr (.inr (.inr (.inr k9_row)))))] sz)) (va_A [(h0, .inr (4, [.ref h0p, .ref h0t, .int h0_size, .int h0_solved])), (h0p, .inl (g.2.1, 16, .inl h0_pl)), (h0t, .inl (g.2.1, 256, .inl h0_st)), (k9, .inr (2, [.ref k9r, .int k9_size])), (k9r, .inl (g.2.2.2.1, 12, .inr (.inr (.inr (.inr k9_row)))))] sz)) 0 0 (va_A [(h0, .inr (4, [.ref h0p, .ref h0t, .int h0_size, .int h0_solved])), (h0p, .inl (g.2.1, 16, .inl h0_pl)), (h0t, .inl (g.2.1, 256, .inl h0_st)), (k9, .inr (2, [.ref k9r, .int k9_size])), (k9r, .inl (g.2.2.2.1, 12, .inr (.inr (.inr (.inr k9_row)))))] sz) := by
  have hok : RoOK (roC g tb pv) := roC_ok
  refine Met.ofW (cc := cX4_solve) (maxL := 4) (ret := none) (by decide) rfl ?_
  intro p e s m args below meth c s₁ B hml hv
  obtain ⟨rfl, hsz, hP, hK, hD0, hro⟩ := hv
  have hx := B.exec
  have hb := B.bytes
  have hr := B.returns
  have hts := atoms_spec (ws := wsX4_solve) B.pre
  have hown : s.vm.findClass RX4 = some m.cls := findClass_of_methodNamed B.named
  have hlocks := B.notSynchronized
  subst hsz
  have hD := hD0.self (sz := s.heap.size)
  generalize hAe : va_A [(h0, .inr (4, [.ref h0p, .ref h0t, .int h0_size, .int h0_solved])), (h0p, .inl (g.2.1, 16, .inl h0_pl)), (h0t, .inl (g.2.1, 256, .inl h0_st)), (k9, .inr (2, [.ref k9r, .int k9_size])), (k9r, .inl (g.2.2.2.1, 12, .inr (.inr (.inr (.inr k9_row)))))] s.heap.size = A at hD hro ⊢
  have hA : ∀ q : Nat, s.heap.size ≤ q → A q := fun q h => by rw [← hAe]; exact Or.inr h
  have hS : va_S A s.heap s.heap [] := va_S.rf
  have hP : PP g [(h0, .inr (4, [.ref h0p, .ref h0t, .int h0_size, .int h0_solved])), (h0p, .inl (g.2.1, 16, .inl h0_pl)), (h0t, .inl (g.2.1, 256, .inl h0_st)), (k9, .inr (2, [.ref k9r, .int k9_size])), (k9r, .inl (g.2.2.2.1, 12, .inr (.inr (.inr (.inr k9_row)))))] s.heap := hP
  have lk1 := hts (.fieldLink RX4 22 "GridRiddles$Strikes" "solved" "Z") (by decide +kernel)
  have hinX4 : ∀ w ∈ u_ws RX4 TX4 4, w ∈ wsX4_solve := by decide +kernel
  have lk3 := hts (.fieldLink RX4 9 "GridRiddles$Strikes" "places" "[I") (by decide +kernel)
  have lk4 := hts (.fieldLink RX4 18 "GridRiddles$Strikes" "size" "I") (by decide +kernel)
  have lk5 := hts (.fieldLink RX4 15 "GridRiddles$Strikes" "steps" "[I") (by decide +kernel)
  have B57 : ∀ (K24 : Int32 → Int32 → Int32 → (Nat → Int32) → (Nat → Int32) → Prop) (hK24 : ∀ (l2 : Int32) (h0_size : Int32) (h0_solved : Int32) (h0_pl : Nat → Int32) (h0_st : Nat → Int32), K24 l2 h0_size h0_solved h0_pl h0_st → ∀ (H : Heap) (locs : List Loc), PP g [(h0, .inr (4, [.ref h0p, .ref h0t, .int h0_size, .int h0_solved])), (h0p, .inl (g.2.1, 16, .inl h0_pl)), (h0t, .inl (g.2.1, 256, .inl h0_st)), (k9, .inr (2, [.ref k9r, .int k9_size])), (k9r, .inl (g.2.2.2.1, 12, .inr (.inr (.inr (.inr k9_row)))))] H → va_D A [(h0, .inr (4, [.ref h0p, .ref h0t, .int h0_size, .int h0_solved])), (h0p, .inl (g.2.1, 16, .inl h0_pl)), (h0t, .inl (g.2.1, 256, .inl h0_st)), (k9, .inr (2, [.ref k9r, .int k9_size])), (k9r, .inl (g.2.2.2.1, 12, .inr (.inr (.inr (.inr k9_row)))))] → va_S A s.heap H locs → ∀ (ls : Array Slot), lv_has ls 4 [(0, .ref h0), (1, .ref k9), (2, .int l2)] → W p l e (headSpec wsX4_solve ({ frames := 3, cells := 0, slots := 0, locals := 75 } : Room)).room s m ([.ref h0, .ref k9] : List Value).toArray below meth c H locs 0 0 (MQ below (va_Qv (fun (u : Int32 × Int32 × (Nat → Int32) × (Nat → Int32)) => Q u.1 u.2.1 u.2.2.1 u.2.2.2) (BM g (fun u : Int32 × Int32 × (Nat → Int32) × (Nat → Int32) => [(h0, .inr (4, [.ref h0p, .ref h0t, .int u.1, .int u.2.1])), (h0p, .inl (g.2.1, 16, .inl u.2.2.1)), (h0t, .inl (g.2.1, 256, .inl u.2.2.2)), (k9, .inr (2, [.ref k9r, .int k9_size])), (k9r, .inl (g.2.2.2.1, 12, .inr (.inr (.inr (.inr k9_row)))))]) A) A) ([.ref h0, .ref k9] : List Value).toArray s 0 0 A) (F0 m 24 ls [])) (l2 : Int32) (s0 : Int32) (h0_size : Int32) (h0_solved : Int32) (h0_pl : Nat → Int32) (h0_st : Nat → Int32), wp_X4_solve_57 Q  K24 l2 s0 h0_size h0_solved h0_pl h0_st → ∀ (H : Heap) (locs : List Loc), PP g [(h0, .inr (4, [.ref h0p, .ref h0t, .int h0_size, .int h0_solved])), (h0p, .inl (g.2.1, 16, .inl h0_pl)), (h0t, .inl (g.2.1, 256, .inl h0_st)), (k9, .inr (2, [.ref k9r, .int k9_size])), (k9r, .inl (g.2.2.2.1, 12, .inr (.inr (.inr (.inr k9_row)))))] H → va_D A [(h0, .inr (4, [.ref h0p, .ref h0t, .int h0_size, .int h0_solved])), (h0p, .inl (g.2.1, 16, .inl h0_pl)), (h0t, .inl (g.2.1, 256, .inl h0_st)), (k9, .inr (2, [.ref k9r, .int k9_size])), (k9r, .inl (g.2.2.2.1, 12, .inr (.inr (.inr (.inr k9_row)))))] → va_S A s.heap H locs → ∀ (ls : Array Slot), lv_has ls 4 [(0, .ref h0), (1, .ref k9), (2, .int l2)] → W p l e (headSpec wsX4_solve ({ frames := 3, cells := 0, slots := 0, locals := 75 } : Room)).room s m ([.ref h0, .ref k9] : List Value).toArray below meth c H locs 0 0 (MQ below (va_Qv (fun (u : Int32 × Int32 × (Nat → Int32) × (Nat → Int32)) => Q u.1 u.2.1 u.2.2.1 u.2.2.2) (BM g (fun u : Int32 × Int32 × (Nat → Int32) × (Nat → Int32) => [(h0, .inr (4, [.ref h0p, .ref h0t, .int u.1, .int u.2.1])), (h0p, .inl (g.2.1, 16, .inl u.2.2.1)), (h0t, .inl (g.2.1, 256, .inl u.2.2.2)), (k9, .inr (2, [.ref k9r, .int k9_size])), (k9r, .inl (g.2.2.2.1, 12, .inr (.inr (.inr (.inr k9_row)))))]) A) A) ([.ref h0, .ref k9] : List Value).toArray s 0 0 A) (F0 m 57 ls [.int s0]) := by
    intro K24 hK24 l2 s0 h0_size h0_solved h0_pl h0_st hw  H locs hP hD hS ls hl
    refine lv_istore_n (lv' := [(3, .int s0), (0, .ref h0), (1, .ref k9), (2, .int l2)]) hx hb dX4_solve_57 rfl hl (by decide) rfl (fun ls hl => ?_)
    refine lv_iload_n hx hb dX4_solve_58 rfl (lv_at hl 0 rfl) ?_
    refine lv_if_eq (tgt := 89) hx hb dX4_solve_59 (by decide) (fun c9 => ?_) (fun c9 => ?_)
    · replace hw := hw.1 c9
      refine lv_aload_n hx hb dX4_solve_89 rfl (lv_at hl 1 rfl) ?_
      refine lv_iconst (v := 1) hx hb dX4_solve_90 (by decide) ?_
      refine va_put (D := g.1) (ci := 4) (v := .int 1) (ty := .boolean) (C := RX4) (T := TX4) (N := 4) hx hb hts hinX4 tyX4 tyX4_ok nmX4 hown hK hP hD hS 0 rfl rfl 3 (by decide) lk1 (fun _ h9 => h9) rfl (by decide +kernel) (zb_nar zb1) (zb_fit zb1) (Nat.le_of_ble_eq_true rfl) dX4_solve_91 (fun H locs hP hD hS => ?_)
      have hP : PP g [(h0, .inr (4, [.ref h0p, .ref h0t, .int h0_size, .int 1])), (h0p, .inl (g.2.1, 16, .inl h0_pl)), (h0t, .inl (g.2.1, 256, .inl h0_st)), (k9, .inr (2, [.ref k9r, .int k9_size])), (k9r, .inl (g.2.2.2.1, 12, .inr (.inr (.inr (.inr k9_row)))))] H := hP
      have hD : va_D A [(h0, .inr (4, [.ref h0p, .ref h0t, .int h0_size, .int 1])), (h0p, .inl (g.2.1, 16, .inl h0_pl)), (h0t, .inl (g.2.1, 256, .inl h0_st)), (k9, .inr (2, [.ref k9r, .int k9_size])), (k9r, .inl (g.2.2.2.1, 12, .inr (.inr (.inr (.inr k9_row)))))] := hD
      exact W.vret hx hb hr (fun t ht hW => ⟨⟨(h0_size, 1, h0_pl, h0_st), rfl, hw, by rw [ht]; exact hP, va_K.moved hW.alike hK, hD⟩, hS.F ht⟩) hS.2.2 dX4_solve_94
    · replace hw := hw.2 c9
      refine lv_aload_n hx hb dX4_solve_62 rfl (lv_at hl 1 rfl) ?_
      refine va_get (D := g.1) (ci := 4) (v := .ref h0p) (C := RX4) (T := TX4) (N := 4) hx hb hts hinX4 hown hK hP 0 rfl rfl 0 (by decide) lk3 (fun _ h9 => h9) rfl dX4_solve_63 ?_
      refine lv_aload_n hx hb dX4_solve_66 rfl (lv_at hl 1 rfl) ?_
      refine va_get (D := g.1) (ci := 4) (v := .ref h0t) (C := RX4) (T := TX4) (N := 4) hx hb hts hinX4 hown hK hP 0 rfl rfl 1 (by decide) lk5 (fun _ h9 => h9) rfl dX4_solve_67 ?_
      refine lv_iconst (v := 4) hx hb dX4_solve_70 (by decide) ?_
      refine lv_iload_n hx hb dX4_solve_71 rfl (lv_at hl 3 rfl) ?_
      refine lv_imul hx hb dX4_solve_72 ?_
      refine lv_iconst (v := 2) hx hb dX4_solve_73 (by decide) ?_
      refine lv_iadd hx hb dX4_solve_74 ?_
      obtain ⟨hi, hw⟩ := hw
      refine va_iald hx hb hK hP 2 0 rfl rfl hi dX4_solve_75 ?_
      obtain ⟨hi, hw⟩ := hw
      refine va_iald hx hb hK hP 1 0 rfl rfl hi dX4_solve_76 ?_
      refine lv_if_ne (tgt := 83) hx hb dX4_solve_77 (by decide) (fun c10 => ?_) (fun c10 => ?_)
      · replace hw := hw.2 c10
        refine lv_iinc (v := (l2 + 1)) (lv' := [(2, .int (l2 + 1)), (3, .int s0), (0, .ref h0), (1, .ref k9)]) hx hb dX4_solve_83 hl (k := 3) rfl rfl (by decide) rfl (fun ls hl => ?_)
        refine lv_goto (tgt := 24) hx hb dX4_solve_86 (by decide) ?_
        exact hK24 (l2 + 1) h0_size h0_solved h0_pl h0_st hw  _ _ hP hD hS ls (lv_sub hl [2, 3, 0] rfl)
      · replace hw := hw.1 c10
        refine lv_goto (tgt := 89) hx hb dX4_solve_80 (by decide) ?_
        refine lv_aload_n hx hb dX4_solve_89 rfl (lv_at hl 1 rfl) ?_
        refine lv_iconst (v := 1) hx hb dX4_solve_90 (by decide) ?_
        refine va_put (D := g.1) (ci := 4) (v := .int 1) (ty := .boolean) (C := RX4) (T := TX4) (N := 4) hx hb hts hinX4 tyX4 tyX4_ok nmX4 hown hK hP hD hS 0 rfl rfl 3 (by decide) lk1 (fun _ h9 => h9) rfl (by decide +kernel) (zb_nar zb1) (zb_fit zb1) (Nat.le_of_ble_eq_true rfl) dX4_solve_91 (fun H locs hP hD hS => ?_)
        have hP : PP g [(h0, .inr (4, [.ref h0p, .ref h0t, .int h0_size, .int 1])), (h0p, .inl (g.2.1, 16, .inl h0_pl)), (h0t, .inl (g.2.1, 256, .inl h0_st)), (k9, .inr (2, [.ref k9r, .int k9_size])), (k9r, .inl (g.2.2.2.1, 12, .inr (.inr (.inr (.inr k9_row)))))] H := hP
        have hD : va_D A [(h0, .inr (4, [.ref h0p, .ref h0t, .int h0_size, .int 1])), (h0p, .inl (g.2.1, 16, .inl h0_pl)), (h0t, .inl (g.2.1, 256, .inl h0_st)), (k9, .inr (2, [.ref k9r, .int k9_size])), (k9r, .inl (g.2.2.2.1, 12, .inr (.inr (.inr (.inr k9_row)))))] := hD
        exact W.vret hx hb hr (fun t ht hW => ⟨⟨(h0_size, 1, h0_pl, h0_st), rfl, hw, by rw [ht]; exact hP, va_K.moved hW.alike hK, hD⟩, hS.F ht⟩) hS.2.2 dX4_solve_94
  have B24 : ∀ (l2 : Int32) (h0_size : Int32) (h0_solved : Int32) (h0_pl : Nat → Int32) (h0_st : Nat → Int32), wp_X4_solve_24 Q pv k9_size k9_row  l2 h0_size h0_solved h0_pl h0_st → ∀ (H : Heap) (locs : List Loc), PP g [(h0, .inr (4, [.ref h0p, .ref h0t, .int h0_size, .int h0_solved])), (h0p, .inl (g.2.1, 16, .inl h0_pl)), (h0t, .inl (g.2.1, 256, .inl h0_st)), (k9, .inr (2, [.ref k9r, .int k9_size])), (k9r, .inl (g.2.2.2.1, 12, .inr (.inr (.inr (.inr k9_row)))))] H → va_D A [(h0, .inr (4, [.ref h0p, .ref h0t, .int h0_size, .int h0_solved])), (h0p, .inl (g.2.1, 16, .inl h0_pl)), (h0t, .inl (g.2.1, 256, .inl h0_st)), (k9, .inr (2, [.ref k9r, .int k9_size])), (k9r, .inl (g.2.2.2.1, 12, .inr (.inr (.inr (.inr k9_row)))))] → va_S A s.heap H locs → ∀ (ls : Array Slot), lv_has ls 4 [(0, .ref h0), (1, .ref k9), (2, .int l2)] → W p l e (headSpec wsX4_solve ({ frames := 3, cells := 0, slots := 0, locals := 75 } : Room)).room s m ([.ref h0, .ref k9] : List Value).toArray below meth c H locs 0 0 (MQ below (va_Qv (fun (u : Int32 × Int32 × (Nat → Int32) × (Nat → Int32)) => Q u.1 u.2.1 u.2.2.1 u.2.2.2) (BM g (fun u : Int32 × Int32 × (Nat → Int32) × (Nat → Int32) => [(h0, .inr (4, [.ref h0p, .ref h0t, .int u.1, .int u.2.1])), (h0p, .inl (g.2.1, 16, .inl u.2.2.1)), (h0t, .inl (g.2.1, 256, .inl u.2.2.2)), (k9, .inr (2, [.ref k9r, .int k9_size])), (k9r, .inl (g.2.2.2.1, 12, .inr (.inr (.inr (.inr k9_row)))))]) A) A) ([.ref h0, .ref k9] : List Value).toArray s 0 0 A) (F0 m 24 ls []) := by
    intro  l2 h0_size h0_solved h0_pl h0_st hw
    obtain ⟨I24, mu24, hI, hstep⟩ := hw
    have key : ∀ (n : Nat) (l2 : Int32) (h0_size : Int32) (h0_solved : Int32) (h0_pl : Nat → Int32) (h0_st : Nat → Int32), mu24 l2 h0_size h0_solved h0_pl h0_st < n → I24 l2 h0_size h0_solved h0_pl h0_st → ∀ (H : Heap) (locs : List Loc), PP g [(h0, .inr (4, [.ref h0p, .ref h0t, .int h0_size, .int h0_solved])), (h0p, .inl (g.2.1, 16, .inl h0_pl)), (h0t, .inl (g.2.1, 256, .inl h0_st)), (k9, .inr (2, [.ref k9r, .int k9_size])), (k9r, .inl (g.2.2.2.1, 12, .inr (.inr (.inr (.inr k9_row)))))] H → va_D A [(h0, .inr (4, [.ref h0p, .ref h0t, .int h0_size, .int h0_solved])), (h0p, .inl (g.2.1, 16, .inl h0_pl)), (h0t, .inl (g.2.1, 256, .inl h0_st)), (k9, .inr (2, [.ref k9r, .int k9_size])), (k9r, .inl (g.2.2.2.1, 12, .inr (.inr (.inr (.inr k9_row)))))] → va_S A s.heap H locs → ∀ (ls : Array Slot), lv_has ls 4 [(0, .ref h0), (1, .ref k9), (2, .int l2)] → W p l e (headSpec wsX4_solve ({ frames := 3, cells := 0, slots := 0, locals := 75 } : Room)).room s m ([.ref h0, .ref k9] : List Value).toArray below meth c H locs 0 0 (MQ below (va_Qv (fun (u : Int32 × Int32 × (Nat → Int32) × (Nat → Int32)) => Q u.1 u.2.1 u.2.2.1 u.2.2.2) (BM g (fun u : Int32 × Int32 × (Nat → Int32) × (Nat → Int32) => [(h0, .inr (4, [.ref h0p, .ref h0t, .int u.1, .int u.2.1])), (h0p, .inl (g.2.1, 16, .inl u.2.2.1)), (h0t, .inl (g.2.1, 256, .inl u.2.2.2)), (k9, .inr (2, [.ref k9r, .int k9_size])), (k9r, .inl (g.2.2.2.1, 12, .inr (.inr (.inr (.inr k9_row)))))]) A) A) ([.ref h0, .ref k9] : List Value).toArray s 0 0 A) (F0 m 24 ls []) := by
      intro n
      induction n with
      | zero => intro l2 h0_size h0_solved h0_pl h0_st h; exact absurd h (Nat.not_lt_zero _)
      | succ n ih =>
          intro l2 h0_size h0_solved h0_pl h0_st hn hI  H locs hP hD hS ls hl
          have hw := hstep l2 h0_size h0_solved h0_pl h0_st hI
          have hK24 : ∀ (l2' : Int32) (h0_size' : Int32) (h0_solved' : Int32) (h0_pl' : Nat → Int32) (h0_st' : Nat → Int32), (I24 l2' h0_size' h0_solved' h0_pl' h0_st' ∧ mu24 l2' h0_size' h0_solved' h0_pl' h0_st' < mu24 l2 h0_size h0_solved h0_pl h0_st) → ∀ (H : Heap) (locs : List Loc), PP g [(h0, .inr (4, [.ref h0p, .ref h0t, .int h0_size', .int h0_solved'])), (h0p, .inl (g.2.1, 16, .inl h0_pl')), (h0t, .inl (g.2.1, 256, .inl h0_st')), (k9, .inr (2, [.ref k9r, .int k9_size])), (k9r, .inl (g.2.2.2.1, 12, .inr (.inr (.inr (.inr k9_row)))))] H → va_D A [(h0, .inr (4, [.ref h0p, .ref h0t, .int h0_size', .int h0_solved'])), (h0p, .inl (g.2.1, 16, .inl h0_pl')), (h0t, .inl (g.2.1, 256, .inl h0_st')), (k9, .inr (2, [.ref k9r, .int k9_size])), (k9r, .inl (g.2.2.2.1, 12, .inr (.inr (.inr (.inr k9_row)))))] → va_S A s.heap H locs → ∀ (ls : Array Slot), lv_has ls 4 [(0, .ref h0), (1, .ref k9), (2, .int l2')] → W p l e (headSpec wsX4_solve ({ frames := 3, cells := 0, slots := 0, locals := 75 } : Room)).room s m ([.ref h0, .ref k9] : List Value).toArray below meth c H locs 0 0 (MQ below (va_Qv (fun (u : Int32 × Int32 × (Nat → Int32) × (Nat → Int32)) => Q u.1 u.2.1 u.2.2.1 u.2.2.2) (BM g (fun u : Int32 × Int32 × (Nat → Int32) × (Nat → Int32) => [(h0, .inr (4, [.ref h0p, .ref h0t, .int u.1, .int u.2.1])), (h0p, .inl (g.2.1, 16, .inl u.2.2.1)), (h0t, .inl (g.2.1, 256, .inl u.2.2.2)), (k9, .inr (2, [.ref k9r, .int k9_size])), (k9r, .inl (g.2.2.2.1, 12, .inr (.inr (.inr (.inr k9_row)))))]) A) A) ([.ref h0, .ref k9] : List Value).toArray s 0 0 A) (F0 m 24 ls []) := fun l2' h0_size' h0_solved' h0_pl' h0_st' h => ih l2' h0_size' h0_solved' h0_pl' h0_st' (Nat.lt_of_lt_of_le h.2 (Nat.le_of_lt_succ hn)) h.1
          refine lv_iload_n hx hb dX4_solve_24 rfl (lv_at hl 2 rfl) ?_
          refine lv_bipush (v := 64) hx hb dX4_solve_25 (by decide) ?_
          refine lv_icmp_ge (tgt := 89) hx hb dX4_solve_27 (by decide) (fun c3 => ?_) (fun c3 => ?_)
          · replace hw := hw.1 c3
            refine lv_aload_n hx hb dX4_solve_89 rfl (lv_at hl 0 rfl) ?_
            refine lv_iconst (v := 1) hx hb dX4_solve_90 (by decide) ?_
            refine va_put (D := g.1) (ci := 4) (v := .int 1) (ty := .boolean) (C := RX4) (T := TX4) (N := 4) hx hb hts hinX4 tyX4 tyX4_ok nmX4 hown hK hP hD hS 0 rfl rfl 3 (by decide) lk1 (fun _ h9 => h9) rfl (by decide +kernel) (zb_nar zb1) (zb_fit zb1) (Nat.le_of_ble_eq_true rfl) dX4_solve_91 (fun H locs hP hD hS => ?_)
            have hP : PP g [(h0, .inr (4, [.ref h0p, .ref h0t, .int h0_size, .int 1])), (h0p, .inl (g.2.1, 16, .inl h0_pl)), (h0t, .inl (g.2.1, 256, .inl h0_st)), (k9, .inr (2, [.ref k9r, .int k9_size])), (k9r, .inl (g.2.2.2.1, 12, .inr (.inr (.inr (.inr k9_row)))))] H := hP
            have hD : va_D A [(h0, .inr (4, [.ref h0p, .ref h0t, .int h0_size, .int 1])), (h0p, .inl (g.2.1, 16, .inl h0_pl)), (h0t, .inl (g.2.1, 256, .inl h0_st)), (k9, .inr (2, [.ref k9r, .int k9_size])), (k9r, .inl (g.2.2.2.1, 12, .inr (.inr (.inr (.inr k9_row)))))] := hD
            exact W.vret hx hb hr (fun t ht hW => ⟨⟨(h0_size, 1, h0_pl, h0_st), rfl, hw, by rw [ht]; exact hP, va_K.moved hW.alike hK, hD⟩, hS.F ht⟩) hS.2.2 dX4_solve_94
          · replace hw := hw.2 c3
            refine lv_aload_n hx hb dX4_solve_30 rfl (lv_at hl 0 rfl) ?_
            refine lv_aload_n hx hb dX4_solve_31 rfl (lv_at hl 1 rfl) ?_
            refine kn_Vi (As := [.ref k9]) (rest := []) (wc := [(h0, .inr (4, [.ref h0p, .ref h0t, .int h0_size, .int h0_solved])), (h0p, .inl (g.2.1, 16, .inl h0_pl)), (h0t, .inl (g.2.1, 256, .inl h0_st)), (k9, .inr (2, [.ref k9r, .int k9_size])), (k9r, .inl (g.2.2.2.1, 12, .inr (.inr (.inr (.inr k9_row)))))]) (wr := []) (cq := (RX4, TX4, 4)) ⟨hx, hb, hml, hown, hts⟩ (m_X4_strikeByClue l g (tb := tb) (pv := pv) (h0 := h0) (h0p := h0p) (h0t := h0t) (k9 := k9) (k9r := k9r) (h0_size := h0_size) (h0_solved := h0_solved) (h0_pl := h0_pl) (h0_st := h0_st) (k9_size := k9_size) (k9_row := k9_row) hw) (cwV 1 hts gX4_solve_X4_strikeByClue rfl rfl rfl hd_X4_strikeByClue ⟨Nat.le_of_ble_eq_true rfl, Nat.le_of_ble_eq_true rfl⟩) hok hK hP hD hS hA (ro_pass hok hro hS (va_free (wc := [(h0, .inr (4, [.ref h0p, .ref h0t, .int h0_size, .int h0_solved])), (h0p, .inl (g.2.1, 16, .inl h0_pl)), (h0t, .inl (g.2.1, 256, .inl h0_st)), (k9, .inr (2, [.ref k9r, .int k9_size])), (k9r, .inl (g.2.2.2.1, 12, .inr (.inr (.inr (.inr k9_row)))))]) hD hS hA [0, 1, 2, 3, 4] rfl)) [0, 1, 2, 3, 4] [] rfl rfl (by decide) (by decide) (by decide) (va_recv hK hP (ci := 4) (q0 := 0) rfl rfl) rfl hl.1 rfl (Nat.le_of_ble_eq_true rfl) dX4_solve_32 ⟨Nat.le_of_ble_eq_true rfl, Nat.le_of_ble_eq_true rfl⟩ (fun r7 u H locs hw hP hD hS => ?_)
            obtain ⟨w4, w5, w6⟩ := u
            have hP : PP g [(h0, .inr (4, [.ref h0p, .ref h0t, .int w4, .int h0_solved])), (h0p, .inl (g.2.1, 16, .inl w5)), (h0t, .inl (g.2.1, 256, .inl w6)), (k9, .inr (2, [.ref k9r, .int k9_size])), (k9r, .inl (g.2.2.2.1, 12, .inr (.inr (.inr (.inr k9_row)))))] H := hP
            have hD : va_D A [(h0, .inr (4, [.ref h0p, .ref h0t, .int w4, .int h0_solved])), (h0p, .inl (g.2.1, 16, .inl w5)), (h0t, .inl (g.2.1, 256, .inl w6)), (k9, .inr (2, [.ref k9r, .int k9_size])), (k9r, .inl (g.2.2.2.1, 12, .inr (.inr (.inr (.inr k9_row)))))] := hD
            refine lv_if_ne (tgt := 52) hx hb dX4_solve_35 (by decide) (fun c8 => ?_) (fun c8 => ?_)
            · replace hw := hw.2 c8
              refine lv_iconst (v := 1) hx hb dX4_solve_52 (by decide) ?_
              refine lv_goto (tgt := 57) hx hb dX4_solve_53 (by decide) ?_
              exact B57 (fun l2' h0_size' h0_solved' h0_pl' h0_st' => I24 l2' h0_size' h0_solved' h0_pl' h0_st' ∧ mu24 l2' h0_size' h0_solved' h0_pl' h0_st' < mu24 l2 h0_size h0_solved h0_pl h0_st) hK24 l2 1 w4 h0_solved w5 w6 hw  _ _ hP hD hS ls (lv_sub hl [0, 1, 2] rfl)
            · replace hw := hw.1 c8
              refine lv_aload_n hx hb dX4_solve_38 rfl (lv_at hl 0 rfl) ?_
              refine kn_Vi (As := []) (rest := []) (wc := [(h0, .inr (4, [.ref h0p, .ref h0t, .int w4, .int h0_solved])), (h0p, .inl (g.2.1, 16, .inl w5)), (h0t, .inl (g.2.1, 256, .inl w6))]) (wr := [(k9, .inr (2, [.ref k9r, .int k9_size])), (k9r, .inl (g.2.2.2.1, 12, .inr (.inr (.inr (.inr k9_row)))))]) (cq := (RX4, TX4, 4)) ⟨hx, hb, hml, hown, hts⟩ (m_X4_strikeByOnlyPlace l g hok (h0 := h0) (h0p := h0p) (h0t := h0t) (h0_size := w4) (h0_solved := h0_solved) (h0_pl := w5) (h0_st := w6) hw) (cwV 0 hts gX4_solve_X4_strikeByOnlyPlace rfl rfl rfl hd_X4_strikeByOnlyPlace ⟨Nat.le_of_ble_eq_true rfl, Nat.le_of_ble_eq_true rfl⟩) hok hK hP hD hS hA (ro_pass hok hro hS (va_free (wc := [(h0, .inr (4, [.ref h0p, .ref h0t, .int w4, .int h0_solved])), (h0p, .inl (g.2.1, 16, .inl w5)), (h0t, .inl (g.2.1, 256, .inl w6))]) hD hS hA [0, 1, 2] rfl)) [0, 1, 2] [3, 4] rfl rfl (by decide) (by decide) (by decide) (va_recv hK hP (ci := 4) (q0 := 0) rfl rfl) rfl hl.1 rfl (Nat.le_of_ble_eq_true rfl) dX4_solve_39 ⟨Nat.le_of_ble_eq_true rfl, Nat.le_of_ble_eq_true rfl⟩ (fun r14 u H locs hw hP hD hS => ?_)
              obtain ⟨w11, w12, w13⟩ := u
              have hP : PP g [(k9, .inr (2, [.ref k9r, .int k9_size])), (k9r, .inl (g.2.2.2.1, 12, .inr (.inr (.inr (.inr k9_row))))), (h0, .inr (4, [.ref h0p, .ref h0t, .int w11, .int h0_solved])), (h0p, .inl (g.2.1, 16, .inl w12)), (h0t, .inl (g.2.1, 256, .inl w13))] H := hP
              have hD : va_D A [(k9, .inr (2, [.ref k9r, .int k9_size])), (k9r, .inl (g.2.2.2.1, 12, .inr (.inr (.inr (.inr k9_row))))), (h0, .inr (4, [.ref h0p, .ref h0t, .int w11, .int h0_solved])), (h0p, .inl (g.2.1, 16, .inl w12)), (h0t, .inl (g.2.1, 256, .inl w13))] := hD
              refine lv_if_ne (tgt := 52) hx hb dX4_solve_42 (by decide) (fun c15 => ?_) (fun c15 => ?_)
              · replace hw := hw.2 c15
                refine lv_iconst (v := 1) hx hb dX4_solve_52 (by decide) ?_
                refine lv_goto (tgt := 57) hx hb dX4_solve_53 (by decide) ?_
                have hP := hP.sub (ws' := [(h0, .inr (4, [.ref h0p, .ref h0t, .int w11, .int h0_solved])), (h0p, .inl (g.2.1, 16, .inl w12)), (h0t, .inl (g.2.1, 256, .inl w13)), (k9, .inr (2, [.ref k9r, .int k9_size])), (k9r, .inl (g.2.2.2.1, 12, .inr (.inr (.inr (.inr k9_row)))))]) [2, 3, 4, 0, 1] rfl
                have hD := hD.sub (ws' := [(h0, .inr (4, [.ref h0p, .ref h0t, .int w11, .int h0_solved])), (h0p, .inl (g.2.1, 16, .inl w12)), (h0t, .inl (g.2.1, 256, .inl w13)), (k9, .inr (2, [.ref k9r, .int k9_size])), (k9r, .inl (g.2.2.2.1, 12, .inr (.inr (.inr (.inr k9_row)))))]) [2, 3, 4, 0, 1] (by decide) rfl
                exact B57 (fun l2' h0_size' h0_solved' h0_pl' h0_st' => I24 l2' h0_size' h0_solved' h0_pl' h0_st' ∧ mu24 l2' h0_size' h0_solved' h0_pl' h0_st' < mu24 l2 h0_size h0_solved h0_pl h0_st) hK24 l2 1 w11 h0_solved w12 w13 hw  _ _ hP hD hS ls (lv_sub hl [0, 1, 2] rfl)
              · replace hw := hw.1 c15
                refine lv_aload_n hx hb dX4_solve_45 rfl (lv_at hl 0 rfl) ?_
                refine kn_Vi (As := []) (rest := []) (wc := [(h0, .inr (4, [.ref h0p, .ref h0t, .int w11, .int h0_solved])), (h0p, .inl (g.2.1, 16, .inl w12)), (h0t, .inl (g.2.1, 256, .inl w13))]) (wr := [(k9, .inr (2, [.ref k9r, .int k9_size])), (k9r, .inl (g.2.2.2.1, 12, .inr (.inr (.inr (.inr k9_row)))))]) (cq := (RX4, TX4, 4)) ⟨hx, hb, hml, hown, hts⟩ (m_X4_strikeByOnlyItem l g (tb := tb) (pv := pv) (h0 := h0) (h0p := h0p) (h0t := h0t) (h0_size := w11) (h0_solved := h0_solved) (h0_pl := w12) (h0_st := w13) hw) (cwV 0 hts gX4_solve_X4_strikeByOnlyItem rfl rfl rfl hd_X4_strikeByOnlyItem ⟨Nat.le_of_ble_eq_true rfl, Nat.le_of_ble_eq_true rfl⟩) hok hK hP hD hS hA (ro_pass hok hro hS (va_free (wc := [(h0, .inr (4, [.ref h0p, .ref h0t, .int w11, .int h0_solved])), (h0p, .inl (g.2.1, 16, .inl w12)), (h0t, .inl (g.2.1, 256, .inl w13))]) hD hS hA [2, 3, 4] rfl)) [2, 3, 4] [0, 1] rfl rfl (by decide) (by decide) (by decide) (va_recv hK hP (ci := 4) (q0 := 2) rfl rfl) rfl hl.1 rfl (Nat.le_of_ble_eq_true rfl) dX4_solve_46 ⟨Nat.le_of_ble_eq_true rfl, Nat.le_of_ble_eq_true rfl⟩ (fun r19 u H locs hw hP hD hS => ?_)
                obtain ⟨w16, w17, w18⟩ := u
                have hP : PP g [(k9, .inr (2, [.ref k9r, .int k9_size])), (k9r, .inl (g.2.2.2.1, 12, .inr (.inr (.inr (.inr k9_row))))), (h0, .inr (4, [.ref h0p, .ref h0t, .int w16, .int h0_solved])), (h0p, .inl (g.2.1, 16, .inl w17)), (h0t, .inl (g.2.1, 256, .inl w18))] H := hP
                have hD : va_D A [(k9, .inr (2, [.ref k9r, .int k9_size])), (k9r, .inl (g.2.2.2.1, 12, .inr (.inr (.inr (.inr k9_row))))), (h0, .inr (4, [.ref h0p, .ref h0t, .int w16, .int h0_solved])), (h0p, .inl (g.2.1, 16, .inl w17)), (h0t, .inl (g.2.1, 256, .inl w18))] := hD
                refine lv_if_eq (tgt := 56) hx hb dX4_solve_49 (by decide) (fun c20 => ?_) (fun c20 => ?_)
                · replace hw := hw.1 c20
                  refine lv_iconst (v := 0) hx hb dX4_solve_56 (by decide) ?_
                  have hP := hP.sub (ws' := [(h0, .inr (4, [.ref h0p, .ref h0t, .int w16, .int h0_solved])), (h0p, .inl (g.2.1, 16, .inl w17)), (h0t, .inl (g.2.1, 256, .inl w18)), (k9, .inr (2, [.ref k9r, .int k9_size])), (k9r, .inl (g.2.2.2.1, 12, .inr (.inr (.inr (.inr k9_row)))))]) [2, 3, 4, 0, 1] rfl
                  have hD := hD.sub (ws' := [(h0, .inr (4, [.ref h0p, .ref h0t, .int w16, .int h0_solved])), (h0p, .inl (g.2.1, 16, .inl w17)), (h0t, .inl (g.2.1, 256, .inl w18)), (k9, .inr (2, [.ref k9r, .int k9_size])), (k9r, .inl (g.2.2.2.1, 12, .inr (.inr (.inr (.inr k9_row)))))]) [2, 3, 4, 0, 1] (by decide) rfl
                  exact B57 (fun l2' h0_size' h0_solved' h0_pl' h0_st' => I24 l2' h0_size' h0_solved' h0_pl' h0_st' ∧ mu24 l2' h0_size' h0_solved' h0_pl' h0_st' < mu24 l2 h0_size h0_solved h0_pl h0_st) hK24 l2 0 w16 h0_solved w17 w18 hw  _ _ hP hD hS ls (lv_sub hl [0, 1, 2] rfl)
                · replace hw := hw.2 c20
                  refine lv_iconst (v := 1) hx hb dX4_solve_52 (by decide) ?_
                  refine lv_goto (tgt := 57) hx hb dX4_solve_53 (by decide) ?_
                  have hP := hP.sub (ws' := [(h0, .inr (4, [.ref h0p, .ref h0t, .int w16, .int h0_solved])), (h0p, .inl (g.2.1, 16, .inl w17)), (h0t, .inl (g.2.1, 256, .inl w18)), (k9, .inr (2, [.ref k9r, .int k9_size])), (k9r, .inl (g.2.2.2.1, 12, .inr (.inr (.inr (.inr k9_row)))))]) [2, 3, 4, 0, 1] rfl
                  have hD := hD.sub (ws' := [(h0, .inr (4, [.ref h0p, .ref h0t, .int w16, .int h0_solved])), (h0p, .inl (g.2.1, 16, .inl w17)), (h0t, .inl (g.2.1, 256, .inl w18)), (k9, .inr (2, [.ref k9r, .int k9_size])), (k9r, .inl (g.2.2.2.1, 12, .inr (.inr (.inr (.inr k9_row)))))]) [2, 3, 4, 0, 1] (by decide) rfl
                  exact B57 (fun l2' h0_size' h0_solved' h0_pl' h0_st' => I24 l2' h0_size' h0_solved' h0_pl' h0_st' ∧ mu24 l2' h0_size' h0_solved' h0_pl' h0_st' < mu24 l2 h0_size h0_solved h0_pl h0_st) hK24 l2 1 w16 h0_solved w17 w18 hw  _ _ hP hD hS ls (lv_sub hl [0, 1, 2] rfl)
    exact key _ l2 h0_size h0_solved h0_pl h0_st (Nat.lt_succ_self _) hI
  have hl := lv_entry ([.ref h0, .ref k9]) (n := 4) (Nat.le_of_ble_eq_true rfl)
  rw [lg_entry_eq]
  generalize (lg_sl ([.ref h0, .ref k9]) ++ List.replicate (4 - (lg_sl ([.ref h0, .ref k9])).length) Slot.unset).toArray = ls at hl ⊢
  have hl : lv_has ls 4 [(0, .ref h0), (1, .ref k9)] := hl
  unfold wp_X4_solve at hw
  refine lv_aload_n hx hb dX4_solve_0 rfl (lv_at hl 0 rfl) ?_
  refine va_get (D := g.1) (ci := 4) (v := .int h0_solved) (C := RX4) (T := TX4) (N := 4) hx hb hts hinX4 hown hK hP 0 rfl rfl 3 (by decide) lk1 (fun _ h9 => h9) rfl dX4_solve_1 ?_
  refine lv_if_eq (tgt := 8) hx hb dX4_solve_4 (by decide) (fun c1 => ?_) (fun c1 => ?_)
  · replace hw := hw.1 c1
    refine lv_aload_n hx hb dX4_solve_8 rfl (lv_at hl 0 rfl) ?_
    refine va_get (D := g.1) (ci := 4) (v := .ref h0p) (C := RX4) (T := TX4) (N := 4) hx hb hts hinX4 hown hK hP 0 rfl rfl 0 (by decide) lk3 (fun _ h9 => h9) rfl dX4_solve_9 ?_
    refine lv_bipush (v := 30) hx hb dX4_solve_12 (by decide) ?_
    refine kn_Sv (As := [.ref h0p, .int 30]) (rest := []) (wc := [(h0p, .inl (g.2.1, 16, .inl h0_pl))]) (wr := [(h0, .inr (4, [.ref h0p, .ref h0t, .int h0_size, .int h0_solved])), (h0t, .inl (g.2.1, 256, .inl h0_st)), (k9, .inr (2, [.ref k9r, .int k9_size])), (k9r, .inl (g.2.2.2.1, 12, .inr (.inr (.inr (.inr k9_row)))))]) ⟨hx, hb, hml, hown, hts⟩ (m_J7_fill_53178 l g hok (a0 := h0p) (n0 := 16) (f0 := h0_pl) (x1 := 30) hw) (va_cwS 2 hts gX4_solve_J7_fill_53178 rfl rfl rfl hd_J7_fill_53178 ⟨Nat.le_of_ble_eq_true rfl, Nat.le_of_ble_eq_true rfl⟩) hok hK hP hD hS hA (ro_pass hok hro hS (va_free (wc := [(h0p, .inl (g.2.1, 16, .inl h0_pl))]) hD hS hA [1] rfl)) [1] [0, 2, 3, 4] rfl rfl (by decide) (by decide) (by decide)  rfl hl.1 rfl (Nat.le_of_ble_eq_true rfl) dX4_solve_14 ⟨Nat.le_of_ble_eq_true rfl, Nat.le_of_ble_eq_true rfl⟩ (fun w2 H locs hw hP hD hS => ?_)
    have hP : PP g [(h0, .inr (4, [.ref h0p, .ref h0t, .int h0_size, .int h0_solved])), (h0t, .inl (g.2.1, 256, .inl h0_st)), (k9, .inr (2, [.ref k9r, .int k9_size])), (k9r, .inl (g.2.2.2.1, 12, .inr (.inr (.inr (.inr k9_row))))), (h0p, .inl (g.2.1, 16, .inl w2))] H := hP
    have hD : va_D A [(h0, .inr (4, [.ref h0p, .ref h0t, .int h0_size, .int h0_solved])), (h0t, .inl (g.2.1, 256, .inl h0_st)), (k9, .inr (2, [.ref k9r, .int k9_size])), (k9r, .inl (g.2.2.2.1, 12, .inr (.inr (.inr (.inr k9_row))))), (h0p, .inl (g.2.1, 16, .inl w2))] := hD
    refine lv_aload_n hx hb dX4_solve_17 rfl (lv_at hl 0 rfl) ?_
    refine lv_iconst (v := 0) hx hb dX4_solve_18 (by decide) ?_
    refine va_put (D := g.1) (ci := 4) (v := .int 0) (ty := .int) (C := RX4) (T := TX4) (N := 4) hx hb hts hinX4 tyX4 tyX4_ok nmX4 hown hK hP hD hS 0 rfl rfl 2 (by decide) lk4 (fun _ h9 => h9) rfl (by decide +kernel) rfl rfl (Nat.le_of_ble_eq_true rfl) dX4_solve_19 (fun H locs hP hD hS => ?_)
    have hP : PP g [(h0, .inr (4, [.ref h0p, .ref h0t, .int 0, .int h0_solved])), (h0t, .inl (g.2.1, 256, .inl h0_st)), (k9, .inr (2, [.ref k9r, .int k9_size])), (k9r, .inl (g.2.2.2.1, 12, .inr (.inr (.inr (.inr k9_row))))), (h0p, .inl (g.2.1, 16, .inl w2))] H := hP
    have hD : va_D A [(h0, .inr (4, [.ref h0p, .ref h0t, .int 0, .int h0_solved])), (h0t, .inl (g.2.1, 256, .inl h0_st)), (k9, .inr (2, [.ref k9r, .int k9_size])), (k9r, .inl (g.2.2.2.1, 12, .inr (.inr (.inr (.inr k9_row))))), (h0p, .inl (g.2.1, 16, .inl w2))] := hD
    refine lv_iconst (v := 0) hx hb dX4_solve_22 (by decide) ?_
    refine lv_istore_n (lv' := [(2, .int 0), (0, .ref h0), (1, .ref k9)]) hx hb dX4_solve_23 rfl hl (by decide) rfl (fun ls hl => ?_)
    have hP := hP.sub (ws' := [(h0, .inr (4, [.ref h0p, .ref h0t, .int 0, .int h0_solved])), (h0p, .inl (g.2.1, 16, .inl w2)), (h0t, .inl (g.2.1, 256, .inl h0_st)), (k9, .inr (2, [.ref k9r, .int k9_size])), (k9r, .inl (g.2.2.2.1, 12, .inr (.inr (.inr (.inr k9_row)))))]) [0, 4, 1, 2, 3] rfl
    have hD := hD.sub (ws' := [(h0, .inr (4, [.ref h0p, .ref h0t, .int 0, .int h0_solved])), (h0p, .inl (g.2.1, 16, .inl w2)), (h0t, .inl (g.2.1, 256, .inl h0_st)), (k9, .inr (2, [.ref k9r, .int k9_size])), (k9r, .inl (g.2.2.2.1, 12, .inr (.inr (.inr (.inr k9_row)))))]) [0, 4, 1, 2, 3] (by decide) rfl
    exact B24  0 0 h0_solved w2 h0_st hw  _ _ hP hD hS ls (lv_sub hl [1, 2, 0] rfl)
  · replace hw := hw.2 c1
    exact W.vret hx hb hr (fun t ht hW => ⟨⟨(h0_size, h0_solved, h0_pl, h0_st), rfl, hw, by rw [ht]; exact hP, va_K.moved hW.alike hK, hD⟩, hS.F ht⟩) hS.2.2 dX4_solve_7

def wp_X4_leftBehind_16 (Q : Int32 → Prop) (x1 : Int32) (h0_st : Nat → Int32)  (l3 : Int32) (l4 : Int32) (l5 : Int32) : Prop :=
  ∃ (I16 : Int32 → Int32 → Int32 → Prop) (mu16 : Int32 → Int32 → Int32 → Nat), I16 l3 l4 l5 ∧ ∀ (l3 : Int32) (l4 : Int32) (l5 : Int32), I16 l3 l4 l5 → ((l4 ≤ l5 → Q l3) ∧ (¬ (l4 ≤ l5) → (vp_in ((4 * l5) + 2) 256 ∧ (((h0_st ((4 * l5) + 2).toNatClampNeg) = x1 → (vp_in ((4 * l5) + 3) 256 ∧ ∀ w4 : Int32, w4 = (l3 &&& ((1 <<< ((h0_st ((4 * l5) + 3).toNatClampNeg) &&& 31)) ^^^ (-1))) → (I16 w4 l4 (l5 + 1) ∧ mu16 w4 l4 (l5 + 1) < mu16 l3 l4 l5))) ∧ (¬ ((h0_st ((4 * l5) + 2).toNatClampNeg) = x1) → (I16 l3 l4 (l5 + 1) ∧ mu16 l3 l4 (l5 + 1) < mu16 l3 l4 l5))))))
def wp_X4_leftBehind (x1 : Int32) (x2 : Int32) (h0_size : Int32) (h0_st : Nat → Int32) (Q : Int32 → Prop) : Prop :=
  ∀ w1 : Int32, w1 = (if h0_size < x2 then h0_size else x2) → wp_X4_leftBehind_16 Q x1 h0_st  30 w1 0
theorem hd_X4_leftBehind : yX4_leftBehind.cls = RX4 ∧ yX4_leftBehind.cls ≠ "java/lang/invoke/MethodHandle" ∧ yX4_leftBehind.cls ≠ "java/lang/invoke/VarHandle" ∧ (parseMethodDescriptor yX4_leftBehind.desc).map (fun d => d.parameters.length) = some 2 := by decide +kernel
set_option maxHeartbeats 4000000 in
set_option maxRecDepth 100000 in
theorem m_X4_leftBehind (l : Launch) (g : GG) {ro : Ro} (hok : RoOK ro) {h0 h0p h0t : Nat} {h0_size : Int32} {h0_solved : Int32} {h0_pl : Nat → Int32} {h0_st : Nat → Int32} {x1 : Int32} {x2 : Int32} {Q : Int32 → Prop} (hw : wp_X4_leftBehind x1 x2 h0_size h0_st Q) : Met l yX4_leftBehind wsX4_leftBehind ({ frames := 1, cells := 0, slots := 0, locals := 21 } : Room) (PcP g ro [(h0, .inr (4, [.ref h0p, .ref h0t, .int h0_size, .int h0_solved])), (h0p, .inl (g.2.1, 16, .inl h0_pl)), (h0t, .inl (g.2.1, 256, .inl h0_st))] [.ref h0, .int x1, .int x2]) (vp_Si Q) 0 0 (fun _ => False) := by
  refine Met.ofW (cc := cX4_leftBehind) (maxL := 6) (ret := (some .int)) (by decide) rfl ?_
  intro p e s m args below meth c s₁ B hml hv
  obtain ⟨rfl, hP, hK, hro⟩ := hv
  have hx := B.exec
  have hb := B.bytes
  have hr := B.returns
  have hts := atoms_spec (ws := wsX4_leftBehind) B.pre
  have hown : s.vm.findClass RX4 = some m.cls := findClass_of_methodNamed B.named
  have hlocks := B.notSynchronized
  have hA : ∀ q : Nat, s.heap.size ≤ q → (fun q : Nat => s.heap.size ≤ q) q := fun _ h => h
  have hS : va_S (fun q : Nat => s.heap.size ≤ q) s.heap s.heap [] := va_S.rf
  have hP : PP g [(h0, .inr (4, [.ref h0p, .ref h0t, .int h0_size, .int h0_solved])), (h0p, .inl (g.2.1, 16, .inl h0_pl)), (h0t, .inl (g.2.1, 256, .inl h0_st))] s.heap := hP
  have lk1 := hts (.fieldLink RX4 18 "GridRiddles$Strikes" "size" "I") (by decide +kernel)
  have hinX4 : ∀ w ∈ u_ws RX4 TX4 4, w ∈ wsX4_leftBehind := by decide +kernel
  have lk3 := hts (.methodLink RX4 105 Lib.Math.min.name) (by decide +kernel)
  have lk4 := hts (.static Lib.Math.min.name) (by decide +kernel)
  have lk5 := hts (.initialized "java/lang/Math") (by decide +kernel)
  have lk6 := hts (.code Lib.Math.min.name Lib.Math.min.code 2 (some .int)) (by decide +kernel)
  have lk7 := hts (.fieldLink RX4 15 "GridRiddles$Strikes" "steps" "[I") (by decide +kernel)
  have B16 : ∀ (l3 : Int32) (l4 : Int32) (l5 : Int32), wp_X4_leftBehind_16 Q x1 h0_st  l3 l4 l5 → ∀ (ls : Array Slot), lv_has ls 6 [(0, .ref h0), (1, .int x1), (3, .int l3), (4, .int l4), (5, .int l5)] → W p l e (headSpec wsX4_leftBehind ({ frames := 1, cells := 0, slots := 0, locals := 21 } : Room)).room s m ([.ref h0, .int x1, .int x2] : List Value).toArray below meth c s.heap [] 0 0 (MQ below (vp_Si Q) ([.ref h0, .int x1, .int x2] : List Value).toArray s 0 0 (fun _ => False)) (F0 m 16 ls []) := by
    intro  l3 l4 l5 hw
    obtain ⟨I16, mu16, hI, hstep⟩ := hw
    have key : ∀ (n : Nat) (l3 : Int32) (l4 : Int32) (l5 : Int32), mu16 l3 l4 l5 < n → I16 l3 l4 l5 → ∀ (ls : Array Slot), lv_has ls 6 [(0, .ref h0), (1, .int x1), (3, .int l3), (4, .int l4), (5, .int l5)] → W p l e (headSpec wsX4_leftBehind ({ frames := 1, cells := 0, slots := 0, locals := 21 } : Room)).room s m ([.ref h0, .int x1, .int x2] : List Value).toArray below meth c s.heap [] 0 0 (MQ below (vp_Si Q) ([.ref h0, .int x1, .int x2] : List Value).toArray s 0 0 (fun _ => False)) (F0 m 16 ls []) := by
      intro n
      induction n with
      | zero => intro l3 l4 l5 h; exact absurd h (Nat.not_lt_zero _)
      | succ n ih =>
          intro l3 l4 l5 hn hI ls hl
          have hw := hstep l3 l4 l5 hI
          have hK16 : ∀ (l3' : Int32) (l4' : Int32) (l5' : Int32), (I16 l3' l4' l5' ∧ mu16 l3' l4' l5' < mu16 l3 l4 l5) → ∀ (ls : Array Slot), lv_has ls 6 [(0, .ref h0), (1, .int x1), (3, .int l3'), (4, .int l4'), (5, .int l5')] → W p l e (headSpec wsX4_leftBehind ({ frames := 1, cells := 0, slots := 0, locals := 21 } : Room)).room s m ([.ref h0, .int x1, .int x2] : List Value).toArray below meth c s.heap [] 0 0 (MQ below (vp_Si Q) ([.ref h0, .int x1, .int x2] : List Value).toArray s 0 0 (fun _ => False)) (F0 m 16 ls []) := fun l3' l4' l5' h => ih l3' l4' l5' (Nat.lt_of_lt_of_le h.2 (Nat.le_of_lt_succ hn)) h.1
          refine lv_iload hx hb dX4_leftBehind_16 (lv_at hl 4 rfl) ?_
          refine lv_iload hx hb dX4_leftBehind_18 (lv_at hl 3 rfl) ?_
          refine lv_icmp_ge (tgt := 62) hx hb dX4_leftBehind_20 (by decide) (fun c2 => ?_) (fun c2 => ?_)
          · replace hw := hw.1 c2
            refine lv_iload_n hx hb dX4_leftBehind_62 rfl (lv_at hl 2 rfl) ?_
            exact W.iret hx hb hr (fun t ht _ => ⟨l3, rfl, hw, ht⟩) t_nil dX4_leftBehind_63
          · replace hw := hw.2 c2
            refine lv_aload_n hx hb dX4_leftBehind_23 rfl (lv_at hl 0 rfl) ?_
            refine va_get (D := g.1) (ci := 4) (v := .ref h0t) (C := RX4) (T := TX4) (N := 4) hx hb hts hinX4 hown hK hP 0 rfl rfl 1 (by decide) lk7 (fun _ h9 => h9) rfl dX4_leftBehind_24 ?_
            refine lv_iconst (v := 4) hx hb dX4_leftBehind_27 (by decide) ?_
            refine lv_iload hx hb dX4_leftBehind_28 (lv_at hl 4 rfl) ?_
            refine lv_imul hx hb dX4_leftBehind_30 ?_
            refine lv_iconst (v := 2) hx hb dX4_leftBehind_31 (by decide) ?_
            refine lv_iadd hx hb dX4_leftBehind_32 ?_
            obtain ⟨hi, hw⟩ := hw
            refine va_iald hx hb hK hP 2 0 rfl rfl hi dX4_leftBehind_33 ?_
            refine lv_iload_n hx hb dX4_leftBehind_34 rfl (lv_at hl 1 rfl) ?_
            refine lv_icmp_ne (tgt := 56) hx hb dX4_leftBehind_35 (by decide) (fun c3 => ?_) (fun c3 => ?_)
            · replace hw := hw.2 c3
              refine lv_iinc (v := (l5 + 1)) (lv' := [(5, .int (l5 + 1)), (0, .ref h0), (1, .int x1), (3, .int l3), (4, .int l4)]) hx hb dX4_leftBehind_56 hl (k := 4) rfl rfl (by decide) rfl (fun ls hl => ?_)
              refine lv_goto (tgt := 16) hx hb dX4_leftBehind_59 (by decide) ?_
              exact hK16 l3 l4 (l5 + 1) hw ls (lv_sub hl [1, 2, 3, 4, 0] rfl)
            · replace hw := hw.1 c3
              refine lv_iload_n hx hb dX4_leftBehind_38 rfl (lv_at hl 2 rfl) ?_
              refine lv_iconst (v := 1) hx hb dX4_leftBehind_39 (by decide) ?_
              refine lv_aload_n hx hb dX4_leftBehind_40 rfl (lv_at hl 0 rfl) ?_
              refine va_get (D := g.1) (ci := 4) (v := .ref h0t) (C := RX4) (T := TX4) (N := 4) hx hb hts hinX4 hown hK hP 0 rfl rfl 1 (by decide) lk7 (fun _ h9 => h9) rfl dX4_leftBehind_41 ?_
              refine lv_iconst (v := 4) hx hb dX4_leftBehind_44 (by decide) ?_
              refine lv_iload hx hb dX4_leftBehind_45 (lv_at hl 4 rfl) ?_
              refine lv_imul hx hb dX4_leftBehind_47 ?_
              refine lv_iconst (v := 3) hx hb dX4_leftBehind_48 (by decide) ?_
              refine lv_iadd hx hb dX4_leftBehind_49 ?_
              obtain ⟨hi, hw⟩ := hw
              refine va_iald hx hb hK hP 2 0 rfl rfl hi dX4_leftBehind_50 ?_
              refine lv_ishl hx hb dX4_leftBehind_51 ?_
              refine lv_iconst (v := (-1)) hx hb dX4_leftBehind_52 (by decide) ?_
              refine lv_ixor hx hb dX4_leftBehind_53 ?_
              refine lv_iand hx hb dX4_leftBehind_54 ?_
              refine lv_topi (fun w4 ew4 => ?_)
              have hw := hw w4 ew4
              refine lv_istore_n (lv' := [(3, .int w4), (0, .ref h0), (1, .int x1), (4, .int l4), (5, .int l5)]) hx hb dX4_leftBehind_55 rfl hl (by decide) rfl (fun ls hl => ?_)
              refine lv_iinc (v := (l5 + 1)) (lv' := [(5, .int (l5 + 1)), (3, .int w4), (0, .ref h0), (1, .int x1), (4, .int l4)]) hx hb dX4_leftBehind_56 hl (k := 4) rfl rfl (by decide) rfl (fun ls hl => ?_)
              refine lv_goto (tgt := 16) hx hb dX4_leftBehind_59 (by decide) ?_
              exact hK16 w4 l4 (l5 + 1) hw ls (lv_sub hl [2, 3, 1, 4, 0] rfl)
    exact key _ l3 l4 l5 (Nat.lt_succ_self _) hI
  have hl := lv_entry ([.ref h0, .int x1, .int x2]) (n := 6) (Nat.le_of_ble_eq_true rfl)
  rw [lg_entry_eq]
  generalize (lg_sl ([.ref h0, .int x1, .int x2]) ++ List.replicate (6 - (lg_sl ([.ref h0, .int x1, .int x2])).length) Slot.unset).toArray = ls at hl ⊢
  have hl : lv_has ls 6 [(0, .ref h0), (1, .int x1), (2, .int x2)] := hl
  unfold wp_X4_leftBehind at hw
  refine lv_bipush (v := 30) hx hb dX4_leftBehind_0 (by decide) ?_
  refine lv_istore_n (lv' := [(3, .int 30), (0, .ref h0), (1, .int x1), (2, .int x2)]) hx hb dX4_leftBehind_2 rfl hl (by decide) rfl (fun ls hl => ?_)
  refine lv_iload_n hx hb dX4_leftBehind_3 rfl (lv_at hl 3 rfl) ?_
  refine lv_aload_n hx hb dX4_leftBehind_4 rfl (lv_at hl 1 rfl) ?_
  refine va_get (D := g.1) (ci := 4) (v := .int h0_size) (C := RX4) (T := TX4) (N := 4) hx hb hts hinX4 hown hK hP 0 rfl rfl 2 (by decide) lk1 (fun _ h9 => h9) rfl dX4_leftBehind_5 ?_
  refine va_mmin hx hb (hml.trans hl.1.symm) hown lk3 lk4 lk5 lk6 (Nat.le_of_ble_eq_true rfl) (Nat.le_of_ble_eq_true rfl) (Nat.le_of_ble_eq_true rfl) (Nat.le_of_ble_eq_true rfl) dX4_leftBehind_8 ?_
  refine lv_topi (fun w1 ew1 => ?_)
  have hw := hw w1 ew1
  refine lv_istore (lv' := [(4, .int w1), (3, .int 30), (0, .ref h0), (1, .int x1), (2, .int x2)]) hx hb dX4_leftBehind_11 hl (by decide) rfl (fun ls hl => ?_)
  refine lv_iconst (v := 0) hx hb dX4_leftBehind_13 (by decide) ?_
  refine lv_istore (lv' := [(5, .int 0), (4, .int w1), (3, .int 30), (0, .ref h0), (1, .int x1), (2, .int x2)]) hx hb dX4_leftBehind_14 hl (by decide) rfl (fun ls hl => ?_)
  exact B16  30 w1 0 hw ls (lv_sub hl [3, 4, 2, 1, 0] rfl)

def wp_X4_howItEnds_4 (Q : Int32 → Prop) (h0_pl : Nat → Int32)  (l1 : Int32) (l2 : Int32) : Prop :=
  ∃ (I4 : Int32 → Int32 → Prop) (mu4 : Int32 → Int32 → Nat), I4 l1 l2 ∧ ∀ (l1 : Int32) (l2 : Int32), I4 l1 l2 → ((16 ≤ l2 → Q l1) ∧ (¬ (16 ≤ l2) → (vp_in l2 16 ∧ (((h0_pl l2.toNatClampNeg) = 0 → Q 2) ∧ (¬ ((h0_pl l2.toNatClampNeg) = 0) → (vp_in l2 16 ∧ (wp_J6_bitCount_0f7a4 (h0_pl l2.toNatClampNeg) (fun r3 => ((r3 ≤ 1 → (I4 l1 (l2 + 1) ∧ mu4 l1 (l2 + 1) < mu4 l1 l2)) ∧ (¬ (r3 ≤ 1) → (I4 1 (l2 + 1) ∧ mu4 1 (l2 + 1) < mu4 l1 l2)))))))))))
def wp_X4_howItEnds (h0_pl : Nat → Int32) (Q : Int32 → Prop) : Prop :=
  wp_X4_howItEnds_4 Q h0_pl  0 0
theorem hd_X4_howItEnds : yX4_howItEnds.cls = RX4 ∧ yX4_howItEnds.cls ≠ "java/lang/invoke/MethodHandle" ∧ yX4_howItEnds.cls ≠ "java/lang/invoke/VarHandle" ∧ (parseMethodDescriptor yX4_howItEnds.desc).map (fun d => d.parameters.length) = some 0 := by decide +kernel
set_option maxHeartbeats 4000000 in
set_option maxRecDepth 100000 in
theorem m_X4_howItEnds (l : Launch) (g : GG) {ro : Ro} (hok : RoOK ro) {h0 h0p h0t : Nat} {h0_size : Int32} {h0_solved : Int32} {h0_pl : Nat → Int32} {h0_st : Nat → Int32} {Q : Int32 → Prop} (hw : wp_X4_howItEnds h0_pl Q) : Met l yX4_howItEnds wsX4_howItEnds ({ frames := 1, cells := 0, slots := 0, locals := 20 } : Room) (PcP g ro [(h0, .inr (4, [.ref h0p, .ref h0t, .int h0_size, .int h0_solved])), (h0p, .inl (g.2.1, 16, .inl h0_pl)), (h0t, .inl (g.2.1, 256, .inl h0_st))] [.ref h0]) (vp_Si Q) 0 0 (fun _ => False) := by
  refine Met.ofW (cc := cX4_howItEnds) (maxL := 3) (ret := (some .int)) (by decide) rfl ?_
  intro p e s m args below meth c s₁ B hml hv
  obtain ⟨rfl, hP, hK, hro⟩ := hv
  have hx := B.exec
  have hb := B.bytes
  have hr := B.returns
  have hts := atoms_spec (ws := wsX4_howItEnds) B.pre
  have hown : s.vm.findClass RX4 = some m.cls := findClass_of_methodNamed B.named
  have hlocks := B.notSynchronized
  have hA : ∀ q : Nat, s.heap.size ≤ q → (fun q : Nat => s.heap.size ≤ q) q := fun _ h => h
  have hS : va_S (fun q : Nat => s.heap.size ≤ q) s.heap s.heap [] := va_S.rf
  have hP : PP g [(h0, .inr (4, [.ref h0p, .ref h0t, .int h0_size, .int h0_solved])), (h0p, .inl (g.2.1, 16, .inl h0_pl)), (h0t, .inl (g.2.1, 256, .inl h0_st))] s.heap := hP
  have lk1 := hts (.fieldLink RX4 9 "GridRiddles$Strikes" "places" "[I") (by decide +kernel)
  have hinX4 : ∀ w ∈ u_ws RX4 TX4 4, w ∈ wsX4_howItEnds := by decide +kernel
  have B4 : ∀ (l1 : Int32) (l2 : Int32), wp_X4_howItEnds_4 Q h0_pl  l1 l2 → ∀ (ls : Array Slot), lv_has ls 3 [(0, .ref h0), (1, .int l1), (2, .int l2)] → W p l e (headSpec wsX4_howItEnds ({ frames := 1, cells := 0, slots := 0, locals := 20 } : Room)).room s m ([.ref h0] : List Value).toArray below meth c s.heap [] 0 0 (MQ below (vp_Si Q) ([.ref h0] : List Value).toArray s 0 0 (fun _ => False)) (F0 m 4 ls []) := by
    intro  l1 l2 hw
    obtain ⟨I4, mu4, hI, hstep⟩ := hw
    have key : ∀ (n : Nat) (l1 : Int32) (l2 : Int32), mu4 l1 l2 < n → I4 l1 l2 → ∀ (ls : Array Slot), lv_has ls 3 [(0, .ref h0), (1, .int l1), (2, .int l2)] → W p l e (headSpec wsX4_howItEnds ({ frames := 1, cells := 0, slots := 0, locals := 20 } : Room)).room s m ([.ref h0] : List Value).toArray below meth c s.heap [] 0 0 (MQ below (vp_Si Q) ([.ref h0] : List Value).toArray s 0 0 (fun _ => False)) (F0 m 4 ls []) := by
      intro n
      induction n with
      | zero => intro l1 l2 h; exact absurd h (Nat.not_lt_zero _)
      | succ n ih =>
          intro l1 l2 hn hI ls hl
          have hw := hstep l1 l2 hI
          have hK4 : ∀ (l1' : Int32) (l2' : Int32), (I4 l1' l2' ∧ mu4 l1' l2' < mu4 l1 l2) → ∀ (ls : Array Slot), lv_has ls 3 [(0, .ref h0), (1, .int l1'), (2, .int l2')] → W p l e (headSpec wsX4_howItEnds ({ frames := 1, cells := 0, slots := 0, locals := 20 } : Room)).room s m ([.ref h0] : List Value).toArray below meth c s.heap [] 0 0 (MQ below (vp_Si Q) ([.ref h0] : List Value).toArray s 0 0 (fun _ => False)) (F0 m 4 ls []) := fun l1' l2' h => ih l1' l2' (Nat.lt_of_lt_of_le h.2 (Nat.le_of_lt_succ hn)) h.1
          refine lv_iload_n hx hb dX4_howItEnds_4 rfl (lv_at hl 2 rfl) ?_
          refine lv_bipush (v := 16) hx hb dX4_howItEnds_5 (by decide) ?_
          refine lv_icmp_ge (tgt := 42) hx hb dX4_howItEnds_7 (by decide) (fun c1 => ?_) (fun c1 => ?_)
          · replace hw := hw.1 c1
            refine lv_iload_n hx hb dX4_howItEnds_42 rfl (lv_at hl 1 rfl) ?_
            exact W.iret hx hb hr (fun t ht _ => ⟨l1, rfl, hw, ht⟩) t_nil dX4_howItEnds_43
          · replace hw := hw.2 c1
            refine lv_aload_n hx hb dX4_howItEnds_10 rfl (lv_at hl 0 rfl) ?_
            refine va_get (D := g.1) (ci := 4) (v := .ref h0p) (C := RX4) (T := TX4) (N := 4) hx hb hts hinX4 hown hK hP 0 rfl rfl 0 (by decide) lk1 (fun _ h9 => h9) rfl dX4_howItEnds_11 ?_
            refine lv_iload_n hx hb dX4_howItEnds_14 rfl (lv_at hl 2 rfl) ?_
            obtain ⟨hi, hw⟩ := hw
            refine va_iald hx hb hK hP 1 0 rfl rfl hi dX4_howItEnds_15 ?_
            refine lv_if_ne (tgt := 21) hx hb dX4_howItEnds_16 (by decide) (fun c2 => ?_) (fun c2 => ?_)
            · replace hw := hw.2 c2
              refine lv_aload_n hx hb dX4_howItEnds_21 rfl (lv_at hl 0 rfl) ?_
              refine va_get (D := g.1) (ci := 4) (v := .ref h0p) (C := RX4) (T := TX4) (N := 4) hx hb hts hinX4 hown hK hP 0 rfl rfl 0 (by decide) lk1 (fun _ h9 => h9) rfl dX4_howItEnds_22 ?_
              refine lv_iload_n hx hb dX4_howItEnds_25 rfl (lv_at hl 2 rfl) ?_
              obtain ⟨hi, hw⟩ := hw
              refine va_iald hx hb hK hP 1 0 rfl rfl hi dX4_howItEnds_26 ?_
              refine kp_S (As := [.int (h0_pl l2.toNatClampNeg)]) (rest := []) (wc := []) ⟨hx, hb, hml, hown, hts⟩ (m_J6_bitCount_0f7a4 l g hok (x1 := (h0_pl l2.toNatClampNeg)) hw) (va_cwS 1 hts gX4_howItEnds_J6_bitCount_0f7a4 rfl rfl rfl hd_J6_bitCount_0f7a4 ⟨Nat.le_of_ble_eq_true rfl, Nat.le_of_ble_eq_true rfl⟩) hok hK PP_nil hro hS hA rfl hl.1 rfl (Nat.le_of_ble_eq_true rfl) dX4_howItEnds_27 ⟨Nat.le_of_ble_eq_true rfl, Nat.le_of_ble_eq_true rfl⟩ (fun r3 hw => ?_)
              refine lv_iconst (v := 1) hx hb dX4_howItEnds_30 (by decide) ?_
              refine lv_icmp_le (tgt := 36) hx hb dX4_howItEnds_31 (by decide) (fun c4 => ?_) (fun c4 => ?_)
              · replace hw := hw.1 c4
                refine lv_iinc (v := (l2 + 1)) (lv' := [(2, .int (l2 + 1)), (0, .ref h0), (1, .int l1)]) hx hb dX4_howItEnds_36 hl (k := 2) rfl rfl (by decide) rfl (fun ls hl => ?_)
                refine lv_goto (tgt := 4) hx hb dX4_howItEnds_39 (by decide) ?_
                exact hK4 l1 (l2 + 1) hw ls (lv_sub hl [1, 2, 0] rfl)
              · replace hw := hw.2 c4
                refine lv_iconst (v := 1) hx hb dX4_howItEnds_34 (by decide) ?_
                refine lv_istore_n (lv' := [(1, .int 1), (0, .ref h0), (2, .int l2)]) hx hb dX4_howItEnds_35 rfl hl (by decide) rfl (fun ls hl => ?_)
                refine lv_iinc (v := (l2 + 1)) (lv' := [(2, .int (l2 + 1)), (1, .int 1), (0, .ref h0)]) hx hb dX4_howItEnds_36 hl (k := 2) rfl rfl (by decide) rfl (fun ls hl => ?_)
                refine lv_goto (tgt := 4) hx hb dX4_howItEnds_39 (by decide) ?_
                exact hK4 1 (l2 + 1) hw ls (lv_sub hl [2, 1, 0] rfl)
            · replace hw := hw.1 c2
              refine lv_iconst (v := 2) hx hb dX4_howItEnds_19 (by decide) ?_
              exact W.iret hx hb hr (fun t ht _ => ⟨2, rfl, hw, ht⟩) t_nil dX4_howItEnds_20
    exact key _ l1 l2 (Nat.lt_succ_self _) hI
  have hl := lv_entry ([.ref h0]) (n := 3) (Nat.le_of_ble_eq_true rfl)
  rw [lg_entry_eq]
  generalize (lg_sl ([.ref h0]) ++ List.replicate (3 - (lg_sl ([.ref h0])).length) Slot.unset).toArray = ls at hl ⊢
  have hl : lv_has ls 3 [(0, .ref h0)] := hl
  unfold wp_X4_howItEnds at hw
  refine lv_iconst (v := 0) hx hb dX4_howItEnds_0 (by decide) ?_
  refine lv_istore_n (lv' := [(1, .int 0), (0, .ref h0)]) hx hb dX4_howItEnds_1 rfl hl (by decide) rfl (fun ls hl => ?_)
  refine lv_iconst (v := 0) hx hb dX4_howItEnds_2 (by decide) ?_
  refine lv_istore_n (lv' := [(2, .int 0), (1, .int 0), (0, .ref h0)]) hx hb dX4_howItEnds_3 rfl hl (by decide) rfl (fun ls hl => ?_)
  exact B4  0 0 hw ls (lv_sub hl [2, 1, 0] rfl)
