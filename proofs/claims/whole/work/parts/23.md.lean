def wp_X7_step (x1 : Int32) (x2 : Int32) (zclues : Nat → Int32) (zmany : Int32) (zlefts : Nat → Int32) (zsteps : Nat → Int32) (zmade : Int32) (Q : Int32 → Int32 → (Nat → Int32) → (Nat → Int32) → Prop) : Prop :=
  ((x1 < (-1) → Q (-2) zmade zlefts zsteps) ∧ (¬ (x1 < (-1)) → (wp_X7_in x2 0 3 (fun r2 => ((r2 = 0 → Q (-2) zmade zlefts zsteps) ∧ (¬ (r2 = 0) → (wp_X7_solve 64 zclues zmany zlefts zsteps (fun w4 w5 w6 => ((x1 = (-1) → Q w4 w4 w5 w6) ∧ (¬ (x1 = (-1)) → ((w4 ≤ x1 → Q (-6) w4 w5 w6) ∧ (¬ (w4 ≤ x1) → (vp_in ((4 * x1) + x2) 256 ∧ Q (w6 ((4 * x1) + x2).toNatClampNeg) w4 w5 w6)))))))))))))
theorem hd_X7_step : yX7_step.cls = RX7 ∧ yX7_step.cls ≠ "java/lang/invoke/MethodHandle" ∧ yX7_step.cls ≠ "java/lang/invoke/VarHandle" ∧ (parseMethodDescriptor yX7_step.desc).map (fun d => d.parameters.length) = some 2 := by decide +kernel
set_option maxHeartbeats 4000000 in
set_option maxRecDepth 100000 in
theorem m_X7_step (l : Launch) (g : GG) {ro : Ro} (hok : RoOK ro) {h0 a_clues a_text a_orders a_places a_lefts a_steps a_image a_isKept : Nat} {zclues : Nat → Int32} {zmany : Int32} {ztext : Nat → Int32} {zsigns : Int32} {zfault : Int32} {zorders : Nat → Int32} {zplaces : Nat → Int32} {zsought : Int32} {zfirst : Int32} {zsecond : Int32} {zlefts : Nat → Int32} {zsteps : Nat → Int32} {zmade : Int32} {zimage : Nat → Int32} {zisKept : Nat → Int32} {x1 : Int32} {x2 : Int32} {sz : Nat} {Q : Int32 → Int32 → (Nat → Int32) → (Nat → Int32) → Prop} (hw : wp_X7_step x1 x2 zclues zmany zlefts zsteps zmade Q) : Met l yX7_step wsX7_step ({ frames := 5, cells := 0, slots := 0, locals := 124 } : Room) (PcM g ro [(h0, .inr (7, [.ref a_clues, .int zmany, .ref a_text, .int zsigns, .int zfault, .ref a_orders, .ref a_places, .int zsought, .int zfirst, .int zsecond, .ref a_lefts, .ref a_steps, .int zmade, .ref a_image, .ref a_isKept])), (a_clues, .inl (g.2.1, 60, .inl zclues)), (a_text, .inl (g.2.1, 10, .inl ztext)), (a_orders, .inl (g.2.1, 96, .inl zorders)), (a_places, .inl (g.2.1, 16, .inl zplaces)), (a_lefts, .inl (g.2.1, 16, .inl zlefts)), (a_steps, .inl (g.2.1, 256, .inl zsteps)), (a_image, .inl (g.2.1, 122, .inl zimage)), (a_isKept, .inl (g.2.2.1, 2, .inl zisKept))] sz [.ref h0, .int x1, .int x2]) (va_Qi (fun (r : Int32) (u : Int32 × (Nat → Int32) × (Nat → Int32)) => Q r u.1 u.2.1 u.2.2) (BM g (fun u : Int32 × (Nat → Int32) × (Nat → Int32) => [(h0, .inr (7, [.ref a_clues, .int zmany, .ref a_text, .int zsigns, .int zfault, .ref a_orders, .ref a_places, .int zsought, .int zfirst, .int zsecond, .ref a_lefts, .ref a_steps, .int u.1, .ref a_image, .ref a_isKept])), (a_clues, .inl (g.2.1, 60, .inl zclues)), (a_text, .inl (g.2.1, 10, .inl ztext)), (a_orders, .inl (g.2.1, 96, .inl zorders)), (a_places, .inl (g.2.1, 16, .inl zplaces)), (a_lefts, .inl (g.2.1, 16, .inl u.2.1)), (a_steps, .inl (g.2.1, 256, .inl u.2.2)), (a_image, .inl (g.2.1, 122, .inl zimage)), (a_isKept, .inl (g.2.2.1, 2, .inl zisKept))]) (va_A [(h0, .inr (7, [.ref a_clues, .int zmany, .ref a_text, .int zsigns, .int zfault, .ref a_orders, .ref a_places, .int zsought, .int zfirst, .int zsecond, .ref a_lefts, .ref a_steps, .int zmade, .ref a_image, .ref a_isKept])), (a_clues, .inl (g.2.1, 60, .inl zclues)), (a_text, .inl (g.2.1, 10, .inl ztext)), (a_orders, .inl (g.2.1, 96, .inl zorders)), (a_places, .inl (g.2.1, 16, .inl zplaces)), (a_lefts, .inl (g.2.1, 16, .inl zlefts)), (a_steps, .inl (g.2.1, 256, .inl zsteps)), (a_image, .inl (g.2.1, 122, .inl zimage)), (a_isKept, .inl (g.2.2.1, 2, .inl zisKept))] sz)) (va_A [(h0, .inr (7, [.ref a_clues, .int zmany, .ref a_text, .int zsigns, .int zfault, .ref a_orders, .ref a_places, .int zsought, .int zfirst, .int zsecond, .ref a_lefts, .ref a_steps, .int zmade, .ref a_image, .ref a_isKept])), (a_clues, .inl (g.2.1, 60, .inl zclues)), (a_text, .inl (g.2.1, 10, .inl ztext)), (a_orders, .inl (g.2.1, 96, .inl zorders)), (a_places, .inl (g.2.1, 16, .inl zplaces)), (a_lefts, .inl (g.2.1, 16, .inl zlefts)), (a_steps, .inl (g.2.1, 256, .inl zsteps)), (a_image, .inl (g.2.1, 122, .inl zimage)), (a_isKept, .inl (g.2.2.1, 2, .inl zisKept))] sz)) 0 0 (va_A [(h0, .inr (7, [.ref a_clues, .int zmany, .ref a_text, .int zsigns, .int zfault, .ref a_orders, .ref a_places, .int zsought, .int zfirst, .int zsecond, .ref a_lefts, .ref a_steps, .int zmade, .ref a_image, .ref a_isKept])), (a_clues, .inl (g.2.1, 60, .inl zclues)), (a_text, .inl (g.2.1, 10, .inl ztext)), (a_orders, .inl (g.2.1, 96, .inl zorders)), (a_places, .inl (g.2.1, 16, .inl zplaces)), (a_lefts, .inl (g.2.1, 16, .inl zlefts)), (a_steps, .inl (g.2.1, 256, .inl zsteps)), (a_image, .inl (g.2.1, 122, .inl zimage)), (a_isKept, .inl (g.2.2.1, 2, .inl zisKept))] sz) := by
  refine Met.ofW (cc := cX7_step) (maxL := 3) (ret := (some .int)) (by decide) rfl ?_
  intro p e s m args below meth c s₁ B hml hv
  obtain ⟨rfl, hsz, hP, hK, hD0, hro⟩ := hv
  have hx := B.exec
  have hb := B.bytes
  have hr := B.returns
  have hts := atoms_spec (ws := wsX7_step) B.pre
  have hown : s.vm.findClass RX7 = some m.cls := findClass_of_methodNamed B.named
  have hlocks := B.notSynchronized
  subst hsz
  have hD := hD0.self (sz := s.heap.size)
  generalize hAe : va_A [(h0, .inr (7, [.ref a_clues, .int zmany, .ref a_text, .int zsigns, .int zfault, .ref a_orders, .ref a_places, .int zsought, .int zfirst, .int zsecond, .ref a_lefts, .ref a_steps, .int zmade, .ref a_image, .ref a_isKept])), (a_clues, .inl (g.2.1, 60, .inl zclues)), (a_text, .inl (g.2.1, 10, .inl ztext)), (a_orders, .inl (g.2.1, 96, .inl zorders)), (a_places, .inl (g.2.1, 16, .inl zplaces)), (a_lefts, .inl (g.2.1, 16, .inl zlefts)), (a_steps, .inl (g.2.1, 256, .inl zsteps)), (a_image, .inl (g.2.1, 122, .inl zimage)), (a_isKept, .inl (g.2.2.1, 2, .inl zisKept))] s.heap.size = A at hD hro ⊢
  have hA : ∀ q : Nat, s.heap.size ≤ q → A q := fun q h => by rw [← hAe]; exact Or.inr h
  have hS : va_S A s.heap s.heap [] := va_S.rf
  have hP : PP g [(h0, .inr (7, [.ref a_clues, .int zmany, .ref a_text, .int zsigns, .int zfault, .ref a_orders, .ref a_places, .int zsought, .int zfirst, .int zsecond, .ref a_lefts, .ref a_steps, .int zmade, .ref a_image, .ref a_isKept])), (a_clues, .inl (g.2.1, 60, .inl zclues)), (a_text, .inl (g.2.1, 10, .inl ztext)), (a_orders, .inl (g.2.1, 96, .inl zorders)), (a_places, .inl (g.2.1, 16, .inl zplaces)), (a_lefts, .inl (g.2.1, 16, .inl zlefts)), (a_steps, .inl (g.2.1, 256, .inl zsteps)), (a_image, .inl (g.2.1, 122, .inl zimage)), (a_isKept, .inl (g.2.2.1, 2, .inl zisKept))] s.heap := hP
  have lk1 := hts (.fieldLink RX7 120 "GridRiddlesModel" "made" "I") (by decide +kernel)
  have hinX7 : ∀ w ∈ u_ws RX7 TX7 15, w ∈ wsX7_step := by decide +kernel
  have lk3 := hts (.fieldLink RX7 29 "GridRiddlesModel" "steps" "[I") (by decide +kernel)
  have hl := lv_entry ([.ref h0, .int x1, .int x2]) (n := 3) (Nat.le_of_ble_eq_true rfl)
  rw [lg_entry_eq]
  generalize (lg_sl ([.ref h0, .int x1, .int x2]) ++ List.replicate (3 - (lg_sl ([.ref h0, .int x1, .int x2])).length) Slot.unset).toArray = ls at hl ⊢
  have hl : lv_has ls 3 [(0, .ref h0), (1, .int x1), (2, .int x2)] := hl
  unfold wp_X7_step at hw
  refine lv_iload_n hx hb dX7_step_0 rfl (lv_at hl 1 rfl) ?_
  refine lv_iconst (v := (-1)) hx hb dX7_step_1 (by decide) ?_
  refine lv_icmp_lt (tgt := 14) hx hb dX7_step_2 (by decide) (fun c1 => ?_) (fun c1 => ?_)
  · replace hw := hw.1 c1
    refine lv_bipush (v := (-2)) hx hb dX7_step_14 (by decide) ?_
    exact W.iret hx hb hr (fun t ht hW => ⟨⟨(-2), (zmade, zlefts, zsteps), rfl, hw, by rw [ht]; exact hP, va_K.moved hW.alike hK, hD⟩, hS.F ht⟩) hS.2.2 dX7_step_16
  · replace hw := hw.2 c1
    refine lv_iload_n hx hb dX7_step_5 rfl (lv_at hl 2 rfl) ?_
    refine lv_iconst (v := 0) hx hb dX7_step_6 (by decide) ?_
    refine lv_iconst (v := 3) hx hb dX7_step_7 (by decide) ?_
    refine kp_S (As := [.int x2, .int 0, .int 3]) (rest := []) (wc := []) ⟨hx, hb, hml, hown, hts⟩ (m_X7_in l g hok (x1 := x2) (x2 := 0) (x3 := 3) hw) (va_cwS 3 hts gX7_step_X7_in rfl rfl rfl hd_X7_in ⟨Nat.le_of_ble_eq_true rfl, Nat.le_of_ble_eq_true rfl⟩) hok hK PP_nil hro hS hA rfl hl.1 rfl (Nat.le_of_ble_eq_true rfl) dX7_step_8 ⟨Nat.le_of_ble_eq_true rfl, Nat.le_of_ble_eq_true rfl⟩ (fun r2 hw => ?_)
    refine lv_if_ne (tgt := 17) hx hb dX7_step_11 (by decide) (fun c3 => ?_) (fun c3 => ?_)
    · replace hw := hw.2 c3
      refine lv_aload_n hx hb dX7_step_17 rfl (lv_at hl 0 rfl) ?_
      refine lv_bipush (v := 64) hx hb dX7_step_18 (by decide) ?_
      refine kn_Vv (As := [.int 64]) (rest := []) (wc := [(h0, .inr (7, [.ref a_clues, .int zmany, .ref a_text, .int zsigns, .int zfault, .ref a_orders, .ref a_places, .int zsought, .int zfirst, .int zsecond, .ref a_lefts, .ref a_steps, .int zmade, .ref a_image, .ref a_isKept])), (a_clues, .inl (g.2.1, 60, .inl zclues)), (a_text, .inl (g.2.1, 10, .inl ztext)), (a_orders, .inl (g.2.1, 96, .inl zorders)), (a_places, .inl (g.2.1, 16, .inl zplaces)), (a_lefts, .inl (g.2.1, 16, .inl zlefts)), (a_steps, .inl (g.2.1, 256, .inl zsteps)), (a_image, .inl (g.2.1, 122, .inl zimage)), (a_isKept, .inl (g.2.2.1, 2, .inl zisKept))]) (wr := []) (cq := (RX7, TX7, 15)) ⟨hx, hb, hml, hown, hts⟩ (m_X7_solve l g hok (h0 := h0) (a_clues := a_clues) (a_text := a_text) (a_orders := a_orders) (a_places := a_places) (a_lefts := a_lefts) (a_steps := a_steps) (a_image := a_image) (a_isKept := a_isKept) (zclues := zclues) (zmany := zmany) (ztext := ztext) (zsigns := zsigns) (zfault := zfault) (zorders := zorders) (zplaces := zplaces) (zsought := zsought) (zfirst := zfirst) (zsecond := zsecond) (zlefts := zlefts) (zsteps := zsteps) (zmade := zmade) (zimage := zimage) (zisKept := zisKept) (x1 := 64) hw) (cwV 1 hts gX7_step_X7_solve rfl rfl rfl hd_X7_solve ⟨Nat.le_of_ble_eq_true rfl, Nat.le_of_ble_eq_true rfl⟩) hok hK hP hD hS hA (ro_pass hok hro hS (va_free (wc := [(h0, .inr (7, [.ref a_clues, .int zmany, .ref a_text, .int zsigns, .int zfault, .ref a_orders, .ref a_places, .int zsought, .int zfirst, .int zsecond, .ref a_lefts, .ref a_steps, .int zmade, .ref a_image, .ref a_isKept])), (a_clues, .inl (g.2.1, 60, .inl zclues)), (a_text, .inl (g.2.1, 10, .inl ztext)), (a_orders, .inl (g.2.1, 96, .inl zorders)), (a_places, .inl (g.2.1, 16, .inl zplaces)), (a_lefts, .inl (g.2.1, 16, .inl zlefts)), (a_steps, .inl (g.2.1, 256, .inl zsteps)), (a_image, .inl (g.2.1, 122, .inl zimage)), (a_isKept, .inl (g.2.2.1, 2, .inl zisKept))]) hD hS hA [0, 1, 2, 3, 4, 5, 6, 7, 8] rfl)) [0, 1, 2, 3, 4, 5, 6, 7, 8] [] rfl rfl (by decide) (by decide) (by decide) (va_recv hK hP (ci := 7) (q0 := 0) rfl rfl) rfl hl.1 rfl (Nat.le_of_ble_eq_true rfl) dX7_step_20 ⟨Nat.le_of_ble_eq_true rfl, Nat.le_of_ble_eq_true rfl⟩ (fun u H locs hw hP hD hS => ?_)
      obtain ⟨w4, w5, w6⟩ := u
      have hP : PP g [(h0, .inr (7, [.ref a_clues, .int zmany, .ref a_text, .int zsigns, .int zfault, .ref a_orders, .ref a_places, .int zsought, .int zfirst, .int zsecond, .ref a_lefts, .ref a_steps, .int w4, .ref a_image, .ref a_isKept])), (a_clues, .inl (g.2.1, 60, .inl zclues)), (a_text, .inl (g.2.1, 10, .inl ztext)), (a_orders, .inl (g.2.1, 96, .inl zorders)), (a_places, .inl (g.2.1, 16, .inl zplaces)), (a_lefts, .inl (g.2.1, 16, .inl w5)), (a_steps, .inl (g.2.1, 256, .inl w6)), (a_image, .inl (g.2.1, 122, .inl zimage)), (a_isKept, .inl (g.2.2.1, 2, .inl zisKept))] H := hP
      have hD : va_D A [(h0, .inr (7, [.ref a_clues, .int zmany, .ref a_text, .int zsigns, .int zfault, .ref a_orders, .ref a_places, .int zsought, .int zfirst, .int zsecond, .ref a_lefts, .ref a_steps, .int w4, .ref a_image, .ref a_isKept])), (a_clues, .inl (g.2.1, 60, .inl zclues)), (a_text, .inl (g.2.1, 10, .inl ztext)), (a_orders, .inl (g.2.1, 96, .inl zorders)), (a_places, .inl (g.2.1, 16, .inl zplaces)), (a_lefts, .inl (g.2.1, 16, .inl w5)), (a_steps, .inl (g.2.1, 256, .inl w6)), (a_image, .inl (g.2.1, 122, .inl zimage)), (a_isKept, .inl (g.2.2.1, 2, .inl zisKept))] := hD
      refine lv_iload_n hx hb dX7_step_23 rfl (lv_at hl 1 rfl) ?_
      refine lv_iconst (v := (-1)) hx hb dX7_step_24 (by decide) ?_
      refine lv_icmp_ne (tgt := 35) hx hb dX7_step_25 (by decide) (fun c7 => ?_) (fun c7 => ?_)
      · replace hw := hw.2 c7
        refine lv_iload_n hx hb dX7_step_35 rfl (lv_at hl 1 rfl) ?_
        refine lv_aload_n hx hb dX7_step_36 rfl (lv_at hl 0 rfl) ?_
        refine va_get (D := g.1) (ci := 7) (v := .int w4) (C := RX7) (T := TX7) (N := 15) hx hb hts hinX7 hown hK hP 0 rfl rfl 12 (by decide) lk1 (fun _ h9 => h9) rfl dX7_step_37 ?_
        refine lv_icmp_ge (tgt := 56) hx hb dX7_step_40 (by decide) (fun c8 => ?_) (fun c8 => ?_)
        · replace hw := hw.1 c8
          refine lv_bipush (v := (-6)) hx hb dX7_step_56 (by decide) ?_
          exact W.iret hx hb hr (fun t ht hW => ⟨⟨(-6), (w4, w5, w6), rfl, hw, by rw [ht]; exact hP, va_K.moved hW.alike hK, hD⟩, hS.F ht⟩) hS.2.2 dX7_step_58
        · replace hw := hw.2 c8
          refine lv_aload_n hx hb dX7_step_43 rfl (lv_at hl 0 rfl) ?_
          refine va_get (D := g.1) (ci := 7) (v := .ref a_steps) (C := RX7) (T := TX7) (N := 15) hx hb hts hinX7 hown hK hP 0 rfl rfl 11 (by decide) lk3 (fun _ h9 => h9) rfl dX7_step_44 ?_
          refine lv_iconst (v := 4) hx hb dX7_step_47 (by decide) ?_
          refine lv_iload_n hx hb dX7_step_48 rfl (lv_at hl 1 rfl) ?_
          refine lv_imul hx hb dX7_step_49 ?_
          refine lv_iload_n hx hb dX7_step_50 rfl (lv_at hl 2 rfl) ?_
          refine lv_iadd hx hb dX7_step_51 ?_
          obtain ⟨hi, hw⟩ := hw
          refine va_iald hx hb hK hP 6 0 rfl rfl hi dX7_step_52 ?_
          refine lv_goto (tgt := 58) hx hb dX7_step_53 (by decide) ?_
          exact W.iret hx hb hr (fun t ht hW => ⟨⟨(w6 ((4 * x1) + x2).toNatClampNeg), (w4, w5, w6), rfl, hw, by rw [ht]; exact hP, va_K.moved hW.alike hK, hD⟩, hS.F ht⟩) hS.2.2 dX7_step_58
      · replace hw := hw.1 c7
        refine lv_aload_n hx hb dX7_step_28 rfl (lv_at hl 0 rfl) ?_
        refine va_get (D := g.1) (ci := 7) (v := .int w4) (C := RX7) (T := TX7) (N := 15) hx hb hts hinX7 hown hK hP 0 rfl rfl 12 (by decide) lk1 (fun _ h9 => h9) rfl dX7_step_29 ?_
        refine lv_goto (tgt := 58) hx hb dX7_step_32 (by decide) ?_
        exact W.iret hx hb hr (fun t ht hW => ⟨⟨w4, (w4, w5, w6), rfl, hw, by rw [ht]; exact hP, va_K.moved hW.alike hK, hD⟩, hS.F ht⟩) hS.2.2 dX7_step_58
    · replace hw := hw.1 c3
      refine lv_bipush (v := (-2)) hx hb dX7_step_14 (by decide) ?_
      exact W.iret hx hb hr (fun t ht hW => ⟨⟨(-2), (zmade, zlefts, zsteps), rfl, hw, by rw [ht]; exact hP, va_K.moved hW.alike hK, hD⟩, hS.F ht⟩) hS.2.2 dX7_step_16

def wp_X7_left_27 (Q : Int32 → Int32 → (Nat → Int32) → (Nat → Int32) → Prop) (x1 : Int32) (zclues : Nat → Int32) (zmany : Int32)  (s0 : Int32) (zlefts : Nat → Int32) (zsteps : Nat → Int32) (zmade : Int32) : Prop :=
  (wp_X7_solve s0 zclues zmany zlefts zsteps (fun w5 w6 w7 => (vp_in x1 16 ∧ Q (w6 x1.toNatClampNeg) w5 w6 w7)))
def wp_X7_left (x1 : Int32) (x2 : Int32) (zclues : Nat → Int32) (zmany : Int32) (zlefts : Nat → Int32) (zsteps : Nat → Int32) (zmade : Int32) (Q : Int32 → Int32 → (Nat → Int32) → (Nat → Int32) → Prop) : Prop :=
  (wp_X7_isItem x1 (fun r1 => ((r1 = 0 → Q (-2) zmade zlefts zsteps) ∧ (¬ (r1 = 0) → ((0 ≤ x2 → ((64 ≤ x2 → wp_X7_left_27 Q x1 zclues zmany  64 zlefts zsteps zmade) ∧ (¬ (64 ≤ x2) → wp_X7_left_27 Q x1 zclues zmany  x2 zlefts zsteps zmade))) ∧ (¬ (0 ≤ x2) → Q (-2) zmade zlefts zsteps))))))
theorem hd_X7_left : yX7_left.cls = RX7 ∧ yX7_left.cls ≠ "java/lang/invoke/MethodHandle" ∧ yX7_left.cls ≠ "java/lang/invoke/VarHandle" ∧ (parseMethodDescriptor yX7_left.desc).map (fun d => d.parameters.length) = some 2 := by decide +kernel
set_option maxHeartbeats 4000000 in
set_option maxRecDepth 100000 in
theorem m_X7_left (l : Launch) (g : GG) {ro : Ro} (hok : RoOK ro) {h0 a_clues a_text a_orders a_places a_lefts a_steps a_image a_isKept : Nat} {zclues : Nat → Int32} {zmany : Int32} {ztext : Nat → Int32} {zsigns : Int32} {zfault : Int32} {zorders : Nat → Int32} {zplaces : Nat → Int32} {zsought : Int32} {zfirst : Int32} {zsecond : Int32} {zlefts : Nat → Int32} {zsteps : Nat → Int32} {zmade : Int32} {zimage : Nat → Int32} {zisKept : Nat → Int32} {x1 : Int32} {x2 : Int32} {sz : Nat} {Q : Int32 → Int32 → (Nat → Int32) → (Nat → Int32) → Prop} (hw : wp_X7_left x1 x2 zclues zmany zlefts zsteps zmade Q) : Met l yX7_left wsX7_left ({ frames := 5, cells := 0, slots := 0, locals := 124 } : Room) (PcM g ro [(h0, .inr (7, [.ref a_clues, .int zmany, .ref a_text, .int zsigns, .int zfault, .ref a_orders, .ref a_places, .int zsought, .int zfirst, .int zsecond, .ref a_lefts, .ref a_steps, .int zmade, .ref a_image, .ref a_isKept])), (a_clues, .inl (g.2.1, 60, .inl zclues)), (a_text, .inl (g.2.1, 10, .inl ztext)), (a_orders, .inl (g.2.1, 96, .inl zorders)), (a_places, .inl (g.2.1, 16, .inl zplaces)), (a_lefts, .inl (g.2.1, 16, .inl zlefts)), (a_steps, .inl (g.2.1, 256, .inl zsteps)), (a_image, .inl (g.2.1, 122, .inl zimage)), (a_isKept, .inl (g.2.2.1, 2, .inl zisKept))] sz [.ref h0, .int x1, .int x2]) (va_Qi (fun (r : Int32) (u : Int32 × (Nat → Int32) × (Nat → Int32)) => Q r u.1 u.2.1 u.2.2) (BM g (fun u : Int32 × (Nat → Int32) × (Nat → Int32) => [(h0, .inr (7, [.ref a_clues, .int zmany, .ref a_text, .int zsigns, .int zfault, .ref a_orders, .ref a_places, .int zsought, .int zfirst, .int zsecond, .ref a_lefts, .ref a_steps, .int u.1, .ref a_image, .ref a_isKept])), (a_clues, .inl (g.2.1, 60, .inl zclues)), (a_text, .inl (g.2.1, 10, .inl ztext)), (a_orders, .inl (g.2.1, 96, .inl zorders)), (a_places, .inl (g.2.1, 16, .inl zplaces)), (a_lefts, .inl (g.2.1, 16, .inl u.2.1)), (a_steps, .inl (g.2.1, 256, .inl u.2.2)), (a_image, .inl (g.2.1, 122, .inl zimage)), (a_isKept, .inl (g.2.2.1, 2, .inl zisKept))]) (va_A [(h0, .inr (7, [.ref a_clues, .int zmany, .ref a_text, .int zsigns, .int zfault, .ref a_orders, .ref a_places, .int zsought, .int zfirst, .int zsecond, .ref a_lefts, .ref a_steps, .int zmade, .ref a_image, .ref a_isKept])), (a_clues, .inl (g.2.1, 60, .inl zclues)), (a_text, .inl (g.2.1, 10, .inl ztext)), (a_orders, .inl (g.2.1, 96, .inl zorders)), (a_places, .inl (g.2.1, 16, .inl zplaces)), (a_lefts, .inl (g.2.1, 16, .inl zlefts)), (a_steps, .inl (g.2.1, 256, .inl zsteps)), (a_image, .inl (g.2.1, 122, .inl zimage)), (a_isKept, .inl (g.2.2.1, 2, .inl zisKept))] sz)) (va_A [(h0, .inr (7, [.ref a_clues, .int zmany, .ref a_text, .int zsigns, .int zfault, .ref a_orders, .ref a_places, .int zsought, .int zfirst, .int zsecond, .ref a_lefts, .ref a_steps, .int zmade, .ref a_image, .ref a_isKept])), (a_clues, .inl (g.2.1, 60, .inl zclues)), (a_text, .inl (g.2.1, 10, .inl ztext)), (a_orders, .inl (g.2.1, 96, .inl zorders)), (a_places, .inl (g.2.1, 16, .inl zplaces)), (a_lefts, .inl (g.2.1, 16, .inl zlefts)), (a_steps, .inl (g.2.1, 256, .inl zsteps)), (a_image, .inl (g.2.1, 122, .inl zimage)), (a_isKept, .inl (g.2.2.1, 2, .inl zisKept))] sz)) 0 0 (va_A [(h0, .inr (7, [.ref a_clues, .int zmany, .ref a_text, .int zsigns, .int zfault, .ref a_orders, .ref a_places, .int zsought, .int zfirst, .int zsecond, .ref a_lefts, .ref a_steps, .int zmade, .ref a_image, .ref a_isKept])), (a_clues, .inl (g.2.1, 60, .inl zclues)), (a_text, .inl (g.2.1, 10, .inl ztext)), (a_orders, .inl (g.2.1, 96, .inl zorders)), (a_places, .inl (g.2.1, 16, .inl zplaces)), (a_lefts, .inl (g.2.1, 16, .inl zlefts)), (a_steps, .inl (g.2.1, 256, .inl zsteps)), (a_image, .inl (g.2.1, 122, .inl zimage)), (a_isKept, .inl (g.2.2.1, 2, .inl zisKept))] sz) := by
  refine Met.ofW (cc := cX7_left) (maxL := 3) (ret := (some .int)) (by decide) rfl ?_
  intro p e s m args below meth c s₁ B hml hv
  obtain ⟨rfl, hsz, hP, hK, hD0, hro⟩ := hv
  have hx := B.exec
  have hb := B.bytes
  have hr := B.returns
  have hts := atoms_spec (ws := wsX7_left) B.pre
  have hown : s.vm.findClass RX7 = some m.cls := findClass_of_methodNamed B.named
  have hlocks := B.notSynchronized
  subst hsz
  have hD := hD0.self (sz := s.heap.size)
  generalize hAe : va_A [(h0, .inr (7, [.ref a_clues, .int zmany, .ref a_text, .int zsigns, .int zfault, .ref a_orders, .ref a_places, .int zsought, .int zfirst, .int zsecond, .ref a_lefts, .ref a_steps, .int zmade, .ref a_image, .ref a_isKept])), (a_clues, .inl (g.2.1, 60, .inl zclues)), (a_text, .inl (g.2.1, 10, .inl ztext)), (a_orders, .inl (g.2.1, 96, .inl zorders)), (a_places, .inl (g.2.1, 16, .inl zplaces)), (a_lefts, .inl (g.2.1, 16, .inl zlefts)), (a_steps, .inl (g.2.1, 256, .inl zsteps)), (a_image, .inl (g.2.1, 122, .inl zimage)), (a_isKept, .inl (g.2.2.1, 2, .inl zisKept))] s.heap.size = A at hD hro ⊢
  have hA : ∀ q : Nat, s.heap.size ≤ q → A q := fun q h => by rw [← hAe]; exact Or.inr h
  have hS : va_S A s.heap s.heap [] := va_S.rf
  have hP : PP g [(h0, .inr (7, [.ref a_clues, .int zmany, .ref a_text, .int zsigns, .int zfault, .ref a_orders, .ref a_places, .int zsought, .int zfirst, .int zsecond, .ref a_lefts, .ref a_steps, .int zmade, .ref a_image, .ref a_isKept])), (a_clues, .inl (g.2.1, 60, .inl zclues)), (a_text, .inl (g.2.1, 10, .inl ztext)), (a_orders, .inl (g.2.1, 96, .inl zorders)), (a_places, .inl (g.2.1, 16, .inl zplaces)), (a_lefts, .inl (g.2.1, 16, .inl zlefts)), (a_steps, .inl (g.2.1, 256, .inl zsteps)), (a_image, .inl (g.2.1, 122, .inl zimage)), (a_isKept, .inl (g.2.2.1, 2, .inl zisKept))] s.heap := hP
  have lk1 := hts (.fieldLink RX7 26 "GridRiddlesModel" "lefts" "[I") (by decide +kernel)
  have hinX7 : ∀ w ∈ u_ws RX7 TX7 15, w ∈ wsX7_left := by decide +kernel
  have B27 : ∀ (s0 : Int32) (zlefts : Nat → Int32) (zsteps : Nat → Int32) (zmade : Int32), wp_X7_left_27 Q x1 zclues zmany  s0 zlefts zsteps zmade → ∀ (H : Heap) (locs : List Loc), PP g [(h0, .inr (7, [.ref a_clues, .int zmany, .ref a_text, .int zsigns, .int zfault, .ref a_orders, .ref a_places, .int zsought, .int zfirst, .int zsecond, .ref a_lefts, .ref a_steps, .int zmade, .ref a_image, .ref a_isKept])), (a_clues, .inl (g.2.1, 60, .inl zclues)), (a_text, .inl (g.2.1, 10, .inl ztext)), (a_orders, .inl (g.2.1, 96, .inl zorders)), (a_places, .inl (g.2.1, 16, .inl zplaces)), (a_lefts, .inl (g.2.1, 16, .inl zlefts)), (a_steps, .inl (g.2.1, 256, .inl zsteps)), (a_image, .inl (g.2.1, 122, .inl zimage)), (a_isKept, .inl (g.2.2.1, 2, .inl zisKept))] H → va_D A [(h0, .inr (7, [.ref a_clues, .int zmany, .ref a_text, .int zsigns, .int zfault, .ref a_orders, .ref a_places, .int zsought, .int zfirst, .int zsecond, .ref a_lefts, .ref a_steps, .int zmade, .ref a_image, .ref a_isKept])), (a_clues, .inl (g.2.1, 60, .inl zclues)), (a_text, .inl (g.2.1, 10, .inl ztext)), (a_orders, .inl (g.2.1, 96, .inl zorders)), (a_places, .inl (g.2.1, 16, .inl zplaces)), (a_lefts, .inl (g.2.1, 16, .inl zlefts)), (a_steps, .inl (g.2.1, 256, .inl zsteps)), (a_image, .inl (g.2.1, 122, .inl zimage)), (a_isKept, .inl (g.2.2.1, 2, .inl zisKept))] → va_S A s.heap H locs → ∀ (ls : Array Slot), lv_has ls 3 [(0, .ref h0), (1, .int x1)] → W p l e (headSpec wsX7_left ({ frames := 5, cells := 0, slots := 0, locals := 124 } : Room)).room s m ([.ref h0, .int x1, .int x2] : List Value).toArray below meth c H locs 0 0 (MQ below (va_Qi (fun (r : Int32) (u : Int32 × (Nat → Int32) × (Nat → Int32)) => Q r u.1 u.2.1 u.2.2) (BM g (fun u : Int32 × (Nat → Int32) × (Nat → Int32) => [(h0, .inr (7, [.ref a_clues, .int zmany, .ref a_text, .int zsigns, .int zfault, .ref a_orders, .ref a_places, .int zsought, .int zfirst, .int zsecond, .ref a_lefts, .ref a_steps, .int u.1, .ref a_image, .ref a_isKept])), (a_clues, .inl (g.2.1, 60, .inl zclues)), (a_text, .inl (g.2.1, 10, .inl ztext)), (a_orders, .inl (g.2.1, 96, .inl zorders)), (a_places, .inl (g.2.1, 16, .inl zplaces)), (a_lefts, .inl (g.2.1, 16, .inl u.2.1)), (a_steps, .inl (g.2.1, 256, .inl u.2.2)), (a_image, .inl (g.2.1, 122, .inl zimage)), (a_isKept, .inl (g.2.2.1, 2, .inl zisKept))]) A) A) ([.ref h0, .int x1, .int x2] : List Value).toArray s 0 0 A) (F0 m 27 ls [.int s0, .ref h0]) := by
    intro  s0 zlefts zsteps zmade hw  H locs hP hD hS ls hl
    refine kn_Vv (As := [.int s0]) (rest := []) (wc := [(h0, .inr (7, [.ref a_clues, .int zmany, .ref a_text, .int zsigns, .int zfault, .ref a_orders, .ref a_places, .int zsought, .int zfirst, .int zsecond, .ref a_lefts, .ref a_steps, .int zmade, .ref a_image, .ref a_isKept])), (a_clues, .inl (g.2.1, 60, .inl zclues)), (a_text, .inl (g.2.1, 10, .inl ztext)), (a_orders, .inl (g.2.1, 96, .inl zorders)), (a_places, .inl (g.2.1, 16, .inl zplaces)), (a_lefts, .inl (g.2.1, 16, .inl zlefts)), (a_steps, .inl (g.2.1, 256, .inl zsteps)), (a_image, .inl (g.2.1, 122, .inl zimage)), (a_isKept, .inl (g.2.2.1, 2, .inl zisKept))]) (wr := []) (cq := (RX7, TX7, 15)) ⟨hx, hb, hml, hown, hts⟩ (m_X7_solve l g hok (h0 := h0) (a_clues := a_clues) (a_text := a_text) (a_orders := a_orders) (a_places := a_places) (a_lefts := a_lefts) (a_steps := a_steps) (a_image := a_image) (a_isKept := a_isKept) (zclues := zclues) (zmany := zmany) (ztext := ztext) (zsigns := zsigns) (zfault := zfault) (zorders := zorders) (zplaces := zplaces) (zsought := zsought) (zfirst := zfirst) (zsecond := zsecond) (zlefts := zlefts) (zsteps := zsteps) (zmade := zmade) (zimage := zimage) (zisKept := zisKept) (x1 := s0) hw) (cwV 1 hts gX7_left_X7_solve rfl rfl rfl hd_X7_solve ⟨Nat.le_of_ble_eq_true rfl, Nat.le_of_ble_eq_true rfl⟩) hok hK hP hD hS hA (ro_pass hok hro hS (va_free (wc := [(h0, .inr (7, [.ref a_clues, .int zmany, .ref a_text, .int zsigns, .int zfault, .ref a_orders, .ref a_places, .int zsought, .int zfirst, .int zsecond, .ref a_lefts, .ref a_steps, .int zmade, .ref a_image, .ref a_isKept])), (a_clues, .inl (g.2.1, 60, .inl zclues)), (a_text, .inl (g.2.1, 10, .inl ztext)), (a_orders, .inl (g.2.1, 96, .inl zorders)), (a_places, .inl (g.2.1, 16, .inl zplaces)), (a_lefts, .inl (g.2.1, 16, .inl zlefts)), (a_steps, .inl (g.2.1, 256, .inl zsteps)), (a_image, .inl (g.2.1, 122, .inl zimage)), (a_isKept, .inl (g.2.2.1, 2, .inl zisKept))]) hD hS hA [0, 1, 2, 3, 4, 5, 6, 7, 8] rfl)) [0, 1, 2, 3, 4, 5, 6, 7, 8] [] rfl rfl (by decide) (by decide) (by decide) (va_recv hK hP (ci := 7) (q0 := 0) rfl rfl) rfl hl.1 rfl (Nat.le_of_ble_eq_true rfl) dX7_left_27 ⟨Nat.le_of_ble_eq_true rfl, Nat.le_of_ble_eq_true rfl⟩ (fun u H locs hw hP hD hS => ?_)
    obtain ⟨w5, w6, w7⟩ := u
    have hP : PP g [(h0, .inr (7, [.ref a_clues, .int zmany, .ref a_text, .int zsigns, .int zfault, .ref a_orders, .ref a_places, .int zsought, .int zfirst, .int zsecond, .ref a_lefts, .ref a_steps, .int w5, .ref a_image, .ref a_isKept])), (a_clues, .inl (g.2.1, 60, .inl zclues)), (a_text, .inl (g.2.1, 10, .inl ztext)), (a_orders, .inl (g.2.1, 96, .inl zorders)), (a_places, .inl (g.2.1, 16, .inl zplaces)), (a_lefts, .inl (g.2.1, 16, .inl w6)), (a_steps, .inl (g.2.1, 256, .inl w7)), (a_image, .inl (g.2.1, 122, .inl zimage)), (a_isKept, .inl (g.2.2.1, 2, .inl zisKept))] H := hP
    have hD : va_D A [(h0, .inr (7, [.ref a_clues, .int zmany, .ref a_text, .int zsigns, .int zfault, .ref a_orders, .ref a_places, .int zsought, .int zfirst, .int zsecond, .ref a_lefts, .ref a_steps, .int w5, .ref a_image, .ref a_isKept])), (a_clues, .inl (g.2.1, 60, .inl zclues)), (a_text, .inl (g.2.1, 10, .inl ztext)), (a_orders, .inl (g.2.1, 96, .inl zorders)), (a_places, .inl (g.2.1, 16, .inl zplaces)), (a_lefts, .inl (g.2.1, 16, .inl w6)), (a_steps, .inl (g.2.1, 256, .inl w7)), (a_image, .inl (g.2.1, 122, .inl zimage)), (a_isKept, .inl (g.2.2.1, 2, .inl zisKept))] := hD
    refine lv_aload_n hx hb dX7_left_30 rfl (lv_at hl 0 rfl) ?_
    refine va_get (D := g.1) (ci := 7) (v := .ref a_lefts) (C := RX7) (T := TX7) (N := 15) hx hb hts hinX7 hown hK hP 0 rfl rfl 10 (by decide) lk1 (fun _ h9 => h9) rfl dX7_left_31 ?_
    refine lv_iload_n hx hb dX7_left_34 rfl (lv_at hl 1 rfl) ?_
    obtain ⟨hi, hw⟩ := hw
    refine va_iald hx hb hK hP 5 0 rfl rfl hi dX7_left_35 ?_
    exact W.iret hx hb hr (fun t ht hW => ⟨⟨(w6 x1.toNatClampNeg), (w5, w6, w7), rfl, hw, by rw [ht]; exact hP, va_K.moved hW.alike hK, hD⟩, hS.F ht⟩) hS.2.2 dX7_left_36
  have hl := lv_entry ([.ref h0, .int x1, .int x2]) (n := 3) (Nat.le_of_ble_eq_true rfl)
  rw [lg_entry_eq]
  generalize (lg_sl ([.ref h0, .int x1, .int x2]) ++ List.replicate (3 - (lg_sl ([.ref h0, .int x1, .int x2])).length) Slot.unset).toArray = ls at hl ⊢
  have hl : lv_has ls 3 [(0, .ref h0), (1, .int x1), (2, .int x2)] := hl
  unfold wp_X7_left at hw
  refine lv_iload_n hx hb dX7_left_0 rfl (lv_at hl 1 rfl) ?_
  refine kp_S (As := [.int x1]) (rest := []) (wc := []) ⟨hx, hb, hml, hown, hts⟩ (m_X7_isItem l g hok (x1 := x1) hw) (va_cwS 1 hts gX7_left_X7_isItem rfl rfl rfl hd_X7_isItem ⟨Nat.le_of_ble_eq_true rfl, Nat.le_of_ble_eq_true rfl⟩) hok hK PP_nil hro hS hA rfl hl.1 rfl (Nat.le_of_ble_eq_true rfl) dX7_left_1 ⟨Nat.le_of_ble_eq_true rfl, Nat.le_of_ble_eq_true rfl⟩ (fun r1 hw => ?_)
  refine lv_if_eq (tgt := 11) hx hb dX7_left_4 (by decide) (fun c2 => ?_) (fun c2 => ?_)
  · replace hw := hw.1 c2
    refine lv_bipush (v := (-2)) hx hb dX7_left_11 (by decide) ?_
    exact W.iret hx hb hr (fun t ht hW => ⟨⟨(-2), (zmade, zlefts, zsteps), rfl, hw, by rw [ht]; exact hP, va_K.moved hW.alike hK, hD⟩, hS.F ht⟩) hS.2.2 dX7_left_13
  · replace hw := hw.2 c2
    refine lv_iload_n hx hb dX7_left_7 rfl (lv_at hl 2 rfl) ?_
    refine lv_if_ge (tgt := 14) hx hb dX7_left_8 (by decide) (fun c3 => ?_) (fun c3 => ?_)
    · replace hw := hw.1 c3
      refine lv_aload_n hx hb dX7_left_14 rfl (lv_at hl 0 rfl) ?_
      refine lv_iload_n hx hb dX7_left_15 rfl (lv_at hl 2 rfl) ?_
      refine lv_bipush (v := 64) hx hb dX7_left_16 (by decide) ?_
      refine lv_icmp_ge (tgt := 25) hx hb dX7_left_18 (by decide) (fun c4 => ?_) (fun c4 => ?_)
      · replace hw := hw.1 c4
        refine lv_bipush (v := 64) hx hb dX7_left_25 (by decide) ?_
        exact B27  64 zlefts zsteps zmade hw  _ _ hP hD hS ls (lv_sub hl [0, 1] rfl)
      · replace hw := hw.2 c4
        refine lv_iload_n hx hb dX7_left_21 rfl (lv_at hl 2 rfl) ?_
        refine lv_goto (tgt := 27) hx hb dX7_left_22 (by decide) ?_
        exact B27  x2 zlefts zsteps zmade hw  _ _ hP hD hS ls (lv_sub hl [0, 1] rfl)
    · replace hw := hw.2 c3
      refine lv_bipush (v := (-2)) hx hb dX7_left_11 (by decide) ?_
      exact W.iret hx hb hr (fun t ht hW => ⟨⟨(-2), (zmade, zlefts, zsteps), rfl, hw, by rw [ht]; exact hP, va_K.moved hW.alike hK, hD⟩, hS.F ht⟩) hS.2.2 dX7_left_13

def wp_X7_end_10 (Q : Int32 → Int32 → (Nat → Int32) → (Nat → Int32) → Prop)   (l1 : Int32) (l2 : Int32) (zlefts : Nat → Int32) (zsteps : Nat → Int32) (zmade : Int32) : Prop :=
  ∃ (I10 : Int32 → Int32 → (Nat → Int32) → (Nat → Int32) → Int32 → Prop) (mu10 : Int32 → Int32 → (Nat → Int32) → (Nat → Int32) → Int32 → Nat), I10 l1 l2 zlefts zsteps zmade ∧ ∀ (l1 : Int32) (l2 : Int32) (zlefts : Nat → Int32) (zsteps : Nat → Int32) (zmade : Int32), I10 l1 l2 zlefts zsteps zmade → ((16 ≤ l2 → (wp_X7_isEmpty zlefts (fun r5 => ((r5 = 0 → ((l1 = 0 → Q 1 zmade zlefts zsteps) ∧ (¬ (l1 = 0) → Q 0 zmade zlefts zsteps))) ∧ (¬ (r5 = 0) → Q 2 zmade zlefts zsteps))))) ∧ (¬ (16 ≤ l2) → ((l1 = 0 → (I10 0 (l2 + 1) zlefts zsteps zmade ∧ mu10 0 (l2 + 1) zlefts zsteps zmade < mu10 l1 l2 zlefts zsteps zmade)) ∧ (¬ (l1 = 0) → (vp_in l2 16 ∧ (wp_X7_bits (zlefts l2.toNatClampNeg) (fun r9 => ((r9 = 1 → (I10 1 (l2 + 1) zlefts zsteps zmade ∧ mu10 1 (l2 + 1) zlefts zsteps zmade < mu10 l1 l2 zlefts zsteps zmade)) ∧ (¬ (r9 = 1) → (I10 0 (l2 + 1) zlefts zsteps zmade ∧ mu10 0 (l2 + 1) zlefts zsteps zmade < mu10 l1 l2 zlefts zsteps zmade))))))))))
def wp_X7_end (zclues : Nat → Int32) (zmany : Int32) (zlefts : Nat → Int32) (zsteps : Nat → Int32) (Q : Int32 → Int32 → (Nat → Int32) → (Nat → Int32) → Prop) : Prop :=
  (wp_X7_solve 64 zclues zmany zlefts zsteps (fun w1 w2 w3 => wp_X7_end_10 Q   1 0 w2 w3 w1))
theorem hd_X7_end : yX7_end.cls = RX7 ∧ yX7_end.cls ≠ "java/lang/invoke/MethodHandle" ∧ yX7_end.cls ≠ "java/lang/invoke/VarHandle" ∧ (parseMethodDescriptor yX7_end.desc).map (fun d => d.parameters.length) = some 0 := by decide +kernel
set_option maxHeartbeats 4000000 in
set_option maxRecDepth 100000 in
theorem m_X7_end (l : Launch) (g : GG) {ro : Ro} (hok : RoOK ro) {h0 a_clues a_text a_orders a_places a_lefts a_steps a_image a_isKept : Nat} {zclues : Nat → Int32} {zmany : Int32} {ztext : Nat → Int32} {zsigns : Int32} {zfault : Int32} {zorders : Nat → Int32} {zplaces : Nat → Int32} {zsought : Int32} {zfirst : Int32} {zsecond : Int32} {zlefts : Nat → Int32} {zsteps : Nat → Int32} {zmade : Int32} {zimage : Nat → Int32} {zisKept : Nat → Int32} {sz : Nat} {Q : Int32 → Int32 → (Nat → Int32) → (Nat → Int32) → Prop} (hw : wp_X7_end zclues zmany zlefts zsteps Q) : Met l yX7_end wsX7_end ({ frames := 5, cells := 0, slots := 0, locals := 124 } : Room) (PcM g ro [(h0, .inr (7, [.ref a_clues, .int zmany, .ref a_text, .int zsigns, .int zfault, .ref a_orders, .ref a_places, .int zsought, .int zfirst, .int zsecond, .ref a_lefts, .ref a_steps, .int zmade, .ref a_image, .ref a_isKept])), (a_clues, .inl (g.2.1, 60, .inl zclues)), (a_text, .inl (g.2.1, 10, .inl ztext)), (a_orders, .inl (g.2.1, 96, .inl zorders)), (a_places, .inl (g.2.1, 16, .inl zplaces)), (a_lefts, .inl (g.2.1, 16, .inl zlefts)), (a_steps, .inl (g.2.1, 256, .inl zsteps)), (a_image, .inl (g.2.1, 122, .inl zimage)), (a_isKept, .inl (g.2.2.1, 2, .inl zisKept))] sz [.ref h0]) (va_Qi (fun (r : Int32) (u : Int32 × (Nat → Int32) × (Nat → Int32)) => Q r u.1 u.2.1 u.2.2) (BM g (fun u : Int32 × (Nat → Int32) × (Nat → Int32) => [(h0, .inr (7, [.ref a_clues, .int zmany, .ref a_text, .int zsigns, .int zfault, .ref a_orders, .ref a_places, .int zsought, .int zfirst, .int zsecond, .ref a_lefts, .ref a_steps, .int u.1, .ref a_image, .ref a_isKept])), (a_clues, .inl (g.2.1, 60, .inl zclues)), (a_text, .inl (g.2.1, 10, .inl ztext)), (a_orders, .inl (g.2.1, 96, .inl zorders)), (a_places, .inl (g.2.1, 16, .inl zplaces)), (a_lefts, .inl (g.2.1, 16, .inl u.2.1)), (a_steps, .inl (g.2.1, 256, .inl u.2.2)), (a_image, .inl (g.2.1, 122, .inl zimage)), (a_isKept, .inl (g.2.2.1, 2, .inl zisKept))]) (va_A [(h0, .inr (7, [.ref a_clues, .int zmany, .ref a_text, .int zsigns, .int zfault, .ref a_orders, .ref a_places, .int zsought, .int zfirst, .int zsecond, .ref a_lefts, .ref a_steps, .int zmade, .ref a_image, .ref a_isKept])), (a_clues, .inl (g.2.1, 60, .inl zclues)), (a_text, .inl (g.2.1, 10, .inl ztext)), (a_orders, .inl (g.2.1, 96, .inl zorders)), (a_places, .inl (g.2.1, 16, .inl zplaces)), (a_lefts, .inl (g.2.1, 16, .inl zlefts)), (a_steps, .inl (g.2.1, 256, .inl zsteps)), (a_image, .inl (g.2.1, 122, .inl zimage)), (a_isKept, .inl (g.2.2.1, 2, .inl zisKept))] sz)) (va_A [(h0, .inr (7, [.ref a_clues, .int zmany, .ref a_text, .int zsigns, .int zfault, .ref a_orders, .ref a_places, .int zsought, .int zfirst, .int zsecond, .ref a_lefts, .ref a_steps, .int zmade, .ref a_image, .ref a_isKept])), (a_clues, .inl (g.2.1, 60, .inl zclues)), (a_text, .inl (g.2.1, 10, .inl ztext)), (a_orders, .inl (g.2.1, 96, .inl zorders)), (a_places, .inl (g.2.1, 16, .inl zplaces)), (a_lefts, .inl (g.2.1, 16, .inl zlefts)), (a_steps, .inl (g.2.1, 256, .inl zsteps)), (a_image, .inl (g.2.1, 122, .inl zimage)), (a_isKept, .inl (g.2.2.1, 2, .inl zisKept))] sz)) 0 0 (va_A [(h0, .inr (7, [.ref a_clues, .int zmany, .ref a_text, .int zsigns, .int zfault, .ref a_orders, .ref a_places, .int zsought, .int zfirst, .int zsecond, .ref a_lefts, .ref a_steps, .int zmade, .ref a_image, .ref a_isKept])), (a_clues, .inl (g.2.1, 60, .inl zclues)), (a_text, .inl (g.2.1, 10, .inl ztext)), (a_orders, .inl (g.2.1, 96, .inl zorders)), (a_places, .inl (g.2.1, 16, .inl zplaces)), (a_lefts, .inl (g.2.1, 16, .inl zlefts)), (a_steps, .inl (g.2.1, 256, .inl zsteps)), (a_image, .inl (g.2.1, 122, .inl zimage)), (a_isKept, .inl (g.2.2.1, 2, .inl zisKept))] sz) := by
  refine Met.ofW (cc := cX7_end) (maxL := 3) (ret := (some .int)) (by decide) rfl ?_
  intro p e s m args below meth c s₁ B hml hv
  obtain ⟨rfl, hsz, hP, hK, hD0, hro⟩ := hv
  have hx := B.exec
  have hb := B.bytes
  have hr := B.returns
  have hts := atoms_spec (ws := wsX7_end) B.pre
  have hown : s.vm.findClass RX7 = some m.cls := findClass_of_methodNamed B.named
  have hlocks := B.notSynchronized
  subst hsz
  have hD := hD0.self (sz := s.heap.size)
  generalize hAe : va_A [(h0, .inr (7, [.ref a_clues, .int zmany, .ref a_text, .int zsigns, .int zfault, .ref a_orders, .ref a_places, .int zsought, .int zfirst, .int zsecond, .ref a_lefts, .ref a_steps, .int zmade, .ref a_image, .ref a_isKept])), (a_clues, .inl (g.2.1, 60, .inl zclues)), (a_text, .inl (g.2.1, 10, .inl ztext)), (a_orders, .inl (g.2.1, 96, .inl zorders)), (a_places, .inl (g.2.1, 16, .inl zplaces)), (a_lefts, .inl (g.2.1, 16, .inl zlefts)), (a_steps, .inl (g.2.1, 256, .inl zsteps)), (a_image, .inl (g.2.1, 122, .inl zimage)), (a_isKept, .inl (g.2.2.1, 2, .inl zisKept))] s.heap.size = A at hD hro ⊢
  have hA : ∀ q : Nat, s.heap.size ≤ q → A q := fun q h => by rw [← hAe]; exact Or.inr h
  have hS : va_S A s.heap s.heap [] := va_S.rf
  have hP : PP g [(h0, .inr (7, [.ref a_clues, .int zmany, .ref a_text, .int zsigns, .int zfault, .ref a_orders, .ref a_places, .int zsought, .int zfirst, .int zsecond, .ref a_lefts, .ref a_steps, .int zmade, .ref a_image, .ref a_isKept])), (a_clues, .inl (g.2.1, 60, .inl zclues)), (a_text, .inl (g.2.1, 10, .inl ztext)), (a_orders, .inl (g.2.1, 96, .inl zorders)), (a_places, .inl (g.2.1, 16, .inl zplaces)), (a_lefts, .inl (g.2.1, 16, .inl zlefts)), (a_steps, .inl (g.2.1, 256, .inl zsteps)), (a_image, .inl (g.2.1, 122, .inl zimage)), (a_isKept, .inl (g.2.2.1, 2, .inl zisKept))] s.heap := hP
  have lk1 := hts (.fieldLink RX7 26 "GridRiddlesModel" "lefts" "[I") (by decide +kernel)
  have hinX7 : ∀ w ∈ u_ws RX7 TX7 15, w ∈ wsX7_end := by decide +kernel
  have B10 : ∀ (l1 : Int32) (l2 : Int32) (zlefts : Nat → Int32) (zsteps : Nat → Int32) (zmade : Int32), wp_X7_end_10 Q   l1 l2 zlefts zsteps zmade → ∀ (H : Heap) (locs : List Loc), PP g [(h0, .inr (7, [.ref a_clues, .int zmany, .ref a_text, .int zsigns, .int zfault, .ref a_orders, .ref a_places, .int zsought, .int zfirst, .int zsecond, .ref a_lefts, .ref a_steps, .int zmade, .ref a_image, .ref a_isKept])), (a_clues, .inl (g.2.1, 60, .inl zclues)), (a_text, .inl (g.2.1, 10, .inl ztext)), (a_orders, .inl (g.2.1, 96, .inl zorders)), (a_places, .inl (g.2.1, 16, .inl zplaces)), (a_lefts, .inl (g.2.1, 16, .inl zlefts)), (a_steps, .inl (g.2.1, 256, .inl zsteps)), (a_image, .inl (g.2.1, 122, .inl zimage)), (a_isKept, .inl (g.2.2.1, 2, .inl zisKept))] H → va_D A [(h0, .inr (7, [.ref a_clues, .int zmany, .ref a_text, .int zsigns, .int zfault, .ref a_orders, .ref a_places, .int zsought, .int zfirst, .int zsecond, .ref a_lefts, .ref a_steps, .int zmade, .ref a_image, .ref a_isKept])), (a_clues, .inl (g.2.1, 60, .inl zclues)), (a_text, .inl (g.2.1, 10, .inl ztext)), (a_orders, .inl (g.2.1, 96, .inl zorders)), (a_places, .inl (g.2.1, 16, .inl zplaces)), (a_lefts, .inl (g.2.1, 16, .inl zlefts)), (a_steps, .inl (g.2.1, 256, .inl zsteps)), (a_image, .inl (g.2.1, 122, .inl zimage)), (a_isKept, .inl (g.2.2.1, 2, .inl zisKept))] → va_S A s.heap H locs → ∀ (ls : Array Slot), lv_has ls 3 [(0, .ref h0), (1, .int l1), (2, .int l2)] → W p l e (headSpec wsX7_end ({ frames := 5, cells := 0, slots := 0, locals := 124 } : Room)).room s m ([.ref h0] : List Value).toArray below meth c H locs 0 0 (MQ below (va_Qi (fun (r : Int32) (u : Int32 × (Nat → Int32) × (Nat → Int32)) => Q r u.1 u.2.1 u.2.2) (BM g (fun u : Int32 × (Nat → Int32) × (Nat → Int32) => [(h0, .inr (7, [.ref a_clues, .int zmany, .ref a_text, .int zsigns, .int zfault, .ref a_orders, .ref a_places, .int zsought, .int zfirst, .int zsecond, .ref a_lefts, .ref a_steps, .int u.1, .ref a_image, .ref a_isKept])), (a_clues, .inl (g.2.1, 60, .inl zclues)), (a_text, .inl (g.2.1, 10, .inl ztext)), (a_orders, .inl (g.2.1, 96, .inl zorders)), (a_places, .inl (g.2.1, 16, .inl zplaces)), (a_lefts, .inl (g.2.1, 16, .inl u.2.1)), (a_steps, .inl (g.2.1, 256, .inl u.2.2)), (a_image, .inl (g.2.1, 122, .inl zimage)), (a_isKept, .inl (g.2.2.1, 2, .inl zisKept))]) A) A) ([.ref h0] : List Value).toArray s 0 0 A) (F0 m 10 ls []) := by
    intro  l1 l2 zlefts zsteps zmade hw
    obtain ⟨I10, mu10, hI, hstep⟩ := hw
    have key : ∀ (n : Nat) (l1 : Int32) (l2 : Int32) (zlefts : Nat → Int32) (zsteps : Nat → Int32) (zmade : Int32), mu10 l1 l2 zlefts zsteps zmade < n → I10 l1 l2 zlefts zsteps zmade → ∀ (H : Heap) (locs : List Loc), PP g [(h0, .inr (7, [.ref a_clues, .int zmany, .ref a_text, .int zsigns, .int zfault, .ref a_orders, .ref a_places, .int zsought, .int zfirst, .int zsecond, .ref a_lefts, .ref a_steps, .int zmade, .ref a_image, .ref a_isKept])), (a_clues, .inl (g.2.1, 60, .inl zclues)), (a_text, .inl (g.2.1, 10, .inl ztext)), (a_orders, .inl (g.2.1, 96, .inl zorders)), (a_places, .inl (g.2.1, 16, .inl zplaces)), (a_lefts, .inl (g.2.1, 16, .inl zlefts)), (a_steps, .inl (g.2.1, 256, .inl zsteps)), (a_image, .inl (g.2.1, 122, .inl zimage)), (a_isKept, .inl (g.2.2.1, 2, .inl zisKept))] H → va_D A [(h0, .inr (7, [.ref a_clues, .int zmany, .ref a_text, .int zsigns, .int zfault, .ref a_orders, .ref a_places, .int zsought, .int zfirst, .int zsecond, .ref a_lefts, .ref a_steps, .int zmade, .ref a_image, .ref a_isKept])), (a_clues, .inl (g.2.1, 60, .inl zclues)), (a_text, .inl (g.2.1, 10, .inl ztext)), (a_orders, .inl (g.2.1, 96, .inl zorders)), (a_places, .inl (g.2.1, 16, .inl zplaces)), (a_lefts, .inl (g.2.1, 16, .inl zlefts)), (a_steps, .inl (g.2.1, 256, .inl zsteps)), (a_image, .inl (g.2.1, 122, .inl zimage)), (a_isKept, .inl (g.2.2.1, 2, .inl zisKept))] → va_S A s.heap H locs → ∀ (ls : Array Slot), lv_has ls 3 [(0, .ref h0), (1, .int l1), (2, .int l2)] → W p l e (headSpec wsX7_end ({ frames := 5, cells := 0, slots := 0, locals := 124 } : Room)).room s m ([.ref h0] : List Value).toArray below meth c H locs 0 0 (MQ below (va_Qi (fun (r : Int32) (u : Int32 × (Nat → Int32) × (Nat → Int32)) => Q r u.1 u.2.1 u.2.2) (BM g (fun u : Int32 × (Nat → Int32) × (Nat → Int32) => [(h0, .inr (7, [.ref a_clues, .int zmany, .ref a_text, .int zsigns, .int zfault, .ref a_orders, .ref a_places, .int zsought, .int zfirst, .int zsecond, .ref a_lefts, .ref a_steps, .int u.1, .ref a_image, .ref a_isKept])), (a_clues, .inl (g.2.1, 60, .inl zclues)), (a_text, .inl (g.2.1, 10, .inl ztext)), (a_orders, .inl (g.2.1, 96, .inl zorders)), (a_places, .inl (g.2.1, 16, .inl zplaces)), (a_lefts, .inl (g.2.1, 16, .inl u.2.1)), (a_steps, .inl (g.2.1, 256, .inl u.2.2)), (a_image, .inl (g.2.1, 122, .inl zimage)), (a_isKept, .inl (g.2.2.1, 2, .inl zisKept))]) A) A) ([.ref h0] : List Value).toArray s 0 0 A) (F0 m 10 ls []) := by
      intro n
      induction n with
      | zero => intro l1 l2 zlefts zsteps zmade h; exact absurd h (Nat.not_lt_zero _)
      | succ n ih =>
          intro l1 l2 zlefts zsteps zmade hn hI  H locs hP hD hS ls hl
          have hw := hstep l1 l2 zlefts zsteps zmade hI
          have hK10 : ∀ (l1' : Int32) (l2' : Int32) (zlefts' : Nat → Int32) (zsteps' : Nat → Int32) (zmade' : Int32), (I10 l1' l2' zlefts' zsteps' zmade' ∧ mu10 l1' l2' zlefts' zsteps' zmade' < mu10 l1 l2 zlefts zsteps zmade) → ∀ (H : Heap) (locs : List Loc), PP g [(h0, .inr (7, [.ref a_clues, .int zmany, .ref a_text, .int zsigns, .int zfault, .ref a_orders, .ref a_places, .int zsought, .int zfirst, .int zsecond, .ref a_lefts, .ref a_steps, .int zmade', .ref a_image, .ref a_isKept])), (a_clues, .inl (g.2.1, 60, .inl zclues)), (a_text, .inl (g.2.1, 10, .inl ztext)), (a_orders, .inl (g.2.1, 96, .inl zorders)), (a_places, .inl (g.2.1, 16, .inl zplaces)), (a_lefts, .inl (g.2.1, 16, .inl zlefts')), (a_steps, .inl (g.2.1, 256, .inl zsteps')), (a_image, .inl (g.2.1, 122, .inl zimage)), (a_isKept, .inl (g.2.2.1, 2, .inl zisKept))] H → va_D A [(h0, .inr (7, [.ref a_clues, .int zmany, .ref a_text, .int zsigns, .int zfault, .ref a_orders, .ref a_places, .int zsought, .int zfirst, .int zsecond, .ref a_lefts, .ref a_steps, .int zmade', .ref a_image, .ref a_isKept])), (a_clues, .inl (g.2.1, 60, .inl zclues)), (a_text, .inl (g.2.1, 10, .inl ztext)), (a_orders, .inl (g.2.1, 96, .inl zorders)), (a_places, .inl (g.2.1, 16, .inl zplaces)), (a_lefts, .inl (g.2.1, 16, .inl zlefts')), (a_steps, .inl (g.2.1, 256, .inl zsteps')), (a_image, .inl (g.2.1, 122, .inl zimage)), (a_isKept, .inl (g.2.2.1, 2, .inl zisKept))] → va_S A s.heap H locs → ∀ (ls : Array Slot), lv_has ls 3 [(0, .ref h0), (1, .int l1'), (2, .int l2')] → W p l e (headSpec wsX7_end ({ frames := 5, cells := 0, slots := 0, locals := 124 } : Room)).room s m ([.ref h0] : List Value).toArray below meth c H locs 0 0 (MQ below (va_Qi (fun (r : Int32) (u : Int32 × (Nat → Int32) × (Nat → Int32)) => Q r u.1 u.2.1 u.2.2) (BM g (fun u : Int32 × (Nat → Int32) × (Nat → Int32) => [(h0, .inr (7, [.ref a_clues, .int zmany, .ref a_text, .int zsigns, .int zfault, .ref a_orders, .ref a_places, .int zsought, .int zfirst, .int zsecond, .ref a_lefts, .ref a_steps, .int u.1, .ref a_image, .ref a_isKept])), (a_clues, .inl (g.2.1, 60, .inl zclues)), (a_text, .inl (g.2.1, 10, .inl ztext)), (a_orders, .inl (g.2.1, 96, .inl zorders)), (a_places, .inl (g.2.1, 16, .inl zplaces)), (a_lefts, .inl (g.2.1, 16, .inl u.2.1)), (a_steps, .inl (g.2.1, 256, .inl u.2.2)), (a_image, .inl (g.2.1, 122, .inl zimage)), (a_isKept, .inl (g.2.2.1, 2, .inl zisKept))]) A) A) ([.ref h0] : List Value).toArray s 0 0 A) (F0 m 10 ls []) := fun l1' l2' zlefts' zsteps' zmade' h => ih l1' l2' zlefts' zsteps' zmade' (Nat.lt_of_lt_of_le h.2 (Nat.le_of_lt_succ hn)) h.1
          refine lv_iload_n hx hb dX7_end_10 rfl (lv_at hl 2 rfl) ?_
          refine lv_bipush (v := 16) hx hb dX7_end_11 (by decide) ?_
          refine lv_icmp_ge (tgt := 45) hx hb dX7_end_13 (by decide) (fun c4 => ?_) (fun c4 => ?_)
          · replace hw := hw.1 c4
            refine lv_aload_n hx hb dX7_end_45 rfl (lv_at hl 0 rfl) ?_
            refine kp_V (As := []) (rest := []) (wc := [(h0, .inr (7, [.ref a_clues, .int zmany, .ref a_text, .int zsigns, .int zfault, .ref a_orders, .ref a_places, .int zsought, .int zfirst, .int zsecond, .ref a_lefts, .ref a_steps, .int zmade, .ref a_image, .ref a_isKept])), (a_clues, .inl (g.2.1, 60, .inl zclues)), (a_text, .inl (g.2.1, 10, .inl ztext)), (a_orders, .inl (g.2.1, 96, .inl zorders)), (a_places, .inl (g.2.1, 16, .inl zplaces)), (a_lefts, .inl (g.2.1, 16, .inl zlefts)), (a_steps, .inl (g.2.1, 256, .inl zsteps)), (a_image, .inl (g.2.1, 122, .inl zimage)), (a_isKept, .inl (g.2.2.1, 2, .inl zisKept))]) (cq := (RX7, TX7, 15)) ⟨hx, hb, hml, hown, hts⟩ (m_X7_isEmpty l g hok (h0 := h0) (a_clues := a_clues) (a_text := a_text) (a_orders := a_orders) (a_places := a_places) (a_lefts := a_lefts) (a_steps := a_steps) (a_image := a_image) (a_isKept := a_isKept) (zclues := zclues) (zmany := zmany) (ztext := ztext) (zsigns := zsigns) (zfault := zfault) (zorders := zorders) (zplaces := zplaces) (zsought := zsought) (zfirst := zfirst) (zsecond := zsecond) (zlefts := zlefts) (zsteps := zsteps) (zmade := zmade) (zimage := zimage) (zisKept := zisKept) hw) (cwV 0 hts gX7_end_X7_isEmpty rfl rfl rfl hd_X7_isEmpty ⟨Nat.le_of_ble_eq_true rfl, Nat.le_of_ble_eq_true rfl⟩) hok hK hP hro hS hA 0 7 rfl rfl rfl hl.1 rfl (Nat.le_of_ble_eq_true rfl) dX7_end_46 ⟨Nat.le_of_ble_eq_true rfl, Nat.le_of_ble_eq_true rfl⟩ (fun r5 hw => ?_)
            refine lv_if_eq (tgt := 56) hx hb dX7_end_49 (by decide) (fun c6 => ?_) (fun c6 => ?_)
            · replace hw := hw.1 c6
              refine lv_iload_n hx hb dX7_end_56 rfl (lv_at hl 1 rfl) ?_
              refine lv_if_eq (tgt := 64) hx hb dX7_end_57 (by decide) (fun c7 => ?_) (fun c7 => ?_)
              · replace hw := hw.1 c7
                refine lv_iconst (v := 1) hx hb dX7_end_64 (by decide) ?_
                exact W.iret hx hb hr (fun t ht hW => ⟨⟨1, (zmade, zlefts, zsteps), rfl, hw, by rw [ht]; exact hP, va_K.moved hW.alike hK, hD⟩, hS.F ht⟩) hS.2.2 dX7_end_65
              · replace hw := hw.2 c7
                refine lv_iconst (v := 0) hx hb dX7_end_60 (by decide) ?_
                refine lv_goto (tgt := 65) hx hb dX7_end_61 (by decide) ?_
                exact W.iret hx hb hr (fun t ht hW => ⟨⟨0, (zmade, zlefts, zsteps), rfl, hw, by rw [ht]; exact hP, va_K.moved hW.alike hK, hD⟩, hS.F ht⟩) hS.2.2 dX7_end_65
            · replace hw := hw.2 c6
              refine lv_iconst (v := 2) hx hb dX7_end_52 (by decide) ?_
              refine lv_goto (tgt := 65) hx hb dX7_end_53 (by decide) ?_
              exact W.iret hx hb hr (fun t ht hW => ⟨⟨2, (zmade, zlefts, zsteps), rfl, hw, by rw [ht]; exact hP, va_K.moved hW.alike hK, hD⟩, hS.F ht⟩) hS.2.2 dX7_end_65
          · replace hw := hw.2 c4
            refine lv_iload_n hx hb dX7_end_16 rfl (lv_at hl 1 rfl) ?_
            refine lv_if_eq (tgt := 37) hx hb dX7_end_17 (by decide) (fun c8 => ?_) (fun c8 => ?_)
            · replace hw := hw.1 c8
              refine lv_iconst (v := 0) hx hb dX7_end_37 (by decide) ?_
              refine lv_istore_n (lv' := [(1, .int 0), (0, .ref h0), (2, .int l2)]) hx hb dX7_end_38 rfl hl (by decide) rfl (fun ls hl => ?_)
              refine lv_iinc (v := (l2 + 1)) (lv' := [(2, .int (l2 + 1)), (1, .int 0), (0, .ref h0)]) hx hb dX7_end_39 hl (k := 2) rfl rfl (by decide) rfl (fun ls hl => ?_)
              refine lv_goto (tgt := 10) hx hb dX7_end_42 (by decide) ?_
              exact hK10 0 (l2 + 1) zlefts zsteps zmade hw  _ _ hP hD hS ls (lv_sub hl [2, 1, 0] rfl)
            · replace hw := hw.2 c8
              refine lv_aload_n hx hb dX7_end_20 rfl (lv_at hl 0 rfl) ?_
              refine va_get (D := g.1) (ci := 7) (v := .ref a_lefts) (C := RX7) (T := TX7) (N := 15) hx hb hts hinX7 hown hK hP 0 rfl rfl 10 (by decide) lk1 (fun _ h9 => h9) rfl dX7_end_21 ?_
              refine lv_iload_n hx hb dX7_end_24 rfl (lv_at hl 2 rfl) ?_
              obtain ⟨hi, hw⟩ := hw
              refine va_iald hx hb hK hP 5 0 rfl rfl hi dX7_end_25 ?_
              refine kp_S (As := [.int (zlefts l2.toNatClampNeg)]) (rest := []) (wc := []) ⟨hx, hb, hml, hown, hts⟩ (m_X7_bits l g hok (x1 := (zlefts l2.toNatClampNeg)) hw) (va_cwS 1 hts gX7_end_X7_bits rfl rfl rfl hd_X7_bits ⟨Nat.le_of_ble_eq_true rfl, Nat.le_of_ble_eq_true rfl⟩) hok hK PP_nil hro hS hA rfl hl.1 rfl (Nat.le_of_ble_eq_true rfl) dX7_end_26 ⟨Nat.le_of_ble_eq_true rfl, Nat.le_of_ble_eq_true rfl⟩ (fun r9 hw => ?_)
              refine lv_iconst (v := 1) hx hb dX7_end_29 (by decide) ?_
              refine lv_icmp_ne (tgt := 37) hx hb dX7_end_30 (by decide) (fun c10 => ?_) (fun c10 => ?_)
              · replace hw := hw.2 c10
                refine lv_iconst (v := 0) hx hb dX7_end_37 (by decide) ?_
                refine lv_istore_n (lv' := [(1, .int 0), (0, .ref h0), (2, .int l2)]) hx hb dX7_end_38 rfl hl (by decide) rfl (fun ls hl => ?_)
                refine lv_iinc (v := (l2 + 1)) (lv' := [(2, .int (l2 + 1)), (1, .int 0), (0, .ref h0)]) hx hb dX7_end_39 hl (k := 2) rfl rfl (by decide) rfl (fun ls hl => ?_)
                refine lv_goto (tgt := 10) hx hb dX7_end_42 (by decide) ?_
                exact hK10 0 (l2 + 1) zlefts zsteps zmade hw  _ _ hP hD hS ls (lv_sub hl [2, 1, 0] rfl)
              · replace hw := hw.1 c10
                refine lv_iconst (v := 1) hx hb dX7_end_33 (by decide) ?_
                refine lv_goto (tgt := 38) hx hb dX7_end_34 (by decide) ?_
                refine lv_istore_n (lv' := [(1, .int 1), (0, .ref h0), (2, .int l2)]) hx hb dX7_end_38 rfl hl (by decide) rfl (fun ls hl => ?_)
                refine lv_iinc (v := (l2 + 1)) (lv' := [(2, .int (l2 + 1)), (1, .int 1), (0, .ref h0)]) hx hb dX7_end_39 hl (k := 2) rfl rfl (by decide) rfl (fun ls hl => ?_)
                refine lv_goto (tgt := 10) hx hb dX7_end_42 (by decide) ?_
                exact hK10 1 (l2 + 1) zlefts zsteps zmade hw  _ _ hP hD hS ls (lv_sub hl [2, 1, 0] rfl)
    exact key _ l1 l2 zlefts zsteps zmade (Nat.lt_succ_self _) hI
  have hl := lv_entry ([.ref h0]) (n := 3) (Nat.le_of_ble_eq_true rfl)
  rw [lg_entry_eq]
  generalize (lg_sl ([.ref h0]) ++ List.replicate (3 - (lg_sl ([.ref h0])).length) Slot.unset).toArray = ls at hl ⊢
  have hl : lv_has ls 3 [(0, .ref h0)] := hl
  unfold wp_X7_end at hw
  refine lv_aload_n hx hb dX7_end_0 rfl (lv_at hl 0 rfl) ?_
  refine lv_bipush (v := 64) hx hb dX7_end_1 (by decide) ?_
  refine kn_Vv (As := [.int 64]) (rest := []) (wc := [(h0, .inr (7, [.ref a_clues, .int zmany, .ref a_text, .int zsigns, .int zfault, .ref a_orders, .ref a_places, .int zsought, .int zfirst, .int zsecond, .ref a_lefts, .ref a_steps, .int zmade, .ref a_image, .ref a_isKept])), (a_clues, .inl (g.2.1, 60, .inl zclues)), (a_text, .inl (g.2.1, 10, .inl ztext)), (a_orders, .inl (g.2.1, 96, .inl zorders)), (a_places, .inl (g.2.1, 16, .inl zplaces)), (a_lefts, .inl (g.2.1, 16, .inl zlefts)), (a_steps, .inl (g.2.1, 256, .inl zsteps)), (a_image, .inl (g.2.1, 122, .inl zimage)), (a_isKept, .inl (g.2.2.1, 2, .inl zisKept))]) (wr := []) (cq := (RX7, TX7, 15)) ⟨hx, hb, hml, hown, hts⟩ (m_X7_solve l g hok (h0 := h0) (a_clues := a_clues) (a_text := a_text) (a_orders := a_orders) (a_places := a_places) (a_lefts := a_lefts) (a_steps := a_steps) (a_image := a_image) (a_isKept := a_isKept) (zclues := zclues) (zmany := zmany) (ztext := ztext) (zsigns := zsigns) (zfault := zfault) (zorders := zorders) (zplaces := zplaces) (zsought := zsought) (zfirst := zfirst) (zsecond := zsecond) (zlefts := zlefts) (zsteps := zsteps) (zmade := zmade) (zimage := zimage) (zisKept := zisKept) (x1 := 64) hw) (cwV 1 hts gX7_end_X7_solve rfl rfl rfl hd_X7_solve ⟨Nat.le_of_ble_eq_true rfl, Nat.le_of_ble_eq_true rfl⟩) hok hK hP hD hS hA (ro_pass hok hro hS (va_free (wc := [(h0, .inr (7, [.ref a_clues, .int zmany, .ref a_text, .int zsigns, .int zfault, .ref a_orders, .ref a_places, .int zsought, .int zfirst, .int zsecond, .ref a_lefts, .ref a_steps, .int zmade, .ref a_image, .ref a_isKept])), (a_clues, .inl (g.2.1, 60, .inl zclues)), (a_text, .inl (g.2.1, 10, .inl ztext)), (a_orders, .inl (g.2.1, 96, .inl zorders)), (a_places, .inl (g.2.1, 16, .inl zplaces)), (a_lefts, .inl (g.2.1, 16, .inl zlefts)), (a_steps, .inl (g.2.1, 256, .inl zsteps)), (a_image, .inl (g.2.1, 122, .inl zimage)), (a_isKept, .inl (g.2.2.1, 2, .inl zisKept))]) hD hS hA [0, 1, 2, 3, 4, 5, 6, 7, 8] rfl)) [0, 1, 2, 3, 4, 5, 6, 7, 8] [] rfl rfl (by decide) (by decide) (by decide) (va_recv hK hP (ci := 7) (q0 := 0) rfl rfl) rfl hl.1 rfl (Nat.le_of_ble_eq_true rfl) dX7_end_3 ⟨Nat.le_of_ble_eq_true rfl, Nat.le_of_ble_eq_true rfl⟩ (fun u H locs hw hP hD hS => ?_)
  obtain ⟨w1, w2, w3⟩ := u
  have hP : PP g [(h0, .inr (7, [.ref a_clues, .int zmany, .ref a_text, .int zsigns, .int zfault, .ref a_orders, .ref a_places, .int zsought, .int zfirst, .int zsecond, .ref a_lefts, .ref a_steps, .int w1, .ref a_image, .ref a_isKept])), (a_clues, .inl (g.2.1, 60, .inl zclues)), (a_text, .inl (g.2.1, 10, .inl ztext)), (a_orders, .inl (g.2.1, 96, .inl zorders)), (a_places, .inl (g.2.1, 16, .inl zplaces)), (a_lefts, .inl (g.2.1, 16, .inl w2)), (a_steps, .inl (g.2.1, 256, .inl w3)), (a_image, .inl (g.2.1, 122, .inl zimage)), (a_isKept, .inl (g.2.2.1, 2, .inl zisKept))] H := hP
  have hD : va_D A [(h0, .inr (7, [.ref a_clues, .int zmany, .ref a_text, .int zsigns, .int zfault, .ref a_orders, .ref a_places, .int zsought, .int zfirst, .int zsecond, .ref a_lefts, .ref a_steps, .int w1, .ref a_image, .ref a_isKept])), (a_clues, .inl (g.2.1, 60, .inl zclues)), (a_text, .inl (g.2.1, 10, .inl ztext)), (a_orders, .inl (g.2.1, 96, .inl zorders)), (a_places, .inl (g.2.1, 16, .inl zplaces)), (a_lefts, .inl (g.2.1, 16, .inl w2)), (a_steps, .inl (g.2.1, 256, .inl w3)), (a_image, .inl (g.2.1, 122, .inl zimage)), (a_isKept, .inl (g.2.2.1, 2, .inl zisKept))] := hD
  refine lv_iconst (v := 1) hx hb dX7_end_6 (by decide) ?_
  refine lv_istore_n (lv' := [(1, .int 1), (0, .ref h0)]) hx hb dX7_end_7 rfl hl (by decide) rfl (fun ls hl => ?_)
  refine lv_iconst (v := 0) hx hb dX7_end_8 (by decide) ?_
  refine lv_istore_n (lv' := [(2, .int 0), (1, .int 1), (0, .ref h0)]) hx hb dX7_end_9 rfl hl (by decide) rfl (fun ls hl => ?_)
  exact B10  1 0 w2 w3 w1 hw  _ _ hP hD hS ls (lv_sub hl [2, 1, 0] rfl)

def wp_X7_image_14 (Q : Int32 → (Nat → Int32) → (Nat → Int32) → Prop) (x1 : Int32) (zclues : Nat → Int32) (zmany : Int32)  (l2 : Int32) (zimage : Nat → Int32) (zisKept : Nat → Int32) : Prop :=
  ∃ (I14 : Int32 → (Nat → Int32) → (Nat → Int32) → Prop) (mu14 : Int32 → (Nat → Int32) → (Nat → Int32) → Nat), I14 l2 zimage zisKept ∧ ∀ (l2 : Int32) (zimage : Nat → Int32) (zisKept : Nat → Int32), I14 l2 zimage zisKept → ((60 ≤ l2 → (vp_in ((61 * x1) + 60) 122 ∧ (vp_in x1 2 ∧ Q 1 (upd zimage ((61 * x1) + 60).toNatClampNeg zmany) (upd zisKept x1.toNatClampNeg (vp_nar .boolean 1))))) ∧ (¬ (60 ≤ l2) → (vp_in l2 60 ∧ (vp_in ((61 * x1) + l2) 122 ∧ (I14 (l2 + 1) (upd zimage ((61 * x1) + l2).toNatClampNeg (zclues l2.toNatClampNeg)) zisKept ∧ mu14 (l2 + 1) (upd zimage ((61 * x1) + l2).toNatClampNeg (zclues l2.toNatClampNeg)) zisKept < mu14 l2 zimage zisKept)))))
def wp_X7_image (x1 : Int32) (zclues : Nat → Int32) (zmany : Int32) (zimage : Nat → Int32) (zisKept : Nat → Int32) (Q : Int32 → (Nat → Int32) → (Nat → Int32) → Prop) : Prop :=
  (wp_X7_in x1 0 1 (fun r1 => ((r1 = 0 → Q (-2) zimage zisKept) ∧ (¬ (r1 = 0) → wp_X7_image_14 Q x1 zclues zmany  0 zimage zisKept))))
theorem hd_X7_image : yX7_image.cls = RX7 ∧ yX7_image.cls ≠ "java/lang/invoke/MethodHandle" ∧ yX7_image.cls ≠ "java/lang/invoke/VarHandle" ∧ (parseMethodDescriptor yX7_image.desc).map (fun d => d.parameters.length) = some 1 := by decide +kernel
set_option maxHeartbeats 4000000 in
set_option maxRecDepth 100000 in
theorem m_X7_image (l : Launch) (g : GG) {ro : Ro} (hok : RoOK ro) {h0 a_clues a_text a_orders a_places a_lefts a_steps a_image a_isKept : Nat} {zclues : Nat → Int32} {zmany : Int32} {ztext : Nat → Int32} {zsigns : Int32} {zfault : Int32} {zorders : Nat → Int32} {zplaces : Nat → Int32} {zsought : Int32} {zfirst : Int32} {zsecond : Int32} {zlefts : Nat → Int32} {zsteps : Nat → Int32} {zmade : Int32} {zimage : Nat → Int32} {zisKept : Nat → Int32} {x1 : Int32} {sz : Nat} {Q : Int32 → (Nat → Int32) → (Nat → Int32) → Prop} (hw : wp_X7_image x1 zclues zmany zimage zisKept Q) : Met l yX7_image wsX7_image ({ frames := 1, cells := 0, slots := 0, locals := 22 } : Room) (PcM g ro [(h0, .inr (7, [.ref a_clues, .int zmany, .ref a_text, .int zsigns, .int zfault, .ref a_orders, .ref a_places, .int zsought, .int zfirst, .int zsecond, .ref a_lefts, .ref a_steps, .int zmade, .ref a_image, .ref a_isKept])), (a_clues, .inl (g.2.1, 60, .inl zclues)), (a_text, .inl (g.2.1, 10, .inl ztext)), (a_orders, .inl (g.2.1, 96, .inl zorders)), (a_places, .inl (g.2.1, 16, .inl zplaces)), (a_lefts, .inl (g.2.1, 16, .inl zlefts)), (a_steps, .inl (g.2.1, 256, .inl zsteps)), (a_image, .inl (g.2.1, 122, .inl zimage)), (a_isKept, .inl (g.2.2.1, 2, .inl zisKept))] sz [.ref h0, .int x1]) (va_Qi (fun (r : Int32) (u : (Nat → Int32) × (Nat → Int32)) => Q r u.1 u.2) (BM g (fun u : (Nat → Int32) × (Nat → Int32) => [(h0, .inr (7, [.ref a_clues, .int zmany, .ref a_text, .int zsigns, .int zfault, .ref a_orders, .ref a_places, .int zsought, .int zfirst, .int zsecond, .ref a_lefts, .ref a_steps, .int zmade, .ref a_image, .ref a_isKept])), (a_clues, .inl (g.2.1, 60, .inl zclues)), (a_text, .inl (g.2.1, 10, .inl ztext)), (a_orders, .inl (g.2.1, 96, .inl zorders)), (a_places, .inl (g.2.1, 16, .inl zplaces)), (a_lefts, .inl (g.2.1, 16, .inl zlefts)), (a_steps, .inl (g.2.1, 256, .inl zsteps)), (a_image, .inl (g.2.1, 122, .inl u.1)), (a_isKept, .inl (g.2.2.1, 2, .inl u.2))]) (va_A [(h0, .inr (7, [.ref a_clues, .int zmany, .ref a_text, .int zsigns, .int zfault, .ref a_orders, .ref a_places, .int zsought, .int zfirst, .int zsecond, .ref a_lefts, .ref a_steps, .int zmade, .ref a_image, .ref a_isKept])), (a_clues, .inl (g.2.1, 60, .inl zclues)), (a_text, .inl (g.2.1, 10, .inl ztext)), (a_orders, .inl (g.2.1, 96, .inl zorders)), (a_places, .inl (g.2.1, 16, .inl zplaces)), (a_lefts, .inl (g.2.1, 16, .inl zlefts)), (a_steps, .inl (g.2.1, 256, .inl zsteps)), (a_image, .inl (g.2.1, 122, .inl zimage)), (a_isKept, .inl (g.2.2.1, 2, .inl zisKept))] sz)) (va_A [(h0, .inr (7, [.ref a_clues, .int zmany, .ref a_text, .int zsigns, .int zfault, .ref a_orders, .ref a_places, .int zsought, .int zfirst, .int zsecond, .ref a_lefts, .ref a_steps, .int zmade, .ref a_image, .ref a_isKept])), (a_clues, .inl (g.2.1, 60, .inl zclues)), (a_text, .inl (g.2.1, 10, .inl ztext)), (a_orders, .inl (g.2.1, 96, .inl zorders)), (a_places, .inl (g.2.1, 16, .inl zplaces)), (a_lefts, .inl (g.2.1, 16, .inl zlefts)), (a_steps, .inl (g.2.1, 256, .inl zsteps)), (a_image, .inl (g.2.1, 122, .inl zimage)), (a_isKept, .inl (g.2.2.1, 2, .inl zisKept))] sz)) 0 0 (va_A [(h0, .inr (7, [.ref a_clues, .int zmany, .ref a_text, .int zsigns, .int zfault, .ref a_orders, .ref a_places, .int zsought, .int zfirst, .int zsecond, .ref a_lefts, .ref a_steps, .int zmade, .ref a_image, .ref a_isKept])), (a_clues, .inl (g.2.1, 60, .inl zclues)), (a_text, .inl (g.2.1, 10, .inl ztext)), (a_orders, .inl (g.2.1, 96, .inl zorders)), (a_places, .inl (g.2.1, 16, .inl zplaces)), (a_lefts, .inl (g.2.1, 16, .inl zlefts)), (a_steps, .inl (g.2.1, 256, .inl zsteps)), (a_image, .inl (g.2.1, 122, .inl zimage)), (a_isKept, .inl (g.2.2.1, 2, .inl zisKept))] sz) := by
  refine Met.ofW (cc := cX7_image) (maxL := 3) (ret := (some .int)) (by decide) rfl ?_
  intro p e s m args below meth c s₁ B hml hv
  obtain ⟨rfl, hsz, hP, hK, hD0, hro⟩ := hv
  have hx := B.exec
  have hb := B.bytes
  have hr := B.returns
  have hts := atoms_spec (ws := wsX7_image) B.pre
  have hown : s.vm.findClass RX7 = some m.cls := findClass_of_methodNamed B.named
  have hlocks := B.notSynchronized
  subst hsz
  have hD := hD0.self (sz := s.heap.size)
  generalize hAe : va_A [(h0, .inr (7, [.ref a_clues, .int zmany, .ref a_text, .int zsigns, .int zfault, .ref a_orders, .ref a_places, .int zsought, .int zfirst, .int zsecond, .ref a_lefts, .ref a_steps, .int zmade, .ref a_image, .ref a_isKept])), (a_clues, .inl (g.2.1, 60, .inl zclues)), (a_text, .inl (g.2.1, 10, .inl ztext)), (a_orders, .inl (g.2.1, 96, .inl zorders)), (a_places, .inl (g.2.1, 16, .inl zplaces)), (a_lefts, .inl (g.2.1, 16, .inl zlefts)), (a_steps, .inl (g.2.1, 256, .inl zsteps)), (a_image, .inl (g.2.1, 122, .inl zimage)), (a_isKept, .inl (g.2.2.1, 2, .inl zisKept))] s.heap.size = A at hD hro ⊢
  have hA : ∀ q : Nat, s.heap.size ≤ q → A q := fun q h => by rw [← hAe]; exact Or.inr h
  have hS : va_S A s.heap s.heap [] := va_S.rf
  have hP : PP g [(h0, .inr (7, [.ref a_clues, .int zmany, .ref a_text, .int zsigns, .int zfault, .ref a_orders, .ref a_places, .int zsought, .int zfirst, .int zsecond, .ref a_lefts, .ref a_steps, .int zmade, .ref a_image, .ref a_isKept])), (a_clues, .inl (g.2.1, 60, .inl zclues)), (a_text, .inl (g.2.1, 10, .inl ztext)), (a_orders, .inl (g.2.1, 96, .inl zorders)), (a_places, .inl (g.2.1, 16, .inl zplaces)), (a_lefts, .inl (g.2.1, 16, .inl zlefts)), (a_steps, .inl (g.2.1, 256, .inl zsteps)), (a_image, .inl (g.2.1, 122, .inl zimage)), (a_isKept, .inl (g.2.2.1, 2, .inl zisKept))] s.heap := hP
  have lk1 := hts (.fieldLink RX7 32 "GridRiddlesModel" "image" "[I") (by decide +kernel)
  have hinX7 : ∀ w ∈ u_ws RX7 TX7 15, w ∈ wsX7_image := by decide +kernel
  have lk3 := hts (.fieldLink RX7 43 "GridRiddlesModel" "many" "I") (by decide +kernel)
  have lk4 := hts (.fieldLink RX7 35 "GridRiddlesModel" "isKept" "[Z") (by decide +kernel)
  have lk5 := hts (.fieldLink RX7 7 "GridRiddlesModel" "clues" "[I") (by decide +kernel)
  have B14 : ∀ (l2 : Int32) (zimage : Nat → Int32) (zisKept : Nat → Int32), wp_X7_image_14 Q x1 zclues zmany  l2 zimage zisKept → ∀ (H : Heap) (locs : List Loc), PP g [(h0, .inr (7, [.ref a_clues, .int zmany, .ref a_text, .int zsigns, .int zfault, .ref a_orders, .ref a_places, .int zsought, .int zfirst, .int zsecond, .ref a_lefts, .ref a_steps, .int zmade, .ref a_image, .ref a_isKept])), (a_clues, .inl (g.2.1, 60, .inl zclues)), (a_text, .inl (g.2.1, 10, .inl ztext)), (a_orders, .inl (g.2.1, 96, .inl zorders)), (a_places, .inl (g.2.1, 16, .inl zplaces)), (a_lefts, .inl (g.2.1, 16, .inl zlefts)), (a_steps, .inl (g.2.1, 256, .inl zsteps)), (a_image, .inl (g.2.1, 122, .inl zimage)), (a_isKept, .inl (g.2.2.1, 2, .inl zisKept))] H → va_D A [(h0, .inr (7, [.ref a_clues, .int zmany, .ref a_text, .int zsigns, .int zfault, .ref a_orders, .ref a_places, .int zsought, .int zfirst, .int zsecond, .ref a_lefts, .ref a_steps, .int zmade, .ref a_image, .ref a_isKept])), (a_clues, .inl (g.2.1, 60, .inl zclues)), (a_text, .inl (g.2.1, 10, .inl ztext)), (a_orders, .inl (g.2.1, 96, .inl zorders)), (a_places, .inl (g.2.1, 16, .inl zplaces)), (a_lefts, .inl (g.2.1, 16, .inl zlefts)), (a_steps, .inl (g.2.1, 256, .inl zsteps)), (a_image, .inl (g.2.1, 122, .inl zimage)), (a_isKept, .inl (g.2.2.1, 2, .inl zisKept))] → va_S A s.heap H locs → ∀ (ls : Array Slot), lv_has ls 3 [(0, .ref h0), (1, .int x1), (2, .int l2)] → W p l e (headSpec wsX7_image ({ frames := 1, cells := 0, slots := 0, locals := 22 } : Room)).room s m ([.ref h0, .int x1] : List Value).toArray below meth c H locs 0 0 (MQ below (va_Qi (fun (r : Int32) (u : (Nat → Int32) × (Nat → Int32)) => Q r u.1 u.2) (BM g (fun u : (Nat → Int32) × (Nat → Int32) => [(h0, .inr (7, [.ref a_clues, .int zmany, .ref a_text, .int zsigns, .int zfault, .ref a_orders, .ref a_places, .int zsought, .int zfirst, .int zsecond, .ref a_lefts, .ref a_steps, .int zmade, .ref a_image, .ref a_isKept])), (a_clues, .inl (g.2.1, 60, .inl zclues)), (a_text, .inl (g.2.1, 10, .inl ztext)), (a_orders, .inl (g.2.1, 96, .inl zorders)), (a_places, .inl (g.2.1, 16, .inl zplaces)), (a_lefts, .inl (g.2.1, 16, .inl zlefts)), (a_steps, .inl (g.2.1, 256, .inl zsteps)), (a_image, .inl (g.2.1, 122, .inl u.1)), (a_isKept, .inl (g.2.2.1, 2, .inl u.2))]) A) A) ([.ref h0, .int x1] : List Value).toArray s 0 0 A) (F0 m 14 ls []) := by
    intro  l2 zimage zisKept hw
    obtain ⟨I14, mu14, hI, hstep⟩ := hw
    have key : ∀ (n : Nat) (l2 : Int32) (zimage : Nat → Int32) (zisKept : Nat → Int32), mu14 l2 zimage zisKept < n → I14 l2 zimage zisKept → ∀ (H : Heap) (locs : List Loc), PP g [(h0, .inr (7, [.ref a_clues, .int zmany, .ref a_text, .int zsigns, .int zfault, .ref a_orders, .ref a_places, .int zsought, .int zfirst, .int zsecond, .ref a_lefts, .ref a_steps, .int zmade, .ref a_image, .ref a_isKept])), (a_clues, .inl (g.2.1, 60, .inl zclues)), (a_text, .inl (g.2.1, 10, .inl ztext)), (a_orders, .inl (g.2.1, 96, .inl zorders)), (a_places, .inl (g.2.1, 16, .inl zplaces)), (a_lefts, .inl (g.2.1, 16, .inl zlefts)), (a_steps, .inl (g.2.1, 256, .inl zsteps)), (a_image, .inl (g.2.1, 122, .inl zimage)), (a_isKept, .inl (g.2.2.1, 2, .inl zisKept))] H → va_D A [(h0, .inr (7, [.ref a_clues, .int zmany, .ref a_text, .int zsigns, .int zfault, .ref a_orders, .ref a_places, .int zsought, .int zfirst, .int zsecond, .ref a_lefts, .ref a_steps, .int zmade, .ref a_image, .ref a_isKept])), (a_clues, .inl (g.2.1, 60, .inl zclues)), (a_text, .inl (g.2.1, 10, .inl ztext)), (a_orders, .inl (g.2.1, 96, .inl zorders)), (a_places, .inl (g.2.1, 16, .inl zplaces)), (a_lefts, .inl (g.2.1, 16, .inl zlefts)), (a_steps, .inl (g.2.1, 256, .inl zsteps)), (a_image, .inl (g.2.1, 122, .inl zimage)), (a_isKept, .inl (g.2.2.1, 2, .inl zisKept))] → va_S A s.heap H locs → ∀ (ls : Array Slot), lv_has ls 3 [(0, .ref h0), (1, .int x1), (2, .int l2)] → W p l e (headSpec wsX7_image ({ frames := 1, cells := 0, slots := 0, locals := 22 } : Room)).room s m ([.ref h0, .int x1] : List Value).toArray below meth c H locs 0 0 (MQ below (va_Qi (fun (r : Int32) (u : (Nat → Int32) × (Nat → Int32)) => Q r u.1 u.2) (BM g (fun u : (Nat → Int32) × (Nat → Int32) => [(h0, .inr (7, [.ref a_clues, .int zmany, .ref a_text, .int zsigns, .int zfault, .ref a_orders, .ref a_places, .int zsought, .int zfirst, .int zsecond, .ref a_lefts, .ref a_steps, .int zmade, .ref a_image, .ref a_isKept])), (a_clues, .inl (g.2.1, 60, .inl zclues)), (a_text, .inl (g.2.1, 10, .inl ztext)), (a_orders, .inl (g.2.1, 96, .inl zorders)), (a_places, .inl (g.2.1, 16, .inl zplaces)), (a_lefts, .inl (g.2.1, 16, .inl zlefts)), (a_steps, .inl (g.2.1, 256, .inl zsteps)), (a_image, .inl (g.2.1, 122, .inl u.1)), (a_isKept, .inl (g.2.2.1, 2, .inl u.2))]) A) A) ([.ref h0, .int x1] : List Value).toArray s 0 0 A) (F0 m 14 ls []) := by
      intro n
      induction n with
      | zero => intro l2 zimage zisKept h; exact absurd h (Nat.not_lt_zero _)
      | succ n ih =>
          intro l2 zimage zisKept hn hI  H locs hP hD hS ls hl
          have hw := hstep l2 zimage zisKept hI
          have hK14 : ∀ (l2' : Int32) (zimage' : Nat → Int32) (zisKept' : Nat → Int32), (I14 l2' zimage' zisKept' ∧ mu14 l2' zimage' zisKept' < mu14 l2 zimage zisKept) → ∀ (H : Heap) (locs : List Loc), PP g [(h0, .inr (7, [.ref a_clues, .int zmany, .ref a_text, .int zsigns, .int zfault, .ref a_orders, .ref a_places, .int zsought, .int zfirst, .int zsecond, .ref a_lefts, .ref a_steps, .int zmade, .ref a_image, .ref a_isKept])), (a_clues, .inl (g.2.1, 60, .inl zclues)), (a_text, .inl (g.2.1, 10, .inl ztext)), (a_orders, .inl (g.2.1, 96, .inl zorders)), (a_places, .inl (g.2.1, 16, .inl zplaces)), (a_lefts, .inl (g.2.1, 16, .inl zlefts)), (a_steps, .inl (g.2.1, 256, .inl zsteps)), (a_image, .inl (g.2.1, 122, .inl zimage')), (a_isKept, .inl (g.2.2.1, 2, .inl zisKept'))] H → va_D A [(h0, .inr (7, [.ref a_clues, .int zmany, .ref a_text, .int zsigns, .int zfault, .ref a_orders, .ref a_places, .int zsought, .int zfirst, .int zsecond, .ref a_lefts, .ref a_steps, .int zmade, .ref a_image, .ref a_isKept])), (a_clues, .inl (g.2.1, 60, .inl zclues)), (a_text, .inl (g.2.1, 10, .inl ztext)), (a_orders, .inl (g.2.1, 96, .inl zorders)), (a_places, .inl (g.2.1, 16, .inl zplaces)), (a_lefts, .inl (g.2.1, 16, .inl zlefts)), (a_steps, .inl (g.2.1, 256, .inl zsteps)), (a_image, .inl (g.2.1, 122, .inl zimage')), (a_isKept, .inl (g.2.2.1, 2, .inl zisKept'))] → va_S A s.heap H locs → ∀ (ls : Array Slot), lv_has ls 3 [(0, .ref h0), (1, .int x1), (2, .int l2')] → W p l e (headSpec wsX7_image ({ frames := 1, cells := 0, slots := 0, locals := 22 } : Room)).room s m ([.ref h0, .int x1] : List Value).toArray below meth c H locs 0 0 (MQ below (va_Qi (fun (r : Int32) (u : (Nat → Int32) × (Nat → Int32)) => Q r u.1 u.2) (BM g (fun u : (Nat → Int32) × (Nat → Int32) => [(h0, .inr (7, [.ref a_clues, .int zmany, .ref a_text, .int zsigns, .int zfault, .ref a_orders, .ref a_places, .int zsought, .int zfirst, .int zsecond, .ref a_lefts, .ref a_steps, .int zmade, .ref a_image, .ref a_isKept])), (a_clues, .inl (g.2.1, 60, .inl zclues)), (a_text, .inl (g.2.1, 10, .inl ztext)), (a_orders, .inl (g.2.1, 96, .inl zorders)), (a_places, .inl (g.2.1, 16, .inl zplaces)), (a_lefts, .inl (g.2.1, 16, .inl zlefts)), (a_steps, .inl (g.2.1, 256, .inl zsteps)), (a_image, .inl (g.2.1, 122, .inl u.1)), (a_isKept, .inl (g.2.2.1, 2, .inl u.2))]) A) A) ([.ref h0, .int x1] : List Value).toArray s 0 0 A) (F0 m 14 ls []) := fun l2' zimage' zisKept' h => ih l2' zimage' zisKept' (Nat.lt_of_lt_of_le h.2 (Nat.le_of_lt_succ hn)) h.1
          refine lv_iload_n hx hb dX7_image_14 rfl (lv_at hl 2 rfl) ?_
          refine lv_bipush (v := 60) hx hb dX7_image_15 (by decide) ?_
          refine lv_icmp_ge (tgt := 43) hx hb dX7_image_17 (by decide) (fun c3 => ?_) (fun c3 => ?_)
          · replace hw := hw.1 c3
            refine lv_aload_n hx hb dX7_image_43 rfl (lv_at hl 0 rfl) ?_
            refine va_get (D := g.1) (ci := 7) (v := .ref a_image) (C := RX7) (T := TX7) (N := 15) hx hb hts hinX7 hown hK hP 0 rfl rfl 13 (by decide) lk1 (fun _ h9 => h9) rfl dX7_image_44 ?_
            refine lv_bipush (v := 61) hx hb dX7_image_47 (by decide) ?_
            refine lv_iload_n hx hb dX7_image_49 rfl (lv_at hl 1 rfl) ?_
            refine lv_imul hx hb dX7_image_50 ?_
            refine lv_bipush (v := 60) hx hb dX7_image_51 (by decide) ?_
            refine lv_iadd hx hb dX7_image_53 ?_
            refine lv_aload_n hx hb dX7_image_54 rfl (lv_at hl 0 rfl) ?_
            refine va_get (D := g.1) (ci := 7) (v := .int zmany) (C := RX7) (T := TX7) (N := 15) hx hb hts hinX7 hown hK hP 0 rfl rfl 1 (by decide) lk3 (fun _ h9 => h9) rfl dX7_image_55 ?_
            obtain ⟨hi, hw⟩ := hw
            refine va_iast hx hb hK hP hD hS 7 0 rfl rfl hi dX7_image_58 (fun H locs hP hD hS => ?_)
            have hP : PP g [(h0, .inr (7, [.ref a_clues, .int zmany, .ref a_text, .int zsigns, .int zfault, .ref a_orders, .ref a_places, .int zsought, .int zfirst, .int zsecond, .ref a_lefts, .ref a_steps, .int zmade, .ref a_image, .ref a_isKept])), (a_clues, .inl (g.2.1, 60, .inl zclues)), (a_text, .inl (g.2.1, 10, .inl ztext)), (a_orders, .inl (g.2.1, 96, .inl zorders)), (a_places, .inl (g.2.1, 16, .inl zplaces)), (a_lefts, .inl (g.2.1, 16, .inl zlefts)), (a_steps, .inl (g.2.1, 256, .inl zsteps)), (a_image, .inl (g.2.1, 122, .inl (upd zimage ((61 * x1) + 60).toNatClampNeg zmany))), (a_isKept, .inl (g.2.2.1, 2, .inl zisKept))] H := hP
            have hD : va_D A [(h0, .inr (7, [.ref a_clues, .int zmany, .ref a_text, .int zsigns, .int zfault, .ref a_orders, .ref a_places, .int zsought, .int zfirst, .int zsecond, .ref a_lefts, .ref a_steps, .int zmade, .ref a_image, .ref a_isKept])), (a_clues, .inl (g.2.1, 60, .inl zclues)), (a_text, .inl (g.2.1, 10, .inl ztext)), (a_orders, .inl (g.2.1, 96, .inl zorders)), (a_places, .inl (g.2.1, 16, .inl zplaces)), (a_lefts, .inl (g.2.1, 16, .inl zlefts)), (a_steps, .inl (g.2.1, 256, .inl zsteps)), (a_image, .inl (g.2.1, 122, .inl (upd zimage ((61 * x1) + 60).toNatClampNeg zmany))), (a_isKept, .inl (g.2.2.1, 2, .inl zisKept))] := hD
            refine lv_aload_n hx hb dX7_image_59 rfl (lv_at hl 0 rfl) ?_
            refine va_get (D := g.1) (ci := 7) (v := .ref a_isKept) (C := RX7) (T := TX7) (N := 15) hx hb hts hinX7 hown hK hP 0 rfl rfl 14 (by decide) lk4 (fun _ h9 => h9) rfl dX7_image_60 ?_
            refine lv_iload_n hx hb dX7_image_63 rfl (lv_at hl 1 rfl) ?_
            refine lv_iconst (v := 1) hx hb dX7_image_64 (by decide) ?_
            obtain ⟨hi, hw⟩ := hw
            refine va_zast hx hb hK hP hD hS 8 1 rfl rfl hi dX7_image_65 (fun H locs hP hD hS => ?_)
            have hP : PP g [(h0, .inr (7, [.ref a_clues, .int zmany, .ref a_text, .int zsigns, .int zfault, .ref a_orders, .ref a_places, .int zsought, .int zfirst, .int zsecond, .ref a_lefts, .ref a_steps, .int zmade, .ref a_image, .ref a_isKept])), (a_clues, .inl (g.2.1, 60, .inl zclues)), (a_text, .inl (g.2.1, 10, .inl ztext)), (a_orders, .inl (g.2.1, 96, .inl zorders)), (a_places, .inl (g.2.1, 16, .inl zplaces)), (a_lefts, .inl (g.2.1, 16, .inl zlefts)), (a_steps, .inl (g.2.1, 256, .inl zsteps)), (a_image, .inl (g.2.1, 122, .inl (upd zimage ((61 * x1) + 60).toNatClampNeg zmany))), (a_isKept, .inl (g.2.2.1, 2, .inl (upd zisKept x1.toNatClampNeg (vp_nar .boolean 1))))] H := hP
            have hD : va_D A [(h0, .inr (7, [.ref a_clues, .int zmany, .ref a_text, .int zsigns, .int zfault, .ref a_orders, .ref a_places, .int zsought, .int zfirst, .int zsecond, .ref a_lefts, .ref a_steps, .int zmade, .ref a_image, .ref a_isKept])), (a_clues, .inl (g.2.1, 60, .inl zclues)), (a_text, .inl (g.2.1, 10, .inl ztext)), (a_orders, .inl (g.2.1, 96, .inl zorders)), (a_places, .inl (g.2.1, 16, .inl zplaces)), (a_lefts, .inl (g.2.1, 16, .inl zlefts)), (a_steps, .inl (g.2.1, 256, .inl zsteps)), (a_image, .inl (g.2.1, 122, .inl (upd zimage ((61 * x1) + 60).toNatClampNeg zmany))), (a_isKept, .inl (g.2.2.1, 2, .inl (upd zisKept x1.toNatClampNeg (vp_nar .boolean 1))))] := hD
            refine lv_iconst (v := 1) hx hb dX7_image_66 (by decide) ?_
            exact W.iret hx hb hr (fun t ht hW => ⟨⟨1, ((upd zimage ((61 * x1) + 60).toNatClampNeg zmany), (upd zisKept x1.toNatClampNeg (vp_nar .boolean 1))), rfl, hw, by rw [ht]; exact hP, va_K.moved hW.alike hK, hD⟩, hS.F ht⟩) hS.2.2 dX7_image_67
          · replace hw := hw.2 c3
            refine lv_aload_n hx hb dX7_image_20 rfl (lv_at hl 0 rfl) ?_
            refine va_get (D := g.1) (ci := 7) (v := .ref a_image) (C := RX7) (T := TX7) (N := 15) hx hb hts hinX7 hown hK hP 0 rfl rfl 13 (by decide) lk1 (fun _ h9 => h9) rfl dX7_image_21 ?_
            refine lv_bipush (v := 61) hx hb dX7_image_24 (by decide) ?_
            refine lv_iload_n hx hb dX7_image_26 rfl (lv_at hl 1 rfl) ?_
            refine lv_imul hx hb dX7_image_27 ?_
            refine lv_iload_n hx hb dX7_image_28 rfl (lv_at hl 2 rfl) ?_
            refine lv_iadd hx hb dX7_image_29 ?_
            refine lv_aload_n hx hb dX7_image_30 rfl (lv_at hl 0 rfl) ?_
            refine va_get (D := g.1) (ci := 7) (v := .ref a_clues) (C := RX7) (T := TX7) (N := 15) hx hb hts hinX7 hown hK hP 0 rfl rfl 0 (by decide) lk5 (fun _ h9 => h9) rfl dX7_image_31 ?_
            refine lv_iload_n hx hb dX7_image_34 rfl (lv_at hl 2 rfl) ?_
            obtain ⟨hi, hw⟩ := hw
            refine va_iald hx hb hK hP 1 0 rfl rfl hi dX7_image_35 ?_
            obtain ⟨hi, hw⟩ := hw
            refine va_iast hx hb hK hP hD hS 7 0 rfl rfl hi dX7_image_36 (fun H locs hP hD hS => ?_)
            have hP : PP g [(h0, .inr (7, [.ref a_clues, .int zmany, .ref a_text, .int zsigns, .int zfault, .ref a_orders, .ref a_places, .int zsought, .int zfirst, .int zsecond, .ref a_lefts, .ref a_steps, .int zmade, .ref a_image, .ref a_isKept])), (a_clues, .inl (g.2.1, 60, .inl zclues)), (a_text, .inl (g.2.1, 10, .inl ztext)), (a_orders, .inl (g.2.1, 96, .inl zorders)), (a_places, .inl (g.2.1, 16, .inl zplaces)), (a_lefts, .inl (g.2.1, 16, .inl zlefts)), (a_steps, .inl (g.2.1, 256, .inl zsteps)), (a_image, .inl (g.2.1, 122, .inl (upd zimage ((61 * x1) + l2).toNatClampNeg (zclues l2.toNatClampNeg)))), (a_isKept, .inl (g.2.2.1, 2, .inl zisKept))] H := hP
            have hD : va_D A [(h0, .inr (7, [.ref a_clues, .int zmany, .ref a_text, .int zsigns, .int zfault, .ref a_orders, .ref a_places, .int zsought, .int zfirst, .int zsecond, .ref a_lefts, .ref a_steps, .int zmade, .ref a_image, .ref a_isKept])), (a_clues, .inl (g.2.1, 60, .inl zclues)), (a_text, .inl (g.2.1, 10, .inl ztext)), (a_orders, .inl (g.2.1, 96, .inl zorders)), (a_places, .inl (g.2.1, 16, .inl zplaces)), (a_lefts, .inl (g.2.1, 16, .inl zlefts)), (a_steps, .inl (g.2.1, 256, .inl zsteps)), (a_image, .inl (g.2.1, 122, .inl (upd zimage ((61 * x1) + l2).toNatClampNeg (zclues l2.toNatClampNeg)))), (a_isKept, .inl (g.2.2.1, 2, .inl zisKept))] := hD
            refine lv_iinc (v := (l2 + 1)) (lv' := [(2, .int (l2 + 1)), (0, .ref h0), (1, .int x1)]) hx hb dX7_image_37 hl (k := 2) rfl rfl (by decide) rfl (fun ls hl => ?_)
            refine lv_goto (tgt := 14) hx hb dX7_image_40 (by decide) ?_
            exact hK14 (l2 + 1) (upd zimage ((61 * x1) + l2).toNatClampNeg (zclues l2.toNatClampNeg)) zisKept hw  _ _ hP hD hS ls (lv_sub hl [1, 2, 0] rfl)
    exact key _ l2 zimage zisKept (Nat.lt_succ_self _) hI
  have hl := lv_entry ([.ref h0, .int x1]) (n := 3) (Nat.le_of_ble_eq_true rfl)
  rw [lg_entry_eq]
  generalize (lg_sl ([.ref h0, .int x1]) ++ List.replicate (3 - (lg_sl ([.ref h0, .int x1])).length) Slot.unset).toArray = ls at hl ⊢
  have hl : lv_has ls 3 [(0, .ref h0), (1, .int x1)] := hl
  unfold wp_X7_image at hw
  refine lv_iload_n hx hb dX7_image_0 rfl (lv_at hl 1 rfl) ?_
  refine lv_iconst (v := 0) hx hb dX7_image_1 (by decide) ?_
  refine lv_iconst (v := 1) hx hb dX7_image_2 (by decide) ?_
  refine kp_S (As := [.int x1, .int 0, .int 1]) (rest := []) (wc := []) ⟨hx, hb, hml, hown, hts⟩ (m_X7_in l g hok (x1 := x1) (x2 := 0) (x3 := 1) hw) (va_cwS 3 hts gX7_image_X7_in rfl rfl rfl hd_X7_in ⟨Nat.le_of_ble_eq_true rfl, Nat.le_of_ble_eq_true rfl⟩) hok hK PP_nil hro hS hA rfl hl.1 rfl (Nat.le_of_ble_eq_true rfl) dX7_image_3 ⟨Nat.le_of_ble_eq_true rfl, Nat.le_of_ble_eq_true rfl⟩ (fun r1 hw => ?_)
  refine lv_if_ne (tgt := 12) hx hb dX7_image_6 (by decide) (fun c2 => ?_) (fun c2 => ?_)
  · replace hw := hw.2 c2
    refine lv_iconst (v := 0) hx hb dX7_image_12 (by decide) ?_
    refine lv_istore_n (lv' := [(2, .int 0), (0, .ref h0), (1, .int x1)]) hx hb dX7_image_13 rfl hl (by decide) rfl (fun ls hl => ?_)
    exact B14  0 zimage zisKept hw  _ _ hP hD hS ls (lv_sub hl [1, 2, 0] rfl)
  · replace hw := hw.1 c2
    refine lv_bipush (v := (-2)) hx hb dX7_image_9 (by decide) ?_
    exact W.iret hx hb hr (fun t ht hW => ⟨⟨(-2), (zimage, zisKept), rfl, hw, by rw [ht]; exact hP, va_K.moved hW.alike hK, hD⟩, hS.F ht⟩) hS.2.2 dX7_image_11

def wp_X7_restore_26 (Q : Int32 → Int32 → (Nat → Int32) → Prop) (x1 : Int32) (zimage : Nat → Int32)  (l2 : Int32) (zclues : Nat → Int32) (zmany : Int32) : Prop :=
  ∃ (I26 : Int32 → (Nat → Int32) → Int32 → Prop) (mu26 : Int32 → (Nat → Int32) → Int32 → Nat), I26 l2 zclues zmany ∧ ∀ (l2 : Int32) (zclues : Nat → Int32) (zmany : Int32), I26 l2 zclues zmany → ((60 ≤ l2 → (vp_in ((61 * x1) + 60) 122 ∧ Q 1 (zimage ((61 * x1) + 60).toNatClampNeg) zclues)) ∧ (¬ (60 ≤ l2) → (vp_in ((61 * x1) + l2) 122 ∧ (vp_in l2 60 ∧ (I26 (l2 + 1) (upd zclues l2.toNatClampNeg (zimage ((61 * x1) + l2).toNatClampNeg)) zmany ∧ mu26 (l2 + 1) (upd zclues l2.toNatClampNeg (zimage ((61 * x1) + l2).toNatClampNeg)) zmany < mu26 l2 zclues zmany)))))
def wp_X7_restore (x1 : Int32) (zclues : Nat → Int32) (zmany : Int32) (zimage : Nat → Int32) (zisKept : Nat → Int32) (Q : Int32 → Int32 → (Nat → Int32) → Prop) : Prop :=
  (wp_X7_in x1 0 1 (fun r1 => ((r1 = 0 → Q (-2) zmany zclues) ∧ (¬ (r1 = 0) → (vp_in x1 2 ∧ (((zisKept x1.toNatClampNeg) = 0 → Q (-3) zmany zclues) ∧ (¬ ((zisKept x1.toNatClampNeg) = 0) → wp_X7_restore_26 Q x1 zimage  0 zclues zmany)))))))
theorem hd_X7_restore : yX7_restore.cls = RX7 ∧ yX7_restore.cls ≠ "java/lang/invoke/MethodHandle" ∧ yX7_restore.cls ≠ "java/lang/invoke/VarHandle" ∧ (parseMethodDescriptor yX7_restore.desc).map (fun d => d.parameters.length) = some 1 := by decide +kernel
set_option maxHeartbeats 4000000 in
set_option maxRecDepth 100000 in
theorem m_X7_restore (l : Launch) (g : GG) {ro : Ro} (hok : RoOK ro) {h0 a_clues a_text a_orders a_places a_lefts a_steps a_image a_isKept : Nat} {zclues : Nat → Int32} {zmany : Int32} {ztext : Nat → Int32} {zsigns : Int32} {zfault : Int32} {zorders : Nat → Int32} {zplaces : Nat → Int32} {zsought : Int32} {zfirst : Int32} {zsecond : Int32} {zlefts : Nat → Int32} {zsteps : Nat → Int32} {zmade : Int32} {zimage : Nat → Int32} {zisKept : Nat → Int32} {x1 : Int32} {sz : Nat} {Q : Int32 → Int32 → (Nat → Int32) → Prop} (hw : wp_X7_restore x1 zclues zmany zimage zisKept Q) : Met l yX7_restore wsX7_restore ({ frames := 1, cells := 0, slots := 0, locals := 22 } : Room) (PcM g ro [(h0, .inr (7, [.ref a_clues, .int zmany, .ref a_text, .int zsigns, .int zfault, .ref a_orders, .ref a_places, .int zsought, .int zfirst, .int zsecond, .ref a_lefts, .ref a_steps, .int zmade, .ref a_image, .ref a_isKept])), (a_clues, .inl (g.2.1, 60, .inl zclues)), (a_text, .inl (g.2.1, 10, .inl ztext)), (a_orders, .inl (g.2.1, 96, .inl zorders)), (a_places, .inl (g.2.1, 16, .inl zplaces)), (a_lefts, .inl (g.2.1, 16, .inl zlefts)), (a_steps, .inl (g.2.1, 256, .inl zsteps)), (a_image, .inl (g.2.1, 122, .inl zimage)), (a_isKept, .inl (g.2.2.1, 2, .inl zisKept))] sz [.ref h0, .int x1]) (va_Qi (fun (r : Int32) (u : Int32 × (Nat → Int32)) => Q r u.1 u.2) (BM g (fun u : Int32 × (Nat → Int32) => [(h0, .inr (7, [.ref a_clues, .int u.1, .ref a_text, .int zsigns, .int zfault, .ref a_orders, .ref a_places, .int zsought, .int zfirst, .int zsecond, .ref a_lefts, .ref a_steps, .int zmade, .ref a_image, .ref a_isKept])), (a_clues, .inl (g.2.1, 60, .inl u.2)), (a_text, .inl (g.2.1, 10, .inl ztext)), (a_orders, .inl (g.2.1, 96, .inl zorders)), (a_places, .inl (g.2.1, 16, .inl zplaces)), (a_lefts, .inl (g.2.1, 16, .inl zlefts)), (a_steps, .inl (g.2.1, 256, .inl zsteps)), (a_image, .inl (g.2.1, 122, .inl zimage)), (a_isKept, .inl (g.2.2.1, 2, .inl zisKept))]) (va_A [(h0, .inr (7, [.ref a_clues, .int zmany, .ref a_text, .int zsigns, .int zfault, .ref a_orders, .ref a_places, .int zsought, .int zfirst, .int zsecond, .ref a_lefts, .ref a_steps, .int zmade, .ref a_image, .ref a_isKept])), (a_clues, .inl (g.2.1, 60, .inl zclues)), (a_text, .inl (g.2.1, 10, .inl ztext)), (a_orders, .inl (g.2.1, 96, .inl zorders)), (a_places, .inl (g.2.1, 16, .inl zplaces)), (a_lefts, .inl (g.2.1, 16, .inl zlefts)), (a_steps, .inl (g.2.1, 256, .inl zsteps)), (a_image, .inl (g.2.1, 122, .inl zimage)), (a_isKept, .inl (g.2.2.1, 2, .inl zisKept))] sz)) (va_A [(h0, .inr (7, [.ref a_clues, .int zmany, .ref a_text, .int zsigns, .int zfault, .ref a_orders, .ref a_places, .int zsought, .int zfirst, .int zsecond, .ref a_lefts, .ref a_steps, .int zmade, .ref a_image, .ref a_isKept])), (a_clues, .inl (g.2.1, 60, .inl zclues)), (a_text, .inl (g.2.1, 10, .inl ztext)), (a_orders, .inl (g.2.1, 96, .inl zorders)), (a_places, .inl (g.2.1, 16, .inl zplaces)), (a_lefts, .inl (g.2.1, 16, .inl zlefts)), (a_steps, .inl (g.2.1, 256, .inl zsteps)), (a_image, .inl (g.2.1, 122, .inl zimage)), (a_isKept, .inl (g.2.2.1, 2, .inl zisKept))] sz)) 0 0 (va_A [(h0, .inr (7, [.ref a_clues, .int zmany, .ref a_text, .int zsigns, .int zfault, .ref a_orders, .ref a_places, .int zsought, .int zfirst, .int zsecond, .ref a_lefts, .ref a_steps, .int zmade, .ref a_image, .ref a_isKept])), (a_clues, .inl (g.2.1, 60, .inl zclues)), (a_text, .inl (g.2.1, 10, .inl ztext)), (a_orders, .inl (g.2.1, 96, .inl zorders)), (a_places, .inl (g.2.1, 16, .inl zplaces)), (a_lefts, .inl (g.2.1, 16, .inl zlefts)), (a_steps, .inl (g.2.1, 256, .inl zsteps)), (a_image, .inl (g.2.1, 122, .inl zimage)), (a_isKept, .inl (g.2.2.1, 2, .inl zisKept))] sz) := by
  refine Met.ofW (cc := cX7_restore) (maxL := 3) (ret := (some .int)) (by decide) rfl ?_
  intro p e s m args below meth c s₁ B hml hv
  obtain ⟨rfl, hsz, hP, hK, hD0, hro⟩ := hv
  have hx := B.exec
  have hb := B.bytes
  have hr := B.returns
  have hts := atoms_spec (ws := wsX7_restore) B.pre
  have hown : s.vm.findClass RX7 = some m.cls := findClass_of_methodNamed B.named
  have hlocks := B.notSynchronized
  subst hsz
  have hD := hD0.self (sz := s.heap.size)
  generalize hAe : va_A [(h0, .inr (7, [.ref a_clues, .int zmany, .ref a_text, .int zsigns, .int zfault, .ref a_orders, .ref a_places, .int zsought, .int zfirst, .int zsecond, .ref a_lefts, .ref a_steps, .int zmade, .ref a_image, .ref a_isKept])), (a_clues, .inl (g.2.1, 60, .inl zclues)), (a_text, .inl (g.2.1, 10, .inl ztext)), (a_orders, .inl (g.2.1, 96, .inl zorders)), (a_places, .inl (g.2.1, 16, .inl zplaces)), (a_lefts, .inl (g.2.1, 16, .inl zlefts)), (a_steps, .inl (g.2.1, 256, .inl zsteps)), (a_image, .inl (g.2.1, 122, .inl zimage)), (a_isKept, .inl (g.2.2.1, 2, .inl zisKept))] s.heap.size = A at hD hro ⊢
  have hA : ∀ q : Nat, s.heap.size ≤ q → A q := fun q h => by rw [← hAe]; exact Or.inr h
  have hS : va_S A s.heap s.heap [] := va_S.rf
  have hP : PP g [(h0, .inr (7, [.ref a_clues, .int zmany, .ref a_text, .int zsigns, .int zfault, .ref a_orders, .ref a_places, .int zsought, .int zfirst, .int zsecond, .ref a_lefts, .ref a_steps, .int zmade, .ref a_image, .ref a_isKept])), (a_clues, .inl (g.2.1, 60, .inl zclues)), (a_text, .inl (g.2.1, 10, .inl ztext)), (a_orders, .inl (g.2.1, 96, .inl zorders)), (a_places, .inl (g.2.1, 16, .inl zplaces)), (a_lefts, .inl (g.2.1, 16, .inl zlefts)), (a_steps, .inl (g.2.1, 256, .inl zsteps)), (a_image, .inl (g.2.1, 122, .inl zimage)), (a_isKept, .inl (g.2.2.1, 2, .inl zisKept))] s.heap := hP
  have lk1 := hts (.fieldLink RX7 35 "GridRiddlesModel" "isKept" "[Z") (by decide +kernel)
  have hinX7 : ∀ w ∈ u_ws RX7 TX7 15, w ∈ wsX7_restore := by decide +kernel
  have lk3 := hts (.fieldLink RX7 32 "GridRiddlesModel" "image" "[I") (by decide +kernel)
  have lk4 := hts (.fieldLink RX7 43 "GridRiddlesModel" "many" "I") (by decide +kernel)
  have lk5 := hts (.fieldLink RX7 7 "GridRiddlesModel" "clues" "[I") (by decide +kernel)
  have B26 : ∀ (l2 : Int32) (zclues : Nat → Int32) (zmany : Int32), wp_X7_restore_26 Q x1 zimage  l2 zclues zmany → ∀ (H : Heap) (locs : List Loc), PP g [(h0, .inr (7, [.ref a_clues, .int zmany, .ref a_text, .int zsigns, .int zfault, .ref a_orders, .ref a_places, .int zsought, .int zfirst, .int zsecond, .ref a_lefts, .ref a_steps, .int zmade, .ref a_image, .ref a_isKept])), (a_clues, .inl (g.2.1, 60, .inl zclues)), (a_text, .inl (g.2.1, 10, .inl ztext)), (a_orders, .inl (g.2.1, 96, .inl zorders)), (a_places, .inl (g.2.1, 16, .inl zplaces)), (a_lefts, .inl (g.2.1, 16, .inl zlefts)), (a_steps, .inl (g.2.1, 256, .inl zsteps)), (a_image, .inl (g.2.1, 122, .inl zimage)), (a_isKept, .inl (g.2.2.1, 2, .inl zisKept))] H → va_D A [(h0, .inr (7, [.ref a_clues, .int zmany, .ref a_text, .int zsigns, .int zfault, .ref a_orders, .ref a_places, .int zsought, .int zfirst, .int zsecond, .ref a_lefts, .ref a_steps, .int zmade, .ref a_image, .ref a_isKept])), (a_clues, .inl (g.2.1, 60, .inl zclues)), (a_text, .inl (g.2.1, 10, .inl ztext)), (a_orders, .inl (g.2.1, 96, .inl zorders)), (a_places, .inl (g.2.1, 16, .inl zplaces)), (a_lefts, .inl (g.2.1, 16, .inl zlefts)), (a_steps, .inl (g.2.1, 256, .inl zsteps)), (a_image, .inl (g.2.1, 122, .inl zimage)), (a_isKept, .inl (g.2.2.1, 2, .inl zisKept))] → va_S A s.heap H locs → ∀ (ls : Array Slot), lv_has ls 3 [(0, .ref h0), (1, .int x1), (2, .int l2)] → W p l e (headSpec wsX7_restore ({ frames := 1, cells := 0, slots := 0, locals := 22 } : Room)).room s m ([.ref h0, .int x1] : List Value).toArray below meth c H locs 0 0 (MQ below (va_Qi (fun (r : Int32) (u : Int32 × (Nat → Int32)) => Q r u.1 u.2) (BM g (fun u : Int32 × (Nat → Int32) => [(h0, .inr (7, [.ref a_clues, .int u.1, .ref a_text, .int zsigns, .int zfault, .ref a_orders, .ref a_places, .int zsought, .int zfirst, .int zsecond, .ref a_lefts, .ref a_steps, .int zmade, .ref a_image, .ref a_isKept])), (a_clues, .inl (g.2.1, 60, .inl u.2)), (a_text, .inl (g.2.1, 10, .inl ztext)), (a_orders, .inl (g.2.1, 96, .inl zorders)), (a_places, .inl (g.2.1, 16, .inl zplaces)), (a_lefts, .inl (g.2.1, 16, .inl zlefts)), (a_steps, .inl (g.2.1, 256, .inl zsteps)), (a_image, .inl (g.2.1, 122, .inl zimage)), (a_isKept, .inl (g.2.2.1, 2, .inl zisKept))]) A) A) ([.ref h0, .int x1] : List Value).toArray s 0 0 A) (F0 m 26 ls []) := by
    intro  l2 zclues zmany hw
    obtain ⟨I26, mu26, hI, hstep⟩ := hw
    have key : ∀ (n : Nat) (l2 : Int32) (zclues : Nat → Int32) (zmany : Int32), mu26 l2 zclues zmany < n → I26 l2 zclues zmany → ∀ (H : Heap) (locs : List Loc), PP g [(h0, .inr (7, [.ref a_clues, .int zmany, .ref a_text, .int zsigns, .int zfault, .ref a_orders, .ref a_places, .int zsought, .int zfirst, .int zsecond, .ref a_lefts, .ref a_steps, .int zmade, .ref a_image, .ref a_isKept])), (a_clues, .inl (g.2.1, 60, .inl zclues)), (a_text, .inl (g.2.1, 10, .inl ztext)), (a_orders, .inl (g.2.1, 96, .inl zorders)), (a_places, .inl (g.2.1, 16, .inl zplaces)), (a_lefts, .inl (g.2.1, 16, .inl zlefts)), (a_steps, .inl (g.2.1, 256, .inl zsteps)), (a_image, .inl (g.2.1, 122, .inl zimage)), (a_isKept, .inl (g.2.2.1, 2, .inl zisKept))] H → va_D A [(h0, .inr (7, [.ref a_clues, .int zmany, .ref a_text, .int zsigns, .int zfault, .ref a_orders, .ref a_places, .int zsought, .int zfirst, .int zsecond, .ref a_lefts, .ref a_steps, .int zmade, .ref a_image, .ref a_isKept])), (a_clues, .inl (g.2.1, 60, .inl zclues)), (a_text, .inl (g.2.1, 10, .inl ztext)), (a_orders, .inl (g.2.1, 96, .inl zorders)), (a_places, .inl (g.2.1, 16, .inl zplaces)), (a_lefts, .inl (g.2.1, 16, .inl zlefts)), (a_steps, .inl (g.2.1, 256, .inl zsteps)), (a_image, .inl (g.2.1, 122, .inl zimage)), (a_isKept, .inl (g.2.2.1, 2, .inl zisKept))] → va_S A s.heap H locs → ∀ (ls : Array Slot), lv_has ls 3 [(0, .ref h0), (1, .int x1), (2, .int l2)] → W p l e (headSpec wsX7_restore ({ frames := 1, cells := 0, slots := 0, locals := 22 } : Room)).room s m ([.ref h0, .int x1] : List Value).toArray below meth c H locs 0 0 (MQ below (va_Qi (fun (r : Int32) (u : Int32 × (Nat → Int32)) => Q r u.1 u.2) (BM g (fun u : Int32 × (Nat → Int32) => [(h0, .inr (7, [.ref a_clues, .int u.1, .ref a_text, .int zsigns, .int zfault, .ref a_orders, .ref a_places, .int zsought, .int zfirst, .int zsecond, .ref a_lefts, .ref a_steps, .int zmade, .ref a_image, .ref a_isKept])), (a_clues, .inl (g.2.1, 60, .inl u.2)), (a_text, .inl (g.2.1, 10, .inl ztext)), (a_orders, .inl (g.2.1, 96, .inl zorders)), (a_places, .inl (g.2.1, 16, .inl zplaces)), (a_lefts, .inl (g.2.1, 16, .inl zlefts)), (a_steps, .inl (g.2.1, 256, .inl zsteps)), (a_image, .inl (g.2.1, 122, .inl zimage)), (a_isKept, .inl (g.2.2.1, 2, .inl zisKept))]) A) A) ([.ref h0, .int x1] : List Value).toArray s 0 0 A) (F0 m 26 ls []) := by
      intro n
      induction n with
      | zero => intro l2 zclues zmany h; exact absurd h (Nat.not_lt_zero _)
      | succ n ih =>
          intro l2 zclues zmany hn hI  H locs hP hD hS ls hl
          have hw := hstep l2 zclues zmany hI
          have hK26 : ∀ (l2' : Int32) (zclues' : Nat → Int32) (zmany' : Int32), (I26 l2' zclues' zmany' ∧ mu26 l2' zclues' zmany' < mu26 l2 zclues zmany) → ∀ (H : Heap) (locs : List Loc), PP g [(h0, .inr (7, [.ref a_clues, .int zmany', .ref a_text, .int zsigns, .int zfault, .ref a_orders, .ref a_places, .int zsought, .int zfirst, .int zsecond, .ref a_lefts, .ref a_steps, .int zmade, .ref a_image, .ref a_isKept])), (a_clues, .inl (g.2.1, 60, .inl zclues')), (a_text, .inl (g.2.1, 10, .inl ztext)), (a_orders, .inl (g.2.1, 96, .inl zorders)), (a_places, .inl (g.2.1, 16, .inl zplaces)), (a_lefts, .inl (g.2.1, 16, .inl zlefts)), (a_steps, .inl (g.2.1, 256, .inl zsteps)), (a_image, .inl (g.2.1, 122, .inl zimage)), (a_isKept, .inl (g.2.2.1, 2, .inl zisKept))] H → va_D A [(h0, .inr (7, [.ref a_clues, .int zmany', .ref a_text, .int zsigns, .int zfault, .ref a_orders, .ref a_places, .int zsought, .int zfirst, .int zsecond, .ref a_lefts, .ref a_steps, .int zmade, .ref a_image, .ref a_isKept])), (a_clues, .inl (g.2.1, 60, .inl zclues')), (a_text, .inl (g.2.1, 10, .inl ztext)), (a_orders, .inl (g.2.1, 96, .inl zorders)), (a_places, .inl (g.2.1, 16, .inl zplaces)), (a_lefts, .inl (g.2.1, 16, .inl zlefts)), (a_steps, .inl (g.2.1, 256, .inl zsteps)), (a_image, .inl (g.2.1, 122, .inl zimage)), (a_isKept, .inl (g.2.2.1, 2, .inl zisKept))] → va_S A s.heap H locs → ∀ (ls : Array Slot), lv_has ls 3 [(0, .ref h0), (1, .int x1), (2, .int l2')] → W p l e (headSpec wsX7_restore ({ frames := 1, cells := 0, slots := 0, locals := 22 } : Room)).room s m ([.ref h0, .int x1] : List Value).toArray below meth c H locs 0 0 (MQ below (va_Qi (fun (r : Int32) (u : Int32 × (Nat → Int32)) => Q r u.1 u.2) (BM g (fun u : Int32 × (Nat → Int32) => [(h0, .inr (7, [.ref a_clues, .int u.1, .ref a_text, .int zsigns, .int zfault, .ref a_orders, .ref a_places, .int zsought, .int zfirst, .int zsecond, .ref a_lefts, .ref a_steps, .int zmade, .ref a_image, .ref a_isKept])), (a_clues, .inl (g.2.1, 60, .inl u.2)), (a_text, .inl (g.2.1, 10, .inl ztext)), (a_orders, .inl (g.2.1, 96, .inl zorders)), (a_places, .inl (g.2.1, 16, .inl zplaces)), (a_lefts, .inl (g.2.1, 16, .inl zlefts)), (a_steps, .inl (g.2.1, 256, .inl zsteps)), (a_image, .inl (g.2.1, 122, .inl zimage)), (a_isKept, .inl (g.2.2.1, 2, .inl zisKept))]) A) A) ([.ref h0, .int x1] : List Value).toArray s 0 0 A) (F0 m 26 ls []) := fun l2' zclues' zmany' h => ih l2' zclues' zmany' (Nat.lt_of_lt_of_le h.2 (Nat.le_of_lt_succ hn)) h.1
          refine lv_iload_n hx hb dX7_restore_26 rfl (lv_at hl 2 rfl) ?_
          refine lv_bipush (v := 60) hx hb dX7_restore_27 (by decide) ?_
          refine lv_icmp_ge (tgt := 55) hx hb dX7_restore_29 (by decide) (fun c4 => ?_) (fun c4 => ?_)
          · replace hw := hw.1 c4
            refine lv_aload_n hx hb dX7_restore_55 rfl (lv_at hl 0 rfl) ?_
            refine lv_aload_n hx hb dX7_restore_56 rfl (lv_at hl 0 rfl) ?_
            refine va_get (D := g.1) (ci := 7) (v := .ref a_image) (C := RX7) (T := TX7) (N := 15) hx hb hts hinX7 hown hK hP 0 rfl rfl 13 (by decide) lk3 (fun _ h9 => h9) rfl dX7_restore_57 ?_
            refine lv_bipush (v := 61) hx hb dX7_restore_60 (by decide) ?_
            refine lv_iload_n hx hb dX7_restore_62 rfl (lv_at hl 1 rfl) ?_
            refine lv_imul hx hb dX7_restore_63 ?_
            refine lv_bipush (v := 60) hx hb dX7_restore_64 (by decide) ?_
            refine lv_iadd hx hb dX7_restore_66 ?_
            obtain ⟨hi, hw⟩ := hw
            refine va_iald hx hb hK hP 7 0 rfl rfl hi dX7_restore_67 ?_
            refine va_put (D := g.1) (ci := 7) (v := .int (zimage ((61 * x1) + 60).toNatClampNeg)) (ty := .int) (C := RX7) (T := TX7) (N := 15) hx hb hts hinX7 tyX7 tyX7_ok nmX7 hown hK hP hD hS 0 rfl rfl 1 (by decide) lk4 (fun _ h9 => h9) rfl (by decide +kernel) rfl rfl (Nat.le_of_ble_eq_true rfl) dX7_restore_68 (fun H locs hP hD hS => ?_)
            have hP : PP g [(h0, .inr (7, [.ref a_clues, .int (zimage ((61 * x1) + 60).toNatClampNeg), .ref a_text, .int zsigns, .int zfault, .ref a_orders, .ref a_places, .int zsought, .int zfirst, .int zsecond, .ref a_lefts, .ref a_steps, .int zmade, .ref a_image, .ref a_isKept])), (a_clues, .inl (g.2.1, 60, .inl zclues)), (a_text, .inl (g.2.1, 10, .inl ztext)), (a_orders, .inl (g.2.1, 96, .inl zorders)), (a_places, .inl (g.2.1, 16, .inl zplaces)), (a_lefts, .inl (g.2.1, 16, .inl zlefts)), (a_steps, .inl (g.2.1, 256, .inl zsteps)), (a_image, .inl (g.2.1, 122, .inl zimage)), (a_isKept, .inl (g.2.2.1, 2, .inl zisKept))] H := hP
            have hD : va_D A [(h0, .inr (7, [.ref a_clues, .int (zimage ((61 * x1) + 60).toNatClampNeg), .ref a_text, .int zsigns, .int zfault, .ref a_orders, .ref a_places, .int zsought, .int zfirst, .int zsecond, .ref a_lefts, .ref a_steps, .int zmade, .ref a_image, .ref a_isKept])), (a_clues, .inl (g.2.1, 60, .inl zclues)), (a_text, .inl (g.2.1, 10, .inl ztext)), (a_orders, .inl (g.2.1, 96, .inl zorders)), (a_places, .inl (g.2.1, 16, .inl zplaces)), (a_lefts, .inl (g.2.1, 16, .inl zlefts)), (a_steps, .inl (g.2.1, 256, .inl zsteps)), (a_image, .inl (g.2.1, 122, .inl zimage)), (a_isKept, .inl (g.2.2.1, 2, .inl zisKept))] := hD
            refine lv_iconst (v := 1) hx hb dX7_restore_71 (by decide) ?_
            exact W.iret hx hb hr (fun t ht hW => ⟨⟨1, ((zimage ((61 * x1) + 60).toNatClampNeg), zclues), rfl, hw, by rw [ht]; exact hP, va_K.moved hW.alike hK, hD⟩, hS.F ht⟩) hS.2.2 dX7_restore_72
          · replace hw := hw.2 c4
            refine lv_aload_n hx hb dX7_restore_32 rfl (lv_at hl 0 rfl) ?_
            refine va_get (D := g.1) (ci := 7) (v := .ref a_clues) (C := RX7) (T := TX7) (N := 15) hx hb hts hinX7 hown hK hP 0 rfl rfl 0 (by decide) lk5 (fun _ h9 => h9) rfl dX7_restore_33 ?_
            refine lv_iload_n hx hb dX7_restore_36 rfl (lv_at hl 2 rfl) ?_
            refine lv_aload_n hx hb dX7_restore_37 rfl (lv_at hl 0 rfl) ?_
            refine va_get (D := g.1) (ci := 7) (v := .ref a_image) (C := RX7) (T := TX7) (N := 15) hx hb hts hinX7 hown hK hP 0 rfl rfl 13 (by decide) lk3 (fun _ h9 => h9) rfl dX7_restore_38 ?_
            refine lv_bipush (v := 61) hx hb dX7_restore_41 (by decide) ?_
            refine lv_iload_n hx hb dX7_restore_43 rfl (lv_at hl 1 rfl) ?_
            refine lv_imul hx hb dX7_restore_44 ?_
            refine lv_iload_n hx hb dX7_restore_45 rfl (lv_at hl 2 rfl) ?_
            refine lv_iadd hx hb dX7_restore_46 ?_
            obtain ⟨hi, hw⟩ := hw
            refine va_iald hx hb hK hP 7 0 rfl rfl hi dX7_restore_47 ?_
            obtain ⟨hi, hw⟩ := hw
            refine va_iast hx hb hK hP hD hS 1 0 rfl rfl hi dX7_restore_48 (fun H locs hP hD hS => ?_)
            have hP : PP g [(h0, .inr (7, [.ref a_clues, .int zmany, .ref a_text, .int zsigns, .int zfault, .ref a_orders, .ref a_places, .int zsought, .int zfirst, .int zsecond, .ref a_lefts, .ref a_steps, .int zmade, .ref a_image, .ref a_isKept])), (a_clues, .inl (g.2.1, 60, .inl (upd zclues l2.toNatClampNeg (zimage ((61 * x1) + l2).toNatClampNeg)))), (a_text, .inl (g.2.1, 10, .inl ztext)), (a_orders, .inl (g.2.1, 96, .inl zorders)), (a_places, .inl (g.2.1, 16, .inl zplaces)), (a_lefts, .inl (g.2.1, 16, .inl zlefts)), (a_steps, .inl (g.2.1, 256, .inl zsteps)), (a_image, .inl (g.2.1, 122, .inl zimage)), (a_isKept, .inl (g.2.2.1, 2, .inl zisKept))] H := hP
            have hD : va_D A [(h0, .inr (7, [.ref a_clues, .int zmany, .ref a_text, .int zsigns, .int zfault, .ref a_orders, .ref a_places, .int zsought, .int zfirst, .int zsecond, .ref a_lefts, .ref a_steps, .int zmade, .ref a_image, .ref a_isKept])), (a_clues, .inl (g.2.1, 60, .inl (upd zclues l2.toNatClampNeg (zimage ((61 * x1) + l2).toNatClampNeg)))), (a_text, .inl (g.2.1, 10, .inl ztext)), (a_orders, .inl (g.2.1, 96, .inl zorders)), (a_places, .inl (g.2.1, 16, .inl zplaces)), (a_lefts, .inl (g.2.1, 16, .inl zlefts)), (a_steps, .inl (g.2.1, 256, .inl zsteps)), (a_image, .inl (g.2.1, 122, .inl zimage)), (a_isKept, .inl (g.2.2.1, 2, .inl zisKept))] := hD
            refine lv_iinc (v := (l2 + 1)) (lv' := [(2, .int (l2 + 1)), (0, .ref h0), (1, .int x1)]) hx hb dX7_restore_49 hl (k := 2) rfl rfl (by decide) rfl (fun ls hl => ?_)
            refine lv_goto (tgt := 26) hx hb dX7_restore_52 (by decide) ?_
            exact hK26 (l2 + 1) (upd zclues l2.toNatClampNeg (zimage ((61 * x1) + l2).toNatClampNeg)) zmany hw  _ _ hP hD hS ls (lv_sub hl [1, 2, 0] rfl)
    exact key _ l2 zclues zmany (Nat.lt_succ_self _) hI
  have hl := lv_entry ([.ref h0, .int x1]) (n := 3) (Nat.le_of_ble_eq_true rfl)
  rw [lg_entry_eq]
  generalize (lg_sl ([.ref h0, .int x1]) ++ List.replicate (3 - (lg_sl ([.ref h0, .int x1])).length) Slot.unset).toArray = ls at hl ⊢
  have hl : lv_has ls 3 [(0, .ref h0), (1, .int x1)] := hl
  unfold wp_X7_restore at hw
  refine lv_iload_n hx hb dX7_restore_0 rfl (lv_at hl 1 rfl) ?_
  refine lv_iconst (v := 0) hx hb dX7_restore_1 (by decide) ?_
  refine lv_iconst (v := 1) hx hb dX7_restore_2 (by decide) ?_
  refine kp_S (As := [.int x1, .int 0, .int 1]) (rest := []) (wc := []) ⟨hx, hb, hml, hown, hts⟩ (m_X7_in l g hok (x1 := x1) (x2 := 0) (x3 := 1) hw) (va_cwS 3 hts gX7_restore_X7_in rfl rfl rfl hd_X7_in ⟨Nat.le_of_ble_eq_true rfl, Nat.le_of_ble_eq_true rfl⟩) hok hK PP_nil hro hS hA rfl hl.1 rfl (Nat.le_of_ble_eq_true rfl) dX7_restore_3 ⟨Nat.le_of_ble_eq_true rfl, Nat.le_of_ble_eq_true rfl⟩ (fun r1 hw => ?_)
  refine lv_if_ne (tgt := 12) hx hb dX7_restore_6 (by decide) (fun c2 => ?_) (fun c2 => ?_)
  · replace hw := hw.2 c2
    refine lv_aload_n hx hb dX7_restore_12 rfl (lv_at hl 0 rfl) ?_
    refine va_get (D := g.1) (ci := 7) (v := .ref a_isKept) (C := RX7) (T := TX7) (N := 15) hx hb hts hinX7 hown hK hP 0 rfl rfl 14 (by decide) lk1 (fun _ h9 => h9) rfl dX7_restore_13 ?_
    refine lv_iload_n hx hb dX7_restore_16 rfl (lv_at hl 1 rfl) ?_
    obtain ⟨hi, hw⟩ := hw
    refine va_zald hx hb hK hP 8 1 rfl rfl hi dX7_restore_17 ?_
    refine lv_if_ne (tgt := 24) hx hb dX7_restore_18 (by decide) (fun c3 => ?_) (fun c3 => ?_)
    · replace hw := hw.2 c3
      refine lv_iconst (v := 0) hx hb dX7_restore_24 (by decide) ?_
      refine lv_istore_n (lv' := [(2, .int 0), (0, .ref h0), (1, .int x1)]) hx hb dX7_restore_25 rfl hl (by decide) rfl (fun ls hl => ?_)
      exact B26  0 zclues zmany hw  _ _ hP hD hS ls (lv_sub hl [1, 2, 0] rfl)
    · replace hw := hw.1 c3
      refine lv_bipush (v := (-3)) hx hb dX7_restore_21 (by decide) ?_
      exact W.iret hx hb hr (fun t ht hW => ⟨⟨(-3), (zmany, zclues), rfl, hw, by rw [ht]; exact hP, va_K.moved hW.alike hK, hD⟩, hS.F ht⟩) hS.2.2 dX7_restore_23
  · replace hw := hw.1 c2
    refine lv_bipush (v := (-2)) hx hb dX7_restore_9 (by decide) ?_
    exact W.iret hx hb hr (fun t ht hW => ⟨⟨(-2), (zmany, zclues), rfl, hw, by rw [ht]; exact hP, va_K.moved hW.alike hK, hD⟩, hS.F ht⟩) hS.2.2 dX7_restore_11

def wp_X7_ofKind_4 (Q : Int32 → Prop) (x1 : Int32) (zclues : Nat → Int32) (zmany : Int32)  (l2 : Int32) (l3 : Int32) : Prop :=
  ∃ (I4 : Int32 → Int32 → Prop) (mu4 : Int32 → Int32 → Nat), I4 l2 l3 ∧ ∀ (l2 : Int32) (l3 : Int32), I4 l2 l3 → ((zmany ≤ l3 → Q l2) ∧ (¬ (zmany ≤ l3) → (wp_X7_of l3 0 zclues (fun r2 => ((r2 = x1 → ∀ w5 : Int32, w5 = (l2 + 1) → (I4 w5 (l3 + 1) ∧ mu4 w5 (l3 + 1) < mu4 l2 l3)) ∧ (¬ (r2 = x1) → ∀ w4 : Int32, w4 = (l2 + 0) → (I4 w4 (l3 + 1) ∧ mu4 w4 (l3 + 1) < mu4 l2 l3)))))))
def wp_X7_ofKind (x1 : Int32) (zclues : Nat → Int32) (zmany : Int32) (Q : Int32 → Prop) : Prop :=
  wp_X7_ofKind_4 Q x1 zclues zmany  0 0
theorem hd_X7_ofKind : yX7_ofKind.cls = RX7 ∧ yX7_ofKind.cls ≠ "java/lang/invoke/MethodHandle" ∧ yX7_ofKind.cls ≠ "java/lang/invoke/VarHandle" ∧ (parseMethodDescriptor yX7_ofKind.desc).map (fun d => d.parameters.length) = some 1 := by decide +kernel
set_option maxHeartbeats 4000000 in
set_option maxRecDepth 100000 in
theorem m_X7_ofKind (l : Launch) (g : GG) {ro : Ro} (hok : RoOK ro) {h0 a_clues a_text a_orders a_places a_lefts a_steps a_image a_isKept : Nat} {zclues : Nat → Int32} {zmany : Int32} {ztext : Nat → Int32} {zsigns : Int32} {zfault : Int32} {zorders : Nat → Int32} {zplaces : Nat → Int32} {zsought : Int32} {zfirst : Int32} {zsecond : Int32} {zlefts : Nat → Int32} {zsteps : Nat → Int32} {zmade : Int32} {zimage : Nat → Int32} {zisKept : Nat → Int32} {x1 : Int32} {Q : Int32 → Prop} (hw : wp_X7_ofKind x1 zclues zmany Q) : Met l yX7_ofKind wsX7_ofKind ({ frames := 1, cells := 0, slots := 0, locals := 22 } : Room) (PcP g ro [(h0, .inr (7, [.ref a_clues, .int zmany, .ref a_text, .int zsigns, .int zfault, .ref a_orders, .ref a_places, .int zsought, .int zfirst, .int zsecond, .ref a_lefts, .ref a_steps, .int zmade, .ref a_image, .ref a_isKept])), (a_clues, .inl (g.2.1, 60, .inl zclues)), (a_text, .inl (g.2.1, 10, .inl ztext)), (a_orders, .inl (g.2.1, 96, .inl zorders)), (a_places, .inl (g.2.1, 16, .inl zplaces)), (a_lefts, .inl (g.2.1, 16, .inl zlefts)), (a_steps, .inl (g.2.1, 256, .inl zsteps)), (a_image, .inl (g.2.1, 122, .inl zimage)), (a_isKept, .inl (g.2.2.1, 2, .inl zisKept))] [.ref h0, .int x1]) (vp_Si Q) 0 0 (fun _ => False) := by
  refine Met.ofW (cc := cX7_ofKind) (maxL := 4) (ret := (some .int)) (by decide) rfl ?_
  intro p e s m args below meth c s₁ B hml hv
  obtain ⟨rfl, hP, hK, hro⟩ := hv
  have hx := B.exec
  have hb := B.bytes
  have hr := B.returns
  have hts := atoms_spec (ws := wsX7_ofKind) B.pre
  have hown : s.vm.findClass RX7 = some m.cls := findClass_of_methodNamed B.named
  have hlocks := B.notSynchronized
  have hA : ∀ q : Nat, s.heap.size ≤ q → (fun q : Nat => s.heap.size ≤ q) q := fun _ h => h
  have hS : va_S (fun q : Nat => s.heap.size ≤ q) s.heap s.heap [] := va_S.rf
  have hP : PP g [(h0, .inr (7, [.ref a_clues, .int zmany, .ref a_text, .int zsigns, .int zfault, .ref a_orders, .ref a_places, .int zsought, .int zfirst, .int zsecond, .ref a_lefts, .ref a_steps, .int zmade, .ref a_image, .ref a_isKept])), (a_clues, .inl (g.2.1, 60, .inl zclues)), (a_text, .inl (g.2.1, 10, .inl ztext)), (a_orders, .inl (g.2.1, 96, .inl zorders)), (a_places, .inl (g.2.1, 16, .inl zplaces)), (a_lefts, .inl (g.2.1, 16, .inl zlefts)), (a_steps, .inl (g.2.1, 256, .inl zsteps)), (a_image, .inl (g.2.1, 122, .inl zimage)), (a_isKept, .inl (g.2.2.1, 2, .inl zisKept))] s.heap := hP
  have lk1 := hts (.fieldLink RX7 43 "GridRiddlesModel" "many" "I") (by decide +kernel)
  have hinX7 : ∀ w ∈ u_ws RX7 TX7 15, w ∈ wsX7_ofKind := by decide +kernel
  have B4 : ∀ (l2 : Int32) (l3 : Int32), wp_X7_ofKind_4 Q x1 zclues zmany  l2 l3 → ∀ (ls : Array Slot), lv_has ls 4 [(0, .ref h0), (1, .int x1), (2, .int l2), (3, .int l3)] → W p l e (headSpec wsX7_ofKind ({ frames := 1, cells := 0, slots := 0, locals := 22 } : Room)).room s m ([.ref h0, .int x1] : List Value).toArray below meth c s.heap [] 0 0 (MQ below (vp_Si Q) ([.ref h0, .int x1] : List Value).toArray s 0 0 (fun _ => False)) (F0 m 4 ls []) := by
    intro  l2 l3 hw
    obtain ⟨I4, mu4, hI, hstep⟩ := hw
    have key : ∀ (n : Nat) (l2 : Int32) (l3 : Int32), mu4 l2 l3 < n → I4 l2 l3 → ∀ (ls : Array Slot), lv_has ls 4 [(0, .ref h0), (1, .int x1), (2, .int l2), (3, .int l3)] → W p l e (headSpec wsX7_ofKind ({ frames := 1, cells := 0, slots := 0, locals := 22 } : Room)).room s m ([.ref h0, .int x1] : List Value).toArray below meth c s.heap [] 0 0 (MQ below (vp_Si Q) ([.ref h0, .int x1] : List Value).toArray s 0 0 (fun _ => False)) (F0 m 4 ls []) := by
      intro n
      induction n with
      | zero => intro l2 l3 h; exact absurd h (Nat.not_lt_zero _)
      | succ n ih =>
          intro l2 l3 hn hI ls hl
          have hw := hstep l2 l3 hI
          have hK4 : ∀ (l2' : Int32) (l3' : Int32), (I4 l2' l3' ∧ mu4 l2' l3' < mu4 l2 l3) → ∀ (ls : Array Slot), lv_has ls 4 [(0, .ref h0), (1, .int x1), (2, .int l2'), (3, .int l3')] → W p l e (headSpec wsX7_ofKind ({ frames := 1, cells := 0, slots := 0, locals := 22 } : Room)).room s m ([.ref h0, .int x1] : List Value).toArray below meth c s.heap [] 0 0 (MQ below (vp_Si Q) ([.ref h0, .int x1] : List Value).toArray s 0 0 (fun _ => False)) (F0 m 4 ls []) := fun l2' l3' h => ih l2' l3' (Nat.lt_of_lt_of_le h.2 (Nat.le_of_lt_succ hn)) h.1
          refine lv_iload_n hx hb dX7_ofKind_4 rfl (lv_at hl 3 rfl) ?_
          refine lv_aload_n hx hb dX7_ofKind_5 rfl (lv_at hl 0 rfl) ?_
          refine va_get (D := g.1) (ci := 7) (v := .int zmany) (C := RX7) (T := TX7) (N := 15) hx hb hts hinX7 hown hK hP 0 rfl rfl 1 (by decide) lk1 (fun _ h9 => h9) rfl dX7_ofKind_6 ?_
          refine lv_icmp_ge (tgt := 36) hx hb dX7_ofKind_9 (by decide) (fun c1 => ?_) (fun c1 => ?_)
          · replace hw := hw.1 c1
            refine lv_iload_n hx hb dX7_ofKind_36 rfl (lv_at hl 2 rfl) ?_
            exact W.iret hx hb hr (fun t ht _ => ⟨l2, rfl, hw, ht⟩) t_nil dX7_ofKind_37
          · replace hw := hw.2 c1
            refine lv_iload_n hx hb dX7_ofKind_12 rfl (lv_at hl 2 rfl) ?_
            refine lv_aload_n hx hb dX7_ofKind_13 rfl (lv_at hl 0 rfl) ?_
            refine lv_iload_n hx hb dX7_ofKind_14 rfl (lv_at hl 3 rfl) ?_
            refine lv_iconst (v := 0) hx hb dX7_ofKind_15 (by decide) ?_
            refine kp_V (As := [.int l3, .int 0]) (rest := [.int l2]) (wc := [(h0, .inr (7, [.ref a_clues, .int zmany, .ref a_text, .int zsigns, .int zfault, .ref a_orders, .ref a_places, .int zsought, .int zfirst, .int zsecond, .ref a_lefts, .ref a_steps, .int zmade, .ref a_image, .ref a_isKept])), (a_clues, .inl (g.2.1, 60, .inl zclues)), (a_text, .inl (g.2.1, 10, .inl ztext)), (a_orders, .inl (g.2.1, 96, .inl zorders)), (a_places, .inl (g.2.1, 16, .inl zplaces)), (a_lefts, .inl (g.2.1, 16, .inl zlefts)), (a_steps, .inl (g.2.1, 256, .inl zsteps)), (a_image, .inl (g.2.1, 122, .inl zimage)), (a_isKept, .inl (g.2.2.1, 2, .inl zisKept))]) (cq := (RX7, TX7, 15)) ⟨hx, hb, hml, hown, hts⟩ (m_X7_of l g hok (h0 := h0) (a_clues := a_clues) (a_text := a_text) (a_orders := a_orders) (a_places := a_places) (a_lefts := a_lefts) (a_steps := a_steps) (a_image := a_image) (a_isKept := a_isKept) (zclues := zclues) (zmany := zmany) (ztext := ztext) (zsigns := zsigns) (zfault := zfault) (zorders := zorders) (zplaces := zplaces) (zsought := zsought) (zfirst := zfirst) (zsecond := zsecond) (zlefts := zlefts) (zsteps := zsteps) (zmade := zmade) (zimage := zimage) (zisKept := zisKept) (x1 := l3) (x2 := 0) hw) (cwV 2 hts gX7_ofKind_X7_of rfl rfl rfl hd_X7_of ⟨Nat.le_of_ble_eq_true rfl, Nat.le_of_ble_eq_true rfl⟩) hok hK hP hro hS hA 0 7 rfl rfl rfl hl.1 rfl (Nat.le_of_ble_eq_true rfl) dX7_ofKind_16 ⟨Nat.le_of_ble_eq_true rfl, Nat.le_of_ble_eq_true rfl⟩ (fun r2 hw => ?_)
            refine lv_iload_n hx hb dX7_ofKind_19 rfl (lv_at hl 1 rfl) ?_
            refine lv_icmp_ne (tgt := 27) hx hb dX7_ofKind_20 (by decide) (fun c3 => ?_) (fun c3 => ?_)
            · replace hw := hw.2 c3
              refine lv_iconst (v := 0) hx hb dX7_ofKind_27 (by decide) ?_
              refine lv_iadd hx hb dX7_ofKind_28 ?_
              refine lv_topi (fun w4 ew4 => ?_)
              have hw := hw w4 ew4
              refine lv_istore_n (lv' := [(2, .int w4), (0, .ref h0), (1, .int x1), (3, .int l3)]) hx hb dX7_ofKind_29 rfl hl (by decide) rfl (fun ls hl => ?_)
              refine lv_iinc (v := (l3 + 1)) (lv' := [(3, .int (l3 + 1)), (2, .int w4), (0, .ref h0), (1, .int x1)]) hx hb dX7_ofKind_30 hl (k := 3) rfl rfl (by decide) rfl (fun ls hl => ?_)
              refine lv_goto (tgt := 4) hx hb dX7_ofKind_33 (by decide) ?_
              exact hK4 w4 (l3 + 1) hw ls (lv_sub hl [2, 3, 1, 0] rfl)
            · replace hw := hw.1 c3
              refine lv_iconst (v := 1) hx hb dX7_ofKind_23 (by decide) ?_
              refine lv_goto (tgt := 28) hx hb dX7_ofKind_24 (by decide) ?_
              refine lv_iadd hx hb dX7_ofKind_28 ?_
              refine lv_topi (fun w5 ew5 => ?_)
              have hw := hw w5 ew5
              refine lv_istore_n (lv' := [(2, .int w5), (0, .ref h0), (1, .int x1), (3, .int l3)]) hx hb dX7_ofKind_29 rfl hl (by decide) rfl (fun ls hl => ?_)
              refine lv_iinc (v := (l3 + 1)) (lv' := [(3, .int (l3 + 1)), (2, .int w5), (0, .ref h0), (1, .int x1)]) hx hb dX7_ofKind_30 hl (k := 3) rfl rfl (by decide) rfl (fun ls hl => ?_)
              refine lv_goto (tgt := 4) hx hb dX7_ofKind_33 (by decide) ?_
              exact hK4 w5 (l3 + 1) hw ls (lv_sub hl [2, 3, 1, 0] rfl)
    exact key _ l2 l3 (Nat.lt_succ_self _) hI
  have hl := lv_entry ([.ref h0, .int x1]) (n := 4) (Nat.le_of_ble_eq_true rfl)
  rw [lg_entry_eq]
  generalize (lg_sl ([.ref h0, .int x1]) ++ List.replicate (4 - (lg_sl ([.ref h0, .int x1])).length) Slot.unset).toArray = ls at hl ⊢
  have hl : lv_has ls 4 [(0, .ref h0), (1, .int x1)] := hl
  unfold wp_X7_ofKind at hw
  refine lv_iconst (v := 0) hx hb dX7_ofKind_0 (by decide) ?_
  refine lv_istore_n (lv' := [(2, .int 0), (0, .ref h0), (1, .int x1)]) hx hb dX7_ofKind_1 rfl hl (by decide) rfl (fun ls hl => ?_)
  refine lv_iconst (v := 0) hx hb dX7_ofKind_2 (by decide) ?_
  refine lv_istore_n (lv' := [(3, .int 0), (2, .int 0), (0, .ref h0), (1, .int x1)]) hx hb dX7_ofKind_3 rfl hl (by decide) rfl (fun ls hl => ?_)
  exact B4  0 0 hw ls (lv_sub hl [2, 3, 1, 0] rfl)

def wp_X7_count_81 (Q : Int32 → Prop) (zisKept : Nat → Int32)  (s0 : Int32) : Prop :=
  (((zisKept (1 : Int32).toNatClampNeg) = 0 → Q (s0 + 0)) ∧ (¬ ((zisKept (1 : Int32).toNatClampNeg) = 0) → Q (s0 + 2)))
def wp_X7_count (x1 : Int32) (zclues : Nat → Int32) (zmany : Int32) (zsigns : Int32) (zfault : Int32) (zisKept : Nat → Int32) (Q : Int32 → Prop) : Prop :=
  (wp_X7_in x1 10 16 (fun r1 => ((r1 = 0 → ((x1 = 0 → Q zmany) ∧ (x1 = 1 → Q zsigns) ∧ (x1 = 2 → Q zfault) ∧ (x1 = 3 → (((zisKept (0 : Int32).toNatClampNeg) = 0 → wp_X7_count_81 Q zisKept  0) ∧ (¬ ((zisKept (0 : Int32).toNatClampNeg) = 0) → wp_X7_count_81 Q zisKept  1))) ∧ (¬ x1 = 0 ∧ ¬ x1 = 1 ∧ ¬ x1 = 2 ∧ ¬ x1 = 3 → Q (-2)))) ∧ (¬ (r1 = 0) → (wp_X7_ofKind (x1 - 10) zclues zmany (fun r6 => Q r6))))))
theorem hd_X7_count : yX7_count.cls = RX7 ∧ yX7_count.cls ≠ "java/lang/invoke/MethodHandle" ∧ yX7_count.cls ≠ "java/lang/invoke/VarHandle" ∧ (parseMethodDescriptor yX7_count.desc).map (fun d => d.parameters.length) = some 1 := by decide +kernel
set_option maxHeartbeats 4000000 in
set_option maxRecDepth 100000 in
theorem m_X7_count (l : Launch) (g : GG) {ro : Ro} (hok : RoOK ro) {h0 a_clues a_text a_orders a_places a_lefts a_steps a_image a_isKept : Nat} {zclues : Nat → Int32} {zmany : Int32} {ztext : Nat → Int32} {zsigns : Int32} {zfault : Int32} {zorders : Nat → Int32} {zplaces : Nat → Int32} {zsought : Int32} {zfirst : Int32} {zsecond : Int32} {zlefts : Nat → Int32} {zsteps : Nat → Int32} {zmade : Int32} {zimage : Nat → Int32} {zisKept : Nat → Int32} {x1 : Int32} {Q : Int32 → Prop} (hw : wp_X7_count x1 zclues zmany zsigns zfault zisKept Q) : Met l yX7_count wsX7_count ({ frames := 2, cells := 0, slots := 0, locals := 45 } : Room) (PcP g ro [(h0, .inr (7, [.ref a_clues, .int zmany, .ref a_text, .int zsigns, .int zfault, .ref a_orders, .ref a_places, .int zsought, .int zfirst, .int zsecond, .ref a_lefts, .ref a_steps, .int zmade, .ref a_image, .ref a_isKept])), (a_clues, .inl (g.2.1, 60, .inl zclues)), (a_text, .inl (g.2.1, 10, .inl ztext)), (a_orders, .inl (g.2.1, 96, .inl zorders)), (a_places, .inl (g.2.1, 16, .inl zplaces)), (a_lefts, .inl (g.2.1, 16, .inl zlefts)), (a_steps, .inl (g.2.1, 256, .inl zsteps)), (a_image, .inl (g.2.1, 122, .inl zimage)), (a_isKept, .inl (g.2.2.1, 2, .inl zisKept))] [.ref h0, .int x1]) (vp_Si Q) 0 0 (fun _ => False) := by
  refine Met.ofW (cc := cX7_count) (maxL := 2) (ret := (some .int)) (by decide) rfl ?_
  intro p e s m args below meth c s₁ B hml hv
  obtain ⟨rfl, hP, hK, hro⟩ := hv
  have hx := B.exec
  have hb := B.bytes
  have hr := B.returns
  have hts := atoms_spec (ws := wsX7_count) B.pre
  have hown : s.vm.findClass RX7 = some m.cls := findClass_of_methodNamed B.named
  have hlocks := B.notSynchronized
  have hA : ∀ q : Nat, s.heap.size ≤ q → (fun q : Nat => s.heap.size ≤ q) q := fun _ h => h
  have hS : va_S (fun q : Nat => s.heap.size ≤ q) s.heap s.heap [] := va_S.rf
  have hP : PP g [(h0, .inr (7, [.ref a_clues, .int zmany, .ref a_text, .int zsigns, .int zfault, .ref a_orders, .ref a_places, .int zsought, .int zfirst, .int zsecond, .ref a_lefts, .ref a_steps, .int zmade, .ref a_image, .ref a_isKept])), (a_clues, .inl (g.2.1, 60, .inl zclues)), (a_text, .inl (g.2.1, 10, .inl ztext)), (a_orders, .inl (g.2.1, 96, .inl zorders)), (a_places, .inl (g.2.1, 16, .inl zplaces)), (a_lefts, .inl (g.2.1, 16, .inl zlefts)), (a_steps, .inl (g.2.1, 256, .inl zsteps)), (a_image, .inl (g.2.1, 122, .inl zimage)), (a_isKept, .inl (g.2.2.1, 2, .inl zisKept))] s.heap := hP
  have lk1 := hts (.fieldLink RX7 43 "GridRiddlesModel" "many" "I") (by decide +kernel)
  have hinX7 : ∀ w ∈ u_ws RX7 TX7 15, w ∈ wsX7_count := by decide +kernel
  have lk3 := hts (.fieldLink RX7 46 "GridRiddlesModel" "signs" "I") (by decide +kernel)
  have lk4 := hts (.fieldLink RX7 16 "GridRiddlesModel" "fault" "I") (by decide +kernel)
  have lk5 := hts (.fieldLink RX7 35 "GridRiddlesModel" "isKept" "[Z") (by decide +kernel)
  have B81 : ∀ (s0 : Int32), wp_X7_count_81 Q zisKept  s0 → ∀ (ls : Array Slot), lv_has ls 2 [(0, .ref h0)] → W p l e (headSpec wsX7_count ({ frames := 2, cells := 0, slots := 0, locals := 45 } : Room)).room s m ([.ref h0, .int x1] : List Value).toArray below meth c s.heap [] 0 0 (MQ below (vp_Si Q) ([.ref h0, .int x1] : List Value).toArray s 0 0 (fun _ => False)) (F0 m 81 ls [.int s0]) := by
    intro  s0 hw ls hl
    refine lv_aload_n hx hb dX7_count_81 rfl (lv_at hl 0 rfl) ?_
    refine va_get (D := g.1) (ci := 7) (v := .ref a_isKept) (C := RX7) (T := TX7) (N := 15) hx hb hts hinX7 hown hK hP 0 rfl rfl 14 (by decide) lk5 (fun _ h9 => h9) rfl dX7_count_82 ?_
    refine lv_iconst (v := 1) hx hb dX7_count_85 (by decide) ?_
    refine va_zald hx hb hK hP 8 1 rfl rfl (vin (by decide)) dX7_count_86 ?_
    refine lv_if_eq (tgt := 94) hx hb dX7_count_87 (by decide) (fun c5 => ?_) (fun c5 => ?_)
    · replace hw := hw.1 c5
      refine lv_iconst (v := 0) hx hb dX7_count_94 (by decide) ?_
      refine lv_iadd hx hb dX7_count_95 ?_
      exact W.iret hx hb hr (fun t ht _ => ⟨(s0 + 0), rfl, hw, ht⟩) t_nil dX7_count_96
    · replace hw := hw.2 c5
      refine lv_iconst (v := 2) hx hb dX7_count_90 (by decide) ?_
      refine lv_goto (tgt := 95) hx hb dX7_count_91 (by decide) ?_
      refine lv_iadd hx hb dX7_count_95 ?_
      exact W.iret hx hb hr (fun t ht _ => ⟨(s0 + 2), rfl, hw, ht⟩) t_nil dX7_count_96
  have hl := lv_entry ([.ref h0, .int x1]) (n := 2) (Nat.le_of_ble_eq_true rfl)
  rw [lg_entry_eq]
  generalize (lg_sl ([.ref h0, .int x1]) ++ List.replicate (2 - (lg_sl ([.ref h0, .int x1])).length) Slot.unset).toArray = ls at hl ⊢
  have hl : lv_has ls 2 [(0, .ref h0), (1, .int x1)] := hl
  unfold wp_X7_count at hw
  refine lv_iload_n hx hb dX7_count_0 rfl (lv_at hl 1 rfl) ?_
  refine lv_bipush (v := 10) hx hb dX7_count_1 (by decide) ?_
  refine lv_bipush (v := 16) hx hb dX7_count_3 (by decide) ?_
  refine kp_S (As := [.int x1, .int 10, .int 16]) (rest := []) (wc := []) ⟨hx, hb, hml, hown, hts⟩ (m_X7_in l g hok (x1 := x1) (x2 := 10) (x3 := 16) hw) (va_cwS 3 hts gX7_count_X7_in rfl rfl rfl hd_X7_in ⟨Nat.le_of_ble_eq_true rfl, Nat.le_of_ble_eq_true rfl⟩) hok hK PP_nil hro hS hA rfl hl.1 rfl (Nat.le_of_ble_eq_true rfl) dX7_count_5 ⟨Nat.le_of_ble_eq_true rfl, Nat.le_of_ble_eq_true rfl⟩ (fun r1 hw => ?_)
  refine lv_if_eq (tgt := 20) hx hb dX7_count_8 (by decide) (fun c2 => ?_) (fun c2 => ?_)
  · replace hw := hw.1 c2
    refine lv_iload_n hx hb dX7_count_20 rfl (lv_at hl 1 rfl) ?_
    by_cases c3_0 : x1 = 0
    · refine lv_tableIn (tgt := 52) hx hb dX7_count_21 (by rw [c3_0]; decide) (by rw [c3_0]; decide) (by rw [c3_0]; rfl) (by decide) ?_
      replace hw := hw.1 c3_0
      refine lv_aload_n hx hb dX7_count_52 rfl (lv_at hl 0 rfl) ?_
      refine va_get (D := g.1) (ci := 7) (v := .int zmany) (C := RX7) (T := TX7) (N := 15) hx hb hts hinX7 hown hK hP 0 rfl rfl 1 (by decide) lk1 (fun _ h9 => h9) rfl dX7_count_53 ?_
      exact W.iret hx hb hr (fun t ht _ => ⟨zmany, rfl, hw, ht⟩) t_nil dX7_count_56
    replace hw := hw.2
    by_cases c3_1 : x1 = 1
    · refine lv_tableIn (tgt := 57) hx hb dX7_count_21 (by rw [c3_1]; decide) (by rw [c3_1]; decide) (by rw [c3_1]; rfl) (by decide) ?_
      replace hw := hw.1 c3_1
      refine lv_aload_n hx hb dX7_count_57 rfl (lv_at hl 0 rfl) ?_
      refine va_get (D := g.1) (ci := 7) (v := .int zsigns) (C := RX7) (T := TX7) (N := 15) hx hb hts hinX7 hown hK hP 0 rfl rfl 3 (by decide) lk3 (fun _ h9 => h9) rfl dX7_count_58 ?_
      exact W.iret hx hb hr (fun t ht _ => ⟨zsigns, rfl, hw, ht⟩) t_nil dX7_count_61
    replace hw := hw.2
    by_cases c3_2 : x1 = 2
    · refine lv_tableIn (tgt := 62) hx hb dX7_count_21 (by rw [c3_2]; decide) (by rw [c3_2]; decide) (by rw [c3_2]; rfl) (by decide) ?_
      replace hw := hw.1 c3_2
      refine lv_aload_n hx hb dX7_count_62 rfl (lv_at hl 0 rfl) ?_
      refine va_get (D := g.1) (ci := 7) (v := .int zfault) (C := RX7) (T := TX7) (N := 15) hx hb hts hinX7 hown hK hP 0 rfl rfl 4 (by decide) lk4 (fun _ h9 => h9) rfl dX7_count_63 ?_
      exact W.iret hx hb hr (fun t ht _ => ⟨zfault, rfl, hw, ht⟩) t_nil dX7_count_66
    replace hw := hw.2
    by_cases c3_3 : x1 = 3
    · refine lv_tableIn (tgt := 67) hx hb dX7_count_21 (by rw [c3_3]; decide) (by rw [c3_3]; decide) (by rw [c3_3]; rfl) (by decide) ?_
      replace hw := hw.1 c3_3
      refine lv_aload_n hx hb dX7_count_67 rfl (lv_at hl 0 rfl) ?_
      refine va_get (D := g.1) (ci := 7) (v := .ref a_isKept) (C := RX7) (T := TX7) (N := 15) hx hb hts hinX7 hown hK hP 0 rfl rfl 14 (by decide) lk5 (fun _ h9 => h9) rfl dX7_count_68 ?_
      refine lv_iconst (v := 0) hx hb dX7_count_71 (by decide) ?_
      refine va_zald hx hb hK hP 8 1 rfl rfl (vin (by decide)) dX7_count_72 ?_
      refine lv_if_eq (tgt := 80) hx hb dX7_count_73 (by decide) (fun c4 => ?_) (fun c4 => ?_)
      · replace hw := hw.1 c4
        refine lv_iconst (v := 0) hx hb dX7_count_80 (by decide) ?_
        exact B81  0 hw ls (lv_sub hl [0] rfl)
      · replace hw := hw.2 c4
        refine lv_iconst (v := 1) hx hb dX7_count_76 (by decide) ?_
        refine lv_goto (tgt := 81) hx hb dX7_count_77 (by decide) ?_
        exact B81  1 hw ls (lv_sub hl [0] rfl)
    replace hw := hw.2
    have hout : x1.toInt < 0 ∨ 3 < x1.toInt := by
      have n_c3_0 := ne_toInt c3_0
      rw [show (0 : Int32).toInt = 0 from by decide] at n_c3_0
      have n_c3_1 := ne_toInt c3_1
      rw [show (1 : Int32).toInt = 1 from by decide] at n_c3_1
      have n_c3_2 := ne_toInt c3_2
      rw [show (2 : Int32).toInt = 2 from by decide] at n_c3_2
      have n_c3_3 := ne_toInt c3_3
      rw [show (3 : Int32).toInt = 3 from by decide] at n_c3_3
      omega
    refine lv_tableOut (tgt := 97) hx hb dX7_count_21 hout (by decide) ?_
    replace hw := hw ⟨c3_0, c3_1, c3_2, c3_3⟩
    refine lv_bipush (v := (-2)) hx hb dX7_count_97 (by decide) ?_
    exact W.iret hx hb hr (fun t ht _ => ⟨(-2), rfl, hw, ht⟩) t_nil dX7_count_99
  · replace hw := hw.2 c2
    refine lv_aload_n hx hb dX7_count_11 rfl (lv_at hl 0 rfl) ?_
    refine lv_iload_n hx hb dX7_count_12 rfl (lv_at hl 1 rfl) ?_
    refine lv_bipush (v := 10) hx hb dX7_count_13 (by decide) ?_
    refine lv_isub hx hb dX7_count_15 ?_
    refine kp_V (As := [.int (x1 - 10)]) (rest := []) (wc := [(h0, .inr (7, [.ref a_clues, .int zmany, .ref a_text, .int zsigns, .int zfault, .ref a_orders, .ref a_places, .int zsought, .int zfirst, .int zsecond, .ref a_lefts, .ref a_steps, .int zmade, .ref a_image, .ref a_isKept])), (a_clues, .inl (g.2.1, 60, .inl zclues)), (a_text, .inl (g.2.1, 10, .inl ztext)), (a_orders, .inl (g.2.1, 96, .inl zorders)), (a_places, .inl (g.2.1, 16, .inl zplaces)), (a_lefts, .inl (g.2.1, 16, .inl zlefts)), (a_steps, .inl (g.2.1, 256, .inl zsteps)), (a_image, .inl (g.2.1, 122, .inl zimage)), (a_isKept, .inl (g.2.2.1, 2, .inl zisKept))]) (cq := (RX7, TX7, 15)) ⟨hx, hb, hml, hown, hts⟩ (m_X7_ofKind l g hok (h0 := h0) (a_clues := a_clues) (a_text := a_text) (a_orders := a_orders) (a_places := a_places) (a_lefts := a_lefts) (a_steps := a_steps) (a_image := a_image) (a_isKept := a_isKept) (zclues := zclues) (zmany := zmany) (ztext := ztext) (zsigns := zsigns) (zfault := zfault) (zorders := zorders) (zplaces := zplaces) (zsought := zsought) (zfirst := zfirst) (zsecond := zsecond) (zlefts := zlefts) (zsteps := zsteps) (zmade := zmade) (zimage := zimage) (zisKept := zisKept) (x1 := (x1 - 10)) hw) (cwV 1 hts gX7_count_X7_ofKind rfl rfl rfl hd_X7_ofKind ⟨Nat.le_of_ble_eq_true rfl, Nat.le_of_ble_eq_true rfl⟩) hok hK hP hro hS hA 0 7 rfl rfl rfl hl.1 rfl (Nat.le_of_ble_eq_true rfl) dX7_count_16 ⟨Nat.le_of_ble_eq_true rfl, Nat.le_of_ble_eq_true rfl⟩ (fun r6 hw => ?_)
    exact W.iret hx hb hr (fun t ht _ => ⟨r6, rfl, hw, ht⟩) t_nil dX7_count_19
