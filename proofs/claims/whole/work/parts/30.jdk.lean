def wp_J6_bitCount_0f7a4 (x1 : Int32) (Q : Int32 → Prop) : Prop :=
  ∀ w1 : Int32, w1 = (x1 - (((x1.toUInt32 >>> ((1 : Int32).toUInt32 &&& Int32.toUInt32 31)).toInt32) &&& 1431655765)) → ∀ w2 : Int32, w2 = ((w1 &&& 858993459) + (((w1.toUInt32 >>> ((2 : Int32).toUInt32 &&& Int32.toUInt32 31)).toInt32) &&& 858993459)) → ∀ w3 : Int32, w3 = ((w2 + ((w2.toUInt32 >>> ((4 : Int32).toUInt32 &&& Int32.toUInt32 31)).toInt32)) &&& 252645135) → ∀ w4 : Int32, w4 = (w3 + ((w3.toUInt32 >>> ((8 : Int32).toUInt32 &&& Int32.toUInt32 31)).toInt32)) → ∀ w5 : Int32, w5 = (w4 + ((w4.toUInt32 >>> ((16 : Int32).toUInt32 &&& Int32.toUInt32 31)).toInt32)) → Q (w5 &&& 63)
theorem hd_J6_bitCount_0f7a4 : yJ6_bitCount_0f7a4.cls ≠ "java/lang/invoke/MethodHandle" ∧ yJ6_bitCount_0f7a4.cls ≠ "java/lang/invoke/VarHandle" ∧ (parseMethodDescriptor yJ6_bitCount_0f7a4.desc).map (fun d => d.parameters.length) = some 1 := by decide +kernel
set_option maxHeartbeats 4000000 in
set_option maxRecDepth 100000 in
theorem m_J6_bitCount_0f7a4 (l : Launch) (g : GG) {ro : Ro} (hok : RoOK ro) {x1 : Int32} {Q : Int32 → Prop} (hw : wp_J6_bitCount_0f7a4 x1 Q) : Met l yJ6_bitCount_0f7a4 wsJ6_bitCount_0f7a4 ({ frames := 0, cells := 0, slots := 0, locals := 0 } : Room) (PcP g ro [] [.int x1]) (vp_Si Q) 0 0 (fun _ => False) := by
  refine Met.ofW (cc := cJ6_bitCount_0f7a4) (maxL := 1) (ret := (some .int)) (by decide) rfl ?_
  intro p e s m args below meth c s₁ B hml hv
  obtain ⟨rfl, hP, hK, hro⟩ := hv
  have hx := B.exec
  have hb := B.bytes
  have hr := B.returns
  have hts := atoms_spec (ws := wsJ6_bitCount_0f7a4) B.pre
  have hown : s.vm.findClass RJ6 = some m.cls := findClass_of_methodNamed B.named
  have hlocks := B.notSynchronized
  have hA : ∀ q : Nat, s.heap.size ≤ q → (fun q : Nat => s.heap.size ≤ q) q := fun _ h => h
  have hS : va_S (fun q : Nat => s.heap.size ≤ q) s.heap s.heap [] := va_S.rf
  have hP : PP g [] s.heap := hP
  have lk1 := hts (.constant RJ6 265 (1431655765)) (by decide +kernel)
  have lk2 := hts (.constant RJ6 266 (858993459)) (by decide +kernel)
  have lk3 := hts (.constant RJ6 267 (252645135)) (by decide +kernel)
  have hl := lv_entry ([.int x1]) (n := 1) (Nat.le_of_ble_eq_true rfl)
  rw [lg_entry_eq]
  generalize (lg_sl ([.int x1]) ++ List.replicate (1 - (lg_sl ([.int x1])).length) Slot.unset).toArray = ls at hl ⊢
  have hl : lv_has ls 1 [(0, .int x1)] := hl
  unfold wp_J6_bitCount_0f7a4 at hw
  refine lv_iload_n hx hb dJ6_bitCount_0f7a4_0 rfl (lv_at hl 0 rfl) ?_
  refine lv_iload_n hx hb dJ6_bitCount_0f7a4_1 rfl (lv_at hl 0 rfl) ?_
  refine lv_iconst (v := 1) hx hb dJ6_bitCount_0f7a4_2 (by decide) ?_
  refine lv_iushr (v := (x1.toUInt32 >>> ((1 : Int32).toUInt32 &&& Int32.toUInt32 31)).toInt32) hx hb dJ6_bitCount_0f7a4_3 rfl ?_
  refine lv_ldcw hx hb hown lk1 dJ6_bitCount_0f7a4_4 ?_
  refine lv_iand hx hb dJ6_bitCount_0f7a4_7 ?_
  refine lv_isub hx hb dJ6_bitCount_0f7a4_8 ?_
  refine lv_topi (fun w1 ew1 => ?_)
  have hw := hw w1 ew1
  refine lv_istore_n (lv' := [(0, .int w1)]) hx hb dJ6_bitCount_0f7a4_9 rfl hl (by decide) rfl (fun ls hl => ?_)
  refine lv_iload_n hx hb dJ6_bitCount_0f7a4_10 rfl (lv_at hl 0 rfl) ?_
  refine lv_ldcw hx hb hown lk2 dJ6_bitCount_0f7a4_11 ?_
  refine lv_iand hx hb dJ6_bitCount_0f7a4_14 ?_
  refine lv_iload_n hx hb dJ6_bitCount_0f7a4_15 rfl (lv_at hl 0 rfl) ?_
  refine lv_iconst (v := 2) hx hb dJ6_bitCount_0f7a4_16 (by decide) ?_
  refine lv_iushr (v := (w1.toUInt32 >>> ((2 : Int32).toUInt32 &&& Int32.toUInt32 31)).toInt32) hx hb dJ6_bitCount_0f7a4_17 rfl ?_
  refine lv_ldcw hx hb hown lk2 dJ6_bitCount_0f7a4_18 ?_
  refine lv_iand hx hb dJ6_bitCount_0f7a4_21 ?_
  refine lv_iadd hx hb dJ6_bitCount_0f7a4_22 ?_
  refine lv_topi (fun w2 ew2 => ?_)
  have hw := hw w2 ew2
  refine lv_istore_n (lv' := [(0, .int w2)]) hx hb dJ6_bitCount_0f7a4_23 rfl hl (by decide) rfl (fun ls hl => ?_)
  refine lv_iload_n hx hb dJ6_bitCount_0f7a4_24 rfl (lv_at hl 0 rfl) ?_
  refine lv_iload_n hx hb dJ6_bitCount_0f7a4_25 rfl (lv_at hl 0 rfl) ?_
  refine lv_iconst (v := 4) hx hb dJ6_bitCount_0f7a4_26 (by decide) ?_
  refine lv_iushr (v := (w2.toUInt32 >>> ((4 : Int32).toUInt32 &&& Int32.toUInt32 31)).toInt32) hx hb dJ6_bitCount_0f7a4_27 rfl ?_
  refine lv_iadd hx hb dJ6_bitCount_0f7a4_28 ?_
  refine lv_ldcw hx hb hown lk3 dJ6_bitCount_0f7a4_29 ?_
  refine lv_iand hx hb dJ6_bitCount_0f7a4_32 ?_
  refine lv_topi (fun w3 ew3 => ?_)
  have hw := hw w3 ew3
  refine lv_istore_n (lv' := [(0, .int w3)]) hx hb dJ6_bitCount_0f7a4_33 rfl hl (by decide) rfl (fun ls hl => ?_)
  refine lv_iload_n hx hb dJ6_bitCount_0f7a4_34 rfl (lv_at hl 0 rfl) ?_
  refine lv_iload_n hx hb dJ6_bitCount_0f7a4_35 rfl (lv_at hl 0 rfl) ?_
  refine lv_bipush (v := 8) hx hb dJ6_bitCount_0f7a4_36 (by decide) ?_
  refine lv_iushr (v := (w3.toUInt32 >>> ((8 : Int32).toUInt32 &&& Int32.toUInt32 31)).toInt32) hx hb dJ6_bitCount_0f7a4_38 rfl ?_
  refine lv_iadd hx hb dJ6_bitCount_0f7a4_39 ?_
  refine lv_topi (fun w4 ew4 => ?_)
  have hw := hw w4 ew4
  refine lv_istore_n (lv' := [(0, .int w4)]) hx hb dJ6_bitCount_0f7a4_40 rfl hl (by decide) rfl (fun ls hl => ?_)
  refine lv_iload_n hx hb dJ6_bitCount_0f7a4_41 rfl (lv_at hl 0 rfl) ?_
  refine lv_iload_n hx hb dJ6_bitCount_0f7a4_42 rfl (lv_at hl 0 rfl) ?_
  refine lv_bipush (v := 16) hx hb dJ6_bitCount_0f7a4_43 (by decide) ?_
  refine lv_iushr (v := (w4.toUInt32 >>> ((16 : Int32).toUInt32 &&& Int32.toUInt32 31)).toInt32) hx hb dJ6_bitCount_0f7a4_45 rfl ?_
  refine lv_iadd hx hb dJ6_bitCount_0f7a4_46 ?_
  refine lv_topi (fun w5 ew5 => ?_)
  have hw := hw w5 ew5
  refine lv_istore_n (lv' := [(0, .int w5)]) hx hb dJ6_bitCount_0f7a4_47 rfl hl (by decide) rfl (fun ls hl => ?_)
  refine lv_iload_n hx hb dJ6_bitCount_0f7a4_48 rfl (lv_at hl 0 rfl) ?_
  refine lv_bipush (v := 63) hx hb dJ6_bitCount_0f7a4_49 (by decide) ?_
  refine lv_iand hx hb dJ6_bitCount_0f7a4_51 ?_
  exact W.iret hx hb hr (fun t ht _ => ⟨(w5 &&& 63), rfl, hw, ht⟩) t_nil dJ6_bitCount_0f7a4_52

def wp_J6_numberOfTrailingZeros_0f7a4_62 (Q : Int32 → Prop)   (l0 : Int32) (l1 : Int32) : Prop :=
  ((l0 ≤ 4 → Q (l1 + ((l0.toUInt32 >>> ((1 : Int32).toUInt32 &&& Int32.toUInt32 31)).toInt32))) ∧ (¬ (l0 ≤ 4) → ∀ w7 : Int32, w7 = ((l0.toUInt32 >>> ((2 : Int32).toUInt32 &&& Int32.toUInt32 31)).toInt32) → Q ((l1 + 2) + ((w7.toUInt32 >>> ((1 : Int32).toUInt32 &&& Int32.toUInt32 31)).toInt32))))
def wp_J6_numberOfTrailingZeros_0f7a4_49 (Q : Int32 → Prop)   (l0 : Int32) (l1 : Int32) : Prop :=
  ((l0 ≤ 16 → wp_J6_numberOfTrailingZeros_0f7a4_62 Q   l0 l1) ∧ (¬ (l0 ≤ 16) → ∀ w8 : Int32, w8 = ((l0.toUInt32 >>> ((4 : Int32).toUInt32 &&& Int32.toUInt32 31)).toInt32) → wp_J6_numberOfTrailingZeros_0f7a4_62 Q   w8 (l1 + 4)))
def wp_J6_numberOfTrailingZeros_0f7a4_34 (Q : Int32 → Prop)   (l0 : Int32) (l1 : Int32) : Prop :=
  ((l0 ≤ 256 → wp_J6_numberOfTrailingZeros_0f7a4_49 Q   l0 l1) ∧ (¬ (l0 ≤ 256) → ∀ w9 : Int32, w9 = ((l0.toUInt32 >>> ((8 : Int32).toUInt32 &&& Int32.toUInt32 31)).toInt32) → wp_J6_numberOfTrailingZeros_0f7a4_49 Q   w9 (l1 + 8)))
def wp_J6_numberOfTrailingZeros_0f7a4 (x1 : Int32) (Q : Int32 → Prop) : Prop :=
  ∀ w1 : Int32, w1 = ((x1 ^^^ (-1)) &&& (x1 - 1)) → ((0 < w1 → ((w1 ≤ 65536 → wp_J6_numberOfTrailingZeros_0f7a4_34 Q   w1 1) ∧ (¬ (w1 ≤ 65536) → ∀ w10 : Int32, w10 = ((w1.toUInt32 >>> ((16 : Int32).toUInt32 &&& Int32.toUInt32 31)).toInt32) → wp_J6_numberOfTrailingZeros_0f7a4_34 Q   w10 17))) ∧ (¬ (0 < w1) → Q (w1 &&& 32)))
theorem hd_J6_numberOfTrailingZeros_0f7a4 : yJ6_numberOfTrailingZeros_0f7a4.cls ≠ "java/lang/invoke/MethodHandle" ∧ yJ6_numberOfTrailingZeros_0f7a4.cls ≠ "java/lang/invoke/VarHandle" ∧ (parseMethodDescriptor yJ6_numberOfTrailingZeros_0f7a4.desc).map (fun d => d.parameters.length) = some 1 := by decide +kernel
set_option maxHeartbeats 4000000 in
set_option maxRecDepth 100000 in
theorem m_J6_numberOfTrailingZeros_0f7a4 (l : Launch) (g : GG) {ro : Ro} (hok : RoOK ro) {x1 : Int32} {Q : Int32 → Prop} (hw : wp_J6_numberOfTrailingZeros_0f7a4 x1 Q) : Met l yJ6_numberOfTrailingZeros_0f7a4 wsJ6_numberOfTrailingZeros_0f7a4 ({ frames := 0, cells := 0, slots := 0, locals := 0 } : Room) (PcP g ro [] [.int x1]) (vp_Si Q) 0 0 (fun _ => False) := by
  refine Met.ofW (cc := cJ6_numberOfTrailingZeros_0f7a4) (maxL := 2) (ret := (some .int)) (by decide) rfl ?_
  intro p e s m args below meth c s₁ B hml hv
  obtain ⟨rfl, hP, hK, hro⟩ := hv
  have hx := B.exec
  have hb := B.bytes
  have hr := B.returns
  have hts := atoms_spec (ws := wsJ6_numberOfTrailingZeros_0f7a4) B.pre
  have hown : s.vm.findClass RJ6 = some m.cls := findClass_of_methodNamed B.named
  have hlocks := B.notSynchronized
  have hA : ∀ q : Nat, s.heap.size ≤ q → (fun q : Nat => s.heap.size ≤ q) q := fun _ h => h
  have hS : va_S (fun q : Nat => s.heap.size ≤ q) s.heap s.heap [] := va_S.rf
  have hP : PP g [] s.heap := hP
  have lk1 := hts (.constant RJ6 264 (65536)) (by decide +kernel)
  have B62 : ∀ (l0 : Int32) (l1 : Int32), wp_J6_numberOfTrailingZeros_0f7a4_62 Q   l0 l1 → ∀ (ls : Array Slot), lv_has ls 2 [(0, .int l0), (1, .int l1)] → W p l e (headSpec wsJ6_numberOfTrailingZeros_0f7a4 ({ frames := 0, cells := 0, slots := 0, locals := 0 } : Room)).room s m ([.int x1] : List Value).toArray below meth c s.heap [] 0 0 (MQ below (vp_Si Q) ([.int x1] : List Value).toArray s 0 0 (fun _ => False)) (F0 m 62 ls []) := by
    intro  l0 l1 hw ls hl
    refine lv_iload_n hx hb dJ6_numberOfTrailingZeros_0f7a4_62 rfl (lv_at hl 0 rfl) ?_
    refine lv_iconst (v := 4) hx hb dJ6_numberOfTrailingZeros_0f7a4_63 (by decide) ?_
    refine lv_icmp_le (tgt := 74) hx hb dJ6_numberOfTrailingZeros_0f7a4_64 (by decide) (fun c6 => ?_) (fun c6 => ?_)
    · replace hw := hw.1 c6
      refine lv_iload_n hx hb dJ6_numberOfTrailingZeros_0f7a4_74 rfl (lv_at hl 1 rfl) ?_
      refine lv_iload_n hx hb dJ6_numberOfTrailingZeros_0f7a4_75 rfl (lv_at hl 0 rfl) ?_
      refine lv_iconst (v := 1) hx hb dJ6_numberOfTrailingZeros_0f7a4_76 (by decide) ?_
      refine lv_iushr (v := (l0.toUInt32 >>> ((1 : Int32).toUInt32 &&& Int32.toUInt32 31)).toInt32) hx hb dJ6_numberOfTrailingZeros_0f7a4_77 rfl ?_
      refine lv_iadd hx hb dJ6_numberOfTrailingZeros_0f7a4_78 ?_
      exact W.iret hx hb hr (fun t ht _ => ⟨(l1 + ((l0.toUInt32 >>> ((1 : Int32).toUInt32 &&& Int32.toUInt32 31)).toInt32)), rfl, hw, ht⟩) t_nil dJ6_numberOfTrailingZeros_0f7a4_79
    · replace hw := hw.2 c6
      refine lv_iinc (v := (l1 + 2)) (lv' := [(1, .int (l1 + 2)), (0, .int l0)]) hx hb dJ6_numberOfTrailingZeros_0f7a4_67 hl (k := 1) rfl rfl (by decide) rfl (fun ls hl => ?_)
      refine lv_iload_n hx hb dJ6_numberOfTrailingZeros_0f7a4_70 rfl (lv_at hl 1 rfl) ?_
      refine lv_iconst (v := 2) hx hb dJ6_numberOfTrailingZeros_0f7a4_71 (by decide) ?_
      refine lv_iushr (v := (l0.toUInt32 >>> ((2 : Int32).toUInt32 &&& Int32.toUInt32 31)).toInt32) hx hb dJ6_numberOfTrailingZeros_0f7a4_72 rfl ?_
      refine lv_topi (fun w7 ew7 => ?_)
      have hw := hw w7 ew7
      refine lv_istore_n (lv' := [(0, .int w7), (1, .int (l1 + 2))]) hx hb dJ6_numberOfTrailingZeros_0f7a4_73 rfl hl (by decide) rfl (fun ls hl => ?_)
      refine lv_iload_n hx hb dJ6_numberOfTrailingZeros_0f7a4_74 rfl (lv_at hl 1 rfl) ?_
      refine lv_iload_n hx hb dJ6_numberOfTrailingZeros_0f7a4_75 rfl (lv_at hl 0 rfl) ?_
      refine lv_iconst (v := 1) hx hb dJ6_numberOfTrailingZeros_0f7a4_76 (by decide) ?_
      refine lv_iushr (v := (w7.toUInt32 >>> ((1 : Int32).toUInt32 &&& Int32.toUInt32 31)).toInt32) hx hb dJ6_numberOfTrailingZeros_0f7a4_77 rfl ?_
      refine lv_iadd hx hb dJ6_numberOfTrailingZeros_0f7a4_78 ?_
      exact W.iret hx hb hr (fun t ht _ => ⟨((l1 + 2) + ((w7.toUInt32 >>> ((1 : Int32).toUInt32 &&& Int32.toUInt32 31)).toInt32)), rfl, hw, ht⟩) t_nil dJ6_numberOfTrailingZeros_0f7a4_79
  have B49 : ∀ (l0 : Int32) (l1 : Int32), wp_J6_numberOfTrailingZeros_0f7a4_49 Q   l0 l1 → ∀ (ls : Array Slot), lv_has ls 2 [(0, .int l0), (1, .int l1)] → W p l e (headSpec wsJ6_numberOfTrailingZeros_0f7a4 ({ frames := 0, cells := 0, slots := 0, locals := 0 } : Room)).room s m ([.int x1] : List Value).toArray below meth c s.heap [] 0 0 (MQ below (vp_Si Q) ([.int x1] : List Value).toArray s 0 0 (fun _ => False)) (F0 m 49 ls []) := by
    intro  l0 l1 hw ls hl
    refine lv_iload_n hx hb dJ6_numberOfTrailingZeros_0f7a4_49 rfl (lv_at hl 0 rfl) ?_
    refine lv_bipush (v := 16) hx hb dJ6_numberOfTrailingZeros_0f7a4_50 (by decide) ?_
    refine lv_icmp_le (tgt := 62) hx hb dJ6_numberOfTrailingZeros_0f7a4_52 (by decide) (fun c5 => ?_) (fun c5 => ?_)
    · replace hw := hw.1 c5
      exact B62  l0 l1 hw ls (lv_sub hl [0, 1] rfl)
    · replace hw := hw.2 c5
      refine lv_iinc (v := (l1 + 4)) (lv' := [(1, .int (l1 + 4)), (0, .int l0)]) hx hb dJ6_numberOfTrailingZeros_0f7a4_55 hl (k := 1) rfl rfl (by decide) rfl (fun ls hl => ?_)
      refine lv_iload_n hx hb dJ6_numberOfTrailingZeros_0f7a4_58 rfl (lv_at hl 1 rfl) ?_
      refine lv_iconst (v := 4) hx hb dJ6_numberOfTrailingZeros_0f7a4_59 (by decide) ?_
      refine lv_iushr (v := (l0.toUInt32 >>> ((4 : Int32).toUInt32 &&& Int32.toUInt32 31)).toInt32) hx hb dJ6_numberOfTrailingZeros_0f7a4_60 rfl ?_
      refine lv_topi (fun w8 ew8 => ?_)
      have hw := hw w8 ew8
      refine lv_istore_n (lv' := [(0, .int w8), (1, .int (l1 + 4))]) hx hb dJ6_numberOfTrailingZeros_0f7a4_61 rfl hl (by decide) rfl (fun ls hl => ?_)
      exact B62  w8 (l1 + 4) hw ls (lv_sub hl [0, 1] rfl)
  have B34 : ∀ (l0 : Int32) (l1 : Int32), wp_J6_numberOfTrailingZeros_0f7a4_34 Q   l0 l1 → ∀ (ls : Array Slot), lv_has ls 2 [(0, .int l0), (1, .int l1)] → W p l e (headSpec wsJ6_numberOfTrailingZeros_0f7a4 ({ frames := 0, cells := 0, slots := 0, locals := 0 } : Room)).room s m ([.int x1] : List Value).toArray below meth c s.heap [] 0 0 (MQ below (vp_Si Q) ([.int x1] : List Value).toArray s 0 0 (fun _ => False)) (F0 m 34 ls []) := by
    intro  l0 l1 hw ls hl
    refine lv_iload_n hx hb dJ6_numberOfTrailingZeros_0f7a4_34 rfl (lv_at hl 0 rfl) ?_
    refine lv_sipush (v := 256) hx hb dJ6_numberOfTrailingZeros_0f7a4_35 (by decide) ?_
    refine lv_icmp_le (tgt := 49) hx hb dJ6_numberOfTrailingZeros_0f7a4_38 (by decide) (fun c4 => ?_) (fun c4 => ?_)
    · replace hw := hw.1 c4
      exact B49  l0 l1 hw ls (lv_sub hl [0, 1] rfl)
    · replace hw := hw.2 c4
      refine lv_iinc (v := (l1 + 8)) (lv' := [(1, .int (l1 + 8)), (0, .int l0)]) hx hb dJ6_numberOfTrailingZeros_0f7a4_41 hl (k := 1) rfl rfl (by decide) rfl (fun ls hl => ?_)
      refine lv_iload_n hx hb dJ6_numberOfTrailingZeros_0f7a4_44 rfl (lv_at hl 1 rfl) ?_
      refine lv_bipush (v := 8) hx hb dJ6_numberOfTrailingZeros_0f7a4_45 (by decide) ?_
      refine lv_iushr (v := (l0.toUInt32 >>> ((8 : Int32).toUInt32 &&& Int32.toUInt32 31)).toInt32) hx hb dJ6_numberOfTrailingZeros_0f7a4_47 rfl ?_
      refine lv_topi (fun w9 ew9 => ?_)
      have hw := hw w9 ew9
      refine lv_istore_n (lv' := [(0, .int w9), (1, .int (l1 + 8))]) hx hb dJ6_numberOfTrailingZeros_0f7a4_48 rfl hl (by decide) rfl (fun ls hl => ?_)
      exact B49  w9 (l1 + 8) hw ls (lv_sub hl [0, 1] rfl)
  have hl := lv_entry ([.int x1]) (n := 2) (Nat.le_of_ble_eq_true rfl)
  rw [lg_entry_eq]
  generalize (lg_sl ([.int x1]) ++ List.replicate (2 - (lg_sl ([.int x1])).length) Slot.unset).toArray = ls at hl ⊢
  have hl : lv_has ls 2 [(0, .int x1)] := hl
  unfold wp_J6_numberOfTrailingZeros_0f7a4 at hw
  refine lv_iload_n hx hb dJ6_numberOfTrailingZeros_0f7a4_0 rfl (lv_at hl 0 rfl) ?_
  refine lv_iconst (v := (-1)) hx hb dJ6_numberOfTrailingZeros_0f7a4_1 (by decide) ?_
  refine lv_ixor hx hb dJ6_numberOfTrailingZeros_0f7a4_2 ?_
  refine lv_iload_n hx hb dJ6_numberOfTrailingZeros_0f7a4_3 rfl (lv_at hl 0 rfl) ?_
  refine lv_iconst (v := 1) hx hb dJ6_numberOfTrailingZeros_0f7a4_4 (by decide) ?_
  refine lv_isub hx hb dJ6_numberOfTrailingZeros_0f7a4_5 ?_
  refine lv_iand hx hb dJ6_numberOfTrailingZeros_0f7a4_6 ?_
  refine lv_topi (fun w1 ew1 => ?_)
  have hw := hw w1 ew1
  refine lv_istore_n (lv' := [(0, .int w1)]) hx hb dJ6_numberOfTrailingZeros_0f7a4_7 rfl hl (by decide) rfl (fun ls hl => ?_)
  refine lv_iload_n hx hb dJ6_numberOfTrailingZeros_0f7a4_8 rfl (lv_at hl 0 rfl) ?_
  refine lv_if_gt (tgt := 17) hx hb dJ6_numberOfTrailingZeros_0f7a4_9 (by decide) (fun c2 => ?_) (fun c2 => ?_)
  · replace hw := hw.1 c2
    refine lv_iconst (v := 1) hx hb dJ6_numberOfTrailingZeros_0f7a4_17 (by decide) ?_
    refine lv_istore_n (lv' := [(1, .int 1), (0, .int w1)]) hx hb dJ6_numberOfTrailingZeros_0f7a4_18 rfl hl (by decide) rfl (fun ls hl => ?_)
    refine lv_iload_n hx hb dJ6_numberOfTrailingZeros_0f7a4_19 rfl (lv_at hl 1 rfl) ?_
    refine lv_ldcw hx hb hown lk1 dJ6_numberOfTrailingZeros_0f7a4_20 ?_
    refine lv_icmp_le (tgt := 34) hx hb dJ6_numberOfTrailingZeros_0f7a4_23 (by decide) (fun c3 => ?_) (fun c3 => ?_)
    · replace hw := hw.1 c3
      exact B34  w1 1 hw ls (lv_sub hl [1, 0] rfl)
    · replace hw := hw.2 c3
      refine lv_iinc (v := 17) (lv' := [(1, .int 17), (0, .int w1)]) hx hb dJ6_numberOfTrailingZeros_0f7a4_26 hl (k := 0) rfl (by decide) (by decide) rfl (fun ls hl => ?_)
      refine lv_iload_n hx hb dJ6_numberOfTrailingZeros_0f7a4_29 rfl (lv_at hl 1 rfl) ?_
      refine lv_bipush (v := 16) hx hb dJ6_numberOfTrailingZeros_0f7a4_30 (by decide) ?_
      refine lv_iushr (v := (w1.toUInt32 >>> ((16 : Int32).toUInt32 &&& Int32.toUInt32 31)).toInt32) hx hb dJ6_numberOfTrailingZeros_0f7a4_32 rfl ?_
      refine lv_topi (fun w10 ew10 => ?_)
      have hw := hw w10 ew10
      refine lv_istore_n (lv' := [(0, .int w10), (1, .int 17)]) hx hb dJ6_numberOfTrailingZeros_0f7a4_33 rfl hl (by decide) rfl (fun ls hl => ?_)
      exact B34  w10 17 hw ls (lv_sub hl [0, 1] rfl)
  · replace hw := hw.2 c2
    refine lv_iload_n hx hb dJ6_numberOfTrailingZeros_0f7a4_12 rfl (lv_at hl 0 rfl) ?_
    refine lv_bipush (v := 32) hx hb dJ6_numberOfTrailingZeros_0f7a4_13 (by decide) ?_
    refine lv_iand hx hb dJ6_numberOfTrailingZeros_0f7a4_15 ?_
    exact W.iret hx hb hr (fun t ht _ => ⟨(w1 &&& 32), rfl, hw, ht⟩) t_nil dJ6_numberOfTrailingZeros_0f7a4_16

def wp_J7_fill_53178_5 (Q : (Nat → Int32) → Prop) (n0 : Nat) (x1 : Int32)  (l2 : Int32) (l3 : Int32) (f0 : Nat → Int32) : Prop :=
  ∃ (I5 : Int32 → Int32 → (Nat → Int32) → Prop) (mu5 : Int32 → Int32 → (Nat → Int32) → Nat), I5 l2 l3 f0 ∧ ∀ (l2 : Int32) (l3 : Int32) (f0 : Nat → Int32), I5 l2 l3 f0 → ((l3 ≤ l2 → Q f0) ∧ (¬ (l3 ≤ l2) → (vp_in l2 n0 ∧ (I5 (l2 + 1) l3 (upd f0 l2.toNatClampNeg x1) ∧ mu5 (l2 + 1) l3 (upd f0 l2.toNatClampNeg x1) < mu5 l2 l3 f0))))
def wp_J7_fill_53178 (n0 : Nat) (x1 : Int32) (f0 : Nat → Int32) (Q : (Nat → Int32) → Prop) : Prop :=
  ∀ w1 : Int32, w1 = (Int32.ofNat n0) → wp_J7_fill_53178_5 Q n0 x1  0 w1 f0
theorem hd_J7_fill_53178 : yJ7_fill_53178.cls ≠ "java/lang/invoke/MethodHandle" ∧ yJ7_fill_53178.cls ≠ "java/lang/invoke/VarHandle" ∧ (parseMethodDescriptor yJ7_fill_53178.desc).map (fun d => d.parameters.length) = some 2 := by decide +kernel
set_option maxHeartbeats 4000000 in
set_option maxRecDepth 100000 in
theorem m_J7_fill_53178 (l : Launch) (g : GG) {ro : Ro} (hok : RoOK ro) {a0 n0 : Nat} {f0 : Nat → Int32} {x1 : Int32} {sz : Nat} {Q : (Nat → Int32) → Prop} (hw : wp_J7_fill_53178 n0 x1 f0 Q) : Met l yJ7_fill_53178 wsJ7_fill_53178 ({ frames := 0, cells := 0, slots := 0, locals := 0 } : Room) (PcM g ro [(a0, .inl (g.2.1, n0, .inl f0))] sz [.ref a0, .int x1]) (va_Qv (fun (u : (Nat → Int32)) => Q u) (BM g (fun u : (Nat → Int32) => [(a0, .inl (g.2.1, n0, .inl u))]) (va_A [(a0, .inl (g.2.1, n0, .inl f0))] sz)) (va_A [(a0, .inl (g.2.1, n0, .inl f0))] sz)) 0 0 (va_A [(a0, .inl (g.2.1, n0, .inl f0))] sz) := by
  refine Met.ofW (cc := cJ7_fill_53178) (maxL := 4) (ret := none) (by decide) rfl ?_
  intro p e s m args below meth c s₁ B hml hv
  obtain ⟨rfl, hsz, hP, hK, hD0, hro⟩ := hv
  have hx := B.exec
  have hb := B.bytes
  have hr := B.returns
  have hts := atoms_spec (ws := wsJ7_fill_53178) B.pre
  have hown : s.vm.findClass RJ7 = some m.cls := findClass_of_methodNamed B.named
  have hlocks := B.notSynchronized
  subst hsz
  have hD := hD0.self (sz := s.heap.size)
  generalize hAe : va_A [(a0, .inl (g.2.1, n0, .inl f0))] s.heap.size = A at hD hro ⊢
  have hA : ∀ q : Nat, s.heap.size ≤ q → A q := fun q h => by rw [← hAe]; exact Or.inr h
  have hS : va_S A s.heap s.heap [] := va_S.rf
  have hP : PP g [(a0, .inl (g.2.1, n0, .inl f0))] s.heap := hP
  have B5 : ∀ (l2 : Int32) (l3 : Int32) (f0 : Nat → Int32), wp_J7_fill_53178_5 Q n0 x1  l2 l3 f0 → ∀ (H : Heap) (locs : List Loc), PP g [(a0, .inl (g.2.1, n0, .inl f0))] H → va_D A [(a0, .inl (g.2.1, n0, .inl f0))] → va_S A s.heap H locs → ∀ (ls : Array Slot), lv_has ls 4 [(0, .ref a0), (1, .int x1), (2, .int l2), (3, .int l3)] → W p l e (headSpec wsJ7_fill_53178 ({ frames := 0, cells := 0, slots := 0, locals := 0 } : Room)).room s m ([.ref a0, .int x1] : List Value).toArray below meth c H locs 0 0 (MQ below (va_Qv (fun (u : (Nat → Int32)) => Q u) (BM g (fun u : (Nat → Int32) => [(a0, .inl (g.2.1, n0, .inl u))]) A) A) ([.ref a0, .int x1] : List Value).toArray s 0 0 A) (F0 m 5 ls []) := by
    intro  l2 l3 f0 hw
    obtain ⟨I5, mu5, hI, hstep⟩ := hw
    have key : ∀ (n : Nat) (l2 : Int32) (l3 : Int32) (f0 : Nat → Int32), mu5 l2 l3 f0 < n → I5 l2 l3 f0 → ∀ (H : Heap) (locs : List Loc), PP g [(a0, .inl (g.2.1, n0, .inl f0))] H → va_D A [(a0, .inl (g.2.1, n0, .inl f0))] → va_S A s.heap H locs → ∀ (ls : Array Slot), lv_has ls 4 [(0, .ref a0), (1, .int x1), (2, .int l2), (3, .int l3)] → W p l e (headSpec wsJ7_fill_53178 ({ frames := 0, cells := 0, slots := 0, locals := 0 } : Room)).room s m ([.ref a0, .int x1] : List Value).toArray below meth c H locs 0 0 (MQ below (va_Qv (fun (u : (Nat → Int32)) => Q u) (BM g (fun u : (Nat → Int32) => [(a0, .inl (g.2.1, n0, .inl u))]) A) A) ([.ref a0, .int x1] : List Value).toArray s 0 0 A) (F0 m 5 ls []) := by
      intro n
      induction n with
      | zero => intro l2 l3 f0 h; exact absurd h (Nat.not_lt_zero _)
      | succ n ih =>
          intro l2 l3 f0 hn hI  H locs hP hD hS ls hl
          have hw := hstep l2 l3 f0 hI
          have hK5 : ∀ (l2' : Int32) (l3' : Int32) (f0' : Nat → Int32), (I5 l2' l3' f0' ∧ mu5 l2' l3' f0' < mu5 l2 l3 f0) → ∀ (H : Heap) (locs : List Loc), PP g [(a0, .inl (g.2.1, n0, .inl f0'))] H → va_D A [(a0, .inl (g.2.1, n0, .inl f0'))] → va_S A s.heap H locs → ∀ (ls : Array Slot), lv_has ls 4 [(0, .ref a0), (1, .int x1), (2, .int l2'), (3, .int l3')] → W p l e (headSpec wsJ7_fill_53178 ({ frames := 0, cells := 0, slots := 0, locals := 0 } : Room)).room s m ([.ref a0, .int x1] : List Value).toArray below meth c H locs 0 0 (MQ below (va_Qv (fun (u : (Nat → Int32)) => Q u) (BM g (fun u : (Nat → Int32) => [(a0, .inl (g.2.1, n0, .inl u))]) A) A) ([.ref a0, .int x1] : List Value).toArray s 0 0 A) (F0 m 5 ls []) := fun l2' l3' f0' h => ih l2' l3' f0' (Nat.lt_of_lt_of_le h.2 (Nat.le_of_lt_succ hn)) h.1
          refine lv_iload_n hx hb dJ7_fill_53178_5 rfl (lv_at hl 2 rfl) ?_
          refine lv_iload_n hx hb dJ7_fill_53178_6 rfl (lv_at hl 3 rfl) ?_
          refine lv_icmp_ge (tgt := 20) hx hb dJ7_fill_53178_7 (by decide) (fun c2 => ?_) (fun c2 => ?_)
          · replace hw := hw.1 c2
            exact W.vret hx hb hr (fun t ht hW => ⟨⟨(f0), rfl, hw, by rw [ht]; exact hP, va_K.moved hW.alike hK, hD⟩, hS.F ht⟩) hS.2.2 dJ7_fill_53178_20
          · replace hw := hw.2 c2
            refine lv_aload_n hx hb dJ7_fill_53178_10 rfl (lv_at hl 0 rfl) ?_
            refine lv_iload_n hx hb dJ7_fill_53178_11 rfl (lv_at hl 2 rfl) ?_
            refine lv_iload_n hx hb dJ7_fill_53178_12 rfl (lv_at hl 1 rfl) ?_
            obtain ⟨hi, hw⟩ := hw
            refine va_iast hx hb hK hP hD hS 0 0 rfl rfl hi dJ7_fill_53178_13 (fun H locs hP hD hS => ?_)
            have hP : PP g [(a0, .inl (g.2.1, n0, .inl (upd f0 l2.toNatClampNeg x1)))] H := hP
            have hD : va_D A [(a0, .inl (g.2.1, n0, .inl (upd f0 l2.toNatClampNeg x1)))] := hD
            refine lv_iinc (v := (l2 + 1)) (lv' := [(2, .int (l2 + 1)), (0, .ref a0), (1, .int x1), (3, .int l3)]) hx hb dJ7_fill_53178_14 hl (k := 2) rfl rfl (by decide) rfl (fun ls hl => ?_)
            refine lv_goto (tgt := 5) hx hb dJ7_fill_53178_17 (by decide) ?_
            exact hK5 (l2 + 1) l3 (upd f0 l2.toNatClampNeg x1) hw  _ _ hP hD hS ls (lv_sub hl [1, 2, 0, 3] rfl)
    exact key _ l2 l3 f0 (Nat.lt_succ_self _) hI
  have hl := lv_entry ([.ref a0, .int x1]) (n := 4) (Nat.le_of_ble_eq_true rfl)
  rw [lg_entry_eq]
  generalize (lg_sl ([.ref a0, .int x1]) ++ List.replicate (4 - (lg_sl ([.ref a0, .int x1])).length) Slot.unset).toArray = ls at hl ⊢
  have hl : lv_has ls 4 [(0, .ref a0), (1, .int x1)] := hl
  unfold wp_J7_fill_53178 at hw
  refine lv_iconst (v := 0) hx hb dJ7_fill_53178_0 (by decide) ?_
  refine lv_istore_n (lv' := [(2, .int 0), (0, .ref a0), (1, .int x1)]) hx hb dJ7_fill_53178_1 rfl hl (by decide) rfl (fun ls hl => ?_)
  refine lv_aload_n hx hb dJ7_fill_53178_2 rfl (lv_at hl 1 rfl) ?_
  refine va_alen hx hb hK hP 0 0 rfl rfl (v := (Int32.ofNat n0)) rfl dJ7_fill_53178_3 ?_
  refine lv_topi (fun w1 ew1 => ?_)
  have hw := hw w1 ew1
  refine lv_istore_n (lv' := [(3, .int w1), (2, .int 0), (0, .ref a0), (1, .int x1)]) hx hb dJ7_fill_53178_4 rfl hl (by decide) rfl (fun ls hl => ?_)
  exact B5  0 w1 f0 hw  _ _ hP hD hS ls (lv_sub hl [2, 3, 1, 0] rfl)

def wp_X6_isItem (x1 : Int32) (Q : Int32 → Prop) : Prop :=
  ((x1 < 0 → Q 0) ∧ (¬ (x1 < 0) → ((16 ≤ x1 → Q 0) ∧ (¬ (16 ≤ x1) → Q 1))))
theorem hd_X6_isItem : yX6_isItem.cls ≠ "java/lang/invoke/MethodHandle" ∧ yX6_isItem.cls ≠ "java/lang/invoke/VarHandle" ∧ (parseMethodDescriptor yX6_isItem.desc).map (fun d => d.parameters.length) = some 1 := by decide +kernel
set_option maxHeartbeats 4000000 in
set_option maxRecDepth 100000 in
theorem m_X6_isItem (l : Launch) (g : GG) {ro : Ro} (hok : RoOK ro) {x1 : Int32} {Q : Int32 → Prop} (hw : wp_X6_isItem x1 Q) : Met l yX6_isItem wsX6_isItem ({ frames := 0, cells := 0, slots := 0, locals := 0 } : Room) (PcP g ro [] [.int x1]) (vp_Si Q) 0 0 (fun _ => False) := by
  refine Met.ofW (cc := cX6_isItem) (maxL := 1) (ret := (some .boolean)) (by decide) rfl ?_
  intro p e s m args below meth c s₁ B hml hv
  obtain ⟨rfl, hP, hK, hro⟩ := hv
  have hx := B.exec
  have hb := B.bytes
  have hr := B.returns
  have hts := atoms_spec (ws := wsX6_isItem) B.pre
  have hown : s.vm.findClass RX6 = some m.cls := findClass_of_methodNamed B.named
  have hlocks := B.notSynchronized
  have hA : ∀ q : Nat, s.heap.size ≤ q → (fun q : Nat => s.heap.size ≤ q) q := fun _ h => h
  have hS : va_S (fun q : Nat => s.heap.size ≤ q) s.heap s.heap [] := va_S.rf
  have hP : PP g [] s.heap := hP
  have hl := lv_entry ([.int x1]) (n := 1) (Nat.le_of_ble_eq_true rfl)
  rw [lg_entry_eq]
  generalize (lg_sl ([.int x1]) ++ List.replicate (1 - (lg_sl ([.int x1])).length) Slot.unset).toArray = ls at hl ⊢
  have hl : lv_has ls 1 [(0, .int x1)] := hl
  unfold wp_X6_isItem at hw
  refine lv_iload_n hx hb dX6_isItem_0 rfl (lv_at hl 0 rfl) ?_
  refine lv_if_lt (tgt := 14) hx hb dX6_isItem_1 (by decide) (fun c1 => ?_) (fun c1 => ?_)
  · replace hw := hw.1 c1
    refine lv_iconst (v := 0) hx hb dX6_isItem_14 (by decide) ?_
    exact W.zret hx hb hr (zb_nar zb0) (fun t ht _ => ⟨0, rfl, hw, ht⟩) t_nil dX6_isItem_15
  · replace hw := hw.2 c1
    refine lv_iload_n hx hb dX6_isItem_4 rfl (lv_at hl 0 rfl) ?_
    refine lv_bipush (v := 16) hx hb dX6_isItem_5 (by decide) ?_
    refine lv_icmp_ge (tgt := 14) hx hb dX6_isItem_7 (by decide) (fun c2 => ?_) (fun c2 => ?_)
    · replace hw := hw.1 c2
      refine lv_iconst (v := 0) hx hb dX6_isItem_14 (by decide) ?_
      exact W.zret hx hb hr (zb_nar zb0) (fun t ht _ => ⟨0, rfl, hw, ht⟩) t_nil dX6_isItem_15
    · replace hw := hw.2 c2
      refine lv_iconst (v := 1) hx hb dX6_isItem_10 (by decide) ?_
      refine lv_goto (tgt := 15) hx hb dX6_isItem_11 (by decide) ?_
      exact W.zret hx hb hr (zb_nar zb1) (fun t ht _ => ⟨1, rfl, hw, ht⟩) t_nil dX6_isItem_15

def wp_X6_isPlace (x1 : Int32) (Q : Int32 → Prop) : Prop :=
  ((x1 < 1 → Q 0) ∧ (¬ (x1 < 1) → ((4 < x1 → Q 0) ∧ (¬ (4 < x1) → Q 1))))
theorem hd_X6_isPlace : yX6_isPlace.cls ≠ "java/lang/invoke/MethodHandle" ∧ yX6_isPlace.cls ≠ "java/lang/invoke/VarHandle" ∧ (parseMethodDescriptor yX6_isPlace.desc).map (fun d => d.parameters.length) = some 1 := by decide +kernel
set_option maxHeartbeats 4000000 in
set_option maxRecDepth 100000 in
theorem m_X6_isPlace (l : Launch) (g : GG) {ro : Ro} (hok : RoOK ro) {x1 : Int32} {Q : Int32 → Prop} (hw : wp_X6_isPlace x1 Q) : Met l yX6_isPlace wsX6_isPlace ({ frames := 0, cells := 0, slots := 0, locals := 0 } : Room) (PcP g ro [] [.int x1]) (vp_Si Q) 0 0 (fun _ => False) := by
  refine Met.ofW (cc := cX6_isPlace) (maxL := 1) (ret := (some .boolean)) (by decide) rfl ?_
  intro p e s m args below meth c s₁ B hml hv
  obtain ⟨rfl, hP, hK, hro⟩ := hv
  have hx := B.exec
  have hb := B.bytes
  have hr := B.returns
  have hts := atoms_spec (ws := wsX6_isPlace) B.pre
  have hown : s.vm.findClass RX6 = some m.cls := findClass_of_methodNamed B.named
  have hlocks := B.notSynchronized
  have hA : ∀ q : Nat, s.heap.size ≤ q → (fun q : Nat => s.heap.size ≤ q) q := fun _ h => h
  have hS : va_S (fun q : Nat => s.heap.size ≤ q) s.heap s.heap [] := va_S.rf
  have hP : PP g [] s.heap := hP
  have hl := lv_entry ([.int x1]) (n := 1) (Nat.le_of_ble_eq_true rfl)
  rw [lg_entry_eq]
  generalize (lg_sl ([.int x1]) ++ List.replicate (1 - (lg_sl ([.int x1])).length) Slot.unset).toArray = ls at hl ⊢
  have hl : lv_has ls 1 [(0, .int x1)] := hl
  unfold wp_X6_isPlace at hw
  refine lv_iload_n hx hb dX6_isPlace_0 rfl (lv_at hl 0 rfl) ?_
  refine lv_iconst (v := 1) hx hb dX6_isPlace_1 (by decide) ?_
  refine lv_icmp_lt (tgt := 14) hx hb dX6_isPlace_2 (by decide) (fun c1 => ?_) (fun c1 => ?_)
  · replace hw := hw.1 c1
    refine lv_iconst (v := 0) hx hb dX6_isPlace_14 (by decide) ?_
    exact W.zret hx hb hr (zb_nar zb0) (fun t ht _ => ⟨0, rfl, hw, ht⟩) t_nil dX6_isPlace_15
  · replace hw := hw.2 c1
    refine lv_iload_n hx hb dX6_isPlace_5 rfl (lv_at hl 0 rfl) ?_
    refine lv_iconst (v := 4) hx hb dX6_isPlace_6 (by decide) ?_
    refine lv_icmp_gt (tgt := 14) hx hb dX6_isPlace_7 (by decide) (fun c2 => ?_) (fun c2 => ?_)
    · replace hw := hw.1 c2
      refine lv_iconst (v := 0) hx hb dX6_isPlace_14 (by decide) ?_
      exact W.zret hx hb hr (zb_nar zb0) (fun t ht _ => ⟨0, rfl, hw, ht⟩) t_nil dX6_isPlace_15
    · replace hw := hw.2 c2
      refine lv_iconst (v := 1) hx hb dX6_isPlace_10 (by decide) ?_
      refine lv_goto (tgt := 15) hx hb dX6_isPlace_11 (by decide) ?_
      exact W.zret hx hb hr (zb_nar zb1) (fun t ht _ => ⟨1, rfl, hw, ht⟩) t_nil dX6_isPlace_15

def wp_X6_isIn (x1 : Int32) (x2 : Int32) (Q : Int32 → Prop) : Prop :=
  ((((x1 >>> (x2 &&& 31)) &&& 1) = 0 → Q 0) ∧ (¬ (((x1 >>> (x2 &&& 31)) &&& 1) = 0) → Q 1))
theorem hd_X6_isIn : yX6_isIn.cls ≠ "java/lang/invoke/MethodHandle" ∧ yX6_isIn.cls ≠ "java/lang/invoke/VarHandle" ∧ (parseMethodDescriptor yX6_isIn.desc).map (fun d => d.parameters.length) = some 2 := by decide +kernel
set_option maxHeartbeats 4000000 in
set_option maxRecDepth 100000 in
theorem m_X6_isIn (l : Launch) (g : GG) {ro : Ro} (hok : RoOK ro) {x1 : Int32} {x2 : Int32} {Q : Int32 → Prop} (hw : wp_X6_isIn x1 x2 Q) : Met l yX6_isIn wsX6_isIn ({ frames := 0, cells := 0, slots := 0, locals := 0 } : Room) (PcP g ro [] [.int x1, .int x2]) (vp_Si Q) 0 0 (fun _ => False) := by
  refine Met.ofW (cc := cX6_isIn) (maxL := 2) (ret := (some .boolean)) (by decide) rfl ?_
  intro p e s m args below meth c s₁ B hml hv
  obtain ⟨rfl, hP, hK, hro⟩ := hv
  have hx := B.exec
  have hb := B.bytes
  have hr := B.returns
  have hts := atoms_spec (ws := wsX6_isIn) B.pre
  have hown : s.vm.findClass RX6 = some m.cls := findClass_of_methodNamed B.named
  have hlocks := B.notSynchronized
  have hA : ∀ q : Nat, s.heap.size ≤ q → (fun q : Nat => s.heap.size ≤ q) q := fun _ h => h
  have hS : va_S (fun q : Nat => s.heap.size ≤ q) s.heap s.heap [] := va_S.rf
  have hP : PP g [] s.heap := hP
  have hl := lv_entry ([.int x1, .int x2]) (n := 2) (Nat.le_of_ble_eq_true rfl)
  rw [lg_entry_eq]
  generalize (lg_sl ([.int x1, .int x2]) ++ List.replicate (2 - (lg_sl ([.int x1, .int x2])).length) Slot.unset).toArray = ls at hl ⊢
  have hl : lv_has ls 2 [(0, .int x1), (1, .int x2)] := hl
  unfold wp_X6_isIn at hw
  refine lv_iload_n hx hb dX6_isIn_0 rfl (lv_at hl 0 rfl) ?_
  refine lv_iload_n hx hb dX6_isIn_1 rfl (lv_at hl 1 rfl) ?_
  refine lv_ishr hx hb dX6_isIn_2 ?_
  refine lv_iconst (v := 1) hx hb dX6_isIn_3 (by decide) ?_
  refine lv_iand hx hb dX6_isIn_4 ?_
  refine lv_if_eq (tgt := 12) hx hb dX6_isIn_5 (by decide) (fun c1 => ?_) (fun c1 => ?_)
  · replace hw := hw.1 c1
    refine lv_iconst (v := 0) hx hb dX6_isIn_12 (by decide) ?_
    exact W.zret hx hb hr (zb_nar zb0) (fun t ht _ => ⟨0, rfl, hw, ht⟩) t_nil dX6_isIn_13
  · replace hw := hw.2 c1
    refine lv_iconst (v := 1) hx hb dX6_isIn_8 (by decide) ?_
    refine lv_goto (tgt := 13) hx hb dX6_isIn_9 (by decide) ?_
    exact W.zret hx hb hr (zb_nar zb1) (fun t ht _ => ⟨1, rfl, hw, ht⟩) t_nil dX6_isIn_13
