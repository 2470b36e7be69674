def wp_X7_init_78 (Q : Nat → Nat → Nat → Nat → Nat → Nat → Nat → Nat → Int32 → (Nat → Int32) → (Nat → Int32) → (Nat → Int32) → (Nat → Int32) → (Nat → Int32) → (Nat → Int32) → (Nat → Int32) → (Nat → Int32) → Prop)   (l1 : Int32) (l2 : Int32) (n_orders : Nat → Int32) (q1 : Nat) (q2 : Nat) (q3 : Nat) (q4 : Nat) (q5 : Nat) (q6 : Nat) (q7 : Nat) (q8 : Nat) : Prop :=
  ∃ (I78 : Int32 → Int32 → (Nat → Int32) → Nat → Nat → Nat → Nat → Nat → Nat → Nat → Nat → Prop) (mu78 : Int32 → Int32 → (Nat → Int32) → Nat → Nat → Nat → Nat → Nat → Nat → Nat → Nat → Nat), I78 l1 l2 n_orders q1 q2 q3 q4 q5 q6 q7 q8 ∧ ∀ (l1 : Int32) (l2 : Int32) (n_orders : Nat → Int32) (q1 : Nat) (q2 : Nat) (q3 : Nat) (q4 : Nat) (q5 : Nat) (q6 : Nat) (q7 : Nat) (q8 : Nat), I78 l1 l2 n_orders q1 q2 q3 q4 q5 q6 q7 q8 → ((256 ≤ l2 → Q q1 q2 q3 q4 q5 q6 q7 q8 (-6) (fun _ => 0) (fun _ => 0) n_orders (fun _ => 0) (fun _ => 0) (fun _ => 0) (fun _ => 0) (fun _ => 0)) ∧ (¬ (256 ≤ l2) → ∀ w10 : Int32, w10 = (l2 / 64) → ∀ w11 : Int32, w11 = ((l2 / 16) - (l2 / 16) / 4 * 4) → ∀ w12 : Int32, w12 = ((l2 / 4) - (l2 / 4) / 4 * 4) → ∀ w13 : Int32, w13 = (l2 - l2 / 4 * 4) → ((w10 = w11 → (I78 l1 (l2 + 1) n_orders q1 q2 q3 q4 q5 q6 q7 q8 ∧ mu78 l1 (l2 + 1) n_orders q1 q2 q3 q4 q5 q6 q7 q8 < mu78 l1 l2 n_orders q1 q2 q3 q4 q5 q6 q7 q8)) ∧ (¬ (w10 = w11) → ((w10 = w12 → (I78 l1 (l2 + 1) n_orders q1 q2 q3 q4 q5 q6 q7 q8 ∧ mu78 l1 (l2 + 1) n_orders q1 q2 q3 q4 q5 q6 q7 q8 < mu78 l1 l2 n_orders q1 q2 q3 q4 q5 q6 q7 q8)) ∧ (¬ (w10 = w12) → ((w10 = w13 → (I78 l1 (l2 + 1) n_orders q1 q2 q3 q4 q5 q6 q7 q8 ∧ mu78 l1 (l2 + 1) n_orders q1 q2 q3 q4 q5 q6 q7 q8 < mu78 l1 l2 n_orders q1 q2 q3 q4 q5 q6 q7 q8)) ∧ (¬ (w10 = w13) → ((w11 = w12 → (I78 l1 (l2 + 1) n_orders q1 q2 q3 q4 q5 q6 q7 q8 ∧ mu78 l1 (l2 + 1) n_orders q1 q2 q3 q4 q5 q6 q7 q8 < mu78 l1 l2 n_orders q1 q2 q3 q4 q5 q6 q7 q8)) ∧ (¬ (w11 = w12) → ((w11 = w13 → (I78 l1 (l2 + 1) n_orders q1 q2 q3 q4 q5 q6 q7 q8 ∧ mu78 l1 (l2 + 1) n_orders q1 q2 q3 q4 q5 q6 q7 q8 < mu78 l1 l2 n_orders q1 q2 q3 q4 q5 q6 q7 q8)) ∧ (¬ (w11 = w13) → ((w12 = w13 → (I78 l1 (l2 + 1) n_orders q1 q2 q3 q4 q5 q6 q7 q8 ∧ mu78 l1 (l2 + 1) n_orders q1 q2 q3 q4 q5 q6 q7 q8 < mu78 l1 l2 n_orders q1 q2 q3 q4 q5 q6 q7 q8)) ∧ (¬ (w12 = w13) → (vp_in (4 * l1) 96 ∧ (vp_in ((4 * l1) + 1) 96 ∧ (vp_in ((4 * l1) + 2) 96 ∧ (vp_in ((4 * l1) + 3) 96 ∧ (I78 (l1 + 1) (l2 + 1) (upd (upd (upd (upd n_orders (4 * l1).toNatClampNeg (w10 + 1)) ((4 * l1) + 1).toNatClampNeg (w11 + 1)) ((4 * l1) + 2).toNatClampNeg (w12 + 1)) ((4 * l1) + 3).toNatClampNeg (w13 + 1)) q1 q2 q3 q4 q5 q6 q7 q8 ∧ mu78 (l1 + 1) (l2 + 1) (upd (upd (upd (upd n_orders (4 * l1).toNatClampNeg (w10 + 1)) ((4 * l1) + 1).toNatClampNeg (w11 + 1)) ((4 * l1) + 2).toNatClampNeg (w12 + 1)) ((4 * l1) + 3).toNatClampNeg (w13 + 1)) q1 q2 q3 q4 q5 q6 q7 q8 < mu78 l1 l2 n_orders q1 q2 q3 q4 q5 q6 q7 q8)))))))))))))))))))
def wp_X7_init  (Q : Nat → Nat → Nat → Nat → Nat → Nat → Nat → Nat → Int32 → (Nat → Int32) → (Nat → Int32) → (Nat → Int32) → (Nat → Int32) → (Nat → Int32) → (Nat → Int32) → (Nat → Int32) → (Nat → Int32) → Prop) : Prop :=
  ∀ q1 : Nat, ∀ q2 : Nat, ∀ q3 : Nat, ∀ q4 : Nat, ∀ q5 : Nat, ∀ q6 : Nat, ∀ q7 : Nat, ∀ q8 : Nat, wp_X7_init_78 Q   0 0 (fun _ => 0) q1 q2 q3 q4 q5 q6 q7 q8
theorem hd_X7_init : yX7_init.cls ≠ "java/lang/invoke/MethodHandle" ∧ yX7_init.cls ≠ "java/lang/invoke/VarHandle" ∧ (parseMethodDescriptor yX7_init.desc).map (fun d => d.parameters.length) = some 0 := by decide +kernel
set_option maxHeartbeats 4000000 in
set_option maxRecDepth 100000 in
theorem m_X7_init (l : Launch) (g : GG) {ro : Ro} (hok : RoOK ro) {h0 : Nat} {sz : Nat} {Q : Nat → Nat → Nat → Nat → Nat → Nat → Nat → Nat → Int32 → (Nat → Int32) → (Nat → Int32) → (Nat → Int32) → (Nat → Int32) → (Nat → Int32) → (Nat → Int32) → (Nat → Int32) → (Nat → Int32) → Prop} (hw : wp_X7_init  Q) : Met l yX7_init wsX7_init ({ frames := 1, cells := 8, slots := 578, locals := 20 } : Room) (PcM g ro [(h0, .inr (7, [.null, .int 0, .null, .int 0, .int 0, .null, .null, .int 0, .int 0, .int 0, .null, .null, .int 0, .null, .null]))] sz [.ref h0]) (va_Qv (fun (u : Nat × Nat × Nat × Nat × Nat × Nat × Nat × Nat × Int32 × (Nat → Int32) × (Nat → Int32) × (Nat → Int32) × (Nat → Int32) × (Nat → Int32) × (Nat → Int32) × (Nat → Int32) × (Nat → Int32)) => Q u.1 u.2.1 u.2.2.1 u.2.2.2.1 u.2.2.2.2.1 u.2.2.2.2.2.1 u.2.2.2.2.2.2.1 u.2.2.2.2.2.2.2.1 u.2.2.2.2.2.2.2.2.1 u.2.2.2.2.2.2.2.2.2.1 u.2.2.2.2.2.2.2.2.2.2.1 u.2.2.2.2.2.2.2.2.2.2.2.1 u.2.2.2.2.2.2.2.2.2.2.2.2.1 u.2.2.2.2.2.2.2.2.2.2.2.2.2.1 u.2.2.2.2.2.2.2.2.2.2.2.2.2.2.1 u.2.2.2.2.2.2.2.2.2.2.2.2.2.2.2.1 u.2.2.2.2.2.2.2.2.2.2.2.2.2.2.2.2) (BM g (fun u : Nat × Nat × Nat × Nat × Nat × Nat × Nat × Nat × Int32 × (Nat → Int32) × (Nat → Int32) × (Nat → Int32) × (Nat → Int32) × (Nat → Int32) × (Nat → Int32) × (Nat → Int32) × (Nat → Int32) => [(h0, .inr (7, [.ref u.1, .int 0, .ref u.2.1, .int 0, .int u.2.2.2.2.2.2.2.2.1, .ref u.2.2.1, .ref u.2.2.2.1, .int 0, .int 0, .int 0, .ref u.2.2.2.2.1, .ref u.2.2.2.2.2.1, .int 0, .ref u.2.2.2.2.2.2.1, .ref u.2.2.2.2.2.2.2.1])), (u.1, .inl (g.2.1, 60, .inl u.2.2.2.2.2.2.2.2.2.1)), (u.2.1, .inl (g.2.1, 10, .inl u.2.2.2.2.2.2.2.2.2.2.1)), (u.2.2.1, .inl (g.2.1, 96, .inl u.2.2.2.2.2.2.2.2.2.2.2.1)), (u.2.2.2.1, .inl (g.2.1, 16, .inl u.2.2.2.2.2.2.2.2.2.2.2.2.1)), (u.2.2.2.2.1, .inl (g.2.1, 16, .inl u.2.2.2.2.2.2.2.2.2.2.2.2.2.1)), (u.2.2.2.2.2.1, .inl (g.2.1, 256, .inl u.2.2.2.2.2.2.2.2.2.2.2.2.2.2.1)), (u.2.2.2.2.2.2.1, .inl (g.2.1, 122, .inl u.2.2.2.2.2.2.2.2.2.2.2.2.2.2.2.1)), (u.2.2.2.2.2.2.2.1, .inl (g.2.2.1, 2, .inl u.2.2.2.2.2.2.2.2.2.2.2.2.2.2.2.2))]) (va_A [(h0, .inr (7, [.null, .int 0, .null, .int 0, .int 0, .null, .null, .int 0, .int 0, .int 0, .null, .null, .int 0, .null, .null]))] sz)) (va_A [(h0, .inr (7, [.null, .int 0, .null, .int 0, .int 0, .null, .null, .int 0, .int 0, .int 0, .null, .null, .int 0, .null, .null]))] sz)) 8 578 (va_A [(h0, .inr (7, [.null, .int 0, .null, .int 0, .int 0, .null, .null, .int 0, .int 0, .int 0, .null, .null, .int 0, .null, .null]))] sz) := by
  refine Met.ofW (cc := cX7_init) (maxL := 7) (ret := none) (by decide) rfl ?_
  intro p e s m args below meth c s₁ B hml hv
  obtain ⟨rfl, hsz, hP, hK, hD0, hro⟩ := hv
  have hx := B.exec
  have hb := B.bytes
  have hr := B.returns
  have hts := atoms_spec (ws := wsX7_init) B.pre
  have hown : s.vm.findClass RX7 = some m.cls := findClass_of_methodNamed B.named
  have hlocks := B.notSynchronized
  have hin : meth.name = "<init>" := (name_of_methodNamed B.named B.method).1
  subst hsz
  have hD := hD0.self (sz := s.heap.size)
  generalize hAe : va_A [(h0, .inr (7, [.null, .int 0, .null, .int 0, .int 0, .null, .null, .int 0, .int 0, .int 0, .null, .null, .int 0, .null, .null]))] s.heap.size = A at hD hro ⊢
  have hA : ∀ q : Nat, s.heap.size ≤ q → A q := fun q h => by rw [← hAe]; exact Or.inr h
  have hS : va_S A s.heap s.heap [] := va_S.rf
  have hP : PP g [(h0, .inr (7, [.null, .int 0, .null, .int 0, .int 0, .null, .null, .int 0, .int 0, .int 0, .null, .null, .int 0, .null, .null]))] s.heap := hP
  have lk1 := hts (.methodLink RX7 1 objectInit) (by decide +kernel)
  have lk2 := hts (.instanceMethod objectInit) (by decide +kernel)
  have lk3 := hts (.code objectInit ⟨#[0xb1]⟩ 1 none) (by decide +kernel)
  have lk4 := hts (.arrayClass .int) (by decide +kernel)
  have lk5 := hts (.fieldLink RX7 7 "GridRiddlesModel" "clues" "[I") (by decide +kernel)
  have hinX7 : ∀ w ∈ u_ws RX7 TX7 15, w ∈ wsX7_init := by decide +kernel
  have lk7 := hts (.fieldLink RX7 13 "GridRiddlesModel" "text" "[I") (by decide +kernel)
  have lk8 := hts (.fieldLink RX7 16 "GridRiddlesModel" "fault" "I") (by decide +kernel)
  have lk9 := hts (.fieldLink RX7 20 "GridRiddlesModel" "orders" "[I") (by decide +kernel)
  have lk10 := hts (.fieldLink RX7 23 "GridRiddlesModel" "places" "[I") (by decide +kernel)
  have lk11 := hts (.fieldLink RX7 26 "GridRiddlesModel" "lefts" "[I") (by decide +kernel)
  have lk12 := hts (.fieldLink RX7 29 "GridRiddlesModel" "steps" "[I") (by decide +kernel)
  have lk13 := hts (.fieldLink RX7 32 "GridRiddlesModel" "image" "[I") (by decide +kernel)
  have lk14 := hts (.arrayClass .boolean) (by decide +kernel)
  have lk15 := hts (.fieldLink RX7 35 "GridRiddlesModel" "isKept" "[Z") (by decide +kernel)
  have B78 : ∀ (l1 : Int32) (l2 : Int32) (n_orders : Nat → Int32) (q1 : Nat) (q2 : Nat) (q3 : Nat) (q4 : Nat) (q5 : Nat) (q6 : Nat) (q7 : Nat) (q8 : Nat), wp_X7_init_78 Q   l1 l2 n_orders q1 q2 q3 q4 q5 q6 q7 q8 → ∀ (H : Heap) (locs : List Loc), PP g [(h0, .inr (7, [.ref q1, .int 0, .ref q2, .int 0, .int (-6), .ref q3, .ref q4, .int 0, .int 0, .int 0, .ref q5, .ref q6, .int 0, .ref q7, .ref q8])), (q1, .inl (g.2.1, 60, .inl (fun _ => 0))), (q2, .inl (g.2.1, 10, .inl (fun _ => 0))), (q3, .inl (g.2.1, 96, .inl n_orders)), (q4, .inl (g.2.1, 16, .inl (fun _ => 0))), (q5, .inl (g.2.1, 16, .inl (fun _ => 0))), (q6, .inl (g.2.1, 256, .inl (fun _ => 0))), (q7, .inl (g.2.1, 122, .inl (fun _ => 0))), (q8, .inl (g.2.2.1, 2, .inl (fun _ => 0)))] H → va_D A [(h0, .inr (7, [.ref q1, .int 0, .ref q2, .int 0, .int (-6), .ref q3, .ref q4, .int 0, .int 0, .int 0, .ref q5, .ref q6, .int 0, .ref q7, .ref q8])), (q1, .inl (g.2.1, 60, .inl (fun _ => 0))), (q2, .inl (g.2.1, 10, .inl (fun _ => 0))), (q3, .inl (g.2.1, 96, .inl n_orders)), (q4, .inl (g.2.1, 16, .inl (fun _ => 0))), (q5, .inl (g.2.1, 16, .inl (fun _ => 0))), (q6, .inl (g.2.1, 256, .inl (fun _ => 0))), (q7, .inl (g.2.1, 122, .inl (fun _ => 0))), (q8, .inl (g.2.2.1, 2, .inl (fun _ => 0)))] → va_S A s.heap H locs → ∀ (ls : Array Slot), lv_has ls 7 [(0, .ref h0), (1, .int l1), (2, .int l2)] → W p l e (headSpec wsX7_init ({ frames := 1, cells := 8, slots := 578, locals := 20 } : Room)).room s m ([.ref h0] : List Value).toArray below meth c H locs 8 578 (MQ below (va_Qv (fun (u : Nat × Nat × Nat × Nat × Nat × Nat × Nat × Nat × Int32 × (Nat → Int32) × (Nat → Int32) × (Nat → Int32) × (Nat → Int32) × (Nat → Int32) × (Nat → Int32) × (Nat → Int32) × (Nat → Int32)) => Q u.1 u.2.1 u.2.2.1 u.2.2.2.1 u.2.2.2.2.1 u.2.2.2.2.2.1 u.2.2.2.2.2.2.1 u.2.2.2.2.2.2.2.1 u.2.2.2.2.2.2.2.2.1 u.2.2.2.2.2.2.2.2.2.1 u.2.2.2.2.2.2.2.2.2.2.1 u.2.2.2.2.2.2.2.2.2.2.2.1 u.2.2.2.2.2.2.2.2.2.2.2.2.1 u.2.2.2.2.2.2.2.2.2.2.2.2.2.1 u.2.2.2.2.2.2.2.2.2.2.2.2.2.2.1 u.2.2.2.2.2.2.2.2.2.2.2.2.2.2.2.1 u.2.2.2.2.2.2.2.2.2.2.2.2.2.2.2.2) (BM g (fun u : Nat × Nat × Nat × Nat × Nat × Nat × Nat × Nat × Int32 × (Nat → Int32) × (Nat → Int32) × (Nat → Int32) × (Nat → Int32) × (Nat → Int32) × (Nat → Int32) × (Nat → Int32) × (Nat → Int32) => [(h0, .inr (7, [.ref u.1, .int 0, .ref u.2.1, .int 0, .int u.2.2.2.2.2.2.2.2.1, .ref u.2.2.1, .ref u.2.2.2.1, .int 0, .int 0, .int 0, .ref u.2.2.2.2.1, .ref u.2.2.2.2.2.1, .int 0, .ref u.2.2.2.2.2.2.1, .ref u.2.2.2.2.2.2.2.1])), (u.1, .inl (g.2.1, 60, .inl u.2.2.2.2.2.2.2.2.2.1)), (u.2.1, .inl (g.2.1, 10, .inl u.2.2.2.2.2.2.2.2.2.2.1)), (u.2.2.1, .inl (g.2.1, 96, .inl u.2.2.2.2.2.2.2.2.2.2.2.1)), (u.2.2.2.1, .inl (g.2.1, 16, .inl u.2.2.2.2.2.2.2.2.2.2.2.2.1)), (u.2.2.2.2.1, .inl (g.2.1, 16, .inl u.2.2.2.2.2.2.2.2.2.2.2.2.2.1)), (u.2.2.2.2.2.1, .inl (g.2.1, 256, .inl u.2.2.2.2.2.2.2.2.2.2.2.2.2.2.1)), (u.2.2.2.2.2.2.1, .inl (g.2.1, 122, .inl u.2.2.2.2.2.2.2.2.2.2.2.2.2.2.2.1)), (u.2.2.2.2.2.2.2.1, .inl (g.2.2.1, 2, .inl u.2.2.2.2.2.2.2.2.2.2.2.2.2.2.2.2))]) A) A) ([.ref h0] : List Value).toArray s 8 578 A) (F0 m 78 ls []) := by
    intro  l1 l2 n_orders q1 q2 q3 q4 q5 q6 q7 q8 hw
    obtain ⟨I78, mu78, hI, hstep⟩ := hw
    have key : ∀ (n : Nat) (l1 : Int32) (l2 : Int32) (n_orders : Nat → Int32) (q1 : Nat) (q2 : Nat) (q3 : Nat) (q4 : Nat) (q5 : Nat) (q6 : Nat) (q7 : Nat) (q8 : Nat), mu78 l1 l2 n_orders q1 q2 q3 q4 q5 q6 q7 q8 < n → I78 l1 l2 n_orders q1 q2 q3 q4 q5 q6 q7 q8 → ∀ (H : Heap) (locs : List Loc), PP g [(h0, .inr (7, [.ref q1, .int 0, .ref q2, .int 0, .int (-6), .ref q3, .ref q4, .int 0, .int 0, .int 0, .ref q5, .ref q6, .int 0, .ref q7, .ref q8])), (q1, .inl (g.2.1, 60, .inl (fun _ => 0))), (q2, .inl (g.2.1, 10, .inl (fun _ => 0))), (q3, .inl (g.2.1, 96, .inl n_orders)), (q4, .inl (g.2.1, 16, .inl (fun _ => 0))), (q5, .inl (g.2.1, 16, .inl (fun _ => 0))), (q6, .inl (g.2.1, 256, .inl (fun _ => 0))), (q7, .inl (g.2.1, 122, .inl (fun _ => 0))), (q8, .inl (g.2.2.1, 2, .inl (fun _ => 0)))] H → va_D A [(h0, .inr (7, [.ref q1, .int 0, .ref q2, .int 0, .int (-6), .ref q3, .ref q4, .int 0, .int 0, .int 0, .ref q5, .ref q6, .int 0, .ref q7, .ref q8])), (q1, .inl (g.2.1, 60, .inl (fun _ => 0))), (q2, .inl (g.2.1, 10, .inl (fun _ => 0))), (q3, .inl (g.2.1, 96, .inl n_orders)), (q4, .inl (g.2.1, 16, .inl (fun _ => 0))), (q5, .inl (g.2.1, 16, .inl (fun _ => 0))), (q6, .inl (g.2.1, 256, .inl (fun _ => 0))), (q7, .inl (g.2.1, 122, .inl (fun _ => 0))), (q8, .inl (g.2.2.1, 2, .inl (fun _ => 0)))] → va_S A s.heap H locs → ∀ (ls : Array Slot), lv_has ls 7 [(0, .ref h0), (1, .int l1), (2, .int l2)] → W p l e (headSpec wsX7_init ({ frames := 1, cells := 8, slots := 578, locals := 20 } : Room)).room s m ([.ref h0] : List Value).toArray below meth c H locs 8 578 (MQ below (va_Qv (fun (u : Nat × Nat × Nat × Nat × Nat × Nat × Nat × Nat × Int32 × (Nat → Int32) × (Nat → Int32) × (Nat → Int32) × (Nat → Int32) × (Nat → Int32) × (Nat → Int32) × (Nat → Int32) × (Nat → Int32)) => Q u.1 u.2.1 u.2.2.1 u.2.2.2.1 u.2.2.2.2.1 u.2.2.2.2.2.1 u.2.2.2.2.2.2.1 u.2.2.2.2.2.2.2.1 u.2.2.2.2.2.2.2.2.1 u.2.2.2.2.2.2.2.2.2.1 u.2.2.2.2.2.2.2.2.2.2.1 u.2.2.2.2.2.2.2.2.2.2.2.1 u.2.2.2.2.2.2.2.2.2.2.2.2.1 u.2.2.2.2.2.2.2.2.2.2.2.2.2.1 u.2.2.2.2.2.2.2.2.2.2.2.2.2.2.1 u.2.2.2.2.2.2.2.2.2.2.2.2.2.2.2.1 u.2.2.2.2.2.2.2.2.2.2.2.2.2.2.2.2) (BM g (fun u : Nat × Nat × Nat × Nat × Nat × Nat × Nat × Nat × Int32 × (Nat → Int32) × (Nat → Int32) × (Nat → Int32) × (Nat → Int32) × (Nat → Int32) × (Nat → Int32) × (Nat → Int32) × (Nat → Int32) => [(h0, .inr (7, [.ref u.1, .int 0, .ref u.2.1, .int 0, .int u.2.2.2.2.2.2.2.2.1, .ref u.2.2.1, .ref u.2.2.2.1, .int 0, .int 0, .int 0, .ref u.2.2.2.2.1, .ref u.2.2.2.2.2.1, .int 0, .ref u.2.2.2.2.2.2.1, .ref u.2.2.2.2.2.2.2.1])), (u.1, .inl (g.2.1, 60, .inl u.2.2.2.2.2.2.2.2.2.1)), (u.2.1, .inl (g.2.1, 10, .inl u.2.2.2.2.2.2.2.2.2.2.1)), (u.2.2.1, .inl (g.2.1, 96, .inl u.2.2.2.2.2.2.2.2.2.2.2.1)), (u.2.2.2.1, .inl (g.2.1, 16, .inl u.2.2.2.2.2.2.2.2.2.2.2.2.1)), (u.2.2.2.2.1, .inl (g.2.1, 16, .inl u.2.2.2.2.2.2.2.2.2.2.2.2.2.1)), (u.2.2.2.2.2.1, .inl (g.2.1, 256, .inl u.2.2.2.2.2.2.2.2.2.2.2.2.2.2.1)), (u.2.2.2.2.2.2.1, .inl (g.2.1, 122, .inl u.2.2.2.2.2.2.2.2.2.2.2.2.2.2.2.1)), (u.2.2.2.2.2.2.2.1, .inl (g.2.2.1, 2, .inl u.2.2.2.2.2.2.2.2.2.2.2.2.2.2.2.2))]) A) A) ([.ref h0] : List Value).toArray s 8 578 A) (F0 m 78 ls []) := by
      intro n
      induction n with
      | zero => intro l1 l2 n_orders q1 q2 q3 q4 q5 q6 q7 q8 h; exact absurd h (Nat.not_lt_zero _)
      | succ n ih =>
          intro l1 l2 n_orders q1 q2 q3 q4 q5 q6 q7 q8 hn hI  H locs hP hD hS ls hl
          have hw := hstep l1 l2 n_orders q1 q2 q3 q4 q5 q6 q7 q8 hI
          have hK78 : ∀ (l1' : Int32) (l2' : Int32) (n_orders' : Nat → Int32) (q1' : Nat) (q2' : Nat) (q3' : Nat) (q4' : Nat) (q5' : Nat) (q6' : Nat) (q7' : Nat) (q8' : Nat), (I78 l1' l2' n_orders' q1' q2' q3' q4' q5' q6' q7' q8' ∧ mu78 l1' l2' n_orders' q1' q2' q3' q4' q5' q6' q7' q8' < mu78 l1 l2 n_orders q1 q2 q3 q4 q5 q6 q7 q8) → ∀ (H : Heap) (locs : List Loc), PP g [(h0, .inr (7, [.ref q1', .int 0, .ref q2', .int 0, .int (-6), .ref q3', .ref q4', .int 0, .int 0, .int 0, .ref q5', .ref q6', .int 0, .ref q7', .ref q8'])), (q1', .inl (g.2.1, 60, .inl (fun _ => 0))), (q2', .inl (g.2.1, 10, .inl (fun _ => 0))), (q3', .inl (g.2.1, 96, .inl n_orders')), (q4', .inl (g.2.1, 16, .inl (fun _ => 0))), (q5', .inl (g.2.1, 16, .inl (fun _ => 0))), (q6', .inl (g.2.1, 256, .inl (fun _ => 0))), (q7', .inl (g.2.1, 122, .inl (fun _ => 0))), (q8', .inl (g.2.2.1, 2, .inl (fun _ => 0)))] H → va_D A [(h0, .inr (7, [.ref q1', .int 0, .ref q2', .int 0, .int (-6), .ref q3', .ref q4', .int 0, .int 0, .int 0, .ref q5', .ref q6', .int 0, .ref q7', .ref q8'])), (q1', .inl (g.2.1, 60, .inl (fun _ => 0))), (q2', .inl (g.2.1, 10, .inl (fun _ => 0))), (q3', .inl (g.2.1, 96, .inl n_orders')), (q4', .inl (g.2.1, 16, .inl (fun _ => 0))), (q5', .inl (g.2.1, 16, .inl (fun _ => 0))), (q6', .inl (g.2.1, 256, .inl (fun _ => 0))), (q7', .inl (g.2.1, 122, .inl (fun _ => 0))), (q8', .inl (g.2.2.1, 2, .inl (fun _ => 0)))] → va_S A s.heap H locs → ∀ (ls : Array Slot), lv_has ls 7 [(0, .ref h0), (1, .int l1'), (2, .int l2')] → W p l e (headSpec wsX7_init ({ frames := 1, cells := 8, slots := 578, locals := 20 } : Room)).room s m ([.ref h0] : List Value).toArray below meth c H locs 8 578 (MQ below (va_Qv (fun (u : Nat × Nat × Nat × Nat × Nat × Nat × Nat × Nat × Int32 × (Nat → Int32) × (Nat → Int32) × (Nat → Int32) × (Nat → Int32) × (Nat → Int32) × (Nat → Int32) × (Nat → Int32) × (Nat → Int32)) => Q u.1 u.2.1 u.2.2.1 u.2.2.2.1 u.2.2.2.2.1 u.2.2.2.2.2.1 u.2.2.2.2.2.2.1 u.2.2.2.2.2.2.2.1 u.2.2.2.2.2.2.2.2.1 u.2.2.2.2.2.2.2.2.2.1 u.2.2.2.2.2.2.2.2.2.2.1 u.2.2.2.2.2.2.2.2.2.2.2.1 u.2.2.2.2.2.2.2.2.2.2.2.2.1 u.2.2.2.2.2.2.2.2.2.2.2.2.2.1 u.2.2.2.2.2.2.2.2.2.2.2.2.2.2.1 u.2.2.2.2.2.2.2.2.2.2.2.2.2.2.2.1 u.2.2.2.2.2.2.2.2.2.2.2.2.2.2.2.2) (BM g (fun u : Nat × Nat × Nat × Nat × Nat × Nat × Nat × Nat × Int32 × (Nat → Int32) × (Nat → Int32) × (Nat → Int32) × (Nat → Int32) × (Nat → Int32) × (Nat → Int32) × (Nat → Int32) × (Nat → Int32) => [(h0, .inr (7, [.ref u.1, .int 0, .ref u.2.1, .int 0, .int u.2.2.2.2.2.2.2.2.1, .ref u.2.2.1, .ref u.2.2.2.1, .int 0, .int 0, .int 0, .ref u.2.2.2.2.1, .ref u.2.2.2.2.2.1, .int 0, .ref u.2.2.2.2.2.2.1, .ref u.2.2.2.2.2.2.2.1])), (u.1, .inl (g.2.1, 60, .inl u.2.2.2.2.2.2.2.2.2.1)), (u.2.1, .inl (g.2.1, 10, .inl u.2.2.2.2.2.2.2.2.2.2.1)), (u.2.2.1, .inl (g.2.1, 96, .inl u.2.2.2.2.2.2.2.2.2.2.2.1)), (u.2.2.2.1, .inl (g.2.1, 16, .inl u.2.2.2.2.2.2.2.2.2.2.2.2.1)), (u.2.2.2.2.1, .inl (g.2.1, 16, .inl u.2.2.2.2.2.2.2.2.2.2.2.2.2.1)), (u.2.2.2.2.2.1, .inl (g.2.1, 256, .inl u.2.2.2.2.2.2.2.2.2.2.2.2.2.2.1)), (u.2.2.2.2.2.2.1, .inl (g.2.1, 122, .inl u.2.2.2.2.2.2.2.2.2.2.2.2.2.2.2.1)), (u.2.2.2.2.2.2.2.1, .inl (g.2.2.1, 2, .inl u.2.2.2.2.2.2.2.2.2.2.2.2.2.2.2.2))]) A) A) ([.ref h0] : List Value).toArray s 8 578 A) (F0 m 78 ls []) := fun l1' l2' n_orders' q1' q2' q3' q4' q5' q6' q7' q8' h => ih l1' l2' n_orders' q1' q2' q3' q4' q5' q6' q7' q8' (Nat.lt_of_lt_of_le h.2 (Nat.le_of_lt_succ hn)) h.1
          refine lv_iload_n hx hb dX7_init_78 rfl (lv_at hl 2 rfl) ?_
          refine lv_sipush (v := 256) hx hb dX7_init_79 (by decide) ?_
          refine lv_icmp_ge (tgt := 211) hx hb dX7_init_82 (by decide) (fun c9 => ?_) (fun c9 => ?_)
          · replace hw := hw.1 c9
            exact W.vret hx hb hr (fun t ht hW => ⟨⟨(q1, q2, q3, q4, q5, q6, q7, q8, (-6), (fun _ => 0), (fun _ => 0), n_orders, (fun _ => 0), (fun _ => 0), (fun _ => 0), (fun _ => 0), (fun _ => 0)), rfl, hw, by rw [ht]; exact hP, va_K.moved hW.alike hK, hD⟩, hS.F ht⟩) hS.2.2 dX7_init_211
          · replace hw := hw.2 c9
            refine lv_iload_n hx hb dX7_init_85 rfl (lv_at hl 2 rfl) ?_
            refine lv_bipush (v := 64) hx hb dX7_init_86 (by decide) ?_
            refine lv_idiv hx hb dX7_init_88 (by decide) ?_
            refine lv_topi (fun w10 ew10 => ?_)
            have hw := hw w10 ew10
            refine lv_istore_n (lv' := [(3, .int w10), (0, .ref h0), (1, .int l1), (2, .int l2)]) hx hb dX7_init_89 rfl hl (by decide) rfl (fun ls hl => ?_)
            refine lv_iload_n hx hb dX7_init_90 rfl (lv_at hl 3 rfl) ?_
            refine lv_bipush (v := 16) hx hb dX7_init_91 (by decide) ?_
            refine lv_idiv hx hb dX7_init_93 (by decide) ?_
            refine lv_iconst (v := 4) hx hb dX7_init_94 (by decide) ?_
            refine lv_irem hx hb dX7_init_95 (by decide) ?_
            refine lv_topi (fun w11 ew11 => ?_)
            have hw := hw w11 ew11
            refine lv_istore (lv' := [(4, .int w11), (3, .int w10), (0, .ref h0), (1, .int l1), (2, .int l2)]) hx hb dX7_init_96 hl (by decide) rfl (fun ls hl => ?_)
            refine lv_iload_n hx hb dX7_init_98 rfl (lv_at hl 4 rfl) ?_
            refine lv_iconst (v := 4) hx hb dX7_init_99 (by decide) ?_
            refine lv_idiv hx hb dX7_init_100 (by decide) ?_
            refine lv_iconst (v := 4) hx hb dX7_init_101 (by decide) ?_
            refine lv_irem hx hb dX7_init_102 (by decide) ?_
            refine lv_topi (fun w12 ew12 => ?_)
            have hw := hw w12 ew12
            refine lv_istore (lv' := [(5, .int w12), (4, .int w11), (3, .int w10), (0, .ref h0), (1, .int l1), (2, .int l2)]) hx hb dX7_init_103 hl (by decide) rfl (fun ls hl => ?_)
            refine lv_iload_n hx hb dX7_init_105 rfl (lv_at hl 5 rfl) ?_
            refine lv_iconst (v := 4) hx hb dX7_init_106 (by decide) ?_
            refine lv_irem hx hb dX7_init_107 (by decide) ?_
            refine lv_topi (fun w13 ew13 => ?_)
            have hw := hw w13 ew13
            refine lv_istore (lv' := [(6, .int w13), (5, .int w12), (4, .int w11), (3, .int w10), (0, .ref h0), (1, .int l1), (2, .int l2)]) hx hb dX7_init_108 hl (by decide) rfl (fun ls hl => ?_)
            refine lv_iload_n hx hb dX7_init_110 rfl (lv_at hl 3 rfl) ?_
            refine lv_iload hx hb dX7_init_111 (lv_at hl 2 rfl) ?_
            refine lv_icmp_eq (tgt := 205) hx hb dX7_init_113 (by decide) (fun c14 => ?_) (fun c14 => ?_)
            · replace hw := hw.1 c14
              refine lv_iinc (v := (l2 + 1)) (lv' := [(2, .int (l2 + 1)), (6, .int w13), (5, .int w12), (4, .int w11), (3, .int w10), (0, .ref h0), (1, .int l1)]) hx hb dX7_init_205 hl (k := 6) rfl rfl (by decide) rfl (fun ls hl => ?_)
              refine lv_goto (tgt := 78) hx hb dX7_init_208 (by decide) ?_
              exact hK78 l1 (l2 + 1) n_orders q1 q2 q3 q4 q5 q6 q7 q8 hw  _ _ hP hD hS ls (lv_sub hl [5, 6, 0] rfl)
            · replace hw := hw.2 c14
              refine lv_iload_n hx hb dX7_init_116 rfl (lv_at hl 3 rfl) ?_
              refine lv_iload hx hb dX7_init_117 (lv_at hl 1 rfl) ?_
              refine lv_icmp_eq (tgt := 205) hx hb dX7_init_119 (by decide) (fun c15 => ?_) (fun c15 => ?_)
              · replace hw := hw.1 c15
                refine lv_iinc (v := (l2 + 1)) (lv' := [(2, .int (l2 + 1)), (6, .int w13), (5, .int w12), (4, .int w11), (3, .int w10), (0, .ref h0), (1, .int l1)]) hx hb dX7_init_205 hl (k := 6) rfl rfl (by decide) rfl (fun ls hl => ?_)
                refine lv_goto (tgt := 78) hx hb dX7_init_208 (by decide) ?_
                exact hK78 l1 (l2 + 1) n_orders q1 q2 q3 q4 q5 q6 q7 q8 hw  _ _ hP hD hS ls (lv_sub hl [5, 6, 0] rfl)
              · replace hw := hw.2 c15
                refine lv_iload_n hx hb dX7_init_122 rfl (lv_at hl 3 rfl) ?_
                refine lv_iload hx hb dX7_init_123 (lv_at hl 0 rfl) ?_
                refine lv_icmp_eq (tgt := 205) hx hb dX7_init_125 (by decide) (fun c16 => ?_) (fun c16 => ?_)
                · replace hw := hw.1 c16
                  refine lv_iinc (v := (l2 + 1)) (lv' := [(2, .int (l2 + 1)), (6, .int w13), (5, .int w12), (4, .int w11), (3, .int w10), (0, .ref h0), (1, .int l1)]) hx hb dX7_init_205 hl (k := 6) rfl rfl (by decide) rfl (fun ls hl => ?_)
                  refine lv_goto (tgt := 78) hx hb dX7_init_208 (by decide) ?_
                  exact hK78 l1 (l2 + 1) n_orders q1 q2 q3 q4 q5 q6 q7 q8 hw  _ _ hP hD hS ls (lv_sub hl [5, 6, 0] rfl)
                · replace hw := hw.2 c16
                  refine lv_iload hx hb dX7_init_128 (lv_at hl 2 rfl) ?_
                  refine lv_iload hx hb dX7_init_130 (lv_at hl 1 rfl) ?_
                  refine lv_icmp_eq (tgt := 205) hx hb dX7_init_132 (by decide) (fun c17 => ?_) (fun c17 => ?_)
                  · replace hw := hw.1 c17
                    refine lv_iinc (v := (l2 + 1)) (lv' := [(2, .int (l2 + 1)), (6, .int w13), (5, .int w12), (4, .int w11), (3, .int w10), (0, .ref h0), (1, .int l1)]) hx hb dX7_init_205 hl (k := 6) rfl rfl (by decide) rfl (fun ls hl => ?_)
                    refine lv_goto (tgt := 78) hx hb dX7_init_208 (by decide) ?_
                    exact hK78 l1 (l2 + 1) n_orders q1 q2 q3 q4 q5 q6 q7 q8 hw  _ _ hP hD hS ls (lv_sub hl [5, 6, 0] rfl)
                  · replace hw := hw.2 c17
                    refine lv_iload hx hb dX7_init_135 (lv_at hl 2 rfl) ?_
                    refine lv_iload hx hb dX7_init_137 (lv_at hl 0 rfl) ?_
                    refine lv_icmp_eq (tgt := 205) hx hb dX7_init_139 (by decide) (fun c18 => ?_) (fun c18 => ?_)
                    · replace hw := hw.1 c18
                      refine lv_iinc (v := (l2 + 1)) (lv' := [(2, .int (l2 + 1)), (6, .int w13), (5, .int w12), (4, .int w11), (3, .int w10), (0, .ref h0), (1, .int l1)]) hx hb dX7_init_205 hl (k := 6) rfl rfl (by decide) rfl (fun ls hl => ?_)
                      refine lv_goto (tgt := 78) hx hb dX7_init_208 (by decide) ?_
                      exact hK78 l1 (l2 + 1) n_orders q1 q2 q3 q4 q5 q6 q7 q8 hw  _ _ hP hD hS ls (lv_sub hl [5, 6, 0] rfl)
                    · replace hw := hw.2 c18
                      refine lv_iload hx hb dX7_init_142 (lv_at hl 1 rfl) ?_
                      refine lv_iload hx hb dX7_init_144 (lv_at hl 0 rfl) ?_
                      refine lv_icmp_eq (tgt := 205) hx hb dX7_init_146 (by decide) (fun c19 => ?_) (fun c19 => ?_)
                      · replace hw := hw.1 c19
                        refine lv_iinc (v := (l2 + 1)) (lv' := [(2, .int (l2 + 1)), (6, .int w13), (5, .int w12), (4, .int w11), (3, .int w10), (0, .ref h0), (1, .int l1)]) hx hb dX7_init_205 hl (k := 6) rfl rfl (by decide) rfl (fun ls hl => ?_)
                        refine lv_goto (tgt := 78) hx hb dX7_init_208 (by decide) ?_
                        exact hK78 l1 (l2 + 1) n_orders q1 q2 q3 q4 q5 q6 q7 q8 hw  _ _ hP hD hS ls (lv_sub hl [5, 6, 0] rfl)
                      · replace hw := hw.2 c19
                        refine lv_aload_n hx hb dX7_init_149 rfl (lv_at hl 4 rfl) ?_
                        refine va_get (D := g.1) (ci := 7) (v := .ref q3) (C := RX7) (T := TX7) (N := 15) hx hb hts hinX7 hown hK hP 0 rfl rfl 5 (by decide) lk9 (fun _ h9 => h9) rfl dX7_init_150 ?_
                        refine lv_iconst (v := 4) hx hb dX7_init_153 (by decide) ?_
                        refine lv_iload_n hx hb dX7_init_154 rfl (lv_at hl 5 rfl) ?_
                        refine lv_imul hx hb dX7_init_155 ?_
                        refine lv_iload_n hx hb dX7_init_156 rfl (lv_at hl 3 rfl) ?_
                        refine lv_iconst (v := 1) hx hb dX7_init_157 (by decide) ?_
                        refine lv_iadd hx hb dX7_init_158 ?_
                        obtain ⟨hi, hw⟩ := hw
                        refine va_iast hx hb hK hP hD hS 3 0 rfl rfl hi dX7_init_159 (fun H locs hP hD hS => ?_)
                        have hP : PP g [(h0, .inr (7, [.ref q1, .int 0, .ref q2, .int 0, .int (-6), .ref q3, .ref q4, .int 0, .int 0, .int 0, .ref q5, .ref q6, .int 0, .ref q7, .ref q8])), (q1, .inl (g.2.1, 60, .inl (fun _ => 0))), (q2, .inl (g.2.1, 10, .inl (fun _ => 0))), (q3, .inl (g.2.1, 96, .inl (upd n_orders (4 * l1).toNatClampNeg (w10 + 1)))), (q4, .inl (g.2.1, 16, .inl (fun _ => 0))), (q5, .inl (g.2.1, 16, .inl (fun _ => 0))), (q6, .inl (g.2.1, 256, .inl (fun _ => 0))), (q7, .inl (g.2.1, 122, .inl (fun _ => 0))), (q8, .inl (g.2.2.1, 2, .inl (fun _ => 0)))] H := hP
                        have hD : va_D A [(h0, .inr (7, [.ref q1, .int 0, .ref q2, .int 0, .int (-6), .ref q3, .ref q4, .int 0, .int 0, .int 0, .ref q5, .ref q6, .int 0, .ref q7, .ref q8])), (q1, .inl (g.2.1, 60, .inl (fun _ => 0))), (q2, .inl (g.2.1, 10, .inl (fun _ => 0))), (q3, .inl (g.2.1, 96, .inl (upd n_orders (4 * l1).toNatClampNeg (w10 + 1)))), (q4, .inl (g.2.1, 16, .inl (fun _ => 0))), (q5, .inl (g.2.1, 16, .inl (fun _ => 0))), (q6, .inl (g.2.1, 256, .inl (fun _ => 0))), (q7, .inl (g.2.1, 122, .inl (fun _ => 0))), (q8, .inl (g.2.2.1, 2, .inl (fun _ => 0)))] := hD
                        refine lv_aload_n hx hb dX7_init_160 rfl (lv_at hl 4 rfl) ?_
                        refine va_get (D := g.1) (ci := 7) (v := .ref q3) (C := RX7) (T := TX7) (N := 15) hx hb hts hinX7 hown hK hP 0 rfl rfl 5 (by decide) lk9 (fun _ h9 => h9) rfl dX7_init_161 ?_
                        refine lv_iconst (v := 4) hx hb dX7_init_164 (by decide) ?_
                        refine lv_iload_n hx hb dX7_init_165 rfl (lv_at hl 5 rfl) ?_
                        refine lv_imul hx hb dX7_init_166 ?_
                        refine lv_iconst (v := 1) hx hb dX7_init_167 (by decide) ?_
                        refine lv_iadd hx hb dX7_init_168 ?_
                        refine lv_iload hx hb dX7_init_169 (lv_at hl 2 rfl) ?_
                        refine lv_iconst (v := 1) hx hb dX7_init_171 (by decide) ?_
                        refine lv_iadd hx hb dX7_init_172 ?_
                        obtain ⟨hi, hw⟩ := hw
                        refine va_iast hx hb hK hP hD hS 3 0 rfl rfl hi dX7_init_173 (fun H locs hP hD hS => ?_)
                        have hP : PP g [(h0, .inr (7, [.ref q1, .int 0, .ref q2, .int 0, .int (-6), .ref q3, .ref q4, .int 0, .int 0, .int 0, .ref q5, .ref q6, .int 0, .ref q7, .ref q8])), (q1, .inl (g.2.1, 60, .inl (fun _ => 0))), (q2, .inl (g.2.1, 10, .inl (fun _ => 0))), (q3, .inl (g.2.1, 96, .inl (upd (upd n_orders (4 * l1).toNatClampNeg (w10 + 1)) ((4 * l1) + 1).toNatClampNeg (w11 + 1)))), (q4, .inl (g.2.1, 16, .inl (fun _ => 0))), (q5, .inl (g.2.1, 16, .inl (fun _ => 0))), (q6, .inl (g.2.1, 256, .inl (fun _ => 0))), (q7, .inl (g.2.1, 122, .inl (fun _ => 0))), (q8, .inl (g.2.2.1, 2, .inl (fun _ => 0)))] H := hP
                        have hD : va_D A [(h0, .inr (7, [.ref q1, .int 0, .ref q2, .int 0, .int (-6), .ref q3, .ref q4, .int 0, .int 0, .int 0, .ref q5, .ref q6, .int 0, .ref q7, .ref q8])), (q1, .inl (g.2.1, 60, .inl (fun _ => 0))), (q2, .inl (g.2.1, 10, .inl (fun _ => 0))), (q3, .inl (g.2.1, 96, .inl (upd (upd n_orders (4 * l1).toNatClampNeg (w10 + 1)) ((4 * l1) + 1).toNatClampNeg (w11 + 1)))), (q4, .inl (g.2.1, 16, .inl (fun _ => 0))), (q5, .inl (g.2.1, 16, .inl (fun _ => 0))), (q6, .inl (g.2.1, 256, .inl (fun _ => 0))), (q7, .inl (g.2.1, 122, .inl (fun _ => 0))), (q8, .inl (g.2.2.1, 2, .inl (fun _ => 0)))] := hD
                        refine lv_aload_n hx hb dX7_init_174 rfl (lv_at hl 4 rfl) ?_
                        refine va_get (D := g.1) (ci := 7) (v := .ref q3) (C := RX7) (T := TX7) (N := 15) hx hb hts hinX7 hown hK hP 0 rfl rfl 5 (by decide) lk9 (fun _ h9 => h9) rfl dX7_init_175 ?_
                        refine lv_iconst (v := 4) hx hb dX7_init_178 (by decide) ?_
                        refine lv_iload_n hx hb dX7_init_179 rfl (lv_at hl 5 rfl) ?_
                        refine lv_imul hx hb dX7_init_180 ?_
                        refine lv_iconst (v := 2) hx hb dX7_init_181 (by decide) ?_
                        refine lv_iadd hx hb dX7_init_182 ?_
                        refine lv_iload hx hb dX7_init_183 (lv_at hl 1 rfl) ?_
                        refine lv_iconst (v := 1) hx hb dX7_init_185 (by decide) ?_
                        refine lv_iadd hx hb dX7_init_186 ?_
                        obtain ⟨hi, hw⟩ := hw
                        refine va_iast hx hb hK hP hD hS 3 0 rfl rfl hi dX7_init_187 (fun H locs hP hD hS => ?_)
                        have hP : PP g [(h0, .inr (7, [.ref q1, .int 0, .ref q2, .int 0, .int (-6), .ref q3, .ref q4, .int 0, .int 0, .int 0, .ref q5, .ref q6, .int 0, .ref q7, .ref q8])), (q1, .inl (g.2.1, 60, .inl (fun _ => 0))), (q2, .inl (g.2.1, 10, .inl (fun _ => 0))), (q3, .inl (g.2.1, 96, .inl (upd (upd (upd n_orders (4 * l1).toNatClampNeg (w10 + 1)) ((4 * l1) + 1).toNatClampNeg (w11 + 1)) ((4 * l1) + 2).toNatClampNeg (w12 + 1)))), (q4, .inl (g.2.1, 16, .inl (fun _ => 0))), (q5, .inl (g.2.1, 16, .inl (fun _ => 0))), (q6, .inl (g.2.1, 256, .inl (fun _ => 0))), (q7, .inl (g.2.1, 122, .inl (fun _ => 0))), (q8, .inl (g.2.2.1, 2, .inl (fun _ => 0)))] H := hP
                        have hD : va_D A [(h0, .inr (7, [.ref q1, .int 0, .ref q2, .int 0, .int (-6), .ref q3, .ref q4, .int 0, .int 0, .int 0, .ref q5, .ref q6, .int 0, .ref q7, .ref q8])), (q1, .inl (g.2.1, 60, .inl (fun _ => 0))), (q2, .inl (g.2.1, 10, .inl (fun _ => 0))), (q3, .inl (g.2.1, 96, .inl (upd (upd (upd n_orders (4 * l1).toNatClampNeg (w10 + 1)) ((4 * l1) + 1).toNatClampNeg (w11 + 1)) ((4 * l1) + 2).toNatClampNeg (w12 + 1)))), (q4, .inl (g.2.1, 16, .inl (fun _ => 0))), (q5, .inl (g.2.1, 16, .inl (fun _ => 0))), (q6, .inl (g.2.1, 256, .inl (fun _ => 0))), (q7, .inl (g.2.1, 122, .inl (fun _ => 0))), (q8, .inl (g.2.2.1, 2, .inl (fun _ => 0)))] := hD
                        refine lv_aload_n hx hb dX7_init_188 rfl (lv_at hl 4 rfl) ?_
                        refine va_get (D := g.1) (ci := 7) (v := .ref q3) (C := RX7) (T := TX7) (N := 15) hx hb hts hinX7 hown hK hP 0 rfl rfl 5 (by decide) lk9 (fun _ h9 => h9) rfl dX7_init_189 ?_
                        refine lv_iconst (v := 4) hx hb dX7_init_192 (by decide) ?_
                        refine lv_iload_n hx hb dX7_init_193 rfl (lv_at hl 5 rfl) ?_
                        refine lv_imul hx hb dX7_init_194 ?_
                        refine lv_iconst (v := 3) hx hb dX7_init_195 (by decide) ?_
                        refine lv_iadd hx hb dX7_init_196 ?_
                        refine lv_iload hx hb dX7_init_197 (lv_at hl 0 rfl) ?_
                        refine lv_iconst (v := 1) hx hb dX7_init_199 (by decide) ?_
                        refine lv_iadd hx hb dX7_init_200 ?_
                        obtain ⟨hi, hw⟩ := hw
                        refine va_iast hx hb hK hP hD hS 3 0 rfl rfl hi dX7_init_201 (fun H locs hP hD hS => ?_)
                        have hP : PP g [(h0, .inr (7, [.ref q1, .int 0, .ref q2, .int 0, .int (-6), .ref q3, .ref q4, .int 0, .int 0, .int 0, .ref q5, .ref q6, .int 0, .ref q7, .ref q8])), (q1, .inl (g.2.1, 60, .inl (fun _ => 0))), (q2, .inl (g.2.1, 10, .inl (fun _ => 0))), (q3, .inl (g.2.1, 96, .inl (upd (upd (upd (upd n_orders (4 * l1).toNatClampNeg (w10 + 1)) ((4 * l1) + 1).toNatClampNeg (w11 + 1)) ((4 * l1) + 2).toNatClampNeg (w12 + 1)) ((4 * l1) + 3).toNatClampNeg (w13 + 1)))), (q4, .inl (g.2.1, 16, .inl (fun _ => 0))), (q5, .inl (g.2.1, 16, .inl (fun _ => 0))), (q6, .inl (g.2.1, 256, .inl (fun _ => 0))), (q7, .inl (g.2.1, 122, .inl (fun _ => 0))), (q8, .inl (g.2.2.1, 2, .inl (fun _ => 0)))] H := hP
                        have hD : va_D A [(h0, .inr (7, [.ref q1, .int 0, .ref q2, .int 0, .int (-6), .ref q3, .ref q4, .int 0, .int 0, .int 0, .ref q5, .ref q6, .int 0, .ref q7, .ref q8])), (q1, .inl (g.2.1, 60, .inl (fun _ => 0))), (q2, .inl (g.2.1, 10, .inl (fun _ => 0))), (q3, .inl (g.2.1, 96, .inl (upd (upd (upd (upd n_orders (4 * l1).toNatClampNeg (w10 + 1)) ((4 * l1) + 1).toNatClampNeg (w11 + 1)) ((4 * l1) + 2).toNatClampNeg (w12 + 1)) ((4 * l1) + 3).toNatClampNeg (w13 + 1)))), (q4, .inl (g.2.1, 16, .inl (fun _ => 0))), (q5, .inl (g.2.1, 16, .inl (fun _ => 0))), (q6, .inl (g.2.1, 256, .inl (fun _ => 0))), (q7, .inl (g.2.1, 122, .inl (fun _ => 0))), (q8, .inl (g.2.2.1, 2, .inl (fun _ => 0)))] := hD
                        refine lv_iinc (v := (l1 + 1)) (lv' := [(1, .int (l1 + 1)), (6, .int w13), (5, .int w12), (4, .int w11), (3, .int w10), (0, .ref h0), (2, .int l2)]) hx hb dX7_init_202 hl (k := 5) rfl rfl (by decide) rfl (fun ls hl => ?_)
                        refine lv_iinc (v := (l2 + 1)) (lv' := [(2, .int (l2 + 1)), (1, .int (l1 + 1)), (6, .int w13), (5, .int w12), (4, .int w11), (3, .int w10), (0, .ref h0)]) hx hb dX7_init_205 hl (k := 6) rfl rfl (by decide) rfl (fun ls hl => ?_)
                        refine lv_goto (tgt := 78) hx hb dX7_init_208 (by decide) ?_
                        exact hK78 (l1 + 1) (l2 + 1) (upd (upd (upd (upd n_orders (4 * l1).toNatClampNeg (w10 + 1)) ((4 * l1) + 1).toNatClampNeg (w11 + 1)) ((4 * l1) + 2).toNatClampNeg (w12 + 1)) ((4 * l1) + 3).toNatClampNeg (w13 + 1)) q1 q2 q3 q4 q5 q6 q7 q8 hw  _ _ hP hD hS ls (lv_sub hl [6, 1, 0] rfl)
    exact key _ l1 l2 n_orders q1 q2 q3 q4 q5 q6 q7 q8 (Nat.lt_succ_self _) hI
  have hl := lv_entry ([.ref h0]) (n := 7) (Nat.le_of_ble_eq_true rfl)
  rw [lg_entry_eq]
  generalize (lg_sl ([.ref h0]) ++ List.replicate (7 - (lg_sl ([.ref h0])).length) Slot.unset).toArray = ls at hl ⊢
  have hl : lv_has ls 7 [(0, .ref h0)] := hl
  unfold wp_X7_init at hw
  refine lv_aload_n hx hb dX7_init_0 rfl (lv_at hl 0 rfl) ?_
  refine W.objInit hx hb hown lk1 lk2 lk3 rfl (by rw [hml]; exact hl.1) rfl dX7_init_1 (Nat.le_of_ble_eq_true rfl) (Nat.le_of_ble_eq_true rfl) ?_
  refine W.eq (g2 := F0 m 4 ls []) rfl ?_
  refine lv_aload_n hx hb dX7_init_4 rfl (lv_at hl 0 rfl) ?_
  refine lv_bipush (v := 60) hx hb dX7_init_5 (by decide) ?_
  refine kw_newI hx hb lk4 hK hP hD hS hA (N' := 60) (by decide) (by decide) (by decide) (Nat.le_of_ble_eq_true rfl) (Nat.le_of_ble_eq_true rfl) dX7_init_7 (fun q1 H hP hD hS => ?_)
  have hP : PP g [(h0, .inr (7, [.null, .int 0, .null, .int 0, .int 0, .null, .null, .int 0, .int 0, .int 0, .null, .null, .int 0, .null, .null])), (q1, .inl (g.2.1, 60, .inl (fun _ => 0)))] H := hP
  have hD : va_D A [(h0, .inr (7, [.null, .int 0, .null, .int 0, .int 0, .null, .null, .int 0, .int 0, .int 0, .null, .null, .int 0, .null, .null])), (q1, .inl (g.2.1, 60, .inl (fun _ => 0)))] := hD
  replace hw := hw q1
  refine va_putF (D := g.1) (ci := 7) (v := .ref q1) (ty := .array .int) (C := RX7) (T := TX7) (N := 15) hx hb hts hinX7 tyX7 tyX7_ok nmX7 hown hK hP hD hS 0 rfl rfl 0 (by decide) lk5 (fun _ h9 => h9) rfl hin rfl (by decide +kernel) rfl rfl (Nat.le_of_ble_eq_true rfl) dX7_init_9 (fun H locs hP hD hS => ?_)
  have hP : PP g [(h0, .inr (7, [.ref q1, .int 0, .null, .int 0, .int 0, .null, .null, .int 0, .int 0, .int 0, .null, .null, .int 0, .null, .null])), (q1, .inl (g.2.1, 60, .inl (fun _ => 0)))] H := hP
  have hD : va_D A [(h0, .inr (7, [.ref q1, .int 0, .null, .int 0, .int 0, .null, .null, .int 0, .int 0, .int 0, .null, .null, .int 0, .null, .null])), (q1, .inl (g.2.1, 60, .inl (fun _ => 0)))] := hD
  refine lv_aload_n hx hb dX7_init_12 rfl (lv_at hl 0 rfl) ?_
  refine lv_bipush (v := 10) hx hb dX7_init_13 (by decide) ?_
  refine kw_newI hx hb lk4 hK hP hD hS hA (N' := 10) (by decide) (by decide) (by decide) (Nat.le_of_ble_eq_true rfl) (Nat.le_of_ble_eq_true rfl) dX7_init_15 (fun q2 H hP hD hS => ?_)
  have hP : PP g [(h0, .inr (7, [.ref q1, .int 0, .null, .int 0, .int 0, .null, .null, .int 0, .int 0, .int 0, .null, .null, .int 0, .null, .null])), (q1, .inl (g.2.1, 60, .inl (fun _ => 0))), (q2, .inl (g.2.1, 10, .inl (fun _ => 0)))] H := hP
  have hD : va_D A [(h0, .inr (7, [.ref q1, .int 0, .null, .int 0, .int 0, .null, .null, .int 0, .int 0, .int 0, .null, .null, .int 0, .null, .null])), (q1, .inl (g.2.1, 60, .inl (fun _ => 0))), (q2, .inl (g.2.1, 10, .inl (fun _ => 0)))] := hD
  replace hw := hw q2
  refine va_putF (D := g.1) (ci := 7) (v := .ref q2) (ty := .array .int) (C := RX7) (T := TX7) (N := 15) hx hb hts hinX7 tyX7 tyX7_ok nmX7 hown hK hP hD hS 0 rfl rfl 2 (by decide) lk7 (fun _ h9 => h9) rfl hin rfl (by decide +kernel) rfl rfl (Nat.le_of_ble_eq_true rfl) dX7_init_17 (fun H locs hP hD hS => ?_)
  have hP : PP g [(h0, .inr (7, [.ref q1, .int 0, .ref q2, .int 0, .int 0, .null, .null, .int 0, .int 0, .int 0, .null, .null, .int 0, .null, .null])), (q1, .inl (g.2.1, 60, .inl (fun _ => 0))), (q2, .inl (g.2.1, 10, .inl (fun _ => 0)))] H := hP
  have hD : va_D A [(h0, .inr (7, [.ref q1, .int 0, .ref q2, .int 0, .int 0, .null, .null, .int 0, .int 0, .int 0, .null, .null, .int 0, .null, .null])), (q1, .inl (g.2.1, 60, .inl (fun _ => 0))), (q2, .inl (g.2.1, 10, .inl (fun _ => 0)))] := hD
  refine lv_aload_n hx hb dX7_init_20 rfl (lv_at hl 0 rfl) ?_
  refine lv_bipush (v := (-6)) hx hb dX7_init_21 (by decide) ?_
  refine va_put (D := g.1) (ci := 7) (v := .int (-6)) (ty := .int) (C := RX7) (T := TX7) (N := 15) hx hb hts hinX7 tyX7 tyX7_ok nmX7 hown hK hP hD hS 0 rfl rfl 4 (by decide) lk8 (fun _ h9 => h9) rfl (by decide +kernel) rfl rfl (Nat.le_of_ble_eq_true rfl) dX7_init_23 (fun H locs hP hD hS => ?_)
  have hP : PP g [(h0, .inr (7, [.ref q1, .int 0, .ref q2, .int 0, .int (-6), .null, .null, .int 0, .int 0, .int 0, .null, .null, .int 0, .null, .null])), (q1, .inl (g.2.1, 60, .inl (fun _ => 0))), (q2, .inl (g.2.1, 10, .inl (fun _ => 0)))] H := hP
  have hD : va_D A [(h0, .inr (7, [.ref q1, .int 0, .ref q2, .int 0, .int (-6), .null, .null, .int 0, .int 0, .int 0, .null, .null, .int 0, .null, .null])), (q1, .inl (g.2.1, 60, .inl (fun _ => 0))), (q2, .inl (g.2.1, 10, .inl (fun _ => 0)))] := hD
  refine lv_aload_n hx hb dX7_init_26 rfl (lv_at hl 0 rfl) ?_
  refine lv_bipush (v := 96) hx hb dX7_init_27 (by decide) ?_
  refine kw_newI hx hb lk4 hK hP hD hS hA (N' := 96) (by decide) (by decide) (by decide) (Nat.le_of_ble_eq_true rfl) (Nat.le_of_ble_eq_true rfl) dX7_init_29 (fun q3 H hP hD hS => ?_)
  have hP : PP g [(h0, .inr (7, [.ref q1, .int 0, .ref q2, .int 0, .int (-6), .null, .null, .int 0, .int 0, .int 0, .null, .null, .int 0, .null, .null])), (q1, .inl (g.2.1, 60, .inl (fun _ => 0))), (q2, .inl (g.2.1, 10, .inl (fun _ => 0))), (q3, .inl (g.2.1, 96, .inl (fun _ => 0)))] H := hP
  have hD : va_D A [(h0, .inr (7, [.ref q1, .int 0, .ref q2, .int 0, .int (-6), .null, .null, .int 0, .int 0, .int 0, .null, .null, .int 0, .null, .null])), (q1, .inl (g.2.1, 60, .inl (fun _ => 0))), (q2, .inl (g.2.1, 10, .inl (fun _ => 0))), (q3, .inl (g.2.1, 96, .inl (fun _ => 0)))] := hD
  replace hw := hw q3
  refine va_putF (D := g.1) (ci := 7) (v := .ref q3) (ty := .array .int) (C := RX7) (T := TX7) (N := 15) hx hb hts hinX7 tyX7 tyX7_ok nmX7 hown hK hP hD hS 0 rfl rfl 5 (by decide) lk9 (fun _ h9 => h9) rfl hin rfl (by decide +kernel) rfl rfl (Nat.le_of_ble_eq_true rfl) dX7_init_31 (fun H locs hP hD hS => ?_)
  have hP : PP g [(h0, .inr (7, [.ref q1, .int 0, .ref q2, .int 0, .int (-6), .ref q3, .null, .int 0, .int 0, .int 0, .null, .null, .int 0, .null, .null])), (q1, .inl (g.2.1, 60, .inl (fun _ => 0))), (q2, .inl (g.2.1, 10, .inl (fun _ => 0))), (q3, .inl (g.2.1, 96, .inl (fun _ => 0)))] H := hP
  have hD : va_D A [(h0, .inr (7, [.ref q1, .int 0, .ref q2, .int 0, .int (-6), .ref q3, .null, .int 0, .int 0, .int 0, .null, .null, .int 0, .null, .null])), (q1, .inl (g.2.1, 60, .inl (fun _ => 0))), (q2, .inl (g.2.1, 10, .inl (fun _ => 0))), (q3, .inl (g.2.1, 96, .inl (fun _ => 0)))] := hD
  refine lv_aload_n hx hb dX7_init_34 rfl (lv_at hl 0 rfl) ?_
  refine lv_bipush (v := 16) hx hb dX7_init_35 (by decide) ?_
  refine kw_newI hx hb lk4 hK hP hD hS hA (N' := 16) (by decide) (by decide) (by decide) (Nat.le_of_ble_eq_true rfl) (Nat.le_of_ble_eq_true rfl) dX7_init_37 (fun q4 H hP hD hS => ?_)
  have hP : PP g [(h0, .inr (7, [.ref q1, .int 0, .ref q2, .int 0, .int (-6), .ref q3, .null, .int 0, .int 0, .int 0, .null, .null, .int 0, .null, .null])), (q1, .inl (g.2.1, 60, .inl (fun _ => 0))), (q2, .inl (g.2.1, 10, .inl (fun _ => 0))), (q3, .inl (g.2.1, 96, .inl (fun _ => 0))), (q4, .inl (g.2.1, 16, .inl (fun _ => 0)))] H := hP
  have hD : va_D A [(h0, .inr (7, [.ref q1, .int 0, .ref q2, .int 0, .int (-6), .ref q3, .null, .int 0, .int 0, .int 0, .null, .null, .int 0, .null, .null])), (q1, .inl (g.2.1, 60, .inl (fun _ => 0))), (q2, .inl (g.2.1, 10, .inl (fun _ => 0))), (q3, .inl (g.2.1, 96, .inl (fun _ => 0))), (q4, .inl (g.2.1, 16, .inl (fun _ => 0)))] := hD
  replace hw := hw q4
  refine va_putF (D := g.1) (ci := 7) (v := .ref q4) (ty := .array .int) (C := RX7) (T := TX7) (N := 15) hx hb hts hinX7 tyX7 tyX7_ok nmX7 hown hK hP hD hS 0 rfl rfl 6 (by decide) lk10 (fun _ h9 => h9) rfl hin rfl (by decide +kernel) rfl rfl (Nat.le_of_ble_eq_true rfl) dX7_init_39 (fun H locs hP hD hS => ?_)
  have hP : PP g [(h0, .inr (7, [.ref q1, .int 0, .ref q2, .int 0, .int (-6), .ref q3, .ref q4, .int 0, .int 0, .int 0, .null, .null, .int 0, .null, .null])), (q1, .inl (g.2.1, 60, .inl (fun _ => 0))), (q2, .inl (g.2.1, 10, .inl (fun _ => 0))), (q3, .inl (g.2.1, 96, .inl (fun _ => 0))), (q4, .inl (g.2.1, 16, .inl (fun _ => 0)))] H := hP
  have hD : va_D A [(h0, .inr (7, [.ref q1, .int 0, .ref q2, .int 0, .int (-6), .ref q3, .ref q4, .int 0, .int 0, .int 0, .null, .null, .int 0, .null, .null])), (q1, .inl (g.2.1, 60, .inl (fun _ => 0))), (q2, .inl (g.2.1, 10, .inl (fun _ => 0))), (q3, .inl (g.2.1, 96, .inl (fun _ => 0))), (q4, .inl (g.2.1, 16, .inl (fun _ => 0)))] := hD
  refine lv_aload_n hx hb dX7_init_42 rfl (lv_at hl 0 rfl) ?_
  refine lv_bipush (v := 16) hx hb dX7_init_43 (by decide) ?_
  refine kw_newI hx hb lk4 hK hP hD hS hA (N' := 16) (by decide) (by decide) (by decide) (Nat.le_of_ble_eq_true rfl) (Nat.le_of_ble_eq_true rfl) dX7_init_45 (fun q5 H hP hD hS => ?_)
  have hP : PP g [(h0, .inr (7, [.ref q1, .int 0, .ref q2, .int 0, .int (-6), .ref q3, .ref q4, .int 0, .int 0, .int 0, .null, .null, .int 0, .null, .null])), (q1, .inl (g.2.1, 60, .inl (fun _ => 0))), (q2, .inl (g.2.1, 10, .inl (fun _ => 0))), (q3, .inl (g.2.1, 96, .inl (fun _ => 0))), (q4, .inl (g.2.1, 16, .inl (fun _ => 0))), (q5, .inl (g.2.1, 16, .inl (fun _ => 0)))] H := hP
  have hD : va_D A [(h0, .inr (7, [.ref q1, .int 0, .ref q2, .int 0, .int (-6), .ref q3, .ref q4, .int 0, .int 0, .int 0, .null, .null, .int 0, .null, .null])), (q1, .inl (g.2.1, 60, .inl (fun _ => 0))), (q2, .inl (g.2.1, 10, .inl (fun _ => 0))), (q3, .inl (g.2.1, 96, .inl (fun _ => 0))), (q4, .inl (g.2.1, 16, .inl (fun _ => 0))), (q5, .inl (g.2.1, 16, .inl (fun _ => 0)))] := hD
  replace hw := hw q5
  refine va_putF (D := g.1) (ci := 7) (v := .ref q5) (ty := .array .int) (C := RX7) (T := TX7) (N := 15) hx hb hts hinX7 tyX7 tyX7_ok nmX7 hown hK hP hD hS 0 rfl rfl 10 (by decide) lk11 (fun _ h9 => h9) rfl hin rfl (by decide +kernel) rfl rfl (Nat.le_of_ble_eq_true rfl) dX7_init_47 (fun H locs hP hD hS => ?_)
  have hP : PP g [(h0, .inr (7, [.ref q1, .int 0, .ref q2, .int 0, .int (-6), .ref q3, .ref q4, .int 0, .int 0, .int 0, .ref q5, .null, .int 0, .null, .null])), (q1, .inl (g.2.1, 60, .inl (fun _ => 0))), (q2, .inl (g.2.1, 10, .inl (fun _ => 0))), (q3, .inl (g.2.1, 96, .inl (fun _ => 0))), (q4, .inl (g.2.1, 16, .inl (fun _ => 0))), (q5, .inl (g.2.1, 16, .inl (fun _ => 0)))] H := hP
  have hD : va_D A [(h0, .inr (7, [.ref q1, .int 0, .ref q2, .int 0, .int (-6), .ref q3, .ref q4, .int 0, .int 0, .int 0, .ref q5, .null, .int 0, .null, .null])), (q1, .inl (g.2.1, 60, .inl (fun _ => 0))), (q2, .inl (g.2.1, 10, .inl (fun _ => 0))), (q3, .inl (g.2.1, 96, .inl (fun _ => 0))), (q4, .inl (g.2.1, 16, .inl (fun _ => 0))), (q5, .inl (g.2.1, 16, .inl (fun _ => 0)))] := hD
  refine lv_aload_n hx hb dX7_init_50 rfl (lv_at hl 0 rfl) ?_
  refine lv_sipush (v := 256) hx hb dX7_init_51 (by decide) ?_
  refine kw_newI hx hb lk4 hK hP hD hS hA (N' := 256) (by decide) (by decide) (by decide) (Nat.le_of_ble_eq_true rfl) (Nat.le_of_ble_eq_true rfl) dX7_init_54 (fun q6 H hP hD hS => ?_)
  have hP : PP g [(h0, .inr (7, [.ref q1, .int 0, .ref q2, .int 0, .int (-6), .ref q3, .ref q4, .int 0, .int 0, .int 0, .ref q5, .null, .int 0, .null, .null])), (q1, .inl (g.2.1, 60, .inl (fun _ => 0))), (q2, .inl (g.2.1, 10, .inl (fun _ => 0))), (q3, .inl (g.2.1, 96, .inl (fun _ => 0))), (q4, .inl (g.2.1, 16, .inl (fun _ => 0))), (q5, .inl (g.2.1, 16, .inl (fun _ => 0))), (q6, .inl (g.2.1, 256, .inl (fun _ => 0)))] H := hP
  have hD : va_D A [(h0, .inr (7, [.ref q1, .int 0, .ref q2, .int 0, .int (-6), .ref q3, .ref q4, .int 0, .int 0, .int 0, .ref q5, .null, .int 0, .null, .null])), (q1, .inl (g.2.1, 60, .inl (fun _ => 0))), (q2, .inl (g.2.1, 10, .inl (fun _ => 0))), (q3, .inl (g.2.1, 96, .inl (fun _ => 0))), (q4, .inl (g.2.1, 16, .inl (fun _ => 0))), (q5, .inl (g.2.1, 16, .inl (fun _ => 0))), (q6, .inl (g.2.1, 256, .inl (fun _ => 0)))] := hD
  replace hw := hw q6
  refine va_putF (D := g.1) (ci := 7) (v := .ref q6) (ty := .array .int) (C := RX7) (T := TX7) (N := 15) hx hb hts hinX7 tyX7 tyX7_ok nmX7 hown hK hP hD hS 0 rfl rfl 11 (by decide) lk12 (fun _ h9 => h9) rfl hin rfl (by decide +kernel) rfl rfl (Nat.le_of_ble_eq_true rfl) dX7_init_56 (fun H locs hP hD hS => ?_)
  have hP : PP g [(h0, .inr (7, [.ref q1, .int 0, .ref q2, .int 0, .int (-6), .ref q3, .ref q4, .int 0, .int 0, .int 0, .ref q5, .ref q6, .int 0, .null, .null])), (q1, .inl (g.2.1, 60, .inl (fun _ => 0))), (q2, .inl (g.2.1, 10, .inl (fun _ => 0))), (q3, .inl (g.2.1, 96, .inl (fun _ => 0))), (q4, .inl (g.2.1, 16, .inl (fun _ => 0))), (q5, .inl (g.2.1, 16, .inl (fun _ => 0))), (q6, .inl (g.2.1, 256, .inl (fun _ => 0)))] H := hP
  have hD : va_D A [(h0, .inr (7, [.ref q1, .int 0, .ref q2, .int 0, .int (-6), .ref q3, .ref q4, .int 0, .int 0, .int 0, .ref q5, .ref q6, .int 0, .null, .null])), (q1, .inl (g.2.1, 60, .inl (fun _ => 0))), (q2, .inl (g.2.1, 10, .inl (fun _ => 0))), (q3, .inl (g.2.1, 96, .inl (fun _ => 0))), (q4, .inl (g.2.1, 16, .inl (fun _ => 0))), (q5, .inl (g.2.1, 16, .inl (fun _ => 0))), (q6, .inl (g.2.1, 256, .inl (fun _ => 0)))] := hD
  refine lv_aload_n hx hb dX7_init_59 rfl (lv_at hl 0 rfl) ?_
  refine lv_bipush (v := 122) hx hb dX7_init_60 (by decide) ?_
  refine kw_newI hx hb lk4 hK hP hD hS hA (N' := 122) (by decide) (by decide) (by decide) (Nat.le_of_ble_eq_true rfl) (Nat.le_of_ble_eq_true rfl) dX7_init_62 (fun q7 H hP hD hS => ?_)
  have hP : PP g [(h0, .inr (7, [.ref q1, .int 0, .ref q2, .int 0, .int (-6), .ref q3, .ref q4, .int 0, .int 0, .int 0, .ref q5, .ref q6, .int 0, .null, .null])), (q1, .inl (g.2.1, 60, .inl (fun _ => 0))), (q2, .inl (g.2.1, 10, .inl (fun _ => 0))), (q3, .inl (g.2.1, 96, .inl (fun _ => 0))), (q4, .inl (g.2.1, 16, .inl (fun _ => 0))), (q5, .inl (g.2.1, 16, .inl (fun _ => 0))), (q6, .inl (g.2.1, 256, .inl (fun _ => 0))), (q7, .inl (g.2.1, 122, .inl (fun _ => 0)))] H := hP
  have hD : va_D A [(h0, .inr (7, [.ref q1, .int 0, .ref q2, .int 0, .int (-6), .ref q3, .ref q4, .int 0, .int 0, .int 0, .ref q5, .ref q6, .int 0, .null, .null])), (q1, .inl (g.2.1, 60, .inl (fun _ => 0))), (q2, .inl (g.2.1, 10, .inl (fun _ => 0))), (q3, .inl (g.2.1, 96, .inl (fun _ => 0))), (q4, .inl (g.2.1, 16, .inl (fun _ => 0))), (q5, .inl (g.2.1, 16, .inl (fun _ => 0))), (q6, .inl (g.2.1, 256, .inl (fun _ => 0))), (q7, .inl (g.2.1, 122, .inl (fun _ => 0)))] := hD
  replace hw := hw q7
  refine va_putF (D := g.1) (ci := 7) (v := .ref q7) (ty := .array .int) (C := RX7) (T := TX7) (N := 15) hx hb hts hinX7 tyX7 tyX7_ok nmX7 hown hK hP hD hS 0 rfl rfl 13 (by decide) lk13 (fun _ h9 => h9) rfl hin rfl (by decide +kernel) rfl rfl (Nat.le_of_ble_eq_true rfl) dX7_init_64 (fun H locs hP hD hS => ?_)
  have hP : PP g [(h0, .inr (7, [.ref q1, .int 0, .ref q2, .int 0, .int (-6), .ref q3, .ref q4, .int 0, .int 0, .int 0, .ref q5, .ref q6, .int 0, .ref q7, .null])), (q1, .inl (g.2.1, 60, .inl (fun _ => 0))), (q2, .inl (g.2.1, 10, .inl (fun _ => 0))), (q3, .inl (g.2.1, 96, .inl (fun _ => 0))), (q4, .inl (g.2.1, 16, .inl (fun _ => 0))), (q5, .inl (g.2.1, 16, .inl (fun _ => 0))), (q6, .inl (g.2.1, 256, .inl (fun _ => 0))), (q7, .inl (g.2.1, 122, .inl (fun _ => 0)))] H := hP
  have hD : va_D A [(h0, .inr (7, [.ref q1, .int 0, .ref q2, .int 0, .int (-6), .ref q3, .ref q4, .int 0, .int 0, .int 0, .ref q5, .ref q6, .int 0, .ref q7, .null])), (q1, .inl (g.2.1, 60, .inl (fun _ => 0))), (q2, .inl (g.2.1, 10, .inl (fun _ => 0))), (q3, .inl (g.2.1, 96, .inl (fun _ => 0))), (q4, .inl (g.2.1, 16, .inl (fun _ => 0))), (q5, .inl (g.2.1, 16, .inl (fun _ => 0))), (q6, .inl (g.2.1, 256, .inl (fun _ => 0))), (q7, .inl (g.2.1, 122, .inl (fun _ => 0)))] := hD
  refine lv_aload_n hx hb dX7_init_67 rfl (lv_at hl 0 rfl) ?_
  refine lv_iconst (v := 2) hx hb dX7_init_68 (by decide) ?_
  refine kw_newZ hx hb lk14 hK hP hD hS hA (N' := 2) (by decide) (by decide) (by decide) (Nat.le_of_ble_eq_true rfl) (Nat.le_of_ble_eq_true rfl) dX7_init_69 (fun q8 H hP hD hS => ?_)
  have hP : PP g [(h0, .inr (7, [.ref q1, .int 0, .ref q2, .int 0, .int (-6), .ref q3, .ref q4, .int 0, .int 0, .int 0, .ref q5, .ref q6, .int 0, .ref q7, .null])), (q1, .inl (g.2.1, 60, .inl (fun _ => 0))), (q2, .inl (g.2.1, 10, .inl (fun _ => 0))), (q3, .inl (g.2.1, 96, .inl (fun _ => 0))), (q4, .inl (g.2.1, 16, .inl (fun _ => 0))), (q5, .inl (g.2.1, 16, .inl (fun _ => 0))), (q6, .inl (g.2.1, 256, .inl (fun _ => 0))), (q7, .inl (g.2.1, 122, .inl (fun _ => 0))), (q8, .inl (g.2.2.1, 2, .inl (fun _ => 0)))] H := hP
  have hD : va_D A [(h0, .inr (7, [.ref q1, .int 0, .ref q2, .int 0, .int (-6), .ref q3, .ref q4, .int 0, .int 0, .int 0, .ref q5, .ref q6, .int 0, .ref q7, .null])), (q1, .inl (g.2.1, 60, .inl (fun _ => 0))), (q2, .inl (g.2.1, 10, .inl (fun _ => 0))), (q3, .inl (g.2.1, 96, .inl (fun _ => 0))), (q4, .inl (g.2.1, 16, .inl (fun _ => 0))), (q5, .inl (g.2.1, 16, .inl (fun _ => 0))), (q6, .inl (g.2.1, 256, .inl (fun _ => 0))), (q7, .inl (g.2.1, 122, .inl (fun _ => 0))), (q8, .inl (g.2.2.1, 2, .inl (fun _ => 0)))] := hD
  replace hw := hw q8
  refine va_putF (D := g.1) (ci := 7) (v := .ref q8) (ty := .array .boolean) (C := RX7) (T := TX7) (N := 15) hx hb hts hinX7 tyX7 tyX7_ok nmX7 hown hK hP hD hS 0 rfl rfl 14 (by decide) lk15 (fun _ h9 => h9) rfl hin rfl (by decide +kernel) rfl rfl (Nat.le_of_ble_eq_true rfl) dX7_init_71 (fun H locs hP hD hS => ?_)
  have hP : PP g [(h0, .inr (7, [.ref q1, .int 0, .ref q2, .int 0, .int (-6), .ref q3, .ref q4, .int 0, .int 0, .int 0, .ref q5, .ref q6, .int 0, .ref q7, .ref q8])), (q1, .inl (g.2.1, 60, .inl (fun _ => 0))), (q2, .inl (g.2.1, 10, .inl (fun _ => 0))), (q3, .inl (g.2.1, 96, .inl (fun _ => 0))), (q4, .inl (g.2.1, 16, .inl (fun _ => 0))), (q5, .inl (g.2.1, 16, .inl (fun _ => 0))), (q6, .inl (g.2.1, 256, .inl (fun _ => 0))), (q7, .inl (g.2.1, 122, .inl (fun _ => 0))), (q8, .inl (g.2.2.1, 2, .inl (fun _ => 0)))] H := hP
  have hD : va_D A [(h0, .inr (7, [.ref q1, .int 0, .ref q2, .int 0, .int (-6), .ref q3, .ref q4, .int 0, .int 0, .int 0, .ref q5, .ref q6, .int 0, .ref q7, .ref q8])), (q1, .inl (g.2.1, 60, .inl (fun _ => 0))), (q2, .inl (g.2.1, 10, .inl (fun _ => 0))), (q3, .inl (g.2.1, 96, .inl (fun _ => 0))), (q4, .inl (g.2.1, 16, .inl (fun _ => 0))), (q5, .inl (g.2.1, 16, .inl (fun _ => 0))), (q6, .inl (g.2.1, 256, .inl (fun _ => 0))), (q7, .inl (g.2.1, 122, .inl (fun _ => 0))), (q8, .inl (g.2.2.1, 2, .inl (fun _ => 0)))] := hD
  refine lv_iconst (v := 0) hx hb dX7_init_74 (by decide) ?_
  refine lv_istore_n (lv' := [(1, .int 0), (0, .ref h0)]) hx hb dX7_init_75 rfl hl (by decide) rfl (fun ls hl => ?_)
  refine lv_iconst (v := 0) hx hb dX7_init_76 (by decide) ?_
  refine lv_istore_n (lv' := [(2, .int 0), (1, .int 0), (0, .ref h0)]) hx hb dX7_init_77 rfl hl (by decide) rfl (fun ls hl => ?_)
  exact B78  0 0 (fun _ => 0) q1 q2 q3 q4 q5 q6 q7 q8 hw  _ _ hP hD hS ls (lv_sub hl [2, 1, 0] rfl)
