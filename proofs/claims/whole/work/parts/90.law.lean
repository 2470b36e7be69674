/-! ===== THE LAW'S LOOP: class and reference stay alike ===== -/
/-- where the law is in its script, and the room it has used -/
def PosL (L : Nat) (l3 : Int32) (cc ss : Nat) : Prop := ∃ k, l3 = nI (3 * k) ∧ 3 * k ≤ L ∧ cc ≤ 32 + 24 * k ∧ ss ≤ 1143 + 300 * k
/-- the clues of both sides, and what was found of them -/
def MIr (pv : PV) (sz : Int32) (row : Nat → Option Nat) (many : Int32) (zc : Nat → Int32) (kT kN kC kA : Int32) (kp : Nat → Int32) (sS sv : Int32) (sp sst : Nat → Int32) : Prop :=
  ∃ n KD IT PP', n ≤ 12 ∧ sz = nI n ∧ many = nI n ∧ RLi CWd pv n row zc 0 ∧ CK pv n row zc KD IT PP' ∧ (kT = -6 ∨ kT = nI (Tn n (MK KD IT PP') (aL n))) ∧ (kN = -6 ∨ kN = NL n (MK KD IT PP') n) ∧ (kC = -6 ∨ kC = CO n (MK KD IT PP') n) ∧ KA (Mset n (aL n) (MK KD IT PP')) kA kp ∧ SVr n KD IT PP' sS sv sp sst
theorem MI_new {pv : PV} {sz : Int32} {row : Nat → Option Nat} {many : Int32} {zc kp sp sst : Nat → Int32} {sS : Int32} (h : RC CWd pv sz row many zc) : MIr pv sz row many zc (-6) (-6) (-6) (-6) kp sS 0 sp sst := by
  obtain ⟨n, hn, e1, e2, hl⟩ := h
  obtain ⟨KD, IT, PP', hck⟩ := CK_of hl
  exact ⟨n, KD, IT, PP', hn, e1, e2, hl, hck, Or.inl rfl, Or.inl rfl, Or.inl rfl, Or.inl rfl, Or.inl rfl⟩
def InvL (L : Nat) (l3 ki lf ts : Int32) (sg : Nat → Int32) (sz : Int32) (row : Nat → Option Nat) (s1 : Int32) (r1 : Nat → Option Nat) (s2 : Int32) (r2 : Nat → Option Nat) (kT kN kC kA : Int32) (kp : Nat → Int32) (sS sv : Int32) (sp sst zc : Nat → Int32) (many : Int32) (zt : Nat → Int32) (zs zf : Int32) (zo zi zk : Nat → Int32) (pv : PV) (cc ss : Nat) : Prop :=
  PosL L l3 cc ss ∧ RT ts sg zs zt ∧ MIr pv sz row many zc kT kN kC kA kp sS sv sp sst ∧ lf = zf ∧ RO zo ∧ ∃ b0 b1, RK ki zk b0 b1 ∧ RIm CWd pv b0 s1 r1 zi 0 ∧ RIm CWd pv b1 s2 r2 zi 61
theorem RT_0 {sg zt : Nat → Int32} : RT 0 sg 0 zt := ⟨0, by decide, nI_0.symm, nI_0.symm, fun i hi => absurd hi (Nat.not_lt_zero _)⟩
theorem RIm.grow {pv pv' : PV} {b : Bool} {s : Int32} {r : Nat → Option Nat} {zi : Nat → Int32} {o : Nat} (h : RIm CWd pv b s r zi o) (g : ∀ n row2 zi b, RLi CWd pv n row2 zi b → RLi CWd pv' n row2 zi b) : RIm CWd pv' b s r zi o := fun hb => by
  obtain ⟨n, a, b, c, d⟩ := h hb
  exact ⟨n, a, b, c, g _ _ _ _ d⟩
theorem law_end {L k : Nat} (hL : L ≤ 1536) (hk : 3 * k ≤ L) : (Int32.ofNat L - 3 < nI (3 * k)) ↔ L < 3 * k + 3 := by
  rw [Int32.lt_iff_toInt_lt, show (Int32.ofNat L - 3).toInt = (L : Int) - (3 : Nat) from pk_sub_toInt (a := L) (b := 3) (by omega) (by decide), nI_toInt (by omega)]
  omega
set_option maxHeartbeats 8000000 in
set_option maxRecDepth 20000 in
theorem law_wp {L : Nat} {xs : Nat → Int32} (hL : L ≤ 1536) : wp_L L xs := by
  have go : ∀ (zo : Nat → Int32), RO zo → wp_L_18 L xs 0 0 (-6) 0 (fun _ => 0) 0 (fun _ => none) 0 (fun _ => none) 0 (fun _ => none) (-6) (-6) (-6) (-6) (fun _ => 0) 0 0 0 0 (fun _ => 0) (fun _ => 0) 0 (fun _ => none) 0 (fun _ => none) (fun _ => 0) 0 0 (fun _ => 0) (fun _ => 0) (fun _ => 0) 0 (fun _ => 0) 0 (-6) zo (fun _ => 0) 0 0 0 (fun _ => 0) (fun _ => 0) 0 (fun _ => 0) (fun _ => 0) pv0 32 1143 := by
    intro zo0 hzo0
    refine ⟨fun l3 ki lf ts sg sz row s1 r1 s2 r2 kT kN kC kA kp tl C D rest al pr bs br cs cr or sS sv sp sst zc many zt zs zf zo zp z1 z2 z3 zl zst zm zi zk pv cc ss => InvL L l3 ki lf ts sg sz row s1 r1 s2 r2 kT kN kC kA kp sS sv sp sst zc many zt zs zf zo zi zk pv cc ss, fun l3 _ _ _ _ _ _ _ _ _ _ _ _ _ _ _ _ _ _ _ _ _ _ _ _ _ _ _ _ _ _ _ _ _ _ _ _ _ _ _ _ _ _ _ _ _ _ _ _ => L + 3 - l3.toNatClampNeg, ?_, ?_⟩
    · refine ⟨⟨0, rfl, Nat.zero_le _, Nat.le_refl _, Nat.le_refl _⟩, RT_0, MI_new ⟨0, by decide, rfl, rfl, fun k hk => absurd hk (Nat.not_lt_zero _)⟩, rfl, hzo0, false, false, ⟨by decide, rfl, rfl⟩, fun hb => absurd hb (by decide), fun hb => absurd hb (by decide)⟩
    rintro l3 ki lf ts sg sz row s1 r1 s2 r2 kT kN kC kA kp tl C D rest al pr bs br cs cr or sS sv sp sst zc many zt zs zf zo zp z1 z2 z3 zl zst zm zi zk pv cc ss ⟨⟨k, rfl, hk, hcc, hss⟩, hT, ⟨n, KD, IT, PP', hn, rfl, rfl, hl, hck, hkT, hkN, hkC, hkA, hsv⟩, hf, hO, b0, b1, hK, h1, h2⟩
    have hM : MIr pv (nI n) row (nI n) zc kT kN kC kA kp sS sv sp sst := ⟨n, KD, IT, PP', hn, rfl, rfl, hl, hck, hkT, hkN, hkC, hkA, hsv⟩
    have hC : RC CWd pv (nI n) row (nI n) zc := ⟨n, hn, rfl, rfl, hl⟩
    refine ⟨⟨by omega, by omega⟩, fun _ => ⟨by omega, by omega⟩, fun d => ?_⟩
    have hd : 3 * k + 3 ≤ L := Nat.le_of_not_lt (fun q => d ((law_end hL hk).mpr q))
    have v0 : vp_in (nI (3 * k)) L := vp_in_nI (by omega) (by omega)
    have v1 : vp_in (nI (3 * k) + 1) L := by rw [nI_1]; exact vp_in_nI (by omega) (by omega)
    have v2 : vp_in (nI (3 * k) + 2) L := by rw [show nI (3 * k) + 2 = nI (3 * k + 2) from nI_add _ 2]; exact vp_in_nI (by omega) (by omega)
    have e3 : nI (3 * k) + 3 = nI (3 * (k + 1)) := nI_add _ 3
    have mu : L + 3 - (nI (3 * k) + 3).toNatClampNeg < L + 3 - (nI (3 * k)).toNatClampNeg := by
      rw [e3, nI_clamp (n := 3 * (k + 1)) (by omega), nI_clamp (n := 3 * k) (by omega)]; omega
    have pn : ∀ cc' ss', cc' ≤ cc + 24 → ss' ≤ ss + 300 → PosL L (nI (3 * k) + 3) cc' ss' := fun cc' ss' a b => ⟨k + 1, e3, by omega, by omega, by omega⟩
    refine ⟨v0, fun _ => ?_, fun _ => ?_, fun _ => ?_, fun _ => ?_, fun _ => ?_, fun _ => ?_, fun _ => ?_, fun _ => ?_, fun _ => ?_, fun _ => ?_, fun _ => ?_, fun _ => ?_, fun _ => ?_, fun _ => ?_, fun _ => ?_, fun _ => ?_, fun _ => ?_, fun _ => ?_, fun _ => ?_, fun _ => ?_, fun _ => ?_⟩
    · exact ⟨v1, op_say hT v1 (fun _ _ _ _ _ hT' => ⟨fun _ => ⟨⟨pn _ _ (by omega) (by omega), hT', hM, hf, hO, b0, b1, hK, h1, h2⟩, mu⟩, fun z => absurd rfl z⟩)⟩
    · exact op_wipe hT (fun _ _ _ hT' => ⟨fun _ => ⟨⟨pn _ _ (by omega) (by omega), hT', hM, hf, hO, b0, b1, hK, h1, h2⟩, mu⟩, fun z => absurd rfl z⟩)
    · exact op_fault hT (fun _ => ⟨fun _ => ⟨⟨pn _ _ (by omega) (by omega), hT, hM, hf, hO, b0, b1, hK, h1, h2⟩, mu⟩, fun z => absurd rfl z⟩)
    · exact op_clue hT hC hf (fun _ _ _ hf' => ⟨fun _ => ⟨⟨pn _ _ (by omega) (by omega), hT, hM, hf', hO, b0, b1, hK, h1, h2⟩, mu⟩, fun z => absurd rfl z⟩) (fun _ _ _ ex _ _ hC' hg => ⟨fun _ => ⟨⟨pn _ _ (by omega) (by omega), RT_0, MI_new hC', hf, hO, b0, b1, hK, h1.grow hg, h2.grow hg⟩, mu⟩, fun z => absurd rfl z⟩)
    · exact ⟨v1, op_drop hC v1 ⟨fun _ => ⟨⟨pn _ _ (by omega) (by omega), hT, hM, hf, hO, b0, b1, hK, h1, h2⟩, mu⟩, fun z => absurd rfl z⟩ (fun _ _ _ _ _ hC' => ⟨fun _ => ⟨⟨pn _ _ (by omega) (by omega), hT, MI_new hC', hf, hO, b0, b1, hK, h1, h2⟩, mu⟩, fun z => absurd rfl z⟩)⟩
    · exact ⟨v1, v2, op_told hC v1 v2 (fun _ => ⟨fun _ => ⟨⟨pn _ _ (by omega) (by omega), hT, hM, hf, hO, b0, b1, hK, h1, h2⟩, mu⟩, fun z => absurd rfl z⟩)⟩
    · exact op_answers hn hck hO hkT (fun _ _ _ _ _ _ _ _ _ _ _ _ _ _ _ _ _ hk' => ⟨fun _ => ⟨⟨pn _ _ (by omega) (by omega), hT, ⟨n, KD, IT, PP', hn, rfl, rfl, hl, hck, hk', hkN, hkC, hkA, hsv⟩, hf, hO, b0, b1, hK, h1, h2⟩, mu⟩, fun z => absurd rfl z⟩)
    · exact ⟨v1, v2, op_answer hn hck hO hkA v1 v2 (fun _ _ _ _ _ _ _ _ _ _ _ _ _ _ _ _ _ _ hk' => ⟨fun _ => ⟨⟨pn _ _ (by omega) (by omega), hT, ⟨n, KD, IT, PP', hn, rfl, rfl, hl, hck, hkT, hkN, hkC, hk', hsv⟩, hf, hO, b0, b1, hK, h1, h2⟩, mu⟩, fun z => absurd rfl z⟩)⟩
    · exact ⟨v1, v2, op_often hn hck hO v1 v2 (fun _ _ _ _ _ _ _ _ _ _ _ _ _ _ _ _ => ⟨fun _ => ⟨⟨pn _ _ (by omega) (by omega), hT, hM, hf, hO, b0, b1, hK, h1, h2⟩, mu⟩, fun z => absurd rfl z⟩)⟩
    · exact ⟨v1, v2, op_together hn hck hO hkT v1 v2 (fun _ _ _ _ _ _ _ _ _ _ _ _ _ _ _ _ _ hk' => ⟨fun _ => ⟨⟨pn _ _ (by omega) (by omega), hT, ⟨n, KD, IT, PP', hn, rfl, rfl, hl, hck, hk', hkN, hkC, hkA, hsv⟩, hf, hO, b0, b1, hK, h1, h2⟩, mu⟩, fun z => absurd rfl z⟩)⟩
    · exact ⟨v1, op_met hn hck hO v1 (fun _ _ _ _ _ _ _ _ _ _ _ _ _ _ _ _ => ⟨fun _ => ⟨⟨pn _ _ (by omega) (by omega), hT, hM, hf, hO, b0, b1, hK, h1, h2⟩, mu⟩, fun z => absurd rfl z⟩)⟩
    · exact op_needless hn hck hO hkN (fun _ _ _ _ _ _ _ _ _ _ _ _ _ _ _ _ _ hk' => ⟨fun _ => ⟨⟨pn _ _ (by omega) (by omega), hT, ⟨n, KD, IT, PP', hn, rfl, rfl, hl, hck, hkT, hk', hkC, hkA, hsv⟩, hf, hO, b0, b1, hK, h1, h2⟩, mu⟩, fun z => absurd rfl z⟩)
    · exact op_core hn hck hO hkC (fun _ _ _ _ _ _ _ _ _ _ _ _ _ _ _ _ _ hk' => ⟨fun _ => ⟨⟨pn _ _ (by omega) (by omega), hT, ⟨n, KD, IT, PP', hn, rfl, rfl, hl, hck, hkT, hkN, hk', hkA, hsv⟩, hf, hO, b0, b1, hK, h1, h2⟩, mu⟩, fun z => absurd rfl z⟩)
    · exact op_trim hn hl hck hO hkC (fun _ _ _ _ _ _ _ _ _ _ _ _ _ _ _ _ _ _ _ _ hC' => ⟨fun _ => ⟨⟨pn _ _ (by omega) (by omega), hT, MI_new hC', hf, hO, b0, b1, hK, h1, h2⟩, mu⟩, fun z => absurd rfl z⟩)
    · exact ⟨v1, v2, op_step hn hck hsv v1 v2 (fun _ _ _ _ _ _ _ _ hk' => ⟨fun _ => ⟨⟨pn _ _ (by omega) (by omega), hT, ⟨n, KD, IT, PP', hn, rfl, rfl, hl, hck, hkT, hkN, hkC, hkA, hk'⟩, hf, hO, b0, b1, hK, h1, h2⟩, mu⟩, fun z => absurd rfl z⟩)⟩
    · exact ⟨v1, v2, op_left hn hck hsv v1 v2 (fun _ _ _ _ _ _ _ _ hk' => ⟨fun _ => ⟨⟨pn _ _ (by omega) (by omega), hT, ⟨n, KD, IT, PP', hn, rfl, rfl, hl, hck, hkT, hkN, hkC, hkA, hk'⟩, hf, hO, b0, b1, hK, h1, h2⟩, mu⟩, fun z => absurd rfl z⟩)⟩
    · exact op_end hn hck hsv (fun _ _ _ _ _ _ _ _ hk' => ⟨fun _ => ⟨⟨pn _ _ (by omega) (by omega), hT, ⟨n, KD, IT, PP', hn, rfl, rfl, hl, hck, hkT, hkN, hkC, hkA, hk'⟩, hf, hO, b0, b1, hK, h1, h2⟩, mu⟩, fun z => absurd rfl z⟩)
    · exact ⟨v1, op_image hC hK h1 h2 v1 (fun _ _ _ _ _ _ _ _ b0' b1' hK' h1' h2' => ⟨fun _ => ⟨⟨pn _ _ (by omega) (by omega), hT, hM, hf, hO, b0', b1', hK', h1', h2'⟩, mu⟩, fun z => absurd rfl z⟩)⟩
    · exact ⟨v1, op_restore hC hK h1 h2 v1 (fun _ => ⟨fun _ => ⟨⟨pn _ _ (by omega) (by omega), hT, hM, hf, hO, b0, b1, hK, h1, h2⟩, mu⟩, fun z => absurd rfl z⟩) (fun _ _ _ _ _ hC' => ⟨fun _ => ⟨⟨pn _ _ (by omega) (by omega), hT, MI_new hC', hf, hO, b0, b1, hK, h1, h2⟩, mu⟩, fun z => absurd rfl z⟩)⟩
    · exact ⟨v1, op_count hC hT hf hK v1 (fun _ => ⟨fun _ => ⟨⟨pn _ _ (by omega) (by omega), hT, hM, hf, hO, b0, b1, hK, h1, h2⟩, mu⟩, fun z => absurd rfl z⟩)⟩
    · exact ⟨⟨pn _ _ (by omega) (by omega), hT, hM, hf, hO, b0, b1, hK, h1, h2⟩, mu⟩
  intro q1 q2 q4 q5 q7 q8 q9 q10 q11 q12 q13 q14 q15 q16 q17 q18 q19 q20 q21 q22 q23 q24
  exact e_X7_init (fun _ _ _ _ _ _ _ _ zo hzo => go zo hzo)
