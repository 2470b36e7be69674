/-! ===== mathematics: clue() ===== -/
theorem let_ex {w : Int32} (h : isLet w) : ∃ i, i < 4 ∧ w = nI (97 + i) := by
  have h0 : ¬ w < 0 := fun q => h.1 (Int32.lt_trans q (by decide))
  obtain ⟨j, hj, rfl⟩ := nI_of h0
  have a : ¬ j < 97 := fun q => h.1 ((nI_ltI (b := 97) (by omega) (by decide)).mpr q)
  have b : ¬ 100 < j := fun q => h.2 ((nI_ltI (a := 100) (by decide) (by omega)).mpr q)
  exact ⟨j - 97, by omega, by rw [show 97 + (j - 97) = j by omega]⟩
theorem fig_ex {w : Int32} (h : isFig w) : ∃ i, i < 4 ∧ w = nI (49 + i) := by
  have h0 : ¬ w < 0 := fun q => h.1 (Int32.lt_trans q (by decide))
  obtain ⟨j, hj, rfl⟩ := nI_of h0
  have a : ¬ j < 49 := fun q => h.1 ((nI_ltI (b := 49) (by omega) (by decide)).mpr q)
  have b : ¬ 52 < j := fun q => h.2 ((nI_ltI (a := 52) (by decide) (by omega)).mpr q)
  exact ⟨j - 49, by omega, by rw [show 49 + (j - 49) = j by omega]⟩
/-- the number of the item that stands at place i of a text -/
def itN (t : Nat → Int32) (i : Nat) : Nat := 4 * ((t i).toNatClampNeg - 97) + ((t (i + 1)).toNatClampNeg - 49)
theorem item_f : ∀ a, a < 4 → ∀ b, b < 4 → ((4 * (nI (97 + a) - 97)) + nI (49 + b)) - 49 = nI (4 * a + b) := by decide +kernel
theorem item_ok {t : Nat → Int32} {i : Nat} (h1 : isLet (t i)) (h2 : isFig (t (i + 1))) : ((4 * (t i - 97)) + t (i + 1)) - 49 = nI (itN t i) ∧ itN t i < 16 := by
  obtain ⟨a, ha, ea⟩ := let_ex h1
  obtain ⟨b, hb, eb⟩ := fig_ex h2
  have e : itN t i = 4 * a + b := by
    unfold itN
    rw [ea, eb, nI_clamp (by omega), nI_clamp (by omega)]
    omega
  rw [e, ea, eb]
  exact ⟨item_f a ha b hb, by omega⟩
theorem e_X5_itemAt {t : Nat → Int32} {i : Nat} (hi : i < 9) (h1 : isLet (t i)) (h2 : isFig (t (i + 1))) {Q : Int32 → Prop} (h : Q (nI (itN t i))) : wp_X5_itemAt (nI i) t Q := by
  unfold wp_X5_itemAt
  rw [nI_1, nI_clamp (n := i) (by omega), nI_clamp (n := i + 1) (by omega), (item_ok h1 h2).1]
  exact ⟨vp_in_nI (by omega) (by decide), vp_in_nI (by omega) (by decide), h⟩
theorem e_X7_itemAt {t : Nat → Int32} {i : Nat} (hi : i < 9) (h1 : isLet (t i)) (h2 : isFig (t (i + 1))) {Q : Int32 → Prop} (h : Q (nI (itN t i))) : wp_X7_itemAt (nI i) t Q := by
  unfold wp_X7_itemAt
  rw [nI_1, nI_clamp (n := i) (by omega), nI_clamp (n := i + 1) (by omega), (item_ok h1 h2).1]
  exact ⟨vp_in_nI (by omega) (by decide), vp_in_nI (by omega) (by decide), h⟩
theorem knd_k {w : Int32} (h6 : ¬ knd w = -6) (h5 : ¬ w = 64) : ∃ k, k ≤ 4 ∧ knd w = nI k := by
  unfold knd at *
  split at h6
  · rename_i c; rw [if_pos c]; exact ⟨0, by decide, rfl⟩
  · rename_i c; rw [if_neg c]
    split at h6
    · rename_i c; rw [if_pos c]; exact ⟨1, by decide, rfl⟩
    · rename_i c; rw [if_neg c]
      split at h6
      · rename_i c; rw [if_pos c]; exact ⟨2, by decide, rfl⟩
      · rename_i c; rw [if_neg c]
        split at h6
        · rename_i c; rw [if_pos c]; exact ⟨3, by decide, rfl⟩
        · rename_i c; rw [if_neg c]
          split at h6
          · rename_i c; rw [if_pos c]; exact ⟨4, by decide, rfl⟩
          · rename_i c; rw [if_neg c]
            exact absurd rfl h6
section ADDC
variable {CW : (Nat → Int32) → (Nat → Int32) → Prop} {pv : PV} {q aa : Nat} {fs : List Int32} {al : Nat → Int32}
theorem pvAdd_ne1 {a : Nat} (h : a ≠ q) : (pvAdd pv q aa fs al).2.1 a = pv.2.1 a := by funext k; exact if_neg h
theorem pvAdd_ne2 {a : Nat} (h : a ≠ q) : (pvAdd pv q aa fs al).2.2.2 a = pv.2.2.2 a := if_neg h
theorem pvAdd_eq1 : (pvAdd pv q aa fs al).2.1 q = fun k => fs.getD k 0 := by funext k; exact if_pos rfl
theorem pvAdd_eq2 : (pvAdd pv q aa fs al).2.2.2 q = al := if_pos rfl
theorem RLi.grow (hq : ¬ pv.1 q) {n b : Nat} {row : Nat → Option Nat} {zc : Nat → Int32} (h : RLi CW pv n row zc b) : RLi CW (pvAdd pv q aa fs al) n row zc b := by
  intro k hk
  obtain ⟨a, ha, h1, h2, h3⟩ := h k hk
  have ne : a ≠ q := fun e => hq (e ▸ h1)
  refine ⟨a, ha, Or.inl h1, fun j hj => ?_, ?_⟩
  · rw [pvAdd_ne1 ne]; exact h2 j hj
  · rw [pvAdd_ne1 ne, pvAdd_ne2 ne]; exact h3
theorem RLi.snoc (hq : ¬ pv.1 q) {n : Nat} {row : Nat → Option Nat} {zc zc' : Nat → Int32} (h : RLi CW pv n row zc 0) (hz : ∀ m, m < 5 * n → zc' m = zc m) (hz5 : ∀ j, j < 5 → zc' (5 * n + j) = fs.getD j 0) (hc : CW (fun k => fs.getD k 0) al) : RLi CW (pvAdd pv q aa fs al) (n + 1) (va_up row n (some q)) zc' 0 := by
  intro k hk
  by_cases e : k = n
  · subst e
    refine ⟨q, va_up_self _ _ _, Or.inr rfl, fun j hj => ?_, ?_⟩
    · rw [pvAdd_eq1]
      show fs.getD j 0 = zc' (0 + 5 * k + j)
      rw [Nat.zero_add, hz5 j hj]
    · rw [pvAdd_eq1, pvAdd_eq2]; exact hc
  · obtain ⟨a, ha, h1, h2, h3⟩ := h k (by omega)
    have ne : a ≠ q := fun e => hq (e ▸ h1)
    refine ⟨a, by rw [va_up_ne _ _ e]; exact ha, Or.inl h1, fun j hj => ?_, ?_⟩
    · rw [pvAdd_ne1 ne, h2 j hj]
      show zc (0 + 5 * k + j) = zc' (0 + 5 * k + j)
      rw [hz _ (by omega)]
    · rw [pvAdd_ne1 ne, pvAdd_ne2 ne]; exact h3
end ADDC
theorem WFn.ne {kd : Nat} {it : Nat → Nat} {p : Nat} {f : Nat → Int32} (h : WFn kd it p f) : ¬ f 1 = f 2 ∧ ¬ f 1 = f 3 ∧ (¬ f 2 < 0 → ¬ f 2 = f 3) := by
  obtain ⟨h1, h2, h3, h4, h5, h6, h7⟩ := h
  have f1 : f 1 = if 0 < mI kd then nI (it 0) else -6 := h5 0 (by decide)
  have f2 : f 2 = if 1 < mI kd then nI (it 1) else -6 := h5 1 (by decide)
  have f3 : f 3 = if 2 < mI kd then nI (it 2) else -6 := h5 2 (by decide)
  have hm := mI_le kd
  have nn : ∀ i j, i < mI kd → j < mI kd → i ≠ j → ¬ nI (it i) = nI (it j) := fun i j hi hj hne e => h3 i j hi hj hne ((nI_eq (by have := h2 i hi; omega) (by have := h2 j hj; omega)).mp e)
  rw [if_pos (by omega)] at f1
  rw [f1, f2, f3]
  refine ⟨?_, ?_, ?_⟩
  · by_cases q : 1 < mI kd
    · rw [if_pos q]; exact nn 0 1 (by omega) q (by decide)
    · rw [if_neg q]; exact ne6 _ (h2 0 (by omega))
  · by_cases q : 2 < mI kd
    · rw [if_pos q]; exact nn 0 2 (by omega) q (by decide)
    · rw [if_neg q]; exact ne6 _ (h2 0 (by omega))
  · by_cases q : 1 < mI kd
    · rw [if_pos q]
      intro _
      by_cases r : 2 < mI kd
      · rw [if_pos r]; exact nn 1 2 q r (by decide)
      · rw [if_neg r]; exact ne6 _ (h2 1 q)
    · rw [if_neg q]
      intro z
      exact absurd (show (-6 : Int32) < 0 by decide) z
theorem m_tail {kd : Nat} {it : Nat → Nat} {p : Nat} {f : Nat → Int32} (hw : WFn kd it p f) {m : Nat} (hm : m ≤ 12) {zc zt : Nat → Int32} {zs zf : Int32} {Q : Int32 → Int32 → Int32 → Int32 → (Nat → Int32) → Prop} (hp : f 0 = 5 → f 4 = zt 3 - 48) (hp' : ¬ f 0 = 5 → f 4 = -6)
    (hfull : m = 12 → Q (-4) (nI m) zs zf zc) (hgo : m < 12 → ∀ zc', (∀ i, i < 5 * m → zc' i = zc i) → (∀ j, j < 5 → zc' (5 * m + j) = f j) → Q (nI m) (nI (m + 1)) 0 zf zc') : wp_X7_clue_81 Q zt (f 0) (f 1) (f 2) (f 3) zc (nI m) zs zf := by
  obtain ⟨n1, n2, n3⟩ := hw.ne
  have tail : wp_X7_clue_110 Q zt (f 0) (f 1) (f 2) (f 3) zc (nI m) zs zf := by
    refine ⟨fun c => hfull ((nI_eq (b := 12) (by omega) (by decide)).mp c), fun c => ?_⟩
    have hlt : m < 12 := by
      have : ¬ m = 12 := fun e => c (by rw [e]; rfl)
      omega
    intro w ew
    rw [show (5 : Int32) = nI 5 from rfl, pk_mul] at ew
    subst ew
    rw [nI_1, show (2 : Int32) = nI 2 from rfl, show (3 : Int32) = nI 3 from rfl, show (4 : Int32) = nI 4 from rfl, nI_add, nI_add, nI_add, nI_clamp (n := 5 * m) (by omega), nI_clamp (n := 5 * m + 1) (by omega), nI_clamp (n := 5 * m + 2) (by omega), nI_clamp (n := 5 * m + 3) (by omega)]
    have fin : wp_X7_clue_197 Q (f 4) (nI (5 * m + 4)) (upd (upd (upd (upd zc (5 * m) (f 0)) (5 * m + 1) (f 1)) (5 * m + 2) (f 2)) (5 * m + 3) (f 3)) (nI m) zs zf := by
      refine ⟨vp_in_nI (by omega) (by decide), ?_⟩
      rw [nI_1, nI_pred, nI_clamp (n := 5 * m + 4) (by omega)]
      refine hgo hlt _ (fun i hi => ?_) (fun j hj => ?_)
      · rw [pk_un (by omega), pk_un (by omega), pk_un (by omega), pk_un (by omega), pk_un (by omega)]
      · rcases (show j = 0 ∨ j = 1 ∨ j = 2 ∨ j = 3 ∨ j = 4 by omega) with e | e | e | e | e <;> subst e
        · rw [pk_un (by omega), pk_un (by omega), pk_un (by omega), pk_un (by omega), Nat.add_zero, pk_us]
        · rw [pk_un (by omega), pk_un (by omega), pk_un (by omega), pk_us]
        · rw [pk_un (by omega), pk_un (by omega), pk_us]
        · rw [pk_un (by omega), pk_us]
        · rw [pk_us]
    refine ⟨vp_in_nI (by omega) (by decide), vp_in_nI (by omega) (by decide), vp_in_nI (by omega) (by decide), vp_in_nI (by omega) (by decide), fun e => ?_, fun e => ?_⟩
    · have e4 : f 4 = zt (nI 3).toNatClampNeg - 48 := by rw [nI_clamp (by decide)]; exact hp e
      rw [← e4]; exact fin
    · rw [← hp' e]; exact fin
  exact ⟨fun e => absurd e n1, fun _ => ⟨fun e => absurd e n2, fun _ => ⟨fun _ => tail, fun z => ⟨fun e => absurd e (n3 z), fun _ => tail⟩⟩⟩⟩
