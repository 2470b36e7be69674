/-! ===== mathematics: clue(), both sides ===== -/
theorem m_clue4 {zt zc : Nat → Int32} {m : Nat} {zf : Int32} {Q : Int32 → Int32 → Int32 → Int32 → (Nat → Int32) → Prop} (hfp : ∀ v, FP zt 4 v → v = -6) (a0 : isLet (zt 0)) (a1 : isFig (zt 1)) (a2 : zt 2 = 64) (h : wp_X7_clue_81 Q zt 5 (nI (itN zt 0)) (-6) (-6) zc (nI m) (nI 4) zf) : wp_X7_clue zc (nI m) zt (nI 4) zf Q := by
  refine e_X7_faultNow (by decide) (fun v hv => ?_)
  rw [hfp v hv]
  refine ⟨fun _ => ⟨fun c => absurd c (by decide), fun _ => ?_⟩, fun z => absurd (by decide) z⟩
  rw [cl2, a2]
  refine e_X7_kindOf ?_
  show wp_X7_clue_40 Q zt 5 zc (nI m) (nI 4) zf
  exact e_X7_itemAt (i := 0) (by decide) a0 a1 ⟨fun _ => ⟨fun c => absurd c (by decide), fun _ => h⟩, fun z => absurd rfl z⟩
theorem m_clue5 {zt zc : Nat → Int32} {m k : Nat} {zf : Int32} {Q : Int32 → Int32 → Int32 → Int32 → (Nat → Int32) → Prop} (hfp : ∀ v, FP zt 5 v → v = -6) (a0 : isLet (zt 0)) (a1 : isFig (zt 1)) (hk : k ≤ 4) (a2 : knd (zt 2) = nI k) (a3 : isLet (zt 3)) (a4 : isFig (zt 4)) (h : wp_X7_clue_81 Q zt (nI k) (nI (itN zt 0)) (nI (itN zt 3)) (-6) zc (nI m) (nI 5) zf) : wp_X7_clue zc (nI m) zt (nI 5) zf Q := by
  have k5 : ¬ nI k = 5 := fun e => absurd ((nI_eq (b := 5) (by omega) (by decide)).mp e) (by omega)
  have k6 : ¬ nI k = 6 := fun e => absurd ((nI_eq (b := 6) (by omega) (by decide)).mp e) (by omega)
  refine e_X7_faultNow (by decide) (fun v hv => ?_)
  rw [hfp v hv]
  refine ⟨fun _ => ⟨fun c => absurd c (by decide), fun _ => ?_⟩, fun z => absurd (by decide) z⟩
  rw [cl2]
  refine e_X7_kindOf ?_
  rw [a2]
  exact e_X7_itemAt (i := 0) (by decide) a0 a1 ⟨fun c => absurd c k5, fun _ => e_X7_itemAt (i := 3) (by decide) a3 a4 ⟨fun c => absurd c k6, fun _ => h⟩⟩
theorem m_clue8 {zt zc : Nat → Int32} {m : Nat} {zf : Int32} {Q : Int32 → Int32 → Int32 → Int32 → (Nat → Int32) → Prop} (hfp : ∀ v, FP zt 8 v → v = -6) (a0 : isLet (zt 0)) (a1 : isFig (zt 1)) (a3 : isLet (zt 3)) (a4 : isFig (zt 4)) (a6 : isLet (zt 6)) (a7 : isFig (zt 7)) (h : wp_X7_clue_81 Q zt 6 (nI (itN zt 0)) (nI (itN zt 3)) (nI (itN zt 6)) zc (nI m) (nI 8) zf) : wp_X7_clue zc (nI m) zt (nI 8) zf Q := by
  refine e_X7_faultNow (by decide) (fun v hv => ?_)
  rw [hfp v hv]
  refine ⟨fun _ => ⟨fun _ => ?_, fun z => absurd rfl z⟩, fun z => absurd (by decide) z⟩
  exact e_X7_itemAt (i := 0) (by decide) a0 a1 ⟨fun c => absurd c (by decide), fun _ => e_X7_itemAt (i := 3) (by decide) a3 a4 ⟨fun _ => e_X7_itemAt (i := 6) (by decide) a6 a7 h, fun z => absurd rfl z⟩⟩
theorem itN_congr {t t' : Nat → Int32} {i : Nat} (h1 : t i = t' i) (h2 : t (i + 1) = t' (i + 1)) : itN t i = itN t' i := by unfold itN; rw [h1, h2]
set_option maxHeartbeats 1000000 in
theorem op_clue {pv : PV} {lf zf ts zs sz many k1 k2 k3 k4 k5 : Int32} {sg zt zc : Nat → Int32} {row : Nat → Option Nat} (ht : RT ts sg zs zt) (h : RC CWd pv sz row many zc) (hf : lf = zf)
    {F : Int32 → Int32 → Int32 → Int32 → (Nat → Option Nat) → Int32 → Int32 → Int32 → Int32 → Int32 → EX → Int32 → Int32 → Int32 → Int32 → (Nat → Int32) → Prop}
    (hF0 : ∀ r lf' zf', lf' = zf' → F r lf' ts sz row k1 k2 k3 k4 k5 none r many zs zf' zc)
    (hF : ∀ r sz' row' ex many' zc', RC CWd (exPv pv ex) sz' row' many' zc' → (∀ n row2 zi b, RLi CWd pv n row2 zi b → RLi CWd (exPv pv ex) n row2 zi b) → F r lf 0 sz' row' (-6) (-6) (-6) (-6) 0 ex r many' 0 zf zc') :
    wp_X6_clue pv lf ts sg sz row k1 k2 k3 k4 k5 (fun r a b c d e1 e2 e3 e4 e5 ex => wp_X7_clue zc many zt zs zf (fun r2 m2 s2 f2 z2 => F r a b c d e1 e2 e3 e4 e5 ex r2 m2 s2 f2 z2)) := by
  obtain ⟨n, hn, rfl, rfl, htt⟩ := ht
  obtain ⟨m, hm, rfl, rfl, hl⟩ := h
  subst hf
  refine e_X5_faultPlace hn (fun v hv => ⟨fun e => ?_, fun e => ?_⟩)
  · subst e
    have hfp : ∀ v, FP zt n v → v = -6 := fun v hv' => (FP_uniq hn htt hv hv').symm
    obtain ⟨hc, hw⟩ : (∀ j, j < n → cst sg j) ∧ (n = 8 ∨ n = 5 ∨ (n = 4 ∧ sg 2 = 64)) := by
      rcases hv with ⟨i, hi, _, _, ei⟩ | ⟨hc, ⟨w, _⟩ | ⟨_, ei⟩⟩
      · exact absurd ei.symm (ne6 i (by omega))
      · exact ⟨hc, w⟩
      · exact absurd ei.symm (ne6 n (by omega))
    have hz : ∀ j, j < n → cst zt j := fun j hj => (cst_congr htt hj).mp (hc j hj)
    have a0 : isLet (sg 0) := hc 0 (by omega)
    have a1 : isFig (sg 1) := hc 1 (by omega)
    have b0 : isLet (zt 0) := hz 0 (by omega)
    have b1 : isFig (zt 1) := hz 1 (by omega)
    have x16 := (item_ok b0 b1).2
    have ex0 : itN sg 0 = itN zt 0 := itN_congr (htt 0 (by omega)) (htt 1 (by omega))
    have hlt : ∀ k : Nat, nI m < 12 → m < 12 := fun _ q => (nI_ltI (b := 12) (by omega) (by decide)).mp q
    -- a clue of the numbers f, made and put at the end of the row
    have add : ∀ {kd : Nat} {it : Nat → Nat} {p : Nat} {f : Nat → Int32}, WFn kd it p f → m < 12 → ∀ (g : Nat → Nat → Int32 → Int32 → Int32 → (Nat → Int32) → Prop), (∀ q1 q2 top low high al, ¬ pv.1 q1 → TKo kd it p top low high al → g q1 q2 top low high al) → wp_X1_of (f 0) (f 1) (f 2) (f 3) (f 4) pv (fun q1 q2 _ _ _ _ _ top low high al => g q1 q2 top low high al) := fun hw _ g hg => e_X1_of hw (fun q1 q2 top low high al hq hT => hg q1 q2 top low high al hq hT)
    have fin : ∀ {kd : Nat} {it : Nat → Nat} {p : Nat} {f : Nat → Int32}, WFn kd it p f → m < 12 → (∀ (Q : Int32 → Int32 → Int32 → Int32 → (Nat → Int32) → Prop), (∀ zc', (∀ i, i < 5 * m → zc' i = zc i) → (∀ j, j < 5 → zc' (5 * m + j) = f j) → Q (nI m) (nI (m + 1)) 0 lf zc') → wp_X7_clue zc (nI m) zt (nI n) lf Q) → ∀ q1 q2 top low high al, ¬ pv.1 q1 → TKo kd it p top low high al →
        wp_X2_add q1 (pvAdd pv q1 q2 [f 0, f 1, f 2, f 3, f 4, top, low, high] al) (nI m) row (fun w17 w18 => wp_X6_forgetWhatWasFound (fun w19 w20 w21 w22 w23 => wp_X7_clue zc (nI m) zt (nI n) lf (fun r2 m2 s2 f2 z2 => F (w17 - 1) lf 0 w17 w18 w19 w20 w21 w22 w23 (some (q1, q2, [f 0, f 1, f 2, f 3, f 4, top, low, high], al)) r2 m2 s2 f2 z2))) := by
      intro kd it p f hw hmlt hmod q1 q2 top low high al hq hT
      refine ⟨fun c => absurd ((nI_leI (a := 12) (by decide) (by omega)).mp c) (by omega), fun _ => ⟨Or.inr rfl, vp_in_nI hmlt (by decide), ?_⟩⟩
      rw [nI_1, nI_clamp (n := m) (by omega)]
      refine hmod _ (fun zc' z1 z2 => ?_)
      rw [nI_pred]
      refine hF (nI m) _ _ (some (q1, q2, [f 0, f 1, f 2, f 3, f 4, top, low, high], al)) _ _ ⟨m + 1, by omega, rfl, rfl, ?_⟩ (fun _ _ _ _ hr => hr.grow hq)
      refine hl.snoc hq z1 (fun j hj => ?_) ⟨kd, it, p, ?_, hT⟩
      · rw [z2 j hj]
        rcases (show j = 0 ∨ j = 1 ∨ j = 2 ∨ j = 3 ∨ j = 4 by omega) with e | e | e | e | e <;> subst e <;> rfl
      · obtain ⟨h1, h2, h3, h4, h5, h6, h7⟩ := hw
        refine ⟨h1, h2, h3, h4, fun i hi => ?_, h6, h7⟩
        rcases (show i = 0 ∨ i = 1 ∨ i = 2 by omega) with e | e | e <;> subst e
        · exact h5 0 (by decide)
        · exact h5 1 (by decide)
        · exact h5 2 (by decide)
    rcases hw with e | e | ⟨e, e64⟩
    · subst e
      obtain ⟨c5, c5'⟩ : sg 2 = 61 ∧ sg 5 = 124 := hc 5 (by decide)
      have n64 : ¬ sg 2 = 64 := by rw [c5]; decide
      have a3 : isLet (sg 3) := ((hc 3 (by decide) : (sg 2 = 64 ∧ isFig (sg 3)) ∨ (¬ sg 2 = 64 ∧ isLet (sg 3))).resolve_left (fun q => n64 q.1)).2
      have a4 : isFig (sg 4) := (hc 4 (by decide) : ¬ sg 2 = 64 ∧ isFig (sg 4)).2
      have a6 : isLet (sg 6) := hc 6 (by decide)
      have a7 : isFig (sg 7) := hc 7 (by decide)
      have b3 : isLet (zt 3) := htt 3 (by decide) ▸ a3
      have b4 : isFig (zt 4) := htt 4 (by decide) ▸ a4
      have b6 : isLet (zt 6) := hz 6 (by decide)
      have b7 : isFig (zt 7) := hz 7 (by decide)
      have y16 := (item_ok b3 b4).2
      have z16 := (item_ok b6 b7).2
      have ey : itN sg 3 = itN zt 3 := itN_congr (htt 3 (by decide)) (htt 4 (by decide))
      have ez : itN sg 6 = itN zt 6 := itN_congr (htt 6 (by decide)) (htt 7 (by decide))
      have ieq : ∀ a b, a < 16 → b < 16 → (nI a = nI b ↔ a = b) := fun a b ha hb => nI_eq (by omega) (by omega)
      have mno : (itN zt 0 = itN zt 3 ∨ itN zt 0 = itN zt 6 ∨ itN zt 3 = itN zt 6) → ∀ (Q : Int32 → Int32 → Int32 → Int32 → (Nat → Int32) → Prop), Q (-5) (nI m) (nI 8) lf zc → wp_X7_clue zc (nI m) zt (nI 8) lf Q := by
        intro hd Q hQ
        refine m_clue8 hfp b0 b1 b3 b4 b6 b7 ⟨fun _ => hQ, fun d1 => ⟨fun _ => hQ, fun d2 => ⟨fun d => absurd d (nI_pos (by omega)), fun _ => ⟨fun _ => hQ, fun d3 => ?_⟩⟩⟩⟩
        rcases hd with q | q | q
        · exact absurd (by rw [q]) d1
        · exact absurd (by rw [q]) d2
        · exact absurd (by rw [q]) d3
      have rep : ∀ {Q : Int32 → Prop}, ((itN zt 0 = itN zt 3 ∨ itN zt 0 = itN zt 6 ∨ itN zt 3 = itN zt 6) → Q 1) → (¬ (itN zt 0 = itN zt 3 ∨ itN zt 0 = itN zt 6 ∨ itN zt 3 = itN zt 6) → Q 0) → wp_X5_repeatsAnItem (nI 8) sg Q := by
        intro Q q1 q0
        unfold wp_X5_repeatsAnItem
        rw [cl2]
        refine ⟨fun d => absurd d n64, fun _ => e_X5_itemAt (i := 0) (by decide) a0 a1 (e_X5_itemAt (i := 3) (by decide) a3 a4 ⟨fun _ => e_X5_itemAt (i := 6) (by decide) a6 a7 ?_, fun z => absurd (by decide) z⟩)⟩
        rw [ex0, ey, ez]
        refine ⟨fun d => q1 (Or.inl ((ieq _ _ x16 y16).mp d)), fun d1 => ⟨fun d => q1 (Or.inr (Or.inl ((ieq _ _ x16 z16).mp d))), fun d2 => ⟨fun d => q1 (Or.inr (Or.inr ((ieq _ _ y16 z16).mp d))), fun d3 => q0 ?_⟩⟩⟩
        rintro (q | q | q)
        · exact d1 (by rw [q])
        · exact d2 (by rw [q])
        · exact d3 (by rw [q])
      refine rep (fun hd => ⟨fun z => absurd z (by decide), fun _ => mno hd _ (hF0 _ _ _ rfl)⟩) (fun hd => ⟨fun _ => ?_, fun z => absurd rfl z⟩)
      have wf : WFn 6 (fun i => if i = 0 then itN zt 0 else if i = 1 then itN zt 3 else itN zt 6) 0 (fun j => ([6, nI (itN zt 0), nI (itN zt 3), nI (itN zt 6), -6] : List Int32).getD j 0) := by
        refine ⟨by decide, fun i hi => ?_, fun i j hi hj hne => ?_, rfl, fun i hi => ?_, fun q => absurd q (by decide), fun _ => rfl⟩
        · have hi : i < 3 := hi
          rcases (show i = 0 ∨ i = 1 ∨ i = 2 by omega) with e | e | e <;> subst e <;> assumption
        · have hi : i < 3 := hi
          have hj : j < 3 := hj
          have d1 : itN zt 0 ≠ itN zt 3 := fun q => hd (Or.inl q)
          have d2 : itN zt 0 ≠ itN zt 6 := fun q => hd (Or.inr (Or.inl q))
          have d3 : itN zt 3 ≠ itN zt 6 := fun q => hd (Or.inr (Or.inr q))
          rcases (show i = 0 ∨ i = 1 ∨ i = 2 by omega) with e | e | e <;> subst e <;> rcases (show j = 0 ∨ j = 1 ∨ j = 2 by omega) with e | e | e <;> subst e
          · exact absurd rfl hne
          · exact d1
          · exact d2
          · exact d1.symm
          · exact absurd rfl hne
          · exact d3
          · exact d2.symm
          · exact d3.symm
          · exact absurd rfl hne
        · rcases (show i = 0 ∨ i = 1 ∨ i = 2 by omega) with e | e | e <;> subst e <;> rfl
      have mgo : ∀ (Q : Int32 → Int32 → Int32 → Int32 → (Nat → Int32) → Prop), (m = 12 → Q (-4) (nI m) (nI 8) lf zc) → (m < 12 → ∀ zc', (∀ i, i < 5 * m → zc' i = zc i) → (∀ j, j < 5 → zc' (5 * m + j) = ([6, nI (itN zt 0), nI (itN zt 3), nI (itN zt 6), -6] : List Int32).getD j 0) → Q (nI m) (nI (m + 1)) 0 lf zc') → wp_X7_clue zc (nI m) zt (nI 8) lf Q :=
        fun Q g1 g2 => m_clue8 hfp b0 b1 b3 b4 b6 b7 (m_tail wf hm (fun q => absurd (show (6 : Int32) = 5 from q) (by decide)) (fun _ => rfl) g1 g2)
      refine ⟨fun d => ?_, fun d => mgo _ (fun _ => hF0 _ _ _ rfl) (fun q => absurd ((nI_ltI (b := 12) (by omega) (by decide)).mpr q) d)⟩
      have hmlt := hlt 0 d
      unfold wp_X5_toClue
      rw [cl2]
      refine e_X5_itemAt (i := 0) (by decide) a0 a1 ⟨fun q => absurd q n64, fun _ => e_X5_itemAt (i := 3) (by decide) a3 a4 ⟨fun _ => e_X5_itemAt (i := 6) (by decide) a6 a7 ?_, fun z => absurd rfl z⟩⟩
      rw [ex0, ey, ez]
      exact e_X1_of wf (fun q1 q2 top low high al hq hT => fin wf hmlt (fun Q g => mgo Q (fun q => absurd q (by omega)) (fun _ => g)) q1 q2 top low high al hq hT)
    · subst e
      obtain ⟨n64, a4⟩ : ¬ sg 2 = 64 ∧ isFig (sg 4) := hc 4 (by decide)
      have a3 : isLet (sg 3) := ((hc 3 (by decide) : (sg 2 = 64 ∧ isFig (sg 3)) ∨ (¬ sg 2 = 64 ∧ isLet (sg 3))).resolve_left (fun q => n64 q.1)).2
      have b3 : isLet (zt 3) := htt 3 (by decide) ▸ a3
      have b4 : isFig (zt 4) := htt 4 (by decide) ▸ a4
      have n64' : ¬ zt 2 = 64 := htt 2 (by decide) ▸ n64
      obtain ⟨k, hk, ek⟩ := knd_k (hz 2 (by decide)) n64'
      have eks : knd (sg 2) = nI k := by rw [htt 2 (by decide)]; exact ek
      have y16 := (item_ok b3 b4).2
      have ey : itN sg 3 = itN zt 3 := itN_congr (htt 3 (by decide)) (htt 4 (by decide))
      have ieq : ∀ a b, a < 16 → b < 16 → (nI a = nI b ↔ a = b) := fun a b ha hb => nI_eq (by omega) (by omega)
      have hmk : mI k = 2 := by unfold mI; rw [if_neg (by omega), if_neg (by omega)]
      have k5 : ¬ nI k = 5 := fun e => absurd ((nI_eq (b := 5) (by omega) (by decide)).mp e) (by omega)
      have mno : itN zt 0 = itN zt 3 → ∀ (Q : Int32 → Int32 → Int32 → Int32 → (Nat → Int32) → Prop), Q (-5) (nI m) (nI 5) lf zc → wp_X7_clue zc (nI m) zt (nI 5) lf Q := by
        intro hd Q hQ
        exact m_clue5 hfp b0 b1 hk ek b3 b4 ⟨fun _ => hQ, fun d1 => absurd (by rw [hd]) d1⟩
      have rep : ∀ {Q : Int32 → Prop}, (itN zt 0 = itN zt 3 → Q 1) → (¬ itN zt 0 = itN zt 3 → Q 0) → wp_X5_repeatsAnItem (nI 5) sg Q := by
        intro Q q1 q0
        unfold wp_X5_repeatsAnItem
        rw [cl2]
        refine ⟨fun d => absurd d n64, fun _ => e_X5_itemAt (i := 0) (by decide) a0 a1 (e_X5_itemAt (i := 3) (by decide) a3 a4 ⟨fun z => absurd z (by decide), fun _ => ?_⟩)⟩
        rw [ex0, ey]
        exact ⟨fun d => q1 ((ieq _ _ x16 y16).mp d), fun d1 => q0 (fun q => d1 (by rw [q]))⟩
      refine rep (fun hd => ⟨fun z => absurd z (by decide), fun _ => mno hd _ (hF0 _ _ _ rfl)⟩) (fun hd => ⟨fun _ => ?_, fun z => absurd rfl z⟩)
      have wf : WFn k (fun i => if i = 0 then itN zt 0 else itN zt 3) 0 (fun j => ([nI k, nI (itN zt 0), nI (itN zt 3), -6, -6] : List Int32).getD j 0) := by
        refine ⟨by omega, fun i hi => ?_, fun i j hi hj hne => ?_, rfl, fun i hi => ?_, fun q => absurd q (by omega), fun _ => rfl⟩
        · rw [hmk] at hi
          rcases (show i = 0 ∨ i = 1 by omega) with e | e <;> subst e <;> assumption
        · rw [hmk] at hi hj
          have d1 : itN zt 0 ≠ itN zt 3 := hd
          rcases (show i = 0 ∨ i = 1 by omega) with e | e <;> subst e <;> rcases (show j = 0 ∨ j = 1 by omega) with e | e <;> subst e
          · exact absurd rfl hne
          · exact d1
          · exact d1.symm
          · exact absurd rfl hne
        · rw [hmk]
          rcases (show i = 0 ∨ i = 1 ∨ i = 2 by omega) with e | e | e <;> subst e <;> rfl
      have mgo : ∀ (Q : Int32 → Int32 → Int32 → Int32 → (Nat → Int32) → Prop), (m = 12 → Q (-4) (nI m) (nI 5) lf zc) → (m < 12 → ∀ zc', (∀ i, i < 5 * m → zc' i = zc i) → (∀ j, j < 5 → zc' (5 * m + j) = ([nI k, nI (itN zt 0), nI (itN zt 3), -6, -6] : List Int32).getD j 0) → Q (nI m) (nI (m + 1)) 0 lf zc') → wp_X7_clue zc (nI m) zt (nI 5) lf Q :=
        fun Q g1 g2 => m_clue5 hfp b0 b1 hk ek b3 b4 (m_tail wf hm (fun q => absurd q k5) (fun _ => rfl) g1 g2)
      refine ⟨fun d => ?_, fun d => mgo _ (fun _ => hF0 _ _ _ rfl) (fun q => absurd ((nI_ltI (b := 12) (by omega) (by decide)).mpr q) d)⟩
      have hmlt := hlt 0 d
      unfold wp_X5_toClue
      rw [cl2]
      refine e_X5_itemAt (i := 0) (by decide) a0 a1 ⟨fun q => absurd q n64, fun _ => e_X5_itemAt (i := 3) (by decide) a3 a4 ⟨fun z => absurd z (by decide), fun _ => e_X5_kindOf ?_⟩⟩
      rw [ex0, ey, eks]
      exact e_X1_of wf (fun q1 q2 top low high al hq hT => fin wf hmlt (fun Q g => mgo Q (fun q => absurd q (by omega)) (fun _ => g)) q1 q2 top low high al hq hT)
    · subst e
      have b64 : zt 2 = 64 := htt 2 (by decide) ▸ e64
      have a3 : isFig (sg 3) := ((hc 3 (by decide) : (sg 2 = 64 ∧ isFig (sg 3)) ∨ (¬ sg 2 = 64 ∧ isLet (sg 3))).resolve_right (fun q => q.1 e64)).2
      have b3 : isFig (zt 3) := htt 3 (by decide) ▸ a3
      obtain ⟨i3, hi3, ei3⟩ := fig_ex b3
      have p48 : zt 3 - 48 = nI (1 + i3) := by
        rw [ei3]
        exact (show ∀ i, i < 4 → nI (49 + i) - 48 = nI (1 + i) by decide +kernel) i3 hi3
      have wf : WFn 5 (fun _ => itN zt 0) (1 + i3) (fun j => ([5, nI (itN zt 0), -6, -6, nI (1 + i3)] : List Int32).getD j 0) := by
        refine ⟨by decide, fun i hi => x16, fun i j hi hj hne => ?_, rfl, fun i hi => ?_, fun _ => ⟨by omega, by omega, rfl⟩, fun q => absurd rfl q⟩
        · have hi : i < 1 := hi
          have hj : j < 1 := hj
          omega
        · rcases (show i = 0 ∨ i = 1 ∨ i = 2 by omega) with e | e | e <;> subst e <;> rfl
      have mgo : ∀ (Q : Int32 → Int32 → Int32 → Int32 → (Nat → Int32) → Prop), (m = 12 → Q (-4) (nI m) (nI 4) lf zc) → (m < 12 → ∀ zc', (∀ i, i < 5 * m → zc' i = zc i) → (∀ j, j < 5 → zc' (5 * m + j) = ([5, nI (itN zt 0), -6, -6, nI (1 + i3)] : List Int32).getD j 0) → Q (nI m) (nI (m + 1)) 0 lf zc') → wp_X7_clue zc (nI m) zt (nI 4) lf Q :=
        fun Q g1 g2 => m_clue4 hfp b0 b1 b64 (m_tail wf hm (fun _ => p48.symm) (fun z => absurd rfl z) g1 g2)
      unfold wp_X5_repeatsAnItem
      rw [cl2]
      refine ⟨fun _ => ⟨fun _ => ?_, fun z => absurd rfl z⟩, fun z => absurd e64 z⟩
      refine ⟨fun d => ?_, fun d => mgo _ (fun _ => hF0 _ _ _ rfl) (fun q => absurd ((nI_ltI (b := 12) (by omega) (by decide)).mpr q) d)⟩
      have hmlt := hlt 0 d
      unfold wp_X5_toClue
      rw [cl2, show (3 : Int32).toNatClampNeg = 3 from by decide, htt 3 (by decide), p48]
      refine e_X5_itemAt (i := 0) (by decide) a0 a1 ⟨fun _ => ?_, fun z => absurd e64 z⟩
      rw [ex0]
      exact e_X1_of wf (fun q1 q2 top low high al hq hT => fin wf hmlt (fun Q g => mgo Q (fun q => absurd q (by omega)) (fun _ => g)) q1 q2 top low high al hq hT)
  · have hv0 : ¬ v < 0 := by
      rcases hv with ⟨i, hi, _, _, rfl⟩ | ⟨_, ⟨_, rfl⟩ | ⟨_, rfl⟩⟩
      · exact nI_pos (by omega)
      · exact absurd rfl e
      · exact nI_pos (by omega)
    refine e_X7_faultNow hn (fun v' hv' => ?_)
    have ev := FP_uniq hn htt hv hv'
    subst ev
    exact ⟨fun q => absurd q hv0, fun _ => hF0 _ _ _ rfl⟩
