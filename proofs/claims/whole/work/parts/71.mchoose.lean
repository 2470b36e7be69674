/-! ===== mathematics: Grids.choose ===== -/
theorem e_fill {n0 : Nat} (hn : n0 < 1000000) {v : Int32} {f : Nat → Int32} {Q : (Nat → Int32) → Prop} (h : ∀ f', (∀ j, j < n0 → f' j = v) → Q f') : wp_J7_fill_53178 n0 v f Q := by
  rintro _ rfl
  refine ⟨fun l2 l3 g => l3 = nI n0 ∧ ∃ k, k ≤ n0 ∧ l2 = nI k ∧ ∀ j, j < k → g j = v, fun l2 _ _ => n0 - l2.toNatClampNeg, ⟨rfl, 0, Nat.zero_le _, nI_0.symm, fun j hj => absurd hj (Nat.not_lt_zero _)⟩, ?_⟩
  rintro l2 l3 g ⟨rfl, k, hk, rfl, q⟩
  refine ⟨fun d => ?_, fun d => ?_⟩
  · have e : k = n0 := Nat.le_antisymm hk ((nI_leI (by omega) (by omega)).mp d)
    subst e
    exact h g q
  · have hlt : k < n0 := Nat.lt_of_not_le (fun q => d ((nI_leI (by omega) (by omega)).mpr q))
    rw [nI_1, nI_clamp (n := k) (by omega)]
    refine ⟨vp_in_nI hlt (by omega), ⟨rfl, k + 1, hlt, rfl, fun j hj => ?_⟩, mu_dec hlt (by omega)⟩
    by_cases e : j = k
    · subst e; rw [pk_us]
    · rw [pk_un e]; exact q j (by omega)
/-- n clues of the class, Mk being what each asks -/
def CLs (pv : PV) (n : Nat) (row : Nat → Option Nat) (Mk : Nat → (Nat → Nat) → Prop) : Prop := ∀ k, k < n → ∃ a, row k = some a ∧ pv.1 a ∧ TK (pv.2.1 a 5) (pv.2.1 a 6) (pv.2.1 a 7) (pv.2.2.2 a) (Mk k)
/-- the chosen clues are met -/
def Mset (n : Nat) (set : Int32) (Mk : Nat → (Nat → Nat) → Prop) (od : Nat → Nat) : Prop := ∀ k, k < n → bt set k = true → Mk k od
theorem b_allh {i : Nat} (h : 24 ≤ i) : bt 16777215 i = false := by
  by_cases q : i < 32
  · rw [b_all i q, decide_eq_false (by omega)]
  · exact b_big (by omega)
theorem b_alll {i : Nat} (h : i < 24) : bt 16777215 i = true := by rw [b_all i (by omega), decide_eq_true h]
theorem pst_01 : pst 0 1 = 0 ∧ pst 0 2 = 24 ∧ pst 0 3 = 48 ∧ pst 1 2 = 72 ∧ pst 1 3 = 96 ∧ pst 2 3 = 120 := by decide +kernel
set_option maxHeartbeats 1000000 in
theorem e_X3_choose {pv : PV} {n : Nat} (hn : n ≤ 12) {row : Nat → Option Nat} {Mk : Nat → (Nat → Nat) → Prop} (hc : CLs pv n row Mk) {set : Int32} {al pr or : Nat → Int32} {br cr : Nat → Option Nat} {Q : Int32 → (Nat → Int32) → (Nat → Int32) → Int32 → (Nat → Option Nat) → Int32 → (Nat → Option Nat) → (Nat → Int32) → Prop}
    (h : ∀ nb nc tl al pr bs br cs cr or, GS pv nb nc (Mset n set Mk) tl al pr bs br cs cr → (∀ c, c < n → bt set c = false → nb < 12 ∧ nc < 12) → Q tl al pr bs br cs cr or) : wp_X3_choose set pv al pr br cr or (nI n) row Q := by
  refine e_fill (by decide) (fun al1 hal => e_fill (by decide) (fun pr1 hpr => ?_))
  refine ⟨fun l3 tl al pr bs br cs cr or => ∃ k nb nc, k ≤ n ∧ l3 = nI k ∧ nb ≤ k ∧ nc ≤ k ∧ (∀ c, c < k → bt set c = false → nb < k ∧ nc < k) ∧ GS pv nb nc (Mset k set Mk) tl al pr bs br cs cr, fun l3 _ _ _ _ _ _ _ _ => 12 - l3.toNatClampNeg, ⟨0, 0, 0, Nat.zero_le _, nI_0.symm, Nat.le_refl _, Nat.le_refl _, fun c hc => absurd hc (Nat.not_lt_zero _), ?_⟩, ?_⟩
  · refine ⟨by decide, by decide, nI_0.symm, nI_0.symm, zb0, fun c hc i hi => ?_, fun _ => ⟨rfl, fun c hc d hd => ?_⟩, fun k hk => absurd hk (Nat.not_lt_zero _), fun k hk => absurd hk (Nat.not_lt_zero _), fun od ho => ?_⟩
    · rw [hal c hc]; exact b_allh hi
    · rw [hpr _ (by omega)]; exact b_alll hd
    · refine ⟨fun _ => ⟨⟨fun c hc => ?_, fun t ht l hl => ?_⟩, fun k hk => absurd hk (Nat.not_lt_zero _), fun k hk => absurd hk (Nat.not_lt_zero _)⟩, fun _ k hk => absurd hk (Nat.not_lt_zero _)⟩
      · rw [hal c hc]; exact b_alll (ho c hc)
      · have h1 := (pst_ok t ht l hl).2
        have h2 : od l < 24 := ho l (by omega)
        rw [hpr _ (by omega)]
        exact b_alll (ho t ht)
  · rintro l3 tl al pr bs br cs cr or ⟨k, nb, nc, hk, rfl, b1, b2, b3, hg⟩
    refine ⟨fun d => ?_, fun d => ?_⟩
    · have e : k = n := Nat.le_antisymm hk ((nI_leI (by omega) (by omega)).mp d)
      subst e
      refine h nb nc _ _ _ _ _ _ _ _ hg (fun c hc hf => ?_)
      have := b3 c hc hf
      omega
    · have hlt : k < n := Nat.lt_of_not_le (fun q => d ((nI_leI (by omega) (by omega)).mpr q))
      have mu := mu_dec (B := 12) (i := k) (by omega) (by decide)
      rw [nI_1]
      refine e_X6_isIn (by omega) (fun hb => ⟨fun z => absurd z (by decide), fun _ => ?_⟩) (fun hb => ⟨fun _ => ⟨⟨k + 1, nb, nc, hlt, rfl, by omega, by omega, fun c _ _ => by omega, ?_⟩, mu⟩, fun z => absurd rfl z⟩)
      · obtain ⟨a, ha, hp, hT⟩ := hc k hlt
        refine ⟨vp_in_nI (by omega) (by decide), a, by rw [nI_clamp (by omega)]; exact ha, ?_⟩
        refine e_X3_take hg hp hT (Or.inr ⟨by omega, by omega⟩) (fun nb' nc' tl' al' pr' bs' br' cs' cr' or' q1 q2 hg' => ⟨⟨k + 1, nb', nc', hlt, rfl, by omega, by omega, fun c hc hf => ?_, ?_⟩, mu⟩)
        · have : c ≠ k := fun e => by rw [e, hb] at hf; cases hf
          have := b3 c (by omega) hf
          omega
        · refine hg'.congr (fun od _ => ?_)
          constructor
          · intro q
            exact ⟨fun j hj => q j (by omega), q k (by omega) hb⟩
          · rintro ⟨q1, q2⟩ j hj hbj
            by_cases e : j = k
            · subst e; exact q2
            · exact q1 j (by omega) hbj
      · refine hg.congr (fun od _ => ?_)
        constructor
        · intro q j hj
          exact q j (by omega)
        · intro q j hj hbj
          by_cases e : j = k
          · subst e; rw [hb] at hbj; cases hbj
          · exact q j (by omega) hbj
