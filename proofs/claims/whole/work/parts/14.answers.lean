/-! the answers out of the depths -/
theorem upK_ini {q : Nat → Bool} {S : Nat} {d : Nat → Int32} : upto S 0 (fd (iniC q) S 0 d) := fun i hi => by
  rw [ini_at hi]
  by_cases h : q i = true
  · rw [if_pos h]
    exact Or.inr ⟨0, Nat.le_refl _, rfl⟩
  · rw [if_neg h]
    exact Or.inl rfl
section ANS
variable {N : Nat} {cn : Nat → Nat} {P M : Nat → Nat → Int32} {P' M' : Nat → Int32}
/-- THE DEPTHS of a machine, on its states -/
def BF (N : Nat) (cn : Nat → Nat) (P M : Nat → Nat → Int32) : Nat → Int32 := findC N cn P M (fun _ => 0)
theorem find_BF (dep : Nat → Int32) : agr (2 ^ N) (findC N cn P M dep) (BF N cn P M) := by
  unfold BF findC
  exact levs_agr fun i hi => by rw [ini_at hi, ini_at hi]
theorem xpl_BF (h : Same N cn P M P' M') (dep : Nat → Int32) : agr (2 ^ N) (xplM N cn P' M' dep) (BF N cn P M) := by
  have hS := h.1.S
  have e : xplM N cn P' M' dep = findC N cn P M dep := by
    unfold xplM findC
    have e1 : (fun f t => goM N cn P' M' (nI f) (nI t)) = (fun f t => goC N cn P M (nI f) (nI t)) := by
      funext f t
      exact (go_go h _ _).symm
    have e2 : (fun i => soM N cn P' M' 0 (nI i)) = (fun i => inC cn P M 0 (nI i)) := by
      funext i
      exact (in_so h (by decide) _).symm
    rw [e1, e2]
    generalize hd : fd (iniC (fun i => inC cn P M 0 (nI i))) (2 ^ N) 0 dep = d
    have hu : upto (2 ^ N) 0 d := by rw [← hd]; exact upK_ini
    have hle := unr_le (2 ^ N) d
    exact xp_levs hS _ _ _ (Nat.zero_le _) hu (by omega) (by omega)
  rw [e]
  exact find_BF dep
theorem levs_gd {g : Nat → Nat → Bool} {S : Nat} (hS : S ≤ 64) : ∀ (n k : Nat) (d : Nat → Int32), k + n ≤ S → upto S k d → gd S (fdK (levC g S) n k d)
  | 0, k, d, hk, h => upto_gd (by omega) h
  | n + 1, k, d, hk, h => by
    simp only [fdK]
    exact levs_gd hS n (k + 1) _ (by omega) (lev_upto (by omega) h)
theorem BF_gd (hV : RInv N cn) : gd (2 ^ N) (BF N cn P M) := by
  unfold BF findC fd
  exact levs_gd hV.S _ _ _ (by simp) upK_ini
variable {d d' : Nat → Int32}
/-- what is said of the class's depths d and the reference's d' -/
def DD (N : Nat) (d d' : Nat → Int32) : Prop := agr (2 ^ N) d d' ∧ gd (2 ^ N) d
theorem DD_lt (h : DD N d d') {i : Nat} (hi : i < 2 ^ N) : decide (d i = -1) = decide (d' i < 0) := by
  rw [← h.1 i hi]
  rcases h.2 i hi with e | e
  · rw [decide_eq_true e, e]
    decide
  · rw [decide_eq_false (fun q => m1_ge q e), decide_eq_false (Int32.not_lt.mpr e)]
theorem wo_wo (hs : Same N cn P M P' M') (h : DD N d d') : woC N cn P M d = woM N cn P' M' d' := by
  unfold woC woM
  refine fo_cg fun i _ hi => ?_
  unfold rbC
  rw [in_so hs (by decide), DD_lt h hi]
theorem re_re (h : DD N d d') : reC N d = reM N d' := by
  unfold reC reM
  refine fd_rl (I := fun x y => x = y) (fun i x y hi e => ?_) rfl
  subst e
  simp only [cntF, DD_lt h hi]
/-- the least depth so far: NONE, or not below 0 -/
theorem st_st (hs : Same N cn P M P' M') (h : DD N d d') : stC N cn P M d = stM N cn P' M' d' := by
  unfold stC stM
  refine (fd_rl (I := fun x y : Int32 => x = y ∧ (x = -1 ∨ 0 ≤ x)) (fun i x y hi e => ?_) ⟨rfl, Or.inl rfl⟩).1
  obtain ⟨e, hx⟩ := e
  subst e
  have e1 : decide (x = -1) = decide (x < 0) := by
    rcases hx with q | q
    · rw [decide_eq_true q, q]
      decide
    · rw [decide_eq_false (fun z => m1_ge z q), decide_eq_false (Int32.not_lt.mpr q)]
  have e2 : (rbC d cn P M i && (decide (x = -1) || !decide (x ≤ d i))) = (!decide (d' i < 0) && ((decide (x < 0) || !decide (x ≤ d' i)) && soM N cn P' M' 2 (nI i))) := by
    unfold rbC
    rw [in_so hs (by decide), DD_lt h hi, e1, h.1 i hi]
    cases decide (d' i < 0) <;> cases soM N cn P' M' 2 (nI i) <;> cases (decide (x < 0) || !decide (x ≤ d' i)) <;> rfl
  dsimp only [minF]
  simp only [e2]
  by_cases hq : (!decide (d' i < 0) && ((decide (x < 0) || !decide (x ≤ d' i)) && soM N cn P' M' 2 (nI i))) = true
  · rw [if_pos hq, if_pos hq]
    exact ⟨h.1 i hi, h.2 i hi⟩
  · rw [if_neg hq, if_neg hq]
    exact ⟨rfl, hx⟩
theorem st_K {u : Nat → Int32 → Bool} {rb : Nat → Bool} (hu : ∀ i x, u i x = (rb i && (decide (x = -1) || !decide (x ≤ d i)))) {S : Nat} (hd : ∀ i, i < S → rb i = true → 0 ≤ d i) : ∀ (k i : Nat) (x : Int32), i + k ≤ S → (x = -1 ∨ 0 ≤ x) → ((0 ≤ fdK (minF u d) k i x) ↔ (0 ≤ x ∨ ∃ j, i ≤ j ∧ j < i + k ∧ rb j = true))
  | 0, i, x, _, _ => by
    simp only [fdK]
    exact ⟨Or.inl, fun h => h.elim id (fun ⟨j, h1, h2, _⟩ => by omega)⟩
  | k + 1, i, x, hs, hx => by
    simp only [fdK]
    have hlt : i < S := by omega
    cases hr : rb i with
    | false =>
      have e : minF u d i x = x := by
        unfold minF
        rw [hu, hr, Bool.false_and, if_neg (by decide)]
      rw [e, st_K hu hd k (i + 1) x (by omega) hx]
      constructor
      · rintro (h | ⟨j, h1, h2, h3⟩)
        · exact Or.inl h
        · exact Or.inr ⟨j, by omega, by omega, h3⟩
      · rintro (h | ⟨j, h1, h2, h3⟩)
        · exact Or.inl h
        · refine Or.inr ⟨j, ?_, by omega, h3⟩
          rcases Nat.lt_or_ge i j with q | q
          · exact q
          · rw [show j = i by omega, hr] at h3
            exact absurd h3 (by decide)
    | true =>
      have hdi := hd i hlt hr
      have hm : 0 ≤ minF u d i x := by
        unfold minF
        by_cases hq : u i x = true
        · rw [if_pos hq]; exact hdi
        · rw [if_neg hq]
          rcases hx with q | q
          · rw [hu, hr, decide_eq_true q] at hq
            exact absurd rfl hq
          · exact q
      rw [st_K hu hd k (i + 1) _ (by omega) (Or.inr hm)]
      exact ⟨fun _ => Or.inr ⟨i, Nat.le_refl _, by omega, hr⟩, fun _ => Or.inl hm⟩
theorem fo_none {q : Nat → Bool} : ∀ (k i : Nat), foK q k i = none ↔ ∀ j, i ≤ j → j < i + k → q j = false
  | 0, i => by
    exact ⟨fun _ j h1 h2 => by omega, fun _ => rfl⟩
  | k + 1, i => by
    simp only [foK]
    by_cases hq : q i = true
    · rw [if_pos hq]
      constructor
      · intro h
        cases h
      · intro h
        rw [h i (Nat.le_refl _) (by omega)] at hq
        exact absurd hq (by decide)
    · rw [if_neg hq, fo_none k (i + 1)]
      constructor
      · intro h j h1 h2
        by_cases e : j = i
        · subst e; simpa using hq
        · exact h j (by omega) (by omega)
      · exact fun h j h1 h2 => h j (by omega) (by omega)
theorem safe_safe (hs : Same N cn P M P' M') (h : DD N d d') : decide (oI (-1) (woC N cn P M d) = -1) = !decide (0 ≤ stM N cn P' M' d') := by
  rw [← st_st hs h]
  have hS := hs.1.S
  have hk := st_K (d := d) (u := fun i x => rbC d cn P M i && (decide (x = -1) || !decide (x ≤ d i))) (rb := rbC d cn P M) (fun _ _ => rfl) (S := 2 ^ N) (fun i hi hr => by
    rcases h.2 i hi with q | q
    · unfold rbC at hr
      rw [decide_eq_true q] at hr
      exact absurd hr (by simp)
    · exact q) (2 ^ N - 0) 0 (-1) (by simp) (Or.inl rfl)
  have hk2 : (0 ≤ stC N cn P M d) ↔ ∃ j, j < 2 ^ N ∧ rbC d cn P M j = true := by
    refine Iff.trans hk ⟨?_, ?_⟩
    · rintro (q | ⟨j, -, h2, h3⟩)
      · exact absurd q (by decide)
      · exact ⟨j, by omega, h3⟩
    · rintro ⟨j, h2, h3⟩
      exact Or.inr ⟨j, Nat.zero_le _, by omega, h3⟩
  cases hw : woC N cn P M d with
  | none =>
    have hn := (fo_none _ _).mp (show foK (rbC d cn P M) (2 ^ N - 0) 0 = none from hw)
    have hno : ¬ 0 ≤ stC N cn P M d := fun q => by
      obtain ⟨j, h1, h2⟩ := hk2.mp q
      rw [hn j (Nat.zero_le _) (by simpa using h1)] at h2
      exact absurd h2 (by decide)
    rw [decide_eq_false hno, decide_eq_true (show oI (-1) none = -1 from rfl)]
    rfl
  | some i =>
    have hi := fo_inK _ _ _ _ (show foK (rbC d cn P M) (2 ^ N - 0) 0 = some i from hw)
    rw [decide_eq_true (hk2.mpr ⟨i, by omega, hi.2.2⟩), decide_eq_false (fun q => nI_pos (n := i) (by omega) (by
      have q' : nI i = -1 := q
      rw [q']
      decide))]
    rfl
end ANS
