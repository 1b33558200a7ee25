/-! the two searches find the same depths -/
def agr (S : Nat) (d d' : Nat → Int32) : Prop := ∀ i, i < S → d i = d' i
/-- a depth is NONE or not below 0 -/
def gd (S : Nat) (d : Nat → Int32) : Prop := ∀ i, i < S → d i = -1 ∨ 0 ≤ d i
/-- all depths are at most k -/
def upto (S k : Nat) (d : Nat → Int32) : Prop := ∀ i, i < S → d i = -1 ∨ ∃ j, j ≤ k ∧ d i = nI j
theorem m1_n {k : Nat} (hk : k < 2 ^ 31) : ¬ (-1 : Int32) = nI k := fun q => nI_pos hk (by rw [← q]; decide)
theorem m1_ge {x : Int32} (h : x = -1) : ¬ 0 ≤ x := by rw [h]; decide
theorem upto_gd {S k : Nat} {d : Nat → Int32} (hk : k < 2 ^ 30) (h : upto S k d) : gd S d := fun i hi => by
  rcases h i hi with h1 | ⟨j, hj, h1⟩
  · exact Or.inl h1
  · exact Or.inr (by rw [h1]; exact nI_pos' (by omega))
theorem ini_K (q : Nat → Bool) : ∀ (k i : Nat) (d : Nat → Int32) (j : Nat), fdK (iniC q) k i d j = if i ≤ j ∧ j < i + k then (if q j = true then nI 0 else -1) else d j
  | 0, i, d, j => by
    simp only [fdK]
    rw [if_neg (by omega)]
  | k + 1, i, d, j => by
    simp only [fdK]
    rw [ini_K q k (i + 1)]
    by_cases h1 : i + 1 ≤ j ∧ j < i + 1 + k
    · rw [if_pos h1, if_pos (show i ≤ j ∧ j < i + (k + 1) by omega)]
    · rw [if_neg h1]
      by_cases h2 : j = i
      · subst h2
        rw [if_pos (by omega)]
        exact if_pos rfl
      · rw [if_neg (by omega)]
        exact if_neg h2
theorem ini_at {q : Nat → Bool} {S : Nat} {d : Nat → Int32} {j : Nat} (hj : j < S) : fd (iniC q) S 0 d j = if q j = true then nI 0 else -1 := by
  unfold fd
  rw [ini_K, if_pos (by omega)]
theorem fd_rl {α β : Type} {f : Nat → α → α} {g : Nat → β → β} {I : α → β → Prop} {S i : Nat} {x : α} {y : β} (hf : ∀ i x y, i < S → I x y → I (f i x) (g i y)) (h : I x y) : I (fd f S i x) (fd g S i y) := by
  by_cases hi : i ≤ S
  · exact fd_rel hf (S - i) i x y (by omega) h
  · rw [fd_d (by omega), fd_d (by omega)]
    exact h
theorem fd_iv {α : Type} {f : Nat → α → α} {I : α → Prop} {S i : Nat} {x : α} (hf : ∀ i x, i < S → I x → I (f i x)) (h : I x) : I (fd f S i x) := by
  by_cases hi : i ≤ S
  · exact fd_inv hf (S - i) i x (by omega) h
  · rw [fd_d (by omega)]
    exact h
section STEP
variable {g : Nat → Nat → Bool} {S : Nat}
theorem step_agr {fr to : Nat} {d d' : Nat → Int32} (hf : fr < S) (ht : to < S) (h : agr S d d') : agr S (stepC g fr to d) (stepC g fr to d') := by
  intro i hi
  unfold stepC
  rw [h to ht, h fr hf]
  by_cases hq : d' to = -1 ∧ g fr to = true
  · rw [if_pos hq, if_pos hq]
    unfold upd
    by_cases e : i = to
    · rw [if_pos e, if_pos e]
    · rw [if_neg e, if_neg e]
      exact h i hi
  · rw [if_neg hq, if_neg hq]
    exact h i hi
theorem from_agr {lev fr : Nat} {d d' : Nat → Int32} (hf : fr < S) (h : agr S d d') : agr S (fromC g S lev fr d) (fromC g S lev fr d') := by
  unfold fromC
  rw [h fr hf]
  by_cases hq : d' fr = nI lev
  · rw [if_pos hq, if_pos hq]
    exact fd_rl (I := agr S) (f := stepC g fr) (g := stepC g fr) (fun to x y ht hxy => step_agr hf ht hxy) h
  · rw [if_neg hq, if_neg hq]
    exact h
theorem lev_agr {lev : Nat} {d d' : Nat → Int32} (h : agr S d d') : agr S (levC g S lev d) (levC g S lev d') :=
  fd_rl (I := agr S) (f := fromC g S lev) (g := fromC g S lev) (fun fr x y hf hxy => from_agr hf hxy) h
theorem levs_agr {i : Nat} {d d' : Nat → Int32} (h : agr S d d') : agr S (fd (levC g S) S i d) (fd (levC g S) S i d') :=
  fd_rl (I := agr S) (f := levC g S) (g := levC g S) (fun fr x y hf hxy => lev_agr hxy) h
/-- one step of the reference's inner loop is one of the class's -/
theorem ts_step {k s t : Nat} {d : Nat → Int32} {m : Bool} (hk : k < 2 ^ 30) (ht : t < S) (hs : d s = nI k) (hg : gd S d) : (tsM g k s t (d, m)).1 = stepC g s t d ∧ stepC g s t d s = nI k ∧ gd S (stepC g s t d) := by
  have e : (d t = -1) ↔ ¬ 0 ≤ d t := by
    rcases hg t ht with h | h
    · exact ⟨fun _ => m1_ge h, fun _ => h⟩
    · exact ⟨fun q => absurd h (m1_ge q), fun q => absurd h q⟩
  unfold tsM stepC
  by_cases hq : d t = -1 ∧ g s t = true
  · rw [if_pos ⟨e.mp hq.1, hq.2⟩, if_pos hq, hs]
    refine ⟨rfl, ?_, fun i hi => ?_⟩
    · have hne : ¬ s = t := fun q => by
        subst q
        exact m1_n (by omega) (hq.1.symm.trans hs)
      exact (if_neg hne).trans hs
    · by_cases ei : i = t
      · right
        have : upd d t (nI k + nI 1) i = nI k + nI 1 := if_pos ei
        rw [this]
        exact k1_pos hk
      · have : upd d t (nI k + nI 1) i = d i := if_neg ei
        rw [this]
        exact hg i hi
  · rw [if_neg (fun q => hq ⟨e.mpr q.1, q.2⟩), if_neg hq]
    exact ⟨rfl, hs, hg⟩
theorem tiK_step {k s : Nat} (hk : k < 2 ^ 30) : ∀ (f t : Nat) (d : Nat → Int32) (m : Bool), t + f ≤ S → d s = nI k → gd S d → (tiK g k s f t (d, m)).1 = fdK (stepC g s) f t d ∧ gd S (fdK (stepC g s) f t d)
  | 0, _, _, _, _, _, hg => ⟨rfl, hg⟩
  | f + 1, t, d, m, hf, hs, hg => by
    obtain ⟨h1, h2, h3⟩ := ts_step (g := g) (m := m) hk (show t < S by omega) hs hg
    simp only [tiK, fdK]
    rw [if_pos hs]
    have e : tsM g k s t (d, m) = (stepC g s t d, (tsM g k s t (d, m)).2) := by rw [← h1]
    rw [e]
    exact tiK_step hk f (t + 1) _ _ (by omega) h2 h3
theorem ti_from {k s : Nat} {d : Nat → Int32} {m : Bool} (hk : k < 2 ^ 30) (hg : gd S d) : (ti g k s S 0 (d, m)).1 = fromC g S k s d ∧ gd S (fromC g S k s d) := by
  unfold fromC
  by_cases hs : d s = nI k
  · rw [if_pos hs]
    exact tiK_step hk _ _ _ _ (by omega) hs hg
  · rw [if_neg hs, ti_n hs]
    exact ⟨rfl, hg⟩
theorem rnd_lev {k : Nat} {d : Nat → Int32} (hk : k < 2 ^ 30) (hg : gd S d) : (rnd g S k d).1 = levC g S k d ∧ gd S (levC g S k d) := by
  have h := fd_rl (S := S) (i := 0) (x := (d, false)) (y := d) (f := fun s x => ti g k s S 0 x) (g := fromC g S k) (I := fun x d => x.1 = d ∧ gd S d) (fun s x y hs hxy => by
    obtain ⟨x1, x2⟩ := x
    obtain ⟨e, hy⟩ := hxy
    have e' : x1 = y := e
    subst e'
    exact ti_from hk hy) ⟨rfl, hg⟩
  exact h
/-- a round that says 'no more' has changed nothing -/
def still (x y : (Nat → Int32) × Bool) : Prop := y.2 = false → y = x
theorem still_tr {x y z : (Nat → Int32) × Bool} (h1 : still x y) (h2 : still y z) : still x z := fun h => by
  have e := h2 h
  rw [e] at h ⊢
  exact h1 h
theorem still_ts {k s t : Nat} {x : (Nat → Int32) × Bool} : still x (tsM g k s t x) := by
  unfold tsM
  split
  · exact fun h => absurd (show true = false from h) (by decide)
  · exact fun _ => rfl
theorem still_tiK {k s : Nat} : ∀ (f t : Nat) (x : (Nat → Int32) × Bool), still x (tiK g k s f t x)
  | 0, _, _ => fun _ => rfl
  | f + 1, t, x => by
    simp only [tiK]
    split
    · exact still_tr still_ts (still_tiK f (t + 1) _)
    · exact fun _ => rfl
theorem still_fdK {f : Nat → (Nat → Int32) × Bool → (Nat → Int32) × Bool} (hf : ∀ i x, still x (f i x)) : ∀ (n i : Nat) (x : (Nat → Int32) × Bool), still x (fdK f n i x)
  | 0, _, _ => fun _ => rfl
  | n + 1, i, x => by
    simp only [fdK]
    exact still_tr (hf i x) (still_fdK hf n (i + 1) _)
theorem rnd_still {k : Nat} {d : Nat → Int32} (h : (rnd g S k d).2 = false) : (rnd g S k d).1 = d := by
  have e : rnd g S k d = (d, false) := still_fdK (fun i x => still_tiK _ _ _) _ _ _ h
  rw [e]
/-- depths go up by one a round -/
theorem step_upto {k fr to : Nat} {d : Nat → Int32} (hf : d fr = nI k) (h : upto S (k + 1) d) : upto S (k + 1) (stepC g fr to d) := by
  unfold stepC
  by_cases hq : d to = -1 ∧ g fr to = true
  · rw [if_pos hq]
    intro i hi
    by_cases ei : i = to
    · right
      refine ⟨k + 1, Nat.le_refl _, ?_⟩
      have : upd d to (d fr + nI 1) i = d fr + nI 1 := if_pos ei
      rw [this, hf]
      exact nI_add k 1
    · have : upd d to (d fr + nI 1) i = d i := if_neg ei
      rw [this]
      exact h i hi
  · rw [if_neg hq]
    exact h
theorem step_keep {k fr to : Nat} {d : Nat → Int32} (hk : k < 2 ^ 31) (hf : d fr = nI k) : stepC g fr to d fr = nI k := by
  unfold stepC
  by_cases hq : d to = -1 ∧ g fr to = true
  · rw [if_pos hq]
    have hne : ¬ fr = to := fun q => by
      subst q
      exact m1_n hk (hq.1.symm.trans hf)
    exact (if_neg hne).trans hf
  · rw [if_neg hq]
    exact hf
theorem from_upto {k fr : Nat} {d : Nat → Int32} (hk : k < 2 ^ 31) (h : upto S (k + 1) d) : upto S (k + 1) (fromC g S k fr d) := by
  unfold fromC
  by_cases hs : d fr = nI k
  · rw [if_pos hs]
    exact (fd_iv (S := S) (f := stepC g fr) (I := fun d => d fr = nI k ∧ upto S (k + 1) d) (fun i x _ hx => ⟨step_keep hk hx.1, step_upto hx.1 hx.2⟩) ⟨hs, h⟩).2
  · rw [if_neg hs]
    exact h
theorem lev_upto {k : Nat} {d : Nat → Int32} (hk : k < 2 ^ 31) (h : upto S k d) : upto S (k + 1) (levC g S k d) :=
  fd_iv (S := S) (f := fromC g S k) (I := upto S (k + 1)) (fun i x _ hx => from_upto hk hx) (fun i hi => by
    rcases h i hi with h1 | ⟨j, hj, h1⟩
    · exact Or.inl h1
    · exact Or.inr ⟨j, by omega, h1⟩)
/-- a level that nobody has does nothing -/
theorem lev_none {k : Nat} {d : Nat → Int32} (h : ∀ i, i < S → ¬ d i = nI k) : levC g S k d = d :=
  fd_iv (S := S) (f := fromC g S k) (I := fun x => x = d) (fun i x hi hx => by
    subst hx
    unfold fromC
    rw [if_neg (h i hi)]) rfl
theorem levs_none : ∀ (n k : Nat) (d : Nat → Int32), (∀ j, k ≤ j → j < k + n → ∀ i, i < S → ¬ d i = nI j) → fdK (levC g S) n k d = d
  | 0, _, _, _ => rfl
  | n + 1, k, d, h => by
    simp only [fdK]
    rw [lev_none (h k (Nat.le_refl _) (by omega))]
    exact levs_none n (k + 1) d (fun j h1 h2 => h j (by omega) (by omega))
theorem upto_no {k j : Nat} {d : Nat → Int32} (hj : j < 2 ^ 31) (hkj : k < j) (h : upto S k d) : ∀ i, i < S → ¬ d i = nI j := fun i hi q => by
  rcases h i hi with h1 | ⟨j', hj', h1⟩
  · exact m1_n hj (h1.symm.trans q)
  · have := eq_n (by omega) hj (h1.symm.trans q)
    omega
theorem unK_m1 {d : Nat → Int32} : ∀ S, unK d S = S → ∀ i, i < S → ¬ 0 ≤ d i
  | 0, _, i, hi => absurd hi (Nat.not_lt_zero _)
  | S + 1, h, i, hi => by
    simp only [unK] at h
    have h1 : unK d S ≤ S := unr_le S d
    by_cases hd : 0 ≤ d S
    · rw [if_pos hd] at h
      omega
    · rw [if_neg hd] at h
      rcases Nat.lt_or_ge i S with h2 | h2
      · exact unK_m1 S (by omega) i h2
      · rw [show i = S by omega]
        exact hd
/-- THE SEARCHES: the reference's rounds come to what the class's levels come to -/
theorem xp_levs (hS : S ≤ 64) : ∀ (f k : Nat) (d : Nat → Int32), k ≤ S → upto S k d → unr S d < f → (unr S d + k + 1 ≤ S ∨ unr S d = S) → xpK g S f k d = fd (levC g S) S k d
  | 0, _, _, _, _, h, _ => absurd h (Nat.not_lt_zero _)
  | f + 1, k, d, hk, hu, hf, hc => by
    have hg := upto_gd (by omega) hu
    obtain ⟨e1, hg'⟩ := rnd_lev (g := g) (k := k) (by omega) hg
    simp only [xpK]
    rcases hc with hc | hc
    · rw [fd_s (show k < S by omega)]
      by_cases hm : (rnd g S k d).2 = true
      · rw [if_pos hm, e1]
        have hmor := rnd_mor (g := g) (S := S) (dp := d) (show k < 2 ^ 30 by omega)
        rcases hmor.2 hm with q | q
        · exact absurd (show false = true from q) (by decide)
        · rw [e1] at q
          have q' : unr S (levC g S k d) < unr S d := q
          exact xp_levs hS f (k + 1) _ (by omega) (lev_upto (by omega) hu) (by omega) (Or.inl (by omega))
      · have hm' : (rnd g S k d).2 = false := by simpa using hm
        rw [if_neg hm, rnd_still hm']
        have e2 : levC g S k d = d := by rw [← e1]; exact rnd_still hm'
        rw [e2]
        exact (levs_none _ _ _ (fun j h1 h2 => upto_no (k := k) (by omega) (by omega) hu)).symm
    · have hno : ∀ j, j < 2 ^ 31 → ∀ i, i < S → ¬ d i = nI j := fun j hj i hi q => unK_m1 S hc i hi (by rw [q]; exact nI_pos' hj)
      have e2 : levC g S k d = d := lev_none (hno k (by omega))
      have e3 : (rnd g S k d).2 = false := by
        by_cases hm : (rnd g S k d).2 = true
        · have hmor := rnd_mor (g := g) (S := S) (dp := d) (show k < 2 ^ 30 by omega)
          rcases hmor.2 hm with q | q
          · exact absurd (show false = true from q) (by decide)
          · rw [e1, e2] at q
            exact absurd q (Nat.lt_irrefl _)
        · simpa using hm
      rw [e3, if_neg (by decide), e1, e2]
      exact (levs_none _ _ _ (fun j h1 h2 => hno j (by omega))).symm
end STEP
