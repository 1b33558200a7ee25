/-! the reference: what its methods compute, and their contracts -/
def btM (v : Int32) (i : Nat) : Bool := decide ((v >>> (nI i &&& 31)) &&& nI 1 = nI 1)
def cbM (p m x : Int32) (i : Nat) (h : Bool) : Bool := h || ((btM p i && btM x i) || (btM m i && !btM x i))
def clM (N : Nat) (p m x : Int32) : Bool := fd (cbM p m x) (2 * N) 0 false
def soM (N : Nat) (cn : Nat → Nat) (P M : Nat → Int32) (k : Nat) (x : Int32) : Bool := al (fun c => clM N (P (24 * k + c)) (M (24 * k + c)) x) (cn k) 0
def goM (N : Nat) (cn : Nat → Nat) (P M : Nat → Int32) (f t : Int32) : Bool := soM N cn P M 1 (f ||| (t <<< (nI N &&& 31)))
def hoM (N : Nat) (cn : Nat → Nat) (P M : Nat → Int32) (li x y : Int32) : Bool := liB li && (stB N x && (if li = nI 1 then stB N y && goM N cn P M x y else soM N cn P M li.toNatClampNeg x))
def tsM (g : Nat → Nat → Bool) (k s t : Nat) (x : (Nat → Int32) × Bool) : (Nat → Int32) × Bool := if ¬ 0 ≤ x.1 t ∧ g s t = true then (upd x.1 t (nI k + nI 1), true) else x
def tiK (g : Nat → Nat → Bool) (k s : Nat) : Nat → Nat → (Nat → Int32) × Bool → (Nat → Int32) × Bool
  | 0, _, x => x
  | f + 1, t, x => if x.1 s = nI k then tiK g k s f (t + 1) (tsM g k s t x) else x
def ti (g : Nat → Nat → Bool) (k s S t : Nat) (x : (Nat → Int32) × Bool) : (Nat → Int32) × Bool := tiK g k s (S - t) t x
theorem ti_d {g : Nat → Nat → Bool} {k s S t : Nat} {x : (Nat → Int32) × Bool} (h : S ≤ t) : ti g k s S t x = x := by
  unfold ti
  rw [Nat.sub_eq_zero_of_le h]
  rfl
theorem ti_n {g : Nat → Nat → Bool} {k s S t : Nat} {dp : Nat → Int32} {m : Bool} (h : ¬ dp s = nI k) : ti g k s S t (dp, m) = (dp, m) := by
  unfold ti
  cases S - t with
  | zero => rfl
  | succ f => unfold tiK; rw [if_neg h]
theorem ti_b {g : Nat → Nat → Bool} {k s S t : Nat} {dp : Nat → Int32} {m : Bool} {x' r : (Nat → Int32) × Bool} (h : t < S) (hs : dp s = nI k) (hv : ti g k s S t (dp, m) = r) (e : tsM g k s t (dp, m) = x') : ti g k s S (t + 1) x' = r := by
  rw [← hv, ← e]
  unfold ti
  obtain ⟨f, hf⟩ : ∃ f, S - t = f + 1 := ⟨S - t - 1, by omega⟩
  rw [hf, show S - (t + 1) = f by omega, tiK, if_pos hs]
def rnd (g : Nat → Nat → Bool) (S k : Nat) (dp : Nat → Int32) : (Nat → Int32) × Bool := fd (fun s x => ti g k s S 0 x) S 0 (dp, false)
def xpK (g : Nat → Nat → Bool) (S : Nat) : Nat → Nat → (Nat → Int32) → (Nat → Int32)
  | 0, _, dp => dp
  | f + 1, k, dp => if (rnd g S k dp).2 = true then xpK g S f (k + 1) (rnd g S k dp).1 else (rnd g S k dp).1
def xplM (N : Nat) (cn : Nat → Nat) (P M : Nat → Int32) (dep : Nat → Int32) : Nat → Int32 := xpK (fun f t => goM N cn P M (nI f) (nI t)) (2 ^ N) (2 ^ N + 1) 0 (fd (iniC (fun i => soM N cn P M 0 (nI i))) (2 ^ N) 0 dep)
/-- how many are not reached -/
def unK (dp : Nat → Int32) : Nat → Nat
  | 0 => 0
  | k + 1 => unK dp k + (if 0 ≤ dp k then 0 else 1)
def unr (S : Nat) (dp : Nat → Int32) : Nat := unK dp S
theorem unr_le : ∀ (S : Nat) (dp : Nat → Int32), unr S dp ≤ S
  | 0, _ => Nat.le_refl _
  | S + 1, dp => by
    have h := unr_le S dp
    unfold unr at h ⊢
    unfold unK
    split <;> omega
theorem unK_up {dp : Nat → Int32} {t : Nat} {v : Int32} (hv : 0 ≤ v) (ht : ¬ 0 ≤ dp t) : ∀ S, unK (upd dp t v) S = unK dp S - (if t < S then 1 else 0) ∧ (t < S → 1 ≤ unK dp S)
  | 0 => ⟨by simp [unK], fun h => absurd h (Nat.not_lt_zero _)⟩
  | S + 1 => by
    obtain ⟨h1, h2⟩ := unK_up hv ht S
    by_cases e : S = t
    · subst e
      have e1 : upd dp S v S = v := if_pos rfl
      simp only [unK, e1, h1, if_pos hv, if_neg ht]
      simp
    · have e1 : upd dp t v S = dp S := if_neg e
      by_cases hlt : t < S
      · have h3 := h2 hlt
        simp only [unK, e1, h1, if_pos hlt, if_pos (show t < S + 1 by omega)]
        exact ⟨by omega, fun _ => by omega⟩
      · simp only [unK, e1, h1, if_neg hlt, if_neg (show ¬ t < S + 1 by omega)]
        exact ⟨by omega, fun h => by omega⟩
/-- a round: it never loses a reached one; where it says 'more', it has found one -/
def mor (S : Nat) (x y : (Nat → Int32) × Bool) : Prop := unr S y.1 ≤ unr S x.1 ∧ (y.2 = true → x.2 = true ∨ unr S y.1 < unr S x.1)
theorem mor_rf {S : Nat} {x : (Nat → Int32) × Bool} : mor S x x := ⟨Nat.le_refl _, Or.inl⟩
theorem mor_tr {S : Nat} {x y z : (Nat → Int32) × Bool} (h1 : mor S x y) (h2 : mor S y z) : mor S x z := by
  refine ⟨Nat.le_trans h2.1 h1.1, fun h => ?_⟩
  rcases h2.2 h with h3 | h3
  · rcases h1.2 h3 with h4 | h4
    · exact Or.inl h4
    · exact Or.inr (Nat.lt_of_le_of_lt h2.1 h4)
  · exact Or.inr (Nat.lt_of_lt_of_le h3 h1.1)
theorem k1_pos {k : Nat} (hk : k < 2 ^ 30) : 0 ≤ nI k + nI 1 := by
  rw [nI_add]
  exact nI_pos' (by omega)
theorem mor_ts {g : Nat → Nat → Bool} {k s t S : Nat} {x : (Nat → Int32) × Bool} (hk : k < 2 ^ 30) (ht : t < S) : mor S x (tsM g k s t x) := by
  unfold tsM
  split
  · rename_i h
    obtain ⟨h1, h2⟩ := unK_up (dp := x.1) (k1_pos hk) h.1 S
    rw [if_pos ht] at h1
    have h3 := h2 ht
    have h4 : unr S (upd x.1 t (nI k + nI 1)) = unr S x.1 - 1 := h1
    have h5 : 1 ≤ unr S x.1 := h3
    exact ⟨by show unr S (upd x.1 t (nI k + nI 1)) ≤ _; omega, fun _ => Or.inr (by show unr S (upd x.1 t (nI k + nI 1)) < _; omega)⟩
  · exact mor_rf
theorem mor_tiK {g : Nat → Nat → Bool} {k s S : Nat} (hk : k < 2 ^ 30) : ∀ (f t : Nat) (x : (Nat → Int32) × Bool), t + f ≤ S → mor S x (tiK g k s f t x)
  | 0, _, _, _ => mor_rf
  | f + 1, t, x, h => by
    unfold tiK
    split
    · exact mor_tr (mor_ts hk (by omega)) (mor_tiK hk f (t + 1) _ (by omega))
    · exact mor_rf
theorem mor_fdK {S : Nat} {f : Nat → (Nat → Int32) × Bool → (Nat → Int32) × Bool} (hf : ∀ i x, i < S → mor S x (f i x)) : ∀ (n i : Nat) (x : (Nat → Int32) × Bool), i + n ≤ S → mor S x (fdK f n i x)
  | 0, _, _, _ => mor_rf
  | n + 1, i, x, h => by
    unfold fdK
    exact mor_tr (hf i x (by omega)) (mor_fdK hf n (i + 1) _ (by omega))
theorem rnd_mor {g : Nat → Nat → Bool} {S k : Nat} {dp : Nat → Int32} (hk : k < 2 ^ 30) : mor S (dp, false) (rnd g S k dp) := by
  unfold rnd fd
  exact mor_fdK (fun i x hi => mor_tiK hk _ _ _ (by omega)) _ _ _ (by omega)
theorem rnd_m {g : Nat → Nat → Bool} {S k f1 : Nat} {dp dp2 X : Nat → Int32} {mr : Bool} (hw : (dp2, mr) = rnd g S k dp) (q : mr = true) (hk : k < 2 ^ 30) (h3 : unr S dp < f1 + 1) (h4 : xpK g S (f1 + 1) k dp = X) : unr S dp2 < f1 ∧ xpK g S f1 (k + 1) dp2 = X := by
  have hm := rnd_mor (g := g) (S := S) (dp := dp) hk
  rw [xpK, ← hw] at h4
  rw [← hw] at hm
  subst q
  rcases hm.2 rfl with h | h
  · cases h
  · exact ⟨by have h' : unr S dp2 < unr S dp := h; omega, h4⟩
theorem rnd_0 {g : Nat → Nat → Bool} {S k f1 : Nat} {dp dp2 X : Nat → Int32} {mr : Bool} (hw : (dp2, mr) = rnd g S k dp) (q : mr = false) (h4 : xpK g S (f1 + 1) k dp = X) : dp2 = X := by
  rw [xpK, ← hw] at h4
  subst q
  exact h4
def stM (N : Nat) (cn : Nat → Nat) (P M : Nat → Int32) (dep : Nat → Int32) : Int32 := fd (minF (fun i x => !decide (dep i < 0) && ((decide (x < 0) || !decide (x ≤ dep i)) && soM N cn P M 2 (nI i))) dep) (2 ^ N) 0 (-1)
def reM (N : Nat) (dep : Nat → Int32) : Nat := fd (cntF (fun i => !decide (dep i < 0))) (2 ^ N) 0 0
def woM (N : Nat) (cn : Nat → Nat) (P M : Nat → Int32) (dep : Nat → Int32) : Option Nat := fo (fun i => !decide (dep i < 0) && soM N cn P M 2 (nI i)) (2 ^ N) 0
def esM (N : Nat) (cn : Nat → Nat) (P M : Nat → Int32) (i : Nat) : Bool := an (fun t => !soM N cn P M 3 (nI t) && goM N cn P M (nI i) (nI t)) (2 ^ N) 0
def leM (N : Nat) (cn : Nat → Nat) (P M : Nat → Int32) (r i : Nat) : Bool := if r = 1 then !soM N cn P M 3 (nI i) && soM N cn P M 0 (nI i) else if r = 2 then soM N cn P M 3 (nI i) && esM N cn P M i else soM N cn P M 3 (nI i) && soM N cn P M 2 (nI i)
def lmM (N : Nat) (cn : Nat → Nat) (P M : Nat → Int32) (r : Nat) : Option Nat := fo (leM N cn P M r) (2 ^ N) 0
def chM (N : Nat) (cn : Nat → Nat) (P M : Nat → Int32) : Option Nat := fo (fun r => !decide (oI (-1) (lmM N cn P M r) < 0)) 4 1
def flM (N : Nat) (cn : Nat → Nat) (P M : Nat → Int32) : Int32 := match chM N cn P M with
  | none => -1
  | some r => oI (-1) (lmM N cn P M r)
def waM (N len : Nat) (cn : Nat → Nat) (P M pth : Nat → Int32) (x : Int32) : Bool := stB N x && (decide (len < 64) && (if nI len = 0 then soM N cn P M 0 x else goM N cn P M (pth (len - 1)) x))
theorem waM_t {N len : Nat} {cn : Nat → Nat} {P M pth : Nat → Int32} {x : Int32} (h1 : stB N x = true) (h2 : len < 64) (h3 : (nI len = 0 ∧ soM N cn P M 0 x = true) ∨ (¬ nI len = 0 ∧ goM N cn P M (pth (len - 1)) x = true)) : waM N len cn P M pth x = true := by
  unfold waM
  rw [h1, decide_eq_true h2]
  rcases h3 with ⟨a, b⟩ | ⟨a, b⟩
  · rw [if_pos a, b]; rfl
  · rw [if_neg a, b]; rfl
theorem waM_e {N len : Nat} {cn : Nat → Nat} {P M pth : Nat → Int32} {x : Int32} (h : waM N len cn P M pth x = true) : stB N x = true ∧ len < 64 ∧ ((nI len = 0 → soM N cn P M 0 x = true) ∧ (¬ nI len = 0 → goM N cn P M (pth (len - 1)) x = true)) := by
  unfold waM at h
  simp only [Bool.and_eq_true, decide_eq_true_eq] at h
  refine ⟨h.1, h.2.1, fun q => ?_, fun q => ?_⟩
  · have := h.2.2; rw [if_pos q] at this; exact this
  · have := h.2.2; rw [if_neg q] at this; exact this
theorem len_ne {n : Nat} (h : ¬ nI n = 0) : 1 ≤ n := by
  rcases n with _ | n
  · exact absurd (by decide) h
  · omega
theorem len_pos {n : Nat} (hn : n < 2 ^ 31) (h : ¬ nI n ≤ 0) : 1 ≤ n := by
  rcases n with _ | n
  · exact absurd (by decide) h
  · omega
theorem len64 {n : Nat} (hp : n ≤ 64) (h : ¬ nI n = nI 64) : n < 64 := by
  rcases Nat.lt_or_ge n 64 with h1 | h1
  · exact h1
  · exact absurd (by rw [show n = 64 by omega]) h
theorem ne24 {n : Nat} (hp : n ≤ 24) (h : ¬ nI n = nI 24) : n < 24 := by
  rcases Nat.lt_or_ge n 24 with h1 | h1
  · exact h1
  · exact absurd (by rw [show n = 24 by omega]) h
theorem seB_e {N : Nat} {li x : Int32} (h : seB N li x = true) : ¬ x < 0 ∧ ¬ nI (2 ^ (if li = nI 1 then 2 * N else N)) ≤ x := by
  unfold seB at h
  simp only [Bool.and_eq_true, Bool.not_eq_true', decide_eq_false_iff_not] at h
  exact h
theorem ltI {x y : Int32} (h : ¬ y ≤ x) : x < y := Int32.not_le.mp h
theorem seB_t {N : Nat} {li x : Int32} (h1 : ¬ x < 0) (h2 : ¬ nI (2 ^ (if li = nI 1 then 2 * N else N)) ≤ x) : seB N li x = true := by
  unfold seB
  rw [decide_eq_false h1, decide_eq_false h2]
  rfl
theorem clB_t {N : Nat} {cn : Nat → Nat} {li x y : Int32} (h1 : liB li = true) (h2 : seB N li x = true) (h3 : seB N li y = true) (h4 : cn li.toNatClampNeg < 24) : clB N cn li x y = true := by
  unfold clB
  rw [h1, h2, h3, decide_eq_true h4]
  rfl
set_option maxHeartbeats 4000000 in
set_option maxRecDepth 100000 in
theorem c_X2_states {l : Launch} {D : va_G} {cI cL : ClassId} {b : Nat → Nat} {N len : Nat} {cn : Nat → Nat} {P M pth dep : Nat → Int32}  (hV : RInv N cn) : MetR l yX2_states cX2_states 1 (some .int) 0 [.ref (b 0)] D cI cL (MDw cI b N len cn P M pth dep) (nI (2 ^ N)) := by
  refine MetR.mk (by decide) (Nat.le_of_ble_eq_true rfl) ?_
  intro p e s m args below meth c Q hQ S hr hlk hN hK hP ls hl
  have S : CallFix p m c cX2_states 1 s args wt RX2 := S
  have hl : lv_has ls 1 [(0, .ref (b 0))] := hl
  refine lv_iconst (v := nI 1) S.1 S.2.1 dX2_states_0 (by decide) ?_
  refine lv_aload_n S.1 S.2.1 dX2_states_1 rfl (lv_at hl 0 rfl) ?_
  refine g2_n S hK hP dX2_states_2 ?_
  refine lv_ishl S.1 S.2.1 dX2_states_5 ?_
  refine tp (y := nI (2 ^ N)) (sh1 N (by have := hV.2.1; omega)) ?_
  exact rd_ret hQ S hr hlk rfl dX2_states_6
set_option maxHeartbeats 4000000 in
set_option maxRecDepth 100000 in
theorem c_X2_isState {l : Launch} {D : va_G} {cI cL : ClassId} {b : Nat → Nat} {N len : Nat} {cn : Nat → Nat} {P M pth dep : Nat → Int32} {x : Int32}  (hV : RInv N cn) : MetR l yX2_isState cX2_isState 2 (some .boolean) 1 [.ref (b 0), .int x] D cI cL (MDw cI b N len cn P M pth dep) (bI (stB N x)) := by
  refine MetR.mk (by decide) (Nat.le_of_ble_eq_true rfl) ?_
  intro p e s m args below meth c Q hQ S hr hlk hN hK hP ls hl
  have S : CallFix p m c cX2_isState 2 s args wt RX2 := S
  have hl : lv_has ls 2 [(0, .ref (b 0)), (1, .int x)] := hl
  refine lv_iload_n S.1 S.2.1 dX2_isState_0 rfl (lv_at hl 1 rfl) ?_
  refine lv_if_lt (tgt := 16) S.1 S.2.1 dX2_isState_1 (by decide) (fun h1 => ?_) (fun h1 => ?_)
  · refine lv_iconst (v := nI 0) S.1 S.2.1 dX2_isState_16 (by decide) ?_
    exact rd_retz hQ S hr hlk (r0 (by simp [stB, h1])) dX2_isState_17
  · refine lv_iload_n S.1 S.2.1 dX2_isState_4 rfl (lv_at hl 1 rfl) ?_
    refine lv_aload_n S.1 S.2.1 dX2_isState_5 rfl (lv_at hl 0 rfl) ?_
    refine rdV S cv_RX2_29 (c_X2_states hV) hK hN hP (md_rv hK hP) ⟨Nat.le_of_ble_eq_true rfl, Nat.le_of_ble_eq_true rfl⟩ ⟨Nat.zero_le _, Nat.zero_le _⟩ rfl hl.1 rfl (Nat.le_of_ble_eq_true rfl) dX2_isState_6 ?_
    refine lv_icmp_ge (tgt := 16) S.1 S.2.1 dX2_isState_9 (by decide) (fun h9 => ?_) (fun h9 => ?_)
    · refine lv_iconst (v := nI 0) S.1 S.2.1 dX2_isState_16 (by decide) ?_
      exact rd_retz hQ S hr hlk (r0 (by simp [stB, h1, h9])) dX2_isState_17
    · refine lv_iconst (v := nI 1) S.1 S.2.1 dX2_isState_12 (by decide) ?_
      refine lv_goto (tgt := 17) S.1 S.2.1 dX2_isState_13 (by decide) ?_
      exact rd_retz hQ S hr hlk (r1 (by simp [stB, h1, h9])) dX2_isState_17
set_option maxHeartbeats 4000000 in
set_option maxRecDepth 100000 in
theorem c_X2_isList {l : Launch} {D : va_G} {cI cL : ClassId} {b : Nat → Nat} {N len : Nat} {cn : Nat → Nat} {P M pth dep : Nat → Int32} {x : Int32}   : MetR l yX2_isList cX2_isList 1 (some .boolean) 0 [.int x] D cI cL (MDw cI b N len cn P M pth dep) (bI (liB x)) := by
  refine MetR.mk (by decide) (Nat.le_of_ble_eq_true rfl) ?_
  intro p e s m args below meth c Q hQ S hr hlk hN hK hP ls hl
  have S : CallFix p m c cX2_isList 1 s args wt RX2 := S
  have hl : lv_has ls 1 [(0, .int x)] := hl
  refine lv_iload_n S.1 S.2.1 dX2_isList_0 rfl (lv_at hl 0 rfl) ?_
  refine lv_if_lt (tgt := 13) S.1 S.2.1 dX2_isList_1 (by decide) (fun h1 => ?_) (fun h1 => ?_)
  · refine lv_iconst (v := nI 0) S.1 S.2.1 dX2_isList_13 (by decide) ?_
    exact rd_retz hQ S hr hlk (r0 (by simp [liB, h1])) dX2_isList_14
  · refine lv_iload_n S.1 S.2.1 dX2_isList_4 rfl (lv_at hl 0 rfl) ?_
    refine lv_iconst (v := nI 4) S.1 S.2.1 dX2_isList_5 (by decide) ?_
    refine lv_icmp_ge (tgt := 13) S.1 S.2.1 dX2_isList_6 (by decide) (fun h6 => ?_) (fun h6 => ?_)
    · refine lv_iconst (v := nI 0) S.1 S.2.1 dX2_isList_13 (by decide) ?_
      exact rd_retz hQ S hr hlk (r0 (by simp [liB, h1, h6])) dX2_isList_14
    · refine lv_iconst (v := nI 1) S.1 S.2.1 dX2_isList_9 (by decide) ?_
      refine lv_goto (tgt := 14) S.1 S.2.1 dX2_isList_10 (by decide) ?_
      exact rd_retz hQ S hr hlk (r1 (by simp [liB, h1, h6])) dX2_isList_14
set_option maxHeartbeats 4000000 in
set_option maxRecDepth 100000 in
theorem c_X2_isSo {l : Launch} {D : va_G} {cI cL : ClassId} {b : Nat → Nat} {N len : Nat} {cn : Nat → Nat} {P M pth dep : Nat → Int32} {k : Nat} {x : Int32} (hk : k < 4)  (hV : RInv N cn) : MetR l yX2_isSo cX2_isSo 8 (some .boolean) 0 [.ref (b 0), .int (nI k), .int x] D cI cL (MDw cI b N len cn P M pth dep) (bI (soM N cn P M k x)) := by
  refine MetR.mk (by decide) (Nat.le_of_ble_eq_true rfl) ?_
  intro p e s m args below meth c Q hQ S hr hlk hN hK hP ls hl
  have S : CallFix p m c cX2_isSo 8 s args wt RX2 := S
  have hl : lv_has ls 8 [(0, .ref (b 0)), (1, .int (nI k)), (2, .int x)] := hl
  have hc4 := hV.2.2 k hk
  have hn6 := hV.2.1
  refine lv_iconst (v := nI 0) S.1 S.2.1 dX2_isSo_0 (by decide) ?_
  refine lv_istore_n (lv' := [(3, .int (nI 0)), (0, .ref (b 0)), (1, .int (nI k)), (2, .int x)]) S.1 S.2.1 dX2_isSo_1 rfl hl (by decide) rfl (fun ls hl => ?_)
  have loop2 : ∀ (nf : Nat) (c1 : Nat) (ls : Array Slot), cn k - c1 < nf → c1 ≤ cn k → al (fun c => clM N (P (24 * k + c)) (M (24 * k + c)) x) (cn k) c1 = soM N cn P M k x → lv_has ls 8 [(3, .int (nI c1)), (0, .ref (b 0)), (1, .int (nI k)), (2, .int x)] → W p l e (rmd 0) s m args below meth c s.heap [] 0 0 Q (F0 m 2 ls []) := by
    intro nf
    induction nf with
    | zero => exact fun c1 ls hn => absurd hn (Nat.not_lt_zero _)
    | succ nf ih2 =>
      intro c1 ls hn hi hv hl
      refine lv_iload_n S.1 S.2.1 dX2_isSo_2 rfl (lv_at hl 0 rfl) ?_
      refine lv_aload_n S.1 S.2.1 dX2_isSo_3 rfl (lv_at hl 1 rfl) ?_
      refine g2_counts S hK hP dX2_isSo_4 ?_
      refine lv_iload_n S.1 S.2.1 dX2_isSo_7 rfl (lv_at hl 2 rfl) ?_
      refine a2_counts hk S hK hP dX2_isSo_8 ?_
      refine lv_icmp_ge (tgt := 127) S.1 S.2.1 dX2_isSo_9 (by decide) (fun h9 => ?_) (fun h9 => ?_)
      · have h9 := ge_n (by omega) (by omega) h9
        refine lv_iconst (v := nI 1) S.1 S.2.1 dX2_isSo_127 (by decide) ?_
        exact rd_retz hQ S hr hlk (r1 (by rw [← hv, al_d h9])) dX2_isSo_128
      · have h9 := ge_f (by omega) (by omega) h9
        refine lv_bipush (v := nI 24) S.1 S.2.1 dX2_isSo_12 (by decide) ?_
        refine lv_iload_n S.1 S.2.1 dX2_isSo_14 rfl (lv_at hl 2 rfl) ?_
        refine lv_imul S.1 S.2.1 dX2_isSo_15 ?_
        refine tp (y := nI (24 * k)) (ml 24 k) ?_
        refine lv_iload_n S.1 S.2.1 dX2_isSo_16 rfl (lv_at hl 0 rfl) ?_
        refine lv_iadd S.1 S.2.1 dX2_isSo_17 ?_
        refine tp (y := nI (24 * k + c1)) (nI_add _ _) ?_
        refine lv_istore (lv' := [(4, .int (nI (24 * k + c1))), (3, .int (nI c1)), (0, .ref (b 0)), (1, .int (nI k)), (2, .int x)]) S.1 S.2.1 dX2_isSo_18 hl (by decide) rfl (fun ls hl => ?_)
        refine lv_iconst (v := nI 0) S.1 S.2.1 dX2_isSo_20 (by decide) ?_
        refine lv_istore (lv' := [(5, .int (nI 0)), (4, .int (nI (24 * k + c1))), (3, .int (nI c1)), (0, .ref (b 0)), (1, .int (nI k)), (2, .int x)]) S.1 S.2.1 dX2_isSo_21 hl (by decide) rfl (fun ls hl => ?_)
        refine lv_iconst (v := nI 0) S.1 S.2.1 dX2_isSo_23 (by decide) ?_
        refine lv_istore (lv' := [(6, .int (nI 0)), (5, .int (nI 0)), (4, .int (nI (24 * k + c1))), (3, .int (nI c1)), (0, .ref (b 0)), (1, .int (nI k)), (2, .int x)]) S.1 S.2.1 dX2_isSo_24 hl (by decide) rfl (fun ls hl => ?_)
        have loop26 : ∀ (nf : Nat) (i : Nat) (h : Bool) (ls : Array Slot), 2 * N - i < nf → i ≤ 2 * N → fd (cbM (P (24 * k + c1)) (M (24 * k + c1)) x) (2 * N) i h = fd (cbM (P (24 * k + c1)) (M (24 * k + c1)) x) (2 * N) 0 false → lv_has ls 8 [(6, .int (nI i)), (5, .int (bI h)), (4, .int (nI (24 * k + c1))), (3, .int (nI c1)), (0, .ref (b 0)), (1, .int (nI k)), (2, .int x)] → W p l e (rmd 0) s m args below meth c s.heap [] 0 0 Q (F0 m 26 ls []) := by
          intro nf
          induction nf with
          | zero => exact fun i h ls hn => absurd hn (Nat.not_lt_zero _)
          | succ nf ih26 =>
            intro i h ls hn hj hw hl
            refine lv_iload S.1 S.2.1 dX2_isSo_26 (lv_at hl 0 rfl) ?_
            refine lv_iconst (v := nI 2) S.1 S.2.1 dX2_isSo_28 (by decide) ?_
            refine lv_aload_n S.1 S.2.1 dX2_isSo_29 rfl (lv_at hl 4 rfl) ?_
            refine g2_n S hK hP dX2_isSo_30 ?_
            refine lv_imul S.1 S.2.1 dX2_isSo_33 ?_
            refine tp (y := nI (2 * N)) (ml 2 N) ?_
            refine lv_icmp_ge (tgt := 114) S.1 S.2.1 dX2_isSo_34 (by decide) (fun h34 => ?_) (fun h34 => ?_)
            · have h34 := ge_n (by omega) (by omega) h34
              rw [fd_d h34] at hw
              refine lv_iload S.1 S.2.1 dX2_isSo_114 (lv_at hl 1 rfl) ?_
              refine lv_if_ne (tgt := 121) S.1 S.2.1 dX2_isSo_116 (by decide) (fun h116 => ?_) (fun h116 => ?_)
              · have h116 : (h) = true := bI_t h116
                refine lv_iinc (v := nI (c1 + 1)) (lv' := [(3, .int (nI (c1 + 1))), (6, .int (nI i)), (5, .int (bI h)), (4, .int (nI (24 * k + c1))), (0, .ref (b 0)), (1, .int (nI k)), (2, .int x)]) S.1 S.2.1 dX2_isSo_121 hl (k := 3) rfl (nI_1 _) (by decide) rfl (fun ls hl => ?_)
                refine lv_goto (tgt := 2) S.1 S.2.1 dX2_isSo_124 (by decide) ?_
                exact ih2 (c1 + 1) ls (by omega) (by omega) (by rw [← hv, al_s h9]; simp only [clM, ← hw, h116, Bool.true_and]) (lv_sub hl [0, 4, 5, 6] rfl)
              · have h116 : (h) = false := bI_f h116
                refine lv_iconst (v := nI 0) S.1 S.2.1 dX2_isSo_119 (by decide) ?_
                exact rd_retz hQ S hr hlk (r0 (by rw [← hv, al_s h9]; simp only [clM, ← hw, h116, Bool.false_and])) dX2_isSo_120
            · have h34 := ge_f (by omega) (by omega) h34
              refine lv_iload_n S.1 S.2.1 dX2_isSo_37 rfl (lv_at hl 6 rfl) ?_
              refine lv_iload S.1 S.2.1 dX2_isSo_38 (lv_at hl 0 rfl) ?_
              refine lv_ishr S.1 S.2.1 dX2_isSo_40 ?_
              refine lv_iconst (v := nI 1) S.1 S.2.1 dX2_isSo_41 (by decide) ?_
              refine lv_iand S.1 S.2.1 dX2_isSo_42 ?_
              refine lv_iconst (v := nI 1) S.1 S.2.1 dX2_isSo_43 (by decide) ?_
              refine lv_icmp_ne (tgt := 51) S.1 S.2.1 dX2_isSo_44 (by decide) (fun h44 => ?_) (fun h44 => ?_)
              · refine lv_iconst (v := nI 0) S.1 S.2.1 dX2_isSo_51 (by decide) ?_
                refine lv_istore (lv' := [(7, .int (nI 0)), (6, .int (nI i)), (5, .int (bI h)), (4, .int (nI (24 * k + c1))), (3, .int (nI c1)), (0, .ref (b 0)), (1, .int (nI k)), (2, .int x)]) S.1 S.2.1 dX2_isSo_52 hl (by decide) rfl (fun ls hl => ?_)
                refine lv_iload S.1 S.2.1 dX2_isSo_54 (lv_at hl 2 rfl) ?_
                refine lv_if_ne (tgt := 101) S.1 S.2.1 dX2_isSo_56 (by decide) (fun h56 => ?_) (fun h56 => ?_)
                · have h56 : (h) = true := bI_t h56
                  refine lv_iconst (v := nI 1) S.1 S.2.1 dX2_isSo_101 (by decide) ?_
                  refine lv_goto (tgt := 106) S.1 S.2.1 dX2_isSo_102 (by decide) ?_
                  refine lv_istore (lv' := [(5, .int (nI 1)), (7, .int (nI 0)), (6, .int (nI i)), (4, .int (nI (24 * k + c1))), (3, .int (nI c1)), (0, .ref (b 0)), (1, .int (nI k)), (2, .int x)]) S.1 S.2.1 dX2_isSo_106 hl (by decide) rfl (fun ls hl => ?_)
                  refine lv_iinc (v := nI (i + 1)) (lv' := [(6, .int (nI (i + 1))), (5, .int (nI 1)), (7, .int (nI 0)), (4, .int (nI (24 * k + c1))), (3, .int (nI c1)), (0, .ref (b 0)), (1, .int (nI k)), (2, .int x)]) S.1 S.2.1 dX2_isSo_108 hl (k := 2) rfl (nI_1 _) (by decide) rfl (fun ls hl => ?_)
                  refine lv_goto (tgt := 26) S.1 S.2.1 dX2_isSo_111 (by decide) ?_
                  exact ih26 (i + 1) true ls (by omega) (by omega) (fd_b h34 hw (by simp [cbM, btM, h44, h56])) (lv_sub hl [0, 1, 3, 4, 5, 6, 7] rfl)
                · have h56 : (h) = false := bI_f h56
                  refine lv_aload_n S.1 S.2.1 dX2_isSo_59 rfl (lv_at hl 5 rfl) ?_
                  refine g2_plus S hK hP dX2_isSo_60 ?_
                  refine lv_iload S.1 S.2.1 dX2_isSo_63 (lv_at hl 3 rfl) ?_
                  refine a2_plus (by omega) S hK hP dX2_isSo_65 ?_
                  refine lv_iload S.1 S.2.1 dX2_isSo_66 (lv_at hl 1 rfl) ?_
                  refine lv_ishr S.1 S.2.1 dX2_isSo_68 ?_
                  refine lv_iconst (v := nI 1) S.1 S.2.1 dX2_isSo_69 (by decide) ?_
                  refine lv_iand S.1 S.2.1 dX2_isSo_70 ?_
                  refine lv_iconst (v := nI 1) S.1 S.2.1 dX2_isSo_71 (by decide) ?_
                  refine lv_icmp_ne (tgt := 80) S.1 S.2.1 dX2_isSo_72 (by decide) (fun h72 => ?_) (fun h72 => ?_)
                  · refine lv_aload_n S.1 S.2.1 dX2_isSo_80 rfl (lv_at hl 5 rfl) ?_
                    refine g2_minus S hK hP dX2_isSo_81 ?_
                    refine lv_iload S.1 S.2.1 dX2_isSo_84 (lv_at hl 3 rfl) ?_
                    refine a2_minus (by omega) S hK hP dX2_isSo_86 ?_
                    refine lv_iload S.1 S.2.1 dX2_isSo_87 (lv_at hl 1 rfl) ?_
                    refine lv_ishr S.1 S.2.1 dX2_isSo_89 ?_
                    refine lv_iconst (v := nI 1) S.1 S.2.1 dX2_isSo_90 (by decide) ?_
                    refine lv_iand S.1 S.2.1 dX2_isSo_91 ?_
                    refine lv_iconst (v := nI 1) S.1 S.2.1 dX2_isSo_92 (by decide) ?_
                    refine lv_icmp_ne (tgt := 105) S.1 S.2.1 dX2_isSo_93 (by decide) (fun h93 => ?_) (fun h93 => ?_)
                    · refine lv_iconst (v := nI 0) S.1 S.2.1 dX2_isSo_105 (by decide) ?_
                      refine lv_istore (lv' := [(5, .int (nI 0)), (7, .int (nI 0)), (6, .int (nI i)), (4, .int (nI (24 * k + c1))), (3, .int (nI c1)), (0, .ref (b 0)), (1, .int (nI k)), (2, .int x)]) S.1 S.2.1 dX2_isSo_106 hl (by decide) rfl (fun ls hl => ?_)
                      refine lv_iinc (v := nI (i + 1)) (lv' := [(6, .int (nI (i + 1))), (5, .int (nI 0)), (7, .int (nI 0)), (4, .int (nI (24 * k + c1))), (3, .int (nI c1)), (0, .ref (b 0)), (1, .int (nI k)), (2, .int x)]) S.1 S.2.1 dX2_isSo_108 hl (k := 2) rfl (nI_1 _) (by decide) rfl (fun ls hl => ?_)
                      refine lv_goto (tgt := 26) S.1 S.2.1 dX2_isSo_111 (by decide) ?_
                      exact ih26 (i + 1) false ls (by omega) (by omega) (fd_b h34 hw (by simp [cbM, btM, h44, h56, h72, h93])) (lv_sub hl [0, 1, 3, 4, 5, 6, 7] rfl)
                    · refine lv_iload S.1 S.2.1 dX2_isSo_96 (lv_at hl 0 rfl) ?_
                      refine lv_if_ne (tgt := 105) S.1 S.2.1 dX2_isSo_98 (by decide) (fun hh => absurd (by decide) hh) (fun _ => ?_)
                      refine lv_iconst (v := nI 1) S.1 S.2.1 dX2_isSo_101 (by decide) ?_
                      refine lv_goto (tgt := 106) S.1 S.2.1 dX2_isSo_102 (by decide) ?_
                      refine lv_istore (lv' := [(5, .int (nI 1)), (7, .int (nI 0)), (6, .int (nI i)), (4, .int (nI (24 * k + c1))), (3, .int (nI c1)), (0, .ref (b 0)), (1, .int (nI k)), (2, .int x)]) S.1 S.2.1 dX2_isSo_106 hl (by decide) rfl (fun ls hl => ?_)
                      refine lv_iinc (v := nI (i + 1)) (lv' := [(6, .int (nI (i + 1))), (5, .int (nI 1)), (7, .int (nI 0)), (4, .int (nI (24 * k + c1))), (3, .int (nI c1)), (0, .ref (b 0)), (1, .int (nI k)), (2, .int x)]) S.1 S.2.1 dX2_isSo_108 hl (k := 2) rfl (nI_1 _) (by decide) rfl (fun ls hl => ?_)
                      refine lv_goto (tgt := 26) S.1 S.2.1 dX2_isSo_111 (by decide) ?_
                      exact ih26 (i + 1) true ls (by omega) (by omega) (fd_b h34 hw (by simp [cbM, btM, h44, h56, h72, h93])) (lv_sub hl [0, 1, 3, 4, 5, 6, 7] rfl)
                  · refine lv_iload S.1 S.2.1 dX2_isSo_75 (lv_at hl 0 rfl) ?_
                    refine lv_if_ne (tgt := 101) S.1 S.2.1 dX2_isSo_77 (by decide) (fun hh => absurd (by decide) hh) (fun _ => ?_)
                    refine lv_aload_n S.1 S.2.1 dX2_isSo_80 rfl (lv_at hl 5 rfl) ?_
                    refine g2_minus S hK hP dX2_isSo_81 ?_
                    refine lv_iload S.1 S.2.1 dX2_isSo_84 (lv_at hl 3 rfl) ?_
                    refine a2_minus (by omega) S hK hP dX2_isSo_86 ?_
                    refine lv_iload S.1 S.2.1 dX2_isSo_87 (lv_at hl 1 rfl) ?_
                    refine lv_ishr S.1 S.2.1 dX2_isSo_89 ?_
                    refine lv_iconst (v := nI 1) S.1 S.2.1 dX2_isSo_90 (by decide) ?_
                    refine lv_iand S.1 S.2.1 dX2_isSo_91 ?_
                    refine lv_iconst (v := nI 1) S.1 S.2.1 dX2_isSo_92 (by decide) ?_
                    refine lv_icmp_ne (tgt := 105) S.1 S.2.1 dX2_isSo_93 (by decide) (fun h93 => ?_) (fun h93 => ?_)
                    · refine lv_iconst (v := nI 0) S.1 S.2.1 dX2_isSo_105 (by decide) ?_
                      refine lv_istore (lv' := [(5, .int (nI 0)), (7, .int (nI 0)), (6, .int (nI i)), (4, .int (nI (24 * k + c1))), (3, .int (nI c1)), (0, .ref (b 0)), (1, .int (nI k)), (2, .int x)]) S.1 S.2.1 dX2_isSo_106 hl (by decide) rfl (fun ls hl => ?_)
                      refine lv_iinc (v := nI (i + 1)) (lv' := [(6, .int (nI (i + 1))), (5, .int (nI 0)), (7, .int (nI 0)), (4, .int (nI (24 * k + c1))), (3, .int (nI c1)), (0, .ref (b 0)), (1, .int (nI k)), (2, .int x)]) S.1 S.2.1 dX2_isSo_108 hl (k := 2) rfl (nI_1 _) (by decide) rfl (fun ls hl => ?_)
                      refine lv_goto (tgt := 26) S.1 S.2.1 dX2_isSo_111 (by decide) ?_
                      exact ih26 (i + 1) false ls (by omega) (by omega) (fd_b h34 hw (by simp [cbM, btM, h44, h56, h72, h93])) (lv_sub hl [0, 1, 3, 4, 5, 6, 7] rfl)
                    · refine lv_iload S.1 S.2.1 dX2_isSo_96 (lv_at hl 0 rfl) ?_
                      refine lv_if_ne (tgt := 105) S.1 S.2.1 dX2_isSo_98 (by decide) (fun hh => absurd (by decide) hh) (fun _ => ?_)
                      refine lv_iconst (v := nI 1) S.1 S.2.1 dX2_isSo_101 (by decide) ?_
                      refine lv_goto (tgt := 106) S.1 S.2.1 dX2_isSo_102 (by decide) ?_
                      refine lv_istore (lv' := [(5, .int (nI 1)), (7, .int (nI 0)), (6, .int (nI i)), (4, .int (nI (24 * k + c1))), (3, .int (nI c1)), (0, .ref (b 0)), (1, .int (nI k)), (2, .int x)]) S.1 S.2.1 dX2_isSo_106 hl (by decide) rfl (fun ls hl => ?_)
                      refine lv_iinc (v := nI (i + 1)) (lv' := [(6, .int (nI (i + 1))), (5, .int (nI 1)), (7, .int (nI 0)), (4, .int (nI (24 * k + c1))), (3, .int (nI c1)), (0, .ref (b 0)), (1, .int (nI k)), (2, .int x)]) S.1 S.2.1 dX2_isSo_108 hl (k := 2) rfl (nI_1 _) (by decide) rfl (fun ls hl => ?_)
                      refine lv_goto (tgt := 26) S.1 S.2.1 dX2_isSo_111 (by decide) ?_
                      exact ih26 (i + 1) true ls (by omega) (by omega) (fd_b h34 hw (by simp [cbM, btM, h44, h56, h72, h93])) (lv_sub hl [0, 1, 3, 4, 5, 6, 7] rfl)
              · refine lv_iconst (v := nI 1) S.1 S.2.1 dX2_isSo_47 (by decide) ?_
                refine lv_goto (tgt := 52) S.1 S.2.1 dX2_isSo_48 (by decide) ?_
                refine lv_istore (lv' := [(7, .int (nI 1)), (6, .int (nI i)), (5, .int (bI h)), (4, .int (nI (24 * k + c1))), (3, .int (nI c1)), (0, .ref (b 0)), (1, .int (nI k)), (2, .int x)]) S.1 S.2.1 dX2_isSo_52 hl (by decide) rfl (fun ls hl => ?_)
                refine lv_iload S.1 S.2.1 dX2_isSo_54 (lv_at hl 2 rfl) ?_
                refine lv_if_ne (tgt := 101) S.1 S.2.1 dX2_isSo_56 (by decide) (fun h56 => ?_) (fun h56 => ?_)
                · have h56 : (h) = true := bI_t h56
                  refine lv_iconst (v := nI 1) S.1 S.2.1 dX2_isSo_101 (by decide) ?_
                  refine lv_goto (tgt := 106) S.1 S.2.1 dX2_isSo_102 (by decide) ?_
                  refine lv_istore (lv' := [(5, .int (nI 1)), (7, .int (nI 1)), (6, .int (nI i)), (4, .int (nI (24 * k + c1))), (3, .int (nI c1)), (0, .ref (b 0)), (1, .int (nI k)), (2, .int x)]) S.1 S.2.1 dX2_isSo_106 hl (by decide) rfl (fun ls hl => ?_)
                  refine lv_iinc (v := nI (i + 1)) (lv' := [(6, .int (nI (i + 1))), (5, .int (nI 1)), (7, .int (nI 1)), (4, .int (nI (24 * k + c1))), (3, .int (nI c1)), (0, .ref (b 0)), (1, .int (nI k)), (2, .int x)]) S.1 S.2.1 dX2_isSo_108 hl (k := 2) rfl (nI_1 _) (by decide) rfl (fun ls hl => ?_)
                  refine lv_goto (tgt := 26) S.1 S.2.1 dX2_isSo_111 (by decide) ?_
                  exact ih26 (i + 1) true ls (by omega) (by omega) (fd_b h34 hw (by simp [cbM, btM, h44, h56])) (lv_sub hl [0, 1, 3, 4, 5, 6, 7] rfl)
                · have h56 : (h) = false := bI_f h56
                  refine lv_aload_n S.1 S.2.1 dX2_isSo_59 rfl (lv_at hl 5 rfl) ?_
                  refine g2_plus S hK hP dX2_isSo_60 ?_
                  refine lv_iload S.1 S.2.1 dX2_isSo_63 (lv_at hl 3 rfl) ?_
                  refine a2_plus (by omega) S hK hP dX2_isSo_65 ?_
                  refine lv_iload S.1 S.2.1 dX2_isSo_66 (lv_at hl 1 rfl) ?_
                  refine lv_ishr S.1 S.2.1 dX2_isSo_68 ?_
                  refine lv_iconst (v := nI 1) S.1 S.2.1 dX2_isSo_69 (by decide) ?_
                  refine lv_iand S.1 S.2.1 dX2_isSo_70 ?_
                  refine lv_iconst (v := nI 1) S.1 S.2.1 dX2_isSo_71 (by decide) ?_
                  refine lv_icmp_ne (tgt := 80) S.1 S.2.1 dX2_isSo_72 (by decide) (fun h72 => ?_) (fun h72 => ?_)
                  · refine lv_aload_n S.1 S.2.1 dX2_isSo_80 rfl (lv_at hl 5 rfl) ?_
                    refine g2_minus S hK hP dX2_isSo_81 ?_
                    refine lv_iload S.1 S.2.1 dX2_isSo_84 (lv_at hl 3 rfl) ?_
                    refine a2_minus (by omega) S hK hP dX2_isSo_86 ?_
                    refine lv_iload S.1 S.2.1 dX2_isSo_87 (lv_at hl 1 rfl) ?_
                    refine lv_ishr S.1 S.2.1 dX2_isSo_89 ?_
                    refine lv_iconst (v := nI 1) S.1 S.2.1 dX2_isSo_90 (by decide) ?_
                    refine lv_iand S.1 S.2.1 dX2_isSo_91 ?_
                    refine lv_iconst (v := nI 1) S.1 S.2.1 dX2_isSo_92 (by decide) ?_
                    refine lv_icmp_ne (tgt := 105) S.1 S.2.1 dX2_isSo_93 (by decide) (fun h93 => ?_) (fun h93 => ?_)
                    · refine lv_iconst (v := nI 0) S.1 S.2.1 dX2_isSo_105 (by decide) ?_
                      refine lv_istore (lv' := [(5, .int (nI 0)), (7, .int (nI 1)), (6, .int (nI i)), (4, .int (nI (24 * k + c1))), (3, .int (nI c1)), (0, .ref (b 0)), (1, .int (nI k)), (2, .int x)]) S.1 S.2.1 dX2_isSo_106 hl (by decide) rfl (fun ls hl => ?_)
                      refine lv_iinc (v := nI (i + 1)) (lv' := [(6, .int (nI (i + 1))), (5, .int (nI 0)), (7, .int (nI 1)), (4, .int (nI (24 * k + c1))), (3, .int (nI c1)), (0, .ref (b 0)), (1, .int (nI k)), (2, .int x)]) S.1 S.2.1 dX2_isSo_108 hl (k := 2) rfl (nI_1 _) (by decide) rfl (fun ls hl => ?_)
                      refine lv_goto (tgt := 26) S.1 S.2.1 dX2_isSo_111 (by decide) ?_
                      exact ih26 (i + 1) false ls (by omega) (by omega) (fd_b h34 hw (by simp [cbM, btM, h44, h56, h72, h93])) (lv_sub hl [0, 1, 3, 4, 5, 6, 7] rfl)
                    · refine lv_iload S.1 S.2.1 dX2_isSo_96 (lv_at hl 0 rfl) ?_
                      refine lv_if_ne (tgt := 105) S.1 S.2.1 dX2_isSo_98 (by decide) (fun _ => ?_) (fun hh => absurd hh (by decide))
                      refine lv_iconst (v := nI 0) S.1 S.2.1 dX2_isSo_105 (by decide) ?_
                      refine lv_istore (lv' := [(5, .int (nI 0)), (7, .int (nI 1)), (6, .int (nI i)), (4, .int (nI (24 * k + c1))), (3, .int (nI c1)), (0, .ref (b 0)), (1, .int (nI k)), (2, .int x)]) S.1 S.2.1 dX2_isSo_106 hl (by decide) rfl (fun ls hl => ?_)
                      refine lv_iinc (v := nI (i + 1)) (lv' := [(6, .int (nI (i + 1))), (5, .int (nI 0)), (7, .int (nI 1)), (4, .int (nI (24 * k + c1))), (3, .int (nI c1)), (0, .ref (b 0)), (1, .int (nI k)), (2, .int x)]) S.1 S.2.1 dX2_isSo_108 hl (k := 2) rfl (nI_1 _) (by decide) rfl (fun ls hl => ?_)
                      refine lv_goto (tgt := 26) S.1 S.2.1 dX2_isSo_111 (by decide) ?_
                      exact ih26 (i + 1) false ls (by omega) (by omega) (fd_b h34 hw (by simp [cbM, btM, h44, h56, h72, h93])) (lv_sub hl [0, 1, 3, 4, 5, 6, 7] rfl)
                  · refine lv_iload S.1 S.2.1 dX2_isSo_75 (lv_at hl 0 rfl) ?_
                    refine lv_if_ne (tgt := 101) S.1 S.2.1 dX2_isSo_77 (by decide) (fun _ => ?_) (fun hh => absurd hh (by decide))
                    refine lv_iconst (v := nI 1) S.1 S.2.1 dX2_isSo_101 (by decide) ?_
                    refine lv_goto (tgt := 106) S.1 S.2.1 dX2_isSo_102 (by decide) ?_
                    refine lv_istore (lv' := [(5, .int (nI 1)), (7, .int (nI 1)), (6, .int (nI i)), (4, .int (nI (24 * k + c1))), (3, .int (nI c1)), (0, .ref (b 0)), (1, .int (nI k)), (2, .int x)]) S.1 S.2.1 dX2_isSo_106 hl (by decide) rfl (fun ls hl => ?_)
                    refine lv_iinc (v := nI (i + 1)) (lv' := [(6, .int (nI (i + 1))), (5, .int (nI 1)), (7, .int (nI 1)), (4, .int (nI (24 * k + c1))), (3, .int (nI c1)), (0, .ref (b 0)), (1, .int (nI k)), (2, .int x)]) S.1 S.2.1 dX2_isSo_108 hl (k := 2) rfl (nI_1 _) (by decide) rfl (fun ls hl => ?_)
                    refine lv_goto (tgt := 26) S.1 S.2.1 dX2_isSo_111 (by decide) ?_
                    exact ih26 (i + 1) true ls (by omega) (by omega) (fd_b h34 hw (by simp [cbM, btM, h44, h56, h72])) (lv_sub hl [0, 1, 3, 4, 5, 6, 7] rfl)
        exact loop26 _ 0 false ls (Nat.lt_succ_self _) (Nat.zero_le _) rfl (lv_sub hl [0, 1, 2, 3, 4, 5, 6] rfl)
  exact loop2 _ 0 ls (Nat.lt_succ_self _) (Nat.zero_le _) rfl (lv_sub hl [0, 1, 2, 3] rfl)
set_option maxHeartbeats 4000000 in
set_option maxRecDepth 100000 in
theorem c_X2_leads {l : Launch} {D : va_G} {cI cL : ClassId} {b : Nat → Nat} {N len : Nat} {cn : Nat → Nat} {P M pth dep : Nat → Int32} {f t : Int32}  (hV : RInv N cn) : MetR l yX2_leads cX2_leads 3 (some .boolean) 1 [.ref (b 0), .int f, .int t] D cI cL (MDw cI b N len cn P M pth dep) (bI (goM N cn P M f t)) := by
  refine MetR.mk (by decide) (Nat.le_of_ble_eq_true rfl) ?_
  intro p e s m args below meth c Q hQ S hr hlk hN hK hP ls hl
  have S : CallFix p m c cX2_leads 3 s args wt RX2 := S
  have hl : lv_has ls 3 [(0, .ref (b 0)), (1, .int f), (2, .int t)] := hl
  refine lv_aload_n S.1 S.2.1 dX2_leads_0 rfl (lv_at hl 0 rfl) ?_
  refine lv_iconst (v := nI 1) S.1 S.2.1 dX2_leads_1 (by decide) ?_
  refine lv_iload_n S.1 S.2.1 dX2_leads_2 rfl (lv_at hl 1 rfl) ?_
  refine lv_iload_n S.1 S.2.1 dX2_leads_3 rfl (lv_at hl 2 rfl) ?_
  refine lv_aload_n S.1 S.2.1 dX2_leads_4 rfl (lv_at hl 0 rfl) ?_
  refine g2_n S hK hP dX2_leads_5 ?_
  refine lv_ishl S.1 S.2.1 dX2_leads_8 ?_
  refine lv_ior S.1 S.2.1 dX2_leads_9 ?_
  refine rdV S cv_RX2_40 (c_X2_isSo (k := 1) (x := f ||| (t <<< ((nI N) &&& 31))) (by decide) hV) hK hN hP (md_rv hK hP) ⟨Nat.le_of_ble_eq_true rfl, Nat.le_of_ble_eq_true rfl⟩ ⟨Nat.zero_le _, Nat.zero_le _⟩ rfl hl.1 rfl (Nat.le_of_ble_eq_true rfl) dX2_leads_10 ?_
  exact rd_retz hQ S hr hlk rfl dX2_leads_13
set_option maxHeartbeats 4000000 in
set_option maxRecDepth 100000 in
theorem c_X2_switches {l : Launch} {D : va_G} {cI cL : ClassId} {b : Nat → Nat} {N len : Nat} {cn : Nat → Nat} {P M pth dep : Nat → Int32}   : MetR l yX2_switches cX2_switches 1 (some .int) 0 [.ref (b 0)] D cI cL (MDw cI b N len cn P M pth dep) (nI N) := by
  refine MetR.mk (by decide) (Nat.le_of_ble_eq_true rfl) ?_
  intro p e s m args below meth c Q hQ S hr hlk hN hK hP ls hl
  have S : CallFix p m c cX2_switches 1 s args wt RX2 := S
  have hl : lv_has ls 1 [(0, .ref (b 0))] := hl
  refine lv_aload_n S.1 S.2.1 dX2_switches_0 rfl (lv_at hl 0 rfl) ?_
  refine g2_n S hK hP dX2_switches_1 ?_
  exact rd_ret hQ S hr hlk rfl dX2_switches_4
set_option maxHeartbeats 4000000 in
set_option maxRecDepth 100000 in
theorem c_X2_count {l : Launch} {D : va_G} {cI cL : ClassId} {b : Nat → Nat} {N len : Nat} {cn : Nat → Nat} {P M pth dep : Nat → Int32} {x : Int32}   : MetR l yX2_count cX2_count 2 (some .int) 1 [.ref (b 0), .int x] D cI cL (MDw cI b N len cn P M pth dep) (if liB x = true then nI (cn x.toNatClampNeg) else -1) := by
  refine MetR.mk (by decide) (Nat.le_of_ble_eq_true rfl) ?_
  intro p e s m args below meth c Q hQ S hr hlk hN hK hP ls hl
  have S : CallFix p m c cX2_count 2 s args wt RX2 := S
  have hl : lv_has ls 2 [(0, .ref (b 0)), (1, .int x)] := hl
  rcases hb : liB x with _ | _
  · skip
    refine lv_iload_n S.1 S.2.1 dX2_count_0 rfl (lv_at hl 1 rfl) ?_
    refine rdS S ct_RX2_36 (c_X2_isList (x := x)) hK hN hP ⟨Nat.le_of_ble_eq_true rfl, Nat.le_of_ble_eq_true rfl⟩ ⟨Nat.zero_le _, Nat.zero_le _⟩ rfl hl.1 rfl (Nat.le_of_ble_eq_true rfl) dX2_count_1 ?_
    refine lv_if_eq (tgt := 16) S.1 S.2.1 dX2_count_4 (by decide) (fun _ => ?_) (fun hh => absurd (by rw [hb]; rfl) hh)
    refine lv_iconst (v := -1) S.1 S.2.1 dX2_count_16 (by decide) ?_
    exact rd_ret hQ S hr hlk (by rw [hb]; rfl) dX2_count_17
  · obtain ⟨k, hk, rfl⟩ := liB_t hb
    refine lv_iload_n S.1 S.2.1 dX2_count_0 rfl (lv_at hl 1 rfl) ?_
    refine rdS S ct_RX2_36 (c_X2_isList (x := nI k)) hK hN hP ⟨Nat.le_of_ble_eq_true rfl, Nat.le_of_ble_eq_true rfl⟩ ⟨Nat.zero_le _, Nat.zero_le _⟩ rfl hl.1 rfl (Nat.le_of_ble_eq_true rfl) dX2_count_1 ?_
    refine lv_if_eq (tgt := 16) S.1 S.2.1 dX2_count_4 (by decide) (fun hh => absurd hh (by rw [hb]; decide)) (fun _ => ?_)
    refine lv_aload_n S.1 S.2.1 dX2_count_7 rfl (lv_at hl 0 rfl) ?_
    refine g2_counts S hK hP dX2_count_8 ?_
    refine lv_iload_n S.1 S.2.1 dX2_count_11 rfl (lv_at hl 1 rfl) ?_
    refine a2_counts hk S hK hP dX2_count_12 ?_
    refine lv_goto (tgt := 17) S.1 S.2.1 dX2_count_13 (by decide) ?_
    exact rd_ret hQ S hr hlk (by rw [if_pos hb, nI_clamp (by omega)]) dX2_count_17
set_option maxHeartbeats 4000000 in
set_option maxRecDepth 100000 in
theorem c_X2_holds {l : Launch} {D : va_G} {cI cL : ClassId} {b : Nat → Nat} {N len : Nat} {cn : Nat → Nat} {P M pth dep : Nat → Int32} {li x y : Int32}  (hV : RInv N cn) : MetR l yX2_holds cX2_holds 4 (some .boolean) 2 [.ref (b 0), .int li, .int x, .int y] D cI cL (MDw cI b N len cn P M pth dep) (bI (hoM N cn P M li x y)) := by
  refine MetR.mk (by decide) (Nat.le_of_ble_eq_true rfl) ?_
  intro p e s m args below meth c Q hQ S hr hlk hN hK hP ls hl
  have S : CallFix p m c cX2_holds 4 s args wt RX2 := S
  have hl : lv_has ls 4 [(0, .ref (b 0)), (1, .int li), (2, .int x), (3, .int y)] := hl
  rcases hb : liB li with _ | _
  · skip
    refine lv_iload_n S.1 S.2.1 dX2_holds_0 rfl (lv_at hl 1 rfl) ?_
    refine rdS S ct_RX2_36 (c_X2_isList (x := li)) hK hN hP ⟨Nat.le_of_ble_eq_true rfl, Nat.le_of_ble_eq_true rfl⟩ ⟨Nat.zero_le _, Nat.zero_le _⟩ rfl hl.1 rfl (Nat.le_of_ble_eq_true rfl) dX2_holds_1 ?_
    refine lv_if_eq (tgt := 28) S.1 S.2.1 dX2_holds_4 (by decide) (fun _ => ?_) (fun hh => absurd (by rw [hb]; rfl) hh)
    refine lv_iconst (v := nI 0) S.1 S.2.1 dX2_holds_28 (by decide) ?_
    exact rd_retz hQ S hr hlk (r0 (by simp [hoM, show liB (nI 1) = true from by decide, hb])) dX2_holds_29
  · obtain ⟨k, hk, rfl⟩ := liB_t hb
    refine lv_iload_n S.1 S.2.1 dX2_holds_0 rfl (lv_at hl 1 rfl) ?_
    refine rdS S ct_RX2_36 (c_X2_isList (x := nI k)) hK hN hP ⟨Nat.le_of_ble_eq_true rfl, Nat.le_of_ble_eq_true rfl⟩ ⟨Nat.zero_le _, Nat.zero_le _⟩ rfl hl.1 rfl (Nat.le_of_ble_eq_true rfl) dX2_holds_1 ?_
    refine lv_if_eq (tgt := 28) S.1 S.2.1 dX2_holds_4 (by decide) (fun hh => absurd hh (by rw [hb]; decide)) (fun _ => ?_)
    refine lv_aload_n S.1 S.2.1 dX2_holds_7 rfl (lv_at hl 0 rfl) ?_
    refine lv_iload_n S.1 S.2.1 dX2_holds_8 rfl (lv_at hl 2 rfl) ?_
    refine rdV S cv_RX2_44 (c_X2_isState (x := x) hV) hK hN hP (md_rv hK hP) ⟨Nat.le_of_ble_eq_true rfl, Nat.le_of_ble_eq_true rfl⟩ ⟨Nat.zero_le _, Nat.zero_le _⟩ rfl hl.1 rfl (Nat.le_of_ble_eq_true rfl) dX2_holds_9 ?_
    refine lv_if_eq (tgt := 28) S.1 S.2.1 dX2_holds_12 (by decide) (fun h12 => ?_) (fun h12 => ?_)
    · have h12 : (stB N x) = false := bI_f h12
      refine lv_iconst (v := nI 0) S.1 S.2.1 dX2_holds_28 (by decide) ?_
      exact rd_retz hQ S hr hlk (r0 (by simp [hoM, show liB (nI 1) = true from by decide, hb, h12])) dX2_holds_29
    · have h12 : (stB N x) = true := bI_t h12
      refine lv_iload_n S.1 S.2.1 dX2_holds_15 rfl (lv_at hl 1 rfl) ?_
      refine lv_iconst (v := nI 1) S.1 S.2.1 dX2_holds_16 (by decide) ?_
      refine lv_icmp_ne (tgt := 30) S.1 S.2.1 dX2_holds_17 (by decide) (fun h17 => ?_) (fun h17 => ?_)
      · refine lv_iload_n S.1 S.2.1 dX2_holds_30 rfl (lv_at hl 1 rfl) ?_
        refine lv_iconst (v := nI 1) S.1 S.2.1 dX2_holds_31 (by decide) ?_
        refine lv_icmp_ne (tgt := 44) S.1 S.2.1 dX2_holds_32 (by decide) (fun _ => ?_) (fun hh => absurd hh h17)
        refine lv_aload_n S.1 S.2.1 dX2_holds_44 rfl (lv_at hl 0 rfl) ?_
        refine lv_iload_n S.1 S.2.1 dX2_holds_45 rfl (lv_at hl 1 rfl) ?_
        refine lv_iload_n S.1 S.2.1 dX2_holds_46 rfl (lv_at hl 2 rfl) ?_
        refine rdV S cv_RX2_40 (c_X2_isSo (k := k) (x := x) hk hV) hK hN hP (md_rv hK hP) ⟨Nat.le_of_ble_eq_true rfl, Nat.le_of_ble_eq_true rfl⟩ ⟨Nat.zero_le _, Nat.zero_le _⟩ rfl hl.1 rfl (Nat.le_of_ble_eq_true rfl) dX2_holds_47 ?_
        exact rd_retz hQ S hr hlk (by simp [hoM, show liB (nI 1) = true from by decide, nI_clamp (show k < 2 ^ 31 by omega), hb, h12, h17]) dX2_holds_50
      · refine lv_aload_n S.1 S.2.1 dX2_holds_20 rfl (lv_at hl 0 rfl) ?_
        refine lv_iload_n S.1 S.2.1 dX2_holds_21 rfl (lv_at hl 3 rfl) ?_
        refine rdV S cv_RX2_44 (c_X2_isState (x := y) hV) hK hN hP (md_rv hK hP) ⟨Nat.le_of_ble_eq_true rfl, Nat.le_of_ble_eq_true rfl⟩ ⟨Nat.zero_le _, Nat.zero_le _⟩ rfl hl.1 rfl (Nat.le_of_ble_eq_true rfl) dX2_holds_22 ?_
        refine lv_if_ne (tgt := 30) S.1 S.2.1 dX2_holds_25 (by decide) (fun h25 => ?_) (fun h25 => ?_)
        · have h25 : (stB N y) = true := bI_t h25
          refine lv_iload_n S.1 S.2.1 dX2_holds_30 rfl (lv_at hl 1 rfl) ?_
          refine lv_iconst (v := nI 1) S.1 S.2.1 dX2_holds_31 (by decide) ?_
          refine lv_icmp_ne (tgt := 44) S.1 S.2.1 dX2_holds_32 (by decide) (fun hh => absurd h17 hh) (fun _ => ?_)
          refine lv_aload_n S.1 S.2.1 dX2_holds_35 rfl (lv_at hl 0 rfl) ?_
          refine lv_iload_n S.1 S.2.1 dX2_holds_36 rfl (lv_at hl 2 rfl) ?_
          refine lv_iload_n S.1 S.2.1 dX2_holds_37 rfl (lv_at hl 3 rfl) ?_
          refine rdV S cv_RX2_47 (c_X2_leads (f := x) (t := y) hV) hK hN hP (md_rv hK hP) ⟨Nat.le_of_ble_eq_true rfl, Nat.le_of_ble_eq_true rfl⟩ ⟨Nat.zero_le _, Nat.zero_le _⟩ rfl hl.1 rfl (Nat.le_of_ble_eq_true rfl) dX2_holds_38 ?_
          refine lv_goto (tgt := 50) S.1 S.2.1 dX2_holds_41 (by decide) ?_
          exact rd_retz hQ S hr hlk (by simp [hoM, show liB (nI 1) = true from by decide, nI_clamp (show k < 2 ^ 31 by omega), hb, h12, h17, h25]) dX2_holds_50
        · have h25 : (stB N y) = false := bI_f h25
          refine lv_iconst (v := nI 0) S.1 S.2.1 dX2_holds_28 (by decide) ?_
          exact rd_retz hQ S hr hlk (r0 (by simp [hoM, show liB (nI 1) = true from by decide, hb, h12, h17, h25])) dX2_holds_29
set_option maxHeartbeats 4000000 in
set_option maxRecDepth 100000 in
theorem c_X2_explore {l : Launch} {D : va_G} {cI cL : ClassId} {b : Nat → Nat} {N len : Nat} {cn : Nat → Nat} {P M pth dep : Nat → Int32}  (hV : RInv N cn) : MetW l yX2_explore cX2_explore 5 none 2 [.ref (b 0)] D cI cL (MDw cI b N len cn P M pth dep) (none) (MDw cI b N len cn P M pth (xplM N cn P M dep)) := by
  refine MetW.mk (by decide) (Nat.le_of_ble_eq_true rfl) ?_
  intro p e s m args below meth c Q A hQ S hr hlk hN hK hP hD hS ls hl
  have S : CallFix p m c cX2_explore 5 s args wt RX2 := S
  have hl : lv_has ls 5 [(0, .ref (b 0))] := hl
  have hz := hV.S
  refine lv_iconst (v := nI 0) S.1 S.2.1 dX2_explore_0 (by decide) ?_
  refine lv_istore_n (lv' := [(1, .int (nI 0)), (0, .ref (b 0))]) S.1 S.2.1 dX2_explore_1 rfl hl (by decide) rfl (fun ls hl => ?_)
  have loop2 : ∀ (nf : Nat) (i : Nat) (dep1 : Nat → Int32) (H : Heap) (locs : List Loc) (ls : Array Slot), 2 ^ N - i < nf → i ≤ 2 ^ N → fd (iniC (fun i => soM N cn P M 0 (nI i))) (2 ^ N) i dep1 = fd (iniC (fun i => soM N cn P M 0 (nI i))) (2 ^ N) 0 dep → va_P D classes (MDw cI b N len cn P M pth dep1) H → va_D A (MDw cI b N len cn P M pth dep1) → va_S A s.heap H locs → lv_has ls 5 [(1, .int (nI i)), (0, .ref (b 0))] → W p l e (rmd 2) s m args below meth c H locs 0 0 Q (F0 m 2 ls []) := by
    intro nf
    induction nf with
    | zero => exact fun i dep1 H locs ls hn => absurd hn (Nat.not_lt_zero _)
    | succ nf ih2 =>
      intro i dep1 H locs ls hn hi hv hP hD hS hl
      refine lv_iload_n S.1 S.2.1 dX2_explore_2 rfl (lv_at hl 0 rfl) ?_
      refine lv_aload_n S.1 S.2.1 dX2_explore_3 rfl (lv_at hl 1 rfl) ?_
      refine rdV S cv_RX2_29 (c_X2_states hV) hK hN hP (md_rv hK hP) ⟨Nat.le_of_ble_eq_true rfl, Nat.le_of_ble_eq_true rfl⟩ ⟨Nat.zero_le _, Nat.zero_le _⟩ rfl hl.1 rfl (Nat.le_of_ble_eq_true rfl) dX2_explore_4 ?_
      refine lv_icmp_ge (tgt := 36) S.1 S.2.1 dX2_explore_7 (by decide) (fun h7 => ?_) (fun h7 => ?_)
      · have h7 := ge_n (by omega) (by omega) h7
        rw [fd_d h7] at hv
        subst hv
        refine lv_iconst (v := nI 1) S.1 S.2.1 dX2_explore_36 (by decide) ?_
        refine lv_istore_n (lv' := [(1, .int (nI 1)), (0, .ref (b 0))]) S.1 S.2.1 dX2_explore_37 rfl hl (by decide) rfl (fun ls hl => ?_)
        refine lv_iconst (v := nI 0) S.1 S.2.1 dX2_explore_38 (by decide) ?_
        refine lv_istore_n (lv' := [(2, .int (nI 0)), (1, .int (nI 1)), (0, .ref (b 0))]) S.1 S.2.1 dX2_explore_39 rfl hl (by decide) rfl (fun ls hl => ?_)
        have loop40 : ∀ (nf : Nat) (f : Nat) (k : Nat) (dep1 : Nat → Int32) (more : Bool) (H : Heap) (locs : List Loc) (ls : Array Slot), f < nf → k + f ≤ 2 ^ N + 1 → (more = true → unr (2 ^ N) dep1 < f ∧ xpK (fun f t => goM N cn P M (nI f) (nI t)) (2 ^ N) f k dep1 = xplM N cn P M dep) → (more = false → dep1 = xplM N cn P M dep) → va_P D classes (MDw cI b N len cn P M pth dep1) H → va_D A (MDw cI b N len cn P M pth dep1) → va_S A s.heap H locs → lv_has ls 5 [(1, .int (bI more)), (2, .int (nI k)), (0, .ref (b 0))] → W p l e (rmd 2) s m args below meth c H locs 0 0 Q (F0 m 40 ls []) := by
          intro nf
          induction nf with
          | zero => exact fun f k dep1 more H locs ls hn => absurd hn (Nat.not_lt_zero _)
          | succ nf ih40 =>
            intro f k dep1 more H locs ls hn hm0 hm hm2 hP hD hS hl
            refine lv_iload_n S.1 S.2.1 dX2_explore_40 rfl (lv_at hl 0 rfl) ?_
            refine lv_if_eq (tgt := 128) S.1 S.2.1 dX2_explore_41 (by decide) (fun h41 => ?_) (fun h41 => ?_)
            · have h41 : (more) = false := bI_f h41
              obtain rfl := hm2 h41
              exact wr_retv hQ S hr hlk hP hS rfl dX2_explore_128
            · have h41 : (more) = true := bI_t h41
              obtain ⟨hm3, hm4⟩ := hm h41
              obtain ⟨f1, rfl⟩ : ∃ f1, f = f1 + 1 := ⟨f - 1, by omega⟩
              refine lv_iconst (v := nI 0) S.1 S.2.1 dX2_explore_44 (by decide) ?_
              refine lv_istore_n (lv' := [(1, .int (nI 0)), (2, .int (nI k)), (0, .ref (b 0))]) S.1 S.2.1 dX2_explore_45 rfl hl (by decide) rfl (fun ls hl => ?_)
              refine lv_iconst (v := nI 0) S.1 S.2.1 dX2_explore_46 (by decide) ?_
              refine lv_istore_n (lv' := [(3, .int (nI 0)), (1, .int (nI 0)), (2, .int (nI k)), (0, .ref (b 0))]) S.1 S.2.1 dX2_explore_47 rfl hl (by decide) rfl (fun ls hl => ?_)
              have loop48 : ∀ (nf : Nat) (si : Nat) (dep2 : Nat → Int32) (mr : Bool) (H : Heap) (locs : List Loc) (ls : Array Slot), 2 ^ N - si < nf → si ≤ 2 ^ N → fd (fun s x => ti (fun f t => goM N cn P M (nI f) (nI t)) k s (2 ^ N) 0 x) (2 ^ N) si (dep2, mr) = rnd (fun f t => goM N cn P M (nI f) (nI t)) (2 ^ N) k dep1 → va_P D classes (MDw cI b N len cn P M pth dep2) H → va_D A (MDw cI b N len cn P M pth dep2) → va_S A s.heap H locs → lv_has ls 5 [(3, .int (nI si)), (1, .int (bI mr)), (2, .int (nI k)), (0, .ref (b 0))] → W p l e (rmd 2) s m args below meth c H locs 0 0 Q (F0 m 48 ls []) := by
                intro nf
                induction nf with
                | zero => exact fun si dep2 mr H locs ls hn => absurd hn (Nat.not_lt_zero _)
                | succ nf ih48 =>
                  intro si dep2 mr H locs ls hn hs hw hP hD hS hl
                  refine lv_iload_n S.1 S.2.1 dX2_explore_48 rfl (lv_at hl 0 rfl) ?_
                  refine lv_aload_n S.1 S.2.1 dX2_explore_49 rfl (lv_at hl 3 rfl) ?_
                  refine rdV S cv_RX2_29 (c_X2_states hV) hK hN hP (md_rv hK hP) ⟨Nat.le_of_ble_eq_true rfl, Nat.le_of_ble_eq_true rfl⟩ ⟨Nat.zero_le _, Nat.zero_le _⟩ rfl hl.1 rfl (Nat.le_of_ble_eq_true rfl) dX2_explore_50 ?_
                  refine lv_icmp_ge (tgt := 122) S.1 S.2.1 dX2_explore_53 (by decide) (fun h53 => ?_) (fun h53 => ?_)
                  · have h53 := ge_n (by omega) (by omega) h53
                    rw [fd_d h53] at hw
                    refine lv_iinc (v := nI (k + 1)) (lv' := [(2, .int (nI (k + 1))), (3, .int (nI si)), (1, .int (bI mr)), (0, .ref (b 0))]) S.1 S.2.1 dX2_explore_122 hl (k := 2) rfl (nI_1 _) (by decide) rfl (fun ls hl => ?_)
                    refine lv_goto (tgt := 40) S.1 S.2.1 dX2_explore_125 (by decide) ?_
                    exact ih40 f1 (k + 1) dep2 mr _ _ ls (by omega) (by omega) (fun q => rnd_m hw q (by omega) hm3 hm4) (fun q => rnd_0 hw q hm4) hP hD hS (lv_sub hl [2, 0, 3] rfl)
                  · have h53 := ge_f (by omega) (by omega) h53
                    refine lv_iconst (v := nI 0) S.1 S.2.1 dX2_explore_56 (by decide) ?_
                    refine lv_istore (lv' := [(4, .int (nI 0)), (3, .int (nI si)), (1, .int (bI mr)), (2, .int (nI k)), (0, .ref (b 0))]) S.1 S.2.1 dX2_explore_57 hl (by decide) rfl (fun ls hl => ?_)
                    have loop59 : ∀ (nf : Nat) (t : Nat) (dep3 : Nat → Int32) (mr3 : Bool) (H : Heap) (locs : List Loc) (ls : Array Slot), 2 ^ N - t < nf → t ≤ 2 ^ N → ti (fun f t => goM N cn P M (nI f) (nI t)) k si (2 ^ N) t (dep3, mr3) = ti (fun f t => goM N cn P M (nI f) (nI t)) k si (2 ^ N) 0 (dep2, mr) → va_P D classes (MDw cI b N len cn P M pth dep3) H → va_D A (MDw cI b N len cn P M pth dep3) → va_S A s.heap H locs → lv_has ls 5 [(4, .int (nI t)), (1, .int (bI mr3)), (2, .int (nI k)), (3, .int (nI si)), (0, .ref (b 0))] → W p l e (rmd 2) s m args below meth c H locs 0 0 Q (F0 m 59 ls []) := by
                      intro nf
                      induction nf with
                      | zero => exact fun t dep3 mr3 H locs ls hn => absurd hn (Nat.not_lt_zero _)
                      | succ nf ih59 =>
                        intro t dep3 mr3 H locs ls hn ht hu hP hD hS hl
                        refine lv_iload S.1 S.2.1 dX2_explore_59 (lv_at hl 0 rfl) ?_
                        refine lv_aload_n S.1 S.2.1 dX2_explore_61 rfl (lv_at hl 4 rfl) ?_
                        refine rdV S cv_RX2_29 (c_X2_states hV) hK hN hP (md_rv hK hP) ⟨Nat.le_of_ble_eq_true rfl, Nat.le_of_ble_eq_true rfl⟩ ⟨Nat.zero_le _, Nat.zero_le _⟩ rfl hl.1 rfl (Nat.le_of_ble_eq_true rfl) dX2_explore_62 ?_
                        refine lv_icmp_ge (tgt := 116) S.1 S.2.1 dX2_explore_65 (by decide) (fun h65 => ?_) (fun h65 => ?_)
                        · have h65 := ge_n (by omega) (by omega) h65
                          rw [ti_d h65] at hu
                          refine lv_iinc (v := nI (si + 1)) (lv' := [(3, .int (nI (si + 1))), (4, .int (nI t)), (1, .int (bI mr3)), (2, .int (nI k)), (0, .ref (b 0))]) S.1 S.2.1 dX2_explore_116 hl (k := 3) rfl (nI_1 _) (by decide) rfl (fun ls hl => ?_)
                          refine lv_goto (tgt := 48) S.1 S.2.1 dX2_explore_119 (by decide) ?_
                          exact ih48 (si + 1) dep3 mr3 _ _ ls (by omega) (by omega) (fd_b h53 hw hu.symm) hP hD hS (lv_sub hl [0, 2, 3, 4] rfl)
                        · have h65 := ge_f (by omega) (by omega) h65
                          refine lv_aload_n S.1 S.2.1 dX2_explore_68 rfl (lv_at hl 4 rfl) ?_
                          refine g2_depths S hK hP dX2_explore_69 ?_
                          refine lv_iload_n S.1 S.2.1 dX2_explore_72 rfl (lv_at hl 3 rfl) ?_
                          refine a2_dep (by omega) S hK hP dX2_explore_73 ?_
                          refine lv_iload_n S.1 S.2.1 dX2_explore_74 rfl (lv_at hl 2 rfl) ?_
                          refine lv_icmp_ne (tgt := 116) S.1 S.2.1 dX2_explore_75 (by decide) (fun h75 => ?_) (fun h75 => ?_)
                          · rw [ti_n h75] at hu
                            refine lv_iinc (v := nI (si + 1)) (lv' := [(3, .int (nI (si + 1))), (4, .int (nI t)), (1, .int (bI mr3)), (2, .int (nI k)), (0, .ref (b 0))]) S.1 S.2.1 dX2_explore_116 hl (k := 3) rfl (nI_1 _) (by decide) rfl (fun ls hl => ?_)
                            refine lv_goto (tgt := 48) S.1 S.2.1 dX2_explore_119 (by decide) ?_
                            exact ih48 (si + 1) dep3 mr3 _ _ ls (by omega) (by omega) (fd_b h53 hw hu.symm) hP hD hS (lv_sub hl [0, 2, 3, 4] rfl)
                          · refine lv_aload_n S.1 S.2.1 dX2_explore_78 rfl (lv_at hl 4 rfl) ?_
                            refine g2_depths S hK hP dX2_explore_79 ?_
                            refine lv_iload S.1 S.2.1 dX2_explore_82 (lv_at hl 0 rfl) ?_
                            refine a2_dep (by omega) S hK hP dX2_explore_84 ?_
                            refine lv_if_ge (tgt := 110) S.1 S.2.1 dX2_explore_85 (by decide) (fun h85 => ?_) (fun h85 => ?_)
                            · refine lv_iinc (v := nI (t + 1)) (lv' := [(4, .int (nI (t + 1))), (1, .int (bI mr3)), (2, .int (nI k)), (3, .int (nI si)), (0, .ref (b 0))]) S.1 S.2.1 dX2_explore_110 hl (k := 0) rfl (nI_1 _) (by decide) rfl (fun ls hl => ?_)
                              refine lv_goto (tgt := 59) S.1 S.2.1 dX2_explore_113 (by decide) ?_
                              exact ih59 (t + 1) _ mr3 _ _ ls (by omega) (by omega) (ti_b h65 h75 hu (by simp [tsM, h53, h85])) hP hD hS (lv_sub hl [0, 1, 2, 3, 4] rfl)
                            · refine lv_aload_n S.1 S.2.1 dX2_explore_88 rfl (lv_at hl 4 rfl) ?_
                              refine lv_iload_n S.1 S.2.1 dX2_explore_89 rfl (lv_at hl 3 rfl) ?_
                              refine lv_iload S.1 S.2.1 dX2_explore_90 (lv_at hl 0 rfl) ?_
                              refine rdV S cv_RX2_47 (c_X2_leads (f := nI si) (t := nI t) hV) hK hN hP (md_rv hK hP) ⟨Nat.le_of_ble_eq_true rfl, Nat.le_of_ble_eq_true rfl⟩ ⟨Nat.zero_le _, Nat.zero_le _⟩ rfl hl.1 rfl (Nat.le_of_ble_eq_true rfl) dX2_explore_92 ?_
                              refine lv_if_eq (tgt := 110) S.1 S.2.1 dX2_explore_95 (by decide) (fun h95 => ?_) (fun h95 => ?_)
                              · have h95 : (goM N cn P M (nI si) (nI t)) = false := bI_f h95
                                refine lv_iinc (v := nI (t + 1)) (lv' := [(4, .int (nI (t + 1))), (1, .int (bI mr3)), (2, .int (nI k)), (3, .int (nI si)), (0, .ref (b 0))]) S.1 S.2.1 dX2_explore_110 hl (k := 0) rfl (nI_1 _) (by decide) rfl (fun ls hl => ?_)
                                refine lv_goto (tgt := 59) S.1 S.2.1 dX2_explore_113 (by decide) ?_
                                exact ih59 (t + 1) _ mr3 _ _ ls (by omega) (by omega) (ti_b h65 h75 hu (by simp [tsM, h53, h85, h95])) hP hD hS (lv_sub hl [0, 1, 2, 3, 4] rfl)
                              · have h95 : (goM N cn P M (nI si) (nI t)) = true := bI_t h95
                                refine lv_aload_n S.1 S.2.1 dX2_explore_98 rfl (lv_at hl 4 rfl) ?_
                                refine g2_depths S hK hP dX2_explore_99 ?_
                                refine lv_iload S.1 S.2.1 dX2_explore_102 (lv_at hl 0 rfl) ?_
                                refine lv_iload_n S.1 S.2.1 dX2_explore_104 rfl (lv_at hl 2 rfl) ?_
                                refine lv_iconst (v := nI 1) S.1 S.2.1 dX2_explore_105 (by decide) ?_
                                refine lv_iadd S.1 S.2.1 dX2_explore_106 ?_
                                refine s2_dep (x := (nI k) + (nI 1)) (by omega) S hK hP hD hS dX2_explore_107 (fun H locs hP hD hS => ?_)
                                refine lv_iconst (v := nI 1) S.1 S.2.1 dX2_explore_108 (by decide) ?_
                                refine lv_istore_n (lv' := [(1, .int (nI 1)), (4, .int (nI t)), (2, .int (nI k)), (3, .int (nI si)), (0, .ref (b 0))]) S.1 S.2.1 dX2_explore_109 rfl hl (by decide) rfl (fun ls hl => ?_)
                                refine lv_iinc (v := nI (t + 1)) (lv' := [(4, .int (nI (t + 1))), (1, .int (nI 1)), (2, .int (nI k)), (3, .int (nI si)), (0, .ref (b 0))]) S.1 S.2.1 dX2_explore_110 hl (k := 1) rfl (nI_1 _) (by decide) rfl (fun ls hl => ?_)
                                refine lv_goto (tgt := 59) S.1 S.2.1 dX2_explore_113 (by decide) ?_
                                exact ih59 (t + 1) _ true _ _ ls (by omega) (by omega) (ti_b h65 h75 hu (by simp [tsM, h53, h85, h95])) hP hD hS (lv_sub hl [0, 1, 2, 3, 4] rfl)
                    exact loop59 _ 0 dep2 mr _ _ ls (Nat.lt_succ_self _) (Nat.zero_le _) rfl hP hD hS (lv_sub hl [0, 2, 3, 1, 4] rfl)
              exact loop48 _ 0 dep1 false _ _ ls (Nat.lt_succ_self _) (Nat.zero_le _) rfl hP hD hS (lv_sub hl [0, 1, 2, 3] rfl)
        exact loop40 _ (2 ^ N + 1) 0 _ true _ _ ls (Nat.lt_succ_self _) (by omega) (fun _ => ⟨Nat.lt_succ_of_le (unr_le _ _), rfl⟩) (fun q => absurd q (by decide)) hP hD hS (lv_sub hl [1, 0, 2] rfl)
      · have h7 := ge_f (by omega) (by omega) h7
        refine lv_aload_n S.1 S.2.1 dX2_explore_10 rfl (lv_at hl 1 rfl) ?_
        refine g2_depths S hK hP dX2_explore_11 ?_
        refine lv_iload_n S.1 S.2.1 dX2_explore_14 rfl (lv_at hl 0 rfl) ?_
        refine lv_aload_n S.1 S.2.1 dX2_explore_15 rfl (lv_at hl 1 rfl) ?_
        refine lv_iconst (v := nI 0) S.1 S.2.1 dX2_explore_16 (by decide) ?_
        refine lv_iload_n S.1 S.2.1 dX2_explore_17 rfl (lv_at hl 0 rfl) ?_
        refine rdV S cv_RX2_40 (c_X2_isSo (k := 0) (x := nI i) (by decide) hV) hK hN hP (md_rv hK hP) ⟨Nat.le_of_ble_eq_true rfl, Nat.le_of_ble_eq_true rfl⟩ ⟨Nat.zero_le _, Nat.zero_le _⟩ rfl hl.1 rfl (Nat.le_of_ble_eq_true rfl) dX2_explore_18 ?_
        refine lv_if_eq (tgt := 28) S.1 S.2.1 dX2_explore_21 (by decide) (fun h21 => ?_) (fun h21 => ?_)
        · have h21 : (soM N cn P M 0 (nI i)) = false := bI_f h21
          refine lv_iconst (v := -1) S.1 S.2.1 dX2_explore_28 (by decide) ?_
          refine s2_dep (x := -1) (by omega) S hK hP hD hS dX2_explore_29 (fun H locs hP hD hS => ?_)
          refine lv_iinc (v := nI (i + 1)) (lv' := [(1, .int (nI (i + 1))), (0, .ref (b 0))]) S.1 S.2.1 dX2_explore_30 hl (k := 0) rfl (nI_1 _) (by decide) rfl (fun ls hl => ?_)
          refine lv_goto (tgt := 2) S.1 S.2.1 dX2_explore_33 (by decide) ?_
          exact ih2 (i + 1) _ _ _ ls (by omega) (by omega) (fd_b h7 hv (by simp [iniC, h21])) hP hD hS (lv_sub hl [0, 1] rfl)
        · have h21 : (soM N cn P M 0 (nI i)) = true := bI_t h21
          refine lv_iconst (v := nI 0) S.1 S.2.1 dX2_explore_24 (by decide) ?_
          refine lv_goto (tgt := 29) S.1 S.2.1 dX2_explore_25 (by decide) ?_
          refine s2_dep (x := nI 0) (by omega) S hK hP hD hS dX2_explore_29 (fun H locs hP hD hS => ?_)
          refine lv_iinc (v := nI (i + 1)) (lv' := [(1, .int (nI (i + 1))), (0, .ref (b 0))]) S.1 S.2.1 dX2_explore_30 hl (k := 0) rfl (nI_1 _) (by decide) rfl (fun ls hl => ?_)
          refine lv_goto (tgt := 2) S.1 S.2.1 dX2_explore_33 (by decide) ?_
          exact ih2 (i + 1) _ _ _ ls (by omega) (by omega) (fd_b h7 hv (by simp [iniC, h21])) hP hD hS (lv_sub hl [0, 1] rfl)
  exact loop2 _ 0 dep _ _ ls (Nat.lt_succ_self _) (Nat.zero_le _) rfl hP hD hS (lv_sub hl [0, 1] rfl)
set_option maxHeartbeats 4000000 in
set_option maxRecDepth 100000 in
theorem c_X2_steps {l : Launch} {D : va_G} {cI cL : ClassId} {b : Nat → Nat} {N len : Nat} {cn : Nat → Nat} {P M pth dep : Nat → Int32}  (hV : RInv N cn) : MetW l yX2_steps cX2_steps 3 (some .int) 3 [.ref (b 0)] D cI cL (MDw cI b N len cn P M pth dep) (some (.int (stM N cn P M (xplM N cn P M dep)))) (MDw cI b N len cn P M pth (xplM N cn P M dep)) := by
  refine MetW.mk (by decide) (Nat.le_of_ble_eq_true rfl) ?_
  intro p e s m args below meth c Q A hQ S hr hlk hN hK hP hD hS ls hl
  have S : CallFix p m c cX2_steps 3 s args wt RX2 := S
  have hl : lv_has ls 3 [(0, .ref (b 0))] := hl
  have hz := hV.S
  refine lv_aload_n S.1 S.2.1 dX2_steps_0 rfl (lv_at hl 0 rfl) ?_
  refine wrVv S cv_RX2_50 (c_X2_explore hV) hK hN hP hD hS (md_rv hK hP) ⟨Nat.le_of_ble_eq_true rfl, Nat.le_of_ble_eq_true rfl⟩ ⟨Nat.zero_le _, Nat.zero_le _⟩ rfl hl.1 rfl (Nat.le_of_ble_eq_true rfl) dX2_steps_1 (fun H locs hP hS _ => ?_)
  have hD : va_D A (MDw cI b N len cn P M pth (xplM N cn P M dep)) := D_same hD rfl
  refine lv_iconst (v := -1) S.1 S.2.1 dX2_steps_4 (by decide) ?_
  refine lv_istore_n (lv' := [(1, .int (-1)), (0, .ref (b 0))]) S.1 S.2.1 dX2_steps_5 rfl hl (by decide) rfl (fun ls hl => ?_)
  refine lv_iconst (v := nI 0) S.1 S.2.1 dX2_steps_6 (by decide) ?_
  refine lv_istore_n (lv' := [(2, .int (nI 0)), (1, .int (-1)), (0, .ref (b 0))]) S.1 S.2.1 dX2_steps_7 rfl hl (by decide) rfl (fun ls hl => ?_)
  have loop8 : ∀ (nf : Nat) (i : Nat) (x : Int32) (H : Heap) (locs : List Loc) (ls : Array Slot), 2 ^ N - i < nf → i ≤ 2 ^ N → fd (minF (fun i x => !decide ((xplM N cn P M dep) i < 0) && ((decide (x < 0) || !decide (x ≤ (xplM N cn P M dep) i)) && soM N cn P M 2 (nI i))) (xplM N cn P M dep)) (2 ^ N) i x = stM N cn P M (xplM N cn P M dep) → va_P D classes (MDw cI b N len cn P M pth (xplM N cn P M dep)) H → va_D A (MDw cI b N len cn P M pth (xplM N cn P M dep)) → va_S A s.heap H locs → lv_has ls 3 [(2, .int (nI i)), (1, .int x), (0, .ref (b 0))] → W p l e (rmd 3) s m args below meth c H locs 0 0 Q (F0 m 8 ls []) := by
    intro nf
    induction nf with
    | zero => exact fun i x H locs ls hn => absurd hn (Nat.not_lt_zero _)
    | succ nf ih8 =>
      intro i x H locs ls hn hi hv hP hD hS hl
      refine lv_iload_n S.1 S.2.1 dX2_steps_8 rfl (lv_at hl 0 rfl) ?_
      refine lv_aload_n S.1 S.2.1 dX2_steps_9 rfl (lv_at hl 2 rfl) ?_
      refine rdV S cv_RX2_29 (c_X2_states hV) hK hN hP (md_rv hK hP) ⟨Nat.le_of_ble_eq_true rfl, Nat.le_of_ble_eq_true rfl⟩ ⟨Nat.zero_le _, Nat.zero_le _⟩ rfl hl.1 rfl (Nat.le_of_ble_eq_true rfl) dX2_steps_10 ?_
      refine lv_icmp_ge (tgt := 61) S.1 S.2.1 dX2_steps_13 (by decide) (fun h13 => ?_) (fun h13 => ?_)
      · have h13 := ge_n (by omega) (by omega) h13
        refine lv_iload_n S.1 S.2.1 dX2_steps_61 rfl (lv_at hl 1 rfl) ?_
        exact wr_ret hQ S hr hlk hP hS rfl (by rw [← hv, fd_d h13]) dX2_steps_62
      · have h13 := ge_f (by omega) (by omega) h13
        refine lv_aload_n S.1 S.2.1 dX2_steps_16 rfl (lv_at hl 2 rfl) ?_
        refine g2_depths S hK hP dX2_steps_17 ?_
        refine lv_iload_n S.1 S.2.1 dX2_steps_20 rfl (lv_at hl 0 rfl) ?_
        refine a2_dep (by omega) S hK hP dX2_steps_21 ?_
        refine lv_if_lt (tgt := 55) S.1 S.2.1 dX2_steps_22 (by decide) (fun h22 => ?_) (fun h22 => ?_)
        · refine lv_iinc (v := nI (i + 1)) (lv' := [(2, .int (nI (i + 1))), (1, .int x), (0, .ref (b 0))]) S.1 S.2.1 dX2_steps_55 hl (k := 0) rfl (nI_1 _) (by decide) rfl (fun ls hl => ?_)
          refine lv_goto (tgt := 8) S.1 S.2.1 dX2_steps_58 (by decide) ?_
          exact ih8 (i + 1) _ _ _ ls (by omega) (by omega) (fd_b h13 hv (by simp only [minF, decide_eq_true h22]; simp)) hP hD hS (lv_sub hl [0, 1, 2] rfl)
        · refine lv_iload_n S.1 S.2.1 dX2_steps_25 rfl (lv_at hl 1 rfl) ?_
          refine lv_if_lt (tgt := 39) S.1 S.2.1 dX2_steps_26 (by decide) (fun h26 => ?_) (fun h26 => ?_)
          · refine lv_aload_n S.1 S.2.1 dX2_steps_39 rfl (lv_at hl 2 rfl) ?_
            refine lv_iconst (v := nI 2) S.1 S.2.1 dX2_steps_40 (by decide) ?_
            refine lv_iload_n S.1 S.2.1 dX2_steps_41 rfl (lv_at hl 0 rfl) ?_
            refine rdV S cv_RX2_40 (c_X2_isSo (k := 2) (x := nI i) (by decide) hV) hK hN hP (md_rv hK hP) ⟨Nat.le_of_ble_eq_true rfl, Nat.le_of_ble_eq_true rfl⟩ ⟨Nat.zero_le _, Nat.zero_le _⟩ rfl hl.1 rfl (Nat.le_of_ble_eq_true rfl) dX2_steps_42 ?_
            refine lv_if_eq (tgt := 55) S.1 S.2.1 dX2_steps_45 (by decide) (fun h45 => ?_) (fun h45 => ?_)
            · have h45 : (soM N cn P M 2 (nI i)) = false := bI_f h45
              refine lv_iinc (v := nI (i + 1)) (lv' := [(2, .int (nI (i + 1))), (1, .int x), (0, .ref (b 0))]) S.1 S.2.1 dX2_steps_55 hl (k := 0) rfl (nI_1 _) (by decide) rfl (fun ls hl => ?_)
              refine lv_goto (tgt := 8) S.1 S.2.1 dX2_steps_58 (by decide) ?_
              exact ih8 (i + 1) _ _ _ ls (by omega) (by omega) (fd_b h13 hv (by simp only [minF, decide_eq_false h22, decide_eq_true h26, h45]; simp)) hP hD hS (lv_sub hl [0, 1, 2] rfl)
            · have h45 : (soM N cn P M 2 (nI i)) = true := bI_t h45
              refine lv_aload_n S.1 S.2.1 dX2_steps_48 rfl (lv_at hl 2 rfl) ?_
              refine g2_depths S hK hP dX2_steps_49 ?_
              refine lv_iload_n S.1 S.2.1 dX2_steps_52 rfl (lv_at hl 0 rfl) ?_
              refine a2_dep (by omega) S hK hP dX2_steps_53 ?_
              refine lv_istore_n (lv' := [(1, .int ((xplM N cn P M dep) i)), (2, .int (nI i)), (0, .ref (b 0))]) S.1 S.2.1 dX2_steps_54 rfl hl (by decide) rfl (fun ls hl => ?_)
              refine lv_iinc (v := nI (i + 1)) (lv' := [(2, .int (nI (i + 1))), (1, .int ((xplM N cn P M dep) i)), (0, .ref (b 0))]) S.1 S.2.1 dX2_steps_55 hl (k := 1) rfl (nI_1 _) (by decide) rfl (fun ls hl => ?_)
              refine lv_goto (tgt := 8) S.1 S.2.1 dX2_steps_58 (by decide) ?_
              exact ih8 (i + 1) _ _ _ ls (by omega) (by omega) (fd_b h13 hv (by simp only [minF, decide_eq_false h22, decide_eq_true h26, h45]; simp)) hP hD hS (lv_sub hl [0, 1, 2] rfl)
          · refine lv_aload_n S.1 S.2.1 dX2_steps_29 rfl (lv_at hl 2 rfl) ?_
            refine g2_depths S hK hP dX2_steps_30 ?_
            refine lv_iload_n S.1 S.2.1 dX2_steps_33 rfl (lv_at hl 0 rfl) ?_
            refine a2_dep (by omega) S hK hP dX2_steps_34 ?_
            refine lv_iload_n S.1 S.2.1 dX2_steps_35 rfl (lv_at hl 1 rfl) ?_
            refine lv_icmp_ge (tgt := 55) S.1 S.2.1 dX2_steps_36 (by decide) (fun h36 => ?_) (fun h36 => ?_)
            · refine lv_iinc (v := nI (i + 1)) (lv' := [(2, .int (nI (i + 1))), (1, .int x), (0, .ref (b 0))]) S.1 S.2.1 dX2_steps_55 hl (k := 0) rfl (nI_1 _) (by decide) rfl (fun ls hl => ?_)
              refine lv_goto (tgt := 8) S.1 S.2.1 dX2_steps_58 (by decide) ?_
              exact ih8 (i + 1) _ _ _ ls (by omega) (by omega) (fd_b h13 hv (by simp only [minF, decide_eq_false h22, decide_eq_false h26, decide_eq_true h36]; simp)) hP hD hS (lv_sub hl [0, 1, 2] rfl)
            · refine lv_aload_n S.1 S.2.1 dX2_steps_39 rfl (lv_at hl 2 rfl) ?_
              refine lv_iconst (v := nI 2) S.1 S.2.1 dX2_steps_40 (by decide) ?_
              refine lv_iload_n S.1 S.2.1 dX2_steps_41 rfl (lv_at hl 0 rfl) ?_
              refine rdV S cv_RX2_40 (c_X2_isSo (k := 2) (x := nI i) (by decide) hV) hK hN hP (md_rv hK hP) ⟨Nat.le_of_ble_eq_true rfl, Nat.le_of_ble_eq_true rfl⟩ ⟨Nat.zero_le _, Nat.zero_le _⟩ rfl hl.1 rfl (Nat.le_of_ble_eq_true rfl) dX2_steps_42 ?_
              refine lv_if_eq (tgt := 55) S.1 S.2.1 dX2_steps_45 (by decide) (fun h45 => ?_) (fun h45 => ?_)
              · have h45 : (soM N cn P M 2 (nI i)) = false := bI_f h45
                refine lv_iinc (v := nI (i + 1)) (lv' := [(2, .int (nI (i + 1))), (1, .int x), (0, .ref (b 0))]) S.1 S.2.1 dX2_steps_55 hl (k := 0) rfl (nI_1 _) (by decide) rfl (fun ls hl => ?_)
                refine lv_goto (tgt := 8) S.1 S.2.1 dX2_steps_58 (by decide) ?_
                exact ih8 (i + 1) _ _ _ ls (by omega) (by omega) (fd_b h13 hv (by simp only [minF, decide_eq_false h22, decide_eq_false h26, decide_eq_false h36, h45]; simp)) hP hD hS (lv_sub hl [0, 1, 2] rfl)
              · have h45 : (soM N cn P M 2 (nI i)) = true := bI_t h45
                refine lv_aload_n S.1 S.2.1 dX2_steps_48 rfl (lv_at hl 2 rfl) ?_
                refine g2_depths S hK hP dX2_steps_49 ?_
                refine lv_iload_n S.1 S.2.1 dX2_steps_52 rfl (lv_at hl 0 rfl) ?_
                refine a2_dep (by omega) S hK hP dX2_steps_53 ?_
                refine lv_istore_n (lv' := [(1, .int ((xplM N cn P M dep) i)), (2, .int (nI i)), (0, .ref (b 0))]) S.1 S.2.1 dX2_steps_54 rfl hl (by decide) rfl (fun ls hl => ?_)
                refine lv_iinc (v := nI (i + 1)) (lv' := [(2, .int (nI (i + 1))), (1, .int ((xplM N cn P M dep) i)), (0, .ref (b 0))]) S.1 S.2.1 dX2_steps_55 hl (k := 1) rfl (nI_1 _) (by decide) rfl (fun ls hl => ?_)
                refine lv_goto (tgt := 8) S.1 S.2.1 dX2_steps_58 (by decide) ?_
                exact ih8 (i + 1) _ _ _ ls (by omega) (by omega) (fd_b h13 hv (by simp only [minF, decide_eq_false h22, decide_eq_false h26, decide_eq_false h36, h45]; simp)) hP hD hS (lv_sub hl [0, 1, 2] rfl)
  exact loop8 _ 0 _ _ _ ls (Nat.lt_succ_self _) (Nat.zero_le _) rfl hP hD hS (lv_sub hl [0, 1, 2] rfl)
set_option maxHeartbeats 4000000 in
set_option maxRecDepth 100000 in
theorem c_X2_safe {l : Launch} {D : va_G} {cI cL : ClassId} {b : Nat → Nat} {N len : Nat} {cn : Nat → Nat} {P M pth dep : Nat → Int32}  (hV : RInv N cn) : MetW l yX2_safe cX2_safe 1 (some .boolean) 4 [.ref (b 0)] D cI cL (MDw cI b N len cn P M pth dep) (some (.int (bI (!decide (0 ≤ stM N cn P M (xplM N cn P M dep)))))) (MDw cI b N len cn P M pth (xplM N cn P M dep)) := by
  refine MetW.mk (by decide) (Nat.le_of_ble_eq_true rfl) ?_
  intro p e s m args below meth c Q A hQ S hr hlk hN hK hP hD hS ls hl
  have S : CallFix p m c cX2_safe 1 s args wt RX2 := S
  have hl : lv_has ls 1 [(0, .ref (b 0))] := hl
  refine lv_aload_n S.1 S.2.1 dX2_safe_0 rfl (lv_at hl 0 rfl) ?_
  refine wrVi S cv_RX2_53 (c_X2_steps hV) hK hN hP hD hS (md_rv hK hP) ⟨Nat.le_of_ble_eq_true rfl, Nat.le_of_ble_eq_true rfl⟩ ⟨Nat.zero_le _, Nat.zero_le _⟩ rfl hl.1 rfl (Nat.le_of_ble_eq_true rfl) dX2_safe_1 (fun H locs hP hS _ => ?_)
  have hD : va_D A (MDw cI b N len cn P M pth (xplM N cn P M dep)) := D_same hD rfl
  refine lv_if_ge (tgt := 11) S.1 S.2.1 dX2_safe_4 (by decide) (fun h4 => ?_) (fun h4 => ?_)
  · refine lv_iconst (v := nI 0) S.1 S.2.1 dX2_safe_11 (by decide) ?_
    exact wr_retz hQ S hr hlk hP hS rfl (r0 (by rw [decide_eq_true h4]; rfl)) dX2_safe_12
  · refine lv_iconst (v := nI 1) S.1 S.2.1 dX2_safe_7 (by decide) ?_
    refine lv_goto (tgt := 12) S.1 S.2.1 dX2_safe_8 (by decide) ?_
    exact wr_retz hQ S hr hlk hP hS rfl (r1 (by rw [decide_eq_false h4]; rfl)) dX2_safe_12
set_option maxHeartbeats 4000000 in
set_option maxRecDepth 100000 in
theorem c_X2_depth_f {l : Launch} {D : va_G} {cI cL : ClassId} {b : Nat → Nat} {N len : Nat} {cn : Nat → Nat} {P M pth dep : Nat → Int32} {x : Int32} (hb : stB N x = false)  (hV : RInv N cn) : MetR l yX2_depth cX2_depth 2 (some .int) 3 [.ref (b 0), .int x] D cI cL (MDw cI b N len cn P M pth dep) (-1) := by
  refine MetR.mk (by decide) (Nat.le_of_ble_eq_true rfl) ?_
  intro p e s m args below meth c Q hQ S hr hlk hN hK hP ls hl
  have S : CallFix p m c cX2_depth 2 s args wt RX2 := S
  have hl : lv_has ls 2 [(0, .ref (b 0)), (1, .int x)] := hl
  refine lv_aload_n S.1 S.2.1 dX2_depth_0 rfl (lv_at hl 0 rfl) ?_
  refine lv_iload_n S.1 S.2.1 dX2_depth_1 rfl (lv_at hl 1 rfl) ?_
  refine rdV S cv_RX2_44 (c_X2_isState (x := x) hV) hK hN hP (md_rv hK hP) ⟨Nat.le_of_ble_eq_true rfl, Nat.le_of_ble_eq_true rfl⟩ ⟨Nat.zero_le _, Nat.zero_le _⟩ rfl hl.1 rfl (Nat.le_of_ble_eq_true rfl) dX2_depth_2 ?_
  refine lv_if_ne (tgt := 10) S.1 S.2.1 dX2_depth_5 (by decide) (fun hh => absurd (by rw [hb]; rfl) hh) (fun _ => ?_)
  refine lv_iconst (v := -1) S.1 S.2.1 dX2_depth_8 (by decide) ?_
  exact rd_ret hQ S hr hlk rfl dX2_depth_9
set_option maxHeartbeats 4000000 in
set_option maxRecDepth 100000 in
theorem c_X2_depth_t {l : Launch} {D : va_G} {cI cL : ClassId} {b : Nat → Nat} {N len : Nat} {cn : Nat → Nat} {P M pth dep : Nat → Int32} {i : Nat} (hi : i < 2 ^ N)  (hV : RInv N cn) : MetW l yX2_depth cX2_depth 2 (some .int) 3 [.ref (b 0), .int (nI i)] D cI cL (MDw cI b N len cn P M pth dep) (some (.int ((xplM N cn P M dep) i))) (MDw cI b N len cn P M pth (xplM N cn P M dep)) := by
  refine MetW.mk (by decide) (Nat.le_of_ble_eq_true rfl) ?_
  intro p e s m args below meth c Q A hQ S hr hlk hN hK hP hD hS ls hl
  have S : CallFix p m c cX2_depth 2 s args wt RX2 := S
  have hl : lv_has ls 2 [(0, .ref (b 0)), (1, .int (nI i))] := hl
  have hz := hV.S
  refine lv_aload_n S.1 S.2.1 dX2_depth_0 rfl (lv_at hl 0 rfl) ?_
  refine lv_iload_n S.1 S.2.1 dX2_depth_1 rfl (lv_at hl 1 rfl) ?_
  refine rdV S cv_RX2_44 (c_X2_isState (x := nI i) hV) hK hN hP (md_rv hK hP) ⟨Nat.le_of_ble_eq_true rfl, Nat.le_of_ble_eq_true rfl⟩ ⟨Nat.zero_le _, Nat.zero_le _⟩ rfl hl.1 rfl (Nat.le_of_ble_eq_true rfl) dX2_depth_2 ?_
  refine lv_if_ne (tgt := 10) S.1 S.2.1 dX2_depth_5 (by decide) (fun _ => ?_) (fun hh => absurd hh (by rw [stB_n hV hi]; decide))
  refine lv_aload_n S.1 S.2.1 dX2_depth_10 rfl (lv_at hl 0 rfl) ?_
  refine wrVv S cv_RX2_50 (c_X2_explore hV) hK hN hP hD hS (md_rv hK hP) ⟨Nat.le_of_ble_eq_true rfl, Nat.le_of_ble_eq_true rfl⟩ ⟨Nat.zero_le _, Nat.zero_le _⟩ rfl hl.1 rfl (Nat.le_of_ble_eq_true rfl) dX2_depth_11 (fun H locs hP hS _ => ?_)
  have hD : va_D A (MDw cI b N len cn P M pth (xplM N cn P M dep)) := D_same hD rfl
  refine lv_aload_n S.1 S.2.1 dX2_depth_14 rfl (lv_at hl 0 rfl) ?_
  refine g2_depths S hK hP dX2_depth_15 ?_
  refine lv_iload_n S.1 S.2.1 dX2_depth_18 rfl (lv_at hl 1 rfl) ?_
  refine a2_dep (by omega) S hK hP dX2_depth_19 ?_
  exact wr_ret hQ S hr hlk hP hS rfl rfl dX2_depth_20
set_option maxHeartbeats 4000000 in
set_option maxRecDepth 100000 in
theorem c_X2_reached {l : Launch} {D : va_G} {cI cL : ClassId} {b : Nat → Nat} {N len : Nat} {cn : Nat → Nat} {P M pth dep : Nat → Int32}  (hV : RInv N cn) : MetW l yX2_reached cX2_reached 3 (some .int) 3 [.ref (b 0)] D cI cL (MDw cI b N len cn P M pth dep) (some (.int (nI (reM N (xplM N cn P M dep))))) (MDw cI b N len cn P M pth (xplM N cn P M dep)) := by
  refine MetW.mk (by decide) (Nat.le_of_ble_eq_true rfl) ?_
  intro p e s m args below meth c Q A hQ S hr hlk hN hK hP hD hS ls hl
  have S : CallFix p m c cX2_reached 3 s args wt RX2 := S
  have hl : lv_has ls 3 [(0, .ref (b 0))] := hl
  have hz := hV.S
  refine lv_aload_n S.1 S.2.1 dX2_reached_0 rfl (lv_at hl 0 rfl) ?_
  refine wrVv S cv_RX2_50 (c_X2_explore hV) hK hN hP hD hS (md_rv hK hP) ⟨Nat.le_of_ble_eq_true rfl, Nat.le_of_ble_eq_true rfl⟩ ⟨Nat.zero_le _, Nat.zero_le _⟩ rfl hl.1 rfl (Nat.le_of_ble_eq_true rfl) dX2_reached_1 (fun H locs hP hS _ => ?_)
  have hD : va_D A (MDw cI b N len cn P M pth (xplM N cn P M dep)) := D_same hD rfl
  refine lv_iconst (v := nI 0) S.1 S.2.1 dX2_reached_4 (by decide) ?_
  refine lv_istore_n (lv' := [(1, .int (nI 0)), (0, .ref (b 0))]) S.1 S.2.1 dX2_reached_5 rfl hl (by decide) rfl (fun ls hl => ?_)
  refine lv_iconst (v := nI 0) S.1 S.2.1 dX2_reached_6 (by decide) ?_
  refine lv_istore_n (lv' := [(2, .int (nI 0)), (1, .int (nI 0)), (0, .ref (b 0))]) S.1 S.2.1 dX2_reached_7 rfl hl (by decide) rfl (fun ls hl => ?_)
  have loop8 : ∀ (nf : Nat) (i : Nat) (x : Nat) (H : Heap) (locs : List Loc) (ls : Array Slot), 2 ^ N - i < nf → i ≤ 2 ^ N → fd (cntF (fun i => !decide ((xplM N cn P M dep) i < 0))) (2 ^ N) i x = reM N (xplM N cn P M dep) → va_P D classes (MDw cI b N len cn P M pth (xplM N cn P M dep)) H → va_D A (MDw cI b N len cn P M pth (xplM N cn P M dep)) → va_S A s.heap H locs → lv_has ls 3 [(2, .int (nI i)), (1, .int (nI x)), (0, .ref (b 0))] → W p l e (rmd 3) s m args below meth c H locs 0 0 Q (F0 m 8 ls []) := by
    intro nf
    induction nf with
    | zero => exact fun i x H locs ls hn => absurd hn (Nat.not_lt_zero _)
    | succ nf ih8 =>
      intro i x H locs ls hn hi hv hP hD hS hl
      refine lv_iload_n S.1 S.2.1 dX2_reached_8 rfl (lv_at hl 0 rfl) ?_
      refine lv_aload_n S.1 S.2.1 dX2_reached_9 rfl (lv_at hl 2 rfl) ?_
      refine rdV S cv_RX2_29 (c_X2_states hV) hK hN hP (md_rv hK hP) ⟨Nat.le_of_ble_eq_true rfl, Nat.le_of_ble_eq_true rfl⟩ ⟨Nat.zero_le _, Nat.zero_le _⟩ rfl hl.1 rfl (Nat.le_of_ble_eq_true rfl) dX2_reached_10 ?_
      refine lv_icmp_ge (tgt := 39) S.1 S.2.1 dX2_reached_13 (by decide) (fun h13 => ?_) (fun h13 => ?_)
      · have h13 := ge_n (by omega) (by omega) h13
        refine lv_iload_n S.1 S.2.1 dX2_reached_39 rfl (lv_at hl 1 rfl) ?_
        exact wr_ret hQ S hr hlk hP hS rfl (by rw [← hv, fd_d h13]) dX2_reached_40
      · have h13 := ge_f (by omega) (by omega) h13
        refine lv_aload_n S.1 S.2.1 dX2_reached_16 rfl (lv_at hl 2 rfl) ?_
        refine g2_depths S hK hP dX2_reached_17 ?_
        refine lv_iload_n S.1 S.2.1 dX2_reached_20 rfl (lv_at hl 0 rfl) ?_
        refine a2_dep (by omega) S hK hP dX2_reached_21 ?_
        refine lv_if_lt (tgt := 31) S.1 S.2.1 dX2_reached_22 (by decide) (fun h22 => ?_) (fun h22 => ?_)
        · refine lv_iload_n S.1 S.2.1 dX2_reached_31 rfl (lv_at hl 1 rfl) ?_
          refine lv_istore_n (lv' := [(1, .int (nI x)), (2, .int (nI i)), (0, .ref (b 0))]) S.1 S.2.1 dX2_reached_32 rfl hl (by decide) rfl (fun ls hl => ?_)
          refine lv_iinc (v := nI (i + 1)) (lv' := [(2, .int (nI (i + 1))), (1, .int (nI x)), (0, .ref (b 0))]) S.1 S.2.1 dX2_reached_33 hl (k := 1) rfl (nI_1 _) (by decide) rfl (fun ls hl => ?_)
          refine lv_goto (tgt := 8) S.1 S.2.1 dX2_reached_36 (by decide) ?_
          exact ih8 (i + 1) _ _ _ ls (by omega) (by omega) (fd_b h13 hv (by simp only [cntF, decide_eq_true h22]; rfl)) hP hD hS (lv_sub hl [0, 1, 2] rfl)
        · refine lv_iload_n S.1 S.2.1 dX2_reached_25 rfl (lv_at hl 1 rfl) ?_
          refine lv_iconst (v := nI 1) S.1 S.2.1 dX2_reached_26 (by decide) ?_
          refine lv_iadd S.1 S.2.1 dX2_reached_27 ?_
          refine tp (y := nI (x + 1)) (nI_1 _) ?_
          refine lv_goto (tgt := 32) S.1 S.2.1 dX2_reached_28 (by decide) ?_
          refine lv_istore_n (lv' := [(1, .int (nI (x + 1))), (2, .int (nI i)), (0, .ref (b 0))]) S.1 S.2.1 dX2_reached_32 rfl hl (by decide) rfl (fun ls hl => ?_)
          refine lv_iinc (v := nI (i + 1)) (lv' := [(2, .int (nI (i + 1))), (1, .int (nI (x + 1))), (0, .ref (b 0))]) S.1 S.2.1 dX2_reached_33 hl (k := 1) rfl (nI_1 _) (by decide) rfl (fun ls hl => ?_)
          refine lv_goto (tgt := 8) S.1 S.2.1 dX2_reached_36 (by decide) ?_
          exact ih8 (i + 1) _ _ _ ls (by omega) (by omega) (fd_b h13 hv (by simp only [cntF, decide_eq_false h22]; rfl)) hP hD hS (lv_sub hl [0, 1, 2] rfl)
  exact loop8 _ 0 0 _ _ ls (Nat.lt_succ_self _) (Nat.zero_le _) rfl hP hD hS (lv_sub hl [0, 1, 2] rfl)
set_option maxHeartbeats 4000000 in
set_option maxRecDepth 100000 in
theorem c_X2_worst {l : Launch} {D : va_G} {cI cL : ClassId} {b : Nat → Nat} {N len : Nat} {cn : Nat → Nat} {P M pth dep : Nat → Int32}  (hV : RInv N cn) : MetW l yX2_worst cX2_worst 2 (some .int) 3 [.ref (b 0)] D cI cL (MDw cI b N len cn P M pth dep) (some (.int (oI (-1) (woM N cn P M (xplM N cn P M dep))))) (MDw cI b N len cn P M pth (xplM N cn P M dep)) := by
  refine MetW.mk (by decide) (Nat.le_of_ble_eq_true rfl) ?_
  intro p e s m args below meth c Q A hQ S hr hlk hN hK hP hD hS ls hl
  have S : CallFix p m c cX2_worst 2 s args wt RX2 := S
  have hl : lv_has ls 2 [(0, .ref (b 0))] := hl
  have hz := hV.S
  refine lv_aload_n S.1 S.2.1 dX2_worst_0 rfl (lv_at hl 0 rfl) ?_
  refine wrVv S cv_RX2_50 (c_X2_explore hV) hK hN hP hD hS (md_rv hK hP) ⟨Nat.le_of_ble_eq_true rfl, Nat.le_of_ble_eq_true rfl⟩ ⟨Nat.zero_le _, Nat.zero_le _⟩ rfl hl.1 rfl (Nat.le_of_ble_eq_true rfl) dX2_worst_1 (fun H locs hP hS _ => ?_)
  have hD : va_D A (MDw cI b N len cn P M pth (xplM N cn P M dep)) := D_same hD rfl
  refine lv_iconst (v := nI 0) S.1 S.2.1 dX2_worst_4 (by decide) ?_
  refine lv_istore_n (lv' := [(1, .int (nI 0)), (0, .ref (b 0))]) S.1 S.2.1 dX2_worst_5 rfl hl (by decide) rfl (fun ls hl => ?_)
  have loop6 : ∀ (nf : Nat) (i : Nat) (H : Heap) (locs : List Loc) (ls : Array Slot), 2 ^ N - i < nf → i ≤ 2 ^ N → fo (fun i => !decide ((xplM N cn P M dep) i < 0) && soM N cn P M 2 (nI i)) (2 ^ N) i = woM N cn P M (xplM N cn P M dep) → va_P D classes (MDw cI b N len cn P M pth (xplM N cn P M dep)) H → va_D A (MDw cI b N len cn P M pth (xplM N cn P M dep)) → va_S A s.heap H locs → lv_has ls 2 [(1, .int (nI i)), (0, .ref (b 0))] → W p l e (rmd 3) s m args below meth c H locs 0 0 Q (F0 m 6 ls []) := by
    intro nf
    induction nf with
    | zero => exact fun i H locs ls hn => absurd hn (Nat.not_lt_zero _)
    | succ nf ih6 =>
      intro i H locs ls hn hi hv hP hD hS hl
      refine lv_iload_n S.1 S.2.1 dX2_worst_6 rfl (lv_at hl 0 rfl) ?_
      refine lv_aload_n S.1 S.2.1 dX2_worst_7 rfl (lv_at hl 1 rfl) ?_
      refine rdV S cv_RX2_29 (c_X2_states hV) hK hN hP (md_rv hK hP) ⟨Nat.le_of_ble_eq_true rfl, Nat.le_of_ble_eq_true rfl⟩ ⟨Nat.zero_le _, Nat.zero_le _⟩ rfl hl.1 rfl (Nat.le_of_ble_eq_true rfl) dX2_worst_8 ?_
      refine lv_icmp_ge (tgt := 40) S.1 S.2.1 dX2_worst_11 (by decide) (fun h11 => ?_) (fun h11 => ?_)
      · have h11 := ge_n (by omega) (by omega) h11
        refine lv_iconst (v := -1) S.1 S.2.1 dX2_worst_40 (by decide) ?_
        exact wr_ret hQ S hr hlk hP hS rfl (by rw [← hv, fo_d h11]; rfl) dX2_worst_41
      · have h11 := ge_f (by omega) (by omega) h11
        refine lv_aload_n S.1 S.2.1 dX2_worst_14 rfl (lv_at hl 1 rfl) ?_
        refine g2_depths S hK hP dX2_worst_15 ?_
        refine lv_iload_n S.1 S.2.1 dX2_worst_18 rfl (lv_at hl 0 rfl) ?_
        refine a2_dep (by omega) S hK hP dX2_worst_19 ?_
        refine lv_if_lt (tgt := 34) S.1 S.2.1 dX2_worst_20 (by decide) (fun h20 => ?_) (fun h20 => ?_)
        · refine lv_iinc (v := nI (i + 1)) (lv' := [(1, .int (nI (i + 1))), (0, .ref (b 0))]) S.1 S.2.1 dX2_worst_34 hl (k := 0) rfl (nI_1 _) (by decide) rfl (fun ls hl => ?_)
          refine lv_goto (tgt := 6) S.1 S.2.1 dX2_worst_37 (by decide) ?_
          exact ih6 (i + 1) _ _ ls (by omega) (by omega) (by rw [← hv, fo_s h11, if_neg (by rw [decide_eq_true h20]; simp)]) hP hD hS (lv_sub hl [0, 1] rfl)
        · refine lv_aload_n S.1 S.2.1 dX2_worst_23 rfl (lv_at hl 1 rfl) ?_
          refine lv_iconst (v := nI 2) S.1 S.2.1 dX2_worst_24 (by decide) ?_
          refine lv_iload_n S.1 S.2.1 dX2_worst_25 rfl (lv_at hl 0 rfl) ?_
          refine rdV S cv_RX2_40 (c_X2_isSo (k := 2) (x := nI i) (by decide) hV) hK hN hP (md_rv hK hP) ⟨Nat.le_of_ble_eq_true rfl, Nat.le_of_ble_eq_true rfl⟩ ⟨Nat.zero_le _, Nat.zero_le _⟩ rfl hl.1 rfl (Nat.le_of_ble_eq_true rfl) dX2_worst_26 ?_
          refine lv_if_eq (tgt := 34) S.1 S.2.1 dX2_worst_29 (by decide) (fun h29 => ?_) (fun h29 => ?_)
          · have h29 : (soM N cn P M 2 (nI i)) = false := bI_f h29
            refine lv_iinc (v := nI (i + 1)) (lv' := [(1, .int (nI (i + 1))), (0, .ref (b 0))]) S.1 S.2.1 dX2_worst_34 hl (k := 0) rfl (nI_1 _) (by decide) rfl (fun ls hl => ?_)
            refine lv_goto (tgt := 6) S.1 S.2.1 dX2_worst_37 (by decide) ?_
            exact ih6 (i + 1) _ _ ls (by omega) (by omega) (by rw [← hv, fo_s h11, if_neg (by rw [h29, Bool.and_false]; decide)]) hP hD hS (lv_sub hl [0, 1] rfl)
          · have h29 : (soM N cn P M 2 (nI i)) = true := bI_t h29
            refine lv_iload_n S.1 S.2.1 dX2_worst_32 rfl (lv_at hl 0 rfl) ?_
            exact wr_ret hQ S hr hlk hP hS rfl (by rw [← hv, fo_s h11, if_pos (by rw [decide_eq_false h20, h29]; rfl)]; rfl) dX2_worst_33
  exact loop6 _ 0 _ _ ls (Nat.lt_succ_self _) (Nat.zero_le _) rfl hP hD hS (lv_sub hl [0, 1] rfl)
set_option maxHeartbeats 4000000 in
set_option maxRecDepth 100000 in
theorem c_X2_escapes {l : Launch} {D : va_G} {cI cL : ClassId} {b : Nat → Nat} {N len : Nat} {cn : Nat → Nat} {P M pth dep : Nat → Int32} {i : Nat}  (hV : RInv N cn) : MetR l yX2_escapes cX2_escapes 4 (some .boolean) 2 [.ref (b 0), .int (nI i)] D cI cL (MDw cI b N len cn P M pth dep) (bI (esM N cn P M i)) := by
  refine MetR.mk (by decide) (Nat.le_of_ble_eq_true rfl) ?_
  intro p e s m args below meth c Q hQ S hr hlk hN hK hP ls hl
  have S : CallFix p m c cX2_escapes 4 s args wt RX2 := S
  have hl : lv_has ls 4 [(0, .ref (b 0)), (1, .int (nI i))] := hl
  have hz := hV.S
  refine lv_iconst (v := nI 0) S.1 S.2.1 dX2_escapes_0 (by decide) ?_
  refine lv_istore_n (lv' := [(2, .int (nI 0)), (0, .ref (b 0)), (1, .int (nI i))]) S.1 S.2.1 dX2_escapes_1 rfl hl (by decide) rfl (fun ls hl => ?_)
  refine lv_iconst (v := nI 0) S.1 S.2.1 dX2_escapes_2 (by decide) ?_
  refine lv_istore_n (lv' := [(3, .int (nI 0)), (2, .int (nI 0)), (0, .ref (b 0)), (1, .int (nI i))]) S.1 S.2.1 dX2_escapes_3 rfl hl (by decide) rfl (fun ls hl => ?_)
  have loop4 : ∀ (nf : Nat) (t : Nat) (o : Bool) (ls : Array Slot), 2 ^ N - t < nf → t ≤ 2 ^ N → (o || an (fun t => !soM N cn P M 3 (nI t) && goM N cn P M (nI i) (nI t)) (2 ^ N) t) = esM N cn P M i → lv_has ls 4 [(3, .int (nI t)), (2, .int (bI o)), (0, .ref (b 0)), (1, .int (nI i))] → W p l e (rmd 2) s m args below meth c s.heap [] 0 0 Q (F0 m 4 ls []) := by
    intro nf
    induction nf with
    | zero => exact fun t o ls hn => absurd hn (Nat.not_lt_zero _)
    | succ nf ih4 =>
      intro t o ls hn ht hv hl
      refine lv_iload_n S.1 S.2.1 dX2_escapes_4 rfl (lv_at hl 0 rfl) ?_
      refine lv_aload_n S.1 S.2.1 dX2_escapes_5 rfl (lv_at hl 2 rfl) ?_
      refine rdV S cv_RX2_29 (c_X2_states hV) hK hN hP (md_rv hK hP) ⟨Nat.le_of_ble_eq_true rfl, Nat.le_of_ble_eq_true rfl⟩ ⟨Nat.zero_le _, Nat.zero_le _⟩ rfl hl.1 rfl (Nat.le_of_ble_eq_true rfl) dX2_escapes_6 ?_
      refine lv_icmp_ge (tgt := 46) S.1 S.2.1 dX2_escapes_9 (by decide) (fun h9 => ?_) (fun h9 => ?_)
      · have h9 := ge_n (by omega) (by omega) h9
        refine lv_iload_n S.1 S.2.1 dX2_escapes_46 rfl (lv_at hl 1 rfl) ?_
        exact rd_retz hQ S hr hlk (by rw [← hv, an_d h9, Bool.or_false]) dX2_escapes_47
      · have h9 := ge_f (by omega) (by omega) h9
        refine lv_iload_n S.1 S.2.1 dX2_escapes_12 rfl (lv_at hl 1 rfl) ?_
        refine lv_if_ne (tgt := 46) S.1 S.2.1 dX2_escapes_13 (by decide) (fun h13 => ?_) (fun h13 => ?_)
        · have h13 : (o) = true := bI_t h13
          refine lv_iload_n S.1 S.2.1 dX2_escapes_46 rfl (lv_at hl 1 rfl) ?_
          exact rd_retz hQ S hr hlk (by rw [← hv, h13, Bool.true_or]) dX2_escapes_47
        · have h13 : (o) = false := bI_f h13
          refine lv_aload_n S.1 S.2.1 dX2_escapes_16 rfl (lv_at hl 2 rfl) ?_
          refine lv_iconst (v := nI 3) S.1 S.2.1 dX2_escapes_17 (by decide) ?_
          refine lv_iload_n S.1 S.2.1 dX2_escapes_18 rfl (lv_at hl 0 rfl) ?_
          refine rdV S cv_RX2_40 (c_X2_isSo (k := 3) (x := nI t) (by decide) hV) hK hN hP (md_rv hK hP) ⟨Nat.le_of_ble_eq_true rfl, Nat.le_of_ble_eq_true rfl⟩ ⟨Nat.zero_le _, Nat.zero_le _⟩ rfl hl.1 rfl (Nat.le_of_ble_eq_true rfl) dX2_escapes_19 ?_
          refine lv_if_ne (tgt := 38) S.1 S.2.1 dX2_escapes_22 (by decide) (fun h22 => ?_) (fun h22 => ?_)
          · have h22 : (soM N cn P M 3 (nI t)) = true := bI_t h22
            refine lv_iconst (v := nI 0) S.1 S.2.1 dX2_escapes_38 (by decide) ?_
            refine lv_istore_n (lv' := [(2, .int (nI 0)), (3, .int (nI t)), (0, .ref (b 0)), (1, .int (nI i))]) S.1 S.2.1 dX2_escapes_39 rfl hl (by decide) rfl (fun ls hl => ?_)
            refine lv_iinc (v := nI (t + 1)) (lv' := [(3, .int (nI (t + 1))), (2, .int (nI 0)), (0, .ref (b 0)), (1, .int (nI i))]) S.1 S.2.1 dX2_escapes_40 hl (k := 1) rfl (nI_1 _) (by decide) rfl (fun ls hl => ?_)
            refine lv_goto (tgt := 4) S.1 S.2.1 dX2_escapes_43 (by decide) ?_
            exact ih4 (t + 1) false ls (by omega) (by omega) (by rw [← hv, h13, an_s h9]; simp [h22]) (lv_sub hl [0, 1, 2, 3] rfl)
          · have h22 : (soM N cn P M 3 (nI t)) = false := bI_f h22
            refine lv_aload_n S.1 S.2.1 dX2_escapes_25 rfl (lv_at hl 2 rfl) ?_
            refine lv_iload_n S.1 S.2.1 dX2_escapes_26 rfl (lv_at hl 3 rfl) ?_
            refine lv_iload_n S.1 S.2.1 dX2_escapes_27 rfl (lv_at hl 0 rfl) ?_
            refine rdV S cv_RX2_47 (c_X2_leads (f := nI i) (t := nI t) hV) hK hN hP (md_rv hK hP) ⟨Nat.le_of_ble_eq_true rfl, Nat.le_of_ble_eq_true rfl⟩ ⟨Nat.zero_le _, Nat.zero_le _⟩ rfl hl.1 rfl (Nat.le_of_ble_eq_true rfl) dX2_escapes_28 ?_
            refine lv_if_eq (tgt := 38) S.1 S.2.1 dX2_escapes_31 (by decide) (fun h31 => ?_) (fun h31 => ?_)
            · have h31 : (goM N cn P M (nI i) (nI t)) = false := bI_f h31
              refine lv_iconst (v := nI 0) S.1 S.2.1 dX2_escapes_38 (by decide) ?_
              refine lv_istore_n (lv' := [(2, .int (nI 0)), (3, .int (nI t)), (0, .ref (b 0)), (1, .int (nI i))]) S.1 S.2.1 dX2_escapes_39 rfl hl (by decide) rfl (fun ls hl => ?_)
              refine lv_iinc (v := nI (t + 1)) (lv' := [(3, .int (nI (t + 1))), (2, .int (nI 0)), (0, .ref (b 0)), (1, .int (nI i))]) S.1 S.2.1 dX2_escapes_40 hl (k := 1) rfl (nI_1 _) (by decide) rfl (fun ls hl => ?_)
              refine lv_goto (tgt := 4) S.1 S.2.1 dX2_escapes_43 (by decide) ?_
              exact ih4 (t + 1) false ls (by omega) (by omega) (by rw [← hv, h13, an_s h9]; simp [h22, h31]) (lv_sub hl [0, 1, 2, 3] rfl)
            · have h31 : (goM N cn P M (nI i) (nI t)) = true := bI_t h31
              refine lv_iconst (v := nI 1) S.1 S.2.1 dX2_escapes_34 (by decide) ?_
              refine lv_goto (tgt := 39) S.1 S.2.1 dX2_escapes_35 (by decide) ?_
              refine lv_istore_n (lv' := [(2, .int (nI 1)), (3, .int (nI t)), (0, .ref (b 0)), (1, .int (nI i))]) S.1 S.2.1 dX2_escapes_39 rfl hl (by decide) rfl (fun ls hl => ?_)
              refine lv_iinc (v := nI (t + 1)) (lv' := [(3, .int (nI (t + 1))), (2, .int (nI 1)), (0, .ref (b 0)), (1, .int (nI i))]) S.1 S.2.1 dX2_escapes_40 hl (k := 1) rfl (nI_1 _) (by decide) rfl (fun ls hl => ?_)
              refine lv_goto (tgt := 4) S.1 S.2.1 dX2_escapes_43 (by decide) ?_
              exact ih4 (t + 1) true ls (by omega) (by omega) (by rw [← hv, h13, an_s h9]; simp [h22, h31]) (lv_sub hl [0, 1, 2, 3] rfl)
  exact loop4 _ 0 false ls (Nat.lt_succ_self _) (Nat.zero_le _) (Bool.false_or _) (lv_sub hl [0, 1, 2, 3] rfl)
set_option maxHeartbeats 4000000 in
set_option maxRecDepth 100000 in
theorem c_X2_least {l : Launch} {D : va_G} {cI cL : ClassId} {b : Nat → Nat} {N len : Nat} {cn : Nat → Nat} {P M pth dep : Nat → Int32} {r : Nat} (hr1 : r = 1 ∨ r = 2 ∨ r = 3)  (hV : RInv N cn) : MetR l yX2_least cX2_least 5 (some .int) 3 [.ref (b 0), .int (nI r)] D cI cL (MDw cI b N len cn P M pth dep) (oI (-1) (lmM N cn P M r)) := by
  refine MetR.mk (by decide) (Nat.le_of_ble_eq_true rfl) ?_
  intro p e s m args below meth c Q hQ S hr hlk hN hK hP ls hl
  have S : CallFix p m c cX2_least 5 s args wt RX2 := S
  have hl : lv_has ls 5 [(0, .ref (b 0)), (1, .int (nI r))] := hl
  have hz := hV.S
  rcases hr1 with rfl | rfl | rfl
  · refine lv_iconst (v := nI 0) S.1 S.2.1 dX2_least_0 (by decide) ?_
    refine lv_istore_n (lv' := [(2, .int (nI 0)), (0, .ref (b 0)), (1, .int (nI 1))]) S.1 S.2.1 dX2_least_1 rfl hl (by decide) rfl (fun ls hl => ?_)
    have loop2 : ∀ (nf : Nat) (i : Nat) (ls : Array Slot), 2 ^ N - i < nf → i ≤ 2 ^ N → fo (leM N cn P M 1) (2 ^ N) i = lmM N cn P M 1 → lv_has ls 5 [(2, .int (nI i)), (0, .ref (b 0)), (1, .int (nI 1))] → W p l e (rmd 3) s m args below meth c s.heap [] 0 0 Q (F0 m 2 ls []) := by
      intro nf
      induction nf with
      | zero => exact fun i ls hn => absurd hn (Nat.not_lt_zero _)
      | succ nf ih2 =>
        intro i ls hn hi hv hl
        refine lv_iload_n S.1 S.2.1 dX2_least_2 rfl (lv_at hl 0 rfl) ?_
        refine lv_aload_n S.1 S.2.1 dX2_least_3 rfl (lv_at hl 1 rfl) ?_
        refine rdV S cv_RX2_29 (c_X2_states hV) hK hN hP (md_rv hK hP) ⟨Nat.le_of_ble_eq_true rfl, Nat.le_of_ble_eq_true rfl⟩ ⟨Nat.zero_le _, Nat.zero_le _⟩ rfl hl.1 rfl (Nat.le_of_ble_eq_true rfl) dX2_least_4 ?_
        refine lv_icmp_ge (tgt := 101) S.1 S.2.1 dX2_least_7 (by decide) (fun h7 => ?_) (fun h7 => ?_)
        · have h7 := ge_n (by omega) (by omega) h7
          refine lv_iconst (v := -1) S.1 S.2.1 dX2_least_101 (by decide) ?_
          exact rd_ret hQ S hr hlk (by rw [← hv, fo_d h7]; rfl) dX2_least_102
        · have h7 := ge_f (by omega) (by omega) h7
          refine lv_aload_n S.1 S.2.1 dX2_least_10 rfl (lv_at hl 1 rfl) ?_
          refine lv_iconst (v := nI 3) S.1 S.2.1 dX2_least_11 (by decide) ?_
          refine lv_iload_n S.1 S.2.1 dX2_least_12 rfl (lv_at hl 0 rfl) ?_
          refine rdV S cv_RX2_40 (c_X2_isSo (k := 3) (x := nI i) (by decide) hV) hK hN hP (md_rv hK hP) ⟨Nat.le_of_ble_eq_true rfl, Nat.le_of_ble_eq_true rfl⟩ ⟨Nat.zero_le _, Nat.zero_le _⟩ rfl hl.1 rfl (Nat.le_of_ble_eq_true rfl) dX2_least_13 ?_
          refine lv_istore_n (lv' := [(3, .int (bI (soM N cn P M 3 (nI i)))), (2, .int (nI i)), (0, .ref (b 0)), (1, .int (nI 1))]) S.1 S.2.1 dX2_least_16 rfl hl (by decide) rfl (fun ls hl => ?_)
          refine lv_iload_n S.1 S.2.1 dX2_least_17 rfl (lv_at hl 3 rfl) ?_
          refine lv_iconst (v := nI 1) S.1 S.2.1 dX2_least_18 (by decide) ?_
          refine lv_icmp_ne (tgt := 43) S.1 S.2.1 dX2_least_19 (by decide) (fun hh => absurd (by decide) hh) (fun _ => ?_)
          refine lv_iload_n S.1 S.2.1 dX2_least_22 rfl (lv_at hl 0 rfl) ?_
          refine lv_if_ne (tgt := 39) S.1 S.2.1 dX2_least_23 (by decide) (fun h23 => ?_) (fun h23 => ?_)
          · have h23 : (soM N cn P M 3 (nI i)) = true := bI_t h23
            refine lv_iconst (v := nI 0) S.1 S.2.1 dX2_least_39 (by decide) ?_
            refine lv_goto (tgt := 86) S.1 S.2.1 dX2_least_40 (by decide) ?_
            refine lv_istore (lv' := [(4, .int (nI 0)), (3, .int (bI (soM N cn P M 3 (nI i)))), (2, .int (nI i)), (0, .ref (b 0)), (1, .int (nI 1))]) S.1 S.2.1 dX2_least_86 hl (by decide) rfl (fun ls hl => ?_)
            refine lv_iload S.1 S.2.1 dX2_least_88 (lv_at hl 0 rfl) ?_
            refine lv_if_eq (tgt := 95) S.1 S.2.1 dX2_least_90 (by decide) (fun _ => ?_) (fun hh => absurd (by decide) hh)
            refine lv_iinc (v := nI (i + 1)) (lv' := [(2, .int (nI (i + 1))), (4, .int (nI 0)), (3, .int (bI (soM N cn P M 3 (nI i)))), (0, .ref (b 0)), (1, .int (nI 1))]) S.1 S.2.1 dX2_least_95 hl (k := 2) rfl (nI_1 _) (by decide) rfl (fun ls hl => ?_)
            refine lv_goto (tgt := 2) S.1 S.2.1 dX2_least_98 (by decide) ?_
            exact ih2 (i + 1) ls (by omega) (by omega) (by rw [← hv, fo_s h7, if_neg (by simp [leM, h23])]) (lv_sub hl [0, 3, 4] rfl)
          · have h23 : (soM N cn P M 3 (nI i)) = false := bI_f h23
            refine lv_aload_n S.1 S.2.1 dX2_least_26 rfl (lv_at hl 2 rfl) ?_
            refine lv_iconst (v := nI 0) S.1 S.2.1 dX2_least_27 (by decide) ?_
            refine lv_iload_n S.1 S.2.1 dX2_least_28 rfl (lv_at hl 1 rfl) ?_
            refine rdV S cv_RX2_40 (c_X2_isSo (k := 0) (x := nI i) (by decide) hV) hK hN hP (md_rv hK hP) ⟨Nat.le_of_ble_eq_true rfl, Nat.le_of_ble_eq_true rfl⟩ ⟨Nat.zero_le _, Nat.zero_le _⟩ rfl hl.1 rfl (Nat.le_of_ble_eq_true rfl) dX2_least_29 ?_
            refine lv_if_eq (tgt := 39) S.1 S.2.1 dX2_least_32 (by decide) (fun h32 => ?_) (fun h32 => ?_)
            · have h32 : (soM N cn P M 0 (nI i)) = false := bI_f h32
              refine lv_iconst (v := nI 0) S.1 S.2.1 dX2_least_39 (by decide) ?_
              refine lv_goto (tgt := 86) S.1 S.2.1 dX2_least_40 (by decide) ?_
              refine lv_istore (lv' := [(4, .int (nI 0)), (3, .int (bI (soM N cn P M 3 (nI i)))), (2, .int (nI i)), (0, .ref (b 0)), (1, .int (nI 1))]) S.1 S.2.1 dX2_least_86 hl (by decide) rfl (fun ls hl => ?_)
              refine lv_iload S.1 S.2.1 dX2_least_88 (lv_at hl 0 rfl) ?_
              refine lv_if_eq (tgt := 95) S.1 S.2.1 dX2_least_90 (by decide) (fun _ => ?_) (fun hh => absurd (by decide) hh)
              refine lv_iinc (v := nI (i + 1)) (lv' := [(2, .int (nI (i + 1))), (4, .int (nI 0)), (3, .int (bI (soM N cn P M 3 (nI i)))), (0, .ref (b 0)), (1, .int (nI 1))]) S.1 S.2.1 dX2_least_95 hl (k := 2) rfl (nI_1 _) (by decide) rfl (fun ls hl => ?_)
              refine lv_goto (tgt := 2) S.1 S.2.1 dX2_least_98 (by decide) ?_
              exact ih2 (i + 1) ls (by omega) (by omega) (by rw [← hv, fo_s h7, if_neg (by simp [leM, h23, h32])]) (lv_sub hl [0, 3, 4] rfl)
            · have h32 : (soM N cn P M 0 (nI i)) = true := bI_t h32
              refine lv_iconst (v := nI 1) S.1 S.2.1 dX2_least_35 (by decide) ?_
              refine lv_goto (tgt := 86) S.1 S.2.1 dX2_least_36 (by decide) ?_
              refine lv_istore (lv' := [(4, .int (nI 1)), (3, .int (bI (soM N cn P M 3 (nI i)))), (2, .int (nI i)), (0, .ref (b 0)), (1, .int (nI 1))]) S.1 S.2.1 dX2_least_86 hl (by decide) rfl (fun ls hl => ?_)
              refine lv_iload S.1 S.2.1 dX2_least_88 (lv_at hl 0 rfl) ?_
              refine lv_if_eq (tgt := 95) S.1 S.2.1 dX2_least_90 (by decide) (fun hh => absurd hh (by decide)) (fun _ => ?_)
              refine lv_iload_n S.1 S.2.1 dX2_least_93 rfl (lv_at hl 2 rfl) ?_
              exact rd_ret hQ S hr hlk (by rw [← hv, fo_s h7, if_pos (by simp [leM, h23, h32])]; rfl) dX2_least_94
    exact loop2 _ 0 ls (Nat.lt_succ_self _) (Nat.zero_le _) rfl (lv_sub hl [0, 1, 2] rfl)
  · refine lv_iconst (v := nI 0) S.1 S.2.1 dX2_least_0 (by decide) ?_
    refine lv_istore_n (lv' := [(2, .int (nI 0)), (0, .ref (b 0)), (1, .int (nI 2))]) S.1 S.2.1 dX2_least_1 rfl hl (by decide) rfl (fun ls hl => ?_)
    have loop2 : ∀ (nf : Nat) (i : Nat) (ls : Array Slot), 2 ^ N - i < nf → i ≤ 2 ^ N → fo (leM N cn P M 2) (2 ^ N) i = lmM N cn P M 2 → lv_has ls 5 [(2, .int (nI i)), (0, .ref (b 0)), (1, .int (nI 2))] → W p l e (rmd 3) s m args below meth c s.heap [] 0 0 Q (F0 m 2 ls []) := by
      intro nf
      induction nf with
      | zero => exact fun i ls hn => absurd hn (Nat.not_lt_zero _)
      | succ nf ih2 =>
        intro i ls hn hi hv hl
        refine lv_iload_n S.1 S.2.1 dX2_least_2 rfl (lv_at hl 0 rfl) ?_
        refine lv_aload_n S.1 S.2.1 dX2_least_3 rfl (lv_at hl 1 rfl) ?_
        refine rdV S cv_RX2_29 (c_X2_states hV) hK hN hP (md_rv hK hP) ⟨Nat.le_of_ble_eq_true rfl, Nat.le_of_ble_eq_true rfl⟩ ⟨Nat.zero_le _, Nat.zero_le _⟩ rfl hl.1 rfl (Nat.le_of_ble_eq_true rfl) dX2_least_4 ?_
        refine lv_icmp_ge (tgt := 101) S.1 S.2.1 dX2_least_7 (by decide) (fun h7 => ?_) (fun h7 => ?_)
        · have h7 := ge_n (by omega) (by omega) h7
          refine lv_iconst (v := -1) S.1 S.2.1 dX2_least_101 (by decide) ?_
          exact rd_ret hQ S hr hlk (by rw [← hv, fo_d h7]; rfl) dX2_least_102
        · have h7 := ge_f (by omega) (by omega) h7
          refine lv_aload_n S.1 S.2.1 dX2_least_10 rfl (lv_at hl 1 rfl) ?_
          refine lv_iconst (v := nI 3) S.1 S.2.1 dX2_least_11 (by decide) ?_
          refine lv_iload_n S.1 S.2.1 dX2_least_12 rfl (lv_at hl 0 rfl) ?_
          refine rdV S cv_RX2_40 (c_X2_isSo (k := 3) (x := nI i) (by decide) hV) hK hN hP (md_rv hK hP) ⟨Nat.le_of_ble_eq_true rfl, Nat.le_of_ble_eq_true rfl⟩ ⟨Nat.zero_le _, Nat.zero_le _⟩ rfl hl.1 rfl (Nat.le_of_ble_eq_true rfl) dX2_least_13 ?_
          refine lv_istore_n (lv' := [(3, .int (bI (soM N cn P M 3 (nI i)))), (2, .int (nI i)), (0, .ref (b 0)), (1, .int (nI 2))]) S.1 S.2.1 dX2_least_16 rfl hl (by decide) rfl (fun ls hl => ?_)
          refine lv_iload_n S.1 S.2.1 dX2_least_17 rfl (lv_at hl 3 rfl) ?_
          refine lv_iconst (v := nI 1) S.1 S.2.1 dX2_least_18 (by decide) ?_
          refine lv_icmp_ne (tgt := 43) S.1 S.2.1 dX2_least_19 (by decide) (fun _ => ?_) (fun hh => absurd hh (by decide))
          refine lv_iload_n S.1 S.2.1 dX2_least_43 rfl (lv_at hl 3 rfl) ?_
          refine lv_iconst (v := nI 2) S.1 S.2.1 dX2_least_44 (by decide) ?_
          refine lv_icmp_ne (tgt := 68) S.1 S.2.1 dX2_least_45 (by decide) (fun hh => absurd (by decide) hh) (fun _ => ?_)
          refine lv_iload_n S.1 S.2.1 dX2_least_48 rfl (lv_at hl 0 rfl) ?_
          refine lv_if_eq (tgt := 64) S.1 S.2.1 dX2_least_49 (by decide) (fun h49 => ?_) (fun h49 => ?_)
          · have h49 : (soM N cn P M 3 (nI i)) = false := bI_f h49
            refine lv_iconst (v := nI 0) S.1 S.2.1 dX2_least_64 (by decide) ?_
            refine lv_goto (tgt := 86) S.1 S.2.1 dX2_least_65 (by decide) ?_
            refine lv_istore (lv' := [(4, .int (nI 0)), (3, .int (bI (soM N cn P M 3 (nI i)))), (2, .int (nI i)), (0, .ref (b 0)), (1, .int (nI 2))]) S.1 S.2.1 dX2_least_86 hl (by decide) rfl (fun ls hl => ?_)
            refine lv_iload S.1 S.2.1 dX2_least_88 (lv_at hl 0 rfl) ?_
            refine lv_if_eq (tgt := 95) S.1 S.2.1 dX2_least_90 (by decide) (fun _ => ?_) (fun hh => absurd (by decide) hh)
            refine lv_iinc (v := nI (i + 1)) (lv' := [(2, .int (nI (i + 1))), (4, .int (nI 0)), (3, .int (bI (soM N cn P M 3 (nI i)))), (0, .ref (b 0)), (1, .int (nI 2))]) S.1 S.2.1 dX2_least_95 hl (k := 2) rfl (nI_1 _) (by decide) rfl (fun ls hl => ?_)
            refine lv_goto (tgt := 2) S.1 S.2.1 dX2_least_98 (by decide) ?_
            exact ih2 (i + 1) ls (by omega) (by omega) (by rw [← hv, fo_s h7, if_neg (by simp [leM, h49])]) (lv_sub hl [0, 3, 4] rfl)
          · have h49 : (soM N cn P M 3 (nI i)) = true := bI_t h49
            refine lv_aload_n S.1 S.2.1 dX2_least_52 rfl (lv_at hl 2 rfl) ?_
            refine lv_iload_n S.1 S.2.1 dX2_least_53 rfl (lv_at hl 1 rfl) ?_
            refine rdV S cv_RX2_56 (c_X2_escapes (i := i) hV) hK hN hP (md_rv hK hP) ⟨Nat.le_of_ble_eq_true rfl, Nat.le_of_ble_eq_true rfl⟩ ⟨Nat.zero_le _, Nat.zero_le _⟩ rfl hl.1 rfl (Nat.le_of_ble_eq_true rfl) dX2_least_54 ?_
            refine lv_if_eq (tgt := 64) S.1 S.2.1 dX2_least_57 (by decide) (fun h57 => ?_) (fun h57 => ?_)
            · have h57 : (esM N cn P M i) = false := bI_f h57
              refine lv_iconst (v := nI 0) S.1 S.2.1 dX2_least_64 (by decide) ?_
              refine lv_goto (tgt := 86) S.1 S.2.1 dX2_least_65 (by decide) ?_
              refine lv_istore (lv' := [(4, .int (nI 0)), (3, .int (bI (soM N cn P M 3 (nI i)))), (2, .int (nI i)), (0, .ref (b 0)), (1, .int (nI 2))]) S.1 S.2.1 dX2_least_86 hl (by decide) rfl (fun ls hl => ?_)
              refine lv_iload S.1 S.2.1 dX2_least_88 (lv_at hl 0 rfl) ?_
              refine lv_if_eq (tgt := 95) S.1 S.2.1 dX2_least_90 (by decide) (fun _ => ?_) (fun hh => absurd (by decide) hh)
              refine lv_iinc (v := nI (i + 1)) (lv' := [(2, .int (nI (i + 1))), (4, .int (nI 0)), (3, .int (bI (soM N cn P M 3 (nI i)))), (0, .ref (b 0)), (1, .int (nI 2))]) S.1 S.2.1 dX2_least_95 hl (k := 2) rfl (nI_1 _) (by decide) rfl (fun ls hl => ?_)
              refine lv_goto (tgt := 2) S.1 S.2.1 dX2_least_98 (by decide) ?_
              exact ih2 (i + 1) ls (by omega) (by omega) (by rw [← hv, fo_s h7, if_neg (by simp [leM, h49, h57])]) (lv_sub hl [0, 3, 4] rfl)
            · have h57 : (esM N cn P M i) = true := bI_t h57
              refine lv_iconst (v := nI 1) S.1 S.2.1 dX2_least_60 (by decide) ?_
              refine lv_goto (tgt := 86) S.1 S.2.1 dX2_least_61 (by decide) ?_
              refine lv_istore (lv' := [(4, .int (nI 1)), (3, .int (bI (soM N cn P M 3 (nI i)))), (2, .int (nI i)), (0, .ref (b 0)), (1, .int (nI 2))]) S.1 S.2.1 dX2_least_86 hl (by decide) rfl (fun ls hl => ?_)
              refine lv_iload S.1 S.2.1 dX2_least_88 (lv_at hl 0 rfl) ?_
              refine lv_if_eq (tgt := 95) S.1 S.2.1 dX2_least_90 (by decide) (fun hh => absurd hh (by decide)) (fun _ => ?_)
              refine lv_iload_n S.1 S.2.1 dX2_least_93 rfl (lv_at hl 2 rfl) ?_
              exact rd_ret hQ S hr hlk (by rw [← hv, fo_s h7, if_pos (by simp [leM, h49, h57])]; rfl) dX2_least_94
    exact loop2 _ 0 ls (Nat.lt_succ_self _) (Nat.zero_le _) rfl (lv_sub hl [0, 1, 2] rfl)
  · refine lv_iconst (v := nI 0) S.1 S.2.1 dX2_least_0 (by decide) ?_
    refine lv_istore_n (lv' := [(2, .int (nI 0)), (0, .ref (b 0)), (1, .int (nI 3))]) S.1 S.2.1 dX2_least_1 rfl hl (by decide) rfl (fun ls hl => ?_)
    have loop2 : ∀ (nf : Nat) (i : Nat) (ls : Array Slot), 2 ^ N - i < nf → i ≤ 2 ^ N → fo (leM N cn P M 3) (2 ^ N) i = lmM N cn P M 3 → lv_has ls 5 [(2, .int (nI i)), (0, .ref (b 0)), (1, .int (nI 3))] → W p l e (rmd 3) s m args below meth c s.heap [] 0 0 Q (F0 m 2 ls []) := by
      intro nf
      induction nf with
      | zero => exact fun i ls hn => absurd hn (Nat.not_lt_zero _)
      | succ nf ih2 =>
        intro i ls hn hi hv hl
        refine lv_iload_n S.1 S.2.1 dX2_least_2 rfl (lv_at hl 0 rfl) ?_
        refine lv_aload_n S.1 S.2.1 dX2_least_3 rfl (lv_at hl 1 rfl) ?_
        refine rdV S cv_RX2_29 (c_X2_states hV) hK hN hP (md_rv hK hP) ⟨Nat.le_of_ble_eq_true rfl, Nat.le_of_ble_eq_true rfl⟩ ⟨Nat.zero_le _, Nat.zero_le _⟩ rfl hl.1 rfl (Nat.le_of_ble_eq_true rfl) dX2_least_4 ?_
        refine lv_icmp_ge (tgt := 101) S.1 S.2.1 dX2_least_7 (by decide) (fun h7 => ?_) (fun h7 => ?_)
        · have h7 := ge_n (by omega) (by omega) h7
          refine lv_iconst (v := -1) S.1 S.2.1 dX2_least_101 (by decide) ?_
          exact rd_ret hQ S hr hlk (by rw [← hv, fo_d h7]; rfl) dX2_least_102
        · have h7 := ge_f (by omega) (by omega) h7
          refine lv_aload_n S.1 S.2.1 dX2_least_10 rfl (lv_at hl 1 rfl) ?_
          refine lv_iconst (v := nI 3) S.1 S.2.1 dX2_least_11 (by decide) ?_
          refine lv_iload_n S.1 S.2.1 dX2_least_12 rfl (lv_at hl 0 rfl) ?_
          refine rdV S cv_RX2_40 (c_X2_isSo (k := 3) (x := nI i) (by decide) hV) hK hN hP (md_rv hK hP) ⟨Nat.le_of_ble_eq_true rfl, Nat.le_of_ble_eq_true rfl⟩ ⟨Nat.zero_le _, Nat.zero_le _⟩ rfl hl.1 rfl (Nat.le_of_ble_eq_true rfl) dX2_least_13 ?_
          refine lv_istore_n (lv' := [(3, .int (bI (soM N cn P M 3 (nI i)))), (2, .int (nI i)), (0, .ref (b 0)), (1, .int (nI 3))]) S.1 S.2.1 dX2_least_16 rfl hl (by decide) rfl (fun ls hl => ?_)
          refine lv_iload_n S.1 S.2.1 dX2_least_17 rfl (lv_at hl 3 rfl) ?_
          refine lv_iconst (v := nI 1) S.1 S.2.1 dX2_least_18 (by decide) ?_
          refine lv_icmp_ne (tgt := 43) S.1 S.2.1 dX2_least_19 (by decide) (fun _ => ?_) (fun hh => absurd hh (by decide))
          refine lv_iload_n S.1 S.2.1 dX2_least_43 rfl (lv_at hl 3 rfl) ?_
          refine lv_iconst (v := nI 2) S.1 S.2.1 dX2_least_44 (by decide) ?_
          refine lv_icmp_ne (tgt := 68) S.1 S.2.1 dX2_least_45 (by decide) (fun _ => ?_) (fun hh => absurd hh (by decide))
          refine lv_iload_n S.1 S.2.1 dX2_least_68 rfl (lv_at hl 0 rfl) ?_
          refine lv_if_eq (tgt := 85) S.1 S.2.1 dX2_least_69 (by decide) (fun h69 => ?_) (fun h69 => ?_)
          · have h69 : (soM N cn P M 3 (nI i)) = false := bI_f h69
            refine lv_iconst (v := nI 0) S.1 S.2.1 dX2_least_85 (by decide) ?_
            refine lv_istore (lv' := [(4, .int (nI 0)), (3, .int (bI (soM N cn P M 3 (nI i)))), (2, .int (nI i)), (0, .ref (b 0)), (1, .int (nI 3))]) S.1 S.2.1 dX2_least_86 hl (by decide) rfl (fun ls hl => ?_)
            refine lv_iload S.1 S.2.1 dX2_least_88 (lv_at hl 0 rfl) ?_
            refine lv_if_eq (tgt := 95) S.1 S.2.1 dX2_least_90 (by decide) (fun _ => ?_) (fun hh => absurd (by decide) hh)
            refine lv_iinc (v := nI (i + 1)) (lv' := [(2, .int (nI (i + 1))), (4, .int (nI 0)), (3, .int (bI (soM N cn P M 3 (nI i)))), (0, .ref (b 0)), (1, .int (nI 3))]) S.1 S.2.1 dX2_least_95 hl (k := 2) rfl (nI_1 _) (by decide) rfl (fun ls hl => ?_)
            refine lv_goto (tgt := 2) S.1 S.2.1 dX2_least_98 (by decide) ?_
            exact ih2 (i + 1) ls (by omega) (by omega) (by rw [← hv, fo_s h7, if_neg (by simp [leM, h69])]) (lv_sub hl [0, 3, 4] rfl)
          · have h69 : (soM N cn P M 3 (nI i)) = true := bI_t h69
            refine lv_aload_n S.1 S.2.1 dX2_least_72 rfl (lv_at hl 2 rfl) ?_
            refine lv_iconst (v := nI 2) S.1 S.2.1 dX2_least_73 (by decide) ?_
            refine lv_iload_n S.1 S.2.1 dX2_least_74 rfl (lv_at hl 1 rfl) ?_
            refine rdV S cv_RX2_40 (c_X2_isSo (k := 2) (x := nI i) (by decide) hV) hK hN hP (md_rv hK hP) ⟨Nat.le_of_ble_eq_true rfl, Nat.le_of_ble_eq_true rfl⟩ ⟨Nat.zero_le _, Nat.zero_le _⟩ rfl hl.1 rfl (Nat.le_of_ble_eq_true rfl) dX2_least_75 ?_
            refine lv_if_eq (tgt := 85) S.1 S.2.1 dX2_least_78 (by decide) (fun h78 => ?_) (fun h78 => ?_)
            · have h78 : (soM N cn P M 2 (nI i)) = false := bI_f h78
              refine lv_iconst (v := nI 0) S.1 S.2.1 dX2_least_85 (by decide) ?_
              refine lv_istore (lv' := [(4, .int (nI 0)), (3, .int (bI (soM N cn P M 3 (nI i)))), (2, .int (nI i)), (0, .ref (b 0)), (1, .int (nI 3))]) S.1 S.2.1 dX2_least_86 hl (by decide) rfl (fun ls hl => ?_)
              refine lv_iload S.1 S.2.1 dX2_least_88 (lv_at hl 0 rfl) ?_
              refine lv_if_eq (tgt := 95) S.1 S.2.1 dX2_least_90 (by decide) (fun _ => ?_) (fun hh => absurd (by decide) hh)
              refine lv_iinc (v := nI (i + 1)) (lv' := [(2, .int (nI (i + 1))), (4, .int (nI 0)), (3, .int (bI (soM N cn P M 3 (nI i)))), (0, .ref (b 0)), (1, .int (nI 3))]) S.1 S.2.1 dX2_least_95 hl (k := 2) rfl (nI_1 _) (by decide) rfl (fun ls hl => ?_)
              refine lv_goto (tgt := 2) S.1 S.2.1 dX2_least_98 (by decide) ?_
              exact ih2 (i + 1) ls (by omega) (by omega) (by rw [← hv, fo_s h7, if_neg (by simp [leM, h69, h78])]) (lv_sub hl [0, 3, 4] rfl)
            · have h78 : (soM N cn P M 2 (nI i)) = true := bI_t h78
              refine lv_iconst (v := nI 1) S.1 S.2.1 dX2_least_81 (by decide) ?_
              refine lv_goto (tgt := 86) S.1 S.2.1 dX2_least_82 (by decide) ?_
              refine lv_istore (lv' := [(4, .int (nI 1)), (3, .int (bI (soM N cn P M 3 (nI i)))), (2, .int (nI i)), (0, .ref (b 0)), (1, .int (nI 3))]) S.1 S.2.1 dX2_least_86 hl (by decide) rfl (fun ls hl => ?_)
              refine lv_iload S.1 S.2.1 dX2_least_88 (lv_at hl 0 rfl) ?_
              refine lv_if_eq (tgt := 95) S.1 S.2.1 dX2_least_90 (by decide) (fun hh => absurd hh (by decide)) (fun _ => ?_)
              refine lv_iload_n S.1 S.2.1 dX2_least_93 rfl (lv_at hl 2 rfl) ?_
              exact rd_ret hQ S hr hlk (by rw [← hv, fo_s h7, if_pos (by simp [leM, h69, h78])]; rfl) dX2_least_94
    exact loop2 _ 0 ls (Nat.lt_succ_self _) (Nat.zero_le _) rfl (lv_sub hl [0, 1, 2] rfl)
set_option maxHeartbeats 4000000 in
set_option maxRecDepth 100000 in
theorem c_X2_check {l : Launch} {D : va_G} {cI cL : ClassId} {b : Nat → Nat} {N len : Nat} {cn : Nat → Nat} {P M pth dep : Nat → Int32}  (hV : RInv N cn) : MetR l yX2_check cX2_check 2 (some .int) 4 [.ref (b 0)] D cI cL (MDw cI b N len cn P M pth dep) (oI 0 (chM N cn P M)) := by
  refine MetR.mk (by decide) (Nat.le_of_ble_eq_true rfl) ?_
  intro p e s m args below meth c Q hQ S hr hlk hN hK hP ls hl
  have S : CallFix p m c cX2_check 2 s args wt RX2 := S
  have hl : lv_has ls 2 [(0, .ref (b 0))] := hl
  refine lv_iconst (v := nI 1) S.1 S.2.1 dX2_check_0 (by decide) ?_
  refine lv_istore_n (lv' := [(1, .int (nI 1)), (0, .ref (b 0))]) S.1 S.2.1 dX2_check_1 rfl hl (by decide) rfl (fun ls hl => ?_)
  have loop2 : ∀ (nf : Nat) (r : Nat) (ls : Array Slot), 4 - r < nf → 1 ≤ r → r ≤ 4 → fo (fun r => !decide (oI (-1) (lmM N cn P M r) < 0)) 4 r = chM N cn P M → lv_has ls 2 [(1, .int (nI r)), (0, .ref (b 0))] → W p l e (rmd 4) s m args below meth c s.heap [] 0 0 Q (F0 m 2 ls []) := by
    intro nf
    induction nf with
    | zero => exact fun r ls hn => absurd hn (Nat.not_lt_zero _)
    | succ nf ih2 =>
      intro r ls hn h1 h2 hv hl
      refine lv_iload_n S.1 S.2.1 dX2_check_2 rfl (lv_at hl 0 rfl) ?_
      refine lv_iconst (v := nI 3) S.1 S.2.1 dX2_check_3 (by decide) ?_
      refine lv_icmp_gt (tgt := 23) S.1 S.2.1 dX2_check_4 (by decide) (fun h4 => ?_) (fun h4 => ?_)
      · have h4 := lt_n (by omega) (by omega) h4
        refine lv_iconst (v := nI 0) S.1 S.2.1 dX2_check_23 (by decide) ?_
        exact rd_ret hQ S hr hlk (by rw [← hv, fo_d (by omega)]; rfl) dX2_check_24
      · have h4 := lt_f (by omega) (by omega) h4
        refine lv_aload_n S.1 S.2.1 dX2_check_7 rfl (lv_at hl 1 rfl) ?_
        refine lv_iload_n S.1 S.2.1 dX2_check_8 rfl (lv_at hl 0 rfl) ?_
        refine rdV S cv_RX2_59 (c_X2_least (r := r) (by omega) hV) hK hN hP (md_rv hK hP) ⟨Nat.le_of_ble_eq_true rfl, Nat.le_of_ble_eq_true rfl⟩ ⟨Nat.zero_le _, Nat.zero_le _⟩ rfl hl.1 rfl (Nat.le_of_ble_eq_true rfl) dX2_check_9 ?_
        refine lv_if_lt (tgt := 17) S.1 S.2.1 dX2_check_12 (by decide) (fun h12 => ?_) (fun h12 => ?_)
        · refine lv_iinc (v := nI (r + 1)) (lv' := [(1, .int (nI (r + 1))), (0, .ref (b 0))]) S.1 S.2.1 dX2_check_17 hl (k := 0) rfl (nI_1 _) (by decide) rfl (fun ls hl => ?_)
          refine lv_goto (tgt := 2) S.1 S.2.1 dX2_check_20 (by decide) ?_
          exact ih2 (r + 1) ls (by omega) (by omega) (by omega) (by rw [← hv, fo_s (i := r) (by omega), if_neg (by rw [decide_eq_true h12]; decide)]) (lv_sub hl [0, 1] rfl)
        · refine lv_iload_n S.1 S.2.1 dX2_check_15 rfl (lv_at hl 0 rfl) ?_
          exact rd_ret hQ S hr hlk (by rw [← hv, fo_s (by omega), if_pos (by rw [decide_eq_false h12]; rfl)]; rfl) dX2_check_16
  exact loop2 _ 1 ls (Nat.lt_succ_self _) (by decide) (by decide) rfl (lv_sub hl [0, 1] rfl)
set_option maxHeartbeats 4000000 in
set_option maxRecDepth 100000 in
theorem c_X2_flaw {l : Launch} {D : va_G} {cI cL : ClassId} {b : Nat → Nat} {N len : Nat} {cn : Nat → Nat} {P M pth dep : Nat → Int32}  (hV : RInv N cn) : MetR l yX2_flaw cX2_flaw 2 (some .int) 5 [.ref (b 0)] D cI cL (MDw cI b N len cn P M pth dep) (flM N cn P M) := by
  refine MetR.mk (by decide) (Nat.le_of_ble_eq_true rfl) ?_
  intro p e s m args below meth c Q hQ S hr hlk hN hK hP ls hl
  have S : CallFix p m c cX2_flaw 2 s args wt RX2 := S
  have hl : lv_has ls 2 [(0, .ref (b 0))] := hl
  refine lv_aload_n S.1 S.2.1 dX2_flaw_0 rfl (lv_at hl 0 rfl) ?_
  refine rdV S cv_RX2_63 (c_X2_check hV) hK hN hP (md_rv hK hP) ⟨Nat.le_of_ble_eq_true rfl, Nat.le_of_ble_eq_true rfl⟩ ⟨Nat.zero_le _, Nat.zero_le _⟩ rfl hl.1 rfl (Nat.le_of_ble_eq_true rfl) dX2_flaw_1 ?_
  refine lv_istore_n (lv' := [(1, .int (oI 0 (chM N cn P M))), (0, .ref (b 0))]) S.1 S.2.1 dX2_flaw_4 rfl hl (by decide) rfl (fun ls hl => ?_)
  have hc : ∀ r, chM N cn P M = some r → r = 1 ∨ r = 2 ∨ r = 3 := fun r h => by have := fo_in h; omega
  rcases hch : chM N cn P M with _ | r
  · rw [hch] at hl
    have hl : lv_has ls 2 [(1, .int (nI 0)), (0, .ref (b 0))] := hl
    refine lv_iload_n S.1 S.2.1 dX2_flaw_5 rfl (lv_at hl 0 rfl) ?_
    refine lv_if_ne (tgt := 13) S.1 S.2.1 dX2_flaw_6 (by decide) (fun hh => absurd (by decide) hh) (fun _ => ?_)
    refine lv_iconst (v := -1) S.1 S.2.1 dX2_flaw_9 (by decide) ?_
    refine lv_goto (tgt := 18) S.1 S.2.1 dX2_flaw_10 (by decide) ?_
    exact rd_ret hQ S hr hlk (by simp [flM, hch]) dX2_flaw_18
  · rw [hch] at hl
    have hl : lv_has ls 2 [(1, .int (nI r)), (0, .ref (b 0))] := hl
    have hr3 := hc r hch
    refine lv_iload_n S.1 S.2.1 dX2_flaw_5 rfl (lv_at hl 0 rfl) ?_
    refine lv_if_ne (tgt := 13) S.1 S.2.1 dX2_flaw_6 (by decide) (fun _ => ?_) (fun hh => absurd hh (fun q => by rcases hr3 with rfl | rfl | rfl <;> exact absurd q (by decide)))
    refine lv_aload_n S.1 S.2.1 dX2_flaw_13 rfl (lv_at hl 1 rfl) ?_
    refine lv_iload_n S.1 S.2.1 dX2_flaw_14 rfl (lv_at hl 0 rfl) ?_
    refine rdV S cv_RX2_59 (c_X2_least (r := r) hr3 hV) hK hN hP (md_rv hK hP) ⟨Nat.le_of_ble_eq_true rfl, Nat.le_of_ble_eq_true rfl⟩ ⟨Nat.zero_le _, Nat.zero_le _⟩ rfl hl.1 rfl (Nat.le_of_ble_eq_true rfl) dX2_flaw_15 ?_
    exact rd_ret hQ S hr hlk (by simp [flM, hch]) dX2_flaw_18
set_option maxHeartbeats 4000000 in
set_option maxRecDepth 100000 in
theorem c_X2_arrives {l : Launch} {D : va_G} {cI cL : ClassId} {b : Nat → Nat} {N len : Nat} {cn : Nat → Nat} {P M pth dep : Nat → Int32} (hp : len ≤ 64)  (hV : RInv N cn) : MetR l yX2_arrives cX2_arrives 1 (some .boolean) 2 [.ref (b 0)] D cI cL (MDw cI b N len cn P M pth dep) (bI (!decide (nI len ≤ 0) && soM N cn P M 2 (pth (len - 1)))) := by
  refine MetR.mk (by decide) (Nat.le_of_ble_eq_true rfl) ?_
  intro p e s m args below meth c Q hQ S hr hlk hN hK hP ls hl
  have S : CallFix p m c cX2_arrives 1 s args wt RX2 := S
  have hl : lv_has ls 1 [(0, .ref (b 0))] := hl
  refine lv_aload_n S.1 S.2.1 dX2_arrives_0 rfl (lv_at hl 0 rfl) ?_
  refine g2_length S hK hP dX2_arrives_1 ?_
  refine lv_if_le (tgt := 30) S.1 S.2.1 dX2_arrives_4 (by decide) (fun h4 => ?_) (fun h4 => ?_)
  · refine lv_iconst (v := nI 0) S.1 S.2.1 dX2_arrives_30 (by decide) ?_
    exact rd_retz hQ S hr hlk (r0 (by simp [h4])) dX2_arrives_31
  · refine lv_aload_n S.1 S.2.1 dX2_arrives_7 rfl (lv_at hl 0 rfl) ?_
    refine lv_iconst (v := nI 2) S.1 S.2.1 dX2_arrives_8 (by decide) ?_
    refine lv_aload_n S.1 S.2.1 dX2_arrives_9 rfl (lv_at hl 0 rfl) ?_
    refine g2_path S hK hP dX2_arrives_10 ?_
    refine lv_aload_n S.1 S.2.1 dX2_arrives_13 rfl (lv_at hl 0 rfl) ?_
    refine g2_length S hK hP dX2_arrives_14 ?_
    refine lv_iconst (v := nI 1) S.1 S.2.1 dX2_arrives_17 (by decide) ?_
    refine lv_isub S.1 S.2.1 dX2_arrives_18 ?_
    refine tp (y := nI (len - 1)) (pk_sub (len_pos (by omega) h4)) ?_
    refine a2_path (by have := len_pos (by omega) h4; omega) S hK hP dX2_arrives_19 ?_
    refine rdV S cv_RX2_40 (c_X2_isSo (k := 2) (x := pth ((len - 1))) (by decide) hV) hK hN hP (md_rv hK hP) ⟨Nat.le_of_ble_eq_true rfl, Nat.le_of_ble_eq_true rfl⟩ ⟨Nat.zero_le _, Nat.zero_le _⟩ rfl hl.1 rfl (Nat.le_of_ble_eq_true rfl) dX2_arrives_20 ?_
    refine lv_if_eq (tgt := 30) S.1 S.2.1 dX2_arrives_23 (by decide) (fun h23 => ?_) (fun h23 => ?_)
    · have h23 : (soM N cn P M 2 (pth ((len - 1)))) = false := bI_f h23
      refine lv_iconst (v := nI 0) S.1 S.2.1 dX2_arrives_30 (by decide) ?_
      exact rd_retz hQ S hr hlk (r0 (by simp [h4, h23])) dX2_arrives_31
    · have h23 : (soM N cn P M 2 (pth ((len - 1)))) = true := bI_t h23
      refine lv_iconst (v := nI 1) S.1 S.2.1 dX2_arrives_26 (by decide) ?_
      refine lv_goto (tgt := 31) S.1 S.2.1 dX2_arrives_27 (by decide) ?_
      exact rd_retz hQ S hr hlk (r1 (by simp [h4, h23])) dX2_arrives_31
set_option maxHeartbeats 4000000 in
set_option maxRecDepth 100000 in
theorem c_X2_begin_f {l : Launch} {D : va_G} {cI cL : ClassId} {b : Nat → Nat} {N len : Nat} {cn : Nat → Nat} {P M pth dep : Nat → Int32} {x : Int32} (hb : bgB x = false)   : MetR l yX2_begin cX2_begin 3 (some .boolean) 1 [.ref (b 0), .int x] D cI cL (MDw cI b N len cn P M pth dep) (bI false) := by
  refine MetR.mk (by decide) (Nat.le_of_ble_eq_true rfl) ?_
  intro p e s m args below meth c Q hQ S hr hlk hN hK hP ls hl
  have S : CallFix p m c cX2_begin 3 s args wt RX2 := S
  have hl : lv_has ls 3 [(0, .ref (b 0)), (1, .int x)] := hl
  refine lv_iload_n S.1 S.2.1 dX2_begin_0 rfl (lv_at hl 1 rfl) ?_
  refine lv_iconst (v := nI 1) S.1 S.2.1 dX2_begin_1 (by decide) ?_
  refine lv_icmp_lt (tgt := 11) S.1 S.2.1 dX2_begin_2 (by decide) (fun h2 => ?_) (fun h2 => ?_)
  · refine lv_iconst (v := nI 0) S.1 S.2.1 dX2_begin_11 (by decide) ?_
    exact rd_retz hQ S hr hlk (by decide) dX2_begin_12
  · refine lv_iload_n S.1 S.2.1 dX2_begin_5 rfl (lv_at hl 1 rfl) ?_
    refine lv_bipush (v := nI 6) S.1 S.2.1 dX2_begin_6 (by decide) ?_
    refine lv_icmp_le (tgt := 13) S.1 S.2.1 dX2_begin_8 (by decide) (fun h8 => ?_) (fun h8 => ?_)
    · exact absurd hb (by simp [bgB, h2, h8])
    · refine lv_iconst (v := nI 0) S.1 S.2.1 dX2_begin_11 (by decide) ?_
      exact rd_retz hQ S hr hlk (by decide) dX2_begin_12
set_option maxHeartbeats 4000000 in
set_option maxRecDepth 100000 in
theorem c_X2_begin_t {l : Launch} {D : va_G} {cI cL : ClassId} {b : Nat → Nat} {N len : Nat} {cn : Nat → Nat} {P M pth dep : Nat → Int32} {n : Nat} (hn1 : 1 ≤ n) (hn6 : n ≤ 6)   : MetW l yX2_begin cX2_begin 3 (some .boolean) 1 [.ref (b 0), .int (nI n)] D cI cL (MDw cI b N len cn P M pth dep) (some (.int (bI true))) (MDw cI b n 0 (fd (fun k c => va_up c k 0) 4 0 cn) P M pth dep) := by
  refine MetW.mk (by decide) (Nat.le_of_ble_eq_true rfl) ?_
  intro p e s m args below meth c Q A hQ S hr hlk hN hK hP hD hS ls hl
  have S : CallFix p m c cX2_begin 3 s args wt RX2 := S
  have hl : lv_has ls 3 [(0, .ref (b 0)), (1, .int (nI n))] := hl
  refine lv_iload_n S.1 S.2.1 dX2_begin_0 rfl (lv_at hl 1 rfl) ?_
  refine lv_iconst (v := nI 1) S.1 S.2.1 dX2_begin_1 (by decide) ?_
  refine lv_icmp_lt (tgt := 11) S.1 S.2.1 dX2_begin_2 (by decide) (fun hh => absurd hh (fun q => absurd ((nI_ltI (by omega) (by decide)).mp q) (by omega))) (fun _ => ?_)
  refine lv_iload_n S.1 S.2.1 dX2_begin_5 rfl (lv_at hl 1 rfl) ?_
  refine lv_bipush (v := nI 6) S.1 S.2.1 dX2_begin_6 (by decide) ?_
  refine lv_icmp_le (tgt := 13) S.1 S.2.1 dX2_begin_8 (by decide) (fun _ => ?_) (fun hh => absurd ((nI_leI (by omega) (by decide)).mpr hn6) hh)
  refine lv_aload_n S.1 S.2.1 dX2_begin_13 rfl (lv_at hl 0 rfl) ?_
  refine lv_iload_n S.1 S.2.1 dX2_begin_14 rfl (lv_at hl 1 rfl) ?_
  refine p2_n (x := n) S hK hP hD hS dX2_begin_15 (fun H locs hP hD hS => ?_)
  refine lv_iconst (v := nI 0) S.1 S.2.1 dX2_begin_18 (by decide) ?_
  refine lv_istore_n (lv' := [(2, .int (nI 0)), (0, .ref (b 0)), (1, .int (nI n))]) S.1 S.2.1 dX2_begin_19 rfl hl (by decide) rfl (fun ls hl => ?_)
  have loop20 : ∀ (nf : Nat) (i : Nat) (cn1 : Nat → Nat) (H : Heap) (locs : List Loc) (ls : Array Slot), 4 - i < nf → i ≤ 4 → fd (fun k c => va_up c k 0) 4 i cn1 = fd (fun k c => va_up c k 0) 4 0 cn → va_P D classes (MDw cI b n len cn1 P M pth dep) H → va_D A (MDw cI b n len cn1 P M pth dep) → va_S A s.heap H locs → lv_has ls 3 [(2, .int (nI i)), (0, .ref (b 0)), (1, .int (nI n))] → W p l e (rmd 1) s m args below meth c H locs 0 0 Q (F0 m 20 ls []) := by
    intro nf
    induction nf with
    | zero => exact fun i cn1 H locs ls hn => absurd hn (Nat.not_lt_zero _)
    | succ nf ih20 =>
      intro i cn1 H locs ls hn hi hv hP hD hS hl
      refine lv_iload_n S.1 S.2.1 dX2_begin_20 rfl (lv_at hl 0 rfl) ?_
      refine lv_iconst (v := nI 4) S.1 S.2.1 dX2_begin_21 (by decide) ?_
      refine lv_icmp_ge (tgt := 38) S.1 S.2.1 dX2_begin_22 (by decide) (fun h22 => ?_) (fun h22 => ?_)
      · have h22 := ge_n (by omega) (by decide) h22
        rw [fd_d h22] at hv
        subst hv
        refine lv_aload_n S.1 S.2.1 dX2_begin_38 rfl (lv_at hl 1 rfl) ?_
        refine lv_iconst (v := nI 0) S.1 S.2.1 dX2_begin_39 (by decide) ?_
        refine p2_length (x := 0) S hK hP hD hS dX2_begin_40 (fun H locs hP hD hS => ?_)
        refine lv_iconst (v := nI 1) S.1 S.2.1 dX2_begin_43 (by decide) ?_
        exact wr_retz hQ S hr hlk hP hS rfl (by decide) dX2_begin_44
      · have h22 := ge_f (by omega) (by decide) h22
        refine lv_aload_n S.1 S.2.1 dX2_begin_25 rfl (lv_at hl 1 rfl) ?_
        refine g2_counts S hK hP dX2_begin_26 ?_
        refine lv_iload_n S.1 S.2.1 dX2_begin_29 rfl (lv_at hl 0 rfl) ?_
        refine lv_iconst (v := nI 0) S.1 S.2.1 dX2_begin_30 (by decide) ?_
        refine s2_counts (x := 0) (by omega) S hK hP hD hS dX2_begin_31 (fun H locs hP hD hS => ?_)
        refine lv_iinc (v := nI (i + 1)) (lv' := [(2, .int (nI (i + 1))), (0, .ref (b 0)), (1, .int (nI n))]) S.1 S.2.1 dX2_begin_32 hl (k := 0) rfl (nI_1 _) (by decide) rfl (fun ls hl => ?_)
        refine lv_goto (tgt := 20) S.1 S.2.1 dX2_begin_35 (by decide) ?_
        exact ih20 (i + 1) _ _ _ ls (by omega) (by omega) (fd_b h22 hv rfl) hP hD hS (lv_sub hl [0, 1, 2] rfl)
  exact loop20 _ 0 cn _ _ ls (Nat.lt_succ_self _) (by decide) rfl hP hD hS (lv_sub hl [0, 1, 2] rfl)
set_option maxHeartbeats 4000000 in
set_option maxRecDepth 100000 in
theorem c_X2_clause_f {l : Launch} {D : va_G} {cI cL : ClassId} {b : Nat → Nat} {N len : Nat} {cn : Nat → Nat} {P M pth dep : Nat → Int32} {li x y : Int32} (hb : clB N cn li x y = false)  (hV : RInv N cn) : MetR l yX2_clause cX2_clause 6 (some .int) 1 [.ref (b 0), .int li, .int x, .int y] D cI cL (MDw cI b N len cn P M pth dep) (-1) := by
  refine MetR.mk (by decide) (Nat.le_of_ble_eq_true rfl) ?_
  intro p e s m args below meth c Q hQ S hr hlk hN hK hP ls hl
  have S : CallFix p m c cX2_clause 6 s args wt RX2 := S
  have hl : lv_has ls 6 [(0, .ref (b 0)), (1, .int li), (2, .int x), (3, .int y)] := hl
  have h6 := hV.2.1
  rcases hl1 : liB li with _ | _
  · skip
    refine lv_iload_n S.1 S.2.1 dX2_clause_0 rfl (lv_at hl 1 rfl) ?_
    refine rdS S ct_RX2_36 (c_X2_isList (x := li)) hK hN hP ⟨Nat.le_of_ble_eq_true rfl, Nat.le_of_ble_eq_true rfl⟩ ⟨Nat.zero_le _, Nat.zero_le _⟩ rfl hl.1 rfl (Nat.le_of_ble_eq_true rfl) dX2_clause_1 ?_
    refine lv_if_eq (tgt := 18) S.1 S.2.1 dX2_clause_4 (by decide) (fun _ => ?_) (fun hh => absurd (by rw [hl1]; rfl) hh)
    refine lv_iconst (v := -1) S.1 S.2.1 dX2_clause_18 (by decide) ?_
    exact rd_ret hQ S hr hlk rfl dX2_clause_19
  · obtain ⟨k, hk, rfl⟩ := liB_t hl1
    have hc4 := hV.2.2 k hk
    refine lv_iload_n S.1 S.2.1 dX2_clause_0 rfl (lv_at hl 1 rfl) ?_
    refine rdS S ct_RX2_36 (c_X2_isList (x := nI k)) hK hN hP ⟨Nat.le_of_ble_eq_true rfl, Nat.le_of_ble_eq_true rfl⟩ ⟨Nat.zero_le _, Nat.zero_le _⟩ rfl hl.1 rfl (Nat.le_of_ble_eq_true rfl) dX2_clause_1 ?_
    refine lv_if_eq (tgt := 18) S.1 S.2.1 dX2_clause_4 (by decide) (fun hh => absurd hh (by rw [hl1]; decide)) (fun _ => ?_)
    refine lv_aload_n S.1 S.2.1 dX2_clause_7 rfl (lv_at hl 0 rfl) ?_
    refine g2_counts S hK hP dX2_clause_8 ?_
    refine lv_iload_n S.1 S.2.1 dX2_clause_11 rfl (lv_at hl 1 rfl) ?_
    refine a2_counts hk S hK hP dX2_clause_12 ?_
    refine lv_bipush (v := nI 24) S.1 S.2.1 dX2_clause_13 (by decide) ?_
    refine lv_icmp_ne (tgt := 20) S.1 S.2.1 dX2_clause_15 (by decide) (fun h15 => ?_) (fun h15 => ?_)
    · refine lv_iload_n S.1 S.2.1 dX2_clause_20 rfl (lv_at hl 1 rfl) ?_
      refine lv_iconst (v := nI 1) S.1 S.2.1 dX2_clause_21 (by decide) ?_
      refine lv_icmp_ne (tgt := 36) S.1 S.2.1 dX2_clause_22 (by decide) (fun h22 => ?_) (fun h22 => ?_)
      · refine lv_iconst (v := nI 1) S.1 S.2.1 dX2_clause_36 (by decide) ?_
        refine lv_aload_n S.1 S.2.1 dX2_clause_37 rfl (lv_at hl 0 rfl) ?_
        refine g2_n S hK hP dX2_clause_38 ?_
        refine lv_ishl S.1 S.2.1 dX2_clause_41 ?_
        refine tp (y := nI (2 ^ N)) (sh1 _ (by omega)) ?_
        refine lv_istore (lv' := [(4, .int (nI (2 ^ N))), (0, .ref (b 0)), (1, .int (nI k)), (2, .int x), (3, .int y)]) S.1 S.2.1 dX2_clause_42 hl (by decide) rfl (fun ls hl => ?_)
        refine lv_iload_n S.1 S.2.1 dX2_clause_44 rfl (lv_at hl 3 rfl) ?_
        refine lv_if_lt (tgt := 64) S.1 S.2.1 dX2_clause_45 (by decide) (fun h45 => ?_) (fun h45 => ?_)
        · refine lv_iconst (v := -1) S.1 S.2.1 dX2_clause_64 (by decide) ?_
          exact rd_ret hQ S hr hlk rfl dX2_clause_65
        · refine lv_iload_n S.1 S.2.1 dX2_clause_48 rfl (lv_at hl 4 rfl) ?_
          refine lv_if_lt (tgt := 64) S.1 S.2.1 dX2_clause_49 (by decide) (fun h49 => ?_) (fun h49 => ?_)
          · refine lv_iconst (v := -1) S.1 S.2.1 dX2_clause_64 (by decide) ?_
            exact rd_ret hQ S hr hlk rfl dX2_clause_65
          · refine lv_iload_n S.1 S.2.1 dX2_clause_52 rfl (lv_at hl 3 rfl) ?_
            refine lv_iload S.1 S.2.1 dX2_clause_53 (lv_at hl 0 rfl) ?_
            refine lv_icmp_ge (tgt := 64) S.1 S.2.1 dX2_clause_55 (by decide) (fun h55 => ?_) (fun h55 => ?_)
            · refine lv_iconst (v := -1) S.1 S.2.1 dX2_clause_64 (by decide) ?_
              exact rd_ret hQ S hr hlk rfl dX2_clause_65
            · refine lv_iload_n S.1 S.2.1 dX2_clause_58 rfl (lv_at hl 4 rfl) ?_
              refine lv_iload S.1 S.2.1 dX2_clause_59 (lv_at hl 0 rfl) ?_
              refine lv_icmp_lt (tgt := 66) S.1 S.2.1 dX2_clause_61 (by decide) (fun h61 => ?_) (fun h61 => ?_)
              · exact absurd hb (by rw [clB_t hl1 (seB_t h45 (by rw [if_neg h22]; exact h55)) (seB_t h49 (by rw [if_neg h22]; exact Int32.not_le.mpr h61)) (by rw [nI_clamp (by omega)]; exact ne24 hc4 h15)]; decide)
              · refine lv_iconst (v := -1) S.1 S.2.1 dX2_clause_64 (by decide) ?_
                exact rd_ret hQ S hr hlk rfl dX2_clause_65
      · refine lv_iconst (v := nI 1) S.1 S.2.1 dX2_clause_25 (by decide) ?_
        refine lv_iconst (v := nI 2) S.1 S.2.1 dX2_clause_26 (by decide) ?_
        refine lv_aload_n S.1 S.2.1 dX2_clause_27 rfl (lv_at hl 0 rfl) ?_
        refine g2_n S hK hP dX2_clause_28 ?_
        refine lv_imul S.1 S.2.1 dX2_clause_31 ?_
        refine tp (y := nI (2 * N)) (ml 2 N) ?_
        refine lv_ishl S.1 S.2.1 dX2_clause_32 ?_
        refine tp (y := nI (2 ^ (2 * N))) (sh1 _ (by omega)) ?_
        refine lv_goto (tgt := 42) S.1 S.2.1 dX2_clause_33 (by decide) ?_
        refine lv_istore (lv' := [(4, .int (nI (2 ^ (2 * N)))), (0, .ref (b 0)), (1, .int (nI k)), (2, .int x), (3, .int y)]) S.1 S.2.1 dX2_clause_42 hl (by decide) rfl (fun ls hl => ?_)
        refine lv_iload_n S.1 S.2.1 dX2_clause_44 rfl (lv_at hl 3 rfl) ?_
        refine lv_if_lt (tgt := 64) S.1 S.2.1 dX2_clause_45 (by decide) (fun h45 => ?_) (fun h45 => ?_)
        · refine lv_iconst (v := -1) S.1 S.2.1 dX2_clause_64 (by decide) ?_
          exact rd_ret hQ S hr hlk rfl dX2_clause_65
        · refine lv_iload_n S.1 S.2.1 dX2_clause_48 rfl (lv_at hl 4 rfl) ?_
          refine lv_if_lt (tgt := 64) S.1 S.2.1 dX2_clause_49 (by decide) (fun h49 => ?_) (fun h49 => ?_)
          · refine lv_iconst (v := -1) S.1 S.2.1 dX2_clause_64 (by decide) ?_
            exact rd_ret hQ S hr hlk rfl dX2_clause_65
          · refine lv_iload_n S.1 S.2.1 dX2_clause_52 rfl (lv_at hl 3 rfl) ?_
            refine lv_iload S.1 S.2.1 dX2_clause_53 (lv_at hl 0 rfl) ?_
            refine lv_icmp_ge (tgt := 64) S.1 S.2.1 dX2_clause_55 (by decide) (fun h55 => ?_) (fun h55 => ?_)
            · refine lv_iconst (v := -1) S.1 S.2.1 dX2_clause_64 (by decide) ?_
              exact rd_ret hQ S hr hlk rfl dX2_clause_65
            · refine lv_iload_n S.1 S.2.1 dX2_clause_58 rfl (lv_at hl 4 rfl) ?_
              refine lv_iload S.1 S.2.1 dX2_clause_59 (lv_at hl 0 rfl) ?_
              refine lv_icmp_lt (tgt := 66) S.1 S.2.1 dX2_clause_61 (by decide) (fun h61 => ?_) (fun h61 => ?_)
              · exact absurd hb (by rw [clB_t hl1 (seB_t h45 (by rw [if_pos h22]; exact h55)) (seB_t h49 (by rw [if_pos h22]; exact Int32.not_le.mpr h61)) (by rw [nI_clamp (by omega)]; exact ne24 hc4 h15)]; decide)
              · refine lv_iconst (v := -1) S.1 S.2.1 dX2_clause_64 (by decide) ?_
                exact rd_ret hQ S hr hlk rfl dX2_clause_65
    · refine lv_iconst (v := -1) S.1 S.2.1 dX2_clause_18 (by decide) ?_
      exact rd_ret hQ S hr hlk rfl dX2_clause_19
set_option maxHeartbeats 4000000 in
set_option maxRecDepth 100000 in
theorem c_X2_clause_t {l : Launch} {D : va_G} {cI cL : ClassId} {b : Nat → Nat} {N len : Nat} {cn : Nat → Nat} {P M pth dep : Nat → Int32} {k : Nat} {x y : Int32} (hk : k < 4) (hx : seB N (nI k) x = true) (hy : seB N (nI k) y = true) (hc : cn k < 24)  (hV : RInv N cn) : MetW l yX2_clause cX2_clause 6 (some .int) 1 [.ref (b 0), .int (nI k), .int x, .int y] D cI cL (MDw cI b N len cn P M pth dep) (some (.int (nI (cn k)))) (MDw cI b N 0 (va_up cn k (cn k + 1)) (upd P (24 * k + cn k) x) (upd M (24 * k + cn k) y) pth dep) := by
  refine MetW.mk (by decide) (Nat.le_of_ble_eq_true rfl) ?_
  intro p e s m args below meth c Q A hQ S hr hlk hN hK hP hD hS ls hl
  have S : CallFix p m c cX2_clause 6 s args wt RX2 := S
  have hl : lv_has ls 6 [(0, .ref (b 0)), (1, .int (nI k)), (2, .int x), (3, .int y)] := hl
  have h6 := hV.2.1
  obtain ⟨hx1, hx2⟩ := seB_e hx
  obtain ⟨hy1, hy2⟩ := seB_e hy
  refine lv_iload_n S.1 S.2.1 dX2_clause_0 rfl (lv_at hl 1 rfl) ?_
  refine rdS S ct_RX2_36 (c_X2_isList (x := nI k)) hK hN hP ⟨Nat.le_of_ble_eq_true rfl, Nat.le_of_ble_eq_true rfl⟩ ⟨Nat.zero_le _, Nat.zero_le _⟩ rfl hl.1 rfl (Nat.le_of_ble_eq_true rfl) dX2_clause_1 ?_
  refine lv_if_eq (tgt := 18) S.1 S.2.1 dX2_clause_4 (by decide) (fun hh => absurd hh (by rw [liB_n hk]; decide)) (fun _ => ?_)
  refine lv_aload_n S.1 S.2.1 dX2_clause_7 rfl (lv_at hl 0 rfl) ?_
  refine g2_counts S hK hP dX2_clause_8 ?_
  refine lv_iload_n S.1 S.2.1 dX2_clause_11 rfl (lv_at hl 1 rfl) ?_
  refine a2_counts hk S hK hP dX2_clause_12 ?_
  refine lv_bipush (v := nI 24) S.1 S.2.1 dX2_clause_13 (by decide) ?_
  refine lv_icmp_ne (tgt := 20) S.1 S.2.1 dX2_clause_15 (by decide) (fun _ => ?_) (fun hh => absurd hh (fun q => absurd (eq_n (by omega) (by decide) q) (by omega)))
  refine lv_iload_n S.1 S.2.1 dX2_clause_20 rfl (lv_at hl 1 rfl) ?_
  refine lv_iconst (v := nI 1) S.1 S.2.1 dX2_clause_21 (by decide) ?_
  refine lv_icmp_ne (tgt := 36) S.1 S.2.1 dX2_clause_22 (by decide) (fun h22 => ?_) (fun h22 => ?_)
  · rw [if_neg h22] at hx2 hy2
    refine lv_iconst (v := nI 1) S.1 S.2.1 dX2_clause_36 (by decide) ?_
    refine lv_aload_n S.1 S.2.1 dX2_clause_37 rfl (lv_at hl 0 rfl) ?_
    refine g2_n S hK hP dX2_clause_38 ?_
    refine lv_ishl S.1 S.2.1 dX2_clause_41 ?_
    refine tp (y := nI (2 ^ N)) (sh1 _ (by omega)) ?_
    refine lv_istore (lv' := [(4, .int (nI (2 ^ N))), (0, .ref (b 0)), (1, .int (nI k)), (2, .int x), (3, .int y)]) S.1 S.2.1 dX2_clause_42 hl (by decide) rfl (fun ls hl => ?_)
    refine lv_iload_n S.1 S.2.1 dX2_clause_44 rfl (lv_at hl 3 rfl) ?_
    refine lv_if_lt (tgt := 64) S.1 S.2.1 dX2_clause_45 (by decide) (fun hh => absurd hh hx1) (fun _ => ?_)
    refine lv_iload_n S.1 S.2.1 dX2_clause_48 rfl (lv_at hl 4 rfl) ?_
    refine lv_if_lt (tgt := 64) S.1 S.2.1 dX2_clause_49 (by decide) (fun hh => absurd hh hy1) (fun _ => ?_)
    refine lv_iload_n S.1 S.2.1 dX2_clause_52 rfl (lv_at hl 3 rfl) ?_
    refine lv_iload S.1 S.2.1 dX2_clause_53 (lv_at hl 0 rfl) ?_
    refine lv_icmp_ge (tgt := 64) S.1 S.2.1 dX2_clause_55 (by decide) (fun hh => absurd hh hx2) (fun _ => ?_)
    refine lv_iload_n S.1 S.2.1 dX2_clause_58 rfl (lv_at hl 4 rfl) ?_
    refine lv_iload S.1 S.2.1 dX2_clause_59 (lv_at hl 0 rfl) ?_
    refine lv_icmp_lt (tgt := 66) S.1 S.2.1 dX2_clause_61 (by decide) (fun _ => ?_) (fun hh => absurd (ltI hy2) hh)
    refine lv_aload_n S.1 S.2.1 dX2_clause_66 rfl (lv_at hl 1 rfl) ?_
    refine g2_counts S hK hP dX2_clause_67 ?_
    refine lv_iload_n S.1 S.2.1 dX2_clause_70 rfl (lv_at hl 2 rfl) ?_
    refine a2_counts hk S hK hP dX2_clause_71 ?_
    refine lv_istore (lv' := [(5, .int (nI (cn k))), (4, .int (nI (2 ^ N))), (0, .ref (b 0)), (1, .int (nI k)), (2, .int x), (3, .int y)]) S.1 S.2.1 dX2_clause_72 hl (by decide) rfl (fun ls hl => ?_)
    refine lv_aload_n S.1 S.2.1 dX2_clause_74 rfl (lv_at hl 2 rfl) ?_
    refine g2_plus S hK hP dX2_clause_75 ?_
    refine lv_bipush (v := nI 24) S.1 S.2.1 dX2_clause_78 (by decide) ?_
    refine lv_iload_n S.1 S.2.1 dX2_clause_80 rfl (lv_at hl 3 rfl) ?_
    refine lv_imul S.1 S.2.1 dX2_clause_81 ?_
    refine tp (y := nI (24 * k)) (ml 24 k) ?_
    refine lv_iload S.1 S.2.1 dX2_clause_82 (lv_at hl 0 rfl) ?_
    refine lv_iadd S.1 S.2.1 dX2_clause_84 ?_
    refine tp (y := nI (24 * k + cn k)) (nI_add _ _) ?_
    refine lv_iload_n S.1 S.2.1 dX2_clause_85 rfl (lv_at hl 4 rfl) ?_
    refine s2_plus (x := x) (by omega) S hK hP hD hS dX2_clause_86 (fun H locs hP hD hS => ?_)
    refine lv_aload_n S.1 S.2.1 dX2_clause_87 rfl (lv_at hl 2 rfl) ?_
    refine g2_minus S hK hP dX2_clause_88 ?_
    refine lv_bipush (v := nI 24) S.1 S.2.1 dX2_clause_91 (by decide) ?_
    refine lv_iload_n S.1 S.2.1 dX2_clause_93 rfl (lv_at hl 3 rfl) ?_
    refine lv_imul S.1 S.2.1 dX2_clause_94 ?_
    refine tp (y := nI (24 * k)) (ml 24 k) ?_
    refine lv_iload S.1 S.2.1 dX2_clause_95 (lv_at hl 0 rfl) ?_
    refine lv_iadd S.1 S.2.1 dX2_clause_97 ?_
    refine tp (y := nI (24 * k + cn k)) (nI_add _ _) ?_
    refine lv_iload_n S.1 S.2.1 dX2_clause_98 rfl (lv_at hl 5 rfl) ?_
    refine s2_minus (x := y) (by omega) S hK hP hD hS dX2_clause_99 (fun H locs hP hD hS => ?_)
    refine lv_aload_n S.1 S.2.1 dX2_clause_100 rfl (lv_at hl 2 rfl) ?_
    refine g2_counts S hK hP dX2_clause_101 ?_
    refine lv_iload_n S.1 S.2.1 dX2_clause_104 rfl (lv_at hl 3 rfl) ?_
    refine lv_iload S.1 S.2.1 dX2_clause_105 (lv_at hl 0 rfl) ?_
    refine lv_iconst (v := nI 1) S.1 S.2.1 dX2_clause_107 (by decide) ?_
    refine lv_iadd S.1 S.2.1 dX2_clause_108 ?_
    refine tp (y := nI (cn k + 1)) (nI_1 _) ?_
    refine s2_counts (x := (cn k + 1)) hk S hK hP hD hS dX2_clause_109 (fun H locs hP hD hS => ?_)
    refine lv_aload_n S.1 S.2.1 dX2_clause_110 rfl (lv_at hl 2 rfl) ?_
    refine lv_iconst (v := nI 0) S.1 S.2.1 dX2_clause_111 (by decide) ?_
    refine p2_length (x := 0) S hK hP hD hS dX2_clause_112 (fun H locs hP hD hS => ?_)
    refine lv_iload S.1 S.2.1 dX2_clause_115 (lv_at hl 0 rfl) ?_
    exact wr_ret hQ S hr hlk hP hS rfl rfl dX2_clause_117
  · rw [if_pos h22] at hx2 hy2
    refine lv_iconst (v := nI 1) S.1 S.2.1 dX2_clause_25 (by decide) ?_
    refine lv_iconst (v := nI 2) S.1 S.2.1 dX2_clause_26 (by decide) ?_
    refine lv_aload_n S.1 S.2.1 dX2_clause_27 rfl (lv_at hl 0 rfl) ?_
    refine g2_n S hK hP dX2_clause_28 ?_
    refine lv_imul S.1 S.2.1 dX2_clause_31 ?_
    refine tp (y := nI (2 * N)) (ml 2 N) ?_
    refine lv_ishl S.1 S.2.1 dX2_clause_32 ?_
    refine tp (y := nI (2 ^ (2 * N))) (sh1 _ (by omega)) ?_
    refine lv_goto (tgt := 42) S.1 S.2.1 dX2_clause_33 (by decide) ?_
    refine lv_istore (lv' := [(4, .int (nI (2 ^ (2 * N)))), (0, .ref (b 0)), (1, .int (nI k)), (2, .int x), (3, .int y)]) S.1 S.2.1 dX2_clause_42 hl (by decide) rfl (fun ls hl => ?_)
    refine lv_iload_n S.1 S.2.1 dX2_clause_44 rfl (lv_at hl 3 rfl) ?_
    refine lv_if_lt (tgt := 64) S.1 S.2.1 dX2_clause_45 (by decide) (fun hh => absurd hh hx1) (fun _ => ?_)
    refine lv_iload_n S.1 S.2.1 dX2_clause_48 rfl (lv_at hl 4 rfl) ?_
    refine lv_if_lt (tgt := 64) S.1 S.2.1 dX2_clause_49 (by decide) (fun hh => absurd hh hy1) (fun _ => ?_)
    refine lv_iload_n S.1 S.2.1 dX2_clause_52 rfl (lv_at hl 3 rfl) ?_
    refine lv_iload S.1 S.2.1 dX2_clause_53 (lv_at hl 0 rfl) ?_
    refine lv_icmp_ge (tgt := 64) S.1 S.2.1 dX2_clause_55 (by decide) (fun hh => absurd hh hx2) (fun _ => ?_)
    refine lv_iload_n S.1 S.2.1 dX2_clause_58 rfl (lv_at hl 4 rfl) ?_
    refine lv_iload S.1 S.2.1 dX2_clause_59 (lv_at hl 0 rfl) ?_
    refine lv_icmp_lt (tgt := 66) S.1 S.2.1 dX2_clause_61 (by decide) (fun _ => ?_) (fun hh => absurd (ltI hy2) hh)
    refine lv_aload_n S.1 S.2.1 dX2_clause_66 rfl (lv_at hl 1 rfl) ?_
    refine g2_counts S hK hP dX2_clause_67 ?_
    refine lv_iload_n S.1 S.2.1 dX2_clause_70 rfl (lv_at hl 2 rfl) ?_
    refine a2_counts hk S hK hP dX2_clause_71 ?_
    refine lv_istore (lv' := [(5, .int (nI (cn k))), (4, .int (nI (2 ^ (2 * N)))), (0, .ref (b 0)), (1, .int (nI k)), (2, .int x), (3, .int y)]) S.1 S.2.1 dX2_clause_72 hl (by decide) rfl (fun ls hl => ?_)
    refine lv_aload_n S.1 S.2.1 dX2_clause_74 rfl (lv_at hl 2 rfl) ?_
    refine g2_plus S hK hP dX2_clause_75 ?_
    refine lv_bipush (v := nI 24) S.1 S.2.1 dX2_clause_78 (by decide) ?_
    refine lv_iload_n S.1 S.2.1 dX2_clause_80 rfl (lv_at hl 3 rfl) ?_
    refine lv_imul S.1 S.2.1 dX2_clause_81 ?_
    refine tp (y := nI (24 * k)) (ml 24 k) ?_
    refine lv_iload S.1 S.2.1 dX2_clause_82 (lv_at hl 0 rfl) ?_
    refine lv_iadd S.1 S.2.1 dX2_clause_84 ?_
    refine tp (y := nI (24 * k + cn k)) (nI_add _ _) ?_
    refine lv_iload_n S.1 S.2.1 dX2_clause_85 rfl (lv_at hl 4 rfl) ?_
    refine s2_plus (x := x) (by omega) S hK hP hD hS dX2_clause_86 (fun H locs hP hD hS => ?_)
    refine lv_aload_n S.1 S.2.1 dX2_clause_87 rfl (lv_at hl 2 rfl) ?_
    refine g2_minus S hK hP dX2_clause_88 ?_
    refine lv_bipush (v := nI 24) S.1 S.2.1 dX2_clause_91 (by decide) ?_
    refine lv_iload_n S.1 S.2.1 dX2_clause_93 rfl (lv_at hl 3 rfl) ?_
    refine lv_imul S.1 S.2.1 dX2_clause_94 ?_
    refine tp (y := nI (24 * k)) (ml 24 k) ?_
    refine lv_iload S.1 S.2.1 dX2_clause_95 (lv_at hl 0 rfl) ?_
    refine lv_iadd S.1 S.2.1 dX2_clause_97 ?_
    refine tp (y := nI (24 * k + cn k)) (nI_add _ _) ?_
    refine lv_iload_n S.1 S.2.1 dX2_clause_98 rfl (lv_at hl 5 rfl) ?_
    refine s2_minus (x := y) (by omega) S hK hP hD hS dX2_clause_99 (fun H locs hP hD hS => ?_)
    refine lv_aload_n S.1 S.2.1 dX2_clause_100 rfl (lv_at hl 2 rfl) ?_
    refine g2_counts S hK hP dX2_clause_101 ?_
    refine lv_iload_n S.1 S.2.1 dX2_clause_104 rfl (lv_at hl 3 rfl) ?_
    refine lv_iload S.1 S.2.1 dX2_clause_105 (lv_at hl 0 rfl) ?_
    refine lv_iconst (v := nI 1) S.1 S.2.1 dX2_clause_107 (by decide) ?_
    refine lv_iadd S.1 S.2.1 dX2_clause_108 ?_
    refine tp (y := nI (cn k + 1)) (nI_1 _) ?_
    refine s2_counts (x := (cn k + 1)) hk S hK hP hD hS dX2_clause_109 (fun H locs hP hD hS => ?_)
    refine lv_aload_n S.1 S.2.1 dX2_clause_110 rfl (lv_at hl 2 rfl) ?_
    refine lv_iconst (v := nI 0) S.1 S.2.1 dX2_clause_111 (by decide) ?_
    refine p2_length (x := 0) S hK hP hD hS dX2_clause_112 (fun H locs hP hD hS => ?_)
    refine lv_iload S.1 S.2.1 dX2_clause_115 (lv_at hl 0 rfl) ?_
    exact wr_ret hQ S hr hlk hP hS rfl rfl dX2_clause_117
set_option maxHeartbeats 4000000 in
set_option maxRecDepth 100000 in
theorem c_X2_drop_f {l : Launch} {D : va_G} {cI cL : ClassId} {b : Nat → Nat} {N len : Nat} {cn : Nat → Nat} {P M pth dep : Nat → Int32} {li : Int32} (hb : drB cn li = false)   : MetR l yX2_drop cX2_drop 2 (some .int) 1 [.ref (b 0), .int li] D cI cL (MDw cI b N len cn P M pth dep) (-1) := by
  refine MetR.mk (by decide) (Nat.le_of_ble_eq_true rfl) ?_
  intro p e s m args below meth c Q hQ S hr hlk hN hK hP ls hl
  have S : CallFix p m c cX2_drop 2 s args wt RX2 := S
  have hl : lv_has ls 2 [(0, .ref (b 0)), (1, .int li)] := hl
  rcases hl1 : liB li with _ | _
  · skip
    refine lv_iload_n S.1 S.2.1 dX2_drop_0 rfl (lv_at hl 1 rfl) ?_
    refine rdS S ct_RX2_36 (c_X2_isList (x := li)) hK hN hP ⟨Nat.le_of_ble_eq_true rfl, Nat.le_of_ble_eq_true rfl⟩ ⟨Nat.zero_le _, Nat.zero_le _⟩ rfl hl.1 rfl (Nat.le_of_ble_eq_true rfl) dX2_drop_1 ?_
    refine lv_if_eq (tgt := 16) S.1 S.2.1 dX2_drop_4 (by decide) (fun _ => ?_) (fun hh => absurd (by rw [hl1]; rfl) hh)
    refine lv_iconst (v := -1) S.1 S.2.1 dX2_drop_16 (by decide) ?_
    exact rd_ret hQ S hr hlk rfl dX2_drop_17
  · obtain ⟨k, hk, rfl⟩ := liB_t hl1
    refine lv_iload_n S.1 S.2.1 dX2_drop_0 rfl (lv_at hl 1 rfl) ?_
    refine rdS S ct_RX2_36 (c_X2_isList (x := nI k)) hK hN hP ⟨Nat.le_of_ble_eq_true rfl, Nat.le_of_ble_eq_true rfl⟩ ⟨Nat.zero_le _, Nat.zero_le _⟩ rfl hl.1 rfl (Nat.le_of_ble_eq_true rfl) dX2_drop_1 ?_
    refine lv_if_eq (tgt := 16) S.1 S.2.1 dX2_drop_4 (by decide) (fun hh => absurd hh (by rw [hl1]; decide)) (fun _ => ?_)
    refine lv_aload_n S.1 S.2.1 dX2_drop_7 rfl (lv_at hl 0 rfl) ?_
    refine g2_counts S hK hP dX2_drop_8 ?_
    refine lv_iload_n S.1 S.2.1 dX2_drop_11 rfl (lv_at hl 1 rfl) ?_
    refine a2_counts hk S hK hP dX2_drop_12 ?_
    refine lv_if_ne (tgt := 18) S.1 S.2.1 dX2_drop_13 (by decide) (fun h13 => ?_) (fun h13 => ?_)
    · exact absurd hb (by simp [drB, hl1, nI_clamp (show k < 2 ^ 31 by omega)]; exact fun q => h13 (by rw [q]; rfl))
    · refine lv_iconst (v := -1) S.1 S.2.1 dX2_drop_16 (by decide) ?_
      exact rd_ret hQ S hr hlk rfl dX2_drop_17
set_option maxHeartbeats 4000000 in
set_option maxRecDepth 100000 in
theorem c_X2_drop_t {l : Launch} {D : va_G} {cI cL : ClassId} {b : Nat → Nat} {N len : Nat} {cn : Nat → Nat} {P M pth dep : Nat → Int32} {k : Nat} (hk : k < 4) (hp : 0 < cn k)  (hV : RInv N cn) : MetW l yX2_drop cX2_drop 2 (some .int) 1 [.ref (b 0), .int (nI k)] D cI cL (MDw cI b N len cn P M pth dep) (some (.int (nI (cn k - 1)))) (MDw cI b N 0 (va_up cn k (cn k - 1)) P M pth dep) := by
  refine MetW.mk (by decide) (Nat.le_of_ble_eq_true rfl) ?_
  intro p e s m args below meth c Q A hQ S hr hlk hN hK hP hD hS ls hl
  have S : CallFix p m c cX2_drop 2 s args wt RX2 := S
  have hl : lv_has ls 2 [(0, .ref (b 0)), (1, .int (nI k))] := hl
  refine lv_iload_n S.1 S.2.1 dX2_drop_0 rfl (lv_at hl 1 rfl) ?_
  refine rdS S ct_RX2_36 (c_X2_isList (x := nI k)) hK hN hP ⟨Nat.le_of_ble_eq_true rfl, Nat.le_of_ble_eq_true rfl⟩ ⟨Nat.zero_le _, Nat.zero_le _⟩ rfl hl.1 rfl (Nat.le_of_ble_eq_true rfl) dX2_drop_1 ?_
  refine lv_if_eq (tgt := 16) S.1 S.2.1 dX2_drop_4 (by decide) (fun hh => absurd hh (by rw [liB_n hk]; decide)) (fun _ => ?_)
  refine lv_aload_n S.1 S.2.1 dX2_drop_7 rfl (lv_at hl 0 rfl) ?_
  refine g2_counts S hK hP dX2_drop_8 ?_
  refine lv_iload_n S.1 S.2.1 dX2_drop_11 rfl (lv_at hl 1 rfl) ?_
  refine a2_counts hk S hK hP dX2_drop_12 ?_
  refine lv_if_ne (tgt := 18) S.1 S.2.1 dX2_drop_13 (by decide) (fun _ => ?_) (fun hh => absurd hh (nI_ne0 hp (by have := hV.2.2 k hk; omega)))
  refine lv_aload_n S.1 S.2.1 dX2_drop_18 rfl (lv_at hl 0 rfl) ?_
  refine g2_counts S hK hP dX2_drop_19 ?_
  refine lv_iload_n S.1 S.2.1 dX2_drop_22 rfl (lv_at hl 1 rfl) ?_
  refine lv_dup2_11 S.1 S.2.1 dX2_drop_23 rfl rfl ?_
  refine a2_counts hk S hK hP dX2_drop_24 ?_
  refine lv_iconst (v := nI 1) S.1 S.2.1 dX2_drop_25 (by decide) ?_
  refine lv_isub S.1 S.2.1 dX2_drop_26 ?_
  refine tp (y := nI (cn k - 1)) (pk_sub hp) ?_
  refine s2_counts (x := (cn k - 1)) hk S hK hP hD hS dX2_drop_27 (fun H locs hP hD hS => ?_)
  refine lv_aload_n S.1 S.2.1 dX2_drop_28 rfl (lv_at hl 0 rfl) ?_
  refine lv_iconst (v := nI 0) S.1 S.2.1 dX2_drop_29 (by decide) ?_
  refine p2_length (x := 0) S hK hP hD hS dX2_drop_30 (fun H locs hP hD hS => ?_)
  refine lv_aload_n S.1 S.2.1 dX2_drop_33 rfl (lv_at hl 0 rfl) ?_
  refine g2_counts S hK hP dX2_drop_34 ?_
  refine lv_iload_n S.1 S.2.1 dX2_drop_37 rfl (lv_at hl 1 rfl) ?_
  refine a2_counts hk S hK hP dX2_drop_38 ?_
  exact wr_ret hQ S hr hlk hP hS rfl (by rw [show va_up cn k (cn k - 1) k = cn k - 1 from if_pos rfl]) dX2_drop_39
set_option maxHeartbeats 4000000 in
set_option maxRecDepth 100000 in
theorem c_X2_walk_f {l : Launch} {D : va_G} {cI cL : ClassId} {b : Nat → Nat} {N len : Nat} {cn : Nat → Nat} {P M pth dep : Nat → Int32} {x : Int32} (hb : waM N len cn P M pth x = false) (hp : len ≤ 64)  (hV : RInv N cn) : MetR l yX2_walk cX2_walk 3 (some .int) 2 [.ref (b 0), .int x] D cI cL (MDw cI b N len cn P M pth dep) (-1) := by
  refine MetR.mk (by decide) (Nat.le_of_ble_eq_true rfl) ?_
  intro p e s m args below meth c Q hQ S hr hlk hN hK hP ls hl
  have S : CallFix p m c cX2_walk 3 s args wt RX2 := S
  have hl : lv_has ls 3 [(0, .ref (b 0)), (1, .int x)] := hl
  refine lv_aload_n S.1 S.2.1 dX2_walk_0 rfl (lv_at hl 0 rfl) ?_
  refine g2_length S hK hP dX2_walk_1 ?_
  refine lv_bipush (v := nI 64) S.1 S.2.1 dX2_walk_4 (by decide) ?_
  refine lv_icmp_eq (tgt := 17) S.1 S.2.1 dX2_walk_6 (by decide) (fun h6 => ?_) (fun h6 => ?_)
  · refine lv_iconst (v := -1) S.1 S.2.1 dX2_walk_17 (by decide) ?_
    exact rd_ret hQ S hr hlk rfl dX2_walk_18
  · refine lv_aload_n S.1 S.2.1 dX2_walk_9 rfl (lv_at hl 0 rfl) ?_
    refine lv_iload_n S.1 S.2.1 dX2_walk_10 rfl (lv_at hl 1 rfl) ?_
    refine rdV S cv_RX2_44 (c_X2_isState (x := x) hV) hK hN hP (md_rv hK hP) ⟨Nat.le_of_ble_eq_true rfl, Nat.le_of_ble_eq_true rfl⟩ ⟨Nat.zero_le _, Nat.zero_le _⟩ rfl hl.1 rfl (Nat.le_of_ble_eq_true rfl) dX2_walk_11 ?_
    refine lv_if_ne (tgt := 19) S.1 S.2.1 dX2_walk_14 (by decide) (fun h14 => ?_) (fun h14 => ?_)
    · have h14 : (stB N x) = true := bI_t h14
      refine lv_aload_n S.1 S.2.1 dX2_walk_19 rfl (lv_at hl 0 rfl) ?_
      refine g2_length S hK hP dX2_walk_20 ?_
      refine lv_if_ne (tgt := 35) S.1 S.2.1 dX2_walk_23 (by decide) (fun h23 => ?_) (fun h23 => ?_)
      · refine lv_aload_n S.1 S.2.1 dX2_walk_35 rfl (lv_at hl 0 rfl) ?_
        refine lv_aload_n S.1 S.2.1 dX2_walk_36 rfl (lv_at hl 0 rfl) ?_
        refine g2_path S hK hP dX2_walk_37 ?_
        refine lv_aload_n S.1 S.2.1 dX2_walk_40 rfl (lv_at hl 0 rfl) ?_
        refine g2_length S hK hP dX2_walk_41 ?_
        refine lv_iconst (v := nI 1) S.1 S.2.1 dX2_walk_44 (by decide) ?_
        refine lv_isub S.1 S.2.1 dX2_walk_45 ?_
        refine tp (y := nI (len - 1)) (pk_sub (len_ne h23)) ?_
        refine a2_path (by have := len_ne h23; omega) S hK hP dX2_walk_46 ?_
        refine lv_iload_n S.1 S.2.1 dX2_walk_47 rfl (lv_at hl 1 rfl) ?_
        refine rdV S cv_RX2_47 (c_X2_leads (f := pth ((len - 1))) (t := x) hV) hK hN hP (md_rv hK hP) ⟨Nat.le_of_ble_eq_true rfl, Nat.le_of_ble_eq_true rfl⟩ ⟨Nat.zero_le _, Nat.zero_le _⟩ rfl hl.1 rfl (Nat.le_of_ble_eq_true rfl) dX2_walk_48 ?_
        refine lv_istore_n (lv' := [(2, .int (bI (goM N cn P M (pth ((len - 1))) x))), (0, .ref (b 0)), (1, .int x)]) S.1 S.2.1 dX2_walk_51 rfl hl (by decide) rfl (fun ls hl => ?_)
        refine lv_iload_n S.1 S.2.1 dX2_walk_52 rfl (lv_at hl 0 rfl) ?_
        refine lv_if_ne (tgt := 58) S.1 S.2.1 dX2_walk_53 (by decide) (fun h53 => ?_) (fun h53 => ?_)
        · have h53 : (goM N cn P M (pth ((len - 1))) x) = true := bI_t h53
          exact absurd hb (by rw [waM_t h14 (len64 hp h6) (Or.inr ⟨h23, h53⟩)]; decide)
        · have h53 : (goM N cn P M (pth ((len - 1))) x) = false := bI_f h53
          refine lv_iconst (v := -1) S.1 S.2.1 dX2_walk_56 (by decide) ?_
          exact rd_ret hQ S hr hlk rfl dX2_walk_57
      · refine lv_aload_n S.1 S.2.1 dX2_walk_26 rfl (lv_at hl 0 rfl) ?_
        refine lv_iconst (v := nI 0) S.1 S.2.1 dX2_walk_27 (by decide) ?_
        refine lv_iload_n S.1 S.2.1 dX2_walk_28 rfl (lv_at hl 1 rfl) ?_
        refine rdV S cv_RX2_40 (c_X2_isSo (k := 0) (x := x) (by decide) hV) hK hN hP (md_rv hK hP) ⟨Nat.le_of_ble_eq_true rfl, Nat.le_of_ble_eq_true rfl⟩ ⟨Nat.zero_le _, Nat.zero_le _⟩ rfl hl.1 rfl (Nat.le_of_ble_eq_true rfl) dX2_walk_29 ?_
        refine lv_goto (tgt := 51) S.1 S.2.1 dX2_walk_32 (by decide) ?_
        refine lv_istore_n (lv' := [(2, .int (bI (soM N cn P M 0 x))), (0, .ref (b 0)), (1, .int x)]) S.1 S.2.1 dX2_walk_51 rfl hl (by decide) rfl (fun ls hl => ?_)
        refine lv_iload_n S.1 S.2.1 dX2_walk_52 rfl (lv_at hl 0 rfl) ?_
        refine lv_if_ne (tgt := 58) S.1 S.2.1 dX2_walk_53 (by decide) (fun h53 => ?_) (fun h53 => ?_)
        · have h53 : (soM N cn P M 0 x) = true := bI_t h53
          exact absurd hb (by rw [waM_t h14 (len64 hp h6) (Or.inl ⟨h23, h53⟩)]; decide)
        · have h53 : (soM N cn P M 0 x) = false := bI_f h53
          refine lv_iconst (v := -1) S.1 S.2.1 dX2_walk_56 (by decide) ?_
          exact rd_ret hQ S hr hlk rfl dX2_walk_57
    · have h14 : (stB N x) = false := bI_f h14
      refine lv_iconst (v := -1) S.1 S.2.1 dX2_walk_17 (by decide) ?_
      exact rd_ret hQ S hr hlk rfl dX2_walk_18
set_option maxHeartbeats 4000000 in
set_option maxRecDepth 100000 in
theorem c_X2_walk_t {l : Launch} {D : va_G} {cI cL : ClassId} {b : Nat → Nat} {N len : Nat} {cn : Nat → Nat} {P M pth dep : Nat → Int32} {x : Int32} (hb : waM N len cn P M pth x = true)  (hV : RInv N cn) : MetW l yX2_walk cX2_walk 3 (some .int) 2 [.ref (b 0), .int x] D cI cL (MDw cI b N len cn P M pth dep) (some (.int (nI (len + 1)))) (MDw cI b N (len + 1) cn P M (upd pth len x) dep) := by
  refine MetW.mk (by decide) (Nat.le_of_ble_eq_true rfl) ?_
  intro p e s m args below meth c Q A hQ S hr hlk hN hK hP hD hS ls hl
  have S : CallFix p m c cX2_walk 3 s args wt RX2 := S
  have hl : lv_has ls 3 [(0, .ref (b 0)), (1, .int x)] := hl
  obtain ⟨hs, hp, hc⟩ := waM_e hb
  refine lv_aload_n S.1 S.2.1 dX2_walk_0 rfl (lv_at hl 0 rfl) ?_
  refine g2_length S hK hP dX2_walk_1 ?_
  refine lv_bipush (v := nI 64) S.1 S.2.1 dX2_walk_4 (by decide) ?_
  refine lv_icmp_eq (tgt := 17) S.1 S.2.1 dX2_walk_6 (by decide) (fun hh => absurd hh (fun q => absurd (eq_n (by omega) (by decide) q) (by omega))) (fun _ => ?_)
  refine lv_aload_n S.1 S.2.1 dX2_walk_9 rfl (lv_at hl 0 rfl) ?_
  refine lv_iload_n S.1 S.2.1 dX2_walk_10 rfl (lv_at hl 1 rfl) ?_
  refine rdV S cv_RX2_44 (c_X2_isState (x := x) hV) hK hN hP (md_rv hK hP) ⟨Nat.le_of_ble_eq_true rfl, Nat.le_of_ble_eq_true rfl⟩ ⟨Nat.zero_le _, Nat.zero_le _⟩ rfl hl.1 rfl (Nat.le_of_ble_eq_true rfl) dX2_walk_11 ?_
  refine lv_if_ne (tgt := 19) S.1 S.2.1 dX2_walk_14 (by decide) (fun _ => ?_) (fun hh => absurd hh (by rw [hs]; decide))
  refine lv_aload_n S.1 S.2.1 dX2_walk_19 rfl (lv_at hl 0 rfl) ?_
  refine g2_length S hK hP dX2_walk_20 ?_
  refine lv_if_ne (tgt := 35) S.1 S.2.1 dX2_walk_23 (by decide) (fun h23 => ?_) (fun h23 => ?_)
  · refine lv_aload_n S.1 S.2.1 dX2_walk_35 rfl (lv_at hl 0 rfl) ?_
    refine lv_aload_n S.1 S.2.1 dX2_walk_36 rfl (lv_at hl 0 rfl) ?_
    refine g2_path S hK hP dX2_walk_37 ?_
    refine lv_aload_n S.1 S.2.1 dX2_walk_40 rfl (lv_at hl 0 rfl) ?_
    refine g2_length S hK hP dX2_walk_41 ?_
    refine lv_iconst (v := nI 1) S.1 S.2.1 dX2_walk_44 (by decide) ?_
    refine lv_isub S.1 S.2.1 dX2_walk_45 ?_
    refine tp (y := nI (len - 1)) (pk_sub (len_ne h23)) ?_
    refine a2_path (by have := len_ne h23; omega) S hK hP dX2_walk_46 ?_
    refine lv_iload_n S.1 S.2.1 dX2_walk_47 rfl (lv_at hl 1 rfl) ?_
    refine rdV S cv_RX2_47 (c_X2_leads (f := pth ((len - 1))) (t := x) hV) hK hN hP (md_rv hK hP) ⟨Nat.le_of_ble_eq_true rfl, Nat.le_of_ble_eq_true rfl⟩ ⟨Nat.zero_le _, Nat.zero_le _⟩ rfl hl.1 rfl (Nat.le_of_ble_eq_true rfl) dX2_walk_48 ?_
    refine lv_istore_n (lv' := [(2, .int (bI (goM N cn P M (pth ((len - 1))) x))), (0, .ref (b 0)), (1, .int x)]) S.1 S.2.1 dX2_walk_51 rfl hl (by decide) rfl (fun ls hl => ?_)
    refine lv_iload_n S.1 S.2.1 dX2_walk_52 rfl (lv_at hl 0 rfl) ?_
    refine lv_if_ne (tgt := 58) S.1 S.2.1 dX2_walk_53 (by decide) (fun _ => ?_) (fun hh => absurd hh (by rw [hc.2 h23]; decide))
    refine lv_aload_n S.1 S.2.1 dX2_walk_58 rfl (lv_at hl 1 rfl) ?_
    refine g2_path S hK hP dX2_walk_59 ?_
    refine lv_aload_n S.1 S.2.1 dX2_walk_62 rfl (lv_at hl 1 rfl) ?_
    refine g2_length S hK hP dX2_walk_63 ?_
    refine lv_iload_n S.1 S.2.1 dX2_walk_66 rfl (lv_at hl 2 rfl) ?_
    refine s2_path (x := x) hp S hK hP hD hS dX2_walk_67 (fun H locs hP hD hS => ?_)
    refine lv_aload_n S.1 S.2.1 dX2_walk_68 rfl (lv_at hl 1 rfl) ?_
    refine lv_dup S.1 S.2.1 dX2_walk_69 rfl ?_
    refine g2_length S hK hP dX2_walk_70 ?_
    refine lv_iconst (v := nI 1) S.1 S.2.1 dX2_walk_73 (by decide) ?_
    refine lv_iadd S.1 S.2.1 dX2_walk_74 ?_
    refine tp (y := nI (len + 1)) (nI_1 _) ?_
    refine p2_length (x := (len + 1)) S hK hP hD hS dX2_walk_75 (fun H locs hP hD hS => ?_)
    refine lv_aload_n S.1 S.2.1 dX2_walk_78 rfl (lv_at hl 1 rfl) ?_
    refine g2_length S hK hP dX2_walk_79 ?_
    exact wr_ret hQ S hr hlk hP hS rfl rfl dX2_walk_82
  · refine lv_aload_n S.1 S.2.1 dX2_walk_26 rfl (lv_at hl 0 rfl) ?_
    refine lv_iconst (v := nI 0) S.1 S.2.1 dX2_walk_27 (by decide) ?_
    refine lv_iload_n S.1 S.2.1 dX2_walk_28 rfl (lv_at hl 1 rfl) ?_
    refine rdV S cv_RX2_40 (c_X2_isSo (k := 0) (x := x) (by decide) hV) hK hN hP (md_rv hK hP) ⟨Nat.le_of_ble_eq_true rfl, Nat.le_of_ble_eq_true rfl⟩ ⟨Nat.zero_le _, Nat.zero_le _⟩ rfl hl.1 rfl (Nat.le_of_ble_eq_true rfl) dX2_walk_29 ?_
    refine lv_goto (tgt := 51) S.1 S.2.1 dX2_walk_32 (by decide) ?_
    refine lv_istore_n (lv' := [(2, .int (bI (soM N cn P M 0 x))), (0, .ref (b 0)), (1, .int x)]) S.1 S.2.1 dX2_walk_51 rfl hl (by decide) rfl (fun ls hl => ?_)
    refine lv_iload_n S.1 S.2.1 dX2_walk_52 rfl (lv_at hl 0 rfl) ?_
    refine lv_if_ne (tgt := 58) S.1 S.2.1 dX2_walk_53 (by decide) (fun _ => ?_) (fun hh => absurd hh (by rw [hc.1 h23]; decide))
    refine lv_aload_n S.1 S.2.1 dX2_walk_58 rfl (lv_at hl 1 rfl) ?_
    refine g2_path S hK hP dX2_walk_59 ?_
    refine lv_aload_n S.1 S.2.1 dX2_walk_62 rfl (lv_at hl 1 rfl) ?_
    refine g2_length S hK hP dX2_walk_63 ?_
    refine lv_iload_n S.1 S.2.1 dX2_walk_66 rfl (lv_at hl 2 rfl) ?_
    refine s2_path (x := x) hp S hK hP hD hS dX2_walk_67 (fun H locs hP hD hS => ?_)
    refine lv_aload_n S.1 S.2.1 dX2_walk_68 rfl (lv_at hl 1 rfl) ?_
    refine lv_dup S.1 S.2.1 dX2_walk_69 rfl ?_
    refine g2_length S hK hP dX2_walk_70 ?_
    refine lv_iconst (v := nI 1) S.1 S.2.1 dX2_walk_73 (by decide) ?_
    refine lv_iadd S.1 S.2.1 dX2_walk_74 ?_
    refine tp (y := nI (len + 1)) (nI_1 _) ?_
    refine p2_length (x := (len + 1)) S hK hP hD hS dX2_walk_75 (fun H locs hP hD hS => ?_)
    refine lv_aload_n S.1 S.2.1 dX2_walk_78 rfl (lv_at hl 1 rfl) ?_
    refine g2_length S hK hP dX2_walk_79 ?_
    exact wr_ret hQ S hr hlk hP hS rfl rfl dX2_walk_82
