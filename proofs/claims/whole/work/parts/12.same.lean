/-! class and reference compute the same -/
def bt (x : Int32) (i : Nat) : Bool := x.toBitVec.getLsbD i
theorem b_ext {x y : Int32} (h : ∀ i, i < 32 → bt x i = bt y i) : x = y := Int32.toBitVec_inj.mp (BitVec.eq_of_getLsbD_eq (fun i hi => h i hi))
theorem b_and (x y : Int32) (i : Nat) : bt (x &&& y) i = (bt x i && bt y i) := by unfold bt; rw [Int32.toBitVec_and, BitVec.getLsbD_and]
theorem b_xor (x y : Int32) (i : Nat) : bt (x ^^^ y) i = (bt x i ^^ bt y i) := by unfold bt; rw [Int32.toBitVec_xor, BitVec.getLsbD_xor]
theorem b_m1 : ∀ i, i < 32 → bt (-1) i = true := by decide +kernel
theorem b_0 (i : Nat) : bt 0 i = false := BitVec.getLsbD_zero
theorem s_l : ∀ n, n < 32 → ((nI n &&& 31).toBitVec.smod 32).toNat = n := by decide +kernel
theorem b_sshr (n : Nat) (hn : n < 32) (x : Int32) {i : Nat} (hi : i < 32) : bt (x >>> (nI n &&& 31)) i = if n + i < 32 then bt x (n + i) else bt x 31 := by
  unfold bt
  rw [Int32.toBitVec_shiftRight]
  show (x.toBitVec.sshiftRight ((nI n &&& 31).toBitVec.smod 32).toNat).getLsbD i = _
  rw [s_l n hn, BitVec.getLsbD_sshiftRight, BitVec.msb_eq_getLsbD_last]
  simp [hi]
theorem b_one : ∀ i, i < 32 → bt (nI 1) i = decide (i = 0) := by decide +kernel
theorem btM_bt (v : Int32) {i : Nat} (hi : i < 32) : btM v i = bt v i := by
  have h0 : bt ((v >>> (nI i &&& 31)) &&& nI 1) 0 = bt v i := by
    rw [b_and, b_sshr i hi v (by decide), b_one 0 (by decide)]
    simp [hi]
  unfold btM
  cases hb : bt v i with
  | true =>
    refine decide_eq_true (b_ext fun j hj => ?_)
    by_cases hz : j = 0
    · subst hz
      rw [h0, hb]
      decide
    · rw [b_and, b_one j hj, decide_eq_false hz, Bool.and_false]
  | false =>
    refine decide_eq_false (fun q => ?_)
    rw [q, hb] at h0
    exact absurd h0 (by decide)
theorem nI_bit {p n i : Nat} (h : p < 2 ^ n) (hi : n ≤ i) : bt (nI p) i = false := by
  unfold bt
  show (BitVec.ofNat 32 p).getLsbD i = false
  rw [BitVec.getLsbD_ofNat, Nat.testBit_lt_two_pow (Nat.lt_of_lt_of_le h (Nat.pow_le_pow_right (by decide) hi)), Bool.and_false]
theorem an_K (q : Nat → Bool) : ∀ (k i : Nat), anK q k i = true ↔ ∃ j, i ≤ j ∧ j < i + k ∧ q j = true
  | 0, i => by
    simp only [anK]
    exact ⟨fun h => absurd h (by decide), fun ⟨j, h1, h2, _⟩ => by omega⟩
  | k + 1, i => by
    simp only [anK, Bool.or_eq_true, an_K q k (i + 1)]
    constructor
    · rintro (h | ⟨j, h1, h2, h3⟩)
      · exact ⟨i, Nat.le_refl _, by omega, h⟩
      · exact ⟨j, by omega, by omega, h3⟩
    · rintro ⟨j, h1, h2, h3⟩
      by_cases hj : j = i
      · subst hj; exact Or.inl h3
      · exact Or.inr ⟨j, by omega, by omega, h3⟩
theorem an_0 {q : Nat → Bool} {S : Nat} : an q S 0 = true ↔ ∃ j, j < S ∧ q j = true := by
  unfold an
  rw [an_K]
  constructor
  · rintro ⟨j, -, h2, h3⟩
    exact ⟨j, by omega, h3⟩
  · rintro ⟨j, h2, h3⟩
    exact ⟨j, Nat.zero_le _, by omega, h3⟩
theorem fd_orK (q : Nat → Bool) : ∀ (k i : Nat) (h : Bool), fdK (fun i h => h || q i) k i h = (h || anK q k i)
  | 0, _, h => by simp [fdK, anK]
  | k + 1, i, h => by
    simp only [fdK, anK]
    rw [fd_orK q k (i + 1)]
    cases h <;> cases q i <;> simp
theorem okc_cl {N p m : Nat} {x : Int32} (hN : N ≤ 6) (hp : p < 2 ^ (2 * N)) (hm : m < 2 ^ (2 * N)) : okc (nI p) (nI m) x = clM N (nI p) (nI m) x := by
  have e1 : clM N (nI p) (nI m) x = an (fun i => (btM (nI p) i && btM x i) || (btM (nI m) i && !btM x i)) (2 * N) 0 := by
    unfold clM fd an
    have h := fd_orK (fun i => (btM (nI p) i && btM x i) || (btM (nI m) i && !btM x i)) (2 * N - 0) 0 false
    rw [Bool.false_or] at h
    exact h
  rw [e1, Bool.eq_iff_iff, an_0]
  constructor
  · intro h
    by_cases hq : ∃ j, j < 2 * N ∧ ((btM (nI p) j && btM x j) || (btM (nI m) j && !btM x j)) = true
    · exact hq
    · have hall : ∀ j, j < 2 * N → (bt (nI p) j && bt x j) = false ∧ (bt (nI m) j && !bt x j) = false := by
        intro j hj
        have h1 : ¬ ((btM (nI p) j && btM x j) || (btM (nI m) j && !btM x j)) = true := fun q => hq ⟨j, hj, q⟩
        rw [btM_bt _ (by omega), btM_bt _ (by omega), btM_bt _ (by omega)] at h1
        simpa using h1
      have z1 : nI p &&& x = 0 := b_ext fun j hj => by
        rw [b_and, b_0]
        by_cases hl : j < 2 * N
        · exact (hall j hl).1
        · rw [nI_bit hp (by omega), Bool.false_and]
      have z2 : nI m &&& (x ^^^ (-1)) = 0 := b_ext fun j hj => by
        rw [b_and, b_xor, b_m1 j hj, b_0, Bool.xor_true]
        by_cases hl : j < 2 * N
        · exact (hall j hl).2
        · rw [nI_bit hm (by omega), Bool.false_and]
      rw [okc_0 z1 z2] at h
      exact absurd h (by decide)
  · rintro ⟨j, hj, h⟩
    rw [btM_bt _ (by omega), btM_bt _ (by omega), btM_bt _ (by omega)] at h
    rcases Bool.or_eq_true _ _ |>.mp h with h1 | h1
    · refine okc_1 fun q => ?_
      have h2 := b_and (nI p) x j
      rw [q, b_0, h1] at h2
      exact absurd h2 (by decide)
    · refine okc_2 fun q => ?_
      have h2 := b_and (nI m) (x ^^^ (-1)) j
      rw [q, b_0, b_xor, b_m1 j (by omega), Bool.xor_true, h1] at h2
      exact absurd h2 (by decide)
/-- loops over equal things -/
theorem al_cgK {q q' : Nat → Bool} : ∀ (k i : Nat), (∀ j, i ≤ j → j < i + k → q j = q' j) → alK q k i = alK q' k i
  | 0, _, _ => rfl
  | k + 1, i, h => by
    simp only [alK]
    rw [h i (Nat.le_refl _) (by omega), al_cgK k (i + 1) (fun j h1 h2 => h j (by omega) (by omega))]
theorem al_cg {q q' : Nat → Bool} {S : Nat} (h : ∀ j, j < S → q j = q' j) : al q S 0 = al q' S 0 := al_cgK _ _ (fun j _ h2 => h j (by omega))
theorem fo_cgK {q q' : Nat → Bool} : ∀ (k i : Nat), (∀ j, i ≤ j → j < i + k → q j = q' j) → foK q k i = foK q' k i
  | 0, _, _ => rfl
  | k + 1, i, h => by
    simp only [foK]
    rw [h i (Nat.le_refl _) (by omega), fo_cgK k (i + 1) (fun j h1 h2 => h j (by omega) (by omega))]
theorem fo_cg {q q' : Nat → Bool} {S i : Nat} (h : ∀ j, i ≤ j → j < S → q j = q' j) : fo q S i = fo q' S i := fo_cgK _ _ (fun j h1 h2 => h j h1 (by omega))
theorem an_cgK {q q' : Nat → Bool} : ∀ (k i : Nat), (∀ j, i ≤ j → j < i + k → q j = q' j) → anK q k i = anK q' k i
  | 0, _, _ => rfl
  | k + 1, i, h => by
    simp only [anK]
    rw [h i (Nat.le_refl _) (by omega), an_cgK k (i + 1) (fun j h1 h2 => h j (by omega) (by omega))]
theorem an_cg {q q' : Nat → Bool} {S : Nat} (h : ∀ j, j < S → q j = q' j) : an q S 0 = an q' S 0 := an_cgK _ _ (fun j _ h2 => h j (by omega))
theorem fd_inv {α : Type} {f : Nat → α → α} {I : α → Prop} {S : Nat} (hf : ∀ i x, i < S → I x → I (f i x)) : ∀ (k i : Nat) (x : α), i + k ≤ S → I x → I (fdK f k i x)
  | 0, _, _, _, h => h
  | k + 1, i, x, hs, h => by
    simp only [fdK]
    exact fd_inv hf k (i + 1) _ (by omega) (hf i x (by omega) h)
theorem fd_rel {α β : Type} {f : Nat → α → α} {g : Nat → β → β} {I : α → β → Prop} {S : Nat} (hf : ∀ i x y, i < S → I x y → I (f i x) (g i y)) : ∀ (k i : Nat) (x : α) (y : β), i + k ≤ S → I x y → I (fdK f k i x) (fdK g k i y)
  | 0, _, _, _, _, h => h
  | k + 1, i, x, y, hs, h => by
    simp only [fdK]
    exact fd_rel hf k (i + 1) _ _ (by omega) (hf i x y (by omega) h)
/-- the lists say the same -/
def sm (N : Nat) (v : Int32) : Prop := ∃ p : Nat, p < 2 ^ (2 * N) ∧ v = nI p
def Same (N : Nat) (cn : Nat → Nat) (P M : Nat → Nat → Int32) (P' M' : Nat → Int32) : Prop := RInv N cn ∧ ∀ k i, k < 4 → i < cn k → P k i = P' (24 * k + i) ∧ M k i = M' (24 * k + i) ∧ sm N (P k i) ∧ sm N (M k i)
section SAME
variable {N : Nat} {cn : Nat → Nat} {P M : Nat → Nat → Int32} {P' M' : Nat → Int32}
theorem in_so (h : Same N cn P M P' M') {k : Nat} (hk : k < 4) (x : Int32) : inC cn P M k x = soM N cn P' M' k x := by
  unfold inC soM
  refine al_cg fun j hj => ?_
  obtain ⟨h1, h2, ⟨p, hp, e1⟩, ⟨m, hm, e2⟩⟩ := h.2 k j hk hj
  rw [← h1, ← h2, e1, e2]
  exact okc_cl h.1.2.1 hp hm
theorem go_go (h : Same N cn P M P' M') (f t : Int32) : goC N cn P M f t = goM N cn P' M' f t := in_so h (by decide) _
theorem ho_ho (h : Same N cn P M P' M') (li x y : Int32) : hoC N cn P M li x y = hoM N cn P' M' li x y := by
  unfold hoC hoM
  rw [go_go h]
  cases hl : liB li with
  | false => rfl
  | true =>
    obtain ⟨k, hk, rfl⟩ := liB_t hl
    rw [in_so h (by rw [nI_clamp (by omega)]; exact hk)]
theorem le_es (h : Same N cn P M P' M') (i : Nat) : leC N cn P M i = esM N cn P' M' i := by
  unfold leC esM
  exact an_cg fun t _ => by rw [in_so h (by decide), go_go h]
theorem br_le (h : Same N cn P M P' M') {r : Nat} (hr : r = 1 ∨ r = 2 ∨ r = 3) (i : Nat) : brC N cn P M r i = leM N cn P' M' r i := by
  unfold brC leM
  rw [in_so h (by decide), in_so h (by decide), in_so h (by decide), le_es h]
  rcases hr with rfl | rfl | rfl
  · simp [Bool.and_comm]
  · simp
  · simp
theorem lb_lm (h : Same N cn P M P' M') {r : Nat} (hr : r = 1 ∨ r = 2 ∨ r = 3) : lbC N cn P M r = lmM N cn P' M' r := by
  unfold lbC lmM
  exact fo_cg fun j _ _ => br_le h hr j
theorem oI_neg {o : Option Nat} {S : Nat} (h : ∀ i, o = some i → i < S) (hS : S ≤ 64) : (oI (-1) o = -1) ↔ (oI (-1) o < 0) := by
  rcases o with _ | i
  · exact ⟨fun _ => by show (-1 : Int32) < 0; decide, fun _ => rfl⟩
  · have hi := h i rfl
    have h1 : ¬ nI i < 0 := nI_pos (by omega)
    exact ⟨fun q => absurd (show nI i < 0 by rw [show nI i = -1 from q]; decide) h1, fun q => absurd q h1⟩
theorem ch_ch (h : Same N cn P M P' M') : chC N cn P M = chM N cn P' M' := by
  unfold chC chM
  refine fo_cg fun r h1 h2 => ?_
  rw [← lb_lm h (by omega)]
  have hS := h.1.S
  have := oI_neg (o := lbC N cn P M r) (S := 2 ^ N) (fun i e => (fo_in e).2) hS
  by_cases hq : oI (-1) (lbC N cn P M r) = -1
  · rw [decide_eq_true hq, decide_eq_true (this.mp hq)]
  · rw [decide_eq_false hq, decide_eq_false (fun q => hq (this.mpr q))]
theorem fl_fl (h : Same N cn P M P' M') : flC N cn P M = flM N cn P' M' := by
  unfold flC flM
  rw [← ch_ch h]
  cases hc : chC N cn P M with
  | none => rfl
  | some r =>
    have := fo_in hc
    show oI (-1) (lbC N cn P M r) = oI (-1) (lmM N cn P' M' r)
    rw [lb_lm h (by omega)]
end SAME
