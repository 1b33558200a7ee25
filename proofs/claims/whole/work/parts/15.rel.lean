/-! class and reference side by side -/
def Rel (N pl : Nat) (pe : Int32) (cn : Nat → Nat) (P M : Nat → Nat → Int32) (dk : Bool) (dep : Nat → Int32) (P' M' pth : Nat → Int32) : Prop := Same N cn P M P' M' ∧ pl ≤ 64 ∧ (1 ≤ pl → pth (pl - 1) = pe) ∧ (dk = true → agr (2 ^ N) dep (BF N cn P M))
section REL
variable {N pl : Nat} {pe : Int32} {cn : Nat → Nat} {P M : Nat → Nat → Int32} {dk : Bool} {dep dep' : Nat → Int32} {P' M' pth : Nat → Int32}
theorem Rel.bf (h : Rel N pl pe cn P M dk dep P' M' pth) : agr (2 ^ N) (depC dk N cn P M dep) (BF N cn P M) := by
  unfold depC
  by_cases hq : dk = true
  · rw [if_pos hq]
    exact h.2.2.2 hq
  · rw [if_neg hq]
    exact find_BF dep
theorem Rel.DD (h : Rel N pl pe cn P M dk dep P' M' pth) : DD N (depC dk N cn P M dep) (xplM N cn P' M' dep') := by
  refine ⟨fun i hi => (h.bf i hi).trans (xpl_BF h.1 dep' i hi).symm, fun i hi => ?_⟩
  rw [h.bf i hi]
  exact BF_gd h.1.1 i hi
theorem Rel.known (h : Rel N pl pe cn P M dk dep P' M' pth) : Rel N pl pe cn P M true (depC dk N cn P M dep) P' M' pth := ⟨h.1, h.2.1, h.2.2.1, fun _ => h.bf⟩
theorem Rel.ar (h : Rel N pl pe cn P M dk dep P' M' pth) : (!decide (nI pl ≤ 0) && inC cn P M 2 pe) = (!decide (nI pl ≤ 0) && soM N cn P' M' 2 (pth (pl - 1))) := by
  by_cases hq : nI pl ≤ 0
  · rw [decide_eq_true hq]
    rfl
  · rw [h.2.2.1 (len_pos (by have := h.2.1; omega) hq), in_so h.1 (by decide)]
theorem Rel.wa (h : Rel N pl pe cn P M dk dep P' M' pth) (x : Int32) : waM N pl cn P' M' pth x = waB N pl pe cn P M x := by
  unfold waM waB
  rw [in_so h.1 (by decide)]
  by_cases hq : nI pl = 0
  · rw [if_pos hq, if_pos hq]
  · rw [if_neg hq, if_neg hq, h.2.2.1 (len_ne hq), go_go h.1]
theorem cn_0K : ∀ (n k : Nat) (c : Nat → Nat) (j : Nat), k ≤ j → j < k + n → fdK (fun k c => va_up c k 0) n k c j = 0
  | 0, k, _, j, h1, h2 => by omega
  | n + 1, k, c, j, h1, h2 => by
    simp only [fdK]
    by_cases e : j = k
    · have keep : ∀ (n k' : Nat) (c : Nat → Nat), j < k' → fdK (fun k c => va_up c k 0) n k' c j = c j := by
        intro n
        induction n with
        | zero => intro k' c _; rfl
        | succ n ih =>
          intro k' c hk
          simp only [fdK]
          rw [ih (k' + 1) _ (by omega)]
          exact if_neg (by omega)
      rw [keep n (k + 1) _ (by omega)]
      exact if_pos e
    · exact cn_0K n (k + 1) _ j (by omega) (by omega)
theorem cn_0 (c : Nat → Nat) {j : Nat} (hj : j < 4) : fd (fun k c => va_up c k 0) 4 0 c j = 0 := cn_0K 4 0 c j (Nat.zero_le _) (by omega)
theorem Rel.begin {n : Nat} (h1 : 1 ≤ n) (h6 : n ≤ 6) : Rel n 0 pe (fd (fun k c => va_up c k 0) 4 0 cn) P M false dep P' M' pth := by
  refine ⟨⟨⟨h1, h6, fun k hk => by rw [cn_0 cn hk]; exact Nat.zero_le _⟩, fun k i hk hi => ?_⟩, Nat.zero_le _, fun h => absurd h (by decide), fun h => absurd h (by decide)⟩
  rw [cn_0 cn hk] at hi
  exact absurd hi (Nat.not_lt_zero _)
theorem bgB_t {x : Int32} (h : bgB x = true) : ∃ n : Nat, 1 ≤ n ∧ n ≤ 6 ∧ x = nI n := by
  unfold bgB at h
  simp only [Bool.and_eq_true, Bool.not_eq_true', decide_eq_false_iff_not, decide_eq_true_eq] at h
  have h0 : ¬ x < 0 := fun q => h.1 (Int32.lt_trans q (by decide))
  obtain ⟨j, hj, rfl⟩ := nI_of2 (x := x) (M := nI 6) (n := 6) (by decide) h0 h.2
  refine ⟨j, ?_, hj, rfl⟩
  rcases j with _ | j
  · exact absurd (by decide) h.1
  · omega
theorem stB_e {x : Int32} (hV : RInv N cn) (h : stB N x = true) : ∃ i : Nat, i < 2 ^ N ∧ x = nI i := by
  unfold stB at h
  simp only [Bool.and_eq_true, Bool.not_eq_true', decide_eq_false_iff_not] at h
  have hS := hV.S
  rcases pk_ix x (n := 2 ^ N) (by omega) with q | q | q
  · exact absurd q h.1
  · exact absurd q h.2
  · exact q
theorem seB_sm {li x : Int32} (hN : N ≤ 6) (h : seB N li x = true) : sm N x := by
  obtain ⟨h1, h2⟩ := seB_e h
  have hle : (if li = nI 1 then 2 * N else N) ≤ 2 * N := by split <;> omega
  have h12 : 2 ^ (2 * N) ≤ 2 ^ 12 := Nat.pow_le_pow_right (by decide) (by omega)
  have hp : 2 ^ (if li = nI 1 then 2 * N else N) ≤ 2 ^ (2 * N) := Nat.pow_le_pow_right (by decide) hle
  rcases pk_ix x (n := 2 ^ (if li = nI 1 then 2 * N else N)) (by omega) with q | q | ⟨j, hj, e⟩
  · exact absurd q h1
  · exact absurd q h2
  · exact ⟨j, by omega, e⟩
theorem clB_e {li x y : Int32} (h : clB N cn li x y = true) : ∃ k : Nat, k < 4 ∧ li = nI k ∧ seB N (nI k) x = true ∧ seB N (nI k) y = true ∧ cn k < 24 := by
  unfold clB at h
  simp only [Bool.and_eq_true, decide_eq_true_eq] at h
  obtain ⟨k, hk, rfl⟩ := liB_t h.1
  rw [nI_clamp (by omega)] at h
  exact ⟨k, hk, rfl, h.2.1, h.2.2.1, h.2.2.2⟩
theorem drB_e {li : Int32} (h : drB cn li = true) : ∃ k : Nat, k < 4 ∧ li = nI k ∧ 0 < cn k := by
  unfold drB at h
  simp only [Bool.and_eq_true, Bool.not_eq_true', decide_eq_false_iff_not] at h
  obtain ⟨k, hk, rfl⟩ := liB_t h.1
  rw [nI_clamp (by omega)] at h
  exact ⟨k, hk, rfl, by have := h.2; omega⟩
theorem Rel.drop (h : Rel N pl pe cn P M dk dep P' M' pth) {k : Nat} (hk : k < 4) (hp : 0 < cn k) : Rel N 0 pe (va_up cn k (cn k - 1)) P M false dep P' M' pth := by
  have hle : ∀ j, va_up cn k (cn k - 1) j ≤ cn j := fun j => by
    unfold va_up
    split
    · rename_i e; rw [e]; omega
    · exact Nat.le_refl _
  exact ⟨⟨⟨h.1.1.1, h.1.1.2.1, fun j hj => Nat.le_trans (hle j) (h.1.1.2.2 j hj)⟩, fun j i hj hi => h.1.2 j i hj (Nat.lt_of_lt_of_le hi (hle j))⟩, Nat.zero_le _, fun q => absurd q (by decide), fun q => absurd q (by decide)⟩
theorem Rel.clause (h : Rel N pl pe cn P M dk dep P' M' pth) {k : Nat} {x y : Int32} (hk : k < 4) (hx : seB N (nI k) x = true) (hy : seB N (nI k) y = true) (hc : cn k < 24) : Rel N 0 pe (va_up cn k (cn k + 1)) (va_up P k (upd (P k) (cn k) x)) (va_up M k (upd (M k) (cn k) y)) false dep (upd P' (24 * k + cn k) x) (upd M' (24 * k + cn k) y) pth := by
  refine ⟨⟨⟨h.1.1.1, h.1.1.2.1, fun j hj => ?_⟩, fun j i hj hi => ?_⟩, Nat.zero_le _, fun q => absurd q (by decide), fun q => absurd q (by decide)⟩
  · unfold va_up
    split
    · omega
    · exact h.1.1.2.2 j hj
  · by_cases e : j = k
    · subst e
      have hi' : i < cn j + 1 := by
        have e1 : va_up cn j (cn j + 1) j = cn j + 1 := if_pos rfl
        rw [e1] at hi
        exact hi
      have eP : va_up P j (upd (P j) (cn j) x) j = upd (P j) (cn j) x := if_pos rfl
      have eM : va_up M j (upd (M j) (cn j) y) j = upd (M j) (cn j) y := if_pos rfl
      rw [eP, eM]
      by_cases ei : i = cn j
      · subst ei
        have e1 : upd (P j) (cn j) x (cn j) = x := if_pos rfl
        have e2 : upd (M j) (cn j) y (cn j) = y := if_pos rfl
        have e3 : upd P' (24 * j + cn j) x (24 * j + cn j) = x := if_pos rfl
        have e4 : upd M' (24 * j + cn j) y (24 * j + cn j) = y := if_pos rfl
        rw [e1, e2, e3, e4]
        exact ⟨rfl, rfl, seB_sm h.1.1.2.1 hx, seB_sm h.1.1.2.1 hy⟩
      · have e1 : upd (P j) (cn j) x i = P j i := if_neg ei
        have e2 : upd (M j) (cn j) y i = M j i := if_neg ei
        have e3 : upd P' (24 * j + cn j) x (24 * j + i) = P' (24 * j + i) := if_neg (by omega)
        have e4 : upd M' (24 * j + cn j) y (24 * j + i) = M' (24 * j + i) := if_neg (by omega)
        rw [e1, e2, e3, e4]
        exact h.1.2 j i hj (by omega)
    · have e0 : va_up cn k (cn k + 1) j = cn j := if_neg e
      rw [e0] at hi
      have hj24 := h.1.1.2.2 j hj
      have eP : va_up P k (upd (P k) (cn k) x) j = P j := if_neg e
      have eM : va_up M k (upd (M k) (cn k) y) j = M j := if_neg e
      have e3 : upd P' (24 * k + cn k) x (24 * j + i) = P' (24 * j + i) := if_neg (by omega)
      have e4 : upd M' (24 * k + cn k) y (24 * j + i) = M' (24 * j + i) := if_neg (by omega)
      rw [eP, eM, e3, e4]
      exact h.1.2 j i hj hi
theorem Rel.walk (h : Rel N pl pe cn P M dk dep P' M' pth) {x : Int32} (hb : waB N pl pe cn P M x = true) : Rel N (pl + 1) x cn P M dk dep P' M' (upd pth pl x) := by
  obtain ⟨-, h64, -⟩ := waB_e hb
  refine ⟨h.1, h64, fun _ => ?_, h.2.2.2⟩
  show upd pth pl x (pl + 1 - 1) = x
  rw [Nat.add_sub_cancel]
  exact if_pos rfl
theorem Rel.new : Rel 1 0 0 (fun _ => 0) P M false dep P' M' pth := ⟨⟨⟨by decide, by decide, fun k hk => Nat.zero_le _⟩, fun k i hk hi => absurd hi (Nat.not_lt_zero _)⟩, Nat.zero_le _, fun q => absurd q (by decide), fun q => absurd q (by decide)⟩
end REL
/-- two worlds beside each other -/
theorem adr_eq {w w' : va_W} (e : w.map Prod.fst = w'.map Prod.fst) {q : Nat} (h : adr w q) : adr w' q := by
  obtain ⟨k, x, hk⟩ := h
  have h1 : (w.map Prod.fst)[k]? = some q := by rw [List.getElem?_map, hk]; rfl
  rw [e, List.getElem?_map] at h1
  cases hw : w'[k]? with
  | none => rw [hw] at h1; cases h1
  | some q0 =>
    rw [hw] at h1
    have e1 : q0.1 = q := Option.some.inj h1
    exact ⟨k, q0.2, by rw [← e1]; exact hw⟩
theorem P_keep {D : va_G} {w1 w2 : va_W} {H H1 : Heap} (hP : va_P D classes w2 H) (hk : ∀ q : Nat, q < H.size → ¬ adr w1 q → H1[q]? = H[q]?) (hd : ∀ q, adr w1 q → ¬ adr w2 q) : va_P D classes w2 H1 := hP.kept (fun k q hq => hk q.1 ((hP k q hq).lt) (fun h => hd q.1 h ⟨k, q.2, hq⟩))
theorem D_l {A : Nat → Prop} {w1 w2 : va_W} (h : va_D A (w1 ++ w2)) : va_D A w1 := ⟨fun i j p q hi hj e => h.1 i j p q (by rw [List.getElem?_append_left (List.getElem?_eq_some_iff.mp hi).1]; exact hi) (by rw [List.getElem?_append_left (List.getElem?_eq_some_iff.mp hj).1]; exact hj) e, fun k q hk => h.2 k q (by rw [List.getElem?_append_left (List.getElem?_eq_some_iff.mp hk).1]; exact hk)⟩
theorem app_r {w1 w2 : va_W} {k : Nat} {q : Nat × va_E} (h : w2[k]? = some q) : (w1 ++ w2)[w1.length + k]? = some q := by
  rw [List.getElem?_append_right (by omega), Nat.add_sub_cancel_left]
  exact h
theorem D_r {A : Nat → Prop} {w1 w2 : va_W} (h : va_D A (w1 ++ w2)) : va_D A w2 := ⟨fun i j p q hi hj e => by
  have := h.1 _ _ p q (app_r hi) (app_r hj) e
  omega, fun k q hk => h.2 _ q (app_r hk)⟩
theorem D_x {A : Nat → Prop} {w1 w2 : va_W} (h : va_D A (w1 ++ w2)) : ∀ q, adr w1 q → ¬ adr w2 q := fun q ⟨k, e, hk⟩ ⟨j, e', hj⟩ => by
  have hl := (List.getElem?_eq_some_iff.mp hk).1
  have := h.1 k _ (q, e) (q, e') (by rw [List.getElem?_append_left hl]; exact hk) (app_r hj) rfl
  omega
theorem adr_rp {cI cL : ClassId} {a : Nat → Nat} {dep dep' : Nat → Int32} {dk dk' : Bool} {N pl N' pl' : Nat} {pe pe' : Int32} {cn cn' : Nat → Nat} {P M P' M' : Nat → Nat → Int32} {q : Nat} (h : adr (RPw cI cL a dep dk N pl pe cn P M) q) : adr (RPw cI cL a dep' dk' N' pl' pe' cn' P' M') q := adr_eq (w := RPw cI cL a dep dk N pl pe cn P M) (w' := RPw cI cL a dep' dk' N' pl' pe' cn' P' M') rfl h
theorem adr_md {cI : ClassId} {b : Nat → Nat} {N len N' len' : Nat} {cn cn' : Nat → Nat} {P M pth dep P' M' pth' dep' : Nat → Int32} {q : Nat} (h : adr (MDw cI b N len cn P M pth dep) q) : adr (MDw cI b N' len' cn' P' M' pth' dep') q := adr_eq (w := MDw cI b N len cn P M pth dep) (w' := MDw cI b N' len' cn' P' M' pth' dep') rfl h
