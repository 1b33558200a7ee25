/-! pure rows: loops as functions of their bound and index; what class and reference compute -/
def fdK {α : Type} (f : Nat → α → α) : Nat → Nat → α → α
  | 0, _, x => x
  | k + 1, i, x => fdK f k (i + 1) (f i x)
def fd {α : Type} (f : Nat → α → α) (S i : Nat) (x : α) : α := fdK f (S - i) i x
theorem fd_d {α : Type} {f : Nat → α → α} {S i : Nat} {x : α} (h : S ≤ i) : fd f S i x = x := by
  unfold fd
  rw [Nat.sub_eq_zero_of_le h]
  rfl
theorem fd_s {α : Type} {f : Nat → α → α} {S i : Nat} {x : α} (h : i < S) : fd f S i x = fd f S (i + 1) (f i x) := by
  unfold fd
  obtain ⟨k, hk⟩ : ∃ k, S - i = k + 1 := ⟨S - i - 1, by omega⟩
  rw [hk, show S - (i + 1) = k by omega]
  rfl
def foK (q : Nat → Bool) : Nat → Nat → Option Nat
  | 0, _ => none
  | k + 1, i => if q i = true then some i else foK q k (i + 1)
def fo (q : Nat → Bool) (S i : Nat) : Option Nat := foK q (S - i) i
theorem fo_d {q : Nat → Bool} {S i : Nat} (h : S ≤ i) : fo q S i = none := by
  unfold fo
  rw [Nat.sub_eq_zero_of_le h]
  rfl
theorem fo_s {q : Nat → Bool} {S i : Nat} (h : i < S) : fo q S i = if q i = true then some i else fo q S (i + 1) := by
  unfold fo
  obtain ⟨k, hk⟩ : ∃ k, S - i = k + 1 := ⟨S - i - 1, by omega⟩
  rw [hk, show S - (i + 1) = k by omega]
  rfl
def oI (d : Int32) (o : Option Nat) : Int32 := match o with
  | none => d
  | some i => nI i
def alK (q : Nat → Bool) : Nat → Nat → Bool
  | 0, _ => true
  | k + 1, i => q i && alK q k (i + 1)
def al (q : Nat → Bool) (S i : Nat) : Bool := alK q (S - i) i
theorem al_d {q : Nat → Bool} {S i : Nat} (h : S ≤ i) : al q S i = true := by
  unfold al
  rw [Nat.sub_eq_zero_of_le h]
  rfl
theorem al_s {q : Nat → Bool} {S i : Nat} (h : i < S) : al q S i = (q i && al q S (i + 1)) := by
  unfold al
  obtain ⟨k, hk⟩ : ∃ k, S - i = k + 1 := ⟨S - i - 1, by omega⟩
  rw [hk, show S - (i + 1) = k by omega]
  rfl
def anK (q : Nat → Bool) : Nat → Nat → Bool
  | 0, _ => false
  | k + 1, i => q i || anK q k (i + 1)
def an (q : Nat → Bool) (S i : Nat) : Bool := anK q (S - i) i
theorem an_d {q : Nat → Bool} {S i : Nat} (h : S ≤ i) : an q S i = false := by
  unfold an
  rw [Nat.sub_eq_zero_of_le h]
  rfl
theorem an_s {q : Nat → Bool} {S i : Nat} (h : i < S) : an q S i = (q i || an q S (i + 1)) := by
  unfold an
  obtain ⟨k, hk⟩ : ∃ k, S - i = k + 1 := ⟨S - i - 1, by omega⟩
  rw [hk, show S - (i + 1) = k by omega]
  rfl
theorem r1 {z : Bool} (h : z = true) : nI 1 = bI z := by rw [h]; decide
theorem r0 {z : Bool} (h : z = false) : nI 0 = bI z := by rw [h]; decide
theorem q_1 : bI true = 1 := rfl
theorem q_0 : bI false = 0 := rfl
theorem q1 : nI 1 = 1 := by decide
theorem q0 : nI 0 = 0 := by decide
/-- numbers -/
theorem sh1 : ∀ n, n < 13 → nI 1 <<< (nI n &&& 31) = nI (2 ^ n) := by decide +kernel
theorem p2_6 {N : Nat} (h : N ≤ 6) : 2 ^ N ≤ 64 := Nat.pow_le_pow_right (by decide) h
theorem ml (a b : Nat) : nI a * nI b = nI (a * b) := pk_mul a b
theorem pl1 (a b : Nat) : nI a + nI b = nI (a + b) := nI_add a b
theorem ge_n {a b : Nat} (hb : b < 2 ^ 31) (ha : a < 2 ^ 31) (h : nI a ≤ nI b) : a ≤ b := (nI_leI ha hb).mp h
theorem ge_f {a b : Nat} (hb : b < 2 ^ 31) (ha : a < 2 ^ 31) (h : ¬ nI a ≤ nI b) : b < a := Nat.not_le.mp fun q => h ((nI_leI ha hb).mpr q)
theorem lt_n {a b : Nat} (ha : a < 2 ^ 31) (hb : b < 2 ^ 31) (h : nI a < nI b) : a < b := (nI_ltI ha hb).mp h
theorem lt_f {a b : Nat} (ha : a < 2 ^ 31) (hb : b < 2 ^ 31) (h : ¬ nI a < nI b) : b ≤ a := Nat.not_lt.mp fun q => h ((nI_ltI ha hb).mpr q)
theorem eq_n {a b : Nat} (ha : a < 2 ^ 31) (hb : b < 2 ^ 31) (h : nI a = nI b) : a = b := (nI_eq ha hb).mp h
/-- a clause: it holds -/
def okc (p m on : Int32) : Bool := !(decide (p &&& on = 0) && decide (m &&& (on ^^^ (-1)) = 0))
def RInv (N : Nat) (cn : Nat → Nat) : Prop := 1 ≤ N ∧ N ≤ 6 ∧ ∀ k, k < 4 → cn k ≤ 24
theorem RInv.S {N : Nat} {cn : Nat → Nat} (h : RInv N cn) : 2 ^ N ≤ 64 := p2_6 h.2.1
def inC (cn : Nat → Nat) (P M : Nat → Nat → Int32) (k : Nat) (x : Int32) : Bool := al (fun i => okc (P k i) (M k i) x) (cn k) 0
def goC (N : Nat) (cn : Nat → Nat) (P M : Nat → Nat → Int32) (f t : Int32) : Bool := inC cn P M 1 (f ||| (t <<< (nI N &&& 31)))
def stB (N : Nat) (x : Int32) : Bool := !decide (x < 0) && !decide (nI (2 ^ N) ≤ x)
def liB (x : Int32) : Bool := !decide (x < 0) && !decide (nI 4 ≤ x)
def seB (N : Nat) (li x : Int32) : Bool := !decide (x < 0) && !decide (nI (2 ^ (if li = nI 1 then 2 * N else N)) ≤ x)
def rbC (dep : Nat → Int32) (cn : Nat → Nat) (P M : Nat → Nat → Int32) (i : Nat) : Bool := !decide (dep i = -1) && inC cn P M 2 (nI i)
def stepC (g : Nat → Nat → Bool) (fr to : Nat) (dep : Nat → Int32) : Nat → Int32 := if dep to = -1 ∧ g fr to = true then upd dep to (dep fr + nI 1) else dep
def fromC (g : Nat → Nat → Bool) (S lev fr : Nat) (dep : Nat → Int32) : Nat → Int32 := if dep fr = nI lev then fd (stepC g fr) S 0 dep else dep
def levC (g : Nat → Nat → Bool) (S lev : Nat) (dep : Nat → Int32) : Nat → Int32 := fd (fromC g S lev) S 0 dep
def iniC (q : Nat → Bool) (i : Nat) (dep : Nat → Int32) : Nat → Int32 := upd dep i (if q i = true then nI 0 else -1)
def findC (N : Nat) (cn : Nat → Nat) (P M : Nat → Nat → Int32) (dep : Nat → Int32) : Nat → Int32 := fd (levC (fun f t => goC N cn P M (nI f) (nI t)) (2 ^ N)) (2 ^ N) 0 (fd (iniC (fun i => inC cn P M 0 (nI i))) (2 ^ N) 0 dep)
def depC (dk : Bool) (N : Nat) (cn : Nat → Nat) (P M : Nat → Nat → Int32) (dep : Nat → Int32) : Nat → Int32 := if dk = true then dep else findC N cn P M dep
def leC (N : Nat) (cn : Nat → Nat) (P M : Nat → Nat → Int32) (i : Nat) : Bool := an (fun t => !inC cn P M 3 (nI t) && goC N cn P M (nI i) (nI t)) (2 ^ N) 0
def brC (N : Nat) (cn : Nat → Nat) (P M : Nat → Nat → Int32) (r i : Nat) : Bool := if r = 1 then inC cn P M 0 (nI i) && !inC cn P M 3 (nI i) else if r = 2 then inC cn P M 3 (nI i) && leC N cn P M i else if r = 3 then inC cn P M 3 (nI i) && inC cn P M 2 (nI i) else false
def lbC (N : Nat) (cn : Nat → Nat) (P M : Nat → Nat → Int32) (r : Nat) : Option Nat := fo (brC N cn P M r) (2 ^ N) 0
def chC (N : Nat) (cn : Nat → Nat) (P M : Nat → Nat → Int32) : Option Nat := fo (fun r => !decide (oI (-1) (lbC N cn P M r) = -1)) 4 1
def flC (N : Nat) (cn : Nat → Nat) (P M : Nat → Nat → Int32) : Int32 := match chC N cn P M with
  | none => -1
  | some r => oI (-1) (lbC N cn P M r)
def woC (N : Nat) (cn : Nat → Nat) (P M : Nat → Nat → Int32) (dep : Nat → Int32) : Option Nat := fo (rbC dep cn P M) (2 ^ N) 0
def cntF (q : Nat → Bool) (i acc : Nat) : Nat := if q i = true then acc + 1 else acc
def reC (N : Nat) (dep : Nat → Int32) : Nat := fd (cntF (fun i => !decide (dep i = -1))) (2 ^ N) 0 0
def minF (u : Nat → Int32 → Bool) (dep : Nat → Int32) (i : Nat) (x : Int32) : Int32 := if u i x = true then dep i else x
def stC (N : Nat) (cn : Nat → Nat) (P M : Nat → Nat → Int32) (dep : Nat → Int32) : Int32 := fd (minF (fun i x => rbC dep cn P M i && (decide (x = -1) || !decide (x ≤ dep i))) dep) (2 ^ N) 0 (-1)
