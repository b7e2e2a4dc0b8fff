/-! PURE 70: loops by fuel, guards, sets of servers as numbers -/
theorem lp_ind {α β : Type} {b : (α → Option β) → α → Option β} (S : Nat → α) (N : Nat) (hN : N < 4000) {X : Option β} (hx : ∀ rec, b rec (S N) = X) (hs : ∀ rec i, i < N → b rec (S i) = rec (S (i + 1))) : lpF b FU (S 0) = X := by
  have key : ∀ (d m i : Nat), i + d = N → d < m → lpF b m (S i) = X := by
    intro d
    induction d with
    | zero =>
      intro m i h1 h2
      cases m with
      | zero => omega
      | succ m =>
        show b (lpF b m) (S i) = X
        rw [show i = N by omega]
        exact hx _
    | succ d ih =>
      intro m i h1 h2
      cases m with
      | zero => omega
      | succ m =>
        show b (lpF b m) (S i) = X
        rw [hs _ i (by omega)]
        exact ih m (i + 1) (by omega) (by omega)
  exact key N FU 0 (by omega) (by unfold FU; omega)
/-- the same, from another start -/
theorem lp_from {α β : Type} {b : (α → Option β) → α → Option β} (S : Nat → α) (i0 N : Nat) (h0 : i0 ≤ N) (hN : N < 4000) {X : Option β} (hx : ∀ rec, b rec (S N) = X) (hs : ∀ rec i, i0 ≤ i → i < N → b rec (S i) = rec (S (i + 1))) : lpF b FU (S i0) = X := by
  have h := lp_ind (b := b) (X := X) (fun k => S (i0 + k)) (N - i0) (by omega) (fun rec => by show b rec (S (i0 + (N - i0))) = X; rw [show i0 + (N - i0) = N by omega]; exact hx rec) (fun rec i hi => hs rec (i0 + i) (by omega) (by omega))
  exact h
theorem jn_eq {α β : Type} (K : α → Option β) (body : (α → Option β) → Option β) : jn K body = body K := Eq.trans rfl rfl
theorem bt_do {α β : Type} (a : α) (k : α → β) : bt a k = k a := Eq.trans rfl rfl
theorem bd_do {α β : Type} (a : α) (k : α → Option β) : bd (some a) k = k a := Eq.trans rfl rfl
theorem bd_at {α β : Type} {o : Option α} {a : α} (h : o = some a) (k : α → Option β) : bd o k = k a := by rw [h]; rfl
theorem gd_nI {α : Type} {k n : Nat} {K : Option α} (h : k < n) (hn : n < 2 ^ 31) : gdI (nI k) n K = K := by
  unfold gdI
  rw [if_neg (nI_in h hn)]
theorem gd_at {α : Type} {x : Int32} {n : Nat} {K : Option α} (k : Nat) (hx : x = nI k) (h : k < n) (hn : n < 2 ^ 31) : gdI x n K = K := by
  rw [hx]
  exact gd_nI h hn
theorem gdZ_do {α : Type} {y : Int32} {K : Option α} (h : ¬ y = 0) : gdZ y K = K := if_neg h
theorem gdL_do {α : Type} {y : Int64} {K : Option α} (h : ¬ y = 0) : gdL y K = K := if_neg h
theorem bI_t : bI true = 1 := rfl
theorem bI_f : bI false = 0 := rfl
theorem bI_0 (b : Bool) : bI b = 0 ↔ b = false := by cases b <;> decide
theorem if_bI {α : Type} (b : Bool) (x y : α) : (if bI b = 0 then x else y) = if b = true then y else x := by cases b <;> rfl
theorem if_nle {α : Type} {a b : Nat} (ha : a < 2 ^ 31) (hb : b < 2 ^ 31) (x y : α) : (if nI a ≤ nI b then x else y) = if a ≤ b then x else y := by
  by_cases h : a ≤ b
  · rw [if_pos h, if_pos ((nI_leI ha hb).mpr h)]
  · rw [if_neg h, if_neg (fun q => h ((nI_leI ha hb).mp q))]
theorem if_nlt {α : Type} {a b : Nat} (ha : a < 2 ^ 31) (hb : b < 2 ^ 31) (x y : α) : (if nI a < nI b then x else y) = if a < b then x else y := by
  by_cases h : a < b
  · rw [if_pos h, if_pos ((nI_ltI ha hb).mpr h)]
  · rw [if_neg h, if_neg (fun q => h ((nI_ltI ha hb).mp q))]
theorem if_neq {α : Type} {a b : Nat} (ha : a < 2 ^ 31) (hb : b < 2 ^ 31) (x y : α) : (if nI a = nI b then x else y) = if a = b then x else y := by
  by_cases h : a = b
  · rw [if_pos h, if_pos ((nI_eq ha hb).mpr h)]
  · rw [if_neg h, if_neg (fun q => h ((nI_eq ha hb).mp q))]
/-! sets of servers: numbers whose bits are the servers -/
def mN (P : Nat → Bool) : Nat → Nat
  | 0 => 0
  | n + 1 => mN P n ||| (if P n = true then 2 ^ n else 0)
theorem mN_bit (P : Nat → Bool) (n s : Nat) : (mN P n).testBit s = (decide (s < n) && P s) := by
  induction n with
  | zero => simp [mN]
  | succ n ih =>
    rw [mN, Nat.testBit_or, ih]
    by_cases h : s = n
    · subst h
      cases hp : P s <;> simp [hp]
    · have e : decide (s < n + 1) = decide (s < n) := by
        by_cases hlt : s < n
        · rw [decide_eq_true hlt, decide_eq_true (by omega)]
        · rw [decide_eq_false hlt, decide_eq_false (by omega)]
      rw [e]
      cases hp : P n
      · rw [if_neg (by simp), Nat.zero_testBit, Bool.or_false]
      · rw [if_pos rfl, Nat.testBit_two_pow, decide_eq_false (show ¬ n = s from fun q => h q.symm), Bool.or_false]
theorem mN_lt (P : Nat → Bool) (n : Nat) : mN P n < 2 ^ n := by
  apply Nat.lt_pow_two_of_testBit
  intro i hi
  rw [mN_bit]
  simp
  omega
theorem mN_and (P Q : Nat → Bool) (n : Nat) : mN P n &&& mN Q n = mN (fun s => P s && Q s) n := by
  apply Nat.eq_of_testBit_eq
  intro i
  rw [Nat.testBit_and, mN_bit, mN_bit, mN_bit]
  cases decide (i < n) <;> cases P i <;> cases Q i <;> rfl
theorem mN_congr {P Q : Nat → Bool} {n : Nat} (h : ∀ s, s < n → P s = Q s) : mN P n = mN Q n := by
  induction n with
  | zero => rfl
  | succ n ih => rw [mN, mN, ih (fun s hs => h s (by omega)), h n (by omega)]
theorem mN_zero {P : Nat → Bool} {n : Nat} : mN P n = 0 ↔ ∀ s, s < n → P s = false := by
  constructor
  · intro h s hs
    have := mN_bit P n s
    rw [h, Nat.zero_testBit] at this
    simp [hs] at this
    exact this
  · intro h
    apply Nat.eq_of_testBit_eq
    intro i
    rw [mN_bit, Nat.zero_testBit]
    by_cases hi : i < n
    · simp [h i hi]
    · simp [hi]
theorem nI_or (a b : Nat) : nI a ||| nI b = nI (a ||| b) := by
  apply Int32.toBitVec_inj.mp
  show BitVec.ofNat 32 a ||| BitVec.ofNat 32 b = BitVec.ofNat 32 (a ||| b)
  apply BitVec.eq_of_getLsbD_eq
  intro i hi
  simp [BitVec.getLsbD_or, BitVec.getLsbD_ofNat, Nat.testBit_or, hi]
theorem nI_and (a b : Nat) : nI a &&& nI b = nI (a &&& b) := by
  apply Int32.toBitVec_inj.mp
  show BitVec.ofNat 32 a &&& BitVec.ofNat 32 b = BitVec.ofNat 32 (a &&& b)
  apply BitVec.eq_of_getLsbD_eq
  intro i hi
  simp [BitVec.getLsbD_and, BitVec.getLsbD_ofNat, Nat.testBit_and, hi]
theorem sh1 : ∀ i, i < 31 → (1 : Int32) <<< (nI i &&& 31) = nI (2 ^ i) := by decide +kernel
theorem mN_succ (P : Nat → Bool) (i : Nat) : nI (mN P i) ||| (if P i = true then nI (2 ^ i) else 0) = nI (mN P (i + 1)) := by
  cases h : P i
  · rw [if_neg (by simp)]
    show nI (mN P i) ||| nI 0 = _
    rw [nI_or, mN, h]
    rfl
  · rw [if_pos rfl, nI_or, mN, h]
    rfl
/-- a loop that gathers a set -/
theorem lp_mask {β : Type} {b : ((Int32 × Int32) → Option β) → (Int32 × Int32) → Option β} {K : (Int32 × Int32) → Option β} (P : Nat → Bool) (N : Nat) (hN : N ≤ 30) (hx : ∀ rec x, b rec (x, nI N) = K (x, nI N)) (hs : ∀ rec x i, i < N → b rec (x, nI i) = rec (x ||| (if P i = true then (1 : Int32) <<< (nI i &&& 31) else 0), nI i + 1)) : lpF b FU ((0 : Int32), (0 : Int32)) = K (nI (mN P N), nI N) := by
  refine lp_ind (b := b) (fun i => (nI (mN P i), nI i)) N (by omega) (fun rec => hx rec _) (fun rec i hi => ?_)
  show b rec (nI (mN P i), nI i) = _
  rw [hs rec _ i hi, nI_1, sh1 i (by omega), mN_succ]
def cN (P : Nat → Bool) : Nat → Nat
  | 0 => 0
  | n + 1 => cN P n + (if P n = true then 1 else 0)
theorem cN_le (P : Nat → Bool) (n : Nat) : cN P n ≤ n := by
  induction n with
  | zero => exact Nat.le_refl _
  | succ n ih =>
    rw [cN]
    split <;> omega
theorem cN_congr {P Q : Nat → Bool} {n : Nat} (h : ∀ s, s < n → P s = Q s) : cN P n = cN Q n := by
  induction n with
  | zero => rfl
  | succ n ih => rw [cN, cN, ih (fun s hs => h s (by omega)), h n (by omega)]
def sN (g : Nat → Nat) : Nat → Nat
  | 0 => 0
  | n + 1 => sN g n + g n
/-- a loop that adds up -/
theorem lp_sum {β : Type} {b : ((Int32 × Int32) → Option β) → (Int32 × Int32) → Option β} {K : (Int32 × Int32) → Option β} (g : Nat → Nat) (x0 N : Nat) (hN : N < 4000) (hx : ∀ rec x, b rec (x, nI N) = K (x, nI N)) (hs : ∀ rec x i, i < N → b rec (x, nI i) = rec (x + nI (g i), nI i + 1)) : lpF b FU (nI x0, (0 : Int32)) = K (nI (x0 + sN g N), nI N) := by
  refine lp_ind (b := b) (fun i => (nI (x0 + sN g i), nI i)) N hN (fun rec => hx rec _) (fun rec i hi => ?_)
  show b rec (nI (x0 + sN g i), nI i) = _
  rw [hs rec _ i hi, nI_1, nI_add, Nat.add_assoc]
  rfl
/-- a loop that counts -/
theorem lp_cnt {β : Type} {b : ((Int32 × Int32) → Option β) → (Int32 × Int32) → Option β} {K : (Int32 × Int32) → Option β} (P : Nat → Bool) (N : Nat) (hN : N < 4000) (hx : ∀ rec x, b rec (x, nI N) = K (x, nI N)) (hs : ∀ rec x i, i < N → b rec (x, nI i) = rec (x + (if P i = true then (1 : Int32) else 0), nI i + 1)) : lpF b FU ((0 : Int32), (0 : Int32)) = K (nI (cN P N), nI N) := by
  refine lp_ind (b := b) (fun i => (nI (cN P i), nI i)) N hN (fun rec => hx rec _) (fun rec i hi => ?_)
  show b rec (nI (cN P i), nI i) = _
  rw [hs rec _ i hi, nI_1, cN]
  cases P i
  · show rec (nI (cN P i) + nI 0, _) = _
    rw [nI_add]
    rfl
  · show rec (nI (cN P i) + nI 1, _) = _
    rw [nI_add]
    rfl
