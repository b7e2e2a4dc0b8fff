/-! PURE 71: one mathematical house, and how the class and the model hold it -/
/-- a copy: version, filled, cells (0 empty, 1 .. 26 letters, 27 a pad) -/
abbrev CPY : Type := Nat × Nat × (Nat → Nat)
/-- numbers (0 servers, 1 wanted, 2 size, 3 lease, 4 grace, 5 now, 6 made); up, room, spoilt by servers; is, kind, many, since by files; version, shares by chunks; the chunks of files; leases; copies -/
abbrev AH : Type := (Nat → Nat) × (Nat → Nat) × (Nat → Nat) × (Nat → Nat) × (Nat → Nat) × (Nat → Nat) × (Nat → Nat) × (Nat → Nat) × (Nat → Nat) × (Nat → Nat) × (Nat → Nat → Nat) × (Nat → Option (Nat × Nat)) × (Nat → Nat → Option CPY)
abbrev nS (A : AH) : Nat := A.1 0
abbrev aSize (A : AH) : Nat := A.1 2
abbrev aNow (A : AH) : Nat := A.1 5
abbrev aMade (A : AH) : Nat := A.1 6
abbrev aUp (A : AH) (s : Nat) : Nat := A.2.1 s
abbrev aRoom (A : AH) (s : Nat) : Nat := A.2.2.1 s
abbrev aSpo (A : AH) (s : Nat) : Nat := A.2.2.2.1 s
abbrev aIs (A : AH) (f : Nat) : Nat := A.2.2.2.2.1 f
abbrev aKind (A : AH) (f : Nat) : Nat := A.2.2.2.2.2.1 f
abbrev aMany (A : AH) (f : Nat) : Nat := A.2.2.2.2.2.2.1 f
abbrev aSince (A : AH) (f : Nat) : Nat := A.2.2.2.2.2.2.2.1 f
abbrev aVer (A : AH) (c : Nat) : Nat := A.2.2.2.2.2.2.2.2.1 c
abbrev aSh (A : AH) (c : Nat) : Nat := A.2.2.2.2.2.2.2.2.2.1 c
abbrev aCh (A : AH) (f k : Nat) : Nat := A.2.2.2.2.2.2.2.2.2.2.1 f k
abbrev aLs (A : AH) (c : Nat) : Option (Nat × Nat) := A.2.2.2.2.2.2.2.2.2.2.2.1 c
abbrev aCp (A : AH) (c s : Nat) : Option CPY := A.2.2.2.2.2.2.2.2.2.2.2.2 c s
/-- how many places of files hold chunk c -/
def rwCnt (many : Nat) (ch : Nat → Nat) (c : Nat) : Nat := sN (fun k => if k < many ∧ ch k = c then 1 else 0) 4
def aCnt (A : AH) (c : Nat) : Nat := sN (fun f => rwCnt (aMany A f) (aCh A f) c) 6
/-- what a cell is in the class -/
def cv (x : Nat) : Int32 := if x = 0 then -1000000 else if x = 27 then 0 else nI (96 + x)
/-- cells as one number, five bits each -/
def pkC (ce : Nat → Nat) : Nat → Nat
  | 0 => 0
  | n + 1 => pkC ce n + ce n * 32 ^ n
def pk (q : CPY) : Nat := 2 ^ 62 + q.1 * 2 ^ 49 + q.2.1 * 2 ^ 45 + pkC q.2.2 9
/-- a copy as it may be: in a house of that size -/
def okC (size : Nat) (top : Nat) (q : CPY) : Prop := q.1 ≤ top ∧ q.2.1 ≤ size ∧ (∀ i, q.2.2 i ≤ 27) ∧ ∀ i, size ≤ i → q.2.2 i = 0
/-- what always holds; n bounds the calls so far -/
def AI (n : Nat) (A : AH) : Prop :=
  nS A ≤ 5 ∧ A.1 1 ≤ 3 ∧ aSize A ≤ 9 ∧ A.1 3 ≤ 20 ∧ A.1 4 ≤ 20 ∧ aNow A ≤ 50 * n ∧ aMade A ≤ 30 ∧
  (∀ s, s < 5 → aUp A s ≤ 1 ∧ aSpo A s ≤ 9) ∧ (∀ s, s < nS A → 1 ≤ aRoom A s ∧ aRoom A s ≤ 9) ∧ (∀ s, nS A ≤ s → aUp A s = 0) ∧
  (∀ f, f < 6 → aIs A f ≤ 2 ∧ aMany A f ≤ 4 ∧ (aIs A f = 0 → aMany A f = 0) ∧ (aIs A f ≠ 0 → 1 ≤ aKind A f ∧ aKind A f ≤ 5) ∧ aSince A f ≤ aNow A ∧ ∀ k, k < aMany A f → aCh A f k < aMade A) ∧
  (∀ c, c < aMade A → 1 ≤ aVer A c ∧ aVer A c ≤ 1 + n ∧ aSh A c = aCnt A c) ∧
  (∀ c h t, c < aMade A → aLs A c = some (h, t) → h < nS A ∧ t ≤ 20 + 50 * n) ∧
  (∀ c s q, aCp A c s = some q → c < aMade A ∧ s < nS A ∧ okC (aSize A) (aVer A c) q)
/-- there is a house -/
def AF (A : AH) : Prop := 2 ≤ nS A ∧ 1 ≤ A.1 1 ∧ 4 ≤ aSize A ∧ 1 ≤ A.1 3
/-- a lease, a copy, as the class holds it -/
def lsC (o : Option (Nat × Nat)) (h t : Int32) : Prop := match o with
  | none => h = -1
  | some q => h = nI q.1 ∧ t = nI q.2
def cpC (o : Option CPY) (ver fil : Int32) (ce : Nat → Int32) : Prop := match o with
  | none => ver = -1
  | some q => ver = nI q.1 ∧ fil = nI q.2.1 ∧ ∀ i, i < 9 → ce i = cv (q.2.2 i)
def RSV (A : AH) (x : SV) : Prop := x.1 = nI (nS A) ∧ ∀ s, s < 5 → (s < nS A → x.2.2.1 s = nI (aRoom A s)) ∧ x.2.2.2 s = nI (aSpo A s) ∧ x.2.1 = nI (mN (fun s => aUp A s == 1) 5)
def RCK (A : AH) (x : CK) : Prop := x.1 = nI (aMade A) ∧ ∀ c, c < aMade A → x.2.1 c = nI (aVer A c) ∧ x.2.2.1 c = nI (aSh A c) ∧ lsC (aLs A c) (x.2.2.2.1 c) (x.2.2.2.2 c)
def RCP (A : AH) (x : CP) : Prop := ∀ c s, c < 30 → s < 5 → cpC (aCp A c s) (x.1 (5 * c + s)) (x.2.1 (5 * c + s)) (fun i => x.2.2 ((5 * c + s) * 9 + i))
def RFL (A : AH) (x : FL) : Prop := ∀ f, f < 6 → x.1 f = nI (aIs A f) ∧ (aIs A f ≠ 0 → x.2.1 f = nI (aKind A f)) ∧ (aIs A f = 2 → x.2.2.1 f = nI (aSince A f)) ∧ x.2.2.2.1 f = nI (aMany A f) ∧ ∀ k, k < 4 → k < aMany A f → x.2.2.2.2 (4 * f + k) = nI (aCh A f k)
/-- the class holds the house -/
def RC (A : AH) (v : HS) : Prop :=
  (v.1 = nI (A.1 1) ∧ v.2.1 = nI (aSize A) ∧ v.2.2.1 = nI (A.1 3) ∧ v.2.2.2.1 = nI (A.1 4) ∧ v.2.2.2.2.1 = nI (aNow A)) ∧
  RSV A v.2.2.2.2.2.1 ∧ RCK A v.2.2.2.2.2.2.1 ∧ RCP A v.2.2.2.2.2.2.2.1 ∧ RFL A v.2.2.2.2.2.2.2.2
/-- a lease, a copy, as the model holds it -/
def lsM (o : Option (Nat × Nat)) (h t : Int64) : Prop := match o with
  | none => h = -1
  | some q => h = lN q.1 ∧ t = lN q.2
def cpM (o : Option CPY) : Int64 := match o with
  | none => 0
  | some q => lN (pk q)
/-- the model holds the house: a row of 340 -/
def RM (A : AH) (b : Nat → Int64) : Prop :=
  (∀ k, k < 7 → b k = lN (A.1 k)) ∧
  (∀ s, s < 5 → b (7 + 3 * s) = lN (aUp A s) ∧ (s < nS A → b (7 + 3 * s + 1) = lN (aRoom A s)) ∧ b (7 + 3 * s + 2) = lN (aSpo A s)) ∧
  (∀ f, f < 6 → b (22 + 8 * f) = lN (aIs A f) ∧ (aIs A f ≠ 0 → b (22 + 8 * f + 1) = lN (aKind A f)) ∧ b (22 + 8 * f + 2) = lN (aMany A f) ∧ (aIs A f = 2 → b (22 + 8 * f + 3) = lN (aSince A f)) ∧ ∀ k, k < 4 → k < aMany A f → b (22 + 8 * f + 4 + k) = lN (aCh A f k)) ∧
  (∀ c, c < aMade A → b (70 + 4 * c) = lN (aVer A c) ∧ b (70 + 4 * c + 1) = lN (aSh A c) ∧ lsM (aLs A c) (b (70 + 4 * c + 2)) (b (70 + 4 * c + 3))) ∧
  (∀ c s, c < aMade A → s < 5 → b (190 + 5 * c + s) = cpM (aCp A c s))
