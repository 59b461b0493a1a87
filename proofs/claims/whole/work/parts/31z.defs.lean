/-! DEFINITIONS that the relation uses: bits, rows of heads, what is told, what the caches hold. -/
def dg8 (n c i : Nat) : Nat := c / 8 ^ (n - 1 - i) % 8
def bI (t : Int32) (x : Nat) : Bool := t.toBitVec.getLsbD x
def sSet (n w s : Nat) : Nat → Nat
  | 0 => 0
  | h + 1 => if s / 2 ^ h % 2 = 1 then sSet n w s h + dg8 n w h else sSet n w s h
def bad (n w st lo hi : Nat) : Bool := decide (sSet n w st n < lo) || decide (hi < sSet n w st n)
def lcR (c b : Nat → Bool) : Nat → Nat
  | 0 => 0
  | j + 1 => if (c j && b j) = true then lcR c b j + 1 else lcR c b j
def lcW (n r : Nat) (st lo hi : Nat → Nat) (c : Nat → Bool) (w : Nat) : Nat := lcR c (fun j => bad n w (st j) (lo j) (hi j)) r
def cN (P : Nat → Bool) : Nat → Nat
  | 0 => 0
  | w + 1 => if P w = true then cN P w + 1 else cN P w
def tru (n r : Nat) (st lo hi : Nat → Nat) (c : Nat → Bool) (w : Nat) : Bool := decide (lcW n r st lo hi c w = 0)
def truH (n : Nat) (P : Nat → Bool) (h v w : Nat) : Bool := P w && decide (dg8 n w h = v)
def lwS (c : Nat → Bool) (st lo : Nat → Nat) : Nat → Nat → Nat
  | 0, _ => 0
  | j + 1, s => if c j = true ∧ st j = s then max (lwS c st lo j s) (lo j) else lwS c st lo j s
def hgS (c : Nat → Bool) (st hi : Nat → Nat) : Nat → Nat → Nat
  | 0, _ => 35
  | j + 1, s => if c j = true ∧ st j = s then min (hi j) (hgS c st hi j s) else hgS c st hi j s
def tdS (c : Nat → Bool) (st : Nat → Nat) : Nat → Nat → Bool
  | 0, _ => false
  | j + 1, s => tdS c st j s || (c j && decide (st j = s))
def lsO (td : Nat → Bool) (h k : Nat) (a0 : Nat) (C : mT) : Prop := C.1 (a0 + 8) h = nI (cN (fun x => td (x + 2 ^ h)) k) ∧ ∀ x, x < k → td (x + 2 ^ h) = true → C.1 (a0 + 3 + h) (cN (fun x => td (x + 2 ^ h)) x) = nI x
def ffN (td : Nat → Bool) : Nat → Nat
  | 0 => 0
  | h + 1 => if cN (fun x => td (x + 2 ^ h)) (2 ^ h) = 0 then ffN td h else h + 1
def ctx (n r : Nat) (st lo hi : Nat → Nat) (c : Nat → Bool) (C : mT) : Prop := C.1 120 12 = nI (ffN (tdS c st r) n) ∧ C.1 120 13 = nI (8 ^ (n - ffN (tdS c st r) n)) ∧ (∀ s, s < 32 → C.1 127 s = nI (lwS c st lo r s) ∧ C.1 128 s = nI (hgS c st hi r s)) ∧ ∀ h, h < n → lsO (tdS c st r) h (2 ^ h) 129 C
/-- the reports of the class, as natural numbers -/
def rsS (S : mT) (j : Nat) : Nat := mIx (S.1 115 j)
def rlS (S : mT) (j : Nat) : Nat := mIx (S.1 116 j)
def rhS (S : mT) (j : Nat) : Nat := mIx (S.1 117 j)
/-- the rows that the cache of truths counts; the reports that are not so by a row, for the cache of liars -/
def tP (n : Nat) (S : mT) : Nat → Bool := tru n 30 (rsS S) (rlS S) (rhS S) (bI (S.1 120 10))
def lW (n : Nat) (S : mT) : Nat → Nat := lcW n 30 (rsS S) (rlS S) (rhS S) (bI (S.1 140 7))
/-- a set of houses tells the rows apart -/
def apt (n : Nat) (P : Nat → Bool) (s : Nat) : Prop := ∀ w w', w < 8 ^ n → w' < 8 ^ n → P w = true → P w' = true → (∀ h, h < n → s / 2 ^ h % 2 = 1 → dg8 n w h = dg8 n w' h) → w = w'
/-- how many bits below k -/
def pcN (s : Nat) : Nat → Nat
  | 0 => 0
  | k + 1 => pcN s k + s / 2 ^ k % 2
def isTell (n : Nat) (P : Nat → Bool) (T : Nat) : Prop := T < 2 ^ n ∧ apt n P T ∧ ∀ s, s < 2 ^ n → apt n P s → pcN T 5 < pcN s 5 ∨ (pcN T 5 = pcN s 5 ∧ T ≤ s)
/-- the first of the rows with the fewest -/
def isFew (n : Nat) (f : Nat → Nat) (w : Nat) : Prop := w < 8 ^ n ∧ (∀ x, x < w → f w < f x) ∧ ∀ x, x < 8 ^ n → f w ≤ f x
def tVal (n : Nat) (S : mT) : Prop := (∀ j, j < 32 → bI (S.1 120 10) j = true → nI j < S.1 114 5) ∧ S.1 120 9 = nI n ∧ S.1 120 8 = nI (cN (tP n S) (8 ^ n)) ∧ (∀ h v, h < n → v < 8 → S.1 (122 + h) v = nI (cN (truH n (tP n S) h v) (8 ^ n))) ∧ ctx n 30 (rsS S) (rlS S) (rhS S) (bI (S.1 120 10)) S ∧ (S.1 120 11 = -1 ∨ ∃ T, S.1 120 11 = nI T ∧ isTell n (tP n S) T)
def lVal (n : Nat) (S : mT) : Prop := (∀ j, j < 32 → bI (S.1 140 7) j = true → nI j < S.1 114 5) ∧ S.1 140 6 = nI n ∧ ∃ w, isFew n (lW n S) w ∧ S.1 140 5 = nI (lW n S w) ∧ ∀ h, h < n → S.1 185 h = nI (dg8 n w h)
