/-! THE RELATION between the class's cells and the reference's. -/
/-- a byte, as the class keeps it -/
def byI (c : Nat) : Int32 := if c < 128 then nI c else nI c - nI 256
def rTape (S : mT) : Prop := ∃ t : Nat, t ≤ 1600 ∧ S.1 1 1 = nI t ∧ S.1 187 1 = nI t ∧ ∀ k, k < t → ∃ c, c < 256 ∧ S.1 188 k = nI c ∧ S.1 2 k = byI c
def rFault (S : mT) : Prop := ∃ f : Nat, f ≤ 4 ∧ S.1 1 2 = nI f ∧ S.1 187 2 = nI f ∧ S.1 187 3 = if f = 0 then -1 else S.1 1 3
def rSheet (u n : Nat) (S : mT) : Prop := n ≤ 5 ∧ S.1 u 9 = nI n ∧ S.1 187 37 = nI n ∧ ∀ h, h < n → ∃ p j q, p ≤ 60 ∧ j ≤ 9 ∧ q ≤ 9 ∧ S.1 (u + 2) h = nI p ∧ S.1 205 h = nI p ∧ S.1 (u + 4) h = nI j ∧ S.1 206 h = nI j ∧ S.1 (u + 5) h = nI q ∧ S.1 207 h = nI q
/-- what one piece of a law's code is: the class's number, the reference's two -/
def pcOk (c s a : Int32) : Prop := (s = 0 ∧ ∃ x, x < 10000 ∧ a = nI x ∧ c = nI x) ∨ (s = 1 ∧ ∃ x, x < 6 ∧ a = nI x ∧ c = nI (10000 + x)) ∨ (s = 2 ∧ c = nI 20033) ∨ (s = 3 ∧ ∃ x, (x = 43 ∨ x = 45 ∨ x = 42 ∨ x = 47 ∨ x = 37 ∨ x = 60 ∨ x = 62 ∨ x = 61 ∨ x = 38 ∨ x = 124) ∧ a = nI x ∧ c = nI (20000 + x))
/-- how many values lie there behind i pieces -/
def dpt (s : Nat → Int32) : Nat → Nat
  | 0 => 0
  | i + 1 => if s i = 0 ∨ s i = 1 then dpt s i + 1 else if s i = 2 then dpt s i else dpt s i - 1
def wfp (s : Nat → Int32) (len : Nat) : Prop := (∀ i, i < len → (s i = 0 ∨ s i = 1 → dpt s i < 30) ∧ (s i = 2 → 1 ≤ dpt s i) ∧ (s i = 3 → 2 ≤ dpt s i)) ∧ dpt s len = 1
def rForm (u f : Nat) (S : mT) : Prop := (S.1 (u + 6 + 3 * f) 4 = 0 ∧ S.1 199 f = 0) ∨ (S.1 (u + 6 + 3 * f) 4 = 1 ∧ S.1 199 f = 1 ∧ ∃ len, len ≤ 280 ∧ S.1 (u + 6 + 3 * f) 2 = nI len ∧ S.1 195 f = nI len ∧ wfp (fun i => S.1 193 (320 * f + i)) len ∧ ∀ i, i < len → pcOk (S.1 (u + 7 + 3 * f) i) (S.1 193 (320 * f + i)) (S.1 194 (320 * f + i)))
def rUnits (u : Nat) (S : mT) : Prop := ∃ a b c : Nat, a ≤ 30 ∧ b ≤ 30 ∧ c ≤ 30 ∧ S.1 (u + 6) 3 = nI a ∧ S.1 (u + 9) 3 = nI b ∧ S.1 (u + 12) 3 = nI c ∧ S.1 187 24 = nI (a + b + c)
/-- a row of numbers as it may be -/
def okRow (f : Nat → Int32) : Prop := (∀ h, h < 5 → ∃ x y z, x ≤ 7 ∧ y ≤ x ∧ z ≤ 99 ∧ f h = nI x ∧ f (5 + h) = nI y ∧ f (10 + h) = nI z) ∧ ∃ y s, y ≤ 999 ∧ s ≤ 999 ∧ f 15 = nI y ∧ f 16 = nI s
def rNow (S : mT) : Prop := okRow (S.1 35) ∧ ∀ k, k < 17 → S.1 208 k = S.1 35 k
def rHist (S : mT) : Prop := ∃ o bh ah : Nat, o ≤ 40 ∧ bh + ah ≤ 40 ∧ S.1 37 3 = nI o ∧ S.1 37 4 = nI bh ∧ S.1 37 5 = nI ah ∧ S.1 187 46 = nI bh ∧ S.1 187 47 = nI ah ∧
  (∀ j, j ≤ bh + ah → okRow (S.1 (39 + (o + j) % 41))) ∧ (∀ k, k < 17 → S.1 (39 + (o + bh) % 41) k = S.1 35 k) ∧
  (∀ j, j < bh → ∀ k, k < 17 → S.1 (39 + (o + j) % 41) k = S.1 212 (18 * j + k)) ∧ (∀ j, bh ≤ j → j < bh + ah → ∀ k, k < 17 → S.1 (39 + (o + j + 1) % 41) k = S.1 212 (18 * j + k))
def rBox (S : mT) : Prop := ∀ x, x < 3 → (S.1 84 x = 0 ∧ S.1 231 x = 0) ∨ (S.1 84 x = 1 ∧ S.1 231 x = 1 ∧ okRow (S.1 (81 + x)) ∧ ∀ k, k < 17 → S.1 232 (18 * x + k) = S.1 (81 + x) k)
def rRep (n : Nat) (S : mT) : Prop := ∃ r : Nat, r ≤ 30 ∧ S.1 114 5 = nI r ∧ S.1 187 66 = nI r ∧ ∀ j, j < r → ∃ st lo hi t, 1 ≤ st ∧ st < 2 ^ n ∧ lo ≤ hi ∧ hi ≤ 35 ∧ t ≤ 100000 ∧ S.1 115 j = nI st ∧ S.1 224 j = nI st ∧ S.1 116 j = nI lo ∧ S.1 225 j = nI lo ∧ S.1 117 j = nI hi ∧ S.1 226 j = nI hi ∧ S.1 118 j = nI t ∧ S.1 227 j = nI t ∧ S.1 228 j = S.1 119 j ∧ (S.1 119 j = -1 ∨ ∃ v, v ≤ 100000 ∧ S.1 119 j = nI v)
def rTime (S : mT) : Prop := ∃ t : Nat, t ≤ 100000 ∧ S.1 0 14 = nI t ∧ S.1 187 67 = nI t
def rLie (S : mT) : Prop := ∃ c : Nat, c ≤ 8 ∧ S.1 0 13 = nI c ∧ S.1 187 51 = nI c ∧ ∀ i, i < c → S.1 186 i = S.1 215 i
/-! what caches hold: see the parts on truths and liars -/
def rTru (k n : Nat) (S : mT) : Prop := (S.1 120 14 = 0 ∨ S.1 120 14 = 1) ∧ (∃ st, st ≤ 40 * k ∧ S.1 120 7 = nI st ∧ ∀ i, i < 4096 → ∃ x, x ≤ st ∧ S.1 139 i = nI x) ∧ S.1 130 0 = nI 0 ∧ (S.1 120 14 = 1 → tVal n S)
def rLia (n : Nat) (S : mT) : Prop := (S.1 140 8 = 0 ∨ S.1 140 8 = 1) ∧ S.1 175 0 = nI 0 ∧ (S.1 140 8 = 1 → lVal n S)
def Rel (k : Nat) (b : Bool) (S : mT) : Prop := ∃ n, rSheet (shU b) n S ∧ rTape S ∧ rFault S ∧ (rForm (shU b) 0 S ∧ rForm (shU b) 1 S ∧ rForm (shU b) 2 S) ∧ rUnits (shU b) S ∧ rNow S ∧ rHist S ∧ rBox S ∧ rRep n S ∧ rTime S ∧ rLie S ∧ rTru k n S ∧ rLia n S
