/-! ===== the answers, over 'n days on' (s) ===== -/
abbrev SQ : Type := RR → Nat → RR
def firstN (p : Nat → Bool) : Nat → Nat → Int
  | _, 0 => -9
  | k, n + 1 => if p k = true then (k : Int) else firstN p (k + 1) n
theorem firstN_rng (p : Nat → Bool) (k n : Nat) : firstN p k n = -9 ∨ ((k : Int) ≤ firstN p k n ∧ firstN p k n < k + n) := by
  induction n generalizing k with
  | zero => left; rfl
  | succ n ih =>
    simp only [firstN]
    split
    · right; omega
    · have := ih (k + 1)
      omega
def scan2 (f : Nat → Int) : Nat → Nat → Int
  | _, 0 => -9
  | k, n + 1 => if f k = -9 then scan2 f (k + 1) n else f k
def allN (p : Nat → Bool) : Nat → Bool
  | 0 => true
  | n + 1 => allN p n && p n
theorem allN_f {p : Nat → Bool} {i : Nat} (h : p i = false) : ∀ {n : Nat}, i < n → allN p n = false := by
  intro n
  induction n with
  | zero => intro q; omega
  | succ n ih =>
    intro q
    simp only [allN]
    by_cases e : i = n
    · subst e; simp [h]
    · rw [ih (by omega)]; rfl
def homeF (s : SQ) (R : RR) : Int := firstN (fun d => decide (rKing (s R d) = 12)) 0 61
def diesF (s : SQ) (R : RR) (m : Nat) : Int := firstN (fun d => decide (rFa (s R d) m = 2)) 0 61
def fdIn (s : SQ) (R : RR) (d : Nat) : Int := firstN (fun m => decide (m < nMen R ∧ rFa R m = 1 ∧ rFa (s R (d + 1)) m = 2)) 0 8
def fdF (s : SQ) (R : RR) : Int := scan2 (fdIn s R) 0 60
def mcN (s : SQ) (R : RR) (n : Nat) : Nat → Int × Int
  | 0 => (rKing (s R n), -9)
  | m + 1 => if (m < nMen R ∧ rFa R m = 0) ∧ (mcN s R n m).1 < rKing (s (sFa R (upI (rFa R) m 1)) n) then (rKing (s (sFa R (upI (rFa R) m 1)) n), (m : Int)) else mcN s R n m
def parR (R : RR) (b i : Nat) : RR := sFa R (fun k => if k < i ∧ k < nMen R ∧ b.testBit k = true then 1 else rFa R k)
def fewI (s : SQ) (R : RR) (n z : Nat) : Int := firstN (fun b => decide (anb b (mask (isF R 0) (nMen R)) = 0 ∧ pop8 b = z ∧ rKing (s (parR R b 8) n) = 12)) 0 256
def fewF (s : SQ) (R : RR) (n : Nat) : Int := scan2 (fewI s R n) 0 9
def crN (s : SQ) (R : RR) (n : Nat) : Nat → Int
  | 0 => -9
  | v + 1 => if rKing (s (sLoad R ((v + 1 : Nat) : Int)) n) = 12 then ((v + 1 : Nat) : Int) else crN s R n v
def dgN (s : SQ) (R : RR) (n : Nat) : Nat → Int × Int
  | 0 => (rKing (s R n), -9)
  | k + 1 => if (dgN s R n k).1 < rKing (s (sSl R (upI (rSl R) k 0)) n) then (rKing (s (sSl R (upI (rSl R) k 0)) n), (k : Int)) else dgN s R n k
def kpN (s : SQ) (R : RR) (n : Nat) : Nat → Int × Int
  | 0 => (-9, -9)
  | m + 1 => if (m < nMen R ∧ rFa R m = 1) ∧ (kpN s R n m).1 < rKing (s (sFa R (upI (rFa R) m 0)) n) then (rKing (s (sFa R (upI (rFa R) m 0)) n), (m : Int)) else kpN s R n m
def polI (R : RR) (z : Nat) : Int := firstN (fun b => decide (anb b (mask (isF R 1) (nMen R)) = 0 ∧ pop8 b = z ∧ needed R ≤ stN R b 8)) 0 256
def polF (R : RR) : Int := scan2 (polI R) 0 9
def goesB (s : SQ) (R : RR) (tn : Nat → Int) (n : Nat) : Bool := allN (fun d => decide (rKing (s R d) = tn d)) n
def boreP (s : SQ) (R : RR) (tn : Nat → Int) (n : Nat) : Nat → Bool := fun m => decide (m < nMen R ∧ rFa R m = 0) && goesB s (sFa R (upI (rFa R) m 1)) tn n
def twR (R : RR) (o t : Nat) (p : Nat) : RR := sFa R (upI (upI (rFa R) o ((p / 2 : Nat) : Int)) t ((p % 2 : Nat) : Int))
def twG (s : SQ) (R : RR) (o t n p : Nat) (w : Nat) : Int := (if rKing (s (twR R o t p) n) = 12 then 3 else 0) - rWo (s (twR R o t p) n) w / 4
def twP (s : SQ) (R : RR) (o t n : Nat) : Nat → Bool := fun p => decide (twG s R o t n (p ^^^ 2) o ≤ twG s R o t n p o ∧ twG s R o t n (p ^^^ 1) t ≤ twG s R o t n p t)
def twF (s : SQ) (R : RR) (o t n : Nat) : Int :=
  let p := firstN (twP s R o t n) 0 4
  if p = -9 then -9 else 10 * (p / 2) + p % 2
def lmN (w : Nat → Bool) : Nat → Int × Int
  | 0 => (0, 0)
  | d + 1 => let z := if w d = true then (lmN w d).2 + 1 else 0; (max (lmN w d).1 z, z)
