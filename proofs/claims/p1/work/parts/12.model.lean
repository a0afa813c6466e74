/-! ===== the realm's numbers ===== -/
abbrev nMen (R : RR) : Nat := (rMen R).toNat
theorem GR.nM {R : RR} (h : GR R) : ((nMen R : Nat) : Int) = rMen R ∧ nMen R ≤ 8 := by
  have := h.men
  show (((rMen R).toNat : Nat) : Int) = rMen R ∧ (rMen R).toNat ≤ 8
  omega
abbrev isF (R : RR) (w : Int) : Nat → Bool := fun k => decide (rFa R k = w)
def beF (k f w : Int) : Int := if k = 1 then 3 + f / 2 - 1 else if k = 2 then 3 + f / 2 + f else if k = 3 then (3 + f / 2 - 1) / 2 else if k = 4 then 3 + f / 2 + f + 2 else if k = 5 then (if 10 ≤ w then (3 + f / 2 + f + 2) / 2 else 3 + f / 2 + f + 2) else 3 + f / 2
def laF (k f : Int) : Int := if k = 1 then 15 else if k = 2 then f + 12 else if k = 3 then 5 else if k = 4 then f + 12 else if k = 5 then 2 * (f + 12) else 12
def weF (k s : Int) (fe : Bool) : Int := if k = 1 then s else if k = 2 then (s + 1) / 2 else if k = 3 then s + 2 else if k = 4 then (if fe = true then 0 else (s + 1) / 2) else if k = 5 then 1 else s + 1
def bears (R : RR) (m : Nat) : Int := beF (rKi R m) (rFi R m) (rWo R m)
def lasts (R : RR) (m : Nat) : Int := laF (rKi R m) (rFi R m)
def slH (R : RR) : Int := if rKing R < 12 then rSl R (rKing R).toNat else 0
def needed (R : RR) : Int := rLoad R + slH R + rSnow R
theorem bears_rng {R : RR} (h : GR R) (k : Nat) : 1 ≤ bears R k ∧ bears R k ≤ 18 := by
  have h1 := h.ki k
  have h2 := h.fi k
  simp only [bears, beF]
  repeat' split
  all_goals omega
theorem lasts_rng {R : RR} (h : GR R) (k : Nat) : 5 ≤ lasts R k ∧ lasts R k ≤ 42 := by
  have h1 := h.ki k
  have h2 := h.fi k
  simp only [lasts, laF]
  repeat' split
  all_goals omega
theorem slH_rng {R : RR} (h : GR R) : 0 ≤ slH R ∧ slH R ≤ 9 := by
  simp only [slH]
  split
  · exact h.sl _
  · omega
theorem needed_rng {R : RR} (h : GR R) : 1 ≤ needed R ∧ needed R ≤ 78 := by
  have h1 := slH_rng h
  have h2 := h.load
  have h3 := h.snow
  simp only [needed]
  omega
/-- a feudist or a silent one among these -/
def feud (R : RR) (b : Nat) : Nat → Bool
  | 0 => false
  | n + 1 => feud R b n || (b.testBit n && (decide (rKi R n = 4) || decide (rKi R n = 5)))
theorem feud_mono {R : RR} {b i j : Nat} (h : feud R b i = true) (hij : i ≤ j) : feud R b j = true := by
  induction j with
  | zero => rw [show i = 0 by omega] at h; exact h
  | succ j ih =>
    rcases Nat.lt_or_ge i (j + 1) with q | q
    · simp [feud, ih (by omega)]
    · rw [show j + 1 = i by omega]; exact h
def wears (R : RR) (b m : Nat) : Int := weF (rKi R m) (slH R) (feud R (anb b (2 ^ m)) 8)
theorem wears_rng {R : RR} (h : GR R) (b k : Nat) : 0 ≤ wears R b k ∧ wears R b k ≤ 11 := by
  have h1 := slH_rng h
  simp only [wears, weF]
  repeat' split
  all_goals omega
def stN (R : RR) (b : Nat) : Nat → Int
  | 0 => 0
  | n + 1 => if b.testBit n = true then stN R b n + bears R n else stN R b n
theorem stN_rng {R : RR} (h : GR R) (b n : Nat) : 0 ≤ stN R b n ∧ stN R b n ≤ 18 * n := by
  induction n with
  | zero => simp [stN]
  | succ n ih =>
    have := bears_rng h n
    simp only [stN]
    split <;> omega
def sbN (R : RR) (b : Nat) : Nat → Int
  | 0 => -9
  | n + 1 => if rFa R n = 1 ∧ b.testBit n = false ∧ (sbN R b n < 0 ∨ bears R (sbN R b n).toNat < bears R n) then (n : Int) else sbN R b n
theorem sbN_rng (R : RR) (b n : Nat) : sbN R b n = -9 ∨ (0 ≤ sbN R b n ∧ sbN R b n < n) := by
  induction n with
  | zero => left; rfl
  | succ n ih =>
    simp only [sbN]
    split
    · right; omega
    · rcases ih with q | q
      · left; exact q
      · right; omega
abbrev sbst (R : RR) (b : Nat) : Int := sbN R b (nMen R)
def brs (R : RR) : Nat → Nat × Int
  | 0 => (0, 0)
  | n + 1 => if (brs R n).2 < needed R ∧ 0 ≤ sbst R (brs R n).1 then ((brs R n).1 ||| 2 ^ (sbst R (brs R n).1).toNat, (brs R n).2 + bears R (sbst R (brs R n).1).toNat) else brs R n
def brF (R : RR) : Nat := if (brs R 8).2 < needed R then 0 else (brs R 8).1
theorem brs_stable {R : RR} {i : Nat} (h : ¬ ((brs R i).2 < needed R ∧ 0 ≤ sbst R (brs R i).1)) (j : Nat) : brs R (i + j) = brs R i := by
  induction j with
  | zero => rfl
  | succ j ih =>
    rw [← Nat.add_assoc]
    simp only [brs]
    rw [ih, if_neg h]
theorem brs_256 {R : RR} (hG : GR R) (i : Nat) : (brs R i).1 < 256 := by
  induction i with
  | zero => simp [brs]
  | succ i ih =>
    simp only [brs]
    split
    · refine or_256 ih ?_
      have : sbst R (brs R i).1 = -9 ∨ (0 ≤ sbst R (brs R i).1 ∧ sbst R (brs R i).1 < nMen R) := sbN_rng R (brs R i).1 (nMen R)
      have := hG.nM
      omega
    · exact ih
theorem brs_rng {R : RR} (hG : GR R) (i : Nat) : 0 ≤ (brs R i).2 ∧ (brs R i).2 ≤ 18 * i := by
  induction i with
  | zero => simp [brs]
  | succ i ih =>
    simp only [brs]
    split
    · have := bears_rng hG (sbst R (brs R i).1).toNat
      omega
    · omega
theorem brF_256 {R : RR} (hG : GR R) : brF R < 256 := by
  simp only [brF]
  split
  · omega
  · exact brs_256 hG 8
def wearN (R : RR) (b i : Nat) : RR := sWo R (fun k => if k < i ∧ b.testBit k = true then min 99 (rWo R k + wears R b k) else rWo R k)
def buryN (R : RR) (i : Nat) : RR := sFa R (fun k => if k < i ∧ lasts R k ≤ rWo R k then 2 else rFa R k)
def movedX (R : RR) : RR := if brF R = 0 then R else buryN (sKing (wearN R (brF R) 8) (rKing R + 1)) (nMen R)
def coldX (R : RR) : RR := sSnow R (max 0 (rSnow R - 1))
def dayX (R : RR) : RR := if rKing R = 12 then sDay R (rDay R + 1) else coldX (movedX (sDay R (rDay R + 1)))
def waitX (R : RR) : Bool := decide (rKing R ≠ 12) && decide (brF (sDay R (rDay R + 1)) = 0)
def daysX (R : RR) : Nat → RR
  | 0 => R
  | n + 1 => dayX (daysX R n)
def wtX (R : RR) : Nat → Int
  | 0 => 0
  | n + 1 => if waitX (daysX R n) = true then wtX R n + 1 else wtX R n
theorem GR.day {R : RR} (h : GR R) (d : Int) : GR (sDay R d) := h
theorem GR.wear {R : RR} (h : GR R) (b i : Nat) : GR (wearN R b i) := by
  obtain ⟨h1, h2, h3, h4, h5, h6, h7, h8, h9⟩ := id h
  refine ⟨h1, h2, h3, h4, h5, h6, h7, h8, fun k => ?_⟩
  have := h9 k
  have := wears_rng h b k
  simp only [wearN, rWo_m]
  split <;> omega
theorem GR.bury {R : RR} (h : GR R) (i : Nat) : GR (buryN R i) := by
  obtain ⟨h1, h2, h3, h4, h5, h6, h7, h8, h9⟩ := id h
  refine ⟨h1, h2, h3, h4, h5, h6, h7, fun k => ?_, h9⟩
  have := h8 k
  simp only [buryN, rFa_m]
  split <;> omega
theorem GR.setKing {R : RR} (h : GR R) {x : Int} (hx : 0 ≤ x ∧ x ≤ 12) : GR (sKing R x) := by
  obtain ⟨h1, h2, h3, h4, h5, h6, h7, h8, h9⟩ := id h
  exact ⟨h1, hx, h3, h4, h5, h6, h7, h8, h9⟩
theorem GR.setSnow {R : RR} (h : GR R) {x : Int} (hx : 0 ≤ x ∧ x ≤ 9) : GR (sSnow R x) := by
  obtain ⟨h1, h2, h3, h4, h5, h6, h7, h8, h9⟩ := id h
  exact ⟨h1, h2, h3, hx, h5, h6, h7, h8, h9⟩
theorem GR.setLoad {R : RR} (h : GR R) {x : Int} (hx : 1 ≤ x ∧ x ≤ 60) : GR (sLoad R x) := by
  obtain ⟨h1, h2, h3, h4, h5, h6, h7, h8, h9⟩ := id h
  exact ⟨h1, h2, hx, h4, h5, h6, h7, h8, h9⟩
theorem upI_rng {f : Nat → Int} {a b x : Int} (hf : ∀ k, a ≤ f k ∧ f k ≤ b) (hx : a ≤ x ∧ x ≤ b) (i : Nat) : ∀ k, a ≤ upI f i x k ∧ upI f i x k ≤ b := by
  intro k
  simp only [upI]
  split
  · exact hx
  · exact hf k
theorem GR.setFa {R : RR} (h : GR R) {x : Int} (i : Nat) (hx : 0 ≤ x ∧ x ≤ 2) : GR (sFa R (upI (rFa R) i x)) := by
  obtain ⟨h1, h2, h3, h4, h5, h6, h7, h8, h9⟩ := id h
  exact ⟨h1, h2, h3, h4, h5, h6, h7, upI_rng h8 hx i, h9⟩
theorem GR.setKi {R : RR} (h : GR R) {x : Int} (i : Nat) (hx : 0 ≤ x ∧ x ≤ 5) : GR (sKi R (upI (rKi R) i x)) := by
  obtain ⟨h1, h2, h3, h4, h5, h6, h7, h8, h9⟩ := id h
  exact ⟨h1, h2, h3, h4, h5, upI_rng h6 hx i, h7, h8, h9⟩
theorem GR.setFi {R : RR} (h : GR R) {x : Int} (i : Nat) (hx : 0 ≤ x ∧ x ≤ 9) : GR (sFi R (upI (rFi R) i x)) := by
  obtain ⟨h1, h2, h3, h4, h5, h6, h7, h8, h9⟩ := id h
  exact ⟨h1, h2, h3, h4, h5, h6, upI_rng h7 hx i, h8, h9⟩
theorem GR.setSl {R : RR} (h : GR R) {x : Int} (i : Nat) (hx : 0 ≤ x ∧ x ≤ 9) : GR (sSl R (upI (rSl R) i x)) := by
  obtain ⟨h1, h2, h3, h4, h5, h6, h7, h8, h9⟩ := id h
  exact ⟨h1, h2, h3, h4, upI_rng h5 hx i, h6, h7, h8, h9⟩
theorem GR.add {R : RR} (h : GR R) (hm : rMen R < 8) {k f : Int} (hk : 0 ≤ k ∧ k ≤ 5) (hf : 0 ≤ f ∧ f ≤ 9) : GR (addR R k f) := by
  obtain ⟨h1, h2, h3, h4, h5, h6, h7, h8, h9⟩ := id h
  exact ⟨⟨show 0 ≤ rMen R + 1 by omega, show rMen R + 1 ≤ 8 by omega⟩, h2, h3, h4, h5, upI_rng h6 hk _, upI_rng h7 hf _, upI_rng h8 (by omega) _, upI_rng h9 (by omega) _⟩
theorem GR.cold {R : RR} (h : GR R) : GR (coldX R) := by
  have hs := h.snow
  exact GR.setSnow h (by omega)
theorem GR.moved {R : RR} (h : GR R) (hk : rKing R ≠ 12) : GR (movedX R) := by
  have h1 := h.king
  simp only [movedX]
  split
  · exact h
  · exact GR.bury (GR.setKing (GR.wear h _ _) (by omega)) _
theorem GR.dX {R : RR} (h : GR R) : GR (dayX R) := by
  simp only [dayX]
  split
  · exact h
  · rename_i c
    exact GR.cold (GR.moved (R := sDay R (rDay R + 1)) h c)
theorem GR.dsX {R : RR} (h : GR R) (n : Nat) : GR (daysX R n) := by
  induction n with
  | zero => exact h
  | succ n ih => exact ih.dX
theorem wtX_rng (R : RR) (n : Nat) : 0 ≤ wtX R n ∧ wtX R n ≤ n := by
  induction n with
  | zero => simp [wtX]
  | succ n ih =>
    simp only [wtX]
    split <;> omega
/-- from k on, n of them together -/
def slAn (f : Nat → Int) : Nat → Nat → Int
  | _, 0 => 0
  | k, n + 1 => f k + slAn f (k + 1) n
def stp (R : RR) : Nat → Nat
  | 0 => 0
  | n + 1 => if rSl R (stp R n) < rSl R n then n else stp R n
def ftsN (R : RR) (t : Int) : Nat → Nat → Int
  | _, 0 => -9
  | k, n + 1 => if t < rLoad R + rSl R k then (k : Int) else ftsN R t (k + 1) n
def owN (R : RR) (v : Int) (b : Nat) : Nat → Nat → Int
  | _, 0 => -9
  | k, n + 1 => if b.testBit k = true ∧ bears R k = v then (k : Int) else owN R v b (k + 1) n
def twsN (R : RR) : Nat → Nat × Int
  | 0 => (0, 0)
  | n + 1 => if rFa R n = 1 then (if owN R (bears R n) (twsN R n).1 0 8 < 0 then ((twsN R n).1 ||| 2 ^ n, (twsN R n).2) else (anb (twsN R n).1 (2 ^ (owN R (bears R n) (twsN R n).1 0 8).toNat), (twsN R n).2 + 1)) else twsN R n
def cntN (p : Nat → Bool) : Nat → Int
  | 0 => 0
  | n + 1 => if p n = true then cntN p n + 1 else cntN p n
theorem cntN_rng (p : Nat → Bool) (n : Nat) : 0 ≤ cntN p n ∧ cntN p n ≤ n := by
  induction n with
  | zero => simp [cntN]
  | succ n ih =>
    simp only [cntN]
    split <;> omega
theorem beF_0 (f w : Int) : beF 0 f w = 3 + f / 2 := by simp [beF]
theorem beF_1 (f w : Int) : beF 1 f w = 3 + f / 2 - 1 := by simp [beF]
theorem beF_2 (f w : Int) : beF 2 f w = 3 + f / 2 + f := by simp [beF]
theorem beF_3 (f w : Int) : beF 3 f w = (3 + f / 2 - 1) / 2 := by simp [beF]
theorem beF_4 (f w : Int) : beF 4 f w = 3 + f / 2 + f + 2 := by simp [beF]
theorem beF_5 (f w : Int) : beF 5 f w = if 10 ≤ w then (3 + f / 2 + f + 2) / 2 else 3 + f / 2 + f + 2 := by simp [beF]
theorem weF_0 (s : Int) (b : Bool) : weF 0 s b = s + 1 := by simp [weF]
theorem weF_1 (s : Int) (b : Bool) : weF 1 s b = s := by simp [weF]
theorem weF_2 (s : Int) (b : Bool) : weF 2 s b = (s + 1) / 2 := by simp [weF]
theorem weF_3 (s : Int) (b : Bool) : weF 3 s b = s + 2 := by simp [weF]
theorem weF_4 (s : Int) (b : Bool) : weF 4 s b = if b = true then 0 else (s + 1) / 2 := by simp [weF]
theorem weF_5 (s : Int) (b : Bool) : weF 5 s b = 1 := by simp [weF]
theorem laF_0 (f : Int) : laF 0 f = 12 := by simp [laF]
theorem laF_1 (f : Int) : laF 1 f = 15 := by simp [laF]
theorem laF_2 (f : Int) : laF 2 f = f + 12 := by simp [laF]
theorem laF_3 (f : Int) : laF 3 f = 5 := by simp [laF]
theorem laF_4 (f : Int) : laF 4 f = f + 12 := by simp [laF]
theorem laF_5 (f : Int) : laF 5 f = 2 * (f + 12) := by simp [laF]
