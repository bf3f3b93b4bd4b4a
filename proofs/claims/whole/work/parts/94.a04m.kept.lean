/-! ===== words that what is kept between calls is told with ===== -/
def Lsm (tt sh : Nat → Nat) (r : Nat) (i : Nat) : Nat := (if pT0 tt i = r then sh (pF0 tt i) * pL0 tt i / 100 else 0) + (if pB0 tt i = 1 ∧ pF0 tt i = r then sh (pT0 tt i) * pL0 tt i / 100 else 0)
def Lsum (tt sh : Nat → Nat) (r : Nat) : Nat := fb_sm (Lsm tt sh r) (tt 2)
def drk (tt L : Nat → Nat) (h : Nat) : Nat := orf (fun w => if (tt (256 + 5 * w + 3) ≤ h ∧ h ≤ tt (256 + 5 * w + 4)) ∧ ¬ (tt (256 + 5 * w + 1) ≤ L (tt (256 + 5 * w)) ∧ L (tt (256 + 5 * w)) ≤ tt (256 + 5 * w + 2)) then 2 ^ tt (256 + 5 * w) else 0) (tt 4)
/-- the wants of an hour -/
def wts (tt : Nat → Nat) (t : Nat) : Nat := orf (fun w => if tt (256 + 5 * w + 3) ≤ t ∧ t ≤ tt (256 + 5 * w + 4) then 2 ^ w else 0) (tt 4)
def mb (tt : Nat → Nat) : Nat := tt 3 + 1
def mbr (tt : Nat → Nat) (d : Nat) : Nat := if d = 0 then 0 else tt (248 + 2 * (d - 1))
def mol (tt : Nat → Nat) (d : Nat) : Nat := if d = 0 then 0 else tt (248 + 2 * (d - 1) + 1)
/-- of the first i rooms, told by p: oil, lamps, light, choices -/
def moi (tt : Nat → Nat) : Nat → Nat → Nat
  | 0, _ => 0
  | i + 1, p => moi tt i (p / mb tt) + mol tt (p % mb tt)
def mla (tt : Nat → Nat) : Nat → Nat → Nat
  | 0, _ => 0
  | i + 1, p => mla tt i (p / mb tt) + (if p % mb tt = 0 then 0 else 1)
def mdg (tt : Nat → Nat) : Nat → Nat → Nat → Nat
  | 0, _, _ => 0
  | i + 1, p, r => if r = i then p % mb tt else mdg tt i (p / mb tt) r
def mcv (tt : Nat → Nat) (i p : Nat) : Nat := 100 * moi tt i p + mla tt i p
def bsv (V : Nat → Bool) (v : Nat → Nat) : Nat → Option Nat
  | 0 => none
  | k + 1 => match bsv V v k with
    | none => if V k then some k else none
    | some b => if v k < v b ∧ V k = true then some k else some b
def mpw (tt : Nat → Nat) : Nat → Nat
  | 0 => 1
  | j + 1 => mpw tt j * mb tt
def mqV (tt : Nat → Nat) (t w : Nat) : Bool := decide (drk tt (Lsum tt (fun a => mbr tt (mdg tt (tt 1) w a))) t = 0)
/-- MIXED -/
def mq (tt : Nat → Nat) (t : Nat) : Option Nat := bsv (mqV tt t) (mcv tt (tt 1)) (mpw tt (tt 1))
/-- what is kept of the best so far -/
def Bk (tt : Nat → Nat) (n : Nat) (o : Option Nat) (k : Nat → Int32) (bo bl : Nat) : Prop := match o with
  | none => bo = 99999 ∧ bl = 0
  | some w => bo = moi tt n w ∧ bl = mla tt n w ∧ ∀ r, r < 8 → k r = kv (mdg tt n w r)
def adj (tt : Nat → Nat) (a b : Nat) : Bool := (nxt tt a ||| ltt tt a).testBit b
/-- from (L, r) in k steps to (all, s) -/
def Wn (tt : Nat → Nat) (s : Nat) : Nat → Nat → Nat → Prop
  | 0, L, r => L = 2 ^ tt 1 - 1 ∧ r = s
  | k + 1, L, r => ∃ o, adj tt r o = true ∧ Wn tt s k (L ||| ltt tt o) o
def Ld (tt : Nat → Nat) (s L r k : Nat) : Prop := Wn tt s k L r ∧ ∀ j, j < k → ¬ Wn tt s j L r
/-- the way that both answer: rooms and what is lit, step by step -/
def RP (tt : Nat → Nat) (s D : Nat) (rm Lm : Nat → Nat) : Prop := rm 0 = s ∧ Lm 0 = ltt tt s ∧ (∀ k, k ≤ D → rm k < tt 1 ∧ Ld tt s (Lm k) (rm k) (D - k)) ∧ ∀ k, k < D → adj tt (rm k) (rm (k + 1)) = true ∧ Lm (k + 1) = Lm k ||| ltt tt (rm (k + 1)) ∧ ∀ o, o < rm (k + 1) → adj tt (rm k) o = true → ¬ Ld tt s (Lm k ||| ltt tt o) o (D - (k + 1))
