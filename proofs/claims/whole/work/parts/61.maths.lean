/-! what both sides work out, as functions of the kept numbers and of what the law in force tells -/
abbrev TF : Type := Nat → Int32 → Int32 → Int32 → Int32 → Int32 → Int32 → Int32 → Option Int32
def t7 (T : TF) (g : Nat) (w : Nat → Int32) : Option Int32 := T g (w 0) (w 1) (w 2) (w 3) (w 4) (w 5) (w 6)
def tin (τ : Nat → TF) (K : Nat → Int32) : TF := if K 190 < 0 then fun _ _ _ _ _ _ _ _ => none else τ (ix (K 190))
def szI (v : Int32) : Int32 := if 0 ≤ v then v else -v
def clp (v a b : Int32) : Int32 := if v < a then a else if b < v then b else v
def gnF (K : Nat → Int32) (fall flow tb : Int32) : Int32 := Int64.toInt32 ((fall.toInt64 * (K 30).toInt64 - flow.toInt64 * (szI flow).toInt64 * (K 31 + K 37 * tb).toInt64 / 1000) / (K 32).toInt64)
def flA (K : Nat → Int32) (m wd gl : Int32) : Int32 := Lv K 0 m wd gl - Lv K 1 m wd gl
def gn (T : TF) (K : Nat → Int32) (wd gl tb m f : Int32) : Int32 := match T 0 (flA K m wd gl) f m wd gl 0 tb with
  | some x => clp x (-500) 500
  | none => gnF K (flA K m wd gl) f tb
/-- a day's flow, minute by minute -/
def fw (T : TF) (K : Nat → Int32) (W : Nat → Int32) (gl tb : Int32) : Nat → Int32
  | 0 => K 34
  | m + 1 => clp (fw T K W gl tb m + gn T K (W (m / 60)) gl tb (nI m) (fw T K W gl tb m)) (-2000) 2000
def td0 (T : TF) (K : Nat → Int32) : Nat → Int32 := fw T K (fun _ => K 39) (K 40) 0
def cal (T : TF) (K : Nat → Int32) : Nat → Int32 := fw T K (fun _ => 0) 1013 0
def drv (T : TF) (K : Nat → Int32) (n : Nat) : Nat → Int32 := fw T K (fun _ => K 39) (K 40) (nI n)
/-- flow and white by kind -/
def fa (K row : Nat → Int32) (k : Int32) (m : Nat) : Int32 := if k = 0 then 0 else if k = 2 then -(row (if m + ix (K 35) < 1440 then m + ix (K 35) else 1439)) / 2 else if k = 3 then row m / 4 else if k = 4 then row m * 5 / 4 else row m
def whP (K : Nat → Int32) (k f : Int32) : Int32 := clp (if k = 5 then -(f * K 39 / 1000) * 2 else if k = 2 ∨ k = 3 then -(f * K 39 / 1000) / 2 else -(f * K 39 / 1000)) 0 99
def wh (T : TF) (K row : Nat → Int32) (k : Int32) (m : Nat) : Int32 := if k = 0 then 0 else match T 1 (flA K (nI m) (K 39) (K 40)) (fa K row k m) (nI m) (K 39) (K 40) k 0 with
  | some x => clp x 0 99
  | none => whP K k (fa K row k m)
/-- what turbines take -/
def tkS (row : Nat → Int32) (n : Int32) : Nat → Int64
  | 0 => 0
  | m + 1 => tkS row n m + n.toInt64 * (szI (row m)).toInt64 * (szI (row m)).toInt64 * (szI (row m)).toInt64 / 1000000
def tk (T : TF) (K : Nat → Int32) (n : Nat) : Int64 := tkS (drv T K n) (nI n) 1440
def bsN (T : TF) (K : Nat → Int32) : Nat → Nat
  | 0 => 0
  | n + 1 => if tk T K (bsN T K n) < tk T K (n + 1) then n + 1 else bsN T K n
/-- ships: where one can begin; all orders, the best -/
def okB (row : Nat → Int32) (lim : Int32) (p m : Nat) : Bool := decide (m + p ≤ 1440) && (List.range p).all fun j => decide (szI (row (m + j)) ≤ lim)
def bgF (row : Nat → Int32) (lim : Int32) (p : Nat) : Nat → Nat → Option Nat
  | 0, _ => none
  | r + 1, m => if okB row lim p m then some m else bgF row lim p r (m + 1)
def bgA (row K : Nat → Int32) (s from_ : Nat) : Option Nat := bgF row (K (105 + 3 * s)) (ix (K (104 + 3 * s))) (1440 - from_) from_
def cand (row K : Nat → Int32) (n : Nat) : Nat → List Nat → Nat → List (List (Nat × Nat) × Nat)
  | 0, _, _ => [([], 0)]
  | k + 1, used, free => (List.range n).flatMap fun s => if s ∈ used then [] else match bgA row K s (max (ix (K (103 + 3 * s))) free) with
    | none => []
    | some b => (cand row K n k (s :: used) (b + ix (K (104 + 3 * s)))).map fun c => ((s, b) :: c.1, (b - ix (K (103 + 3 * s))) + c.2)
def btr (a : Option (List (Nat × Nat) × Nat)) (c : List (Nat × Nat) × Nat) : Option (List (Nat × Nat) × Nat) := match a with
  | none => some c
  | some x => if c.2 < x.2 then some c else some x
def bstC (row K : Nat → Int32) : Option (List (Nat × Nat) × Nat) := (cand row K (ix (K 186)) (ix (K 186)) [] 0).foldl btr none
/-- sums -/
def smN (f : Nat → Nat) : Nat → Nat
  | 0 => 0
  | n + 1 => smN f n + f n
def smZ (f : Nat → Int) : Nat → Int
  | 0 => 0
  | n + 1 => smZ f n + f n
/-- floats: how far each is from what the rest tells; which are off at a height and a phase -/
def flR (K : Nat → Int32) (q f : Nat) : Int32 := K (162 + 2 * f) - Lv K 0 (K (161 + 2 * f)) (K 39) (K 40) + mnA (K (6 + 3 * q)) (K (7 + 3 * q)) (K (8 + 3 * q)) (K (161 + 2 * f))
def flO (K : Nat → Int32) (q a b f : Nat) : Bool := decide (K 38 < szI (flR K q f - mnA (nI (10 * a)) (K (7 + 3 * q)) (nI (10 * b)) (K (161 + 2 * f))))
def flL (K : Nat → Int32) (q a b : Nat) : List Nat := (List.range (ix (K 188))).filter (flO K q a b)
def npH (K : Nat → Int32) (q : Nat) : Nat := (ix (K (7 + 3 * q)) + 9) / 10
def flC (K : Nat → Int32) (q : Nat) (l : List Nat) : Nat := smN (fun a => smN (fun b => if flL K q a b = l then 1 else 0) (npH K q)) 51
def isP (K : Nat → Int32) (q a b : Nat) : Prop := a < 51 ∧ b < npH K q ∧ flL K q a b = []
/-- the pilot's rule -/
def lv0 (K : Nat → Int32) (m : Nat) : Int32 := Lv K 0 (nI m) (K 39) (K 40)
def isH (K : Nat → Int32) (m : Nat) : Bool := decide (60 ≤ m) && decide (m + 60 < 1440) && (List.range 60).all fun k => decide (lv0 K (m - (k + 1)) < lv0 K m) && decide (lv0 K (m + (k + 1)) ≤ lv0 K m)
def la (K : Nat → Int32) : Nat → Option Nat
  | 0 => none
  | m + 1 => if isH K m then some m else la K m
def rlW (K row : Nat → Int32) (i m : Nat) : Int := match la K (m + 1) with
  | none => 0
  | some a => if m - a < i then (if szI (row m) ≤ K 33 then 1 else -1) else 0
def rlR (K row : Nat → Int32) (m : Nat) : Nat := match la K (m + 1) with
  | none => 0
  | some _ => if szI (row m) ≤ K 33 then 0 else 1
