/-! the registry in plain words: what every call answers and what it leaves -/
abbrev Sg : Type := (Nat → Nat → Int32) × Nat × Nat × Nat × Int32 × Nat × (Nat → Nat)
def gL (g : Sg) : Nat → Nat → Int32 := g.1
def gn (g : Sg) : Nat := g.2.1
def gp (g : Sg) : Nat := g.2.2.1
def gt (g : Sg) : Nat := g.2.2.2.1
def ga (g : Sg) : Int32 := g.2.2.2.2.1
def gr (g : Sg) : Nat := g.2.2.2.2.2.1
def gq (g : Sg) : Nat → Nat := g.2.2.2.2.2.2
def en9 (t c a b c4 d e f nd : Int32) : Nat → Int32 := fun k => if k = 0 then t else if k = 1 then c else if k = 2 then a else if k = 3 then b else if k = 4 then c4 else if k = 5 then d else if k = 6 then e else if k = 7 then f else nd
def psh (g : Sg) (e : Nat → Int32) : Sg := (fun i => if i = gn g then e else gL g i, gn g + 1, gp g, gt g, ga g, gr g, gq g)
def coS (g : Sg) (e : Nat → Int32) : Int32 × Sg := if gn g = 400 then (7, g) else (0, psh g e)
/-- how many entries are known on a day -/
def kn (L : Nat → Nat → Int32) (D : Nat) : Nat → Nat
  | 0 => 0
  | n + 1 => if ix (L n 0) ≤ D then n + 1 else kn L D n
def daN (g : Sg) : Nat := if ga g = -1 then gt g else ix (ga g)
def RSn (g : Sg) : RS := rpl (gL g) (gn g)
def RSk (g : Sg) : RS := rpl (gL g) (kn (gL g) (daN g) (gn g))
abbrev isP (g : Sg) (p : Int32) : Prop := 0 ≤ p ∧ p < nI (gp g)
abbrev isL (l : Int32) : Prop := 0 ≤ l ∧ l < 12
abbrev isM (m : Int32) : Prop := 0 ≤ m ∧ m < 120
abbrev isD (d : Int32) : Prop := 0 ≤ d ∧ d < 3600
abbrev isT (f n : Int32) : Prop := isD f ∧ 1 ≤ n ∧ n ≤ 3600
abbrev isS (s : Int32) : Prop := 0 ≤ s ∧ s < 4096
def pl (S : RS) (p l : Int32) (k : Nat) : Int32 := S.1 (ix p) (ix l) k
def mo (S : RS) (p m : Int32) (k : Nat) : Int32 := S.2.1 (ix p) (ix m) k
/-- the days held, by the rows -/
def hdN (S : RS) (P : Nat) (mst : Int32) (d : Nat) : Bool :=
  if S.2.1 P (d / 30) 0 = 3 ∨ ((S.2.1 P (d / 30) 0 = 1 ∨ S.2.1 P (d / 30) 0 = 2) ∧ S.2.1 P (d / 30) 1 < 30) then decide (mst = 0)
  else if S.2.1 P (d / 30) 0 = 1 ∨ S.2.1 P (d / 30) 0 = 2 then S.2.2.1 P (d / 30) (d % 30) else true
/-- the solution of a file's equations -/
noncomputable def slv (PP : Nat → Nat → Int32) (hd : Nat → Bool) : (Nat → Nat) × (Nat → Nat) := Classical.epsilon (fun x => Sol PP hd x.1 x.2)
noncomputable def beN (S : RS) (P : Nat) (mst : Int32) : Nat → Nat := (slv (S.1 P) (hdN S P mst)).1
noncomputable def eeN (S : RS) (P : Nat) (mst : Int32) : Nat → Nat := (slv (S.1 P) (hdN S P mst)).2
noncomputable def ctN (S : RS) (P : Nat) (mst : Int32) (k d : Nat) : Bool := ctB (S.1 P) (hdN S P mst) (beN S P mst) (eeN S P mst) k d
noncomputable def tkS (S : RS) (P : Nat) (mst : Int32) (k d : Nat) : Nat := tkN (ix (S.1 P k 6)) (mtN (S.1 P) k) (tlN (S.1 P) k (ctN S P mst k) (d + 1)).2.1 (tlN (S.1 P) k (ctN S P mst k) (d + 1)).2.2
noncomputable def fuN (S : RS) (P : Nat) (mst : Int32) : Nat := maxF (stB (S.1 P)) (fun i => eeN S P mst i + 1) 0 12
/-- FULL, or 100000 -/
noncomputable def fuD (S : RS) (P : Nat) (mst : Int32) : Nat := if fuN S P mst ≤ 3600 then fuN S P mst else 100000
noncomputable def dcN (S : RS) (P : Nat) (mst : Int32) (t i : Nat) : Nat := Classical.epsilon (fun e => isEnd (fun d => wnN (S.1 P) t i ≤ fb_ct (ctN S P mst i) (d + 1)) e)
/-- WATCHED, or 100000 -/
noncomputable def waD (S : RS) (P : Nat) (mst : Int32) (t : Nat) : Nat := maxF (stB (S.1 P)) (fun i => min (dcN S P mst t i) (eeN S P mst i)) 0 12
/-- a day or -1 -/
def dyI (x : Nat) : Int32 := if x < 3600 then nI x else -1
/-- the least place of a stay or credit -/
def hsN (PP : Nat → Nat → Int32) (c : Int32) (k d : Nat) : Nat → Int32
  | 0 => -1
  | n + 1 => if hsN PP c k d n ≠ -1 then hsN PP c k d n else if (PP n 0 = c ∧ PP n 5 = -1 ∧ bt (PP n 4) k = true) ∧ ix (PP n 1) ≤ d ∧ d ≤ ix (PP n 2) then nI n else -1
def roomS (g : Sg) (p l : Int32) : Int32 := if isP g p ∧ isL l then (if pl (RSn g) p l 0 = 0 then 0 else 2) else 1
abbrev rowS (S : RS) (p m : Int32) : Prop := mo S p m 0 = 1 ∨ mo S p m 0 = 2
def personS (g : Sg) : Int32 × Sg := if gp g = 6 then (-1, g) else (nI (gp g), (gL g, gn g, gp g + 1, gt g, ga g, gr g, gq g))
def todayS (g : Sg) (d : Int32) : Int32 × Sg := if isD d ∧ nI (gt g) ≤ d then (1, (gL g, gn g, gp g, ix d, ga g, gr g, gq g)) else (0, g)
def asS (g : Sg) (d : Int32) : Int32 × Sg := if d = -1 ∨ (isD d ∧ d ≤ nI (gt g)) then (1, (gL g, gn g, gp g, gt g, d, gr g, gq g)) else (-1, g)
def letterS (g : Sg) (p l : Int32) : Int32 × Sg := if roomS g p l ≠ 0 then (roomS g p l, g) else coS g (en9 (nI (gt g)) 0 p l 0 0 0 0 0)
def termS (g : Sg) (p l f n : Int32) : Int32 × Sg := if roomS g p l ≠ 0 then (roomS g p l, g) else if ¬ isT f n then (3, g) else coS g (en9 (nI (gt g)) 1 p l f n 0 0 0)
def nwE (g : Sg) (p l s : Int32) : Nat → Nat → Bool := newE ((RSn g).1 (ix p)) (ix l) s
noncomputable def rgN (E : Nat → Nat → Bool) (p : Nat) : Nat × (Nat → Nat) := Classical.epsilon (fun x => ringOf E p x.1 x.2)
noncomputable def waitsS (g : Sg) (p l k f n s : Int32) : Int32 × Sg :=
  if roomS g p l ≠ 0 then (roomS g p l, g) else if ¬ (isT f n ∧ (3 ≤ k ∧ k ≤ 5) ∧ isS s) then (3, g)
  else @ite _ (∃ x : Nat × (Nat → Nat), ringOf (nwE g p l s) (ix l) x.1 x.2) (Classical.propDecidable _) (4, (gL g, gn g, gp g, gt g, ga g, (rgN (nwE g p l s) (ix l)).1, (rgN (nwE g p l s) (ix l)).2)) (coS g (en9 (nI (gt g)) 2 p l k f n s 0))
def stayS (g : Sg) (p l k f t s : Int32) : Int32 × Sg := if roomS g p l ≠ 0 then (roomS g p l, g) else if ¬ ((k = 6 ∨ k = 7) ∧ isS s ∧ isD f ∧ isD t ∧ f ≤ t) then (3, g) else coS g (en9 (nI (gt g)) 3 p l k f t s 0)
def quashS (g : Sg) (p l o : Int32) : Int32 × Sg := if ¬ isL o then (1, g) else if roomS g p l ≠ 0 then (roomS g p l, g)
  else if ¬ ((2 ≤ pl (RSn g) p o 0 ∧ pl (RSn g) p o 0 ≤ 7) ∧ pl (RSn g) p o 5 = -1) then (5, g) else coS g (en9 (nI (gt g)) 4 p l o 0 0 0 0)
def monthS (g : Sg) (p m b n : Int32) : Int32 × Sg := if ¬ (isP g p ∧ isM m) then (1, g) else if ¬ (0 ≤ n ∧ n ≤ 30) then (3, g) else coS g (en9 (nI (gt g)) 5 p m (if b = 0 then 0 else 1) n 0 0 0)
def heldS (g : Sg) (p m k v : Int32) : Int32 × Sg := if ¬ (isP g p ∧ isM m) then (1, g)
  else if rowS (RSn g) p m ∧ ¬ (if mo (RSn g) p m 0 = 2 then -32768 ≤ v ∧ v ≤ 32767 else -128 ≤ v ∧ v ≤ 127) then (3, g)
  else if ¬ (rowS (RSn g) p m ∧ 0 ≤ k ∧ k < mo (RSn g) p m 1) then (6, g) else coS g (en9 (nI (gt g)) 6 p m k v 0 0 0)
def tearS (g : Sg) (p m : Int32) : Int32 × Sg := if ¬ (isP g p ∧ isM m) then (1, g) else coS g (en9 (nI (gt g)) 7 p m 0 0 0 0 0)
def copyS (g : Sg) (p m o t : Int32) : Int32 × Sg := if ¬ (isP g p ∧ isM m ∧ isP g o ∧ isM t) then (1, g) else if ¬ rowS (RSn g) p m then (6, g) else coS g (en9 (nI (gt g)) 8 p m o t 0 0 0)
abbrev ruld (S : RS) (p l : Int32) : Prop := ((2 ≤ pl S p l 0 ∧ pl S p l 0 ≤ 5) ∧ pl S p l 5 = -1) ∧ pl S p l 0 ≠ 5
def offS (g : Sg) (p l k f : Int32) : Int32 × Sg := if ¬ (isP g p ∧ isL l) then (1, g) else if ¬ ((2 ≤ k ∧ k ≤ 100) ∧ 0 ≤ f ∧ f ≤ 1000) then (3, g) else if ¬ ruld (RSn g) p l then (5, g) else coS g (en9 (nI (gt g)) 9 p l k f 0 0 0)
noncomputable def backS (g : Sg) (p l d : Int32) : Int32 × Sg := if ¬ (isP g p ∧ isL l) then (1, g) else if ¬ ruld (RSn g) p l then (5, g)
  else if (pl (RSn g) p l 8).toInt + d.toInt < 0 ∨ (0 < d.toInt ∧ (tkS (RSn g) (ix p) 0 (ix l) (gt g) : Int) < (pl (RSn g) p l 8).toInt + d.toInt) then (3, g) else coS g (en9 (nI (gt g)) 10 p l d 0 0 0 0)
noncomputable def grantS (g : Sg) (p d : Int32) : Int32 × Sg := if ¬ isP g p then (1, g) else if ¬ isD d then (3, g) else if gn g = 400 then (7, g)
  else if ix d < waD (RSn g) (ix p) 0 500 then (8, g) else coS g (en9 (nI (gt g)) 11 p d 0 0 0 0 0)
noncomputable def rcNd (g : Sg) (p t : Int32) : Nat := max 1 (((fuD (RSn g) (ix p) 0 - ix ((RSn g).2.2.2 (ix p))) * ix t + 999) / 1000)
noncomputable def recallS (g : Sg) (p l d t : Int32) : Int32 × Sg := if roomS g p l ≠ 0 then (roomS g p l, g) else if ¬ (isD d ∧ 1 ≤ t ∧ t ≤ 1000) then (3, g) else if gn g = 400 then (7, g)
  else if (RSn g).2.2.2 (ix p) = -1 ∨ d ≤ (RSn g).2.2.2 (ix p) ∨ fuD (RSn g) (ix p) 0 = 100000 ∨ fuD (RSn g) (ix p) 0 ≤ ix ((RSn g).2.2.2 (ix p)) then (8, g)
  else coS g (en9 (nI (gt g)) 12 p l d t 0 0 (nI (rcNd g p t)))
abbrev ordS (g : Sg) (p l : Int32) : Prop := (isP g p ∧ isL l) ∧ stB ((RSk g).1 (ix p)) (ix l) = true
def kindS (g : Sg) (p l : Int32) : Int32 := if isP g p ∧ isL l then pl (RSk g) p l 0 else -1
noncomputable def beginsS (g : Sg) (p l m : Int32) : Int32 := if ordS g p l then dyI (beN (RSk g) (ix p) m (ix l)) else -1
noncomputable def endsS (g : Sg) (p l m : Int32) : Int32 := if ordS g p l then dyI (eeN (RSk g) (ix p) m (ix l)) else -1
noncomputable def countedS (g : Sg) (p l d m : Int32) : Int32 := if isD d ∧ ordS g p l then nI (fb_ct (ctN (RSk g) (ix p) m (ix l)) (ix d + 1)) else -1
noncomputable def takenS (g : Sg) (p l d : Int32) : Int32 := if isD d ∧ ordS g p l then nI (tkS (RSk g) (ix p) 0 (ix l) (ix d)) else -1
noncomputable def whyS (g : Sg) (p l d : Int32) : Int32 :=
  if ¬ ((isP g p ∧ isL l) ∧ isD d) then -1 else if ¬ (2 ≤ pl (RSk g) p l 0 ∧ pl (RSk g) p l 0 ≤ 5) then 7 else if pl (RSk g) p l 5 ≠ -1 then 6
  else if eeN (RSk g) (ix p) 0 (ix l) < ix d then 3 else if hsN ((RSk g).1 (ix p)) 6 (ix l) (ix d) 12 ≠ -1 then 4 else if hsN ((RSk g).1 (ix p)) 7 (ix l) (ix d) 12 ≠ -1 then 1
  else if ix d < beN (RSk g) (ix p) 0 (ix l) then 2 else if hdN (RSk g) (ix p) 0 (ix d) = true then 0 else 5
noncomputable def byS (g : Sg) (p l d : Int32) : Int32 :=
  if whyS g p l d = 6 then pl (RSk g) p l 5 else if whyS g p l d = 4 then hsN ((RSk g).1 (ix p)) 6 (ix l) (ix d) 12 else if whyS g p l d = 1 then hsN ((RSk g).1 (ix p)) 7 (ix l) (ix d) 12 else -1
def nvI (x : Nat) : Int32 := if x = 100000 then -1 else nI x
noncomputable def fullS (g : Sg) (p m : Int32) : Int32 := if isP g p then nvI (fuD (RSk g) (ix p) m) else -1
noncomputable def watchedS (g : Sg) (p t m : Int32) : Int32 := if isP g p ∧ 0 ≤ t ∧ t ≤ 1000 then dyI (waD (RSk g) (ix p) m (ix t)) else -1
def openS (g : Sg) (p m : Int32) : Int32 := if isP g p ∧ isM m then (if mo (RSk g) p m 0 = 3 ∨ (rowS (RSk g) p m ∧ mo (RSk g) p m 1 < 30) then 1 else 0) else -1
def tdB (S : RS) (P d : Nat) : Bool := decide ((S.2.1 P (d / 30) 0 = 1 ∨ S.2.1 P (d / 30) 0 = 2) ∧ ¬ S.2.1 P (d / 30) 1 < 30) && S.2.2.1 P (d / 30) (d % 30)
noncomputable def overS (g : Sg) (p : Int32) : Int32 := if isP g p then nI (fb_ct (fun d => decide (fuD (RSk g) (ix p) 0 ≤ d) && tdB (RSk g) (ix p) d) (daN g + 1)) else -1
def ringS (g : Sg) (i : Int32) : Int32 := if 0 ≤ i ∧ i < nI (gr g) then nI (gq g (ix i)) else -1
noncomputable def ckN (S : RS) (P k d : Nat) (b : Int32) : Nat → Int32
  | 0 => -1
  | n + 1 => if (decide (d + (32 - (n + 1)) < 3600) && ctN S P 0 k (d + (32 - (n + 1)))) ≠ bt b (32 - (n + 1)) then nI (d + (32 - (n + 1))) else ckN S P k d b n
noncomputable def checkS (g : Sg) (p l d b : Int32) : Int32 := if isD d ∧ ordS g p l then ckN (RSk g) (ix p) (ix l) (ix d) b 32 else -2
def imageS (g : Sg) (i j : Int32) : Int32 := if (0 ≤ i ∧ i < nI (gn g)) ∧ 0 ≤ j ∧ j ≤ 7 then gL g (ix i) (ix j) else -1
def countS (g : Sg) (x : Int32) : Int32 := if x = 0 then nI (gt g) else if x = 1 then nI (gp g) else if x = 2 then nI (gn g) else if x = 3 then nI (daN g) else -1
noncomputable def caS (g : Sg) (c : Nat) (a b c4 d e f : Int32) : Int32 × Sg :=
  if c = 0 then letterS g a b else if c = 1 then termS g a b c4 d else if c = 2 then waitsS g a b c4 d e f else if c = 3 then stayS g a b c4 d e f else if c = 4 then quashS g a b c4
  else if c = 5 then monthS g a b (if c4 = 0 then 0 else 1) d else if c = 6 then heldS g a b c4 d else if c = 7 then tearS g a b else if c = 8 then copyS g a b c4 d else if c = 9 then offS g a b c4 d
  else if c = 10 then backS g a b c4 else if c = 11 then grantS g a b else recallS g a b c4 d
noncomputable def takeS (g : Sg) (t c a b c4 d e f : Int32) : Int32 × Sg :=
  if ¬ (0 ≤ c ∧ c ≤ 12) then (-1, g) else if (todayS g t).1 = 0 then (-1, g) else caS (todayS g t).2 (ix c) a b c4 d e f
