/-! WHAT THE CALLS ANSWER, over the reference's memory μ: an answer and the memory behind it. Loops are read from their place on. -/
def rf (μ : ST) (k : Int) : ST := up μ 1070 k (w32 (μ 1070 k + 1))
abbrev isSh (s : Int) : Prop := 0 ≤ s ∧ s < 8
abbrev isFi (f : Int) : Prop := 0 ≤ f ∧ f < 12
abbrev isAd (μ : ST) (a : Int) : Prop := 0 ≤ a ∧ a < μ 1000 1
abbrev isRu (μ : ST) (r : Int) : Prop := 0 ≤ r ∧ r < μ 1000 6
def cntF (p : Int → Bool) : Int → Nat → Int
  | _, 0 => 0
  | i, m + 1 => (if p i = true then 1 else 0) + cntF p (i + 1) m
def fndF (p : Int → Bool) : Int → Nat → Int
  | _, 0 => -1
  | i, m + 1 => if p i = true then i else fndF p (i + 1) m
def anyF (p : Int → Bool) : Int → Nat → Bool
  | _, 0 => false
  | i, m + 1 => p i || anyF p (i + 1) m
def allF (p : Int → Bool) : Int → Nat → Bool
  | _, 0 => true
  | i, m + 1 => p i && allF p (i + 1) m
def sumF (f : Int → Int) : Int → Nat → Int
  | _, 0 => 0
  | i, m + 1 => f i + sumF f (i + 1) m
/-- the bit s of x -/
def bt (x s : Int) : Bool := decide (x / 2 ^ s.toNat % 2 = 1)
def bitsF (p : Int → Bool) : Int → Nat → Int
  | _, 0 => 0
  | i, m + 1 => (if p i = true then 2 ^ i.toNat else 0) + bitsF p (i + 1) m
theorem cntF_in (p : Int → Bool) : ∀ (m : Nat) (i : Int), 0 ≤ cntF p i m ∧ cntF p i m ≤ m
  | 0, _ => ⟨Int.le_refl 0, Int.le_refl 0⟩
  | m + 1, i => by
    have := cntF_in p m (i + 1)
    unfold cntF
    split <;> omega
/-- shelves -/
def wantF (μ : ST) (s : Int) : Int := if ¬ isSh s then -1 else if μ 1011 s = 2 then -2 else if μ 1011 s = 0 then -3 else 0
def intF (μ : ST) (s i : Int) : Int := w32 (μ 1018 (60 * s + i))
def cutF (o v : Int) : Int := if o = 0 then (v + 128) % 256 - 128 else if o = 1 then (v + 32768) % 65536 - 32768 else if o = 2 then w32 v else v
def f_days (μ : ST) (n : Int) : Int × ST := if n < 1 ∨ 1000 < n ∨ 9000 < μ 1000 0 + n then (-6, rf μ 6) else (μ 1000 0 + n, up μ 1000 0 (μ 1000 0 + n))
def zrF (μ : ST) (s : Int) : ST := fun a i => if a = 1018 ∧ 60 * s ≤ i ∧ i < 60 * s + 60 then 0 else μ a i
def f_row (μ : ST) (s o n : Int) : Int × ST := if ¬ isSh s then (-1, rf μ 1) else if n < 0 then (-4, rf μ 4) else if o < 0 ∨ 3 < o then (-6, rf μ 6) else if 60 < n then (-7, rf μ 7) else (1, zrF (up (up (up μ 1011 s 1) 1012 s o) 1013 s n) s)
def f_set (μ : ST) (s i v : Int) : Int × ST := if wantF μ s ≠ 0 then (wantF μ s, rf μ (-(wantF μ s))) else if i < 0 ∨ μ 1013 s ≤ i then (-5, rf μ 5) else (1, up μ 1018 (60 * s + i) (cutF (μ 1012 s) v))
def cpyF (μ : ST) (p q i j n : Int) : ST := fun a x => if a = 1018 ∧ 60 * q + j ≤ x ∧ x < 60 * q + j + n then μ 1018 (60 * p + i + (x - (60 * q + j))) else μ a x
def f_copy (μ : ST) (p q i j n : Int) : Int × ST :=
  if ¬ isSh p ∨ ¬ isSh q then (-1, rf μ 1)
  else if μ 1011 p = 2 ∨ μ 1011 q = 2 ∨ (μ 1011 p = 1 ∧ μ 1011 q = 1 ∧ μ 1012 p ≠ μ 1012 q) then (-2, rf μ 2)
  else if μ 1011 p = 0 ∨ μ 1011 q = 0 then (-3, rf μ 3)
  else if n < 0 then (-4, rf μ 4)
  else if i < 0 ∨ j < 0 ∨ μ 1013 p - n < i ∨ μ 1013 q - n < j then (-5, rf μ 5)
  else (1, cpyF μ p q i j n)
def f_element (μ : ST) (s i : Int) : Int := if isSh s ∧ μ 1011 s = 1 ∧ 0 ≤ i ∧ i < μ 1013 s then μ 1018 (60 * s + i) else 0
def f_holds (μ : ST) (s : Int) : Int := if ¬ isSh s ∨ μ 1011 s = 0 then -1 else if μ 1011 s = 1 then 100 + μ 1012 s else μ 1014 s
def f_says (μ : ST) (s k : Int) : Int × ST :=
  if ¬ isSh s ∨ k < 0 ∨ 5 < k then (-1, rf μ 1)
  else if μ 1011 s = 1 then (-2, rf μ 2)
  else if μ 1011 s = 0 then (-3, rf μ 3)
  else if k ≠ 0 ∧ μ 1015 s ≠ k ∧ ¬ (k = 1 ∧ μ 1015 s = 5) then (-2, rf μ 2)
  else (if k = 0 then μ 1016 s else if k = 1 then μ 1017 s else if k = 2 then μ 1017 s % 12 else if k = 5 then 1000 + μ 1017 s else 0, μ)
/-- rows told as whole numbers -/
def toRow (μ : ST) (id off : Int) (s : Int) (n : Int) : ST := fun a x => if a = id ∧ off ≤ x ∧ x < off + n then intF μ s (x - off) else μ a x
def f_advert (μ : ST) (f m s : Int) : Int × ST :=
  if ¬ isFi f then (-1, rf μ 1) else if wantF μ s ≠ 0 then (wantF μ s, rf μ (-(wantF μ s)))
  else if m < 0 ∨ 5 < m ∨ 20 < μ 1013 s then (-6, rf μ 6)
  else if μ 1000 1 = 24 then (-7, rf μ 7)
  else (μ 1000 1, up (up (toRow (up (up (up μ 1020 (μ 1000 1) f) 1021 (μ 1000 1) m) 1022 (μ 1000 1) (μ 1013 s)) 1028 (20 * μ 1000 1) s (μ 1013 s)) 1027 (μ 1000 1) (μ 1000 0)) 1000 1 (μ 1000 1 + 1))
def f_print (μ : ST) (a s z : Int) : Int × ST :=
  if ¬ isAd μ a then (-1, rf μ 1) else if wantF μ s ≠ 0 then (wantF μ s, rf μ (-(wantF μ s)))
  else if z < 0 ∨ 20 < z ∨ 12 < μ 1013 s then (-6, rf μ 6)
  else (μ 1024 a, toRow (up (up μ 1024 a z) 1023 a (μ 1013 s)) 1029 (12 * a) s (μ 1013 s))
def f_saw (μ : ST) (a c o : Int) : Int × ST :=
  if ¬ isAd μ a then (-1, rf μ 1) else if c < 0 ∨ 9999 < c ∨ o < 0 ∨ 9999 < o then (-6, rf μ 6)
  else if 9999 < μ 1025 a + c ∨ 9999 < μ 1026 a + o then (-7, rf μ 7)
  else (μ 1025 a + c + (μ 1026 a + o), up (up μ 1025 a (μ 1025 a + c)) 1026 a (μ 1026 a + o))
def f_about (μ : ST) (a w : Int) : Int := if ¬ isAd μ a then -1 else if w = 0 then μ 1020 a else if w = 1 then μ 1021 a else if w = 2 then μ 1022 a else if w = 3 then μ 1023 a else if w = 4 then μ 1024 a else if w = 5 then μ 1025 a else if w = 6 then μ 1026 a else if w = 7 then μ 1027 a else -1
def f_phrase (μ : ST) (s k i f : Int) : Int × ST :=
  if k < 0 ∨ 5 < k then (-1, rf μ 1) else if wantF μ s ≠ 0 then (wantF μ s, rf μ (-(wantF μ s)))
  else if μ 1013 s < 1 ∨ 6 < μ 1013 s ∨ i < 0 ∨ 15999 < i ∨ f < 0 ∨ 9000 < f then (-6, rf μ 6)
  else if μ 1000 2 = 20 then (-7, rf μ 7)
  else (μ 1000 2, up (up (up (up (up (up (up (toRow (up μ 1032 (μ 1000 2) (μ 1013 s)) 1033 (6 * μ 1000 2) s (μ 1013 s)) 1034 (μ 1000 2) k) 1035 (μ 1000 2) (i / 1000)) 1036 (μ 1000 2) (i % 1000)) 1037 (μ 1000 2) f) 1038 (μ 1000 2) (μ 1000 0)) 1039 (μ 1000 2) (-1)) 1000 2 (μ 1000 2 + 1))
def f_unphrase (μ : ST) (p : Int) : Int × ST := if p < 0 ∨ μ 1000 2 ≤ p then (-1, rf μ 1) else if μ 1039 p ≠ -1 then (-6, rf μ 6) else (1, up μ 1039 p (μ 1000 0))
def inF (f t s a k : Int) : Bool := decide (f ≤ a ∧ t ≤ k ∧ ¬ (s ≠ -1 ∧ s ≤ a ∧ s ≤ k))
def phIn (μ : ST) (a k p : Int) : Bool := inF (μ 1037 p) (μ 1038 p) (μ 1039 p) a k
def ruIn (μ : ST) (a k r : Int) : Bool := inF (μ 1045 r) (μ 1046 r) (μ 1047 r) a k
/-- the words of an advert that a set doesn't strike -/
def wordsF (w : Int → Int) (set : Int) : Int → Nat → List Int
  | _, 0 => []
  | i, m + 1 => if bt set i = true then wordsF w set (i + 1) m else w i :: wordsF w set (i + 1) m
def textOf (μ : ST) (a set : Int) : List Int := wordsF (fun i => μ 1028 (20 * a + i)) set 0 (μ 1022 a).toNat
/-- a phrase's words stand in a row at a place -/
def standF (μ : ST) (p : Int) (row : Int → Int) (n at_ : Int) : Bool := decide (at_ + μ 1032 p ≤ n) && allF (fun i => decide (row (at_ + i) = μ 1033 (6 * p + i))) 0 (μ 1032 p).toNat
def rowL (l : List Int) : Int → Int := fun i => l.getD i.toNat 0
/-- the phrases from p on, at a place -/
def hitsF (μ : ST) (l : List Int) (a k i : Int) : Int → Nat → List (Int × Int)
  | _, 0 => []
  | p, m + 1 => if μ 1034 p ≠ 3 ∧ phIn μ a k p = true ∧ standF μ p (rowL l) l.length i = true then (p, i) :: hitsF μ l a k i (p + 1) m else hitsF μ l a k i (p + 1) m
def placesF (μ : ST) (l : List Int) (a k : Int) : Int → Nat → List (Int × Int)
  | _, 0 => []
  | i, m + 1 => hitsF μ l a k i 0 (μ 1000 2).toNat ++ placesF μ l a k (i + 1) m
def readF (μ : ST) (l : List Int) (a k : Int) : List (Int × Int) := (placesF μ l a k 0 l.length).take 24
def readA (μ : ST) (ad a k : Int) : List (Int × Int) := readF μ (textOf μ ad 0) a k
def backF (μ : ST) (ad p a k : Int) : Bool := anyF (fun q => decide (μ 1034 q = 3) && decide (μ 1035 q = μ 1035 p) && phIn μ a k q && anyF (fun i => standF μ q (fun x => μ 1029 (12 * ad + x)) (μ 1023 ad) i) 0 (μ 1023 ad).toNat) 0 (μ 1000 2).toNat
/-- proofs -/
def onF (μ : ST) (f s k : Int) (i : Int) : Bool := decide (μ 1040 i = f ∧ μ 1041 i = s ∧ μ 1042 i ≤ k)
def anyP (μ : ST) (f s k : Int) : Bool := anyF (onF μ f s k) 0 (μ 1000 3).toNat
def cntP (μ : ST) (f s k : Int) : Int := sumF (fun i => if onF μ f s k i = true then μ 1043 i else 0) 0 (μ 1000 3).toNat
def sumP (μ : ST) (f s k : Int) : Int := sumF (fun i => if onF μ f s k i = true then sumF (fun j => μ 1044 (60 * i + j)) 0 (μ 1043 i).toNat else 0) 0 (μ 1000 3).toNat
def lessP (μ : ST) (f s k n : Int) : Int := sumF (fun i => if onF μ f s k i = true then cntF (fun j => decide (n ≤ μ 1044 (60 * i + j))) 0 (μ 1043 i).toNat else 0) 0 (μ 1000 3).toNat
def borneF (μ : ST) (f p k : Int) : Bool :=
  if μ 1034 p = 0 then anyP μ f (μ 1035 p) k
  else if μ 1034 p = 1 then decide (0 < cntP μ f (μ 1035 p) k ∧ μ 1000 7 * cntP μ f (μ 1035 p) k ≤ 100 * lessP μ f (μ 1035 p) k (μ 1036 p))
  else if μ 1034 p = 5 then decide (0 < cntP μ f (μ 1035 p) k ∧ μ 1000 8 * cntP μ f (μ 1035 p) k ≤ 100 * lessP μ f (μ 1035 p) k (μ 1036 p))
  else if μ 1034 p = 2 then decide (0 < cntP μ f (μ 1035 p) k ∧ 0 < cntP μ (μ 1036 p % 12) (μ 1035 p) k ∧ sumP μ (μ 1036 p % 12) (μ 1035 p) k * cntP μ f (μ 1035 p) k < sumP μ f (μ 1035 p) k * cntP μ (μ 1036 p % 12) (μ 1035 p) k)
  else true
/-- rulings -/
def stB (μ : ST) (r : Int) : Bool := decide (μ 1065 r = 0 ∧ μ 1067 r ≠ 0)
def againF (μ : ST) (f p a k : Int) : Bool := anyF (fun r => decide (μ 1065 r = 0 ∧ μ 1067 r ≠ 0 ∧ μ 1056 r = f ∧ μ 1058 r = μ 1034 p ∧ μ 1059 r = μ 1035 p ∧ μ 1060 r ≤ μ 1036 p ∧ μ 1061 r ≤ a ∧ μ 1061 r ≤ k)) 0 (μ 1000 6).toNat
def likeF (μ : ST) (p r : Int) : Bool := decide (μ 1065 r = 0 ∧ μ 1058 r = μ 1034 p ∧ μ 1059 r = μ 1035 p ∧ μ 1060 r - μ 1036 p ≤ 10 ∧ -10 ≤ μ 1060 r - μ 1036 p)
def bindF (μ : ST) (m p : Int) : Int := fndF (fun r => likeF μ p r && decide (μ 1057 r = m)) 0 (μ 1000 6).toNat
def cntV (μ : ST) (set f : Int) : Int := cntF (fun s => bt set s && !bt (μ 1055 s) f) 0 (μ 1000 5).toNat
/-- the phrase of claim i as it is read now; -1 -/
def claimP (μ : ST) (ad i : Int) : Int := if ¬ isAd μ ad ∨ i < 0 then -1 else if i < (readA μ ad (μ 1000 0) (μ 1000 0)).length then ((readA μ ad (μ 1000 0) (μ 1000 0)).getD i.toNat (0, 0)).1 else -1
def claimAt (μ : ST) (ad i : Int) : Int := ((readA μ ad (μ 1000 0) (μ 1000 0)).getD i.toNat (0, 0)).2
def f_claims (μ : ST) (ad a k : Int) : Int := if ¬ isAd μ ad ∨ a < 0 ∨ k < 0 then -1 else (readA μ ad a k).length
def b01 (b : Bool) : Int := if b = true then 1 else 0
def f_claim (μ : ST) (ad i w : Int) : Int := if claimP μ ad i = -1 then -1 else if w = 0 then μ 1034 (claimP μ ad i) else if w = 1 then μ 1035 (claimP μ ad i) else if w = 2 then μ 1036 (claimP μ ad i) else if w = 3 then claimAt μ ad i else if w = 4 then claimP μ ad i
  else if w = 5 then b01 (backF μ ad (claimP μ ad i) (μ 1000 0) (μ 1000 0)) else if w = 6 then b01 (borneF μ (μ 1020 ad) (claimP μ ad i) (μ 1000 0)) else if w = 7 then b01 (againF μ (μ 1020 ad) (claimP μ ad i) (μ 1000 0) (μ 1000 0)) else -1
def f_keep (μ : ST) (s ad i : Int) : Int × ST := if ¬ isSh s then (-1, rf μ 1) else if ad = -1 then (-1, up μ 1011 s 0) else if claimP μ ad i = -1 then (-1, rf μ 1)
  else (μ 1034 (claimP μ ad i), up (up (up (up (up μ 1011 s 2) 1014 s (claimP μ ad i)) 1015 s (μ 1034 (claimP μ ad i))) 1016 s (μ 1035 (claimP μ ad i))) 1017 s (μ 1036 (claimP μ ad i)))
/-- the elements that were given -/
def missF (o : Int) : Int := if o = 0 then -128 else if o = 1 then -32768 else if o = 2 then -2147483648 else -9223372036854775808
def givenF (μ : ST) (s : Int) : Int → Nat → List Int
  | _, 0 => []
  | i, m + 1 => if μ 1018 (60 * s + i) = missF (μ 1012 s) then givenF μ s (i + 1) m else intF μ s i :: givenF μ s (i + 1) m
def putL (μ : ST) (id off : Int) (l : List Int) : ST := fun a x => if a = id ∧ off ≤ x ∧ x < off + l.length then l.getD (x - off).toNat 0 else μ a x
def f_proof (μ : ST) (f sj s : Int) : Int × ST :=
  if ¬ isFi f then (-1, rf μ 1) else if wantF μ s ≠ 0 then (wantF μ s, rf μ (-(wantF μ s)))
  else if sj < 0 ∨ 15 < sj then (-6, rf μ 6) else if μ 1000 3 = 40 then (-7, rf μ 7)
  else (μ 1000 3, up (putL (up (up (up (up μ 1040 (μ 1000 3) f) 1041 (μ 1000 3) sj) 1042 (μ 1000 3) (μ 1000 0)) 1043 (μ 1000 3) (givenF μ s 0 (μ 1013 s).toNat).length) 1044 (60 * μ 1000 3) (givenF μ s 0 (μ 1013 s).toNat)) 1000 3 (μ 1000 3 + 1))
def f_results (μ : ST) (f s k w : Int) : Int := if ¬ isFi f ∨ s < 0 ∨ 15 < s ∨ w < 0 ∨ 1 < w then -10000000 else if w = 0 then cntP μ f s k else sumP μ f s k
def f_measure (μ : ST) (w n : Int) : Int × ST := if w < 0 ∨ 1 < w ∨ n < 1 ∨ 100 < n then (-6, rf μ 6) else if w = 0 then (μ 1000 7, up μ 1000 7 n) else (μ 1000 8, up μ 1000 8 n)
def f_strike (μ : ST) (r : Int) : Int × ST := if r < 0 ∨ μ 1000 4 ≤ r then (-1, rf μ 1) else if μ 1047 r ≠ -1 then (-6, rf μ 6) else (1, up μ 1047 r (μ 1000 0))
def f_seat (μ : ST) (b : Int) : Int × ST := if b < 0 ∨ 4095 < b then (-1, rf μ 1) else if μ 1000 5 = 9 then (-7, rf μ 7) else (μ 1000 5, up (up μ 1055 (μ 1000 5) b) 1000 5 (μ 1000 5 + 1))
def f_ruling (μ : ST) (r w : Int) : Int := if ¬ isRu μ r then -1 else if w = 0 then μ 1056 r else if w = 1 then μ 1057 r else if w = 2 then μ 1058 r else if w = 3 then μ 1059 r else if w = 4 then μ 1060 r else if w = 5 then μ 1061 r else if w = 6 then (if μ 1067 r = 0 then 0 else 1) else if w = 7 then (if μ 1068 r = 0 then 0 else 1) else if w = 8 then μ 1064 r else if w = 9 then μ 1065 r else if w = 10 then μ 1066 r else -1
def f_stop (μ : ST) (p a d : Int) : Int × ST := if p < 0 ∨ 7 < p ∨ ¬ isAd μ a then (-1, rf μ 1)
  else if d = 0 then (if μ 1030 (24 * p + a) ≠ -1 then (-6, rf μ 6) else (1, up μ 1030 (24 * p + a) (μ 1000 0)))
  else (if μ 1030 (24 * p + a) = -1 ∨ μ 1031 (24 * p + a) ≠ -1 then (-6, rf μ 6) else (2, up μ 1031 (24 * p + a) (μ 1000 0)))
def f_stopped (μ : ST) (p a d : Int) : Int := if p < 0 ∨ 7 < p ∨ ¬ isAd μ a then -1 else if d = 0 then μ 1030 (24 * p + a) else μ 1031 (24 * p + a)
def f_status (μ : ST) (w : Int) : Int := if 10 < w ∧ w < 18 then μ 1070 (w - 10) else if w = 0 then μ 1000 1 else if w = 1 then μ 1000 2 else if w = 2 then μ 1000 3 else if w = 3 then μ 1000 4 else if w = 4 then μ 1000 5 else if w = 5 then μ 1000 6
  else if w = 6 then cntF (fun r => decide (μ 1065 r = 0)) 0 (μ 1000 6).toNat else if w = 7 then cntF (stB μ) 0 (μ 1000 6).toNat else if w = 8 then cntF (fun r => decide (μ 1065 r = 1)) 0 (μ 1000 6).toNat else if w = 9 then cntF (fun r => decide (μ 1065 r = 2)) 0 (μ 1000 6).toNat else if w = 10 then μ 1000 0 else -1
def f_decide (μ : ST) (ad i bar nt : Int) : Int × ST :=
  if claimP μ ad i = -1 ∨ bar < 0 ∨ 2 ^ (μ 1000 5).toNat ≤ bar ∨ nt < 0 ∨ 2 ^ (μ 1000 5).toNat ≤ nt then (-1, rf μ 1)
  else if iand bar nt ≠ 0 ∨ cntV μ bar (μ 1020 ad) + cntV μ nt (μ 1020 ad) < 3 then (-6, rf μ 6)
  else if μ 1000 6 = 40 then (-7, rf μ 7)
  else (μ 1000 6, up (up (up (up (up (up (up (up (up (up (up (up (up (up μ 1064 (μ 1000 6) (bindF μ (μ 1021 ad) (claimP μ ad i))) 1068 (μ 1000 6) (b01 (againF μ (μ 1020 ad) (claimP μ ad i) (μ 1000 0) (μ 1000 0)))) 1056 (μ 1000 6) (μ 1020 ad)) 1057 (μ 1000 6) (μ 1021 ad)) 1058 (μ 1000 6) (μ 1034 (claimP μ ad i))) 1059 (μ 1000 6) (μ 1035 (claimP μ ad i))) 1060 (μ 1000 6) (μ 1036 (claimP μ ad i))) 1061 (μ 1000 6) (μ 1000 0)) 1062 (μ 1000 6) bar) 1063 (μ 1000 6) nt) 1067 (μ 1000 6) (if cntV μ bar (μ 1020 ad) + cntV μ nt (μ 1020 ad) < 2 * cntV μ bar (μ 1020 ad) then 1 else 0)) 1065 (μ 1000 6) 0) 1066 (μ 1000 6) (cntV μ bar (μ 1020 ad) + cntV μ nt (μ 1020 ad))) 1000 6 (μ 1000 6 + 1))
/-- the rulings from r on that a new kinship makes void -/
def voidF (μ0 : ST) (s f : Int) : Int → Nat → Int × ST → Int × ST
  | _, 0, x => x
  | r, m + 1, (n, μ) => if μ 1065 r ≠ 0 ∨ μ 1056 r ≠ f ∨ bt (ior (μ 1062 r) (μ 1063 r)) s = false then voidF μ0 s f (r + 1) m (n, μ)
    else if 3 ≤ cntV μ0 (μ 1062 r) f + cntV μ0 (μ 1063 r) f ∧ (if cntV μ0 (μ 1062 r) f + cntV μ0 (μ 1063 r) f < 2 * cntV μ0 (μ 1062 r) f then (1 : Int) else 0) = μ 1067 r then voidF μ0 s f (r + 1) m (n, μ)
    else voidF μ0 s f (r + 1) m (n + 1, up μ 1065 r 1)
def f_kin (μ : ST) (s f : Int) : Int × ST := if s < 0 ∨ μ 1000 5 ≤ s ∨ ¬ isFi f then (-1, rf μ 1) else if bt (μ 1055 s) f = true then (-6, rf μ 6)
  else voidF (up μ 1055 s (ior (μ 1055 s) (ishl 1 f))) s f 0 (μ 1000 6).toNat (0, up μ 1055 s (ior (μ 1055 s) (ishl 1 f)))
/-- the left-th like ruling -/
def nthF (p : Int → Bool) : Int → Nat → Int → Int
  | _, 0, _ => -1
  | i, m + 1, left => if p i = true then (if left = 0 then i else nthF p (i + 1) m (left - 1)) else nthF p (i + 1) m left
def f_like (μ : ST) (ad c i : Int) : Int := if claimP μ ad c = -1 ∨ i < 0 then -1 else nthF (likeF μ (claimP μ ad c)) 0 (μ 1000 6).toNat i
def f_apart (μ : ST) (r ad c : Int) : Int := if claimP μ ad c = -1 ∨ ¬ isRu μ r then -1 else (if μ 1058 r = μ 1034 (claimP μ ad c) then 0 else 1) + (if μ 1059 r = μ 1035 (claimP μ ad c) then 0 else 2) + (if μ 1060 r - μ 1036 (claimP μ ad c) ≤ 10 ∧ -10 ≤ μ 1060 r - μ 1036 (claimP μ ad c) then 0 else 4) + (if μ 1057 r = μ 1021 ad then 0 else 8) + (if μ 1056 r = μ 1020 ad then 0 else 16)
def f_binding (μ : ST) (ad c : Int) : Int := if claimP μ ad c = -1 then -1 else bindF μ (μ 1021 ad) (claimP μ ad c)
def f_clash (μ : ST) (ad c : Int) : Int := if claimP μ ad c = -1 then -1 else cntF (fun r => likeF μ (claimP μ ad c) r && decide (μ 1057 r = μ 1021 ad) && decide (μ 1067 r ≠ 0)) 0 (μ 1000 6).toNat * cntF (fun r => likeF μ (claimP μ ad c) r && decide (μ 1057 r = μ 1021 ad) && decide (μ 1067 r = 0)) 0 (μ 1000 6).toNat
/-- the rulings from q on that go with those of a set -/
def undoF : Int → Nat → (Int → Bool) → Int × ST → Int × ST
  | _, 0, _, x => x
  | q, m + 1, by_, (n, μ) => if μ 1065 q ≠ 0 ∨ μ 1064 q = -1 ∨ by_ (μ 1064 q) = false then undoF (q + 1) m by_ (n, μ)
    else undoF (q + 1) m (fun x => decide (x = q) || by_ x) (n + 1, up μ 1065 q 2)
def f_appeal (μ : ST) (r d : Int) : Int × ST := if ¬ isRu μ r then (-1, rf μ 1) else if μ 1065 r ≠ 0 ∨ μ 1061 r + 21 < μ 1000 0 ∨ μ 1069 r ≠ 0 then (-6, rf μ 6)
  else if d = 0 then (0, up μ 1069 r 1)
  else undoF (r + 1) (μ 1000 6 - (r + 1)).toNat (fun x => decide (x = r)) (1, up (up μ 1069 r 1) 1065 r 2)
/-- steps -/
def stepF (μ : ST) (f : Int) : Int → Nat → Int × Int → Int × Int
  | _, 0, x => x
  | r, m + 1, (v, last) => if μ 1065 r ≠ 0 ∨ μ 1067 r = 0 ∨ μ 1056 r ≠ f then stepF μ f (r + 1) m (v, last)
    else stepF μ f (r + 1) m (min (max (v - (μ 1061 r - last) / 360) 0 + (if μ 1068 r = 0 then 1 else 2)) 5, μ 1061 r)
def f_step (μ : ST) (f : Int) : Int := if ¬ isFi f then -1 else max ((stepF μ f 0 (μ 1000 6).toNat (0, 0)).1 - (μ 1000 0 - (stepF μ f 0 (μ 1000 6).toNat (0, 0)).2) / 360) 0
