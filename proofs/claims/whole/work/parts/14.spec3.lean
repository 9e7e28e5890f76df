/-! pure words for the class's public calls: xo.. whether the arguments are right, xa.. the answer, xs.. the state behind -/
def xI (G : zG) (vc rc td : Nat) : Prop := zg G 0 0 4 = nI vc ∧ 1 ≤ vc ∧ vc ≤ 5 ∧ zg G 0 0 3 = nI rc ∧ rc ≤ 12 ∧ zn G 0 = rc ∧ zn G 1 = rc ∧ zg G 0 0 5 = nI td ∧ td ≤ 39 ∧ (∀ h, h < 6 → ∃ n, n ≤ 12 ∧ zg G 10 h 6 = nI n ∧ zTx G h n) ∧ (∀ h, h < 6 → ∃ v, v < vc ∧ zg G 7 h 4 = nI v) ∧ (∀ q, q < rc → ∃ f t d, f < 8 ∧ t < 8 ∧ d < 8 ∧ zg G 17 q 0 = nI f ∧ zg G 17 q 2 = nI t ∧ zg G 17 q 3 = nI d)
def xCp (G : zG) (vc : Nat) : Nat → zG
  | 0 => G
  | n + 1 => zuA (xCp G vc n) 5 n (va_cpy (zg (xCp G vc n) 5 n) (zg (xCp G vc n) 5 n) ((vc - 1) * 8) (vc * 8) 8)
theorem xCp_0 (G : zG) (vc n : Nat) (j : Nat) : zg (xCp G vc n) 0 0 j = zg G 0 0 j := by
  induction n with
  | zero => rfl
  | succ n ih =>
    show zg (zuA _ 5 n _) 0 0 j = _
    rw [zg_zuA, if_neg (by omega)]
    exact ih
def xaVersion (vc : Nat) : Int32 := if vc < 5 then nI vc else -3
def xsVersion (G : zG) (vc : Nat) : zG := if vc < 5 then zu (xCp G vc 8) 0 0 4 (nI (vc + 1)) else G
def xoAnswer (vc : Nat) (a b c d : Int32) : Bool := zin a 8 && (zin b vc && (zin c 8 && (decide (d = -9) || zin d 10)))
def xaAnswer (G : zG) (vc : Nat) (a b c d : Int32) : Int32 := if xoAnswer vc a b c d = true then zg G 5 a.toNatClampNeg (b.toNatClampNeg * 8 + c.toNatClampNeg) else -2
def xsAnswer (G : zG) (vc : Nat) (a b c d : Int32) : zG := if xoAnswer vc a b c d = true then zu G 5 a.toNatClampNeg (b.toNatClampNeg * 8 + c.toNatClampNeg) d else G
def xoDiffer (vc : Nat) (a b c : Int32) : Bool := zin a 8 && (zin b vc && zin c vc)
def xaDiffer (G : zG) (vc : Nat) (a b c : Int32) : Int32 := if xoDiffer vc a b c = true then xDif G a.toNatClampNeg b.toNatClampNeg c.toNatClampNeg else -1
def xoGoes (vc : Nat) (a b : Int32) : Bool := zin a 6 && zin b vc
def xaGoes (G : zG) (vc : Nat) (a b : Int32) : Int32 := if xoGoes vc a b = true then zg G 7 a.toNatClampNeg 4 else -1
def xsGoes (G : zG) (vc : Nat) (a b : Int32) : zG := if xoGoes vc a b = true then zu G 7 a.toNatClampNeg 4 b else G
def xAdd (G : zG) (i m : Nat) (v : Nat → Int32) (k f g d t : Int32) : zG := zu (zu (zu (zu (zu (zu (zuA G 16 i (endF (zg G 16 i) (m * 8) v 8)) 11 i m k) 12 i m f) 13 i m g) 14 i m d) 15 i m t) 10 i 6 (nI (m + 1))
def xSz (G : zG) (h : Nat) : Nat := (zg G 10 h 6).toNatClampNeg
def xoCall (a b c : Int32) : Bool := zin a 6 && (zin b 8 && zin c 256)
def xaCall (G : zG) (a b c : Int32) : Int32 := if xoCall a b c = true then (if xSz G a.toNatClampNeg < 12 then nI (xSz G a.toNatClampNeg) else -3) else -1
def xsCall (G : zG) (a b c : Int32) : zG := if xoCall a b c = true then (if xSz G a.toNatClampNeg < 12 then xAdd G a.toNatClampNeg (xSz G a.toNatClampNeg) (fun v => nI (b.toNatClampNeg * 8 + v)) (nI 0) (nI 0) (nI 0) (nI 0) c else G) else G
def xoWrap (G : zG) (a b c d : Int32) : Bool := zin a 6 && (zin b (xSz G a.toNatClampNeg) && (zin c 8 && zin d 256))
def xaWrap (G : zG) (a b c d : Int32) : Int32 := if xoWrap G a b c d = true then (if xSz G a.toNatClampNeg < 12 then nI (xSz G a.toNatClampNeg) else -3) else -1
def xsWrap (G : zG) (a b c d : Int32) : zG := if xoWrap G a b c d = true then (if xSz G a.toNatClampNeg < 12 then xAdd G a.toNatClampNeg (xSz G a.toNatClampNeg) (fun v => zg G 16 a.toNatClampNeg (b.toNatClampNeg * 8 + (v + c.toNatClampNeg) % 8)) (nI 1) b b c d else G) else G
def zin1 (x : Int32) : Bool := decide (1 ≤ x.toInt ∧ x.toInt ≤ 7)
theorem zin1_f0 {x : Int32} (h : x < nI 1) : zin1 x = false := by
  have h1 := Int32.lt_iff_toInt_lt.mp h
  rw [nI_toInt (by decide)] at h1
  unfold zin1
  simp
  omega
theorem zin1_f1 {x : Int32} (h : nI 7 < x) : zin1 x = false := by
  have h1 := Int32.lt_iff_toInt_lt.mp h
  rw [nI_toInt (by decide)] at h1
  unfold zin1
  simp
  omega
theorem zin1_c {x : Int32} (h : ¬ x < nI 1) (h2 : ¬ nI 7 < x) : ∃ a : Nat, 1 ≤ a ∧ a < 8 ∧ x = nI a := by
  have h0 : ¬ x < 0 := fun q => h (Int32.lt_trans q (by decide +kernel))
  obtain ⟨j, hj, rfl⟩ := nI_of h0
  rw [nI_ltI hj (by decide)] at h
  rw [nI_ltI (by decide) hj] at h2
  exact ⟨j, by omega, by omega, rfl⟩
theorem zin1_t {a : Nat} (h : 1 ≤ a) (h2 : a < 8) : zin1 (nI a) = true := by
  unfold zin1
  rw [nI_toInt (by omega)]
  simp
  omega
def xoSplit (G : zG) (a b c d e : Int32) : Bool := zin a 6 && (zin b (xSz G a.toNatClampNeg) && (zin c (xSz G a.toNatClampNeg) && (zin1 d && zin e 256)))
def xaSplit (G : zG) (a b c d e : Int32) : Int32 := if xoSplit G a b c d e = true then (if xSz G a.toNatClampNeg < 12 then nI (xSz G a.toNatClampNeg) else -3) else -1
def xsSplit (G : zG) (a b c d e : Int32) : zG := if xoSplit G a b c d e = true then (if xSz G a.toNatClampNeg < 12 then xAdd G a.toNatClampNeg (xSz G a.toNatClampNeg) (fun v => zg G 16 a.toNatClampNeg ((if v < d.toNatClampNeg then b.toNatClampNeg else c.toNatClampNeg) * 8 + v)) (nI 2) b c d e else G) else G
def xaClear (G : zG) (a : Int32) : Int32 := if zin a 6 = true then zg G 10 a.toNatClampNeg 6 else -1
def xsClear (G : zG) (a : Int32) : zG := if zin a 6 = true then zu G 10 a.toNatClampNeg 6 (nI 0) else G
def xoSees (G : zG) (a b c : Int32) : Bool := zin a 6 && (zin b (xSz G a.toNatClampNeg) && zin c 8)
def xaSees (G : zG) (a b c : Int32) : Int32 := if xoSees G a b c = true then xSees G a.toNatClampNeg b.toNatClampNeg c else -1
def xsSees (G : zG) (a b c : Int32) : zG := if xoSees G a b c = true then zuT G 0 (zt G 0 + (xSteps G a.toNatClampNeg 12 b.toNatClampNeg (zg G 15 a.toNatClampNeg b.toNatClampNeg)).toInt64) else G
theorem xSees_zuT (G : zG) (j : Nat) (v : Int64) (h s : Nat) (f : Int32) : xSees (zuT G j v) h s f = xSees G h s f := rfl
def xoUses (a b : Int32) : Bool := zin a 6 && zin b 8
def xaUses (G : zG) (a b : Int32) : Int32 := if xoUses a b = true then xUsed G a.toNatClampNeg b else -1
def xShp (x : Int32) : Int32 := if xBc x = 0 then nI 0 else if xBc x = nI 1 then nI 1 else if nI 8 ≤ xBc x then nI 3 else nI 2
def xaShape (G : zG) (a b : Int32) : Int32 := if xoUses a b = true then xShp (xUsed G a.toNatClampNeg b) else -1
def xoCount (td : Nat) (a b c d e : Int32) : Bool := zin a 6 && (zin b 8 && (zin c 40 && (decide (c ≤ nI td) && (zin d 1001 && zin e 100))))
def xaCount (G : zG) (td : Nat) (a b c d e : Int32) : Int32 := if xoCount td a b c d e = true then (if zg G 9 a.toNatClampNeg e.toNatClampNeg = 0 then nI 1 else nI 0) else -1
def xCt (G : zG) (h f d m : Nat) (x : Int32) : zG := zu (zu (zu G 9 h m (nI 1)) 7 h 3 (nI 1)) 8 h (f * 40 + d) (zg G 8 h (f * 40 + d) + x)
def xOpn (G : zG) (f : Nat) : zG := zu (zu G 4 f 2 (-9)) 4 f 3 (zg (zu G 4 f 2 (-9)) 4 f 3 + nI 1)
def xsCount (G : zG) (td : Nat) (a b c d e : Int32) : zG := if xoCount td a b c d e = true then (if zg G 9 a.toNatClampNeg e.toNatClampNeg = 0 then (if d ≤ 0 then xCt G a.toNatClampNeg b.toNatClampNeg c.toNatClampNeg e.toNatClampNeg d else if xShut (xCt G a.toNatClampNeg b.toNatClampNeg c.toNatClampNeg e.toNatClampNeg d) b.toNatClampNeg c = true then xOpn (xCt G a.toNatClampNeg b.toNatClampNeg c.toNatClampNeg e.toNatClampNeg d) b.toNatClampNeg else xCt G a.toNatClampNeg b.toNatClampNeg c.toNatClampNeg e.toNatClampNeg d) else G) else G
def xoSum (a b c d : Int32) : Bool := zin a 6 && (zin b 8 && zspan c d)
def xaSum (G : zG) (a b c d : Int32) : Int32 := if xoSum a b c d = true then xSum G a.toNatClampNeg b.toNatClampNeg c.toNatClampNeg (d.toNatClampNeg + 1) else -1
def xaSilent (G : zG) (a : Int32) : Int32 := if zin a 6 = true then (if xSilent G a.toNatClampNeg = true then nI 1 else nI 0) else -1
def xMo (G : zG) (f a b : Nat) (z : Int32) : Nat → Int32
  | 0 => z
  | n + 1 => xMo G f a b z n + xSum G n f a (b + 1)
def xoMost (a b c : Int32) : Bool := zin a 8 && zspan b c
def xaMost (G : zG) (a b c : Int32) : Int32 := if xoMost a b c = true then xMo G a.toNatClampNeg b.toNatClampNeg c.toNatClampNeg ((nI (ctF (fun h => xSilent G h) 6) * zg G 0 0 6) * ((c - b) + nI 1)) 6 else -1
def xoHarm (vc : Nat) (a b c : Int32) : Bool := zin a 6 && (zin b 8 && zin c vc)
def xaHarm (G : zG) (vc : Nat) (a b c : Int32) : Int32 := if xoHarm vc a b c = true then (if xSilent G a.toNatClampNeg = true then nI 3 else if xUsed G a.toNatClampNeg b &&& xDif G b.toNatClampNeg (zg G 7 a.toNatClampNeg 4).toNatClampNeg c.toNatClampNeg = 0 then nI 0 else if xOnly G a.toNatClampNeg b (xDif G b.toNatClampNeg (zg G 7 a.toNatClampNeg 4).toNatClampNeg c.toNatClampNeg) = true then nI 2 else nI 1) else -1
def xoHolds (vc rc : Nat) (a b c : Int32) : Bool := zin a rc && (zin b vc && zin c vc)
def xRh (G : zG) (q v u : Nat) : Bool := xHeld G (zg G 17 q 0).toNatClampNeg (zg G 17 q 1) (zg G 17 q 2).toNatClampNeg (zg G 17 q 3).toNatClampNeg v u
def xaHolds (G : zG) (vc rc : Nat) (a b c : Int32) : Int32 := if xoHolds vc rc a b c = true then (if xRh G a.toNatClampNeg b.toNatClampNeg c.toNatClampNeg = true then nI 1 else nI 0) else -1
def xoClash (rc : Nat) (a b : Int32) : Bool := zin a rc && zin b rc
def xCl (G : zG) (p q : Nat) : Bool := decide (zg G 17 p 0 = zg G 17 q 0 ∧ ¬ zg G 17 p 1 &&& zg G 17 q 1 = 0 ∧ (¬ zg G 17 p 2 = zg G 17 q 2 ∨ ¬ zg G 17 p 3 = zg G 17 q 3))
def xaClash (G : zG) (rc : Nat) (a b : Int32) : Int32 := if xoClash rc a b = true then (if xCl G a.toNatClampNeg b.toNatClampNeg = true then nI 1 else nI 0) else -1
def xLf (G : zG) (f : Int32) (v u : Nat) (z : Int32) : Nat → Int32
  | 0 => z
  | n + 1 => if zg G 17 n 0 = f then (if xRh G n v u = true then xLf G f v u z n &&& (zg G 17 n 1 ^^^ (-1)) else xLf G f v u z n) else xLf G f v u z n
theorem xLf_0 {G : zG} {f : Int32} {v u : Nat} {z : Int32} {n : Nat} (h : ¬ zg G 17 n 0 = f) : xLf G f v u z (n + 1) = xLf G f v u z n := if_neg h
theorem xLf_1 {G : zG} {f : Int32} {v u : Nat} {z : Int32} {n : Nat} (h : zg G 17 n 0 = f) (h2 : xRh G n v u = true) : xLf G f v u z (n + 1) = xLf G f v u z n &&& (zg G 17 n 1 ^^^ (-1)) := (if_pos h).trans (if_pos h2)
theorem xLf_2 {G : zG} {f : Int32} {v u : Nat} {z : Int32} {n : Nat} (h : zg G 17 n 0 = f) (h2 : xRh G n v u = false) : xLf G f v u z (n + 1) = xLf G f v u z n := (if_pos h).trans (if_neg (by rw [h2]; decide))
def xaLeft (G : zG) (vc rc : Nat) (a b c : Int32) : Int32 := if xoHarm vc a b c = true then xLf G b (zg G 7 a.toNatClampNeg 4).toNatClampNeg c.toNatClampNeg (xUsed G a.toNatClampNeg b &&& xDif G b.toNatClampNeg (zg G 7 a.toNatClampNeg 4).toNatClampNeg c.toNatClampNeg) rc else -1
def xaDays (G : zG) (a : Int32) : Int32 := if a < nI 1 then -1 else if a ≤ nI 20 then (if zg G 0 0 5 + a ≤ nI 39 then zg G 0 0 5 + a else -2) else -1
def xsDays (G : zG) (a : Int32) : zG := if a < nI 1 then G else if a ≤ nI 20 then (if zg G 0 0 5 + a ≤ nI 39 then zu G 0 0 5 (zg G 0 0 5 + a) else G) else G
def xoPromise (a b c : Int32) : Bool := zin a 8 && (zin b 6 && (decide (c = -9) || zin c 40))
def xaPromise (G : zG) (a b c : Int32) : Int32 := if xoPromise a b c = true then (if xShut G a.toNatClampNeg (zg G 0 0 5) = true then -3 else zg G 6 a.toNatClampNeg b.toNatClampNeg) else -2
def xsPromise (G : zG) (a b c : Int32) : zG := if xoPromise a b c = true then (if xShut G a.toNatClampNeg (zg G 0 0 5) = true then G else if c = -9 then zu G 6 a.toNatClampNeg b.toNatClampNeg c else if xShut (zu G 6 a.toNatClampNeg b.toNatClampNeg c) a.toNatClampNeg c = true then zu (zu G 6 a.toNatClampNeg b.toNatClampNeg c) 4 a.toNatClampNeg 2 (c + nI 1) else zu G 6 a.toNatClampNeg b.toNatClampNeg c) else G
def xoShut (G : zG) (a b : Int32) : Bool := zin a 8 && (!decide (b < zg G 0 0 5) && decide (b ≤ nI 40))
def xaShut (G : zG) (a b : Int32) : Int32 := if xoShut G a b = true then (if xShut G a.toNatClampNeg (zg G 0 0 5) = true then -2 else if b ≤ xLat G a.toNatClampNeg then -2 else b) else -1
def xsShut (G : zG) (a b : Int32) : zG := if xoShut G a b = true then (if xShut G a.toNatClampNeg (zg G 0 0 5) = true then G else if b ≤ xLat G a.toNatClampNeg then G else zu G 4 a.toNatClampNeg 2 b) else G
def xaOpen (G : zG) (a : Int32) : Int32 := if zin a 8 = true then (if zg G 4 a.toNatClampNeg 2 = -9 then -2 else zg G 4 a.toNatClampNeg 2) else -1
def xsOpen (G : zG) (a : Int32) : zG := if zin a 8 = true then (if zg G 4 a.toNatClampNeg 2 = -9 then G else zu G 4 a.toNatClampNeg 2 (-9)) else G
def xaAbout (G : zG) (a b : Int32) : Int32 := if zin a 8 = true then (if b.toInt < 0 ∨ 3 < b.toInt then -1 else if b = nI 0 then zg G 4 a.toNatClampNeg 2 else if b = nI 1 then (if xShut G a.toNatClampNeg (zg G 0 0 5) = true then nI 1 else nI 0) else if b = nI 2 then xLat G a.toNatClampNeg else zg G 4 a.toNatClampNeg 3) else -1
def xHm (G : zG) (f : Int32) (d h : Nat) : Bool := !decide (xUsed G h f = 0) || decide (0 < xSum G h f.toNatClampNeg (d - 7) (min d 39 + 1))
def xHmd (G : zG) (f : Int32) (d : Nat) : Int32 := nI (ctF (fun h => xHm G f d h) 6)
def xaHarmed (G : zG) (a b : Int32) : Int32 := if (zin a 8 && zin b 41) = true then xHmd G a b.toNatClampNeg else -1
def xRd (G : zG) (a : Int32) (d : Nat) : Bool := decide (xHmd G a d = 0 ∧ xLat G a.toNatClampNeg < nI d)
/-- the first from n on (k places are left) -/
def fsT (c : Nat → Bool) : Nat → Nat → Int32
  | _, 0 => -9
  | n, k + 1 => if c n = true then nI n else fsT c (n + 1) k
def xaReady (G : zG) (td : Nat) (a : Int32) : Int32 := if zin a 8 = true then fsT (fun d => xRd G a d) td (41 - td) else -1
def xaSet (G : zG) (a b c : Int32) : Int32 := if zin c 1001 = true then (if a.toInt < 0 ∨ 2 < a.toInt then -1 else if a = nI 0 then (if zin b 8 = true then zg G 4 b.toNatClampNeg 4 else -1) else if a = nI 1 then (if zin b 6 = true then zg G 7 b.toNatClampNeg 5 else -1) else zg G 0 0 6) else -1
def xsSet (G : zG) (a b c : Int32) : zG := if zin c 1001 = true then (if a.toInt < 0 ∨ 2 < a.toInt then G else if a = nI 0 then (if zin b 8 = true then zu G 4 b.toNatClampNeg 4 c else G) else if a = nI 1 then (if zin b 6 = true then zu G 7 b.toNatClampNeg 5 c else G) else zu G 0 0 6 c) else G
def xPk (G : zG) (n : Nat) : Bool := xKept G n (xHrs G (nI n) 6)
def xPc (G : zG) : Nat → Int32
  | 0 => nI 0
  | n + 1 => if xPk G n = true then xPc G n + zg G 4 n 4 else xPc G n + xHrs G (nI n) 6
theorem xPc_t {G : zG} {n : Nat} (h : xPk G n = true) : xPc G (n + 1) = xPc G n + zg G 4 n 4 := if_pos h
theorem xPc_f {G : zG} {n : Nat} (h : xPk G n = false) : xPc G (n + 1) = xPc G n + xHrs G (nI n) 6 := if_neg (by rw [h]; decide)
def xaPlan (G : zG) (a : Int32) : Int32 := if a = 0 then bo (fun n => xPk G n) 8 else if a = nI 1 then xPc G 8 else -1
def xaTold (G : zG) (a : Int32) : Int32 := if a.toInt < 0 ∨ 4 < a.toInt then -1 else if a = nI 0 then zg G 0 0 4 else if a = nI 1 then zg G 0 0 5 else if a = nI 2 then zg G 0 0 3 else if a = nI 3 then nI (ctF (fun h => xSilent G h) 6) else nI (ctF (fun h => xShut G h (zg G 0 0 5)) 8)
theorem xCp_s (G : zG) (vc n : Nat) : xCp G vc (n + 1) = zuA (xCp G vc n) 5 n (va_cpy (zg (xCp G vc n) 5 n) (zg (xCp G vc n) 5 n) ((vc - 1) * 8) (vc * 8) 8) := rfl
theorem fsT_s {c : Nat → Bool} {n : Nat} (h : n < 41) : fsT c n (41 - n) = if c n = true then nI n else fsT c (n + 1) (41 - (n + 1)) := by
  rw [show 41 - n = (41 - (n + 1)) + 1 by omega]
  rfl
theorem zt0 : (nI 0).toInt = 0 := by decide +kernel
theorem zt1 : (nI 1).toInt = 1 := by decide +kernel
theorem zt2 : (nI 2).toInt = 2 := by decide +kernel
theorem zt3 : (nI 3).toInt = 3 := by decide +kernel
theorem zt4 : (nI 4).toInt = 4 := by decide +kernel
theorem zne01 : (nI 0 = nI 1) = False := eq_false (by decide +kernel)
theorem zne02 : (nI 0 = nI 2) = False := eq_false (by decide +kernel)
theorem zne03 : (nI 0 = nI 3) = False := eq_false (by decide +kernel)
theorem zne04 : (nI 0 = nI 4) = False := eq_false (by decide +kernel)
theorem zne10 : (nI 1 = nI 0) = False := eq_false (by decide +kernel)
theorem zne12 : (nI 1 = nI 2) = False := eq_false (by decide +kernel)
theorem zne13 : (nI 1 = nI 3) = False := eq_false (by decide +kernel)
theorem zne14 : (nI 1 = nI 4) = False := eq_false (by decide +kernel)
theorem zne20 : (nI 2 = nI 0) = False := eq_false (by decide +kernel)
theorem zne21 : (nI 2 = nI 1) = False := eq_false (by decide +kernel)
theorem zne23 : (nI 2 = nI 3) = False := eq_false (by decide +kernel)
theorem zne24 : (nI 2 = nI 4) = False := eq_false (by decide +kernel)
theorem zne30 : (nI 3 = nI 0) = False := eq_false (by decide +kernel)
theorem zne31 : (nI 3 = nI 1) = False := eq_false (by decide +kernel)
theorem zne32 : (nI 3 = nI 2) = False := eq_false (by decide +kernel)
theorem zne34 : (nI 3 = nI 4) = False := eq_false (by decide +kernel)
theorem zne40 : (nI 4 = nI 0) = False := eq_false (by decide +kernel)
theorem zne41 : (nI 4 = nI 1) = False := eq_false (by decide +kernel)
theorem zne42 : (nI 4 = nI 2) = False := eq_false (by decide +kernel)
theorem zne43 : (nI 4 = nI 3) = False := eq_false (by decide +kernel)
