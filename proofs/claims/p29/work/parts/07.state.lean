/-! the cells of the class and of the reference, by what they hold -/
abbrev tyl (cI cS cL : ClassId) : List (ClassId × FieldType) := [(cI, .int), (cS, .object RX4)]
theorem fit_b (b : Bool) : fits .boolean (.int (bI b)) = true := by cases b <;> rfl
/-- a TandemClocks.State -/
def stC (q : Nat → Nat) (cI : ClassId) (beams : Nat → Int32) (speeds : Nat → Int32) (phases : Nat → Int32) (springs : Nat → Int32) (strikes : Nat → Int32) (ways : Nat → Int32) (kickSums : Nat → Int32) (nearTicks : Nat → Int32) (gives : Nat → Int32) (settings : Nat → Int32) (ticks : Int32) (kicks : Int32) (strikeTicks : Int32) (pulls : Nat → Int32) (leaders : Nat → Int32) : va_W := [(q 0, .inr (2, [.ref (q 1), .ref (q 2), .ref (q 3), .ref (q 4), .ref (q 5), .ref (q 6), .ref (q 7), .ref (q 8), .ref (q 9), .ref (q 10), .int ticks, .int kicks, .int strikeTicks, .ref (q 11), .ref (q 12)])), (q 1, .inl (cI, 8, .inl beams)), (q 2, .inl (cI, 8, .inl speeds)), (q 3, .inl (cI, 8, .inl phases)), (q 4, .inl (cI, 8, .inl springs)), (q 5, .inl (cI, 8, .inl strikes)), (q 6, .inl (cI, 8, .inl ways)), (q 7, .inl (cI, 8, .inl kickSums)), (q 8, .inl (cI, 64, .inl nearTicks)), (q 9, .inl (cI, 3, .inl gives)), (q 10, .inl (cI, 3, .inl settings)), (q 11, .inl (cI, 8, .inl pulls)), (q 12, .inl (cI, 8, .inl leaders))]
/-- a row of numbers -/
def rwC (a : Nat) (cI : ClassId) (n : Nat) (f : Nat → Int32) : va_W := [(a, .inl (cI, n, .inl f))]
/-- the row of saved states -/
def sv6 (a0 a1 a2 a3 a4 a5 : Nat) : Nat → Option Nat := fun i => match i with
  | 0 => some a0
  | 1 => some a1
  | 2 => some a2
  | 3 => some a3
  | 4 => some a4
  | 5 => some a5
  | _ => none
def hsC (q : Nat → Nat) (cS : ClassId) (size : Nat) (a0 a1 a2 a3 a4 a5 : Nat) : va_W := [(q 0, .inr (0, [.ref (q 1), .int (nI size)])), (q 1, .inl (cS, 6, .inr (.inr (.inr (.inr (sv6 a0 a1 a2 a3 a4 a5))))))]
/-- what a State holds -/
abbrev StT : Type := (Nat → Int32) × (Nat → Int32) × (Nat → Int32) × (Nat → Int32) × (Nat → Int32) × (Nat → Int32) × (Nat → Int32) × (Nat → Int32) × (Nat → Int32) × (Nat → Int32) × Int32 × Int32 × Int32 × (Nat → Int32) × (Nat → Int32)
def stT (q : Nat → Nat) (cI : ClassId) (z : StT) : va_W := stC q cI z.1 z.2.1 z.2.2.1 z.2.2.2.1 z.2.2.2.2.1 z.2.2.2.2.2.1 z.2.2.2.2.2.2.1 z.2.2.2.2.2.2.2.1 z.2.2.2.2.2.2.2.2.1 z.2.2.2.2.2.2.2.2.2.1 z.2.2.2.2.2.2.2.2.2.2.1 z.2.2.2.2.2.2.2.2.2.2.2.1 z.2.2.2.2.2.2.2.2.2.2.2.2.1 z.2.2.2.2.2.2.2.2.2.2.2.2.2.1 z.2.2.2.2.2.2.2.2.2.2.2.2.2.2
/-- a History whole -/
def hbC (q : Nat → Nat) (cI cS : ClassId) (size : Nat) (qa : Nat → Nat → Nat) (z : Nat → StT) : va_W := [hsC q cS size (qa 0 0) (qa 1 0) (qa 2 0) (qa 3 0) (qa 4 0) (qa 5 0), stT (qa 0) cI (z 0), stT (qa 1) cI (z 1), stT (qa 2) cI (z 2), stT (qa 3) cI (z 3), stT (qa 4) cI (z 4), stT (qa 5) cI (z 5)].flatten
/-- the history behind a save: how many, whose cells, what they hold -/
def hsz (n : Nat) : Nat := if n = 6 then 6 else n + 1
def hqa (n : Nat) (qa : Nat → Nat → Nat) : Nat → Nat → Nat := if n = 6 then (fun i => qa (if i = 5 then 0 else i + 1)) else qa
def zcp (z w : StT) : StT := (z.1, z.2.1, z.2.2.1, z.2.2.2.1, z.2.2.2.2.1, z.2.2.2.2.2.1, z.2.2.2.2.2.2.1, z.2.2.2.2.2.2.2.1, z.2.2.2.2.2.2.2.2.1, z.2.2.2.2.2.2.2.2.2.1, z.2.2.2.2.2.2.2.2.2.2.1, z.2.2.2.2.2.2.2.2.2.2.2.1, z.2.2.2.2.2.2.2.2.2.2.2.2.1, w.2.2.2.2.2.2.2.2.2.2.2.2.2.1, w.2.2.2.2.2.2.2.2.2.2.2.2.2.2)
def hcc (n : Nat) (cc : Nat → StT) (z : StT) : Nat → StT := if n = 6 then (fun i => if i = 5 then zcp z (cc 0) else cc (i + 1)) else (fun i => if i = n then zcp z (cc n) else cc i)
/-- the class object -/
def tcC (q qn qt qs qH qx : Nat → Nat) (h : Bool) : va_W := [(q 0, .inr (3, [.ref (qn 0), .ref (qt 0), .ref (qs 0), .ref (qH 0), .ref (qx 0), .int (bI h)]))]
/-- an OrderText; ad: where the constants of Due are -/
def txC (q : Nat → Nat) (cI : ClassId) (ad : Nat → Nat) (codes : Nat → Int32) (len due : Nat) (letter clock : Int32) (isBack : Bool) (number : Int32) : va_W := [(q 0, .inr (1, [.ref (q 1), .int (nI len), .ref (ad due), .int letter, .int clock, .int (bI isBack), .int number])), (q 1, .inl (cI, 60, .inl codes))]
/-- the map of the switch over Due -/
def mapI (d : Nat) : Int32 := ([1, 2, 3, 4, 5, 6, 0] : List Int32).getD d 0
theorem sw_out {x : Int32} {lo hi : Int} (h : ∀ j : Int, lo ≤ j → j ≤ hi → ¬ x = Int32.ofInt j) : x.toInt < lo ∨ hi < x.toInt := by
  rcases Classical.em (x.toInt < lo ∨ hi < x.toInt) with q | q
  · exact q
  · exact absurd (by simp) (h x.toInt (by omega) (by omega))
theorem sw_ne {x v : Int32} {n : Int} (h : ¬ x = v) (e : v.toInt = n) : ¬ n = x.toInt := by
  intro h2
  exact h (Int32.toInt_inj.mp (by rw [e, h2]))
