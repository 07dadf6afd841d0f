def rm_X3_isFull : Room := { frames := 0, cells := 0, slots := 0, locals := 0 }
def f_TisFull (u : BS) : Bool := if (u 1 0) < (60 : Int32) then false else true
def rm_X3_size : Room := { frames := 0, cells := 0, slots := 0, locals := 0 }
def f_Tsize (u : BS) : Int32 := u 1 0
def rm_X3_signAt : Room := { frames := 0, cells := 0, slots := 0, locals := 0 }
def f_TsignAt (u : BS) (p0 : Int32) : Int32 := if p0 < 0 then (-1 : Int32) else if (u 1 0) ≤ p0 then (-1 : Int32) else if (60 : Int32) ≤ p0 then (-1 : Int32) else u 0 p0.toNatClampNeg
def rm_X3_add : Room := { frames := 0, cells := 0, slots := 0, locals := 0 }
def f_Tadd (u : BS) (p0 : Int32) : Int32 × BS := if (u 1 0) < 0 then (u 1 0, u) else if (60 : Int32) ≤ (u 1 0) then (u 1 0, u) else ((u 1 0) + (1 : Int32), upA (upA u 0 ((u 1 0).toNatClampNeg) p0) 1 0 ((u 1 0) + (1 : Int32)))
def rm_X3_empty : Room := { frames := 0, cells := 0, slots := 0, locals := 0 }
def f_Tempty (u : BS) : Int32 × BS := (u 1 0, upA u 1 0 (0 : Int32))
def rm_X1_kind : Room := { frames := 0, cells := 0, slots := 0, locals := 0 }
def f_Rkind (u : BS) : Int32 := u 5 0
def rm_X1_beat : Room := { frames := 0, cells := 0, slots := 0, locals := 0 }
def f_Rbeat (u : BS) : Int32 := u 6 0
def rm_X1_phase : Room := { frames := 0, cells := 0, slots := 0, locals := 0 }
def f_Rphase (u : BS) : Int32 := u 7 0
def rm_X1_spring : Room := { frames := 0, cells := 0, slots := 0, locals := 0 }
def f_Rspring (u : BS) : Int32 := u 8 0
def rm_X1_number : Room := { frames := 0, cells := 0, slots := 0, locals := 0 }
def f_Rnumber (u : BS) : Int32 := u 9 0
def rm_X1_beginText : Room := { frames := 0, cells := 0, slots := 0, locals := 0 }
def f_RbeginText (u : BS) : BS := upA u 0 0 (0 : Int32)
def rm_X1_expectNumber : Room := { frames := 0, cells := 0, slots := 0, locals := 0 }
def f_RexpectNumber (u : BS) (p0 : Int32) (p1 : Int32) (p2 : Int32) : Bool × BS := (true, upA (upA (upA (upA (upA u 0 0 p0) 1 0 p1) 2 0 p2) 3 0 (0 : Int32)) 4 0 (0 : Int32))
def rm_X1_readsLetter : Room := { frames := 1, cells := 0, slots := 0, locals := 23 }
def f_RreadsLetter (u : BS) (p0 : Int32) : Bool × BS := if p0 = (104 : Int32) then (((f_RexpectNumber (upA u 5 0 p0) (4 : Int32) (0 : Int32) (5 : Int32)).1), (f_RexpectNumber (upA u 5 0 p0) (4 : Int32) (0 : Int32) (5 : Int32)).2) else if p0 = (109 : Int32) then (((f_RexpectNumber (upA u 5 0 p0) (1 : Int32) (40 : Int32) (208 : Int32)).1), (f_RexpectNumber (upA u 5 0 p0) (1 : Int32) (40 : Int32) (208 : Int32)).2) else if p0 = (115 : Int32) then (((f_RexpectNumber (upA u 5 0 p0) (4 : Int32) (1 : Int32) (500 : Int32)).1), (f_RexpectNumber (upA u 5 0 p0) (4 : Int32) (1 : Int32) (500 : Int32)).2) else (false, upA u 5 0 p0)
def rm_X1_leadsIntoRange : Room := { frames := 0, cells := 0, slots := 0, locals := 0 }
def f_RleadsIntoRange_R24 (u : BS) (p0 : Int32) : Nat → Nat → Int32 → Int32 → Bool
  | 0, j24_, y24_0, y24_1 => false
  | n + 1, j24_, y24_0, y24_1 => if (u 2 0) < y24_0 then (f_RleadsIntoRange_R24 u p0 n (j24_ + 1) (y24_0 * (10 : Int32)) ((y24_1 * (10 : Int32)) + (9 : Int32))) else if y24_1 < (u 1 0) then (f_RleadsIntoRange_R24 u p0 n (j24_ + 1) (y24_0 * (10 : Int32)) ((y24_1 * (10 : Int32)) + (9 : Int32))) else true
def f_RleadsIntoRange (u : BS) (p0 : Int32) : Bool := if p0 = 0 then (if (u 1 0) = 0 then true else false) else f_RleadsIntoRange_R24 u p0 4 0 p0 p0
def rm_X1_readsDigit : Room := { frames := 1, cells := 0, slots := 0, locals := 24 }
def f_RreadsDigit (u : BS) (p0 : Int32) : Bool × BS := if (u 4 0) ≤ 0 then (if (f_RleadsIntoRange u (((u 3 0) * (10 : Int32)) + p0)) = true then (true, upA (upA u 3 0 (((u 3 0) * (10 : Int32)) + p0)) 4 0 ((u 4 0) + (1 : Int32))) else (false, u)) else if (u 3 0) = 0 then (false, u) else if (f_RleadsIntoRange u (((u 3 0) * (10 : Int32)) + p0)) = true then (true, upA (upA u 3 0 (((u 3 0) * (10 : Int32)) + p0)) 4 0 ((u 4 0) + (1 : Int32))) else (false, u)
def rm_X1_readsEndOfNumber : Room := { frames := 1, cells := 0, slots := 0, locals := 23 }
def f_RreadsEndOfNumber (u : BS) (p0 : Int32) : Bool × BS := if (u 0 0) = (1 : Int32) then (if p0 = (64 : Int32) then (if ((f_RexpectNumber (upA u 6 0 (u 3 0)) (2 : Int32) (0 : Int32) (3599 : Int32)).1) = true then (true, (f_RexpectNumber (upA u 6 0 (u 3 0)) (2 : Int32) (0 : Int32) (3599 : Int32)).2) else (false, (f_RexpectNumber (upA u 6 0 (u 3 0)) (2 : Int32) (0 : Int32) (3599 : Int32)).2)) else (false, upA u 6 0 (u 3 0))) else if (u 0 0) = (2 : Int32) then (if p0 = (42 : Int32) then (((f_RexpectNumber (upA (upA u 7 0 (u 3 0)) 8 0 (500 : Int32)) (3 : Int32) (1 : Int32) (999 : Int32)).1), (f_RexpectNumber (upA (upA u 7 0 (u 3 0)) 8 0 (500 : Int32)) (3 : Int32) (1 : Int32) (999 : Int32)).2) else if p0 = (59 : Int32) then (true, upA (upA (upA u 7 0 (u 3 0)) 8 0 (500 : Int32)) 0 0 (0 : Int32)) else (false, upA (upA (upA u 7 0 (u 3 0)) 8 0 (500 : Int32)) 0 0 (0 : Int32))) else if (u 0 0) = (3 : Int32) then (if p0 = (59 : Int32) then (true, upA (upA u 8 0 (u 3 0)) 0 0 (0 : Int32)) else (false, upA (upA u 8 0 (u 3 0)) 0 0 (0 : Int32))) else if p0 = (59 : Int32) then (true, upA (upA u 9 0 (u 3 0)) 0 0 (0 : Int32)) else (false, upA (upA u 9 0 (u 3 0)) 0 0 (0 : Int32))
def rm_X1_reads : Room := { frames := 2, cells := 0, slots := 0, locals := 47 }
def f_Rreads (u : BS) (p0 : Int32) : Bool × BS := if (u 0 0) = 0 then (((f_RreadsLetter u p0).1), (f_RreadsLetter u p0).2) else if p0 < (48 : Int32) then (if (u 4 0) ≤ 0 then (false, u) else if (u 3 0) < (u 1 0) then (false, u) else if ((f_RreadsEndOfNumber u p0).1) = true then (true, (f_RreadsEndOfNumber u p0).2) else (false, (f_RreadsEndOfNumber u p0).2)) else if (57 : Int32) < p0 then (if (u 4 0) ≤ 0 then (false, u) else if (u 3 0) < (u 1 0) then (false, u) else if ((f_RreadsEndOfNumber u p0).1) = true then (true, (f_RreadsEndOfNumber u p0).2) else (false, (f_RreadsEndOfNumber u p0).2)) else (((f_RreadsDigit u (p0 - (48 : Int32))).1), (f_RreadsDigit u (p0 - (48 : Int32))).2)