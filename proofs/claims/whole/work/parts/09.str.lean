abbrev rJ0_length_8abf5 : Room := { frames := 2, cells := 0, slots := 0, locals := 60 }
abbrev rJ0_charAt_5068e : Room := { frames := 5, cells := 0, slots := 0, locals := 130 }
def f_J0_length_8abf5 (p0 : Nat) (M : Mm) : Option (Int32 × Mm) := ck (p0 < 16) (some (nI (snL.getD p0 0), M))
def f_J0_charAt_5068e (p0 : Nat) (p1 : Int32) (M : Mm) : Option (Int32 × Mm) := ck (p0 < 16 ∧ inb p1 (snL.getD p0 0)) (some ((sbL.getD p0 []).getD p1.toNatClampNeg 0, M))
theorem cal_J0_length_8abf5 : CalOk yJ0_length_8abf5 cJ0_length_8abf5 1 (some .int) 0 := sorry
theorem cal_J0_charAt_5068e : CalOk yJ0_charAt_5068e cJ0_charAt_5068e 2 (some .char) 1 := sorry
theorem t_J0_length_8abf5 (p0 : Nat) (M : Mm) (x : Int32) (M' : Mm) (h : f_J0_length_8abf5 p0 M = some (x, M')) : Ctr yJ0_length_8abf5 cJ0_length_8abf5 1 (some .int) rJ0_length_8abf5 (fun g => [.ref (g.2.2.2.1 p0)]) M (zI x) M' := sorry
theorem t_J0_charAt_5068e (p0 : Nat) (p1 : Int32) (M : Mm) (x : Int32) (M' : Mm) (h : f_J0_charAt_5068e p0 p1 M = some (x, M')) : Ctr yJ0_charAt_5068e cJ0_charAt_5068e 2 (some .char) rJ0_charAt_5068e (fun g => [.ref (g.2.2.2.1 p0), .int p1]) M (zI x) M' := sorry
