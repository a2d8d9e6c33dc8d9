def sJ13_compare_74951 (a0 : Int64) (a2 : Int64)  : Option (Int32) := if 0 ≤ (lg_cmp a0 a2) then if ¬ (lg_cmp a0 a2) = 0 then some (1 : Int32) else some (0 : Int32) else some (-1 : Int32)
abbrev rmJ13_compare_74951 : Room := { frames := 0, cells := 0, slots := 0, locals := 0 }
set_option maxHeartbeats 4000000 in
set_option maxRecDepth 100000 in
theorem c_J13_compare_74951 (l : Launch) (D : va_G) (ky : Nat → ClassId) (a0 : Int64) (a2 : Int64) {o_r : Int32} (h : sJ13_compare_74951 a0 a2 = some o_r) : MtI l D ky yJ13_compare_74951 wsJ13_compare_74951 rmJ13_compare_74951 [.long a0, .long a2] [] [] o_r 0 0 := by sorry
