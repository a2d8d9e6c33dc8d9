def sJ9_floorDiv_f86c9 (a0 : Int64) (a2 : Int64)  : Option (Int64) := gd (¬ a2 = 0) (lt (a0 / a2) (fun x1 => if 0 ≤ (lg_cmp (a0 ^^^ a2) (0 : Int64)) then some x1 else if (lg_cmp (x1 * a2) a0) = 0 then some x1 else some (x1 - (1 : Int64))))
abbrev rmJ9_floorDiv_f86c9 : Room := { frames := 0, cells := 0, slots := 0, locals := 0 }
set_option maxHeartbeats 4000000 in
set_option maxRecDepth 100000 in
theorem c_J9_floorDiv_f86c9 (l : Launch) (D : va_G) (ky : Nat → ClassId) (a0 : Int64) (a2 : Int64) {o_r : Int64} (h : sJ9_floorDiv_f86c9 a0 a2 = some o_r) : MtL l D ky yJ9_floorDiv_f86c9 wsJ9_floorDiv_f86c9 rmJ9_floorDiv_f86c9 [.long a0, .long a2] [] [] o_r 0 0 := by sorry
def sJ9_floorMod_f86c9 (a0 : Int64) (a2 : Int64)  : Option (Int64) := gd (¬ a2 = 0) (lt (a0 - a0 / a2 * a2) (fun x1 => if 0 ≤ (lg_cmp (a0 ^^^ a2) (0 : Int64)) then some x1 else if (lg_cmp x1 (0 : Int64)) = 0 then some x1 else some (x1 + a2)))
abbrev rmJ9_floorMod_f86c9 : Room := { frames := 0, cells := 0, slots := 0, locals := 0 }
set_option maxHeartbeats 4000000 in
set_option maxRecDepth 100000 in
theorem c_J9_floorMod_f86c9 (l : Launch) (D : va_G) (ky : Nat → ClassId) (a0 : Int64) (a2 : Int64) {o_r : Int64} (h : sJ9_floorMod_f86c9 a0 a2 = some o_r) : MtL l D ky yJ9_floorMod_f86c9 wsJ9_floorMod_f86c9 rmJ9_floorMod_f86c9 [.long a0, .long a2] [] [] o_r 0 0 := by sorry
def sJ13_signum_95d88 (a0 : Int64)  : Option (Int32) := some (((a0 >>> ((63 : Int32).toInt64 &&& 63)) ||| (((-a0).toUInt64 >>> ((63 : Int32).toInt64.toUInt64 &&& Int64.toUInt64 63)).toInt64)).toInt32)
abbrev rmJ13_signum_95d88 : Room := { frames := 0, cells := 0, slots := 0, locals := 0 }
set_option maxHeartbeats 4000000 in
set_option maxRecDepth 100000 in
theorem c_J13_signum_95d88 (l : Launch) (D : va_G) (ky : Nat → ClassId) (a0 : Int64) {o_r : Int32} (h : sJ13_signum_95d88 a0 = some o_r) : MtI l D ky yJ13_signum_95d88 wsJ13_signum_95d88 rmJ13_signum_95d88 [.long a0] [] [] o_r 0 0 := by sorry
def bX9_greatestCommon_7  (t : Int32 × Int32 × Int32) : Option (Nat × (Int32 × Int32 × Int32)) := dm3 t (fun (v1 : Int32) (v2 : Int32) (v3 : Int32) => if (50 : Int32) ≤ v3 then some (1, (v1, v2, v3)) else if v2 = 0 then some (1, (v1, v2, v3)) else gd (¬ v2 = 0) (lt (v1 - v1 / v2 * v2) (fun x4 => lt (v3 + 1) (fun x5 => some (0, (v2, x4, x5))))))
def sX9_greatestCommon (a0 : Int32) (a1 : Int32)  : Option (Int32) := ob (iter (bX9_greatestCommon_7 ) FU (a0, a1, (0 : Int32))) (fun kt => ex1 kt (fun t => dm3 t (fun (v6 : Int32) (v7 : Int32) (v8 : Int32) => some v6)))
abbrev rmX9_greatestCommon : Room := { frames := 0, cells := 0, slots := 0, locals := 0 }
set_option maxHeartbeats 4000000 in
set_option maxRecDepth 100000 in
theorem c_X9_greatestCommon (l : Launch) (D : va_G) (ky : Nat → ClassId) (a0 : Int32) (a1 : Int32) {o_r : Int32} (h : sX9_greatestCommon a0 a1 = some o_r) : MtI l D ky yX9_greatestCommon wsX9_greatestCommon rmX9_greatestCommon [.int a0, .int a1] [] [] o_r 0 0 := by sorry
