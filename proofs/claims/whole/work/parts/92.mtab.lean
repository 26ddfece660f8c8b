/-! tables for the making of both objects: printed by wip/whole/genmake.py -/
/-- the fields of a new object -/
def dfl : Nat → List Value
  | 0 => [.null, .null, .null]
  | 1 => [.int 0, .null, .null]
  | 2 => [.int 0, .int 0, .int 0, .int 0, .int 0, .int 0, .null, .null, .null, .null, .null]
  | 3 => [.int 0]
  | 4 => [.int 0, .int 0, .null]
  | 5 => [.null, .int 0, .int 0, .null, .int 0, .int 0]
  | 6 => [.int 0, .null, .null]
  | 7 => [.int 0, .int 0, .int 0, .int 0, .int 0, .int 0, .int 0, .null, .null]
  | 8 => [.null, .int 0, .null, .null, .null]
  | 9 => [.null, .null, .null, .null, .null, .null, .null, .null, .null]
  | 10 => [.int 0, .int 0, .int 0, .int 0, .int 0, .null, .null, .null, .int 0, .null, .null, .int 0, .null, .int 0, .int 0, .int 0, .int 0, .int 0, .null, .int 0, .null, .null, .null, .null, .int 0, .null, .int 0, .null, .null, .null, .null, .int 0, .int 0, .null, .null, .int 0, .null, .null, .null, .null]
  | _ => []
def nwt : List (Nat × Nat × Nat) := [(11, 7, 9), (9, 7, 5), (5, 9, 2), (9, 16, 2), (9, 23, 7), (9, 30, 4), (4, 9, 7), (9, 37, 0), (0, 9, 7), (9, 44, 3), (9, 51, 8), (9, 58, 6), (9, 65, 1), (11, 10, 10)]
def okW (q : Nat × Nat × Nat) : Prop := ∃ (C : String) (T : u_T) (N : Nat) (ty : Nat → FieldType), classes[q.2.2]? = some (C, T, N) ∧ Cond.classLink (cn q.1) q.2.1 C ∈ gw ∧ Cond.instantiable C N ∈ gw ∧ Cond.initialized C ∈ gw ∧ (∀ k, k < N → parseFieldDescriptor (T k).2.2.1 = some (ty k)) ∧ (∀ j, j < N → defaultValue (ty j) = vp_V (dfl q.2.2) j) ∧ (dfl q.2.2).length = N
theorem okW0 : okW (11, 7, 9) := ⟨_, _, _, tyX9, rfl, gw_in (i := 63) (by decide +kernel) rfl, gw_in (i := 64) (by decide +kernel) rfl, gw_in (i := 49) (by decide +kernel) rfl, tyX9_ok, by decide +kernel, rfl⟩
theorem okW1 : okW (9, 7, 5) := ⟨_, _, _, tyX5, rfl, gw_in (i := 71) (by decide +kernel) rfl, gw_in (i := 72) (by decide +kernel) rfl, gw_in (i := 50) (by decide +kernel) rfl, tyX5_ok, by decide +kernel, rfl⟩
theorem okW2 : okW (5, 9, 2) := ⟨_, _, _, tyX2, rfl, gw_in (i := 77) (by decide +kernel) rfl, gw_in (i := 78) (by decide +kernel) rfl, gw_in (i := 51) (by decide +kernel) rfl, tyX2_ok, by decide +kernel, rfl⟩
theorem okW3 : okW (9, 16, 2) := ⟨_, _, _, tyX2, rfl, gw_in (i := 166) (by decide +kernel) rfl, gw_in (i := 78) (by decide +kernel) rfl, gw_in (i := 51) (by decide +kernel) rfl, tyX2_ok, by decide +kernel, rfl⟩
theorem okW4 : okW (9, 23, 7) := ⟨_, _, _, tyX7, rfl, gw_in (i := 168) (by decide +kernel) rfl, gw_in (i := 169) (by decide +kernel) rfl, gw_in (i := 52) (by decide +kernel) rfl, tyX7_ok, by decide +kernel, rfl⟩
theorem okW5 : okW (9, 30, 4) := ⟨_, _, _, tyX4, rfl, gw_in (i := 213) (by decide +kernel) rfl, gw_in (i := 214) (by decide +kernel) rfl, gw_in (i := 53) (by decide +kernel) rfl, tyX4_ok, by decide +kernel, rfl⟩
theorem okW6 : okW (4, 9, 7) := ⟨_, _, _, tyX7, rfl, gw_in (i := 219) (by decide +kernel) rfl, gw_in (i := 169) (by decide +kernel) rfl, gw_in (i := 52) (by decide +kernel) rfl, tyX7_ok, by decide +kernel, rfl⟩
theorem okW7 : okW (9, 37, 0) := ⟨_, _, _, tyX0, rfl, gw_in (i := 233) (by decide +kernel) rfl, gw_in (i := 234) (by decide +kernel) rfl, gw_in (i := 54) (by decide +kernel) rfl, tyX0_ok, by decide +kernel, rfl⟩
theorem okW8 : okW (0, 9, 7) := ⟨_, _, _, tyX7, rfl, gw_in (i := 239) (by decide +kernel) rfl, gw_in (i := 169) (by decide +kernel) rfl, gw_in (i := 52) (by decide +kernel) rfl, tyX7_ok, by decide +kernel, rfl⟩
theorem okW9 : okW (9, 44, 3) := ⟨_, _, _, tyX3, rfl, gw_in (i := 252) (by decide +kernel) rfl, gw_in (i := 253) (by decide +kernel) rfl, gw_in (i := 55) (by decide +kernel) rfl, tyX3_ok, by decide +kernel, rfl⟩
theorem okW10 : okW (9, 51, 8) := ⟨_, _, _, tyX8, rfl, gw_in (i := 264) (by decide +kernel) rfl, gw_in (i := 265) (by decide +kernel) rfl, gw_in (i := 56) (by decide +kernel) rfl, tyX8_ok, by decide +kernel, rfl⟩
theorem okW11 : okW (9, 58, 6) := ⟨_, _, _, tyX6, rfl, gw_in (i := 290) (by decide +kernel) rfl, gw_in (i := 291) (by decide +kernel) rfl, gw_in (i := 57) (by decide +kernel) rfl, tyX6_ok, by decide +kernel, rfl⟩
theorem okW12 : okW (9, 65, 1) := ⟨_, _, _, tyX1, rfl, gw_in (i := 307) (by decide +kernel) rfl, gw_in (i := 308) (by decide +kernel) rfl, gw_in (i := 58) (by decide +kernel) rfl, tyX1_ok, by decide +kernel, rfl⟩
theorem okW13 : okW (11, 10, 10) := ⟨_, _, _, tyX10, rfl, gw_in (i := 763) (by decide +kernel) rfl, gw_in (i := 764) (by decide +kernel) rfl, gw_in (i := 59) (by decide +kernel) rfl, tyX10_ok, by decide +kernel, rfl⟩
theorem nwt_ok : ∀ q ∈ nwt, okW q := List.forall_mem_cons.mpr ⟨okW0, List.forall_mem_cons.mpr ⟨okW1, List.forall_mem_cons.mpr ⟨okW2, List.forall_mem_cons.mpr ⟨okW3, List.forall_mem_cons.mpr ⟨okW4, List.forall_mem_cons.mpr ⟨okW5, List.forall_mem_cons.mpr ⟨okW6, List.forall_mem_cons.mpr ⟨okW7, List.forall_mem_cons.mpr ⟨okW8, List.forall_mem_cons.mpr ⟨okW9, List.forall_mem_cons.mpr ⟨okW10, List.forall_mem_cons.mpr ⟨okW11, List.forall_mem_cons.mpr ⟨okW12, List.forall_mem_cons.mpr ⟨okW13, fun _ h => absurd h List.not_mem_nil⟩⟩⟩⟩⟩⟩⟩⟩⟩⟩⟩⟩⟩⟩
def obt : List (Nat × Nat) := [(9, 1), (5, 3), (2, 3), (7, 3), (4, 3), (0, 3), (3, 1), (8, 3), (6, 3), (1, 3), (10, 1)]
def okO (q : Nat × Nat) : Prop := Cond.methodLink (cn q.1) q.2 objectInit ∈ gw
theorem okO0 : okO (9, 1) := gw_in (i := 68) (by decide +kernel) rfl
theorem okO1 : okO (5, 3) := gw_in (i := 76) (by decide +kernel) rfl
theorem okO2 : okO (2, 3) := gw_in (i := 82) (by decide +kernel) rfl
theorem okO3 : okO (7, 3) := gw_in (i := 173) (by decide +kernel) rfl
theorem okO4 : okO (4, 3) := gw_in (i := 218) (by decide +kernel) rfl
theorem okO5 : okO (0, 3) := gw_in (i := 238) (by decide +kernel) rfl
theorem okO6 : okO (3, 1) := gw_in (i := 257) (by decide +kernel) rfl
theorem okO7 : okO (8, 3) := gw_in (i := 269) (by decide +kernel) rfl
theorem okO8 : okO (6, 3) := gw_in (i := 295) (by decide +kernel) rfl
theorem okO9 : okO (1, 3) := gw_in (i := 312) (by decide +kernel) rfl
theorem okO10 : okO (10, 1) := gw_in (i := 768) (by decide +kernel) rfl
theorem obt_ok : ∀ q ∈ obt, okO q := List.forall_mem_cons.mpr ⟨okO0, List.forall_mem_cons.mpr ⟨okO1, List.forall_mem_cons.mpr ⟨okO2, List.forall_mem_cons.mpr ⟨okO3, List.forall_mem_cons.mpr ⟨okO4, List.forall_mem_cons.mpr ⟨okO5, List.forall_mem_cons.mpr ⟨okO6, List.forall_mem_cons.mpr ⟨okO7, List.forall_mem_cons.mpr ⟨okO8, List.forall_mem_cons.mpr ⟨okO9, List.forall_mem_cons.mpr ⟨okO10, fun _ h => absurd h List.not_mem_nil⟩⟩⟩⟩⟩⟩⟩⟩⟩⟩⟩
theorem ob_inst : Cond.instanceMethod objectInit ∈ gw := gw_in (i := 69) (by decide +kernel) rfl
theorem ob_code : Cond.code objectInit ⟨#[0xb1]⟩ 1 none ∈ gw := gw_in (i := 70) (by decide +kernel) rfl
def kct : List (MethodName × ByteArray × Nat) := [(yX0_init, cX0_init, 2), (yX1_init, cX1_init, 1), (yX2_init, cX2_init, 1), (yX3_init, cX3_init, 1), (yX4_init, cX4_init, 2), (yX5_init, cX5_init, 1), (yX6_init, cX6_init, 1), (yX7_init, cX7_init, 1), (yX8_init, cX8_init, 1), (yX9_init, cX9_init, 1), (yX10_init, cX10_init, 1)]
def okI (j : Nat) (q : MethodName × ByteArray × Nat) : Prop := (plainName q.1.cls = true ∧ q.1.cls ≠ "java/lang/invoke/MethodHandle" ∧ q.1.cls ≠ "java/lang/invoke/VarHandle" ∧ (parseMethodDescriptor q.1.desc).map (fun d => d.parameters.length) = some 0) ∧ q.1.cls = cn j ∧ q.1.name = "<init>" ∧ (1 ≤ q.2.2 ∧ q.2.2 ≤ 21) ∧ Cond.code q.1 q.2.1 q.2.2 none ∈ gw ∧ Cond.initialized q.1.cls ∈ gw ∧ Cond.instanceMethod q.1 ∈ gw
set_option maxRecDepth 100000 in
theorem okI0 : okI 0 (yX0_init, cX0_init, 2) := ⟨⟨by decide +kernel, by decide +kernel, by decide +kernel, by decide +kernel⟩, rfl, rfl, ⟨Nat.le_of_ble_eq_true rfl, Nat.le_of_ble_eq_true rfl⟩, gw_in (i := 237) rfl rfl, gw_in (i := 54) (by decide +kernel) rfl, gw_in (i := 236) (by decide +kernel) rfl⟩
set_option maxRecDepth 100000 in
theorem okI1 : okI 1 (yX1_init, cX1_init, 1) := ⟨⟨by decide +kernel, by decide +kernel, by decide +kernel, by decide +kernel⟩, rfl, rfl, ⟨Nat.le_of_ble_eq_true rfl, Nat.le_of_ble_eq_true rfl⟩, gw_in (i := 311) rfl rfl, gw_in (i := 58) (by decide +kernel) rfl, gw_in (i := 310) (by decide +kernel) rfl⟩
set_option maxRecDepth 100000 in
theorem okI2 : okI 2 (yX2_init, cX2_init, 1) := ⟨⟨by decide +kernel, by decide +kernel, by decide +kernel, by decide +kernel⟩, rfl, rfl, ⟨Nat.le_of_ble_eq_true rfl, Nat.le_of_ble_eq_true rfl⟩, gw_in (i := 81) rfl rfl, gw_in (i := 51) (by decide +kernel) rfl, gw_in (i := 80) (by decide +kernel) rfl⟩
set_option maxRecDepth 100000 in
theorem okI3 : okI 3 (yX3_init, cX3_init, 1) := ⟨⟨by decide +kernel, by decide +kernel, by decide +kernel, by decide +kernel⟩, rfl, rfl, ⟨Nat.le_of_ble_eq_true rfl, Nat.le_of_ble_eq_true rfl⟩, gw_in (i := 256) rfl rfl, gw_in (i := 55) (by decide +kernel) rfl, gw_in (i := 255) (by decide +kernel) rfl⟩
set_option maxRecDepth 100000 in
theorem okI4 : okI 4 (yX4_init, cX4_init, 2) := ⟨⟨by decide +kernel, by decide +kernel, by decide +kernel, by decide +kernel⟩, rfl, rfl, ⟨Nat.le_of_ble_eq_true rfl, Nat.le_of_ble_eq_true rfl⟩, gw_in (i := 217) rfl rfl, gw_in (i := 53) (by decide +kernel) rfl, gw_in (i := 216) (by decide +kernel) rfl⟩
set_option maxRecDepth 100000 in
theorem okI5 : okI 5 (yX5_init, cX5_init, 1) := ⟨⟨by decide +kernel, by decide +kernel, by decide +kernel, by decide +kernel⟩, rfl, rfl, ⟨Nat.le_of_ble_eq_true rfl, Nat.le_of_ble_eq_true rfl⟩, gw_in (i := 75) rfl rfl, gw_in (i := 50) (by decide +kernel) rfl, gw_in (i := 74) (by decide +kernel) rfl⟩
set_option maxRecDepth 100000 in
theorem okI6 : okI 6 (yX6_init, cX6_init, 1) := ⟨⟨by decide +kernel, by decide +kernel, by decide +kernel, by decide +kernel⟩, rfl, rfl, ⟨Nat.le_of_ble_eq_true rfl, Nat.le_of_ble_eq_true rfl⟩, gw_in (i := 294) rfl rfl, gw_in (i := 57) (by decide +kernel) rfl, gw_in (i := 293) (by decide +kernel) rfl⟩
set_option maxRecDepth 100000 in
theorem okI7 : okI 7 (yX7_init, cX7_init, 1) := ⟨⟨by decide +kernel, by decide +kernel, by decide +kernel, by decide +kernel⟩, rfl, rfl, ⟨Nat.le_of_ble_eq_true rfl, Nat.le_of_ble_eq_true rfl⟩, gw_in (i := 172) rfl rfl, gw_in (i := 52) (by decide +kernel) rfl, gw_in (i := 171) (by decide +kernel) rfl⟩
set_option maxRecDepth 100000 in
theorem okI8 : okI 8 (yX8_init, cX8_init, 1) := ⟨⟨by decide +kernel, by decide +kernel, by decide +kernel, by decide +kernel⟩, rfl, rfl, ⟨Nat.le_of_ble_eq_true rfl, Nat.le_of_ble_eq_true rfl⟩, gw_in (i := 268) rfl rfl, gw_in (i := 56) (by decide +kernel) rfl, gw_in (i := 267) (by decide +kernel) rfl⟩
set_option maxRecDepth 100000 in
theorem okI9 : okI 9 (yX9_init, cX9_init, 1) := ⟨⟨by decide +kernel, by decide +kernel, by decide +kernel, by decide +kernel⟩, rfl, rfl, ⟨Nat.le_of_ble_eq_true rfl, Nat.le_of_ble_eq_true rfl⟩, gw_in (i := 67) rfl rfl, gw_in (i := 49) (by decide +kernel) rfl, gw_in (i := 66) (by decide +kernel) rfl⟩
set_option maxRecDepth 100000 in
theorem okI10 : okI 10 (yX10_init, cX10_init, 1) := ⟨⟨by decide +kernel, by decide +kernel, by decide +kernel, by decide +kernel⟩, rfl, rfl, ⟨Nat.le_of_ble_eq_true rfl, Nat.le_of_ble_eq_true rfl⟩, gw_in (i := 767) rfl rfl, gw_in (i := 59) (by decide +kernel) rfl, gw_in (i := 766) (by decide +kernel) rfl⟩
theorem kct_ok : ∀ (j : Nat) (q : MethodName × ByteArray × Nat), kct[j]? = some q → okI j q := by
  intro j q h
  match j, h with
  | 0, h => cases h; exact okI0
  | 1, h => cases h; exact okI1
  | 2, h => cases h; exact okI2
  | 3, h => cases h; exact okI3
  | 4, h => cases h; exact okI4
  | 5, h => cases h; exact okI5
  | 6, h => cases h; exact okI6
  | 7, h => cases h; exact okI7
  | 8, h => cases h; exact okI8
  | 9, h => cases h; exact okI9
  | 10, h => cases h; exact okI10
  | j + 11, h => exact absurd h (by simp [kct])
/-- the nest links that the constructors need -/
def nstt : List (Nat × Nat × Nat) := [(9, 9, 5), (5, 11, 2), (9, 18, 2), (9, 25, 7), (4, 17, 7), (0, 25, 7), (9, 46, 3), (9, 53, 8), (9, 60, 6), (9, 67, 1)]
def nstw (q : Nat × Nat × Nat) : Cond := .methodLinkNest (cn q.1) q.2.1 ((kct.getD q.2.2 (yX0_init, cX0_init, 1)).1) RX9
theorem okT0 : nstw (9, 9, 5) ∈ lw_tbl := List.mem_of_getElem? (i := 73) (by decide +kernel)
theorem okT1 : nstw (5, 11, 2) ∈ lw_tbl := List.mem_of_getElem? (i := 79) (by decide +kernel)
theorem okT2 : nstw (9, 18, 2) ∈ lw_tbl := List.mem_of_getElem? (i := 167) (by decide +kernel)
theorem okT3 : nstw (9, 25, 7) ∈ lw_tbl := List.mem_of_getElem? (i := 170) (by decide +kernel)
theorem okT4 : nstw (4, 17, 7) ∈ lw_tbl := List.mem_of_getElem? (i := 221) (by decide +kernel)
theorem okT5 : nstw (0, 25, 7) ∈ lw_tbl := List.mem_of_getElem? (i := 240) (by decide +kernel)
theorem okT6 : nstw (9, 46, 3) ∈ lw_tbl := List.mem_of_getElem? (i := 254) (by decide +kernel)
theorem okT7 : nstw (9, 53, 8) ∈ lw_tbl := List.mem_of_getElem? (i := 266) (by decide +kernel)
theorem okT8 : nstw (9, 60, 6) ∈ lw_tbl := List.mem_of_getElem? (i := 292) (by decide +kernel)
theorem okT9 : nstw (9, 67, 1) ∈ lw_tbl := List.mem_of_getElem? (i := 309) (by decide +kernel)
theorem nstt_ok : ∀ q ∈ nstt, nstw q ∈ lw_tbl := List.forall_mem_cons.mpr ⟨okT0, List.forall_mem_cons.mpr ⟨okT1, List.forall_mem_cons.mpr ⟨okT2, List.forall_mem_cons.mpr ⟨okT3, List.forall_mem_cons.mpr ⟨okT4, List.forall_mem_cons.mpr ⟨okT5, List.forall_mem_cons.mpr ⟨okT6, List.forall_mem_cons.mpr ⟨okT7, List.forall_mem_cons.mpr ⟨okT8, List.forall_mem_cons.mpr ⟨okT9, fun _ h => absurd h List.not_mem_nil⟩⟩⟩⟩⟩⟩⟩⟩⟩⟩
def plt : List (Nat × Nat × Nat) := [(11, 9, 9), (9, 32, 4), (9, 39, 0), (11, 12, 10)]
def okP (q : Nat × Nat × Nat) : Prop := Cond.methodLink (cn q.1) q.2.1 ((kct.getD q.2.2 (yX0_init, cX0_init, 1)).1) ∈ gw
theorem okP0 : okP (11, 9, 9) := gw_in (i := 65) (by decide +kernel) rfl
theorem okP1 : okP (9, 32, 4) := gw_in (i := 215) (by decide +kernel) rfl
theorem okP2 : okP (9, 39, 0) := gw_in (i := 235) (by decide +kernel) rfl
theorem okP3 : okP (11, 12, 10) := gw_in (i := 765) (by decide +kernel) rfl
theorem plt_ok : ∀ q ∈ plt, okP q := List.forall_mem_cons.mpr ⟨okP0, List.forall_mem_cons.mpr ⟨okP1, List.forall_mem_cons.mpr ⟨okP2, List.forall_mem_cons.mpr ⟨okP3, fun _ h => absurd h List.not_mem_nil⟩⟩⟩⟩
def ant : List (Nat × Nat) := [(4, 9), (0, 9)]
theorem okA0 : Cond.classLink (cn 4) 9 RX7 ∈ gw := gw_in (i := 219) (by decide +kernel) rfl
theorem okA1 : Cond.classLink (cn 0) 9 RX7 ∈ gw := gw_in (i := 239) (by decide +kernel) rfl
theorem ant_ok : ∀ q ∈ ant, Cond.classLink (cn q.1) q.2 RX7 ∈ gw := List.forall_mem_cons.mpr ⟨okA0, List.forall_mem_cons.mpr ⟨okA1, fun _ h => absurd h List.not_mem_nil⟩⟩
theorem mna_link : Cond.classLink (cn 8) 15 "[[I" ∈ gw := gw_in (i := 270) (by decide +kernel) rfl
theorem ov_state : Cond.arrayOver (.object RX7) ∈ lw_tbl := List.mem_of_getElem? (i := 220) (by decide +kernel)
theorem ov_rows : Cond.arrayOver (.array .int) ∈ lw_tbl := List.mem_of_getElem? (i := 271) (by decide +kernel)
theorem ac_int : Cond.arrayClass .int ∈ gw := gw_in (i := 143) (by decide +kernel) rfl
theorem ac_boolean : Cond.arrayClass .boolean ∈ gw := gw_in (i := 251) (by decide +kernel) rfl
/-- the fields: whose they are, which may be put in a constructor, and of what kind -/
def okFld (q : vw_C) : Bool := (List.range q.2.2).all (fun k => decide ((q.2.1 k).1 = q.1) && (if (q.2.1 k).2.2.2 then (match parseFieldDescriptor (q.2.1 k).2.2.1 with | some ty => ty.isReference | none => false) else decide ((q.2.1 k).2.2.1 = "I")))
theorem okFld_all : classes.all okFld = true := by decide +kernel
