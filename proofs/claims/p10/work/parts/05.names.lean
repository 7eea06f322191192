/-! Names: classes, their fields, and a row for each field that an instruction names (by wip/gen/names.py). -/
def Rc_a : String := "AlarmForge"
def Fc_a : u_T := fun k => match k with
  | 0 => ("AlarmForge", "unroll", "I", false)
  | 1 => ("AlarmForge", "narrow", "I", false)
  | 2 => ("AlarmForge", "parser", "LAlarmForge$Parser;", true)
  | 3 => ("AlarmForge", "reader", "LAlarmForge$Reader;", true)
  | 4 => ("AlarmForge", "program", "LAlarmForge$Program;", false)
  | 5 => ("AlarmForge", "spare", "LAlarmForge$Program;", false)
  | 6 => ("AlarmForge", "parsed", "Z", false)
  | 7 => ("AlarmForge", "runner", "LAlarmForge$Runner;", true)
  | _ => ("AlarmForge", "analyser", "LAlarmForge$Analyser;", true)
def tc_a : Nat → FieldType := fun k => match k with
  | 0 => .int
  | 1 => .int
  | 2 => .object "AlarmForge$Parser"
  | 3 => .object "AlarmForge$Reader"
  | 4 => .object "AlarmForge$Program"
  | 5 => .object "AlarmForge$Program"
  | 6 => .boolean
  | 7 => .object "AlarmForge$Runner"
  | _ => .object "AlarmForge$Analyser"
theorem nc_a : ∀ a, a < 9 → ∀ b, b < 9 → a ≠ b → (Fc_a a).2.1 ≠ (Fc_a b).2.1 := by decide +kernel
theorem tc_a_ok : ∀ k, k < 9 → parseFieldDescriptor (Fc_a k).2.2.1 = some (tc_a k) := by decide +kernel
theorem ic_a : ∀ w ∈ u_ws Rc_a Fc_a 9, w ∈ gt := by
  intro w hw
  obtain ⟨k, hk, rfl⟩ := List.mem_map.mp hw
  rw [List.mem_range] at hk
  match k, hk with
  | 0, _ => exact gt_of (i := 349) (by decide +kernel) (by decide +kernel)
  | 1, _ => exact gt_of (i := 351) (by decide +kernel) (by decide +kernel)
  | 2, _ => exact gt_of (i := 353) (by decide +kernel) (by decide +kernel)
  | 3, _ => exact gt_of (i := 355) (by decide +kernel) (by decide +kernel)
  | 4, _ => exact gt_of (i := 357) (by decide +kernel) (by decide +kernel)
  | 5, _ => exact gt_of (i := 359) (by decide +kernel) (by decide +kernel)
  | 6, _ => exact gt_of (i := 361) (by decide +kernel) (by decide +kernel)
  | 7, _ => exact gt_of (i := 363) (by decide +kernel) (by decide +kernel)
  | 8, _ => exact gt_of (i := 365) (by decide +kernel) (by decide +kernel)
  | k + 9, hk => omega
def Rc_rd : String := "AlarmForge$Reader"
def Fc_rd : u_T := fun k => match k with
  | 0 => ("AlarmForge$Reader", "characters", "[C", true)
  | 1 => ("AlarmForge$Reader", "kinds", "[I", true)
  | 2 => ("AlarmForge$Reader", "places", "[I", true)
  | 3 => ("AlarmForge$Reader", "numbers", "[I", true)
  | 4 => ("AlarmForge$Reader", "length", "I", false)
  | 5 => ("AlarmForge$Reader", "at", "I", false)
  | 6 => ("AlarmForge$Reader", "kind", "I", false)
  | 7 => ("AlarmForge$Reader", "place", "I", false)
  | _ => ("AlarmForge$Reader", "number", "I", false)
def tc_rd : Nat → FieldType := fun k => match k with
  | 0 => .array .char
  | 1 => .array .int
  | 2 => .array .int
  | 3 => .array .int
  | 4 => .int
  | 5 => .int
  | 6 => .int
  | 7 => .int
  | _ => .int
theorem nc_rd : ∀ a, a < 9 → ∀ b, b < 9 → a ≠ b → (Fc_rd a).2.1 ≠ (Fc_rd b).2.1 := by decide +kernel
theorem tc_rd_ok : ∀ k, k < 9 → parseFieldDescriptor (Fc_rd k).2.2.1 = some (tc_rd k) := by decide +kernel
theorem ic_rd : ∀ w ∈ u_ws Rc_rd Fc_rd 9, w ∈ gt := by
  intro w hw
  obtain ⟨k, hk, rfl⟩ := List.mem_map.mp hw
  rw [List.mem_range] at hk
  match k, hk with
  | 0, _ => exact gt_of (i := 58) (by decide +kernel) (by decide +kernel)
  | 1, _ => exact gt_of (i := 60) (by decide +kernel) (by decide +kernel)
  | 2, _ => exact gt_of (i := 62) (by decide +kernel) (by decide +kernel)
  | 3, _ => exact gt_of (i := 64) (by decide +kernel) (by decide +kernel)
  | 4, _ => exact gt_of (i := 66) (by decide +kernel) (by decide +kernel)
  | 5, _ => exact gt_of (i := 68) (by decide +kernel) (by decide +kernel)
  | 6, _ => exact gt_of (i := 70) (by decide +kernel) (by decide +kernel)
  | 7, _ => exact gt_of (i := 72) (by decide +kernel) (by decide +kernel)
  | 8, _ => exact gt_of (i := 74) (by decide +kernel) (by decide +kernel)
  | k + 9, hk => omega
def Rc_pa : String := "AlarmForge$Parser"
def Fc_pa : u_T := fun k => match k with
  | 0 => ("AlarmForge$Parser", "reader", "LAlarmForge$Reader;", true)
  | 1 => ("AlarmForge$Parser", "at", "I", false)
  | 2 => ("AlarmForge$Parser", "program", "LAlarmForge$Program;", false)
  | _ => ("AlarmForge$Parser", "fault", "I", false)
def tc_pa : Nat → FieldType := fun k => match k with
  | 0 => .object "AlarmForge$Reader"
  | 1 => .int
  | 2 => .object "AlarmForge$Program"
  | _ => .int
theorem nc_pa : ∀ a, a < 4 → ∀ b, b < 4 → a ≠ b → (Fc_pa a).2.1 ≠ (Fc_pa b).2.1 := by decide +kernel
theorem tc_pa_ok : ∀ k, k < 4 → parseFieldDescriptor (Fc_pa k).2.2.1 = some (tc_pa k) := by decide +kernel
theorem ic_pa : ∀ w ∈ u_ws Rc_pa Fc_pa 4, w ∈ gt := by
  intro w hw
  obtain ⟨k, hk, rfl⟩ := List.mem_map.mp hw
  rw [List.mem_range] at hk
  match k, hk with
  | 0, _ => exact gt_of (i := 85) (by decide +kernel) (by decide +kernel)
  | 1, _ => exact gt_of (i := 87) (by decide +kernel) (by decide +kernel)
  | 2, _ => exact gt_of (i := 89) (by decide +kernel) (by decide +kernel)
  | 3, _ => exact gt_of (i := 91) (by decide +kernel) (by decide +kernel)
  | k + 4, hk => omega
def Rc_pg : String := "AlarmForge$Program"
def Fc_pg : u_T := fun k => match k with
  | 0 => ("AlarmForge$Program", "statements", "[LAlarmForge$Statement;", true)
  | 1 => ("AlarmForge$Program", "statementCount", "I", false)
  | 2 => ("AlarmForge$Program", "kinds", "[I", true)
  | 3 => ("AlarmForge$Program", "numbers", "[I", true)
  | 4 => ("AlarmForge$Program", "places", "[I", true)
  | 5 => ("AlarmForge$Program", "stepCount", "I", false)
  | _ => ("AlarmForge$Program", "first", "LAlarmForge$Statement;", false)
def tc_pg : Nat → FieldType := fun k => match k with
  | 0 => .array (.object "AlarmForge$Statement")
  | 1 => .int
  | 2 => .array .int
  | 3 => .array .int
  | 4 => .array .int
  | 5 => .int
  | _ => .object "AlarmForge$Statement"
theorem nc_pg : ∀ a, a < 7 → ∀ b, b < 7 → a ≠ b → (Fc_pg a).2.1 ≠ (Fc_pg b).2.1 := by decide +kernel
theorem tc_pg_ok : ∀ k, k < 7 → parseFieldDescriptor (Fc_pg k).2.2.1 = some (tc_pg k) := by decide +kernel
theorem ic_pg : ∀ w ∈ u_ws Rc_pg Fc_pg 7, w ∈ gt := by
  intro w hw
  obtain ⟨k, hk, rfl⟩ := List.mem_map.mp hw
  rw [List.mem_range] at hk
  match k, hk with
  | 0, _ => exact gt_of (i := 179) (by decide +kernel) (by decide +kernel)
  | 1, _ => exact gt_of (i := 181) (by decide +kernel) (by decide +kernel)
  | 2, _ => exact gt_of (i := 183) (by decide +kernel) (by decide +kernel)
  | 3, _ => exact gt_of (i := 185) (by decide +kernel) (by decide +kernel)
  | 4, _ => exact gt_of (i := 187) (by decide +kernel) (by decide +kernel)
  | 5, _ => exact gt_of (i := 189) (by decide +kernel) (by decide +kernel)
  | 6, _ => exact gt_of (i := 191) (by decide +kernel) (by decide +kernel)
  | k + 7, hk => omega
def Rc_st : String := "AlarmForge$Statement"
def Fc_st : u_T := fun k => match k with
  | 0 => ("AlarmForge$Statement", "kind", "I", false)
  | 1 => ("AlarmForge$Statement", "place", "I", false)
  | 2 => ("AlarmForge$Statement", "target", "I", false)
  | 3 => ("AlarmForge$Statement", "start", "I", false)
  | 4 => ("AlarmForge$Statement", "middle", "I", false)
  | 5 => ("AlarmForge$Statement", "end", "I", false)
  | 6 => ("AlarmForge$Statement", "compare", "I", false)
  | 7 => ("AlarmForge$Statement", "body", "LAlarmForge$Statement;", false)
  | 8 => ("AlarmForge$Statement", "other", "LAlarmForge$Statement;", false)
  | _ => ("AlarmForge$Statement", "next", "LAlarmForge$Statement;", false)
def tc_st : Nat → FieldType := fun k => match k with
  | 0 => .int
  | 1 => .int
  | 2 => .int
  | 3 => .int
  | 4 => .int
  | 5 => .int
  | 6 => .int
  | 7 => .object "AlarmForge$Statement"
  | 8 => .object "AlarmForge$Statement"
  | _ => .object "AlarmForge$Statement"
theorem nc_st : ∀ a, a < 10 → ∀ b, b < 10 → a ≠ b → (Fc_st a).2.1 ≠ (Fc_st b).2.1 := by decide +kernel
theorem tc_st_ok : ∀ k, k < 10 → parseFieldDescriptor (Fc_st k).2.2.1 = some (tc_st k) := by decide +kernel
theorem ic_st : ∀ w ∈ u_ws Rc_st Fc_st 10, w ∈ gt := by
  intro w hw
  obtain ⟨k, hk, rfl⟩ := List.mem_map.mp hw
  rw [List.mem_range] at hk
  match k, hk with
  | 0, _ => exact gt_of (i := 141) (by decide +kernel) (by decide +kernel)
  | 1, _ => exact gt_of (i := 143) (by decide +kernel) (by decide +kernel)
  | 2, _ => exact gt_of (i := 145) (by decide +kernel) (by decide +kernel)
  | 3, _ => exact gt_of (i := 147) (by decide +kernel) (by decide +kernel)
  | 4, _ => exact gt_of (i := 149) (by decide +kernel) (by decide +kernel)
  | 5, _ => exact gt_of (i := 151) (by decide +kernel) (by decide +kernel)
  | 6, _ => exact gt_of (i := 153) (by decide +kernel) (by decide +kernel)
  | 7, _ => exact gt_of (i := 155) (by decide +kernel) (by decide +kernel)
  | 8, _ => exact gt_of (i := 157) (by decide +kernel) (by decide +kernel)
  | 9, _ => exact gt_of (i := 159) (by decide +kernel) (by decide +kernel)
  | k + 10, hk => omega
def Rc_ru : String := "AlarmForge$Runner"
def Fc_ru : u_T := fun k => match k with
  | 0 => ("AlarmForge$Runner", "variables", "[I", true)
  | 1 => ("AlarmForge$Runner", "unset", "[Z", true)
  | 2 => ("AlarmForge$Runner", "cells", "[I", true)
  | 3 => ("AlarmForge$Runner", "stack", "[I", true)
  | 4 => ("AlarmForge$Runner", "inputs", "[I", true)
  | 5 => ("AlarmForge$Runner", "inputCount", "I", false)
  | 6 => ("AlarmForge$Runner", "program", "LAlarmForge$Program;", false)
  | 7 => ("AlarmForge$Runner", "limit", "I", false)
  | 8 => ("AlarmForge$Runner", "begun", "I", false)
  | 9 => ("AlarmForge$Runner", "taken", "I", false)
  | _ => ("AlarmForge$Runner", "error", "I", false)
def tc_ru : Nat → FieldType := fun k => match k with
  | 0 => .array .int
  | 1 => .array .boolean
  | 2 => .array .int
  | 3 => .array .int
  | 4 => .array .int
  | 5 => .int
  | 6 => .object "AlarmForge$Program"
  | 7 => .int
  | 8 => .int
  | 9 => .int
  | _ => .int
theorem nc_ru : ∀ a, a < 11 → ∀ b, b < 11 → a ≠ b → (Fc_ru a).2.1 ≠ (Fc_ru b).2.1 := by decide +kernel
theorem tc_ru_ok : ∀ k, k < 11 → parseFieldDescriptor (Fc_ru k).2.2.1 = some (tc_ru k) := by decide +kernel
theorem ic_ru : ∀ w ∈ u_ws Rc_ru Fc_ru 11, w ∈ gt := by
  intro w hw
  obtain ⟨k, hk, rfl⟩ := List.mem_map.mp hw
  rw [List.mem_range] at hk
  match k, hk with
  | 0, _ => exact gt_of (i := 218) (by decide +kernel) (by decide +kernel)
  | 1, _ => exact gt_of (i := 220) (by decide +kernel) (by decide +kernel)
  | 2, _ => exact gt_of (i := 222) (by decide +kernel) (by decide +kernel)
  | 3, _ => exact gt_of (i := 224) (by decide +kernel) (by decide +kernel)
  | 4, _ => exact gt_of (i := 226) (by decide +kernel) (by decide +kernel)
  | 5, _ => exact gt_of (i := 228) (by decide +kernel) (by decide +kernel)
  | 6, _ => exact gt_of (i := 230) (by decide +kernel) (by decide +kernel)
  | 7, _ => exact gt_of (i := 232) (by decide +kernel) (by decide +kernel)
  | 8, _ => exact gt_of (i := 234) (by decide +kernel) (by decide +kernel)
  | 9, _ => exact gt_of (i := 236) (by decide +kernel) (by decide +kernel)
  | 10, _ => exact gt_of (i := 238) (by decide +kernel) (by decide +kernel)
  | k + 11, hk => omega
def Rc_an : String := "AlarmForge$Analyser"
def Fc_an : u_T := fun k => match k with
  | 0 => ("AlarmForge$Analyser", "end", "LAlarmForge$State;", true)
  | 1 => ("AlarmForge$Analyser", "states", "[LAlarmForge$State;", true)
  | 2 => ("AlarmForge$Analyser", "stack", "[LAlarmForge$Value;", true)
  | 3 => ("AlarmForge$Analyser", "kindsAt", "[I", true)
  | 4 => ("AlarmForge$Analyser", "program", "LAlarmForge$Program;", false)
  | 5 => ("AlarmForge$Analyser", "unroll", "I", false)
  | 6 => ("AlarmForge$Analyser", "narrow", "I", false)
  | 7 => ("AlarmForge$Analyser", "loud", "Z", false)
  | 8 => ("AlarmForge$Analyser", "done", "Z", false)
  | 9 => ("AlarmForge$Analyser", "passes", "I", false)
  | _ => ("AlarmForge$Analyser", "warningCount", "I", false)
def tc_an : Nat → FieldType := fun k => match k with
  | 0 => .object "AlarmForge$State"
  | 1 => .array (.object "AlarmForge$State")
  | 2 => .array (.object "AlarmForge$Value")
  | 3 => .array .int
  | 4 => .object "AlarmForge$Program"
  | 5 => .int
  | 6 => .int
  | 7 => .boolean
  | 8 => .boolean
  | 9 => .int
  | _ => .int
theorem nc_an : ∀ a, a < 11 → ∀ b, b < 11 → a ≠ b → (Fc_an a).2.1 ≠ (Fc_an b).2.1 := by decide +kernel
theorem tc_an_ok : ∀ k, k < 11 → parseFieldDescriptor (Fc_an k).2.2.1 = some (tc_an k) := by decide +kernel
theorem ic_an : ∀ w ∈ u_ws Rc_an Fc_an 11, w ∈ gt := by
  intro w hw
  obtain ⟨k, hk, rfl⟩ := List.mem_map.mp hw
  rw [List.mem_range] at hk
  match k, hk with
  | 0, _ => exact gt_of (i := 317) (by decide +kernel) (by decide +kernel)
  | 1, _ => exact gt_of (i := 319) (by decide +kernel) (by decide +kernel)
  | 2, _ => exact gt_of (i := 321) (by decide +kernel) (by decide +kernel)
  | 3, _ => exact gt_of (i := 323) (by decide +kernel) (by decide +kernel)
  | 4, _ => exact gt_of (i := 325) (by decide +kernel) (by decide +kernel)
  | 5, _ => exact gt_of (i := 327) (by decide +kernel) (by decide +kernel)
  | 6, _ => exact gt_of (i := 329) (by decide +kernel) (by decide +kernel)
  | 7, _ => exact gt_of (i := 331) (by decide +kernel) (by decide +kernel)
  | 8, _ => exact gt_of (i := 333) (by decide +kernel) (by decide +kernel)
  | 9, _ => exact gt_of (i := 335) (by decide +kernel) (by decide +kernel)
  | 10, _ => exact gt_of (i := 337) (by decide +kernel) (by decide +kernel)
  | k + 11, hk => omega
def Rc_sa : String := "AlarmForge$State"
def Fc_sa : u_T := fun k => match k with
  | 0 => ("AlarmForge$State", "dead", "Z", false)
  | 1 => ("AlarmForge$State", "values", "[LAlarmForge$Value;", true)
  | _ => ("AlarmForge$State", "unset", "[Z", true)
def tc_sa : Nat → FieldType := fun k => match k with
  | 0 => .boolean
  | 1 => .array (.object "AlarmForge$Value")
  | _ => .array .boolean
theorem nc_sa : ∀ a, a < 3 → ∀ b, b < 3 → a ≠ b → (Fc_sa a).2.1 ≠ (Fc_sa b).2.1 := by decide +kernel
theorem tc_sa_ok : ∀ k, k < 3 → parseFieldDescriptor (Fc_sa k).2.2.1 = some (tc_sa k) := by decide +kernel
theorem ic_sa : ∀ w ∈ u_ws Rc_sa Fc_sa 3, w ∈ gt := by
  intro w hw
  obtain ⟨k, hk, rfl⟩ := List.mem_map.mp hw
  rw [List.mem_range] at hk
  match k, hk with
  | 0, _ => exact gt_of (i := 292) (by decide +kernel) (by decide +kernel)
  | 1, _ => exact gt_of (i := 294) (by decide +kernel) (by decide +kernel)
  | 2, _ => exact gt_of (i := 296) (by decide +kernel) (by decide +kernel)
  | k + 3, hk => omega
def Rc_va : String := "AlarmForge$Value"
def Fc_va : u_T := fun k => match k with
  | 0 => ("AlarmForge$Value", "nothing", "Z", false)
  | 1 => ("AlarmForge$Value", "lo", "J", false)
  | 2 => ("AlarmForge$Value", "hi", "J", false)
  | 3 => ("AlarmForge$Value", "m", "J", false)
  | _ => ("AlarmForge$Value", "\x72", "J", false)
def tc_va : Nat → FieldType := fun k => match k with
  | 0 => .boolean
  | 1 => .long
  | 2 => .long
  | 3 => .long
  | _ => .long
theorem nc_va : ∀ a, a < 5 → ∀ b, b < 5 → a ≠ b → (Fc_va a).2.1 ≠ (Fc_va b).2.1 := by decide +kernel
theorem tc_va_ok : ∀ k, k < 5 → parseFieldDescriptor (Fc_va k).2.2.1 = some (tc_va k) := by decide +kernel
theorem ic_va : ∀ w ∈ u_ws Rc_va Fc_va 5, w ∈ gt := by
  intro w hw
  obtain ⟨k, hk, rfl⟩ := List.mem_map.mp hw
  rw [List.mem_range] at hk
  match k, hk with
  | 0, _ => exact gt_of (i := 272) (by decide +kernel) (by decide +kernel)
  | 1, _ => exact gt_of (i := 274) (by decide +kernel) (by decide +kernel)
  | 2, _ => exact gt_of (i := 276) (by decide +kernel) (by decide +kernel)
  | 3, _ => exact gt_of (i := 278) (by decide +kernel) (by decide +kernel)
  | 4, _ => exact gt_of (i := 280) (by decide +kernel) (by decide +kernel)
  | k + 5, hk => omega
def Rc_q : String := "AlarmForgeModel"
def Fc_q : u_T := fun k => match k with
  | 0 => ("AlarmForgeModel", "text", "[I", true)
  | 1 => ("AlarmForgeModel", "inputs", "[I", true)
  | 2 => ("AlarmForgeModel", "length", "I", false)
  | 3 => ("AlarmForgeModel", "inputMany", "I", false)
  | 4 => ("AlarmForgeModel", "where", "I", false)
  | 5 => ("AlarmForgeModel", "thrown", "I", false)
  | 6 => ("AlarmForgeModel", "unroll", "I", false)
  | 7 => ("AlarmForgeModel", "narrow", "I", false)
  | 8 => ("AlarmForgeModel", "parsed", "Z", false)
  | 9 => ("AlarmForgeModel", "kind", "[I", true)
  | 10 => ("AlarmForgeModel", "target", "[I", true)
  | 11 => ("AlarmForgeModel", "place", "[I", true)
  | 12 => ("AlarmForgeModel", "one", "[I", true)
  | 13 => ("AlarmForgeModel", "oneEnd", "[I", true)
  | 14 => ("AlarmForgeModel", "two", "[I", true)
  | 15 => ("AlarmForgeModel", "twoEnd", "[I", true)
  | 16 => ("AlarmForgeModel", "sign", "[I", true)
  | 17 => ("AlarmForgeModel", "body", "[I", true)
  | 18 => ("AlarmForgeModel", "other", "[I", true)
  | 19 => ("AlarmForgeModel", "next", "[I", true)
  | 20 => ("AlarmForgeModel", "hasElse", "[Z", true)
  | 21 => ("AlarmForgeModel", "first", "[I", true)
  | 22 => ("AlarmForgeModel", "many", "[I", true)
  | 23 => ("AlarmForgeModel", "steps", "[I", true)
  | 24 => ("AlarmForgeModel", "op", "[I", true)
  | 25 => ("AlarmForgeModel", "number", "[I", true)
  | 26 => ("AlarmForgeModel", "point", "[I", true)
  | 27 => ("AlarmForgeModel", "live", "I", false)
  | 28 => ("AlarmForgeModel", "at", "I", false)
  | 29 => ("AlarmForgeModel", "begin", "I", false)
  | 30 => ("AlarmForgeModel", "token", "I", false)
  | 31 => ("AlarmForgeModel", "value", "I", false)
  | 32 => ("AlarmForgeModel", "half", "I", false)
  | 33 => ("AlarmForgeModel", "deep", "I", false)
  | 34 => ("AlarmForgeModel", "bad", "Z", false)
  | 35 => ("AlarmForgeModel", "owner", "[I", true)
  | 36 => ("AlarmForgeModel", "part", "[I", true)
  | 37 => ("AlarmForgeModel", "last", "[I", true)
  | 38 => ("AlarmForgeModel", "open", "[I", true)
  | 39 => ("AlarmForgeModel", "openAt", "[I", true)
  | 40 => ("AlarmForgeModel", "openWhat", "[I", true)
  | 41 => ("AlarmForgeModel", "height", "[I", true)
  | 42 => ("AlarmForgeModel", "opened", "I", false)
  | 43 => ("AlarmForgeModel", "inside", "I", false)
  | 44 => ("AlarmForgeModel", "heights", "I", false)
  | 45 => ("AlarmForgeModel", "variables", "[I", true)
  | 46 => ("AlarmForgeModel", "cells", "[I", true)
  | 47 => ("AlarmForgeModel", "stack", "[I", true)
  | 48 => ("AlarmForgeModel", "ownerOf", "[I", true)
  | 49 => ("AlarmForgeModel", "set", "[Z", true)
  | 50 => ("AlarmForgeModel", "result", "I", false)
  | 51 => ("AlarmForgeModel", "error", "I", false)
  | 52 => ("AlarmForgeModel", "begun", "I", false)
  | 53 => ("AlarmForgeModel", "taken", "I", false)
  | 54 => ("AlarmForgeModel", "lo", "[J", true)
  | 55 => ("AlarmForgeModel", "hi", "[J", true)
  | 56 => ("AlarmForgeModel", "mod", "[J", true)
  | 57 => ("AlarmForgeModel", "rest", "[J", true)
  | 58 => ("AlarmForgeModel", "unset", "[Z", true)
  | 59 => ("AlarmForgeModel", "dead", "[Z", true)
  | 60 => ("AlarmForgeModel", "warned", "[Z", true)
  | 61 => ("AlarmForgeModel", "frame", "[I", true)
  | 62 => ("AlarmForgeModel", "phase", "[I", true)
  | 63 => ("AlarmForgeModel", "turn", "[I", true)
  | 64 => ("AlarmForgeModel", "top", "I", false)
  | 65 => ("AlarmForgeModel", "silent", "I", false)
  | 66 => ("AlarmForgeModel", "blocks", "I", false)
  | _ => ("AlarmForgeModel", "gone", "Z", false)
def tc_q : Nat → FieldType := fun k => match k with
  | 0 => .array .int
  | 1 => .array .int
  | 2 => .int
  | 3 => .int
  | 4 => .int
  | 5 => .int
  | 6 => .int
  | 7 => .int
  | 8 => .boolean
  | 9 => .array .int
  | 10 => .array .int
  | 11 => .array .int
  | 12 => .array .int
  | 13 => .array .int
  | 14 => .array .int
  | 15 => .array .int
  | 16 => .array .int
  | 17 => .array .int
  | 18 => .array .int
  | 19 => .array .int
  | 20 => .array .boolean
  | 21 => .array .int
  | 22 => .array .int
  | 23 => .array .int
  | 24 => .array .int
  | 25 => .array .int
  | 26 => .array .int
  | 27 => .int
  | 28 => .int
  | 29 => .int
  | 30 => .int
  | 31 => .int
  | 32 => .int
  | 33 => .int
  | 34 => .boolean
  | 35 => .array .int
  | 36 => .array .int
  | 37 => .array .int
  | 38 => .array .int
  | 39 => .array .int
  | 40 => .array .int
  | 41 => .array .int
  | 42 => .int
  | 43 => .int
  | 44 => .int
  | 45 => .array .int
  | 46 => .array .int
  | 47 => .array .int
  | 48 => .array .int
  | 49 => .array .boolean
  | 50 => .int
  | 51 => .int
  | 52 => .int
  | 53 => .int
  | 54 => .array .long
  | 55 => .array .long
  | 56 => .array .long
  | 57 => .array .long
  | 58 => .array .boolean
  | 59 => .array .boolean
  | 60 => .array .boolean
  | 61 => .array .int
  | 62 => .array .int
  | 63 => .array .int
  | 64 => .int
  | 65 => .int
  | 66 => .int
  | _ => .boolean
theorem nc_q : ∀ a, a < 68 → ∀ b, b < 68 → a ≠ b → (Fc_q a).2.1 ≠ (Fc_q b).2.1 := by decide +kernel
theorem tc_q_ok : ∀ k, k < 68 → parseFieldDescriptor (Fc_q k).2.2.1 = some (tc_q k) := by decide +kernel
theorem ic_q : ∀ w ∈ u_ws Rc_q Fc_q 68, w ∈ gt := by
  intro w hw
  obtain ⟨k, hk, rfl⟩ := List.mem_map.mp hw
  rw [List.mem_range] at hk
  match k, hk with
  | 0, _ => exact gt_of (i := 1227) (by decide +kernel) (by decide +kernel)
  | 1, _ => exact gt_of (i := 1229) (by decide +kernel) (by decide +kernel)
  | 2, _ => exact gt_of (i := 1231) (by decide +kernel) (by decide +kernel)
  | 3, _ => exact gt_of (i := 1233) (by decide +kernel) (by decide +kernel)
  | 4, _ => exact gt_of (i := 1235) (by decide +kernel) (by decide +kernel)
  | 5, _ => exact gt_of (i := 1237) (by decide +kernel) (by decide +kernel)
  | 6, _ => exact gt_of (i := 1239) (by decide +kernel) (by decide +kernel)
  | 7, _ => exact gt_of (i := 1241) (by decide +kernel) (by decide +kernel)
  | 8, _ => exact gt_of (i := 1243) (by decide +kernel) (by decide +kernel)
  | 9, _ => exact gt_of (i := 1245) (by decide +kernel) (by decide +kernel)
  | 10, _ => exact gt_of (i := 1247) (by decide +kernel) (by decide +kernel)
  | 11, _ => exact gt_of (i := 1249) (by decide +kernel) (by decide +kernel)
  | 12, _ => exact gt_of (i := 1251) (by decide +kernel) (by decide +kernel)
  | 13, _ => exact gt_of (i := 1253) (by decide +kernel) (by decide +kernel)
  | 14, _ => exact gt_of (i := 1255) (by decide +kernel) (by decide +kernel)
  | 15, _ => exact gt_of (i := 1257) (by decide +kernel) (by decide +kernel)
  | 16, _ => exact gt_of (i := 1259) (by decide +kernel) (by decide +kernel)
  | 17, _ => exact gt_of (i := 1261) (by decide +kernel) (by decide +kernel)
  | 18, _ => exact gt_of (i := 1263) (by decide +kernel) (by decide +kernel)
  | 19, _ => exact gt_of (i := 1265) (by decide +kernel) (by decide +kernel)
  | 20, _ => exact gt_of (i := 1267) (by decide +kernel) (by decide +kernel)
  | 21, _ => exact gt_of (i := 1269) (by decide +kernel) (by decide +kernel)
  | 22, _ => exact gt_of (i := 1271) (by decide +kernel) (by decide +kernel)
  | 23, _ => exact gt_of (i := 1273) (by decide +kernel) (by decide +kernel)
  | 24, _ => exact gt_of (i := 1275) (by decide +kernel) (by decide +kernel)
  | 25, _ => exact gt_of (i := 1277) (by decide +kernel) (by decide +kernel)
  | 26, _ => exact gt_of (i := 1279) (by decide +kernel) (by decide +kernel)
  | 27, _ => exact gt_of (i := 1281) (by decide +kernel) (by decide +kernel)
  | 28, _ => exact gt_of (i := 1283) (by decide +kernel) (by decide +kernel)
  | 29, _ => exact gt_of (i := 1285) (by decide +kernel) (by decide +kernel)
  | 30, _ => exact gt_of (i := 1287) (by decide +kernel) (by decide +kernel)
  | 31, _ => exact gt_of (i := 1289) (by decide +kernel) (by decide +kernel)
  | 32, _ => exact gt_of (i := 1291) (by decide +kernel) (by decide +kernel)
  | 33, _ => exact gt_of (i := 1293) (by decide +kernel) (by decide +kernel)
  | 34, _ => exact gt_of (i := 1295) (by decide +kernel) (by decide +kernel)
  | 35, _ => exact gt_of (i := 1297) (by decide +kernel) (by decide +kernel)
  | 36, _ => exact gt_of (i := 1299) (by decide +kernel) (by decide +kernel)
  | 37, _ => exact gt_of (i := 1301) (by decide +kernel) (by decide +kernel)
  | 38, _ => exact gt_of (i := 1303) (by decide +kernel) (by decide +kernel)
  | 39, _ => exact gt_of (i := 1305) (by decide +kernel) (by decide +kernel)
  | 40, _ => exact gt_of (i := 1307) (by decide +kernel) (by decide +kernel)
  | 41, _ => exact gt_of (i := 1309) (by decide +kernel) (by decide +kernel)
  | 42, _ => exact gt_of (i := 1311) (by decide +kernel) (by decide +kernel)
  | 43, _ => exact gt_of (i := 1313) (by decide +kernel) (by decide +kernel)
  | 44, _ => exact gt_of (i := 1315) (by decide +kernel) (by decide +kernel)
  | 45, _ => exact gt_of (i := 1317) (by decide +kernel) (by decide +kernel)
  | 46, _ => exact gt_of (i := 1319) (by decide +kernel) (by decide +kernel)
  | 47, _ => exact gt_of (i := 1321) (by decide +kernel) (by decide +kernel)
  | 48, _ => exact gt_of (i := 1323) (by decide +kernel) (by decide +kernel)
  | 49, _ => exact gt_of (i := 1325) (by decide +kernel) (by decide +kernel)
  | 50, _ => exact gt_of (i := 1327) (by decide +kernel) (by decide +kernel)
  | 51, _ => exact gt_of (i := 1329) (by decide +kernel) (by decide +kernel)
  | 52, _ => exact gt_of (i := 1331) (by decide +kernel) (by decide +kernel)
  | 53, _ => exact gt_of (i := 1333) (by decide +kernel) (by decide +kernel)
  | 54, _ => exact gt_of (i := 1335) (by decide +kernel) (by decide +kernel)
  | 55, _ => exact gt_of (i := 1337) (by decide +kernel) (by decide +kernel)
  | 56, _ => exact gt_of (i := 1339) (by decide +kernel) (by decide +kernel)
  | 57, _ => exact gt_of (i := 1341) (by decide +kernel) (by decide +kernel)
  | 58, _ => exact gt_of (i := 1343) (by decide +kernel) (by decide +kernel)
  | 59, _ => exact gt_of (i := 1345) (by decide +kernel) (by decide +kernel)
  | 60, _ => exact gt_of (i := 1347) (by decide +kernel) (by decide +kernel)
  | 61, _ => exact gt_of (i := 1349) (by decide +kernel) (by decide +kernel)
  | 62, _ => exact gt_of (i := 1351) (by decide +kernel) (by decide +kernel)
  | 63, _ => exact gt_of (i := 1353) (by decide +kernel) (by decide +kernel)
  | 64, _ => exact gt_of (i := 1355) (by decide +kernel) (by decide +kernel)
  | 65, _ => exact gt_of (i := 1357) (by decide +kernel) (by decide +kernel)
  | 66, _ => exact gt_of (i := 1359) (by decide +kernel) (by decide +kernel)
  | 67, _ => exact gt_of (i := 1361) (by decide +kernel) (by decide +kernel)
  | k + 68, hk => omega
def Rc_ma : String := "java/lang/Math"
def Rc_lw : String := "AlarmForgeLaw"
abbrev cls : List vw_C := [(Rc_a, Fc_a, 9), (Rc_rd, Fc_rd, 9), (Rc_pa, Fc_pa, 4), (Rc_pg, Fc_pg, 7), (Rc_st, Fc_st, 10), (Rc_ru, Fc_ru, 11), (Rc_an, Fc_an, 11), (Rc_sa, Fc_sa, 3), (Rc_va, Fc_va, 5), (Rc_q, Fc_q, 68)]
def wo_tys (cA : Nat → ClassId) : List (ClassId × FieldType) := [(cA 0, .int), (cA 1, .long), (cA 2, .boolean), (cA 3, .char), (cA 4, .object "AlarmForge$Value"), (cA 5, .object "AlarmForge$State"), (cA 6, .object "AlarmForge$Statement")]
