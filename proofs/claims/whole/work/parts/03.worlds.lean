def T_c0 : u_T := fun k => match k with
  | 0 => ("StoryStates", "engine", "LStoryStates$Engine;", true)
  | 1 => ("StoryStates", "world", "LStoryStates$World;", true)
  | 2 => ("StoryStates", "atlas", "LStoryStates$Atlas;", true)
  | 3 => ("StoryStates", "line", "[J", true)
  | 4 => ("StoryStates", "texts", "[I", true)
  | 5 => ("StoryStates", "turns", "I", false)
  | _ => ("StoryStates", "textCount", "I", false)
def ty_c0 : Nat → FieldType := fun k => match k with
  | 0 => (.object "StoryStates$Engine")
  | 1 => (.object "StoryStates$World")
  | 2 => (.object "StoryStates$Atlas")
  | 3 => (.array .long)
  | 4 => (.array .int)
  | 5 => .int
  | _ => .int
theorem nm_c0 : ∀ a, a < 7 → ∀ b, b < 7 → a ≠ b → (T_c0 a).2.1 ≠ (T_c0 b).2.1 := by decide +kernel
theorem tyok_c0 : ∀ k, k < 7 → parseFieldDescriptor (T_c0 k).2.2.1 = some (ty_c0 k) := by decide +kernel
set_option maxRecDepth 20000 in
theorem us_c0 : ∀ w ∈ u_ws "StoryStates" T_c0 7, w ∈ sTB ∧ w.onTables = true := by
  intro w hw
  obtain ⟨k, hk, rfl⟩ := List.mem_map.mp hw
  have hk := List.mem_range.mp hk
  match k, hk with
  | 0, _ => exact ⟨sMem 252 (by decide +kernel) rfl, rfl⟩
  | 1, _ => exact ⟨sMem 254 (by decide +kernel) rfl, rfl⟩
  | 2, _ => exact ⟨sMem 256 (by decide +kernel) rfl, rfl⟩
  | 3, _ => exact ⟨sMem 258 (by decide +kernel) rfl, rfl⟩
  | 4, _ => exact ⟨sMem 260 (by decide +kernel) rfl, rfl⟩
  | 5, _ => exact ⟨sMem 262 (by decide +kernel) rfl, rfl⟩
  | 6, _ => exact ⟨sMem 264 (by decide +kernel) rfl, rfl⟩
  | n + 7, h => exact absurd h (by omega)
def T_c1 : u_T := fun k => match k with
  | 0 => ("StoryStates$Engine", "world", "LStoryStates$World;", true)
  | 1 => ("StoryStates$Engine", "texts", "[I", true)
  | 2 => ("StoryStates$Engine", "textCount", "I", false)
  | 3 => ("StoryStates$Engine", "rulesDone", "I", false)
  | _ => ("StoryStates$Engine", "now", "J", false)
def ty_c1 : Nat → FieldType := fun k => match k with
  | 0 => (.object "StoryStates$World")
  | 1 => (.array .int)
  | 2 => .int
  | 3 => .int
  | _ => .long
theorem nm_c1 : ∀ a, a < 5 → ∀ b, b < 5 → a ≠ b → (T_c1 a).2.1 ≠ (T_c1 b).2.1 := by decide +kernel
theorem tyok_c1 : ∀ k, k < 5 → parseFieldDescriptor (T_c1 k).2.2.1 = some (ty_c1 k) := by decide +kernel
set_option maxRecDepth 20000 in
theorem us_c1 : ∀ w ∈ u_ws "StoryStates$Engine" T_c1 5, w ∈ sTB ∧ w.onTables = true := by
  intro w hw
  obtain ⟨k, hk, rfl⟩ := List.mem_map.mp hw
  have hk := List.mem_range.mp hk
  match k, hk with
  | 0, _ => exact ⟨sMem 188 (by decide +kernel) rfl, rfl⟩
  | 1, _ => exact ⟨sMem 190 (by decide +kernel) rfl, rfl⟩
  | 2, _ => exact ⟨sMem 192 (by decide +kernel) rfl, rfl⟩
  | 3, _ => exact ⟨sMem 194 (by decide +kernel) rfl, rfl⟩
  | 4, _ => exact ⟨sMem 196 (by decide +kernel) rfl, rfl⟩
  | n + 5, h => exact absurd h (by omega)
def T_c2 : u_T := fun k => match k with
  | 0 => ("StoryStates$World", "exitRooms", "[I", true)
  | 1 => ("StoryStates$World", "exitDoors", "[I", true)
  | 2 => ("StoryStates$World", "places", "[I", true)
  | 3 => ("StoryStates$World", "kinds", "[I", true)
  | 4 => ("StoryStates$World", "firstAmounts", "[I", true)
  | 5 => ("StoryStates$World", "mostAmounts", "[I", true)
  | 6 => ("StoryStates$World", "isGood", "[Z", true)
  | 7 => ("StoryStates$World", "rules", "LStoryStates$Rules;", true)
  | 8 => ("StoryStates$World", "walkerThings", "[I", true)
  | 9 => ("StoryStates$World", "walkerRooms", "[I", true)
  | 10 => ("StoryStates$World", "timerRules", "[I", true)
  | 11 => ("StoryStates$World", "timerCounts", "[I", true)
  | 12 => ("StoryStates$World", "rooms", "I", false)
  | 13 => ("StoryStates$World", "things", "I", false)
  | 14 => ("StoryStates$World", "numbers", "I", false)
  | 15 => ("StoryStates$World", "endings", "I", false)
  | 16 => ("StoryStates$World", "walkers", "I", false)
  | _ => ("StoryStates$World", "timers", "I", false)
def ty_c2 : Nat → FieldType := fun k => match k with
  | 0 => (.array .int)
  | 1 => (.array .int)
  | 2 => (.array .int)
  | 3 => (.array .int)
  | 4 => (.array .int)
  | 5 => (.array .int)
  | 6 => (.array .boolean)
  | 7 => (.object "StoryStates$Rules")
  | 8 => (.array .int)
  | 9 => (.array .int)
  | 10 => (.array .int)
  | 11 => (.array .int)
  | 12 => .int
  | 13 => .int
  | 14 => .int
  | 15 => .int
  | 16 => .int
  | _ => .int
theorem nm_c2 : ∀ a, a < 18 → ∀ b, b < 18 → a ≠ b → (T_c2 a).2.1 ≠ (T_c2 b).2.1 := by decide +kernel
theorem tyok_c2 : ∀ k, k < 18 → parseFieldDescriptor (T_c2 k).2.2.1 = some (ty_c2 k) := by decide +kernel
set_option maxRecDepth 20000 in
theorem us_c2 : ∀ w ∈ u_ws "StoryStates$World" T_c2 18, w ∈ sTB ∧ w.onTables = true := by
  intro w hw
  obtain ⟨k, hk, rfl⟩ := List.mem_map.mp hw
  have hk := List.mem_range.mp hk
  match k, hk with
  | 0, _ => exact ⟨sMem 141 (by decide +kernel) rfl, rfl⟩
  | 1, _ => exact ⟨sMem 143 (by decide +kernel) rfl, rfl⟩
  | 2, _ => exact ⟨sMem 145 (by decide +kernel) rfl, rfl⟩
  | 3, _ => exact ⟨sMem 147 (by decide +kernel) rfl, rfl⟩
  | 4, _ => exact ⟨sMem 149 (by decide +kernel) rfl, rfl⟩
  | 5, _ => exact ⟨sMem 151 (by decide +kernel) rfl, rfl⟩
  | 6, _ => exact ⟨sMem 153 (by decide +kernel) rfl, rfl⟩
  | 7, _ => exact ⟨sMem 155 (by decide +kernel) rfl, rfl⟩
  | 8, _ => exact ⟨sMem 157 (by decide +kernel) rfl, rfl⟩
  | 9, _ => exact ⟨sMem 159 (by decide +kernel) rfl, rfl⟩
  | 10, _ => exact ⟨sMem 161 (by decide +kernel) rfl, rfl⟩
  | 11, _ => exact ⟨sMem 163 (by decide +kernel) rfl, rfl⟩
  | 12, _ => exact ⟨sMem 165 (by decide +kernel) rfl, rfl⟩
  | 13, _ => exact ⟨sMem 167 (by decide +kernel) rfl, rfl⟩
  | 14, _ => exact ⟨sMem 169 (by decide +kernel) rfl, rfl⟩
  | 15, _ => exact ⟨sMem 171 (by decide +kernel) rfl, rfl⟩
  | 16, _ => exact ⟨sMem 173 (by decide +kernel) rfl, rfl⟩
  | 17, _ => exact ⟨sMem 175 (by decide +kernel) rfl, rfl⟩
  | n + 18, h => exact absurd h (by omega)
def T_c3 : u_T := fun k => match k with
  | 0 => ("StoryStates$Rules", "verbs", "[I", true)
  | 1 => ("StoryStates$Rules", "firsts", "[I", true)
  | 2 => ("StoryStates$Rules", "seconds", "[I", true)
  | 3 => ("StoryStates$Rules", "texts", "[I", true)
  | 4 => ("StoryStates$Rules", "ofTimer", "[Z", true)
  | 5 => ("StoryStates$Rules", "conditions", "LStoryStates$Clauses;", true)
  | 6 => ("StoryStates$Rules", "effects", "LStoryStates$Clauses;", true)
  | _ => ("StoryStates$Rules", "size", "I", false)
def ty_c3 : Nat → FieldType := fun k => match k with
  | 0 => (.array .int)
  | 1 => (.array .int)
  | 2 => (.array .int)
  | 3 => (.array .int)
  | 4 => (.array .boolean)
  | 5 => (.object "StoryStates$Clauses")
  | 6 => (.object "StoryStates$Clauses")
  | _ => .int
theorem nm_c3 : ∀ a, a < 8 → ∀ b, b < 8 → a ≠ b → (T_c3 a).2.1 ≠ (T_c3 b).2.1 := by decide +kernel
theorem tyok_c3 : ∀ k, k < 8 → parseFieldDescriptor (T_c3 k).2.2.1 = some (ty_c3 k) := by decide +kernel
set_option maxRecDepth 20000 in
theorem us_c3 : ∀ w ∈ u_ws "StoryStates$Rules" T_c3 8, w ∈ sTB ∧ w.onTables = true := by
  intro w hw
  obtain ⟨k, hk, rfl⟩ := List.mem_map.mp hw
  have hk := List.mem_range.mp hk
  match k, hk with
  | 0, _ => exact ⟨sMem 88 (by decide +kernel) rfl, rfl⟩
  | 1, _ => exact ⟨sMem 90 (by decide +kernel) rfl, rfl⟩
  | 2, _ => exact ⟨sMem 92 (by decide +kernel) rfl, rfl⟩
  | 3, _ => exact ⟨sMem 94 (by decide +kernel) rfl, rfl⟩
  | 4, _ => exact ⟨sMem 96 (by decide +kernel) rfl, rfl⟩
  | 5, _ => exact ⟨sMem 98 (by decide +kernel) rfl, rfl⟩
  | 6, _ => exact ⟨sMem 100 (by decide +kernel) rfl, rfl⟩
  | 7, _ => exact ⟨sMem 102 (by decide +kernel) rfl, rfl⟩
  | n + 8, h => exact absurd h (by omega)
def T_c4 : u_T := fun k => match k with
  | 0 => ("StoryStates$Clauses", "sizes", "[I", true)
  | 1 => ("StoryStates$Clauses", "kinds", "[I", true)
  | 2 => ("StoryStates$Clauses", "xs", "[I", true)
  | _ => ("StoryStates$Clauses", "ys", "[I", true)
def ty_c4 : Nat → FieldType := fun k => match k with
  | 0 => (.array .int)
  | 1 => (.array .int)
  | 2 => (.array .int)
  | _ => (.array .int)
theorem nm_c4 : ∀ a, a < 4 → ∀ b, b < 4 → a ≠ b → (T_c4 a).2.1 ≠ (T_c4 b).2.1 := by decide +kernel
theorem tyok_c4 : ∀ k, k < 4 → parseFieldDescriptor (T_c4 k).2.2.1 = some (ty_c4 k) := by decide +kernel
set_option maxRecDepth 20000 in
theorem us_c4 : ∀ w ∈ u_ws "StoryStates$Clauses" T_c4 4, w ∈ sTB ∧ w.onTables = true := by
  intro w hw
  obtain ⟨k, hk, rfl⟩ := List.mem_map.mp hw
  have hk := List.mem_range.mp hk
  match k, hk with
  | 0, _ => exact ⟨sMem 59 (by decide +kernel) rfl, rfl⟩
  | 1, _ => exact ⟨sMem 61 (by decide +kernel) rfl, rfl⟩
  | 2, _ => exact ⟨sMem 63 (by decide +kernel) rfl, rfl⟩
  | 3, _ => exact ⟨sMem 65 (by decide +kernel) rfl, rfl⟩
  | n + 4, h => exact absurd h (by omega)
def T_c5 : u_T := fun k => match k with
  | 0 => ("StoryStates$Atlas", "codes", "[I", true)
  | 1 => ("StoryStates$Atlas", "codeCount", "I", false)
  | 2 => ("StoryStates$Atlas", "states", "[J", true)
  | 3 => ("StoryStates$Atlas", "origins", "[I", true)
  | 4 => ("StoryStates$Atlas", "codesHere", "[I", true)
  | 5 => ("StoryStates$Atlas", "slots", "[I", true)
  | 6 => ("StoryStates$Atlas", "leads", "[J", true)
  | 7 => ("StoryStates$Atlas", "hopeful", "[J", true)
  | 8 => ("StoryStates$Atlas", "rulesDone", "I", false)
  | 9 => ("StoryStates$Atlas", "gone", "I", false)
  | 10 => ("StoryStates$Atlas", "found", "I", false)
  | _ => ("StoryStates$Atlas", "limitMet", "Z", false)
def ty_c5 : Nat → FieldType := fun k => match k with
  | 0 => (.array .int)
  | 1 => .int
  | 2 => (.array .long)
  | 3 => (.array .int)
  | 4 => (.array .int)
  | 5 => (.array .int)
  | 6 => (.array .long)
  | 7 => (.array .long)
  | 8 => .int
  | 9 => .int
  | 10 => .int
  | _ => .boolean
theorem nm_c5 : ∀ a, a < 12 → ∀ b, b < 12 → a ≠ b → (T_c5 a).2.1 ≠ (T_c5 b).2.1 := by decide +kernel
theorem tyok_c5 : ∀ k, k < 12 → parseFieldDescriptor (T_c5 k).2.2.1 = some (ty_c5 k) := by decide +kernel
set_option maxRecDepth 20000 in
theorem us_c5 : ∀ w ∈ u_ws "StoryStates$Atlas" T_c5 12, w ∈ sTB ∧ w.onTables = true := by
  intro w hw
  obtain ⟨k, hk, rfl⟩ := List.mem_map.mp hw
  have hk := List.mem_range.mp hk
  match k, hk with
  | 0, _ => exact ⟨sMem 219 (by decide +kernel) rfl, rfl⟩
  | 1, _ => exact ⟨sMem 221 (by decide +kernel) rfl, rfl⟩
  | 2, _ => exact ⟨sMem 223 (by decide +kernel) rfl, rfl⟩
  | 3, _ => exact ⟨sMem 225 (by decide +kernel) rfl, rfl⟩
  | 4, _ => exact ⟨sMem 227 (by decide +kernel) rfl, rfl⟩
  | 5, _ => exact ⟨sMem 229 (by decide +kernel) rfl, rfl⟩
  | 6, _ => exact ⟨sMem 231 (by decide +kernel) rfl, rfl⟩
  | 7, _ => exact ⟨sMem 233 (by decide +kernel) rfl, rfl⟩
  | 8, _ => exact ⟨sMem 235 (by decide +kernel) rfl, rfl⟩
  | 9, _ => exact ⟨sMem 237 (by decide +kernel) rfl, rfl⟩
  | 10, _ => exact ⟨sMem 239 (by decide +kernel) rfl, rfl⟩
  | 11, _ => exact ⟨sMem 241 (by decide +kernel) rfl, rfl⟩
  | n + 12, h => exact absurd h (by omega)
def Zc : sZo := ([("StoryStates", T_c0, 7), ("StoryStates$Engine", T_c1, 5), ("StoryStates$World", T_c2, 18), ("StoryStates$Rules", T_c3, 8), ("StoryStates$Clauses", T_c4, 4), ("StoryStates$Atlas", T_c5, 12)], [.inr (0, [some (some 1), some (some 2), some (some 6), some (some 7), some (some 8), none, none]), .inr (1, [some (some 2), some (some 9), none, none, some none]), .inr (2, [some (some 10), some (some 11), some (some 12), some (some 13), some (some 14), some (some 15), some (some 16), some (some 3), some (some 17), some (some 18), some (some 19), some (some 20), none, none, none, none, none, none]), .inr (3, [some (some 21), some (some 22), some (some 23), some (some 24), some (some 25), some (some 4), some (some 5), none]), .inr (4, [some (some 26), some (some 27), some (some 28), some (some 29)]), .inr (4, [some (some 30), some (some 31), some (some 32), some (some 33)]), .inr (5, [some (some 34), none, some (some 35), some (some 36), some (some 37), some (some 38), some (some 39), some (some 40), none, none, none, none]), .inl (2, 61), .inl (0, 3), .inl (0, 3), .inl (0, 24), .inl (0, 24), .inl (0, 6), .inl (0, 6), .inl (0, 3), .inl (0, 3), .inl (1, 4), .inl (0, 2), .inl (0, 6), .inl (0, 2), .inl (0, 2), .inl (0, 12), .inl (0, 12), .inl (0, 12), .inl (0, 12), .inl (1, 12), .inl (0, 12), .inl (0, 36), .inl (0, 36), .inl (0, 36), .inl (0, 12), .inl (0, 36), .inl (0, 36), .inl (0, 36), .inl (0, 163), .inl (2, 160), .inl (0, 160), .inl (0, 160), .inl (0, 512), .inl (2, 480), .inl (2, 3), .inl (2, 1)])
def T_m0 : u_T := fun k => match k with
  | 0 => ("StoryStatesModel", "code", "I", false)
  | 1 => ("StoryStatesModel", "rooms", "I", false)
  | 2 => ("StoryStatesModel", "exits", "[I", true)
  | 3 => ("StoryStatesModel", "doors", "[I", true)
  | 4 => ("StoryStatesModel", "things", "I", false)
  | 5 => ("StoryStatesModel", "kinds", "[I", true)
  | 6 => ("StoryStatesModel", "firstPlaces", "[I", true)
  | 7 => ("StoryStatesModel", "numbers", "I", false)
  | 8 => ("StoryStatesModel", "mosts", "[I", true)
  | 9 => ("StoryStatesModel", "firstNumbers", "[I", true)
  | 10 => ("StoryStatesModel", "endings", "I", false)
  | 11 => ("StoryStatesModel", "good", "[Z", true)
  | 12 => ("StoryStatesModel", "rules", "I", false)
  | 13 => ("StoryStatesModel", "verbs", "[I", true)
  | 14 => ("StoryStatesModel", "firsts", "[I", true)
  | 15 => ("StoryStatesModel", "seconds", "[I", true)
  | 16 => ("StoryStatesModel", "texts", "[I", true)
  | 17 => ("StoryStatesModel", "timed", "[Z", true)
  | 18 => ("StoryStatesModel", "conditions", "[I", true)
  | 19 => ("StoryStatesModel", "conditionKind", "[I", true)
  | 20 => ("StoryStatesModel", "conditionX", "[I", true)
  | 21 => ("StoryStatesModel", "conditionY", "[I", true)
  | 22 => ("StoryStatesModel", "effects", "[I", true)
  | 23 => ("StoryStatesModel", "effectKind", "[I", true)
  | 24 => ("StoryStatesModel", "effectX", "[I", true)
  | 25 => ("StoryStatesModel", "effectY", "[I", true)
  | 26 => ("StoryStatesModel", "walkers", "I", false)
  | 27 => ("StoryStatesModel", "walking", "[I", true)
  | 28 => ("StoryStatesModel", "route", "[I", true)
  | 29 => ("StoryStatesModel", "timers", "I", false)
  | 30 => ("StoryStatesModel", "timerRule", "[I", true)
  | 31 => ("StoryStatesModel", "firstCounts", "[I", true)
  | 32 => ("StoryStatesModel", "here", "I", false)
  | 33 => ("StoryStatesModel", "places", "[I", true)
  | 34 => ("StoryStatesModel", "open", "[Z", true)
  | 35 => ("StoryStatesModel", "amounts", "[I", true)
  | 36 => ("StoryStatesModel", "steps", "[I", true)
  | 37 => ("StoryStatesModel", "counts", "[I", true)
  | 38 => ("StoryStatesModel", "over", "I", false)
  | 39 => ("StoryStatesModel", "lines", "I", false)
  | 40 => ("StoryStatesModel", "line", "[I", true)
  | 41 => ("StoryStatesModel", "done", "I", false)
  | 42 => ("StoryStatesModel", "nowA", "I", false)
  | 43 => ("StoryStatesModel", "nowB", "I", false)
  | 44 => ("StoryStatesModel", "turns", "I", false)
  | 45 => ("StoryStatesModel", "pastA", "[I", true)
  | 46 => ("StoryStatesModel", "pastB", "[I", true)
  | 47 => ("StoryStatesModel", "spoken", "I", false)
  | 48 => ("StoryStatesModel", "speech", "[I", true)
  | 49 => ("StoryStatesModel", "found", "I", false)
  | 50 => ("StoryStatesModel", "gone", "I", false)
  | 51 => ("StoryStatesModel", "full", "Z", false)
  | 52 => ("StoryStatesModel", "foundA", "[I", true)
  | 53 => ("StoryStatesModel", "foundB", "[I", true)
  | 54 => ("StoryStatesModel", "from", "[I", true)
  | 55 => ("StoryStatesModel", "byVerb", "[I", true)
  | 56 => ("StoryStatesModel", "byFirst", "[I", true)
  | 57 => ("StoryStatesModel", "bySecond", "[I", true)
  | 58 => ("StoryStatesModel", "follows", "[I", true)
  | _ => ("StoryStatesModel", "hope", "[Z", true)
def ty_m0 : Nat → FieldType := fun k => match k with
  | 0 => .int
  | 1 => .int
  | 2 => (.array .int)
  | 3 => (.array .int)
  | 4 => .int
  | 5 => (.array .int)
  | 6 => (.array .int)
  | 7 => .int
  | 8 => (.array .int)
  | 9 => (.array .int)
  | 10 => .int
  | 11 => (.array .boolean)
  | 12 => .int
  | 13 => (.array .int)
  | 14 => (.array .int)
  | 15 => (.array .int)
  | 16 => (.array .int)
  | 17 => (.array .boolean)
  | 18 => (.array .int)
  | 19 => (.array .int)
  | 20 => (.array .int)
  | 21 => (.array .int)
  | 22 => (.array .int)
  | 23 => (.array .int)
  | 24 => (.array .int)
  | 25 => (.array .int)
  | 26 => .int
  | 27 => (.array .int)
  | 28 => (.array .int)
  | 29 => .int
  | 30 => (.array .int)
  | 31 => (.array .int)
  | 32 => .int
  | 33 => (.array .int)
  | 34 => (.array .boolean)
  | 35 => (.array .int)
  | 36 => (.array .int)
  | 37 => (.array .int)
  | 38 => .int
  | 39 => .int
  | 40 => (.array .int)
  | 41 => .int
  | 42 => .int
  | 43 => .int
  | 44 => .int
  | 45 => (.array .int)
  | 46 => (.array .int)
  | 47 => .int
  | 48 => (.array .int)
  | 49 => .int
  | 50 => .int
  | 51 => .boolean
  | 52 => (.array .int)
  | 53 => (.array .int)
  | 54 => (.array .int)
  | 55 => (.array .int)
  | 56 => (.array .int)
  | 57 => (.array .int)
  | 58 => (.array .int)
  | _ => (.array .boolean)
theorem nm_m0 : ∀ a, a < 60 → ∀ b, b < 60 → a ≠ b → (T_m0 a).2.1 ≠ (T_m0 b).2.1 := by decide +kernel
theorem tyok_m0 : ∀ k, k < 60 → parseFieldDescriptor (T_m0 k).2.2.1 = some (ty_m0 k) := by decide +kernel
set_option maxRecDepth 20000 in
theorem us_m0 : ∀ w ∈ u_ws "StoryStatesModel" T_m0 60, w ∈ sTB ∧ w.onTables = true := by
  intro w hw
  obtain ⟨k, hk, rfl⟩ := List.mem_map.mp hw
  have hk := List.mem_range.mp hk
  match k, hk with
  | 0, _ => exact ⟨sMem 982 (by decide +kernel) rfl, rfl⟩
  | 1, _ => exact ⟨sMem 984 (by decide +kernel) rfl, rfl⟩
  | 2, _ => exact ⟨sMem 986 (by decide +kernel) rfl, rfl⟩
  | 3, _ => exact ⟨sMem 988 (by decide +kernel) rfl, rfl⟩
  | 4, _ => exact ⟨sMem 990 (by decide +kernel) rfl, rfl⟩
  | 5, _ => exact ⟨sMem 992 (by decide +kernel) rfl, rfl⟩
  | 6, _ => exact ⟨sMem 994 (by decide +kernel) rfl, rfl⟩
  | 7, _ => exact ⟨sMem 996 (by decide +kernel) rfl, rfl⟩
  | 8, _ => exact ⟨sMem 998 (by decide +kernel) rfl, rfl⟩
  | 9, _ => exact ⟨sMem 1000 (by decide +kernel) rfl, rfl⟩
  | 10, _ => exact ⟨sMem 1002 (by decide +kernel) rfl, rfl⟩
  | 11, _ => exact ⟨sMem 1004 (by decide +kernel) rfl, rfl⟩
  | 12, _ => exact ⟨sMem 1006 (by decide +kernel) rfl, rfl⟩
  | 13, _ => exact ⟨sMem 1008 (by decide +kernel) rfl, rfl⟩
  | 14, _ => exact ⟨sMem 1010 (by decide +kernel) rfl, rfl⟩
  | 15, _ => exact ⟨sMem 1012 (by decide +kernel) rfl, rfl⟩
  | 16, _ => exact ⟨sMem 1014 (by decide +kernel) rfl, rfl⟩
  | 17, _ => exact ⟨sMem 1016 (by decide +kernel) rfl, rfl⟩
  | 18, _ => exact ⟨sMem 1018 (by decide +kernel) rfl, rfl⟩
  | 19, _ => exact ⟨sMem 1020 (by decide +kernel) rfl, rfl⟩
  | 20, _ => exact ⟨sMem 1022 (by decide +kernel) rfl, rfl⟩
  | 21, _ => exact ⟨sMem 1024 (by decide +kernel) rfl, rfl⟩
  | 22, _ => exact ⟨sMem 1026 (by decide +kernel) rfl, rfl⟩
  | 23, _ => exact ⟨sMem 1028 (by decide +kernel) rfl, rfl⟩
  | 24, _ => exact ⟨sMem 1030 (by decide +kernel) rfl, rfl⟩
  | 25, _ => exact ⟨sMem 1032 (by decide +kernel) rfl, rfl⟩
  | 26, _ => exact ⟨sMem 1034 (by decide +kernel) rfl, rfl⟩
  | 27, _ => exact ⟨sMem 1036 (by decide +kernel) rfl, rfl⟩
  | 28, _ => exact ⟨sMem 1038 (by decide +kernel) rfl, rfl⟩
  | 29, _ => exact ⟨sMem 1040 (by decide +kernel) rfl, rfl⟩
  | 30, _ => exact ⟨sMem 1042 (by decide +kernel) rfl, rfl⟩
  | 31, _ => exact ⟨sMem 1044 (by decide +kernel) rfl, rfl⟩
  | 32, _ => exact ⟨sMem 1046 (by decide +kernel) rfl, rfl⟩
  | 33, _ => exact ⟨sMem 1048 (by decide +kernel) rfl, rfl⟩
  | 34, _ => exact ⟨sMem 1050 (by decide +kernel) rfl, rfl⟩
  | 35, _ => exact ⟨sMem 1052 (by decide +kernel) rfl, rfl⟩
  | 36, _ => exact ⟨sMem 1054 (by decide +kernel) rfl, rfl⟩
  | 37, _ => exact ⟨sMem 1056 (by decide +kernel) rfl, rfl⟩
  | 38, _ => exact ⟨sMem 1058 (by decide +kernel) rfl, rfl⟩
  | 39, _ => exact ⟨sMem 1060 (by decide +kernel) rfl, rfl⟩
  | 40, _ => exact ⟨sMem 1062 (by decide +kernel) rfl, rfl⟩
  | 41, _ => exact ⟨sMem 1064 (by decide +kernel) rfl, rfl⟩
  | 42, _ => exact ⟨sMem 1066 (by decide +kernel) rfl, rfl⟩
  | 43, _ => exact ⟨sMem 1068 (by decide +kernel) rfl, rfl⟩
  | 44, _ => exact ⟨sMem 1070 (by decide +kernel) rfl, rfl⟩
  | 45, _ => exact ⟨sMem 1072 (by decide +kernel) rfl, rfl⟩
  | 46, _ => exact ⟨sMem 1074 (by decide +kernel) rfl, rfl⟩
  | 47, _ => exact ⟨sMem 1076 (by decide +kernel) rfl, rfl⟩
  | 48, _ => exact ⟨sMem 1078 (by decide +kernel) rfl, rfl⟩
  | 49, _ => exact ⟨sMem 1080 (by decide +kernel) rfl, rfl⟩
  | 50, _ => exact ⟨sMem 1082 (by decide +kernel) rfl, rfl⟩
  | 51, _ => exact ⟨sMem 1084 (by decide +kernel) rfl, rfl⟩
  | 52, _ => exact ⟨sMem 1086 (by decide +kernel) rfl, rfl⟩
  | 53, _ => exact ⟨sMem 1088 (by decide +kernel) rfl, rfl⟩
  | 54, _ => exact ⟨sMem 1090 (by decide +kernel) rfl, rfl⟩
  | 55, _ => exact ⟨sMem 1092 (by decide +kernel) rfl, rfl⟩
  | 56, _ => exact ⟨sMem 1094 (by decide +kernel) rfl, rfl⟩
  | 57, _ => exact ⟨sMem 1096 (by decide +kernel) rfl, rfl⟩
  | 58, _ => exact ⟨sMem 1098 (by decide +kernel) rfl, rfl⟩
  | 59, _ => exact ⟨sMem 1100 (by decide +kernel) rfl, rfl⟩
  | n + 60, h => exact absurd h (by omega)
def Zm : sZo := ([("StoryStatesModel", T_m0, 60)], [.inr (0, [none, none, some (some 1), some (some 2), none, some (some 3), some (some 4), none, some (some 5), some (some 6), none, some (some 7), none, some (some 8), some (some 9), some (some 10), some (some 11), some (some 12), some (some 13), some (some 14), some (some 15), some (some 16), some (some 17), some (some 18), some (some 19), some (some 20), none, some (some 21), some (some 22), none, some (some 23), some (some 24), none, some (some 25), some (some 26), some (some 27), some (some 28), some (some 29), none, none, some (some 30), none, none, none, none, some (some 31), some (some 32), none, some (some 33), none, none, none, some (some 34), some (some 35), some (some 36), some (some 37), some (some 38), some (some 39), some (some 40), some (some 41)]), .inl (0, 24), .inl (0, 24), .inl (0, 6), .inl (0, 6), .inl (0, 3), .inl (0, 3), .inl (1, 4), .inl (0, 12), .inl (0, 12), .inl (0, 12), .inl (0, 12), .inl (1, 12), .inl (0, 12), .inl (0, 36), .inl (0, 36), .inl (0, 36), .inl (0, 12), .inl (0, 36), .inl (0, 36), .inl (0, 36), .inl (0, 2), .inl (0, 6), .inl (0, 2), .inl (0, 2), .inl (0, 6), .inl (1, 6), .inl (0, 3), .inl (0, 2), .inl (0, 2), .inl (0, 4), .inl (0, 60), .inl (0, 60), .inl (0, 4), .inl (0, 160), .inl (0, 160), .inl (0, 160), .inl (0, 160), .inl (0, 160), .inl (0, 160), .inl (0, 800), .inl (1, 160)])
