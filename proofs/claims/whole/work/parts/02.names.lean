/-! names: the classes, their fields, the cells in the order in which they are made -/
def sw_T0 : u_T := fun k => match k with
  | 0 => ("SwarmHouse$Field", "parts", "[LSwarmHouse$Part;", false)
  | 1 => ("SwarmHouse$Field", "rule", "LSwarmHouse$Rule;", false)
  | 2 => ("SwarmHouse$Field", "size", "I", false)
  | 3 => ("SwarmHouse$Field", "first", "I", false)
  | 4 => ("SwarmHouse$Field", "last", "I", false)
  | 5 => ("SwarmHouse$Field", "mass", "I", false)
  | 6 => ("SwarmHouse$Field", "px", "J", false)
  | _ => ("SwarmHouse$Field", "py", "J", false)
def sw_y0 : Nat → FieldType := fun k => match k with
  | 0 => (.array (.object "SwarmHouse$Part"))
  | 1 => (.object "SwarmHouse$Rule")
  | 2 => .int
  | 3 => .int
  | 4 => .int
  | 5 => .int
  | 6 => .long
  | _ => .long
theorem sw_nm0 : ∀ a, a < 8 → ∀ b, b < 8 → a ≠ b → (sw_T0 a).2.1 ≠ (sw_T0 b).2.1 := by decide +kernel
theorem sw_ty0 : ∀ k, k < 8 → parseFieldDescriptor (sw_T0 k).2.2.1 = some (sw_y0 k) := by decide +kernel
theorem sw_in0 : u_ws "SwarmHouse$Field" sw_T0 8 = ([140, 142, 144, 146, 148, 150, 152, 154] : List Nat).filterMap (fun i => tables_1[i]?) := by decide +kernel
def sw_T1 : u_T := fun k => match k with
  | 0 => ("SwarmHouse$Fits", "swarm", "LSwarmHouse$Swarm;", true)
  | 1 => ("SwarmHouse$Fits", "notes", "LSwarmHouse$Notes;", true)
  | 2 => ("SwarmHouse$Fits", "weights", "[I", true)
  | 3 => ("SwarmHouse$Fits", "users", "[I", true)
  | 4 => ("SwarmHouse$Fits", "used", "I", false)
  | 5 => ("SwarmHouse$Fits", "lights", "[[I", true)
  | 6 => ("SwarmHouse$Fits", "goings", "[[I", true)
  | 7 => ("SwarmHouse$Fits", "together", "[Z", true)
  | _ => ("SwarmHouse$Fits", "portions", "I", false)
def sw_y1 : Nat → FieldType := fun k => match k with
  | 0 => (.object "SwarmHouse$Swarm")
  | 1 => (.object "SwarmHouse$Notes")
  | 2 => (.array .int)
  | 3 => (.array .int)
  | 4 => .int
  | 5 => (.array (.array .int))
  | 6 => (.array (.array .int))
  | 7 => (.array .boolean)
  | _ => .int
theorem sw_nm1 : ∀ a, a < 9 → ∀ b, b < 9 → a ≠ b → (sw_T1 a).2.1 ≠ (sw_T1 b).2.1 := by decide +kernel
theorem sw_ty1 : ∀ k, k < 9 → parseFieldDescriptor (sw_T1 k).2.2.1 = some (sw_y1 k) := by decide +kernel
theorem sw_in1 : u_ws "SwarmHouse$Fits" sw_T1 9 = ([337, 339, 341, 343, 345, 347, 349, 351, 353] : List Nat).filterMap (fun i => tables_1[i]?) := by decide +kernel
def sw_T2 : u_T := fun k => match k with
  | 0 => ("SwarmHouse$Models", "field", "LSwarmHouse$Field;", true)
  | 1 => ("SwarmHouse$Models", "swarm", "LSwarmHouse$Swarm;", true)
  | 2 => ("SwarmHouse$Models", "notes", "LSwarmHouse$Notes;", true)
  | 3 => ("SwarmHouse$Models", "fits", "LSwarmHouse$Fits;", true)
  | 4 => ("SwarmHouse$Models", "tells", "[[I", true)
  | 5 => ("SwarmHouse$Models", "pace", "I", false)
  | 6 => ("SwarmHouse$Models", "size", "I", false)
  | 7 => ("SwarmHouse$Models", "kept", "I", false)
  | 8 => ("SwarmHouse$Models", "twin", "I", false)
  | _ => ("SwarmHouse$Models", "otherTwin", "I", false)
def sw_y2 : Nat → FieldType := fun k => match k with
  | 0 => (.object "SwarmHouse$Field")
  | 1 => (.object "SwarmHouse$Swarm")
  | 2 => (.object "SwarmHouse$Notes")
  | 3 => (.object "SwarmHouse$Fits")
  | 4 => (.array (.array .int))
  | 5 => .int
  | 6 => .int
  | 7 => .int
  | 8 => .int
  | _ => .int
theorem sw_nm2 : ∀ a, a < 10 → ∀ b, b < 10 → a ≠ b → (sw_T2 a).2.1 ≠ (sw_T2 b).2.1 := by decide +kernel
theorem sw_ty2 : ∀ k, k < 10 → parseFieldDescriptor (sw_T2 k).2.2.1 = some (sw_y2 k) := by decide +kernel
theorem sw_in2 : u_ws "SwarmHouse$Models" sw_T2 10 = ([378, 380, 382, 384, 386, 388, 390, 392, 394, 396] : List Nat).filterMap (fun i => tables_1[i]?) := by decide +kernel
def sw_T3 : u_T := fun k => match k with
  | 0 => ("SwarmHouse$Notes", "kinds", "[I", true)
  | 1 => ("SwarmHouse$Notes", "cells", "[I", true)
  | 2 => ("SwarmHouse$Notes", "lows", "[I", true)
  | 3 => ("SwarmHouse$Notes", "highs", "[I", true)
  | 4 => ("SwarmHouse$Notes", "counted", "[Z", true)
  | _ => ("SwarmHouse$Notes", "size", "I", false)
def sw_y3 : Nat → FieldType := fun k => match k with
  | 0 => (.array .int)
  | 1 => (.array .int)
  | 2 => (.array .int)
  | 3 => (.array .int)
  | 4 => (.array .boolean)
  | _ => .int
theorem sw_nm3 : ∀ a, a < 6 → ∀ b, b < 6 → a ≠ b → (sw_T3 a).2.1 ≠ (sw_T3 b).2.1 := by decide +kernel
theorem sw_ty3 : ∀ k, k < 6 → parseFieldDescriptor (sw_T3 k).2.2.1 = some (sw_y3 k) := by decide +kernel
theorem sw_in3 : u_ws "SwarmHouse$Notes" sw_T3 6 = ([305, 307, 309, 311, 313, 315] : List Nat).filterMap (fun i => tables_1[i]?) := by decide +kernel
def sw_T4 : u_T := fun k => match k with
  | 0 => ("SwarmHouse$Orbit", "x", "I", false)
  | 1 => ("SwarmHouse$Orbit", "y", "I", false)
  | 2 => ("SwarmHouse$Orbit", "u", "I", false)
  | 3 => ("SwarmHouse$Orbit", "v", "I", false)
  | 4 => ("SwarmHouse$Orbit", "track", "[[I", true)
  | 5 => ("SwarmHouse$Orbit", "done", "I", false)
  | 6 => ("SwarmHouse$Orbit", "gone", "Z", false)
  | 7 => ("SwarmHouse$Orbit", "near", "J", false)
  | 8 => ("SwarmHouse$Orbit", "far", "J", false)
  | 9 => ("SwarmHouse$Orbit", "turns", "I", false)
  | 10 => ("SwarmHouse$Orbit", "quarter", "I", false)
  | 11 => ("SwarmHouse$Orbit", "spinLow", "J", false)
  | 12 => ("SwarmHouse$Orbit", "spinHigh", "J", false)
  | 13 => ("SwarmHouse$Orbit", "returns", "[I", true)
  | 14 => ("SwarmHouse$Orbit", "returned", "I", false)
  | 15 => ("SwarmHouse$Orbit", "shares", "[I", true)
  | 16 => ("SwarmHouse$Orbit", "goings", "[I", true)
  | _ => ("SwarmHouse$Orbit", "used", "Z", false)
def sw_y4 : Nat → FieldType := fun k => match k with
  | 0 => .int
  | 1 => .int
  | 2 => .int
  | 3 => .int
  | 4 => (.array (.array .int))
  | 5 => .int
  | 6 => .boolean
  | 7 => .long
  | 8 => .long
  | 9 => .int
  | 10 => .int
  | 11 => .long
  | 12 => .long
  | 13 => (.array .int)
  | 14 => .int
  | 15 => (.array .int)
  | 16 => (.array .int)
  | _ => .boolean
theorem sw_nm4 : ∀ a, a < 18 → ∀ b, b < 18 → a ≠ b → (sw_T4 a).2.1 ≠ (sw_T4 b).2.1 := by decide +kernel
theorem sw_ty4 : ∀ k, k < 18 → parseFieldDescriptor (sw_T4 k).2.2.1 = some (sw_y4 k) := by decide +kernel
theorem sw_in4 : u_ws "SwarmHouse$Orbit" sw_T4 18 = ([799, 801, 803, 805, 807, 809, 811, 813, 815, 817, 819, 821, 823, 825, 827, 829, 831, 833] : List Nat).filterMap (fun i => tables_1[i]?) := by decide +kernel
def sw_T5 : u_T := fun k => match k with
  | 0 => ("SwarmHouse$Part", "kind", "I", false)
  | 1 => ("SwarmHouse$Part", "x", "I", false)
  | 2 => ("SwarmHouse$Part", "y", "I", false)
  | 3 => ("SwarmHouse$Part", "u", "I", false)
  | 4 => ("SwarmHouse$Part", "v", "I", false)
  | 5 => ("SwarmHouse$Part", "m", "I", false)
  | 6 => ("SwarmHouse$Part", "s", "I", false)
  | 7 => ("SwarmHouse$Part", "period", "I", false)
  | _ => ("SwarmHouse$Part", "spans", "Z", false)
def sw_y5 : Nat → FieldType := fun k => match k with
  | 0 => .int
  | 1 => .int
  | 2 => .int
  | 3 => .int
  | 4 => .int
  | 5 => .int
  | 6 => .int
  | 7 => .int
  | _ => .boolean
theorem sw_nm5 : ∀ a, a < 9 → ∀ b, b < 9 → a ≠ b → (sw_T5 a).2.1 ≠ (sw_T5 b).2.1 := by decide +kernel
theorem sw_ty5 : ∀ k, k < 9 → parseFieldDescriptor (sw_T5 k).2.2.1 = some (sw_y5 k) := by decide +kernel
theorem sw_in5 : u_ws "SwarmHouse$Part" sw_T5 9 = ([96, 98, 100, 102, 104, 106, 108, 110, 112] : List Nat).filterMap (fun i => tables_1[i]?) := by decide +kernel
def sw_T6 : u_T := fun k => match k with
  | 0 => ("SwarmHouse$Reader", "text", "[B", true)
  | 1 => ("SwarmHouse$Reader", "draft", "LSwarmHouse$Field;", true)
  | 2 => ("SwarmHouse$Reader", "spanTold", "Z", false)
  | 3 => ("SwarmHouse$Reader", "size", "I", false)
  | 4 => ("SwarmHouse$Reader", "at", "I", false)
  | 5 => ("SwarmHouse$Reader", "behind", "I", false)
  | 6 => ("SwarmHouse$Reader", "token", "I", false)
  | 7 => ("SwarmHouse$Reader", "value", "I", false)
  | 8 => ("SwarmHouse$Reader", "taken", "I", false)
  | 9 => ("SwarmHouse$Reader", "fault", "I", false)
  | _ => ("SwarmHouse$Reader", "place", "I", false)
def sw_y6 : Nat → FieldType := fun k => match k with
  | 0 => (.array .byte)
  | 1 => (.object "SwarmHouse$Field")
  | 2 => .boolean
  | 3 => .int
  | 4 => .int
  | 5 => .int
  | 6 => .int
  | 7 => .int
  | 8 => .int
  | 9 => .int
  | _ => .int
theorem sw_nm6 : ∀ a, a < 11 → ∀ b, b < 11 → a ≠ b → (sw_T6 a).2.1 ≠ (sw_T6 b).2.1 := by decide +kernel
theorem sw_ty6 : ∀ k, k < 11 → parseFieldDescriptor (sw_T6 k).2.2.1 = some (sw_y6 k) := by decide +kernel
theorem sw_in6 : u_ws "SwarmHouse$Reader" sw_T6 11 = ([179, 181, 183, 185, 187, 189, 191, 193, 195, 197, 199] : List Nat).filterMap (fun i => tables_1[i]?) := by decide +kernel
def sw_T7 : u_T := fun k => match k with
  | 0 => ("SwarmHouse$Rule", "steps", "[I", true)
  | 1 => ("SwarmHouse$Rule", "numbers", "[I", true)
  | 2 => ("SwarmHouse$Rule", "stack", "[J", true)
  | 3 => ("SwarmHouse$Rule", "size", "I", false)
  | 4 => ("SwarmHouse$Rule", "error", "Z", false)
  | 5 => ("SwarmHouse$Rule", "told", "Z", false)
  | _ => ("SwarmHouse$Rule", "knots", "I", false)
def sw_y7 : Nat → FieldType := fun k => match k with
  | 0 => (.array .int)
  | 1 => (.array .int)
  | 2 => (.array .long)
  | 3 => .int
  | 4 => .boolean
  | 5 => .boolean
  | _ => .int
theorem sw_nm7 : ∀ a, a < 7 → ∀ b, b < 7 → a ≠ b → (sw_T7 a).2.1 ≠ (sw_T7 b).2.1 := by decide +kernel
theorem sw_ty7 : ∀ k, k < 7 → parseFieldDescriptor (sw_T7 k).2.2.1 = some (sw_y7 k) := by decide +kernel
theorem sw_in7 : u_ws "SwarmHouse$Rule" sw_T7 7 = ([54, 56, 58, 60, 62, 64, 66] : List Nat).filterMap (fun i => tables_1[i]?) := by decide +kernel
def sw_T8 : u_T := fun k => match k with
  | 0 => ("SwarmHouse$Star", "x", "J", false)
  | 1 => ("SwarmHouse$Star", "y", "J", false)
  | 2 => ("SwarmHouse$Star", "u", "J", false)
  | 3 => ("SwarmHouse$Star", "v", "J", false)
  | 4 => ("SwarmHouse$Star", "time", "I", false)
  | _ => ("SwarmHouse$Star", "gone", "I", false)
def sw_y8 : Nat → FieldType := fun k => match k with
  | 0 => .long
  | 1 => .long
  | 2 => .long
  | 3 => .long
  | 4 => .int
  | _ => .int
theorem sw_nm8 : ∀ a, a < 6 → ∀ b, b < 6 → a ≠ b → (sw_T8 a).2.1 ≠ (sw_T8 b).2.1 := by decide +kernel
theorem sw_ty8 : ∀ k, k < 6 → parseFieldDescriptor (sw_T8 k).2.2.1 = some (sw_y8 k) := by decide +kernel
theorem sw_in8 : u_ws "SwarmHouse$Star" sw_T8 6 = ([227, 229, 231, 233, 235, 237] : List Nat).filterMap (fun i => tables_1[i]?) := by decide +kernel
def sw_T9 : u_T := fun k => match k with
  | 0 => ("SwarmHouse$Stream", "x", "I", false)
  | 1 => ("SwarmHouse$Stream", "y", "I", false)
  | 2 => ("SwarmHouse$Stream", "u", "I", false)
  | 3 => ("SwarmHouse$Stream", "v", "I", false)
  | 4 => ("SwarmHouse$Stream", "a", "I", false)
  | 5 => ("SwarmHouse$Stream", "b", "I", false)
  | 6 => ("SwarmHouse$Stream", "c", "I", false)
  | 7 => ("SwarmHouse$Stream", "d", "I", false)
  | 8 => ("SwarmHouse$Stream", "walker", "LSwarmHouse$Star;", true)
  | 9 => ("SwarmHouse$Stream", "stars", "I", false)
  | _ => ("SwarmHouse$Stream", "steps", "I", false)
def sw_y9 : Nat → FieldType := fun k => match k with
  | 0 => .int
  | 1 => .int
  | 2 => .int
  | 3 => .int
  | 4 => .int
  | 5 => .int
  | 6 => .int
  | 7 => .int
  | 8 => (.object "SwarmHouse$Star")
  | 9 => .int
  | _ => .int
theorem sw_nm9 : ∀ a, a < 11 → ∀ b, b < 11 → a ≠ b → (sw_T9 a).2.1 ≠ (sw_T9 b).2.1 := by decide +kernel
theorem sw_ty9 : ∀ k, k < 11 → parseFieldDescriptor (sw_T9 k).2.2.1 = some (sw_y9 k) := by decide +kernel
theorem sw_in9 : u_ws "SwarmHouse$Stream" sw_T9 11 = ([420, 422, 424, 426, 428, 430, 432, 434, 436, 438, 440] : List Nat).filterMap (fun i => tables_1[i]?) := by decide +kernel
def sw_T10 : u_T := fun k => match k with
  | 0 => ("SwarmHouse$Swarm", "field", "LSwarmHouse$Field;", true)
  | 1 => ("SwarmHouse$Swarm", "orbits", "[LSwarmHouse$Orbit;", true)
  | 2 => ("SwarmHouse$Swarm", "walker", "LSwarmHouse$Star;", true)
  | 3 => ("SwarmHouse$Swarm", "size", "I", false)
  | 4 => ("SwarmHouse$Swarm", "length", "I", false)
  | 5 => ("SwarmHouse$Swarm", "g", "I", false)
  | 6 => ("SwarmHouse$Swarm", "\x72", "I", false)
  | 7 => ("SwarmHouse$Swarm", "fresh", "Z", false)
  | _ => ("SwarmHouse$Swarm", "massOfRun", "I", false)
def sw_y10 : Nat → FieldType := fun k => match k with
  | 0 => (.object "SwarmHouse$Field")
  | 1 => (.array (.object "SwarmHouse$Orbit"))
  | 2 => (.object "SwarmHouse$Star")
  | 3 => .int
  | 4 => .int
  | 5 => .int
  | 6 => .int
  | 7 => .boolean
  | _ => .int
theorem sw_nm10 : ∀ a, a < 9 → ∀ b, b < 9 → a ≠ b → (sw_T10 a).2.1 ≠ (sw_T10 b).2.1 := by decide +kernel
theorem sw_ty10 : ∀ k, k < 9 → parseFieldDescriptor (sw_T10 k).2.2.1 = some (sw_y10 k) := by decide +kernel
theorem sw_in10 : u_ws "SwarmHouse$Swarm" sw_T10 9 = ([266, 268, 270, 272, 274, 276, 278, 280, 282] : List Nat).filterMap (fun i => tables_1[i]?) := by decide +kernel
def sw_T11 : u_T := fun k => match k with
  | 0 => ("SwarmHouse", "tape", "[B", true)
  | 1 => ("SwarmHouse", "taped", "I", false)
  | 2 => ("SwarmHouse", "field", "LSwarmHouse$Field;", true)
  | 3 => ("SwarmHouse", "reader", "LSwarmHouse$Reader;", true)
  | 4 => ("SwarmHouse", "star", "LSwarmHouse$Star;", true)
  | 5 => ("SwarmHouse", "starThere", "Z", false)
  | 6 => ("SwarmHouse", "swarm", "LSwarmHouse$Swarm;", true)
  | 7 => ("SwarmHouse", "notes", "LSwarmHouse$Notes;", true)
  | 8 => ("SwarmHouse", "fits", "LSwarmHouse$Fits;", true)
  | 9 => ("SwarmHouse", "models", "LSwarmHouse$Models;", true)
  | _ => ("SwarmHouse", "stream", "LSwarmHouse$Stream;", true)
def sw_y11 : Nat → FieldType := fun k => match k with
  | 0 => (.array .byte)
  | 1 => .int
  | 2 => (.object "SwarmHouse$Field")
  | 3 => (.object "SwarmHouse$Reader")
  | 4 => (.object "SwarmHouse$Star")
  | 5 => .boolean
  | 6 => (.object "SwarmHouse$Swarm")
  | 7 => (.object "SwarmHouse$Notes")
  | 8 => (.object "SwarmHouse$Fits")
  | 9 => (.object "SwarmHouse$Models")
  | _ => (.object "SwarmHouse$Stream")
theorem sw_nm11 : ∀ a, a < 11 → ∀ b, b < 11 → a ≠ b → (sw_T11 a).2.1 ≠ (sw_T11 b).2.1 := by decide +kernel
theorem sw_ty11 : ∀ k, k < 11 → parseFieldDescriptor (sw_T11 k).2.2.1 = some (sw_y11 k) := by decide +kernel
theorem sw_in11 : u_ws "SwarmHouse" sw_T11 11 = ([454, 456, 458, 460, 462, 464, 466, 468, 470, 472, 474] : List Nat).filterMap (fun i => tables_1[i]?) := by decide +kernel
def sw_T12 : u_T := fun k => match k with
  | 0 => ("SwarmHouseModel", "thrown", "I", false)
  | 1 => ("SwarmHouseModel", "kind", "[I", true)
  | 2 => ("SwarmHouseModel", "atX", "[I", true)
  | 3 => ("SwarmHouseModel", "atY", "[I", true)
  | 4 => ("SwarmHouseModel", "goU", "[I", true)
  | 5 => ("SwarmHouseModel", "goV", "[I", true)
  | 6 => ("SwarmHouseModel", "heavy", "[I", true)
  | 7 => ("SwarmHouseModel", "heaviest", "[I", true)
  | 8 => ("SwarmHouseModel", "soft", "[I", true)
  | 9 => ("SwarmHouseModel", "turn", "[I", true)
  | 10 => ("SwarmHouseModel", "parts", "I", false)
  | 11 => ("SwarmHouseModel", "partsNew", "I", false)
  | 12 => ("SwarmHouseModel", "span", "I", false)
  | 13 => ("SwarmHouseModel", "spanAt", "I", false)
  | 14 => ("SwarmHouseModel", "spanNew", "I", false)
  | 15 => ("SwarmHouseModel", "mass", "I", false)
  | 16 => ("SwarmHouseModel", "knotSort", "[I", true)
  | 17 => ("SwarmHouseModel", "knotValue", "[I", true)
  | 18 => ("SwarmHouseModel", "knots", "I", false)
  | 19 => ("SwarmHouseModel", "knotsNew", "I", false)
  | 20 => ("SwarmHouseModel", "hasUse", "Z", false)
  | 21 => ("SwarmHouseModel", "hasUseNew", "Z", false)
  | 22 => ("SwarmHouseModel", "tape", "[I", true)
  | 23 => ("SwarmHouseModel", "taped", "I", false)
  | 24 => ("SwarmHouseModel", "size", "I", false)
  | 25 => ("SwarmHouseModel", "at", "I", false)
  | 26 => ("SwarmHouseModel", "place", "I", false)
  | 27 => ("SwarmHouseModel", "sort", "I", false)
  | 28 => ("SwarmHouseModel", "value", "I", false)
  | 29 => ("SwarmHouseModel", "open", "I", false)
  | 30 => ("SwarmHouseModel", "fault", "I", false)
  | 31 => ("SwarmHouseModel", "faultPlace", "I", false)
  | 32 => ("SwarmHouseModel", "lastFault", "I", false)
  | 33 => ("SwarmHouseModel", "lastPlace", "I", false)
  | 34 => ("SwarmHouseModel", "pile", "[I", true)
  | 35 => ("SwarmHouseModel", "piled", "I", false)
  | 36 => ("SwarmHouseModel", "counted", "I", false)
  | 37 => ("SwarmHouseModel", "pullX", "J", false)
  | 38 => ("SwarmHouseModel", "pullY", "J", false)
  | 39 => ("SwarmHouseModel", "goX", "J", false)
  | 40 => ("SwarmHouseModel", "goY", "J", false)
  | 41 => ("SwarmHouseModel", "speedX", "J", false)
  | 42 => ("SwarmHouseModel", "speedY", "J", false)
  | 43 => ("SwarmHouseModel", "hasStar", "Z", false)
  | 44 => ("SwarmHouseModel", "starX", "J", false)
  | 45 => ("SwarmHouseModel", "starY", "J", false)
  | 46 => ("SwarmHouseModel", "starU", "J", false)
  | 47 => ("SwarmHouseModel", "starV", "J", false)
  | 48 => ("SwarmHouseModel", "starTime", "I", false)
  | 49 => ("SwarmHouseModel", "starGone", "I", false)
  | 50 => ("SwarmHouseModel", "orbits", "I", false)
  | 51 => ("SwarmHouseModel", "length", "I", false)
  | 52 => ("SwarmHouseModel", "beginX", "[I", true)
  | 53 => ("SwarmHouseModel", "beginY", "[I", true)
  | 54 => ("SwarmHouseModel", "beginU", "[I", true)
  | 55 => ("SwarmHouseModel", "beginV", "[I", true)
  | 56 => ("SwarmHouseModel", "placeX", "[I", true)
  | 57 => ("SwarmHouseModel", "placeY", "[I", true)
  | 58 => ("SwarmHouseModel", "placeU", "[I", true)
  | 59 => ("SwarmHouseModel", "placeV", "[I", true)
  | 60 => ("SwarmHouseModel", "done", "[I", true)
  | 61 => ("SwarmHouseModel", "gone", "[Z", true)
  | 62 => ("SwarmHouseModel", "sorts", "[I", true)
  | 63 => ("SwarmHouseModel", "drifts", "[J", true)
  | 64 => ("SwarmHouseModel", "nears", "[J", true)
  | 65 => ("SwarmHouseModel", "fars", "[J", true)
  | 66 => ("SwarmHouseModel", "turnsOf", "[I", true)
  | 67 => ("SwarmHouseModel", "backs", "[I", true)
  | 68 => ("SwarmHouseModel", "used", "[Z", true)
  | 69 => ("SwarmHouseModel", "worked", "[J", true)
  | 70 => ("SwarmHouseModel", "workedMany", "I", false)
  | 71 => ("SwarmHouseModel", "grid", "I", false)
  | 72 => ("SwarmHouseModel", "wide", "I", false)
  | 73 => ("SwarmHouseModel", "share", "[I", true)
  | 74 => ("SwarmHouseModel", "going", "[I", true)
  | 75 => ("SwarmHouseModel", "portions", "I", false)
  | 76 => ("SwarmHouseModel", "notes", "I", false)
  | 77 => ("SwarmHouseModel", "isStrike", "[Z", true)
  | 78 => ("SwarmHouseModel", "noteKind", "[I", true)
  | 79 => ("SwarmHouseModel", "noteCell", "[I", true)
  | 80 => ("SwarmHouseModel", "noteLow", "[I", true)
  | 81 => ("SwarmHouseModel", "noteHigh", "[I", true)
  | 82 => ("SwarmHouseModel", "isStruck", "[Z", true)
  | 83 => ("SwarmHouseModel", "counting", "I", false)
  | 84 => ("SwarmHouseModel", "weight", "[I", true)
  | 85 => ("SwarmHouseModel", "usedAt", "[I", true)
  | 86 => ("SwarmHouseModel", "usedMany", "I", false)
  | 87 => ("SwarmHouseModel", "together", "[Z", true)
  | 88 => ("SwarmHouseModel", "tells", "[I", true)
  | 89 => ("SwarmHouseModel", "hasStream", "Z", false)
  | _ => ("SwarmHouseModel", "flow", "[I", true)
def sw_y12 : Nat → FieldType := fun k => match k with
  | 0 => .int
  | 1 => (.array .int)
  | 2 => (.array .int)
  | 3 => (.array .int)
  | 4 => (.array .int)
  | 5 => (.array .int)
  | 6 => (.array .int)
  | 7 => (.array .int)
  | 8 => (.array .int)
  | 9 => (.array .int)
  | 10 => .int
  | 11 => .int
  | 12 => .int
  | 13 => .int
  | 14 => .int
  | 15 => .int
  | 16 => (.array .int)
  | 17 => (.array .int)
  | 18 => .int
  | 19 => .int
  | 20 => .boolean
  | 21 => .boolean
  | 22 => (.array .int)
  | 23 => .int
  | 24 => .int
  | 25 => .int
  | 26 => .int
  | 27 => .int
  | 28 => .int
  | 29 => .int
  | 30 => .int
  | 31 => .int
  | 32 => .int
  | 33 => .int
  | 34 => (.array .int)
  | 35 => .int
  | 36 => .int
  | 37 => .long
  | 38 => .long
  | 39 => .long
  | 40 => .long
  | 41 => .long
  | 42 => .long
  | 43 => .boolean
  | 44 => .long
  | 45 => .long
  | 46 => .long
  | 47 => .long
  | 48 => .int
  | 49 => .int
  | 50 => .int
  | 51 => .int
  | 52 => (.array .int)
  | 53 => (.array .int)
  | 54 => (.array .int)
  | 55 => (.array .int)
  | 56 => (.array .int)
  | 57 => (.array .int)
  | 58 => (.array .int)
  | 59 => (.array .int)
  | 60 => (.array .int)
  | 61 => (.array .boolean)
  | 62 => (.array .int)
  | 63 => (.array .long)
  | 64 => (.array .long)
  | 65 => (.array .long)
  | 66 => (.array .int)
  | 67 => (.array .int)
  | 68 => (.array .boolean)
  | 69 => (.array .long)
  | 70 => .int
  | 71 => .int
  | 72 => .int
  | 73 => (.array .int)
  | 74 => (.array .int)
  | 75 => .int
  | 76 => .int
  | 77 => (.array .boolean)
  | 78 => (.array .int)
  | 79 => (.array .int)
  | 80 => (.array .int)
  | 81 => (.array .int)
  | 82 => (.array .boolean)
  | 83 => .int
  | 84 => (.array .int)
  | 85 => (.array .int)
  | 86 => .int
  | 87 => (.array .boolean)
  | 88 => (.array .int)
  | 89 => .boolean
  | _ => (.array .int)
theorem sw_nm12 : ∀ a, a < 91 → ∀ b, b < 91 → a ≠ b → (sw_T12 a).2.1 ≠ (sw_T12 b).2.1 := by decide +kernel
theorem sw_ty12 : ∀ k, k < 91 → parseFieldDescriptor (sw_T12 k).2.2.1 = some (sw_y12 k) := by decide +kernel
theorem sw_in12 : u_ws "SwarmHouseModel" sw_T12 91 = ([1276, 1278, 1280, 1282, 1284, 1286, 1288, 1290, 1292, 1294, 1296, 1298, 1300, 1302, 1304, 1306, 1308, 1310, 1312, 1314, 1316, 1318, 1320, 1322, 1324, 1326, 1328, 1330, 1332, 1334, 1336, 1338, 1340, 1342, 1344, 1346, 1348, 1350, 1352, 1354, 1356, 1358, 1360, 1362, 1364, 1366, 1368, 1370, 1372, 1374, 1376, 1378, 1380, 1382, 1384, 1386, 1388, 1390, 1392, 1394, 1396, 1398, 1400, 1402, 1404, 1406, 1408, 1410, 1412, 1414, 1416, 1418, 1420, 1422, 1424, 1426, 1428, 1430, 1432, 1434, 1436, 1438, 1440, 1442, 1444, 1446, 1448, 1450, 1452, 1454, 1456] : List Nat).filterMap (fun i => tables_1[i]?) := by decide +kernel
abbrev sw_cl : List vw_C := [("SwarmHouse$Field", sw_T0, 8), ("SwarmHouse$Fits", sw_T1, 9), ("SwarmHouse$Models", sw_T2, 10), ("SwarmHouse$Notes", sw_T3, 6), ("SwarmHouse$Orbit", sw_T4, 18), ("SwarmHouse$Part", sw_T5, 9), ("SwarmHouse$Reader", sw_T6, 11), ("SwarmHouse$Rule", sw_T7, 7), ("SwarmHouse$Star", sw_T8, 6), ("SwarmHouse$Stream", sw_T9, 11), ("SwarmHouse$Swarm", sw_T10, 9), ("SwarmHouse", sw_T11, 11), ("SwarmHouseModel", sw_T12, 91)]
def sw_fy : Nat → Nat → FieldType := fun c => match c with
  | 0 => sw_y0
  | 1 => sw_y1
  | 2 => sw_y2
  | 3 => sw_y3
  | 4 => sw_y4
  | 5 => sw_y5
  | 6 => sw_y6
  | 7 => sw_y7
  | 8 => sw_y8
  | 9 => sw_y9
  | 10 => sw_y10
  | 11 => sw_y11
  | _ => sw_y12
def sw_fts : List (List Nat) := [[2, 2, 0, 0, 0, 0, 1, 1], [2, 2, 2, 2, 0, 2, 2, 2, 0], [2, 2, 2, 2, 2, 0, 0, 0, 0, 0], [2, 2, 2, 2, 2, 0], [0, 0, 0, 0, 2, 0, 3, 1, 1, 0, 0, 1, 1, 2, 0, 2, 2, 3], [0, 0, 0, 0, 0, 0, 0, 0, 3], [2, 2, 3, 0, 0, 0, 0, 0, 0, 0, 0], [2, 2, 2, 0, 3, 3, 0], [1, 1, 1, 1, 0, 0], [0, 0, 0, 0, 0, 0, 0, 0, 2, 0, 0], [2, 2, 2, 0, 0, 0, 0, 3, 0], [2, 0, 2, 2, 2, 3, 2, 2, 2, 2, 2], [0, 2, 2, 2, 2, 2, 2, 2, 2, 2, 0, 0, 0, 0, 0, 0, 2, 2, 0, 0, 3, 3, 2, 0, 0, 0, 0, 0, 0, 0, 0, 0, 0, 0, 2, 0, 0, 1, 1, 1, 1, 1, 1, 3, 1, 1, 1, 1, 0, 0, 0, 0, 2, 2, 2, 2, 2, 2, 2, 2, 2, 2, 2, 2, 2, 2, 2, 2, 2, 2, 0, 0, 0, 2, 2, 0, 0, 2, 2, 2, 2, 2, 2, 0, 2, 2, 0, 2, 2, 3, 2]]
def sw_ft (c k : Nat) : Nat := (sw_fts.getD c []).getD k 0
def sw_fin : List (List Bool) := [[false, false, false, false, false, false, false, false], [true, true, true, true, false, true, true, true, false], [true, true, true, true, true, false, false, false, false, false], [true, true, true, true, true, false], [false, false, false, false, true, false, false, false, false, false, false, false, false, true, false, true, true, false], [false, false, false, false, false, false, false, false, false], [true, true, false, false, false, false, false, false, false, false, false], [true, true, true, false, false, false, false], [false, false, false, false, false, false], [false, false, false, false, false, false, false, false, true, false, false], [true, true, true, false, false, false, false, false, false], [true, false, true, true, true, false, true, true, true, true, true], [false, true, true, true, true, true, true, true, true, true, false, false, false, false, false, false, true, true, false, false, false, false, true, false, false, false, false, false, false, false, false, false, false, false, true, false, false, false, false, false, false, false, false, false, false, false, false, false, false, false, false, false, true, true, true, true, true, true, true, true, true, true, true, true, true, true, true, true, true, true, false, false, false, true, true, false, false, true, true, true, true, true, true, false, true, true, false, true, true, false, true]]
def sw_lay : List (Nat × Nat) := [(11, 0), (14, 500), (0, 0), (18, 8), (7, 0), (13, 48), (13, 48), (16, 48), (5, 0), (5, 0), (5, 0), (5, 0), (5, 0), (5, 0), (5, 0), (5, 0), (6, 0), (0, 0), (18, 8), (7, 0), (13, 48), (13, 48), (16, 48), (5, 0), (5, 0), (5, 0), (5, 0), (5, 0), (5, 0), (5, 0), (5, 0), (8, 0), (10, 0), (17, 6), (8, 0), (3, 0), (13, 10), (13, 10), (13, 10), (13, 10), (15, 10), (1, 0), (13, 6), (13, 6), (19, 10), (13, 6), (13, 6), (13, 6), (13, 6), (13, 6), (13, 6), (13, 6), (13, 6), (13, 6), (13, 6), (19, 10), (13, 6), (13, 6), (13, 6), (13, 6), (13, 6), (13, 6), (13, 6), (13, 6), (13, 6), (13, 6), (15, 1024), (2, 0), (19, 8), (13, 64), (13, 64), (13, 64), (13, 64), (13, 64), (13, 64), (13, 64), (13, 64), (9, 0), (8, 0), (12, 0), (13, 16), (13, 16), (13, 16), (13, 16), (13, 16), (13, 16), (13, 16), (13, 16), (13, 16), (13, 96), (13, 96), (13, 500), (13, 64), (13, 6), (13, 6), (13, 6), (13, 6), (13, 1446), (13, 1446), (13, 1446), (13, 1446), (13, 6), (15, 6), (13, 6), (16, 6), (16, 6), (16, 6), (13, 6), (13, 6), (15, 6), (16, 64), (13, 384), (13, 384), (15, 10), (13, 10), (13, 10), (13, 10), (13, 10), (15, 10), (13, 6), (13, 6), (15, 1024), (13, 512), (13, 10), (4, 0), (19, 4), (13, 241), (13, 241), (13, 241), (13, 241), (13, 240), (13, 64), (13, 64), (4, 0), (19, 4), (13, 241), (13, 241), (13, 241), (13, 241), (13, 240), (13, 64), (13, 64), (4, 0), (19, 4), (13, 241), (13, 241), (13, 241), (13, 241), (13, 240), (13, 64), (13, 64), (4, 0), (19, 4), (13, 241), (13, 241), (13, 241), (13, 241), (13, 240), (13, 64), (13, 64), (4, 0), (19, 4), (13, 241), (13, 241), (13, 241), (13, 241), (13, 240), (13, 64), (13, 64), (4, 0), (19, 4), (13, 241), (13, 241), (13, 241), (13, 241), (13, 240), (13, 64), (13, 64)]
def sw_on : Nat → String := fun o => match o with
  | 0 => "SwarmHouse$Field"
  | 1 => "SwarmHouse$Fits"
  | 2 => "SwarmHouse$Models"
  | 3 => "SwarmHouse$Notes"
  | 4 => "SwarmHouse$Orbit"
  | 5 => "SwarmHouse$Part"
  | 6 => "SwarmHouse$Reader"
  | 7 => "SwarmHouse$Rule"
  | 8 => "SwarmHouse$Star"
  | 9 => "SwarmHouse$Stream"
  | 10 => "SwarmHouse$Swarm"
  | 11 => "SwarmHouse"
  | 12 => "SwarmHouseModel"
  | 13 => "SwarmHouseLaw"
  | 14 => "java/lang/Integer"
  | 15 => "java/lang/Long"
  | 16 => "java/lang/Math"
  | 17 => "java/lang/String"
  | 18 => "java/lang/StringLatin1"
  | 19 => "java/util/Arrays"
  | _ => "jdk/internal/util/Preconditions"
/-- what a field entry of a class' pool is: its class, the entry, the field's class and place, the row of the tables -/
def sw_fl : List (Nat × Nat × Nat × Nat × Nat) := [(7, 9, 7, 0, 44), (7, 15, 7, 1, 45), (7, 18, 7, 2, 46), (7, 22, 7, 3, 47), (7, 33, 7, 4, 48), (7, 26, 7, 5, 49), (6, 132, 7, 5, 50), (7, 30, 7, 6, 51), (6, 164, 7, 6, 52), (11, 343, 7, 6, 53), (5, 9, 5, 0, 77), (0, 55, 5, 0, 78), (5, 15, 5, 1, 79), (6, 104, 5, 1, 80), (5, 18, 5, 2, 81), (6, 107, 5, 2, 82), (5, 21, 5, 3, 83), (6, 110, 5, 3, 84), (5, 24, 5, 4, 85), (6, 113, 5, 4, 86), (5, 27, 5, 5, 87), (6, 87, 5, 5, 88), (5, 30, 5, 6, 89), (6, 95, 5, 6, 90), (5, 33, 5, 7, 91), (6, 123, 5, 7, 92), (0, 58, 5, 7, 93), (5, 36, 5, 8, 94), (6, 116, 5, 8, 95), (0, 11, 0, 0, 115), (0, 20, 0, 1, 116), (10, 73, 0, 1, 117), (6, 128, 0, 1, 118), (11, 339, 0, 1, 119), (0, 25, 0, 2, 120), (11, 104, 0, 2, 121), (0, 29, 0, 3, 122), (2, 82, 0, 3, 123), (11, 110, 0, 3, 124), (0, 32, 0, 4, 125), (11, 113, 0, 4, 126), (0, 35, 0, 5, 127), (2, 55, 0, 5, 128), (5, 40, 0, 5, 129), (10, 60, 0, 5, 130), (11, 116, 0, 5, 131), (8, 37, 0, 6, 132), (5, 59, 0, 6, 133), (0, 44, 0, 6, 134), (11, 141, 0, 6, 135), (8, 40, 0, 7, 136), (5, 63, 0, 7, 137), (0, 48, 0, 7, 138), (11, 145, 0, 7, 139), (6, 25, 6, 0, 165), (6, 12, 6, 1, 166), (11, 95, 6, 1, 167), (6, 41, 6, 2, 168), (6, 35, 6, 3, 169), (6, 167, 6, 4, 170), (6, 38, 6, 5, 171), (6, 51, 6, 6, 172), (6, 125, 6, 7, 173), (6, 84, 6, 8, 174), (6, 18, 6, 9, 175), (11, 92, 6, 9, 176), (6, 22, 6, 10, 177), (11, 107, 6, 10, 178), (8, 9, 8, 0, 208), (4, 57, 8, 0, 209), (9, 60, 8, 0, 210), (11, 163, 8, 0, 211), (8, 15, 8, 1, 212), (4, 60, 8, 1, 213), (9, 63, 8, 1, 214), (11, 166, 8, 1, 215), (8, 18, 8, 2, 216), (4, 74, 8, 2, 217), (11, 169, 8, 2, 218), (8, 21, 8, 3, 219), (4, 72, 8, 3, 220), (11, 172, 8, 3, 221), (8, 24, 8, 4, 222), (11, 175, 8, 4, 223), (8, 28, 8, 5, 224), (4, 96, 8, 5, 225), (9, 57, 8, 5, 226), (10, 44, 10, 0, 250), (10, 11, 10, 1, 251), (10, 20, 10, 2, 252), (10, 24, 10, 3, 253), (1, 80, 10, 3, 254), (11, 280, 10, 3, 255), (10, 28, 10, 4, 256), (1, 114, 10, 4, 257), (11, 178, 10, 4, 258), (10, 31, 10, 5, 259), (11, 243, 10, 5, 260), (10, 34, 10, 6, 261), (11, 246, 10, 6, 262), (10, 37, 10, 7, 263), (11, 348, 10, 7, 264), (10, 41, 10, 8, 265), (3, 9, 3, 0, 291), (1, 109, 3, 0, 292), (3, 15, 3, 1, 293), (1, 90, 3, 1, 294), (2, 111, 3, 1, 295), (3, 18, 3, 2, 296), (1, 117, 3, 2, 297), (3, 21, 3, 3, 298), (1, 120, 3, 3, 299), (3, 24, 3, 4, 300), (3, 28, 3, 5, 301), (2, 48, 3, 5, 302), (1, 101, 3, 5, 303), (11, 262, 3, 5, 304), (1, 34, 1, 0, 327), (1, 38, 1, 1, 328), (1, 9, 1, 2, 329), (1, 15, 1, 3, 330), (1, 56, 1, 4, 331), (1, 20, 1, 5, 332), (1, 23, 1, 6, 333), (1, 26, 1, 7, 334), (1, 30, 1, 8, 335), (11, 255, 1, 8, 336), (2, 20, 2, 0, 363), (2, 24, 2, 1, 364), (2, 28, 2, 2, 365), (2, 32, 2, 3, 366), (2, 11, 2, 4, 367), (2, 16, 2, 5, 368), (11, 258, 2, 5, 369), (2, 42, 2, 6, 370), (11, 291, 2, 6, 371), (2, 45, 2, 7, 372), (11, 292, 2, 7, 373), (2, 101, 2, 8, 374), (11, 304, 2, 8, 375), (2, 104, 2, 9, 376), (11, 307, 2, 9, 377), (9, 25, 9, 0, 407), (9, 28, 9, 1, 408), (9, 31, 9, 2, 409), (9, 34, 9, 3, 410), (9, 37, 9, 4, 411), (9, 40, 9, 5, 412), (9, 43, 9, 6, 413), (9, 46, 9, 7, 414), (9, 12, 9, 8, 415), (9, 18, 9, 9, 416), (11, 320, 9, 9, 417), (9, 22, 9, 10, 418), (11, 323, 9, 10, 419), (11, 9, 11, 0, 443), (11, 13, 11, 1, 444), (11, 20, 11, 2, 445), (11, 29, 11, 3, 446), (11, 36, 11, 4, 447), (11, 40, 11, 5, 448), (11, 49, 11, 6, 449), (11, 56, 11, 7, 450), (11, 65, 11, 8, 451), (11, 74, 11, 9, 452), (11, 81, 11, 10, 453), (4, 26, 4, 0, 765), (4, 30, 4, 1, 766), (4, 33, 4, 2, 767), (4, 36, 4, 3, 768), (4, 11, 4, 4, 769), (11, 221, 4, 4, 770), (4, 45, 4, 5, 771), (11, 191, 4, 5, 772), (4, 99, 4, 6, 773), (11, 229, 4, 6, 774), (4, 66, 4, 7, 775), (11, 196, 4, 7, 776), (4, 69, 4, 8, 777), (11, 199, 4, 8, 778), (4, 48, 4, 9, 779), (11, 202, 4, 9, 780), (4, 54, 4, 10, 781), (4, 76, 4, 11, 782), (11, 212, 4, 11, 783), (4, 79, 4, 12, 784), (11, 209, 4, 12, 785), (4, 16, 4, 13, 786), (11, 225, 4, 13, 787), (4, 51, 4, 14, 788), (11, 215, 4, 14, 789), (4, 20, 4, 15, 790), (1, 69, 4, 15, 791), (11, 249, 4, 15, 792), (4, 23, 4, 16, 793), (1, 99, 4, 16, 794), (11, 252, 4, 16, 795), (1, 83, 4, 17, 796), (10, 83, 4, 17, 797), (11, 218, 4, 17, 798), (12, 166, 12, 0, 1185), (12, 7, 12, 1, 1186), (12, 13, 12, 2, 1187), (12, 16, 12, 3, 1188), (12, 19, 12, 4, 1189), (12, 22, 12, 5, 1190), (12, 25, 12, 6, 1191), (12, 28, 12, 7, 1192), (12, 31, 12, 8, 1193), (12, 34, 12, 9, 1194), (12, 296, 12, 10, 1195), (12, 236, 12, 11, 1196), (12, 163, 12, 12, 1197), (12, 37, 12, 13, 1198), (12, 249, 12, 14, 1199), (12, 305, 12, 15, 1200), (12, 41, 12, 16, 1201), (12, 44, 12, 17, 1202), (12, 299, 12, 18, 1203), (12, 255, 12, 19, 1204), (12, 302, 12, 20, 1205), (12, 232, 12, 21, 1206), (12, 47, 12, 22, 1207), (12, 169, 12, 23, 1208), (12, 175, 12, 24, 1209), (12, 172, 12, 25, 1210), (12, 182, 12, 26, 1211), (12, 185, 12, 27, 1212), (12, 195, 12, 28, 1213), (12, 268, 12, 29, 1214), (12, 212, 12, 30, 1215), (12, 215, 12, 31, 1216), (12, 293, 12, 32, 1217), (12, 50, 12, 33, 1218), (12, 53, 12, 34, 1219), (12, 258, 12, 35, 1220), (12, 252, 12, 36, 1221), (12, 316, 12, 37, 1222), (12, 320, 12, 38, 1223), (12, 351, 12, 39, 1224), (12, 354, 12, 40, 1225), (12, 357, 12, 41, 1226), (12, 360, 12, 42, 1227), (12, 367, 12, 43, 1228), (12, 370, 12, 44, 1229), (12, 373, 12, 45, 1230), (12, 376, 12, 46, 1231), (12, 379, 12, 47, 1232), (12, 382, 12, 48, 1233), (12, 385, 12, 49, 1234), (12, 397, 12, 50, 1235), (12, 56, 12, 51, 1236), (12, 59, 12, 52, 1237), (12, 62, 12, 53, 1238), (12, 65, 12, 54, 1239), (12, 68, 12, 55, 1240), (12, 71, 12, 56, 1241), (12, 74, 12, 57, 1242), (12, 77, 12, 58, 1243), (12, 80, 12, 59, 1244), (12, 83, 12, 60, 1245), (12, 86, 12, 61, 1246), (12, 90, 12, 62, 1247), (12, 93, 12, 63, 1248), (12, 97, 12, 64, 1249), (12, 100, 12, 65, 1250), (12, 103, 12, 66, 1251), (12, 106, 12, 67, 1252), (12, 109, 12, 68, 1253), (12, 112, 12, 69, 1254), (12, 416, 12, 70, 1255), (12, 115, 12, 71, 1256), (12, 118, 12, 72, 1257), (12, 121, 12, 73, 1258), (12, 124, 12, 74, 1259), (12, 127, 12, 75, 1260), (12, 462, 12, 76, 1261), (12, 130, 12, 77, 1262), (12, 133, 12, 78, 1263), (12, 136, 12, 79, 1264), (12, 139, 12, 80, 1265), (12, 142, 12, 81, 1266), (12, 145, 12, 82, 1267), (12, 465, 12, 83, 1268), (12, 148, 12, 84, 1269), (12, 151, 12, 85, 1270), (12, 468, 12, 86, 1271), (12, 154, 12, 87, 1272), (12, 157, 12, 88, 1273), (12, 530, 12, 89, 1274), (12, 160, 12, 90, 1275)]
def sw_ki : List (Nat × Nat × Int × Nat) := [(6, 191, 1000000, 565), (6, 79, 99999, 602), (11, 123, -2147483648, 682), (1, 52, 1000000, 1030), (11, 273, 1000000, 1035), (14, 265, 1431655765, 1077), (14, 266, 858993459, 1078), (14, 267, 252645135, 1079), (11, 287, 99999, 1084), (12, 201, 99999, 1488), (12, 337, -2147483648, 1571)]
def sw_kl : List (Nat × Nat × Int × Nat) := [(5, 66, 4294967296, 698), (5, 68, 32768, 699), (5, 70, 1073741824, 700), (5, 53, 2, 704), (8, 47, 20000, 737), (8, 49, -20000, 738), (7, 66, 1000000000000000, 907), (7, 68, -1000000000000000, 908), (11, 189, -9223372036854775808, 931), (1, 112, 1000, 1025), (15, 314, 6148914691236517205, 1163), (15, 316, 3689348814741910323, 1164), (15, 318, 1085102592571150095, 1165), (12, 314, 1073741824, 1579), (12, 331, 2, 1584), (12, 363, 20000, 1604), (12, 365, -20000, 1605), (12, 442, -9223372036854775808, 1626), (12, 412, 1000000000000000, 1660), (12, 414, -1000000000000000, 1661), (12, 450, 50, 1687), (12, 474, 1000, 1760), (13, 134, 4294967295, 1832)]
