/-! the tables of the small machine, by a program (wip/whole/prog/tables.py) -/
theorem lw_in1 {w : Cond} (h : w ∈ tables_1_1) : w ∈ lw_tbl := List.mem_append_right _ (show w ∈ tables_1 from List.mem_append_left _ h)
theorem lw_in2 {w : Cond} (h : w ∈ tables_1_2) : w ∈ lw_tbl := List.mem_append_right _ (show w ∈ tables_1 from List.mem_append_right _ (List.mem_append_left _ h))
theorem lw_in3 {w : Cond} (h : w ∈ tables_1_3) : w ∈ lw_tbl := List.mem_append_right _ (show w ∈ tables_1 from List.mem_append_right _ (List.mem_append_right _ (List.mem_append_left _ h)))
theorem lw_in4 {w : Cond} (h : w ∈ tables_1_4) : w ∈ lw_tbl := List.mem_append_right _ (show w ∈ tables_1 from List.mem_append_right _ (List.mem_append_right _ (List.mem_append_right _ (List.mem_append_left _ h))))
theorem lw_in5 {w : Cond} (h : w ∈ tables_1_5) : w ∈ lw_tbl := List.mem_append_right _ (show w ∈ tables_1 from List.mem_append_right _ (List.mem_append_right _ (List.mem_append_right _ (List.mem_append_right _ (List.mem_append_left _ h)))))
theorem lw_in6 {w : Cond} (h : w ∈ tables_1_6) : w ∈ lw_tbl := List.mem_append_right _ (show w ∈ tables_1 from List.mem_append_right _ (List.mem_append_right _ (List.mem_append_right _ (List.mem_append_right _ (List.mem_append_right _ (List.mem_append_left _ h))))))
theorem lw_in7 {w : Cond} (h : w ∈ tables_1_7) : w ∈ lw_tbl := List.mem_append_right _ (show w ∈ tables_1 from List.mem_append_right _ (List.mem_append_right _ (List.mem_append_right _ (List.mem_append_right _ (List.mem_append_right _ (List.mem_append_right _ (List.mem_append_left _ h)))))))
theorem lw_in8 {w : Cond} (h : w ∈ tables_1_8) : w ∈ lw_tbl := List.mem_append_right _ (show w ∈ tables_1 from List.mem_append_right _ (List.mem_append_right _ (List.mem_append_right _ (List.mem_append_right _ (List.mem_append_right _ (List.mem_append_right _ (List.mem_append_right _ (h))))))))
def mt_B (w : Cond) : Prop := w ∈ lw_tbl ∧ goodWord w = true
def mt_cns : List String := ["MarloweHost", "MarloweHost$Scanner", "MarloweHost$Tree", "MarloweHost$Reader", "MarloweHost$Names", "MarloweHost$Wallets", "MarloweHost$Inputs", "MarloweHost$Machine", "MarloweHost$Events", "MarloweHost$Situation", "MarloweHost$Reckoner", "MarloweHost$Analyser", "MarloweHostModel", "MarloweHostModel$State", "java/lang/IndexOutOfBoundsException", "java/lang/IllegalArgumentException", "java/lang/IllegalStateException", "java/lang/String", "MarloweHostLaw", "java/lang/Math", "java/util/Arrays", "java/lang/StringLatin1", "jdk/internal/util/Preconditions"]
def mt_cn (c : Nat) : String := mt_cns.getD c ""
def mt_T0 : u_T := fun k => match k with
  | 0 => ("MarloweHost", "scanner", "LMarloweHost$Scanner;", true)
  | 1 => ("MarloweHost", "tree", "LMarloweHost$Tree;", true)
  | 2 => ("MarloweHost", "reader", "LMarloweHost$Reader;", true)
  | 3 => ("MarloweHost", "wallets", "LMarloweHost$Wallets;", true)
  | 4 => ("MarloweHost", "inputs", "LMarloweHost$Inputs;", true)
  | 5 => ("MarloweHost", "machine", "LMarloweHost$Machine;", true)
  | 6 => ("MarloweHost", "analyser", "LMarloweHost$Analyser;", true)
  | 7 => ("MarloweHost", "present", "LMarloweHost$Situation;", true)
  | 8 => ("MarloweHost", "trial", "LMarloweHost$Situation;", true)
  | _ => ("MarloweHost", "contracted", "Z", false)
def mt_T1 : u_T := fun k => match k with
  | 0 => ("MarloweHost$Scanner", "octets", "[B", true)
  | 1 => ("MarloweHost$Scanner", "fed", "I", false)
  | 2 => ("MarloweHost$Scanner", "kind", "I", false)
  | 3 => ("MarloweHost$Scanner", "start", "I", false)
  | 4 => ("MarloweHost$Scanner", "length", "I", false)
  | 5 => ("MarloweHost$Scanner", "number", "J", false)
  | _ => ("MarloweHost$Scanner", "limit", "I", false)
def mt_T2 : u_T := fun k => match k with
  | 0 => ("MarloweHost$Tree", "kinds", "[I", true)
  | 1 => ("MarloweHost$Tree", "left", "[I", true)
  | 2 => ("MarloweHost$Tree", "middle", "[I", true)
  | 3 => ("MarloweHost$Tree", "right", "[I", true)
  | 4 => ("MarloweHost$Tree", "first", "[I", true)
  | 5 => ("MarloweHost$Tree", "second", "[I", true)
  | 6 => ("MarloweHost$Tree", "third", "[I", true)
  | 7 => ("MarloweHost$Tree", "behind", "[I", true)
  | 8 => ("MarloweHost$Tree", "into", "[Z", true)
  | 9 => ("MarloweHost$Tree", "numbers", "[J", true)
  | 10 => ("MarloweHost$Tree", "bounds", "[J", true)
  | 11 => ("MarloweHost$Tree", "size", "I", false)
  | _ => ("MarloweHost$Tree", "boundCount", "I", false)
def mt_T3 : u_T := fun k => match k with
  | 0 => ("MarloweHost$Reader", "scanner", "LMarloweHost$Scanner;", true)
  | 1 => ("MarloweHost$Reader", "tree", "LMarloweHost$Tree;", true)
  | 2 => ("MarloweHost$Reader", "parties", "LMarloweHost$Names;", true)
  | 3 => ("MarloweHost$Reader", "tokens", "LMarloweHost$Names;", true)
  | 4 => ("MarloweHost$Reader", "choices", "LMarloweHost$Names;", true)
  | 5 => ("MarloweHost$Reader", "variables", "LMarloweHost$Names;", true)
  | _ => ("MarloweHost$Reader", "wrongAt", "I", false)
def mt_T4 : u_T := fun k => match k with
  | 0 => ("MarloweHost$Names", "octets", "[B", true)
  | 1 => ("MarloweHost$Names", "starts", "[I", true)
  | 2 => ("MarloweHost$Names", "lengths", "[I", true)
  | 3 => ("MarloweHost$Names", "owners", "[I", true)
  | _ => ("MarloweHost$Names", "size", "I", false)
def mt_T5 : u_T := fun k => match k with
  | 0 => ("MarloweHost$Wallets", "has", "[J", true)
  | _ => ("MarloweHost$Wallets", "left", "[J", true)
def mt_T6 : u_T := fun k => match k with
  | 0 => ("MarloweHost$Inputs", "kinds", "[I", true)
  | 1 => ("MarloweHost$Inputs", "first", "[I", true)
  | 2 => ("MarloweHost$Inputs", "second", "[I", true)
  | 3 => ("MarloweHost$Inputs", "third", "[I", true)
  | 4 => ("MarloweHost$Inputs", "amounts", "[J", true)
  | _ => ("MarloweHost$Inputs", "size", "I", false)
def mt_T7 : u_T := fun k => match k with
  | 0 => ("MarloweHost$Machine", "tree", "LMarloweHost$Tree;", true)
  | 1 => ("MarloweHost$Machine", "wallets", "LMarloweHost$Wallets;", true)
  | 2 => ("MarloweHost$Machine", "reckoner", "LMarloweHost$Reckoner;", true)
  | 3 => ("MarloweHost$Machine", "situation", "LMarloweHost$Situation;", false)
  | 4 => ("MarloweHost$Machine", "low", "J", false)
  | 5 => ("MarloweHost$Machine", "high", "J", false)
  | 6 => ("MarloweHost$Machine", "error", "I", false)
  | _ => ("MarloweHost$Machine", "events", "LMarloweHost$Events;", true)
def mt_T8 : u_T := fun k => match k with
  | 0 => ("MarloweHost$Events", "warning", "[I", true)
  | 1 => ("MarloweHost$Events", "raiser", "[I", true)
  | 2 => ("MarloweHost$Events", "payer", "[I", true)
  | 3 => ("MarloweHost$Events", "payee", "[I", true)
  | 4 => ("MarloweHost$Events", "token", "[I", true)
  | 5 => ("MarloweHost$Events", "amount", "[J", true)
  | 6 => ("MarloweHost$Events", "warnings", "I", false)
  | _ => ("MarloweHost$Events", "payments", "I", false)
def mt_T9 : u_T := fun k => match k with
  | 0 => ("MarloweHost$Situation", "node", "I", false)
  | 1 => ("MarloweHost$Situation", "time", "J", false)
  | 2 => ("MarloweHost$Situation", "accounts", "[J", true)
  | 3 => ("MarloweHost$Situation", "chosen", "[J", true)
  | 4 => ("MarloweHost$Situation", "used", "[J", true)
  | 5 => ("MarloweHost$Situation", "chosenBits", "I", false)
  | _ => ("MarloweHost$Situation", "usedBits", "I", false)
def mt_T10 : u_T := fun k => match k with
  | 0 => ("MarloweHost$Reckoner", "tree", "LMarloweHost$Tree;", true)
  | 1 => ("MarloweHost$Reckoner", "situation", "LMarloweHost$Situation;", false)
  | 2 => ("MarloweHost$Reckoner", "low", "J", false)
  | 3 => ("MarloweHost$Reckoner", "high", "J", false)
  | _ => ("MarloweHost$Reckoner", "large", "Z", false)
def mt_T11 : u_T := fun k => match k with
  | 0 => ("MarloweHost$Analyser", "tree", "LMarloweHost$Tree;", true)
  | 1 => ("MarloweHost$Analyser", "machine", "LMarloweHost$Machine;", true)
  | 2 => ("MarloweHost$Analyser", "reckoner", "LMarloweHost$Reckoner;", true)
  | 3 => ("MarloweHost$Analyser", "inputs", "LMarloweHost$Inputs;", true)
  | 4 => ("MarloweHost$Analyser", "levels", "[LMarloweHost$Situation;", true)
  | 5 => ("MarloweHost$Analyser", "nextAction", "[I", true)
  | 6 => ("MarloweHost$Analyser", "nextNumber", "[I", true)
  | 7 => ("MarloweHost$Analyser", "stepKind", "[I", true)
  | 8 => ("MarloweHost$Analyser", "stepNumber", "[J", true)
  | 9 => ("MarloweHost$Analyser", "stepNode", "[I", true)
  | 10 => ("MarloweHost$Analyser", "looked", "I", false)
  | _ => ("MarloweHost$Analyser", "found", "I", false)
def mt_T12 : u_T := fun k => match k with
  | 0 => ("MarloweHostModel", "err", "I", false)
  | 1 => ("MarloweHostModel", "fed", "I", false)
  | 2 => ("MarloweHostModel", "letters", "I", false)
  | 3 => ("MarloweHostModel", "wrong", "I", false)
  | 4 => ("MarloweHostModel", "root", "I", false)
  | 5 => ("MarloweHostModel", "octets", "[I", true)
  | 6 => ("MarloweHostModel", "text", "[I", true)
  | 7 => ("MarloweHostModel", "keys", "[Ljava/lang/String;", true)
  | 8 => ("MarloweHostModel", "kind", "I", false)
  | 9 => ("MarloweHostModel", "from", "I", false)
  | 10 => ("MarloweHostModel", "to", "I", false)
  | 11 => ("MarloweHostModel", "value", "J", false)
  | 12 => ("MarloweHostModel", "op", "[I", true)
  | 13 => ("MarloweHostModel", "a", "[I", true)
  | 14 => ("MarloweHostModel", "b", "[I", true)
  | 15 => ("MarloweHostModel", "d", "[I", true)
  | 16 => ("MarloweHostModel", "e", "[I", true)
  | 17 => ("MarloweHostModel", "first", "[I", true)
  | 18 => ("MarloweHostModel", "many", "[I", true)
  | 19 => ("MarloweHostModel", "follow", "[I", true)
  | 20 => ("MarloweHostModel", "number", "[J", true)
  | 21 => ("MarloweHostModel", "nodes", "I", false)
  | 22 => ("MarloweHostModel", "deep", "I", false)
  | 23 => ("MarloweHostModel", "bounds", "I", false)
  | 24 => ("MarloweHostModel", "parties", "I", false)
  | 25 => ("MarloweHostModel", "tokens", "I", false)
  | 26 => ("MarloweHostModel", "choices", "I", false)
  | 27 => ("MarloweHostModel", "names", "I", false)
  | 28 => ("MarloweHostModel", "lowest", "[J", true)
  | 29 => ("MarloweHostModel", "highest", "[J", true)
  | 30 => ("MarloweHostModel", "partyAt", "[I", true)
  | 31 => ("MarloweHostModel", "partySize", "[I", true)
  | 32 => ("MarloweHostModel", "tokenAt", "[I", true)
  | 33 => ("MarloweHostModel", "tokenSize", "[I", true)
  | 34 => ("MarloweHostModel", "nameAt", "[I", true)
  | 35 => ("MarloweHostModel", "nameSize", "[I", true)
  | 36 => ("MarloweHostModel", "choiceAt", "[I", true)
  | 37 => ("MarloweHostModel", "choiceSize", "[I", true)
  | 38 => ("MarloweHostModel", "choiceParty", "[I", true)
  | 39 => ("MarloweHostModel", "b2", "[I", true)
  | 40 => ("MarloweHostModel", "boundAt", "[I", true)
  | 41 => ("MarloweHostModel", "now", "LMarloweHostModel$State;", true)
  | 42 => ("MarloweHostModel", "then", "LMarloweHostModel$State;", true)
  | 43 => ("MarloweHostModel", "s", "LMarloweHostModel$State;", false)
  | 44 => ("MarloweHostModel", "low", "J", false)
  | 45 => ("MarloweHostModel", "high", "J", false)
  | 46 => ("MarloweHostModel", "large", "Z", false)
  | 47 => ("MarloweHostModel", "warnings", "I", false)
  | 48 => ("MarloweHostModel", "payments", "I", false)
  | 49 => ("MarloweHostModel", "warning", "[I", true)
  | 50 => ("MarloweHostModel", "warned", "[I", true)
  | 51 => ("MarloweHostModel", "payFrom", "[I", true)
  | 52 => ("MarloweHostModel", "payTo", "[I", true)
  | 53 => ("MarloweHostModel", "payToken", "[I", true)
  | 54 => ("MarloweHostModel", "paid", "[J", true)
  | 55 => ("MarloweHostModel", "deposited", "[J", true)
  | 56 => ("MarloweHostModel", "wallets", "[J", true)
  | 57 => ("MarloweHostModel", "withWallets", "Z", false)
  | 58 => ("MarloweHostModel", "reduced", "Z", false)
  | 59 => ("MarloweHostModel", "inputs", "I", false)
  | 60 => ("MarloweHostModel", "inputKind", "[I", true)
  | 61 => ("MarloweHostModel", "inputA", "[I", true)
  | 62 => ("MarloweHostModel", "inputB", "[I", true)
  | 63 => ("MarloweHostModel", "inputD", "[I", true)
  | 64 => ("MarloweHostModel", "inputValue", "[J", true)
  | 65 => ("MarloweHostModel", "toldWarnings", "I", false)
  | 66 => ("MarloweHostModel", "toldPayments", "I", false)
  | 67 => ("MarloweHostModel", "keptWarning", "[I", true)
  | 68 => ("MarloweHostModel", "keptWarned", "[I", true)
  | 69 => ("MarloweHostModel", "keptFrom", "[I", true)
  | 70 => ("MarloweHostModel", "keptTo", "[I", true)
  | 71 => ("MarloweHostModel", "keptToken", "[I", true)
  | 72 => ("MarloweHostModel", "keptPaid", "[J", true)
  | 73 => ("MarloweHostModel", "steps", "I", false)
  | 74 => ("MarloweHostModel", "way", "I", false)
  | 75 => ("MarloweHostModel", "found", "I", false)
  | 76 => ("MarloweHostModel", "wayKind", "[I", true)
  | 77 => ("MarloweHostModel", "wayNode", "[I", true)
  | 78 => ("MarloweHostModel", "foundKind", "[I", true)
  | 79 => ("MarloweHostModel", "foundNode", "[I", true)
  | 80 => ("MarloweHostModel", "wayValue", "[J", true)
  | 81 => ("MarloweHostModel", "foundValue", "[J", true)
  | 82 => ("MarloweHostModel", "byDepth", "[LMarloweHostModel$State;", true)
  | 83 => ("MarloweHostModel", "keptKind", "[I", true)
  | 84 => ("MarloweHostModel", "keptA", "[I", true)
  | 85 => ("MarloweHostModel", "keptB", "[I", true)
  | 86 => ("MarloweHostModel", "keptD", "[I", true)
  | _ => ("MarloweHostModel", "keptValue", "[J", true)
def mt_T13 : u_T := fun k => match k with
  | 0 => ("MarloweHostModel$State", "at", "I", false)
  | 1 => ("MarloweHostModel$State", "time", "J", false)
  | 2 => ("MarloweHostModel$State", "accounts", "[J", true)
  | 3 => ("MarloweHostModel$State", "chosen", "[J", true)
  | 4 => ("MarloweHostModel$State", "used", "[J", true)
  | 5 => ("MarloweHostModel$State", "isChosen", "[Z", true)
  | _ => ("MarloweHostModel$State", "isUsed", "[Z", true)
def mt_T99 : u_T := fun _ => ("", "", "", false)
def mt_cl : List vw_C := [("MarloweHost", mt_T0, 10), ("MarloweHost$Scanner", mt_T1, 7), ("MarloweHost$Tree", mt_T2, 13), ("MarloweHost$Reader", mt_T3, 7), ("MarloweHost$Names", mt_T4, 5), ("MarloweHost$Wallets", mt_T5, 2), ("MarloweHost$Inputs", mt_T6, 6), ("MarloweHost$Machine", mt_T7, 8), ("MarloweHost$Events", mt_T8, 8), ("MarloweHost$Situation", mt_T9, 7), ("MarloweHost$Reckoner", mt_T10, 5), ("MarloweHost$Analyser", mt_T11, 12), ("MarloweHostModel", mt_T12, 88), ("MarloweHostModel$State", mt_T13, 7), ("java/lang/IndexOutOfBoundsException", mt_T99, 0), ("java/lang/IllegalArgumentException", mt_T99, 0), ("java/lang/IllegalStateException", mt_T99, 0)]
def mt_fts : List (List FieldType) := [[(.object "MarloweHost$Scanner"), (.object "MarloweHost$Tree"), (.object "MarloweHost$Reader"), (.object "MarloweHost$Wallets"), (.object "MarloweHost$Inputs"), (.object "MarloweHost$Machine"), (.object "MarloweHost$Analyser"), (.object "MarloweHost$Situation"), (.object "MarloweHost$Situation"), .boolean], [(.array .byte), .int, .int, .int, .int, .long, .int], [(.array .int), (.array .int), (.array .int), (.array .int), (.array .int), (.array .int), (.array .int), (.array .int), (.array .boolean), (.array .long), (.array .long), .int, .int], [(.object "MarloweHost$Scanner"), (.object "MarloweHost$Tree"), (.object "MarloweHost$Names"), (.object "MarloweHost$Names"), (.object "MarloweHost$Names"), (.object "MarloweHost$Names"), .int], [(.array .byte), (.array .int), (.array .int), (.array .int), .int], [(.array .long), (.array .long)], [(.array .int), (.array .int), (.array .int), (.array .int), (.array .long), .int], [(.object "MarloweHost$Tree"), (.object "MarloweHost$Wallets"), (.object "MarloweHost$Reckoner"), (.object "MarloweHost$Situation"), .long, .long, .int, (.object "MarloweHost$Events")], [(.array .int), (.array .int), (.array .int), (.array .int), (.array .int), (.array .long), .int, .int], [.int, .long, (.array .long), (.array .long), (.array .long), .int, .int], [(.object "MarloweHost$Tree"), (.object "MarloweHost$Situation"), .long, .long, .boolean], [(.object "MarloweHost$Tree"), (.object "MarloweHost$Machine"), (.object "MarloweHost$Reckoner"), (.object "MarloweHost$Inputs"), (.array (.object "MarloweHost$Situation")), (.array .int), (.array .int), (.array .int), (.array .long), (.array .int), .int, .int], [.int, .int, .int, .int, .int, (.array .int), (.array .int), (.array (.object "java/lang/String")), .int, .int, .int, .long, (.array .int), (.array .int), (.array .int), (.array .int), (.array .int), (.array .int), (.array .int), (.array .int), (.array .long), .int, .int, .int, .int, .int, .int, .int, (.array .long), (.array .long), (.array .int), (.array .int), (.array .int), (.array .int), (.array .int), (.array .int), (.array .int), (.array .int), (.array .int), (.array .int), (.array .int), (.object "MarloweHostModel$State"), (.object "MarloweHostModel$State"), (.object "MarloweHostModel$State"), .long, .long, .boolean, .int, .int, (.array .int), (.array .int), (.array .int), (.array .int), (.array .int), (.array .long), (.array .long), (.array .long), .boolean, .boolean, .int, (.array .int), (.array .int), (.array .int), (.array .int), (.array .long), .int, .int, (.array .int), (.array .int), (.array .int), (.array .int), (.array .int), (.array .long), .int, .int, .int, (.array .int), (.array .int), (.array .int), (.array .int), (.array .long), (.array .long), (.array (.object "MarloweHostModel$State")), (.array .int), (.array .int), (.array .int), (.array .int), (.array .long)], [.int, .long, (.array .long), (.array .long), (.array .long), (.array .boolean), (.array .boolean)]]
def mt_ft (ci k : Nat) : FieldType := (mt_fts.getD ci []).getD k .int
def mt_fns : List (List Bool) := [[true, true, true, true, true, true, true, true, true, false], [true, false, false, false, false, false, false], [true, true, true, true, true, true, true, true, true, true, true, false, false], [true, true, true, true, true, true, false], [true, true, true, true, false], [true, true], [true, true, true, true, true, false], [true, true, true, false, false, false, false, true], [true, true, true, true, true, true, false, false], [false, false, true, true, true, false, false], [true, false, false, false, false], [true, true, true, true, true, true, true, true, true, true, false, false], [false, false, false, false, false, true, true, true, false, false, false, false, true, true, true, true, true, true, true, true, true, false, false, false, false, false, false, false, true, true, true, true, true, true, true, true, true, true, true, true, true, true, true, false, false, false, false, false, false, true, true, true, true, true, true, true, true, false, false, false, true, true, true, true, true, false, false, true, true, true, true, true, true, false, false, false, true, true, true, true, true, true, true, true, true, true, true, true], [false, false, true, true, true, true, true]]
def mt_fn (ci k : Nat) : Bool := (mt_fns.getD ci []).getD k false
def mt_nw (ci : Nat) : Bool := Nat.blt ci 14
def mt_nf (ci : Nat) : Nat := (mt_fts.getD ci []).length
def mt_dfs : List (List Value) := [[.null, .null, .null, .null, .null, .null, .null, .null, .null, .int 0], [.null, .int 0, .int 0, .int 0, .int 0, .long 0, .int 0], [.null, .null, .null, .null, .null, .null, .null, .null, .null, .null, .null, .int 0, .int 0], [.null, .null, .null, .null, .null, .null, .int 0], [.null, .null, .null, .null, .int 0], [.null, .null], [.null, .null, .null, .null, .null, .int 0], [.null, .null, .null, .null, .long 0, .long 0, .int 0, .null], [.null, .null, .null, .null, .null, .null, .int 0, .int 0], [.int 0, .long 0, .null, .null, .null, .int 0, .int 0], [.null, .null, .long 0, .long 0, .int 0], [.null, .null, .null, .null, .null, .null, .null, .null, .null, .null, .int 0, .int 0], [.int 0, .int 0, .int 0, .int 0, .int 0, .null, .null, .null, .int 0, .int 0, .int 0, .long 0, .null, .null, .null, .null, .null, .null, .null, .null, .null, .int 0, .int 0, .int 0, .int 0, .int 0, .int 0, .int 0, .null, .null, .null, .null, .null, .null, .null, .null, .null, .null, .null, .null, .null, .null, .null, .null, .long 0, .long 0, .int 0, .int 0, .int 0, .null, .null, .null, .null, .null, .null, .null, .null, .int 0, .int 0, .int 0, .null, .null, .null, .null, .null, .int 0, .int 0, .null, .null, .null, .null, .null, .null, .int 0, .int 0, .int 0, .null, .null, .null, .null, .null, .null, .null, .null, .null, .null, .null, .null], [.int 0, .long 0, .null, .null, .null, .null, .null]]
def mt_df (ci : Nat) : List Value := mt_dfs.getD ci []
def mt_na : Nat := 7
def mt_ats : List FieldType := [.int, .byte, .boolean, .long, .object "MarloweHost$Situation", .object "java/lang/String", .object "MarloweHostModel$State"]
def mt_at (k : Nat) : FieldType := mt_ats.getD k .int
def mt_ac (k : Nat) : Option Nat := if k = 4 then some 9 else if k = 6 then some 13 else none
def mt_clok (ci : Nat) (q : vw_C) : Prop := (∀ k, k < q.2.2 → parseFieldDescriptor (q.2.1 k).2.2.1 = some (mt_ft ci k)) ∧ (∀ a, a < q.2.2 → ∀ b, b < q.2.2 → a ≠ b → (q.2.1 a).2.1 ≠ (q.2.1 b).2.1) ∧ (∀ k, k < q.2.2 → (q.2.1 k).2.2.2 = mt_fn ci k) ∧ (∀ k, k < q.2.2 → (q.2.1 k).1 = mt_cn ci) ∧ q.1 = mt_cn ci ∧ (∀ w ∈ u_ws q.1 q.2.1 q.2.2, mt_B w)
set_option maxRecDepth 100000 in
theorem mt_ws0 : ∀ w ∈ u_ws "MarloweHost" mt_T0 10, mt_B w := List.forall_mem_cons.mpr ⟨⟨(lw_in2 (List.mem_of_getElem? (i := 227) rfl)), rfl⟩, List.forall_mem_cons.mpr ⟨⟨(lw_in2 (List.mem_of_getElem? (i := 229) rfl)), rfl⟩, List.forall_mem_cons.mpr ⟨⟨(lw_in2 (List.mem_of_getElem? (i := 231) rfl)), rfl⟩, List.forall_mem_cons.mpr ⟨⟨(lw_in2 (List.mem_of_getElem? (i := 233) rfl)), rfl⟩, List.forall_mem_cons.mpr ⟨⟨(lw_in2 (List.mem_of_getElem? (i := 235) rfl)), rfl⟩, List.forall_mem_cons.mpr ⟨⟨(lw_in2 (List.mem_of_getElem? (i := 237) rfl)), rfl⟩, List.forall_mem_cons.mpr ⟨⟨(lw_in2 (List.mem_of_getElem? (i := 239) rfl)), rfl⟩, List.forall_mem_cons.mpr ⟨⟨(lw_in3 (List.mem_of_getElem? (i := 1) rfl)), rfl⟩, List.forall_mem_cons.mpr ⟨⟨(lw_in3 (List.mem_of_getElem? (i := 3) rfl)), rfl⟩, List.forall_mem_cons.mpr ⟨⟨(lw_in3 (List.mem_of_getElem? (i := 5) rfl)), rfl⟩, fun _ h => absurd h List.not_mem_nil⟩⟩⟩⟩⟩⟩⟩⟩⟩⟩
theorem mt_clok0 : mt_clok 0 ("MarloweHost", mt_T0, 10) := ⟨by decide +kernel, by decide +kernel, by decide +kernel, by decide +kernel, rfl, mt_ws0⟩
set_option maxRecDepth 100000 in
theorem mt_ws1 : ∀ w ∈ u_ws "MarloweHost$Scanner" mt_T1 7, mt_B w := List.forall_mem_cons.mpr ⟨⟨(lw_in1 (List.mem_of_getElem? (i := 55) rfl)), rfl⟩, List.forall_mem_cons.mpr ⟨⟨(lw_in1 (List.mem_of_getElem? (i := 57) rfl)), rfl⟩, List.forall_mem_cons.mpr ⟨⟨(lw_in1 (List.mem_of_getElem? (i := 59) rfl)), rfl⟩, List.forall_mem_cons.mpr ⟨⟨(lw_in1 (List.mem_of_getElem? (i := 61) rfl)), rfl⟩, List.forall_mem_cons.mpr ⟨⟨(lw_in1 (List.mem_of_getElem? (i := 63) rfl)), rfl⟩, List.forall_mem_cons.mpr ⟨⟨(lw_in1 (List.mem_of_getElem? (i := 65) rfl)), rfl⟩, List.forall_mem_cons.mpr ⟨⟨(lw_in1 (List.mem_of_getElem? (i := 67) rfl)), rfl⟩, fun _ h => absurd h List.not_mem_nil⟩⟩⟩⟩⟩⟩⟩
theorem mt_clok1 : mt_clok 1 ("MarloweHost$Scanner", mt_T1, 7) := ⟨by decide +kernel, by decide +kernel, by decide +kernel, by decide +kernel, rfl, mt_ws1⟩
set_option maxRecDepth 100000 in
theorem mt_ws2 : ∀ w ∈ u_ws "MarloweHost$Tree" mt_T2 13, mt_B w := List.forall_mem_cons.mpr ⟨⟨(lw_in1 (List.mem_of_getElem? (i := 125) rfl)), rfl⟩, List.forall_mem_cons.mpr ⟨⟨(lw_in1 (List.mem_of_getElem? (i := 127) rfl)), rfl⟩, List.forall_mem_cons.mpr ⟨⟨(lw_in1 (List.mem_of_getElem? (i := 129) rfl)), rfl⟩, List.forall_mem_cons.mpr ⟨⟨(lw_in1 (List.mem_of_getElem? (i := 131) rfl)), rfl⟩, List.forall_mem_cons.mpr ⟨⟨(lw_in1 (List.mem_of_getElem? (i := 133) rfl)), rfl⟩, List.forall_mem_cons.mpr ⟨⟨(lw_in1 (List.mem_of_getElem? (i := 135) rfl)), rfl⟩, List.forall_mem_cons.mpr ⟨⟨(lw_in1 (List.mem_of_getElem? (i := 137) rfl)), rfl⟩, List.forall_mem_cons.mpr ⟨⟨(lw_in1 (List.mem_of_getElem? (i := 139) rfl)), rfl⟩, List.forall_mem_cons.mpr ⟨⟨(lw_in1 (List.mem_of_getElem? (i := 141) rfl)), rfl⟩, List.forall_mem_cons.mpr ⟨⟨(lw_in1 (List.mem_of_getElem? (i := 143) rfl)), rfl⟩, List.forall_mem_cons.mpr ⟨⟨(lw_in1 (List.mem_of_getElem? (i := 145) rfl)), rfl⟩, List.forall_mem_cons.mpr ⟨⟨(lw_in1 (List.mem_of_getElem? (i := 147) rfl)), rfl⟩, List.forall_mem_cons.mpr ⟨⟨(lw_in1 (List.mem_of_getElem? (i := 149) rfl)), rfl⟩, fun _ h => absurd h List.not_mem_nil⟩⟩⟩⟩⟩⟩⟩⟩⟩⟩⟩⟩⟩
theorem mt_clok2 : mt_clok 2 ("MarloweHost$Tree", mt_T2, 13) := ⟨by decide +kernel, by decide +kernel, by decide +kernel, by decide +kernel, rfl, mt_ws2⟩
set_option maxRecDepth 100000 in
theorem mt_ws3 : ∀ w ∈ u_ws "MarloweHost$Reader" mt_T3 7, mt_B w := List.forall_mem_cons.mpr ⟨⟨(lw_in1 (List.mem_of_getElem? (i := 197) rfl)), rfl⟩, List.forall_mem_cons.mpr ⟨⟨(lw_in1 (List.mem_of_getElem? (i := 199) rfl)), rfl⟩, List.forall_mem_cons.mpr ⟨⟨(lw_in1 (List.mem_of_getElem? (i := 201) rfl)), rfl⟩, List.forall_mem_cons.mpr ⟨⟨(lw_in1 (List.mem_of_getElem? (i := 203) rfl)), rfl⟩, List.forall_mem_cons.mpr ⟨⟨(lw_in1 (List.mem_of_getElem? (i := 205) rfl)), rfl⟩, List.forall_mem_cons.mpr ⟨⟨(lw_in1 (List.mem_of_getElem? (i := 207) rfl)), rfl⟩, List.forall_mem_cons.mpr ⟨⟨(lw_in1 (List.mem_of_getElem? (i := 209) rfl)), rfl⟩, fun _ h => absurd h List.not_mem_nil⟩⟩⟩⟩⟩⟩⟩
theorem mt_clok3 : mt_clok 3 ("MarloweHost$Reader", mt_T3, 7) := ⟨by decide +kernel, by decide +kernel, by decide +kernel, by decide +kernel, rfl, mt_ws3⟩
set_option maxRecDepth 100000 in
theorem mt_ws4 : ∀ w ∈ u_ws "MarloweHost$Names" mt_T4 5, mt_B w := List.forall_mem_cons.mpr ⟨⟨(lw_in1 (List.mem_of_getElem? (i := 174) rfl)), rfl⟩, List.forall_mem_cons.mpr ⟨⟨(lw_in1 (List.mem_of_getElem? (i := 176) rfl)), rfl⟩, List.forall_mem_cons.mpr ⟨⟨(lw_in1 (List.mem_of_getElem? (i := 178) rfl)), rfl⟩, List.forall_mem_cons.mpr ⟨⟨(lw_in1 (List.mem_of_getElem? (i := 180) rfl)), rfl⟩, List.forall_mem_cons.mpr ⟨⟨(lw_in1 (List.mem_of_getElem? (i := 182) rfl)), rfl⟩, fun _ h => absurd h List.not_mem_nil⟩⟩⟩⟩⟩
theorem mt_clok4 : mt_clok 4 ("MarloweHost$Names", mt_T4, 5) := ⟨by decide +kernel, by decide +kernel, by decide +kernel, by decide +kernel, rfl, mt_ws4⟩
set_option maxRecDepth 100000 in
theorem mt_ws5 : ∀ w ∈ u_ws "MarloweHost$Wallets" mt_T5 2, mt_B w := List.forall_mem_cons.mpr ⟨⟨(lw_in1 (List.mem_of_getElem? (i := 221) rfl)), rfl⟩, List.forall_mem_cons.mpr ⟨⟨(lw_in1 (List.mem_of_getElem? (i := 223) rfl)), rfl⟩, fun _ h => absurd h List.not_mem_nil⟩⟩
theorem mt_clok5 : mt_clok 5 ("MarloweHost$Wallets", mt_T5, 2) := ⟨by decide +kernel, by decide +kernel, by decide +kernel, by decide +kernel, rfl, mt_ws5⟩
set_option maxRecDepth 100000 in
theorem mt_ws6 : ∀ w ∈ u_ws "MarloweHost$Inputs" mt_T6 6, mt_B w := List.forall_mem_cons.mpr ⟨⟨(lw_in2 (List.mem_of_getElem? (i := 6) rfl)), rfl⟩, List.forall_mem_cons.mpr ⟨⟨(lw_in2 (List.mem_of_getElem? (i := 8) rfl)), rfl⟩, List.forall_mem_cons.mpr ⟨⟨(lw_in2 (List.mem_of_getElem? (i := 10) rfl)), rfl⟩, List.forall_mem_cons.mpr ⟨⟨(lw_in2 (List.mem_of_getElem? (i := 12) rfl)), rfl⟩, List.forall_mem_cons.mpr ⟨⟨(lw_in2 (List.mem_of_getElem? (i := 14) rfl)), rfl⟩, List.forall_mem_cons.mpr ⟨⟨(lw_in2 (List.mem_of_getElem? (i := 16) rfl)), rfl⟩, fun _ h => absurd h List.not_mem_nil⟩⟩⟩⟩⟩⟩
theorem mt_clok6 : mt_clok 6 ("MarloweHost$Inputs", mt_T6, 6) := ⟨by decide +kernel, by decide +kernel, by decide +kernel, by decide +kernel, rfl, mt_ws6⟩
set_option maxRecDepth 100000 in
theorem mt_ws7 : ∀ w ∈ u_ws "MarloweHost$Machine" mt_T7 8, mt_B w := List.forall_mem_cons.mpr ⟨⟨(lw_in2 (List.mem_of_getElem? (i := 141) rfl)), rfl⟩, List.forall_mem_cons.mpr ⟨⟨(lw_in2 (List.mem_of_getElem? (i := 143) rfl)), rfl⟩, List.forall_mem_cons.mpr ⟨⟨(lw_in2 (List.mem_of_getElem? (i := 145) rfl)), rfl⟩, List.forall_mem_cons.mpr ⟨⟨(lw_in2 (List.mem_of_getElem? (i := 147) rfl)), rfl⟩, List.forall_mem_cons.mpr ⟨⟨(lw_in2 (List.mem_of_getElem? (i := 149) rfl)), rfl⟩, List.forall_mem_cons.mpr ⟨⟨(lw_in2 (List.mem_of_getElem? (i := 151) rfl)), rfl⟩, List.forall_mem_cons.mpr ⟨⟨(lw_in2 (List.mem_of_getElem? (i := 153) rfl)), rfl⟩, List.forall_mem_cons.mpr ⟨⟨(lw_in2 (List.mem_of_getElem? (i := 155) rfl)), rfl⟩, fun _ h => absurd h List.not_mem_nil⟩⟩⟩⟩⟩⟩⟩⟩
theorem mt_clok7 : mt_clok 7 ("MarloweHost$Machine", mt_T7, 8) := ⟨by decide +kernel, by decide +kernel, by decide +kernel, by decide +kernel, rfl, mt_ws7⟩
set_option maxRecDepth 100000 in
theorem mt_ws8 : ∀ w ∈ u_ws "MarloweHost$Events" mt_T8 8, mt_B w := List.forall_mem_cons.mpr ⟨⟨(lw_in2 (List.mem_of_getElem? (i := 52) rfl)), rfl⟩, List.forall_mem_cons.mpr ⟨⟨(lw_in2 (List.mem_of_getElem? (i := 54) rfl)), rfl⟩, List.forall_mem_cons.mpr ⟨⟨(lw_in2 (List.mem_of_getElem? (i := 56) rfl)), rfl⟩, List.forall_mem_cons.mpr ⟨⟨(lw_in2 (List.mem_of_getElem? (i := 58) rfl)), rfl⟩, List.forall_mem_cons.mpr ⟨⟨(lw_in2 (List.mem_of_getElem? (i := 60) rfl)), rfl⟩, List.forall_mem_cons.mpr ⟨⟨(lw_in2 (List.mem_of_getElem? (i := 62) rfl)), rfl⟩, List.forall_mem_cons.mpr ⟨⟨(lw_in2 (List.mem_of_getElem? (i := 64) rfl)), rfl⟩, List.forall_mem_cons.mpr ⟨⟨(lw_in2 (List.mem_of_getElem? (i := 66) rfl)), rfl⟩, fun _ h => absurd h List.not_mem_nil⟩⟩⟩⟩⟩⟩⟩⟩
theorem mt_clok8 : mt_clok 8 ("MarloweHost$Events", mt_T8, 8) := ⟨by decide +kernel, by decide +kernel, by decide +kernel, by decide +kernel, rfl, mt_ws8⟩
set_option maxRecDepth 100000 in
theorem mt_ws9 : ∀ w ∈ u_ws "MarloweHost$Situation" mt_T9 7, mt_B w := List.forall_mem_cons.mpr ⟨⟨(lw_in2 (List.mem_of_getElem? (i := 92) rfl)), rfl⟩, List.forall_mem_cons.mpr ⟨⟨(lw_in2 (List.mem_of_getElem? (i := 94) rfl)), rfl⟩, List.forall_mem_cons.mpr ⟨⟨(lw_in2 (List.mem_of_getElem? (i := 96) rfl)), rfl⟩, List.forall_mem_cons.mpr ⟨⟨(lw_in2 (List.mem_of_getElem? (i := 98) rfl)), rfl⟩, List.forall_mem_cons.mpr ⟨⟨(lw_in2 (List.mem_of_getElem? (i := 100) rfl)), rfl⟩, List.forall_mem_cons.mpr ⟨⟨(lw_in2 (List.mem_of_getElem? (i := 102) rfl)), rfl⟩, List.forall_mem_cons.mpr ⟨⟨(lw_in2 (List.mem_of_getElem? (i := 104) rfl)), rfl⟩, fun _ h => absurd h List.not_mem_nil⟩⟩⟩⟩⟩⟩⟩
theorem mt_clok9 : mt_clok 9 ("MarloweHost$Situation", mt_T9, 7) := ⟨by decide +kernel, by decide +kernel, by decide +kernel, by decide +kernel, rfl, mt_ws9⟩
set_option maxRecDepth 100000 in
theorem mt_ws10 : ∀ w ∈ u_ws "MarloweHost$Reckoner" mt_T10 5, mt_B w := List.forall_mem_cons.mpr ⟨⟨(lw_in2 (List.mem_of_getElem? (i := 120) rfl)), rfl⟩, List.forall_mem_cons.mpr ⟨⟨(lw_in2 (List.mem_of_getElem? (i := 122) rfl)), rfl⟩, List.forall_mem_cons.mpr ⟨⟨(lw_in2 (List.mem_of_getElem? (i := 124) rfl)), rfl⟩, List.forall_mem_cons.mpr ⟨⟨(lw_in2 (List.mem_of_getElem? (i := 126) rfl)), rfl⟩, List.forall_mem_cons.mpr ⟨⟨(lw_in2 (List.mem_of_getElem? (i := 128) rfl)), rfl⟩, fun _ h => absurd h List.not_mem_nil⟩⟩⟩⟩⟩
theorem mt_clok10 : mt_clok 10 ("MarloweHost$Reckoner", mt_T10, 5) := ⟨by decide +kernel, by decide +kernel, by decide +kernel, by decide +kernel, rfl, mt_ws10⟩
set_option maxRecDepth 100000 in
theorem mt_ws11 : ∀ w ∈ u_ws "MarloweHost$Analyser" mt_T11 12, mt_B w := List.forall_mem_cons.mpr ⟨⟨(lw_in2 (List.mem_of_getElem? (i := 190) rfl)), rfl⟩, List.forall_mem_cons.mpr ⟨⟨(lw_in2 (List.mem_of_getElem? (i := 192) rfl)), rfl⟩, List.forall_mem_cons.mpr ⟨⟨(lw_in2 (List.mem_of_getElem? (i := 194) rfl)), rfl⟩, List.forall_mem_cons.mpr ⟨⟨(lw_in2 (List.mem_of_getElem? (i := 196) rfl)), rfl⟩, List.forall_mem_cons.mpr ⟨⟨(lw_in2 (List.mem_of_getElem? (i := 198) rfl)), rfl⟩, List.forall_mem_cons.mpr ⟨⟨(lw_in2 (List.mem_of_getElem? (i := 200) rfl)), rfl⟩, List.forall_mem_cons.mpr ⟨⟨(lw_in2 (List.mem_of_getElem? (i := 202) rfl)), rfl⟩, List.forall_mem_cons.mpr ⟨⟨(lw_in2 (List.mem_of_getElem? (i := 204) rfl)), rfl⟩, List.forall_mem_cons.mpr ⟨⟨(lw_in2 (List.mem_of_getElem? (i := 206) rfl)), rfl⟩, List.forall_mem_cons.mpr ⟨⟨(lw_in2 (List.mem_of_getElem? (i := 208) rfl)), rfl⟩, List.forall_mem_cons.mpr ⟨⟨(lw_in2 (List.mem_of_getElem? (i := 210) rfl)), rfl⟩, List.forall_mem_cons.mpr ⟨⟨(lw_in2 (List.mem_of_getElem? (i := 212) rfl)), rfl⟩, fun _ h => absurd h List.not_mem_nil⟩⟩⟩⟩⟩⟩⟩⟩⟩⟩⟩⟩
theorem mt_clok11 : mt_clok 11 ("MarloweHost$Analyser", mt_T11, 12) := ⟨by decide +kernel, by decide +kernel, by decide +kernel, by decide +kernel, rfl, mt_ws11⟩
set_option maxRecDepth 100000 in
theorem mt_ws12 : ∀ w ∈ u_ws "MarloweHostModel" mt_T12 88, mt_B w := List.forall_mem_cons.mpr ⟨⟨(lw_in6 (List.mem_of_getElem? (i := 82) rfl)), rfl⟩, List.forall_mem_cons.mpr ⟨⟨(lw_in6 (List.mem_of_getElem? (i := 84) rfl)), rfl⟩, List.forall_mem_cons.mpr ⟨⟨(lw_in6 (List.mem_of_getElem? (i := 86) rfl)), rfl⟩, List.forall_mem_cons.mpr ⟨⟨(lw_in6 (List.mem_of_getElem? (i := 88) rfl)), rfl⟩, List.forall_mem_cons.mpr ⟨⟨(lw_in6 (List.mem_of_getElem? (i := 90) rfl)), rfl⟩, List.forall_mem_cons.mpr ⟨⟨(lw_in6 (List.mem_of_getElem? (i := 92) rfl)), rfl⟩, List.forall_mem_cons.mpr ⟨⟨(lw_in6 (List.mem_of_getElem? (i := 94) rfl)), rfl⟩, List.forall_mem_cons.mpr ⟨⟨(lw_in6 (List.mem_of_getElem? (i := 96) rfl)), rfl⟩, List.forall_mem_cons.mpr ⟨⟨(lw_in6 (List.mem_of_getElem? (i := 98) rfl)), rfl⟩, List.forall_mem_cons.mpr ⟨⟨(lw_in6 (List.mem_of_getElem? (i := 100) rfl)), rfl⟩, List.forall_mem_cons.mpr ⟨⟨(lw_in6 (List.mem_of_getElem? (i := 102) rfl)), rfl⟩, List.forall_mem_cons.mpr ⟨⟨(lw_in6 (List.mem_of_getElem? (i := 104) rfl)), rfl⟩, List.forall_mem_cons.mpr ⟨⟨(lw_in6 (List.mem_of_getElem? (i := 106) rfl)), rfl⟩, List.forall_mem_cons.mpr ⟨⟨(lw_in6 (List.mem_of_getElem? (i := 108) rfl)), rfl⟩, List.forall_mem_cons.mpr ⟨⟨(lw_in6 (List.mem_of_getElem? (i := 110) rfl)), rfl⟩, List.forall_mem_cons.mpr ⟨⟨(lw_in6 (List.mem_of_getElem? (i := 112) rfl)), rfl⟩, List.forall_mem_cons.mpr ⟨⟨(lw_in6 (List.mem_of_getElem? (i := 114) rfl)), rfl⟩, List.forall_mem_cons.mpr ⟨⟨(lw_in6 (List.mem_of_getElem? (i := 116) rfl)), rfl⟩, List.forall_mem_cons.mpr ⟨⟨(lw_in6 (List.mem_of_getElem? (i := 118) rfl)), rfl⟩, List.forall_mem_cons.mpr ⟨⟨(lw_in6 (List.mem_of_getElem? (i := 120) rfl)), rfl⟩, List.forall_mem_cons.mpr ⟨⟨(lw_in6 (List.mem_of_getElem? (i := 122) rfl)), rfl⟩, List.forall_mem_cons.mpr ⟨⟨(lw_in6 (List.mem_of_getElem? (i := 124) rfl)), rfl⟩, List.forall_mem_cons.mpr ⟨⟨(lw_in6 (List.mem_of_getElem? (i := 126) rfl)), rfl⟩, List.forall_mem_cons.mpr ⟨⟨(lw_in6 (List.mem_of_getElem? (i := 128) rfl)), rfl⟩, List.forall_mem_cons.mpr ⟨⟨(lw_in6 (List.mem_of_getElem? (i := 130) rfl)), rfl⟩, List.forall_mem_cons.mpr ⟨⟨(lw_in6 (List.mem_of_getElem? (i := 132) rfl)), rfl⟩, List.forall_mem_cons.mpr ⟨⟨(lw_in6 (List.mem_of_getElem? (i := 134) rfl)), rfl⟩, List.forall_mem_cons.mpr ⟨⟨(lw_in6 (List.mem_of_getElem? (i := 136) rfl)), rfl⟩, List.forall_mem_cons.mpr ⟨⟨(lw_in6 (List.mem_of_getElem? (i := 138) rfl)), rfl⟩, List.forall_mem_cons.mpr ⟨⟨(lw_in6 (List.mem_of_getElem? (i := 140) rfl)), rfl⟩, List.forall_mem_cons.mpr ⟨⟨(lw_in6 (List.mem_of_getElem? (i := 142) rfl)), rfl⟩, List.forall_mem_cons.mpr ⟨⟨(lw_in6 (List.mem_of_getElem? (i := 144) rfl)), rfl⟩, List.forall_mem_cons.mpr ⟨⟨(lw_in6 (List.mem_of_getElem? (i := 146) rfl)), rfl⟩, List.forall_mem_cons.mpr ⟨⟨(lw_in6 (List.mem_of_getElem? (i := 148) rfl)), rfl⟩, List.forall_mem_cons.mpr ⟨⟨(lw_in6 (List.mem_of_getElem? (i := 150) rfl)), rfl⟩, List.forall_mem_cons.mpr ⟨⟨(lw_in6 (List.mem_of_getElem? (i := 152) rfl)), rfl⟩, List.forall_mem_cons.mpr ⟨⟨(lw_in6 (List.mem_of_getElem? (i := 154) rfl)), rfl⟩, List.forall_mem_cons.mpr ⟨⟨(lw_in6 (List.mem_of_getElem? (i := 156) rfl)), rfl⟩, List.forall_mem_cons.mpr ⟨⟨(lw_in6 (List.mem_of_getElem? (i := 158) rfl)), rfl⟩, List.forall_mem_cons.mpr ⟨⟨(lw_in6 (List.mem_of_getElem? (i := 160) rfl)), rfl⟩, List.forall_mem_cons.mpr ⟨⟨(lw_in6 (List.mem_of_getElem? (i := 162) rfl)), rfl⟩, List.forall_mem_cons.mpr ⟨⟨(lw_in6 (List.mem_of_getElem? (i := 164) rfl)), rfl⟩, List.forall_mem_cons.mpr ⟨⟨(lw_in6 (List.mem_of_getElem? (i := 166) rfl)), rfl⟩, List.forall_mem_cons.mpr ⟨⟨(lw_in6 (List.mem_of_getElem? (i := 168) rfl)), rfl⟩, List.forall_mem_cons.mpr ⟨⟨(lw_in6 (List.mem_of_getElem? (i := 170) rfl)), rfl⟩, List.forall_mem_cons.mpr ⟨⟨(lw_in6 (List.mem_of_getElem? (i := 172) rfl)), rfl⟩, List.forall_mem_cons.mpr ⟨⟨(lw_in6 (List.mem_of_getElem? (i := 174) rfl)), rfl⟩, List.forall_mem_cons.mpr ⟨⟨(lw_in6 (List.mem_of_getElem? (i := 176) rfl)), rfl⟩, List.forall_mem_cons.mpr ⟨⟨(lw_in6 (List.mem_of_getElem? (i := 178) rfl)), rfl⟩, List.forall_mem_cons.mpr ⟨⟨(lw_in6 (List.mem_of_getElem? (i := 180) rfl)), rfl⟩, List.forall_mem_cons.mpr ⟨⟨(lw_in6 (List.mem_of_getElem? (i := 182) rfl)), rfl⟩, List.forall_mem_cons.mpr ⟨⟨(lw_in6 (List.mem_of_getElem? (i := 184) rfl)), rfl⟩, List.forall_mem_cons.mpr ⟨⟨(lw_in6 (List.mem_of_getElem? (i := 186) rfl)), rfl⟩, List.forall_mem_cons.mpr ⟨⟨(lw_in6 (List.mem_of_getElem? (i := 188) rfl)), rfl⟩, List.forall_mem_cons.mpr ⟨⟨(lw_in6 (List.mem_of_getElem? (i := 190) rfl)), rfl⟩, List.forall_mem_cons.mpr ⟨⟨(lw_in6 (List.mem_of_getElem? (i := 192) rfl)), rfl⟩, List.forall_mem_cons.mpr ⟨⟨(lw_in6 (List.mem_of_getElem? (i := 194) rfl)), rfl⟩, List.forall_mem_cons.mpr ⟨⟨(lw_in6 (List.mem_of_getElem? (i := 196) rfl)), rfl⟩, List.forall_mem_cons.mpr ⟨⟨(lw_in6 (List.mem_of_getElem? (i := 198) rfl)), rfl⟩, List.forall_mem_cons.mpr ⟨⟨(lw_in6 (List.mem_of_getElem? (i := 200) rfl)), rfl⟩, List.forall_mem_cons.mpr ⟨⟨(lw_in6 (List.mem_of_getElem? (i := 202) rfl)), rfl⟩, List.forall_mem_cons.mpr ⟨⟨(lw_in6 (List.mem_of_getElem? (i := 204) rfl)), rfl⟩, List.forall_mem_cons.mpr ⟨⟨(lw_in6 (List.mem_of_getElem? (i := 206) rfl)), rfl⟩, List.forall_mem_cons.mpr ⟨⟨(lw_in6 (List.mem_of_getElem? (i := 208) rfl)), rfl⟩, List.forall_mem_cons.mpr ⟨⟨(lw_in6 (List.mem_of_getElem? (i := 210) rfl)), rfl⟩, List.forall_mem_cons.mpr ⟨⟨(lw_in6 (List.mem_of_getElem? (i := 212) rfl)), rfl⟩, List.forall_mem_cons.mpr ⟨⟨(lw_in6 (List.mem_of_getElem? (i := 214) rfl)), rfl⟩, List.forall_mem_cons.mpr ⟨⟨(lw_in6 (List.mem_of_getElem? (i := 216) rfl)), rfl⟩, List.forall_mem_cons.mpr ⟨⟨(lw_in6 (List.mem_of_getElem? (i := 218) rfl)), rfl⟩, List.forall_mem_cons.mpr ⟨⟨(lw_in6 (List.mem_of_getElem? (i := 220) rfl)), rfl⟩, List.forall_mem_cons.mpr ⟨⟨(lw_in6 (List.mem_of_getElem? (i := 222) rfl)), rfl⟩, List.forall_mem_cons.mpr ⟨⟨(lw_in6 (List.mem_of_getElem? (i := 224) rfl)), rfl⟩, List.forall_mem_cons.mpr ⟨⟨(lw_in6 (List.mem_of_getElem? (i := 226) rfl)), rfl⟩, List.forall_mem_cons.mpr ⟨⟨(lw_in6 (List.mem_of_getElem? (i := 228) rfl)), rfl⟩, List.forall_mem_cons.mpr ⟨⟨(lw_in6 (List.mem_of_getElem? (i := 230) rfl)), rfl⟩, List.forall_mem_cons.mpr ⟨⟨(lw_in6 (List.mem_of_getElem? (i := 232) rfl)), rfl⟩, List.forall_mem_cons.mpr ⟨⟨(lw_in6 (List.mem_of_getElem? (i := 234) rfl)), rfl⟩, List.forall_mem_cons.mpr ⟨⟨(lw_in6 (List.mem_of_getElem? (i := 236) rfl)), rfl⟩, List.forall_mem_cons.mpr ⟨⟨(lw_in6 (List.mem_of_getElem? (i := 238) rfl)), rfl⟩, List.forall_mem_cons.mpr ⟨⟨(lw_in7 (List.mem_of_getElem? (i := 0) rfl)), rfl⟩, List.forall_mem_cons.mpr ⟨⟨(lw_in7 (List.mem_of_getElem? (i := 2) rfl)), rfl⟩, List.forall_mem_cons.mpr ⟨⟨(lw_in7 (List.mem_of_getElem? (i := 4) rfl)), rfl⟩, List.forall_mem_cons.mpr ⟨⟨(lw_in7 (List.mem_of_getElem? (i := 6) rfl)), rfl⟩, List.forall_mem_cons.mpr ⟨⟨(lw_in7 (List.mem_of_getElem? (i := 8) rfl)), rfl⟩, List.forall_mem_cons.mpr ⟨⟨(lw_in7 (List.mem_of_getElem? (i := 10) rfl)), rfl⟩, List.forall_mem_cons.mpr ⟨⟨(lw_in7 (List.mem_of_getElem? (i := 12) rfl)), rfl⟩, List.forall_mem_cons.mpr ⟨⟨(lw_in7 (List.mem_of_getElem? (i := 14) rfl)), rfl⟩, List.forall_mem_cons.mpr ⟨⟨(lw_in7 (List.mem_of_getElem? (i := 16) rfl)), rfl⟩, fun _ h => absurd h List.not_mem_nil⟩⟩⟩⟩⟩⟩⟩⟩⟩⟩⟩⟩⟩⟩⟩⟩⟩⟩⟩⟩⟩⟩⟩⟩⟩⟩⟩⟩⟩⟩⟩⟩⟩⟩⟩⟩⟩⟩⟩⟩⟩⟩⟩⟩⟩⟩⟩⟩⟩⟩⟩⟩⟩⟩⟩⟩⟩⟩⟩⟩⟩⟩⟩⟩⟩⟩⟩⟩⟩⟩⟩⟩⟩⟩⟩⟩⟩⟩⟩⟩⟩⟩⟩⟩⟩⟩⟩⟩
theorem mt_clok12 : mt_clok 12 ("MarloweHostModel", mt_T12, 88) := ⟨by decide +kernel, by decide +kernel, by decide +kernel, by decide +kernel, rfl, mt_ws12⟩
set_option maxRecDepth 100000 in
theorem mt_ws13 : ∀ w ∈ u_ws "MarloweHostModel$State" mt_T13 7, mt_B w := List.forall_mem_cons.mpr ⟨⟨(lw_in5 (List.mem_of_getElem? (i := 218) rfl)), rfl⟩, List.forall_mem_cons.mpr ⟨⟨(lw_in5 (List.mem_of_getElem? (i := 220) rfl)), rfl⟩, List.forall_mem_cons.mpr ⟨⟨(lw_in5 (List.mem_of_getElem? (i := 222) rfl)), rfl⟩, List.forall_mem_cons.mpr ⟨⟨(lw_in5 (List.mem_of_getElem? (i := 224) rfl)), rfl⟩, List.forall_mem_cons.mpr ⟨⟨(lw_in5 (List.mem_of_getElem? (i := 226) rfl)), rfl⟩, List.forall_mem_cons.mpr ⟨⟨(lw_in5 (List.mem_of_getElem? (i := 228) rfl)), rfl⟩, List.forall_mem_cons.mpr ⟨⟨(lw_in5 (List.mem_of_getElem? (i := 230) rfl)), rfl⟩, fun _ h => absurd h List.not_mem_nil⟩⟩⟩⟩⟩⟩⟩
theorem mt_clok13 : mt_clok 13 ("MarloweHostModel$State", mt_T13, 7) := ⟨by decide +kernel, by decide +kernel, by decide +kernel, by decide +kernel, rfl, mt_ws13⟩
theorem mt_clok14 : mt_clok 14 ("java/lang/IndexOutOfBoundsException", mt_T99, 0) := ⟨by decide +kernel, by decide +kernel, by decide +kernel, by decide +kernel, rfl, fun _ h => absurd h List.not_mem_nil⟩
theorem mt_clok15 : mt_clok 15 ("java/lang/IllegalArgumentException", mt_T99, 0) := ⟨by decide +kernel, by decide +kernel, by decide +kernel, by decide +kernel, rfl, fun _ h => absurd h List.not_mem_nil⟩
theorem mt_clok16 : mt_clok 16 ("java/lang/IllegalStateException", mt_T99, 0) := ⟨by decide +kernel, by decide +kernel, by decide +kernel, by decide +kernel, rfl, fun _ h => absurd h List.not_mem_nil⟩
theorem mt_cls_ok : ∀ (ci : Nat) (q : vw_C), mt_cl[ci]? = some q → mt_clok ci q
  | 0, _, h => by cases h; exact mt_clok0
  | 1, _, h => by cases h; exact mt_clok1
  | 2, _, h => by cases h; exact mt_clok2
  | 3, _, h => by cases h; exact mt_clok3
  | 4, _, h => by cases h; exact mt_clok4
  | 5, _, h => by cases h; exact mt_clok5
  | 6, _, h => by cases h; exact mt_clok6
  | 7, _, h => by cases h; exact mt_clok7
  | 8, _, h => by cases h; exact mt_clok8
  | 9, _, h => by cases h; exact mt_clok9
  | 10, _, h => by cases h; exact mt_clok10
  | 11, _, h => by cases h; exact mt_clok11
  | 12, _, h => by cases h; exact mt_clok12
  | 13, _, h => by cases h; exact mt_clok13
  | 14, _, h => by cases h; exact mt_clok14
  | 15, _, h => by cases h; exact mt_clok15
  | 16, _, h => by cases h; exact mt_clok16
  | n + 17, _, h => by cases h
theorem mt_cl_ok {ci : Nat} {C : String} {T : u_T} {N : Nat} (h : mt_cl[ci]? = some (C, T, N)) : (∀ k, k < N → parseFieldDescriptor (T k).2.2.1 = some (mt_ft ci k)) ∧ (∀ a, a < N → ∀ b, b < N → a ≠ b → (T a).2.1 ≠ (T b).2.1) ∧ (∀ k, k < N → (T k).2.2.2 = mt_fn ci k) := ⟨(mt_cls_ok ci _ h).1, (mt_cls_ok ci _ h).2.1, (mt_cls_ok ci _ h).2.2.1⟩
theorem mt_own {ci : Nat} {C : String} {T : u_T} {N : Nat} (h : mt_cl[ci]? = some (C, T, N)) (k : Nat) (hk : k < N) : (T k).1 = mt_cn ci := (mt_cls_ok ci _ h).2.2.2.1 k hk
theorem mt_cn_ok {ci : Nat} {q : vw_C} (h : mt_cl[ci]? = some q) : q.1 = mt_cn ci := (mt_cls_ok ci _ h).2.2.2.2.1
theorem mt_cws {ci : Nat} {C : String} {T : u_T} {N : Nat} (h : mt_cl[ci]? = some (C, T, N)) : ∀ w ∈ u_ws C T N, mt_B w := (mt_cls_ok ci _ h).2.2.2.2.2
def mt_fl0 : List (Nat × Nat × Nat) := [(74, 1, 1), (110, 2, 11), (241, 4, 4), (237, 3, 2), (244, 3, 3), (247, 3, 4), (250, 3, 5), (111, 3, 6), (128, 5, 0), (91, 6, 5), (170, 8, 0), (174, 8, 1), (177, 8, 2), (180, 8, 3), (183, 8, 4), (188, 8, 5), (160, 8, 6), (165, 8, 7), (228, 9, 0), (202, 9, 1), (193, 9, 2), (196, 9, 3), (199, 9, 4), (156, 7, 7), (217, 11, 7), (220, 11, 8), (223, 11, 9), (231, 11, 10), (212, 11, 11), (12, 0, 0), (19, 0, 1), (28, 0, 2), (35, 0, 3), (42, 0, 4), (51, 0, 5), (60, 0, 6), (67, 0, 7), (71, 0, 8), (94, 0, 9)]
def mt_fl1 : List (Nat × Nat × Nat) := [(9, 1, 0), (15, 1, 1), (37, 1, 2), (28, 1, 3), (31, 1, 4), (71, 1, 5), (25, 1, 6)]
def mt_fl2 : List (Nat × Nat × Nat) := [(9, 2, 0), (15, 2, 1), (18, 2, 2), (21, 2, 3), (24, 2, 4), (27, 2, 5), (30, 2, 6), (33, 2, 7), (36, 2, 8), (40, 2, 9), (44, 2, 10), (47, 2, 11), (51, 2, 12)]
def mt_fl3 : List (Nat × Nat × Nat) := [(25, 1, 0), (67, 1, 2), (74, 1, 3), (170, 1, 4), (88, 1, 5), (109, 2, 1), (138, 2, 2), (141, 2, 3), (128, 2, 4), (151, 2, 5), (154, 2, 6), (144, 2, 7), (147, 2, 8), (120, 2, 9), (87, 2, 11), (163, 2, 12), (52, 4, 4), (15, 3, 0), (19, 3, 1), (34, 3, 2), (38, 3, 3), (41, 3, 4), (44, 3, 5), (9, 3, 6)]
def mt_fl4 : List (Nat × Nat × Nat) := [(9, 4, 0), (15, 4, 1), (19, 4, 2), (22, 4, 3), (25, 4, 4)]
def mt_fl5 : List (Nat × Nat × Nat) := [(9, 5, 0), (15, 5, 1), (30, 8, 3), (34, 8, 4), (39, 8, 5), (24, 8, 7)]
def mt_fl6 : List (Nat × Nat × Nat) := [(9, 6, 0), (15, 6, 1), (18, 6, 2), (21, 6, 3), (24, 6, 4), (28, 6, 5)]
def mt_fl7 : List (Nat × Nat × Nat) := [(200, 2, 0), (118, 2, 1), (126, 2, 2), (129, 2, 3), (157, 2, 4), (160, 2, 5), (163, 2, 6), (176, 2, 8), (107, 2, 9), (203, 6, 0), (204, 6, 1), (209, 6, 2), (210, 6, 3), (194, 6, 4), (67, 6, 5), (94, 9, 0), (45, 9, 1), (147, 9, 2), (143, 10, 4), (18, 7, 0), (22, 7, 1), (38, 7, 2), (29, 7, 3), (82, 7, 4), (85, 7, 5), (49, 7, 6), (12, 7, 7)]
def mt_fl8 : List (Nat × Nat × Nat) := [(9, 8, 0), (15, 8, 1), (18, 8, 2), (21, 8, 3), (24, 8, 4), (27, 8, 5), (31, 8, 6), (35, 8, 7)]
def mt_fl9 : List (Nat × Nat × Nat) := [(21, 9, 0), (25, 9, 1), (9, 9, 2), (15, 9, 3), (18, 9, 4), (35, 9, 5), (38, 9, 6)]
def mt_fl10 : List (Nat × Nat × Nat) := [(43, 2, 0), (36, 2, 1), (80, 2, 2), (40, 2, 3), (50, 2, 4), (53, 2, 5), (46, 2, 9), (9, 10, 0), (15, 10, 1), (19, 10, 2), (23, 10, 3), (26, 10, 4)]
def mt_fl11 : List (Nat × Nat × Nat) := [(132, 2, 0), (111, 2, 1), (142, 2, 3), (166, 2, 4), (169, 2, 5), (172, 2, 6), (121, 2, 9), (163, 6, 5), (94, 8, 6), (71, 9, 0), (124, 9, 1), (151, 10, 4), (90, 7, 7), (41, 11, 0), (50, 11, 1), (60, 11, 2), (12, 11, 3), (20, 11, 4), (24, 11, 5), (28, 11, 6), (31, 11, 7), (34, 11, 8), (38, 11, 9), (64, 11, 10), (68, 11, 11)]
def mt_fl12 : List (Nat × Nat × Nat) := [(496, 13, 0), (516, 13, 1), (448, 13, 2), (463, 13, 3), (468, 13, 4), (459, 13, 5), (465, 13, 6), (248, 12, 0), (251, 12, 1), (261, 12, 2), (7, 12, 3), (13, 12, 4), (16, 12, 5), (20, 12, 6), (73, 12, 7), (310, 12, 8), (299, 12, 9), (297, 12, 10), (327, 12, 11), (77, 12, 12), (80, 12, 13), (83, 12, 14), (86, 12, 15), (89, 12, 16), (92, 12, 17), (95, 12, 18), (98, 12, 19), (101, 12, 20), (282, 12, 21), (337, 12, 22), (340, 12, 23), (343, 12, 24), (346, 12, 25), (349, 12, 26), (352, 12, 27), (105, 12, 28), (108, 12, 29), (111, 12, 30), (114, 12, 31), (117, 12, 32), (120, 12, 33), (123, 12, 34), (126, 12, 35), (129, 12, 36), (132, 12, 37), (135, 12, 38), (138, 12, 39), (141, 12, 40), (147, 12, 41), (151, 12, 42), (445, 12, 43), (471, 12, 44), (474, 12, 45), (441, 12, 46), (490, 12, 47), (493, 12, 48), (154, 12, 49), (157, 12, 50), (160, 12, 51), (163, 12, 52), (166, 12, 53), (169, 12, 54), (172, 12, 55), (175, 12, 56), (513, 12, 57), (506, 12, 58), (258, 12, 59), (178, 12, 60), (181, 12, 61), (184, 12, 62), (187, 12, 63), (190, 12, 64), (536, 12, 65), (539, 12, 66), (193, 12, 67), (196, 12, 68), (199, 12, 69), (202, 12, 70), (205, 12, 71), (208, 12, 72), (562, 12, 73), (568, 12, 74), (565, 12, 75), (211, 12, 76), (214, 12, 77), (217, 12, 78), (220, 12, 79), (223, 12, 80), (226, 12, 81), (229, 12, 82), (233, 12, 83), (236, 12, 84), (239, 12, 85), (242, 12, 86), (245, 12, 87)]
def mt_fl13 : List (Nat × Nat × Nat) := [(28, 13, 0), (32, 13, 1), (9, 13, 2), (15, 13, 3), (18, 13, 4), (21, 13, 5), (25, 13, 6)]
def mt_fl14 : List (Nat × Nat × Nat) := []
def mt_fl15 : List (Nat × Nat × Nat) := []
def mt_fl16 : List (Nat × Nat × Nat) := []
def mt_fl17 : List (Nat × Nat × Nat) := []
def mt_fl18 : List (Nat × Nat × Nat) := []
def mt_fl19 : List (Nat × Nat × Nat) := []
def mt_fl20 : List (Nat × Nat × Nat) := []
def mt_fl21 : List (Nat × Nat × Nat) := []
def mt_fl22 : List (Nat × Nat × Nat) := []
def mt_fls : List (List (Nat × Nat × Nat)) := [mt_fl0, mt_fl1, mt_fl2, mt_fl3, mt_fl4, mt_fl5, mt_fl6, mt_fl7, mt_fl8, mt_fl9, mt_fl10, mt_fl11, mt_fl12, mt_fl13, mt_fl14, mt_fl15, mt_fl16, mt_fl17, mt_fl18, mt_fl19, mt_fl20, mt_fl21, mt_fl22]
def mt_f (oc idx : Nat) : Option (Nat × Nat) := ((mt_fls.getD oc []).find? (fun q => q.1 == idx)).map (fun q => q.2)
def mt_fok (oc : Nat) (q : Nat × Nat × Nat) : Prop := ∃ C T N, mt_cl[q.2.1]? = some (C, T, N) ∧ q.2.2 < N ∧ mt_B (Cond.fieldLink (mt_cn oc) q.1 (T q.2.2).1 (T q.2.2).2.1 (T q.2.2).2.2.1)
set_option maxRecDepth 100000 in
theorem mt_flok0 : ∀ q ∈ mt_fl0, mt_fok 0 q := List.forall_mem_cons.mpr ⟨⟨_, _, _, rfl, by decide, ⟨(lw_in1 (List.mem_of_getElem? (i := 44) rfl)), rfl⟩⟩, List.forall_mem_cons.mpr ⟨⟨_, _, _, rfl, by decide, ⟨(lw_in1 (List.mem_of_getElem? (i := 121) rfl)), rfl⟩⟩, List.forall_mem_cons.mpr ⟨⟨_, _, _, rfl, by decide, ⟨(lw_in1 (List.mem_of_getElem? (i := 173) rfl)), rfl⟩⟩, List.forall_mem_cons.mpr ⟨⟨_, _, _, rfl, by decide, ⟨(lw_in1 (List.mem_of_getElem? (i := 188) rfl)), rfl⟩⟩, List.forall_mem_cons.mpr ⟨⟨_, _, _, rfl, by decide, ⟨(lw_in1 (List.mem_of_getElem? (i := 190) rfl)), rfl⟩⟩, List.forall_mem_cons.mpr ⟨⟨_, _, _, rfl, by decide, ⟨(lw_in1 (List.mem_of_getElem? (i := 192) rfl)), rfl⟩⟩, List.forall_mem_cons.mpr ⟨⟨_, _, _, rfl, by decide, ⟨(lw_in1 (List.mem_of_getElem? (i := 194) rfl)), rfl⟩⟩, List.forall_mem_cons.mpr ⟨⟨_, _, _, rfl, by decide, ⟨(lw_in1 (List.mem_of_getElem? (i := 196) rfl)), rfl⟩⟩, List.forall_mem_cons.mpr ⟨⟨_, _, _, rfl, by decide, ⟨(lw_in1 (List.mem_of_getElem? (i := 219) rfl)), rfl⟩⟩, List.forall_mem_cons.mpr ⟨⟨_, _, _, rfl, by decide, ⟨(lw_in2 (List.mem_of_getElem? (i := 4) rfl)), rfl⟩⟩, List.forall_mem_cons.mpr ⟨⟨_, _, _, rfl, by decide, ⟨(lw_in2 (List.mem_of_getElem? (i := 32) rfl)), rfl⟩⟩, List.forall_mem_cons.mpr ⟨⟨_, _, _, rfl, by decide, ⟨(lw_in2 (List.mem_of_getElem? (i := 34) rfl)), rfl⟩⟩, List.forall_mem_cons.mpr ⟨⟨_, _, _, rfl, by decide, ⟨(lw_in2 (List.mem_of_getElem? (i := 36) rfl)), rfl⟩⟩, List.forall_mem_cons.mpr ⟨⟨_, _, _, rfl, by decide, ⟨(lw_in2 (List.mem_of_getElem? (i := 39) rfl)), rfl⟩⟩, List.forall_mem_cons.mpr ⟨⟨_, _, _, rfl, by decide, ⟨(lw_in2 (List.mem_of_getElem? (i := 42) rfl)), rfl⟩⟩, List.forall_mem_cons.mpr ⟨⟨_, _, _, rfl, by decide, ⟨(lw_in2 (List.mem_of_getElem? (i := 45) rfl)), rfl⟩⟩, List.forall_mem_cons.mpr ⟨⟨_, _, _, rfl, by decide, ⟨(lw_in2 (List.mem_of_getElem? (i := 48) rfl)), rfl⟩⟩, List.forall_mem_cons.mpr ⟨⟨_, _, _, rfl, by decide, ⟨(lw_in2 (List.mem_of_getElem? (i := 51) rfl)), rfl⟩⟩, List.forall_mem_cons.mpr ⟨⟨_, _, _, rfl, by decide, ⟨(lw_in2 (List.mem_of_getElem? (i := 78) rfl)), rfl⟩⟩, List.forall_mem_cons.mpr ⟨⟨_, _, _, rfl, by decide, ⟨(lw_in2 (List.mem_of_getElem? (i := 82) rfl)), rfl⟩⟩, List.forall_mem_cons.mpr ⟨⟨_, _, _, rfl, by decide, ⟨(lw_in2 (List.mem_of_getElem? (i := 85) rfl)), rfl⟩⟩, List.forall_mem_cons.mpr ⟨⟨_, _, _, rfl, by decide, ⟨(lw_in2 (List.mem_of_getElem? (i := 87) rfl)), rfl⟩⟩, List.forall_mem_cons.mpr ⟨⟨_, _, _, rfl, by decide, ⟨(lw_in2 (List.mem_of_getElem? (i := 89) rfl)), rfl⟩⟩, List.forall_mem_cons.mpr ⟨⟨_, _, _, rfl, by decide, ⟨(lw_in2 (List.mem_of_getElem? (i := 140) rfl)), rfl⟩⟩, List.forall_mem_cons.mpr ⟨⟨_, _, _, rfl, by decide, ⟨(lw_in2 (List.mem_of_getElem? (i := 181) rfl)), rfl⟩⟩, List.forall_mem_cons.mpr ⟨⟨_, _, _, rfl, by decide, ⟨(lw_in2 (List.mem_of_getElem? (i := 183) rfl)), rfl⟩⟩, List.forall_mem_cons.mpr ⟨⟨_, _, _, rfl, by decide, ⟨(lw_in2 (List.mem_of_getElem? (i := 185) rfl)), rfl⟩⟩, List.forall_mem_cons.mpr ⟨⟨_, _, _, rfl, by decide, ⟨(lw_in2 (List.mem_of_getElem? (i := 187) rfl)), rfl⟩⟩, List.forall_mem_cons.mpr ⟨⟨_, _, _, rfl, by decide, ⟨(lw_in2 (List.mem_of_getElem? (i := 189) rfl)), rfl⟩⟩, List.forall_mem_cons.mpr ⟨⟨_, _, _, rfl, by decide, ⟨(lw_in2 (List.mem_of_getElem? (i := 217) rfl)), rfl⟩⟩, List.forall_mem_cons.mpr ⟨⟨_, _, _, rfl, by decide, ⟨(lw_in2 (List.mem_of_getElem? (i := 218) rfl)), rfl⟩⟩, List.forall_mem_cons.mpr ⟨⟨_, _, _, rfl, by decide, ⟨(lw_in2 (List.mem_of_getElem? (i := 219) rfl)), rfl⟩⟩, List.forall_mem_cons.mpr ⟨⟨_, _, _, rfl, by decide, ⟨(lw_in2 (List.mem_of_getElem? (i := 220) rfl)), rfl⟩⟩, List.forall_mem_cons.mpr ⟨⟨_, _, _, rfl, by decide, ⟨(lw_in2 (List.mem_of_getElem? (i := 221) rfl)), rfl⟩⟩, List.forall_mem_cons.mpr ⟨⟨_, _, _, rfl, by decide, ⟨(lw_in2 (List.mem_of_getElem? (i := 222) rfl)), rfl⟩⟩, List.forall_mem_cons.mpr ⟨⟨_, _, _, rfl, by decide, ⟨(lw_in2 (List.mem_of_getElem? (i := 223) rfl)), rfl⟩⟩, List.forall_mem_cons.mpr ⟨⟨_, _, _, rfl, by decide, ⟨(lw_in2 (List.mem_of_getElem? (i := 224) rfl)), rfl⟩⟩, List.forall_mem_cons.mpr ⟨⟨_, _, _, rfl, by decide, ⟨(lw_in2 (List.mem_of_getElem? (i := 225) rfl)), rfl⟩⟩, List.forall_mem_cons.mpr ⟨⟨_, _, _, rfl, by decide, ⟨(lw_in2 (List.mem_of_getElem? (i := 226) rfl)), rfl⟩⟩, fun _ h => absurd h List.not_mem_nil⟩⟩⟩⟩⟩⟩⟩⟩⟩⟩⟩⟩⟩⟩⟩⟩⟩⟩⟩⟩⟩⟩⟩⟩⟩⟩⟩⟩⟩⟩⟩⟩⟩⟩⟩⟩⟩⟩⟩
set_option maxRecDepth 100000 in
theorem mt_flok1 : ∀ q ∈ mt_fl1, mt_fok 1 q := List.forall_mem_cons.mpr ⟨⟨_, _, _, rfl, by decide, ⟨(lw_in1 (List.mem_of_getElem? (i := 42) rfl)), rfl⟩⟩, List.forall_mem_cons.mpr ⟨⟨_, _, _, rfl, by decide, ⟨(lw_in1 (List.mem_of_getElem? (i := 45) rfl)), rfl⟩⟩, List.forall_mem_cons.mpr ⟨⟨_, _, _, rfl, by decide, ⟨(lw_in1 (List.mem_of_getElem? (i := 47) rfl)), rfl⟩⟩, List.forall_mem_cons.mpr ⟨⟨_, _, _, rfl, by decide, ⟨(lw_in1 (List.mem_of_getElem? (i := 49) rfl)), rfl⟩⟩, List.forall_mem_cons.mpr ⟨⟨_, _, _, rfl, by decide, ⟨(lw_in1 (List.mem_of_getElem? (i := 50) rfl)), rfl⟩⟩, List.forall_mem_cons.mpr ⟨⟨_, _, _, rfl, by decide, ⟨(lw_in1 (List.mem_of_getElem? (i := 53) rfl)), rfl⟩⟩, List.forall_mem_cons.mpr ⟨⟨_, _, _, rfl, by decide, ⟨(lw_in1 (List.mem_of_getElem? (i := 54) rfl)), rfl⟩⟩, fun _ h => absurd h List.not_mem_nil⟩⟩⟩⟩⟩⟩⟩
set_option maxRecDepth 100000 in
theorem mt_flok2 : ∀ q ∈ mt_fl2, mt_fok 2 q := List.forall_mem_cons.mpr ⟨⟨_, _, _, rfl, by decide, ⟨(lw_in1 (List.mem_of_getElem? (i := 77) rfl)), rfl⟩⟩, List.forall_mem_cons.mpr ⟨⟨_, _, _, rfl, by decide, ⟨(lw_in1 (List.mem_of_getElem? (i := 81) rfl)), rfl⟩⟩, List.forall_mem_cons.mpr ⟨⟨_, _, _, rfl, by decide, ⟨(lw_in1 (List.mem_of_getElem? (i := 86) rfl)), rfl⟩⟩, List.forall_mem_cons.mpr ⟨⟨_, _, _, rfl, by decide, ⟨(lw_in1 (List.mem_of_getElem? (i := 90) rfl)), rfl⟩⟩, List.forall_mem_cons.mpr ⟨⟨_, _, _, rfl, by decide, ⟨(lw_in1 (List.mem_of_getElem? (i := 95) rfl)), rfl⟩⟩, List.forall_mem_cons.mpr ⟨⟨_, _, _, rfl, by decide, ⟨(lw_in1 (List.mem_of_getElem? (i := 100) rfl)), rfl⟩⟩, List.forall_mem_cons.mpr ⟨⟨_, _, _, rfl, by decide, ⟨(lw_in1 (List.mem_of_getElem? (i := 105) rfl)), rfl⟩⟩, List.forall_mem_cons.mpr ⟨⟨_, _, _, rfl, by decide, ⟨(lw_in1 (List.mem_of_getElem? (i := 109) rfl)), rfl⟩⟩, List.forall_mem_cons.mpr ⟨⟨_, _, _, rfl, by decide, ⟨(lw_in1 (List.mem_of_getElem? (i := 111) rfl)), rfl⟩⟩, List.forall_mem_cons.mpr ⟨⟨_, _, _, rfl, by decide, ⟨(lw_in1 (List.mem_of_getElem? (i := 114) rfl)), rfl⟩⟩, List.forall_mem_cons.mpr ⟨⟨_, _, _, rfl, by decide, ⟨(lw_in1 (List.mem_of_getElem? (i := 119) rfl)), rfl⟩⟩, List.forall_mem_cons.mpr ⟨⟨_, _, _, rfl, by decide, ⟨(lw_in1 (List.mem_of_getElem? (i := 120) rfl)), rfl⟩⟩, List.forall_mem_cons.mpr ⟨⟨_, _, _, rfl, by decide, ⟨(lw_in1 (List.mem_of_getElem? (i := 123) rfl)), rfl⟩⟩, fun _ h => absurd h List.not_mem_nil⟩⟩⟩⟩⟩⟩⟩⟩⟩⟩⟩⟩⟩
set_option maxRecDepth 100000 in
theorem mt_flok3 : ∀ q ∈ mt_fl3, mt_fok 3 q := List.forall_mem_cons.mpr ⟨⟨_, _, _, rfl, by decide, ⟨(lw_in1 (List.mem_of_getElem? (i := 43) rfl)), rfl⟩⟩, List.forall_mem_cons.mpr ⟨⟨_, _, _, rfl, by decide, ⟨(lw_in1 (List.mem_of_getElem? (i := 46) rfl)), rfl⟩⟩, List.forall_mem_cons.mpr ⟨⟨_, _, _, rfl, by decide, ⟨(lw_in1 (List.mem_of_getElem? (i := 48) rfl)), rfl⟩⟩, List.forall_mem_cons.mpr ⟨⟨_, _, _, rfl, by decide, ⟨(lw_in1 (List.mem_of_getElem? (i := 51) rfl)), rfl⟩⟩, List.forall_mem_cons.mpr ⟨⟨_, _, _, rfl, by decide, ⟨(lw_in1 (List.mem_of_getElem? (i := 52) rfl)), rfl⟩⟩, List.forall_mem_cons.mpr ⟨⟨_, _, _, rfl, by decide, ⟨(lw_in1 (List.mem_of_getElem? (i := 85) rfl)), rfl⟩⟩, List.forall_mem_cons.mpr ⟨⟨_, _, _, rfl, by decide, ⟨(lw_in1 (List.mem_of_getElem? (i := 89) rfl)), rfl⟩⟩, List.forall_mem_cons.mpr ⟨⟨_, _, _, rfl, by decide, ⟨(lw_in1 (List.mem_of_getElem? (i := 94) rfl)), rfl⟩⟩, List.forall_mem_cons.mpr ⟨⟨_, _, _, rfl, by decide, ⟨(lw_in1 (List.mem_of_getElem? (i := 99) rfl)), rfl⟩⟩, List.forall_mem_cons.mpr ⟨⟨_, _, _, rfl, by decide, ⟨(lw_in1 (List.mem_of_getElem? (i := 104) rfl)), rfl⟩⟩, List.forall_mem_cons.mpr ⟨⟨_, _, _, rfl, by decide, ⟨(lw_in1 (List.mem_of_getElem? (i := 108) rfl)), rfl⟩⟩, List.forall_mem_cons.mpr ⟨⟨_, _, _, rfl, by decide, ⟨(lw_in1 (List.mem_of_getElem? (i := 110) rfl)), rfl⟩⟩, List.forall_mem_cons.mpr ⟨⟨_, _, _, rfl, by decide, ⟨(lw_in1 (List.mem_of_getElem? (i := 113) rfl)), rfl⟩⟩, List.forall_mem_cons.mpr ⟨⟨_, _, _, rfl, by decide, ⟨(lw_in1 (List.mem_of_getElem? (i := 118) rfl)), rfl⟩⟩, List.forall_mem_cons.mpr ⟨⟨_, _, _, rfl, by decide, ⟨(lw_in1 (List.mem_of_getElem? (i := 122) rfl)), rfl⟩⟩, List.forall_mem_cons.mpr ⟨⟨_, _, _, rfl, by decide, ⟨(lw_in1 (List.mem_of_getElem? (i := 124) rfl)), rfl⟩⟩, List.forall_mem_cons.mpr ⟨⟨_, _, _, rfl, by decide, ⟨(lw_in1 (List.mem_of_getElem? (i := 172) rfl)), rfl⟩⟩, List.forall_mem_cons.mpr ⟨⟨_, _, _, rfl, by decide, ⟨(lw_in1 (List.mem_of_getElem? (i := 185) rfl)), rfl⟩⟩, List.forall_mem_cons.mpr ⟨⟨_, _, _, rfl, by decide, ⟨(lw_in1 (List.mem_of_getElem? (i := 186) rfl)), rfl⟩⟩, List.forall_mem_cons.mpr ⟨⟨_, _, _, rfl, by decide, ⟨(lw_in1 (List.mem_of_getElem? (i := 187) rfl)), rfl⟩⟩, List.forall_mem_cons.mpr ⟨⟨_, _, _, rfl, by decide, ⟨(lw_in1 (List.mem_of_getElem? (i := 189) rfl)), rfl⟩⟩, List.forall_mem_cons.mpr ⟨⟨_, _, _, rfl, by decide, ⟨(lw_in1 (List.mem_of_getElem? (i := 191) rfl)), rfl⟩⟩, List.forall_mem_cons.mpr ⟨⟨_, _, _, rfl, by decide, ⟨(lw_in1 (List.mem_of_getElem? (i := 193) rfl)), rfl⟩⟩, List.forall_mem_cons.mpr ⟨⟨_, _, _, rfl, by decide, ⟨(lw_in1 (List.mem_of_getElem? (i := 195) rfl)), rfl⟩⟩, fun _ h => absurd h List.not_mem_nil⟩⟩⟩⟩⟩⟩⟩⟩⟩⟩⟩⟩⟩⟩⟩⟩⟩⟩⟩⟩⟩⟩⟩⟩
set_option maxRecDepth 100000 in
theorem mt_flok4 : ∀ q ∈ mt_fl4, mt_fok 4 q := List.forall_mem_cons.mpr ⟨⟨_, _, _, rfl, by decide, ⟨(lw_in1 (List.mem_of_getElem? (i := 167) rfl)), rfl⟩⟩, List.forall_mem_cons.mpr ⟨⟨_, _, _, rfl, by decide, ⟨(lw_in1 (List.mem_of_getElem? (i := 168) rfl)), rfl⟩⟩, List.forall_mem_cons.mpr ⟨⟨_, _, _, rfl, by decide, ⟨(lw_in1 (List.mem_of_getElem? (i := 169) rfl)), rfl⟩⟩, List.forall_mem_cons.mpr ⟨⟨_, _, _, rfl, by decide, ⟨(lw_in1 (List.mem_of_getElem? (i := 170) rfl)), rfl⟩⟩, List.forall_mem_cons.mpr ⟨⟨_, _, _, rfl, by decide, ⟨(lw_in1 (List.mem_of_getElem? (i := 171) rfl)), rfl⟩⟩, fun _ h => absurd h List.not_mem_nil⟩⟩⟩⟩⟩
set_option maxRecDepth 100000 in
theorem mt_flok5 : ∀ q ∈ mt_fl5, mt_fok 5 q := List.forall_mem_cons.mpr ⟨⟨_, _, _, rfl, by decide, ⟨(lw_in1 (List.mem_of_getElem? (i := 218) rfl)), rfl⟩⟩, List.forall_mem_cons.mpr ⟨⟨_, _, _, rfl, by decide, ⟨(lw_in1 (List.mem_of_getElem? (i := 220) rfl)), rfl⟩⟩, List.forall_mem_cons.mpr ⟨⟨_, _, _, rfl, by decide, ⟨(lw_in2 (List.mem_of_getElem? (i := 38) rfl)), rfl⟩⟩, List.forall_mem_cons.mpr ⟨⟨_, _, _, rfl, by decide, ⟨(lw_in2 (List.mem_of_getElem? (i := 41) rfl)), rfl⟩⟩, List.forall_mem_cons.mpr ⟨⟨_, _, _, rfl, by decide, ⟨(lw_in2 (List.mem_of_getElem? (i := 44) rfl)), rfl⟩⟩, List.forall_mem_cons.mpr ⟨⟨_, _, _, rfl, by decide, ⟨(lw_in2 (List.mem_of_getElem? (i := 50) rfl)), rfl⟩⟩, fun _ h => absurd h List.not_mem_nil⟩⟩⟩⟩⟩⟩
set_option maxRecDepth 100000 in
theorem mt_flok6 : ∀ q ∈ mt_fl6, mt_fok 6 q := List.forall_mem_cons.mpr ⟨⟨_, _, _, rfl, by decide, ⟨(lw_in1 (List.mem_of_getElem? (i := 232) rfl)), rfl⟩⟩, List.forall_mem_cons.mpr ⟨⟨_, _, _, rfl, by decide, ⟨(lw_in1 (List.mem_of_getElem? (i := 234) rfl)), rfl⟩⟩, List.forall_mem_cons.mpr ⟨⟨_, _, _, rfl, by decide, ⟨(lw_in1 (List.mem_of_getElem? (i := 236) rfl)), rfl⟩⟩, List.forall_mem_cons.mpr ⟨⟨_, _, _, rfl, by decide, ⟨(lw_in1 (List.mem_of_getElem? (i := 238) rfl)), rfl⟩⟩, List.forall_mem_cons.mpr ⟨⟨_, _, _, rfl, by decide, ⟨(lw_in2 (List.mem_of_getElem? (i := 0) rfl)), rfl⟩⟩, List.forall_mem_cons.mpr ⟨⟨_, _, _, rfl, by decide, ⟨(lw_in2 (List.mem_of_getElem? (i := 2) rfl)), rfl⟩⟩, fun _ h => absurd h List.not_mem_nil⟩⟩⟩⟩⟩⟩
set_option maxRecDepth 100000 in
theorem mt_flok7 : ∀ q ∈ mt_fl7, mt_fok 7 q := List.forall_mem_cons.mpr ⟨⟨_, _, _, rfl, by decide, ⟨(lw_in1 (List.mem_of_getElem? (i := 80) rfl)), rfl⟩⟩, List.forall_mem_cons.mpr ⟨⟨_, _, _, rfl, by decide, ⟨(lw_in1 (List.mem_of_getElem? (i := 84) rfl)), rfl⟩⟩, List.forall_mem_cons.mpr ⟨⟨_, _, _, rfl, by decide, ⟨(lw_in1 (List.mem_of_getElem? (i := 88) rfl)), rfl⟩⟩, List.forall_mem_cons.mpr ⟨⟨_, _, _, rfl, by decide, ⟨(lw_in1 (List.mem_of_getElem? (i := 93) rfl)), rfl⟩⟩, List.forall_mem_cons.mpr ⟨⟨_, _, _, rfl, by decide, ⟨(lw_in1 (List.mem_of_getElem? (i := 97) rfl)), rfl⟩⟩, List.forall_mem_cons.mpr ⟨⟨_, _, _, rfl, by decide, ⟨(lw_in1 (List.mem_of_getElem? (i := 102) rfl)), rfl⟩⟩, List.forall_mem_cons.mpr ⟨⟨_, _, _, rfl, by decide, ⟨(lw_in1 (List.mem_of_getElem? (i := 106) rfl)), rfl⟩⟩, List.forall_mem_cons.mpr ⟨⟨_, _, _, rfl, by decide, ⟨(lw_in1 (List.mem_of_getElem? (i := 112) rfl)), rfl⟩⟩, List.forall_mem_cons.mpr ⟨⟨_, _, _, rfl, by decide, ⟨(lw_in1 (List.mem_of_getElem? (i := 117) rfl)), rfl⟩⟩, List.forall_mem_cons.mpr ⟨⟨_, _, _, rfl, by decide, ⟨(lw_in1 (List.mem_of_getElem? (i := 233) rfl)), rfl⟩⟩, List.forall_mem_cons.mpr ⟨⟨_, _, _, rfl, by decide, ⟨(lw_in1 (List.mem_of_getElem? (i := 235) rfl)), rfl⟩⟩, List.forall_mem_cons.mpr ⟨⟨_, _, _, rfl, by decide, ⟨(lw_in1 (List.mem_of_getElem? (i := 237) rfl)), rfl⟩⟩, List.forall_mem_cons.mpr ⟨⟨_, _, _, rfl, by decide, ⟨(lw_in1 (List.mem_of_getElem? (i := 239) rfl)), rfl⟩⟩, List.forall_mem_cons.mpr ⟨⟨_, _, _, rfl, by decide, ⟨(lw_in2 (List.mem_of_getElem? (i := 1) rfl)), rfl⟩⟩, List.forall_mem_cons.mpr ⟨⟨_, _, _, rfl, by decide, ⟨(lw_in2 (List.mem_of_getElem? (i := 3) rfl)), rfl⟩⟩, List.forall_mem_cons.mpr ⟨⟨_, _, _, rfl, by decide, ⟨(lw_in2 (List.mem_of_getElem? (i := 77) rfl)), rfl⟩⟩, List.forall_mem_cons.mpr ⟨⟨_, _, _, rfl, by decide, ⟨(lw_in2 (List.mem_of_getElem? (i := 80) rfl)), rfl⟩⟩, List.forall_mem_cons.mpr ⟨⟨_, _, _, rfl, by decide, ⟨(lw_in2 (List.mem_of_getElem? (i := 84) rfl)), rfl⟩⟩, List.forall_mem_cons.mpr ⟨⟨_, _, _, rfl, by decide, ⟨(lw_in2 (List.mem_of_getElem? (i := 119) rfl)), rfl⟩⟩, List.forall_mem_cons.mpr ⟨⟨_, _, _, rfl, by decide, ⟨(lw_in2 (List.mem_of_getElem? (i := 131) rfl)), rfl⟩⟩, List.forall_mem_cons.mpr ⟨⟨_, _, _, rfl, by decide, ⟨(lw_in2 (List.mem_of_getElem? (i := 132) rfl)), rfl⟩⟩, List.forall_mem_cons.mpr ⟨⟨_, _, _, rfl, by decide, ⟨(lw_in2 (List.mem_of_getElem? (i := 133) rfl)), rfl⟩⟩, List.forall_mem_cons.mpr ⟨⟨_, _, _, rfl, by decide, ⟨(lw_in2 (List.mem_of_getElem? (i := 134) rfl)), rfl⟩⟩, List.forall_mem_cons.mpr ⟨⟨_, _, _, rfl, by decide, ⟨(lw_in2 (List.mem_of_getElem? (i := 135) rfl)), rfl⟩⟩, List.forall_mem_cons.mpr ⟨⟨_, _, _, rfl, by decide, ⟨(lw_in2 (List.mem_of_getElem? (i := 136) rfl)), rfl⟩⟩, List.forall_mem_cons.mpr ⟨⟨_, _, _, rfl, by decide, ⟨(lw_in2 (List.mem_of_getElem? (i := 137) rfl)), rfl⟩⟩, List.forall_mem_cons.mpr ⟨⟨_, _, _, rfl, by decide, ⟨(lw_in2 (List.mem_of_getElem? (i := 138) rfl)), rfl⟩⟩, fun _ h => absurd h List.not_mem_nil⟩⟩⟩⟩⟩⟩⟩⟩⟩⟩⟩⟩⟩⟩⟩⟩⟩⟩⟩⟩⟩⟩⟩⟩⟩⟩⟩
set_option maxRecDepth 100000 in
theorem mt_flok8 : ∀ q ∈ mt_fl8, mt_fok 8 q := List.forall_mem_cons.mpr ⟨⟨_, _, _, rfl, by decide, ⟨(lw_in2 (List.mem_of_getElem? (i := 31) rfl)), rfl⟩⟩, List.forall_mem_cons.mpr ⟨⟨_, _, _, rfl, by decide, ⟨(lw_in2 (List.mem_of_getElem? (i := 33) rfl)), rfl⟩⟩, List.forall_mem_cons.mpr ⟨⟨_, _, _, rfl, by decide, ⟨(lw_in2 (List.mem_of_getElem? (i := 35) rfl)), rfl⟩⟩, List.forall_mem_cons.mpr ⟨⟨_, _, _, rfl, by decide, ⟨(lw_in2 (List.mem_of_getElem? (i := 37) rfl)), rfl⟩⟩, List.forall_mem_cons.mpr ⟨⟨_, _, _, rfl, by decide, ⟨(lw_in2 (List.mem_of_getElem? (i := 40) rfl)), rfl⟩⟩, List.forall_mem_cons.mpr ⟨⟨_, _, _, rfl, by decide, ⟨(lw_in2 (List.mem_of_getElem? (i := 43) rfl)), rfl⟩⟩, List.forall_mem_cons.mpr ⟨⟨_, _, _, rfl, by decide, ⟨(lw_in2 (List.mem_of_getElem? (i := 46) rfl)), rfl⟩⟩, List.forall_mem_cons.mpr ⟨⟨_, _, _, rfl, by decide, ⟨(lw_in2 (List.mem_of_getElem? (i := 49) rfl)), rfl⟩⟩, fun _ h => absurd h List.not_mem_nil⟩⟩⟩⟩⟩⟩⟩⟩
set_option maxRecDepth 100000 in
theorem mt_flok9 : ∀ q ∈ mt_fl9, mt_fok 9 q := List.forall_mem_cons.mpr ⟨⟨_, _, _, rfl, by decide, ⟨(lw_in2 (List.mem_of_getElem? (i := 75) rfl)), rfl⟩⟩, List.forall_mem_cons.mpr ⟨⟨_, _, _, rfl, by decide, ⟨(lw_in2 (List.mem_of_getElem? (i := 79) rfl)), rfl⟩⟩, List.forall_mem_cons.mpr ⟨⟨_, _, _, rfl, by decide, ⟨(lw_in2 (List.mem_of_getElem? (i := 83) rfl)), rfl⟩⟩, List.forall_mem_cons.mpr ⟨⟨_, _, _, rfl, by decide, ⟨(lw_in2 (List.mem_of_getElem? (i := 86) rfl)), rfl⟩⟩, List.forall_mem_cons.mpr ⟨⟨_, _, _, rfl, by decide, ⟨(lw_in2 (List.mem_of_getElem? (i := 88) rfl)), rfl⟩⟩, List.forall_mem_cons.mpr ⟨⟨_, _, _, rfl, by decide, ⟨(lw_in2 (List.mem_of_getElem? (i := 90) rfl)), rfl⟩⟩, List.forall_mem_cons.mpr ⟨⟨_, _, _, rfl, by decide, ⟨(lw_in2 (List.mem_of_getElem? (i := 91) rfl)), rfl⟩⟩, fun _ h => absurd h List.not_mem_nil⟩⟩⟩⟩⟩⟩⟩
set_option maxRecDepth 100000 in
theorem mt_flok10 : ∀ q ∈ mt_fl10, mt_fok 10 q := List.forall_mem_cons.mpr ⟨⟨_, _, _, rfl, by decide, ⟨(lw_in1 (List.mem_of_getElem? (i := 78) rfl)), rfl⟩⟩, List.forall_mem_cons.mpr ⟨⟨_, _, _, rfl, by decide, ⟨(lw_in1 (List.mem_of_getElem? (i := 82) rfl)), rfl⟩⟩, List.forall_mem_cons.mpr ⟨⟨_, _, _, rfl, by decide, ⟨(lw_in1 (List.mem_of_getElem? (i := 87) rfl)), rfl⟩⟩, List.forall_mem_cons.mpr ⟨⟨_, _, _, rfl, by decide, ⟨(lw_in1 (List.mem_of_getElem? (i := 91) rfl)), rfl⟩⟩, List.forall_mem_cons.mpr ⟨⟨_, _, _, rfl, by decide, ⟨(lw_in1 (List.mem_of_getElem? (i := 96) rfl)), rfl⟩⟩, List.forall_mem_cons.mpr ⟨⟨_, _, _, rfl, by decide, ⟨(lw_in1 (List.mem_of_getElem? (i := 101) rfl)), rfl⟩⟩, List.forall_mem_cons.mpr ⟨⟨_, _, _, rfl, by decide, ⟨(lw_in1 (List.mem_of_getElem? (i := 116) rfl)), rfl⟩⟩, List.forall_mem_cons.mpr ⟨⟨_, _, _, rfl, by decide, ⟨(lw_in2 (List.mem_of_getElem? (i := 113) rfl)), rfl⟩⟩, List.forall_mem_cons.mpr ⟨⟨_, _, _, rfl, by decide, ⟨(lw_in2 (List.mem_of_getElem? (i := 114) rfl)), rfl⟩⟩, List.forall_mem_cons.mpr ⟨⟨_, _, _, rfl, by decide, ⟨(lw_in2 (List.mem_of_getElem? (i := 115) rfl)), rfl⟩⟩, List.forall_mem_cons.mpr ⟨⟨_, _, _, rfl, by decide, ⟨(lw_in2 (List.mem_of_getElem? (i := 116) rfl)), rfl⟩⟩, List.forall_mem_cons.mpr ⟨⟨_, _, _, rfl, by decide, ⟨(lw_in2 (List.mem_of_getElem? (i := 117) rfl)), rfl⟩⟩, fun _ h => absurd h List.not_mem_nil⟩⟩⟩⟩⟩⟩⟩⟩⟩⟩⟩⟩
set_option maxRecDepth 100000 in
theorem mt_flok11 : ∀ q ∈ mt_fl11, mt_fok 11 q := List.forall_mem_cons.mpr ⟨⟨_, _, _, rfl, by decide, ⟨(lw_in1 (List.mem_of_getElem? (i := 79) rfl)), rfl⟩⟩, List.forall_mem_cons.mpr ⟨⟨_, _, _, rfl, by decide, ⟨(lw_in1 (List.mem_of_getElem? (i := 83) rfl)), rfl⟩⟩, List.forall_mem_cons.mpr ⟨⟨_, _, _, rfl, by decide, ⟨(lw_in1 (List.mem_of_getElem? (i := 92) rfl)), rfl⟩⟩, List.forall_mem_cons.mpr ⟨⟨_, _, _, rfl, by decide, ⟨(lw_in1 (List.mem_of_getElem? (i := 98) rfl)), rfl⟩⟩, List.forall_mem_cons.mpr ⟨⟨_, _, _, rfl, by decide, ⟨(lw_in1 (List.mem_of_getElem? (i := 103) rfl)), rfl⟩⟩, List.forall_mem_cons.mpr ⟨⟨_, _, _, rfl, by decide, ⟨(lw_in1 (List.mem_of_getElem? (i := 107) rfl)), rfl⟩⟩, List.forall_mem_cons.mpr ⟨⟨_, _, _, rfl, by decide, ⟨(lw_in1 (List.mem_of_getElem? (i := 115) rfl)), rfl⟩⟩, List.forall_mem_cons.mpr ⟨⟨_, _, _, rfl, by decide, ⟨(lw_in2 (List.mem_of_getElem? (i := 5) rfl)), rfl⟩⟩, List.forall_mem_cons.mpr ⟨⟨_, _, _, rfl, by decide, ⟨(lw_in2 (List.mem_of_getElem? (i := 47) rfl)), rfl⟩⟩, List.forall_mem_cons.mpr ⟨⟨_, _, _, rfl, by decide, ⟨(lw_in2 (List.mem_of_getElem? (i := 76) rfl)), rfl⟩⟩, List.forall_mem_cons.mpr ⟨⟨_, _, _, rfl, by decide, ⟨(lw_in2 (List.mem_of_getElem? (i := 81) rfl)), rfl⟩⟩, List.forall_mem_cons.mpr ⟨⟨_, _, _, rfl, by decide, ⟨(lw_in2 (List.mem_of_getElem? (i := 118) rfl)), rfl⟩⟩, List.forall_mem_cons.mpr ⟨⟨_, _, _, rfl, by decide, ⟨(lw_in2 (List.mem_of_getElem? (i := 139) rfl)), rfl⟩⟩, List.forall_mem_cons.mpr ⟨⟨_, _, _, rfl, by decide, ⟨(lw_in2 (List.mem_of_getElem? (i := 173) rfl)), rfl⟩⟩, List.forall_mem_cons.mpr ⟨⟨_, _, _, rfl, by decide, ⟨(lw_in2 (List.mem_of_getElem? (i := 174) rfl)), rfl⟩⟩, List.forall_mem_cons.mpr ⟨⟨_, _, _, rfl, by decide, ⟨(lw_in2 (List.mem_of_getElem? (i := 175) rfl)), rfl⟩⟩, List.forall_mem_cons.mpr ⟨⟨_, _, _, rfl, by decide, ⟨(lw_in2 (List.mem_of_getElem? (i := 176) rfl)), rfl⟩⟩, List.forall_mem_cons.mpr ⟨⟨_, _, _, rfl, by decide, ⟨(lw_in2 (List.mem_of_getElem? (i := 177) rfl)), rfl⟩⟩, List.forall_mem_cons.mpr ⟨⟨_, _, _, rfl, by decide, ⟨(lw_in2 (List.mem_of_getElem? (i := 178) rfl)), rfl⟩⟩, List.forall_mem_cons.mpr ⟨⟨_, _, _, rfl, by decide, ⟨(lw_in2 (List.mem_of_getElem? (i := 179) rfl)), rfl⟩⟩, List.forall_mem_cons.mpr ⟨⟨_, _, _, rfl, by decide, ⟨(lw_in2 (List.mem_of_getElem? (i := 180) rfl)), rfl⟩⟩, List.forall_mem_cons.mpr ⟨⟨_, _, _, rfl, by decide, ⟨(lw_in2 (List.mem_of_getElem? (i := 182) rfl)), rfl⟩⟩, List.forall_mem_cons.mpr ⟨⟨_, _, _, rfl, by decide, ⟨(lw_in2 (List.mem_of_getElem? (i := 184) rfl)), rfl⟩⟩, List.forall_mem_cons.mpr ⟨⟨_, _, _, rfl, by decide, ⟨(lw_in2 (List.mem_of_getElem? (i := 186) rfl)), rfl⟩⟩, List.forall_mem_cons.mpr ⟨⟨_, _, _, rfl, by decide, ⟨(lw_in2 (List.mem_of_getElem? (i := 188) rfl)), rfl⟩⟩, fun _ h => absurd h List.not_mem_nil⟩⟩⟩⟩⟩⟩⟩⟩⟩⟩⟩⟩⟩⟩⟩⟩⟩⟩⟩⟩⟩⟩⟩⟩⟩
set_option maxRecDepth 100000 in
theorem mt_flok12 : ∀ q ∈ mt_fl12, mt_fok 12 q := List.forall_mem_cons.mpr ⟨⟨_, _, _, rfl, by decide, ⟨(lw_in5 (List.mem_of_getElem? (i := 205) rfl)), rfl⟩⟩, List.forall_mem_cons.mpr ⟨⟨_, _, _, rfl, by decide, ⟨(lw_in5 (List.mem_of_getElem? (i := 207) rfl)), rfl⟩⟩, List.forall_mem_cons.mpr ⟨⟨_, _, _, rfl, by decide, ⟨(lw_in5 (List.mem_of_getElem? (i := 209) rfl)), rfl⟩⟩, List.forall_mem_cons.mpr ⟨⟨_, _, _, rfl, by decide, ⟨(lw_in5 (List.mem_of_getElem? (i := 211) rfl)), rfl⟩⟩, List.forall_mem_cons.mpr ⟨⟨_, _, _, rfl, by decide, ⟨(lw_in5 (List.mem_of_getElem? (i := 213) rfl)), rfl⟩⟩, List.forall_mem_cons.mpr ⟨⟨_, _, _, rfl, by decide, ⟨(lw_in5 (List.mem_of_getElem? (i := 215) rfl)), rfl⟩⟩, List.forall_mem_cons.mpr ⟨⟨_, _, _, rfl, by decide, ⟨(lw_in5 (List.mem_of_getElem? (i := 217) rfl)), rfl⟩⟩, List.forall_mem_cons.mpr ⟨⟨_, _, _, rfl, by decide, ⟨(lw_in5 (List.mem_of_getElem? (i := 234) rfl)), rfl⟩⟩, List.forall_mem_cons.mpr ⟨⟨_, _, _, rfl, by decide, ⟨(lw_in5 (List.mem_of_getElem? (i := 235) rfl)), rfl⟩⟩, List.forall_mem_cons.mpr ⟨⟨_, _, _, rfl, by decide, ⟨(lw_in5 (List.mem_of_getElem? (i := 236) rfl)), rfl⟩⟩, List.forall_mem_cons.mpr ⟨⟨_, _, _, rfl, by decide, ⟨(lw_in5 (List.mem_of_getElem? (i := 237) rfl)), rfl⟩⟩, List.forall_mem_cons.mpr ⟨⟨_, _, _, rfl, by decide, ⟨(lw_in5 (List.mem_of_getElem? (i := 238) rfl)), rfl⟩⟩, List.forall_mem_cons.mpr ⟨⟨_, _, _, rfl, by decide, ⟨(lw_in5 (List.mem_of_getElem? (i := 239) rfl)), rfl⟩⟩, List.forall_mem_cons.mpr ⟨⟨_, _, _, rfl, by decide, ⟨(lw_in6 (List.mem_of_getElem? (i := 0) rfl)), rfl⟩⟩, List.forall_mem_cons.mpr ⟨⟨_, _, _, rfl, by decide, ⟨(lw_in6 (List.mem_of_getElem? (i := 1) rfl)), rfl⟩⟩, List.forall_mem_cons.mpr ⟨⟨_, _, _, rfl, by decide, ⟨(lw_in6 (List.mem_of_getElem? (i := 2) rfl)), rfl⟩⟩, List.forall_mem_cons.mpr ⟨⟨_, _, _, rfl, by decide, ⟨(lw_in6 (List.mem_of_getElem? (i := 3) rfl)), rfl⟩⟩, List.forall_mem_cons.mpr ⟨⟨_, _, _, rfl, by decide, ⟨(lw_in6 (List.mem_of_getElem? (i := 4) rfl)), rfl⟩⟩, List.forall_mem_cons.mpr ⟨⟨_, _, _, rfl, by decide, ⟨(lw_in6 (List.mem_of_getElem? (i := 5) rfl)), rfl⟩⟩, List.forall_mem_cons.mpr ⟨⟨_, _, _, rfl, by decide, ⟨(lw_in6 (List.mem_of_getElem? (i := 6) rfl)), rfl⟩⟩, List.forall_mem_cons.mpr ⟨⟨_, _, _, rfl, by decide, ⟨(lw_in6 (List.mem_of_getElem? (i := 7) rfl)), rfl⟩⟩, List.forall_mem_cons.mpr ⟨⟨_, _, _, rfl, by decide, ⟨(lw_in6 (List.mem_of_getElem? (i := 8) rfl)), rfl⟩⟩, List.forall_mem_cons.mpr ⟨⟨_, _, _, rfl, by decide, ⟨(lw_in6 (List.mem_of_getElem? (i := 9) rfl)), rfl⟩⟩, List.forall_mem_cons.mpr ⟨⟨_, _, _, rfl, by decide, ⟨(lw_in6 (List.mem_of_getElem? (i := 10) rfl)), rfl⟩⟩, List.forall_mem_cons.mpr ⟨⟨_, _, _, rfl, by decide, ⟨(lw_in6 (List.mem_of_getElem? (i := 11) rfl)), rfl⟩⟩, List.forall_mem_cons.mpr ⟨⟨_, _, _, rfl, by decide, ⟨(lw_in6 (List.mem_of_getElem? (i := 12) rfl)), rfl⟩⟩, List.forall_mem_cons.mpr ⟨⟨_, _, _, rfl, by decide, ⟨(lw_in6 (List.mem_of_getElem? (i := 13) rfl)), rfl⟩⟩, List.forall_mem_cons.mpr ⟨⟨_, _, _, rfl, by decide, ⟨(lw_in6 (List.mem_of_getElem? (i := 14) rfl)), rfl⟩⟩, List.forall_mem_cons.mpr ⟨⟨_, _, _, rfl, by decide, ⟨(lw_in6 (List.mem_of_getElem? (i := 15) rfl)), rfl⟩⟩, List.forall_mem_cons.mpr ⟨⟨_, _, _, rfl, by decide, ⟨(lw_in6 (List.mem_of_getElem? (i := 16) rfl)), rfl⟩⟩, List.forall_mem_cons.mpr ⟨⟨_, _, _, rfl, by decide, ⟨(lw_in6 (List.mem_of_getElem? (i := 17) rfl)), rfl⟩⟩, List.forall_mem_cons.mpr ⟨⟨_, _, _, rfl, by decide, ⟨(lw_in6 (List.mem_of_getElem? (i := 18) rfl)), rfl⟩⟩, List.forall_mem_cons.mpr ⟨⟨_, _, _, rfl, by decide, ⟨(lw_in6 (List.mem_of_getElem? (i := 19) rfl)), rfl⟩⟩, List.forall_mem_cons.mpr ⟨⟨_, _, _, rfl, by decide, ⟨(lw_in6 (List.mem_of_getElem? (i := 20) rfl)), rfl⟩⟩, List.forall_mem_cons.mpr ⟨⟨_, _, _, rfl, by decide, ⟨(lw_in6 (List.mem_of_getElem? (i := 21) rfl)), rfl⟩⟩, List.forall_mem_cons.mpr ⟨⟨_, _, _, rfl, by decide, ⟨(lw_in6 (List.mem_of_getElem? (i := 22) rfl)), rfl⟩⟩, List.forall_mem_cons.mpr ⟨⟨_, _, _, rfl, by decide, ⟨(lw_in6 (List.mem_of_getElem? (i := 23) rfl)), rfl⟩⟩, List.forall_mem_cons.mpr ⟨⟨_, _, _, rfl, by decide, ⟨(lw_in6 (List.mem_of_getElem? (i := 24) rfl)), rfl⟩⟩, List.forall_mem_cons.mpr ⟨⟨_, _, _, rfl, by decide, ⟨(lw_in6 (List.mem_of_getElem? (i := 25) rfl)), rfl⟩⟩, List.forall_mem_cons.mpr ⟨⟨_, _, _, rfl, by decide, ⟨(lw_in6 (List.mem_of_getElem? (i := 26) rfl)), rfl⟩⟩, List.forall_mem_cons.mpr ⟨⟨_, _, _, rfl, by decide, ⟨(lw_in6 (List.mem_of_getElem? (i := 27) rfl)), rfl⟩⟩, List.forall_mem_cons.mpr ⟨⟨_, _, _, rfl, by decide, ⟨(lw_in6 (List.mem_of_getElem? (i := 28) rfl)), rfl⟩⟩, List.forall_mem_cons.mpr ⟨⟨_, _, _, rfl, by decide, ⟨(lw_in6 (List.mem_of_getElem? (i := 29) rfl)), rfl⟩⟩, List.forall_mem_cons.mpr ⟨⟨_, _, _, rfl, by decide, ⟨(lw_in6 (List.mem_of_getElem? (i := 30) rfl)), rfl⟩⟩, List.forall_mem_cons.mpr ⟨⟨_, _, _, rfl, by decide, ⟨(lw_in6 (List.mem_of_getElem? (i := 31) rfl)), rfl⟩⟩, List.forall_mem_cons.mpr ⟨⟨_, _, _, rfl, by decide, ⟨(lw_in6 (List.mem_of_getElem? (i := 32) rfl)), rfl⟩⟩, List.forall_mem_cons.mpr ⟨⟨_, _, _, rfl, by decide, ⟨(lw_in6 (List.mem_of_getElem? (i := 33) rfl)), rfl⟩⟩, List.forall_mem_cons.mpr ⟨⟨_, _, _, rfl, by decide, ⟨(lw_in6 (List.mem_of_getElem? (i := 34) rfl)), rfl⟩⟩, List.forall_mem_cons.mpr ⟨⟨_, _, _, rfl, by decide, ⟨(lw_in6 (List.mem_of_getElem? (i := 35) rfl)), rfl⟩⟩, List.forall_mem_cons.mpr ⟨⟨_, _, _, rfl, by decide, ⟨(lw_in6 (List.mem_of_getElem? (i := 36) rfl)), rfl⟩⟩, List.forall_mem_cons.mpr ⟨⟨_, _, _, rfl, by decide, ⟨(lw_in6 (List.mem_of_getElem? (i := 37) rfl)), rfl⟩⟩, List.forall_mem_cons.mpr ⟨⟨_, _, _, rfl, by decide, ⟨(lw_in6 (List.mem_of_getElem? (i := 38) rfl)), rfl⟩⟩, List.forall_mem_cons.mpr ⟨⟨_, _, _, rfl, by decide, ⟨(lw_in6 (List.mem_of_getElem? (i := 39) rfl)), rfl⟩⟩, List.forall_mem_cons.mpr ⟨⟨_, _, _, rfl, by decide, ⟨(lw_in6 (List.mem_of_getElem? (i := 40) rfl)), rfl⟩⟩, List.forall_mem_cons.mpr ⟨⟨_, _, _, rfl, by decide, ⟨(lw_in6 (List.mem_of_getElem? (i := 41) rfl)), rfl⟩⟩, List.forall_mem_cons.mpr ⟨⟨_, _, _, rfl, by decide, ⟨(lw_in6 (List.mem_of_getElem? (i := 42) rfl)), rfl⟩⟩, List.forall_mem_cons.mpr ⟨⟨_, _, _, rfl, by decide, ⟨(lw_in6 (List.mem_of_getElem? (i := 43) rfl)), rfl⟩⟩, List.forall_mem_cons.mpr ⟨⟨_, _, _, rfl, by decide, ⟨(lw_in6 (List.mem_of_getElem? (i := 44) rfl)), rfl⟩⟩, List.forall_mem_cons.mpr ⟨⟨_, _, _, rfl, by decide, ⟨(lw_in6 (List.mem_of_getElem? (i := 45) rfl)), rfl⟩⟩, List.forall_mem_cons.mpr ⟨⟨_, _, _, rfl, by decide, ⟨(lw_in6 (List.mem_of_getElem? (i := 46) rfl)), rfl⟩⟩, List.forall_mem_cons.mpr ⟨⟨_, _, _, rfl, by decide, ⟨(lw_in6 (List.mem_of_getElem? (i := 47) rfl)), rfl⟩⟩, List.forall_mem_cons.mpr ⟨⟨_, _, _, rfl, by decide, ⟨(lw_in6 (List.mem_of_getElem? (i := 48) rfl)), rfl⟩⟩, List.forall_mem_cons.mpr ⟨⟨_, _, _, rfl, by decide, ⟨(lw_in6 (List.mem_of_getElem? (i := 49) rfl)), rfl⟩⟩, List.forall_mem_cons.mpr ⟨⟨_, _, _, rfl, by decide, ⟨(lw_in6 (List.mem_of_getElem? (i := 50) rfl)), rfl⟩⟩, List.forall_mem_cons.mpr ⟨⟨_, _, _, rfl, by decide, ⟨(lw_in6 (List.mem_of_getElem? (i := 51) rfl)), rfl⟩⟩, List.forall_mem_cons.mpr ⟨⟨_, _, _, rfl, by decide, ⟨(lw_in6 (List.mem_of_getElem? (i := 52) rfl)), rfl⟩⟩, List.forall_mem_cons.mpr ⟨⟨_, _, _, rfl, by decide, ⟨(lw_in6 (List.mem_of_getElem? (i := 53) rfl)), rfl⟩⟩, List.forall_mem_cons.mpr ⟨⟨_, _, _, rfl, by decide, ⟨(lw_in6 (List.mem_of_getElem? (i := 54) rfl)), rfl⟩⟩, List.forall_mem_cons.mpr ⟨⟨_, _, _, rfl, by decide, ⟨(lw_in6 (List.mem_of_getElem? (i := 55) rfl)), rfl⟩⟩, List.forall_mem_cons.mpr ⟨⟨_, _, _, rfl, by decide, ⟨(lw_in6 (List.mem_of_getElem? (i := 56) rfl)), rfl⟩⟩, List.forall_mem_cons.mpr ⟨⟨_, _, _, rfl, by decide, ⟨(lw_in6 (List.mem_of_getElem? (i := 57) rfl)), rfl⟩⟩, List.forall_mem_cons.mpr ⟨⟨_, _, _, rfl, by decide, ⟨(lw_in6 (List.mem_of_getElem? (i := 58) rfl)), rfl⟩⟩, List.forall_mem_cons.mpr ⟨⟨_, _, _, rfl, by decide, ⟨(lw_in6 (List.mem_of_getElem? (i := 59) rfl)), rfl⟩⟩, List.forall_mem_cons.mpr ⟨⟨_, _, _, rfl, by decide, ⟨(lw_in6 (List.mem_of_getElem? (i := 60) rfl)), rfl⟩⟩, List.forall_mem_cons.mpr ⟨⟨_, _, _, rfl, by decide, ⟨(lw_in6 (List.mem_of_getElem? (i := 61) rfl)), rfl⟩⟩, List.forall_mem_cons.mpr ⟨⟨_, _, _, rfl, by decide, ⟨(lw_in6 (List.mem_of_getElem? (i := 62) rfl)), rfl⟩⟩, List.forall_mem_cons.mpr ⟨⟨_, _, _, rfl, by decide, ⟨(lw_in6 (List.mem_of_getElem? (i := 63) rfl)), rfl⟩⟩, List.forall_mem_cons.mpr ⟨⟨_, _, _, rfl, by decide, ⟨(lw_in6 (List.mem_of_getElem? (i := 64) rfl)), rfl⟩⟩, List.forall_mem_cons.mpr ⟨⟨_, _, _, rfl, by decide, ⟨(lw_in6 (List.mem_of_getElem? (i := 65) rfl)), rfl⟩⟩, List.forall_mem_cons.mpr ⟨⟨_, _, _, rfl, by decide, ⟨(lw_in6 (List.mem_of_getElem? (i := 66) rfl)), rfl⟩⟩, List.forall_mem_cons.mpr ⟨⟨_, _, _, rfl, by decide, ⟨(lw_in6 (List.mem_of_getElem? (i := 67) rfl)), rfl⟩⟩, List.forall_mem_cons.mpr ⟨⟨_, _, _, rfl, by decide, ⟨(lw_in6 (List.mem_of_getElem? (i := 68) rfl)), rfl⟩⟩, List.forall_mem_cons.mpr ⟨⟨_, _, _, rfl, by decide, ⟨(lw_in6 (List.mem_of_getElem? (i := 69) rfl)), rfl⟩⟩, List.forall_mem_cons.mpr ⟨⟨_, _, _, rfl, by decide, ⟨(lw_in6 (List.mem_of_getElem? (i := 70) rfl)), rfl⟩⟩, List.forall_mem_cons.mpr ⟨⟨_, _, _, rfl, by decide, ⟨(lw_in6 (List.mem_of_getElem? (i := 71) rfl)), rfl⟩⟩, List.forall_mem_cons.mpr ⟨⟨_, _, _, rfl, by decide, ⟨(lw_in6 (List.mem_of_getElem? (i := 72) rfl)), rfl⟩⟩, List.forall_mem_cons.mpr ⟨⟨_, _, _, rfl, by decide, ⟨(lw_in6 (List.mem_of_getElem? (i := 73) rfl)), rfl⟩⟩, List.forall_mem_cons.mpr ⟨⟨_, _, _, rfl, by decide, ⟨(lw_in6 (List.mem_of_getElem? (i := 74) rfl)), rfl⟩⟩, List.forall_mem_cons.mpr ⟨⟨_, _, _, rfl, by decide, ⟨(lw_in6 (List.mem_of_getElem? (i := 75) rfl)), rfl⟩⟩, List.forall_mem_cons.mpr ⟨⟨_, _, _, rfl, by decide, ⟨(lw_in6 (List.mem_of_getElem? (i := 76) rfl)), rfl⟩⟩, List.forall_mem_cons.mpr ⟨⟨_, _, _, rfl, by decide, ⟨(lw_in6 (List.mem_of_getElem? (i := 77) rfl)), rfl⟩⟩, List.forall_mem_cons.mpr ⟨⟨_, _, _, rfl, by decide, ⟨(lw_in6 (List.mem_of_getElem? (i := 78) rfl)), rfl⟩⟩, List.forall_mem_cons.mpr ⟨⟨_, _, _, rfl, by decide, ⟨(lw_in6 (List.mem_of_getElem? (i := 79) rfl)), rfl⟩⟩, List.forall_mem_cons.mpr ⟨⟨_, _, _, rfl, by decide, ⟨(lw_in6 (List.mem_of_getElem? (i := 80) rfl)), rfl⟩⟩, List.forall_mem_cons.mpr ⟨⟨_, _, _, rfl, by decide, ⟨(lw_in6 (List.mem_of_getElem? (i := 81) rfl)), rfl⟩⟩, fun _ h => absurd h List.not_mem_nil⟩⟩⟩⟩⟩⟩⟩⟩⟩⟩⟩⟩⟩⟩⟩⟩⟩⟩⟩⟩⟩⟩⟩⟩⟩⟩⟩⟩⟩⟩⟩⟩⟩⟩⟩⟩⟩⟩⟩⟩⟩⟩⟩⟩⟩⟩⟩⟩⟩⟩⟩⟩⟩⟩⟩⟩⟩⟩⟩⟩⟩⟩⟩⟩⟩⟩⟩⟩⟩⟩⟩⟩⟩⟩⟩⟩⟩⟩⟩⟩⟩⟩⟩⟩⟩⟩⟩⟩⟩⟩⟩⟩⟩⟩⟩
set_option maxRecDepth 100000 in
theorem mt_flok13 : ∀ q ∈ mt_fl13, mt_fok 13 q := List.forall_mem_cons.mpr ⟨⟨_, _, _, rfl, by decide, ⟨(lw_in5 (List.mem_of_getElem? (i := 204) rfl)), rfl⟩⟩, List.forall_mem_cons.mpr ⟨⟨_, _, _, rfl, by decide, ⟨(lw_in5 (List.mem_of_getElem? (i := 206) rfl)), rfl⟩⟩, List.forall_mem_cons.mpr ⟨⟨_, _, _, rfl, by decide, ⟨(lw_in5 (List.mem_of_getElem? (i := 208) rfl)), rfl⟩⟩, List.forall_mem_cons.mpr ⟨⟨_, _, _, rfl, by decide, ⟨(lw_in5 (List.mem_of_getElem? (i := 210) rfl)), rfl⟩⟩, List.forall_mem_cons.mpr ⟨⟨_, _, _, rfl, by decide, ⟨(lw_in5 (List.mem_of_getElem? (i := 212) rfl)), rfl⟩⟩, List.forall_mem_cons.mpr ⟨⟨_, _, _, rfl, by decide, ⟨(lw_in5 (List.mem_of_getElem? (i := 214) rfl)), rfl⟩⟩, List.forall_mem_cons.mpr ⟨⟨_, _, _, rfl, by decide, ⟨(lw_in5 (List.mem_of_getElem? (i := 216) rfl)), rfl⟩⟩, fun _ h => absurd h List.not_mem_nil⟩⟩⟩⟩⟩⟩⟩
set_option maxRecDepth 100000 in
theorem mt_flok14 : ∀ q ∈ mt_fl14, mt_fok 14 q := fun _ h => absurd h List.not_mem_nil
set_option maxRecDepth 100000 in
theorem mt_flok15 : ∀ q ∈ mt_fl15, mt_fok 15 q := fun _ h => absurd h List.not_mem_nil
set_option maxRecDepth 100000 in
theorem mt_flok16 : ∀ q ∈ mt_fl16, mt_fok 16 q := fun _ h => absurd h List.not_mem_nil
set_option maxRecDepth 100000 in
theorem mt_flok17 : ∀ q ∈ mt_fl17, mt_fok 17 q := fun _ h => absurd h List.not_mem_nil
set_option maxRecDepth 100000 in
theorem mt_flok18 : ∀ q ∈ mt_fl18, mt_fok 18 q := fun _ h => absurd h List.not_mem_nil
set_option maxRecDepth 100000 in
theorem mt_flok19 : ∀ q ∈ mt_fl19, mt_fok 19 q := fun _ h => absurd h List.not_mem_nil
set_option maxRecDepth 100000 in
theorem mt_flok20 : ∀ q ∈ mt_fl20, mt_fok 20 q := fun _ h => absurd h List.not_mem_nil
set_option maxRecDepth 100000 in
theorem mt_flok21 : ∀ q ∈ mt_fl21, mt_fok 21 q := fun _ h => absurd h List.not_mem_nil
set_option maxRecDepth 100000 in
theorem mt_flok22 : ∀ q ∈ mt_fl22, mt_fok 22 q := fun _ h => absurd h List.not_mem_nil
theorem mt_fls_ok : ∀ (oc : Nat), ∀ q ∈ mt_fls.getD oc [], mt_fok oc q
  | 0 => mt_flok0
  | 1 => mt_flok1
  | 2 => mt_flok2
  | 3 => mt_flok3
  | 4 => mt_flok4
  | 5 => mt_flok5
  | 6 => mt_flok6
  | 7 => mt_flok7
  | 8 => mt_flok8
  | 9 => mt_flok9
  | 10 => mt_flok10
  | 11 => mt_flok11
  | 12 => mt_flok12
  | 13 => mt_flok13
  | 14 => mt_flok14
  | 15 => mt_flok15
  | 16 => mt_flok16
  | 17 => mt_flok17
  | 18 => mt_flok18
  | 19 => mt_flok19
  | 20 => mt_flok20
  | 21 => mt_flok21
  | 22 => mt_flok22
  | n + 23 => fun _ h => absurd h List.not_mem_nil
theorem mt_f_ok {oc idx ci k : Nat} (h : mt_f oc idx = some (ci, k)) : ∃ C T N, mt_cl[ci]? = some (C, T, N) ∧ k < N ∧ (∀ w ∈ u_ws C T N, w ∈ lw_tbl) ∧ mt_B (Cond.fieldLink (mt_cn oc) idx (T k).1 (T k).2.1 (T k).2.2.1) := by
  unfold mt_f at h
  obtain ⟨q, hq, hq2⟩ := Option.map_eq_some_iff.mp h
  obtain ⟨C, T, N, h1, h2, h3⟩ := mt_fls_ok oc q (List.mem_of_find?_eq_some hq)
  have hi : q.1 = idx := by have := List.find?_some hq; simpa using this
  obtain ⟨a, b, c⟩ := q
  cases hq2
  cases hi
  exact ⟨C, T, N, h1, h2, fun w hw => (mt_cws h1 w hw).1, h3⟩
def mt_c0 : List (Nat × Nat) := [(9, 1), (16, 2), (23, 3), (32, 5), (39, 6), (46, 7), (55, 11), (64, 9), (78, 14), (123, 15), (253, 16)]
def mt_c1 : List (Nat × Nat) := []
def mt_c2 : List (Nat × Nat) := []
def mt_c3 : List (Nat × Nat) := [(23, 4), (77, 15)]
def mt_c4 : List (Nat × Nat) := []
def mt_c5 : List (Nat × Nat) := []
def mt_c6 : List (Nat × Nat) := []
def mt_c7 : List (Nat × Nat) := [(9, 8), (26, 9), (33, 10)]
def mt_c8 : List (Nat × Nat) := []
def mt_c9 : List (Nat × Nat) := []
def mt_c10 : List (Nat × Nat) := []
def mt_c11 : List (Nat × Nat) := [(9, 6), (18, 9), (45, 7), (55, 10)]
def mt_c12 : List (Nat × Nat) := [(23, 17), (144, 13)]
def mt_c13 : List (Nat × Nat) := []
def mt_c14 : List (Nat × Nat) := []
def mt_c15 : List (Nat × Nat) := []
def mt_c16 : List (Nat × Nat) := []
def mt_c17 : List (Nat × Nat) := []
def mt_c18 : List (Nat × Nat) := [(8, 0), (13, 14), (19, 15), (41, 16), (66, 12)]
def mt_c19 : List (Nat × Nat) := []
def mt_c20 : List (Nat × Nat) := []
def mt_c21 : List (Nat × Nat) := []
def mt_c22 : List (Nat × Nat) := []
def mt_cs : List (List (Nat × Nat)) := [mt_c0, mt_c1, mt_c2, mt_c3, mt_c4, mt_c5, mt_c6, mt_c7, mt_c8, mt_c9, mt_c10, mt_c11, mt_c12, mt_c13, mt_c14, mt_c15, mt_c16, mt_c17, mt_c18, mt_c19, mt_c20, mt_c21, mt_c22]
def mt_c (oc idx : Nat) : Option Nat := ((mt_cs.getD oc []).find? (fun q => q.1 == idx)).map (fun q => q.2)
def mt_cok (oc : Nat) (q : Nat × Nat) : Prop := mt_B (Cond.classLink (mt_cn oc) q.1 (mt_cn q.2))
set_option maxRecDepth 100000 in
theorem mt_cok0 : ∀ q ∈ mt_c0, mt_cok 0 q := List.forall_mem_cons.mpr ⟨⟨(lw_in1 (List.mem_of_getElem? (i := 36) rfl)), rfl⟩, List.forall_mem_cons.mpr ⟨⟨(lw_in1 (List.mem_of_getElem? (i := 71) rfl)), rfl⟩, List.forall_mem_cons.mpr ⟨⟨(lw_in1 (List.mem_of_getElem? (i := 155) rfl)), rfl⟩, List.forall_mem_cons.mpr ⟨⟨(lw_in1 (List.mem_of_getElem? (i := 212) rfl)), rfl⟩, List.forall_mem_cons.mpr ⟨⟨(lw_in1 (List.mem_of_getElem? (i := 226) rfl)), rfl⟩, List.forall_mem_cons.mpr ⟨⟨(lw_in2 (List.mem_of_getElem? (i := 19) rfl)), rfl⟩, List.forall_mem_cons.mpr ⟨⟨(lw_in2 (List.mem_of_getElem? (i := 158) rfl)), rfl⟩, List.forall_mem_cons.mpr ⟨⟨(lw_in2 (List.mem_of_getElem? (i := 215) rfl)), rfl⟩, List.forall_mem_cons.mpr ⟨⟨(lw_in3 (List.mem_of_getElem? (i := 20) rfl)), rfl⟩, List.forall_mem_cons.mpr ⟨⟨(lw_in4 (List.mem_of_getElem? (i := 72) rfl)), rfl⟩, List.forall_mem_cons.mpr ⟨⟨(lw_in4 (List.mem_of_getElem? (i := 119) rfl)), rfl⟩, fun _ h => absurd h List.not_mem_nil⟩⟩⟩⟩⟩⟩⟩⟩⟩⟩⟩
set_option maxRecDepth 100000 in
theorem mt_cok1 : ∀ q ∈ mt_c1, mt_cok 1 q := fun _ h => absurd h List.not_mem_nil
set_option maxRecDepth 100000 in
theorem mt_cok2 : ∀ q ∈ mt_c2, mt_cok 2 q := fun _ h => absurd h List.not_mem_nil
set_option maxRecDepth 100000 in
theorem mt_cok3 : ∀ q ∈ mt_c3, mt_cok 3 q := List.forall_mem_cons.mpr ⟨⟨(lw_in1 (List.mem_of_getElem? (i := 161) rfl)), rfl⟩, List.forall_mem_cons.mpr ⟨⟨(lw_in3 (List.mem_of_getElem? (i := 116) rfl)), rfl⟩, fun _ h => absurd h List.not_mem_nil⟩⟩
set_option maxRecDepth 100000 in
theorem mt_cok4 : ∀ q ∈ mt_c4, mt_cok 4 q := fun _ h => absurd h List.not_mem_nil
set_option maxRecDepth 100000 in
theorem mt_cok5 : ∀ q ∈ mt_c5, mt_cok 5 q := fun _ h => absurd h List.not_mem_nil
set_option maxRecDepth 100000 in
theorem mt_cok6 : ∀ q ∈ mt_c6, mt_cok 6 q := fun _ h => absurd h List.not_mem_nil
set_option maxRecDepth 100000 in
theorem mt_cok7 : ∀ q ∈ mt_c7, mt_cok 7 q := List.forall_mem_cons.mpr ⟨⟨(lw_in2 (List.mem_of_getElem? (i := 25) rfl)), rfl⟩, List.forall_mem_cons.mpr ⟨⟨(lw_in2 (List.mem_of_getElem? (i := 69) rfl)), rfl⟩, List.forall_mem_cons.mpr ⟨⟨(lw_in2 (List.mem_of_getElem? (i := 107) rfl)), rfl⟩, fun _ h => absurd h List.not_mem_nil⟩⟩⟩
set_option maxRecDepth 100000 in
theorem mt_cok8 : ∀ q ∈ mt_c8, mt_cok 8 q := fun _ h => absurd h List.not_mem_nil
set_option maxRecDepth 100000 in
theorem mt_cok9 : ∀ q ∈ mt_c9, mt_cok 9 q := fun _ h => absurd h List.not_mem_nil
set_option maxRecDepth 100000 in
theorem mt_cok10 : ∀ q ∈ mt_c10, mt_cok 10 q := fun _ h => absurd h List.not_mem_nil
set_option maxRecDepth 100000 in
theorem mt_cok11 : ∀ q ∈ mt_c11, mt_cok 11 q := List.forall_mem_cons.mpr ⟨⟨(lw_in2 (List.mem_of_getElem? (i := 164) rfl)), rfl⟩, List.forall_mem_cons.mpr ⟨⟨(lw_in2 (List.mem_of_getElem? (i := 166) rfl)), rfl⟩, List.forall_mem_cons.mpr ⟨⟨(lw_in2 (List.mem_of_getElem? (i := 168) rfl)), rfl⟩, List.forall_mem_cons.mpr ⟨⟨(lw_in2 (List.mem_of_getElem? (i := 171) rfl)), rfl⟩, fun _ h => absurd h List.not_mem_nil⟩⟩⟩⟩
set_option maxRecDepth 100000 in
theorem mt_cok12 : ∀ q ∈ mt_c12, mt_cok 12 q := List.forall_mem_cons.mpr ⟨⟨(lw_in5 (List.mem_of_getElem? (i := 172) rfl)), rfl⟩, List.forall_mem_cons.mpr ⟨⟨(lw_in5 (List.mem_of_getElem? (i := 198) rfl)), rfl⟩, fun _ h => absurd h List.not_mem_nil⟩⟩
set_option maxRecDepth 100000 in
theorem mt_cok13 : ∀ q ∈ mt_c13, mt_cok 13 q := fun _ h => absurd h List.not_mem_nil
set_option maxRecDepth 100000 in
theorem mt_cok14 : ∀ q ∈ mt_c14, mt_cok 14 q := fun _ h => absurd h List.not_mem_nil
set_option maxRecDepth 100000 in
theorem mt_cok15 : ∀ q ∈ mt_c15, mt_cok 15 q := fun _ h => absurd h List.not_mem_nil
set_option maxRecDepth 100000 in
theorem mt_cok16 : ∀ q ∈ mt_c16, mt_cok 16 q := fun _ h => absurd h List.not_mem_nil
set_option maxRecDepth 100000 in
theorem mt_cok17 : ∀ q ∈ mt_c17, mt_cok 17 q := fun _ h => absurd h List.not_mem_nil
set_option maxRecDepth 100000 in
theorem mt_cok18 : ∀ q ∈ mt_c18, mt_cok 18 q := List.forall_mem_cons.mpr ⟨⟨(lw_in1 (List.mem_of_getElem? (i := 28) rfl)), rfl⟩, List.forall_mem_cons.mpr ⟨⟨(lw_in3 (List.mem_of_getElem? (i := 15) rfl)), rfl⟩, List.forall_mem_cons.mpr ⟨⟨(lw_in3 (List.mem_of_getElem? (i := 94) rfl)), rfl⟩, List.forall_mem_cons.mpr ⟨⟨(lw_in4 (List.mem_of_getElem? (i := 110) rfl)), rfl⟩, List.forall_mem_cons.mpr ⟨⟨(lw_in5 (List.mem_of_getElem? (i := 166) rfl)), rfl⟩, fun _ h => absurd h List.not_mem_nil⟩⟩⟩⟩⟩
set_option maxRecDepth 100000 in
theorem mt_cok19 : ∀ q ∈ mt_c19, mt_cok 19 q := fun _ h => absurd h List.not_mem_nil
set_option maxRecDepth 100000 in
theorem mt_cok20 : ∀ q ∈ mt_c20, mt_cok 20 q := fun _ h => absurd h List.not_mem_nil
set_option maxRecDepth 100000 in
theorem mt_cok21 : ∀ q ∈ mt_c21, mt_cok 21 q := fun _ h => absurd h List.not_mem_nil
set_option maxRecDepth 100000 in
theorem mt_cok22 : ∀ q ∈ mt_c22, mt_cok 22 q := fun _ h => absurd h List.not_mem_nil
theorem mt_cs_ok : ∀ (oc : Nat), ∀ q ∈ mt_cs.getD oc [], mt_cok oc q
  | 0 => mt_cok0
  | 1 => mt_cok1
  | 2 => mt_cok2
  | 3 => mt_cok3
  | 4 => mt_cok4
  | 5 => mt_cok5
  | 6 => mt_cok6
  | 7 => mt_cok7
  | 8 => mt_cok8
  | 9 => mt_cok9
  | 10 => mt_cok10
  | 11 => mt_cok11
  | 12 => mt_cok12
  | 13 => mt_cok13
  | 14 => mt_cok14
  | 15 => mt_cok15
  | 16 => mt_cok16
  | 17 => mt_cok17
  | 18 => mt_cok18
  | 19 => mt_cok19
  | 20 => mt_cok20
  | 21 => mt_cok21
  | 22 => mt_cok22
  | n + 23 => fun _ h => absurd h List.not_mem_nil
theorem mt_c_lk {oc idx ci : Nat} (h : mt_c oc idx = some ci) : mt_B (Cond.classLink (mt_cn oc) idx (mt_cn ci)) := by
  unfold mt_c at h
  obtain ⟨q, hq, hq2⟩ := Option.map_eq_some_iff.mp h
  have h1 := mt_cs_ok oc q (List.mem_of_find?_eq_some hq)
  have hi : q.1 = idx := by have := List.find?_some hq; simpa using this
  obtain ⟨a, b⟩ := q
  cases hq2
  cases hi
  exact h1
theorem mt_new_ok : ∀ (ci : Nat), mt_nw ci = true → ∃ C T, mt_cl[ci]? = some (C, T, mt_nf ci) ∧ mt_B (Cond.instantiable C (mt_nf ci)) ∧ mt_B (Cond.initialized C)
  | 0, _ => ⟨_, _, rfl, ⟨(lw_in1 (List.mem_of_getElem? (i := 29) rfl)), rfl⟩, ⟨(lw_in1 (List.mem_of_getElem? (i := 1) rfl)), rfl⟩⟩
  | 1, _ => ⟨_, _, rfl, ⟨(lw_in1 (List.mem_of_getElem? (i := 37) rfl)), rfl⟩, ⟨(lw_in1 (List.mem_of_getElem? (i := 2) rfl)), rfl⟩⟩
  | 2, _ => ⟨_, _, rfl, ⟨(lw_in1 (List.mem_of_getElem? (i := 72) rfl)), rfl⟩, ⟨(lw_in1 (List.mem_of_getElem? (i := 3) rfl)), rfl⟩⟩
  | 3, _ => ⟨_, _, rfl, ⟨(lw_in1 (List.mem_of_getElem? (i := 156) rfl)), rfl⟩, ⟨(lw_in1 (List.mem_of_getElem? (i := 4) rfl)), rfl⟩⟩
  | 4, _ => ⟨_, _, rfl, ⟨(lw_in1 (List.mem_of_getElem? (i := 162) rfl)), rfl⟩, ⟨(lw_in1 (List.mem_of_getElem? (i := 5) rfl)), rfl⟩⟩
  | 5, _ => ⟨_, _, rfl, ⟨(lw_in1 (List.mem_of_getElem? (i := 213) rfl)), rfl⟩, ⟨(lw_in1 (List.mem_of_getElem? (i := 6) rfl)), rfl⟩⟩
  | 6, _ => ⟨_, _, rfl, ⟨(lw_in1 (List.mem_of_getElem? (i := 227) rfl)), rfl⟩, ⟨(lw_in1 (List.mem_of_getElem? (i := 7) rfl)), rfl⟩⟩
  | 7, _ => ⟨_, _, rfl, ⟨(lw_in2 (List.mem_of_getElem? (i := 20) rfl)), rfl⟩, ⟨(lw_in1 (List.mem_of_getElem? (i := 8) rfl)), rfl⟩⟩
  | 8, _ => ⟨_, _, rfl, ⟨(lw_in2 (List.mem_of_getElem? (i := 26) rfl)), rfl⟩, ⟨(lw_in1 (List.mem_of_getElem? (i := 9) rfl)), rfl⟩⟩
  | 9, _ => ⟨_, _, rfl, ⟨(lw_in2 (List.mem_of_getElem? (i := 70) rfl)), rfl⟩, ⟨(lw_in1 (List.mem_of_getElem? (i := 10) rfl)), rfl⟩⟩
  | 10, _ => ⟨_, _, rfl, ⟨(lw_in2 (List.mem_of_getElem? (i := 108) rfl)), rfl⟩, ⟨(lw_in1 (List.mem_of_getElem? (i := 11) rfl)), rfl⟩⟩
  | 11, _ => ⟨_, _, rfl, ⟨(lw_in2 (List.mem_of_getElem? (i := 159) rfl)), rfl⟩, ⟨(lw_in1 (List.mem_of_getElem? (i := 12) rfl)), rfl⟩⟩
  | 12, _ => ⟨_, _, rfl, ⟨(lw_in5 (List.mem_of_getElem? (i := 167) rfl)), rfl⟩, ⟨(lw_in1 (List.mem_of_getElem? (i := 13) rfl)), rfl⟩⟩
  | 13, _ => ⟨_, _, rfl, ⟨(lw_in5 (List.mem_of_getElem? (i := 199) rfl)), rfl⟩, ⟨(lw_in1 (List.mem_of_getElem? (i := 14) rfl)), rfl⟩⟩
  | n + 14, h => absurd h (by simp [mt_nw, Nat.blt])
theorem mt_c_ok {oc idx ci : Nat} (h : mt_c oc idx = some ci) (hn : mt_nw ci = true) : ∃ C T, mt_cl[ci]? = some (C, T, mt_nf ci) ∧ (∀ w ∈ u_ws C T (mt_nf ci), w ∈ lw_tbl) ∧ mt_B (Cond.classLink (mt_cn oc) idx C) ∧ mt_B (Cond.instantiable C (mt_nf ci)) ∧ mt_B (Cond.initialized C) := by
  obtain ⟨C, T, h1, h2, h3⟩ := mt_new_ok ci hn
  refine ⟨C, T, h1, fun w hw => (mt_cws h1 w hw).1, ?_, h2, h3⟩
  have := mt_c_lk h
  rw [show C = mt_cn ci from mt_cn_ok h1]
  exact this
theorem mt_ao {k : Nat} (h4 : 4 ≤ k) (hk : k < mt_na) : ∃ C, mt_at k = .object C := by
  match k, h4, hk with
  | 4, _, _ => exact ⟨_, rfl⟩
  | 5, _, _ => exact ⟨_, rfl⟩
  | 6, _, _ => exact ⟨_, rfl⟩
  | n + 7, _, h => exact absurd h (by simp [mt_na])
theorem mt_ac_ok {k ci : Nat} (h : mt_ac k = some ci) : k < mt_na ∧ ∃ C : vw_C, mt_cl[ci]? = some C ∧ mt_at k = .object C.1 := by
  unfold mt_ac at h
  split at h
  · rename_i e; subst e; cases h; exact ⟨by decide, _, rfl, rfl⟩
  · split at h
    · rename_i e; subst e; cases h; exact ⟨by decide, _, rfl, rfl⟩
    · cases h
theorem mt_arr_int : mt_B (Cond.arrayClass .int) := ⟨(lw_in1 (List.mem_of_getElem? (i := 152) rfl)), rfl⟩
theorem mt_arr_byte : mt_B (Cond.arrayClass .byte) := ⟨(lw_in1 (List.mem_of_getElem? (i := 70) rfl)), rfl⟩
theorem mt_arr_boolean : mt_B (Cond.arrayClass .boolean) := ⟨(lw_in1 (List.mem_of_getElem? (i := 153) rfl)), rfl⟩
theorem mt_arr_long : mt_B (Cond.arrayClass .long) := ⟨(lw_in1 (List.mem_of_getElem? (i := 154) rfl)), rfl⟩
