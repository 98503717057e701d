/-! part 06: words of the tables that the small machine rests on, by their places in lw_tbl; printed by program (wip/p34/gen/gen_facts.py) -/
def zX : List String := ["PartSongDesk$Copy", "PartSongDesk$Corrections", "PartSongDesk$Grammar", "PartSongDesk$Learning", "PartSongDesk$Marks", "PartSongDesk$Music", "PartSongDesk$Part", "PartSongDesk$Reader", "PartSongDesk$Rehearsals", "PartSongDesk$Singing", "PartSongDesk$Tokens", "PartSongDesk", "PartSongDesk", "java/lang/Math", "java/lang/Integer", "java/util/Arrays", "PartSongDeskLaw"]
abbrev zXn (c : Nat) : String := zX.getD c ""
abbrev zWc (k : Nat) : Cond := .code (zy k) (zb k) (zl k) (zr k)
def zWs (k : Nat) : Cond := match zk k with
  | 0 => .selects (zy k).cls (zy k) (zy k)
  | 1 => .static (zy k)
  | _ => .instanceMethod (zy k)
def zWn (k : Nat) : Cond := match zk k with
  | 1 => .static (zy k)
  | _ => .instanceMethod (zy k)
def zwordOf (c : Nat) (q : Nat × Nat × Nat × Nat) : Cond := match q with
  | (i, 1, a, b) => .fieldLink (zXn c) i ((zCl a).2.1 b).1 ((zCl a).2.1 b).2.1 ((zCl a).2.1 b).2.2.1
  | (i, 2, a, _) => .methodLink (zXn c) i (zy a)
  | (i, 3, a, _) => .classLink (zXn c) i (zCl a).1
  | (i, 5, a, _) => .constant (zXn c) i (Int32.ofNat a)
  | (i, 6, a, _) => .constantLong (zXn c) i (Int64.ofNat a)
  | (i, 7, a, _) => .constantFloat (zXn c) i (UInt32.ofNat a)
  | (i, 8, 21, _) => .fieldLink (zXn c) i "PartSongDesk$Singing" "LETTER_PITCH" "[I"
  | (i, 8, _, _) => .fieldLink (zXn c) i "PartSongDesk$Singing" "SHARP_AHEAD" "[I"
  | (i, 9, a, _) => .classLink (zXn c) i (zEx.getD a "")
  | (i, 10, _, _) => .methodLink (zXn c) i objectInit
  | _ => .arrayClass .int
/-- each of these words stands in lw_tbl at the place beside it, and is a good one -/
def zplaced : List Cond → List Nat → Bool
  | [], [] => true
  | w :: l, i :: r => (decide (lw_tbl[i]? = some w) && goodWord w) && zplaced l r
  | _, _ => false
theorem zplaced_mem : ∀ (l : List Cond) (r : List Nat), zplaced l r = true → ∀ w ∈ l, w ∈ lw_tbl ∧ goodWord w = true
  | [], _, _ => fun w h => (by cases h)
  | w :: l, [], h => (by simp [zplaced] at h)
  | w :: l, i :: r, h => by
    simp only [zplaced, Bool.and_eq_true, decide_eq_true_eq] at h
    intro v hv
    rcases List.mem_cons.mp hv with rfl | hv
    · exact ⟨List.mem_of_getElem? h.1.1, h.1.2⟩
    · exact zplaced_mem l r h.2 v hv
set_option maxRecDepth 20000 in
theorem zF_c_0 : [zWc 0, zWc 1, zWc 2, zWc 3, zWc 4, zWc 5, zWc 6, zWc 7, zWc 8, zWc 9, zWc 10, zWc 11, zWc 12, zWc 13, zWc 14, zWc 15, zWc 16, zWc 17, zWc 18, zWc 19] = ([430, 513, 104, 787, 796, 1030, 1034, 1039, 1044, 142, 741, 745, 749, 753, 757, 761, 765, 769, 358, 535] : List Nat).filterMap (fun i => lw_tbl[i]?) := rfl
set_option maxRecDepth 20000 in
theorem zF_c_1 : [zWc 20, zWc 21, zWc 22, zWc 23, zWc 24, zWc 25, zWc 26, zWc 27, zWc 28, zWc 29, zWc 30, zWc 31, zWc 32, zWc 33, zWc 34, zWc 35, zWc 36, zWc 37, zWc 38, zWc 39] = ([539, 543, 1164, 1175, 1215, 381, 999, 1015, 1019, 282, 517, 548, 553, 779, 783, 856, 917, 921, 1103, 1065] : List Nat).filterMap (fun i => lw_tbl[i]?) := rfl
set_option maxRecDepth 20000 in
theorem zF_c_2 : [zWc 40, zWc 41, zWc 42, zWc 43, zWc 44, zWc 45, zWc 46, zWc 47, zWc 48, zWc 49, zWc 50, zWc 51, zWc 52, zWc 53, zWc 54, zWc 55, zWc 56, zWc 57, zWc 58, zWc 59] = ([1098, 1107, 1207, 373, 1090, 125, 654, 665, 669, 673, 677, 681, 689, 693, 697, 701, 705, 709, 713, 721] : List Nat).filterMap (fun i => lw_tbl[i]?) := rfl
set_option maxRecDepth 20000 in
theorem zF_c_3 : [zWc 60, zWc 61, zWc 62, zWc 63, zWc 64, zWc 65, zWc 66, zWc 67, zWc 68, zWc 69, zWc 70, zWc 71, zWc 72, zWc 73, zWc 74, zWc 75, zWc 76, zWc 77, zWc 78, zWc 79] = ([725, 729, 733, 314, 497, 521, 1140, 161, 775, 800, 807, 813, 817, 821, 825, 832, 840, 844, 848, 852] : List Nat).filterMap (fun i => lw_tbl[i]?) := rfl
set_option maxRecDepth 20000 in
theorem zF_c_4 : [zWc 80, zWc 81, zWc 82, zWc 83, zWc 84, zWc 85, zWc 86, zWc 87, zWc 88, zWc 89, zWc 90, zWc 91, zWc 92, zWc 93, zWc 94, zWc 95, zWc 96, zWc 97, zWc 98, zWc 99] = ([860, 864, 871, 167, 661, 685, 717, 737, 791, 92, 493, 501, 505, 509, 531, 557, 1233, 578, 1090, 570] : List Nat).filterMap (fun i => lw_tbl[i]?) := rfl
set_option maxRecDepth 20000 in
theorem zF_c_5 : [zWc 100, zWc 101, zWc 102, zWc 103, zWc 104, zWc 105, zWc 106, zWc 107, zWc 108, zWc 109, zWc 110, zWc 111, zWc 112, zWc 113, zWc 114, zWc 115, zWc 116, zWc 117, zWc 118, zWc 119] = ([574, 650, 878, 885, 892, 901, 908, 912, 931, 957, 977, 984, 988, 994, 1006, 1011, 1026, 1052, 1245, 1252] : List Nat).filterMap (fun i => lw_tbl[i]?) := rfl
set_option maxRecDepth 20000 in
theorem zF_c_6 : [zWc 120, zWc 121, zWc 122, zWc 123, zWc 124, zWc 125, zWc 126, zWc 127, zWc 128, zWc 129, zWc 130, zWc 131, zWc 132, zWc 133, zWc 134, zWc 135, zWc 136, zWc 137, zWc 138, zWc 139] = ([1267, 1259, 1059, 1072, 1076, 1082, 1086, 1094, 1117, 1125, 1134, 1147, 1155, 1159, 1171, 1183, 1187, 1191, 1195, 1199] : List Nat).filterMap (fun i => lw_tbl[i]?) := rfl
set_option maxRecDepth 20000 in
theorem zF_c_7 : [zWc 140, zWc 141, zWc 142, zWc 143, zWc 144, zWc 145, zWc 146, zWc 147, zWc 148, zWc 149, zWc 150, zWc 151, zWc 152, zWc 153, zWc 154, zWc 155, zWc 156, zWc 157, zWc 158, zWc 159] = ([1203, 1211, 1222, 1226, 1238, 1090, 1090, 1090, 1090, 1090, 1090, 1090, 1090, 1090, 1090, 1090, 1090, 1090, 1090, 1090] : List Nat).filterMap (fun i => lw_tbl[i]?) := rfl
set_option maxRecDepth 20000 in
theorem zF_c_8 : [zWc 160, zWc 161, zWc 162, zWc 163, zWc 164, zWc 165, zWc 166, zWc 167, zWc 168, zWc 169, zWc 170, zWc 171, zWc 172, zWc 173, zWc 174, zWc 175, zWc 176, zWc 177, zWc 178, zWc 179] = ([1090, 1090, 1090, 1090, 1090, 1090, 1090, 1090, 1090, 1090, 1090, 1090, 1090, 1090, 1090, 1090, 1090, 1090, 1090, 1090] : List Nat).filterMap (fun i => lw_tbl[i]?) := rfl
set_option maxRecDepth 20000 in
theorem zF_c_9 : [zWc 180, zWc 181, zWc 182, zWc 183, zWc 184, zWc 185, zWc 186, zWc 187, zWc 188, zWc 189, zWc 190, zWc 191, zWc 192, zWc 193, zWc 194, zWc 195, zWc 196, zWc 197, zWc 198, zWc 199] = ([1090, 1090, 1090, 1090, 1090, 1090, 1090, 1090, 1090, 1090, 1090, 1090, 1090, 1090, 1090, 1090, 1090, 1090, 1090, 1090] : List Nat).filterMap (fun i => lw_tbl[i]?) := rfl
set_option maxRecDepth 20000 in
theorem zF_c_10 : [zWc 200, zWc 201, zWc 202, zWc 203, zWc 204, zWc 205, zWc 206, zWc 207, zWc 208, zWc 209, zWc 210, zWc 211, zWc 212, zWc 213, zWc 214, zWc 215, zWc 216, zWc 217, zWc 218, zWc 219] = ([1090, 1090, 1090, 1090, 1090, 1090, 1090, 1090, 1090, 1090, 1090, 1090, 1090, 1090, 1090, 1090, 1090, 1090, 1090, 1090] : List Nat).filterMap (fun i => lw_tbl[i]?) := rfl
set_option maxRecDepth 20000 in
theorem zF_c_11 : [zWc 220, zWc 221, zWc 222, zWc 223, zWc 224, zWc 225, zWc 226, zWc 227, zWc 228, zWc 229, zWc 230, zWc 231, zWc 232, zWc 233, zWc 234, zWc 235, zWc 236] = ([1090, 1090, 1090, 1090, 1090, 1090, 1090, 1090, 1090, 1090, 1090, 867, 657, 828, 1110, 524, 803] : List Nat).filterMap (fun i => lw_tbl[i]?) := rfl
