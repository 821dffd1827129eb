/-- a field: of class c its k-th, of kind t -/
def Fld (c k t : Nat) (C n d : String) (fin : Bool) (ty : FieldType) : Prop := ∃ (C0 : String) (T : u_T) (N : Nat) (ty0 : Nat → FieldType), vwCl[c]? = some (C0, T, N) ∧ (∀ w ∈ u_ws C0 T N, w ∈ wsL_law) ∧ k < N ∧ T k = (C, n, d, fin) ∧ (fty c)[k]? = some t ∧ N = (fty c).length ∧ c < 20 ∧ (∀ k, k < N → parseFieldDescriptor (T k).2.2.1 = some (ty0 k)) ∧ (∀ a, a < N → ∀ b, b < N → a ≠ b → (T a).2.1 ≠ (T b).2.1) ∧ ty0 k = ty
theorem fX0_0 : Fld 0 0 1 "JumpDesk$Air" "x" "[I" true (.array .int) := ⟨RX0, TX0, 2, tyX0, rfl, inlX0, by decide, rfl, rfl, rfl, by decide, tyX0_ok, nmX0, rfl⟩
theorem fX0_1 : Fld 0 1 1 "JumpDesk$Air" "y" "[I" true (.array .int) := ⟨RX0, TX0, 2, tyX0, rfl, inlX0, by decide, rfl, rfl, rfl, by decide, tyX0_ok, nmX0, rfl⟩
theorem fX1_0 : Fld 1 0 1 "JumpDesk$Fall" "x" "[I" true (.array .int) := ⟨RX1, TX1, 5, tyX1, rfl, inlX1, by decide, rfl, rfl, rfl, by decide, tyX1_ok, nmX1, rfl⟩
theorem fX1_1 : Fld 1 1 1 "JumpDesk$Fall" "y" "[I" true (.array .int) := ⟨RX1, TX1, 5, tyX1, rfl, inlX1, by decide, rfl, rfl, rfl, by decide, tyX1_ok, nmX1, rfl⟩
theorem fX1_2 : Fld 1 2 1 "JumpDesk$Fall" "height" "[I" true (.array .int) := ⟨RX1, TX1, 5, tyX1, rfl, inlX1, by decide, rfl, rfl, rfl, by decide, tyX1_ok, nmX1, rfl⟩
theorem fX1_3 : Fld 1 3 0 "JumpDesk$Fall" "opened" "I" false (.int) := ⟨RX1, TX1, 5, tyX1, rfl, inlX1, by decide, rfl, rfl, rfl, by decide, tyX1_ok, nmX1, rfl⟩
theorem fX1_4 : Fld 1 4 0 "JumpDesk$Fall" "down" "I" false (.int) := ⟨RX1, TX1, 5, tyX1, rfl, inlX1, by decide, rfl, rfl, rfl, by decide, tyX1_ok, nmX1, rfl⟩
theorem fX2_0 : Fld 2 0 0 "JumpDesk$Group" "number" "I" true (.int) := ⟨RX2, TX2, 7, tyX2, rfl, inlX2, by decide, rfl, rfl, rfl, by decide, tyX2_ok, nmX2, rfl⟩
theorem fX2_1 : Fld 2 1 1 "JumpDesk$Group" "members" "[LJumpDesk$Jumper;" true (.array (.object "JumpDesk$Jumper")) := ⟨RX2, TX2, 7, tyX2, rfl, inlX2, by decide, rfl, rfl, rfl, by decide, tyX2_ok, nmX2, rfl⟩
theorem fX2_2 : Fld 2 2 0 "JumpDesk$Group" "count" "I" false (.int) := ⟨RX2, TX2, 7, tyX2, rfl, inlX2, by decide, rfl, rfl, rfl, by decide, tyX2_ok, nmX2, rfl⟩
theorem fX2_3 : Fld 2 3 0 "JumpDesk$Group" "kind" "I" false (.int) := ⟨RX2, TX2, 7, tyX2, rfl, inlX2, by decide, rfl, rfl, rfl, by decide, tyX2_ok, nmX2, rfl⟩
theorem fX2_4 : Fld 2 4 0 "JumpDesk$Group" "opens" "I" false (.int) := ⟨RX2, TX2, 7, tyX2, rfl, inlX2, by decide, rfl, rfl, rfl, by decide, tyX2_ok, nmX2, rfl⟩
theorem fX2_5 : Fld 2 5 0 "JumpDesk$Group" "forward" "I" false (.int) := ⟨RX2, TX2, 7, tyX2, rfl, inlX2, by decide, rfl, rfl, rfl, by decide, tyX2_ok, nmX2, rfl⟩
theorem fX2_6 : Fld 2 6 0 "JumpDesk$Group" "direction" "I" false (.int) := ⟨RX2, TX2, 7, tyX2, rfl, inlX2, by decide, rfl, rfl, rfl, by decide, tyX2_ok, nmX2, rfl⟩
theorem fX3_0 : Fld 3 0 0 "JumpDesk$Jumper" "number" "I" true (.int) := ⟨RX3, TX3, 4, tyX3, rfl, inlX3, by decide, rfl, rfl, rfl, by decide, tyX3_ok, nmX3, rfl⟩
theorem fX3_1 : Fld 3 1 0 "JumpDesk$Jumper" "sort" "I" false (.int) := ⟨RX3, TX3, 4, tyX3, rfl, inlX3, by decide, rfl, rfl, rfl, by decide, tyX3_ok, nmX3, rfl⟩
theorem fX3_2 : Fld 3 2 0 "JumpDesk$Jumper" "weight" "I" false (.int) := ⟨RX3, TX3, 4, tyX3, rfl, inlX3, by decide, rfl, rfl, rfl, by decide, tyX3_ok, nmX3, rfl⟩
theorem fX3_3 : Fld 3 3 0 "JumpDesk$Jumper" "day" "I" false (.int) := ⟨RX3, TX3, 4, tyX3, rfl, inlX3, by decide, rfl, rfl, rfl, by decide, tyX3_ok, nmX3, rfl⟩
theorem fX4_0 : Fld 4 0 1 "JumpDesk$Line" "pauses" "[I" true (.array .int) := ⟨RX4, TX4, 5, tyX4, rfl, inlX4, by decide, rfl, rfl, rfl, by decide, tyX4_ok, nmX4, rfl⟩
theorem fX4_1 : Fld 4 1 1 "JumpDesk$Line" "row" "[I" true (.array .int) := ⟨RX4, TX4, 5, tyX4, rfl, inlX4, by decide, rfl, rfl, rfl, by decide, tyX4_ok, nmX4, rfl⟩
theorem fX4_2 : Fld 4 2 1 "JumpDesk$Line" "best" "[I" true (.array .int) := ⟨RX4, TX4, 5, tyX4, rfl, inlX4, by decide, rfl, rfl, rfl, by decide, tyX4_ok, nmX4, rfl⟩
theorem fX4_3 : Fld 4 3 0 "JumpDesk$Line" "count" "I" false (.int) := ⟨RX4, TX4, 5, tyX4, rfl, inlX4, by decide, rfl, rfl, rfl, by decide, tyX4_ok, nmX4, rfl⟩
theorem fX4_4 : Fld 4 4 0 "JumpDesk$Line" "shortest" "I" false (.int) := ⟨RX4, TX4, 5, tyX4, rfl, inlX4, by decide, rfl, rfl, rfl, by decide, tyX4_ok, nmX4, rfl⟩
theorem fX5_0 : Fld 5 0 1 "JumpDesk$Load" "groups" "[LJumpDesk$Group;" true (.array (.object "JumpDesk$Group")) := ⟨RX5, TX5, 9, tyX5, rfl, inlX5, by decide, rfl, rfl, rfl, by decide, tyX5_ok, nmX5, rfl⟩
theorem fX5_1 : Fld 5 1 1 "JumpDesk$Load" "pauses" "[I" true (.array .int) := ⟨RX5, TX5, 9, tyX5, rfl, inlX5, by decide, rfl, rfl, rfl, by decide, tyX5_ok, nmX5, rfl⟩
theorem fX5_2 : Fld 5 2 1 "JumpDesk$Load" "ownPlane" "LJumpDesk$Plane;" true (.object "JumpDesk$Plane") := ⟨RX5, TX5, 9, tyX5, rfl, inlX5, by decide, rfl, rfl, rfl, by decide, tyX5_ok, nmX5, rfl⟩
theorem fX5_3 : Fld 5 3 1 "JumpDesk$Load" "ownAir" "LJumpDesk$Air;" true (.object "JumpDesk$Air") := ⟨RX5, TX5, 9, tyX5, rfl, inlX5, by decide, rfl, rfl, rfl, by decide, tyX5_ok, nmX5, rfl⟩
theorem fX5_4 : Fld 5 4 1 "JumpDesk$Load" "plane" "LJumpDesk$Plane;" false (.object "JumpDesk$Plane") := ⟨RX5, TX5, 9, tyX5, rfl, inlX5, by decide, rfl, rfl, rfl, by decide, tyX5_ok, nmX5, rfl⟩
theorem fX5_5 : Fld 5 5 1 "JumpDesk$Load" "air" "LJumpDesk$Air;" false (.object "JumpDesk$Air") := ⟨RX5, TX5, 9, tyX5, rfl, inlX5, by decide, rfl, rfl, rfl, by decide, tyX5_ok, nmX5, rfl⟩
theorem fX5_6 : Fld 5 6 0 "JumpDesk$Load" "count" "I" false (.int) := ⟨RX5, TX5, 9, tyX5, rfl, inlX5, by decide, rfl, rfl, rfl, by decide, tyX5_ok, nmX5, rfl⟩
theorem fX5_7 : Fld 5 7 0 "JumpDesk$Load" "start" "I" false (.int) := ⟨RX5, TX5, 9, tyX5, rfl, inlX5, by decide, rfl, rfl, rfl, by decide, tyX5_ok, nmX5, rfl⟩
theorem fX5_8 : Fld 5 8 0 "JumpDesk$Load" "left" "Z" false (.boolean) := ⟨RX5, TX5, 9, tyX5, rfl, inlX5, by decide, rfl, rfl, rfl, by decide, tyX5_ok, nmX5, rfl⟩
theorem fX6_0 : Fld 6 0 0 "JumpDesk$Plane" "number" "I" false (.int) := ⟨RX6, TX6, 5, tyX6, rfl, inlX6, by decide, rfl, rfl, rfl, by decide, tyX6_ok, nmX6, rfl⟩
theorem fX6_1 : Fld 6 1 0 "JumpDesk$Plane" "seats" "I" false (.int) := ⟨RX6, TX6, 5, tyX6, rfl, inlX6, by decide, rfl, rfl, rfl, by decide, tyX6_ok, nmX6, rfl⟩
theorem fX6_2 : Fld 6 2 0 "JumpDesk$Plane" "bears" "I" false (.int) := ⟨RX6, TX6, 5, tyX6, rfl, inlX6, by decide, rfl, rfl, rfl, by decide, tyX6_ok, nmX6, rfl⟩
theorem fX6_3 : Fld 6 3 0 "JumpDesk$Plane" "speed" "I" false (.int) := ⟨RX6, TX6, 5, tyX6, rfl, inlX6, by decide, rfl, rfl, rfl, by decide, tyX6_ok, nmX6, rfl⟩
theorem fX6_4 : Fld 6 4 0 "JumpDesk$Plane" "height" "I" false (.int) := ⟨RX6, TX6, 5, tyX6, rfl, inlX6, by decide, rfl, rfl, rfl, by decide, tyX6_ok, nmX6, rfl⟩
theorem fX7_0 : Fld 7 0 1 "JumpDesk$Sheet" "numbers" "[F" true (.array .float) := ⟨RX7, TX7, 4, tyX7, rfl, inlX7, by decide, rfl, rfl, rfl, by decide, tyX7_ok, nmX7, rfl⟩
theorem fX7_1 : Fld 7 1 1 "JumpDesk$Sheet" "gaps" "[Z" true (.array .boolean) := ⟨RX7, TX7, 4, tyX7, rfl, inlX7, by decide, rfl, rfl, rfl, by decide, tyX7_ok, nmX7, rfl⟩
theorem fX7_2 : Fld 7 2 0 "JumpDesk$Sheet" "length" "I" false (.int) := ⟨RX7, TX7, 4, tyX7, rfl, inlX7, by decide, rfl, rfl, rfl, by decide, tyX7_ok, nmX7, rfl⟩
theorem fX7_3 : Fld 7 3 0 "JumpDesk$Sheet" "there" "Z" false (.boolean) := ⟨RX7, TX7, 4, tyX7, rfl, inlX7, by decide, rfl, rfl, rfl, by decide, tyX7_ok, nmX7, rfl⟩
theorem fX8_0 : Fld 8 0 1 "JumpDesk" "sheets" "[LJumpDesk$Sheet;" true (.array (.object "JumpDesk$Sheet")) := ⟨RX8, TX8, 11, tyX8, rfl, inlX8, by decide, rfl, rfl, rfl, by decide, tyX8_ok, nmX8, rfl⟩
theorem fX8_1 : Fld 8 1 1 "JumpDesk" "air" "LJumpDesk$Air;" true (.object "JumpDesk$Air") := ⟨RX8, TX8, 11, tyX8, rfl, inlX8, by decide, rfl, rfl, rfl, by decide, tyX8_ok, nmX8, rfl⟩
theorem fX8_2 : Fld 8 2 1 "JumpDesk" "jumpers" "[LJumpDesk$Jumper;" true (.array (.object "JumpDesk$Jumper")) := ⟨RX8, TX8, 11, tyX8, rfl, inlX8, by decide, rfl, rfl, rfl, by decide, tyX8_ok, nmX8, rfl⟩
theorem fX8_3 : Fld 8 3 1 "JumpDesk" "groups" "[LJumpDesk$Group;" true (.array (.object "JumpDesk$Group")) := ⟨RX8, TX8, 11, tyX8, rfl, inlX8, by decide, rfl, rfl, rfl, by decide, tyX8_ok, nmX8, rfl⟩
theorem fX8_4 : Fld 8 4 1 "JumpDesk" "planes" "[LJumpDesk$Plane;" true (.array (.object "JumpDesk$Plane")) := ⟨RX8, TX8, 11, tyX8, rfl, inlX8, by decide, rfl, rfl, rfl, by decide, tyX8_ok, nmX8, rfl⟩
theorem fX8_5 : Fld 8 5 1 "JumpDesk" "loads" "[LJumpDesk$Load;" true (.array (.object "JumpDesk$Load")) := ⟨RX8, TX8, 11, tyX8, rfl, inlX8, by decide, rfl, rfl, rfl, by decide, tyX8_ok, nmX8, rfl⟩
theorem fX8_6 : Fld 8 6 1 "JumpDesk" "rules" "[I" true (.array .int) := ⟨RX8, TX8, 11, tyX8, rfl, inlX8, by decide, rfl, rfl, rfl, by decide, tyX8_ok, nmX8, rfl⟩
theorem fX8_7 : Fld 8 7 1 "JumpDesk" "falls" "[LJumpDesk$Fall;" true (.array (.object "JumpDesk$Fall")) := ⟨RX8, TX8, 11, tyX8, rfl, inlX8, by decide, rfl, rfl, rfl, by decide, tyX8_ok, nmX8, rfl⟩
theorem fX8_8 : Fld 8 8 1 "JumpDesk" "line" "LJumpDesk$Line;" true (.object "JumpDesk$Line") := ⟨RX8, TX8, 11, tyX8, rfl, inlX8, by decide, rfl, rfl, rfl, by decide, tyX8_ok, nmX8, rfl⟩
theorem fX8_9 : Fld 8 9 0 "JumpDesk" "groupCount" "I" false (.int) := ⟨RX8, TX8, 11, tyX8, rfl, inlX8, by decide, rfl, rfl, rfl, by decide, tyX8_ok, nmX8, rfl⟩
theorem fX8_10 : Fld 8 10 0 "JumpDesk" "loadCount" "I" false (.int) := ⟨RX8, TX8, 11, tyX8, rfl, inlX8, by decide, rfl, rfl, rfl, by decide, tyX8_ok, nmX8, rfl⟩
theorem fX9_0 : Fld 9 0 1 "JumpDeskModel" "sheetSize" "[I" true (.array .int) := ⟨RX9, TX9, 48, tyX9, rfl, inlX9, by decide, rfl, rfl, rfl, by decide, tyX9_ok, nmX9, rfl⟩
theorem fX9_1 : Fld 9 1 1 "JumpDeskModel" "sheet" "[F" true (.array .float) := ⟨RX9, TX9, 48, tyX9, rfl, inlX9, by decide, rfl, rfl, rfl, by decide, tyX9_ok, nmX9, rfl⟩
theorem fX9_2 : Fld 9 2 1 "JumpDeskModel" "isGap" "[Z" true (.array .boolean) := ⟨RX9, TX9, 48, tyX9, rfl, inlX9, by decide, rfl, rfl, rfl, by decide, tyX9_ok, nmX9, rfl⟩
theorem fX9_3 : Fld 9 3 1 "JumpDeskModel" "windX" "[I" true (.array .int) := ⟨RX9, TX9, 48, tyX9, rfl, inlX9, by decide, rfl, rfl, rfl, by decide, tyX9_ok, nmX9, rfl⟩
theorem fX9_4 : Fld 9 4 1 "JumpDeskModel" "windY" "[I" true (.array .int) := ⟨RX9, TX9, 48, tyX9, rfl, inlX9, by decide, rfl, rfl, rfl, by decide, tyX9_ok, nmX9, rfl⟩
theorem fX9_5 : Fld 9 5 1 "JumpDeskModel" "sortOf" "[I" true (.array .int) := ⟨RX9, TX9, 48, tyX9, rfl, inlX9, by decide, rfl, rfl, rfl, by decide, tyX9_ok, nmX9, rfl⟩
theorem fX9_6 : Fld 9 6 1 "JumpDeskModel" "weightOf" "[I" true (.array .int) := ⟨RX9, TX9, 48, tyX9, rfl, inlX9, by decide, rfl, rfl, rfl, by decide, tyX9_ok, nmX9, rfl⟩
theorem fX9_7 : Fld 9 7 1 "JumpDeskModel" "dayOf" "[I" true (.array .int) := ⟨RX9, TX9, 48, tyX9, rfl, inlX9, by decide, rfl, rfl, rfl, by decide, tyX9_ok, nmX9, rfl⟩
theorem fX9_8 : Fld 9 8 0 "JumpDeskModel" "groups" "I" false (.int) := ⟨RX9, TX9, 48, tyX9, rfl, inlX9, by decide, rfl, rfl, rfl, by decide, tyX9_ok, nmX9, rfl⟩
theorem fX9_9 : Fld 9 9 1 "JumpDeskModel" "kindOf" "[I" true (.array .int) := ⟨RX9, TX9, 48, tyX9, rfl, inlX9, by decide, rfl, rfl, rfl, by decide, tyX9_ok, nmX9, rfl⟩
theorem fX9_10 : Fld 9 10 1 "JumpDeskModel" "opensOf" "[I" true (.array .int) := ⟨RX9, TX9, 48, tyX9, rfl, inlX9, by decide, rfl, rfl, rfl, by decide, tyX9_ok, nmX9, rfl⟩
theorem fX9_11 : Fld 9 11 1 "JumpDeskModel" "forwardOf" "[I" true (.array .int) := ⟨RX9, TX9, 48, tyX9, rfl, inlX9, by decide, rfl, rfl, rfl, by decide, tyX9_ok, nmX9, rfl⟩
theorem fX9_12 : Fld 9 12 1 "JumpDeskModel" "directionOf" "[I" true (.array .int) := ⟨RX9, TX9, 48, tyX9, rfl, inlX9, by decide, rfl, rfl, rfl, by decide, tyX9_ok, nmX9, rfl⟩
theorem fX9_13 : Fld 9 13 1 "JumpDeskModel" "sizeOf" "[I" true (.array .int) := ⟨RX9, TX9, 48, tyX9, rfl, inlX9, by decide, rfl, rfl, rfl, by decide, tyX9_ok, nmX9, rfl⟩
theorem fX9_14 : Fld 9 14 1 "JumpDeskModel" "jumperOf" "[I" true (.array .int) := ⟨RX9, TX9, 48, tyX9, rfl, inlX9, by decide, rfl, rfl, rfl, by decide, tyX9_ok, nmX9, rfl⟩
theorem fX9_15 : Fld 9 15 1 "JumpDeskModel" "seats" "[I" true (.array .int) := ⟨RX9, TX9, 48, tyX9, rfl, inlX9, by decide, rfl, rfl, rfl, by decide, tyX9_ok, nmX9, rfl⟩
theorem fX9_16 : Fld 9 16 1 "JumpDeskModel" "bears" "[I" true (.array .int) := ⟨RX9, TX9, 48, tyX9, rfl, inlX9, by decide, rfl, rfl, rfl, by decide, tyX9_ok, nmX9, rfl⟩
theorem fX9_17 : Fld 9 17 1 "JumpDeskModel" "speeds" "[I" true (.array .int) := ⟨RX9, TX9, 48, tyX9, rfl, inlX9, by decide, rfl, rfl, rfl, by decide, tyX9_ok, nmX9, rfl⟩
theorem fX9_18 : Fld 9 18 1 "JumpDeskModel" "heights" "[I" true (.array .int) := ⟨RX9, TX9, 48, tyX9, rfl, inlX9, by decide, rfl, rfl, rfl, by decide, tyX9_ok, nmX9, rfl⟩
theorem fX9_19 : Fld 9 19 1 "JumpDeskModel" "rules" "[I" true (.array .int) := ⟨RX9, TX9, 48, tyX9, rfl, inlX9, by decide, rfl, rfl, rfl, by decide, tyX9_ok, nmX9, rfl⟩
theorem fX9_20 : Fld 9 20 0 "JumpDeskModel" "loads" "I" false (.int) := ⟨RX9, TX9, 48, tyX9, rfl, inlX9, by decide, rfl, rfl, rfl, by decide, tyX9_ok, nmX9, rfl⟩
theorem fX9_21 : Fld 9 21 1 "JumpDeskModel" "planeOf" "[I" true (.array .int) := ⟨RX9, TX9, 48, tyX9, rfl, inlX9, by decide, rfl, rfl, rfl, by decide, tyX9_ok, nmX9, rfl⟩
theorem fX9_22 : Fld 9 22 1 "JumpDeskModel" "manyOf" "[I" true (.array .int) := ⟨RX9, TX9, 48, tyX9, rfl, inlX9, by decide, rfl, rfl, rfl, by decide, tyX9_ok, nmX9, rfl⟩
theorem fX9_23 : Fld 9 23 1 "JumpDeskModel" "groupAt" "[I" true (.array .int) := ⟨RX9, TX9, 48, tyX9, rfl, inlX9, by decide, rfl, rfl, rfl, by decide, tyX9_ok, nmX9, rfl⟩
theorem fX9_24 : Fld 9 24 1 "JumpDeskModel" "pauseAt" "[I" true (.array .int) := ⟨RX9, TX9, 48, tyX9, rfl, inlX9, by decide, rfl, rfl, rfl, by decide, tyX9_ok, nmX9, rfl⟩
theorem fX9_25 : Fld 9 25 1 "JumpDeskModel" "startOf" "[I" true (.array .int) := ⟨RX9, TX9, 48, tyX9, rfl, inlX9, by decide, rfl, rfl, rfl, by decide, tyX9_ok, nmX9, rfl⟩
theorem fX9_26 : Fld 9 26 1 "JumpDeskModel" "hasLeft" "[Z" true (.array .boolean) := ⟨RX9, TX9, 48, tyX9, rfl, inlX9, by decide, rfl, rfl, rfl, by decide, tyX9_ok, nmX9, rfl⟩
theorem fX9_27 : Fld 9 27 1 "JumpDeskModel" "leftWindX" "[I" true (.array .int) := ⟨RX9, TX9, 48, tyX9, rfl, inlX9, by decide, rfl, rfl, rfl, by decide, tyX9_ok, nmX9, rfl⟩
theorem fX9_28 : Fld 9 28 1 "JumpDeskModel" "leftWindY" "[I" true (.array .int) := ⟨RX9, TX9, 48, tyX9, rfl, inlX9, by decide, rfl, rfl, rfl, by decide, tyX9_ok, nmX9, rfl⟩
theorem fX9_29 : Fld 9 29 1 "JumpDeskModel" "leftSpeed" "[I" true (.array .int) := ⟨RX9, TX9, 48, tyX9, rfl, inlX9, by decide, rfl, rfl, rfl, by decide, tyX9_ok, nmX9, rfl⟩
theorem fX9_30 : Fld 9 30 1 "JumpDeskModel" "leftHeight" "[I" true (.array .int) := ⟨RX9, TX9, 48, tyX9, rfl, inlX9, by decide, rfl, rfl, rfl, by decide, tyX9_ok, nmX9, rfl⟩
theorem fX9_31 : Fld 9 31 0 "JumpDeskModel" "went" "I" false (.int) := ⟨RX9, TX9, 48, tyX9, rfl, inlX9, by decide, rfl, rfl, rfl, by decide, tyX9_ok, nmX9, rfl⟩
theorem fX9_32 : Fld 9 32 1 "JumpDeskModel" "byX" "[I" true (.array .int) := ⟨RX9, TX9, 48, tyX9, rfl, inlX9, by decide, rfl, rfl, rfl, by decide, tyX9_ok, nmX9, rfl⟩
theorem fX9_33 : Fld 9 33 1 "JumpDeskModel" "byY" "[I" true (.array .int) := ⟨RX9, TX9, 48, tyX9, rfl, inlX9, by decide, rfl, rfl, rfl, by decide, tyX9_ok, nmX9, rfl⟩
theorem fX9_34 : Fld 9 34 0 "JumpDeskModel" "bySpeed" "I" false (.int) := ⟨RX9, TX9, 48, tyX9, rfl, inlX9, by decide, rfl, rfl, rfl, by decide, tyX9_ok, nmX9, rfl⟩
theorem fX9_35 : Fld 9 35 0 "JumpDeskModel" "byHeight" "I" false (.int) := ⟨RX9, TX9, 48, tyX9, rfl, inlX9, by decide, rfl, rfl, rfl, by decide, tyX9_ok, nmX9, rfl⟩
theorem fX9_36 : Fld 9 36 1 "JumpDeskModel" "wayX" "[I" true (.array .int) := ⟨RX9, TX9, 48, tyX9, rfl, inlX9, by decide, rfl, rfl, rfl, by decide, tyX9_ok, nmX9, rfl⟩
theorem fX9_37 : Fld 9 37 1 "JumpDeskModel" "wayY" "[I" true (.array .int) := ⟨RX9, TX9, 48, tyX9, rfl, inlX9, by decide, rfl, rfl, rfl, by decide, tyX9_ok, nmX9, rfl⟩
theorem fX9_38 : Fld 9 38 1 "JumpDeskModel" "wayHeight" "[I" true (.array .int) := ⟨RX9, TX9, 48, tyX9, rfl, inlX9, by decide, rfl, rfl, rfl, by decide, tyX9_ok, nmX9, rfl⟩
theorem fX9_39 : Fld 9 39 1 "JumpDeskModel" "wayState" "[I" true (.array .int) := ⟨RX9, TX9, 48, tyX9, rfl, inlX9, by decide, rfl, rfl, rfl, by decide, tyX9_ok, nmX9, rfl⟩
theorem fX9_40 : Fld 9 40 1 "JumpDeskModel" "downAt" "[I" true (.array .int) := ⟨RX9, TX9, 48, tyX9, rfl, inlX9, by decide, rfl, rfl, rfl, by decide, tyX9_ok, nmX9, rfl⟩
theorem fX9_41 : Fld 9 41 1 "JumpDeskModel" "openFor" "[I" true (.array .int) := ⟨RX9, TX9, 48, tyX9, rfl, inlX9, by decide, rfl, rfl, rfl, by decide, tyX9_ok, nmX9, rfl⟩
theorem fX9_42 : Fld 9 42 1 "JumpDeskModel" "sorted" "[I" true (.array .int) := ⟨RX9, TX9, 48, tyX9, rfl, inlX9, by decide, rfl, rfl, rfl, by decide, tyX9_ok, nmX9, rfl⟩
theorem fX9_43 : Fld 9 43 1 "JumpDeskModel" "pauses" "[I" true (.array .int) := ⟨RX9, TX9, 48, tyX9, rfl, inlX9, by decide, rfl, rfl, rfl, by decide, tyX9_ok, nmX9, rfl⟩
theorem fX9_44 : Fld 9 44 1 "JumpDeskModel" "tried" "[I" true (.array .int) := ⟨RX9, TX9, 48, tyX9, rfl, inlX9, by decide, rfl, rfl, rfl, by decide, tyX9_ok, nmX9, rfl⟩
theorem fX9_45 : Fld 9 45 1 "JumpDeskModel" "best" "[I" true (.array .int) := ⟨RX9, TX9, 48, tyX9, rfl, inlX9, by decide, rfl, rfl, rfl, by decide, tyX9_ok, nmX9, rfl⟩
theorem fX9_46 : Fld 9 46 2 "JumpDeskModel" "lowest" "J" false (.long) := ⟨RX9, TX9, 48, tyX9, rfl, inlX9, by decide, rfl, rfl, rfl, by decide, tyX9_ok, nmX9, rfl⟩
theorem fX9_47 : Fld 9 47 2 "JumpDeskModel" "highest" "J" false (.long) := ⟨RX9, TX9, 48, tyX9, rfl, inlX9, by decide, rfl, rfl, rfl, by decide, tyX9_ok, nmX9, rfl⟩
/-- a link to a field, own or a nest mate's -/
def LkF (own : String) (idx : Nat) (C n d : String) : Prop := Cond.fieldLink own idx C n d ∈ wsL_law ∨ ∃ host, Cond.fieldLinkNest own idx C n d host ∈ nwL
theorem cel_obj {B : Nat} {cA : Nat → ClassId} {σ : Sg} {a c : Nat} (h : kd a = c) (hc : c < 20) : cel B cA σ a = .inr (c, (fty c).mapIdx (fun k t => tv B σ a t k)) := by
  subst h
  unfold cel
  rw [if_pos hc]
theorem cel_f {B : Nat} {cA : Nat → ClassId} {σ : Sg} {a : Nat} (h : kd a = 20) : cel B cA σ a = .inl (cA 0, ln a, .inr (.inr (.inl (sF σ a)))) := by simp [cel, h]
theorem cel_i {B : Nat} {cA : Nat → ClassId} {σ : Sg} {a : Nat} (h : kd a = 21) : cel B cA σ a = .inl (cA 1, ln a, .inl (sI σ a)) := by simp [cel, h]
theorem cel_z {B : Nat} {cA : Nat → ClassId} {σ : Sg} {a : Nat} (h : kd a = 22) : cel B cA σ a = .inl (cA 2, ln a, .inl (sI σ a)) := by simp [cel, h]
theorem cel_r {B : Nat} {cA : Nat → ClassId} {σ : Sg} {a c : Nat} (h : kd a = 30 + c) : cel B cA σ a = .inl (cA (3 + c), ln a, .inr (.inr (.inr (.inr (fun j => (sR σ a j).map (fun b => B + b)))))) := by
  have h1 : ¬ kd a < 20 := by omega
  have h2 : ¬ kd a = 20 := by omega
  have h3 : ¬ kd a = 21 := by omega
  have h4 : ¬ kd a = 22 := by omega
  have h5 : kd a - 27 = 3 + c := by omega
  simp only [cel, h1, h2, h3, h4, if_false, h5]
theorem u2_s {α : Type} (f : Nat → Nat → α) (a k : Nat) (v : α) : u2 f a k v a k = v := by simp [u2]
theorem u2_a {α : Type} (f : Nat → Nat → α) {a b : Nat} (k j : Nat) (v : α) (h : b ≠ a) : u2 f a k v b j = f b j := by simp [u2, h]
theorem u2_k {α : Type} (f : Nat → Nat → α) (a b : Nat) {k j : Nat} (v : α) (h : j ≠ k) : u2 f a k v b j = f b j := by simp [u2, h]
theorem u2_fa {α : Type} (f : Nat → Nat → α) {a b : Nat} (k : Nat) (v : α) (h : b ≠ a) : u2 f a k v b = f b := funext fun _ => u2_a f k _ v h
theorem cel_uI {B : Nat} {cA : Nat → ClassId} {σ : Sg} {a b k : Nat} {v : Int32} (h : b ≠ a) : cel B cA (uI σ a k v) b = cel B cA σ b := by
  simp only [cel, tv, uI, sI, sR, sF, sL, u2_fa _ _ _ h]
theorem cel_uR {B : Nat} {cA : Nat → ClassId} {σ : Sg} {a b k : Nat} {v : Option Nat} (h : b ≠ a) : cel B cA (uR σ a k v) b = cel B cA σ b := by
  simp only [cel, tv, uR, sI, sR, sF, sL, u2_fa _ _ _ h]
theorem cel_uF {B : Nat} {cA : Nat → ClassId} {σ : Sg} {a b k : Nat} {v : UInt32} (h : b ≠ a) : cel B cA (uF σ a k v) b = cel B cA σ b := by
  simp only [cel, tv, uF, sI, sR, sF, sL, u2_fa _ _ _ h]
theorem cel_uL {B : Nat} {cA : Nat → ClassId} {σ : Sg} {a b k : Nat} {v : Int64} (h : b ≠ a) : cel B cA (uL σ a k v) b = cel B cA σ b := by
  simp only [cel, tv, uL, sI, sR, sF, sL, u2_fa _ _ _ h]
theorem Hm.set {B : Nat} {D : va_G} {cA : Nat → ClassId} {σ σ' : Sg} {H H1 : Heap} (hm : Hm B D cA σ H) {a : Nat} (hn : sN σ' = sN σ) (hnew : va_at D vwCl (B + a, cel B cA σ' a) H1) (hoth : ∀ b, b ≠ a → cel B cA σ' b = cel B cA σ b) (z : H1.size = H.size) (oq : ∀ q, q ≠ B + a → H1[q]? = H[q]?) : Hm B D cA σ' H1 := by
  refine ⟨by rw [z, hn]; exact hm.1, fun b hb => ?_⟩
  by_cases hba : b = a
  · subst hba; exact hnew
  · rw [hoth b hba]
    exact (hm.2 b (by rw [← hn]; exact hb)).kept (oq _ (by show B + b ≠ B + a; omega))
theorem fs_get {B : Nat} {σ : Sg} {a c k t : Nat} (h : (fty c)[k]? = some t) : ((fty c).mapIdx (fun k t => tv B σ a t k))[k]? = some (tv B σ a t k) := by rw [List.getElem?_mapIdx, h]; rfl
theorem fs_set {B : Nat} {σ σ' : Sg} {a c k t : Nat} {v : Value} (h : (fty c)[k]? = some t) (h1 : tv B σ' a t k = v) (h2 : ∀ j u, j ≠ k → tv B σ' a u j = tv B σ a u j) : (fty c).mapIdx (fun k t => tv B σ' a t k) = ((fty c).mapIdx (fun k t => tv B σ a t k)).set k v := by
  apply List.ext_getElem?
  intro j
  rw [List.getElem?_set, List.getElem?_mapIdx, List.getElem?_mapIdx]
  by_cases hj : k = j
  · subst hj
    have hl : k < (fty c).length := (List.getElem?_eq_some_iff.mp h).1
    rw [h]
    simp [hl, h1]
  · rw [if_neg hj]
    cases (fty c)[j]? with
    | none => rfl
    | some u => simp [h2 j u (Ne.symm hj)]
theorem tv_uI {B : Nat} {σ : Sg} {a k : Nat} {v : Int32} : tv B (uI σ a k v) a 0 k = .int v ∧ ∀ j u, j ≠ k → tv B (uI σ a k v) a u j = tv B σ a u j := by
  refine ⟨by simp [tv, uI, sI, u2_s], fun j u hj => ?_⟩
  simp only [tv, uI, sI, sR, sL, u2_k _ _ _ _ hj]
theorem tv_uR {B : Nat} {σ : Sg} {a k : Nat} {v : Option Nat} : tv B (uR σ a k v) a 1 k = va_rf (v.map (fun b => B + b)) ∧ ∀ j u, j ≠ k → tv B (uR σ a k v) a u j = tv B σ a u j := by
  refine ⟨by simp [tv, uR, sR, u2_s], fun j u hj => ?_⟩
  simp only [tv, uR, sI, sR, sL, u2_k _ _ _ _ hj]
theorem tv_uL {B : Nat} {σ : Sg} {a k : Nat} {v : Int64} : tv B (uL σ a k v) a 2 k = .long v ∧ ∀ j u, j ≠ k → tv B (uL σ a k v) a u j = tv B σ a u j := by
  refine ⟨by simp [tv, uL, sL, u2_s], fun j u hj => ?_⟩
  simp only [tv, uL, sI, sR, sL, u2_k _ _ _ _ hj]
theorem va_P1 {D : va_G} {q : Nat × va_E} {H : Heap} (h : va_at D vwCl q H) : va_P D vwCl [q] H := by
  intro k x hk
  match k with
  | 0 => cases hk; exact h
  | k + 1 => simp at hk
section CORE
variable {p : Program} {l : Launch} {e : Env} {R : Room} {s : State} {m : MethodId} {args : Array Value} {below : List Frame} {meth : Method} {c : Code} {H : Heap} {locs : List Loc} {ce sl : Nat} {Q : State → Prop}
variable {cc : ByteArray} {pc : Nat} {ls : Array Slot} {rest : List Value} {B : Nat} {D : va_G} {cA : Nat → ClassId} {σ : Sg} {own : String}
theorem getW (hx : p.tables.exec = Jvm.exec) (hb : c.code = cc) (ho : s.vm.findClass own = some m.cls) (ht : ∀ w ∈ wsL_law, w.before args s = true) (hn : ∀ w ∈ nwL, va_Nw w s) (hK : va_K D vwCl [] s) (hm : Hm B D cA σ H) {c0 k t idx a : Nat} {C n d : String} {fin : Bool} {ty : FieldType} (hF : Fld c0 k t C n d fin ty) (hl : LkF own idx C n d) (ha : a < sN σ) (hk : kd a = c0) (hd : decode cc pc = .ok (.getfield idx, 3))
    (kk : W p l e R s m args below meth c H locs ce sl Q (F0 m (pc + 3) ls (tv B σ a t k :: rest))) : W p l e R s m args below meth c H locs ce sl Q (F0 m pc ls (.ref (B + a) :: rest)) := by
  obtain ⟨C0, T, N, ty0, f1, f2, f3, f4, f5, f6, f7, f8, f9, f10⟩ := hF
  have hat := hm.2 a ha
  rw [cel_obj hk f7] at hat
  rcases hl with hl | ⟨host, hl⟩
  · exact va_get (D := D) (cl := vwCl) (tys := []) (ref := C) (T := T) hx hb ht f2 ho hK (va_P1 hat) 0 rfl f1 k f3 (by rw [f4]; exact ht _ hl) (fun x h => by rw [f4] at h ⊢; exact h) (fs_get f5) hd kk
  · exact va_getN (D := D) (cl := vwCl) (tys := []) (ref := C) (T := T) (host := host) hx hb ht f2 ho hK (va_P1 hat) 0 rfl f1 k f3 (by rw [f4]; exact va_Nw.use rfl (hn _ hl)) (fun x h => by rw [f4] at h ⊢; exact h) (fs_get f5) hd kk
theorem putW (hx : p.tables.exec = Jvm.exec) (hb : c.code = cc) (ho : s.vm.findClass own = some m.cls) (ht : ∀ w ∈ wsL_law, w.before args s = true) (hn : ∀ w ∈ nwL, va_Nw w s) (hK : va_K D vwCl [] s) (hm : Hm B D cA σ H) (hS : va_S (fun q => B ≤ q) s.heap H locs) {c0 k t idx a : Nat} {C n d : String} {fin : Bool} {ty : FieldType} (hF : Fld c0 k t C n d fin ty) (hl : LkF own idx C n d) (ha : a < sN σ) (hk : kd a = c0) (hfin : fin = false ∨ (meth.name = "<init>" ∧ own = C ∧ Cond.fieldLink own idx C n d ∈ wsL_law)) {v : Value} {σ' : Sg} (hnar : narrow ty v = v) (hfit : fits ty v = true) (hs1 : sN σ' = sN σ) (hs2 : tv B σ' a t k = v ∧ ∀ j u, j ≠ k → tv B σ' a u j = tv B σ a u j) (hs3 : ∀ b, b ≠ a → cel B cA σ' b = cel B cA σ b) (hd : decode cc pc = .ok (.putfield idx, 3))
    (kk : ∀ (H1 : Heap) (locs1 : List Loc), Hm B D cA σ' H1 → va_S (fun q => B ≤ q) s.heap H1 locs1 → W p l e R s m args below meth c H1 locs1 ce sl Q (F0 m (pc + 3) ls rest)) : W p l e R s m args below meth c H locs ce sl Q (F0 m pc ls (v :: .ref (B + a) :: rest)) := by
  obtain ⟨C0, T, N, ty0, f1, f2, f3, f4, f5, f6, f7, f8, f9, f10⟩ := hF
  have hat := hm.2 a ha
  rw [cel_obj hk f7] at hat
  have hap := va_apart (own := own) ht f2 ty0 f8 f9 hK f1
  obtain ⟨r, h1, cell, q1, q2, q3, q4⟩ := hat
  have hr : r = (C0, T, N) := Option.some.inj (h1.symm.trans f1)
  subst hr
  obtain ⟨hSl, hfc, kC, hkC, hkind⟩ := hK.1 c0 _ f1
  obtain ⟨cf, kf, fi, f, hi, hsl⟩ := hSl k f3
  have hi2 : s.fieldFound? C n d = some (cf, kf, fi, f) := by
    have h9 := hi
    dsimp only at h9
    rw [f4] at h9
    exact h9
  have hst := (u_facts hfc hkC (u_lays ht f2 f3) hi).1
  have hlay := ht _ (f2 _ (u_in_lay f3))
  unfold u_lay at hlay
  have hdsc : parseFieldDescriptor (T k).2.2.1 = some ty := by rw [f8 k f3, f10]
  have hlen : k < ((fty c0).mapIdx (fun k t => tv B σ a t k)).length := by rw [List.length_mapIdx, ← f6]; exact f3
  have fin' : ∀ (H' : Heap) (locs1 : List Loc), H'[B + a]? = some (cell.setSlot f.slot v) → H'.size = H.size → (∀ q, q ≠ B + a → H'[q]? = H[q]?) → (locs1 = locs ++ [⟨B + a, f.slot⟩]) → W p l e R s m args below meth c H' locs1 ce sl Q (F0 m (pc + 3) ls rest) := by
    intro H' locs1 e1 e2 e3 e4
    subst e4
    rw [hsl] at e1
    refine kk H' _ (hm.set hs1 ?_ hs3 e2 e3) (hS.put e2 e3 (by show B ≤ B + a; omega))
    rw [cel_obj hk f7, fs_set f5 hs2.1 hs2.2]
    exact ⟨_, f1, t_OB.to (V := updV (vp_V _) k v) ⟨_, e1, q2, q3, t_set q4 hap f3 v⟩ (fun j _ => vp_updV_set hlen v j)⟩
  rcases hfin with hfin | ⟨hin, hown, hl2⟩
  · rw [if_neg (by rw [f4, hfin]; exact Bool.false_ne_true)] at hlay
    have h6 := u_store hfc hkC hkind hlay hi hdsc hnar hfit
    rcases hl with hl | ⟨host, hl⟩
    · exact W.putK hx hb (f := f) ⟨ho, ht _ hl, ⟨_, _, _, hi2⟩, hst⟩ (by rw [q2]; exact h6) q1 q3 (by rw [hsl]; exact k2_hasslot (q4 k f3)) rfl rfl hd (fun H' e1 e2 e3 => fin' H' _ e1 e2 e3 rfl)
    · exact va_WputK hx hb (f := f) ho (va_Nw.use rfl (hn _ hl)) (hi2) hst (by rw [q2]; exact h6) q1 q3 (by rw [hsl]; exact k2_hasslot (q4 k f3)) rfl rfl hd (fun H' e1 e2 e3 => fin' H' _ e1 e2 e3 rfl)
  · by_cases hff : fin = true
    · rw [if_pos (by rw [f4]; exact hff)] at hlay
      have hcf : m.cls = cf := by
        obtain ⟨_, _, c', _, _, _, -, -, hf', -, -, -, hown2, -⟩ := Cond.laysFinal_spec hlay
        have e1 : c' = cf := by have := hi.symm.trans hf'; simp at this; exact this.1.symm
        rw [f4] at hown2
        rw [← e1]; exact Option.some.inj (ho.symm.trans (by rw [hown]; exact hown2))
      have h6 := u_fits hfc hkC hkind (Or.inr hlay) hi hdsc hnar hfit
      exact W.putFinK hx hb ho (ht _ hl2) (hi2) hst hcf hin (by rw [q2]; exact h6) q1 q3 (by rw [hsl]; exact k2_hasslot (q4 k f3)) rfl rfl hd (fun H' e1 e2 e3 => fin' H' _ e1 e2 e3 rfl)
    · rw [if_neg (by rw [f4]; exact hff)] at hlay
      have h6 := u_store hfc hkC hkind hlay hi hdsc hnar hfit
      exact W.putK hx hb (f := f) ⟨ho, ht _ hl2, ⟨_, _, _, hi2⟩, hst⟩ (by rw [q2]; exact h6) q1 q3 (by rw [hsl]; exact k2_hasslot (q4 k f3)) rfl rfl hd (fun H' e1 e2 e3 => fin' H' _ e1 e2 e3 rfl)
theorem iastW (hx : p.tables.exec = Jvm.exec) (hb : c.code = cc) (hA : arK cA s) (hm : Hm B D cA σ H) (hS : va_S (fun q => B ≤ q) s.heap H locs) {a : Nat} (ha : a < sN σ) (hk : kd a = 21) {i v : Int32} (hin : ¬ (i < 0 ∨ ln a ≤ i.toNatClampNeg)) (hd : decode cc pc = .ok (.iastore, 1))
    (kk : ∀ (H1 : Heap) (locs1 : List Loc), Hm B D cA (uI σ a i.toNatClampNeg v) H1 → va_S (fun q => B ≤ q) s.heap H1 locs1 → W p l e R s m args below meth c H1 locs1 ce sl Q (F0 m (pc + 1) ls rest)) : W p l e R s m args below meth c H locs ce sl Q (F0 m pc ls (.int v :: .int i :: .ref (B + a) :: rest)) := by
  have hat := hm.2 a ha
  rw [cel_i hk] at hat
  refine W.iast hx hb hat ((hA 1 rfl).1 (ln a) (fun j => .int (sI σ a j))) (fun q => by cases q) (by show ¬ (i < 0 ∨ (arrV _ _ _).slots.size ≤ _); rw [arrV_size]; exact hin) rfl rfl hd fun H1 e z oq => ?_
  refine kk H1 _ (hm.set rfl ?_ (fun b hb => cel_uI hb) z oq) (hS.put z oq (by show B ≤ B + a; omega))
  rw [cel_i hk]
  show H1[B + a]? = some (vp_cell _ _)
  rw [e]
  rw [vp_cell_i, vp_cell_i, arrV_store]
  congr 2
  funext q
  by_cases hq : q = i.toNatClampNeg
  · subst hq
    simp [updV, uI, sI, u2]
  · simp [updV, uI, sI, u2, hq]
theorem zastW (hx : p.tables.exec = Jvm.exec) (hb : c.code = cc) (hA : arK cA s) (hm : Hm B D cA σ H) (hS : va_S (fun q => B ≤ q) s.heap H locs) {a : Nat} (ha : a < sN σ) (hk : kd a = 22) {i v : Int32} (hin : ¬ (i < 0 ∨ ln a ≤ i.toNatClampNeg)) (hv : v = 0 ∨ v = 1) (hd : decode cc pc = .ok (.bastore, 1))
    (kk : ∀ (H1 : Heap) (locs1 : List Loc), Hm B D cA (uI σ a i.toNatClampNeg v) H1 → va_S (fun q => B ≤ q) s.heap H1 locs1 → W p l e R s m args below meth c H1 locs1 ce sl Q (F0 m (pc + 1) ls rest)) : W p l e R s m args below meth c H locs ce sl Q (F0 m pc ls (.int v :: .int i :: .ref (B + a) :: rest)) := by
  have hat := hm.2 a ha
  rw [cel_z hk] at hat
  have hnar : narrow .boolean (.int v) = .int v := by rcases hv with rfl | rfl <;> rfl
  refine W.zast hx hb hat ((hA 2 rfl).1 (ln a) (fun j => .int (sI σ a j))) (fun q => by cases q) (by show ¬ (i < 0 ∨ (arrV _ _ _).slots.size ≤ _); rw [arrV_size]; exact hin) rfl rfl hd fun H1 e z oq => ?_
  refine kk H1 _ (hm.set rfl ?_ (fun b hb => cel_uI hb) z oq) (hS.put z oq (by show B ≤ B + a; omega))
  rw [cel_z hk]
  show H1[B + a]? = some (vp_cell _ _)
  rw [e, hnar]
  rw [vp_cell_i, vp_cell_i, arrV_store]
  congr 2
  funext q
  by_cases hq : q = i.toNatClampNeg
  · subst hq
    simp [updV, uI, sI, u2]
  · simp [updV, uI, sI, u2, hq]
theorem fastW (hx : p.tables.exec = Jvm.exec) (hb : c.code = cc) (hA : arK cA s) (hm : Hm B D cA σ H) (hS : va_S (fun q => B ≤ q) s.heap H locs) {a : Nat} (ha : a < sN σ) (hk : kd a = 20) {i : Int32} {v : UInt32} (hin : ¬ (i < 0 ∨ ln a ≤ i.toNatClampNeg)) (hd : decode cc pc = .ok (.fastore, 1))
    (kk : ∀ (H1 : Heap) (locs1 : List Loc), Hm B D cA (uF σ a i.toNatClampNeg v) H1 → va_S (fun q => B ≤ q) s.heap H1 locs1 → W p l e R s m args below meth c H1 locs1 ce sl Q (F0 m (pc + 1) ls rest)) : W p l e R s m args below meth c H locs ce sl Q (F0 m pc ls (.float v :: .int i :: .ref (B + a) :: rest)) := by
  have hat := hm.2 a ha
  rw [cel_f hk] at hat
  refine W.fast hx hb hat ((hA 0 rfl).1 (ln a) (fun j => .float (sF σ a j))) (fun q => by cases q) (by show ¬ (i < 0 ∨ (arrV _ _ _).slots.size ≤ _); rw [arrV_size]; exact hin) rfl rfl hd fun H1 e z oq => ?_
  refine kk H1 _ (hm.set rfl ?_ (fun b hb => cel_uF hb) z oq) (hS.put z oq (by show B ≤ B + a; omega))
  rw [cel_f hk]
  show H1[B + a]? = some (vp_cell _ _)
  rw [e]
  rw [vp_cell_f, vp_cell_f, arrV_store]
  congr 2
  funext q
  by_cases hq : q = i.toNatClampNeg
  · subst hq
    simp [updV, uF, sF, u2]
  · simp [updV, uF, sF, u2, hq]
theorem aastW (hx : p.tables.exec = Jvm.exec) (hb : c.code = cc) (hA : arK cA s) (hK : va_K D vwCl [] s) (hm : Hm B D cA σ H) (hS : va_S (fun q => B ≤ q) s.heap H locs) {a c0 : Nat} (ha : a < sN σ) (hk : kd a = 30 + c0) (hok : aok (3 + c0) = true) {C0 : String} {T : u_T} {N : Nat} (hcl : vwCl[c0]? = some (C0, T, N)) (hty : aty (3 + c0) = .object C0) (hc20 : c0 < 20) {i : Int32} {v : Option Nat} (hin : ¬ (i < 0 ∨ ln a ≤ i.toNatClampNeg)) (hv : ∀ b, v = some b → kd b = c0 ∧ b < sN σ) (hd : decode cc pc = .ok (.aastore, 1))
    (kk : ∀ (H1 : Heap) (locs1 : List Loc), Hm B D cA (uR σ a i.toNatClampNeg v) H1 → va_S (fun q => B ≤ q) s.heap H1 locs1 → W p l e R s m args below meth c H1 locs1 ce sl Q (F0 m (pc + 1) ls rest)) : W p l e R s m args below meth c H locs ce sl Q (F0 m pc ls (va_rf (v.map (fun b => B + b)) :: .int i :: .ref (B + a) :: rest)) := by
  have hat := hm.2 a ha
  rw [cel_r hk] at hat
  have fin : ∀ (H1 : Heap) (locs1 : List Loc), H1[B + a]? = some ((vp_cell (cA (3 + c0)) (ln a, .inr (.inr (.inr (.inr (fun j => (sR σ a j).map (fun b => B + b))))))).setSlot i.toNatClampNeg (va_rf (v.map (fun b => B + b)))) → H1.size = H.size → (∀ q, q ≠ B + a → H1[q]? = H[q]?) → locs1 = locs ++ [⟨B + a, i.toNatClampNeg⟩] → W p l e R s m args below meth c H1 locs1 ce sl Q (F0 m (pc + 1) ls rest) := by
    intro H1 locs1 e z oq hl
    subst hl
    refine kk H1 _ (hm.set rfl ?_ (fun b hb => cel_uR hb) z oq) (hS.put z oq (by show B ≤ B + a; omega))
    rw [cel_r hk]
    show H1[B + a]? = some (vp_cell _ _)
    rw [e]
    rw [vp_cell_q, vp_cell_q, arrV_store]
    congr 2
    funext q
    by_cases hq : q = i.toNatClampNeg
    · subst hq
      simp [updV, uR, sR, u2]
    · simp [updV, uR, sR, u2, hq]
  have hAr := hA (3 + c0) hok
  rw [hty] at hAr
  cases v with
  | none =>
    exact va_WaastN (C := C0) hx hb hat (hAr.1 (ln a) (fun j => va_rf ((sR σ a j).map (fun b => B + b)))) (fun h => by cases h) (by show ¬ (i < 0 ∨ (arrV _ _ _).slots.size ≤ _); rw [arrV_size]; exact hin) rfl rfl hd (fun H1 e z oq => fin H1 _ e z oq rfl)
  | some b =>
    obtain ⟨hb1, hb2⟩ := hv b rfl
    have hlt : i.toNatClampNeg < ln a := Nat.not_le.mp fun q => hin (Or.inr q)
    have h0 : ¬ i < 0 := fun q => hin (Or.inl q)
    have hatb := hm.2 b hb2
    rw [cel_obj hb1 hc20] at hatb
    obtain ⟨r', hr', cellV, g1, g2, g3, -⟩ := hatb
    have hcls := (hK.1 c0 _ hcl).2
    obtain ⟨kA, comp, k1, k2, k3, -⟩ := hAr.2
    have hcomp : comp = D.1 c0 := Option.some.inj (k3.symm.trans hcls.1)
    subst hcomp
    obtain ⟨kC, hkC, -⟩ := hcls.2
    exact W.aast hx hb hat (fun q h => by cases h) (fun h => by cases h) k1 k2 rfl hkC ⟨h0, by show _ < (arrV _ _ _).slots.size; rw [arrV_size]; exact hlt⟩ g1 (fun q h => by rw [g3] at h; cases h) (by rw [g2]; exact hkC) (by rw [g2]; exact va_assign hcls) rfl rfl hd (fun H1 e z oq => fin H1 _ e z oq rfl)
end CORE
