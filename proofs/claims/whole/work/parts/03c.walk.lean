def mX8_sheetAt (a0 : Nat) (p1 : Int32) (s0 : Sg) : Option ((Option Nat) × Sg) :=
if p1 < 0 then (
some (none, s0))
else (
gdR s0 8 0 (some a0) fun v1 =>
aln s0 v1 fun v2 =>
if v2 ≤ p1 then (
some (none, s0))
else (
gdR s0 8 0 (some a0) fun v3 =>
alR s0 7 v3 p1 fun v4 =>
some (v4, s0)))
def rmX8_sheetAt : Room := { frames := 0, cells := 0, slots := 0, locals := 0 }
theorem calX8_sheetAt : Cal yX8_sheetAt cX8_sheetAt 2 (some (.object "JumpDesk$Sheet")) 1 := ⟨(mw8 12 rfl), (mw1 2 rfl), by decide, by decide, by decide +kernel⟩
set_option maxHeartbeats 4000000 in
set_option maxRecDepth 100000 in
theorem ctX8_sheetAt (l : Launch) (B : Nat) (D : va_G) (cA : Nat → ClassId) (sa : Nat → Nat) (a0 : Nat) (p1 : Int32) (s0 : Sg) : Ct l B D cA sa yX8_sheetAt cX8_sheetAt 2 (some (.object "JumpDesk$Sheet")) rmX8_sheetAt (rR B) [LR (some a0), LI p1] s0 0 0 (mX8_sheetAt a0 p1 s0) := by
  refine Ct.of (own := RX8) (by decide) rfl _ (Nat.le_of_ble_eq_true rfl) rfl ?_
  intro p e s m args below meth c h hi
  unfold mX8_sheetAt
  refine k_iload_n h 1 dX8_sheetAt_0 rfl rfl ?_
  refine k_if_lt (tgt := 22) h dX8_sheetAt_1 (by decide) ?_ ?_
  · refine k_null h dX8_sheetAt_22 ?_
    exact k_aret h rfl dX8_sheetAt_23 (Nat.le_of_ble_eq_true rfl) (Nat.le_of_ble_eq_true rfl)
  · refine k_iload_n h 1 dX8_sheetAt_4 rfl rfl ?_
    refine k_aload_n h 0 dX8_sheetAt_5 rfl rfl ?_
    refine k_getR h fX8_0 (Or.inl (mw1 13 rfl)) dX8_sheetAt_6 (fun v1 => ?_)
    refine k_aln h dX8_sheetAt_9 (fun v2 => ?_)
    refine k_icmp_ge (tgt := 22) h dX8_sheetAt_10 (by decide) ?_ ?_
    · refine k_null h dX8_sheetAt_22 ?_
      exact k_aret h rfl dX8_sheetAt_23 (Nat.le_of_ble_eq_true rfl) (Nat.le_of_ble_eq_true rfl)
    · refine k_aload_n h 0 dX8_sheetAt_13 rfl rfl ?_
      refine k_getR h fX8_0 (Or.inl (mw1 13 rfl)) dX8_sheetAt_14 (fun v3 => ?_)
      refine k_iload_n h 1 dX8_sheetAt_17 rfl rfl ?_
      refine k_alR h rfl rfl dX8_sheetAt_18 (fun v4 => ?_)
      refine k_goto (tgt := 23) h dX8_sheetAt_19 (by decide) ?_
      exact k_aret h rfl dX8_sheetAt_23 (Nat.le_of_ble_eq_true rfl) (Nat.le_of_ble_eq_true rfl)
def mX8_sheet (a0 : Nat) (p1 : Int32) (p2 : Int32) (s0 : Sg) : Option (Int32 × Sg) :=
cv s0 8 (some a0) fun a6 => cl (mX8_sheetAt a6 p1 s0) fun v1 s2 =>
if v1 = none then (
some ((-1), s2))
else (
if 0 ≤ p2 then (
if p2 ≤ 20 then (
cv s2 7 v1 fun a5 => cl (mX7_begin a5 p2 s2) fun u3 s4 =>
some (1, s4))
else (
some ((-1), s2)))
else (
some ((-4), s2)))
def rmX8_sheet : Room := { frames := 1, cells := 0, slots := 0, locals := 22 }
theorem calX8_sheet : Cal yX8_sheet cX8_sheet 4 (some .int) 2 := ⟨(mw8 8 rfl), (mw1 2 rfl), by decide, by decide, by decide +kernel⟩
set_option maxHeartbeats 4000000 in
set_option maxRecDepth 100000 in
theorem ctX8_sheet (l : Launch) (B : Nat) (D : va_G) (cA : Nat → ClassId) (sa : Nat → Nat) (a0 : Nat) (p1 : Int32) (p2 : Int32) (s0 : Sg) : Ct l B D cA sa yX8_sheet cX8_sheet 4 (some .int) rmX8_sheet rI [LR (some a0), LI p1, LI p2] s0 0 0 (mX8_sheet a0 p1 p2 s0) := by
  refine Ct.of (own := RX8) (by decide) rfl _ (Nat.le_of_ble_eq_true rfl) rfl ?_
  intro p e s m args below meth c h hi
  unfold mX8_sheet
  refine k_aload_n h 0 dX8_sheet_0 rfl rfl ?_
  refine k_iload_n h 1 dX8_sheet_1 rfl rfl ?_
  refine k_callVR (As := [LI p1]) (st := []) (x0 := (some a0)) (xg := fun a6 => mX8_sheetAt a6 p1 s0) h (fun a6 => ctX8_sheetAt l B D cA sa a6 p1 s0) calX8_sheetAt rfl (by decide) (mw8 10 rfl) (mw8 11 rfl) (Or.inl (mw8 9 rfl)) hgood ⟨rfl, rfl, Nat.le_of_ble_eq_true rfl, Nat.le_of_ble_eq_true rfl⟩ ⟨Nat.le_of_ble_eq_true rfl, Nat.le_of_ble_eq_true rfl⟩ rfl (Nat.le_of_ble_eq_true rfl) dX8_sheet_2 (fun v1 s2 => ?_)
  refine k_astore_n (lv' := [(3, LR v1), (0, LR (some a0)), (1, LI p1), (2, LI p2)]) h dX8_sheet_5 rfl (by decide) rfl ?_
  refine k_aload_n h 0 dX8_sheet_6 rfl rfl ?_
  refine k_ifnonnull (tgt := 12) h dX8_sheet_7 (by decide) ?_ ?_
  · refine k_iload_n h 3 dX8_sheet_12 rfl rfl ?_
    refine k_if_ge (tgt := 19) h dX8_sheet_13 (by decide) ?_ ?_
    · refine k_iload_n h 3 dX8_sheet_19 rfl rfl ?_
      refine k_bipush (v := 20) h dX8_sheet_20 (by decide) ?_
      refine k_icmp_le (tgt := 27) h dX8_sheet_22 (by decide) ?_ ?_
      · refine k_aload_n h 0 dX8_sheet_27 rfl rfl ?_
        refine k_iload_n h 3 dX8_sheet_28 rfl rfl ?_
        refine k_callVU (As := [LI p2]) (st := []) (x0 := v1) (xg := fun a5 => mX7_begin a5 p2 s2) h (fun a5 => ctX7_begin l B D cA sa a5 p2 s2) calX7_begin rfl (by decide) (mw8 13 rfl) (mw8 14 rfl) (Or.inr ⟨_, nwm 10 rfl⟩) hgood ⟨rfl, rfl, Nat.le_of_ble_eq_true rfl, Nat.le_of_ble_eq_true rfl⟩ ⟨Nat.le_of_ble_eq_true rfl, Nat.le_of_ble_eq_true rfl⟩ rfl (Nat.le_of_ble_eq_true rfl) dX8_sheet_29 (fun u3 s4 => ?_)
        refine k_iconst (v := 1) h dX8_sheet_32 (by decide) ?_
        exact k_iret h rfl dX8_sheet_33 (Nat.le_of_ble_eq_true rfl) (Nat.le_of_ble_eq_true rfl)
      · refine k_iconst (v := (-1)) h dX8_sheet_25 (by decide) ?_
        exact k_iret h rfl dX8_sheet_26 (Nat.le_of_ble_eq_true rfl) (Nat.le_of_ble_eq_true rfl)
    · refine k_bipush (v := (-4)) h dX8_sheet_16 (by decide) ?_
      exact k_iret h rfl dX8_sheet_18 (Nat.le_of_ble_eq_true rfl) (Nat.le_of_ble_eq_true rfl)
  · refine k_iconst (v := (-1)) h dX8_sheet_10 (by decide) ?_
    exact k_iret h rfl dX8_sheet_11 (Nat.le_of_ble_eq_true rfl) (Nat.le_of_ble_eq_true rfl)
def mX8_within (p1 : Int32) (p2 : Int32) (p3 : Int32) (s0 : Sg) : Option (Int32 × Sg) :=
if p1 < p2 then (
ckB 0 (some (0, s0)))
else (
if p3 < p1 then (
ckB 0 (some (0, s0)))
else (
ckB 1 (some (1, s0))))
def rmX8_within : Room := { frames := 0, cells := 0, slots := 0, locals := 0 }
theorem calX8_within : Cal yX8_within cX8_within 3 (some .boolean) 3 := ⟨(mw9 9 rfl), (mw1 2 rfl), by decide, by decide, by decide +kernel⟩
set_option maxHeartbeats 4000000 in
set_option maxRecDepth 100000 in
theorem ctX8_within (l : Launch) (B : Nat) (D : va_G) (cA : Nat → ClassId) (sa : Nat → Nat) (p1 : Int32) (p2 : Int32) (p3 : Int32) (s0 : Sg) : Ct l B D cA sa yX8_within cX8_within 3 (some .boolean) rmX8_within rI [LI p1, LI p2, LI p3] s0 0 0 (mX8_within p1 p2 p3 s0) := by
  refine Ct.of (own := RX8) (by decide) rfl _ (Nat.le_of_ble_eq_true rfl) rfl ?_
  intro p e s m args below meth c h hi
  unfold mX8_within
  refine k_iload_n h 0 dX8_within_0 rfl rfl ?_
  refine k_iload_n h 1 dX8_within_1 rfl rfl ?_
  refine k_icmp_lt (tgt := 14) h dX8_within_2 (by decide) ?_ ?_
  · refine k_iconst (v := 0) h dX8_within_14 (by decide) ?_
    exact k_zret h rfl dX8_within_15 (Nat.le_of_ble_eq_true rfl) (Nat.le_of_ble_eq_true rfl)
  · refine k_iload_n h 0 dX8_within_5 rfl rfl ?_
    refine k_iload_n h 2 dX8_within_6 rfl rfl ?_
    refine k_icmp_gt (tgt := 14) h dX8_within_7 (by decide) ?_ ?_
    · refine k_iconst (v := 0) h dX8_within_14 (by decide) ?_
      exact k_zret h rfl dX8_within_15 (Nat.le_of_ble_eq_true rfl) (Nat.le_of_ble_eq_true rfl)
    · refine k_iconst (v := 1) h dX8_within_10 (by decide) ?_
      refine k_goto (tgt := 15) h dX8_within_11 (by decide) ?_
      exact k_zret h rfl dX8_within_15 (Nat.le_of_ble_eq_true rfl) (Nat.le_of_ble_eq_true rfl)
def mX8_cell (a0 : Nat) (p1 : Int32) (p2 : Int32) (p3 : Int32) (p4 : Int32) (s0 : Sg) : Option (Int32 × Sg) :=
cv s0 8 (some a0) fun a13 => cl (mX8_sheetAt a13 p1 s0) fun v1 s2 =>
if v1 = none then (
some ((-1), s2))
else (
cl (mX8_within p4 0 20 s2) fun v3 s4 =>
if ¬ v3 = 0 then (
gdI s4 7 3 v1 fun v5 =>
if ¬ v5 = 0 then (
cv s4 7 v1 fun a12 => cl (mX7_has a12 p2 s4) fun v6 s7 =>
if ¬ v6 = 0 then (
ckN (FP.fdiv (FP.i2f p3) (FP.i2f (1 <<< (p4 &&& 31)))) fun v8 =>
cv s7 7 v1 fun a11 => cl (mX7_write a11 p2 v8 s7) fun u9 s10 =>
some (1, s10))
else (
some ((-1), s7)))
else (
some ((-3), s4)))
else (
some ((-1), s4)))
def rmX8_cell : Room := { frames := 2, cells := 0, slots := 0, locals := 43 }
theorem calX8_cell : Cal yX8_cell cX8_cell 6 (some .int) 4 := ⟨(mw9 6 rfl), (mw1 2 rfl), by decide, by decide, by decide +kernel⟩
set_option maxHeartbeats 4000000 in
set_option maxRecDepth 100000 in
theorem ctX8_cell (l : Launch) (B : Nat) (D : va_G) (cA : Nat → ClassId) (sa : Nat → Nat) (a0 : Nat) (p1 : Int32) (p2 : Int32) (p3 : Int32) (p4 : Int32) (s0 : Sg) : Ct l B D cA sa yX8_cell cX8_cell 6 (some .int) rmX8_cell rI [LR (some a0), LI p1, LI p2, LI p3, LI p4] s0 0 0 (mX8_cell a0 p1 p2 p3 p4 s0) := by
  refine Ct.of (own := RX8) (by decide) rfl _ (Nat.le_of_ble_eq_true rfl) rfl ?_
  intro p e s m args below meth c h hi
  unfold mX8_cell
  refine k_aload_n h 0 dX8_cell_0 rfl rfl ?_
  refine k_iload_n h 1 dX8_cell_1 rfl rfl ?_
  refine k_callVR (As := [LI p1]) (st := []) (x0 := (some a0)) (xg := fun a13 => mX8_sheetAt a13 p1 s0) h (fun a13 => ctX8_sheetAt l B D cA sa a13 p1 s0) calX8_sheetAt rfl (by decide) (mw8 10 rfl) (mw8 11 rfl) (Or.inl (mw8 9 rfl)) hgood ⟨rfl, rfl, Nat.le_of_ble_eq_true rfl, Nat.le_of_ble_eq_true rfl⟩ ⟨Nat.le_of_ble_eq_true rfl, Nat.le_of_ble_eq_true rfl⟩ rfl (Nat.le_of_ble_eq_true rfl) dX8_cell_2 (fun v1 s2 => ?_)
  refine k_astore (lv' := [(5, LR v1), (0, LR (some a0)), (1, LI p1), (2, LI p2), (3, LI p3), (4, LI p4)]) h dX8_cell_5 (by decide) rfl ?_
  refine k_aload h 0 dX8_cell_7 rfl ?_
  refine k_ifnull (tgt := 23) h dX8_cell_9 (by decide) ?_ ?_
  · refine k_iconst (v := (-1)) h dX8_cell_23 (by decide) ?_
    exact k_iret h rfl dX8_cell_24 (Nat.le_of_ble_eq_true rfl) (Nat.le_of_ble_eq_true rfl)
  · refine k_iload h 5 dX8_cell_12 rfl ?_
    refine k_iconst (v := 0) h dX8_cell_14 (by decide) ?_
    refine k_bipush (v := 20) h dX8_cell_15 (by decide) ?_
    refine k_callSI (As := [LI p4, LI 0, LI 20]) (st := []) h (ctX8_within l B D cA sa p4 0 20 s2) calX8_within (mw9 8 rfl) (Or.inl (mw9 7 rfl)) hgood ⟨rfl, rfl, Nat.le_of_ble_eq_true rfl, Nat.le_of_ble_eq_true rfl⟩ ⟨Nat.le_of_ble_eq_true rfl, Nat.le_of_ble_eq_true rfl⟩ rfl (Nat.le_of_ble_eq_true rfl) dX8_cell_17 (fun v3 s4 => ?_)
    refine k_if_ne (tgt := 25) h dX8_cell_20 (by decide) ?_ ?_
    · refine k_aload h 0 dX8_cell_25 rfl ?_
      refine k_getI h fX7_3 (Or.inr ⟨_, nwf 2 rfl⟩) dX8_cell_27 (fun v5 => ?_)
      refine k_if_ne (tgt := 36) h dX8_cell_30 (by decide) ?_ ?_
      · refine k_aload h 0 dX8_cell_36 rfl ?_
        refine k_iload_n h 3 dX8_cell_38 rfl rfl ?_
        refine k_callVI (As := [LI p2]) (st := []) (x0 := v1) (xg := fun a12 => mX7_has a12 p2 s4) h (fun a12 => ctX7_has l B D cA sa a12 p2 s4) calX7_has rfl (by decide) (mw9 10 rfl) (mw9 11 rfl) (Or.inr ⟨_, nwm 11 rfl⟩) hgood ⟨rfl, rfl, Nat.le_of_ble_eq_true rfl, Nat.le_of_ble_eq_true rfl⟩ ⟨Nat.le_of_ble_eq_true rfl, Nat.le_of_ble_eq_true rfl⟩ rfl (Nat.le_of_ble_eq_true rfl) dX8_cell_39 (fun v6 s7 => ?_)
        refine k_if_ne (tgt := 47) h dX8_cell_42 (by decide) ?_ ?_
        · refine k_aload h 0 dX8_cell_47 rfl ?_
          refine k_iload_n h 3 dX8_cell_49 rfl rfl ?_
          refine k_iload_n h 4 dX8_cell_50 rfl rfl ?_
          refine k_i2f h dX8_cell_51 ?_
          refine k_iconst (v := 1) h dX8_cell_52 (by decide) ?_
          refine k_iload h 5 dX8_cell_53 rfl ?_
          refine k_ishl h dX8_cell_55 ?_
          refine k_i2f h dX8_cell_56 ?_
          refine k_fdiv h dX8_cell_57 (fun v8 => ?_)
          refine k_callVU (As := [LI p2, LF v8]) (st := []) (x0 := v1) (xg := fun a11 => mX7_write a11 p2 v8 s7) h (fun a11 => ctX7_write l B D cA sa a11 p2 v8 s7) calX7_write rfl (by decide) (mw9 13 rfl) (mw9 14 rfl) (Or.inr ⟨_, nwm 12 rfl⟩) hgood ⟨rfl, rfl, Nat.le_of_ble_eq_true rfl, Nat.le_of_ble_eq_true rfl⟩ ⟨Nat.le_of_ble_eq_true rfl, Nat.le_of_ble_eq_true rfl⟩ rfl (Nat.le_of_ble_eq_true rfl) dX8_cell_58 (fun u9 s10 => ?_)
          refine k_iconst (v := 1) h dX8_cell_61 (by decide) ?_
          exact k_iret h rfl dX8_cell_62 (Nat.le_of_ble_eq_true rfl) (Nat.le_of_ble_eq_true rfl)
        · refine k_iconst (v := (-1)) h dX8_cell_45 (by decide) ?_
          exact k_iret h rfl dX8_cell_46 (Nat.le_of_ble_eq_true rfl) (Nat.le_of_ble_eq_true rfl)
      · refine k_bipush (v := (-3)) h dX8_cell_33 (by decide) ?_
        exact k_iret h rfl dX8_cell_35 (Nat.le_of_ble_eq_true rfl) (Nat.le_of_ble_eq_true rfl)
    · refine k_iconst (v := (-1)) h dX8_cell_23 (by decide) ?_
      exact k_iret h rfl dX8_cell_24 (Nat.le_of_ble_eq_true rfl) (Nat.le_of_ble_eq_true rfl)
def mX8_gap (a0 : Nat) (p1 : Int32) (p2 : Int32) (s0 : Sg) : Option (Int32 × Sg) :=
cv s0 8 (some a0) fun a10 => cl (mX8_sheetAt a10 p1 s0) fun v1 s2 =>
if v1 = none then (
some ((-1), s2))
else (
gdI s2 7 3 v1 fun v3 =>
if ¬ v3 = 0 then (
cv s2 7 v1 fun a9 => cl (mX7_has a9 p2 s2) fun v4 s5 =>
if ¬ v4 = 0 then (
cv s5 7 v1 fun a8 => cl (mX7_blank a8 p2 s5) fun u6 s7 =>
some (1, s7))
else (
some ((-1), s5)))
else (
some ((-3), s2)))
def rmX8_gap : Room := { frames := 2, cells := 0, slots := 0, locals := 42 }
theorem calX8_gap : Cal yX8_gap cX8_gap 4 (some .int) 2 := ⟨(mw10 1 rfl), (mw1 2 rfl), by decide, by decide, by decide +kernel⟩
set_option maxHeartbeats 4000000 in
set_option maxRecDepth 100000 in
theorem ctX8_gap (l : Launch) (B : Nat) (D : va_G) (cA : Nat → ClassId) (sa : Nat → Nat) (a0 : Nat) (p1 : Int32) (p2 : Int32) (s0 : Sg) : Ct l B D cA sa yX8_gap cX8_gap 4 (some .int) rmX8_gap rI [LR (some a0), LI p1, LI p2] s0 0 0 (mX8_gap a0 p1 p2 s0) := by
  refine Ct.of (own := RX8) (by decide) rfl _ (Nat.le_of_ble_eq_true rfl) rfl ?_
  intro p e s m args below meth c h hi
  unfold mX8_gap
  refine k_aload_n h 0 dX8_gap_0 rfl rfl ?_
  refine k_iload_n h 1 dX8_gap_1 rfl rfl ?_
  refine k_callVR (As := [LI p1]) (st := []) (x0 := (some a0)) (xg := fun a10 => mX8_sheetAt a10 p1 s0) h (fun a10 => ctX8_sheetAt l B D cA sa a10 p1 s0) calX8_sheetAt rfl (by decide) (mw8 10 rfl) (mw8 11 rfl) (Or.inl (mw8 9 rfl)) hgood ⟨rfl, rfl, Nat.le_of_ble_eq_true rfl, Nat.le_of_ble_eq_true rfl⟩ ⟨Nat.le_of_ble_eq_true rfl, Nat.le_of_ble_eq_true rfl⟩ rfl (Nat.le_of_ble_eq_true rfl) dX8_gap_2 (fun v1 s2 => ?_)
  refine k_astore_n (lv' := [(3, LR v1), (0, LR (some a0)), (1, LI p1), (2, LI p2)]) h dX8_gap_5 rfl (by decide) rfl ?_
  refine k_aload_n h 0 dX8_gap_6 rfl rfl ?_
  refine k_ifnonnull (tgt := 12) h dX8_gap_7 (by decide) ?_ ?_
  · refine k_aload_n h 0 dX8_gap_12 rfl rfl ?_
    refine k_getI h fX7_3 (Or.inr ⟨_, nwf 2 rfl⟩) dX8_gap_13 (fun v3 => ?_)
    refine k_if_ne (tgt := 22) h dX8_gap_16 (by decide) ?_ ?_
    · refine k_aload_n h 0 dX8_gap_22 rfl rfl ?_
      refine k_iload_n h 3 dX8_gap_23 rfl rfl ?_
      refine k_callVI (As := [LI p2]) (st := []) (x0 := v1) (xg := fun a9 => mX7_has a9 p2 s2) h (fun a9 => ctX7_has l B D cA sa a9 p2 s2) calX7_has rfl (by decide) (mw9 10 rfl) (mw9 11 rfl) (Or.inr ⟨_, nwm 11 rfl⟩) hgood ⟨rfl, rfl, Nat.le_of_ble_eq_true rfl, Nat.le_of_ble_eq_true rfl⟩ ⟨Nat.le_of_ble_eq_true rfl, Nat.le_of_ble_eq_true rfl⟩ rfl (Nat.le_of_ble_eq_true rfl) dX8_gap_24 (fun v4 s5 => ?_)
      refine k_if_ne (tgt := 32) h dX8_gap_27 (by decide) ?_ ?_
      · refine k_aload_n h 0 dX8_gap_32 rfl rfl ?_
        refine k_iload_n h 3 dX8_gap_33 rfl rfl ?_
        refine k_callVU (As := [LI p2]) (st := []) (x0 := v1) (xg := fun a8 => mX7_blank a8 p2 s5) h (fun a8 => ctX7_blank l B D cA sa a8 p2 s5) calX7_blank rfl (by decide) (mw10 2 rfl) (mw10 3 rfl) (Or.inr ⟨_, nwm 13 rfl⟩) hgood ⟨rfl, rfl, Nat.le_of_ble_eq_true rfl, Nat.le_of_ble_eq_true rfl⟩ ⟨Nat.le_of_ble_eq_true rfl, Nat.le_of_ble_eq_true rfl⟩ rfl (Nat.le_of_ble_eq_true rfl) dX8_gap_34 (fun u6 s7 => ?_)
        refine k_iconst (v := 1) h dX8_gap_37 (by decide) ?_
        exact k_iret h rfl dX8_gap_38 (Nat.le_of_ble_eq_true rfl) (Nat.le_of_ble_eq_true rfl)
      · refine k_iconst (v := (-1)) h dX8_gap_30 (by decide) ?_
        exact k_iret h rfl dX8_gap_31 (Nat.le_of_ble_eq_true rfl) (Nat.le_of_ble_eq_true rfl)
    · refine k_bipush (v := (-3)) h dX8_gap_19 (by decide) ?_
      exact k_iret h rfl dX8_gap_21 (Nat.le_of_ble_eq_true rfl) (Nat.le_of_ble_eq_true rfl)
  · refine k_iconst (v := (-1)) h dX8_gap_10 (by decide) ?_
    exact k_iret h rfl dX8_gap_11 (Nat.le_of_ble_eq_true rfl) (Nat.le_of_ble_eq_true rfl)
def mX8_lose (a0 : Nat) (p1 : Int32) (s0 : Sg) : Option (Int32 × Sg) :=
cv s0 8 (some a0) fun a5 => cl (mX8_sheetAt a5 p1 s0) fun v1 s2 =>
if v1 = none then (
some ((-1), s2))
else (
gdI s2 7 3 v1 fun v3 =>
if ¬ v3 = 0 then (
ptZ s2 7 3 v1 0 fun s4 =>
some (1, s4))
else (
some ((-3), s2)))
def rmX8_lose : Room := { frames := 1, cells := 0, slots := 0, locals := 21 }
theorem calX8_lose : Cal yX8_lose cX8_lose 3 (some .int) 1 := ⟨(mw10 12 rfl), (mw1 2 rfl), by decide, by decide, by decide +kernel⟩
set_option maxHeartbeats 4000000 in
set_option maxRecDepth 100000 in
theorem ctX8_lose (l : Launch) (B : Nat) (D : va_G) (cA : Nat → ClassId) (sa : Nat → Nat) (a0 : Nat) (p1 : Int32) (s0 : Sg) : Ct l B D cA sa yX8_lose cX8_lose 3 (some .int) rmX8_lose rI [LR (some a0), LI p1] s0 0 0 (mX8_lose a0 p1 s0) := by
  refine Ct.of (own := RX8) (by decide) rfl _ (Nat.le_of_ble_eq_true rfl) rfl ?_
  intro p e s m args below meth c h hi
  unfold mX8_lose
  refine k_aload_n h 0 dX8_lose_0 rfl rfl ?_
  refine k_iload_n h 1 dX8_lose_1 rfl rfl ?_
  refine k_callVR (As := [LI p1]) (st := []) (x0 := (some a0)) (xg := fun a5 => mX8_sheetAt a5 p1 s0) h (fun a5 => ctX8_sheetAt l B D cA sa a5 p1 s0) calX8_sheetAt rfl (by decide) (mw8 10 rfl) (mw8 11 rfl) (Or.inl (mw8 9 rfl)) hgood ⟨rfl, rfl, Nat.le_of_ble_eq_true rfl, Nat.le_of_ble_eq_true rfl⟩ ⟨Nat.le_of_ble_eq_true rfl, Nat.le_of_ble_eq_true rfl⟩ rfl (Nat.le_of_ble_eq_true rfl) dX8_lose_2 (fun v1 s2 => ?_)
  refine k_astore_n (lv' := [(2, LR v1), (0, LR (some a0)), (1, LI p1)]) h dX8_lose_5 rfl (by decide) rfl ?_
  refine k_aload_n h 0 dX8_lose_6 rfl rfl ?_
  refine k_ifnonnull (tgt := 12) h dX8_lose_7 (by decide) ?_ ?_
  · refine k_aload_n h 0 dX8_lose_12 rfl rfl ?_
    refine k_getI h fX7_3 (Or.inr ⟨_, nwf 2 rfl⟩) dX8_lose_13 (fun v3 => ?_)
    refine k_if_ne (tgt := 22) h dX8_lose_16 (by decide) ?_ ?_
    · refine k_aload_n h 0 dX8_lose_22 rfl rfl ?_
      refine k_iconst (v := 0) h dX8_lose_23 (by decide) ?_
      refine k_putZ h fX7_3 (Or.inr ⟨_, nwf 2 rfl⟩) rfl dX8_lose_24 (fun s4 => ?_)
      refine k_iconst (v := 1) h dX8_lose_27 (by decide) ?_
      exact k_iret h rfl dX8_lose_28 (Nat.le_of_ble_eq_true rfl) (Nat.le_of_ble_eq_true rfl)
    · refine k_bipush (v := (-3)) h dX8_lose_19 (by decide) ?_
      exact k_iret h rfl dX8_lose_21 (Nat.le_of_ble_eq_true rfl) (Nat.le_of_ble_eq_true rfl)
  · refine k_iconst (v := (-1)) h dX8_lose_10 (by decide) ?_
    exact k_iret h rfl dX8_lose_11 (Nat.le_of_ble_eq_true rfl) (Nat.le_of_ble_eq_true rfl)
def mX8_told (a0 : Nat) (p1 : Int32) (p2 : Int32) (s0 : Sg) : Option (Int32 × Sg) :=
cv s0 8 (some a0) fun a11 => cl (mX8_sheetAt a11 p1 s0) fun v1 s2 =>
if v1 = none then (
some ((-2147483648), s2))
else (
gdI s2 7 3 v1 fun v3 =>
if v3 = 0 then (
some ((-2147483648), s2))
else (
cv s2 7 v1 fun a10 => cl (mX7_has a10 p2 s2) fun v4 s5 =>
if ¬ v4 = 0 then (
cv s5 7 v1 fun a9 => cl (mX7_filled a9 p2 s5) fun v6 s7 =>
ckN (FP.fmul v6 1148846080) fun v8 =>
some ((FP.f2i v8), s7))
else (
some ((-2147483648), s5))))
def rmX8_told : Room := { frames := 2, cells := 0, slots := 0, locals := 45 }
theorem calX8_told : Cal yX8_told cX8_told 4 (some .int) 2 := ⟨(mw10 20 rfl), (mw1 2 rfl), by decide, by decide, by decide +kernel⟩
set_option maxHeartbeats 4000000 in
set_option maxRecDepth 100000 in
theorem ctX8_told (l : Launch) (B : Nat) (D : va_G) (cA : Nat → ClassId) (sa : Nat → Nat) (a0 : Nat) (p1 : Int32) (p2 : Int32) (s0 : Sg) : Ct l B D cA sa yX8_told cX8_told 4 (some .int) rmX8_told rI [LR (some a0), LI p1, LI p2] s0 0 0 (mX8_told a0 p1 p2 s0) := by
  refine Ct.of (own := RX8) (by decide) rfl _ (Nat.le_of_ble_eq_true rfl) rfl ?_
  intro p e s m args below meth c h hi
  unfold mX8_told
  refine k_aload_n h 0 dX8_told_0 rfl rfl ?_
  refine k_iload_n h 1 dX8_told_1 rfl rfl ?_
  refine k_callVR (As := [LI p1]) (st := []) (x0 := (some a0)) (xg := fun a11 => mX8_sheetAt a11 p1 s0) h (fun a11 => ctX8_sheetAt l B D cA sa a11 p1 s0) calX8_sheetAt rfl (by decide) (mw8 10 rfl) (mw8 11 rfl) (Or.inl (mw8 9 rfl)) hgood ⟨rfl, rfl, Nat.le_of_ble_eq_true rfl, Nat.le_of_ble_eq_true rfl⟩ ⟨Nat.le_of_ble_eq_true rfl, Nat.le_of_ble_eq_true rfl⟩ rfl (Nat.le_of_ble_eq_true rfl) dX8_told_2 (fun v1 s2 => ?_)
  refine k_astore_n (lv' := [(3, LR v1), (0, LR (some a0)), (1, LI p1), (2, LI p2)]) h dX8_told_5 rfl (by decide) rfl ?_
  refine k_aload_n h 0 dX8_told_6 rfl rfl ?_
  refine k_ifnull (tgt := 25) h dX8_told_7 (by decide) ?_ ?_
  · refine k_ldc (v := (-2147483648)) h dX8_told_25 (mw10 21 rfl) ?_
    exact k_iret h rfl dX8_told_27 (Nat.le_of_ble_eq_true rfl) (Nat.le_of_ble_eq_true rfl)
  · refine k_aload_n h 0 dX8_told_10 rfl rfl ?_
    refine k_getI h fX7_3 (Or.inr ⟨_, nwf 2 rfl⟩) dX8_told_11 (fun v3 => ?_)
    refine k_if_eq (tgt := 25) h dX8_told_14 (by decide) ?_ ?_
    · refine k_ldc (v := (-2147483648)) h dX8_told_25 (mw10 21 rfl) ?_
      exact k_iret h rfl dX8_told_27 (Nat.le_of_ble_eq_true rfl) (Nat.le_of_ble_eq_true rfl)
    · refine k_aload_n h 0 dX8_told_17 rfl rfl ?_
      refine k_iload_n h 3 dX8_told_18 rfl rfl ?_
      refine k_callVI (As := [LI p2]) (st := []) (x0 := v1) (xg := fun a10 => mX7_has a10 p2 s2) h (fun a10 => ctX7_has l B D cA sa a10 p2 s2) calX7_has rfl (by decide) (mw9 10 rfl) (mw9 11 rfl) (Or.inr ⟨_, nwm 11 rfl⟩) hgood ⟨rfl, rfl, Nat.le_of_ble_eq_true rfl, Nat.le_of_ble_eq_true rfl⟩ ⟨Nat.le_of_ble_eq_true rfl, Nat.le_of_ble_eq_true rfl⟩ rfl (Nat.le_of_ble_eq_true rfl) dX8_told_19 (fun v4 s5 => ?_)
      refine k_if_ne (tgt := 28) h dX8_told_22 (by decide) ?_ ?_
      · refine k_aload_n h 0 dX8_told_28 rfl rfl ?_
        refine k_iload_n h 3 dX8_told_29 rfl rfl ?_
        refine k_callVF (As := [LI p2]) (st := []) (x0 := v1) (xg := fun a9 => mX7_filled a9 p2 s5) h (fun a9 => ctX7_filled l B D cA sa a9 p2 s5) calX7_filled rfl (by decide) (mw10 23 rfl) (mw11 0 rfl) (Or.inr ⟨_, nwm 14 rfl⟩) hgood ⟨rfl, rfl, Nat.le_of_ble_eq_true rfl, Nat.le_of_ble_eq_true rfl⟩ ⟨Nat.le_of_ble_eq_true rfl, Nat.le_of_ble_eq_true rfl⟩ rfl (Nat.le_of_ble_eq_true rfl) dX8_told_30 (fun v6 s7 => ?_)
        refine k_ldcf (v := 1148846080) h dX8_told_33 (mw10 22 rfl) ?_
        refine k_fmul h dX8_told_35 (fun v8 => ?_)
        refine k_f2i h dX8_told_36 ?_
        exact k_iret h rfl dX8_told_37 (Nat.le_of_ble_eq_true rfl) (Nat.le_of_ble_eq_true rfl)
      · refine k_ldc (v := (-2147483648)) h dX8_told_25 (mw10 21 rfl) ?_
        exact k_iret h rfl dX8_told_27 (Nat.le_of_ble_eq_true rfl) (Nat.le_of_ble_eq_true rfl)
def mX8_isWind (p1 : Int32) (s0 : Sg) : Option (Int32 × Sg) :=
cl (mX8_within p1 (-300) 300 s0) fun v1 s2 =>
ckB v1 (some (v1, s2))
def rmX8_isWind : Room := { frames := 1, cells := 0, slots := 0, locals := 22 }
theorem calX8_isWind : Cal yX8_isWind cX8_isWind 1 (some .boolean) 1 := ⟨(mw12 18 rfl), (mw1 2 rfl), by decide, by decide, by decide +kernel⟩
set_option maxHeartbeats 4000000 in
set_option maxRecDepth 100000 in
theorem ctX8_isWind (l : Launch) (B : Nat) (D : va_G) (cA : Nat → ClassId) (sa : Nat → Nat) (p1 : Int32) (s0 : Sg) : Ct l B D cA sa yX8_isWind cX8_isWind 1 (some .boolean) rmX8_isWind rI [LI p1] s0 0 0 (mX8_isWind p1 s0) := by
  refine Ct.of (own := RX8) (by decide) rfl _ (Nat.le_of_ble_eq_true rfl) rfl ?_
  intro p e s m args below meth c h hi
  unfold mX8_isWind
  refine k_iload_n h 0 dX8_isWind_0 rfl rfl ?_
  refine k_sipush (v := (-300)) h dX8_isWind_1 (by decide) ?_
  refine k_sipush (v := 300) h dX8_isWind_4 (by decide) ?_
  refine k_callSI (As := [LI p1, LI (-300), LI 300]) (st := []) h (ctX8_within l B D cA sa p1 (-300) 300 s0) calX8_within (mw9 8 rfl) (Or.inl (mw9 7 rfl)) hgood ⟨rfl, rfl, Nat.le_of_ble_eq_true rfl, Nat.le_of_ble_eq_true rfl⟩ ⟨Nat.le_of_ble_eq_true rfl, Nat.le_of_ble_eq_true rfl⟩ rfl (Nat.le_of_ble_eq_true rfl) dX8_isWind_7 (fun v1 s2 => ?_)
  exact k_zret h rfl dX8_isWind_10 (Nat.le_of_ble_eq_true rfl) (Nat.le_of_ble_eq_true rfl)
def mX8_tellsWinds_b11 (p1 : Option Nat) (r4 : (Int32) → Sg → Option (Int32 × Sg)) (q2 : Int32) (s3 : Sg) : Option (Int32 × Sg) :=
if 12 ≤ q2 then (
ckB 1 (some (1, s3)))
else (
cv s3 7 p1 fun a9 => cl (mX7_windOf a9 q2 s3) fun v5 s6 =>
cl (mX8_isWind v5 s6) fun v7 s8 =>
if ¬ v7 = 0 then (
r4 (q2 + 1) s8)
else (
ckB 0 (some (0, s8))))
def mX8_tellsWinds (p1 : Option Nat) (s0 : Sg) : Option (Int32 × Sg) :=
gdI s0 7 2 p1 fun v1 =>
if ¬ v1 = 0 then (
lp (mX8_tellsWinds_b11 p1) FU 0 s0)
else (
ckB 0 (some (0, s0)))
def rmX8_tellsWinds : Room := { frames := 3, cells := 0, slots := 0, locals := 66 }
theorem calX8_tellsWinds : Cal yX8_tellsWinds cX8_tellsWinds 2 (some .boolean) 1 := ⟨(mw12 6 rfl), (mw1 2 rfl), by decide, by decide, by decide +kernel⟩
set_option maxHeartbeats 4000000 in
set_option maxRecDepth 100000 in
theorem ctX8_tellsWinds (l : Launch) (B : Nat) (D : va_G) (cA : Nat → ClassId) (sa : Nat → Nat) (p1 : Option Nat) (s0 : Sg) : Ct l B D cA sa yX8_tellsWinds cX8_tellsWinds 2 (some .boolean) rmX8_tellsWinds rI [LR p1] s0 0 0 (mX8_tellsWinds p1 s0) := by
  refine Ct.of (own := RX8) (by decide) rfl _ (Nat.le_of_ble_eq_true rfl) rfl ?_
  intro p e s m args below meth c h hi
  unfold mX8_tellsWinds
  refine k_aload_n h 0 dX8_tellsWinds_0 rfl rfl ?_
  refine k_getI h fX7_2 (Or.inr ⟨_, nwf 1 rfl⟩) dX8_tellsWinds_1 (fun v1 => ?_)
  refine k_if_ne (tgt := 9) h dX8_tellsWinds_4 (by decide) ?_ ?_
  · refine k_iconst (v := 0) h dX8_tellsWinds_9 (by decide) ?_
    refine k_istore_n (lv' := [(1, LI 0), (0, LR p1)]) h dX8_tellsWinds_10 rfl (by decide) rfl ?_
    refine k_sub (lv' := [(0, LR p1), (1, LI 0)]) h [1, 0] rfl ?_
    refine k_lp (A := Int32) (fun q2 => [(0, LR p1), (1, LI q2)]) (fun q2 => []) (fun r4 hr4 q2 s3 => ?_) FU 0 s0
    unfold mX8_tellsWinds_b11
    refine k_iload_n h 1 dX8_tellsWinds_11 rfl rfl ?_
    refine k_bipush (v := 12) h dX8_tellsWinds_12 (by decide) ?_
    refine k_icmp_ge (tgt := 36) h dX8_tellsWinds_14 (by decide) ?_ ?_
    · refine k_iconst (v := 1) h dX8_tellsWinds_36 (by decide) ?_
      exact k_zret h rfl dX8_tellsWinds_37 (Nat.le_of_ble_eq_true rfl) (Nat.le_of_ble_eq_true rfl)
    · refine k_aload_n h 0 dX8_tellsWinds_17 rfl rfl ?_
      refine k_iload_n h 1 dX8_tellsWinds_18 rfl rfl ?_
      refine k_callVI (As := [LI q2]) (st := []) (x0 := p1) (xg := fun a9 => mX7_windOf a9 q2 s3) h (fun a9 => ctX7_windOf l B D cA sa a9 q2 s3) calX7_windOf rfl (by decide) (mw12 7 rfl) (mw12 8 rfl) (Or.inr ⟨_, nwm 15 rfl⟩) hgood ⟨rfl, rfl, Nat.le_of_ble_eq_true rfl, Nat.le_of_ble_eq_true rfl⟩ ⟨Nat.le_of_ble_eq_true rfl, Nat.le_of_ble_eq_true rfl⟩ rfl (Nat.le_of_ble_eq_true rfl) dX8_tellsWinds_19 (fun v5 s6 => ?_)
      refine k_callSI (As := [LI v5]) (st := []) h (ctX8_isWind l B D cA sa v5 s6) calX8_isWind (mw12 17 rfl) (Or.inl (mw12 16 rfl)) hgood ⟨rfl, rfl, Nat.le_of_ble_eq_true rfl, Nat.le_of_ble_eq_true rfl⟩ ⟨Nat.le_of_ble_eq_true rfl, Nat.le_of_ble_eq_true rfl⟩ rfl (Nat.le_of_ble_eq_true rfl) dX8_tellsWinds_22 (fun v7 s8 => ?_)
      refine k_if_ne (tgt := 30) h dX8_tellsWinds_25 (by decide) ?_ ?_
      · refine k_iinc (w := (q2 + 1)) (lv' := [(1, LI (q2 + 1)), (0, LR p1)]) h 1 dX8_tellsWinds_30 rfl rfl (by decide) rfl ?_
        refine k_goto (tgt := 11) h dX8_tellsWinds_33 (by decide) ?_
        refine k_sub (lv' := [(0, LR p1), (1, LI (q2 + 1))]) h [1, 0] rfl ?_
        exact hr4 (q2 + 1) s8
      · refine k_iconst (v := 0) h dX8_tellsWinds_28 (by decide) ?_
        exact k_zret h rfl dX8_tellsWinds_29 (Nat.le_of_ble_eq_true rfl) (Nat.le_of_ble_eq_true rfl)
  · refine k_iconst (v := 0) h dX8_tellsWinds_7 (by decide) ?_
    exact k_zret h rfl dX8_tellsWinds_8 (Nat.le_of_ble_eq_true rfl) (Nat.le_of_ble_eq_true rfl)
def mX8_winds_b62 (a0 : Nat) (v1 : Option Nat) (v3 : Option Nat) (r13 : (Int32) → Sg → Option (Int32 × Sg)) (q11 : Int32) (s12 : Sg) : Option (Int32 × Sg) :=
if 12 ≤ q11 then (
some (1, s12))
else (
gdR s12 8 1 (some a0) fun v14 =>
cv s12 7 v1 fun a23 => cl (mX7_windOf a23 q11 s12) fun v15 s16 =>
cv s16 7 v3 fun a22 => cl (mX7_windOf a22 q11 s16) fun v17 s18 =>
cv s18 0 v14 fun a21 => cl (mX0_blowAt a21 q11 v15 v17 s18) fun u19 s20 =>
r13 (q11 + 1) s20)
def mX8_winds (a0 : Nat) (p1 : Int32) (p2 : Int32) (s0 : Sg) : Option (Int32 × Sg) :=
cv s0 8 (some a0) fun a26 => cl (mX8_sheetAt a26 p1 s0) fun v1 s2 =>
cv s2 8 (some a0) fun a25 => cl (mX8_sheetAt a25 p2 s2) fun v3 s4 =>
if v1 = none then (
some ((-1), s4))
else (
if v3 = none then (
some ((-1), s4))
else (
gdI s4 7 3 v1 fun v5 =>
if v5 = 0 then (
some ((-3), s4))
else (
gdI s4 7 3 v3 fun v6 =>
if ¬ v6 = 0 then (
cl (mX8_tellsWinds v1 s4) fun v7 s8 =>
if v7 = 0 then (
some ((-1), s8))
else (
cl (mX8_tellsWinds v3 s8) fun v9 s10 =>
if ¬ v9 = 0 then (
lp (mX8_winds_b62 a0 v1 v3) FU 0 s10)
else (
some ((-1), s10))))
else (
some ((-3), s4)))))
def rmX8_winds : Room := { frames := 4, cells := 0, slots := 0, locals := 87 }
theorem calX8_winds : Cal yX8_winds cX8_winds 6 (some .int) 2 := ⟨(mw12 3 rfl), (mw1 2 rfl), by decide, by decide, by decide +kernel⟩
set_option maxHeartbeats 4000000 in
set_option maxRecDepth 100000 in
theorem ctX8_winds (l : Launch) (B : Nat) (D : va_G) (cA : Nat → ClassId) (sa : Nat → Nat) (a0 : Nat) (p1 : Int32) (p2 : Int32) (s0 : Sg) : Ct l B D cA sa yX8_winds cX8_winds 6 (some .int) rmX8_winds rI [LR (some a0), LI p1, LI p2] s0 0 0 (mX8_winds a0 p1 p2 s0) := by
  refine Ct.of (own := RX8) (by decide) rfl _ (Nat.le_of_ble_eq_true rfl) rfl ?_
  intro p e s m args below meth c h hi
  unfold mX8_winds
  refine k_aload_n h 0 dX8_winds_0 rfl rfl ?_
  refine k_iload_n h 1 dX8_winds_1 rfl rfl ?_
  refine k_callVR (As := [LI p1]) (st := []) (x0 := (some a0)) (xg := fun a26 => mX8_sheetAt a26 p1 s0) h (fun a26 => ctX8_sheetAt l B D cA sa a26 p1 s0) calX8_sheetAt rfl (by decide) (mw8 10 rfl) (mw8 11 rfl) (Or.inl (mw8 9 rfl)) hgood ⟨rfl, rfl, Nat.le_of_ble_eq_true rfl, Nat.le_of_ble_eq_true rfl⟩ ⟨Nat.le_of_ble_eq_true rfl, Nat.le_of_ble_eq_true rfl⟩ rfl (Nat.le_of_ble_eq_true rfl) dX8_winds_2 (fun v1 s2 => ?_)
  refine k_astore_n (lv' := [(3, LR v1), (0, LR (some a0)), (1, LI p1), (2, LI p2)]) h dX8_winds_5 rfl (by decide) rfl ?_
  refine k_aload_n h 1 dX8_winds_6 rfl rfl ?_
  refine k_iload_n h 3 dX8_winds_7 rfl rfl ?_
  refine k_callVR (As := [LI p2]) (st := []) (x0 := (some a0)) (xg := fun a25 => mX8_sheetAt a25 p2 s2) h (fun a25 => ctX8_sheetAt l B D cA sa a25 p2 s2) calX8_sheetAt rfl (by decide) (mw8 10 rfl) (mw8 11 rfl) (Or.inl (mw8 9 rfl)) hgood ⟨rfl, rfl, Nat.le_of_ble_eq_true rfl, Nat.le_of_ble_eq_true rfl⟩ ⟨Nat.le_of_ble_eq_true rfl, Nat.le_of_ble_eq_true rfl⟩ rfl (Nat.le_of_ble_eq_true rfl) dX8_winds_8 (fun v3 s4 => ?_)
  refine k_astore (lv' := [(4, LR v3), (3, LR v1), (0, LR (some a0)), (1, LI p1), (2, LI p2)]) h dX8_winds_11 (by decide) rfl ?_
  refine k_aload_n h 1 dX8_winds_13 rfl rfl ?_
  refine k_ifnull (tgt := 22) h dX8_winds_14 (by decide) ?_ ?_
  · refine k_iconst (v := (-1)) h dX8_winds_22 (by decide) ?_
    exact k_iret h rfl dX8_winds_23 (Nat.le_of_ble_eq_true rfl) (Nat.le_of_ble_eq_true rfl)
  · refine k_aload h 0 dX8_winds_17 rfl ?_
    refine k_ifnonnull (tgt := 24) h dX8_winds_19 (by decide) ?_ ?_
    · refine k_aload_n h 1 dX8_winds_24 rfl rfl ?_
      refine k_getI h fX7_3 (Or.inr ⟨_, nwf 2 rfl⟩) dX8_winds_25 (fun v5 => ?_)
      refine k_if_eq (tgt := 39) h dX8_winds_28 (by decide) ?_ ?_
      · refine k_bipush (v := (-3)) h dX8_winds_39 (by decide) ?_
        exact k_iret h rfl dX8_winds_41 (Nat.le_of_ble_eq_true rfl) (Nat.le_of_ble_eq_true rfl)
      · refine k_aload h 0 dX8_winds_31 rfl ?_
        refine k_getI h fX7_3 (Or.inr ⟨_, nwf 2 rfl⟩) dX8_winds_33 (fun v6 => ?_)
        refine k_if_ne (tgt := 42) h dX8_winds_36 (by decide) ?_ ?_
        · refine k_aload_n h 1 dX8_winds_42 rfl rfl ?_
          refine k_callSI (As := [LR v1]) (st := []) h (ctX8_tellsWinds l B D cA sa v1 s4) calX8_tellsWinds (mw12 5 rfl) (Or.inl (mw12 4 rfl)) hgood ⟨rfl, rfl, Nat.le_of_ble_eq_true rfl, Nat.le_of_ble_eq_true rfl⟩ ⟨Nat.le_of_ble_eq_true rfl, Nat.le_of_ble_eq_true rfl⟩ rfl (Nat.le_of_ble_eq_true rfl) dX8_winds_43 (fun v7 s8 => ?_)
          refine k_if_eq (tgt := 57) h dX8_winds_46 (by decide) ?_ ?_
          · refine k_iconst (v := (-1)) h dX8_winds_57 (by decide) ?_
            exact k_iret h rfl dX8_winds_58 (Nat.le_of_ble_eq_true rfl) (Nat.le_of_ble_eq_true rfl)
          · refine k_aload h 0 dX8_winds_49 rfl ?_
            refine k_callSI (As := [LR v3]) (st := []) h (ctX8_tellsWinds l B D cA sa v3 s8) calX8_tellsWinds (mw12 5 rfl) (Or.inl (mw12 4 rfl)) hgood ⟨rfl, rfl, Nat.le_of_ble_eq_true rfl, Nat.le_of_ble_eq_true rfl⟩ ⟨Nat.le_of_ble_eq_true rfl, Nat.le_of_ble_eq_true rfl⟩ rfl (Nat.le_of_ble_eq_true rfl) dX8_winds_51 (fun v9 s10 => ?_)
            refine k_if_ne (tgt := 59) h dX8_winds_54 (by decide) ?_ ?_
            · refine k_iconst (v := 0) h dX8_winds_59 (by decide) ?_
              refine k_istore (lv' := [(5, LI 0), (4, LR v3), (3, LR v1), (0, LR (some a0)), (1, LI p1), (2, LI p2)]) h dX8_winds_60 (by decide) rfl ?_
              refine k_sub (lv' := [(0, LR (some a0)), (3, LR v1), (4, LR v3), (5, LI 0)]) h [3, 2, 1, 0] rfl ?_
              refine k_lp (A := Int32) (fun q11 => [(0, LR (some a0)), (3, LR v1), (4, LR v3), (5, LI q11)]) (fun q11 => []) (fun r13 hr13 q11 s12 => ?_) FU 0 s10
              unfold mX8_winds_b62
              refine k_iload h 3 dX8_winds_62 rfl ?_
              refine k_bipush (v := 12) h dX8_winds_64 (by decide) ?_
              refine k_icmp_ge (tgt := 97) h dX8_winds_66 (by decide) ?_ ?_
              · refine k_iconst (v := 1) h dX8_winds_97 (by decide) ?_
                exact k_iret h rfl dX8_winds_98 (Nat.le_of_ble_eq_true rfl) (Nat.le_of_ble_eq_true rfl)
              · refine k_aload_n h 0 dX8_winds_69 rfl rfl ?_
                refine k_getR h fX8_1 (Or.inl (mw1 17 rfl)) dX8_winds_70 (fun v14 => ?_)
                refine k_iload h 3 dX8_winds_73 rfl ?_
                refine k_aload_n h 1 dX8_winds_75 rfl rfl ?_
                refine k_iload h 3 dX8_winds_76 rfl ?_
                refine k_callVI (As := [LI q11]) (st := [LI q11, LR v14]) (x0 := v1) (xg := fun a23 => mX7_windOf a23 q11 s12) h (fun a23 => ctX7_windOf l B D cA sa a23 q11 s12) calX7_windOf rfl (by decide) (mw12 7 rfl) (mw12 8 rfl) (Or.inr ⟨_, nwm 15 rfl⟩) hgood ⟨rfl, rfl, Nat.le_of_ble_eq_true rfl, Nat.le_of_ble_eq_true rfl⟩ ⟨Nat.le_of_ble_eq_true rfl, Nat.le_of_ble_eq_true rfl⟩ rfl (Nat.le_of_ble_eq_true rfl) dX8_winds_78 (fun v15 s16 => ?_)
                refine k_aload h 2 dX8_winds_81 rfl ?_
                refine k_iload h 3 dX8_winds_83 rfl ?_
                refine k_callVI (As := [LI q11]) (st := [LI v15, LI q11, LR v14]) (x0 := v3) (xg := fun a22 => mX7_windOf a22 q11 s16) h (fun a22 => ctX7_windOf l B D cA sa a22 q11 s16) calX7_windOf rfl (by decide) (mw12 7 rfl) (mw12 8 rfl) (Or.inr ⟨_, nwm 15 rfl⟩) hgood ⟨rfl, rfl, Nat.le_of_ble_eq_true rfl, Nat.le_of_ble_eq_true rfl⟩ ⟨Nat.le_of_ble_eq_true rfl, Nat.le_of_ble_eq_true rfl⟩ rfl (Nat.le_of_ble_eq_true rfl) dX8_winds_85 (fun v17 s18 => ?_)
                refine k_callVU (As := [LI q11, LI v15, LI v17]) (st := []) (x0 := v14) (xg := fun a21 => mX0_blowAt a21 q11 v15 v17 s18) h (fun a21 => ctX0_blowAt l B D cA sa a21 q11 v15 v17 s18) calX0_blowAt rfl (by decide) (mw12 19 rfl) (mw12 20 rfl) (Or.inr ⟨_, nwm 16 rfl⟩) hgood ⟨rfl, rfl, Nat.le_of_ble_eq_true rfl, Nat.le_of_ble_eq_true rfl⟩ ⟨Nat.le_of_ble_eq_true rfl, Nat.le_of_ble_eq_true rfl⟩ rfl (Nat.le_of_ble_eq_true rfl) dX8_winds_88 (fun u19 s20 => ?_)
                refine k_iinc (w := (q11 + 1)) (lv' := [(5, LI (q11 + 1)), (0, LR (some a0)), (3, LR v1), (4, LR v3)]) h 3 dX8_winds_91 rfl rfl (by decide) rfl ?_
                refine k_goto (tgt := 62) h dX8_winds_94 (by decide) ?_
                refine k_sub (lv' := [(0, LR (some a0)), (3, LR v1), (4, LR v3), (5, LI (q11 + 1))]) h [1, 2, 3, 0] rfl ?_
                exact hr13 (q11 + 1) s20
            · refine k_iconst (v := (-1)) h dX8_winds_57 (by decide) ?_
              exact k_iret h rfl dX8_winds_58 (Nat.le_of_ble_eq_true rfl) (Nat.le_of_ble_eq_true rfl)
        · refine k_bipush (v := (-3)) h dX8_winds_39 (by decide) ?_
          exact k_iret h rfl dX8_winds_41 (Nat.le_of_ble_eq_true rfl) (Nat.le_of_ble_eq_true rfl)
    · refine k_iconst (v := (-1)) h dX8_winds_22 (by decide) ?_
      exact k_iret h rfl dX8_winds_23 (Nat.le_of_ble_eq_true rfl) (Nat.le_of_ble_eq_true rfl)
def mX8_wind (a0 : Nat) (p1 : Int32) (p2 : Int32) (p3 : Int32) (s0 : Sg) : Option (Int32 × Sg) :=
cl (mX8_within p1 0 11 s0) fun v1 s2 =>
if v1 = 0 then (
some ((-1), s2))
else (
cl (mX8_isWind p2 s2) fun v3 s4 =>
if v3 = 0 then (
some ((-1), s4))
else (
cl (mX8_isWind p3 s4) fun v5 s6 =>
if ¬ v5 = 0 then (
gdR s6 8 1 (some a0) fun v7 =>
cv s6 0 v7 fun a10 => cl (mX0_blowAt a10 p1 p2 p3 s6) fun u8 s9 =>
some (1, s9))
else (
some ((-1), s6))))
def rmX8_wind : Room := { frames := 2, cells := 0, slots := 0, locals := 42 }
theorem calX8_wind : Cal yX8_wind cX8_wind 4 (some .int) 3 := ⟨(mw13 12 rfl), (mw1 2 rfl), by decide, by decide, by decide +kernel⟩
set_option maxHeartbeats 4000000 in
set_option maxRecDepth 100000 in
theorem ctX8_wind (l : Launch) (B : Nat) (D : va_G) (cA : Nat → ClassId) (sa : Nat → Nat) (a0 : Nat) (p1 : Int32) (p2 : Int32) (p3 : Int32) (s0 : Sg) : Ct l B D cA sa yX8_wind cX8_wind 4 (some .int) rmX8_wind rI [LR (some a0), LI p1, LI p2, LI p3] s0 0 0 (mX8_wind a0 p1 p2 p3 s0) := by
  refine Ct.of (own := RX8) (by decide) rfl _ (Nat.le_of_ble_eq_true rfl) rfl ?_
  intro p e s m args below meth c h hi
  unfold mX8_wind
  refine k_iload_n h 1 dX8_wind_0 rfl rfl ?_
  refine k_iconst (v := 0) h dX8_wind_1 (by decide) ?_
  refine k_bipush (v := 11) h dX8_wind_2 (by decide) ?_
  refine k_callSI (As := [LI p1, LI 0, LI 11]) (st := []) h (ctX8_within l B D cA sa p1 0 11 s0) calX8_within (mw9 8 rfl) (Or.inl (mw9 7 rfl)) hgood ⟨rfl, rfl, Nat.le_of_ble_eq_true rfl, Nat.le_of_ble_eq_true rfl⟩ ⟨Nat.le_of_ble_eq_true rfl, Nat.le_of_ble_eq_true rfl⟩ rfl (Nat.le_of_ble_eq_true rfl) dX8_wind_4 (fun v1 s2 => ?_)
  refine k_if_eq (tgt := 24) h dX8_wind_7 (by decide) ?_ ?_
  · refine k_iconst (v := (-1)) h dX8_wind_24 (by decide) ?_
    exact k_iret h rfl dX8_wind_25 (Nat.le_of_ble_eq_true rfl) (Nat.le_of_ble_eq_true rfl)
  · refine k_iload_n h 2 dX8_wind_10 rfl rfl ?_
    refine k_callSI (As := [LI p2]) (st := []) h (ctX8_isWind l B D cA sa p2 s2) calX8_isWind (mw12 17 rfl) (Or.inl (mw12 16 rfl)) hgood ⟨rfl, rfl, Nat.le_of_ble_eq_true rfl, Nat.le_of_ble_eq_true rfl⟩ ⟨Nat.le_of_ble_eq_true rfl, Nat.le_of_ble_eq_true rfl⟩ rfl (Nat.le_of_ble_eq_true rfl) dX8_wind_11 (fun v3 s4 => ?_)
    refine k_if_eq (tgt := 24) h dX8_wind_14 (by decide) ?_ ?_
    · refine k_iconst (v := (-1)) h dX8_wind_24 (by decide) ?_
      exact k_iret h rfl dX8_wind_25 (Nat.le_of_ble_eq_true rfl) (Nat.le_of_ble_eq_true rfl)
    · refine k_iload_n h 3 dX8_wind_17 rfl rfl ?_
      refine k_callSI (As := [LI p3]) (st := []) h (ctX8_isWind l B D cA sa p3 s4) calX8_isWind (mw12 17 rfl) (Or.inl (mw12 16 rfl)) hgood ⟨rfl, rfl, Nat.le_of_ble_eq_true rfl, Nat.le_of_ble_eq_true rfl⟩ ⟨Nat.le_of_ble_eq_true rfl, Nat.le_of_ble_eq_true rfl⟩ rfl (Nat.le_of_ble_eq_true rfl) dX8_wind_18 (fun v5 s6 => ?_)
      refine k_if_ne (tgt := 26) h dX8_wind_21 (by decide) ?_ ?_
      · refine k_aload_n h 0 dX8_wind_26 rfl rfl ?_
        refine k_getR h fX8_1 (Or.inl (mw1 17 rfl)) dX8_wind_27 (fun v7 => ?_)
        refine k_iload_n h 1 dX8_wind_30 rfl rfl ?_
        refine k_iload_n h 2 dX8_wind_31 rfl rfl ?_
        refine k_iload_n h 3 dX8_wind_32 rfl rfl ?_
        refine k_callVU (As := [LI p1, LI p2, LI p3]) (st := []) (x0 := v7) (xg := fun a10 => mX0_blowAt a10 p1 p2 p3 s6) h (fun a10 => ctX0_blowAt l B D cA sa a10 p1 p2 p3 s6) calX0_blowAt rfl (by decide) (mw12 19 rfl) (mw12 20 rfl) (Or.inr ⟨_, nwm 16 rfl⟩) hgood ⟨rfl, rfl, Nat.le_of_ble_eq_true rfl, Nat.le_of_ble_eq_true rfl⟩ ⟨Nat.le_of_ble_eq_true rfl, Nat.le_of_ble_eq_true rfl⟩ rfl (Nat.le_of_ble_eq_true rfl) dX8_wind_33 (fun u8 s9 => ?_)
        refine k_iconst (v := 1) h dX8_wind_36 (by decide) ?_
        exact k_iret h rfl dX8_wind_37 (Nat.le_of_ble_eq_true rfl) (Nat.le_of_ble_eq_true rfl)
      · refine k_iconst (v := (-1)) h dX8_wind_24 (by decide) ?_
        exact k_iret h rfl dX8_wind_25 (Nat.le_of_ble_eq_true rfl) (Nat.le_of_ble_eq_true rfl)
def mX8_blows (a0 : Nat) (p1 : Int32) (p2 : Int32) (s0 : Sg) : Option (Int32 × Sg) :=
cl (mX8_within p1 0 11 s0) fun v1 s2 =>
if v1 = 0 then (
some ((-1000), s2))
else (
cl (mX8_within p2 0 1 s2) fun v3 s4 =>
if ¬ v3 = 0 then (
if ¬ p2 = 0 then (
gdR s4 8 1 (some a0) fun v5 =>
cv s4 0 v5 fun a8 => cl (mX0_alongY a8 p1 s4) fun v6 s7 =>
some (v6, s7))
else (
gdR s4 8 1 (some a0) fun v9 =>
cv s4 0 v9 fun a12 => cl (mX0_alongX a12 p1 s4) fun v10 s11 =>
some (v10, s11)))
else (
some ((-1000), s4)))
def rmX8_blows : Room := { frames := 1, cells := 0, slots := 0, locals := 22 }
theorem calX8_blows : Cal yX8_blows cX8_blows 3 (some .int) 2 := ⟨(mw13 21 rfl), (mw1 2 rfl), by decide, by decide, by decide +kernel⟩
set_option maxHeartbeats 4000000 in
set_option maxRecDepth 100000 in
theorem ctX8_blows (l : Launch) (B : Nat) (D : va_G) (cA : Nat → ClassId) (sa : Nat → Nat) (a0 : Nat) (p1 : Int32) (p2 : Int32) (s0 : Sg) : Ct l B D cA sa yX8_blows cX8_blows 3 (some .int) rmX8_blows rI [LR (some a0), LI p1, LI p2] s0 0 0 (mX8_blows a0 p1 p2 s0) := by
  refine Ct.of (own := RX8) (by decide) rfl _ (Nat.le_of_ble_eq_true rfl) rfl ?_
  intro p e s m args below meth c h hi
  unfold mX8_blows
  refine k_iload_n h 1 dX8_blows_0 rfl rfl ?_
  refine k_iconst (v := 0) h dX8_blows_1 (by decide) ?_
  refine k_bipush (v := 11) h dX8_blows_2 (by decide) ?_
  refine k_callSI (As := [LI p1, LI 0, LI 11]) (st := []) h (ctX8_within l B D cA sa p1 0 11 s0) calX8_within (mw9 8 rfl) (Or.inl (mw9 7 rfl)) hgood ⟨rfl, rfl, Nat.le_of_ble_eq_true rfl, Nat.le_of_ble_eq_true rfl⟩ ⟨Nat.le_of_ble_eq_true rfl, Nat.le_of_ble_eq_true rfl⟩ rfl (Nat.le_of_ble_eq_true rfl) dX8_blows_4 (fun v1 s2 => ?_)
  refine k_if_eq (tgt := 19) h dX8_blows_7 (by decide) ?_ ?_
  · refine k_sipush (v := (-1000)) h dX8_blows_19 (by decide) ?_
    exact k_iret h rfl dX8_blows_22 (Nat.le_of_ble_eq_true rfl) (Nat.le_of_ble_eq_true rfl)
  · refine k_iload_n h 2 dX8_blows_10 rfl rfl ?_
    refine k_iconst (v := 0) h dX8_blows_11 (by decide) ?_
    refine k_iconst (v := 1) h dX8_blows_12 (by decide) ?_
    refine k_callSI (As := [LI p2, LI 0, LI 1]) (st := []) h (ctX8_within l B D cA sa p2 0 1 s2) calX8_within (mw9 8 rfl) (Or.inl (mw9 7 rfl)) hgood ⟨rfl, rfl, Nat.le_of_ble_eq_true rfl, Nat.le_of_ble_eq_true rfl⟩ ⟨Nat.le_of_ble_eq_true rfl, Nat.le_of_ble_eq_true rfl⟩ rfl (Nat.le_of_ble_eq_true rfl) dX8_blows_13 (fun v3 s4 => ?_)
    refine k_if_ne (tgt := 23) h dX8_blows_16 (by decide) ?_ ?_
    · refine k_iload_n h 2 dX8_blows_23 rfl rfl ?_
      refine k_if_ne (tgt := 38) h dX8_blows_24 (by decide) ?_ ?_
      · refine k_aload_n h 0 dX8_blows_38 rfl rfl ?_
        refine k_getR h fX8_1 (Or.inl (mw1 17 rfl)) dX8_blows_39 (fun v5 => ?_)
        refine k_iload_n h 1 dX8_blows_42 rfl rfl ?_
        refine k_callVI (As := [LI p1]) (st := []) (x0 := v5) (xg := fun a8 => mX0_alongY a8 p1 s4) h (fun a8 => ctX0_alongY l B D cA sa a8 p1 s4) calX0_alongY rfl (by decide) (mw14 1 rfl) (mw14 2 rfl) (Or.inr ⟨_, nwm 18 rfl⟩) hgood ⟨rfl, rfl, Nat.le_of_ble_eq_true rfl, Nat.le_of_ble_eq_true rfl⟩ ⟨Nat.le_of_ble_eq_true rfl, Nat.le_of_ble_eq_true rfl⟩ rfl (Nat.le_of_ble_eq_true rfl) dX8_blows_43 (fun v6 s7 => ?_)
        exact k_iret h rfl dX8_blows_46 (Nat.le_of_ble_eq_true rfl) (Nat.le_of_ble_eq_true rfl)
      · refine k_aload_n h 0 dX8_blows_27 rfl rfl ?_
        refine k_getR h fX8_1 (Or.inl (mw1 17 rfl)) dX8_blows_28 (fun v9 => ?_)
        refine k_iload_n h 1 dX8_blows_31 rfl rfl ?_
        refine k_callVI (As := [LI p1]) (st := []) (x0 := v9) (xg := fun a12 => mX0_alongX a12 p1 s4) h (fun a12 => ctX0_alongX l B D cA sa a12 p1 s4) calX0_alongX rfl (by decide) (mw13 22 rfl) (mw13 23 rfl) (Or.inr ⟨_, nwm 17 rfl⟩) hgood ⟨rfl, rfl, Nat.le_of_ble_eq_true rfl, Nat.le_of_ble_eq_true rfl⟩ ⟨Nat.le_of_ble_eq_true rfl, Nat.le_of_ble_eq_true rfl⟩ rfl (Nat.le_of_ble_eq_true rfl) dX8_blows_32 (fun v10 s11 => ?_)
        refine k_goto (tgt := 46) h dX8_blows_35 (by decide) ?_
        exact k_iret h rfl dX8_blows_46 (Nat.le_of_ble_eq_true rfl) (Nat.le_of_ble_eq_true rfl)
    · refine k_sipush (v := (-1000)) h dX8_blows_19 (by decide) ?_
      exact k_iret h rfl dX8_blows_22 (Nat.le_of_ble_eq_true rfl) (Nat.le_of_ble_eq_true rfl)
def mX8_jumperAt (a0 : Nat) (p1 : Int32) (s0 : Sg) : Option ((Option Nat) × Sg) :=
if p1 < 0 then (
some (none, s0))
else (
gdR s0 8 2 (some a0) fun v1 =>
aln s0 v1 fun v2 =>
if v2 ≤ p1 then (
some (none, s0))
else (
gdR s0 8 2 (some a0) fun v3 =>
alR s0 3 v3 p1 fun v4 =>
some (v4, s0)))
def rmX8_jumperAt : Room := { frames := 0, cells := 0, slots := 0, locals := 0 }
theorem calX8_jumperAt : Cal yX8_jumperAt cX8_jumperAt 2 (some (.object "JumpDesk$Jumper")) 1 := ⟨(mw14 15 rfl), (mw1 2 rfl), by decide, by decide, by decide +kernel⟩
set_option maxHeartbeats 4000000 in
set_option maxRecDepth 100000 in
theorem ctX8_jumperAt (l : Launch) (B : Nat) (D : va_G) (cA : Nat → ClassId) (sa : Nat → Nat) (a0 : Nat) (p1 : Int32) (s0 : Sg) : Ct l B D cA sa yX8_jumperAt cX8_jumperAt 2 (some (.object "JumpDesk$Jumper")) rmX8_jumperAt (rR B) [LR (some a0), LI p1] s0 0 0 (mX8_jumperAt a0 p1 s0) := by
  refine Ct.of (own := RX8) (by decide) rfl _ (Nat.le_of_ble_eq_true rfl) rfl ?_
  intro p e s m args below meth c h hi
  unfold mX8_jumperAt
  refine k_iload_n h 1 dX8_jumperAt_0 rfl rfl ?_
  refine k_if_lt (tgt := 22) h dX8_jumperAt_1 (by decide) ?_ ?_
  · refine k_null h dX8_jumperAt_22 ?_
    exact k_aret h rfl dX8_jumperAt_23 (Nat.le_of_ble_eq_true rfl) (Nat.le_of_ble_eq_true rfl)
  · refine k_iload_n h 1 dX8_jumperAt_4 rfl rfl ?_
    refine k_aload_n h 0 dX8_jumperAt_5 rfl rfl ?_
    refine k_getR h fX8_2 (Or.inl (mw1 19 rfl)) dX8_jumperAt_6 (fun v1 => ?_)
    refine k_aln h dX8_jumperAt_9 (fun v2 => ?_)
    refine k_icmp_ge (tgt := 22) h dX8_jumperAt_10 (by decide) ?_ ?_
    · refine k_null h dX8_jumperAt_22 ?_
      exact k_aret h rfl dX8_jumperAt_23 (Nat.le_of_ble_eq_true rfl) (Nat.le_of_ble_eq_true rfl)
    · refine k_aload_n h 0 dX8_jumperAt_13 rfl rfl ?_
      refine k_getR h fX8_2 (Or.inl (mw1 19 rfl)) dX8_jumperAt_14 (fun v3 => ?_)
      refine k_iload_n h 1 dX8_jumperAt_17 rfl rfl ?_
      refine k_alR h rfl rfl dX8_jumperAt_18 (fun v4 => ?_)
      refine k_goto (tgt := 23) h dX8_jumperAt_19 (by decide) ?_
      exact k_aret h rfl dX8_jumperAt_23 (Nat.le_of_ble_eq_true rfl) (Nat.le_of_ble_eq_true rfl)
def mX8_jumper (a0 : Nat) (p1 : Int32) (p2 : Int32) (p3 : Int32) (p4 : Int32) (s0 : Sg) : Option (Int32 × Sg) :=
cv s0 8 (some a0) fun a12 => cl (mX8_jumperAt a12 p1 s0) fun v1 s2 =>
if v1 = none then (
some ((-1), s2))
else (
cl (mX8_within p2 0 2 s2) fun v3 s4 =>
if v3 = 0 then (
some ((-1), s4))
else (
cl (mX8_within p3 40 200 s4) fun v5 s6 =>
if v5 = 0 then (
some ((-1), s6))
else (
cl (mX8_within p4 0 1000 s6) fun v7 s8 =>
if ¬ v7 = 0 then (
cv s8 3 v1 fun a11 => cl (mX3_become a11 p2 p3 p4 s8) fun u9 s10 =>
some (1, s10))
else (
some ((-1), s8)))))
def rmX8_jumper : Room := { frames := 1, cells := 0, slots := 0, locals := 23 }
theorem calX8_jumper : Cal yX8_jumper cX8_jumper 6 (some .int) 4 := ⟨(mw14 11 rfl), (mw1 2 rfl), by decide, by decide, by decide +kernel⟩
set_option maxHeartbeats 4000000 in
set_option maxRecDepth 100000 in
theorem ctX8_jumper (l : Launch) (B : Nat) (D : va_G) (cA : Nat → ClassId) (sa : Nat → Nat) (a0 : Nat) (p1 : Int32) (p2 : Int32) (p3 : Int32) (p4 : Int32) (s0 : Sg) : Ct l B D cA sa yX8_jumper cX8_jumper 6 (some .int) rmX8_jumper rI [LR (some a0), LI p1, LI p2, LI p3, LI p4] s0 0 0 (mX8_jumper a0 p1 p2 p3 p4 s0) := by
  refine Ct.of (own := RX8) (by decide) rfl _ (Nat.le_of_ble_eq_true rfl) rfl ?_
  intro p e s m args below meth c h hi
  unfold mX8_jumper
  refine k_aload_n h 0 dX8_jumper_0 rfl rfl ?_
  refine k_iload_n h 1 dX8_jumper_1 rfl rfl ?_
  refine k_callVR (As := [LI p1]) (st := []) (x0 := (some a0)) (xg := fun a12 => mX8_jumperAt a12 p1 s0) h (fun a12 => ctX8_jumperAt l B D cA sa a12 p1 s0) calX8_jumperAt rfl (by decide) (mw14 13 rfl) (mw14 14 rfl) (Or.inl (mw14 12 rfl)) hgood ⟨rfl, rfl, Nat.le_of_ble_eq_true rfl, Nat.le_of_ble_eq_true rfl⟩ ⟨Nat.le_of_ble_eq_true rfl, Nat.le_of_ble_eq_true rfl⟩ rfl (Nat.le_of_ble_eq_true rfl) dX8_jumper_2 (fun v1 s2 => ?_)
  refine k_astore (lv' := [(5, LR v1), (0, LR (some a0)), (1, LI p1), (2, LI p2), (3, LI p3), (4, LI p4)]) h dX8_jumper_5 (by decide) rfl ?_
  refine k_aload h 0 dX8_jumper_7 rfl ?_
  refine k_ifnull (tgt := 45) h dX8_jumper_9 (by decide) ?_ ?_
  · refine k_iconst (v := (-1)) h dX8_jumper_45 (by decide) ?_
    exact k_iret h rfl dX8_jumper_46 (Nat.le_of_ble_eq_true rfl) (Nat.le_of_ble_eq_true rfl)
  · refine k_iload_n h 3 dX8_jumper_12 rfl rfl ?_
    refine k_iconst (v := 0) h dX8_jumper_13 (by decide) ?_
    refine k_iconst (v := 2) h dX8_jumper_14 (by decide) ?_
    refine k_callSI (As := [LI p2, LI 0, LI 2]) (st := []) h (ctX8_within l B D cA sa p2 0 2 s2) calX8_within (mw9 8 rfl) (Or.inl (mw9 7 rfl)) hgood ⟨rfl, rfl, Nat.le_of_ble_eq_true rfl, Nat.le_of_ble_eq_true rfl⟩ ⟨Nat.le_of_ble_eq_true rfl, Nat.le_of_ble_eq_true rfl⟩ rfl (Nat.le_of_ble_eq_true rfl) dX8_jumper_15 (fun v3 s4 => ?_)
    refine k_if_eq (tgt := 45) h dX8_jumper_18 (by decide) ?_ ?_
    · refine k_iconst (v := (-1)) h dX8_jumper_45 (by decide) ?_
      exact k_iret h rfl dX8_jumper_46 (Nat.le_of_ble_eq_true rfl) (Nat.le_of_ble_eq_true rfl)
    · refine k_iload_n h 4 dX8_jumper_21 rfl rfl ?_
      refine k_bipush (v := 40) h dX8_jumper_22 (by decide) ?_
      refine k_sipush (v := 200) h dX8_jumper_24 (by decide) ?_
      refine k_callSI (As := [LI p3, LI 40, LI 200]) (st := []) h (ctX8_within l B D cA sa p3 40 200 s4) calX8_within (mw9 8 rfl) (Or.inl (mw9 7 rfl)) hgood ⟨rfl, rfl, Nat.le_of_ble_eq_true rfl, Nat.le_of_ble_eq_true rfl⟩ ⟨Nat.le_of_ble_eq_true rfl, Nat.le_of_ble_eq_true rfl⟩ rfl (Nat.le_of_ble_eq_true rfl) dX8_jumper_27 (fun v5 s6 => ?_)
      refine k_if_eq (tgt := 45) h dX8_jumper_30 (by decide) ?_ ?_
      · refine k_iconst (v := (-1)) h dX8_jumper_45 (by decide) ?_
        exact k_iret h rfl dX8_jumper_46 (Nat.le_of_ble_eq_true rfl) (Nat.le_of_ble_eq_true rfl)
      · refine k_iload h 5 dX8_jumper_33 rfl ?_
        refine k_iconst (v := 0) h dX8_jumper_35 (by decide) ?_
        refine k_sipush (v := 1000) h dX8_jumper_36 (by decide) ?_
        refine k_callSI (As := [LI p4, LI 0, LI 1000]) (st := []) h (ctX8_within l B D cA sa p4 0 1000 s6) calX8_within (mw9 8 rfl) (Or.inl (mw9 7 rfl)) hgood ⟨rfl, rfl, Nat.le_of_ble_eq_true rfl, Nat.le_of_ble_eq_true rfl⟩ ⟨Nat.le_of_ble_eq_true rfl, Nat.le_of_ble_eq_true rfl⟩ rfl (Nat.le_of_ble_eq_true rfl) dX8_jumper_39 (fun v7 s8 => ?_)
        refine k_if_ne (tgt := 47) h dX8_jumper_42 (by decide) ?_ ?_
        · refine k_aload h 0 dX8_jumper_47 rfl ?_
          refine k_iload_n h 3 dX8_jumper_49 rfl rfl ?_
          refine k_iload_n h 4 dX8_jumper_50 rfl rfl ?_
          refine k_iload h 5 dX8_jumper_51 rfl ?_
          refine k_callVU (As := [LI p2, LI p3, LI p4]) (st := []) (x0 := v1) (xg := fun a11 => mX3_become a11 p2 p3 p4 s8) h (fun a11 => ctX3_become l B D cA sa a11 p2 p3 p4 s8) calX3_become rfl (by decide) (mw14 16 rfl) (mw14 17 rfl) (Or.inr ⟨_, nwm 19 rfl⟩) hgood ⟨rfl, rfl, Nat.le_of_ble_eq_true rfl, Nat.le_of_ble_eq_true rfl⟩ ⟨Nat.le_of_ble_eq_true rfl, Nat.le_of_ble_eq_true rfl⟩ rfl (Nat.le_of_ble_eq_true rfl) dX8_jumper_53 (fun u9 s10 => ?_)
          refine k_iconst (v := 1) h dX8_jumper_56 (by decide) ?_
          exact k_iret h rfl dX8_jumper_57 (Nat.le_of_ble_eq_true rfl) (Nat.le_of_ble_eq_true rfl)
        · refine k_iconst (v := (-1)) h dX8_jumper_45 (by decide) ?_
          exact k_iret h rfl dX8_jumper_46 (Nat.le_of_ble_eq_true rfl) (Nat.le_of_ble_eq_true rfl)
def mX8_group (a0 : Nat) (p1 : Int32) (p2 : Int32) (p3 : Int32) (p4 : Int32) (s0 : Sg) : Option (Int32 × Sg) :=
cl (mX8_within p1 0 3 s0) fun v1 s2 =>
if v1 = 0 then (
some ((-1), s2))
else (
cl (mX8_within p2 6000 15000 s2) fun v3 s4 =>
if ¬ v3 = 0 then (
cl (mX8_within p3 0 150 s4) fun v5 s6 =>
if v5 = 0 then (
some ((-1), s6))
else (
cl (mX8_within p4 0 3 s6) fun v7 s8 =>
if ¬ v7 = 0 then (
gdI s8 8 9 (some a0) fun v9 =>
gdR s8 8 3 (some a0) fun v10 =>
aln s8 v10 fun v11 =>
if v9 < v11 then (
gdR s8 8 3 (some a0) fun v12 =>
gdI s8 8 9 (some a0) fun v13 =>
alR s8 2 v12 v13 fun v14 =>
cv s8 2 v14 fun a20 => cl (mX2_become a20 p1 p2 p3 p4 s8) fun u15 s16 =>
gdI s16 8 9 (some a0) fun v17 =>
ptI s16 8 9 (some a0) (v17 + 1) fun s18 =>
gdI s18 8 9 (some a0) fun v19 =>
some ((v19 - 1), s18))
else (
some ((-2), s8)))
else (
some ((-1), s8))))
else (
some ((-1), s4)))
def rmX8_group : Room := { frames := 1, cells := 0, slots := 0, locals := 24 }
theorem calX8_group : Cal yX8_group cX8_group 5 (some .int) 4 := ⟨(mw15 6 rfl), (mw1 2 rfl), by decide, by decide, by decide +kernel⟩
set_option maxHeartbeats 4000000 in
set_option maxRecDepth 100000 in
theorem ctX8_group (l : Launch) (B : Nat) (D : va_G) (cA : Nat → ClassId) (sa : Nat → Nat) (a0 : Nat) (p1 : Int32) (p2 : Int32) (p3 : Int32) (p4 : Int32) (s0 : Sg) : Ct l B D cA sa yX8_group cX8_group 5 (some .int) rmX8_group rI [LR (some a0), LI p1, LI p2, LI p3, LI p4] s0 0 0 (mX8_group a0 p1 p2 p3 p4 s0) := by
  refine Ct.of (own := RX8) (by decide) rfl _ (Nat.le_of_ble_eq_true rfl) rfl ?_
  intro p e s m args below meth c h hi
  unfold mX8_group
  refine k_iload_n h 1 dX8_group_0 rfl rfl ?_
  refine k_iconst (v := 0) h dX8_group_1 (by decide) ?_
  refine k_iconst (v := 3) h dX8_group_2 (by decide) ?_
  refine k_callSI (As := [LI p1, LI 0, LI 3]) (st := []) h (ctX8_within l B D cA sa p1 0 3 s0) calX8_within (mw9 8 rfl) (Or.inl (mw9 7 rfl)) hgood ⟨rfl, rfl, Nat.le_of_ble_eq_true rfl, Nat.le_of_ble_eq_true rfl⟩ ⟨Nat.le_of_ble_eq_true rfl, Nat.le_of_ble_eq_true rfl⟩ rfl (Nat.le_of_ble_eq_true rfl) dX8_group_3 (fun v1 s2 => ?_)
  refine k_if_eq (tgt := 22) h dX8_group_6 (by decide) ?_ ?_
  · refine k_iconst (v := (-1)) h dX8_group_22 (by decide) ?_
    exact k_iret h rfl dX8_group_23 (Nat.le_of_ble_eq_true rfl) (Nat.le_of_ble_eq_true rfl)
  · refine k_iload_n h 2 dX8_group_9 rfl rfl ?_
    refine k_sipush (v := 6000) h dX8_group_10 (by decide) ?_
    refine k_sipush (v := 15000) h dX8_group_13 (by decide) ?_
    refine k_callSI (As := [LI p2, LI 6000, LI 15000]) (st := []) h (ctX8_within l B D cA sa p2 6000 15000 s2) calX8_within (mw9 8 rfl) (Or.inl (mw9 7 rfl)) hgood ⟨rfl, rfl, Nat.le_of_ble_eq_true rfl, Nat.le_of_ble_eq_true rfl⟩ ⟨Nat.le_of_ble_eq_true rfl, Nat.le_of_ble_eq_true rfl⟩ rfl (Nat.le_of_ble_eq_true rfl) dX8_group_16 (fun v3 s4 => ?_)
    refine k_if_ne (tgt := 24) h dX8_group_19 (by decide) ?_ ?_
    · refine k_iload_n h 3 dX8_group_24 rfl rfl ?_
      refine k_iconst (v := 0) h dX8_group_25 (by decide) ?_
      refine k_sipush (v := 150) h dX8_group_26 (by decide) ?_
      refine k_callSI (As := [LI p3, LI 0, LI 150]) (st := []) h (ctX8_within l B D cA sa p3 0 150 s4) calX8_within (mw9 8 rfl) (Or.inl (mw9 7 rfl)) hgood ⟨rfl, rfl, Nat.le_of_ble_eq_true rfl, Nat.le_of_ble_eq_true rfl⟩ ⟨Nat.le_of_ble_eq_true rfl, Nat.le_of_ble_eq_true rfl⟩ rfl (Nat.le_of_ble_eq_true rfl) dX8_group_29 (fun v5 s6 => ?_)
      refine k_if_eq (tgt := 45) h dX8_group_32 (by decide) ?_ ?_
      · refine k_iconst (v := (-1)) h dX8_group_45 (by decide) ?_
        exact k_iret h rfl dX8_group_46 (Nat.le_of_ble_eq_true rfl) (Nat.le_of_ble_eq_true rfl)
      · refine k_iload h 4 dX8_group_35 rfl ?_
        refine k_iconst (v := 0) h dX8_group_37 (by decide) ?_
        refine k_iconst (v := 3) h dX8_group_38 (by decide) ?_
        refine k_callSI (As := [LI p4, LI 0, LI 3]) (st := []) h (ctX8_within l B D cA sa p4 0 3 s6) calX8_within (mw9 8 rfl) (Or.inl (mw9 7 rfl)) hgood ⟨rfl, rfl, Nat.le_of_ble_eq_true rfl, Nat.le_of_ble_eq_true rfl⟩ ⟨Nat.le_of_ble_eq_true rfl, Nat.le_of_ble_eq_true rfl⟩ rfl (Nat.le_of_ble_eq_true rfl) dX8_group_39 (fun v7 s8 => ?_)
        refine k_if_ne (tgt := 47) h dX8_group_42 (by decide) ?_ ?_
        · refine k_aload_n h 0 dX8_group_47 rfl rfl ?_
          refine k_getI h fX8_9 (Or.inl (mw2 16 rfl)) dX8_group_48 (fun v9 => ?_)
          refine k_aload_n h 0 dX8_group_51 rfl rfl ?_
          refine k_getR h fX8_3 (Or.inl (mw1 21 rfl)) dX8_group_52 (fun v10 => ?_)
          refine k_aln h dX8_group_55 (fun v11 => ?_)
          refine k_icmp_lt (tgt := 62) h dX8_group_56 (by decide) ?_ ?_
          · refine k_aload_n h 0 dX8_group_62 rfl rfl ?_
            refine k_getR h fX8_3 (Or.inl (mw1 21 rfl)) dX8_group_63 (fun v12 => ?_)
            refine k_aload_n h 0 dX8_group_66 rfl rfl ?_
            refine k_getI h fX8_9 (Or.inl (mw2 16 rfl)) dX8_group_67 (fun v13 => ?_)
            refine k_alR h rfl rfl dX8_group_70 (fun v14 => ?_)
            refine k_iload_n h 1 dX8_group_71 rfl rfl ?_
            refine k_iload_n h 2 dX8_group_72 rfl rfl ?_
            refine k_iload_n h 3 dX8_group_73 rfl rfl ?_
            refine k_iload h 4 dX8_group_74 rfl ?_
            refine k_callVU (As := [LI p1, LI p2, LI p3, LI p4]) (st := []) (x0 := v14) (xg := fun a20 => mX2_become a20 p1 p2 p3 p4 s8) h (fun a20 => ctX2_become l B D cA sa a20 p1 p2 p3 p4 s8) calX2_become rfl (by decide) (mw15 7 rfl) (mw15 8 rfl) (Or.inr ⟨_, nwm 20 rfl⟩) hgood ⟨rfl, rfl, Nat.le_of_ble_eq_true rfl, Nat.le_of_ble_eq_true rfl⟩ ⟨Nat.le_of_ble_eq_true rfl, Nat.le_of_ble_eq_true rfl⟩ rfl (Nat.le_of_ble_eq_true rfl) dX8_group_76 (fun u15 s16 => ?_)
            refine k_aload_n h 0 dX8_group_79 rfl rfl ?_
            refine k_dup h dX8_group_80 rfl ?_
            refine k_getI h fX8_9 (Or.inl (mw2 16 rfl)) dX8_group_81 (fun v17 => ?_)
            refine k_iconst (v := 1) h dX8_group_84 (by decide) ?_
            refine k_iadd h dX8_group_85 ?_
            refine k_putI h fX8_9 (Or.inl (mw2 16 rfl)) rfl dX8_group_86 (fun s18 => ?_)
            refine k_aload_n h 0 dX8_group_89 rfl rfl ?_
            refine k_getI h fX8_9 (Or.inl (mw2 16 rfl)) dX8_group_90 (fun v19 => ?_)
            refine k_iconst (v := 1) h dX8_group_93 (by decide) ?_
            refine k_isub h dX8_group_94 ?_
            exact k_iret h rfl dX8_group_95 (Nat.le_of_ble_eq_true rfl) (Nat.le_of_ble_eq_true rfl)
          · refine k_bipush (v := (-2)) h dX8_group_59 (by decide) ?_
            exact k_iret h rfl dX8_group_61 (Nat.le_of_ble_eq_true rfl) (Nat.le_of_ble_eq_true rfl)
        · refine k_iconst (v := (-1)) h dX8_group_45 (by decide) ?_
          exact k_iret h rfl dX8_group_46 (Nat.le_of_ble_eq_true rfl) (Nat.le_of_ble_eq_true rfl)
    · refine k_iconst (v := (-1)) h dX8_group_22 (by decide) ?_
      exact k_iret h rfl dX8_group_23 (Nat.le_of_ble_eq_true rfl) (Nat.le_of_ble_eq_true rfl)
def mX8_groupAt (a0 : Nat) (p1 : Int32) (s0 : Sg) : Option ((Option Nat) × Sg) :=
if p1 < 0 then (
some (none, s0))
else (
gdI s0 8 9 (some a0) fun v1 =>
if v1 ≤ p1 then (
some (none, s0))
else (
gdR s0 8 3 (some a0) fun v2 =>
aln s0 v2 fun v3 =>
if v3 ≤ p1 then (
some (none, s0))
else (
gdR s0 8 3 (some a0) fun v4 =>
alR s0 2 v4 p1 fun v5 =>
some (v5, s0))))
def rmX8_groupAt : Room := { frames := 0, cells := 0, slots := 0, locals := 0 }
theorem calX8_groupAt : Cal yX8_groupAt cX8_groupAt 2 (some (.object "JumpDesk$Group")) 1 := ⟨(mw16 2 rfl), (mw1 2 rfl), by decide, by decide, by decide +kernel⟩
set_option maxHeartbeats 4000000 in
set_option maxRecDepth 100000 in
theorem ctX8_groupAt (l : Launch) (B : Nat) (D : va_G) (cA : Nat → ClassId) (sa : Nat → Nat) (a0 : Nat) (p1 : Int32) (s0 : Sg) : Ct l B D cA sa yX8_groupAt cX8_groupAt 2 (some (.object "JumpDesk$Group")) rmX8_groupAt (rR B) [LR (some a0), LI p1] s0 0 0 (mX8_groupAt a0 p1 s0) := by
  refine Ct.of (own := RX8) (by decide) rfl _ (Nat.le_of_ble_eq_true rfl) rfl ?_
  intro p e s m args below meth c h hi
  unfold mX8_groupAt
  refine k_iload_n h 1 dX8_groupAt_0 rfl rfl ?_
  refine k_if_lt (tgt := 30) h dX8_groupAt_1 (by decide) ?_ ?_
  · refine k_null h dX8_groupAt_30 ?_
    exact k_aret h rfl dX8_groupAt_31 (Nat.le_of_ble_eq_true rfl) (Nat.le_of_ble_eq_true rfl)
  · refine k_iload_n h 1 dX8_groupAt_4 rfl rfl ?_
    refine k_aload_n h 0 dX8_groupAt_5 rfl rfl ?_
    refine k_getI h fX8_9 (Or.inl (mw2 16 rfl)) dX8_groupAt_6 (fun v1 => ?_)
    refine k_icmp_ge (tgt := 30) h dX8_groupAt_9 (by decide) ?_ ?_
    · refine k_null h dX8_groupAt_30 ?_
      exact k_aret h rfl dX8_groupAt_31 (Nat.le_of_ble_eq_true rfl) (Nat.le_of_ble_eq_true rfl)
    · refine k_iload_n h 1 dX8_groupAt_12 rfl rfl ?_
      refine k_aload_n h 0 dX8_groupAt_13 rfl rfl ?_
      refine k_getR h fX8_3 (Or.inl (mw1 21 rfl)) dX8_groupAt_14 (fun v2 => ?_)
      refine k_aln h dX8_groupAt_17 (fun v3 => ?_)
      refine k_icmp_ge (tgt := 30) h dX8_groupAt_18 (by decide) ?_ ?_
      · refine k_null h dX8_groupAt_30 ?_
        exact k_aret h rfl dX8_groupAt_31 (Nat.le_of_ble_eq_true rfl) (Nat.le_of_ble_eq_true rfl)
      · refine k_aload_n h 0 dX8_groupAt_21 rfl rfl ?_
        refine k_getR h fX8_3 (Or.inl (mw1 21 rfl)) dX8_groupAt_22 (fun v4 => ?_)
        refine k_iload_n h 1 dX8_groupAt_25 rfl rfl ?_
        refine k_alR h rfl rfl dX8_groupAt_26 (fun v5 => ?_)
        refine k_goto (tgt := 31) h dX8_groupAt_27 (by decide) ?_
        exact k_aret h rfl dX8_groupAt_31 (Nat.le_of_ble_eq_true rfl) (Nat.le_of_ble_eq_true rfl)
def mX8_isInSomeLoad_b2 (a0 : Nat) (p2 : Int32) (p1 : Option Nat) (r3 : (Int32) → Sg → Option (Int32 × Sg)) (q1 : Int32) (s2 : Sg) : Option (Int32 × Sg) :=
gdI s2 8 10 (some a0) fun v4 =>
if v4 ≤ q1 then (
ckB 0 (some (0, s2)))
else (
gdR s2 8 5 (some a0) fun v5 =>
alR s2 5 v5 q1 fun v6 =>
gdI s2 5 8 v6 fun v7 =>
if ¬ v7 = p2 then (
r3 (q1 + 1) s2)
else (
gdR s2 8 5 (some a0) fun v8 =>
alR s2 5 v8 q1 fun v9 =>
cv s2 5 v9 fun a12 => cl (mX5_holds a12 p1 s2) fun v10 s11 =>
if v10 = 0 then (
r3 (q1 + 1) s11)
else (
ckB 1 (some (1, s11)))))
def mX8_isInSomeLoad (a0 : Nat) (p1 : Option Nat) (p2 : Int32) (s0 : Sg) : Option (Int32 × Sg) :=
lp (mX8_isInSomeLoad_b2 a0 p2 p1) FU 0 s0
def rmX8_isInSomeLoad : Room := { frames := 1, cells := 0, slots := 0, locals := 22 }
theorem calX8_isInSomeLoad : Cal yX8_isInSomeLoad cX8_isInSomeLoad 4 (some .boolean) 2 := ⟨(mw16 6 rfl), (mw1 2 rfl), by decide, by decide, by decide +kernel⟩
set_option maxHeartbeats 4000000 in
set_option maxRecDepth 100000 in
theorem ctX8_isInSomeLoad (l : Launch) (B : Nat) (D : va_G) (cA : Nat → ClassId) (sa : Nat → Nat) (a0 : Nat) (p1 : Option Nat) (p2 : Int32) (s0 : Sg) : Ct l B D cA sa yX8_isInSomeLoad cX8_isInSomeLoad 4 (some .boolean) rmX8_isInSomeLoad rI [LR (some a0), LR p1, LI p2] s0 0 0 (mX8_isInSomeLoad a0 p1 p2 s0) := by
  refine Ct.of (own := RX8) (by decide) rfl _ (Nat.le_of_ble_eq_true rfl) rfl ?_
  intro p e s m args below meth c h hi
  unfold mX8_isInSomeLoad
  refine k_iconst (v := 0) h dX8_isInSomeLoad_0 (by decide) ?_
  refine k_istore_n (lv' := [(3, LI 0), (0, LR (some a0)), (1, LR p1), (2, LI p2)]) h dX8_isInSomeLoad_1 rfl (by decide) rfl ?_
  refine k_sub (lv' := [(0, LR (some a0)), (1, LR p1), (2, LI p2), (3, LI 0)]) h [1, 2, 3, 0] rfl ?_
  refine k_lp (A := Int32) (fun q1 => [(0, LR (some a0)), (1, LR p1), (2, LI p2), (3, LI q1)]) (fun q1 => []) (fun r3 hr3 q1 s2 => ?_) FU 0 s0
  unfold mX8_isInSomeLoad_b2
  refine k_iload_n h 3 dX8_isInSomeLoad_2 rfl rfl ?_
  refine k_aload_n h 0 dX8_isInSomeLoad_3 rfl rfl ?_
  refine k_getI h fX8_10 (Or.inl (mw2 17 rfl)) dX8_isInSomeLoad_4 (fun v4 => ?_)
  refine k_icmp_ge (tgt := 44) h dX8_isInSomeLoad_7 (by decide) ?_ ?_
  · refine k_iconst (v := 0) h dX8_isInSomeLoad_44 (by decide) ?_
    exact k_zret h rfl dX8_isInSomeLoad_45 (Nat.le_of_ble_eq_true rfl) (Nat.le_of_ble_eq_true rfl)
  · refine k_aload_n h 0 dX8_isInSomeLoad_10 rfl rfl ?_
    refine k_getR h fX8_5 (Or.inl (mw2 1 rfl)) dX8_isInSomeLoad_11 (fun v5 => ?_)
    refine k_iload_n h 3 dX8_isInSomeLoad_14 rfl rfl ?_
    refine k_alR h rfl rfl dX8_isInSomeLoad_15 (fun v6 => ?_)
    refine k_getI h fX5_8 (Or.inr ⟨_, nwf 31 rfl⟩) dX8_isInSomeLoad_16 (fun v7 => ?_)
    refine k_iload_n h 2 dX8_isInSomeLoad_19 rfl rfl ?_
    refine k_icmp_ne (tgt := 38) h dX8_isInSomeLoad_20 (by decide) ?_ ?_
    · refine k_iinc (w := (q1 + 1)) (lv' := [(3, LI (q1 + 1)), (0, LR (some a0)), (1, LR p1), (2, LI p2)]) h 3 dX8_isInSomeLoad_38 rfl rfl (by decide) rfl ?_
      refine k_goto (tgt := 2) h dX8_isInSomeLoad_41 (by decide) ?_
      refine k_sub (lv' := [(0, LR (some a0)), (1, LR p1), (2, LI p2), (3, LI (q1 + 1))]) h [1, 2, 3, 0] rfl ?_
      exact hr3 (q1 + 1) s2
    · refine k_aload_n h 0 dX8_isInSomeLoad_23 rfl rfl ?_
      refine k_getR h fX8_5 (Or.inl (mw2 1 rfl)) dX8_isInSomeLoad_24 (fun v8 => ?_)
      refine k_iload_n h 3 dX8_isInSomeLoad_27 rfl rfl ?_
      refine k_alR h rfl rfl dX8_isInSomeLoad_28 (fun v9 => ?_)
      refine k_aload_n h 1 dX8_isInSomeLoad_29 rfl rfl ?_
      refine k_callVI (As := [LR p1]) (st := []) (x0 := v9) (xg := fun a12 => mX5_holds a12 p1 s2) h (fun a12 => ctX5_holds l B D cA sa a12 p1 s2) calX5_holds rfl (by decide) (mw16 7 rfl) (mw16 8 rfl) (Or.inr ⟨_, nwm 21 rfl⟩) hgood ⟨rfl, rfl, Nat.le_of_ble_eq_true rfl, Nat.le_of_ble_eq_true rfl⟩ ⟨Nat.le_of_ble_eq_true rfl, Nat.le_of_ble_eq_true rfl⟩ rfl (Nat.le_of_ble_eq_true rfl) dX8_isInSomeLoad_30 (fun v10 s11 => ?_)
      refine k_if_eq (tgt := 38) h dX8_isInSomeLoad_33 (by decide) ?_ ?_
      · refine k_iinc (w := (q1 + 1)) (lv' := [(3, LI (q1 + 1)), (0, LR (some a0)), (1, LR p1), (2, LI p2)]) h 3 dX8_isInSomeLoad_38 rfl rfl (by decide) rfl ?_
        refine k_goto (tgt := 2) h dX8_isInSomeLoad_41 (by decide) ?_
        refine k_sub (lv' := [(0, LR (some a0)), (1, LR p1), (2, LI p2), (3, LI (q1 + 1))]) h [1, 2, 3, 0] rfl ?_
        exact hr3 (q1 + 1) s11
      · refine k_iconst (v := 1) h dX8_isInSomeLoad_36 (by decide) ?_
        exact k_zret h rfl dX8_isInSomeLoad_37 (Nat.le_of_ble_eq_true rfl) (Nat.le_of_ble_eq_true rfl)
def mX8_join (a0 : Nat) (p1 : Int32) (p2 : Int32) (s0 : Sg) : Option (Int32 × Sg) :=
cv s0 8 (some a0) fun a17 => cl (mX8_groupAt a17 p1 s0) fun v1 s2 =>
cv s2 8 (some a0) fun a16 => cl (mX8_jumperAt a16 p2 s2) fun v3 s4 =>
if v1 = none then (
some ((-1), s4))
else (
if v3 = none then (
some ((-1), s4))
else (
cv s4 8 (some a0) fun a15 => cl (mX8_isInSomeLoad a15 v1 1 s4) fun v5 s6 =>
if v5 = 0 then (
cv s6 2 v1 fun a14 => cl (mX2_holds a14 v3 s6) fun v7 s8 =>
if v7 = 0 then (
gdI s8 2 2 v1 fun v9 =>
if v9 < 4 then (
cv s8 2 v1 fun a13 => cl (mX2_add a13 v3 s8) fun u10 s11 =>
gdI s11 2 2 v1 fun v12 =>
some (v12, s11))
else (
some ((-2), s8)))
else (
some ((-5), s8)))
else (
some ((-6), s6))))
def rmX8_join : Room := { frames := 2, cells := 0, slots := 0, locals := 45 }
theorem calX8_join : Cal yX8_join cX8_join 5 (some .int) 2 := ⟨(mw15 22 rfl), (mw1 2 rfl), by decide, by decide, by decide +kernel⟩
set_option maxHeartbeats 4000000 in
set_option maxRecDepth 100000 in
theorem ctX8_join (l : Launch) (B : Nat) (D : va_G) (cA : Nat → ClassId) (sa : Nat → Nat) (a0 : Nat) (p1 : Int32) (p2 : Int32) (s0 : Sg) : Ct l B D cA sa yX8_join cX8_join 5 (some .int) rmX8_join rI [LR (some a0), LI p1, LI p2] s0 0 0 (mX8_join a0 p1 p2 s0) := by
  refine Ct.of (own := RX8) (by decide) rfl _ (Nat.le_of_ble_eq_true rfl) rfl ?_
  intro p e s m args below meth c h hi
  unfold mX8_join
  refine k_aload_n h 0 dX8_join_0 rfl rfl ?_
  refine k_iload_n h 1 dX8_join_1 rfl rfl ?_
  refine k_callVR (As := [LI p1]) (st := []) (x0 := (some a0)) (xg := fun a17 => mX8_groupAt a17 p1 s0) h (fun a17 => ctX8_groupAt l B D cA sa a17 p1 s0) calX8_groupAt rfl (by decide) (mw16 0 rfl) (mw16 1 rfl) (Or.inl (mw15 23 rfl)) hgood ⟨rfl, rfl, Nat.le_of_ble_eq_true rfl, Nat.le_of_ble_eq_true rfl⟩ ⟨Nat.le_of_ble_eq_true rfl, Nat.le_of_ble_eq_true rfl⟩ rfl (Nat.le_of_ble_eq_true rfl) dX8_join_2 (fun v1 s2 => ?_)
  refine k_astore_n (lv' := [(3, LR v1), (0, LR (some a0)), (1, LI p1), (2, LI p2)]) h dX8_join_5 rfl (by decide) rfl ?_
  refine k_aload_n h 1 dX8_join_6 rfl rfl ?_
  refine k_iload_n h 3 dX8_join_7 rfl rfl ?_
  refine k_callVR (As := [LI p2]) (st := []) (x0 := (some a0)) (xg := fun a16 => mX8_jumperAt a16 p2 s2) h (fun a16 => ctX8_jumperAt l B D cA sa a16 p2 s2) calX8_jumperAt rfl (by decide) (mw14 13 rfl) (mw14 14 rfl) (Or.inl (mw14 12 rfl)) hgood ⟨rfl, rfl, Nat.le_of_ble_eq_true rfl, Nat.le_of_ble_eq_true rfl⟩ ⟨Nat.le_of_ble_eq_true rfl, Nat.le_of_ble_eq_true rfl⟩ rfl (Nat.le_of_ble_eq_true rfl) dX8_join_8 (fun v3 s4 => ?_)
  refine k_astore (lv' := [(4, LR v3), (3, LR v1), (0, LR (some a0)), (1, LI p1), (2, LI p2)]) h dX8_join_11 (by decide) rfl ?_
  refine k_aload_n h 1 dX8_join_13 rfl rfl ?_
  refine k_ifnull (tgt := 22) h dX8_join_14 (by decide) ?_ ?_
  · refine k_iconst (v := (-1)) h dX8_join_22 (by decide) ?_
    exact k_iret h rfl dX8_join_23 (Nat.le_of_ble_eq_true rfl) (Nat.le_of_ble_eq_true rfl)
  · refine k_aload h 0 dX8_join_17 rfl ?_
    refine k_ifnonnull (tgt := 24) h dX8_join_19 (by decide) ?_ ?_
    · refine k_aload_n h 2 dX8_join_24 rfl rfl ?_
      refine k_aload_n h 1 dX8_join_25 rfl rfl ?_
      refine k_iconst (v := 1) h dX8_join_26 (by decide) ?_
      refine k_callVI (As := [LR v1, LI 1]) (st := []) (x0 := (some a0)) (xg := fun a15 => mX8_isInSomeLoad a15 v1 1 s4) h (fun a15 => ctX8_isInSomeLoad l B D cA sa a15 v1 1 s4) calX8_isInSomeLoad rfl (by decide) (mw16 4 rfl) (mw16 5 rfl) (Or.inl (mw16 3 rfl)) hgood ⟨rfl, rfl, Nat.le_of_ble_eq_true rfl, Nat.le_of_ble_eq_true rfl⟩ ⟨Nat.le_of_ble_eq_true rfl, Nat.le_of_ble_eq_true rfl⟩ rfl (Nat.le_of_ble_eq_true rfl) dX8_join_27 (fun v5 s6 => ?_)
      refine k_if_eq (tgt := 36) h dX8_join_30 (by decide) ?_ ?_
      · refine k_aload_n h 1 dX8_join_36 rfl rfl ?_
        refine k_aload h 0 dX8_join_37 rfl ?_
        refine k_callVI (As := [LR v3]) (st := []) (x0 := v1) (xg := fun a14 => mX2_holds a14 v3 s6) h (fun a14 => ctX2_holds l B D cA sa a14 v3 s6) calX2_holds rfl (by decide) (mw16 10 rfl) (mw16 11 rfl) (Or.inr ⟨_, nwm 22 rfl⟩) hgood ⟨rfl, rfl, Nat.le_of_ble_eq_true rfl, Nat.le_of_ble_eq_true rfl⟩ ⟨Nat.le_of_ble_eq_true rfl, Nat.le_of_ble_eq_true rfl⟩ rfl (Nat.le_of_ble_eq_true rfl) dX8_join_39 (fun v7 s8 => ?_)
        refine k_if_eq (tgt := 48) h dX8_join_42 (by decide) ?_ ?_
        · refine k_aload_n h 1 dX8_join_48 rfl rfl ?_
          refine k_getI h fX2_2 (Or.inr ⟨_, nwf 10 rfl⟩) dX8_join_49 (fun v9 => ?_)
          refine k_iconst (v := 4) h dX8_join_52 (by decide) ?_
          refine k_icmp_lt (tgt := 59) h dX8_join_53 (by decide) ?_ ?_
          · refine k_aload_n h 1 dX8_join_59 rfl rfl ?_
            refine k_aload h 0 dX8_join_60 rfl ?_
            refine k_callVU (As := [LR v3]) (st := []) (x0 := v1) (xg := fun a13 => mX2_add a13 v3 s8) h (fun a13 => ctX2_add l B D cA sa a13 v3 s8) calX2_add rfl (by decide) (mw16 13 rfl) (mw16 14 rfl) (Or.inr ⟨_, nwm 23 rfl⟩) hgood ⟨rfl, rfl, Nat.le_of_ble_eq_true rfl, Nat.le_of_ble_eq_true rfl⟩ ⟨Nat.le_of_ble_eq_true rfl, Nat.le_of_ble_eq_true rfl⟩ rfl (Nat.le_of_ble_eq_true rfl) dX8_join_62 (fun u10 s11 => ?_)
            refine k_aload_n h 1 dX8_join_65 rfl rfl ?_
            refine k_getI h fX2_2 (Or.inr ⟨_, nwf 10 rfl⟩) dX8_join_66 (fun v12 => ?_)
            exact k_iret h rfl dX8_join_69 (Nat.le_of_ble_eq_true rfl) (Nat.le_of_ble_eq_true rfl)
          · refine k_bipush (v := (-2)) h dX8_join_56 (by decide) ?_
            exact k_iret h rfl dX8_join_58 (Nat.le_of_ble_eq_true rfl) (Nat.le_of_ble_eq_true rfl)
        · refine k_bipush (v := (-5)) h dX8_join_45 (by decide) ?_
          exact k_iret h rfl dX8_join_47 (Nat.le_of_ble_eq_true rfl) (Nat.le_of_ble_eq_true rfl)
      · refine k_bipush (v := (-6)) h dX8_join_33 (by decide) ?_
        exact k_iret h rfl dX8_join_35 (Nat.le_of_ble_eq_true rfl) (Nat.le_of_ble_eq_true rfl)
    · refine k_iconst (v := (-1)) h dX8_join_22 (by decide) ?_
      exact k_iret h rfl dX8_join_23 (Nat.le_of_ble_eq_true rfl) (Nat.le_of_ble_eq_true rfl)
def mX8_of (a0 : Nat) (p1 : Int32) (p2 : Int32) (s0 : Sg) : Option (Int32 × Sg) :=
cv s0 8 (some a0) fun a6 => cl (mX8_groupAt a6 p1 s0) fun v1 s2 =>
if v1 = none then (
some ((-1), s2))
else (
cv s2 2 v1 fun a5 => cl (mX2_tell a5 p2 s2) fun v3 s4 =>
some (v3, s4))
def rmX8_of : Room := { frames := 2, cells := 0, slots := 0, locals := 43 }
theorem calX8_of : Cal yX8_of cX8_of 4 (some .int) 2 := ⟨(mw17 12 rfl), (mw1 2 rfl), by decide, by decide, by decide +kernel⟩
set_option maxHeartbeats 4000000 in
set_option maxRecDepth 100000 in
theorem ctX8_of (l : Launch) (B : Nat) (D : va_G) (cA : Nat → ClassId) (sa : Nat → Nat) (a0 : Nat) (p1 : Int32) (p2 : Int32) (s0 : Sg) : Ct l B D cA sa yX8_of cX8_of 4 (some .int) rmX8_of rI [LR (some a0), LI p1, LI p2] s0 0 0 (mX8_of a0 p1 p2 s0) := by
  refine Ct.of (own := RX8) (by decide) rfl _ (Nat.le_of_ble_eq_true rfl) rfl ?_
  intro p e s m args below meth c h hi
  unfold mX8_of
  refine k_aload_n h 0 dX8_of_0 rfl rfl ?_
  refine k_iload_n h 1 dX8_of_1 rfl rfl ?_
  refine k_callVR (As := [LI p1]) (st := []) (x0 := (some a0)) (xg := fun a6 => mX8_groupAt a6 p1 s0) h (fun a6 => ctX8_groupAt l B D cA sa a6 p1 s0) calX8_groupAt rfl (by decide) (mw16 0 rfl) (mw16 1 rfl) (Or.inl (mw15 23 rfl)) hgood ⟨rfl, rfl, Nat.le_of_ble_eq_true rfl, Nat.le_of_ble_eq_true rfl⟩ ⟨Nat.le_of_ble_eq_true rfl, Nat.le_of_ble_eq_true rfl⟩ rfl (Nat.le_of_ble_eq_true rfl) dX8_of_2 (fun v1 s2 => ?_)
  refine k_astore_n (lv' := [(3, LR v1), (0, LR (some a0)), (1, LI p1), (2, LI p2)]) h dX8_of_5 rfl (by decide) rfl ?_
  refine k_aload_n h 0 dX8_of_6 rfl rfl ?_
  refine k_ifnonnull (tgt := 14) h dX8_of_7 (by decide) ?_ ?_
  · refine k_aload_n h 0 dX8_of_14 rfl rfl ?_
    refine k_iload_n h 3 dX8_of_15 rfl rfl ?_
    refine k_callVI (As := [LI p2]) (st := []) (x0 := v1) (xg := fun a5 => mX2_tell a5 p2 s2) h (fun a5 => ctX2_tell l B D cA sa a5 p2 s2) calX2_tell rfl (by decide) (mw17 13 rfl) (mw17 14 rfl) (Or.inr ⟨_, nwm 24 rfl⟩) hgood ⟨rfl, rfl, Nat.le_of_ble_eq_true rfl, Nat.le_of_ble_eq_true rfl⟩ ⟨Nat.le_of_ble_eq_true rfl, Nat.le_of_ble_eq_true rfl⟩ rfl (Nat.le_of_ble_eq_true rfl) dX8_of_16 (fun v3 s4 => ?_)
    exact k_iret h rfl dX8_of_19 (Nat.le_of_ble_eq_true rfl) (Nat.le_of_ble_eq_true rfl)
  · refine k_iconst (v := (-1)) h dX8_of_10 (by decide) ?_
    refine k_goto (tgt := 19) h dX8_of_11 (by decide) ?_
    exact k_iret h rfl dX8_of_19 (Nat.le_of_ble_eq_true rfl) (Nat.le_of_ble_eq_true rfl)
def mX8_planeAt (a0 : Nat) (p1 : Int32) (s0 : Sg) : Option ((Option Nat) × Sg) :=
if p1 < 0 then (
some (none, s0))
else (
gdR s0 8 4 (some a0) fun v1 =>
aln s0 v1 fun v2 =>
if v2 ≤ p1 then (
some (none, s0))
else (
gdR s0 8 4 (some a0) fun v3 =>
alR s0 6 v3 p1 fun v4 =>
some (v4, s0)))
def rmX8_planeAt : Room := { frames := 0, cells := 0, slots := 0, locals := 0 }
theorem calX8_planeAt : Cal yX8_planeAt cX8_planeAt 2 (some (.object "JumpDesk$Plane")) 1 := ⟨(mw18 12 rfl), (mw1 2 rfl), by decide, by decide, by decide +kernel⟩
set_option maxHeartbeats 4000000 in
set_option maxRecDepth 100000 in
theorem ctX8_planeAt (l : Launch) (B : Nat) (D : va_G) (cA : Nat → ClassId) (sa : Nat → Nat) (a0 : Nat) (p1 : Int32) (s0 : Sg) : Ct l B D cA sa yX8_planeAt cX8_planeAt 2 (some (.object "JumpDesk$Plane")) rmX8_planeAt (rR B) [LR (some a0), LI p1] s0 0 0 (mX8_planeAt a0 p1 s0) := by
  refine Ct.of (own := RX8) (by decide) rfl _ (Nat.le_of_ble_eq_true rfl) rfl ?_
  intro p e s m args below meth c h hi
  unfold mX8_planeAt
  refine k_iload_n h 1 dX8_planeAt_0 rfl rfl ?_
  refine k_if_lt (tgt := 22) h dX8_planeAt_1 (by decide) ?_ ?_
  · refine k_null h dX8_planeAt_22 ?_
    exact k_aret h rfl dX8_planeAt_23 (Nat.le_of_ble_eq_true rfl) (Nat.le_of_ble_eq_true rfl)
  · refine k_iload_n h 1 dX8_planeAt_4 rfl rfl ?_
    refine k_aload_n h 0 dX8_planeAt_5 rfl rfl ?_
    refine k_getR h fX8_4 (Or.inl (mw1 23 rfl)) dX8_planeAt_6 (fun v1 => ?_)
    refine k_aln h dX8_planeAt_9 (fun v2 => ?_)
    refine k_icmp_ge (tgt := 22) h dX8_planeAt_10 (by decide) ?_ ?_
    · refine k_null h dX8_planeAt_22 ?_
      exact k_aret h rfl dX8_planeAt_23 (Nat.le_of_ble_eq_true rfl) (Nat.le_of_ble_eq_true rfl)
    · refine k_aload_n h 0 dX8_planeAt_13 rfl rfl ?_
      refine k_getR h fX8_4 (Or.inl (mw1 23 rfl)) dX8_planeAt_14 (fun v3 => ?_)
      refine k_iload_n h 1 dX8_planeAt_17 rfl rfl ?_
      refine k_alR h rfl rfl dX8_planeAt_18 (fun v4 => ?_)
      refine k_goto (tgt := 23) h dX8_planeAt_19 (by decide) ?_
      exact k_aret h rfl dX8_planeAt_23 (Nat.le_of_ble_eq_true rfl) (Nat.le_of_ble_eq_true rfl)
def mX8_plane (a0 : Nat) (p1 : Int32) (p2 : Int32) (p3 : Int32) (p4 : Int32) (p5 : Int32) (s0 : Sg) : Option (Int32 × Sg) :=
cv s0 8 (some a0) fun a14 => cl (mX8_planeAt a14 p1 s0) fun v1 s2 =>
if v1 = none then (
some ((-1), s2))
else (
cl (mX8_within p2 1 20 s2) fun v3 s4 =>
if v3 = 0 then (
some ((-1), s4))
else (
cl (mX8_within p3 100 4000 s4) fun v5 s6 =>
if ¬ v5 = 0 then (
cl (mX8_within p4 200 600 s6) fun v7 s8 =>
if v7 = 0 then (
some ((-1), s8))
else (
cl (mX8_within p5 15000 47000 s8) fun v9 s10 =>
if ¬ v9 = 0 then (
cv s10 6 v1 fun a13 => cl (mX6_become a13 p2 p3 p4 p5 s10) fun u11 s12 =>
some (1, s12))
else (
some ((-1), s10))))
else (
some ((-1), s6))))
def rmX8_plane : Room := { frames := 1, cells := 0, slots := 0, locals := 24 }
theorem calX8_plane : Cal yX8_plane cX8_plane 7 (some .int) 5 := ⟨(mw18 7 rfl), (mw1 2 rfl), by decide, by decide, by decide +kernel⟩
set_option maxHeartbeats 4000000 in
set_option maxRecDepth 100000 in
theorem ctX8_plane (l : Launch) (B : Nat) (D : va_G) (cA : Nat → ClassId) (sa : Nat → Nat) (a0 : Nat) (p1 : Int32) (p2 : Int32) (p3 : Int32) (p4 : Int32) (p5 : Int32) (s0 : Sg) : Ct l B D cA sa yX8_plane cX8_plane 7 (some .int) rmX8_plane rI [LR (some a0), LI p1, LI p2, LI p3, LI p4, LI p5] s0 0 0 (mX8_plane a0 p1 p2 p3 p4 p5 s0) := by
  refine Ct.of (own := RX8) (by decide) rfl _ (Nat.le_of_ble_eq_true rfl) rfl ?_
  intro p e s m args below meth c h hi
  unfold mX8_plane
  refine k_aload_n h 0 dX8_plane_0 rfl rfl ?_
  refine k_iload_n h 1 dX8_plane_1 rfl rfl ?_
  refine k_callVR (As := [LI p1]) (st := []) (x0 := (some a0)) (xg := fun a14 => mX8_planeAt a14 p1 s0) h (fun a14 => ctX8_planeAt l B D cA sa a14 p1 s0) calX8_planeAt rfl (by decide) (mw18 10 rfl) (mw18 11 rfl) (Or.inl (mw18 9 rfl)) hgood ⟨rfl, rfl, Nat.le_of_ble_eq_true rfl, Nat.le_of_ble_eq_true rfl⟩ ⟨Nat.le_of_ble_eq_true rfl, Nat.le_of_ble_eq_true rfl⟩ rfl (Nat.le_of_ble_eq_true rfl) dX8_plane_2 (fun v1 s2 => ?_)
  refine k_astore (lv' := [(6, LR v1), (0, LR (some a0)), (1, LI p1), (2, LI p2), (3, LI p3), (4, LI p4), (5, LI p5)]) h dX8_plane_5 (by decide) rfl ?_
  refine k_aload h 0 dX8_plane_7 rfl ?_
  refine k_ifnull (tgt := 34) h dX8_plane_9 (by decide) ?_ ?_
  · refine k_iconst (v := (-1)) h dX8_plane_34 (by decide) ?_
    exact k_iret h rfl dX8_plane_35 (Nat.le_of_ble_eq_true rfl) (Nat.le_of_ble_eq_true rfl)
  · refine k_iload_n h 3 dX8_plane_12 rfl rfl ?_
    refine k_iconst (v := 1) h dX8_plane_13 (by decide) ?_
    refine k_bipush (v := 20) h dX8_plane_14 (by decide) ?_
    refine k_callSI (As := [LI p2, LI 1, LI 20]) (st := []) h (ctX8_within l B D cA sa p2 1 20 s2) calX8_within (mw9 8 rfl) (Or.inl (mw9 7 rfl)) hgood ⟨rfl, rfl, Nat.le_of_ble_eq_true rfl, Nat.le_of_ble_eq_true rfl⟩ ⟨Nat.le_of_ble_eq_true rfl, Nat.le_of_ble_eq_true rfl⟩ rfl (Nat.le_of_ble_eq_true rfl) dX8_plane_16 (fun v3 s4 => ?_)
    refine k_if_eq (tgt := 34) h dX8_plane_19 (by decide) ?_ ?_
    · refine k_iconst (v := (-1)) h dX8_plane_34 (by decide) ?_
      exact k_iret h rfl dX8_plane_35 (Nat.le_of_ble_eq_true rfl) (Nat.le_of_ble_eq_true rfl)
    · refine k_iload_n h 4 dX8_plane_22 rfl rfl ?_
      refine k_bipush (v := 100) h dX8_plane_23 (by decide) ?_
      refine k_sipush (v := 4000) h dX8_plane_25 (by decide) ?_
      refine k_callSI (As := [LI p3, LI 100, LI 4000]) (st := []) h (ctX8_within l B D cA sa p3 100 4000 s4) calX8_within (mw9 8 rfl) (Or.inl (mw9 7 rfl)) hgood ⟨rfl, rfl, Nat.le_of_ble_eq_true rfl, Nat.le_of_ble_eq_true rfl⟩ ⟨Nat.le_of_ble_eq_true rfl, Nat.le_of_ble_eq_true rfl⟩ rfl (Nat.le_of_ble_eq_true rfl) dX8_plane_28 (fun v5 s6 => ?_)
      refine k_if_ne (tgt := 36) h dX8_plane_31 (by decide) ?_ ?_
      · refine k_iload h 5 dX8_plane_36 rfl ?_
        refine k_sipush (v := 200) h dX8_plane_38 (by decide) ?_
        refine k_sipush (v := 600) h dX8_plane_41 (by decide) ?_
        refine k_callSI (As := [LI p4, LI 200, LI 600]) (st := []) h (ctX8_within l B D cA sa p4 200 600 s6) calX8_within (mw9 8 rfl) (Or.inl (mw9 7 rfl)) hgood ⟨rfl, rfl, Nat.le_of_ble_eq_true rfl, Nat.le_of_ble_eq_true rfl⟩ ⟨Nat.le_of_ble_eq_true rfl, Nat.le_of_ble_eq_true rfl⟩ rfl (Nat.le_of_ble_eq_true rfl) dX8_plane_44 (fun v7 s8 => ?_)
        refine k_if_eq (tgt := 63) h dX8_plane_47 (by decide) ?_ ?_
        · refine k_iconst (v := (-1)) h dX8_plane_63 (by decide) ?_
          exact k_iret h rfl dX8_plane_64 (Nat.le_of_ble_eq_true rfl) (Nat.le_of_ble_eq_true rfl)
        · refine k_iload h 6 dX8_plane_50 rfl ?_
          refine k_sipush (v := 15000) h dX8_plane_52 (by decide) ?_
          refine k_ldc (v := 47000) h dX8_plane_55 (mw18 8 rfl) ?_
          refine k_callSI (As := [LI p5, LI 15000, LI 47000]) (st := []) h (ctX8_within l B D cA sa p5 15000 47000 s8) calX8_within (mw9 8 rfl) (Or.inl (mw9 7 rfl)) hgood ⟨rfl, rfl, Nat.le_of_ble_eq_true rfl, Nat.le_of_ble_eq_true rfl⟩ ⟨Nat.le_of_ble_eq_true rfl, Nat.le_of_ble_eq_true rfl⟩ rfl (Nat.le_of_ble_eq_true rfl) dX8_plane_57 (fun v9 s10 => ?_)
          refine k_if_ne (tgt := 65) h dX8_plane_60 (by decide) ?_ ?_
          · refine k_aload h 0 dX8_plane_65 rfl ?_
            refine k_iload_n h 3 dX8_plane_67 rfl rfl ?_
            refine k_iload_n h 4 dX8_plane_68 rfl rfl ?_
            refine k_iload h 5 dX8_plane_69 rfl ?_
            refine k_iload h 6 dX8_plane_71 rfl ?_
            refine k_callVU (As := [LI p2, LI p3, LI p4, LI p5]) (st := []) (x0 := v1) (xg := fun a13 => mX6_become a13 p2 p3 p4 p5 s10) h (fun a13 => ctX6_become l B D cA sa a13 p2 p3 p4 p5 s10) calX6_become rfl (by decide) (mw18 13 rfl) (mw18 14 rfl) (Or.inr ⟨_, nwm 25 rfl⟩) hgood ⟨rfl, rfl, Nat.le_of_ble_eq_true rfl, Nat.le_of_ble_eq_true rfl⟩ ⟨Nat.le_of_ble_eq_true rfl, Nat.le_of_ble_eq_true rfl⟩ rfl (Nat.le_of_ble_eq_true rfl) dX8_plane_73 (fun u11 s12 => ?_)
            refine k_iconst (v := 1) h dX8_plane_76 (by decide) ?_
            exact k_iret h rfl dX8_plane_77 (Nat.le_of_ble_eq_true rfl) (Nat.le_of_ble_eq_true rfl)
          · refine k_iconst (v := (-1)) h dX8_plane_63 (by decide) ?_
            exact k_iret h rfl dX8_plane_64 (Nat.le_of_ble_eq_true rfl) (Nat.le_of_ble_eq_true rfl)
      · refine k_iconst (v := (-1)) h dX8_plane_34 (by decide) ?_
        exact k_iret h rfl dX8_plane_35 (Nat.le_of_ble_eq_true rfl) (Nat.le_of_ble_eq_true rfl)
def mX8_rule (a0 : Nat) (p1 : Int32) (p2 : Int32) (s0 : Sg) : Option (Int32 × Sg) :=
cl (mX8_within p1 0 9 s0) fun v1 s2 =>
if v1 = 0 then (
some ((-1), s2))
else (
gS 1 p1 fun v3 =>
cl (mX8_within p2 0 v3 s2) fun v4 s5 =>
if ¬ v4 = 0 then (
gdR s5 8 6 (some a0) fun v6 =>
alI s5 v6 p1 fun v7 =>
gdR s5 8 6 (some a0) fun v8 =>
asI s5 v8 p1 p2 fun s9 =>
some (v7, s9))
else (
some ((-1), s5)))
def rmX8_rule : Room := { frames := 1, cells := 0, slots := 0, locals := 22 }
theorem calX8_rule : Cal yX8_rule cX8_rule 4 (some .int) 2 := ⟨(mw19 3 rfl), (mw1 2 rfl), by decide, by decide, by decide +kernel⟩
set_option maxHeartbeats 4000000 in
set_option maxRecDepth 100000 in
theorem ctX8_rule (l : Launch) (B : Nat) (D : va_G) (cA : Nat → ClassId) (sa : Nat → Nat) (a0 : Nat) (p1 : Int32) (p2 : Int32) (s0 : Sg) : Ct l B D cA sa yX8_rule cX8_rule 4 (some .int) rmX8_rule rI [LR (some a0), LI p1, LI p2] s0 0 0 (mX8_rule a0 p1 p2 s0) := by
  refine Ct.of (own := RX8) (by decide) rfl _ (Nat.le_of_ble_eq_true rfl) rfl ?_
  intro p e s m args below meth c h hi
  unfold mX8_rule
  refine k_iload_n h 1 dX8_rule_0 rfl rfl ?_
  refine k_iconst (v := 0) h dX8_rule_1 (by decide) ?_
  refine k_bipush (v := 9) h dX8_rule_2 (by decide) ?_
  refine k_callSI (As := [LI p1, LI 0, LI 9]) (st := []) h (ctX8_within l B D cA sa p1 0 9 s0) calX8_within (mw9 8 rfl) (Or.inl (mw9 7 rfl)) hgood ⟨rfl, rfl, Nat.le_of_ble_eq_true rfl, Nat.le_of_ble_eq_true rfl⟩ ⟨Nat.le_of_ble_eq_true rfl, Nat.le_of_ble_eq_true rfl⟩ rfl (Nat.le_of_ble_eq_true rfl) dX8_rule_4 (fun v1 s2 => ?_)
  refine k_if_eq (tgt := 23) h dX8_rule_7 (by decide) ?_ ?_
  · refine k_iconst (v := (-1)) h dX8_rule_23 (by decide) ?_
    exact k_iret h rfl dX8_rule_24 (Nat.le_of_ble_eq_true rfl) (Nat.le_of_ble_eq_true rfl)
  · refine k_iload_n h 2 dX8_rule_10 rfl rfl ?_
    refine k_iconst (v := 0) h dX8_rule_11 (by decide) ?_
    refine k_gets (k0 := 1) h (by decide) (Or.inl (mw19 4 rfl)) dX8_rule_12 ?_
    refine k_iload_n h 1 dX8_rule_15 rfl rfl ?_
    refine k_alS h (by decide) dX8_rule_16 (fun v3 => ?_)
    refine k_callSI (As := [LI p2, LI 0, LI v3]) (st := []) h (ctX8_within l B D cA sa p2 0 v3 s2) calX8_within (mw9 8 rfl) (Or.inl (mw9 7 rfl)) hgood ⟨rfl, rfl, Nat.le_of_ble_eq_true rfl, Nat.le_of_ble_eq_true rfl⟩ ⟨Nat.le_of_ble_eq_true rfl, Nat.le_of_ble_eq_true rfl⟩ rfl (Nat.le_of_ble_eq_true rfl) dX8_rule_17 (fun v4 s5 => ?_)
    refine k_if_ne (tgt := 25) h dX8_rule_20 (by decide) ?_ ?_
    · refine k_aload_n h 0 dX8_rule_25 rfl rfl ?_
      refine k_getR h fX8_6 (Or.inl (mw2 9 rfl)) dX8_rule_26 (fun v6 => ?_)
      refine k_iload_n h 1 dX8_rule_29 rfl rfl ?_
      refine k_alI h dX8_rule_30 (fun v7 => ?_)
      refine k_istore_n (lv' := [(3, LI v7), (0, LR (some a0)), (1, LI p1), (2, LI p2)]) h dX8_rule_31 rfl (by decide) rfl ?_
      refine k_aload_n h 1 dX8_rule_32 rfl rfl ?_
      refine k_getR h fX8_6 (Or.inl (mw2 9 rfl)) dX8_rule_33 (fun v8 => ?_)
      refine k_iload_n h 2 dX8_rule_36 rfl rfl ?_
      refine k_iload_n h 3 dX8_rule_37 rfl rfl ?_
      refine k_asI h dX8_rule_38 (fun s9 => ?_)
      refine k_iload_n h 0 dX8_rule_39 rfl rfl ?_
      exact k_iret h rfl dX8_rule_40 (Nat.le_of_ble_eq_true rfl) (Nat.le_of_ble_eq_true rfl)
    · refine k_iconst (v := (-1)) h dX8_rule_23 (by decide) ?_
      exact k_iret h rfl dX8_rule_24 (Nat.le_of_ble_eq_true rfl) (Nat.le_of_ble_eq_true rfl)
def mX8_load (a0 : Nat) (p1 : Int32) (s0 : Sg) : Option (Int32 × Sg) :=
cv s0 8 (some a0) fun a16 => cl (mX8_planeAt a16 p1 s0) fun v1 s2 =>
if v1 = none then (
some ((-1), s2))
else (
gdI s2 8 10 (some a0) fun v3 =>
gdR s2 8 5 (some a0) fun v4 =>
aln s2 v4 fun v5 =>
if v3 < v5 then (
gdR s2 8 5 (some a0) fun v6 =>
gdI s2 8 10 (some a0) fun v7 =>
alR s2 5 v6 v7 fun v8 =>
gdR s2 8 1 (some a0) fun v9 =>
cv s2 5 v8 fun a15 => cl (mX5_begin a15 v1 v9 s2) fun u10 s11 =>
gdI s11 8 10 (some a0) fun v12 =>
ptI s11 8 10 (some a0) (v12 + 1) fun s13 =>
gdI s13 8 10 (some a0) fun v14 =>
some ((v14 - 1), s13))
else (
some ((-2), s2)))
def rmX8_load : Room := { frames := 1, cells := 0, slots := 0, locals := 22 }
theorem calX8_load : Cal yX8_load cX8_load 3 (some .int) 1 := ⟨(mw19 14 rfl), (mw1 2 rfl), by decide, by decide, by decide +kernel⟩
set_option maxHeartbeats 4000000 in
set_option maxRecDepth 100000 in
theorem ctX8_load (l : Launch) (B : Nat) (D : va_G) (cA : Nat → ClassId) (sa : Nat → Nat) (a0 : Nat) (p1 : Int32) (s0 : Sg) : Ct l B D cA sa yX8_load cX8_load 3 (some .int) rmX8_load rI [LR (some a0), LI p1] s0 0 0 (mX8_load a0 p1 s0) := by
  refine Ct.of (own := RX8) (by decide) rfl _ (Nat.le_of_ble_eq_true rfl) rfl ?_
  intro p e s m args below meth c h hi
  unfold mX8_load
  refine k_aload_n h 0 dX8_load_0 rfl rfl ?_
  refine k_iload_n h 1 dX8_load_1 rfl rfl ?_
  refine k_callVR (As := [LI p1]) (st := []) (x0 := (some a0)) (xg := fun a16 => mX8_planeAt a16 p1 s0) h (fun a16 => ctX8_planeAt l B D cA sa a16 p1 s0) calX8_planeAt rfl (by decide) (mw18 10 rfl) (mw18 11 rfl) (Or.inl (mw18 9 rfl)) hgood ⟨rfl, rfl, Nat.le_of_ble_eq_true rfl, Nat.le_of_ble_eq_true rfl⟩ ⟨Nat.le_of_ble_eq_true rfl, Nat.le_of_ble_eq_true rfl⟩ rfl (Nat.le_of_ble_eq_true rfl) dX8_load_2 (fun v1 s2 => ?_)
  refine k_astore_n (lv' := [(2, LR v1), (0, LR (some a0)), (1, LI p1)]) h dX8_load_5 rfl (by decide) rfl ?_
  refine k_aload_n h 0 dX8_load_6 rfl rfl ?_
  refine k_ifnonnull (tgt := 12) h dX8_load_7 (by decide) ?_ ?_
  · refine k_aload_n h 1 dX8_load_12 rfl rfl ?_
    refine k_getI h fX8_10 (Or.inl (mw2 17 rfl)) dX8_load_13 (fun v3 => ?_)
    refine k_aload_n h 1 dX8_load_16 rfl rfl ?_
    refine k_getR h fX8_5 (Or.inl (mw2 1 rfl)) dX8_load_17 (fun v4 => ?_)
    refine k_aln h dX8_load_20 (fun v5 => ?_)
    refine k_icmp_lt (tgt := 27) h dX8_load_21 (by decide) ?_ ?_
    · refine k_aload_n h 1 dX8_load_27 rfl rfl ?_
      refine k_getR h fX8_5 (Or.inl (mw2 1 rfl)) dX8_load_28 (fun v6 => ?_)
      refine k_aload_n h 1 dX8_load_31 rfl rfl ?_
      refine k_getI h fX8_10 (Or.inl (mw2 17 rfl)) dX8_load_32 (fun v7 => ?_)
      refine k_alR h rfl rfl dX8_load_35 (fun v8 => ?_)
      refine k_aload_n h 0 dX8_load_36 rfl rfl ?_
      refine k_aload_n h 1 dX8_load_37 rfl rfl ?_
      refine k_getR h fX8_1 (Or.inl (mw1 17 rfl)) dX8_load_38 (fun v9 => ?_)
      refine k_callVU (As := [LR v1, LR v9]) (st := []) (x0 := v8) (xg := fun a15 => mX5_begin a15 v1 v9 s2) h (fun a15 => ctX5_begin l B D cA sa a15 v1 v9 s2) calX5_begin rfl (by decide) (mw19 15 rfl) (mw19 16 rfl) (Or.inr ⟨_, nwm 26 rfl⟩) hgood ⟨rfl, rfl, Nat.le_of_ble_eq_true rfl, Nat.le_of_ble_eq_true rfl⟩ ⟨Nat.le_of_ble_eq_true rfl, Nat.le_of_ble_eq_true rfl⟩ rfl (Nat.le_of_ble_eq_true rfl) dX8_load_41 (fun u10 s11 => ?_)
      refine k_aload_n h 1 dX8_load_44 rfl rfl ?_
      refine k_dup h dX8_load_45 rfl ?_
      refine k_getI h fX8_10 (Or.inl (mw2 17 rfl)) dX8_load_46 (fun v12 => ?_)
      refine k_iconst (v := 1) h dX8_load_49 (by decide) ?_
      refine k_iadd h dX8_load_50 ?_
      refine k_putI h fX8_10 (Or.inl (mw2 17 rfl)) rfl dX8_load_51 (fun s13 => ?_)
      refine k_aload_n h 1 dX8_load_54 rfl rfl ?_
      refine k_getI h fX8_10 (Or.inl (mw2 17 rfl)) dX8_load_55 (fun v14 => ?_)
      refine k_iconst (v := 1) h dX8_load_58 (by decide) ?_
      refine k_isub h dX8_load_59 ?_
      exact k_iret h rfl dX8_load_60 (Nat.le_of_ble_eq_true rfl) (Nat.le_of_ble_eq_true rfl)
    · refine k_bipush (v := (-2)) h dX8_load_24 (by decide) ?_
      exact k_iret h rfl dX8_load_26 (Nat.le_of_ble_eq_true rfl) (Nat.le_of_ble_eq_true rfl)
  · refine k_iconst (v := (-1)) h dX8_load_10 (by decide) ?_
    exact k_iret h rfl dX8_load_11 (Nat.le_of_ble_eq_true rfl) (Nat.le_of_ble_eq_true rfl)
def mX8_loadAt (a0 : Nat) (p1 : Int32) (s0 : Sg) : Option ((Option Nat) × Sg) :=
if p1 < 0 then (
some (none, s0))
else (
gdI s0 8 10 (some a0) fun v1 =>
if v1 ≤ p1 then (
some (none, s0))
else (
gdR s0 8 5 (some a0) fun v2 =>
aln s0 v2 fun v3 =>
if v3 ≤ p1 then (
some (none, s0))
else (
gdR s0 8 5 (some a0) fun v4 =>
alR s0 5 v4 p1 fun v5 =>
some (v5, s0))))
def rmX8_loadAt : Room := { frames := 0, cells := 0, slots := 0, locals := 0 }
theorem calX8_loadAt : Cal yX8_loadAt cX8_loadAt 2 (some (.object "JumpDesk$Load")) 1 := ⟨(mw20 5 rfl), (mw1 2 rfl), by decide, by decide, by decide +kernel⟩
set_option maxHeartbeats 4000000 in
set_option maxRecDepth 100000 in
theorem ctX8_loadAt (l : Launch) (B : Nat) (D : va_G) (cA : Nat → ClassId) (sa : Nat → Nat) (a0 : Nat) (p1 : Int32) (s0 : Sg) : Ct l B D cA sa yX8_loadAt cX8_loadAt 2 (some (.object "JumpDesk$Load")) rmX8_loadAt (rR B) [LR (some a0), LI p1] s0 0 0 (mX8_loadAt a0 p1 s0) := by
  refine Ct.of (own := RX8) (by decide) rfl _ (Nat.le_of_ble_eq_true rfl) rfl ?_
  intro p e s m args below meth c h hi
  unfold mX8_loadAt
  refine k_iload_n h 1 dX8_loadAt_0 rfl rfl ?_
  refine k_if_lt (tgt := 30) h dX8_loadAt_1 (by decide) ?_ ?_
  · refine k_null h dX8_loadAt_30 ?_
    exact k_aret h rfl dX8_loadAt_31 (Nat.le_of_ble_eq_true rfl) (Nat.le_of_ble_eq_true rfl)
  · refine k_iload_n h 1 dX8_loadAt_4 rfl rfl ?_
    refine k_aload_n h 0 dX8_loadAt_5 rfl rfl ?_
    refine k_getI h fX8_10 (Or.inl (mw2 17 rfl)) dX8_loadAt_6 (fun v1 => ?_)
    refine k_icmp_ge (tgt := 30) h dX8_loadAt_9 (by decide) ?_ ?_
    · refine k_null h dX8_loadAt_30 ?_
      exact k_aret h rfl dX8_loadAt_31 (Nat.le_of_ble_eq_true rfl) (Nat.le_of_ble_eq_true rfl)
    · refine k_iload_n h 1 dX8_loadAt_12 rfl rfl ?_
      refine k_aload_n h 0 dX8_loadAt_13 rfl rfl ?_
      refine k_getR h fX8_5 (Or.inl (mw2 1 rfl)) dX8_loadAt_14 (fun v2 => ?_)
      refine k_aln h dX8_loadAt_17 (fun v3 => ?_)
      refine k_icmp_ge (tgt := 30) h dX8_loadAt_18 (by decide) ?_ ?_
      · refine k_null h dX8_loadAt_30 ?_
        exact k_aret h rfl dX8_loadAt_31 (Nat.le_of_ble_eq_true rfl) (Nat.le_of_ble_eq_true rfl)
      · refine k_aload_n h 0 dX8_loadAt_21 rfl rfl ?_
        refine k_getR h fX8_5 (Or.inl (mw2 1 rfl)) dX8_loadAt_22 (fun v4 => ?_)
        refine k_iload_n h 1 dX8_loadAt_25 rfl rfl ?_
        refine k_alR h rfl rfl dX8_loadAt_26 (fun v5 => ?_)
        refine k_goto (tgt := 31) h dX8_loadAt_27 (by decide) ?_
        exact k_aret h rfl dX8_loadAt_31 (Nat.le_of_ble_eq_true rfl) (Nat.le_of_ble_eq_true rfl)
def mX8_isPause (p1 : Int32) (s0 : Sg) : Option (Int32 × Sg) :=
cl (mX8_within p1 1 60 s0) fun v1 s2 =>
ckB v1 (some (v1, s2))
def rmX8_isPause : Room := { frames := 1, cells := 0, slots := 0, locals := 22 }
theorem calX8_isPause : Cal yX8_isPause cX8_isPause 1 (some .boolean) 1 := ⟨(mw20 8 rfl), (mw1 2 rfl), by decide, by decide, by decide +kernel⟩
set_option maxHeartbeats 4000000 in
set_option maxRecDepth 100000 in
theorem ctX8_isPause (l : Launch) (B : Nat) (D : va_G) (cA : Nat → ClassId) (sa : Nat → Nat) (p1 : Int32) (s0 : Sg) : Ct l B D cA sa yX8_isPause cX8_isPause 1 (some .boolean) rmX8_isPause rI [LI p1] s0 0 0 (mX8_isPause p1 s0) := by
  refine Ct.of (own := RX8) (by decide) rfl _ (Nat.le_of_ble_eq_true rfl) rfl ?_
  intro p e s m args below meth c h hi
  unfold mX8_isPause
  refine k_iload_n h 0 dX8_isPause_0 rfl rfl ?_
  refine k_iconst (v := 1) h dX8_isPause_1 (by decide) ?_
  refine k_bipush (v := 60) h dX8_isPause_2 (by decide) ?_
  refine k_callSI (As := [LI p1, LI 1, LI 60]) (st := []) h (ctX8_within l B D cA sa p1 1 60 s0) calX8_within (mw9 8 rfl) (Or.inl (mw9 7 rfl)) hgood ⟨rfl, rfl, Nat.le_of_ble_eq_true rfl, Nat.le_of_ble_eq_true rfl⟩ ⟨Nat.le_of_ble_eq_true rfl, Nat.le_of_ble_eq_true rfl⟩ rfl (Nat.le_of_ble_eq_true rfl) dX8_isPause_4 (fun v1 s2 => ?_)
  exact k_zret h rfl dX8_isPause_7 (Nat.le_of_ble_eq_true rfl) (Nat.le_of_ble_eq_true rfl)
def mX8_put (a0 : Nat) (p1 : Int32) (p2 : Int32) (p3 : Int32) (s0 : Sg) : Option (Int32 × Sg) :=
cv s0 8 (some a0) fun a17 => cl (mX8_loadAt a17 p1 s0) fun v1 s2 =>
cv s2 8 (some a0) fun a16 => cl (mX8_groupAt a16 p2 s2) fun v3 s4 =>
if v1 = none then (
some ((-1), s4))
else (
if v3 = none then (
some ((-1), s4))
else (
cl (mX8_isPause p3 s4) fun v5 s6 =>
if ¬ v5 = 0 then (
gdI s6 5 8 v1 fun v7 =>
if v7 = 0 then (
cv s6 8 (some a0) fun a15 => cl (mX8_isInSomeLoad a15 v3 0 s6) fun v8 s9 =>
if v8 = 0 then (
gdI s9 5 6 v1 fun v10 =>
if v10 < 6 then (
cv s9 5 v1 fun a14 => cl (mX5_add a14 v3 p3 s9) fun u11 s12 =>
gdI s12 5 6 v1 fun v13 =>
some (v13, s12))
else (
some ((-2), s9)))
else (
some ((-5), s9)))
else (
some ((-6), s6)))
else (
some ((-1), s6))))
def rmX8_put : Room := { frames := 2, cells := 0, slots := 0, locals := 45 }
theorem calX8_put : Cal yX8_put cX8_put 6 (some .int) 3 := ⟨(mw20 1 rfl), (mw1 2 rfl), by decide, by decide, by decide +kernel⟩
set_option maxHeartbeats 4000000 in
set_option maxRecDepth 100000 in
theorem ctX8_put (l : Launch) (B : Nat) (D : va_G) (cA : Nat → ClassId) (sa : Nat → Nat) (a0 : Nat) (p1 : Int32) (p2 : Int32) (p3 : Int32) (s0 : Sg) : Ct l B D cA sa yX8_put cX8_put 6 (some .int) rmX8_put rI [LR (some a0), LI p1, LI p2, LI p3] s0 0 0 (mX8_put a0 p1 p2 p3 s0) := by
  refine Ct.of (own := RX8) (by decide) rfl _ (Nat.le_of_ble_eq_true rfl) rfl ?_
  intro p e s m args below meth c h hi
  unfold mX8_put
  refine k_aload_n h 0 dX8_put_0 rfl rfl ?_
  refine k_iload_n h 1 dX8_put_1 rfl rfl ?_
  refine k_callVR (As := [LI p1]) (st := []) (x0 := (some a0)) (xg := fun a17 => mX8_loadAt a17 p1 s0) h (fun a17 => ctX8_loadAt l B D cA sa a17 p1 s0) calX8_loadAt rfl (by decide) (mw20 3 rfl) (mw20 4 rfl) (Or.inl (mw20 2 rfl)) hgood ⟨rfl, rfl, Nat.le_of_ble_eq_true rfl, Nat.le_of_ble_eq_true rfl⟩ ⟨Nat.le_of_ble_eq_true rfl, Nat.le_of_ble_eq_true rfl⟩ rfl (Nat.le_of_ble_eq_true rfl) dX8_put_2 (fun v1 s2 => ?_)
  refine k_astore (lv' := [(4, LR v1), (0, LR (some a0)), (1, LI p1), (2, LI p2), (3, LI p3)]) h dX8_put_5 (by decide) rfl ?_
  refine k_aload_n h 1 dX8_put_7 rfl rfl ?_
  refine k_iload_n h 3 dX8_put_8 rfl rfl ?_
  refine k_callVR (As := [LI p2]) (st := []) (x0 := (some a0)) (xg := fun a16 => mX8_groupAt a16 p2 s2) h (fun a16 => ctX8_groupAt l B D cA sa a16 p2 s2) calX8_groupAt rfl (by decide) (mw16 0 rfl) (mw16 1 rfl) (Or.inl (mw15 23 rfl)) hgood ⟨rfl, rfl, Nat.le_of_ble_eq_true rfl, Nat.le_of_ble_eq_true rfl⟩ ⟨Nat.le_of_ble_eq_true rfl, Nat.le_of_ble_eq_true rfl⟩ rfl (Nat.le_of_ble_eq_true rfl) dX8_put_9 (fun v3 s4 => ?_)
  refine k_astore (lv' := [(5, LR v3), (4, LR v1), (0, LR (some a0)), (1, LI p1), (2, LI p2), (3, LI p3)]) h dX8_put_12 (by decide) rfl ?_
  refine k_aload h 1 dX8_put_14 rfl ?_
  refine k_ifnull (tgt := 31) h dX8_put_16 (by decide) ?_ ?_
  · refine k_iconst (v := (-1)) h dX8_put_31 (by decide) ?_
    exact k_iret h rfl dX8_put_32 (Nat.le_of_ble_eq_true rfl) (Nat.le_of_ble_eq_true rfl)
  · refine k_aload h 0 dX8_put_19 rfl ?_
    refine k_ifnull (tgt := 31) h dX8_put_21 (by decide) ?_ ?_
    · refine k_iconst (v := (-1)) h dX8_put_31 (by decide) ?_
      exact k_iret h rfl dX8_put_32 (Nat.le_of_ble_eq_true rfl) (Nat.le_of_ble_eq_true rfl)
    · refine k_iload_n h 5 dX8_put_24 rfl rfl ?_
      refine k_callSI (As := [LI p3]) (st := []) h (ctX8_isPause l B D cA sa p3 s4) calX8_isPause (mw20 7 rfl) (Or.inl (mw20 6 rfl)) hgood ⟨rfl, rfl, Nat.le_of_ble_eq_true rfl, Nat.le_of_ble_eq_true rfl⟩ ⟨Nat.le_of_ble_eq_true rfl, Nat.le_of_ble_eq_true rfl⟩ rfl (Nat.le_of_ble_eq_true rfl) dX8_put_25 (fun v5 s6 => ?_)
      refine k_if_ne (tgt := 33) h dX8_put_28 (by decide) ?_ ?_
      · refine k_aload h 1 dX8_put_33 rfl ?_
        refine k_getI h fX5_8 (Or.inr ⟨_, nwf 31 rfl⟩) dX8_put_35 (fun v7 => ?_)
        refine k_if_eq (tgt := 44) h dX8_put_38 (by decide) ?_ ?_
        · refine k_aload_n h 2 dX8_put_44 rfl rfl ?_
          refine k_aload h 0 dX8_put_45 rfl ?_
          refine k_iconst (v := 0) h dX8_put_47 (by decide) ?_
          refine k_callVI (As := [LR v3, LI 0]) (st := []) (x0 := (some a0)) (xg := fun a15 => mX8_isInSomeLoad a15 v3 0 s6) h (fun a15 => ctX8_isInSomeLoad l B D cA sa a15 v3 0 s6) calX8_isInSomeLoad rfl (by decide) (mw16 4 rfl) (mw16 5 rfl) (Or.inl (mw16 3 rfl)) hgood ⟨rfl, rfl, Nat.le_of_ble_eq_true rfl, Nat.le_of_ble_eq_true rfl⟩ ⟨Nat.le_of_ble_eq_true rfl, Nat.le_of_ble_eq_true rfl⟩ rfl (Nat.le_of_ble_eq_true rfl) dX8_put_48 (fun v8 s9 => ?_)
          refine k_if_eq (tgt := 57) h dX8_put_51 (by decide) ?_ ?_
          · refine k_aload h 1 dX8_put_57 rfl ?_
            refine k_getI h fX5_6 (Or.inr ⟨_, nwf 29 rfl⟩) dX8_put_59 (fun v10 => ?_)
            refine k_bipush (v := 6) h dX8_put_62 (by decide) ?_
            refine k_icmp_lt (tgt := 70) h dX8_put_64 (by decide) ?_ ?_
            · refine k_aload h 1 dX8_put_70 rfl ?_
              refine k_aload h 0 dX8_put_72 rfl ?_
              refine k_iload_n h 5 dX8_put_74 rfl rfl ?_
              refine k_callVU (As := [LR v3, LI p3]) (st := []) (x0 := v1) (xg := fun a14 => mX5_add a14 v3 p3 s9) h (fun a14 => ctX5_add l B D cA sa a14 v3 p3 s9) calX5_add rfl (by decide) (mw20 9 rfl) (mw20 10 rfl) (Or.inr ⟨_, nwm 27 rfl⟩) hgood ⟨rfl, rfl, Nat.le_of_ble_eq_true rfl, Nat.le_of_ble_eq_true rfl⟩ ⟨Nat.le_of_ble_eq_true rfl, Nat.le_of_ble_eq_true rfl⟩ rfl (Nat.le_of_ble_eq_true rfl) dX8_put_75 (fun u11 s12 => ?_)
              refine k_aload h 1 dX8_put_78 rfl ?_
              refine k_getI h fX5_6 (Or.inr ⟨_, nwf 29 rfl⟩) dX8_put_80 (fun v13 => ?_)
              exact k_iret h rfl dX8_put_83 (Nat.le_of_ble_eq_true rfl) (Nat.le_of_ble_eq_true rfl)
            · refine k_bipush (v := (-2)) h dX8_put_67 (by decide) ?_
              exact k_iret h rfl dX8_put_69 (Nat.le_of_ble_eq_true rfl) (Nat.le_of_ble_eq_true rfl)
          · refine k_bipush (v := (-5)) h dX8_put_54 (by decide) ?_
            exact k_iret h rfl dX8_put_56 (Nat.le_of_ble_eq_true rfl) (Nat.le_of_ble_eq_true rfl)
        · refine k_bipush (v := (-6)) h dX8_put_41 (by decide) ?_
          exact k_iret h rfl dX8_put_43 (Nat.le_of_ble_eq_true rfl) (Nat.le_of_ble_eq_true rfl)
      · refine k_iconst (v := (-1)) h dX8_put_31 (by decide) ?_
        exact k_iret h rfl dX8_put_32 (Nat.le_of_ble_eq_true rfl) (Nat.le_of_ble_eq_true rfl)
def mX8_out (a0 : Nat) (p1 : Int32) (p2 : Int32) (s0 : Sg) : Option (Int32 × Sg) :=
cv s0 8 (some a0) fun a11 => cl (mX8_loadAt a11 p1 s0) fun v1 s2 =>
if v1 = none then (
some ((-1), s2))
else (
cv s2 5 v1 fun a10 => cl (mX5_has a10 p2 s2) fun v3 s4 =>
if ¬ v3 = 0 then (
gdI s4 5 8 v1 fun v5 =>
if v5 = 0 then (
cv s4 5 v1 fun a9 => cl (mX5_remove a9 p2 s4) fun u6 s7 =>
gdI s7 5 6 v1 fun v8 =>
some (v8, s7))
else (
some ((-6), s4)))
else (
some ((-1), s4)))
def rmX8_out : Room := { frames := 2, cells := 0, slots := 0, locals := 43 }
theorem calX8_out : Cal yX8_out cX8_out 4 (some .int) 2 := ⟨(mw21 0 rfl), (mw1 2 rfl), by decide, by decide, by decide +kernel⟩
set_option maxHeartbeats 4000000 in
set_option maxRecDepth 100000 in
theorem ctX8_out (l : Launch) (B : Nat) (D : va_G) (cA : Nat → ClassId) (sa : Nat → Nat) (a0 : Nat) (p1 : Int32) (p2 : Int32) (s0 : Sg) : Ct l B D cA sa yX8_out cX8_out 4 (some .int) rmX8_out rI [LR (some a0), LI p1, LI p2] s0 0 0 (mX8_out a0 p1 p2 s0) := by
  refine Ct.of (own := RX8) (by decide) rfl _ (Nat.le_of_ble_eq_true rfl) rfl ?_
  intro p e s m args below meth c h hi
  unfold mX8_out
  refine k_aload_n h 0 dX8_out_0 rfl rfl ?_
  refine k_iload_n h 1 dX8_out_1 rfl rfl ?_
  refine k_callVR (As := [LI p1]) (st := []) (x0 := (some a0)) (xg := fun a11 => mX8_loadAt a11 p1 s0) h (fun a11 => ctX8_loadAt l B D cA sa a11 p1 s0) calX8_loadAt rfl (by decide) (mw20 3 rfl) (mw20 4 rfl) (Or.inl (mw20 2 rfl)) hgood ⟨rfl, rfl, Nat.le_of_ble_eq_true rfl, Nat.le_of_ble_eq_true rfl⟩ ⟨Nat.le_of_ble_eq_true rfl, Nat.le_of_ble_eq_true rfl⟩ rfl (Nat.le_of_ble_eq_true rfl) dX8_out_2 (fun v1 s2 => ?_)
  refine k_astore_n (lv' := [(3, LR v1), (0, LR (some a0)), (1, LI p1), (2, LI p2)]) h dX8_out_5 rfl (by decide) rfl ?_
  refine k_aload_n h 0 dX8_out_6 rfl rfl ?_
  refine k_ifnull (tgt := 18) h dX8_out_7 (by decide) ?_ ?_
  · refine k_iconst (v := (-1)) h dX8_out_18 (by decide) ?_
    exact k_iret h rfl dX8_out_19 (Nat.le_of_ble_eq_true rfl) (Nat.le_of_ble_eq_true rfl)
  · refine k_aload_n h 0 dX8_out_10 rfl rfl ?_
    refine k_iload_n h 3 dX8_out_11 rfl rfl ?_
    refine k_callVI (As := [LI p2]) (st := []) (x0 := v1) (xg := fun a10 => mX5_has a10 p2 s2) h (fun a10 => ctX5_has l B D cA sa a10 p2 s2) calX5_has rfl (by decide) (mw21 1 rfl) (mw21 2 rfl) (Or.inr ⟨_, nwm 28 rfl⟩) hgood ⟨rfl, rfl, Nat.le_of_ble_eq_true rfl, Nat.le_of_ble_eq_true rfl⟩ ⟨Nat.le_of_ble_eq_true rfl, Nat.le_of_ble_eq_true rfl⟩ rfl (Nat.le_of_ble_eq_true rfl) dX8_out_12 (fun v3 s4 => ?_)
    refine k_if_ne (tgt := 20) h dX8_out_15 (by decide) ?_ ?_
    · refine k_aload_n h 0 dX8_out_20 rfl rfl ?_
      refine k_getI h fX5_8 (Or.inr ⟨_, nwf 31 rfl⟩) dX8_out_21 (fun v5 => ?_)
      refine k_if_eq (tgt := 30) h dX8_out_24 (by decide) ?_ ?_
      · refine k_aload_n h 0 dX8_out_30 rfl rfl ?_
        refine k_iload_n h 3 dX8_out_31 rfl rfl ?_
        refine k_callVU (As := [LI p2]) (st := []) (x0 := v1) (xg := fun a9 => mX5_remove a9 p2 s4) h (fun a9 => ctX5_remove l B D cA sa a9 p2 s4) calX5_remove rfl (by decide) (mw21 4 rfl) (mw21 5 rfl) (Or.inr ⟨_, nwm 29 rfl⟩) hgood ⟨rfl, rfl, Nat.le_of_ble_eq_true rfl, Nat.le_of_ble_eq_true rfl⟩ ⟨Nat.le_of_ble_eq_true rfl, Nat.le_of_ble_eq_true rfl⟩ rfl (Nat.le_of_ble_eq_true rfl) dX8_out_32 (fun u6 s7 => ?_)
        refine k_aload_n h 0 dX8_out_35 rfl rfl ?_
        refine k_getI h fX5_6 (Or.inr ⟨_, nwf 29 rfl⟩) dX8_out_36 (fun v8 => ?_)
        exact k_iret h rfl dX8_out_39 (Nat.le_of_ble_eq_true rfl) (Nat.le_of_ble_eq_true rfl)
      · refine k_bipush (v := (-6)) h dX8_out_27 (by decide) ?_
        exact k_iret h rfl dX8_out_29 (Nat.le_of_ble_eq_true rfl) (Nat.le_of_ble_eq_true rfl)
    · refine k_iconst (v := (-1)) h dX8_out_18 (by decide) ?_
      exact k_iret h rfl dX8_out_19 (Nat.le_of_ble_eq_true rfl) (Nat.le_of_ble_eq_true rfl)
