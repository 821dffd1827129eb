def mX8_pause (a0 : Nat) (p1 : Int32) (p2 : Int32) (p3 : Int32) (s0 : Sg) : Option (Int32 × Sg) :=
cv s0 8 (some a0) fun a11 => cl (mX8_loadAt a11 p1 s0) fun v1 s2 =>
if v1 = none then (
some ((-1), s2))
else (
cv s2 5 v1 fun a10 => cl (mX5_has a10 p2 s2) fun v3 s4 =>
if v3 = 0 then (
some ((-1), s4))
else (
cl (mX8_isPause p3 s4) fun v5 s6 =>
if ¬ v5 = 0 then (
gdI s6 5 8 v1 fun v7 =>
if v7 = 0 then (
gdR s6 5 1 v1 fun v8 =>
asI s6 v8 p2 p3 fun s9 =>
some (1, s9))
else (
some ((-6), s6)))
else (
some ((-1), s6))))
def rmX8_pause : Room := { frames := 2, cells := 0, slots := 0, locals := 42 }
theorem calX8_pause : Cal yX8_pause cX8_pause 5 (some .int) 3 := ⟨(mw21 19 rfl), (mw1 2 rfl), by decide, by decide, by decide +kernel⟩
set_option maxHeartbeats 4000000 in
set_option maxRecDepth 100000 in
theorem ctX8_pause (l : Launch) (B : Nat) (D : va_G) (cA : Nat → ClassId) (sa : Nat → Nat) (a0 : Nat) (p1 : Int32) (p2 : Int32) (p3 : Int32) (s0 : Sg) : Ct l B D cA sa yX8_pause cX8_pause 5 (some .int) rmX8_pause rI [LR (some a0), LI p1, LI p2, LI p3] s0 0 0 (mX8_pause a0 p1 p2 p3 s0) := by
  refine Ct.of (own := RX8) (by decide) rfl _ (Nat.le_of_ble_eq_true rfl) rfl ?_
  intro p e s m args below meth c h hi
  unfold mX8_pause
  refine k_aload_n h 0 dX8_pause_0 rfl rfl ?_
  refine k_iload_n h 1 dX8_pause_1 rfl rfl ?_
  refine k_callVR (As := [LI p1]) (st := []) (x0 := (some a0)) (xg := fun a11 => mX8_loadAt a11 p1 s0) h (fun a11 => ctX8_loadAt l B D cA sa a11 p1 s0) calX8_loadAt rfl (by decide) (mw20 3 rfl) (mw20 4 rfl) (Or.inl (mw20 2 rfl)) hgood ⟨rfl, rfl, Nat.le_of_ble_eq_true rfl, Nat.le_of_ble_eq_true rfl⟩ ⟨Nat.le_of_ble_eq_true rfl, Nat.le_of_ble_eq_true rfl⟩ rfl (Nat.le_of_ble_eq_true rfl) dX8_pause_2 (fun v1 s2 => ?_)
  refine k_astore (lv' := [(4, LR v1), (0, LR (some a0)), (1, LI p1), (2, LI p2), (3, LI p3)]) h dX8_pause_5 (by decide) rfl ?_
  refine k_aload h 0 dX8_pause_7 rfl ?_
  refine k_ifnull (tgt := 28) h dX8_pause_9 (by decide) ?_ ?_
  · refine k_iconst (v := (-1)) h dX8_pause_28 (by decide) ?_
    exact k_iret h rfl dX8_pause_29 (Nat.le_of_ble_eq_true rfl) (Nat.le_of_ble_eq_true rfl)
  · refine k_aload h 0 dX8_pause_12 rfl ?_
    refine k_iload_n h 3 dX8_pause_14 rfl rfl ?_
    refine k_callVI (As := [LI p2]) (st := []) (x0 := v1) (xg := fun a10 => mX5_has a10 p2 s2) h (fun a10 => ctX5_has l B D cA sa a10 p2 s2) calX5_has rfl (by decide) (mw21 1 rfl) (mw21 2 rfl) (Or.inr ⟨_, nwm 28 rfl⟩) hgood ⟨rfl, rfl, Nat.le_of_ble_eq_true rfl, Nat.le_of_ble_eq_true rfl⟩ ⟨Nat.le_of_ble_eq_true rfl, Nat.le_of_ble_eq_true rfl⟩ rfl (Nat.le_of_ble_eq_true rfl) dX8_pause_15 (fun v3 s4 => ?_)
    refine k_if_eq (tgt := 28) h dX8_pause_18 (by decide) ?_ ?_
    · refine k_iconst (v := (-1)) h dX8_pause_28 (by decide) ?_
      exact k_iret h rfl dX8_pause_29 (Nat.le_of_ble_eq_true rfl) (Nat.le_of_ble_eq_true rfl)
    · refine k_iload_n h 4 dX8_pause_21 rfl rfl ?_
      refine k_callSI (As := [LI p3]) (st := []) h (ctX8_isPause l B D cA sa p3 s4) calX8_isPause (mw20 7 rfl) (Or.inl (mw20 6 rfl)) hgood ⟨rfl, rfl, Nat.le_of_ble_eq_true rfl, Nat.le_of_ble_eq_true rfl⟩ ⟨Nat.le_of_ble_eq_true rfl, Nat.le_of_ble_eq_true rfl⟩ rfl (Nat.le_of_ble_eq_true rfl) dX8_pause_22 (fun v5 s6 => ?_)
      refine k_if_ne (tgt := 30) h dX8_pause_25 (by decide) ?_ ?_
      · refine k_aload h 0 dX8_pause_30 rfl ?_
        refine k_getI h fX5_8 (Or.inr ⟨_, nwf 31 rfl⟩) dX8_pause_32 (fun v7 => ?_)
        refine k_if_eq (tgt := 41) h dX8_pause_35 (by decide) ?_ ?_
        · refine k_aload h 0 dX8_pause_41 rfl ?_
          refine k_getR h fX5_1 (Or.inr ⟨_, nwf 25 rfl⟩) dX8_pause_43 (fun v8 => ?_)
          refine k_iload_n h 3 dX8_pause_46 rfl rfl ?_
          refine k_iload_n h 4 dX8_pause_47 rfl rfl ?_
          refine k_asI h dX8_pause_48 (fun s9 => ?_)
          refine k_iconst (v := 1) h dX8_pause_49 (by decide) ?_
          exact k_iret h rfl dX8_pause_50 (Nat.le_of_ble_eq_true rfl) (Nat.le_of_ble_eq_true rfl)
        · refine k_bipush (v := (-6)) h dX8_pause_38 (by decide) ?_
          exact k_iret h rfl dX8_pause_40 (Nat.le_of_ble_eq_true rfl) (Nat.le_of_ble_eq_true rfl)
      · refine k_iconst (v := (-1)) h dX8_pause_28 (by decide) ?_
        exact k_iret h rfl dX8_pause_29 (Nat.le_of_ble_eq_true rfl) (Nat.le_of_ble_eq_true rfl)
def mX8_start (a0 : Nat) (p1 : Int32) (p2 : Int32) (s0 : Sg) : Option (Int32 × Sg) :=
cv s0 8 (some a0) fun a7 => cl (mX8_loadAt a7 p1 s0) fun v1 s2 =>
if v1 = none then (
some ((-1), s2))
else (
cl (mX8_within p2 (-50000) 50000 s2) fun v3 s4 =>
if ¬ v3 = 0 then (
gdI s4 5 8 v1 fun v5 =>
if v5 = 0 then (
ptI s4 5 7 v1 p2 fun s6 =>
some (1, s6))
else (
some ((-6), s4)))
else (
some ((-1), s4)))
def rmX8_start : Room := { frames := 1, cells := 0, slots := 0, locals := 22 }
theorem calX8_start : Cal yX8_start cX8_start 4 (some .int) 2 := ⟨(mw22 3 rfl), (mw1 2 rfl), by decide, by decide, by decide +kernel⟩
set_option maxHeartbeats 4000000 in
set_option maxRecDepth 100000 in
theorem ctX8_start (l : Launch) (B : Nat) (D : va_G) (cA : Nat → ClassId) (sa : Nat → Nat) (a0 : Nat) (p1 : Int32) (p2 : Int32) (s0 : Sg) : Ct l B D cA sa yX8_start cX8_start 4 (some .int) rmX8_start rI [LR (some a0), LI p1, LI p2] s0 0 0 (mX8_start a0 p1 p2 s0) := by
  refine Ct.of (own := RX8) (by decide) rfl _ (Nat.le_of_ble_eq_true rfl) rfl ?_
  intro p e s m args below meth c h hi
  unfold mX8_start
  refine k_aload_n h 0 dX8_start_0 rfl rfl ?_
  refine k_iload_n h 1 dX8_start_1 rfl rfl ?_
  refine k_callVR (As := [LI p1]) (st := []) (x0 := (some a0)) (xg := fun a7 => mX8_loadAt a7 p1 s0) h (fun a7 => ctX8_loadAt l B D cA sa a7 p1 s0) calX8_loadAt rfl (by decide) (mw20 3 rfl) (mw20 4 rfl) (Or.inl (mw20 2 rfl)) hgood ⟨rfl, rfl, Nat.le_of_ble_eq_true rfl, Nat.le_of_ble_eq_true rfl⟩ ⟨Nat.le_of_ble_eq_true rfl, Nat.le_of_ble_eq_true rfl⟩ rfl (Nat.le_of_ble_eq_true rfl) dX8_start_2 (fun v1 s2 => ?_)
  refine k_astore_n (lv' := [(3, LR v1), (0, LR (some a0)), (1, LI p1), (2, LI p2)]) h dX8_start_5 rfl (by decide) rfl ?_
  refine k_aload_n h 0 dX8_start_6 rfl rfl ?_
  refine k_ifnull (tgt := 21) h dX8_start_7 (by decide) ?_ ?_
  · refine k_iconst (v := (-1)) h dX8_start_21 (by decide) ?_
    exact k_iret h rfl dX8_start_22 (Nat.le_of_ble_eq_true rfl) (Nat.le_of_ble_eq_true rfl)
  · refine k_iload_n h 3 dX8_start_10 rfl rfl ?_
    refine k_ldc (v := (-50000)) h dX8_start_11 (mw22 4 rfl) ?_
    refine k_ldc (v := 50000) h dX8_start_13 (mw22 5 rfl) ?_
    refine k_callSI (As := [LI p2, LI (-50000), LI 50000]) (st := []) h (ctX8_within l B D cA sa p2 (-50000) 50000 s2) calX8_within (mw9 8 rfl) (Or.inl (mw9 7 rfl)) hgood ⟨rfl, rfl, Nat.le_of_ble_eq_true rfl, Nat.le_of_ble_eq_true rfl⟩ ⟨Nat.le_of_ble_eq_true rfl, Nat.le_of_ble_eq_true rfl⟩ rfl (Nat.le_of_ble_eq_true rfl) dX8_start_15 (fun v3 s4 => ?_)
    refine k_if_ne (tgt := 23) h dX8_start_18 (by decide) ?_ ?_
    · refine k_aload_n h 0 dX8_start_23 rfl rfl ?_
      refine k_getI h fX5_8 (Or.inr ⟨_, nwf 31 rfl⟩) dX8_start_24 (fun v5 => ?_)
      refine k_if_eq (tgt := 33) h dX8_start_27 (by decide) ?_ ?_
      · refine k_aload_n h 0 dX8_start_33 rfl rfl ?_
        refine k_iload_n h 3 dX8_start_34 rfl rfl ?_
        refine k_putI h fX5_7 (Or.inr ⟨_, nwf 30 rfl⟩) rfl dX8_start_35 (fun s6 => ?_)
        refine k_iconst (v := 1) h dX8_start_38 (by decide) ?_
        exact k_iret h rfl dX8_start_39 (Nat.le_of_ble_eq_true rfl) (Nat.le_of_ble_eq_true rfl)
      · refine k_bipush (v := (-6)) h dX8_start_30 (by decide) ?_
        exact k_iret h rfl dX8_start_32 (Nat.le_of_ble_eq_true rfl) (Nat.le_of_ble_eq_true rfl)
    · refine k_iconst (v := (-1)) h dX8_start_21 (by decide) ?_
      exact k_iret h rfl dX8_start_22 (Nat.le_of_ble_eq_true rfl) (Nat.le_of_ble_eq_true rfl)
def mX8_in (a0 : Nat) (p1 : Int32) (p2 : Int32) (s0 : Sg) : Option (Int32 × Sg) :=
cv s0 8 (some a0) fun a6 => cl (mX8_loadAt a6 p1 s0) fun v1 s2 =>
if v1 = none then (
some ((-1), s2))
else (
cv s2 5 v1 fun a5 => cl (mX5_tell a5 p2 s2) fun v3 s4 =>
some (v3, s4))
def rmX8_in : Room := { frames := 3, cells := 0, slots := 0, locals := 66 }
theorem calX8_in : Cal yX8_in cX8_in 4 (some .int) 2 := ⟨(mw22 15 rfl), (mw1 2 rfl), by decide, by decide, by decide +kernel⟩
set_option maxHeartbeats 4000000 in
set_option maxRecDepth 100000 in
theorem ctX8_in (l : Launch) (B : Nat) (D : va_G) (cA : Nat → ClassId) (sa : Nat → Nat) (a0 : Nat) (p1 : Int32) (p2 : Int32) (s0 : Sg) : Ct l B D cA sa yX8_in cX8_in 4 (some .int) rmX8_in rI [LR (some a0), LI p1, LI p2] s0 0 0 (mX8_in a0 p1 p2 s0) := by
  refine Ct.of (own := RX8) (by decide) rfl _ (Nat.le_of_ble_eq_true rfl) rfl ?_
  intro p e s m args below meth c h hi
  unfold mX8_in
  refine k_aload_n h 0 dX8_in_0 rfl rfl ?_
  refine k_iload_n h 1 dX8_in_1 rfl rfl ?_
  refine k_callVR (As := [LI p1]) (st := []) (x0 := (some a0)) (xg := fun a6 => mX8_loadAt a6 p1 s0) h (fun a6 => ctX8_loadAt l B D cA sa a6 p1 s0) calX8_loadAt rfl (by decide) (mw20 3 rfl) (mw20 4 rfl) (Or.inl (mw20 2 rfl)) hgood ⟨rfl, rfl, Nat.le_of_ble_eq_true rfl, Nat.le_of_ble_eq_true rfl⟩ ⟨Nat.le_of_ble_eq_true rfl, Nat.le_of_ble_eq_true rfl⟩ rfl (Nat.le_of_ble_eq_true rfl) dX8_in_2 (fun v1 s2 => ?_)
  refine k_astore_n (lv' := [(3, LR v1), (0, LR (some a0)), (1, LI p1), (2, LI p2)]) h dX8_in_5 rfl (by decide) rfl ?_
  refine k_aload_n h 0 dX8_in_6 rfl rfl ?_
  refine k_ifnonnull (tgt := 14) h dX8_in_7 (by decide) ?_ ?_
  · refine k_aload_n h 0 dX8_in_14 rfl rfl ?_
    refine k_iload_n h 3 dX8_in_15 rfl rfl ?_
    refine k_callVI (As := [LI p2]) (st := []) (x0 := v1) (xg := fun a5 => mX5_tell a5 p2 s2) h (fun a5 => ctX5_tell l B D cA sa a5 p2 s2) calX5_tell rfl (by decide) (mw22 16 rfl) (mw22 17 rfl) (Or.inr ⟨_, nwm 30 rfl⟩) hgood ⟨rfl, rfl, Nat.le_of_ble_eq_true rfl, Nat.le_of_ble_eq_true rfl⟩ ⟨Nat.le_of_ble_eq_true rfl, Nat.le_of_ble_eq_true rfl⟩ rfl (Nat.le_of_ble_eq_true rfl) dX8_in_16 (fun v3 s4 => ?_)
    exact k_iret h rfl dX8_in_19 (Nat.le_of_ble_eq_true rfl) (Nat.le_of_ble_eq_true rfl)
  · refine k_iconst (v := (-1)) h dX8_in_10 (by decide) ?_
    refine k_goto (tgt := 19) h dX8_in_11 (by decide) ?_
    exact k_iret h rfl dX8_in_19 (Nat.le_of_ble_eq_true rfl) (Nat.le_of_ble_eq_true rfl)
def mX8_where (a0 : Nat) (p1 : Int32) (p2 : Int32) (p3 : Int32) (p4 : Int32) (s0 : Sg) : Option (Int32 × Sg) :=
cv s0 8 (some a0) fun a32 => cl (mX8_loadAt a32 p1 s0) fun v1 s2 =>
if v1 = none then (
some ((-1000000), s2))
else (
cv s2 5 v1 fun a31 => cl (mX5_has a31 p2 s2) fun v3 s4 =>
if v3 = 0 then (
some ((-1000000), s4))
else (
cl (mX8_within p3 0 1000 s4) fun v5 s6 =>
if v5 = 0 then (
some ((-1000000), s6))
else (
cl (mX8_within p4 0 3 s6) fun v7 s8 =>
if ¬ v7 = 0 then (
gdR s8 8 7 (some a0) fun v9 =>
alR s8 1 v9 0 fun v10 =>
gdR s8 5 0 v1 fun v11 =>
alR s8 2 v11 p2 fun v12 =>
gdR s8 5 4 v1 fun v13 =>
gdR s8 5 5 v1 fun v14 =>
cv s8 1 v10 fun a30 => cl (mX1_follow a30 v12 v13 v14 s8) fun u15 s16 =>
gdI s16 1 4 v10 fun v17 =>
swc p4 0 [
cv s16 5 v1 fun a25 => cl (mX5_leavesAtX a25 p2 s16) fun v21 s22 =>
gdR s22 1 0 v10 fun v23 =>
alI s22 v23 (mnI p3 v17) fun v24 =>
some ((v21 + v24), s22),
gdR s16 1 1 v10 fun v26 =>
alI s16 v26 (mnI p3 v17) fun v27 =>
some (v27, s16),
gdR s16 1 2 v10 fun v28 =>
alI s16 v28 (mnI p3 v17) fun v29 =>
some (v29, s16)] (
cv s16 1 v10 fun a20 => cl (mX1_stateAt a20 (mnI p3 v17) s16) fun v18 s19 =>
some (v18, s19)))
else (
some ((-1000000), s8)))))
def rmX8_where : Room := { frames := 3, cells := 0, slots := 0, locals := 69 }
theorem calX8_where : Cal yX8_where cX8_where 8 (some .int) 4 := ⟨(mw23 14 rfl), (mw1 2 rfl), by decide, by decide, by decide +kernel⟩
set_option maxHeartbeats 4000000 in
set_option maxRecDepth 100000 in
theorem ctX8_where (l : Launch) (B : Nat) (D : va_G) (cA : Nat → ClassId) (sa : Nat → Nat) (a0 : Nat) (p1 : Int32) (p2 : Int32) (p3 : Int32) (p4 : Int32) (s0 : Sg) : Ct l B D cA sa yX8_where cX8_where 8 (some .int) rmX8_where rI [LR (some a0), LI p1, LI p2, LI p3, LI p4] s0 0 0 (mX8_where a0 p1 p2 p3 p4 s0) := by
  refine Ct.of (own := RX8) (by decide) rfl _ (Nat.le_of_ble_eq_true rfl) rfl ?_
  intro p e s m args below meth c h hi
  unfold mX8_where
  refine k_aload_n h 0 dX8_where_0 rfl rfl ?_
  refine k_iload_n h 1 dX8_where_1 rfl rfl ?_
  refine k_callVR (As := [LI p1]) (st := []) (x0 := (some a0)) (xg := fun a32 => mX8_loadAt a32 p1 s0) h (fun a32 => ctX8_loadAt l B D cA sa a32 p1 s0) calX8_loadAt rfl (by decide) (mw20 3 rfl) (mw20 4 rfl) (Or.inl (mw20 2 rfl)) hgood ⟨rfl, rfl, Nat.le_of_ble_eq_true rfl, Nat.le_of_ble_eq_true rfl⟩ ⟨Nat.le_of_ble_eq_true rfl, Nat.le_of_ble_eq_true rfl⟩ rfl (Nat.le_of_ble_eq_true rfl) dX8_where_2 (fun v1 s2 => ?_)
  refine k_astore (lv' := [(5, LR v1), (0, LR (some a0)), (1, LI p1), (2, LI p2), (3, LI p3), (4, LI p4)]) h dX8_where_5 (by decide) rfl ?_
  refine k_aload h 0 dX8_where_7 rfl ?_
  refine k_ifnull (tgt := 42) h dX8_where_9 (by decide) ?_ ?_
  · refine k_ldc (v := (-1000000)) h dX8_where_42 (mw23 15 rfl) ?_
    exact k_iret h rfl dX8_where_44 (Nat.le_of_ble_eq_true rfl) (Nat.le_of_ble_eq_true rfl)
  · refine k_aload h 0 dX8_where_12 rfl ?_
    refine k_iload_n h 3 dX8_where_14 rfl rfl ?_
    refine k_callVI (As := [LI p2]) (st := []) (x0 := v1) (xg := fun a31 => mX5_has a31 p2 s2) h (fun a31 => ctX5_has l B D cA sa a31 p2 s2) calX5_has rfl (by decide) (mw21 1 rfl) (mw21 2 rfl) (Or.inr ⟨_, nwm 28 rfl⟩) hgood ⟨rfl, rfl, Nat.le_of_ble_eq_true rfl, Nat.le_of_ble_eq_true rfl⟩ ⟨Nat.le_of_ble_eq_true rfl, Nat.le_of_ble_eq_true rfl⟩ rfl (Nat.le_of_ble_eq_true rfl) dX8_where_15 (fun v3 s4 => ?_)
    refine k_if_eq (tgt := 42) h dX8_where_18 (by decide) ?_ ?_
    · refine k_ldc (v := (-1000000)) h dX8_where_42 (mw23 15 rfl) ?_
      exact k_iret h rfl dX8_where_44 (Nat.le_of_ble_eq_true rfl) (Nat.le_of_ble_eq_true rfl)
    · refine k_iload_n h 4 dX8_where_21 rfl rfl ?_
      refine k_iconst (v := 0) h dX8_where_22 (by decide) ?_
      refine k_sipush (v := 1000) h dX8_where_23 (by decide) ?_
      refine k_callSI (As := [LI p3, LI 0, LI 1000]) (st := []) h (ctX8_within l B D cA sa p3 0 1000 s4) calX8_within (mw9 8 rfl) (Or.inl (mw9 7 rfl)) hgood ⟨rfl, rfl, Nat.le_of_ble_eq_true rfl, Nat.le_of_ble_eq_true rfl⟩ ⟨Nat.le_of_ble_eq_true rfl, Nat.le_of_ble_eq_true rfl⟩ rfl (Nat.le_of_ble_eq_true rfl) dX8_where_26 (fun v5 s6 => ?_)
      refine k_if_eq (tgt := 42) h dX8_where_29 (by decide) ?_ ?_
      · refine k_ldc (v := (-1000000)) h dX8_where_42 (mw23 15 rfl) ?_
        exact k_iret h rfl dX8_where_44 (Nat.le_of_ble_eq_true rfl) (Nat.le_of_ble_eq_true rfl)
      · refine k_iload h 5 dX8_where_32 rfl ?_
        refine k_iconst (v := 0) h dX8_where_34 (by decide) ?_
        refine k_iconst (v := 3) h dX8_where_35 (by decide) ?_
        refine k_callSI (As := [LI p4, LI 0, LI 3]) (st := []) h (ctX8_within l B D cA sa p4 0 3 s6) calX8_within (mw9 8 rfl) (Or.inl (mw9 7 rfl)) hgood ⟨rfl, rfl, Nat.le_of_ble_eq_true rfl, Nat.le_of_ble_eq_true rfl⟩ ⟨Nat.le_of_ble_eq_true rfl, Nat.le_of_ble_eq_true rfl⟩ rfl (Nat.le_of_ble_eq_true rfl) dX8_where_36 (fun v7 s8 => ?_)
        refine k_if_ne (tgt := 45) h dX8_where_39 (by decide) ?_ ?_
        · refine k_aload_n h 1 dX8_where_45 rfl rfl ?_
          refine k_getR h fX8_7 (Or.inl (mw2 11 rfl)) dX8_where_46 (fun v9 => ?_)
          refine k_iconst (v := 0) h dX8_where_49 (by decide) ?_
          refine k_alR h rfl rfl dX8_where_50 (fun v10 => ?_)
          refine k_astore (lv' := [(6, LR v10), (5, LR v1), (0, LR (some a0)), (1, LI p1), (2, LI p2), (3, LI p3), (4, LI p4)]) h dX8_where_51 (by decide) rfl ?_
          refine k_aload h 0 dX8_where_53 rfl ?_
          refine k_aload h 1 dX8_where_55 rfl ?_
          refine k_getR h fX5_0 (Or.inr ⟨_, nwf 23 rfl⟩) dX8_where_57 (fun v11 => ?_)
          refine k_iload_n h 4 dX8_where_60 rfl rfl ?_
          refine k_alR h rfl rfl dX8_where_61 (fun v12 => ?_)
          refine k_aload h 1 dX8_where_62 rfl ?_
          refine k_getR h fX5_4 (Or.inr ⟨_, nwf 26 rfl⟩) dX8_where_64 (fun v13 => ?_)
          refine k_aload h 1 dX8_where_67 rfl ?_
          refine k_getR h fX5_5 (Or.inr ⟨_, nwf 27 rfl⟩) dX8_where_69 (fun v14 => ?_)
          refine k_callVU (As := [LR v12, LR v13, LR v14]) (st := []) (x0 := v10) (xg := fun a30 => mX1_follow a30 v12 v13 v14 s8) h (fun a30 => ctX1_follow l B D cA sa a30 v12 v13 v14 s8) calX1_follow rfl (by decide) (mw23 17 rfl) (mw23 18 rfl) (Or.inr ⟨_, nwm 31 rfl⟩) hgood ⟨rfl, rfl, Nat.le_of_ble_eq_true rfl, Nat.le_of_ble_eq_true rfl⟩ ⟨Nat.le_of_ble_eq_true rfl, Nat.le_of_ble_eq_true rfl⟩ rfl (Nat.le_of_ble_eq_true rfl) dX8_where_72 (fun u15 s16 => ?_)
          refine k_iload_n h 5 dX8_where_75 rfl rfl ?_
          refine k_aload h 0 dX8_where_76 rfl ?_
          refine k_getI h fX1_4 (Or.inr ⟨_, nwf 35 rfl⟩) dX8_where_78 (fun v17 => ?_)
          refine k_mmin h (mw23 16 rfl) (mw12 11 rfl) (mw12 12 rfl) (mw12 13 rfl) (Nat.le_of_ble_eq_true rfl) (Nat.le_of_ble_eq_true rfl) (Nat.le_of_ble_eq_true rfl) (Nat.le_of_ble_eq_true rfl) dX8_where_81 ?_
          refine k_istore (lv' := [(7, LI (mnI p3 v17)), (6, LR v10), (5, LR v1), (0, LR (some a0)), (1, LI p1), (2, LI p2), (3, LI p3), (4, LI p4)]) h dX8_where_84 (by decide) rfl ?_
          refine k_iload h 7 dX8_where_86 rfl ?_
          refine k_table (tg := 150) (tgs := [116, 132, 141]) h dX8_where_88 (by decide) (by decide) rfl (by decide) ?_ ?_
          · refine k_aload h 1 dX8_where_150 rfl ?_
            refine k_iload h 0 dX8_where_152 rfl ?_
            refine k_callVI (As := [LI (mnI p3 v17)]) (st := []) (x0 := v10) (xg := fun a20 => mX1_stateAt a20 (mnI p3 v17) s16) h (fun a20 => ctX1_stateAt l B D cA sa a20 (mnI p3 v17) s16) calX1_stateAt rfl (by decide) (mw24 20 rfl) (mw24 21 rfl) (Or.inr ⟨_, nwm 37 rfl⟩) hgood ⟨rfl, rfl, Nat.le_of_ble_eq_true rfl, Nat.le_of_ble_eq_true rfl⟩ ⟨Nat.le_of_ble_eq_true rfl, Nat.le_of_ble_eq_true rfl⟩ rfl (Nat.le_of_ble_eq_true rfl) dX8_where_154 (fun v18 s19 => ?_)
            exact k_iret h rfl dX8_where_157 (Nat.le_of_ble_eq_true rfl) (Nat.le_of_ble_eq_true rfl)
          · intro q9 hq9
            simp only [List.zip_cons_cons, List.zip_nil_right, List.zip_nil_left, List.mem_cons, List.not_mem_nil, or_false] at hq9
            rcases hq9 with rfl | rfl | rfl
            · dsimp only
              refine k_aload h 2 dX8_where_116 rfl ?_
              refine k_iload_n h 5 dX8_where_118 rfl rfl ?_
              refine k_callVI (As := [LI p2]) (st := []) (x0 := v1) (xg := fun a25 => mX5_leavesAtX a25 p2 s16) h (fun a25 => ctX5_leavesAtX l B D cA sa a25 p2 s16) calX5_leavesAtX rfl (by decide) (mw24 17 rfl) (mw24 18 rfl) (Or.inr ⟨_, nwm 36 rfl⟩) hgood ⟨rfl, rfl, Nat.le_of_ble_eq_true rfl, Nat.le_of_ble_eq_true rfl⟩ ⟨Nat.le_of_ble_eq_true rfl, Nat.le_of_ble_eq_true rfl⟩ rfl (Nat.le_of_ble_eq_true rfl) dX8_where_119 (fun v21 s22 => ?_)
              refine k_aload h 1 dX8_where_122 rfl ?_
              refine k_getR h fX1_0 (Or.inr ⟨_, nwf 32 rfl⟩) dX8_where_124 (fun v23 => ?_)
              refine k_iload h 0 dX8_where_127 rfl ?_
              refine k_alI h dX8_where_129 (fun v24 => ?_)
              refine k_iadd h dX8_where_130 ?_
              exact k_iret h rfl dX8_where_131 (Nat.le_of_ble_eq_true rfl) (Nat.le_of_ble_eq_true rfl)
            · dsimp only
              refine k_aload h 1 dX8_where_132 rfl ?_
              refine k_getR h fX1_1 (Or.inr ⟨_, nwf 33 rfl⟩) dX8_where_134 (fun v26 => ?_)
              refine k_iload h 0 dX8_where_137 rfl ?_
              refine k_alI h dX8_where_139 (fun v27 => ?_)
              exact k_iret h rfl dX8_where_140 (Nat.le_of_ble_eq_true rfl) (Nat.le_of_ble_eq_true rfl)
            · dsimp only
              refine k_aload h 1 dX8_where_141 rfl ?_
              refine k_getR h fX1_2 (Or.inr ⟨_, nwf 34 rfl⟩) dX8_where_143 (fun v28 => ?_)
              refine k_iload h 0 dX8_where_146 rfl ?_
              refine k_alI h dX8_where_148 (fun v29 => ?_)
              exact k_iret h rfl dX8_where_149 (Nat.le_of_ble_eq_true rfl) (Nat.le_of_ble_eq_true rfl)
        · refine k_ldc (v := (-1000000)) h dX8_where_42 (mw23 15 rfl) ?_
          exact k_iret h rfl dX8_where_44 (Nat.le_of_ble_eq_true rfl) (Nat.le_of_ble_eq_true rfl)
def mX8_near (a0 : Nat) (p1 : Int32) (p2 : Int32) (p3 : Int32) (s0 : Sg) : Option (Int64 × Sg) :=
cv s0 8 (some a0) fun a42 => cl (mX8_loadAt a42 p1 s0) fun v1 s2 =>
if v1 = none then (
some ((-1), s2))
else (
cv s2 5 v1 fun a41 => cl (mX5_has a41 p2 s2) fun v3 s4 =>
if v3 = 0 then (
some ((-1), s4))
else (
cv s4 5 v1 fun a40 => cl (mX5_has a40 p3 s4) fun v5 s6 =>
if v5 = 0 then (
some ((-1), s6))
else (
if ¬ p2 = p3 then (
gdR s6 8 7 (some a0) fun v7 =>
alR s6 1 v7 0 fun v8 =>
gdR s6 5 0 v1 fun v9 =>
alR s6 2 v9 (mnI p2 p3) fun v10 =>
gdR s6 5 4 v1 fun v11 =>
gdR s6 5 5 v1 fun v12 =>
cv s6 1 v8 fun a39 => cl (mX1_follow a39 v10 v11 v12 s6) fun u13 s14 =>
gdR s14 8 7 (some a0) fun v15 =>
alR s14 1 v15 1 fun v16 =>
gdR s14 5 0 v1 fun v17 =>
alR s14 2 v17 (mxI p2 p3) fun v18 =>
gdR s14 5 4 v1 fun v19 =>
gdR s14 5 5 v1 fun v20 =>
cv s14 1 v16 fun a38 => cl (mX1_follow a38 v18 v19 v20 s14) fun u21 s22 =>
cv s22 5 v1 fun a37 => cl (mX5_secondOf a37 (mxI p2 p3) s22) fun v23 s24 =>
cv s24 5 v1 fun a36 => cl (mX5_secondOf a36 (mnI p2 p3) s24) fun v25 s26 =>
gdR s26 8 7 (some a0) fun v27 =>
alR s26 1 v27 0 fun v28 =>
gdR s26 8 7 (some a0) fun v29 =>
alR s26 1 v29 1 fun v30 =>
gdR s26 5 4 v1 fun v31 =>
gdI s26 6 3 v31 fun v32 =>
cv s26 1 v28 fun a35 => cl (mX1_nearTo a35 v30 (v23 - v25) v32 0 s26) fun v33 s34 =>
some (v33, s34))
else (
some ((-1), s6)))))
def rmX8_near : Room := { frames := 3, cells := 0, slots := 0, locals := 69 }
theorem calX8_near : Cal yX8_near cX8_near 8 (some .long) 3 := ⟨(mw26 4 rfl), (mw1 2 rfl), by decide, by decide, by decide +kernel⟩
set_option maxHeartbeats 4000000 in
set_option maxRecDepth 100000 in
theorem ctX8_near (l : Launch) (B : Nat) (D : va_G) (cA : Nat → ClassId) (sa : Nat → Nat) (a0 : Nat) (p1 : Int32) (p2 : Int32) (p3 : Int32) (s0 : Sg) : Ct l B D cA sa yX8_near cX8_near 8 (some .long) rmX8_near rL [LR (some a0), LI p1, LI p2, LI p3] s0 0 0 (mX8_near a0 p1 p2 p3 s0) := by
  refine Ct.of (own := RX8) (by decide) rfl _ (Nat.le_of_ble_eq_true rfl) rfl ?_
  intro p e s m args below meth c h hi
  unfold mX8_near
  refine k_aload_n h 0 dX8_near_0 rfl rfl ?_
  refine k_iload_n h 1 dX8_near_1 rfl rfl ?_
  refine k_callVR (As := [LI p1]) (st := []) (x0 := (some a0)) (xg := fun a42 => mX8_loadAt a42 p1 s0) h (fun a42 => ctX8_loadAt l B D cA sa a42 p1 s0) calX8_loadAt rfl (by decide) (mw20 3 rfl) (mw20 4 rfl) (Or.inl (mw20 2 rfl)) hgood ⟨rfl, rfl, Nat.le_of_ble_eq_true rfl, Nat.le_of_ble_eq_true rfl⟩ ⟨Nat.le_of_ble_eq_true rfl, Nat.le_of_ble_eq_true rfl⟩ rfl (Nat.le_of_ble_eq_true rfl) dX8_near_2 (fun v1 s2 => ?_)
  refine k_astore (lv' := [(4, LR v1), (0, LR (some a0)), (1, LI p1), (2, LI p2), (3, LI p3)]) h dX8_near_5 (by decide) rfl ?_
  refine k_aload h 0 dX8_near_7 rfl ?_
  refine k_ifnull (tgt := 35) h dX8_near_9 (by decide) ?_ ?_
  · refine k_ldc2_w (v := (-1)) h dX8_near_35 (mw26 5 rfl) ?_
    exact k_lret h rfl dX8_near_38 (Nat.le_of_ble_eq_true rfl) (Nat.le_of_ble_eq_true rfl)
  · refine k_aload h 0 dX8_near_12 rfl ?_
    refine k_iload_n h 3 dX8_near_14 rfl rfl ?_
    refine k_callVI (As := [LI p2]) (st := []) (x0 := v1) (xg := fun a41 => mX5_has a41 p2 s2) h (fun a41 => ctX5_has l B D cA sa a41 p2 s2) calX5_has rfl (by decide) (mw21 1 rfl) (mw21 2 rfl) (Or.inr ⟨_, nwm 28 rfl⟩) hgood ⟨rfl, rfl, Nat.le_of_ble_eq_true rfl, Nat.le_of_ble_eq_true rfl⟩ ⟨Nat.le_of_ble_eq_true rfl, Nat.le_of_ble_eq_true rfl⟩ rfl (Nat.le_of_ble_eq_true rfl) dX8_near_15 (fun v3 s4 => ?_)
    refine k_if_eq (tgt := 35) h dX8_near_18 (by decide) ?_ ?_
    · refine k_ldc2_w (v := (-1)) h dX8_near_35 (mw26 5 rfl) ?_
      exact k_lret h rfl dX8_near_38 (Nat.le_of_ble_eq_true rfl) (Nat.le_of_ble_eq_true rfl)
    · refine k_aload h 0 dX8_near_21 rfl ?_
      refine k_iload_n h 4 dX8_near_23 rfl rfl ?_
      refine k_callVI (As := [LI p3]) (st := []) (x0 := v1) (xg := fun a40 => mX5_has a40 p3 s4) h (fun a40 => ctX5_has l B D cA sa a40 p3 s4) calX5_has rfl (by decide) (mw21 1 rfl) (mw21 2 rfl) (Or.inr ⟨_, nwm 28 rfl⟩) hgood ⟨rfl, rfl, Nat.le_of_ble_eq_true rfl, Nat.le_of_ble_eq_true rfl⟩ ⟨Nat.le_of_ble_eq_true rfl, Nat.le_of_ble_eq_true rfl⟩ rfl (Nat.le_of_ble_eq_true rfl) dX8_near_24 (fun v5 s6 => ?_)
      refine k_if_eq (tgt := 35) h dX8_near_27 (by decide) ?_ ?_
      · refine k_ldc2_w (v := (-1)) h dX8_near_35 (mw26 5 rfl) ?_
        exact k_lret h rfl dX8_near_38 (Nat.le_of_ble_eq_true rfl) (Nat.le_of_ble_eq_true rfl)
      · refine k_iload_n h 3 dX8_near_30 rfl rfl ?_
        refine k_iload_n h 4 dX8_near_31 rfl rfl ?_
        refine k_icmp_ne (tgt := 39) h dX8_near_32 (by decide) ?_ ?_
        · refine k_iload_n h 3 dX8_near_39 rfl rfl ?_
          refine k_iload_n h 4 dX8_near_40 rfl rfl ?_
          refine k_mmin h (mw23 16 rfl) (mw12 11 rfl) (mw12 12 rfl) (mw12 13 rfl) (Nat.le_of_ble_eq_true rfl) (Nat.le_of_ble_eq_true rfl) (Nat.le_of_ble_eq_true rfl) (Nat.le_of_ble_eq_true rfl) dX8_near_41 ?_
          refine k_istore (lv' := [(5, LI (mnI p2 p3)), (4, LR v1), (0, LR (some a0)), (1, LI p1), (2, LI p2), (3, LI p3)]) h dX8_near_44 (by decide) rfl ?_
          refine k_iload_n h 4 dX8_near_46 rfl rfl ?_
          refine k_iload_n h 5 dX8_near_47 rfl rfl ?_
          refine k_mmax h (mw26 6 rfl) (mw23 21 rfl) (mw12 12 rfl) (mw23 22 rfl) (Nat.le_of_ble_eq_true rfl) (Nat.le_of_ble_eq_true rfl) (Nat.le_of_ble_eq_true rfl) (Nat.le_of_ble_eq_true rfl) dX8_near_48 ?_
          refine k_istore (lv' := [(6, LI (mxI p2 p3)), (5, LI (mnI p2 p3)), (4, LR v1), (0, LR (some a0)), (1, LI p1), (2, LI p2), (3, LI p3)]) h dX8_near_51 (by decide) rfl ?_
          refine k_aload_n h 3 dX8_near_53 rfl rfl ?_
          refine k_getR h fX8_7 (Or.inl (mw2 11 rfl)) dX8_near_54 (fun v7 => ?_)
          refine k_iconst (v := 0) h dX8_near_57 (by decide) ?_
          refine k_alR h rfl rfl dX8_near_58 (fun v8 => ?_)
          refine k_aload h 2 dX8_near_59 rfl ?_
          refine k_getR h fX5_0 (Or.inr ⟨_, nwf 23 rfl⟩) dX8_near_61 (fun v9 => ?_)
          refine k_iload h 1 dX8_near_64 rfl ?_
          refine k_alR h rfl rfl dX8_near_66 (fun v10 => ?_)
          refine k_aload h 2 dX8_near_67 rfl ?_
          refine k_getR h fX5_4 (Or.inr ⟨_, nwf 26 rfl⟩) dX8_near_69 (fun v11 => ?_)
          refine k_aload h 2 dX8_near_72 rfl ?_
          refine k_getR h fX5_5 (Or.inr ⟨_, nwf 27 rfl⟩) dX8_near_74 (fun v12 => ?_)
          refine k_callVU (As := [LR v10, LR v11, LR v12]) (st := []) (x0 := v8) (xg := fun a39 => mX1_follow a39 v10 v11 v12 s6) h (fun a39 => ctX1_follow l B D cA sa a39 v10 v11 v12 s6) calX1_follow rfl (by decide) (mw23 17 rfl) (mw23 18 rfl) (Or.inr ⟨_, nwm 31 rfl⟩) hgood ⟨rfl, rfl, Nat.le_of_ble_eq_true rfl, Nat.le_of_ble_eq_true rfl⟩ ⟨Nat.le_of_ble_eq_true rfl, Nat.le_of_ble_eq_true rfl⟩ rfl (Nat.le_of_ble_eq_true rfl) dX8_near_77 (fun u13 s14 => ?_)
          refine k_aload_n h 3 dX8_near_80 rfl rfl ?_
          refine k_getR h fX8_7 (Or.inl (mw2 11 rfl)) dX8_near_81 (fun v15 => ?_)
          refine k_iconst (v := 1) h dX8_near_84 (by decide) ?_
          refine k_alR h rfl rfl dX8_near_85 (fun v16 => ?_)
          refine k_aload h 2 dX8_near_86 rfl ?_
          refine k_getR h fX5_0 (Or.inr ⟨_, nwf 23 rfl⟩) dX8_near_88 (fun v17 => ?_)
          refine k_iload h 0 dX8_near_91 rfl ?_
          refine k_alR h rfl rfl dX8_near_93 (fun v18 => ?_)
          refine k_aload h 2 dX8_near_94 rfl ?_
          refine k_getR h fX5_4 (Or.inr ⟨_, nwf 26 rfl⟩) dX8_near_96 (fun v19 => ?_)
          refine k_aload h 2 dX8_near_99 rfl ?_
          refine k_getR h fX5_5 (Or.inr ⟨_, nwf 27 rfl⟩) dX8_near_101 (fun v20 => ?_)
          refine k_callVU (As := [LR v18, LR v19, LR v20]) (st := []) (x0 := v16) (xg := fun a38 => mX1_follow a38 v18 v19 v20 s14) h (fun a38 => ctX1_follow l B D cA sa a38 v18 v19 v20 s14) calX1_follow rfl (by decide) (mw23 17 rfl) (mw23 18 rfl) (Or.inr ⟨_, nwm 31 rfl⟩) hgood ⟨rfl, rfl, Nat.le_of_ble_eq_true rfl, Nat.le_of_ble_eq_true rfl⟩ ⟨Nat.le_of_ble_eq_true rfl, Nat.le_of_ble_eq_true rfl⟩ rfl (Nat.le_of_ble_eq_true rfl) dX8_near_104 (fun u21 s22 => ?_)
          refine k_aload h 2 dX8_near_107 rfl ?_
          refine k_iload h 0 dX8_near_109 rfl ?_
          refine k_callVI (As := [LI (mxI p2 p3)]) (st := []) (x0 := v1) (xg := fun a37 => mX5_secondOf a37 (mxI p2 p3) s22) h (fun a37 => ctX5_secondOf l B D cA sa a37 (mxI p2 p3) s22) calX5_secondOf rfl (by decide) (mw23 0 rfl) (mw23 1 rfl) (Or.inr ⟨_, nwm 38 rfl⟩) hgood ⟨rfl, rfl, Nat.le_of_ble_eq_true rfl, Nat.le_of_ble_eq_true rfl⟩ ⟨Nat.le_of_ble_eq_true rfl, Nat.le_of_ble_eq_true rfl⟩ rfl (Nat.le_of_ble_eq_true rfl) dX8_near_111 (fun v23 s24 => ?_)
          refine k_aload h 2 dX8_near_114 rfl ?_
          refine k_iload h 1 dX8_near_116 rfl ?_
          refine k_callVI (As := [LI (mnI p2 p3)]) (st := [LI v23]) (x0 := v1) (xg := fun a36 => mX5_secondOf a36 (mnI p2 p3) s24) h (fun a36 => ctX5_secondOf l B D cA sa a36 (mnI p2 p3) s24) calX5_secondOf rfl (by decide) (mw23 0 rfl) (mw23 1 rfl) (Or.inr ⟨_, nwm 38 rfl⟩) hgood ⟨rfl, rfl, Nat.le_of_ble_eq_true rfl, Nat.le_of_ble_eq_true rfl⟩ ⟨Nat.le_of_ble_eq_true rfl, Nat.le_of_ble_eq_true rfl⟩ rfl (Nat.le_of_ble_eq_true rfl) dX8_near_118 (fun v25 s26 => ?_)
          refine k_isub h dX8_near_121 ?_
          refine k_istore (lv' := [(7, LI (v23 - v25)), (6, LI (mxI p2 p3)), (5, LI (mnI p2 p3)), (4, LR v1), (0, LR (some a0)), (1, LI p1), (2, LI p2), (3, LI p3)]) h dX8_near_122 (by decide) rfl ?_
          refine k_aload_n h 4 dX8_near_124 rfl rfl ?_
          refine k_getR h fX8_7 (Or.inl (mw2 11 rfl)) dX8_near_125 (fun v27 => ?_)
          refine k_iconst (v := 0) h dX8_near_128 (by decide) ?_
          refine k_alR h rfl rfl dX8_near_129 (fun v28 => ?_)
          refine k_aload_n h 4 dX8_near_130 rfl rfl ?_
          refine k_getR h fX8_7 (Or.inl (mw2 11 rfl)) dX8_near_131 (fun v29 => ?_)
          refine k_iconst (v := 1) h dX8_near_134 (by decide) ?_
          refine k_alR h rfl rfl dX8_near_135 (fun v30 => ?_)
          refine k_iload h 0 dX8_near_136 rfl ?_
          refine k_aload h 3 dX8_near_138 rfl ?_
          refine k_getR h fX5_4 (Or.inr ⟨_, nwf 26 rfl⟩) dX8_near_140 (fun v31 => ?_)
          refine k_getI h fX6_3 (Or.inr ⟨_, nwf 20 rfl⟩) dX8_near_143 (fun v32 => ?_)
          refine k_lconst (v := 0) h dX8_near_146 (by decide) ?_
          refine k_callVL (As := [LR v30, LI (v23 - v25), LI v32, LL 0]) (st := []) (x0 := v28) (xg := fun a35 => mX1_nearTo a35 v30 (v23 - v25) v32 0 s26) h (fun a35 => ctX1_nearTo l B D cA sa a35 v30 (v23 - v25) v32 0 s26) calX1_nearTo rfl (by decide) (mw26 7 rfl) (mw26 8 rfl) (Or.inr ⟨_, nwm 39 rfl⟩) hgood ⟨rfl, rfl, Nat.le_of_ble_eq_true rfl, Nat.le_of_ble_eq_true rfl⟩ ⟨Nat.le_of_ble_eq_true rfl, Nat.le_of_ble_eq_true rfl⟩ rfl (Nat.le_of_ble_eq_true rfl) dX8_near_147 (fun v33 s34 => ?_)
          exact k_lret h rfl dX8_near_150 (Nat.le_of_ble_eq_true rfl) (Nat.le_of_ble_eq_true rfl)
        · refine k_ldc2_w (v := (-1)) h dX8_near_35 (mw26 5 rfl) ?_
          exact k_lret h rfl dX8_near_38 (Nat.le_of_ble_eq_true rfl) (Nat.le_of_ble_eq_true rfl)
def mX8_areFree (a0 : Nat) (p1 : Option Nat) (p2 : Option Nat) (p3 : Int32) (p4 : Int32) (s0 : Sg) : Option (Int32 × Sg) :=
gdR s0 8 6 (some a0) fun v1 =>
alI s0 v1 0 fun v2 =>
gdR s0 8 6 (some a0) fun v3 =>
alI s0 v3 0 fun v4 =>
cv s0 1 p1 fun a7 => cl (mX1_nearTo a7 p2 p3 p4 ((Int32.toInt64 v2) * (Int32.toInt64 v4)) s0) fun v5 s6 =>
if (lg_cmp v5 ((Int32.toInt64 v2) * (Int32.toInt64 v4))) < 0 then (
ckB 0 (some (0, s6)))
else (
ckB 1 (some (1, s6)))
def rmX8_areFree : Room := { frames := 2, cells := 0, slots := 0, locals := 69 }
theorem calX8_areFree : Cal yX8_areFree cX8_areFree 7 (some .boolean) 4 := ⟨(mw27 16 rfl), (mw1 2 rfl), by decide, by decide, by decide +kernel⟩
set_option maxHeartbeats 4000000 in
set_option maxRecDepth 100000 in
theorem ctX8_areFree (l : Launch) (B : Nat) (D : va_G) (cA : Nat → ClassId) (sa : Nat → Nat) (a0 : Nat) (p1 : Option Nat) (p2 : Option Nat) (p3 : Int32) (p4 : Int32) (s0 : Sg) : Ct l B D cA sa yX8_areFree cX8_areFree 7 (some .boolean) rmX8_areFree rI [LR (some a0), LR p1, LR p2, LI p3, LI p4] s0 0 0 (mX8_areFree a0 p1 p2 p3 p4 s0) := by
  refine Ct.of (own := RX8) (by decide) rfl _ (Nat.le_of_ble_eq_true rfl) rfl ?_
  intro p e s m args below meth c h hi
  unfold mX8_areFree
  refine k_aload_n h 0 dX8_areFree_0 rfl rfl ?_
  refine k_getR h fX8_6 (Or.inl (mw2 9 rfl)) dX8_areFree_1 (fun v1 => ?_)
  refine k_iconst (v := 0) h dX8_areFree_4 (by decide) ?_
  refine k_alI h dX8_areFree_5 (fun v2 => ?_)
  refine k_i2l h dX8_areFree_6 ?_
  refine k_aload_n h 0 dX8_areFree_7 rfl rfl ?_
  refine k_getR h fX8_6 (Or.inl (mw2 9 rfl)) dX8_areFree_8 (fun v3 => ?_)
  refine k_iconst (v := 0) h dX8_areFree_11 (by decide) ?_
  refine k_alI h dX8_areFree_12 (fun v4 => ?_)
  refine k_i2l h dX8_areFree_13 ?_
  refine k_lmul h dX8_areFree_14 ?_
  refine k_lstore (lv' := [(5, LL ((Int32.toInt64 v2) * (Int32.toInt64 v4))), (0, LR (some a0)), (1, LR p1), (2, LR p2), (3, LI p3), (4, LI p4)]) h dX8_areFree_15 (by decide) rfl ?_
  refine k_aload_n h 2 dX8_areFree_17 rfl rfl ?_
  refine k_aload_n h 3 dX8_areFree_18 rfl rfl ?_
  refine k_iload_n h 4 dX8_areFree_19 rfl rfl ?_
  refine k_iload h 5 dX8_areFree_20 rfl ?_
  refine k_lload h 0 dX8_areFree_22 rfl ?_
  refine k_callVL (As := [LR p2, LI p3, LI p4, LL ((Int32.toInt64 v2) * (Int32.toInt64 v4))]) (st := []) (x0 := p1) (xg := fun a7 => mX1_nearTo a7 p2 p3 p4 ((Int32.toInt64 v2) * (Int32.toInt64 v4)) s0) h (fun a7 => ctX1_nearTo l B D cA sa a7 p2 p3 p4 ((Int32.toInt64 v2) * (Int32.toInt64 v4)) s0) calX1_nearTo rfl (by decide) (mw26 7 rfl) (mw26 8 rfl) (Or.inr ⟨_, nwm 39 rfl⟩) hgood ⟨rfl, rfl, Nat.le_of_ble_eq_true rfl, Nat.le_of_ble_eq_true rfl⟩ ⟨Nat.le_of_ble_eq_true rfl, Nat.le_of_ble_eq_true rfl⟩ rfl (Nat.le_of_ble_eq_true rfl) dX8_areFree_24 (fun v5 s6 => ?_)
  refine k_lload h 0 dX8_areFree_27 rfl ?_
  refine k_lcmp h dX8_areFree_29 ?_
  refine k_if_lt (tgt := 37) h dX8_areFree_30 (by decide) ?_ ?_
  · refine k_iconst (v := 0) h dX8_areFree_37 (by decide) ?_
    exact k_zret h rfl dX8_areFree_38 (Nat.le_of_ble_eq_true rfl) (Nat.le_of_ble_eq_true rfl)
  · refine k_iconst (v := 1) h dX8_areFree_33 (by decide) ?_
    refine k_goto (tgt := 38) h dX8_areFree_34 (by decide) ?_
    exact k_zret h rfl dX8_areFree_38 (Nat.le_of_ble_eq_true rfl) (Nat.le_of_ble_eq_true rfl)
def mX8_leastPause_b3 (a0 : Nat) (p1 : Option Nat) (p2 : Option Nat) (p3 : Int32) (r3 : (Int32) → Sg → Option (Int32 × Sg)) (q1 : Int32) (s2 : Sg) : Option (Int32 × Sg) :=
if 60 < q1 then (
some (0, s2))
else (
cv s2 8 (some a0) fun a6 => cl (mX8_areFree a6 p1 p2 q1 p3 s2) fun v4 s5 =>
if v4 = 0 then (
r3 (q1 + 1) s5)
else (
some (q1, s5)))
def mX8_leastPause (a0 : Nat) (p1 : Option Nat) (p2 : Option Nat) (p3 : Int32) (s0 : Sg) : Option (Int32 × Sg) :=
lp (mX8_leastPause_b3 a0 p1 p2 p3) FU 1 s0
def rmX8_leastPause : Room := { frames := 3, cells := 0, slots := 0, locals := 95 }
theorem calX8_leastPause : Cal yX8_leastPause cX8_leastPause 5 (some .int) 3 := ⟨(mw27 12 rfl), (mw1 2 rfl), by decide, by decide, by decide +kernel⟩
set_option maxHeartbeats 4000000 in
set_option maxRecDepth 100000 in
theorem ctX8_leastPause (l : Launch) (B : Nat) (D : va_G) (cA : Nat → ClassId) (sa : Nat → Nat) (a0 : Nat) (p1 : Option Nat) (p2 : Option Nat) (p3 : Int32) (s0 : Sg) : Ct l B D cA sa yX8_leastPause cX8_leastPause 5 (some .int) rmX8_leastPause rI [LR (some a0), LR p1, LR p2, LI p3] s0 0 0 (mX8_leastPause a0 p1 p2 p3 s0) := by
  refine Ct.of (own := RX8) (by decide) rfl _ (Nat.le_of_ble_eq_true rfl) rfl ?_
  intro p e s m args below meth c h hi
  unfold mX8_leastPause
  refine k_iconst (v := 1) h dX8_leastPause_0 (by decide) ?_
  refine k_istore (lv' := [(4, LI 1), (0, LR (some a0)), (1, LR p1), (2, LR p2), (3, LI p3)]) h dX8_leastPause_1 (by decide) rfl ?_
  refine k_sub (lv' := [(0, LR (some a0)), (1, LR p1), (2, LR p2), (3, LI p3), (4, LI 1)]) h [1, 2, 3, 4, 0] rfl ?_
  refine k_lp (A := Int32) (fun q1 => [(0, LR (some a0)), (1, LR p1), (2, LR p2), (3, LI p3), (4, LI q1)]) (fun q1 => []) (fun r3 hr3 q1 s2 => ?_) FU 1 s0
  unfold mX8_leastPause_b3
  refine k_iload h 4 dX8_leastPause_3 rfl ?_
  refine k_bipush (v := 60) h dX8_leastPause_5 (by decide) ?_
  refine k_icmp_gt (tgt := 31) h dX8_leastPause_7 (by decide) ?_ ?_
  · refine k_iconst (v := 0) h dX8_leastPause_31 (by decide) ?_
    exact k_iret h rfl dX8_leastPause_32 (Nat.le_of_ble_eq_true rfl) (Nat.le_of_ble_eq_true rfl)
  · refine k_aload_n h 0 dX8_leastPause_10 rfl rfl ?_
    refine k_aload_n h 1 dX8_leastPause_11 rfl rfl ?_
    refine k_aload_n h 2 dX8_leastPause_12 rfl rfl ?_
    refine k_iload h 4 dX8_leastPause_13 rfl ?_
    refine k_iload_n h 3 dX8_leastPause_15 rfl rfl ?_
    refine k_callVI (As := [LR p1, LR p2, LI q1, LI p3]) (st := []) (x0 := (some a0)) (xg := fun a6 => mX8_areFree a6 p1 p2 q1 p3 s2) h (fun a6 => ctX8_areFree l B D cA sa a6 p1 p2 q1 p3 s2) calX8_areFree rfl (by decide) (mw27 14 rfl) (mw27 15 rfl) (Or.inl (mw27 13 rfl)) hgood ⟨rfl, rfl, Nat.le_of_ble_eq_true rfl, Nat.le_of_ble_eq_true rfl⟩ ⟨Nat.le_of_ble_eq_true rfl, Nat.le_of_ble_eq_true rfl⟩ rfl (Nat.le_of_ble_eq_true rfl) dX8_leastPause_16 (fun v4 s5 => ?_)
    refine k_if_eq (tgt := 25) h dX8_leastPause_19 (by decide) ?_ ?_
    · refine k_iinc (w := (q1 + 1)) (lv' := [(4, LI (q1 + 1)), (0, LR (some a0)), (1, LR p1), (2, LR p2), (3, LI p3)]) h 4 dX8_leastPause_25 rfl rfl (by decide) rfl ?_
      refine k_goto (tgt := 3) h dX8_leastPause_28 (by decide) ?_
      refine k_sub (lv' := [(0, LR (some a0)), (1, LR p1), (2, LR p2), (3, LI p3), (4, LI (q1 + 1))]) h [1, 2, 3, 4, 0] rfl ?_
      exact hr3 (q1 + 1) s5
    · refine k_iload h 4 dX8_leastPause_22 rfl ?_
      exact k_iret h rfl dX8_leastPause_24 (Nat.le_of_ble_eq_true rfl) (Nat.le_of_ble_eq_true rfl)
def mX8_between (a0 : Nat) (p1 : Int32) (p2 : Int32) (p3 : Int32) (s0 : Sg) : Option (Int32 × Sg) :=
cv s0 8 (some a0) fun a29 => cl (mX8_planeAt a29 p1 s0) fun v1 s2 =>
cv s2 8 (some a0) fun a28 => cl (mX8_groupAt a28 p2 s2) fun v3 s4 =>
cv s4 8 (some a0) fun a27 => cl (mX8_groupAt a27 p3 s4) fun v5 s6 =>
if v1 = none then (
some ((-1), s6))
else (
if v3 = none then (
some ((-1), s6))
else (
if v5 = none then (
some ((-1), s6))
else (
if ¬ v3 = v5 then (
gdR s6 8 7 (some a0) fun v7 =>
alR s6 1 v7 0 fun v8 =>
gdR s6 8 1 (some a0) fun v9 =>
cv s6 1 v8 fun a26 => cl (mX1_follow a26 v3 v1 v9 s6) fun u10 s11 =>
gdR s11 8 7 (some a0) fun v12 =>
alR s11 1 v12 1 fun v13 =>
gdR s11 8 1 (some a0) fun v14 =>
cv s11 1 v13 fun a25 => cl (mX1_follow a25 v5 v1 v14 s11) fun u15 s16 =>
gdR s16 8 7 (some a0) fun v17 =>
alR s16 1 v17 0 fun v18 =>
gdR s16 8 7 (some a0) fun v19 =>
alR s16 1 v19 1 fun v20 =>
gdI s16 6 3 v1 fun v21 =>
cv s16 8 (some a0) fun a24 => cl (mX8_leastPause a24 v18 v20 v21 s16) fun v22 s23 =>
if ¬ v22 = 0 then (
some (v22, s23))
else (
some ((-7), s23)))
else (
some ((-1), s6)))))
def rmX8_between : Room := { frames := 4, cells := 0, slots := 0, locals := 119 }
theorem calX8_between : Cal yX8_between cX8_between 8 (some .int) 3 := ⟨(mw27 8 rfl), (mw1 2 rfl), by decide, by decide, by decide +kernel⟩
set_option maxHeartbeats 4000000 in
set_option maxRecDepth 100000 in
theorem ctX8_between (l : Launch) (B : Nat) (D : va_G) (cA : Nat → ClassId) (sa : Nat → Nat) (a0 : Nat) (p1 : Int32) (p2 : Int32) (p3 : Int32) (s0 : Sg) : Ct l B D cA sa yX8_between cX8_between 8 (some .int) rmX8_between rI [LR (some a0), LI p1, LI p2, LI p3] s0 0 0 (mX8_between a0 p1 p2 p3 s0) := by
  refine Ct.of (own := RX8) (by decide) rfl _ (Nat.le_of_ble_eq_true rfl) rfl ?_
  intro p e s m args below meth c h hi
  unfold mX8_between
  refine k_aload_n h 0 dX8_between_0 rfl rfl ?_
  refine k_iload_n h 1 dX8_between_1 rfl rfl ?_
  refine k_callVR (As := [LI p1]) (st := []) (x0 := (some a0)) (xg := fun a29 => mX8_planeAt a29 p1 s0) h (fun a29 => ctX8_planeAt l B D cA sa a29 p1 s0) calX8_planeAt rfl (by decide) (mw18 10 rfl) (mw18 11 rfl) (Or.inl (mw18 9 rfl)) hgood ⟨rfl, rfl, Nat.le_of_ble_eq_true rfl, Nat.le_of_ble_eq_true rfl⟩ ⟨Nat.le_of_ble_eq_true rfl, Nat.le_of_ble_eq_true rfl⟩ rfl (Nat.le_of_ble_eq_true rfl) dX8_between_2 (fun v1 s2 => ?_)
  refine k_astore (lv' := [(4, LR v1), (0, LR (some a0)), (1, LI p1), (2, LI p2), (3, LI p3)]) h dX8_between_5 (by decide) rfl ?_
  refine k_aload_n h 1 dX8_between_7 rfl rfl ?_
  refine k_iload_n h 3 dX8_between_8 rfl rfl ?_
  refine k_callVR (As := [LI p2]) (st := []) (x0 := (some a0)) (xg := fun a28 => mX8_groupAt a28 p2 s2) h (fun a28 => ctX8_groupAt l B D cA sa a28 p2 s2) calX8_groupAt rfl (by decide) (mw16 0 rfl) (mw16 1 rfl) (Or.inl (mw15 23 rfl)) hgood ⟨rfl, rfl, Nat.le_of_ble_eq_true rfl, Nat.le_of_ble_eq_true rfl⟩ ⟨Nat.le_of_ble_eq_true rfl, Nat.le_of_ble_eq_true rfl⟩ rfl (Nat.le_of_ble_eq_true rfl) dX8_between_9 (fun v3 s4 => ?_)
  refine k_astore (lv' := [(5, LR v3), (4, LR v1), (0, LR (some a0)), (1, LI p1), (2, LI p2), (3, LI p3)]) h dX8_between_12 (by decide) rfl ?_
  refine k_aload_n h 2 dX8_between_14 rfl rfl ?_
  refine k_iload_n h 5 dX8_between_15 rfl rfl ?_
  refine k_callVR (As := [LI p3]) (st := []) (x0 := (some a0)) (xg := fun a27 => mX8_groupAt a27 p3 s4) h (fun a27 => ctX8_groupAt l B D cA sa a27 p3 s4) calX8_groupAt rfl (by decide) (mw16 0 rfl) (mw16 1 rfl) (Or.inl (mw15 23 rfl)) hgood ⟨rfl, rfl, Nat.le_of_ble_eq_true rfl, Nat.le_of_ble_eq_true rfl⟩ ⟨Nat.le_of_ble_eq_true rfl, Nat.le_of_ble_eq_true rfl⟩ rfl (Nat.le_of_ble_eq_true rfl) dX8_between_16 (fun v5 s6 => ?_)
  refine k_astore (lv' := [(6, LR v5), (5, LR v3), (4, LR v1), (0, LR (some a0)), (1, LI p1), (2, LI p2), (3, LI p3)]) h dX8_between_19 (by decide) rfl ?_
  refine k_aload h 2 dX8_between_21 rfl ?_
  refine k_ifnull (tgt := 43) h dX8_between_23 (by decide) ?_ ?_
  · refine k_iconst (v := (-1)) h dX8_between_43 (by decide) ?_
    exact k_iret h rfl dX8_between_44 (Nat.le_of_ble_eq_true rfl) (Nat.le_of_ble_eq_true rfl)
  · refine k_aload h 1 dX8_between_26 rfl ?_
    refine k_ifnull (tgt := 43) h dX8_between_28 (by decide) ?_ ?_
    · refine k_iconst (v := (-1)) h dX8_between_43 (by decide) ?_
      exact k_iret h rfl dX8_between_44 (Nat.le_of_ble_eq_true rfl) (Nat.le_of_ble_eq_true rfl)
    · refine k_aload h 0 dX8_between_31 rfl ?_
      refine k_ifnull (tgt := 43) h dX8_between_33 (by decide) ?_ ?_
      · refine k_iconst (v := (-1)) h dX8_between_43 (by decide) ?_
        exact k_iret h rfl dX8_between_44 (Nat.le_of_ble_eq_true rfl) (Nat.le_of_ble_eq_true rfl)
      · refine k_aload h 1 dX8_between_36 rfl ?_
        refine k_aload h 0 dX8_between_38 rfl ?_
        refine k_acmp_ne (tgt := 45) h dX8_between_40 (by decide) ?_ ?_
        · refine k_aload_n h 3 dX8_between_45 rfl rfl ?_
          refine k_getR h fX8_7 (Or.inl (mw2 11 rfl)) dX8_between_46 (fun v7 => ?_)
          refine k_iconst (v := 0) h dX8_between_49 (by decide) ?_
          refine k_alR h rfl rfl dX8_between_50 (fun v8 => ?_)
          refine k_aload h 1 dX8_between_51 rfl ?_
          refine k_aload h 2 dX8_between_53 rfl ?_
          refine k_aload_n h 3 dX8_between_55 rfl rfl ?_
          refine k_getR h fX8_1 (Or.inl (mw1 17 rfl)) dX8_between_56 (fun v9 => ?_)
          refine k_callVU (As := [LR v3, LR v1, LR v9]) (st := []) (x0 := v8) (xg := fun a26 => mX1_follow a26 v3 v1 v9 s6) h (fun a26 => ctX1_follow l B D cA sa a26 v3 v1 v9 s6) calX1_follow rfl (by decide) (mw23 17 rfl) (mw23 18 rfl) (Or.inr ⟨_, nwm 31 rfl⟩) hgood ⟨rfl, rfl, Nat.le_of_ble_eq_true rfl, Nat.le_of_ble_eq_true rfl⟩ ⟨Nat.le_of_ble_eq_true rfl, Nat.le_of_ble_eq_true rfl⟩ rfl (Nat.le_of_ble_eq_true rfl) dX8_between_59 (fun u10 s11 => ?_)
          refine k_aload_n h 3 dX8_between_62 rfl rfl ?_
          refine k_getR h fX8_7 (Or.inl (mw2 11 rfl)) dX8_between_63 (fun v12 => ?_)
          refine k_iconst (v := 1) h dX8_between_66 (by decide) ?_
          refine k_alR h rfl rfl dX8_between_67 (fun v13 => ?_)
          refine k_aload h 0 dX8_between_68 rfl ?_
          refine k_aload h 2 dX8_between_70 rfl ?_
          refine k_aload_n h 3 dX8_between_72 rfl rfl ?_
          refine k_getR h fX8_1 (Or.inl (mw1 17 rfl)) dX8_between_73 (fun v14 => ?_)
          refine k_callVU (As := [LR v5, LR v1, LR v14]) (st := []) (x0 := v13) (xg := fun a25 => mX1_follow a25 v5 v1 v14 s11) h (fun a25 => ctX1_follow l B D cA sa a25 v5 v1 v14 s11) calX1_follow rfl (by decide) (mw23 17 rfl) (mw23 18 rfl) (Or.inr ⟨_, nwm 31 rfl⟩) hgood ⟨rfl, rfl, Nat.le_of_ble_eq_true rfl, Nat.le_of_ble_eq_true rfl⟩ ⟨Nat.le_of_ble_eq_true rfl, Nat.le_of_ble_eq_true rfl⟩ rfl (Nat.le_of_ble_eq_true rfl) dX8_between_76 (fun u15 s16 => ?_)
          refine k_aload_n h 3 dX8_between_79 rfl rfl ?_
          refine k_aload_n h 3 dX8_between_80 rfl rfl ?_
          refine k_getR h fX8_7 (Or.inl (mw2 11 rfl)) dX8_between_81 (fun v17 => ?_)
          refine k_iconst (v := 0) h dX8_between_84 (by decide) ?_
          refine k_alR h rfl rfl dX8_between_85 (fun v18 => ?_)
          refine k_aload_n h 3 dX8_between_86 rfl rfl ?_
          refine k_getR h fX8_7 (Or.inl (mw2 11 rfl)) dX8_between_87 (fun v19 => ?_)
          refine k_iconst (v := 1) h dX8_between_90 (by decide) ?_
          refine k_alR h rfl rfl dX8_between_91 (fun v20 => ?_)
          refine k_aload h 2 dX8_between_92 rfl ?_
          refine k_getI h fX6_3 (Or.inr ⟨_, nwf 20 rfl⟩) dX8_between_94 (fun v21 => ?_)
          refine k_callVI (As := [LR v18, LR v20, LI v21]) (st := []) (x0 := (some a0)) (xg := fun a24 => mX8_leastPause a24 v18 v20 v21 s16) h (fun a24 => ctX8_leastPause l B D cA sa a24 v18 v20 v21 s16) calX8_leastPause rfl (by decide) (mw27 10 rfl) (mw27 11 rfl) (Or.inl (mw27 9 rfl)) hgood ⟨rfl, rfl, Nat.le_of_ble_eq_true rfl, Nat.le_of_ble_eq_true rfl⟩ ⟨Nat.le_of_ble_eq_true rfl, Nat.le_of_ble_eq_true rfl⟩ rfl (Nat.le_of_ble_eq_true rfl) dX8_between_97 (fun v22 s23 => ?_)
          refine k_istore (lv' := [(7, LI v22), (6, LR v5), (5, LR v3), (4, LR v1), (0, LR (some a0)), (1, LI p1), (2, LI p2), (3, LI p3)]) h dX8_between_100 (by decide) rfl ?_
          refine k_iload h 0 dX8_between_102 rfl ?_
          refine k_if_ne (tgt := 112) h dX8_between_104 (by decide) ?_ ?_
          · refine k_iload h 0 dX8_between_112 rfl ?_
            exact k_iret h rfl dX8_between_114 (Nat.le_of_ble_eq_true rfl) (Nat.le_of_ble_eq_true rfl)
          · refine k_bipush (v := (-7)) h dX8_between_107 (by decide) ?_
            refine k_goto (tgt := 114) h dX8_between_109 (by decide) ?_
            exact k_iret h rfl dX8_between_114 (Nat.le_of_ble_eq_true rfl) (Nat.le_of_ble_eq_true rfl)
        · refine k_iconst (v := (-1)) h dX8_between_43 (by decide) ?_
          exact k_iret h rfl dX8_between_44 (Nat.le_of_ble_eq_true rfl) (Nat.le_of_ble_eq_true rfl)
def mX8_followAll_b2 (p1 : Option Nat) (a0 : Nat) (r3 : (Int32) → Sg → Option (Unit × Sg)) (q1 : Int32) (s2 : Sg) : Option (Unit × Sg) :=
gdI s2 5 6 p1 fun v4 =>
if v4 ≤ q1 then (
some ((), s2))
else (
gdR s2 8 7 (some a0) fun v5 =>
aln s2 v5 fun v6 =>
if v6 ≤ q1 then (
some ((), s2))
else (
gdR s2 8 7 (some a0) fun v7 =>
alR s2 1 v7 q1 fun v8 =>
gdR s2 5 0 p1 fun v9 =>
alR s2 2 v9 q1 fun v10 =>
gdR s2 5 4 p1 fun v11 =>
gdR s2 5 5 p1 fun v12 =>
cv s2 1 v8 fun a15 => cl (mX1_follow a15 v10 v11 v12 s2) fun u13 s14 =>
r3 (q1 + 1) s14))
def mX8_followAll (a0 : Nat) (p1 : Option Nat) (s0 : Sg) : Option (Unit × Sg) :=
lp (mX8_followAll_b2 p1 a0) FU 0 s0
def rmX8_followAll : Room := { frames := 3, cells := 0, slots := 0, locals := 69 }
theorem calX8_followAll : Cal yX8_followAll cX8_followAll 3 none 1 := ⟨(mw28 16 rfl), (mw1 2 rfl), by decide, by decide, by decide +kernel⟩
set_option maxHeartbeats 4000000 in
set_option maxRecDepth 100000 in
theorem ctX8_followAll (l : Launch) (B : Nat) (D : va_G) (cA : Nat → ClassId) (sa : Nat → Nat) (a0 : Nat) (p1 : Option Nat) (s0 : Sg) : Ct l B D cA sa yX8_followAll cX8_followAll 3 none rmX8_followAll rU [LR (some a0), LR p1] s0 0 0 (mX8_followAll a0 p1 s0) := by
  refine Ct.of (own := RX8) (by decide) rfl _ (Nat.le_of_ble_eq_true rfl) rfl ?_
  intro p e s m args below meth c h hi
  unfold mX8_followAll
  refine k_iconst (v := 0) h dX8_followAll_0 (by decide) ?_
  refine k_istore_n (lv' := [(2, LI 0), (0, LR (some a0)), (1, LR p1)]) h dX8_followAll_1 rfl (by decide) rfl ?_
  refine k_sub (lv' := [(0, LR (some a0)), (1, LR p1), (2, LI 0)]) h [1, 2, 0] rfl ?_
  refine k_lp (A := Int32) (fun q1 => [(0, LR (some a0)), (1, LR p1), (2, LI q1)]) (fun q1 => []) (fun r3 hr3 q1 s2 => ?_) FU 0 s0
  unfold mX8_followAll_b2
  refine k_iload_n h 2 dX8_followAll_2 rfl rfl ?_
  refine k_aload_n h 1 dX8_followAll_3 rfl rfl ?_
  refine k_getI h fX5_6 (Or.inr ⟨_, nwf 29 rfl⟩) dX8_followAll_4 (fun v4 => ?_)
  refine k_icmp_ge (tgt := 48) h dX8_followAll_7 (by decide) ?_ ?_
  · exact k_vret h rfl dX8_followAll_48 (Nat.le_of_ble_eq_true rfl) (Nat.le_of_ble_eq_true rfl)
  · refine k_iload_n h 2 dX8_followAll_10 rfl rfl ?_
    refine k_aload_n h 0 dX8_followAll_11 rfl rfl ?_
    refine k_getR h fX8_7 (Or.inl (mw2 11 rfl)) dX8_followAll_12 (fun v5 => ?_)
    refine k_aln h dX8_followAll_15 (fun v6 => ?_)
    refine k_icmp_ge (tgt := 48) h dX8_followAll_16 (by decide) ?_ ?_
    · exact k_vret h rfl dX8_followAll_48 (Nat.le_of_ble_eq_true rfl) (Nat.le_of_ble_eq_true rfl)
    · refine k_aload_n h 0 dX8_followAll_19 rfl rfl ?_
      refine k_getR h fX8_7 (Or.inl (mw2 11 rfl)) dX8_followAll_20 (fun v7 => ?_)
      refine k_iload_n h 2 dX8_followAll_23 rfl rfl ?_
      refine k_alR h rfl rfl dX8_followAll_24 (fun v8 => ?_)
      refine k_aload_n h 1 dX8_followAll_25 rfl rfl ?_
      refine k_getR h fX5_0 (Or.inr ⟨_, nwf 23 rfl⟩) dX8_followAll_26 (fun v9 => ?_)
      refine k_iload_n h 2 dX8_followAll_29 rfl rfl ?_
      refine k_alR h rfl rfl dX8_followAll_30 (fun v10 => ?_)
      refine k_aload_n h 1 dX8_followAll_31 rfl rfl ?_
      refine k_getR h fX5_4 (Or.inr ⟨_, nwf 26 rfl⟩) dX8_followAll_32 (fun v11 => ?_)
      refine k_aload_n h 1 dX8_followAll_35 rfl rfl ?_
      refine k_getR h fX5_5 (Or.inr ⟨_, nwf 27 rfl⟩) dX8_followAll_36 (fun v12 => ?_)
      refine k_callVU (As := [LR v10, LR v11, LR v12]) (st := []) (x0 := v8) (xg := fun a15 => mX1_follow a15 v10 v11 v12 s2) h (fun a15 => ctX1_follow l B D cA sa a15 v10 v11 v12 s2) calX1_follow rfl (by decide) (mw23 17 rfl) (mw23 18 rfl) (Or.inr ⟨_, nwm 31 rfl⟩) hgood ⟨rfl, rfl, Nat.le_of_ble_eq_true rfl, Nat.le_of_ble_eq_true rfl⟩ ⟨Nat.le_of_ble_eq_true rfl, Nat.le_of_ble_eq_true rfl⟩ rfl (Nat.le_of_ble_eq_true rfl) dX8_followAll_39 (fun u13 s14 => ?_)
      refine k_iinc (w := (q1 + 1)) (lv' := [(2, LI (q1 + 1)), (0, LR (some a0)), (1, LR p1)]) h 2 dX8_followAll_42 rfl rfl (by decide) rfl ?_
      refine k_goto (tgt := 2) h dX8_followAll_45 (by decide) ?_
      refine k_sub (lv' := [(0, LR (some a0)), (1, LR p1), (2, LI (q1 + 1))]) h [1, 2, 0] rfl ?_
      exact hr3 (q1 + 1) s14
def mX8_mayLeaveAhead (a0 : Nat) (p1 : Option Nat) (p2 : Option Nat) (s0 : Sg) : Option (Int32 × Sg) :=
gdR s0 8 6 (some a0) fun v1 =>
gdI s0 2 3 p1 fun v2 =>
alI s0 v1 (6 + v2) fun v3 =>
gdR s0 8 6 (some a0) fun v4 =>
gdI s0 2 3 p2 fun v5 =>
alI s0 v4 (6 + v5) fun v6 =>
if v6 < v3 then (
ckB 0 (some (0, s0)))
else (
ckB 1 (some (1, s0)))
def rmX8_mayLeaveAhead : Room := { frames := 0, cells := 0, slots := 0, locals := 0 }
theorem calX8_mayLeaveAhead : Cal yX8_mayLeaveAhead cX8_mayLeaveAhead 3 (some .boolean) 2 := ⟨(mw28 20 rfl), (mw1 2 rfl), by decide, by decide, by decide +kernel⟩
set_option maxHeartbeats 4000000 in
set_option maxRecDepth 100000 in
theorem ctX8_mayLeaveAhead (l : Launch) (B : Nat) (D : va_G) (cA : Nat → ClassId) (sa : Nat → Nat) (a0 : Nat) (p1 : Option Nat) (p2 : Option Nat) (s0 : Sg) : Ct l B D cA sa yX8_mayLeaveAhead cX8_mayLeaveAhead 3 (some .boolean) rmX8_mayLeaveAhead rI [LR (some a0), LR p1, LR p2] s0 0 0 (mX8_mayLeaveAhead a0 p1 p2 s0) := by
  refine Ct.of (own := RX8) (by decide) rfl _ (Nat.le_of_ble_eq_true rfl) rfl ?_
  intro p e s m args below meth c h hi
  unfold mX8_mayLeaveAhead
  refine k_aload_n h 0 dX8_mayLeaveAhead_0 rfl rfl ?_
  refine k_getR h fX8_6 (Or.inl (mw2 9 rfl)) dX8_mayLeaveAhead_1 (fun v1 => ?_)
  refine k_bipush (v := 6) h dX8_mayLeaveAhead_4 (by decide) ?_
  refine k_aload_n h 1 dX8_mayLeaveAhead_6 rfl rfl ?_
  refine k_getI h fX2_3 (Or.inr ⟨_, nwf 12 rfl⟩) dX8_mayLeaveAhead_7 (fun v2 => ?_)
  refine k_iadd h dX8_mayLeaveAhead_10 ?_
  refine k_alI h dX8_mayLeaveAhead_11 (fun v3 => ?_)
  refine k_aload_n h 0 dX8_mayLeaveAhead_12 rfl rfl ?_
  refine k_getR h fX8_6 (Or.inl (mw2 9 rfl)) dX8_mayLeaveAhead_13 (fun v4 => ?_)
  refine k_bipush (v := 6) h dX8_mayLeaveAhead_16 (by decide) ?_
  refine k_aload_n h 2 dX8_mayLeaveAhead_18 rfl rfl ?_
  refine k_getI h fX2_3 (Or.inr ⟨_, nwf 12 rfl⟩) dX8_mayLeaveAhead_19 (fun v5 => ?_)
  refine k_iadd h dX8_mayLeaveAhead_22 ?_
  refine k_alI h dX8_mayLeaveAhead_23 (fun v6 => ?_)
  refine k_icmp_gt (tgt := 31) h dX8_mayLeaveAhead_24 (by decide) ?_ ?_
  · refine k_iconst (v := 0) h dX8_mayLeaveAhead_31 (by decide) ?_
    exact k_zret h rfl dX8_mayLeaveAhead_32 (Nat.le_of_ble_eq_true rfl) (Nat.le_of_ble_eq_true rfl)
  · refine k_iconst (v := 1) h dX8_mayLeaveAhead_27 (by decide) ?_
    refine k_goto (tgt := 32) h dX8_mayLeaveAhead_28 (by decide) ?_
    exact k_zret h rfl dX8_mayLeaveAhead_32 (Nat.le_of_ble_eq_true rfl) (Nat.le_of_ble_eq_true rfl)
def mX8_measurePauses_b17 (p1 : Option Nat) (r5 : (Int32) → Sg → Option (Unit × Sg)) (q3 : Int32) (a0 : Nat) (r9 : (Int32) → Sg → Option (Unit × Sg)) (q7 : Int32) (s8 : Sg) : Option (Unit × Sg) :=
gdI s8 5 6 p1 fun v10 =>
if v10 ≤ q7 then (
r5 (q3 + 1) s8)
else (
gdR s8 5 0 p1 fun v11 =>
alR s8 2 v11 q3 fun v12 =>
gdR s8 5 0 p1 fun v13 =>
alR s8 2 v13 q7 fun v14 =>
jn (fun (q15 : Int32) (s16 : Sg) =>
jn (fun (q18 : Int32) (s19 : Sg) =>
gdR s19 8 8 (some a0) fun v21 =>
cv s19 4 v21 fun a24 => cl (mX4_measure a24 v12 v14 q18 s19) fun u22 s23 =>
r9 (q7 + 1) s23) (fun j20 =>
if q15 = 0 then (
j20 0 s16)
else (
gdR s16 8 7 (some a0) fun v25 =>
alR s16 1 v25 q3 fun v26 =>
gdR s16 8 7 (some a0) fun v27 =>
alR s16 1 v27 q7 fun v28 =>
gdR s16 5 4 p1 fun v29 =>
gdI s16 6 3 v29 fun v30 =>
cv s16 8 (some a0) fun a33 => cl (mX8_leastPause a33 v26 v28 v30 s16) fun v31 s32 =>
j20 v31 s32))) (fun j17 =>
jn (fun (q34 : Unit) (s35 : Sg) =>
j17 0 s35) (fun j36 =>
if q3 = q7 then (
j36 () s8)
else (
cv s8 8 (some a0) fun a39 => cl (mX8_mayLeaveAhead a39 v12 v14 s8) fun v37 s38 =>
if v37 = 0 then (
j36 () s38)
else (
j17 1 s38)))))
def mX8_measurePauses_b7 (p1 : Option Nat) (a0 : Nat) (r5 : (Int32) → Sg → Option (Unit × Sg)) (q3 : Int32) (s4 : Sg) : Option (Unit × Sg) :=
gdI s4 5 6 p1 fun v6 =>
if v6 ≤ q3 then (
some ((), s4))
else (
lp (mX8_measurePauses_b17 p1 r5 q3 a0) FU 0 s4)
def mX8_measurePauses (a0 : Nat) (p1 : Option Nat) (s0 : Sg) : Option (Unit × Sg) :=
cv s0 8 (some a0) fun a42 => cl (mX8_followAll a42 p1 s0) fun u1 s2 =>
lp (mX8_measurePauses_b7 p1 a0) FU 0 s2
def rmX8_measurePauses : Room := { frames := 4, cells := 0, slots := 0, locals := 119 }
theorem calX8_measurePauses : Cal yX8_measurePauses cX8_measurePauses 8 none 1 := ⟨(mw28 12 rfl), (mw1 2 rfl), by decide, by decide, by decide +kernel⟩
set_option maxHeartbeats 4000000 in
set_option maxRecDepth 100000 in
theorem ctX8_measurePauses (l : Launch) (B : Nat) (D : va_G) (cA : Nat → ClassId) (sa : Nat → Nat) (a0 : Nat) (p1 : Option Nat) (s0 : Sg) : Ct l B D cA sa yX8_measurePauses cX8_measurePauses 8 none rmX8_measurePauses rU [LR (some a0), LR p1] s0 0 0 (mX8_measurePauses a0 p1 s0) := by
  refine Ct.of (own := RX8) (by decide) rfl _ (Nat.le_of_ble_eq_true rfl) rfl ?_
  intro p e s m args below meth c h hi
  unfold mX8_measurePauses
  refine k_aload_n h 0 dX8_measurePauses_0 rfl rfl ?_
  refine k_aload_n h 1 dX8_measurePauses_1 rfl rfl ?_
  refine k_callVU (As := [LR p1]) (st := []) (x0 := (some a0)) (xg := fun a42 => mX8_followAll a42 p1 s0) h (fun a42 => ctX8_followAll l B D cA sa a42 p1 s0) calX8_followAll rfl (by decide) (mw28 14 rfl) (mw28 15 rfl) (Or.inl (mw28 13 rfl)) hgood ⟨rfl, rfl, Nat.le_of_ble_eq_true rfl, Nat.le_of_ble_eq_true rfl⟩ ⟨Nat.le_of_ble_eq_true rfl, Nat.le_of_ble_eq_true rfl⟩ rfl (Nat.le_of_ble_eq_true rfl) dX8_measurePauses_2 (fun u1 s2 => ?_)
  refine k_iconst (v := 0) h dX8_measurePauses_5 (by decide) ?_
  refine k_istore_n (lv' := [(2, LI 0), (0, LR (some a0)), (1, LR p1)]) h dX8_measurePauses_6 rfl (by decide) rfl ?_
  refine k_sub (lv' := [(0, LR (some a0)), (1, LR p1), (2, LI 0)]) h [1, 2, 0] rfl ?_
  refine k_lp (A := Int32) (fun q3 => [(0, LR (some a0)), (1, LR p1), (2, LI q3)]) (fun q3 => []) (fun r5 hr5 q3 s4 => ?_) FU 0 s2
  unfold mX8_measurePauses_b7
  refine k_iload_n h 2 dX8_measurePauses_7 rfl rfl ?_
  refine k_aload_n h 1 dX8_measurePauses_8 rfl rfl ?_
  refine k_getI h fX5_6 (Or.inr ⟨_, nwf 29 rfl⟩) dX8_measurePauses_9 (fun v6 => ?_)
  refine k_icmp_ge (tgt := 123) h dX8_measurePauses_12 (by decide) ?_ ?_
  · exact k_vret h rfl dX8_measurePauses_123 (Nat.le_of_ble_eq_true rfl) (Nat.le_of_ble_eq_true rfl)
  · refine k_iconst (v := 0) h dX8_measurePauses_15 (by decide) ?_
    refine k_istore_n (lv' := [(3, LI 0), (0, LR (some a0)), (1, LR p1), (2, LI q3)]) h dX8_measurePauses_16 rfl (by decide) rfl ?_
    refine k_sub (lv' := [(0, LR (some a0)), (1, LR p1), (2, LI q3), (3, LI 0)]) h [1, 2, 3, 0] rfl ?_
    refine k_lp (A := Int32) (fun q7 => [(0, LR (some a0)), (1, LR p1), (2, LI q3), (3, LI q7)]) (fun q7 => []) (fun r9 hr9 q7 s8 => ?_) FU 0 s4
    unfold mX8_measurePauses_b17
    refine k_iload_n h 3 dX8_measurePauses_17 rfl rfl ?_
    refine k_aload_n h 1 dX8_measurePauses_18 rfl rfl ?_
    refine k_getI h fX5_6 (Or.inr ⟨_, nwf 29 rfl⟩) dX8_measurePauses_19 (fun v10 => ?_)
    refine k_icmp_ge (tgt := 117) h dX8_measurePauses_22 (by decide) ?_ ?_
    · refine k_iinc (w := (q3 + 1)) (lv' := [(2, LI (q3 + 1)), (0, LR (some a0)), (1, LR p1), (3, LI q7)]) h 2 dX8_measurePauses_117 rfl rfl (by decide) rfl ?_
      refine k_goto (tgt := 7) h dX8_measurePauses_120 (by decide) ?_
      refine k_sub (lv' := [(0, LR (some a0)), (1, LR p1), (2, LI (q3 + 1))]) h [1, 2, 0] rfl ?_
      exact hr5 (q3 + 1) s8
    · refine k_aload_n h 1 dX8_measurePauses_25 rfl rfl ?_
      refine k_getR h fX5_0 (Or.inr ⟨_, nwf 23 rfl⟩) dX8_measurePauses_26 (fun v11 => ?_)
      refine k_iload_n h 2 dX8_measurePauses_29 rfl rfl ?_
      refine k_alR h rfl rfl dX8_measurePauses_30 (fun v12 => ?_)
      refine k_astore (lv' := [(4, LR v12), (0, LR (some a0)), (1, LR p1), (2, LI q3), (3, LI q7)]) h dX8_measurePauses_31 (by decide) rfl ?_
      refine k_aload_n h 2 dX8_measurePauses_33 rfl rfl ?_
      refine k_getR h fX5_0 (Or.inr ⟨_, nwf 23 rfl⟩) dX8_measurePauses_34 (fun v13 => ?_)
      refine k_iload_n h 4 dX8_measurePauses_37 rfl rfl ?_
      refine k_alR h rfl rfl dX8_measurePauses_38 (fun v14 => ?_)
      refine k_astore (lv' := [(5, LR v14), (4, LR v12), (0, LR (some a0)), (1, LR p1), (2, LI q3), (3, LI q7)]) h dX8_measurePauses_39 (by decide) rfl ?_
      refine k_iload_n h 4 dX8_measurePauses_41 rfl rfl ?_
      refine k_iload_n h 5 dX8_measurePauses_42 rfl rfl ?_
      refine k_jn (A := Int32) (J := 62) (fun q15 => [(0, LR (some a0)), (1, LR p1), (2, LI q3), (3, LI q7), (4, LR v12), (5, LR v14)]) (fun q15 => [LI q15]) (fun q15 s16 => ?_) (fun j17 hj17 => ?_)
      · refine k_istore (lv' := [(6, LI q15), (0, LR (some a0)), (1, LR p1), (2, LI q3), (3, LI q7), (4, LR v12), (5, LR v14)]) h dX8_measurePauses_62 (by decide) rfl ?_
        refine k_iload h 0 dX8_measurePauses_64 rfl ?_
        refine k_jn (A := Int32) (J := 96) (fun q18 => [(0, LR (some a0)), (1, LR p1), (2, LI q3), (3, LI q7), (4, LR v12), (5, LR v14)]) (fun q18 => [LI q18]) (fun q18 s19 => ?_) (fun j20 hj20 => ?_)
        · refine k_istore (lv' := [(7, LI q18), (0, LR (some a0)), (1, LR p1), (2, LI q3), (3, LI q7), (4, LR v12), (5, LR v14)]) h dX8_measurePauses_96 (by decide) rfl ?_
          refine k_aload_n h 1 dX8_measurePauses_98 rfl rfl ?_
          refine k_getR h fX8_8 (Or.inl (mw2 15 rfl)) dX8_measurePauses_99 (fun v21 => ?_)
          refine k_aload h 5 dX8_measurePauses_102 rfl ?_
          refine k_aload h 6 dX8_measurePauses_104 rfl ?_
          refine k_iload h 0 dX8_measurePauses_106 rfl ?_
          refine k_callVU (As := [LR v12, LR v14, LI q18]) (st := []) (x0 := v21) (xg := fun a24 => mX4_measure a24 v12 v14 q18 s19) h (fun a24 => ctX4_measure l B D cA sa a24 v12 v14 q18 s19) calX4_measure rfl (by decide) (mw28 21 rfl) (mw28 22 rfl) (Or.inr ⟨_, nwm 40 rfl⟩) hgood ⟨rfl, rfl, Nat.le_of_ble_eq_true rfl, Nat.le_of_ble_eq_true rfl⟩ ⟨Nat.le_of_ble_eq_true rfl, Nat.le_of_ble_eq_true rfl⟩ rfl (Nat.le_of_ble_eq_true rfl) dX8_measurePauses_108 (fun u22 s23 => ?_)
          refine k_iinc (w := (q7 + 1)) (lv' := [(3, LI (q7 + 1)), (7, LI q18), (0, LR (some a0)), (1, LR p1), (2, LI q3), (4, LR v12), (5, LR v14)]) h 4 dX8_measurePauses_111 rfl rfl (by decide) rfl ?_
          refine k_goto (tgt := 17) h dX8_measurePauses_114 (by decide) ?_
          refine k_sub (lv' := [(0, LR (some a0)), (1, LR p1), (2, LI q3), (3, LI (q7 + 1))]) h [2, 3, 4, 0] rfl ?_
          exact hr9 (q7 + 1) s23
        · refine k_if_eq (tgt := 95) h dX8_measurePauses_66 (by decide) ?_ ?_
          · refine k_iconst (v := 0) h dX8_measurePauses_95 (by decide) ?_
            refine k_sub (lv' := [(0, LR (some a0)), (1, LR p1), (2, LI q3), (3, LI q7), (4, LR v12), (5, LR v14)]) h [1, 2, 3, 4, 5, 6] rfl ?_
            exact hj20 0 s16
          · refine k_aload_n h 1 dX8_measurePauses_69 rfl rfl ?_
            refine k_aload_n h 1 dX8_measurePauses_70 rfl rfl ?_
            refine k_getR h fX8_7 (Or.inl (mw2 11 rfl)) dX8_measurePauses_71 (fun v25 => ?_)
            refine k_iload_n h 3 dX8_measurePauses_74 rfl rfl ?_
            refine k_alR h rfl rfl dX8_measurePauses_75 (fun v26 => ?_)
            refine k_aload_n h 1 dX8_measurePauses_76 rfl rfl ?_
            refine k_getR h fX8_7 (Or.inl (mw2 11 rfl)) dX8_measurePauses_77 (fun v27 => ?_)
            refine k_iload_n h 4 dX8_measurePauses_80 rfl rfl ?_
            refine k_alR h rfl rfl dX8_measurePauses_81 (fun v28 => ?_)
            refine k_aload_n h 2 dX8_measurePauses_82 rfl rfl ?_
            refine k_getR h fX5_4 (Or.inr ⟨_, nwf 26 rfl⟩) dX8_measurePauses_83 (fun v29 => ?_)
            refine k_getI h fX6_3 (Or.inr ⟨_, nwf 20 rfl⟩) dX8_measurePauses_86 (fun v30 => ?_)
            refine k_callVI (As := [LR v26, LR v28, LI v30]) (st := []) (x0 := (some a0)) (xg := fun a33 => mX8_leastPause a33 v26 v28 v30 s16) h (fun a33 => ctX8_leastPause l B D cA sa a33 v26 v28 v30 s16) calX8_leastPause rfl (by decide) (mw27 10 rfl) (mw27 11 rfl) (Or.inl (mw27 9 rfl)) hgood ⟨rfl, rfl, Nat.le_of_ble_eq_true rfl, Nat.le_of_ble_eq_true rfl⟩ ⟨Nat.le_of_ble_eq_true rfl, Nat.le_of_ble_eq_true rfl⟩ rfl (Nat.le_of_ble_eq_true rfl) dX8_measurePauses_89 (fun v31 s32 => ?_)
            refine k_goto (tgt := 96) h dX8_measurePauses_92 (by decide) ?_
            refine k_sub (lv' := [(0, LR (some a0)), (1, LR p1), (2, LI q3), (3, LI q7), (4, LR v12), (5, LR v14)]) h [1, 2, 3, 4, 5, 6] rfl ?_
            exact hj20 v31 s32
      · refine k_jn (A := Unit) (J := 61) (fun q34 => [(0, LR (some a0)), (1, LR p1), (2, LI q3), (3, LI q7), (4, LR v12), (5, LR v14)]) (fun q34 => []) (fun q34 s35 => ?_) (fun j36 hj36 => ?_)
        · refine k_iconst (v := 0) h dX8_measurePauses_61 (by decide) ?_
          refine k_sub (lv' := [(0, LR (some a0)), (1, LR p1), (2, LI q3), (3, LI q7), (4, LR v12), (5, LR v14)]) h [0, 1, 2, 3, 4, 5] rfl ?_
          exact hj17 0 s35
        · refine k_icmp_eq (tgt := 61) h dX8_measurePauses_43 (by decide) ?_ ?_
          · refine k_sub (lv' := [(0, LR (some a0)), (1, LR p1), (2, LI q3), (3, LI q7), (4, LR v12), (5, LR v14)]) h [2, 3, 4, 5, 1, 0] rfl ?_
            exact hj36 () s8
          · refine k_aload_n h 2 dX8_measurePauses_46 rfl rfl ?_
            refine k_aload h 1 dX8_measurePauses_47 rfl ?_
            refine k_aload h 0 dX8_measurePauses_49 rfl ?_
            refine k_callVI (As := [LR v12, LR v14]) (st := []) (x0 := (some a0)) (xg := fun a39 => mX8_mayLeaveAhead a39 v12 v14 s8) h (fun a39 => ctX8_mayLeaveAhead l B D cA sa a39 v12 v14 s8) calX8_mayLeaveAhead rfl (by decide) (mw28 18 rfl) (mw28 19 rfl) (Or.inl (mw28 17 rfl)) hgood ⟨rfl, rfl, Nat.le_of_ble_eq_true rfl, Nat.le_of_ble_eq_true rfl⟩ ⟨Nat.le_of_ble_eq_true rfl, Nat.le_of_ble_eq_true rfl⟩ rfl (Nat.le_of_ble_eq_true rfl) dX8_measurePauses_51 (fun v37 s38 => ?_)
            refine k_if_eq (tgt := 61) h dX8_measurePauses_54 (by decide) ?_ ?_
            · refine k_sub (lv' := [(0, LR (some a0)), (1, LR p1), (2, LI q3), (3, LI q7), (4, LR v12), (5, LR v14)]) h [2, 3, 4, 5, 1, 0] rfl ?_
              exact hj36 () s38
            · refine k_iconst (v := 1) h dX8_measurePauses_57 (by decide) ?_
              refine k_goto (tgt := 62) h dX8_measurePauses_58 (by decide) ?_
              refine k_sub (lv' := [(0, LR (some a0)), (1, LR p1), (2, LI q3), (3, LI q7), (4, LR v12), (5, LR v14)]) h [2, 3, 4, 5, 1, 0] rfl ?_
              exact hj17 1 s38
def mX8_order (a0 : Nat) (p1 : Int32) (s0 : Sg) : Option (Int32 × Sg) :=
cv s0 8 (some a0) fun a23 => cl (mX8_loadAt a23 p1 s0) fun v1 s2 =>
if v1 = none then (
some ((-1), s2))
else (
gdI s2 5 8 v1 fun v3 =>
if v3 = 0 then (
gdI s2 5 6 v1 fun v4 =>
if ¬ v4 = 0 then (
cv s2 8 (some a0) fun a22 => cl (mX8_measurePauses a22 v1 s2) fun u5 s6 =>
gdR s6 8 8 (some a0) fun v7 =>
cv s6 4 v7 fun a21 => cl (mX4_begin a21 v1 s6) fun u8 s9 =>
gdR s9 8 8 (some a0) fun v10 =>
cv s9 4 v10 fun a20 => cl (mX4_findShortest a20 s9) fun v11 s12 =>
if ¬ v11 = 0 then (
gdR s12 8 8 (some a0) fun v13 =>
gdR s12 8 3 (some a0) fun v14 =>
cv s12 4 v13 fun a19 => cl (mX4_giveTo a19 v1 v14 s12) fun u15 s16 =>
gdR s16 8 8 (some a0) fun v17 =>
gdI s16 4 4 v17 fun v18 =>
some (v18, s16))
else (
some ((-7), s12)))
else (
some ((-7), s2)))
else (
some ((-6), s2)))
def rmX8_order : Room := { frames := 5, cells := 0, slots := 0, locals := 146 }
theorem calX8_order : Cal yX8_order cX8_order 3 (some .int) 1 := ⟨(mw28 8 rfl), (mw1 2 rfl), by decide, by decide, by decide +kernel⟩
set_option maxHeartbeats 4000000 in
set_option maxRecDepth 100000 in
theorem ctX8_order (l : Launch) (B : Nat) (D : va_G) (cA : Nat → ClassId) (sa : Nat → Nat) (a0 : Nat) (p1 : Int32) (s0 : Sg) : Ct l B D cA sa yX8_order cX8_order 3 (some .int) rmX8_order rI [LR (some a0), LI p1] s0 0 0 (mX8_order a0 p1 s0) := by
  refine Ct.of (own := RX8) (by decide) rfl _ (Nat.le_of_ble_eq_true rfl) rfl ?_
  intro p e s m args below meth c h hi
  unfold mX8_order
  refine k_aload_n h 0 dX8_order_0 rfl rfl ?_
  refine k_iload_n h 1 dX8_order_1 rfl rfl ?_
  refine k_callVR (As := [LI p1]) (st := []) (x0 := (some a0)) (xg := fun a23 => mX8_loadAt a23 p1 s0) h (fun a23 => ctX8_loadAt l B D cA sa a23 p1 s0) calX8_loadAt rfl (by decide) (mw20 3 rfl) (mw20 4 rfl) (Or.inl (mw20 2 rfl)) hgood ⟨rfl, rfl, Nat.le_of_ble_eq_true rfl, Nat.le_of_ble_eq_true rfl⟩ ⟨Nat.le_of_ble_eq_true rfl, Nat.le_of_ble_eq_true rfl⟩ rfl (Nat.le_of_ble_eq_true rfl) dX8_order_2 (fun v1 s2 => ?_)
  refine k_astore_n (lv' := [(2, LR v1), (0, LR (some a0)), (1, LI p1)]) h dX8_order_5 rfl (by decide) rfl ?_
  refine k_aload_n h 0 dX8_order_6 rfl rfl ?_
  refine k_ifnonnull (tgt := 12) h dX8_order_7 (by decide) ?_ ?_
  · refine k_aload_n h 0 dX8_order_12 rfl rfl ?_
    refine k_getI h fX5_8 (Or.inr ⟨_, nwf 31 rfl⟩) dX8_order_13 (fun v3 => ?_)
    refine k_if_eq (tgt := 22) h dX8_order_16 (by decide) ?_ ?_
    · refine k_aload_n h 0 dX8_order_22 rfl rfl ?_
      refine k_getI h fX5_6 (Or.inr ⟨_, nwf 29 rfl⟩) dX8_order_23 (fun v4 => ?_)
      refine k_if_ne (tgt := 32) h dX8_order_26 (by decide) ?_ ?_
      · refine k_aload_n h 1 dX8_order_32 rfl rfl ?_
        refine k_aload_n h 0 dX8_order_33 rfl rfl ?_
        refine k_callVU (As := [LR v1]) (st := []) (x0 := (some a0)) (xg := fun a22 => mX8_measurePauses a22 v1 s2) h (fun a22 => ctX8_measurePauses l B D cA sa a22 v1 s2) calX8_measurePauses rfl (by decide) (mw28 10 rfl) (mw28 11 rfl) (Or.inl (mw28 9 rfl)) hgood ⟨rfl, rfl, Nat.le_of_ble_eq_true rfl, Nat.le_of_ble_eq_true rfl⟩ ⟨Nat.le_of_ble_eq_true rfl, Nat.le_of_ble_eq_true rfl⟩ rfl (Nat.le_of_ble_eq_true rfl) dX8_order_34 (fun u5 s6 => ?_)
        refine k_aload_n h 1 dX8_order_37 rfl rfl ?_
        refine k_getR h fX8_8 (Or.inl (mw2 15 rfl)) dX8_order_38 (fun v7 => ?_)
        refine k_aload_n h 0 dX8_order_41 rfl rfl ?_
        refine k_callVU (As := [LR v1]) (st := []) (x0 := v7) (xg := fun a21 => mX4_begin a21 v1 s6) h (fun a21 => ctX4_begin l B D cA sa a21 v1 s6) calX4_begin rfl (by decide) (mw29 0 rfl) (mw29 1 rfl) (Or.inr ⟨_, nwm 41 rfl⟩) hgood ⟨rfl, rfl, Nat.le_of_ble_eq_true rfl, Nat.le_of_ble_eq_true rfl⟩ ⟨Nat.le_of_ble_eq_true rfl, Nat.le_of_ble_eq_true rfl⟩ rfl (Nat.le_of_ble_eq_true rfl) dX8_order_42 (fun u8 s9 => ?_)
        refine k_aload_n h 1 dX8_order_45 rfl rfl ?_
        refine k_getR h fX8_8 (Or.inl (mw2 15 rfl)) dX8_order_46 (fun v10 => ?_)
        refine k_callVI (As := []) (st := []) (x0 := v10) (xg := fun a20 => mX4_findShortest a20 s9) h (fun a20 => ctX4_findShortest l B D cA sa a20  s9) calX4_findShortest rfl (by decide) (mw29 3 rfl) (mw29 4 rfl) (Or.inr ⟨_, nwm 42 rfl⟩) hgood ⟨rfl, rfl, Nat.le_of_ble_eq_true rfl, Nat.le_of_ble_eq_true rfl⟩ ⟨Nat.le_of_ble_eq_true rfl, Nat.le_of_ble_eq_true rfl⟩ rfl (Nat.le_of_ble_eq_true rfl) dX8_order_49 (fun v11 s12 => ?_)
        refine k_if_ne (tgt := 58) h dX8_order_52 (by decide) ?_ ?_
        · refine k_aload_n h 1 dX8_order_58 rfl rfl ?_
          refine k_getR h fX8_8 (Or.inl (mw2 15 rfl)) dX8_order_59 (fun v13 => ?_)
          refine k_aload_n h 0 dX8_order_62 rfl rfl ?_
          refine k_aload_n h 1 dX8_order_63 rfl rfl ?_
          refine k_getR h fX8_3 (Or.inl (mw1 21 rfl)) dX8_order_64 (fun v14 => ?_)
          refine k_callVU (As := [LR v1, LR v14]) (st := []) (x0 := v13) (xg := fun a19 => mX4_giveTo a19 v1 v14 s12) h (fun a19 => ctX4_giveTo l B D cA sa a19 v1 v14 s12) calX4_giveTo rfl (by decide) (mw30 2 rfl) (mw30 3 rfl) (Or.inr ⟨_, nwm 43 rfl⟩) hgood ⟨rfl, rfl, Nat.le_of_ble_eq_true rfl, Nat.le_of_ble_eq_true rfl⟩ ⟨Nat.le_of_ble_eq_true rfl, Nat.le_of_ble_eq_true rfl⟩ rfl (Nat.le_of_ble_eq_true rfl) dX8_order_67 (fun u15 s16 => ?_)
          refine k_aload_n h 1 dX8_order_70 rfl rfl ?_
          refine k_getR h fX8_8 (Or.inl (mw2 15 rfl)) dX8_order_71 (fun v17 => ?_)
          refine k_getI h fX4_4 (Or.inr ⟨_, nwf 0 rfl⟩) dX8_order_74 (fun v18 => ?_)
          exact k_iret h rfl dX8_order_77 (Nat.le_of_ble_eq_true rfl) (Nat.le_of_ble_eq_true rfl)
        · refine k_bipush (v := (-7)) h dX8_order_55 (by decide) ?_
          exact k_iret h rfl dX8_order_57 (Nat.le_of_ble_eq_true rfl) (Nat.le_of_ble_eq_true rfl)
      · refine k_bipush (v := (-7)) h dX8_order_29 (by decide) ?_
        exact k_iret h rfl dX8_order_31 (Nat.le_of_ble_eq_true rfl) (Nat.le_of_ble_eq_true rfl)
    · refine k_bipush (v := (-6)) h dX8_order_19 (by decide) ?_
      exact k_iret h rfl dX8_order_21 (Nat.le_of_ble_eq_true rfl) (Nat.le_of_ble_eq_true rfl)
  · refine k_iconst (v := (-1)) h dX8_order_10 (by decide) ?_
    exact k_iret h rfl dX8_order_11 (Nat.le_of_ble_eq_true rfl) (Nat.le_of_ble_eq_true rfl)
def mX8_reachSquare (a0 : Nat) (p1 : Option Nat) (p2 : Option Nat) (s0 : Sg) : Option (Int64 × Sg) :=
gdR s0 8 6 (some a0) fun v1 =>
alI s0 v1 1 fun v2 =>
gdI s0 2 5 p1 fun v3 =>
cv s0 1 p2 fun a6 => cl (mX1_secondsOpen a6 s0) fun v4 s5 =>
some ((((Int32.toInt64 v2) + ((Int32.toInt64 v3) * (Int32.toInt64 v4))) * ((Int32.toInt64 v2) + ((Int32.toInt64 v3) * (Int32.toInt64 v4)))), s5)
def rmX8_reachSquare : Room := { frames := 1, cells := 0, slots := 0, locals := 20 }
theorem calX8_reachSquare : Cal yX8_reachSquare cX8_reachSquare 5 (some .long) 2 := ⟨(mw31 17 rfl), (mw1 2 rfl), by decide, by decide, by decide +kernel⟩
set_option maxHeartbeats 4000000 in
set_option maxRecDepth 100000 in
theorem ctX8_reachSquare (l : Launch) (B : Nat) (D : va_G) (cA : Nat → ClassId) (sa : Nat → Nat) (a0 : Nat) (p1 : Option Nat) (p2 : Option Nat) (s0 : Sg) : Ct l B D cA sa yX8_reachSquare cX8_reachSquare 5 (some .long) rmX8_reachSquare rL [LR (some a0), LR p1, LR p2] s0 0 0 (mX8_reachSquare a0 p1 p2 s0) := by
  refine Ct.of (own := RX8) (by decide) rfl _ (Nat.le_of_ble_eq_true rfl) rfl ?_
  intro p e s m args below meth c h hi
  unfold mX8_reachSquare
  refine k_aload_n h 0 dX8_reachSquare_0 rfl rfl ?_
  refine k_getR h fX8_6 (Or.inl (mw2 9 rfl)) dX8_reachSquare_1 (fun v1 => ?_)
  refine k_iconst (v := 1) h dX8_reachSquare_4 (by decide) ?_
  refine k_alI h dX8_reachSquare_5 (fun v2 => ?_)
  refine k_i2l h dX8_reachSquare_6 ?_
  refine k_aload_n h 1 dX8_reachSquare_7 rfl rfl ?_
  refine k_getI h fX2_5 (Or.inr ⟨_, nwf 13 rfl⟩) dX8_reachSquare_8 (fun v3 => ?_)
  refine k_i2l h dX8_reachSquare_11 ?_
  refine k_aload_n h 2 dX8_reachSquare_12 rfl rfl ?_
  refine k_callVI (As := []) (st := [LL (Int32.toInt64 v3), LL (Int32.toInt64 v2)]) (x0 := p2) (xg := fun a6 => mX1_secondsOpen a6 s0) h (fun a6 => ctX1_secondsOpen l B D cA sa a6  s0) calX1_secondsOpen rfl (by decide) (mw31 18 rfl) (mw31 19 rfl) (Or.inr ⟨_, nwm 45 rfl⟩) hgood ⟨rfl, rfl, Nat.le_of_ble_eq_true rfl, Nat.le_of_ble_eq_true rfl⟩ ⟨Nat.le_of_ble_eq_true rfl, Nat.le_of_ble_eq_true rfl⟩ rfl (Nat.le_of_ble_eq_true rfl) dX8_reachSquare_13 (fun v4 s5 => ?_)
  refine k_i2l h dX8_reachSquare_16 ?_
  refine k_lmul h dX8_reachSquare_17 ?_
  refine k_ladd h dX8_reachSquare_18 ?_
  refine k_lstore_n (lv' := [(3, LL ((Int32.toInt64 v2) + ((Int32.toInt64 v3) * (Int32.toInt64 v4)))), (0, LR (some a0)), (1, LR p1), (2, LR p2)]) h dX8_reachSquare_19 rfl (by decide) rfl ?_
  refine k_lload_n h 0 dX8_reachSquare_20 rfl rfl ?_
  refine k_lload_n h 0 dX8_reachSquare_21 rfl rfl ?_
  refine k_lmul h dX8_reachSquare_22 ?_
  exact k_lret h rfl dX8_reachSquare_23 (Nat.le_of_ble_eq_true rfl) (Nat.le_of_ble_eq_true rfl)
def mX8_wholeRoot_b6 (p1 : Int64) (r3 : (Int32 × Int32) → Sg → Option (Int32 × Sg)) (q1 : Int32 × Int32) (s2 : Sg) : Option (Int32 × Sg) :=
if q1.2 ≤ 0 then (
some (q1.1, s2))
else (
if 0 < (lg_cmp ((Int32.toInt64 (q1.1 + q1.2)) * (Int32.toInt64 (q1.1 + q1.2))) p1) then (
r3 (q1.1, (q1.2 >>> (1 &&& 31))) s2)
else (
r3 ((q1.1 + q1.2), (q1.2 >>> (1 &&& 31))) s2))
def mX8_wholeRoot (p1 : Int64) (s0 : Sg) : Option (Int32 × Sg) :=
lp (mX8_wholeRoot_b6 p1) FU (0, 1048576) s0
def rmX8_wholeRoot : Room := { frames := 0, cells := 0, slots := 0, locals := 0 }
theorem calX8_wholeRoot : Cal yX8_wholeRoot cX8_wholeRoot 6 (some .int) 1 := ⟨(mw31 23 rfl), (mw1 2 rfl), by decide, by decide, by decide +kernel⟩
set_option maxHeartbeats 4000000 in
set_option maxRecDepth 100000 in
theorem ctX8_wholeRoot (l : Launch) (B : Nat) (D : va_G) (cA : Nat → ClassId) (sa : Nat → Nat) (p1 : Int64) (s0 : Sg) : Ct l B D cA sa yX8_wholeRoot cX8_wholeRoot 6 (some .int) rmX8_wholeRoot rI [LL p1] s0 0 0 (mX8_wholeRoot p1 s0) := by
  refine Ct.of (own := RX8) (by decide) rfl _ (Nat.le_of_ble_eq_true rfl) rfl ?_
  intro p e s m args below meth c h hi
  unfold mX8_wholeRoot
  refine k_iconst (v := 0) h dX8_wholeRoot_0 (by decide) ?_
  refine k_istore_n (lv' := [(2, LI 0), (0, LL p1)]) h dX8_wholeRoot_1 rfl (by decide) rfl ?_
  refine k_ldc_w (v := 1048576) h dX8_wholeRoot_2 (mw32 0 rfl) ?_
  refine k_istore_n (lv' := [(3, LI 1048576), (2, LI 0), (0, LL p1)]) h dX8_wholeRoot_5 rfl (by decide) rfl ?_
  refine k_sub (lv' := [(0, LL p1), (2, LI 0), (3, LI 1048576)]) h [2, 1, 0] rfl ?_
  refine k_lp (A := Int32 × Int32) (fun q1 => [(0, LL p1), (2, LI q1.1), (3, LI q1.2)]) (fun q1 => []) (fun r3 hr3 q1 s2 => ?_) FU (0, 1048576) s0
  unfold mX8_wholeRoot_b6
  refine k_iload_n h 2 dX8_wholeRoot_6 rfl rfl ?_
  refine k_if_le (tgt := 37) h dX8_wholeRoot_7 (by decide) ?_ ?_
  · refine k_iload_n h 1 dX8_wholeRoot_37 rfl rfl ?_
    exact k_iret h rfl dX8_wholeRoot_38 (Nat.le_of_ble_eq_true rfl) (Nat.le_of_ble_eq_true rfl)
  · refine k_iload_n h 1 dX8_wholeRoot_10 rfl rfl ?_
    refine k_iload_n h 2 dX8_wholeRoot_11 rfl rfl ?_
    refine k_iadd h dX8_wholeRoot_12 ?_
    refine k_i2l h dX8_wholeRoot_13 ?_
    refine k_lstore (lv' := [(4, LL (Int32.toInt64 (q1.1 + q1.2))), (0, LL p1), (2, LI q1.1), (3, LI q1.2)]) h dX8_wholeRoot_14 (by decide) rfl ?_
    refine k_lload h 0 dX8_wholeRoot_16 rfl ?_
    refine k_lload h 0 dX8_wholeRoot_18 rfl ?_
    refine k_lmul h dX8_wholeRoot_20 ?_
    refine k_lload_n h 1 dX8_wholeRoot_21 rfl rfl ?_
    refine k_lcmp h dX8_wholeRoot_22 ?_
    refine k_if_gt (tgt := 30) h dX8_wholeRoot_23 (by decide) ?_ ?_
    · refine k_iload_n h 3 dX8_wholeRoot_30 rfl rfl ?_
      refine k_iconst (v := 1) h dX8_wholeRoot_31 (by decide) ?_
      refine k_ishr h dX8_wholeRoot_32 ?_
      refine k_istore_n (lv' := [(3, LI (q1.2 >>> (1 &&& 31))), (4, LL (Int32.toInt64 (q1.1 + q1.2))), (0, LL p1), (2, LI q1.1)]) h dX8_wholeRoot_33 rfl (by decide) rfl ?_
      refine k_goto (tgt := 6) h dX8_wholeRoot_34 (by decide) ?_
      refine k_sub (lv' := [(0, LL p1), (2, LI q1.1), (3, LI (q1.2 >>> (1 &&& 31)))]) h [2, 3, 0] rfl ?_
      exact hr3 (q1.1, (q1.2 >>> (1 &&& 31))) s2
    · refine k_iload_n h 2 dX8_wholeRoot_26 rfl rfl ?_
      refine k_iload_n h 3 dX8_wholeRoot_27 rfl rfl ?_
      refine k_iadd h dX8_wholeRoot_28 ?_
      refine k_istore_n (lv' := [(2, LI (q1.1 + q1.2)), (4, LL (Int32.toInt64 (q1.1 + q1.2))), (0, LL p1), (3, LI q1.2)]) h dX8_wholeRoot_29 rfl (by decide) rfl ?_
      refine k_iload_n h 3 dX8_wholeRoot_30 rfl rfl ?_
      refine k_iconst (v := 1) h dX8_wholeRoot_31 (by decide) ?_
      refine k_ishr h dX8_wholeRoot_32 ?_
      refine k_istore_n (lv' := [(3, LI (q1.2 >>> (1 &&& 31))), (2, LI (q1.1 + q1.2)), (4, LL (Int32.toInt64 (q1.1 + q1.2))), (0, LL p1)]) h dX8_wholeRoot_33 rfl (by decide) rfl ?_
      refine k_goto (tgt := 6) h dX8_wholeRoot_34 (by decide) ?_
      refine k_sub (lv' := [(0, LL p1), (2, LI (q1.1 + q1.2)), (3, LI (q1.2 >>> (1 &&& 31)))]) h [3, 1, 0] rfl ?_
      exact hr3 ((q1.1 + q1.2), (q1.2 >>> (1 &&& 31))) s2
def mX8_roomAlongX (a0 : Nat) (p1 : Option Nat) (p2 : Option Nat) (s0 : Sg) : Option (Int32 × Sg) :=
cv s0 1 p2 fun a8 => cl (mX1_downY a8 s0) fun v1 s2 =>
cv s2 8 (some a0) fun a7 => cl (mX8_reachSquare a7 p1 p2 s2) fun v3 s4 =>
if 0 ≤ (lg_cmp (v3 - ((Int32.toInt64 v1) * (Int32.toInt64 v1))) 0) then (
cl (mX8_wholeRoot (v3 - ((Int32.toInt64 v1) * (Int32.toInt64 v1))) s4) fun v5 s6 =>
some (v5, s6))
else (
some ((-1), s4))
def rmX8_roomAlongX : Room := { frames := 2, cells := 0, slots := 0, locals := 44 }
theorem calX8_roomAlongX : Cal yX8_roomAlongX cX8_roomAlongX 7 (some .int) 2 := ⟨(mw31 10 rfl), (mw1 2 rfl), by decide, by decide, by decide +kernel⟩
set_option maxHeartbeats 4000000 in
set_option maxRecDepth 100000 in
theorem ctX8_roomAlongX (l : Launch) (B : Nat) (D : va_G) (cA : Nat → ClassId) (sa : Nat → Nat) (a0 : Nat) (p1 : Option Nat) (p2 : Option Nat) (s0 : Sg) : Ct l B D cA sa yX8_roomAlongX cX8_roomAlongX 7 (some .int) rmX8_roomAlongX rI [LR (some a0), LR p1, LR p2] s0 0 0 (mX8_roomAlongX a0 p1 p2 s0) := by
  refine Ct.of (own := RX8) (by decide) rfl _ (Nat.le_of_ble_eq_true rfl) rfl ?_
  intro p e s m args below meth c h hi
  unfold mX8_roomAlongX
  refine k_aload_n h 2 dX8_roomAlongX_0 rfl rfl ?_
  refine k_callVI (As := []) (st := []) (x0 := p2) (xg := fun a8 => mX1_downY a8 s0) h (fun a8 => ctX1_downY l B D cA sa a8  s0) calX1_downY rfl (by decide) (mw31 11 rfl) (mw31 12 rfl) (Or.inr ⟨_, nwm 44 rfl⟩) hgood ⟨rfl, rfl, Nat.le_of_ble_eq_true rfl, Nat.le_of_ble_eq_true rfl⟩ ⟨Nat.le_of_ble_eq_true rfl, Nat.le_of_ble_eq_true rfl⟩ rfl (Nat.le_of_ble_eq_true rfl) dX8_roomAlongX_1 (fun v1 s2 => ?_)
  refine k_i2l h dX8_roomAlongX_4 ?_
  refine k_lstore_n (lv' := [(3, LL (Int32.toInt64 v1)), (0, LR (some a0)), (1, LR p1), (2, LR p2)]) h dX8_roomAlongX_5 rfl (by decide) rfl ?_
  refine k_aload_n h 1 dX8_roomAlongX_6 rfl rfl ?_
  refine k_aload_n h 2 dX8_roomAlongX_7 rfl rfl ?_
  refine k_aload_n h 3 dX8_roomAlongX_8 rfl rfl ?_
  refine k_callVL (As := [LR p1, LR p2]) (st := []) (x0 := (some a0)) (xg := fun a7 => mX8_reachSquare a7 p1 p2 s2) h (fun a7 => ctX8_reachSquare l B D cA sa a7 p1 p2 s2) calX8_reachSquare rfl (by decide) (mw31 15 rfl) (mw31 16 rfl) (Or.inl (mw31 14 rfl)) hgood ⟨rfl, rfl, Nat.le_of_ble_eq_true rfl, Nat.le_of_ble_eq_true rfl⟩ ⟨Nat.le_of_ble_eq_true rfl, Nat.le_of_ble_eq_true rfl⟩ rfl (Nat.le_of_ble_eq_true rfl) dX8_roomAlongX_9 (fun v3 s4 => ?_)
  refine k_lload_n h 0 dX8_roomAlongX_12 rfl rfl ?_
  refine k_lload_n h 0 dX8_roomAlongX_13 rfl rfl ?_
  refine k_lmul h dX8_roomAlongX_14 ?_
  refine k_lsub h dX8_roomAlongX_15 ?_
  refine k_lstore (lv' := [(5, LL (v3 - ((Int32.toInt64 v1) * (Int32.toInt64 v1)))), (3, LL (Int32.toInt64 v1)), (0, LR (some a0)), (1, LR p1), (2, LR p2)]) h dX8_roomAlongX_16 (by decide) rfl ?_
  refine k_lload h 0 dX8_roomAlongX_18 rfl ?_
  refine k_lconst (v := 0) h dX8_roomAlongX_20 (by decide) ?_
  refine k_lcmp h dX8_roomAlongX_21 ?_
  refine k_if_ge (tgt := 29) h dX8_roomAlongX_22 (by decide) ?_ ?_
  · refine k_lload h 0 dX8_roomAlongX_29 rfl ?_
    refine k_callSI (As := [LL (v3 - ((Int32.toInt64 v1) * (Int32.toInt64 v1)))]) (st := []) h (ctX8_wholeRoot l B D cA sa (v3 - ((Int32.toInt64 v1) * (Int32.toInt64 v1))) s4) calX8_wholeRoot (mw31 22 rfl) (Or.inl (mw31 21 rfl)) hgood ⟨rfl, rfl, Nat.le_of_ble_eq_true rfl, Nat.le_of_ble_eq_true rfl⟩ ⟨Nat.le_of_ble_eq_true rfl, Nat.le_of_ble_eq_true rfl⟩ rfl (Nat.le_of_ble_eq_true rfl) dX8_roomAlongX_31 (fun v5 s6 => ?_)
    exact k_iret h rfl dX8_roomAlongX_34 (Nat.le_of_ble_eq_true rfl) (Nat.le_of_ble_eq_true rfl)
  · refine k_iconst (v := (-1)) h dX8_roomAlongX_25 (by decide) ?_
    refine k_goto (tgt := 34) h dX8_roomAlongX_26 (by decide) ?_
    exact k_iret h rfl dX8_roomAlongX_34 (Nat.le_of_ble_eq_true rfl) (Nat.le_of_ble_eq_true rfl)
def mX8_spot_b39 (v1 : Option Nat) (p2 : Int32) (a0 : Nat) (r9 : (Int32 × Int32 × Int32) → Sg → Option (Int32 × Sg)) (q7 : Int32 × Int32 × Int32) (s8 : Sg) : Option (Int32 × Sg) :=
gdI s8 5 6 v1 fun v10 =>
if v10 ≤ q7.2.2 then (
if q7.1 ≤ q7.2.1 then (
if ¬ p2 = 0 then (
some (q7.2.1, s8))
else (
some (q7.1, s8)))
else (
some ((-100001), s8)))
else (
gdR s8 5 0 v1 fun v11 =>
alR s8 2 v11 q7.2.2 fun v12 =>
gdR s8 8 7 (some a0) fun v13 =>
alR s8 1 v13 q7.2.2 fun v14 =>
cv s8 8 (some a0) fun a26 => cl (mX8_roomAlongX a26 v12 v14 s8) fun v15 s16 =>
if 0 ≤ v15 then (
cv s16 5 v1 fun a25 => cl (mX5_leavesAtX a25 q7.2.2 s16) fun v17 s18 =>
gdI s18 5 7 v1 fun v19 =>
gdR s18 8 7 (some a0) fun v20 =>
alR s18 1 v20 q7.2.2 fun v21 =>
cv s18 1 v21 fun a24 => cl (mX1_downX a24 s18) fun v22 s23 =>
r9 ((mxI q7.1 ((-((v17 - v19) + v22)) - v15)), (mnI q7.2.1 ((-((v17 - v19) + v22)) + v15)), (q7.2.2 + 1)) s23)
else (
some ((-100001), s16)))
def mX8_spot (a0 : Nat) (p1 : Int32) (p2 : Int32) (s0 : Sg) : Option (Int32 × Sg) :=
cv s0 8 (some a0) fun a29 => cl (mX8_loadAt a29 p1 s0) fun v1 s2 =>
if v1 = none then (
some ((-100002), s2))
else (
cl (mX8_within p2 0 1 s2) fun v3 s4 =>
if ¬ v3 = 0 then (
cv s4 8 (some a0) fun a28 => cl (mX8_followAll a28 v1 s4) fun u5 s6 =>
lp (mX8_spot_b39 v1 p2 a0) FU ((-50000), 50000, 0) s6)
else (
some ((-100002), s4)))
def rmX8_spot : Room := { frames := 4, cells := 0, slots := 0, locals := 91 }
theorem calX8_spot : Cal yX8_spot cX8_spot 9 (some .int) 2 := ⟨(mw31 4 rfl), (mw1 2 rfl), by decide, by decide, by decide +kernel⟩
set_option maxHeartbeats 4000000 in
set_option maxRecDepth 100000 in
theorem ctX8_spot (l : Launch) (B : Nat) (D : va_G) (cA : Nat → ClassId) (sa : Nat → Nat) (a0 : Nat) (p1 : Int32) (p2 : Int32) (s0 : Sg) : Ct l B D cA sa yX8_spot cX8_spot 9 (some .int) rmX8_spot rI [LR (some a0), LI p1, LI p2] s0 0 0 (mX8_spot a0 p1 p2 s0) := by
  refine Ct.of (own := RX8) (by decide) rfl _ (Nat.le_of_ble_eq_true rfl) rfl ?_
  intro p e s m args below meth c h hi
  unfold mX8_spot
  refine k_aload_n h 0 dX8_spot_0 rfl rfl ?_
  refine k_iload_n h 1 dX8_spot_1 rfl rfl ?_
  refine k_callVR (As := [LI p1]) (st := []) (x0 := (some a0)) (xg := fun a29 => mX8_loadAt a29 p1 s0) h (fun a29 => ctX8_loadAt l B D cA sa a29 p1 s0) calX8_loadAt rfl (by decide) (mw20 3 rfl) (mw20 4 rfl) (Or.inl (mw20 2 rfl)) hgood ⟨rfl, rfl, Nat.le_of_ble_eq_true rfl, Nat.le_of_ble_eq_true rfl⟩ ⟨Nat.le_of_ble_eq_true rfl, Nat.le_of_ble_eq_true rfl⟩ rfl (Nat.le_of_ble_eq_true rfl) dX8_spot_2 (fun v1 s2 => ?_)
  refine k_astore_n (lv' := [(3, LR v1), (0, LR (some a0)), (1, LI p1), (2, LI p2)]) h dX8_spot_5 rfl (by decide) rfl ?_
  refine k_aload_n h 0 dX8_spot_6 rfl rfl ?_
  refine k_ifnull (tgt := 19) h dX8_spot_7 (by decide) ?_ ?_
  · refine k_ldc_w (v := (-100002)) h dX8_spot_19 (mw31 5 rfl) ?_
    exact k_iret h rfl dX8_spot_22 (Nat.le_of_ble_eq_true rfl) (Nat.le_of_ble_eq_true rfl)
  · refine k_iload_n h 3 dX8_spot_10 rfl rfl ?_
    refine k_iconst (v := 0) h dX8_spot_11 (by decide) ?_
    refine k_iconst (v := 1) h dX8_spot_12 (by decide) ?_
    refine k_callSI (As := [LI p2, LI 0, LI 1]) (st := []) h (ctX8_within l B D cA sa p2 0 1 s2) calX8_within (mw9 8 rfl) (Or.inl (mw9 7 rfl)) hgood ⟨rfl, rfl, Nat.le_of_ble_eq_true rfl, Nat.le_of_ble_eq_true rfl⟩ ⟨Nat.le_of_ble_eq_true rfl, Nat.le_of_ble_eq_true rfl⟩ rfl (Nat.le_of_ble_eq_true rfl) dX8_spot_13 (fun v3 s4 => ?_)
    refine k_if_ne (tgt := 23) h dX8_spot_16 (by decide) ?_ ?_
    · refine k_aload_n h 1 dX8_spot_23 rfl rfl ?_
      refine k_aload_n h 0 dX8_spot_24 rfl rfl ?_
      refine k_callVU (As := [LR v1]) (st := []) (x0 := (some a0)) (xg := fun a28 => mX8_followAll a28 v1 s4) h (fun a28 => ctX8_followAll l B D cA sa a28 v1 s4) calX8_followAll rfl (by decide) (mw28 14 rfl) (mw28 15 rfl) (Or.inl (mw28 13 rfl)) hgood ⟨rfl, rfl, Nat.le_of_ble_eq_true rfl, Nat.le_of_ble_eq_true rfl⟩ ⟨Nat.le_of_ble_eq_true rfl, Nat.le_of_ble_eq_true rfl⟩ rfl (Nat.le_of_ble_eq_true rfl) dX8_spot_25 (fun u5 s6 => ?_)
      refine k_ldc (v := (-50000)) h dX8_spot_28 (mw22 4 rfl) ?_
      refine k_istore (lv' := [(4, LI (-50000)), (3, LR v1), (0, LR (some a0)), (1, LI p1), (2, LI p2)]) h dX8_spot_30 (by decide) rfl ?_
      refine k_ldc (v := 50000) h dX8_spot_32 (mw22 5 rfl) ?_
      refine k_istore (lv' := [(5, LI 50000), (4, LI (-50000)), (3, LR v1), (0, LR (some a0)), (1, LI p1), (2, LI p2)]) h dX8_spot_34 (by decide) rfl ?_
      refine k_iconst (v := 0) h dX8_spot_36 (by decide) ?_
      refine k_istore (lv' := [(6, LI 0), (5, LI 50000), (4, LI (-50000)), (3, LR v1), (0, LR (some a0)), (1, LI p1), (2, LI p2)]) h dX8_spot_37 (by decide) rfl ?_
      refine k_sub (lv' := [(0, LR (some a0)), (2, LI p2), (3, LR v1), (4, LI (-50000)), (5, LI 50000), (6, LI 0)]) h [4, 6, 3, 2, 1, 0] rfl ?_
      refine k_lp (A := Int32 × Int32 × Int32) (fun q7 => [(0, LR (some a0)), (2, LI p2), (3, LR v1), (4, LI q7.1), (5, LI q7.2.1), (6, LI q7.2.2)]) (fun q7 => []) (fun r9 hr9 q7 s8 => ?_) FU ((-50000), 50000, 0) s6
      unfold mX8_spot_b39
      refine k_iload h 5 dX8_spot_39 rfl ?_
      refine k_aload_n h 2 dX8_spot_41 rfl rfl ?_
      refine k_getI h fX5_6 (Or.inr ⟨_, nwf 29 rfl⟩) dX8_spot_42 (fun v10 => ?_)
      refine k_icmp_ge (tgt := 133) h dX8_spot_45 (by decide) ?_ ?_
      · refine k_iload h 3 dX8_spot_133 rfl ?_
        refine k_iload h 4 dX8_spot_135 rfl ?_
        refine k_icmp_le (tgt := 144) h dX8_spot_137 (by decide) ?_ ?_
        · refine k_iload_n h 1 dX8_spot_144 rfl rfl ?_
          refine k_if_ne (tgt := 153) h dX8_spot_145 (by decide) ?_ ?_
          · refine k_iload h 4 dX8_spot_153 rfl ?_
            exact k_iret h rfl dX8_spot_155 (Nat.le_of_ble_eq_true rfl) (Nat.le_of_ble_eq_true rfl)
          · refine k_iload h 3 dX8_spot_148 rfl ?_
            refine k_goto (tgt := 155) h dX8_spot_150 (by decide) ?_
            exact k_iret h rfl dX8_spot_155 (Nat.le_of_ble_eq_true rfl) (Nat.le_of_ble_eq_true rfl)
        · refine k_ldc_w (v := (-100001)) h dX8_spot_140 (mw31 6 rfl) ?_
          exact k_iret h rfl dX8_spot_143 (Nat.le_of_ble_eq_true rfl) (Nat.le_of_ble_eq_true rfl)
      · refine k_aload_n h 0 dX8_spot_48 rfl rfl ?_
        refine k_aload_n h 2 dX8_spot_49 rfl rfl ?_
        refine k_getR h fX5_0 (Or.inr ⟨_, nwf 23 rfl⟩) dX8_spot_50 (fun v11 => ?_)
        refine k_iload h 5 dX8_spot_53 rfl ?_
        refine k_alR h rfl rfl dX8_spot_55 (fun v12 => ?_)
        refine k_aload_n h 0 dX8_spot_56 rfl rfl ?_
        refine k_getR h fX8_7 (Or.inl (mw2 11 rfl)) dX8_spot_57 (fun v13 => ?_)
        refine k_iload h 5 dX8_spot_60 rfl ?_
        refine k_alR h rfl rfl dX8_spot_62 (fun v14 => ?_)
        refine k_callVI (As := [LR v12, LR v14]) (st := []) (x0 := (some a0)) (xg := fun a26 => mX8_roomAlongX a26 v12 v14 s8) h (fun a26 => ctX8_roomAlongX l B D cA sa a26 v12 v14 s8) calX8_roomAlongX rfl (by decide) (mw31 8 rfl) (mw31 9 rfl) (Or.inl (mw31 7 rfl)) hgood ⟨rfl, rfl, Nat.le_of_ble_eq_true rfl, Nat.le_of_ble_eq_true rfl⟩ ⟨Nat.le_of_ble_eq_true rfl, Nat.le_of_ble_eq_true rfl⟩ rfl (Nat.le_of_ble_eq_true rfl) dX8_spot_63 (fun v15 s16 => ?_)
        refine k_istore (lv' := [(7, LI v15), (0, LR (some a0)), (2, LI p2), (3, LR v1), (4, LI q7.1), (5, LI q7.2.1), (6, LI q7.2.2)]) h dX8_spot_66 (by decide) rfl ?_
        refine k_iload h 0 dX8_spot_68 rfl ?_
        refine k_if_ge (tgt := 77) h dX8_spot_70 (by decide) ?_ ?_
        · refine k_aload_n h 3 dX8_spot_77 rfl rfl ?_
          refine k_iload h 6 dX8_spot_78 rfl ?_
          refine k_callVI (As := [LI q7.2.2]) (st := []) (x0 := v1) (xg := fun a25 => mX5_leavesAtX a25 q7.2.2 s16) h (fun a25 => ctX5_leavesAtX l B D cA sa a25 q7.2.2 s16) calX5_leavesAtX rfl (by decide) (mw24 17 rfl) (mw24 18 rfl) (Or.inr ⟨_, nwm 36 rfl⟩) hgood ⟨rfl, rfl, Nat.le_of_ble_eq_true rfl, Nat.le_of_ble_eq_true rfl⟩ ⟨Nat.le_of_ble_eq_true rfl, Nat.le_of_ble_eq_true rfl⟩ rfl (Nat.le_of_ble_eq_true rfl) dX8_spot_80 (fun v17 s18 => ?_)
          refine k_aload_n h 3 dX8_spot_83 rfl rfl ?_
          refine k_getI h fX5_7 (Or.inr ⟨_, nwf 30 rfl⟩) dX8_spot_84 (fun v19 => ?_)
          refine k_isub h dX8_spot_87 ?_
          refine k_aload_n h 1 dX8_spot_88 rfl rfl ?_
          refine k_getR h fX8_7 (Or.inl (mw2 11 rfl)) dX8_spot_89 (fun v20 => ?_)
          refine k_iload h 6 dX8_spot_92 rfl ?_
          refine k_alR h rfl rfl dX8_spot_94 (fun v21 => ?_)
          refine k_callVI (As := []) (st := [LI (v17 - v19)]) (x0 := v21) (xg := fun a24 => mX1_downX a24 s18) h (fun a24 => ctX1_downX l B D cA sa a24  s18) calX1_downX rfl (by decide) (mw32 1 rfl) (mw32 2 rfl) (Or.inr ⟨_, nwm 46 rfl⟩) hgood ⟨rfl, rfl, Nat.le_of_ble_eq_true rfl, Nat.le_of_ble_eq_true rfl⟩ ⟨Nat.le_of_ble_eq_true rfl, Nat.le_of_ble_eq_true rfl⟩ rfl (Nat.le_of_ble_eq_true rfl) dX8_spot_95 (fun v22 s23 => ?_)
          refine k_iadd h dX8_spot_98 ?_
          refine k_istore (lv' := [(8, LI ((v17 - v19) + v22)), (7, LI v15), (0, LR (some a0)), (2, LI p2), (3, LR v1), (4, LI q7.1), (5, LI q7.2.1), (6, LI q7.2.2)]) h dX8_spot_99 (by decide) rfl ?_
          refine k_iload h 5 dX8_spot_101 rfl ?_
          refine k_iload h 0 dX8_spot_103 rfl ?_
          refine k_ineg h dX8_spot_105 ?_
          refine k_iload h 1 dX8_spot_106 rfl ?_
          refine k_isub h dX8_spot_108 ?_
          refine k_mmax h (mw26 6 rfl) (mw23 21 rfl) (mw12 12 rfl) (mw23 22 rfl) (Nat.le_of_ble_eq_true rfl) (Nat.le_of_ble_eq_true rfl) (Nat.le_of_ble_eq_true rfl) (Nat.le_of_ble_eq_true rfl) dX8_spot_109 ?_
          refine k_istore (lv' := [(4, LI (mxI q7.1 ((-((v17 - v19) + v22)) - v15))), (8, LI ((v17 - v19) + v22)), (7, LI v15), (0, LR (some a0)), (2, LI p2), (3, LR v1), (5, LI q7.2.1), (6, LI q7.2.2)]) h dX8_spot_112 (by decide) rfl ?_
          refine k_iload h 6 dX8_spot_114 rfl ?_
          refine k_iload h 1 dX8_spot_116 rfl ?_
          refine k_ineg h dX8_spot_118 ?_
          refine k_iload h 2 dX8_spot_119 rfl ?_
          refine k_iadd h dX8_spot_121 ?_
          refine k_mmin h (mw23 16 rfl) (mw12 11 rfl) (mw12 12 rfl) (mw12 13 rfl) (Nat.le_of_ble_eq_true rfl) (Nat.le_of_ble_eq_true rfl) (Nat.le_of_ble_eq_true rfl) (Nat.le_of_ble_eq_true rfl) dX8_spot_122 ?_
          refine k_istore (lv' := [(5, LI (mnI q7.2.1 ((-((v17 - v19) + v22)) + v15))), (4, LI (mxI q7.1 ((-((v17 - v19) + v22)) - v15))), (8, LI ((v17 - v19) + v22)), (7, LI v15), (0, LR (some a0)), (2, LI p2), (3, LR v1), (6, LI q7.2.2)]) h dX8_spot_125 (by decide) rfl ?_
          refine k_iinc (w := (q7.2.2 + 1)) (lv' := [(6, LI (q7.2.2 + 1)), (5, LI (mnI q7.2.1 ((-((v17 - v19) + v22)) + v15))), (4, LI (mxI q7.1 ((-((v17 - v19) + v22)) - v15))), (8, LI ((v17 - v19) + v22)), (7, LI v15), (0, LR (some a0)), (2, LI p2), (3, LR v1)]) h 7 dX8_spot_127 rfl rfl (by decide) rfl ?_
          refine k_goto (tgt := 39) h dX8_spot_130 (by decide) ?_
          refine k_sub (lv' := [(0, LR (some a0)), (2, LI p2), (3, LR v1), (4, LI (mxI q7.1 ((-((v17 - v19) + v22)) - v15))), (5, LI (mnI q7.2.1 ((-((v17 - v19) + v22)) + v15))), (6, LI (q7.2.2 + 1))]) h [5, 6, 7, 2, 1, 0] rfl ?_
          exact hr9 ((mxI q7.1 ((-((v17 - v19) + v22)) - v15)), (mnI q7.2.1 ((-((v17 - v19) + v22)) + v15)), (q7.2.2 + 1)) s23
        · refine k_ldc_w (v := (-100001)) h dX8_spot_73 (mw31 6 rfl) ?_
          exact k_iret h rfl dX8_spot_76 (Nat.le_of_ble_eq_true rfl) (Nat.le_of_ble_eq_true rfl)
    · refine k_ldc_w (v := (-100002)) h dX8_spot_19 (mw31 5 rfl) ?_
      exact k_iret h rfl dX8_spot_22 (Nat.le_of_ble_eq_true rfl) (Nat.le_of_ble_eq_true rfl)
def mX8_isTooWindy_b10 (p1 : Option Nat) (a0 : Nat) (v2 : Int32) (r6 : (Int32) → Sg → Option (Int32 × Sg)) (q4 : Int32) (s5 : Sg) : Option (Int32 × Sg) :=
gdI s5 5 6 p1 fun v7 =>
if v7 ≤ q4 then (
ckB 0 (some (0, s5)))
else (
gdR s5 8 6 (some a0) fun v8 =>
gdR s5 5 0 p1 fun v9 =>
alR s5 2 v9 q4 fun v10 =>
gdI s5 2 3 v10 fun v11 =>
alI s5 v8 (2 + v11) fun v12 =>
if v2 ≤ v12 then (
r6 (q4 + 1) s5)
else (
ckB 1 (some (1, s5))))
def mX8_isTooWindy (a0 : Nat) (p1 : Option Nat) (s0 : Sg) : Option (Int32 × Sg) :=
gdR s0 5 5 p1 fun v1 =>
cv s0 0 v1 fun a14 => cl (mX0_squareOnGround a14 s0) fun v2 s3 =>
lp (mX8_isTooWindy_b10 p1 a0 v2) FU 0 s3
def rmX8_isTooWindy : Room := { frames := 1, cells := 0, slots := 0, locals := 20 }
theorem calX8_isTooWindy : Cal yX8_isTooWindy cX8_isTooWindy 4 (some .boolean) 1 := ⟨(mw34 15 rfl), (mw1 2 rfl), by decide, by decide, by decide +kernel⟩
set_option maxHeartbeats 4000000 in
set_option maxRecDepth 100000 in
theorem ctX8_isTooWindy (l : Launch) (B : Nat) (D : va_G) (cA : Nat → ClassId) (sa : Nat → Nat) (a0 : Nat) (p1 : Option Nat) (s0 : Sg) : Ct l B D cA sa yX8_isTooWindy cX8_isTooWindy 4 (some .boolean) rmX8_isTooWindy rI [LR (some a0), LR p1] s0 0 0 (mX8_isTooWindy a0 p1 s0) := by
  refine Ct.of (own := RX8) (by decide) rfl _ (Nat.le_of_ble_eq_true rfl) rfl ?_
  intro p e s m args below meth c h hi
  unfold mX8_isTooWindy
  refine k_aload_n h 1 dX8_isTooWindy_0 rfl rfl ?_
  refine k_getR h fX5_5 (Or.inr ⟨_, nwf 27 rfl⟩) dX8_isTooWindy_1 (fun v1 => ?_)
  refine k_callVI (As := []) (st := []) (x0 := v1) (xg := fun a14 => mX0_squareOnGround a14 s0) h (fun a14 => ctX0_squareOnGround l B D cA sa a14  s0) calX0_squareOnGround rfl (by decide) (mw34 16 rfl) (mw34 17 rfl) (Or.inr ⟨_, nwm 57 rfl⟩) hgood ⟨rfl, rfl, Nat.le_of_ble_eq_true rfl, Nat.le_of_ble_eq_true rfl⟩ ⟨Nat.le_of_ble_eq_true rfl, Nat.le_of_ble_eq_true rfl⟩ rfl (Nat.le_of_ble_eq_true rfl) dX8_isTooWindy_4 (fun v2 s3 => ?_)
  refine k_istore_n (lv' := [(2, LI v2), (0, LR (some a0)), (1, LR p1)]) h dX8_isTooWindy_7 rfl (by decide) rfl ?_
  refine k_iconst (v := 0) h dX8_isTooWindy_8 (by decide) ?_
  refine k_istore_n (lv' := [(3, LI 0), (2, LI v2), (0, LR (some a0)), (1, LR p1)]) h dX8_isTooWindy_9 rfl (by decide) rfl ?_
  refine k_sub (lv' := [(0, LR (some a0)), (1, LR p1), (2, LI v2), (3, LI 0)]) h [2, 3, 1, 0] rfl ?_
  refine k_lp (A := Int32) (fun q4 => [(0, LR (some a0)), (1, LR p1), (2, LI v2), (3, LI q4)]) (fun q4 => []) (fun r6 hr6 q4 s5 => ?_) FU 0 s3
  unfold mX8_isTooWindy_b10
  refine k_iload_n h 3 dX8_isTooWindy_10 rfl rfl ?_
  refine k_aload_n h 1 dX8_isTooWindy_11 rfl rfl ?_
  refine k_getI h fX5_6 (Or.inr ⟨_, nwf 29 rfl⟩) dX8_isTooWindy_12 (fun v7 => ?_)
  refine k_icmp_ge (tgt := 46) h dX8_isTooWindy_15 (by decide) ?_ ?_
  · refine k_iconst (v := 0) h dX8_isTooWindy_46 (by decide) ?_
    exact k_zret h rfl dX8_isTooWindy_47 (Nat.le_of_ble_eq_true rfl) (Nat.le_of_ble_eq_true rfl)
  · refine k_aload_n h 0 dX8_isTooWindy_18 rfl rfl ?_
    refine k_getR h fX8_6 (Or.inl (mw2 9 rfl)) dX8_isTooWindy_19 (fun v8 => ?_)
    refine k_iconst (v := 2) h dX8_isTooWindy_22 (by decide) ?_
    refine k_aload_n h 1 dX8_isTooWindy_23 rfl rfl ?_
    refine k_getR h fX5_0 (Or.inr ⟨_, nwf 23 rfl⟩) dX8_isTooWindy_24 (fun v9 => ?_)
    refine k_iload_n h 3 dX8_isTooWindy_27 rfl rfl ?_
    refine k_alR h rfl rfl dX8_isTooWindy_28 (fun v10 => ?_)
    refine k_getI h fX2_3 (Or.inr ⟨_, nwf 12 rfl⟩) dX8_isTooWindy_29 (fun v11 => ?_)
    refine k_iadd h dX8_isTooWindy_32 ?_
    refine k_alI h dX8_isTooWindy_33 (fun v12 => ?_)
    refine k_iload_n h 2 dX8_isTooWindy_34 rfl rfl ?_
    refine k_icmp_ge (tgt := 40) h dX8_isTooWindy_35 (by decide) ?_ ?_
    · refine k_iinc (w := (q4 + 1)) (lv' := [(3, LI (q4 + 1)), (0, LR (some a0)), (1, LR p1), (2, LI v2)]) h 3 dX8_isTooWindy_40 rfl rfl (by decide) rfl ?_
      refine k_goto (tgt := 10) h dX8_isTooWindy_43 (by decide) ?_
      refine k_sub (lv' := [(0, LR (some a0)), (1, LR p1), (2, LI v2), (3, LI (q4 + 1))]) h [1, 2, 3, 0] rfl ?_
      exact hr6 (q4 + 1) s5
    · refine k_iconst (v := 1) h dX8_isTooWindy_38 (by decide) ?_
      exact k_zret h rfl dX8_isTooWindy_39 (Nat.le_of_ble_eq_true rfl) (Nat.le_of_ble_eq_true rfl)
def mX8_ranksAllow_b2 (p1 : Option Nat) (a0 : Nat) (r3 : (Int32) → Sg → Option (Int32 × Sg)) (q1 : Int32) (s2 : Sg) : Option (Int32 × Sg) :=
gdI s2 5 6 p1 fun v4 =>
if v4 ≤ q1 then (
ckB 1 (some (1, s2)))
else (
gdR s2 5 0 p1 fun v5 =>
alR s2 2 v5 (q1 - 1) fun v6 =>
gdR s2 5 0 p1 fun v7 =>
alR s2 2 v7 q1 fun v8 =>
cv s2 8 (some a0) fun a11 => cl (mX8_mayLeaveAhead a11 v6 v8 s2) fun v9 s10 =>
if ¬ v9 = 0 then (
r3 (q1 + 1) s10)
else (
ckB 0 (some (0, s10))))
def mX8_ranksAllow (a0 : Nat) (p1 : Option Nat) (s0 : Sg) : Option (Int32 × Sg) :=
lp (mX8_ranksAllow_b2 p1 a0) FU 1 s0
def rmX8_ranksAllow : Room := { frames := 1, cells := 0, slots := 0, locals := 22 }
theorem calX8_ranksAllow : Cal yX8_ranksAllow cX8_ranksAllow 3 (some .boolean) 1 := ⟨(mw34 22 rfl), (mw1 2 rfl), by decide, by decide, by decide +kernel⟩
set_option maxHeartbeats 4000000 in
set_option maxRecDepth 100000 in
theorem ctX8_ranksAllow (l : Launch) (B : Nat) (D : va_G) (cA : Nat → ClassId) (sa : Nat → Nat) (a0 : Nat) (p1 : Option Nat) (s0 : Sg) : Ct l B D cA sa yX8_ranksAllow cX8_ranksAllow 3 (some .boolean) rmX8_ranksAllow rI [LR (some a0), LR p1] s0 0 0 (mX8_ranksAllow a0 p1 s0) := by
  refine Ct.of (own := RX8) (by decide) rfl _ (Nat.le_of_ble_eq_true rfl) rfl ?_
  intro p e s m args below meth c h hi
  unfold mX8_ranksAllow
  refine k_iconst (v := 1) h dX8_ranksAllow_0 (by decide) ?_
  refine k_istore_n (lv' := [(2, LI 1), (0, LR (some a0)), (1, LR p1)]) h dX8_ranksAllow_1 rfl (by decide) rfl ?_
  refine k_sub (lv' := [(0, LR (some a0)), (1, LR p1), (2, LI 1)]) h [1, 2, 0] rfl ?_
  refine k_lp (A := Int32) (fun q1 => [(0, LR (some a0)), (1, LR p1), (2, LI q1)]) (fun q1 => []) (fun r3 hr3 q1 s2 => ?_) FU 1 s0
  unfold mX8_ranksAllow_b2
  refine k_iload_n h 2 dX8_ranksAllow_2 rfl rfl ?_
  refine k_aload_n h 1 dX8_ranksAllow_3 rfl rfl ?_
  refine k_getI h fX5_6 (Or.inr ⟨_, nwf 29 rfl⟩) dX8_ranksAllow_4 (fun v4 => ?_)
  refine k_icmp_ge (tgt := 39) h dX8_ranksAllow_7 (by decide) ?_ ?_
  · refine k_iconst (v := 1) h dX8_ranksAllow_39 (by decide) ?_
    exact k_zret h rfl dX8_ranksAllow_40 (Nat.le_of_ble_eq_true rfl) (Nat.le_of_ble_eq_true rfl)
  · refine k_aload_n h 0 dX8_ranksAllow_10 rfl rfl ?_
    refine k_aload_n h 1 dX8_ranksAllow_11 rfl rfl ?_
    refine k_getR h fX5_0 (Or.inr ⟨_, nwf 23 rfl⟩) dX8_ranksAllow_12 (fun v5 => ?_)
    refine k_iload_n h 2 dX8_ranksAllow_15 rfl rfl ?_
    refine k_iconst (v := 1) h dX8_ranksAllow_16 (by decide) ?_
    refine k_isub h dX8_ranksAllow_17 ?_
    refine k_alR h rfl rfl dX8_ranksAllow_18 (fun v6 => ?_)
    refine k_aload_n h 1 dX8_ranksAllow_19 rfl rfl ?_
    refine k_getR h fX5_0 (Or.inr ⟨_, nwf 23 rfl⟩) dX8_ranksAllow_20 (fun v7 => ?_)
    refine k_iload_n h 2 dX8_ranksAllow_23 rfl rfl ?_
    refine k_alR h rfl rfl dX8_ranksAllow_24 (fun v8 => ?_)
    refine k_callVI (As := [LR v6, LR v8]) (st := []) (x0 := (some a0)) (xg := fun a11 => mX8_mayLeaveAhead a11 v6 v8 s2) h (fun a11 => ctX8_mayLeaveAhead l B D cA sa a11 v6 v8 s2) calX8_mayLeaveAhead rfl (by decide) (mw28 18 rfl) (mw28 19 rfl) (Or.inl (mw28 17 rfl)) hgood ⟨rfl, rfl, Nat.le_of_ble_eq_true rfl, Nat.le_of_ble_eq_true rfl⟩ ⟨Nat.le_of_ble_eq_true rfl, Nat.le_of_ble_eq_true rfl⟩ rfl (Nat.le_of_ble_eq_true rfl) dX8_ranksAllow_25 (fun v9 s10 => ?_)
    refine k_if_ne (tgt := 33) h dX8_ranksAllow_28 (by decide) ?_ ?_
    · refine k_iinc (w := (q1 + 1)) (lv' := [(2, LI (q1 + 1)), (0, LR (some a0)), (1, LR p1)]) h 2 dX8_ranksAllow_33 rfl rfl (by decide) rfl ?_
      refine k_goto (tgt := 2) h dX8_ranksAllow_36 (by decide) ?_
      refine k_sub (lv' := [(0, LR (some a0)), (1, LR p1), (2, LI (q1 + 1))]) h [1, 2, 0] rfl ?_
      exact hr3 (q1 + 1) s10
    · refine k_iconst (v := 0) h dX8_ranksAllow_31 (by decide) ?_
      exact k_zret h rfl dX8_ranksAllow_32 (Nat.le_of_ble_eq_true rfl) (Nat.le_of_ble_eq_true rfl)
def mX8_allFree_b14 (p1 : Option Nat) (r3 : (Int32) → Sg → Option (Int32 × Sg)) (q1 : Int32) (a0 : Nat) (r7 : (Int32) → Sg → Option (Int32 × Sg)) (q5 : Int32) (s6 : Sg) : Option (Int32 × Sg) :=
gdI s6 5 6 p1 fun v8 =>
if v8 ≤ q5 then (
r3 (q1 + 1) s6)
else (
cv s6 5 p1 fun a23 => cl (mX5_secondOf a23 q5 s6) fun v9 s10 =>
cv s10 5 p1 fun a22 => cl (mX5_secondOf a22 q1 s10) fun v11 s12 =>
gdR s12 8 7 (some a0) fun v13 =>
alR s12 1 v13 q1 fun v14 =>
gdR s12 8 7 (some a0) fun v15 =>
alR s12 1 v15 q5 fun v16 =>
gdR s12 5 4 p1 fun v17 =>
gdI s12 6 3 v17 fun v18 =>
cv s12 8 (some a0) fun a21 => cl (mX8_areFree a21 v14 v16 (v9 - v11) v18 s12) fun v19 s20 =>
if ¬ v19 = 0 then (
r7 (q5 + 1) s20)
else (
ckB 0 (some (0, s20))))
def mX8_allFree_b2 (p1 : Option Nat) (a0 : Nat) (r3 : (Int32) → Sg → Option (Int32 × Sg)) (q1 : Int32) (s2 : Sg) : Option (Int32 × Sg) :=
gdI s2 5 6 p1 fun v4 =>
if v4 ≤ q1 then (
ckB 1 (some (1, s2)))
else (
lp (mX8_allFree_b14 p1 r3 q1 a0) FU (q1 + 1) s2)
def mX8_allFree (a0 : Nat) (p1 : Option Nat) (s0 : Sg) : Option (Int32 × Sg) :=
lp (mX8_allFree_b2 p1 a0) FU 0 s0
def rmX8_allFree : Room := { frames := 3, cells := 0, slots := 0, locals := 95 }
theorem calX8_allFree : Cal yX8_allFree cX8_allFree 5 (some .boolean) 1 := ⟨(mw35 2 rfl), (mw1 2 rfl), by decide, by decide, by decide +kernel⟩
set_option maxHeartbeats 4000000 in
set_option maxRecDepth 100000 in
theorem ctX8_allFree (l : Launch) (B : Nat) (D : va_G) (cA : Nat → ClassId) (sa : Nat → Nat) (a0 : Nat) (p1 : Option Nat) (s0 : Sg) : Ct l B D cA sa yX8_allFree cX8_allFree 5 (some .boolean) rmX8_allFree rI [LR (some a0), LR p1] s0 0 0 (mX8_allFree a0 p1 s0) := by
  refine Ct.of (own := RX8) (by decide) rfl _ (Nat.le_of_ble_eq_true rfl) rfl ?_
  intro p e s m args below meth c h hi
  unfold mX8_allFree
  refine k_iconst (v := 0) h dX8_allFree_0 (by decide) ?_
  refine k_istore_n (lv' := [(2, LI 0), (0, LR (some a0)), (1, LR p1)]) h dX8_allFree_1 rfl (by decide) rfl ?_
  refine k_sub (lv' := [(0, LR (some a0)), (1, LR p1), (2, LI 0)]) h [1, 2, 0] rfl ?_
  refine k_lp (A := Int32) (fun q1 => [(0, LR (some a0)), (1, LR p1), (2, LI q1)]) (fun q1 => []) (fun r3 hr3 q1 s2 => ?_) FU 0 s0
  unfold mX8_allFree_b2
  refine k_iload_n h 2 dX8_allFree_2 rfl rfl ?_
  refine k_aload_n h 1 dX8_allFree_3 rfl rfl ?_
  refine k_getI h fX5_6 (Or.inr ⟨_, nwf 29 rfl⟩) dX8_allFree_4 (fun v4 => ?_)
  refine k_icmp_ge (tgt := 77) h dX8_allFree_7 (by decide) ?_ ?_
  · refine k_iconst (v := 1) h dX8_allFree_77 (by decide) ?_
    exact k_zret h rfl dX8_allFree_78 (Nat.le_of_ble_eq_true rfl) (Nat.le_of_ble_eq_true rfl)
  · refine k_iload_n h 2 dX8_allFree_10 rfl rfl ?_
    refine k_iconst (v := 1) h dX8_allFree_11 (by decide) ?_
    refine k_iadd h dX8_allFree_12 ?_
    refine k_istore_n (lv' := [(3, LI (q1 + 1)), (0, LR (some a0)), (1, LR p1), (2, LI q1)]) h dX8_allFree_13 rfl (by decide) rfl ?_
    refine k_sub (lv' := [(0, LR (some a0)), (1, LR p1), (2, LI q1), (3, LI (q1 + 1))]) h [1, 2, 3, 0] rfl ?_
    refine k_lp (A := Int32) (fun q5 => [(0, LR (some a0)), (1, LR p1), (2, LI q1), (3, LI q5)]) (fun q5 => []) (fun r7 hr7 q5 s6 => ?_) FU (q1 + 1) s2
    unfold mX8_allFree_b14
    refine k_iload_n h 3 dX8_allFree_14 rfl rfl ?_
    refine k_aload_n h 1 dX8_allFree_15 rfl rfl ?_
    refine k_getI h fX5_6 (Or.inr ⟨_, nwf 29 rfl⟩) dX8_allFree_16 (fun v8 => ?_)
    refine k_icmp_ge (tgt := 71) h dX8_allFree_19 (by decide) ?_ ?_
    · refine k_iinc (w := (q1 + 1)) (lv' := [(2, LI (q1 + 1)), (0, LR (some a0)), (1, LR p1), (3, LI q5)]) h 2 dX8_allFree_71 rfl rfl (by decide) rfl ?_
      refine k_goto (tgt := 2) h dX8_allFree_74 (by decide) ?_
      refine k_sub (lv' := [(0, LR (some a0)), (1, LR p1), (2, LI (q1 + 1))]) h [1, 2, 0] rfl ?_
      exact hr3 (q1 + 1) s6
    · refine k_aload_n h 1 dX8_allFree_22 rfl rfl ?_
      refine k_iload_n h 3 dX8_allFree_23 rfl rfl ?_
      refine k_callVI (As := [LI q5]) (st := []) (x0 := p1) (xg := fun a23 => mX5_secondOf a23 q5 s6) h (fun a23 => ctX5_secondOf l B D cA sa a23 q5 s6) calX5_secondOf rfl (by decide) (mw23 0 rfl) (mw23 1 rfl) (Or.inr ⟨_, nwm 38 rfl⟩) hgood ⟨rfl, rfl, Nat.le_of_ble_eq_true rfl, Nat.le_of_ble_eq_true rfl⟩ ⟨Nat.le_of_ble_eq_true rfl, Nat.le_of_ble_eq_true rfl⟩ rfl (Nat.le_of_ble_eq_true rfl) dX8_allFree_24 (fun v9 s10 => ?_)
      refine k_aload_n h 1 dX8_allFree_27 rfl rfl ?_
      refine k_iload_n h 2 dX8_allFree_28 rfl rfl ?_
      refine k_callVI (As := [LI q1]) (st := [LI v9]) (x0 := p1) (xg := fun a22 => mX5_secondOf a22 q1 s10) h (fun a22 => ctX5_secondOf l B D cA sa a22 q1 s10) calX5_secondOf rfl (by decide) (mw23 0 rfl) (mw23 1 rfl) (Or.inr ⟨_, nwm 38 rfl⟩) hgood ⟨rfl, rfl, Nat.le_of_ble_eq_true rfl, Nat.le_of_ble_eq_true rfl⟩ ⟨Nat.le_of_ble_eq_true rfl, Nat.le_of_ble_eq_true rfl⟩ rfl (Nat.le_of_ble_eq_true rfl) dX8_allFree_29 (fun v11 s12 => ?_)
      refine k_isub h dX8_allFree_32 ?_
      refine k_istore (lv' := [(4, LI (v9 - v11)), (0, LR (some a0)), (1, LR p1), (2, LI q1), (3, LI q5)]) h dX8_allFree_33 (by decide) rfl ?_
      refine k_aload_n h 1 dX8_allFree_35 rfl rfl ?_
      refine k_aload_n h 1 dX8_allFree_36 rfl rfl ?_
      refine k_getR h fX8_7 (Or.inl (mw2 11 rfl)) dX8_allFree_37 (fun v13 => ?_)
      refine k_iload_n h 3 dX8_allFree_40 rfl rfl ?_
      refine k_alR h rfl rfl dX8_allFree_41 (fun v14 => ?_)
      refine k_aload_n h 1 dX8_allFree_42 rfl rfl ?_
      refine k_getR h fX8_7 (Or.inl (mw2 11 rfl)) dX8_allFree_43 (fun v15 => ?_)
      refine k_iload_n h 4 dX8_allFree_46 rfl rfl ?_
      refine k_alR h rfl rfl dX8_allFree_47 (fun v16 => ?_)
      refine k_iload h 0 dX8_allFree_48 rfl ?_
      refine k_aload_n h 2 dX8_allFree_50 rfl rfl ?_
      refine k_getR h fX5_4 (Or.inr ⟨_, nwf 26 rfl⟩) dX8_allFree_51 (fun v17 => ?_)
      refine k_getI h fX6_3 (Or.inr ⟨_, nwf 20 rfl⟩) dX8_allFree_54 (fun v18 => ?_)
      refine k_callVI (As := [LR v14, LR v16, LI (v9 - v11), LI v18]) (st := []) (x0 := (some a0)) (xg := fun a21 => mX8_areFree a21 v14 v16 (v9 - v11) v18 s12) h (fun a21 => ctX8_areFree l B D cA sa a21 v14 v16 (v9 - v11) v18 s12) calX8_areFree rfl (by decide) (mw27 14 rfl) (mw27 15 rfl) (Or.inl (mw27 13 rfl)) hgood ⟨rfl, rfl, Nat.le_of_ble_eq_true rfl, Nat.le_of_ble_eq_true rfl⟩ ⟨Nat.le_of_ble_eq_true rfl, Nat.le_of_ble_eq_true rfl⟩ rfl (Nat.le_of_ble_eq_true rfl) dX8_allFree_57 (fun v19 s20 => ?_)
      refine k_if_ne (tgt := 65) h dX8_allFree_60 (by decide) ?_ ?_
      · refine k_iinc (w := (q5 + 1)) (lv' := [(3, LI (q5 + 1)), (4, LI (v9 - v11)), (0, LR (some a0)), (1, LR p1), (2, LI q1)]) h 4 dX8_allFree_65 rfl rfl (by decide) rfl ?_
        refine k_goto (tgt := 14) h dX8_allFree_68 (by decide) ?_
        refine k_sub (lv' := [(0, LR (some a0)), (1, LR p1), (2, LI q1), (3, LI (q5 + 1))]) h [2, 3, 4, 0] rfl ?_
        exact hr7 (q5 + 1) s20
      · refine k_iconst (v := 0) h dX8_allFree_63 (by decide) ?_
        exact k_zret h rfl dX8_allFree_64 (Nat.le_of_ble_eq_true rfl) (Nat.le_of_ble_eq_true rfl)
def mX8_allHome_b2 (p1 : Option Nat) (a0 : Nat) (r3 : (Int32) → Sg → Option (Int32 × Sg)) (q1 : Int32) (s2 : Sg) : Option (Int32 × Sg) :=
gdI s2 5 6 p1 fun v4 =>
if v4 ≤ q1 then (
ckB 1 (some (1, s2)))
else (
cv s2 5 p1 fun a24 => cl (mX5_leavesAtX a24 q1 s2) fun v5 s6 =>
gdR s6 8 7 (some a0) fun v7 =>
alR s6 1 v7 q1 fun v8 =>
cv s6 1 v8 fun a23 => cl (mX1_downX a23 s6) fun v9 s10 =>
gdR s10 8 7 (some a0) fun v11 =>
alR s10 1 v11 q1 fun v12 =>
cv s10 1 v12 fun a22 => cl (mX1_downY a22 s10) fun v13 s14 =>
gdR s14 5 0 p1 fun v15 =>
alR s14 2 v15 q1 fun v16 =>
gdR s14 8 7 (some a0) fun v17 =>
alR s14 1 v17 q1 fun v18 =>
cv s14 8 (some a0) fun a21 => cl (mX8_reachSquare a21 v16 v18 s14) fun v19 s20 =>
if (lg_cmp (((Int32.toInt64 (v5 + v9)) * (Int32.toInt64 (v5 + v9))) + ((Int32.toInt64 v13) * (Int32.toInt64 v13))) v19) ≤ 0 then (
r3 (q1 + 1) s20)
else (
ckB 0 (some (0, s20))))
def mX8_allHome (a0 : Nat) (p1 : Option Nat) (s0 : Sg) : Option (Int32 × Sg) :=
lp (mX8_allHome_b2 p1 a0) FU 0 s0
def rmX8_allHome : Room := { frames := 2, cells := 0, slots := 0, locals := 44 }
theorem calX8_allHome : Cal yX8_allHome cX8_allHome 7 (some .boolean) 1 := ⟨(mw35 6 rfl), (mw1 2 rfl), by decide, by decide, by decide +kernel⟩
set_option maxHeartbeats 4000000 in
set_option maxRecDepth 100000 in
theorem ctX8_allHome (l : Launch) (B : Nat) (D : va_G) (cA : Nat → ClassId) (sa : Nat → Nat) (a0 : Nat) (p1 : Option Nat) (s0 : Sg) : Ct l B D cA sa yX8_allHome cX8_allHome 7 (some .boolean) rmX8_allHome rI [LR (some a0), LR p1] s0 0 0 (mX8_allHome a0 p1 s0) := by
  refine Ct.of (own := RX8) (by decide) rfl _ (Nat.le_of_ble_eq_true rfl) rfl ?_
  intro p e s m args below meth c h hi
  unfold mX8_allHome
  refine k_iconst (v := 0) h dX8_allHome_0 (by decide) ?_
  refine k_istore_n (lv' := [(2, LI 0), (0, LR (some a0)), (1, LR p1)]) h dX8_allHome_1 rfl (by decide) rfl ?_
  refine k_sub (lv' := [(0, LR (some a0)), (1, LR p1), (2, LI 0)]) h [1, 2, 0] rfl ?_
  refine k_lp (A := Int32) (fun q1 => [(0, LR (some a0)), (1, LR p1), (2, LI q1)]) (fun q1 => []) (fun r3 hr3 q1 s2 => ?_) FU 0 s0
  unfold mX8_allHome_b2
  refine k_iload_n h 2 dX8_allHome_2 rfl rfl ?_
  refine k_aload_n h 1 dX8_allHome_3 rfl rfl ?_
  refine k_getI h fX5_6 (Or.inr ⟨_, nwf 29 rfl⟩) dX8_allHome_4 (fun v4 => ?_)
  refine k_icmp_ge (tgt := 76) h dX8_allHome_7 (by decide) ?_ ?_
  · refine k_iconst (v := 1) h dX8_allHome_76 (by decide) ?_
    exact k_zret h rfl dX8_allHome_77 (Nat.le_of_ble_eq_true rfl) (Nat.le_of_ble_eq_true rfl)
  · refine k_aload_n h 1 dX8_allHome_10 rfl rfl ?_
    refine k_iload_n h 2 dX8_allHome_11 rfl rfl ?_
    refine k_callVI (As := [LI q1]) (st := []) (x0 := p1) (xg := fun a24 => mX5_leavesAtX a24 q1 s2) h (fun a24 => ctX5_leavesAtX l B D cA sa a24 q1 s2) calX5_leavesAtX rfl (by decide) (mw24 17 rfl) (mw24 18 rfl) (Or.inr ⟨_, nwm 36 rfl⟩) hgood ⟨rfl, rfl, Nat.le_of_ble_eq_true rfl, Nat.le_of_ble_eq_true rfl⟩ ⟨Nat.le_of_ble_eq_true rfl, Nat.le_of_ble_eq_true rfl⟩ rfl (Nat.le_of_ble_eq_true rfl) dX8_allHome_12 (fun v5 s6 => ?_)
    refine k_aload_n h 0 dX8_allHome_15 rfl rfl ?_
    refine k_getR h fX8_7 (Or.inl (mw2 11 rfl)) dX8_allHome_16 (fun v7 => ?_)
    refine k_iload_n h 2 dX8_allHome_19 rfl rfl ?_
    refine k_alR h rfl rfl dX8_allHome_20 (fun v8 => ?_)
    refine k_callVI (As := []) (st := [LI v5]) (x0 := v8) (xg := fun a23 => mX1_downX a23 s6) h (fun a23 => ctX1_downX l B D cA sa a23  s6) calX1_downX rfl (by decide) (mw32 1 rfl) (mw32 2 rfl) (Or.inr ⟨_, nwm 46 rfl⟩) hgood ⟨rfl, rfl, Nat.le_of_ble_eq_true rfl, Nat.le_of_ble_eq_true rfl⟩ ⟨Nat.le_of_ble_eq_true rfl, Nat.le_of_ble_eq_true rfl⟩ rfl (Nat.le_of_ble_eq_true rfl) dX8_allHome_21 (fun v9 s10 => ?_)
    refine k_iadd h dX8_allHome_24 ?_
    refine k_i2l h dX8_allHome_25 ?_
    refine k_lstore_n (lv' := [(3, LL (Int32.toInt64 (v5 + v9))), (0, LR (some a0)), (1, LR p1), (2, LI q1)]) h dX8_allHome_26 rfl (by decide) rfl ?_
    refine k_aload_n h 1 dX8_allHome_27 rfl rfl ?_
    refine k_getR h fX8_7 (Or.inl (mw2 11 rfl)) dX8_allHome_28 (fun v11 => ?_)
    refine k_iload_n h 3 dX8_allHome_31 rfl rfl ?_
    refine k_alR h rfl rfl dX8_allHome_32 (fun v12 => ?_)
    refine k_callVI (As := []) (st := []) (x0 := v12) (xg := fun a22 => mX1_downY a22 s10) h (fun a22 => ctX1_downY l B D cA sa a22  s10) calX1_downY rfl (by decide) (mw31 11 rfl) (mw31 12 rfl) (Or.inr ⟨_, nwm 44 rfl⟩) hgood ⟨rfl, rfl, Nat.le_of_ble_eq_true rfl, Nat.le_of_ble_eq_true rfl⟩ ⟨Nat.le_of_ble_eq_true rfl, Nat.le_of_ble_eq_true rfl⟩ rfl (Nat.le_of_ble_eq_true rfl) dX8_allHome_33 (fun v13 s14 => ?_)
    refine k_i2l h dX8_allHome_36 ?_
    refine k_lstore (lv' := [(5, LL (Int32.toInt64 v13)), (3, LL (Int32.toInt64 (v5 + v9))), (0, LR (some a0)), (1, LR p1), (2, LI q1)]) h dX8_allHome_37 (by decide) rfl ?_
    refine k_lload_n h 1 dX8_allHome_39 rfl rfl ?_
    refine k_lload_n h 1 dX8_allHome_40 rfl rfl ?_
    refine k_lmul h dX8_allHome_41 ?_
    refine k_lload h 0 dX8_allHome_42 rfl ?_
    refine k_lload h 0 dX8_allHome_44 rfl ?_
    refine k_lmul h dX8_allHome_46 ?_
    refine k_ladd h dX8_allHome_47 ?_
    refine k_aload_n h 2 dX8_allHome_48 rfl rfl ?_
    refine k_aload_n h 3 dX8_allHome_49 rfl rfl ?_
    refine k_getR h fX5_0 (Or.inr ⟨_, nwf 23 rfl⟩) dX8_allHome_50 (fun v15 => ?_)
    refine k_iload_n h 4 dX8_allHome_53 rfl rfl ?_
    refine k_alR h rfl rfl dX8_allHome_54 (fun v16 => ?_)
    refine k_aload_n h 2 dX8_allHome_55 rfl rfl ?_
    refine k_getR h fX8_7 (Or.inl (mw2 11 rfl)) dX8_allHome_56 (fun v17 => ?_)
    refine k_iload_n h 4 dX8_allHome_59 rfl rfl ?_
    refine k_alR h rfl rfl dX8_allHome_60 (fun v18 => ?_)
    refine k_callVL (As := [LR v16, LR v18]) (st := [LL (((Int32.toInt64 (v5 + v9)) * (Int32.toInt64 (v5 + v9))) + ((Int32.toInt64 v13) * (Int32.toInt64 v13)))]) (x0 := (some a0)) (xg := fun a21 => mX8_reachSquare a21 v16 v18 s14) h (fun a21 => ctX8_reachSquare l B D cA sa a21 v16 v18 s14) calX8_reachSquare rfl (by decide) (mw31 15 rfl) (mw31 16 rfl) (Or.inl (mw31 14 rfl)) hgood ⟨rfl, rfl, Nat.le_of_ble_eq_true rfl, Nat.le_of_ble_eq_true rfl⟩ ⟨Nat.le_of_ble_eq_true rfl, Nat.le_of_ble_eq_true rfl⟩ rfl (Nat.le_of_ble_eq_true rfl) dX8_allHome_61 (fun v19 s20 => ?_)
    refine k_lcmp h dX8_allHome_64 ?_
    refine k_if_le (tgt := 70) h dX8_allHome_65 (by decide) ?_ ?_
    · refine k_iinc (w := (q1 + 1)) (lv' := [(2, LI (q1 + 1)), (5, LL (Int32.toInt64 v13)), (3, LL (Int32.toInt64 (v5 + v9))), (0, LR (some a0)), (1, LR p1)]) h 4 dX8_allHome_70 rfl rfl (by decide) rfl ?_
      refine k_goto (tgt := 2) h dX8_allHome_73 (by decide) ?_
      refine k_sub (lv' := [(0, LR (some a0)), (1, LR p1), (2, LI (q1 + 1))]) h [3, 4, 0] rfl ?_
      exact hr3 (q1 + 1) s20
    · refine k_iconst (v := 0) h dX8_allHome_68 (by decide) ?_
      exact k_zret h rfl dX8_allHome_69 (Nat.le_of_ble_eq_true rfl) (Nat.le_of_ble_eq_true rfl)
def mX8_whyByFall (a0 : Nat) (p1 : Option Nat) (s0 : Sg) : Option (Int32 × Sg) :=
cv s0 8 (some a0) fun a15 => cl (mX8_isTooWindy a15 p1 s0) fun v1 s2 =>
if v1 = 0 then (
cv s2 8 (some a0) fun a14 => cl (mX8_ranksAllow a14 p1 s2) fun v3 s4 =>
if ¬ v3 = 0 then (
cv s4 8 (some a0) fun a13 => cl (mX8_followAll a13 p1 s4) fun u5 s6 =>
cv s6 8 (some a0) fun a12 => cl (mX8_allFree a12 p1 s6) fun v7 s8 =>
if ¬ v7 = 0 then (
cv s8 8 (some a0) fun a11 => cl (mX8_allHome a11 p1 s8) fun v9 s10 =>
if v9 = 0 then (
some (11, s10))
else (
some (0, s10)))
else (
some (10, s8)))
else (
some (9, s4)))
else (
some (8, s2))
def rmX8_whyByFall : Room := { frames := 4, cells := 0, slots := 0, locals := 119 }
theorem calX8_whyByFall : Cal yX8_whyByFall cX8_whyByFall 2 (some .int) 1 := ⟨(mw34 11 rfl), (mw1 2 rfl), by decide, by decide, by decide +kernel⟩
set_option maxHeartbeats 4000000 in
set_option maxRecDepth 100000 in
theorem ctX8_whyByFall (l : Launch) (B : Nat) (D : va_G) (cA : Nat → ClassId) (sa : Nat → Nat) (a0 : Nat) (p1 : Option Nat) (s0 : Sg) : Ct l B D cA sa yX8_whyByFall cX8_whyByFall 2 (some .int) rmX8_whyByFall rI [LR (some a0), LR p1] s0 0 0 (mX8_whyByFall a0 p1 s0) := by
  refine Ct.of (own := RX8) (by decide) rfl _ (Nat.le_of_ble_eq_true rfl) rfl ?_
  intro p e s m args below meth c h hi
  unfold mX8_whyByFall
  refine k_aload_n h 0 dX8_whyByFall_0 rfl rfl ?_
  refine k_aload_n h 1 dX8_whyByFall_1 rfl rfl ?_
  refine k_callVI (As := [LR p1]) (st := []) (x0 := (some a0)) (xg := fun a15 => mX8_isTooWindy a15 p1 s0) h (fun a15 => ctX8_isTooWindy l B D cA sa a15 p1 s0) calX8_isTooWindy rfl (by decide) (mw34 13 rfl) (mw34 14 rfl) (Or.inl (mw34 12 rfl)) hgood ⟨rfl, rfl, Nat.le_of_ble_eq_true rfl, Nat.le_of_ble_eq_true rfl⟩ ⟨Nat.le_of_ble_eq_true rfl, Nat.le_of_ble_eq_true rfl⟩ rfl (Nat.le_of_ble_eq_true rfl) dX8_whyByFall_2 (fun v1 s2 => ?_)
  refine k_if_eq (tgt := 11) h dX8_whyByFall_5 (by decide) ?_ ?_
  · refine k_aload_n h 0 dX8_whyByFall_11 rfl rfl ?_
    refine k_aload_n h 1 dX8_whyByFall_12 rfl rfl ?_
    refine k_callVI (As := [LR p1]) (st := []) (x0 := (some a0)) (xg := fun a14 => mX8_ranksAllow a14 p1 s2) h (fun a14 => ctX8_ranksAllow l B D cA sa a14 p1 s2) calX8_ranksAllow rfl (by decide) (mw34 20 rfl) (mw34 21 rfl) (Or.inl (mw34 19 rfl)) hgood ⟨rfl, rfl, Nat.le_of_ble_eq_true rfl, Nat.le_of_ble_eq_true rfl⟩ ⟨Nat.le_of_ble_eq_true rfl, Nat.le_of_ble_eq_true rfl⟩ rfl (Nat.le_of_ble_eq_true rfl) dX8_whyByFall_13 (fun v3 s4 => ?_)
    refine k_if_ne (tgt := 22) h dX8_whyByFall_16 (by decide) ?_ ?_
    · refine k_aload_n h 0 dX8_whyByFall_22 rfl rfl ?_
      refine k_aload_n h 1 dX8_whyByFall_23 rfl rfl ?_
      refine k_callVU (As := [LR p1]) (st := []) (x0 := (some a0)) (xg := fun a13 => mX8_followAll a13 p1 s4) h (fun a13 => ctX8_followAll l B D cA sa a13 p1 s4) calX8_followAll rfl (by decide) (mw28 14 rfl) (mw28 15 rfl) (Or.inl (mw28 13 rfl)) hgood ⟨rfl, rfl, Nat.le_of_ble_eq_true rfl, Nat.le_of_ble_eq_true rfl⟩ ⟨Nat.le_of_ble_eq_true rfl, Nat.le_of_ble_eq_true rfl⟩ rfl (Nat.le_of_ble_eq_true rfl) dX8_whyByFall_24 (fun u5 s6 => ?_)
      refine k_aload_n h 0 dX8_whyByFall_27 rfl rfl ?_
      refine k_aload_n h 1 dX8_whyByFall_28 rfl rfl ?_
      refine k_callVI (As := [LR p1]) (st := []) (x0 := (some a0)) (xg := fun a12 => mX8_allFree a12 p1 s6) h (fun a12 => ctX8_allFree l B D cA sa a12 p1 s6) calX8_allFree rfl (by decide) (mw35 0 rfl) (mw35 1 rfl) (Or.inl (mw34 23 rfl)) hgood ⟨rfl, rfl, Nat.le_of_ble_eq_true rfl, Nat.le_of_ble_eq_true rfl⟩ ⟨Nat.le_of_ble_eq_true rfl, Nat.le_of_ble_eq_true rfl⟩ rfl (Nat.le_of_ble_eq_true rfl) dX8_whyByFall_29 (fun v7 s8 => ?_)
      refine k_if_ne (tgt := 38) h dX8_whyByFall_32 (by decide) ?_ ?_
      · refine k_aload_n h 0 dX8_whyByFall_38 rfl rfl ?_
        refine k_aload_n h 1 dX8_whyByFall_39 rfl rfl ?_
        refine k_callVI (As := [LR p1]) (st := []) (x0 := (some a0)) (xg := fun a11 => mX8_allHome a11 p1 s8) h (fun a11 => ctX8_allHome l B D cA sa a11 p1 s8) calX8_allHome rfl (by decide) (mw35 4 rfl) (mw35 5 rfl) (Or.inl (mw35 3 rfl)) hgood ⟨rfl, rfl, Nat.le_of_ble_eq_true rfl, Nat.le_of_ble_eq_true rfl⟩ ⟨Nat.le_of_ble_eq_true rfl, Nat.le_of_ble_eq_true rfl⟩ rfl (Nat.le_of_ble_eq_true rfl) dX8_whyByFall_40 (fun v9 s10 => ?_)
        refine k_if_eq (tgt := 50) h dX8_whyByFall_43 (by decide) ?_ ?_
        · refine k_bipush (v := 11) h dX8_whyByFall_50 (by decide) ?_
          exact k_iret h rfl dX8_whyByFall_52 (Nat.le_of_ble_eq_true rfl) (Nat.le_of_ble_eq_true rfl)
        · refine k_iconst (v := 0) h dX8_whyByFall_46 (by decide) ?_
          refine k_goto (tgt := 52) h dX8_whyByFall_47 (by decide) ?_
          exact k_iret h rfl dX8_whyByFall_52 (Nat.le_of_ble_eq_true rfl) (Nat.le_of_ble_eq_true rfl)
      · refine k_bipush (v := 10) h dX8_whyByFall_35 (by decide) ?_
        exact k_iret h rfl dX8_whyByFall_37 (Nat.le_of_ble_eq_true rfl) (Nat.le_of_ble_eq_true rfl)
    · refine k_bipush (v := 9) h dX8_whyByFall_19 (by decide) ?_
      exact k_iret h rfl dX8_whyByFall_21 (Nat.le_of_ble_eq_true rfl) (Nat.le_of_ble_eq_true rfl)
  · refine k_bipush (v := 8) h dX8_whyByFall_8 (by decide) ?_
    exact k_iret h rfl dX8_whyByFall_10 (Nat.le_of_ble_eq_true rfl) (Nat.le_of_ble_eq_true rfl)
def mX8_why (a0 : Nat) (p1 : Int32) (p2 : Int32) (s0 : Sg) : Option (Int32 × Sg) :=
cv s0 8 (some a0) fun a31 => cl (mX8_loadAt a31 p1 s0) fun v1 s2 =>
if v1 = none then (
some ((-1), s2))
else (
cl (mX8_within p2 0 1000 s2) fun v3 s4 =>
if ¬ v3 = 0 then (
gdI s4 5 8 v1 fun v5 =>
if v5 = 0 then (
cv s4 5 v1 fun a30 => cl (mX5_lacksJumpers a30 s4) fun v6 s7 =>
if v6 = 0 then (
cv s7 5 v1 fun a29 => cl (mX5_jumperCount a29 s7) fun v8 s9 =>
gdR s9 5 4 v1 fun v10 =>
gdI s9 6 1 v10 fun v11 =>
if v8 ≤ v11 then (
cv s9 5 v1 fun a28 => cl (mX5_weight a28 s9) fun v12 s13 =>
gdR s13 5 4 v1 fun v14 =>
gdI s13 6 2 v14 fun v15 =>
if v12 ≤ v15 then (
cv s13 5 v1 fun a27 => cl (mX5_isWornOn a27 p2 s13) fun v16 s17 =>
if v16 = 0 then (
cv s17 5 v1 fun a26 => cl (mX5_holdsOneTwice a26 s17) fun v18 s19 =>
if v18 = 0 then (
cv s19 5 v1 fun a25 => cl (mX5_lacksHelp a25 s19) fun v20 s21 =>
if v20 = 0 then (
cv s21 8 (some a0) fun a24 => cl (mX8_whyByFall a24 v1 s21) fun v22 s23 =>
some (v22, s23))
else (
some (7, s21)))
else (
some (6, s19)))
else (
some (5, s17)))
else (
some (4, s13)))
else (
some (3, s9)))
else (
some (2, s7)))
else (
some (1, s4)))
else (
some ((-1), s4)))
def rmX8_why : Room := { frames := 5, cells := 0, slots := 0, locals := 140 }
theorem calX8_why : Cal yX8_why cX8_why 4 (some .int) 2 := ⟨(mw32 23 rfl), (mw1 2 rfl), by decide, by decide, by decide +kernel⟩
set_option maxHeartbeats 4000000 in
set_option maxRecDepth 100000 in
theorem ctX8_why (l : Launch) (B : Nat) (D : va_G) (cA : Nat → ClassId) (sa : Nat → Nat) (a0 : Nat) (p1 : Int32) (p2 : Int32) (s0 : Sg) : Ct l B D cA sa yX8_why cX8_why 4 (some .int) rmX8_why rI [LR (some a0), LI p1, LI p2] s0 0 0 (mX8_why a0 p1 p2 s0) := by
  refine Ct.of (own := RX8) (by decide) rfl _ (Nat.le_of_ble_eq_true rfl) rfl ?_
  intro p e s m args below meth c h hi
  unfold mX8_why
  refine k_aload_n h 0 dX8_why_0 rfl rfl ?_
  refine k_iload_n h 1 dX8_why_1 rfl rfl ?_
  refine k_callVR (As := [LI p1]) (st := []) (x0 := (some a0)) (xg := fun a31 => mX8_loadAt a31 p1 s0) h (fun a31 => ctX8_loadAt l B D cA sa a31 p1 s0) calX8_loadAt rfl (by decide) (mw20 3 rfl) (mw20 4 rfl) (Or.inl (mw20 2 rfl)) hgood ⟨rfl, rfl, Nat.le_of_ble_eq_true rfl, Nat.le_of_ble_eq_true rfl⟩ ⟨Nat.le_of_ble_eq_true rfl, Nat.le_of_ble_eq_true rfl⟩ rfl (Nat.le_of_ble_eq_true rfl) dX8_why_2 (fun v1 s2 => ?_)
  refine k_astore_n (lv' := [(3, LR v1), (0, LR (some a0)), (1, LI p1), (2, LI p2)]) h dX8_why_5 rfl (by decide) rfl ?_
  refine k_aload_n h 0 dX8_why_6 rfl rfl ?_
  refine k_ifnull (tgt := 21) h dX8_why_7 (by decide) ?_ ?_
  · refine k_iconst (v := (-1)) h dX8_why_21 (by decide) ?_
    exact k_iret h rfl dX8_why_22 (Nat.le_of_ble_eq_true rfl) (Nat.le_of_ble_eq_true rfl)
  · refine k_iload_n h 3 dX8_why_10 rfl rfl ?_
    refine k_iconst (v := 0) h dX8_why_11 (by decide) ?_
    refine k_sipush (v := 1000) h dX8_why_12 (by decide) ?_
    refine k_callSI (As := [LI p2, LI 0, LI 1000]) (st := []) h (ctX8_within l B D cA sa p2 0 1000 s2) calX8_within (mw9 8 rfl) (Or.inl (mw9 7 rfl)) hgood ⟨rfl, rfl, Nat.le_of_ble_eq_true rfl, Nat.le_of_ble_eq_true rfl⟩ ⟨Nat.le_of_ble_eq_true rfl, Nat.le_of_ble_eq_true rfl⟩ rfl (Nat.le_of_ble_eq_true rfl) dX8_why_15 (fun v3 s4 => ?_)
    refine k_if_ne (tgt := 23) h dX8_why_18 (by decide) ?_ ?_
    · refine k_aload_n h 0 dX8_why_23 rfl rfl ?_
      refine k_getI h fX5_8 (Or.inr ⟨_, nwf 31 rfl⟩) dX8_why_24 (fun v5 => ?_)
      refine k_if_eq (tgt := 32) h dX8_why_27 (by decide) ?_ ?_
      · refine k_aload_n h 0 dX8_why_32 rfl rfl ?_
        refine k_callVI (As := []) (st := []) (x0 := v1) (xg := fun a30 => mX5_lacksJumpers a30 s4) h (fun a30 => ctX5_lacksJumpers l B D cA sa a30  s4) calX5_lacksJumpers rfl (by decide) (mw33 0 rfl) (mw33 1 rfl) (Or.inr ⟨_, nwm 47 rfl⟩) hgood ⟨rfl, rfl, Nat.le_of_ble_eq_true rfl, Nat.le_of_ble_eq_true rfl⟩ ⟨Nat.le_of_ble_eq_true rfl, Nat.le_of_ble_eq_true rfl⟩ rfl (Nat.le_of_ble_eq_true rfl) dX8_why_33 (fun v6 s7 => ?_)
        refine k_if_eq (tgt := 41) h dX8_why_36 (by decide) ?_ ?_
        · refine k_aload_n h 0 dX8_why_41 rfl rfl ?_
          refine k_callVI (As := []) (st := []) (x0 := v1) (xg := fun a29 => mX5_jumperCount a29 s7) h (fun a29 => ctX5_jumperCount l B D cA sa a29  s7) calX5_jumperCount rfl (by decide) (mw33 3 rfl) (mw33 4 rfl) (Or.inr ⟨_, nwm 48 rfl⟩) hgood ⟨rfl, rfl, Nat.le_of_ble_eq_true rfl, Nat.le_of_ble_eq_true rfl⟩ ⟨Nat.le_of_ble_eq_true rfl, Nat.le_of_ble_eq_true rfl⟩ rfl (Nat.le_of_ble_eq_true rfl) dX8_why_42 (fun v8 s9 => ?_)
          refine k_aload_n h 0 dX8_why_45 rfl rfl ?_
          refine k_getR h fX5_4 (Or.inr ⟨_, nwf 26 rfl⟩) dX8_why_46 (fun v10 => ?_)
          refine k_getI h fX6_1 (Or.inr ⟨_, nwf 16 rfl⟩) dX8_why_49 (fun v11 => ?_)
          refine k_icmp_le (tgt := 57) h dX8_why_52 (by decide) ?_ ?_
          · refine k_aload_n h 0 dX8_why_57 rfl rfl ?_
            refine k_callVI (As := []) (st := []) (x0 := v1) (xg := fun a28 => mX5_weight a28 s9) h (fun a28 => ctX5_weight l B D cA sa a28  s9) calX5_weight rfl (by decide) (mw33 6 rfl) (mw33 7 rfl) (Or.inr ⟨_, nwm 49 rfl⟩) hgood ⟨rfl, rfl, Nat.le_of_ble_eq_true rfl, Nat.le_of_ble_eq_true rfl⟩ ⟨Nat.le_of_ble_eq_true rfl, Nat.le_of_ble_eq_true rfl⟩ rfl (Nat.le_of_ble_eq_true rfl) dX8_why_58 (fun v12 s13 => ?_)
            refine k_aload_n h 0 dX8_why_61 rfl rfl ?_
            refine k_getR h fX5_4 (Or.inr ⟨_, nwf 26 rfl⟩) dX8_why_62 (fun v14 => ?_)
            refine k_getI h fX6_2 (Or.inr ⟨_, nwf 17 rfl⟩) dX8_why_65 (fun v15 => ?_)
            refine k_icmp_le (tgt := 73) h dX8_why_68 (by decide) ?_ ?_
            · refine k_aload_n h 0 dX8_why_73 rfl rfl ?_
              refine k_iload_n h 3 dX8_why_74 rfl rfl ?_
              refine k_callVI (As := [LI p2]) (st := []) (x0 := v1) (xg := fun a27 => mX5_isWornOn a27 p2 s13) h (fun a27 => ctX5_isWornOn l B D cA sa a27 p2 s13) calX5_isWornOn rfl (by decide) (mw33 9 rfl) (mw33 10 rfl) (Or.inr ⟨_, nwm 51 rfl⟩) hgood ⟨rfl, rfl, Nat.le_of_ble_eq_true rfl, Nat.le_of_ble_eq_true rfl⟩ ⟨Nat.le_of_ble_eq_true rfl, Nat.le_of_ble_eq_true rfl⟩ rfl (Nat.le_of_ble_eq_true rfl) dX8_why_75 (fun v16 s17 => ?_)
              refine k_if_eq (tgt := 83) h dX8_why_78 (by decide) ?_ ?_
              · refine k_aload_n h 0 dX8_why_83 rfl rfl ?_
                refine k_callVI (As := []) (st := []) (x0 := v1) (xg := fun a26 => mX5_holdsOneTwice a26 s17) h (fun a26 => ctX5_holdsOneTwice l B D cA sa a26  s17) calX5_holdsOneTwice rfl (by decide) (mw33 15 rfl) (mw33 16 rfl) (Or.inr ⟨_, nwm 53 rfl⟩) hgood ⟨rfl, rfl, Nat.le_of_ble_eq_true rfl, Nat.le_of_ble_eq_true rfl⟩ ⟨Nat.le_of_ble_eq_true rfl, Nat.le_of_ble_eq_true rfl⟩ rfl (Nat.le_of_ble_eq_true rfl) dX8_why_84 (fun v18 s19 => ?_)
                refine k_if_eq (tgt := 93) h dX8_why_87 (by decide) ?_ ?_
                · refine k_aload_n h 0 dX8_why_93 rfl rfl ?_
                  refine k_callVI (As := []) (st := []) (x0 := v1) (xg := fun a25 => mX5_lacksHelp a25 s19) h (fun a25 => ctX5_lacksHelp l B D cA sa a25  s19) calX5_lacksHelp rfl (by decide) (mw33 22 rfl) (mw33 23 rfl) (Or.inr ⟨_, nwm 55 rfl⟩) hgood ⟨rfl, rfl, Nat.le_of_ble_eq_true rfl, Nat.le_of_ble_eq_true rfl⟩ ⟨Nat.le_of_ble_eq_true rfl, Nat.le_of_ble_eq_true rfl⟩ rfl (Nat.le_of_ble_eq_true rfl) dX8_why_94 (fun v20 s21 => ?_)
                  refine k_if_eq (tgt := 103) h dX8_why_97 (by decide) ?_ ?_
                  · refine k_aload_n h 1 dX8_why_103 rfl rfl ?_
                    refine k_aload_n h 0 dX8_why_104 rfl rfl ?_
                    refine k_callVI (As := [LR v1]) (st := []) (x0 := (some a0)) (xg := fun a24 => mX8_whyByFall a24 v1 s21) h (fun a24 => ctX8_whyByFall l B D cA sa a24 v1 s21) calX8_whyByFall rfl (by decide) (mw34 9 rfl) (mw34 10 rfl) (Or.inl (mw34 8 rfl)) hgood ⟨rfl, rfl, Nat.le_of_ble_eq_true rfl, Nat.le_of_ble_eq_true rfl⟩ ⟨Nat.le_of_ble_eq_true rfl, Nat.le_of_ble_eq_true rfl⟩ rfl (Nat.le_of_ble_eq_true rfl) dX8_why_105 (fun v22 s23 => ?_)
                    exact k_iret h rfl dX8_why_108 (Nat.le_of_ble_eq_true rfl) (Nat.le_of_ble_eq_true rfl)
                  · refine k_bipush (v := 7) h dX8_why_100 (by decide) ?_
                    exact k_iret h rfl dX8_why_102 (Nat.le_of_ble_eq_true rfl) (Nat.le_of_ble_eq_true rfl)
                · refine k_bipush (v := 6) h dX8_why_90 (by decide) ?_
                  exact k_iret h rfl dX8_why_92 (Nat.le_of_ble_eq_true rfl) (Nat.le_of_ble_eq_true rfl)
              · refine k_iconst (v := 5) h dX8_why_81 (by decide) ?_
                exact k_iret h rfl dX8_why_82 (Nat.le_of_ble_eq_true rfl) (Nat.le_of_ble_eq_true rfl)
            · refine k_iconst (v := 4) h dX8_why_71 (by decide) ?_
              exact k_iret h rfl dX8_why_72 (Nat.le_of_ble_eq_true rfl) (Nat.le_of_ble_eq_true rfl)
          · refine k_iconst (v := 3) h dX8_why_55 (by decide) ?_
            exact k_iret h rfl dX8_why_56 (Nat.le_of_ble_eq_true rfl) (Nat.le_of_ble_eq_true rfl)
        · refine k_iconst (v := 2) h dX8_why_39 (by decide) ?_
          exact k_iret h rfl dX8_why_40 (Nat.le_of_ble_eq_true rfl) (Nat.le_of_ble_eq_true rfl)
      · refine k_iconst (v := 1) h dX8_why_30 (by decide) ?_
        exact k_iret h rfl dX8_why_31 (Nat.le_of_ble_eq_true rfl) (Nat.le_of_ble_eq_true rfl)
    · refine k_iconst (v := (-1)) h dX8_why_21 (by decide) ?_
      exact k_iret h rfl dX8_why_22 (Nat.le_of_ble_eq_true rfl) (Nat.le_of_ble_eq_true rfl)
def mX8_leave (a0 : Nat) (p1 : Int32) (p2 : Int32) (s0 : Sg) : Option (Int32 × Sg) :=
cv s0 8 (some a0) fun a12 => cl (mX8_why a12 p1 p2 s0) fun v1 s2 =>
if ¬ v1 = (-1) then (
cv s2 8 (some a0) fun a11 => cl (mX8_loadAt a11 p1 s2) fun v3 s4 =>
if ¬ v1 = 0 then (
some ((-6), s4))
else (
if v3 = none then (
some ((-6), s4))
else (
cv s4 5 v3 fun a10 => cl (mX5_goUp a10 s4) fun u5 s6 =>
cv s6 5 v3 fun a9 => cl (mX5_jumperCount a9 s6) fun v7 s8 =>
some (v7, s8))))
else (
some ((-1), s2))
def rmX8_leave : Room := { frames := 6, cells := 0, slots := 0, locals := 163 }
theorem calX8_leave : Cal yX8_leave cX8_leave 5 (some .int) 2 := ⟨(mw37 14 rfl), (mw1 2 rfl), by decide, by decide, by decide +kernel⟩
set_option maxHeartbeats 4000000 in
set_option maxRecDepth 100000 in
theorem ctX8_leave (l : Launch) (B : Nat) (D : va_G) (cA : Nat → ClassId) (sa : Nat → Nat) (a0 : Nat) (p1 : Int32) (p2 : Int32) (s0 : Sg) : Ct l B D cA sa yX8_leave cX8_leave 5 (some .int) rmX8_leave rI [LR (some a0), LI p1, LI p2] s0 0 0 (mX8_leave a0 p1 p2 s0) := by
  refine Ct.of (own := RX8) (by decide) rfl _ (Nat.le_of_ble_eq_true rfl) rfl ?_
  intro p e s m args below meth c h hi
  unfold mX8_leave
  refine k_aload_n h 0 dX8_leave_0 rfl rfl ?_
  refine k_iload_n h 1 dX8_leave_1 rfl rfl ?_
  refine k_iload_n h 2 dX8_leave_2 rfl rfl ?_
  refine k_callVI (As := [LI p1, LI p2]) (st := []) (x0 := (some a0)) (xg := fun a12 => mX8_why a12 p1 p2 s0) h (fun a12 => ctX8_why l B D cA sa a12 p1 p2 s0) calX8_why rfl (by decide) (mw32 21 rfl) (mw32 22 rfl) (Or.inl (mw37 15 rfl)) hgood ⟨rfl, rfl, Nat.le_of_ble_eq_true rfl, Nat.le_of_ble_eq_true rfl⟩ ⟨Nat.le_of_ble_eq_true rfl, Nat.le_of_ble_eq_true rfl⟩ rfl (Nat.le_of_ble_eq_true rfl) dX8_leave_3 (fun v1 s2 => ?_)
  refine k_istore_n (lv' := [(3, LI v1), (0, LR (some a0)), (1, LI p1), (2, LI p2)]) h dX8_leave_6 rfl (by decide) rfl ?_
  refine k_iload_n h 0 dX8_leave_7 rfl rfl ?_
  refine k_iconst (v := (-1)) h dX8_leave_8 (by decide) ?_
  refine k_icmp_ne (tgt := 14) h dX8_leave_9 (by decide) ?_ ?_
  · refine k_aload_n h 1 dX8_leave_14 rfl rfl ?_
    refine k_iload_n h 2 dX8_leave_15 rfl rfl ?_
    refine k_callVR (As := [LI p1]) (st := []) (x0 := (some a0)) (xg := fun a11 => mX8_loadAt a11 p1 s2) h (fun a11 => ctX8_loadAt l B D cA sa a11 p1 s2) calX8_loadAt rfl (by decide) (mw20 3 rfl) (mw20 4 rfl) (Or.inl (mw20 2 rfl)) hgood ⟨rfl, rfl, Nat.le_of_ble_eq_true rfl, Nat.le_of_ble_eq_true rfl⟩ ⟨Nat.le_of_ble_eq_true rfl, Nat.le_of_ble_eq_true rfl⟩ rfl (Nat.le_of_ble_eq_true rfl) dX8_leave_16 (fun v3 s4 => ?_)
    refine k_astore (lv' := [(4, LR v3), (3, LI v1), (0, LR (some a0)), (1, LI p1), (2, LI p2)]) h dX8_leave_19 (by decide) rfl ?_
    refine k_iload_n h 1 dX8_leave_21 rfl rfl ?_
    refine k_if_ne (tgt := 30) h dX8_leave_22 (by decide) ?_ ?_
    · refine k_bipush (v := (-6)) h dX8_leave_30 (by decide) ?_
      exact k_iret h rfl dX8_leave_32 (Nat.le_of_ble_eq_true rfl) (Nat.le_of_ble_eq_true rfl)
    · refine k_aload h 0 dX8_leave_25 rfl ?_
      refine k_ifnonnull (tgt := 33) h dX8_leave_27 (by decide) ?_ ?_
      · refine k_aload h 0 dX8_leave_33 rfl ?_
        refine k_callVU (As := []) (st := []) (x0 := v3) (xg := fun a10 => mX5_goUp a10 s4) h (fun a10 => ctX5_goUp l B D cA sa a10  s4) calX5_goUp rfl (by decide) (mw37 16 rfl) (mw37 17 rfl) (Or.inr ⟨_, nwm 58 rfl⟩) hgood ⟨rfl, rfl, Nat.le_of_ble_eq_true rfl, Nat.le_of_ble_eq_true rfl⟩ ⟨Nat.le_of_ble_eq_true rfl, Nat.le_of_ble_eq_true rfl⟩ rfl (Nat.le_of_ble_eq_true rfl) dX8_leave_35 (fun u5 s6 => ?_)
        refine k_aload h 0 dX8_leave_38 rfl ?_
        refine k_callVI (As := []) (st := []) (x0 := v3) (xg := fun a9 => mX5_jumperCount a9 s6) h (fun a9 => ctX5_jumperCount l B D cA sa a9  s6) calX5_jumperCount rfl (by decide) (mw33 3 rfl) (mw33 4 rfl) (Or.inr ⟨_, nwm 48 rfl⟩) hgood ⟨rfl, rfl, Nat.le_of_ble_eq_true rfl, Nat.le_of_ble_eq_true rfl⟩ ⟨Nat.le_of_ble_eq_true rfl, Nat.le_of_ble_eq_true rfl⟩ rfl (Nat.le_of_ble_eq_true rfl) dX8_leave_40 (fun v7 s8 => ?_)
        exact k_iret h rfl dX8_leave_43 (Nat.le_of_ble_eq_true rfl) (Nat.le_of_ble_eq_true rfl)
      · refine k_bipush (v := (-6)) h dX8_leave_30 (by decide) ?_
        exact k_iret h rfl dX8_leave_32 (Nat.le_of_ble_eq_true rfl) (Nat.le_of_ble_eq_true rfl)
  · refine k_iconst (v := (-1)) h dX8_leave_12 (by decide) ?_
    exact k_iret h rfl dX8_leave_13 (Nat.le_of_ble_eq_true rfl) (Nat.le_of_ble_eq_true rfl)
def mX8_leftCount_b4 (a0 : Nat) (r3 : (Int32 × Int32) → Sg → Option (Int32 × Sg)) (q1 : Int32 × Int32) (s2 : Sg) : Option (Int32 × Sg) :=
gdI s2 8 10 (some a0) fun v4 =>
if v4 ≤ q1.2 then (
some (q1.1, s2))
else (
gdR s2 8 5 (some a0) fun v5 =>
alR s2 5 v5 q1.2 fun v6 =>
gdI s2 5 8 v6 fun v7 =>
if v7 = 0 then (
r3 (q1.1, (q1.2 + 1)) s2)
else (
r3 ((q1.1 + 1), (q1.2 + 1)) s2))
def mX8_leftCount (a0 : Nat) (s0 : Sg) : Option (Int32 × Sg) :=
lp (mX8_leftCount_b4 a0) FU (0, 0) s0
def rmX8_leftCount : Room := { frames := 0, cells := 0, slots := 0, locals := 0 }
theorem calX8_leftCount : Cal yX8_leftCount cX8_leftCount 3 (some .int) 0 := ⟨(mw38 14 rfl), (mw1 2 rfl), by decide, by decide, by decide +kernel⟩
set_option maxHeartbeats 4000000 in
set_option maxRecDepth 100000 in
theorem ctX8_leftCount (l : Launch) (B : Nat) (D : va_G) (cA : Nat → ClassId) (sa : Nat → Nat) (a0 : Nat) (s0 : Sg) : Ct l B D cA sa yX8_leftCount cX8_leftCount 3 (some .int) rmX8_leftCount rI [LR (some a0)] s0 0 0 (mX8_leftCount a0 s0) := by
  refine Ct.of (own := RX8) (by decide) rfl _ (Nat.le_of_ble_eq_true rfl) rfl ?_
  intro p e s m args below meth c h hi
  unfold mX8_leftCount
  refine k_iconst (v := 0) h dX8_leftCount_0 (by decide) ?_
  refine k_istore_n (lv' := [(1, LI 0), (0, LR (some a0))]) h dX8_leftCount_1 rfl (by decide) rfl ?_
  refine k_iconst (v := 0) h dX8_leftCount_2 (by decide) ?_
  refine k_istore_n (lv' := [(2, LI 0), (1, LI 0), (0, LR (some a0))]) h dX8_leftCount_3 rfl (by decide) rfl ?_
  refine k_sub (lv' := [(0, LR (some a0)), (1, LI 0), (2, LI 0)]) h [2, 1, 0] rfl ?_
  refine k_lp (A := Int32 × Int32) (fun q1 => [(0, LR (some a0)), (1, LI q1.1), (2, LI q1.2)]) (fun q1 => []) (fun r3 hr3 q1 s2 => ?_) FU (0, 0) s0
  unfold mX8_leftCount_b4
  refine k_iload_n h 2 dX8_leftCount_4 rfl rfl ?_
  refine k_aload_n h 0 dX8_leftCount_5 rfl rfl ?_
  refine k_getI h fX8_10 (Or.inl (mw2 17 rfl)) dX8_leftCount_6 (fun v4 => ?_)
  refine k_icmp_ge (tgt := 33) h dX8_leftCount_9 (by decide) ?_ ?_
  · refine k_iload_n h 1 dX8_leftCount_33 rfl rfl ?_
    exact k_iret h rfl dX8_leftCount_34 (Nat.le_of_ble_eq_true rfl) (Nat.le_of_ble_eq_true rfl)
  · refine k_aload_n h 0 dX8_leftCount_12 rfl rfl ?_
    refine k_getR h fX8_5 (Or.inl (mw2 1 rfl)) dX8_leftCount_13 (fun v5 => ?_)
    refine k_iload_n h 2 dX8_leftCount_16 rfl rfl ?_
    refine k_alR h rfl rfl dX8_leftCount_17 (fun v6 => ?_)
    refine k_getI h fX5_8 (Or.inr ⟨_, nwf 31 rfl⟩) dX8_leftCount_18 (fun v7 => ?_)
    refine k_if_eq (tgt := 27) h dX8_leftCount_21 (by decide) ?_ ?_
    · refine k_iinc (w := (q1.2 + 1)) (lv' := [(2, LI (q1.2 + 1)), (0, LR (some a0)), (1, LI q1.1)]) h 2 dX8_leftCount_27 rfl rfl (by decide) rfl ?_
      refine k_goto (tgt := 4) h dX8_leftCount_30 (by decide) ?_
      refine k_sub (lv' := [(0, LR (some a0)), (1, LI q1.1), (2, LI (q1.2 + 1))]) h [1, 2, 0] rfl ?_
      exact hr3 (q1.1, (q1.2 + 1)) s2
    · refine k_iinc (w := (q1.1 + 1)) (lv' := [(1, LI (q1.1 + 1)), (0, LR (some a0)), (2, LI q1.2)]) h 1 dX8_leftCount_24 rfl rfl (by decide) rfl ?_
      refine k_iinc (w := (q1.2 + 1)) (lv' := [(2, LI (q1.2 + 1)), (1, LI (q1.1 + 1)), (0, LR (some a0))]) h 2 dX8_leftCount_27 rfl rfl (by decide) rfl ?_
      refine k_goto (tgt := 4) h dX8_leftCount_30 (by decide) ?_
      refine k_sub (lv' := [(0, LR (some a0)), (1, LI (q1.1 + 1)), (2, LI (q1.2 + 1))]) h [2, 1, 0] rfl ?_
      exact hr3 ((q1.1 + 1), (q1.2 + 1)) s2
def mX8_upCount_b4 (a0 : Nat) (r3 : (Int32 × Int32) → Sg → Option (Int32 × Sg)) (q1 : Int32 × Int32) (s2 : Sg) : Option (Int32 × Sg) :=
gdI s2 8 10 (some a0) fun v4 =>
if v4 ≤ q1.2 then (
some (q1.1, s2))
else (
gdR s2 8 5 (some a0) fun v5 =>
alR s2 5 v5 q1.2 fun v6 =>
gdI s2 5 8 v6 fun v7 =>
if v7 = 0 then (
r3 (q1.1, (q1.2 + 1)) s2)
else (
gdR s2 8 5 (some a0) fun v8 =>
alR s2 5 v8 q1.2 fun v9 =>
cv s2 5 v9 fun a12 => cl (mX5_jumperCount a12 s2) fun v10 s11 =>
r3 ((q1.1 + v10), (q1.2 + 1)) s11))
def mX8_upCount (a0 : Nat) (s0 : Sg) : Option (Int32 × Sg) :=
lp (mX8_upCount_b4 a0) FU (0, 0) s0
def rmX8_upCount : Room := { frames := 1, cells := 0, slots := 0, locals := 22 }
theorem calX8_upCount : Cal yX8_upCount cX8_upCount 3 (some .int) 0 := ⟨(mw38 18 rfl), (mw1 2 rfl), by decide, by decide, by decide +kernel⟩
set_option maxHeartbeats 4000000 in
set_option maxRecDepth 100000 in
theorem ctX8_upCount (l : Launch) (B : Nat) (D : va_G) (cA : Nat → ClassId) (sa : Nat → Nat) (a0 : Nat) (s0 : Sg) : Ct l B D cA sa yX8_upCount cX8_upCount 3 (some .int) rmX8_upCount rI [LR (some a0)] s0 0 0 (mX8_upCount a0 s0) := by
  refine Ct.of (own := RX8) (by decide) rfl _ (Nat.le_of_ble_eq_true rfl) rfl ?_
  intro p e s m args below meth c h hi
  unfold mX8_upCount
  refine k_iconst (v := 0) h dX8_upCount_0 (by decide) ?_
  refine k_istore_n (lv' := [(1, LI 0), (0, LR (some a0))]) h dX8_upCount_1 rfl (by decide) rfl ?_
  refine k_iconst (v := 0) h dX8_upCount_2 (by decide) ?_
  refine k_istore_n (lv' := [(2, LI 0), (1, LI 0), (0, LR (some a0))]) h dX8_upCount_3 rfl (by decide) rfl ?_
  refine k_sub (lv' := [(0, LR (some a0)), (1, LI 0), (2, LI 0)]) h [2, 1, 0] rfl ?_
  refine k_lp (A := Int32 × Int32) (fun q1 => [(0, LR (some a0)), (1, LI q1.1), (2, LI q1.2)]) (fun q1 => []) (fun r3 hr3 q1 s2 => ?_) FU (0, 0) s0
  unfold mX8_upCount_b4
  refine k_iload_n h 2 dX8_upCount_4 rfl rfl ?_
  refine k_aload_n h 0 dX8_upCount_5 rfl rfl ?_
  refine k_getI h fX8_10 (Or.inl (mw2 17 rfl)) dX8_upCount_6 (fun v4 => ?_)
  refine k_icmp_ge (tgt := 42) h dX8_upCount_9 (by decide) ?_ ?_
  · refine k_iload_n h 1 dX8_upCount_42 rfl rfl ?_
    exact k_iret h rfl dX8_upCount_43 (Nat.le_of_ble_eq_true rfl) (Nat.le_of_ble_eq_true rfl)
  · refine k_aload_n h 0 dX8_upCount_12 rfl rfl ?_
    refine k_getR h fX8_5 (Or.inl (mw2 1 rfl)) dX8_upCount_13 (fun v5 => ?_)
    refine k_iload_n h 2 dX8_upCount_16 rfl rfl ?_
    refine k_alR h rfl rfl dX8_upCount_17 (fun v6 => ?_)
    refine k_getI h fX5_8 (Or.inr ⟨_, nwf 31 rfl⟩) dX8_upCount_18 (fun v7 => ?_)
    refine k_if_eq (tgt := 36) h dX8_upCount_21 (by decide) ?_ ?_
    · refine k_iinc (w := (q1.2 + 1)) (lv' := [(2, LI (q1.2 + 1)), (0, LR (some a0)), (1, LI q1.1)]) h 2 dX8_upCount_36 rfl rfl (by decide) rfl ?_
      refine k_goto (tgt := 4) h dX8_upCount_39 (by decide) ?_
      refine k_sub (lv' := [(0, LR (some a0)), (1, LI q1.1), (2, LI (q1.2 + 1))]) h [1, 2, 0] rfl ?_
      exact hr3 (q1.1, (q1.2 + 1)) s2
    · refine k_iload_n h 1 dX8_upCount_24 rfl rfl ?_
      refine k_aload_n h 0 dX8_upCount_25 rfl rfl ?_
      refine k_getR h fX8_5 (Or.inl (mw2 1 rfl)) dX8_upCount_26 (fun v8 => ?_)
      refine k_iload_n h 2 dX8_upCount_29 rfl rfl ?_
      refine k_alR h rfl rfl dX8_upCount_30 (fun v9 => ?_)
      refine k_callVI (As := []) (st := [LI q1.1]) (x0 := v9) (xg := fun a12 => mX5_jumperCount a12 s2) h (fun a12 => ctX5_jumperCount l B D cA sa a12  s2) calX5_jumperCount rfl (by decide) (mw33 3 rfl) (mw33 4 rfl) (Or.inr ⟨_, nwm 48 rfl⟩) hgood ⟨rfl, rfl, Nat.le_of_ble_eq_true rfl, Nat.le_of_ble_eq_true rfl⟩ ⟨Nat.le_of_ble_eq_true rfl, Nat.le_of_ble_eq_true rfl⟩ rfl (Nat.le_of_ble_eq_true rfl) dX8_upCount_31 (fun v10 s11 => ?_)
      refine k_iadd h dX8_upCount_34 ?_
      refine k_istore_n (lv' := [(1, LI (q1.1 + v10)), (0, LR (some a0)), (2, LI q1.2)]) h dX8_upCount_35 rfl (by decide) rfl ?_
      refine k_iinc (w := (q1.2 + 1)) (lv' := [(2, LI (q1.2 + 1)), (1, LI (q1.1 + v10)), (0, LR (some a0))]) h 2 dX8_upCount_36 rfl rfl (by decide) rfl ?_
      refine k_goto (tgt := 4) h dX8_upCount_39 (by decide) ?_
      refine k_sub (lv' := [(0, LR (some a0)), (1, LI (q1.1 + v10)), (2, LI (q1.2 + 1))]) h [2, 1, 0] rfl ?_
      exact hr3 ((q1.1 + v10), (q1.2 + 1)) s11
def mX8_many (a0 : Nat) (p1 : Int32) (s0 : Sg) : Option (Int32 × Sg) :=
swc p1 0 [
gdI s0 8 9 (some a0) fun v1 =>
some (v1, s0),
gdI s0 8 10 (some a0) fun v2 =>
some (v2, s0),
cv s0 8 (some a0) fun a5 => cl (mX8_leftCount a5 s0) fun v3 s4 =>
some (v3, s4),
cv s0 8 (some a0) fun a8 => cl (mX8_upCount a8 s0) fun v6 s7 =>
some (v6, s7)] (
some ((-1), s0))
def rmX8_many : Room := { frames := 2, cells := 0, slots := 0, locals := 44 }
theorem calX8_many : Cal yX8_many cX8_many 2 (some .int) 1 := ⟨(mw38 10 rfl), (mw1 2 rfl), by decide, by decide, by decide +kernel⟩
set_option maxHeartbeats 4000000 in
set_option maxRecDepth 100000 in
theorem ctX8_many (l : Launch) (B : Nat) (D : va_G) (cA : Nat → ClassId) (sa : Nat → Nat) (a0 : Nat) (p1 : Int32) (s0 : Sg) : Ct l B D cA sa yX8_many cX8_many 2 (some .int) rmX8_many rI [LR (some a0), LI p1] s0 0 0 (mX8_many a0 p1 s0) := by
  refine Ct.of (own := RX8) (by decide) rfl _ (Nat.le_of_ble_eq_true rfl) rfl ?_
  intro p e s m args below meth c h hi
  unfold mX8_many
  refine k_iload_n h 1 dX8_many_0 rfl rfl ?_
  refine k_table (tg := 52) (tgs := [32, 37, 42, 47]) h dX8_many_1 (by decide) (by decide) rfl (by decide) ?_ ?_
  · refine k_iconst (v := (-1)) h dX8_many_52 (by decide) ?_
    exact k_iret h rfl dX8_many_53 (Nat.le_of_ble_eq_true rfl) (Nat.le_of_ble_eq_true rfl)
  · intro q9 hq9
    simp only [List.zip_cons_cons, List.zip_nil_right, List.zip_nil_left, List.mem_cons, List.not_mem_nil, or_false] at hq9
    rcases hq9 with rfl | rfl | rfl | rfl
    · dsimp only
      refine k_aload_n h 0 dX8_many_32 rfl rfl ?_
      refine k_getI h fX8_9 (Or.inl (mw2 16 rfl)) dX8_many_33 (fun v1 => ?_)
      exact k_iret h rfl dX8_many_36 (Nat.le_of_ble_eq_true rfl) (Nat.le_of_ble_eq_true rfl)
    · dsimp only
      refine k_aload_n h 0 dX8_many_37 rfl rfl ?_
      refine k_getI h fX8_10 (Or.inl (mw2 17 rfl)) dX8_many_38 (fun v2 => ?_)
      exact k_iret h rfl dX8_many_41 (Nat.le_of_ble_eq_true rfl) (Nat.le_of_ble_eq_true rfl)
    · dsimp only
      refine k_aload_n h 0 dX8_many_42 rfl rfl ?_
      refine k_callVI (As := []) (st := []) (x0 := (some a0)) (xg := fun a5 => mX8_leftCount a5 s0) h (fun a5 => ctX8_leftCount l B D cA sa a5  s0) calX8_leftCount rfl (by decide) (mw38 12 rfl) (mw38 13 rfl) (Or.inl (mw38 11 rfl)) hgood ⟨rfl, rfl, Nat.le_of_ble_eq_true rfl, Nat.le_of_ble_eq_true rfl⟩ ⟨Nat.le_of_ble_eq_true rfl, Nat.le_of_ble_eq_true rfl⟩ rfl (Nat.le_of_ble_eq_true rfl) dX8_many_43 (fun v3 s4 => ?_)
      exact k_iret h rfl dX8_many_46 (Nat.le_of_ble_eq_true rfl) (Nat.le_of_ble_eq_true rfl)
    · dsimp only
      refine k_aload_n h 0 dX8_many_47 rfl rfl ?_
      refine k_callVI (As := []) (st := []) (x0 := (some a0)) (xg := fun a8 => mX8_upCount a8 s0) h (fun a8 => ctX8_upCount l B D cA sa a8  s0) calX8_upCount rfl (by decide) (mw38 16 rfl) (mw38 17 rfl) (Or.inl (mw38 15 rfl)) hgood ⟨rfl, rfl, Nat.le_of_ble_eq_true rfl, Nat.le_of_ble_eq_true rfl⟩ ⟨Nat.le_of_ble_eq_true rfl, Nat.le_of_ble_eq_true rfl⟩ rfl (Nat.le_of_ble_eq_true rfl) dX8_many_48 (fun v6 s7 => ?_)
      exact k_iret h rfl dX8_many_51 (Nat.le_of_ble_eq_true rfl) (Nat.le_of_ble_eq_true rfl)
