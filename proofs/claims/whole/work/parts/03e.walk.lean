def mX9_in (p1 : Int64) (p2 : Int64) (p3 : Int64) (s0 : Sg) : Option (Int32 × Sg) :=
if (lg_cmp p1 p2) < 0 then (
ckB 0 (some (0, s0)))
else (
if 0 < (lg_cmp p1 p3) then (
ckB 0 (some (0, s0)))
else (
ckB 1 (some (1, s0))))
def rmX9_in : Room := { frames := 0, cells := 0, slots := 0, locals := 0 }
theorem calX9_in : Cal yX9_in cX9_in 6 (some .boolean) 3 := ⟨(mw9 2 rfl), (mw1 5 rfl), by decide, by decide, by decide +kernel⟩
set_option maxHeartbeats 4000000 in
set_option maxRecDepth 100000 in
theorem ctX9_in (l : Launch) (B : Nat) (D : va_G) (cA : Nat → ClassId) (sa : Nat → Nat) (p1 : Int64) (p2 : Int64) (p3 : Int64) (s0 : Sg) : Ct l B D cA sa yX9_in cX9_in 6 (some .boolean) rmX9_in rI [LL p1, LL p2, LL p3] s0 0 0 (mX9_in p1 p2 p3 s0) := by
  refine Ct.of (own := RX9) (by decide) rfl _ (Nat.le_of_ble_eq_true rfl) rfl ?_
  intro p e s m args below meth c h hi
  unfold mX9_in
  refine k_lload_n h 0 dX9_in_0 rfl rfl ?_
  refine k_lload_n h 1 dX9_in_1 rfl rfl ?_
  refine k_lcmp h dX9_in_2 ?_
  refine k_if_lt (tgt := 17) h dX9_in_3 (by decide) ?_ ?_
  · refine k_iconst (v := 0) h dX9_in_17 (by decide) ?_
    exact k_zret h rfl dX9_in_18 (Nat.le_of_ble_eq_true rfl) (Nat.le_of_ble_eq_true rfl)
  · refine k_lload_n h 0 dX9_in_6 rfl rfl ?_
    refine k_lload h 2 dX9_in_7 rfl ?_
    refine k_lcmp h dX9_in_9 ?_
    refine k_if_gt (tgt := 17) h dX9_in_10 (by decide) ?_ ?_
    · refine k_iconst (v := 0) h dX9_in_17 (by decide) ?_
      exact k_zret h rfl dX9_in_18 (Nat.le_of_ble_eq_true rfl) (Nat.le_of_ble_eq_true rfl)
    · refine k_iconst (v := 1) h dX9_in_13 (by decide) ?_
      refine k_goto (tgt := 18) h dX9_in_14 (by decide) ?_
      exact k_zret h rfl dX9_in_18 (Nat.le_of_ble_eq_true rfl) (Nat.le_of_ble_eq_true rfl)
def mX9_isSheet (p1 : Int32) (s0 : Sg) : Option (Int32 × Sg) :=
cl (mX9_in (Int32.toInt64 p1) 0 2 s0) fun v1 s2 =>
ckB v1 (some (v1, s2))
def rmX9_isSheet : Room := { frames := 1, cells := 0, slots := 0, locals := 25 }
theorem calX9_isSheet : Cal yX9_isSheet cX9_isSheet 1 (some .boolean) 1 := ⟨(mw8 22 rfl), (mw1 5 rfl), by decide, by decide, by decide +kernel⟩
set_option maxHeartbeats 4000000 in
set_option maxRecDepth 100000 in
theorem ctX9_isSheet (l : Launch) (B : Nat) (D : va_G) (cA : Nat → ClassId) (sa : Nat → Nat) (p1 : Int32) (s0 : Sg) : Ct l B D cA sa yX9_isSheet cX9_isSheet 1 (some .boolean) rmX9_isSheet rI [LI p1] s0 0 0 (mX9_isSheet p1 s0) := by
  refine Ct.of (own := RX9) (by decide) rfl _ (Nat.le_of_ble_eq_true rfl) rfl ?_
  intro p e s m args below meth c h hi
  unfold mX9_isSheet
  refine k_iload_n h 0 dX9_isSheet_0 rfl rfl ?_
  refine k_i2l h dX9_isSheet_1 ?_
  refine k_lconst (v := 0) h dX9_isSheet_2 (by decide) ?_
  refine k_ldc2_w (v := 2) h dX9_isSheet_3 (mw8 23 rfl) ?_
  refine k_callSI (As := [LL (Int32.toInt64 p1), LL 0, LL 2]) (st := []) h (ctX9_in l B D cA sa (Int32.toInt64 p1) 0 2 s0) calX9_in (mw9 1 rfl) (Or.inl (mw9 0 rfl)) hgood ⟨rfl, rfl, Nat.le_of_ble_eq_true rfl, Nat.le_of_ble_eq_true rfl⟩ ⟨Nat.le_of_ble_eq_true rfl, Nat.le_of_ble_eq_true rfl⟩ rfl (Nat.le_of_ble_eq_true rfl) dX9_isSheet_6 (fun v1 s2 => ?_)
  exact k_zret h rfl dX9_isSheet_9 (Nat.le_of_ble_eq_true rfl) (Nat.le_of_ble_eq_true rfl)
def mX9_isGroup (a0 : Nat) (p1 : Int32) (s0 : Sg) : Option (Int32 × Sg) :=
gdI s0 9 8 (some a0) fun v1 =>
cl (mX9_in (Int32.toInt64 p1) 0 (Int32.toInt64 (v1 - 1)) s0) fun v2 s3 =>
ckB v2 (some (v2, s3))
def rmX9_isGroup : Room := { frames := 1, cells := 0, slots := 0, locals := 25 }
theorem calX9_isGroup : Cal yX9_isGroup cX9_isGroup 2 (some .boolean) 1 := ⟨(mw16 23 rfl), (mw1 5 rfl), by decide, by decide, by decide +kernel⟩
set_option maxHeartbeats 4000000 in
set_option maxRecDepth 100000 in
theorem ctX9_isGroup (l : Launch) (B : Nat) (D : va_G) (cA : Nat → ClassId) (sa : Nat → Nat) (a0 : Nat) (p1 : Int32) (s0 : Sg) : Ct l B D cA sa yX9_isGroup cX9_isGroup 2 (some .boolean) rmX9_isGroup rI [LR (some a0), LI p1] s0 0 0 (mX9_isGroup a0 p1 s0) := by
  refine Ct.of (own := RX9) (by decide) rfl _ (Nat.le_of_ble_eq_true rfl) rfl ?_
  intro p e s m args below meth c h hi
  unfold mX9_isGroup
  refine k_iload_n h 1 dX9_isGroup_0 rfl rfl ?_
  refine k_i2l h dX9_isGroup_1 ?_
  refine k_lconst (v := 0) h dX9_isGroup_2 (by decide) ?_
  refine k_aload_n h 0 dX9_isGroup_3 rfl rfl ?_
  refine k_getI h fX9_8 (Or.inl (mw15 18 rfl)) dX9_isGroup_4 (fun v1 => ?_)
  refine k_iconst (v := 1) h dX9_isGroup_7 (by decide) ?_
  refine k_isub h dX9_isGroup_8 ?_
  refine k_i2l h dX9_isGroup_9 ?_
  refine k_callSI (As := [LL (Int32.toInt64 p1), LL 0, LL (Int32.toInt64 (v1 - 1))]) (st := []) h (ctX9_in l B D cA sa (Int32.toInt64 p1) 0 (Int32.toInt64 (v1 - 1)) s0) calX9_in (mw9 1 rfl) (Or.inl (mw9 0 rfl)) hgood ⟨rfl, rfl, Nat.le_of_ble_eq_true rfl, Nat.le_of_ble_eq_true rfl⟩ ⟨Nat.le_of_ble_eq_true rfl, Nat.le_of_ble_eq_true rfl⟩ rfl (Nat.le_of_ble_eq_true rfl) dX9_isGroup_10 (fun v2 s3 => ?_)
  exact k_zret h rfl dX9_isGroup_13 (Nat.le_of_ble_eq_true rfl) (Nat.le_of_ble_eq_true rfl)
def mX9_isLoad (a0 : Nat) (p1 : Int32) (s0 : Sg) : Option (Int32 × Sg) :=
gdI s0 9 20 (some a0) fun v1 =>
cl (mX9_in (Int32.toInt64 p1) 0 (Int32.toInt64 (v1 - 1)) s0) fun v2 s3 =>
ckB v2 (some (v2, s3))
def rmX9_isLoad : Room := { frames := 1, cells := 0, slots := 0, locals := 25 }
theorem calX9_isLoad : Cal yX9_isLoad cX9_isLoad 2 (some .boolean) 1 := ⟨(mw20 20 rfl), (mw1 5 rfl), by decide, by decide, by decide +kernel⟩
set_option maxHeartbeats 4000000 in
set_option maxRecDepth 100000 in
theorem ctX9_isLoad (l : Launch) (B : Nat) (D : va_G) (cA : Nat → ClassId) (sa : Nat → Nat) (a0 : Nat) (p1 : Int32) (s0 : Sg) : Ct l B D cA sa yX9_isLoad cX9_isLoad 2 (some .boolean) rmX9_isLoad rI [LR (some a0), LI p1] s0 0 0 (mX9_isLoad a0 p1 s0) := by
  refine Ct.of (own := RX9) (by decide) rfl _ (Nat.le_of_ble_eq_true rfl) rfl ?_
  intro p e s m args below meth c h hi
  unfold mX9_isLoad
  refine k_iload_n h 1 dX9_isLoad_0 rfl rfl ?_
  refine k_i2l h dX9_isLoad_1 ?_
  refine k_lconst (v := 0) h dX9_isLoad_2 (by decide) ?_
  refine k_aload_n h 0 dX9_isLoad_3 rfl rfl ?_
  refine k_getI h fX9_20 (Or.inl (mw17 4 rfl)) dX9_isLoad_4 (fun v1 => ?_)
  refine k_iconst (v := 1) h dX9_isLoad_7 (by decide) ?_
  refine k_isub h dX9_isLoad_8 ?_
  refine k_i2l h dX9_isLoad_9 ?_
  refine k_callSI (As := [LL (Int32.toInt64 p1), LL 0, LL (Int32.toInt64 (v1 - 1))]) (st := []) h (ctX9_in l B D cA sa (Int32.toInt64 p1) 0 (Int32.toInt64 (v1 - 1)) s0) calX9_in (mw9 1 rfl) (Or.inl (mw9 0 rfl)) hgood ⟨rfl, rfl, Nat.le_of_ble_eq_true rfl, Nat.le_of_ble_eq_true rfl⟩ ⟨Nat.le_of_ble_eq_true rfl, Nat.le_of_ble_eq_true rfl⟩ rfl (Nat.le_of_ble_eq_true rfl) dX9_isLoad_10 (fun v2 s3 => ?_)
  exact k_zret h rfl dX9_isLoad_13 (Nat.le_of_ble_eq_true rfl) (Nat.le_of_ble_eq_true rfl)
def mX9_isIn (a0 : Nat) (p1 : Int32) (p2 : Int32) (s0 : Sg) : Option (Int32 × Sg) :=
cv s0 9 (some a0) fun a7 => cl (mX9_isLoad a7 p1 s0) fun v1 s2 =>
if v1 = 0 then (
ckB 0 (some (0, s2)))
else (
gdR s2 9 22 (some a0) fun v3 =>
alI s2 v3 p1 fun v4 =>
cl (mX9_in (Int32.toInt64 p2) 0 (Int32.toInt64 (v4 - 1)) s2) fun v5 s6 =>
if v5 = 0 then (
ckB 0 (some (0, s6)))
else (
ckB 1 (some (1, s6))))
def rmX9_isIn : Room := { frames := 2, cells := 0, slots := 0, locals := 46 }
theorem calX9_isIn : Cal yX9_isIn cX9_isIn 3 (some .boolean) 2 := ⟨(mw21 15 rfl), (mw1 5 rfl), by decide, by decide, by decide +kernel⟩
set_option maxHeartbeats 4000000 in
set_option maxRecDepth 100000 in
theorem ctX9_isIn (l : Launch) (B : Nat) (D : va_G) (cA : Nat → ClassId) (sa : Nat → Nat) (a0 : Nat) (p1 : Int32) (p2 : Int32) (s0 : Sg) : Ct l B D cA sa yX9_isIn cX9_isIn 3 (some .boolean) rmX9_isIn rI [LR (some a0), LI p1, LI p2] s0 0 0 (mX9_isIn a0 p1 p2 s0) := by
  refine Ct.of (own := RX9) (by decide) rfl _ (Nat.le_of_ble_eq_true rfl) rfl ?_
  intro p e s m args below meth c h hi
  unfold mX9_isIn
  refine k_aload_n h 0 dX9_isIn_0 rfl rfl ?_
  refine k_iload_n h 1 dX9_isIn_1 rfl rfl ?_
  refine k_callVI (As := [LI p1]) (st := []) (x0 := (some a0)) (xg := fun a7 => mX9_isLoad a7 p1 s0) h (fun a7 => ctX9_isLoad l B D cA sa a7 p1 s0) calX9_isLoad rfl (by decide) (mw20 18 rfl) (mw20 19 rfl) (Or.inl (mw20 17 rfl)) hgood ⟨rfl, rfl, Nat.le_of_ble_eq_true rfl, Nat.le_of_ble_eq_true rfl⟩ ⟨Nat.le_of_ble_eq_true rfl, Nat.le_of_ble_eq_true rfl⟩ rfl (Nat.le_of_ble_eq_true rfl) dX9_isIn_2 (fun v1 s2 => ?_)
  refine k_if_eq (tgt := 30) h dX9_isIn_5 (by decide) ?_ ?_
  · refine k_iconst (v := 0) h dX9_isIn_30 (by decide) ?_
    exact k_zret h rfl dX9_isIn_31 (Nat.le_of_ble_eq_true rfl) (Nat.le_of_ble_eq_true rfl)
  · refine k_iload_n h 2 dX9_isIn_8 rfl rfl ?_
    refine k_i2l h dX9_isIn_9 ?_
    refine k_lconst (v := 0) h dX9_isIn_10 (by decide) ?_
    refine k_aload_n h 0 dX9_isIn_11 rfl rfl ?_
    refine k_getR h fX9_22 (Or.inl (mw7 7 rfl)) dX9_isIn_12 (fun v3 => ?_)
    refine k_iload_n h 1 dX9_isIn_15 rfl rfl ?_
    refine k_alI h dX9_isIn_16 (fun v4 => ?_)
    refine k_iconst (v := 1) h dX9_isIn_17 (by decide) ?_
    refine k_isub h dX9_isIn_18 ?_
    refine k_i2l h dX9_isIn_19 ?_
    refine k_callSI (As := [LL (Int32.toInt64 p2), LL 0, LL (Int32.toInt64 (v4 - 1))]) (st := []) h (ctX9_in l B D cA sa (Int32.toInt64 p2) 0 (Int32.toInt64 (v4 - 1)) s2) calX9_in (mw9 1 rfl) (Or.inl (mw9 0 rfl)) hgood ⟨rfl, rfl, Nat.le_of_ble_eq_true rfl, Nat.le_of_ble_eq_true rfl⟩ ⟨Nat.le_of_ble_eq_true rfl, Nat.le_of_ble_eq_true rfl⟩ rfl (Nat.le_of_ble_eq_true rfl) dX9_isIn_20 (fun v5 s6 => ?_)
    refine k_if_eq (tgt := 30) h dX9_isIn_23 (by decide) ?_ ?_
    · refine k_iconst (v := 0) h dX9_isIn_30 (by decide) ?_
      exact k_zret h rfl dX9_isIn_31 (Nat.le_of_ble_eq_true rfl) (Nat.le_of_ble_eq_true rfl)
    · refine k_iconst (v := 1) h dX9_isIn_26 (by decide) ?_
      refine k_goto (tgt := 31) h dX9_isIn_27 (by decide) ?_
      exact k_zret h rfl dX9_isIn_31 (Nat.le_of_ble_eq_true rfl) (Nat.le_of_ble_eq_true rfl)
def mX9_sheet_b33 (p2 : Int32) (a0 : Nat) (p1 : Int32) (r7 : (Int32) → Sg → Option (Int32 × Sg)) (q5 : Int32) (s6 : Sg) : Option (Int32 × Sg) :=
if p2 ≤ q5 then (
some (1, s6))
else (
gdR s6 9 1 (some a0) fun v8 =>
asF s6 v8 ((20 * p1) + q5) 0 fun s9 =>
gdR s9 9 2 (some a0) fun v10 =>
asZ s9 v10 ((20 * p1) + q5) 0 fun s11 =>
r7 (q5 + 1) s11)
def mX9_sheet (a0 : Nat) (p1 : Int32) (p2 : Int32) (s0 : Sg) : Option (Int32 × Sg) :=
cl (mX9_isSheet p1 s0) fun v1 s2 =>
if ¬ v1 = 0 then (
if 0 ≤ p2 then (
if p2 ≤ 20 then (
gdR s2 9 0 (some a0) fun v3 =>
asI s2 v3 p1 p2 fun s4 =>
lp (mX9_sheet_b33 p2 a0 p1) FU 0 s4)
else (
some ((-1), s2)))
else (
some ((-4), s2)))
else (
some ((-1), s2))
def rmX9_sheet : Room := { frames := 2, cells := 0, slots := 0, locals := 45 }
theorem calX9_sheet : Cal yX9_sheet cX9_sheet 4 (some .int) 2 := ⟨(mw8 19 rfl), (mw1 5 rfl), by decide, by decide, by decide +kernel⟩
set_option maxHeartbeats 4000000 in
set_option maxRecDepth 100000 in
theorem ctX9_sheet (l : Launch) (B : Nat) (D : va_G) (cA : Nat → ClassId) (sa : Nat → Nat) (a0 : Nat) (p1 : Int32) (p2 : Int32) (s0 : Sg) : Ct l B D cA sa yX9_sheet cX9_sheet 4 (some .int) rmX9_sheet rI [LR (some a0), LI p1, LI p2] s0 0 0 (mX9_sheet a0 p1 p2 s0) := by
  refine Ct.of (own := RX9) (by decide) rfl _ (Nat.le_of_ble_eq_true rfl) rfl ?_
  intro p e s m args below meth c h hi
  unfold mX9_sheet
  refine k_iload_n h 1 dX9_sheet_0 rfl rfl ?_
  refine k_callSI (As := [LI p1]) (st := []) h (ctX9_isSheet l B D cA sa p1 s0) calX9_isSheet (mw8 21 rfl) (Or.inl (mw8 20 rfl)) hgood ⟨rfl, rfl, Nat.le_of_ble_eq_true rfl, Nat.le_of_ble_eq_true rfl⟩ ⟨Nat.le_of_ble_eq_true rfl, Nat.le_of_ble_eq_true rfl⟩ rfl (Nat.le_of_ble_eq_true rfl) dX9_sheet_1 (fun v1 s2 => ?_)
  refine k_if_ne (tgt := 9) h dX9_sheet_4 (by decide) ?_ ?_
  · refine k_iload_n h 2 dX9_sheet_9 rfl rfl ?_
    refine k_if_ge (tgt := 16) h dX9_sheet_10 (by decide) ?_ ?_
    · refine k_iload_n h 2 dX9_sheet_16 rfl rfl ?_
      refine k_bipush (v := 20) h dX9_sheet_17 (by decide) ?_
      refine k_icmp_le (tgt := 24) h dX9_sheet_19 (by decide) ?_ ?_
      · refine k_aload_n h 0 dX9_sheet_24 rfl rfl ?_
        refine k_getR h fX9_0 (Or.inl (mw6 11 rfl)) dX9_sheet_25 (fun v3 => ?_)
        refine k_iload_n h 1 dX9_sheet_28 rfl rfl ?_
        refine k_iload_n h 2 dX9_sheet_29 rfl rfl ?_
        refine k_asI h dX9_sheet_30 (fun s4 => ?_)
        refine k_iconst (v := 0) h dX9_sheet_31 (by decide) ?_
        refine k_istore_n (lv' := [(3, LI 0), (0, LR (some a0)), (1, LI p1), (2, LI p2)]) h dX9_sheet_32 rfl (by decide) rfl ?_
        refine k_sub (lv' := [(0, LR (some a0)), (1, LI p1), (2, LI p2), (3, LI 0)]) h [1, 2, 3, 0] rfl ?_
        refine k_lp (A := Int32) (fun q5 => [(0, LR (some a0)), (1, LI p1), (2, LI p2), (3, LI q5)]) (fun q5 => []) (fun r7 hr7 q5 s6 => ?_) FU 0 s4
        unfold mX9_sheet_b33
        refine k_iload_n h 3 dX9_sheet_33 rfl rfl ?_
        refine k_iload_n h 2 dX9_sheet_34 rfl rfl ?_
        refine k_icmp_ge (tgt := 68) h dX9_sheet_35 (by decide) ?_ ?_
        · refine k_iconst (v := 1) h dX9_sheet_68 (by decide) ?_
          exact k_iret h rfl dX9_sheet_69 (Nat.le_of_ble_eq_true rfl) (Nat.le_of_ble_eq_true rfl)
        · refine k_aload_n h 0 dX9_sheet_38 rfl rfl ?_
          refine k_getR h fX9_1 (Or.inl (mw6 12 rfl)) dX9_sheet_39 (fun v8 => ?_)
          refine k_bipush (v := 20) h dX9_sheet_42 (by decide) ?_
          refine k_iload_n h 1 dX9_sheet_44 rfl rfl ?_
          refine k_imul h dX9_sheet_45 ?_
          refine k_iload_n h 3 dX9_sheet_46 rfl rfl ?_
          refine k_iadd h dX9_sheet_47 ?_
          refine k_fconst0 h dX9_sheet_48 ?_
          refine k_asF h dX9_sheet_49 (fun s9 => ?_)
          refine k_aload_n h 0 dX9_sheet_50 rfl rfl ?_
          refine k_getR h fX9_2 (Or.inl (mw6 13 rfl)) dX9_sheet_51 (fun v10 => ?_)
          refine k_bipush (v := 20) h dX9_sheet_54 (by decide) ?_
          refine k_iload_n h 1 dX9_sheet_56 rfl rfl ?_
          refine k_imul h dX9_sheet_57 ?_
          refine k_iload_n h 3 dX9_sheet_58 rfl rfl ?_
          refine k_iadd h dX9_sheet_59 ?_
          refine k_iconst (v := 0) h dX9_sheet_60 (by decide) ?_
          refine k_asZ h dX9_sheet_61 (fun s11 => ?_)
          refine k_iinc (w := (q5 + 1)) (lv' := [(3, LI (q5 + 1)), (0, LR (some a0)), (1, LI p1), (2, LI p2)]) h 3 dX9_sheet_62 rfl rfl (by decide) rfl ?_
          refine k_goto (tgt := 33) h dX9_sheet_65 (by decide) ?_
          refine k_sub (lv' := [(0, LR (some a0)), (1, LI p1), (2, LI p2), (3, LI (q5 + 1))]) h [1, 2, 3, 0] rfl ?_
          exact hr7 (q5 + 1) s11
      · refine k_iconst (v := (-1)) h dX9_sheet_22 (by decide) ?_
        exact k_iret h rfl dX9_sheet_23 (Nat.le_of_ble_eq_true rfl) (Nat.le_of_ble_eq_true rfl)
    · refine k_bipush (v := (-4)) h dX9_sheet_13 (by decide) ?_
      exact k_iret h rfl dX9_sheet_15 (Nat.le_of_ble_eq_true rfl) (Nat.le_of_ble_eq_true rfl)
  · refine k_iconst (v := (-1)) h dX9_sheet_7 (by decide) ?_
    exact k_iret h rfl dX9_sheet_8 (Nat.le_of_ble_eq_true rfl) (Nat.le_of_ble_eq_true rfl)
def mX9_cell (a0 : Nat) (p1 : Int32) (p2 : Int32) (p3 : Int32) (p4 : Int32) (s0 : Sg) : Option (Int32 × Sg) :=
cl (mX9_isSheet p1 s0) fun v1 s2 =>
if v1 = 0 then (
some ((-1), s2))
else (
cl (mX9_in (Int32.toInt64 p4) 0 20 s2) fun v3 s4 =>
if ¬ v3 = 0 then (
gdR s4 9 0 (some a0) fun v5 =>
alI s4 v5 p1 fun v6 =>
if 0 ≤ v6 then (
gdR s4 9 0 (some a0) fun v7 =>
alI s4 v7 p1 fun v8 =>
cl (mX9_in (Int32.toInt64 p2) 0 (Int32.toInt64 (v8 - 1)) s4) fun v9 s10 =>
if ¬ v9 = 0 then (
gdR s10 9 1 (some a0) fun v11 =>
ckN (FP.fdiv (FP.i2f p3) (FP.i2f (1 <<< (p4 &&& 31)))) fun v12 =>
asF s10 v11 ((20 * p1) + p2) v12 fun s13 =>
gdR s13 9 2 (some a0) fun v14 =>
asZ s13 v14 ((20 * p1) + p2) 0 fun s15 =>
some (1, s15))
else (
some ((-1), s10)))
else (
some ((-3), s4)))
else (
some ((-1), s4)))
def rmX9_cell : Room := { frames := 2, cells := 0, slots := 0, locals := 45 }
theorem calX9_cell : Cal yX9_cell cX9_cell 5 (some .int) 4 := ⟨(mw9 20 rfl), (mw1 5 rfl), by decide, by decide, by decide +kernel⟩
set_option maxHeartbeats 4000000 in
set_option maxRecDepth 100000 in
theorem ctX9_cell (l : Launch) (B : Nat) (D : va_G) (cA : Nat → ClassId) (sa : Nat → Nat) (a0 : Nat) (p1 : Int32) (p2 : Int32) (p3 : Int32) (p4 : Int32) (s0 : Sg) : Ct l B D cA sa yX9_cell cX9_cell 5 (some .int) rmX9_cell rI [LR (some a0), LI p1, LI p2, LI p3, LI p4] s0 0 0 (mX9_cell a0 p1 p2 p3 p4 s0) := by
  refine Ct.of (own := RX9) (by decide) rfl _ (Nat.le_of_ble_eq_true rfl) rfl ?_
  intro p e s m args below meth c h hi
  unfold mX9_cell
  refine k_iload_n h 1 dX9_cell_0 rfl rfl ?_
  refine k_callSI (As := [LI p1]) (st := []) h (ctX9_isSheet l B D cA sa p1 s0) calX9_isSheet (mw8 21 rfl) (Or.inl (mw8 20 rfl)) hgood ⟨rfl, rfl, Nat.le_of_ble_eq_true rfl, Nat.le_of_ble_eq_true rfl⟩ ⟨Nat.le_of_ble_eq_true rfl, Nat.le_of_ble_eq_true rfl⟩ rfl (Nat.le_of_ble_eq_true rfl) dX9_cell_1 (fun v1 s2 => ?_)
  refine k_if_eq (tgt := 20) h dX9_cell_4 (by decide) ?_ ?_
  · refine k_iconst (v := (-1)) h dX9_cell_20 (by decide) ?_
    exact k_iret h rfl dX9_cell_21 (Nat.le_of_ble_eq_true rfl) (Nat.le_of_ble_eq_true rfl)
  · refine k_iload h 4 dX9_cell_7 rfl ?_
    refine k_i2l h dX9_cell_9 ?_
    refine k_lconst (v := 0) h dX9_cell_10 (by decide) ?_
    refine k_ldc2_w (v := 20) h dX9_cell_11 (mw9 21 rfl) ?_
    refine k_callSI (As := [LL (Int32.toInt64 p4), LL 0, LL 20]) (st := []) h (ctX9_in l B D cA sa (Int32.toInt64 p4) 0 20 s2) calX9_in (mw9 1 rfl) (Or.inl (mw9 0 rfl)) hgood ⟨rfl, rfl, Nat.le_of_ble_eq_true rfl, Nat.le_of_ble_eq_true rfl⟩ ⟨Nat.le_of_ble_eq_true rfl, Nat.le_of_ble_eq_true rfl⟩ rfl (Nat.le_of_ble_eq_true rfl) dX9_cell_14 (fun v3 s4 => ?_)
    refine k_if_ne (tgt := 22) h dX9_cell_17 (by decide) ?_ ?_
    · refine k_aload_n h 0 dX9_cell_22 rfl rfl ?_
      refine k_getR h fX9_0 (Or.inl (mw6 11 rfl)) dX9_cell_23 (fun v5 => ?_)
      refine k_iload_n h 1 dX9_cell_26 rfl rfl ?_
      refine k_alI h dX9_cell_27 (fun v6 => ?_)
      refine k_if_ge (tgt := 34) h dX9_cell_28 (by decide) ?_ ?_
      · refine k_iload_n h 2 dX9_cell_34 rfl rfl ?_
        refine k_i2l h dX9_cell_35 ?_
        refine k_lconst (v := 0) h dX9_cell_36 (by decide) ?_
        refine k_aload_n h 0 dX9_cell_37 rfl rfl ?_
        refine k_getR h fX9_0 (Or.inl (mw6 11 rfl)) dX9_cell_38 (fun v7 => ?_)
        refine k_iload_n h 1 dX9_cell_41 rfl rfl ?_
        refine k_alI h dX9_cell_42 (fun v8 => ?_)
        refine k_iconst (v := 1) h dX9_cell_43 (by decide) ?_
        refine k_isub h dX9_cell_44 ?_
        refine k_i2l h dX9_cell_45 ?_
        refine k_callSI (As := [LL (Int32.toInt64 p2), LL 0, LL (Int32.toInt64 (v8 - 1))]) (st := []) h (ctX9_in l B D cA sa (Int32.toInt64 p2) 0 (Int32.toInt64 (v8 - 1)) s4) calX9_in (mw9 1 rfl) (Or.inl (mw9 0 rfl)) hgood ⟨rfl, rfl, Nat.le_of_ble_eq_true rfl, Nat.le_of_ble_eq_true rfl⟩ ⟨Nat.le_of_ble_eq_true rfl, Nat.le_of_ble_eq_true rfl⟩ rfl (Nat.le_of_ble_eq_true rfl) dX9_cell_46 (fun v9 s10 => ?_)
        refine k_if_ne (tgt := 54) h dX9_cell_49 (by decide) ?_ ?_
        · refine k_aload_n h 0 dX9_cell_54 rfl rfl ?_
          refine k_getR h fX9_1 (Or.inl (mw6 12 rfl)) dX9_cell_55 (fun v11 => ?_)
          refine k_bipush (v := 20) h dX9_cell_58 (by decide) ?_
          refine k_iload_n h 1 dX9_cell_60 rfl rfl ?_
          refine k_imul h dX9_cell_61 ?_
          refine k_iload_n h 2 dX9_cell_62 rfl rfl ?_
          refine k_iadd h dX9_cell_63 ?_
          refine k_iload_n h 3 dX9_cell_64 rfl rfl ?_
          refine k_i2f h dX9_cell_65 ?_
          refine k_iconst (v := 1) h dX9_cell_66 (by decide) ?_
          refine k_iload h 4 dX9_cell_67 rfl ?_
          refine k_ishl h dX9_cell_69 ?_
          refine k_i2f h dX9_cell_70 ?_
          refine k_fdiv h dX9_cell_71 (fun v12 => ?_)
          refine k_asF h dX9_cell_72 (fun s13 => ?_)
          refine k_aload_n h 0 dX9_cell_73 rfl rfl ?_
          refine k_getR h fX9_2 (Or.inl (mw6 13 rfl)) dX9_cell_74 (fun v14 => ?_)
          refine k_bipush (v := 20) h dX9_cell_77 (by decide) ?_
          refine k_iload_n h 1 dX9_cell_79 rfl rfl ?_
          refine k_imul h dX9_cell_80 ?_
          refine k_iload_n h 2 dX9_cell_81 rfl rfl ?_
          refine k_iadd h dX9_cell_82 ?_
          refine k_iconst (v := 0) h dX9_cell_83 (by decide) ?_
          refine k_asZ h dX9_cell_84 (fun s15 => ?_)
          refine k_iconst (v := 1) h dX9_cell_85 (by decide) ?_
          exact k_iret h rfl dX9_cell_86 (Nat.le_of_ble_eq_true rfl) (Nat.le_of_ble_eq_true rfl)
        · refine k_iconst (v := (-1)) h dX9_cell_52 (by decide) ?_
          exact k_iret h rfl dX9_cell_53 (Nat.le_of_ble_eq_true rfl) (Nat.le_of_ble_eq_true rfl)
      · refine k_bipush (v := (-3)) h dX9_cell_31 (by decide) ?_
        exact k_iret h rfl dX9_cell_33 (Nat.le_of_ble_eq_true rfl) (Nat.le_of_ble_eq_true rfl)
    · refine k_iconst (v := (-1)) h dX9_cell_20 (by decide) ?_
      exact k_iret h rfl dX9_cell_21 (Nat.le_of_ble_eq_true rfl) (Nat.le_of_ble_eq_true rfl)
def mX9_gap (a0 : Nat) (p1 : Int32) (p2 : Int32) (s0 : Sg) : Option (Int32 × Sg) :=
cl (mX9_isSheet p1 s0) fun v1 s2 =>
if ¬ v1 = 0 then (
gdR s2 9 0 (some a0) fun v3 =>
alI s2 v3 p1 fun v4 =>
if 0 ≤ v4 then (
gdR s2 9 0 (some a0) fun v5 =>
alI s2 v5 p1 fun v6 =>
cl (mX9_in (Int32.toInt64 p2) 0 (Int32.toInt64 (v6 - 1)) s2) fun v7 s8 =>
if ¬ v7 = 0 then (
gdR s8 9 2 (some a0) fun v9 =>
asZ s8 v9 ((20 * p1) + p2) 1 fun s10 =>
some (1, s10))
else (
some ((-1), s8)))
else (
some ((-3), s2)))
else (
some ((-1), s2))
def rmX9_gap : Room := { frames := 2, cells := 0, slots := 0, locals := 45 }
theorem calX9_gap : Cal yX9_gap cX9_gap 3 (some .int) 2 := ⟨(mw10 8 rfl), (mw1 5 rfl), by decide, by decide, by decide +kernel⟩
set_option maxHeartbeats 4000000 in
set_option maxRecDepth 100000 in
theorem ctX9_gap (l : Launch) (B : Nat) (D : va_G) (cA : Nat → ClassId) (sa : Nat → Nat) (a0 : Nat) (p1 : Int32) (p2 : Int32) (s0 : Sg) : Ct l B D cA sa yX9_gap cX9_gap 3 (some .int) rmX9_gap rI [LR (some a0), LI p1, LI p2] s0 0 0 (mX9_gap a0 p1 p2 s0) := by
  refine Ct.of (own := RX9) (by decide) rfl _ (Nat.le_of_ble_eq_true rfl) rfl ?_
  intro p e s m args below meth c h hi
  unfold mX9_gap
  refine k_iload_n h 1 dX9_gap_0 rfl rfl ?_
  refine k_callSI (As := [LI p1]) (st := []) h (ctX9_isSheet l B D cA sa p1 s0) calX9_isSheet (mw8 21 rfl) (Or.inl (mw8 20 rfl)) hgood ⟨rfl, rfl, Nat.le_of_ble_eq_true rfl, Nat.le_of_ble_eq_true rfl⟩ ⟨Nat.le_of_ble_eq_true rfl, Nat.le_of_ble_eq_true rfl⟩ rfl (Nat.le_of_ble_eq_true rfl) dX9_gap_1 (fun v1 s2 => ?_)
  refine k_if_ne (tgt := 9) h dX9_gap_4 (by decide) ?_ ?_
  · refine k_aload_n h 0 dX9_gap_9 rfl rfl ?_
    refine k_getR h fX9_0 (Or.inl (mw6 11 rfl)) dX9_gap_10 (fun v3 => ?_)
    refine k_iload_n h 1 dX9_gap_13 rfl rfl ?_
    refine k_alI h dX9_gap_14 (fun v4 => ?_)
    refine k_if_ge (tgt := 21) h dX9_gap_15 (by decide) ?_ ?_
    · refine k_iload_n h 2 dX9_gap_21 rfl rfl ?_
      refine k_i2l h dX9_gap_22 ?_
      refine k_lconst (v := 0) h dX9_gap_23 (by decide) ?_
      refine k_aload_n h 0 dX9_gap_24 rfl rfl ?_
      refine k_getR h fX9_0 (Or.inl (mw6 11 rfl)) dX9_gap_25 (fun v5 => ?_)
      refine k_iload_n h 1 dX9_gap_28 rfl rfl ?_
      refine k_alI h dX9_gap_29 (fun v6 => ?_)
      refine k_iconst (v := 1) h dX9_gap_30 (by decide) ?_
      refine k_isub h dX9_gap_31 ?_
      refine k_i2l h dX9_gap_32 ?_
      refine k_callSI (As := [LL (Int32.toInt64 p2), LL 0, LL (Int32.toInt64 (v6 - 1))]) (st := []) h (ctX9_in l B D cA sa (Int32.toInt64 p2) 0 (Int32.toInt64 (v6 - 1)) s2) calX9_in (mw9 1 rfl) (Or.inl (mw9 0 rfl)) hgood ⟨rfl, rfl, Nat.le_of_ble_eq_true rfl, Nat.le_of_ble_eq_true rfl⟩ ⟨Nat.le_of_ble_eq_true rfl, Nat.le_of_ble_eq_true rfl⟩ rfl (Nat.le_of_ble_eq_true rfl) dX9_gap_33 (fun v7 s8 => ?_)
      refine k_if_ne (tgt := 41) h dX9_gap_36 (by decide) ?_ ?_
      · refine k_aload_n h 0 dX9_gap_41 rfl rfl ?_
        refine k_getR h fX9_2 (Or.inl (mw6 13 rfl)) dX9_gap_42 (fun v9 => ?_)
        refine k_bipush (v := 20) h dX9_gap_45 (by decide) ?_
        refine k_iload_n h 1 dX9_gap_47 rfl rfl ?_
        refine k_imul h dX9_gap_48 ?_
        refine k_iload_n h 2 dX9_gap_49 rfl rfl ?_
        refine k_iadd h dX9_gap_50 ?_
        refine k_iconst (v := 1) h dX9_gap_51 (by decide) ?_
        refine k_asZ h dX9_gap_52 (fun s10 => ?_)
        refine k_iconst (v := 1) h dX9_gap_53 (by decide) ?_
        exact k_iret h rfl dX9_gap_54 (Nat.le_of_ble_eq_true rfl) (Nat.le_of_ble_eq_true rfl)
      · refine k_iconst (v := (-1)) h dX9_gap_39 (by decide) ?_
        exact k_iret h rfl dX9_gap_40 (Nat.le_of_ble_eq_true rfl) (Nat.le_of_ble_eq_true rfl)
    · refine k_bipush (v := (-3)) h dX9_gap_18 (by decide) ?_
      exact k_iret h rfl dX9_gap_20 (Nat.le_of_ble_eq_true rfl) (Nat.le_of_ble_eq_true rfl)
  · refine k_iconst (v := (-1)) h dX9_gap_7 (by decide) ?_
    exact k_iret h rfl dX9_gap_8 (Nat.le_of_ble_eq_true rfl) (Nat.le_of_ble_eq_true rfl)
def mX9_lose (a0 : Nat) (p1 : Int32) (s0 : Sg) : Option (Int32 × Sg) :=
cl (mX9_isSheet p1 s0) fun v1 s2 =>
if ¬ v1 = 0 then (
gdR s2 9 0 (some a0) fun v3 =>
alI s2 v3 p1 fun v4 =>
if 0 ≤ v4 then (
gdR s2 9 0 (some a0) fun v5 =>
asI s2 v5 p1 (-1) fun s6 =>
some (1, s6))
else (
some ((-3), s2)))
else (
some ((-1), s2))
def rmX9_lose : Room := { frames := 2, cells := 0, slots := 0, locals := 45 }
theorem calX9_lose : Cal yX9_lose cX9_lose 2 (some .int) 1 := ⟨(mw10 16 rfl), (mw1 5 rfl), by decide, by decide, by decide +kernel⟩
set_option maxHeartbeats 4000000 in
set_option maxRecDepth 100000 in
theorem ctX9_lose (l : Launch) (B : Nat) (D : va_G) (cA : Nat → ClassId) (sa : Nat → Nat) (a0 : Nat) (p1 : Int32) (s0 : Sg) : Ct l B D cA sa yX9_lose cX9_lose 2 (some .int) rmX9_lose rI [LR (some a0), LI p1] s0 0 0 (mX9_lose a0 p1 s0) := by
  refine Ct.of (own := RX9) (by decide) rfl _ (Nat.le_of_ble_eq_true rfl) rfl ?_
  intro p e s m args below meth c h hi
  unfold mX9_lose
  refine k_iload_n h 1 dX9_lose_0 rfl rfl ?_
  refine k_callSI (As := [LI p1]) (st := []) h (ctX9_isSheet l B D cA sa p1 s0) calX9_isSheet (mw8 21 rfl) (Or.inl (mw8 20 rfl)) hgood ⟨rfl, rfl, Nat.le_of_ble_eq_true rfl, Nat.le_of_ble_eq_true rfl⟩ ⟨Nat.le_of_ble_eq_true rfl, Nat.le_of_ble_eq_true rfl⟩ rfl (Nat.le_of_ble_eq_true rfl) dX9_lose_1 (fun v1 s2 => ?_)
  refine k_if_ne (tgt := 9) h dX9_lose_4 (by decide) ?_ ?_
  · refine k_aload_n h 0 dX9_lose_9 rfl rfl ?_
    refine k_getR h fX9_0 (Or.inl (mw6 11 rfl)) dX9_lose_10 (fun v3 => ?_)
    refine k_iload_n h 1 dX9_lose_13 rfl rfl ?_
    refine k_alI h dX9_lose_14 (fun v4 => ?_)
    refine k_if_ge (tgt := 21) h dX9_lose_15 (by decide) ?_ ?_
    · refine k_aload_n h 0 dX9_lose_21 rfl rfl ?_
      refine k_getR h fX9_0 (Or.inl (mw6 11 rfl)) dX9_lose_22 (fun v5 => ?_)
      refine k_iload_n h 1 dX9_lose_25 rfl rfl ?_
      refine k_iconst (v := (-1)) h dX9_lose_26 (by decide) ?_
      refine k_asI h dX9_lose_27 (fun s6 => ?_)
      refine k_iconst (v := 1) h dX9_lose_28 (by decide) ?_
      exact k_iret h rfl dX9_lose_29 (Nat.le_of_ble_eq_true rfl) (Nat.le_of_ble_eq_true rfl)
    · refine k_bipush (v := (-3)) h dX9_lose_18 (by decide) ?_
      exact k_iret h rfl dX9_lose_20 (Nat.le_of_ble_eq_true rfl) (Nat.le_of_ble_eq_true rfl)
  · refine k_iconst (v := (-1)) h dX9_lose_7 (by decide) ?_
    exact k_iret h rfl dX9_lose_8 (Nat.le_of_ble_eq_true rfl) (Nat.le_of_ble_eq_true rfl)
def mX9_nearest_b3 (a0 : Nat) (p1 : Int32) (p3 : Int32) (r3 : (Int32) → Sg → Option (Int32 × Sg)) (q1 : Int32) (s2 : Sg) : Option (Int32 × Sg) :=
jn (fun (q4 : Unit) (s5 : Sg) =>
if q1 < 0 then (
some ((-1), s5))
else (
gdR s5 9 0 (some a0) fun v7 =>
alI s5 v7 p1 fun v8 =>
if v8 ≤ q1 then (
some ((-1), s5))
else (
some (q1, s5)))) (fun j6 =>
if q1 < 0 then (
j6 () s2)
else (
gdR s2 9 0 (some a0) fun v9 =>
alI s2 v9 p1 fun v10 =>
if v10 ≤ q1 then (
j6 () s2)
else (
gdR s2 9 2 (some a0) fun v11 =>
alZ s2 v11 ((20 * p1) + q1) fun v12 =>
if v12 = 0 then (
j6 () s2)
else (
r3 (q1 + p3) s2))))
def mX9_nearest (a0 : Nat) (p1 : Int32) (p2 : Int32) (p3 : Int32) (s0 : Sg) : Option (Int32 × Sg) :=
lp (mX9_nearest_b3 a0 p1 p3) FU p2 s0
def rmX9_nearest : Room := { frames := 0, cells := 0, slots := 0, locals := 0 }
theorem calX9_nearest : Cal yX9_nearest cX9_nearest 5 (some .int) 3 := ⟨(mw11 23 rfl), (mw1 5 rfl), by decide, by decide, by decide +kernel⟩
set_option maxHeartbeats 4000000 in
set_option maxRecDepth 100000 in
theorem ctX9_nearest (l : Launch) (B : Nat) (D : va_G) (cA : Nat → ClassId) (sa : Nat → Nat) (a0 : Nat) (p1 : Int32) (p2 : Int32) (p3 : Int32) (s0 : Sg) : Ct l B D cA sa yX9_nearest cX9_nearest 5 (some .int) rmX9_nearest rI [LR (some a0), LI p1, LI p2, LI p3] s0 0 0 (mX9_nearest a0 p1 p2 p3 s0) := by
  refine Ct.of (own := RX9) (by decide) rfl _ (Nat.le_of_ble_eq_true rfl) rfl ?_
  intro p e s m args below meth c h hi
  unfold mX9_nearest
  refine k_iload_n h 2 dX9_nearest_0 rfl rfl ?_
  refine k_istore (lv' := [(4, LI p2), (0, LR (some a0)), (1, LI p1), (2, LI p2), (3, LI p3)]) h dX9_nearest_1 (by decide) rfl ?_
  refine k_sub (lv' := [(0, LR (some a0)), (1, LI p1), (3, LI p3), (4, LI p2)]) h [1, 2, 4, 0] rfl ?_
  refine k_lp (A := Int32) (fun q1 => [(0, LR (some a0)), (1, LI p1), (3, LI p3), (4, LI q1)]) (fun q1 => []) (fun r3 hr3 q1 s2 => ?_) FU p2 s0
  unfold mX9_nearest_b3
  refine k_iload h 3 dX9_nearest_3 rfl ?_
  refine k_jn (A := Unit) (J := 43) (fun q4 => [(0, LR (some a0)), (1, LI p1), (4, LI q1)]) (fun q4 => []) (fun q4 s5 => ?_) (fun j6 hj6 => ?_)
  · refine k_iload h 2 dX9_nearest_43 rfl ?_
    refine k_if_lt (tgt := 64) h dX9_nearest_45 (by decide) ?_ ?_
    · refine k_iconst (v := (-1)) h dX9_nearest_64 (by decide) ?_
      exact k_iret h rfl dX9_nearest_65 (Nat.le_of_ble_eq_true rfl) (Nat.le_of_ble_eq_true rfl)
    · refine k_iload h 2 dX9_nearest_48 rfl ?_
      refine k_aload_n h 0 dX9_nearest_50 rfl rfl ?_
      refine k_getR h fX9_0 (Or.inl (mw6 11 rfl)) dX9_nearest_51 (fun v7 => ?_)
      refine k_iload_n h 1 dX9_nearest_54 rfl rfl ?_
      refine k_alI h dX9_nearest_55 (fun v8 => ?_)
      refine k_icmp_ge (tgt := 64) h dX9_nearest_56 (by decide) ?_ ?_
      · refine k_iconst (v := (-1)) h dX9_nearest_64 (by decide) ?_
        exact k_iret h rfl dX9_nearest_65 (Nat.le_of_ble_eq_true rfl) (Nat.le_of_ble_eq_true rfl)
      · refine k_iload h 2 dX9_nearest_59 rfl ?_
        refine k_goto (tgt := 65) h dX9_nearest_61 (by decide) ?_
        exact k_iret h rfl dX9_nearest_65 (Nat.le_of_ble_eq_true rfl) (Nat.le_of_ble_eq_true rfl)
  · refine k_if_lt (tgt := 43) h dX9_nearest_5 (by decide) ?_ ?_
    · refine k_sub (lv' := [(0, LR (some a0)), (1, LI p1), (4, LI q1)]) h [0, 1, 3] rfl ?_
      exact hj6 () s2
    · refine k_iload h 3 dX9_nearest_8 rfl ?_
      refine k_aload_n h 0 dX9_nearest_10 rfl rfl ?_
      refine k_getR h fX9_0 (Or.inl (mw6 11 rfl)) dX9_nearest_11 (fun v9 => ?_)
      refine k_iload_n h 1 dX9_nearest_14 rfl rfl ?_
      refine k_alI h dX9_nearest_15 (fun v10 => ?_)
      refine k_icmp_ge (tgt := 43) h dX9_nearest_16 (by decide) ?_ ?_
      · refine k_sub (lv' := [(0, LR (some a0)), (1, LI p1), (4, LI q1)]) h [0, 1, 3] rfl ?_
        exact hj6 () s2
      · refine k_aload_n h 0 dX9_nearest_19 rfl rfl ?_
        refine k_getR h fX9_2 (Or.inl (mw6 13 rfl)) dX9_nearest_20 (fun v11 => ?_)
        refine k_bipush (v := 20) h dX9_nearest_23 (by decide) ?_
        refine k_iload_n h 1 dX9_nearest_25 rfl rfl ?_
        refine k_imul h dX9_nearest_26 ?_
        refine k_iload h 3 dX9_nearest_27 rfl ?_
        refine k_iadd h dX9_nearest_29 ?_
        refine k_alZ h dX9_nearest_30 (fun v12 => ?_)
        refine k_if_eq (tgt := 43) h dX9_nearest_31 (by decide) ?_ ?_
        · refine k_sub (lv' := [(0, LR (some a0)), (1, LI p1), (4, LI q1)]) h [0, 1, 3] rfl ?_
          exact hj6 () s2
        · refine k_iload h 3 dX9_nearest_34 rfl ?_
          refine k_iload_n h 2 dX9_nearest_36 rfl rfl ?_
          refine k_iadd h dX9_nearest_37 ?_
          refine k_istore (lv' := [(4, LI (q1 + p3)), (0, LR (some a0)), (1, LI p1), (3, LI p3)]) h dX9_nearest_38 (by decide) rfl ?_
          refine k_goto (tgt := 3) h dX9_nearest_40 (by decide) ?_
          refine k_sub (lv' := [(0, LR (some a0)), (1, LI p1), (3, LI p3), (4, LI (q1 + p3))]) h [1, 2, 3, 0] rfl ?_
          exact hr3 (q1 + p3) s2
def mX9_filled (a0 : Nat) (p1 : Int32) (p2 : Int32) (s0 : Sg) : Option (UInt32 × Sg) :=
cv s0 9 (some a0) fun a21 => cl (mX9_nearest a21 p1 p2 (-1) s0) fun v1 s2 =>
cv s2 9 (some a0) fun a20 => cl (mX9_nearest a20 p1 p2 1 s2) fun v3 s4 =>
jn (fun (q5 : Unit) (s6 : Sg) =>
jn (fun (q8 : Unit) (s9 : Sg) =>
gdR s9 9 1 (some a0) fun v11 =>
if 0 ≤ v1 then (
alF s9 v11 ((20 * p1) + v1) fun v12 =>
some (v12, s9))
else (
alF s9 v11 ((20 * p1) + v3) fun v13 =>
some (v13, s9))) (fun j10 =>
if v1 < 0 then (
j10 () s6)
else (
if v3 < 0 then (
j10 () s6)
else (
if ¬ v1 = v3 then (
gdR s6 9 1 (some a0) fun v14 =>
alF s6 v14 ((20 * p1) + v1) fun v15 =>
gdR s6 9 1 (some a0) fun v16 =>
alF s6 v16 ((20 * p1) + v3) fun v17 =>
ckN (FP.fadd v15 v17) fun v18 =>
ckN (FP.fdiv v18 0x40000000) fun v19 =>
some (v19, s6))
else (
j10 () s6))))) (fun j7 =>
if 0 ≤ v1 then (
j7 () s4)
else (
if 0 ≤ v3 then (
j7 () s4)
else (
some (0, s4))))
def rmX9_filled : Room := { frames := 1, cells := 0, slots := 0, locals := 24 }
theorem calX9_filled : Cal yX9_filled cX9_filled 5 (some .float) 2 := ⟨(mw11 19 rfl), (mw1 5 rfl), by decide, by decide, by decide +kernel⟩
set_option maxHeartbeats 4000000 in
set_option maxRecDepth 100000 in
theorem ctX9_filled (l : Launch) (B : Nat) (D : va_G) (cA : Nat → ClassId) (sa : Nat → Nat) (a0 : Nat) (p1 : Int32) (p2 : Int32) (s0 : Sg) : Ct l B D cA sa yX9_filled cX9_filled 5 (some .float) rmX9_filled rF [LR (some a0), LI p1, LI p2] s0 0 0 (mX9_filled a0 p1 p2 s0) := by
  refine Ct.of (own := RX9) (by decide) rfl _ (Nat.le_of_ble_eq_true rfl) rfl ?_
  intro p e s m args below meth c h hi
  unfold mX9_filled
  refine k_aload_n h 0 dX9_filled_0 rfl rfl ?_
  refine k_iload_n h 1 dX9_filled_1 rfl rfl ?_
  refine k_iload_n h 2 dX9_filled_2 rfl rfl ?_
  refine k_iconst (v := (-1)) h dX9_filled_3 (by decide) ?_
  refine k_callVI (As := [LI p1, LI p2, LI (-1)]) (st := []) (x0 := (some a0)) (xg := fun a21 => mX9_nearest a21 p1 p2 (-1) s0) h (fun a21 => ctX9_nearest l B D cA sa a21 p1 p2 (-1) s0) calX9_nearest rfl (by decide) (mw11 21 rfl) (mw11 22 rfl) (Or.inl (mw11 20 rfl)) hgood ⟨rfl, rfl, Nat.le_of_ble_eq_true rfl, Nat.le_of_ble_eq_true rfl⟩ ⟨Nat.le_of_ble_eq_true rfl, Nat.le_of_ble_eq_true rfl⟩ rfl (Nat.le_of_ble_eq_true rfl) dX9_filled_4 (fun v1 s2 => ?_)
  refine k_istore_n (lv' := [(3, LI v1), (0, LR (some a0)), (1, LI p1), (2, LI p2)]) h dX9_filled_7 rfl (by decide) rfl ?_
  refine k_aload_n h 1 dX9_filled_8 rfl rfl ?_
  refine k_iload_n h 2 dX9_filled_9 rfl rfl ?_
  refine k_iload_n h 3 dX9_filled_10 rfl rfl ?_
  refine k_iconst (v := 1) h dX9_filled_11 (by decide) ?_
  refine k_callVI (As := [LI p1, LI p2, LI 1]) (st := []) (x0 := (some a0)) (xg := fun a20 => mX9_nearest a20 p1 p2 1 s2) h (fun a20 => ctX9_nearest l B D cA sa a20 p1 p2 1 s2) calX9_nearest rfl (by decide) (mw11 21 rfl) (mw11 22 rfl) (Or.inl (mw11 20 rfl)) hgood ⟨rfl, rfl, Nat.le_of_ble_eq_true rfl, Nat.le_of_ble_eq_true rfl⟩ ⟨Nat.le_of_ble_eq_true rfl, Nat.le_of_ble_eq_true rfl⟩ rfl (Nat.le_of_ble_eq_true rfl) dX9_filled_12 (fun v3 s4 => ?_)
  refine k_istore (lv' := [(4, LI v3), (3, LI v1), (0, LR (some a0)), (1, LI p1), (2, LI p2)]) h dX9_filled_15 (by decide) rfl ?_
  refine k_iload_n h 1 dX9_filled_17 rfl rfl ?_
  refine k_jn (A := Unit) (J := 28) (fun q5 => [(0, LR (some a0)), (1, LI p1), (3, LI v1), (4, LI v3)]) (fun q5 => []) (fun q5 s6 => ?_) (fun j7 hj7 => ?_)
  · refine k_iload_n h 2 dX9_filled_28 rfl rfl ?_
    refine k_jn (A := Unit) (J := 43) (fun q8 => [(0, LR (some a0)), (1, LI p1), (3, LI v1), (4, LI v3)]) (fun q8 => []) (fun q8 s9 => ?_) (fun j10 hj10 => ?_)
    · refine k_aload_n h 0 dX9_filled_43 rfl rfl ?_
      refine k_getR h fX9_1 (Or.inl (mw6 12 rfl)) dX9_filled_44 (fun v11 => ?_)
      refine k_bipush (v := 20) h dX9_filled_47 (by decide) ?_
      refine k_iload_n h 1 dX9_filled_49 rfl rfl ?_
      refine k_imul h dX9_filled_50 ?_
      refine k_iload_n h 2 dX9_filled_51 rfl rfl ?_
      refine k_if_ge (tgt := 60) h dX9_filled_52 (by decide) ?_ ?_
      · refine k_iload_n h 2 dX9_filled_60 rfl rfl ?_
        refine k_iadd h dX9_filled_61 ?_
        refine k_alF h dX9_filled_62 (fun v12 => ?_)
        exact k_fret h rfl dX9_filled_63 (Nat.le_of_ble_eq_true rfl) (Nat.le_of_ble_eq_true rfl)
      · refine k_iload h 3 dX9_filled_55 rfl ?_
        refine k_goto (tgt := 61) h dX9_filled_57 (by decide) ?_
        refine k_iadd h dX9_filled_61 ?_
        refine k_alF h dX9_filled_62 (fun v13 => ?_)
        exact k_fret h rfl dX9_filled_63 (Nat.le_of_ble_eq_true rfl) (Nat.le_of_ble_eq_true rfl)
    · refine k_if_lt (tgt := 43) h dX9_filled_29 (by decide) ?_ ?_
      · refine k_sub (lv' := [(0, LR (some a0)), (1, LI p1), (3, LI v1), (4, LI v3)]) h [0, 1, 2, 3] rfl ?_
        exact hj10 () s6
      · refine k_iload h 3 dX9_filled_32 rfl ?_
        refine k_if_lt (tgt := 43) h dX9_filled_34 (by decide) ?_ ?_
        · refine k_sub (lv' := [(0, LR (some a0)), (1, LI p1), (3, LI v1), (4, LI v3)]) h [0, 1, 2, 3] rfl ?_
          exact hj10 () s6
        · refine k_iload_n h 2 dX9_filled_37 rfl rfl ?_
          refine k_iload h 3 dX9_filled_38 rfl ?_
          refine k_icmp_ne (tgt := 64) h dX9_filled_40 (by decide) ?_ ?_
          · refine k_aload_n h 0 dX9_filled_64 rfl rfl ?_
            refine k_getR h fX9_1 (Or.inl (mw6 12 rfl)) dX9_filled_65 (fun v14 => ?_)
            refine k_bipush (v := 20) h dX9_filled_68 (by decide) ?_
            refine k_iload_n h 1 dX9_filled_70 rfl rfl ?_
            refine k_imul h dX9_filled_71 ?_
            refine k_iload_n h 2 dX9_filled_72 rfl rfl ?_
            refine k_iadd h dX9_filled_73 ?_
            refine k_alF h dX9_filled_74 (fun v15 => ?_)
            refine k_aload_n h 0 dX9_filled_75 rfl rfl ?_
            refine k_getR h fX9_1 (Or.inl (mw6 12 rfl)) dX9_filled_76 (fun v16 => ?_)
            refine k_bipush (v := 20) h dX9_filled_79 (by decide) ?_
            refine k_iload_n h 1 dX9_filled_81 rfl rfl ?_
            refine k_imul h dX9_filled_82 ?_
            refine k_iload h 3 dX9_filled_83 rfl ?_
            refine k_iadd h dX9_filled_85 ?_
            refine k_alF h dX9_filled_86 (fun v17 => ?_)
            refine k_fadd h dX9_filled_87 (fun v18 => ?_)
            refine k_fconst2 h dX9_filled_88 ?_
            refine k_fdiv h dX9_filled_89 (fun v19 => ?_)
            exact k_fret h rfl dX9_filled_90 (Nat.le_of_ble_eq_true rfl) (Nat.le_of_ble_eq_true rfl)
          · refine k_sub (lv' := [(0, LR (some a0)), (1, LI p1), (3, LI v1), (4, LI v3)]) h [0, 1, 2, 3] rfl ?_
            exact hj10 () s6
  · refine k_if_ge (tgt := 28) h dX9_filled_18 (by decide) ?_ ?_
    · refine k_sub (lv' := [(0, LR (some a0)), (1, LI p1), (3, LI v1), (4, LI v3)]) h [2, 3, 1, 0] rfl ?_
      exact hj7 () s4
    · refine k_iload h 0 dX9_filled_21 rfl ?_
      refine k_if_ge (tgt := 28) h dX9_filled_23 (by decide) ?_ ?_
      · refine k_sub (lv' := [(0, LR (some a0)), (1, LI p1), (3, LI v1), (4, LI v3)]) h [2, 3, 1, 0] rfl ?_
        exact hj7 () s4
      · refine k_fconst0 h dX9_filled_26 ?_
        exact k_fret h rfl dX9_filled_27 (Nat.le_of_ble_eq_true rfl) (Nat.le_of_ble_eq_true rfl)
def mX9_told (a0 : Nat) (p1 : Int32) (p2 : Int32) (s0 : Sg) : Option (Int32 × Sg) :=
cl (mX9_isSheet p1 s0) fun v1 s2 =>
if v1 = 0 then (
some ((-2147483648), s2))
else (
gdR s2 9 0 (some a0) fun v3 =>
alI s2 v3 p1 fun v4 =>
cl (mX9_in (Int32.toInt64 p2) 0 (Int32.toInt64 (v4 - 1)) s2) fun v5 s6 =>
if ¬ v5 = 0 then (
cv s6 9 (some a0) fun a10 => cl (mX9_filled a10 p1 p2 s6) fun v7 s8 =>
ckN (FP.fmul v7 1148846080) fun v9 =>
some ((FP.f2i v9), s8))
else (
some ((-2147483648), s6)))
def rmX9_told : Room := { frames := 2, cells := 0, slots := 0, locals := 48 }
theorem calX9_told : Cal yX9_told cX9_told 3 (some .int) 2 := ⟨(mw11 13 rfl), (mw1 5 rfl), by decide, by decide, by decide +kernel⟩
set_option maxHeartbeats 4000000 in
set_option maxRecDepth 100000 in
theorem ctX9_told (l : Launch) (B : Nat) (D : va_G) (cA : Nat → ClassId) (sa : Nat → Nat) (a0 : Nat) (p1 : Int32) (p2 : Int32) (s0 : Sg) : Ct l B D cA sa yX9_told cX9_told 3 (some .int) rmX9_told rI [LR (some a0), LI p1, LI p2] s0 0 0 (mX9_told a0 p1 p2 s0) := by
  refine Ct.of (own := RX9) (by decide) rfl _ (Nat.le_of_ble_eq_true rfl) rfl ?_
  intro p e s m args below meth c h hi
  unfold mX9_told
  refine k_iload_n h 1 dX9_told_0 rfl rfl ?_
  refine k_callSI (As := [LI p1]) (st := []) h (ctX9_isSheet l B D cA sa p1 s0) calX9_isSheet (mw8 21 rfl) (Or.inl (mw8 20 rfl)) hgood ⟨rfl, rfl, Nat.le_of_ble_eq_true rfl, Nat.le_of_ble_eq_true rfl⟩ ⟨Nat.le_of_ble_eq_true rfl, Nat.le_of_ble_eq_true rfl⟩ rfl (Nat.le_of_ble_eq_true rfl) dX9_told_1 (fun v1 s2 => ?_)
  refine k_if_eq (tgt := 25) h dX9_told_4 (by decide) ?_ ?_
  · refine k_ldc (v := (-2147483648)) h dX9_told_25 (mw11 14 rfl) ?_
    exact k_iret h rfl dX9_told_27 (Nat.le_of_ble_eq_true rfl) (Nat.le_of_ble_eq_true rfl)
  · refine k_iload_n h 2 dX9_told_7 rfl rfl ?_
    refine k_i2l h dX9_told_8 ?_
    refine k_lconst (v := 0) h dX9_told_9 (by decide) ?_
    refine k_aload_n h 0 dX9_told_10 rfl rfl ?_
    refine k_getR h fX9_0 (Or.inl (mw6 11 rfl)) dX9_told_11 (fun v3 => ?_)
    refine k_iload_n h 1 dX9_told_14 rfl rfl ?_
    refine k_alI h dX9_told_15 (fun v4 => ?_)
    refine k_iconst (v := 1) h dX9_told_16 (by decide) ?_
    refine k_isub h dX9_told_17 ?_
    refine k_i2l h dX9_told_18 ?_
    refine k_callSI (As := [LL (Int32.toInt64 p2), LL 0, LL (Int32.toInt64 (v4 - 1))]) (st := []) h (ctX9_in l B D cA sa (Int32.toInt64 p2) 0 (Int32.toInt64 (v4 - 1)) s2) calX9_in (mw9 1 rfl) (Or.inl (mw9 0 rfl)) hgood ⟨rfl, rfl, Nat.le_of_ble_eq_true rfl, Nat.le_of_ble_eq_true rfl⟩ ⟨Nat.le_of_ble_eq_true rfl, Nat.le_of_ble_eq_true rfl⟩ rfl (Nat.le_of_ble_eq_true rfl) dX9_told_19 (fun v5 s6 => ?_)
    refine k_if_ne (tgt := 28) h dX9_told_22 (by decide) ?_ ?_
    · refine k_aload_n h 0 dX9_told_28 rfl rfl ?_
      refine k_iload_n h 1 dX9_told_29 rfl rfl ?_
      refine k_iload_n h 2 dX9_told_30 rfl rfl ?_
      refine k_callVF (As := [LI p1, LI p2]) (st := []) (x0 := (some a0)) (xg := fun a10 => mX9_filled a10 p1 p2 s6) h (fun a10 => ctX9_filled l B D cA sa a10 p1 p2 s6) calX9_filled rfl (by decide) (mw11 17 rfl) (mw11 18 rfl) (Or.inl (mw11 16 rfl)) hgood ⟨rfl, rfl, Nat.le_of_ble_eq_true rfl, Nat.le_of_ble_eq_true rfl⟩ ⟨Nat.le_of_ble_eq_true rfl, Nat.le_of_ble_eq_true rfl⟩ rfl (Nat.le_of_ble_eq_true rfl) dX9_told_31 (fun v7 s8 => ?_)
      refine k_ldcf (v := 1148846080) h dX9_told_34 (mw11 15 rfl) ?_
      refine k_fmul h dX9_told_36 (fun v9 => ?_)
      refine k_f2i h dX9_told_37 ?_
      exact k_iret h rfl dX9_told_38 (Nat.le_of_ble_eq_true rfl) (Nat.le_of_ble_eq_true rfl)
    · refine k_ldc (v := (-2147483648)) h dX9_told_25 (mw11 14 rfl) ?_
      exact k_iret h rfl dX9_told_27 (Nat.le_of_ble_eq_true rfl) (Nat.le_of_ble_eq_true rfl)
def mX9_tenTimes (a0 : Nat) (p1 : Int32) (p2 : Int32) (s0 : Sg) : Option (Int32 × Sg) :=
gdR s0 9 0 (some a0) fun v1 =>
alI s0 v1 p1 fun v2 =>
jn (fun (q3 : Int32) (s4 : Sg) =>
cv s4 9 (some a0) fun a9 => cl (mX9_filled a9 p1 q3 s4) fun v6 s7 =>
ckN (FP.fmul v6 1092616192) fun v8 =>
some ((FP.f2i v8), s7)) (fun j5 =>
if v2 ≤ p2 then (
gdR s0 9 0 (some a0) fun v10 =>
alI s0 v10 p1 fun v11 =>
j5 (v11 - 1) s0)
else (
j5 p2 s0))
def rmX9_tenTimes : Room := { frames := 2, cells := 0, slots := 0, locals := 48 }
theorem calX9_tenTimes : Cal yX9_tenTimes cX9_tenTimes 4 (some .int) 2 := ⟨(mw13 7 rfl), (mw1 5 rfl), by decide, by decide, by decide +kernel⟩
set_option maxHeartbeats 4000000 in
set_option maxRecDepth 100000 in
theorem ctX9_tenTimes (l : Launch) (B : Nat) (D : va_G) (cA : Nat → ClassId) (sa : Nat → Nat) (a0 : Nat) (p1 : Int32) (p2 : Int32) (s0 : Sg) : Ct l B D cA sa yX9_tenTimes cX9_tenTimes 4 (some .int) rmX9_tenTimes rI [LR (some a0), LI p1, LI p2] s0 0 0 (mX9_tenTimes a0 p1 p2 s0) := by
  refine Ct.of (own := RX9) (by decide) rfl _ (Nat.le_of_ble_eq_true rfl) rfl ?_
  intro p e s m args below meth c h hi
  unfold mX9_tenTimes
  refine k_iload_n h 2 dX9_tenTimes_0 rfl rfl ?_
  refine k_aload_n h 0 dX9_tenTimes_1 rfl rfl ?_
  refine k_getR h fX9_0 (Or.inl (mw6 11 rfl)) dX9_tenTimes_2 (fun v1 => ?_)
  refine k_iload_n h 1 dX9_tenTimes_5 rfl rfl ?_
  refine k_alI h dX9_tenTimes_6 (fun v2 => ?_)
  refine k_jn (A := Int32) (J := 22) (fun q3 => [(0, LR (some a0)), (1, LI p1)]) (fun q3 => [LI q3]) (fun q3 s4 => ?_) (fun j5 hj5 => ?_)
  · refine k_istore_n (lv' := [(3, LI q3), (0, LR (some a0)), (1, LI p1)]) h dX9_tenTimes_22 rfl (by decide) rfl ?_
    refine k_aload_n h 1 dX9_tenTimes_23 rfl rfl ?_
    refine k_iload_n h 2 dX9_tenTimes_24 rfl rfl ?_
    refine k_iload_n h 0 dX9_tenTimes_25 rfl rfl ?_
    refine k_callVF (As := [LI p1, LI q3]) (st := []) (x0 := (some a0)) (xg := fun a9 => mX9_filled a9 p1 q3 s4) h (fun a9 => ctX9_filled l B D cA sa a9 p1 q3 s4) calX9_filled rfl (by decide) (mw11 17 rfl) (mw11 18 rfl) (Or.inl (mw11 16 rfl)) hgood ⟨rfl, rfl, Nat.le_of_ble_eq_true rfl, Nat.le_of_ble_eq_true rfl⟩ ⟨Nat.le_of_ble_eq_true rfl, Nat.le_of_ble_eq_true rfl⟩ rfl (Nat.le_of_ble_eq_true rfl) dX9_tenTimes_26 (fun v6 s7 => ?_)
    refine k_ldcf (v := 1092616192) h dX9_tenTimes_29 (mw13 8 rfl) ?_
    refine k_fmul h dX9_tenTimes_31 (fun v8 => ?_)
    refine k_f2i h dX9_tenTimes_32 ?_
    exact k_iret h rfl dX9_tenTimes_33 (Nat.le_of_ble_eq_true rfl) (Nat.le_of_ble_eq_true rfl)
  · refine k_icmp_ge (tgt := 14) h dX9_tenTimes_7 (by decide) ?_ ?_
    · refine k_aload_n h 0 dX9_tenTimes_14 rfl rfl ?_
      refine k_getR h fX9_0 (Or.inl (mw6 11 rfl)) dX9_tenTimes_15 (fun v10 => ?_)
      refine k_iload_n h 1 dX9_tenTimes_18 rfl rfl ?_
      refine k_alI h dX9_tenTimes_19 (fun v11 => ?_)
      refine k_iconst (v := 1) h dX9_tenTimes_20 (by decide) ?_
      refine k_isub h dX9_tenTimes_21 ?_
      refine k_sub (lv' := [(0, LR (some a0)), (1, LI p1)]) h [0, 1] rfl ?_
      exact hj5 (v11 - 1) s0
    · refine k_iload_n h 2 dX9_tenTimes_10 rfl rfl ?_
      refine k_goto (tgt := 22) h dX9_tenTimes_11 (by decide) ?_
      refine k_sub (lv' := [(0, LR (some a0)), (1, LI p1)]) h [0, 1] rfl ?_
      exact hj5 p2 s0
def mX9_winds_b136 (a0 : Nat) (p1 : Int32) (p2 : Int32) (r19 : (Int32) → Sg → Option (Int32 × Sg)) (q17 : Int32) (s18 : Sg) : Option (Int32 × Sg) :=
if 12 ≤ q17 then (
some (1, s18))
else (
gdR s18 9 3 (some a0) fun v20 =>
cv s18 9 (some a0) fun a29 => cl (mX9_tenTimes a29 p1 q17 s18) fun v21 s22 =>
asI s22 v20 q17 v21 fun s23 =>
gdR s23 9 4 (some a0) fun v24 =>
cv s23 9 (some a0) fun a28 => cl (mX9_tenTimes a28 p2 q17 s23) fun v25 s26 =>
asI s26 v24 q17 v25 fun s27 =>
r19 (q17 + 1) s27)
def mX9_winds_b64 (a0 : Nat) (p1 : Int32) (p2 : Int32) (r13 : (Int32 × Int32) → Sg → Option (Int32 × Sg)) (q11 : Int32 × Int32) (s12 : Sg) : Option (Int32 × Sg) :=
jn (fun (q14 : Unit) (s15 : Sg) =>
if ¬ q11.1 = 0 then (
lp (mX9_winds_b136 a0 p1 p2) FU 0 s15)
else (
some ((-1), s15))) (fun j16 =>
if 12 ≤ q11.2 then (
j16 () s12)
else (
if q11.1 = 0 then (
j16 () s12)
else (
cv s12 9 (some a0) fun a40 => cl (mX9_tenTimes a40 p1 q11.2 s12) fun v31 s32 =>
cl (mX9_in (Int32.toInt64 v31) (-300) 300 s32) fun v33 s34 =>
if v33 = 0 then (
r13 (0, (q11.2 + 1)) s34)
else (
cv s34 9 (some a0) fun a39 => cl (mX9_tenTimes a39 p2 q11.2 s34) fun v35 s36 =>
cl (mX9_in (Int32.toInt64 v35) (-300) 300 s36) fun v37 s38 =>
if v37 = 0 then (
r13 (0, (q11.2 + 1)) s38)
else (
r13 (1, (q11.2 + 1)) s38)))))
def mX9_winds_b136_ (a0 : Nat) (p1 : Int32) (p2 : Int32) (r52 : (Int32) → Sg → Option (Int32 × Sg)) (q50 : Int32) (s51 : Sg) : Option (Int32 × Sg) :=
if 12 ≤ q50 then (
some (1, s51))
else (
gdR s51 9 3 (some a0) fun v53 =>
cv s51 9 (some a0) fun a62 => cl (mX9_tenTimes a62 p1 q50 s51) fun v54 s55 =>
asI s55 v53 q50 v54 fun s56 =>
gdR s56 9 4 (some a0) fun v57 =>
cv s56 9 (some a0) fun a61 => cl (mX9_tenTimes a61 p2 q50 s56) fun v58 s59 =>
asI s59 v57 q50 v58 fun s60 =>
r52 (q50 + 1) s60)
def mX9_winds_b64_ (a0 : Nat) (p1 : Int32) (p2 : Int32) (r46 : (Int32 × Int32) → Sg → Option (Int32 × Sg)) (q44 : Int32 × Int32) (s45 : Sg) : Option (Int32 × Sg) :=
jn (fun (q47 : Unit) (s48 : Sg) =>
if ¬ q44.1 = 0 then (
lp (mX9_winds_b136_ a0 p1 p2) FU 0 s48)
else (
some ((-1), s48))) (fun j49 =>
if 12 ≤ q44.2 then (
j49 () s45)
else (
if q44.1 = 0 then (
j49 () s45)
else (
cv s45 9 (some a0) fun a73 => cl (mX9_tenTimes a73 p1 q44.2 s45) fun v64 s65 =>
cl (mX9_in (Int32.toInt64 v64) (-300) 300 s65) fun v66 s67 =>
if v66 = 0 then (
r46 (0, (q44.2 + 1)) s67)
else (
cv s67 9 (some a0) fun a72 => cl (mX9_tenTimes a72 p2 q44.2 s67) fun v68 s69 =>
cl (mX9_in (Int32.toInt64 v68) (-300) 300 s69) fun v70 s71 =>
if v70 = 0 then (
r46 (0, (q44.2 + 1)) s71)
else (
r46 (1, (q44.2 + 1)) s71)))))
def mX9_winds_b136__ (a0 : Nat) (p1 : Int32) (p2 : Int32) (r83 : (Int32) → Sg → Option (Int32 × Sg)) (q81 : Int32) (s82 : Sg) : Option (Int32 × Sg) :=
if 12 ≤ q81 then (
some (1, s82))
else (
gdR s82 9 3 (some a0) fun v84 =>
cv s82 9 (some a0) fun a93 => cl (mX9_tenTimes a93 p1 q81 s82) fun v85 s86 =>
asI s86 v84 q81 v85 fun s87 =>
gdR s87 9 4 (some a0) fun v88 =>
cv s87 9 (some a0) fun a92 => cl (mX9_tenTimes a92 p2 q81 s87) fun v89 s90 =>
asI s90 v88 q81 v89 fun s91 =>
r83 (q81 + 1) s91)
def mX9_winds_b64__ (a0 : Nat) (p1 : Int32) (p2 : Int32) (r77 : (Int32 × Int32) → Sg → Option (Int32 × Sg)) (q75 : Int32 × Int32) (s76 : Sg) : Option (Int32 × Sg) :=
jn (fun (q78 : Unit) (s79 : Sg) =>
if ¬ q75.1 = 0 then (
lp (mX9_winds_b136__ a0 p1 p2) FU 0 s79)
else (
some ((-1), s79))) (fun j80 =>
if 12 ≤ q75.2 then (
j80 () s76)
else (
if q75.1 = 0 then (
j80 () s76)
else (
cv s76 9 (some a0) fun a104 => cl (mX9_tenTimes a104 p1 q75.2 s76) fun v95 s96 =>
cl (mX9_in (Int32.toInt64 v95) (-300) 300 s96) fun v97 s98 =>
if v97 = 0 then (
r77 (0, (q75.2 + 1)) s98)
else (
cv s98 9 (some a0) fun a103 => cl (mX9_tenTimes a103 p2 q75.2 s98) fun v99 s100 =>
cl (mX9_in (Int32.toInt64 v99) (-300) 300 s100) fun v101 s102 =>
if v101 = 0 then (
r77 (0, (q75.2 + 1)) s102)
else (
r77 (1, (q75.2 + 1)) s102)))))
def mX9_winds (a0 : Nat) (p1 : Int32) (p2 : Int32) (s0 : Sg) : Option (Int32 × Sg) :=
cl (mX9_isSheet p1 s0) fun v1 s2 =>
if v1 = 0 then (
some ((-1), s2))
else (
cl (mX9_isSheet p2 s2) fun v3 s4 =>
if ¬ v3 = 0 then (
gdR s4 9 0 (some a0) fun v5 =>
alI s4 v5 p1 fun v6 =>
if v6 < 0 then (
some ((-3), s4))
else (
gdR s4 9 0 (some a0) fun v7 =>
alI s4 v7 p2 fun v8 =>
if 0 ≤ v8 then (
gdR s4 9 0 (some a0) fun v9 =>
alI s4 v9 p1 fun v10 =>
if v10 ≤ 0 then (
lp (mX9_winds_b64 a0 p1 p2) FU (0, 0) s4)
else (
gdR s4 9 0 (some a0) fun v42 =>
alI s4 v42 p2 fun v43 =>
if v43 ≤ 0 then (
lp (mX9_winds_b64_ a0 p1 p2) FU (0, 0) s4)
else (
lp (mX9_winds_b64__ a0 p1 p2) FU (1, 0) s4)))
else (
some ((-3), s4))))
else (
some ((-1), s4)))
def rmX9_winds : Room := { frames := 3, cells := 0, slots := 0, locals := 71 }
theorem calX9_winds : Cal yX9_winds cX9_winds 5 (some .int) 2 := ⟨(mw13 1 rfl), (mw1 5 rfl), by decide, by decide, by decide +kernel⟩
set_option maxHeartbeats 4000000 in
set_option maxRecDepth 100000 in
theorem ctX9_winds (l : Launch) (B : Nat) (D : va_G) (cA : Nat → ClassId) (sa : Nat → Nat) (a0 : Nat) (p1 : Int32) (p2 : Int32) (s0 : Sg) : Ct l B D cA sa yX9_winds cX9_winds 5 (some .int) rmX9_winds rI [LR (some a0), LI p1, LI p2] s0 0 0 (mX9_winds a0 p1 p2 s0) := by
  refine Ct.of (own := RX9) (by decide) rfl _ (Nat.le_of_ble_eq_true rfl) rfl ?_
  intro p e s m args below meth c h hi
  unfold mX9_winds
  refine k_iload_n h 1 dX9_winds_0 rfl rfl ?_
  refine k_callSI (As := [LI p1]) (st := []) h (ctX9_isSheet l B D cA sa p1 s0) calX9_isSheet (mw8 21 rfl) (Or.inl (mw8 20 rfl)) hgood ⟨rfl, rfl, Nat.le_of_ble_eq_true rfl, Nat.le_of_ble_eq_true rfl⟩ ⟨Nat.le_of_ble_eq_true rfl, Nat.le_of_ble_eq_true rfl⟩ rfl (Nat.le_of_ble_eq_true rfl) dX9_winds_1 (fun v1 s2 => ?_)
  refine k_if_eq (tgt := 14) h dX9_winds_4 (by decide) ?_ ?_
  · refine k_iconst (v := (-1)) h dX9_winds_14 (by decide) ?_
    exact k_iret h rfl dX9_winds_15 (Nat.le_of_ble_eq_true rfl) (Nat.le_of_ble_eq_true rfl)
  · refine k_iload_n h 2 dX9_winds_7 rfl rfl ?_
    refine k_callSI (As := [LI p2]) (st := []) h (ctX9_isSheet l B D cA sa p2 s2) calX9_isSheet (mw8 21 rfl) (Or.inl (mw8 20 rfl)) hgood ⟨rfl, rfl, Nat.le_of_ble_eq_true rfl, Nat.le_of_ble_eq_true rfl⟩ ⟨Nat.le_of_ble_eq_true rfl, Nat.le_of_ble_eq_true rfl⟩ rfl (Nat.le_of_ble_eq_true rfl) dX9_winds_8 (fun v3 s4 => ?_)
    refine k_if_ne (tgt := 16) h dX9_winds_11 (by decide) ?_ ?_
    · refine k_aload_n h 0 dX9_winds_16 rfl rfl ?_
      refine k_getR h fX9_0 (Or.inl (mw6 11 rfl)) dX9_winds_17 (fun v5 => ?_)
      refine k_iload_n h 1 dX9_winds_20 rfl rfl ?_
      refine k_alI h dX9_winds_21 (fun v6 => ?_)
      refine k_if_lt (tgt := 34) h dX9_winds_22 (by decide) ?_ ?_
      · refine k_bipush (v := (-3)) h dX9_winds_34 (by decide) ?_
        exact k_iret h rfl dX9_winds_36 (Nat.le_of_ble_eq_true rfl) (Nat.le_of_ble_eq_true rfl)
      · refine k_aload_n h 0 dX9_winds_25 rfl rfl ?_
        refine k_getR h fX9_0 (Or.inl (mw6 11 rfl)) dX9_winds_26 (fun v7 => ?_)
        refine k_iload_n h 2 dX9_winds_29 rfl rfl ?_
        refine k_alI h dX9_winds_30 (fun v8 => ?_)
        refine k_if_ge (tgt := 37) h dX9_winds_31 (by decide) ?_ ?_
        · refine k_aload_n h 0 dX9_winds_37 rfl rfl ?_
          refine k_getR h fX9_0 (Or.inl (mw6 11 rfl)) dX9_winds_38 (fun v9 => ?_)
          refine k_iload_n h 1 dX9_winds_41 rfl rfl ?_
          refine k_alI h dX9_winds_42 (fun v10 => ?_)
          refine k_if_le (tgt := 59) h dX9_winds_43 (by decide) ?_ ?_
          · refine k_iconst (v := 0) h dX9_winds_59 (by decide) ?_
            refine k_istore_n (lv' := [(3, LI 0), (0, LR (some a0)), (1, LI p1), (2, LI p2)]) h dX9_winds_60 rfl (by decide) rfl ?_
            refine k_iconst (v := 0) h dX9_winds_61 (by decide) ?_
            refine k_istore (lv' := [(4, LI 0), (3, LI 0), (0, LR (some a0)), (1, LI p1), (2, LI p2)]) h dX9_winds_62 (by decide) rfl ?_
            refine k_sub (lv' := [(0, LR (some a0)), (1, LI p1), (2, LI p2), (3, LI 0), (4, LI 0)]) h [2, 3, 4, 1, 0] rfl ?_
            refine k_lp (A := Int32 × Int32) (fun q11 => [(0, LR (some a0)), (1, LI p1), (2, LI p2), (3, LI q11.1), (4, LI q11.2)]) (fun q11 => []) (fun r13 hr13 q11 s12 => ?_) FU (0, 0) s4
            unfold mX9_winds_b64
            refine k_iload h 4 dX9_winds_64 rfl ?_
            refine k_bipush (v := 12) h dX9_winds_66 (by decide) ?_
            refine k_jn (A := Unit) (J := 127) (fun q14 => [(0, LR (some a0)), (1, LI p1), (2, LI p2), (3, LI q11.1)]) (fun q14 => []) (fun q14 s15 => ?_) (fun j16 hj16 => ?_)
            · refine k_iload_n h 3 dX9_winds_127 rfl rfl ?_
              refine k_if_ne (tgt := 133) h dX9_winds_128 (by decide) ?_ ?_
              · refine k_iconst (v := 0) h dX9_winds_133 (by decide) ?_
                refine k_istore (lv' := [(4, LI 0), (0, LR (some a0)), (1, LI p1), (2, LI p2), (3, LI q11.1)]) h dX9_winds_134 (by decide) rfl ?_
                refine k_sub (lv' := [(0, LR (some a0)), (1, LI p1), (2, LI p2), (4, LI 0)]) h [1, 2, 3, 0] rfl ?_
                refine k_lp (A := Int32) (fun q17 => [(0, LR (some a0)), (1, LI p1), (2, LI p2), (4, LI q17)]) (fun q17 => []) (fun r19 hr19 q17 s18 => ?_) FU 0 s15
                unfold mX9_winds_b136
                refine k_iload h 3 dX9_winds_136 rfl ?_
                refine k_bipush (v := 12) h dX9_winds_138 (by decide) ?_
                refine k_icmp_ge (tgt := 177) h dX9_winds_140 (by decide) ?_ ?_
                · refine k_iconst (v := 1) h dX9_winds_177 (by decide) ?_
                  exact k_iret h rfl dX9_winds_178 (Nat.le_of_ble_eq_true rfl) (Nat.le_of_ble_eq_true rfl)
                · refine k_aload_n h 0 dX9_winds_143 rfl rfl ?_
                  refine k_getR h fX9_3 (Or.inl (mw6 14 rfl)) dX9_winds_144 (fun v20 => ?_)
                  refine k_iload h 3 dX9_winds_147 rfl ?_
                  refine k_aload_n h 0 dX9_winds_149 rfl rfl ?_
                  refine k_iload_n h 1 dX9_winds_150 rfl rfl ?_
                  refine k_iload h 3 dX9_winds_151 rfl ?_
                  refine k_callVI (As := [LI p1, LI q17]) (st := [LI q17, LR v20]) (x0 := (some a0)) (xg := fun a29 => mX9_tenTimes a29 p1 q17 s18) h (fun a29 => ctX9_tenTimes l B D cA sa a29 p1 q17 s18) calX9_tenTimes rfl (by decide) (mw13 5 rfl) (mw13 6 rfl) (Or.inl (mw13 4 rfl)) hgood ⟨rfl, rfl, Nat.le_of_ble_eq_true rfl, Nat.le_of_ble_eq_true rfl⟩ ⟨Nat.le_of_ble_eq_true rfl, Nat.le_of_ble_eq_true rfl⟩ rfl (Nat.le_of_ble_eq_true rfl) dX9_winds_153 (fun v21 s22 => ?_)
                  refine k_asI h dX9_winds_156 (fun s23 => ?_)
                  refine k_aload_n h 0 dX9_winds_157 rfl rfl ?_
                  refine k_getR h fX9_4 (Or.inl (mw6 15 rfl)) dX9_winds_158 (fun v24 => ?_)
                  refine k_iload h 3 dX9_winds_161 rfl ?_
                  refine k_aload_n h 0 dX9_winds_163 rfl rfl ?_
                  refine k_iload_n h 2 dX9_winds_164 rfl rfl ?_
                  refine k_iload h 3 dX9_winds_165 rfl ?_
                  refine k_callVI (As := [LI p2, LI q17]) (st := [LI q17, LR v24]) (x0 := (some a0)) (xg := fun a28 => mX9_tenTimes a28 p2 q17 s23) h (fun a28 => ctX9_tenTimes l B D cA sa a28 p2 q17 s23) calX9_tenTimes rfl (by decide) (mw13 5 rfl) (mw13 6 rfl) (Or.inl (mw13 4 rfl)) hgood ⟨rfl, rfl, Nat.le_of_ble_eq_true rfl, Nat.le_of_ble_eq_true rfl⟩ ⟨Nat.le_of_ble_eq_true rfl, Nat.le_of_ble_eq_true rfl⟩ rfl (Nat.le_of_ble_eq_true rfl) dX9_winds_167 (fun v25 s26 => ?_)
                  refine k_asI h dX9_winds_170 (fun s27 => ?_)
                  refine k_iinc (w := (q17 + 1)) (lv' := [(4, LI (q17 + 1)), (0, LR (some a0)), (1, LI p1), (2, LI p2)]) h 3 dX9_winds_171 rfl rfl (by decide) rfl ?_
                  refine k_goto (tgt := 136) h dX9_winds_174 (by decide) ?_
                  refine k_sub (lv' := [(0, LR (some a0)), (1, LI p1), (2, LI p2), (4, LI (q17 + 1))]) h [1, 2, 3, 0] rfl ?_
                  exact hr19 (q17 + 1) s27
              · refine k_iconst (v := (-1)) h dX9_winds_131 (by decide) ?_
                exact k_iret h rfl dX9_winds_132 (Nat.le_of_ble_eq_true rfl) (Nat.le_of_ble_eq_true rfl)
            · refine k_icmp_ge (tgt := 127) h dX9_winds_68 (by decide) ?_ ?_
              · refine k_sub (lv' := [(0, LR (some a0)), (1, LI p1), (2, LI p2), (3, LI q11.1)]) h [0, 1, 2, 3] rfl ?_
                exact hj16 () s12
              · refine k_iload_n h 3 dX9_winds_71 rfl rfl ?_
                refine k_if_eq (tgt := 127) h dX9_winds_72 (by decide) ?_ ?_
                · refine k_sub (lv' := [(0, LR (some a0)), (1, LI p1), (2, LI p2), (3, LI q11.1)]) h [0, 1, 2, 3] rfl ?_
                  exact hj16 () s12
                · refine k_aload_n h 0 dX9_winds_75 rfl rfl ?_
                  refine k_iload_n h 1 dX9_winds_76 rfl rfl ?_
                  refine k_iload h 4 dX9_winds_77 rfl ?_
                  refine k_callVI (As := [LI p1, LI q11.2]) (st := []) (x0 := (some a0)) (xg := fun a40 => mX9_tenTimes a40 p1 q11.2 s12) h (fun a40 => ctX9_tenTimes l B D cA sa a40 p1 q11.2 s12) calX9_tenTimes rfl (by decide) (mw13 5 rfl) (mw13 6 rfl) (Or.inl (mw13 4 rfl)) hgood ⟨rfl, rfl, Nat.le_of_ble_eq_true rfl, Nat.le_of_ble_eq_true rfl⟩ ⟨Nat.le_of_ble_eq_true rfl, Nat.le_of_ble_eq_true rfl⟩ rfl (Nat.le_of_ble_eq_true rfl) dX9_winds_79 (fun v31 s32 => ?_)
                  refine k_i2l h dX9_winds_82 ?_
                  refine k_ldc2_w (v := (-300)) h dX9_winds_83 (mw13 2 rfl) ?_
                  refine k_ldc2_w (v := 300) h dX9_winds_86 (mw13 3 rfl) ?_
                  refine k_callSI (As := [LL (Int32.toInt64 v31), LL (-300), LL 300]) (st := []) h (ctX9_in l B D cA sa (Int32.toInt64 v31) (-300) 300 s32) calX9_in (mw9 1 rfl) (Or.inl (mw9 0 rfl)) hgood ⟨rfl, rfl, Nat.le_of_ble_eq_true rfl, Nat.le_of_ble_eq_true rfl⟩ ⟨Nat.le_of_ble_eq_true rfl, Nat.le_of_ble_eq_true rfl⟩ rfl (Nat.le_of_ble_eq_true rfl) dX9_winds_89 (fun v33 s34 => ?_)
                  refine k_if_eq (tgt := 119) h dX9_winds_92 (by decide) ?_ ?_
                  · refine k_iconst (v := 0) h dX9_winds_119 (by decide) ?_
                    refine k_istore_n (lv' := [(3, LI 0), (0, LR (some a0)), (1, LI p1), (2, LI p2), (4, LI q11.2)]) h dX9_winds_120 rfl (by decide) rfl ?_
                    refine k_iinc (w := (q11.2 + 1)) (lv' := [(4, LI (q11.2 + 1)), (3, LI 0), (0, LR (some a0)), (1, LI p1), (2, LI p2)]) h 4 dX9_winds_121 rfl rfl (by decide) rfl ?_
                    refine k_goto (tgt := 64) h dX9_winds_124 (by decide) ?_
                    refine k_sub (lv' := [(0, LR (some a0)), (1, LI p1), (2, LI p2), (3, LI 0), (4, LI (q11.2 + 1))]) h [2, 3, 4, 1, 0] rfl ?_
                    exact hr13 (0, (q11.2 + 1)) s34
                  · refine k_aload_n h 0 dX9_winds_95 rfl rfl ?_
                    refine k_iload_n h 2 dX9_winds_96 rfl rfl ?_
                    refine k_iload h 4 dX9_winds_97 rfl ?_
                    refine k_callVI (As := [LI p2, LI q11.2]) (st := []) (x0 := (some a0)) (xg := fun a39 => mX9_tenTimes a39 p2 q11.2 s34) h (fun a39 => ctX9_tenTimes l B D cA sa a39 p2 q11.2 s34) calX9_tenTimes rfl (by decide) (mw13 5 rfl) (mw13 6 rfl) (Or.inl (mw13 4 rfl)) hgood ⟨rfl, rfl, Nat.le_of_ble_eq_true rfl, Nat.le_of_ble_eq_true rfl⟩ ⟨Nat.le_of_ble_eq_true rfl, Nat.le_of_ble_eq_true rfl⟩ rfl (Nat.le_of_ble_eq_true rfl) dX9_winds_99 (fun v35 s36 => ?_)
                    refine k_i2l h dX9_winds_102 ?_
                    refine k_ldc2_w (v := (-300)) h dX9_winds_103 (mw13 2 rfl) ?_
                    refine k_ldc2_w (v := 300) h dX9_winds_106 (mw13 3 rfl) ?_
                    refine k_callSI (As := [LL (Int32.toInt64 v35), LL (-300), LL 300]) (st := []) h (ctX9_in l B D cA sa (Int32.toInt64 v35) (-300) 300 s36) calX9_in (mw9 1 rfl) (Or.inl (mw9 0 rfl)) hgood ⟨rfl, rfl, Nat.le_of_ble_eq_true rfl, Nat.le_of_ble_eq_true rfl⟩ ⟨Nat.le_of_ble_eq_true rfl, Nat.le_of_ble_eq_true rfl⟩ rfl (Nat.le_of_ble_eq_true rfl) dX9_winds_109 (fun v37 s38 => ?_)
                    refine k_if_eq (tgt := 119) h dX9_winds_112 (by decide) ?_ ?_
                    · refine k_iconst (v := 0) h dX9_winds_119 (by decide) ?_
                      refine k_istore_n (lv' := [(3, LI 0), (0, LR (some a0)), (1, LI p1), (2, LI p2), (4, LI q11.2)]) h dX9_winds_120 rfl (by decide) rfl ?_
                      refine k_iinc (w := (q11.2 + 1)) (lv' := [(4, LI (q11.2 + 1)), (3, LI 0), (0, LR (some a0)), (1, LI p1), (2, LI p2)]) h 4 dX9_winds_121 rfl rfl (by decide) rfl ?_
                      refine k_goto (tgt := 64) h dX9_winds_124 (by decide) ?_
                      refine k_sub (lv' := [(0, LR (some a0)), (1, LI p1), (2, LI p2), (3, LI 0), (4, LI (q11.2 + 1))]) h [2, 3, 4, 1, 0] rfl ?_
                      exact hr13 (0, (q11.2 + 1)) s38
                    · refine k_iconst (v := 1) h dX9_winds_115 (by decide) ?_
                      refine k_goto (tgt := 120) h dX9_winds_116 (by decide) ?_
                      refine k_istore_n (lv' := [(3, LI 1), (0, LR (some a0)), (1, LI p1), (2, LI p2), (4, LI q11.2)]) h dX9_winds_120 rfl (by decide) rfl ?_
                      refine k_iinc (w := (q11.2 + 1)) (lv' := [(4, LI (q11.2 + 1)), (3, LI 1), (0, LR (some a0)), (1, LI p1), (2, LI p2)]) h 4 dX9_winds_121 rfl rfl (by decide) rfl ?_
                      refine k_goto (tgt := 64) h dX9_winds_124 (by decide) ?_
                      refine k_sub (lv' := [(0, LR (some a0)), (1, LI p1), (2, LI p2), (3, LI 1), (4, LI (q11.2 + 1))]) h [2, 3, 4, 1, 0] rfl ?_
                      exact hr13 (1, (q11.2 + 1)) s38
          · refine k_aload_n h 0 dX9_winds_46 rfl rfl ?_
            refine k_getR h fX9_0 (Or.inl (mw6 11 rfl)) dX9_winds_47 (fun v42 => ?_)
            refine k_iload_n h 2 dX9_winds_50 rfl rfl ?_
            refine k_alI h dX9_winds_51 (fun v43 => ?_)
            refine k_if_le (tgt := 59) h dX9_winds_52 (by decide) ?_ ?_
            · refine k_iconst (v := 0) h dX9_winds_59 (by decide) ?_
              refine k_istore_n (lv' := [(3, LI 0), (0, LR (some a0)), (1, LI p1), (2, LI p2)]) h dX9_winds_60 rfl (by decide) rfl ?_
              refine k_iconst (v := 0) h dX9_winds_61 (by decide) ?_
              refine k_istore (lv' := [(4, LI 0), (3, LI 0), (0, LR (some a0)), (1, LI p1), (2, LI p2)]) h dX9_winds_62 (by decide) rfl ?_
              refine k_sub (lv' := [(0, LR (some a0)), (1, LI p1), (2, LI p2), (3, LI 0), (4, LI 0)]) h [2, 3, 4, 1, 0] rfl ?_
              refine k_lp (A := Int32 × Int32) (fun q44 => [(0, LR (some a0)), (1, LI p1), (2, LI p2), (3, LI q44.1), (4, LI q44.2)]) (fun q44 => []) (fun r46 hr46 q44 s45 => ?_) FU (0, 0) s4
              unfold mX9_winds_b64_
              refine k_iload h 4 dX9_winds_64 rfl ?_
              refine k_bipush (v := 12) h dX9_winds_66 (by decide) ?_
              refine k_jn (A := Unit) (J := 127) (fun q47 => [(0, LR (some a0)), (1, LI p1), (2, LI p2), (3, LI q44.1)]) (fun q47 => []) (fun q47 s48 => ?_) (fun j49 hj49 => ?_)
              · refine k_iload_n h 3 dX9_winds_127 rfl rfl ?_
                refine k_if_ne (tgt := 133) h dX9_winds_128 (by decide) ?_ ?_
                · refine k_iconst (v := 0) h dX9_winds_133 (by decide) ?_
                  refine k_istore (lv' := [(4, LI 0), (0, LR (some a0)), (1, LI p1), (2, LI p2), (3, LI q44.1)]) h dX9_winds_134 (by decide) rfl ?_
                  refine k_sub (lv' := [(0, LR (some a0)), (1, LI p1), (2, LI p2), (4, LI 0)]) h [1, 2, 3, 0] rfl ?_
                  refine k_lp (A := Int32) (fun q50 => [(0, LR (some a0)), (1, LI p1), (2, LI p2), (4, LI q50)]) (fun q50 => []) (fun r52 hr52 q50 s51 => ?_) FU 0 s48
                  unfold mX9_winds_b136_
                  refine k_iload h 3 dX9_winds_136 rfl ?_
                  refine k_bipush (v := 12) h dX9_winds_138 (by decide) ?_
                  refine k_icmp_ge (tgt := 177) h dX9_winds_140 (by decide) ?_ ?_
                  · refine k_iconst (v := 1) h dX9_winds_177 (by decide) ?_
                    exact k_iret h rfl dX9_winds_178 (Nat.le_of_ble_eq_true rfl) (Nat.le_of_ble_eq_true rfl)
                  · refine k_aload_n h 0 dX9_winds_143 rfl rfl ?_
                    refine k_getR h fX9_3 (Or.inl (mw6 14 rfl)) dX9_winds_144 (fun v53 => ?_)
                    refine k_iload h 3 dX9_winds_147 rfl ?_
                    refine k_aload_n h 0 dX9_winds_149 rfl rfl ?_
                    refine k_iload_n h 1 dX9_winds_150 rfl rfl ?_
                    refine k_iload h 3 dX9_winds_151 rfl ?_
                    refine k_callVI (As := [LI p1, LI q50]) (st := [LI q50, LR v53]) (x0 := (some a0)) (xg := fun a62 => mX9_tenTimes a62 p1 q50 s51) h (fun a62 => ctX9_tenTimes l B D cA sa a62 p1 q50 s51) calX9_tenTimes rfl (by decide) (mw13 5 rfl) (mw13 6 rfl) (Or.inl (mw13 4 rfl)) hgood ⟨rfl, rfl, Nat.le_of_ble_eq_true rfl, Nat.le_of_ble_eq_true rfl⟩ ⟨Nat.le_of_ble_eq_true rfl, Nat.le_of_ble_eq_true rfl⟩ rfl (Nat.le_of_ble_eq_true rfl) dX9_winds_153 (fun v54 s55 => ?_)
                    refine k_asI h dX9_winds_156 (fun s56 => ?_)
                    refine k_aload_n h 0 dX9_winds_157 rfl rfl ?_
                    refine k_getR h fX9_4 (Or.inl (mw6 15 rfl)) dX9_winds_158 (fun v57 => ?_)
                    refine k_iload h 3 dX9_winds_161 rfl ?_
                    refine k_aload_n h 0 dX9_winds_163 rfl rfl ?_
                    refine k_iload_n h 2 dX9_winds_164 rfl rfl ?_
                    refine k_iload h 3 dX9_winds_165 rfl ?_
                    refine k_callVI (As := [LI p2, LI q50]) (st := [LI q50, LR v57]) (x0 := (some a0)) (xg := fun a61 => mX9_tenTimes a61 p2 q50 s56) h (fun a61 => ctX9_tenTimes l B D cA sa a61 p2 q50 s56) calX9_tenTimes rfl (by decide) (mw13 5 rfl) (mw13 6 rfl) (Or.inl (mw13 4 rfl)) hgood ⟨rfl, rfl, Nat.le_of_ble_eq_true rfl, Nat.le_of_ble_eq_true rfl⟩ ⟨Nat.le_of_ble_eq_true rfl, Nat.le_of_ble_eq_true rfl⟩ rfl (Nat.le_of_ble_eq_true rfl) dX9_winds_167 (fun v58 s59 => ?_)
                    refine k_asI h dX9_winds_170 (fun s60 => ?_)
                    refine k_iinc (w := (q50 + 1)) (lv' := [(4, LI (q50 + 1)), (0, LR (some a0)), (1, LI p1), (2, LI p2)]) h 3 dX9_winds_171 rfl rfl (by decide) rfl ?_
                    refine k_goto (tgt := 136) h dX9_winds_174 (by decide) ?_
                    refine k_sub (lv' := [(0, LR (some a0)), (1, LI p1), (2, LI p2), (4, LI (q50 + 1))]) h [1, 2, 3, 0] rfl ?_
                    exact hr52 (q50 + 1) s60
                · refine k_iconst (v := (-1)) h dX9_winds_131 (by decide) ?_
                  exact k_iret h rfl dX9_winds_132 (Nat.le_of_ble_eq_true rfl) (Nat.le_of_ble_eq_true rfl)
              · refine k_icmp_ge (tgt := 127) h dX9_winds_68 (by decide) ?_ ?_
                · refine k_sub (lv' := [(0, LR (some a0)), (1, LI p1), (2, LI p2), (3, LI q44.1)]) h [0, 1, 2, 3] rfl ?_
                  exact hj49 () s45
                · refine k_iload_n h 3 dX9_winds_71 rfl rfl ?_
                  refine k_if_eq (tgt := 127) h dX9_winds_72 (by decide) ?_ ?_
                  · refine k_sub (lv' := [(0, LR (some a0)), (1, LI p1), (2, LI p2), (3, LI q44.1)]) h [0, 1, 2, 3] rfl ?_
                    exact hj49 () s45
                  · refine k_aload_n h 0 dX9_winds_75 rfl rfl ?_
                    refine k_iload_n h 1 dX9_winds_76 rfl rfl ?_
                    refine k_iload h 4 dX9_winds_77 rfl ?_
                    refine k_callVI (As := [LI p1, LI q44.2]) (st := []) (x0 := (some a0)) (xg := fun a73 => mX9_tenTimes a73 p1 q44.2 s45) h (fun a73 => ctX9_tenTimes l B D cA sa a73 p1 q44.2 s45) calX9_tenTimes rfl (by decide) (mw13 5 rfl) (mw13 6 rfl) (Or.inl (mw13 4 rfl)) hgood ⟨rfl, rfl, Nat.le_of_ble_eq_true rfl, Nat.le_of_ble_eq_true rfl⟩ ⟨Nat.le_of_ble_eq_true rfl, Nat.le_of_ble_eq_true rfl⟩ rfl (Nat.le_of_ble_eq_true rfl) dX9_winds_79 (fun v64 s65 => ?_)
                    refine k_i2l h dX9_winds_82 ?_
                    refine k_ldc2_w (v := (-300)) h dX9_winds_83 (mw13 2 rfl) ?_
                    refine k_ldc2_w (v := 300) h dX9_winds_86 (mw13 3 rfl) ?_
                    refine k_callSI (As := [LL (Int32.toInt64 v64), LL (-300), LL 300]) (st := []) h (ctX9_in l B D cA sa (Int32.toInt64 v64) (-300) 300 s65) calX9_in (mw9 1 rfl) (Or.inl (mw9 0 rfl)) hgood ⟨rfl, rfl, Nat.le_of_ble_eq_true rfl, Nat.le_of_ble_eq_true rfl⟩ ⟨Nat.le_of_ble_eq_true rfl, Nat.le_of_ble_eq_true rfl⟩ rfl (Nat.le_of_ble_eq_true rfl) dX9_winds_89 (fun v66 s67 => ?_)
                    refine k_if_eq (tgt := 119) h dX9_winds_92 (by decide) ?_ ?_
                    · refine k_iconst (v := 0) h dX9_winds_119 (by decide) ?_
                      refine k_istore_n (lv' := [(3, LI 0), (0, LR (some a0)), (1, LI p1), (2, LI p2), (4, LI q44.2)]) h dX9_winds_120 rfl (by decide) rfl ?_
                      refine k_iinc (w := (q44.2 + 1)) (lv' := [(4, LI (q44.2 + 1)), (3, LI 0), (0, LR (some a0)), (1, LI p1), (2, LI p2)]) h 4 dX9_winds_121 rfl rfl (by decide) rfl ?_
                      refine k_goto (tgt := 64) h dX9_winds_124 (by decide) ?_
                      refine k_sub (lv' := [(0, LR (some a0)), (1, LI p1), (2, LI p2), (3, LI 0), (4, LI (q44.2 + 1))]) h [2, 3, 4, 1, 0] rfl ?_
                      exact hr46 (0, (q44.2 + 1)) s67
                    · refine k_aload_n h 0 dX9_winds_95 rfl rfl ?_
                      refine k_iload_n h 2 dX9_winds_96 rfl rfl ?_
                      refine k_iload h 4 dX9_winds_97 rfl ?_
                      refine k_callVI (As := [LI p2, LI q44.2]) (st := []) (x0 := (some a0)) (xg := fun a72 => mX9_tenTimes a72 p2 q44.2 s67) h (fun a72 => ctX9_tenTimes l B D cA sa a72 p2 q44.2 s67) calX9_tenTimes rfl (by decide) (mw13 5 rfl) (mw13 6 rfl) (Or.inl (mw13 4 rfl)) hgood ⟨rfl, rfl, Nat.le_of_ble_eq_true rfl, Nat.le_of_ble_eq_true rfl⟩ ⟨Nat.le_of_ble_eq_true rfl, Nat.le_of_ble_eq_true rfl⟩ rfl (Nat.le_of_ble_eq_true rfl) dX9_winds_99 (fun v68 s69 => ?_)
                      refine k_i2l h dX9_winds_102 ?_
                      refine k_ldc2_w (v := (-300)) h dX9_winds_103 (mw13 2 rfl) ?_
                      refine k_ldc2_w (v := 300) h dX9_winds_106 (mw13 3 rfl) ?_
                      refine k_callSI (As := [LL (Int32.toInt64 v68), LL (-300), LL 300]) (st := []) h (ctX9_in l B D cA sa (Int32.toInt64 v68) (-300) 300 s69) calX9_in (mw9 1 rfl) (Or.inl (mw9 0 rfl)) hgood ⟨rfl, rfl, Nat.le_of_ble_eq_true rfl, Nat.le_of_ble_eq_true rfl⟩ ⟨Nat.le_of_ble_eq_true rfl, Nat.le_of_ble_eq_true rfl⟩ rfl (Nat.le_of_ble_eq_true rfl) dX9_winds_109 (fun v70 s71 => ?_)
                      refine k_if_eq (tgt := 119) h dX9_winds_112 (by decide) ?_ ?_
                      · refine k_iconst (v := 0) h dX9_winds_119 (by decide) ?_
                        refine k_istore_n (lv' := [(3, LI 0), (0, LR (some a0)), (1, LI p1), (2, LI p2), (4, LI q44.2)]) h dX9_winds_120 rfl (by decide) rfl ?_
                        refine k_iinc (w := (q44.2 + 1)) (lv' := [(4, LI (q44.2 + 1)), (3, LI 0), (0, LR (some a0)), (1, LI p1), (2, LI p2)]) h 4 dX9_winds_121 rfl rfl (by decide) rfl ?_
                        refine k_goto (tgt := 64) h dX9_winds_124 (by decide) ?_
                        refine k_sub (lv' := [(0, LR (some a0)), (1, LI p1), (2, LI p2), (3, LI 0), (4, LI (q44.2 + 1))]) h [2, 3, 4, 1, 0] rfl ?_
                        exact hr46 (0, (q44.2 + 1)) s71
                      · refine k_iconst (v := 1) h dX9_winds_115 (by decide) ?_
                        refine k_goto (tgt := 120) h dX9_winds_116 (by decide) ?_
                        refine k_istore_n (lv' := [(3, LI 1), (0, LR (some a0)), (1, LI p1), (2, LI p2), (4, LI q44.2)]) h dX9_winds_120 rfl (by decide) rfl ?_
                        refine k_iinc (w := (q44.2 + 1)) (lv' := [(4, LI (q44.2 + 1)), (3, LI 1), (0, LR (some a0)), (1, LI p1), (2, LI p2)]) h 4 dX9_winds_121 rfl rfl (by decide) rfl ?_
                        refine k_goto (tgt := 64) h dX9_winds_124 (by decide) ?_
                        refine k_sub (lv' := [(0, LR (some a0)), (1, LI p1), (2, LI p2), (3, LI 1), (4, LI (q44.2 + 1))]) h [2, 3, 4, 1, 0] rfl ?_
                        exact hr46 (1, (q44.2 + 1)) s71
            · refine k_iconst (v := 1) h dX9_winds_55 (by decide) ?_
              refine k_goto (tgt := 60) h dX9_winds_56 (by decide) ?_
              refine k_istore_n (lv' := [(3, LI 1), (0, LR (some a0)), (1, LI p1), (2, LI p2)]) h dX9_winds_60 rfl (by decide) rfl ?_
              refine k_iconst (v := 0) h dX9_winds_61 (by decide) ?_
              refine k_istore (lv' := [(4, LI 0), (3, LI 1), (0, LR (some a0)), (1, LI p1), (2, LI p2)]) h dX9_winds_62 (by decide) rfl ?_
              refine k_sub (lv' := [(0, LR (some a0)), (1, LI p1), (2, LI p2), (3, LI 1), (4, LI 0)]) h [2, 3, 4, 1, 0] rfl ?_
              refine k_lp (A := Int32 × Int32) (fun q75 => [(0, LR (some a0)), (1, LI p1), (2, LI p2), (3, LI q75.1), (4, LI q75.2)]) (fun q75 => []) (fun r77 hr77 q75 s76 => ?_) FU (1, 0) s4
              unfold mX9_winds_b64__
              refine k_iload h 4 dX9_winds_64 rfl ?_
              refine k_bipush (v := 12) h dX9_winds_66 (by decide) ?_
              refine k_jn (A := Unit) (J := 127) (fun q78 => [(0, LR (some a0)), (1, LI p1), (2, LI p2), (3, LI q75.1)]) (fun q78 => []) (fun q78 s79 => ?_) (fun j80 hj80 => ?_)
              · refine k_iload_n h 3 dX9_winds_127 rfl rfl ?_
                refine k_if_ne (tgt := 133) h dX9_winds_128 (by decide) ?_ ?_
                · refine k_iconst (v := 0) h dX9_winds_133 (by decide) ?_
                  refine k_istore (lv' := [(4, LI 0), (0, LR (some a0)), (1, LI p1), (2, LI p2), (3, LI q75.1)]) h dX9_winds_134 (by decide) rfl ?_
                  refine k_sub (lv' := [(0, LR (some a0)), (1, LI p1), (2, LI p2), (4, LI 0)]) h [1, 2, 3, 0] rfl ?_
                  refine k_lp (A := Int32) (fun q81 => [(0, LR (some a0)), (1, LI p1), (2, LI p2), (4, LI q81)]) (fun q81 => []) (fun r83 hr83 q81 s82 => ?_) FU 0 s79
                  unfold mX9_winds_b136__
                  refine k_iload h 3 dX9_winds_136 rfl ?_
                  refine k_bipush (v := 12) h dX9_winds_138 (by decide) ?_
                  refine k_icmp_ge (tgt := 177) h dX9_winds_140 (by decide) ?_ ?_
                  · refine k_iconst (v := 1) h dX9_winds_177 (by decide) ?_
                    exact k_iret h rfl dX9_winds_178 (Nat.le_of_ble_eq_true rfl) (Nat.le_of_ble_eq_true rfl)
                  · refine k_aload_n h 0 dX9_winds_143 rfl rfl ?_
                    refine k_getR h fX9_3 (Or.inl (mw6 14 rfl)) dX9_winds_144 (fun v84 => ?_)
                    refine k_iload h 3 dX9_winds_147 rfl ?_
                    refine k_aload_n h 0 dX9_winds_149 rfl rfl ?_
                    refine k_iload_n h 1 dX9_winds_150 rfl rfl ?_
                    refine k_iload h 3 dX9_winds_151 rfl ?_
                    refine k_callVI (As := [LI p1, LI q81]) (st := [LI q81, LR v84]) (x0 := (some a0)) (xg := fun a93 => mX9_tenTimes a93 p1 q81 s82) h (fun a93 => ctX9_tenTimes l B D cA sa a93 p1 q81 s82) calX9_tenTimes rfl (by decide) (mw13 5 rfl) (mw13 6 rfl) (Or.inl (mw13 4 rfl)) hgood ⟨rfl, rfl, Nat.le_of_ble_eq_true rfl, Nat.le_of_ble_eq_true rfl⟩ ⟨Nat.le_of_ble_eq_true rfl, Nat.le_of_ble_eq_true rfl⟩ rfl (Nat.le_of_ble_eq_true rfl) dX9_winds_153 (fun v85 s86 => ?_)
                    refine k_asI h dX9_winds_156 (fun s87 => ?_)
                    refine k_aload_n h 0 dX9_winds_157 rfl rfl ?_
                    refine k_getR h fX9_4 (Or.inl (mw6 15 rfl)) dX9_winds_158 (fun v88 => ?_)
                    refine k_iload h 3 dX9_winds_161 rfl ?_
                    refine k_aload_n h 0 dX9_winds_163 rfl rfl ?_
                    refine k_iload_n h 2 dX9_winds_164 rfl rfl ?_
                    refine k_iload h 3 dX9_winds_165 rfl ?_
                    refine k_callVI (As := [LI p2, LI q81]) (st := [LI q81, LR v88]) (x0 := (some a0)) (xg := fun a92 => mX9_tenTimes a92 p2 q81 s87) h (fun a92 => ctX9_tenTimes l B D cA sa a92 p2 q81 s87) calX9_tenTimes rfl (by decide) (mw13 5 rfl) (mw13 6 rfl) (Or.inl (mw13 4 rfl)) hgood ⟨rfl, rfl, Nat.le_of_ble_eq_true rfl, Nat.le_of_ble_eq_true rfl⟩ ⟨Nat.le_of_ble_eq_true rfl, Nat.le_of_ble_eq_true rfl⟩ rfl (Nat.le_of_ble_eq_true rfl) dX9_winds_167 (fun v89 s90 => ?_)
                    refine k_asI h dX9_winds_170 (fun s91 => ?_)
                    refine k_iinc (w := (q81 + 1)) (lv' := [(4, LI (q81 + 1)), (0, LR (some a0)), (1, LI p1), (2, LI p2)]) h 3 dX9_winds_171 rfl rfl (by decide) rfl ?_
                    refine k_goto (tgt := 136) h dX9_winds_174 (by decide) ?_
                    refine k_sub (lv' := [(0, LR (some a0)), (1, LI p1), (2, LI p2), (4, LI (q81 + 1))]) h [1, 2, 3, 0] rfl ?_
                    exact hr83 (q81 + 1) s91
                · refine k_iconst (v := (-1)) h dX9_winds_131 (by decide) ?_
                  exact k_iret h rfl dX9_winds_132 (Nat.le_of_ble_eq_true rfl) (Nat.le_of_ble_eq_true rfl)
              · refine k_icmp_ge (tgt := 127) h dX9_winds_68 (by decide) ?_ ?_
                · refine k_sub (lv' := [(0, LR (some a0)), (1, LI p1), (2, LI p2), (3, LI q75.1)]) h [0, 1, 2, 3] rfl ?_
                  exact hj80 () s76
                · refine k_iload_n h 3 dX9_winds_71 rfl rfl ?_
                  refine k_if_eq (tgt := 127) h dX9_winds_72 (by decide) ?_ ?_
                  · refine k_sub (lv' := [(0, LR (some a0)), (1, LI p1), (2, LI p2), (3, LI q75.1)]) h [0, 1, 2, 3] rfl ?_
                    exact hj80 () s76
                  · refine k_aload_n h 0 dX9_winds_75 rfl rfl ?_
                    refine k_iload_n h 1 dX9_winds_76 rfl rfl ?_
                    refine k_iload h 4 dX9_winds_77 rfl ?_
                    refine k_callVI (As := [LI p1, LI q75.2]) (st := []) (x0 := (some a0)) (xg := fun a104 => mX9_tenTimes a104 p1 q75.2 s76) h (fun a104 => ctX9_tenTimes l B D cA sa a104 p1 q75.2 s76) calX9_tenTimes rfl (by decide) (mw13 5 rfl) (mw13 6 rfl) (Or.inl (mw13 4 rfl)) hgood ⟨rfl, rfl, Nat.le_of_ble_eq_true rfl, Nat.le_of_ble_eq_true rfl⟩ ⟨Nat.le_of_ble_eq_true rfl, Nat.le_of_ble_eq_true rfl⟩ rfl (Nat.le_of_ble_eq_true rfl) dX9_winds_79 (fun v95 s96 => ?_)
                    refine k_i2l h dX9_winds_82 ?_
                    refine k_ldc2_w (v := (-300)) h dX9_winds_83 (mw13 2 rfl) ?_
                    refine k_ldc2_w (v := 300) h dX9_winds_86 (mw13 3 rfl) ?_
                    refine k_callSI (As := [LL (Int32.toInt64 v95), LL (-300), LL 300]) (st := []) h (ctX9_in l B D cA sa (Int32.toInt64 v95) (-300) 300 s96) calX9_in (mw9 1 rfl) (Or.inl (mw9 0 rfl)) hgood ⟨rfl, rfl, Nat.le_of_ble_eq_true rfl, Nat.le_of_ble_eq_true rfl⟩ ⟨Nat.le_of_ble_eq_true rfl, Nat.le_of_ble_eq_true rfl⟩ rfl (Nat.le_of_ble_eq_true rfl) dX9_winds_89 (fun v97 s98 => ?_)
                    refine k_if_eq (tgt := 119) h dX9_winds_92 (by decide) ?_ ?_
                    · refine k_iconst (v := 0) h dX9_winds_119 (by decide) ?_
                      refine k_istore_n (lv' := [(3, LI 0), (0, LR (some a0)), (1, LI p1), (2, LI p2), (4, LI q75.2)]) h dX9_winds_120 rfl (by decide) rfl ?_
                      refine k_iinc (w := (q75.2 + 1)) (lv' := [(4, LI (q75.2 + 1)), (3, LI 0), (0, LR (some a0)), (1, LI p1), (2, LI p2)]) h 4 dX9_winds_121 rfl rfl (by decide) rfl ?_
                      refine k_goto (tgt := 64) h dX9_winds_124 (by decide) ?_
                      refine k_sub (lv' := [(0, LR (some a0)), (1, LI p1), (2, LI p2), (3, LI 0), (4, LI (q75.2 + 1))]) h [2, 3, 4, 1, 0] rfl ?_
                      exact hr77 (0, (q75.2 + 1)) s98
                    · refine k_aload_n h 0 dX9_winds_95 rfl rfl ?_
                      refine k_iload_n h 2 dX9_winds_96 rfl rfl ?_
                      refine k_iload h 4 dX9_winds_97 rfl ?_
                      refine k_callVI (As := [LI p2, LI q75.2]) (st := []) (x0 := (some a0)) (xg := fun a103 => mX9_tenTimes a103 p2 q75.2 s98) h (fun a103 => ctX9_tenTimes l B D cA sa a103 p2 q75.2 s98) calX9_tenTimes rfl (by decide) (mw13 5 rfl) (mw13 6 rfl) (Or.inl (mw13 4 rfl)) hgood ⟨rfl, rfl, Nat.le_of_ble_eq_true rfl, Nat.le_of_ble_eq_true rfl⟩ ⟨Nat.le_of_ble_eq_true rfl, Nat.le_of_ble_eq_true rfl⟩ rfl (Nat.le_of_ble_eq_true rfl) dX9_winds_99 (fun v99 s100 => ?_)
                      refine k_i2l h dX9_winds_102 ?_
                      refine k_ldc2_w (v := (-300)) h dX9_winds_103 (mw13 2 rfl) ?_
                      refine k_ldc2_w (v := 300) h dX9_winds_106 (mw13 3 rfl) ?_
                      refine k_callSI (As := [LL (Int32.toInt64 v99), LL (-300), LL 300]) (st := []) h (ctX9_in l B D cA sa (Int32.toInt64 v99) (-300) 300 s100) calX9_in (mw9 1 rfl) (Or.inl (mw9 0 rfl)) hgood ⟨rfl, rfl, Nat.le_of_ble_eq_true rfl, Nat.le_of_ble_eq_true rfl⟩ ⟨Nat.le_of_ble_eq_true rfl, Nat.le_of_ble_eq_true rfl⟩ rfl (Nat.le_of_ble_eq_true rfl) dX9_winds_109 (fun v101 s102 => ?_)
                      refine k_if_eq (tgt := 119) h dX9_winds_112 (by decide) ?_ ?_
                      · refine k_iconst (v := 0) h dX9_winds_119 (by decide) ?_
                        refine k_istore_n (lv' := [(3, LI 0), (0, LR (some a0)), (1, LI p1), (2, LI p2), (4, LI q75.2)]) h dX9_winds_120 rfl (by decide) rfl ?_
                        refine k_iinc (w := (q75.2 + 1)) (lv' := [(4, LI (q75.2 + 1)), (3, LI 0), (0, LR (some a0)), (1, LI p1), (2, LI p2)]) h 4 dX9_winds_121 rfl rfl (by decide) rfl ?_
                        refine k_goto (tgt := 64) h dX9_winds_124 (by decide) ?_
                        refine k_sub (lv' := [(0, LR (some a0)), (1, LI p1), (2, LI p2), (3, LI 0), (4, LI (q75.2 + 1))]) h [2, 3, 4, 1, 0] rfl ?_
                        exact hr77 (0, (q75.2 + 1)) s102
                      · refine k_iconst (v := 1) h dX9_winds_115 (by decide) ?_
                        refine k_goto (tgt := 120) h dX9_winds_116 (by decide) ?_
                        refine k_istore_n (lv' := [(3, LI 1), (0, LR (some a0)), (1, LI p1), (2, LI p2), (4, LI q75.2)]) h dX9_winds_120 rfl (by decide) rfl ?_
                        refine k_iinc (w := (q75.2 + 1)) (lv' := [(4, LI (q75.2 + 1)), (3, LI 1), (0, LR (some a0)), (1, LI p1), (2, LI p2)]) h 4 dX9_winds_121 rfl rfl (by decide) rfl ?_
                        refine k_goto (tgt := 64) h dX9_winds_124 (by decide) ?_
                        refine k_sub (lv' := [(0, LR (some a0)), (1, LI p1), (2, LI p2), (3, LI 1), (4, LI (q75.2 + 1))]) h [2, 3, 4, 1, 0] rfl ?_
                        exact hr77 (1, (q75.2 + 1)) s102
        · refine k_bipush (v := (-3)) h dX9_winds_34 (by decide) ?_
          exact k_iret h rfl dX9_winds_36 (Nat.le_of_ble_eq_true rfl) (Nat.le_of_ble_eq_true rfl)
    · refine k_iconst (v := (-1)) h dX9_winds_14 (by decide) ?_
      exact k_iret h rfl dX9_winds_15 (Nat.le_of_ble_eq_true rfl) (Nat.le_of_ble_eq_true rfl)
def mX9_wind (a0 : Nat) (p1 : Int32) (p2 : Int32) (p3 : Int32) (s0 : Sg) : Option (Int32 × Sg) :=
cl (mX9_in (Int32.toInt64 p1) 0 11 s0) fun v1 s2 =>
if v1 = 0 then (
some ((-1), s2))
else (
cl (mX9_in (Int32.toInt64 p2) (-300) 300 s2) fun v3 s4 =>
if v3 = 0 then (
some ((-1), s4))
else (
cl (mX9_in (Int32.toInt64 p3) (-300) 300 s4) fun v5 s6 =>
if ¬ v5 = 0 then (
gdR s6 9 3 (some a0) fun v7 =>
asI s6 v7 p1 p2 fun s8 =>
gdR s8 9 4 (some a0) fun v9 =>
asI s8 v9 p1 p3 fun s10 =>
some (1, s10))
else (
some ((-1), s6))))
def rmX9_wind : Room := { frames := 1, cells := 0, slots := 0, locals := 25 }
theorem calX9_wind : Cal yX9_wind cX9_wind 4 (some .int) 3 := ⟨(mw13 16 rfl), (mw1 5 rfl), by decide, by decide, by decide +kernel⟩
set_option maxHeartbeats 4000000 in
set_option maxRecDepth 100000 in
theorem ctX9_wind (l : Launch) (B : Nat) (D : va_G) (cA : Nat → ClassId) (sa : Nat → Nat) (a0 : Nat) (p1 : Int32) (p2 : Int32) (p3 : Int32) (s0 : Sg) : Ct l B D cA sa yX9_wind cX9_wind 4 (some .int) rmX9_wind rI [LR (some a0), LI p1, LI p2, LI p3] s0 0 0 (mX9_wind a0 p1 p2 p3 s0) := by
  refine Ct.of (own := RX9) (by decide) rfl _ (Nat.le_of_ble_eq_true rfl) rfl ?_
  intro p e s m args below meth c h hi
  unfold mX9_wind
  refine k_iload_n h 1 dX9_wind_0 rfl rfl ?_
  refine k_i2l h dX9_wind_1 ?_
  refine k_lconst (v := 0) h dX9_wind_2 (by decide) ?_
  refine k_ldc2_w (v := 11) h dX9_wind_3 (mw13 17 rfl) ?_
  refine k_callSI (As := [LL (Int32.toInt64 p1), LL 0, LL 11]) (st := []) h (ctX9_in l B D cA sa (Int32.toInt64 p1) 0 11 s0) calX9_in (mw9 1 rfl) (Or.inl (mw9 0 rfl)) hgood ⟨rfl, rfl, Nat.le_of_ble_eq_true rfl, Nat.le_of_ble_eq_true rfl⟩ ⟨Nat.le_of_ble_eq_true rfl, Nat.le_of_ble_eq_true rfl⟩ rfl (Nat.le_of_ble_eq_true rfl) dX9_wind_6 (fun v1 s2 => ?_)
  refine k_if_eq (tgt := 40) h dX9_wind_9 (by decide) ?_ ?_
  · refine k_iconst (v := (-1)) h dX9_wind_40 (by decide) ?_
    exact k_iret h rfl dX9_wind_41 (Nat.le_of_ble_eq_true rfl) (Nat.le_of_ble_eq_true rfl)
  · refine k_iload_n h 2 dX9_wind_12 rfl rfl ?_
    refine k_i2l h dX9_wind_13 ?_
    refine k_ldc2_w (v := (-300)) h dX9_wind_14 (mw13 2 rfl) ?_
    refine k_ldc2_w (v := 300) h dX9_wind_17 (mw13 3 rfl) ?_
    refine k_callSI (As := [LL (Int32.toInt64 p2), LL (-300), LL 300]) (st := []) h (ctX9_in l B D cA sa (Int32.toInt64 p2) (-300) 300 s2) calX9_in (mw9 1 rfl) (Or.inl (mw9 0 rfl)) hgood ⟨rfl, rfl, Nat.le_of_ble_eq_true rfl, Nat.le_of_ble_eq_true rfl⟩ ⟨Nat.le_of_ble_eq_true rfl, Nat.le_of_ble_eq_true rfl⟩ rfl (Nat.le_of_ble_eq_true rfl) dX9_wind_20 (fun v3 s4 => ?_)
    refine k_if_eq (tgt := 40) h dX9_wind_23 (by decide) ?_ ?_
    · refine k_iconst (v := (-1)) h dX9_wind_40 (by decide) ?_
      exact k_iret h rfl dX9_wind_41 (Nat.le_of_ble_eq_true rfl) (Nat.le_of_ble_eq_true rfl)
    · refine k_iload_n h 3 dX9_wind_26 rfl rfl ?_
      refine k_i2l h dX9_wind_27 ?_
      refine k_ldc2_w (v := (-300)) h dX9_wind_28 (mw13 2 rfl) ?_
      refine k_ldc2_w (v := 300) h dX9_wind_31 (mw13 3 rfl) ?_
      refine k_callSI (As := [LL (Int32.toInt64 p3), LL (-300), LL 300]) (st := []) h (ctX9_in l B D cA sa (Int32.toInt64 p3) (-300) 300 s4) calX9_in (mw9 1 rfl) (Or.inl (mw9 0 rfl)) hgood ⟨rfl, rfl, Nat.le_of_ble_eq_true rfl, Nat.le_of_ble_eq_true rfl⟩ ⟨Nat.le_of_ble_eq_true rfl, Nat.le_of_ble_eq_true rfl⟩ rfl (Nat.le_of_ble_eq_true rfl) dX9_wind_34 (fun v5 s6 => ?_)
      refine k_if_ne (tgt := 42) h dX9_wind_37 (by decide) ?_ ?_
      · refine k_aload_n h 0 dX9_wind_42 rfl rfl ?_
        refine k_getR h fX9_3 (Or.inl (mw6 14 rfl)) dX9_wind_43 (fun v7 => ?_)
        refine k_iload_n h 1 dX9_wind_46 rfl rfl ?_
        refine k_iload_n h 2 dX9_wind_47 rfl rfl ?_
        refine k_asI h dX9_wind_48 (fun s8 => ?_)
        refine k_aload_n h 0 dX9_wind_49 rfl rfl ?_
        refine k_getR h fX9_4 (Or.inl (mw6 15 rfl)) dX9_wind_50 (fun v9 => ?_)
        refine k_iload_n h 1 dX9_wind_53 rfl rfl ?_
        refine k_iload_n h 3 dX9_wind_54 rfl rfl ?_
        refine k_asI h dX9_wind_55 (fun s10 => ?_)
        refine k_iconst (v := 1) h dX9_wind_56 (by decide) ?_
        exact k_iret h rfl dX9_wind_57 (Nat.le_of_ble_eq_true rfl) (Nat.le_of_ble_eq_true rfl)
      · refine k_iconst (v := (-1)) h dX9_wind_40 (by decide) ?_
        exact k_iret h rfl dX9_wind_41 (Nat.le_of_ble_eq_true rfl) (Nat.le_of_ble_eq_true rfl)
def mX9_blows (a0 : Nat) (p1 : Int32) (p2 : Int32) (s0 : Sg) : Option (Int32 × Sg) :=
cl (mX9_in (Int32.toInt64 p1) 0 11 s0) fun v1 s2 =>
if v1 = 0 then (
some ((-1000), s2))
else (
cl (mX9_in (Int32.toInt64 p2) 0 1 s2) fun v3 s4 =>
if v3 = 0 then (
some ((-1000), s4))
else (
if ¬ p2 = 0 then (
gdR s4 9 4 (some a0) fun v5 =>
alI s4 v5 p1 fun v6 =>
some (v6, s4))
else (
gdR s4 9 3 (some a0) fun v7 =>
alI s4 v7 p1 fun v8 =>
some (v8, s4))))
def rmX9_blows : Room := { frames := 1, cells := 0, slots := 0, locals := 25 }
theorem calX9_blows : Cal yX9_blows cX9_blows 3 (some .int) 2 := ⟨(mw14 7 rfl), (mw1 5 rfl), by decide, by decide, by decide +kernel⟩
set_option maxHeartbeats 4000000 in
set_option maxRecDepth 100000 in
theorem ctX9_blows (l : Launch) (B : Nat) (D : va_G) (cA : Nat → ClassId) (sa : Nat → Nat) (a0 : Nat) (p1 : Int32) (p2 : Int32) (s0 : Sg) : Ct l B D cA sa yX9_blows cX9_blows 3 (some .int) rmX9_blows rI [LR (some a0), LI p1, LI p2] s0 0 0 (mX9_blows a0 p1 p2 s0) := by
  refine Ct.of (own := RX9) (by decide) rfl _ (Nat.le_of_ble_eq_true rfl) rfl ?_
  intro p e s m args below meth c h hi
  unfold mX9_blows
  refine k_iload_n h 1 dX9_blows_0 rfl rfl ?_
  refine k_i2l h dX9_blows_1 ?_
  refine k_lconst (v := 0) h dX9_blows_2 (by decide) ?_
  refine k_ldc2_w (v := 11) h dX9_blows_3 (mw13 17 rfl) ?_
  refine k_callSI (As := [LL (Int32.toInt64 p1), LL 0, LL 11]) (st := []) h (ctX9_in l B D cA sa (Int32.toInt64 p1) 0 11 s0) calX9_in (mw9 1 rfl) (Or.inl (mw9 0 rfl)) hgood ⟨rfl, rfl, Nat.le_of_ble_eq_true rfl, Nat.le_of_ble_eq_true rfl⟩ ⟨Nat.le_of_ble_eq_true rfl, Nat.le_of_ble_eq_true rfl⟩ rfl (Nat.le_of_ble_eq_true rfl) dX9_blows_6 (fun v1 s2 => ?_)
  refine k_if_eq (tgt := 44) h dX9_blows_9 (by decide) ?_ ?_
  · refine k_sipush (v := (-1000)) h dX9_blows_44 (by decide) ?_
    exact k_iret h rfl dX9_blows_47 (Nat.le_of_ble_eq_true rfl) (Nat.le_of_ble_eq_true rfl)
  · refine k_iload_n h 2 dX9_blows_12 rfl rfl ?_
    refine k_i2l h dX9_blows_13 ?_
    refine k_lconst (v := 0) h dX9_blows_14 (by decide) ?_
    refine k_lconst (v := 1) h dX9_blows_15 (by decide) ?_
    refine k_callSI (As := [LL (Int32.toInt64 p2), LL 0, LL 1]) (st := []) h (ctX9_in l B D cA sa (Int32.toInt64 p2) 0 1 s2) calX9_in (mw9 1 rfl) (Or.inl (mw9 0 rfl)) hgood ⟨rfl, rfl, Nat.le_of_ble_eq_true rfl, Nat.le_of_ble_eq_true rfl⟩ ⟨Nat.le_of_ble_eq_true rfl, Nat.le_of_ble_eq_true rfl⟩ rfl (Nat.le_of_ble_eq_true rfl) dX9_blows_16 (fun v3 s4 => ?_)
    refine k_if_eq (tgt := 44) h dX9_blows_19 (by decide) ?_ ?_
    · refine k_sipush (v := (-1000)) h dX9_blows_44 (by decide) ?_
      exact k_iret h rfl dX9_blows_47 (Nat.le_of_ble_eq_true rfl) (Nat.le_of_ble_eq_true rfl)
    · refine k_iload_n h 2 dX9_blows_22 rfl rfl ?_
      refine k_if_ne (tgt := 35) h dX9_blows_23 (by decide) ?_ ?_
      · refine k_aload_n h 0 dX9_blows_35 rfl rfl ?_
        refine k_getR h fX9_4 (Or.inl (mw6 15 rfl)) dX9_blows_36 (fun v5 => ?_)
        refine k_iload_n h 1 dX9_blows_39 rfl rfl ?_
        refine k_alI h dX9_blows_40 (fun v6 => ?_)
        refine k_goto (tgt := 47) h dX9_blows_41 (by decide) ?_
        exact k_iret h rfl dX9_blows_47 (Nat.le_of_ble_eq_true rfl) (Nat.le_of_ble_eq_true rfl)
      · refine k_aload_n h 0 dX9_blows_26 rfl rfl ?_
        refine k_getR h fX9_3 (Or.inl (mw6 14 rfl)) dX9_blows_27 (fun v7 => ?_)
        refine k_iload_n h 1 dX9_blows_30 rfl rfl ?_
        refine k_alI h dX9_blows_31 (fun v8 => ?_)
        refine k_goto (tgt := 47) h dX9_blows_32 (by decide) ?_
        exact k_iret h rfl dX9_blows_47 (Nat.le_of_ble_eq_true rfl) (Nat.le_of_ble_eq_true rfl)
def mX9_jumper (a0 : Nat) (p1 : Int32) (p2 : Int32) (p3 : Int32) (p4 : Int32) (s0 : Sg) : Option (Int32 × Sg) :=
cl (mX9_in (Int32.toInt64 p1) 0 31 s0) fun v1 s2 =>
if v1 = 0 then (
some ((-1), s2))
else (
cl (mX9_in (Int32.toInt64 p2) 0 2 s2) fun v3 s4 =>
if v3 = 0 then (
some ((-1), s4))
else (
cl (mX9_in (Int32.toInt64 p3) 40 200 s4) fun v5 s6 =>
if v5 = 0 then (
some ((-1), s6))
else (
cl (mX9_in (Int32.toInt64 p4) 0 1000 s6) fun v7 s8 =>
if ¬ v7 = 0 then (
gdR s8 9 5 (some a0) fun v9 =>
asI s8 v9 p1 p2 fun s10 =>
gdR s10 9 6 (some a0) fun v11 =>
asI s10 v11 p1 p3 fun s12 =>
gdR s12 9 7 (some a0) fun v13 =>
asI s12 v13 p1 p4 fun s14 =>
some (1, s14))
else (
some ((-1), s8)))))
def rmX9_jumper : Room := { frames := 1, cells := 0, slots := 0, locals := 25 }
theorem calX9_jumper : Cal yX9_jumper cX9_jumper 5 (some .int) 4 := ⟨(mw14 22 rfl), (mw1 5 rfl), by decide, by decide, by decide +kernel⟩
set_option maxHeartbeats 4000000 in
set_option maxRecDepth 100000 in
theorem ctX9_jumper (l : Launch) (B : Nat) (D : va_G) (cA : Nat → ClassId) (sa : Nat → Nat) (a0 : Nat) (p1 : Int32) (p2 : Int32) (p3 : Int32) (p4 : Int32) (s0 : Sg) : Ct l B D cA sa yX9_jumper cX9_jumper 5 (some .int) rmX9_jumper rI [LR (some a0), LI p1, LI p2, LI p3, LI p4] s0 0 0 (mX9_jumper a0 p1 p2 p3 p4 s0) := by
  refine Ct.of (own := RX9) (by decide) rfl _ (Nat.le_of_ble_eq_true rfl) rfl ?_
  intro p e s m args below meth c h hi
  unfold mX9_jumper
  refine k_iload_n h 1 dX9_jumper_0 rfl rfl ?_
  refine k_i2l h dX9_jumper_1 ?_
  refine k_lconst (v := 0) h dX9_jumper_2 (by decide) ?_
  refine k_ldc2_w (v := 31) h dX9_jumper_3 (mw14 23 rfl) ?_
  refine k_callSI (As := [LL (Int32.toInt64 p1), LL 0, LL 31]) (st := []) h (ctX9_in l B D cA sa (Int32.toInt64 p1) 0 31 s0) calX9_in (mw9 1 rfl) (Or.inl (mw9 0 rfl)) hgood ⟨rfl, rfl, Nat.le_of_ble_eq_true rfl, Nat.le_of_ble_eq_true rfl⟩ ⟨Nat.le_of_ble_eq_true rfl, Nat.le_of_ble_eq_true rfl⟩ rfl (Nat.le_of_ble_eq_true rfl) dX9_jumper_6 (fun v1 s2 => ?_)
  refine k_if_eq (tgt := 51) h dX9_jumper_9 (by decide) ?_ ?_
  · refine k_iconst (v := (-1)) h dX9_jumper_51 (by decide) ?_
    exact k_iret h rfl dX9_jumper_52 (Nat.le_of_ble_eq_true rfl) (Nat.le_of_ble_eq_true rfl)
  · refine k_iload_n h 2 dX9_jumper_12 rfl rfl ?_
    refine k_i2l h dX9_jumper_13 ?_
    refine k_lconst (v := 0) h dX9_jumper_14 (by decide) ?_
    refine k_ldc2_w (v := 2) h dX9_jumper_15 (mw8 23 rfl) ?_
    refine k_callSI (As := [LL (Int32.toInt64 p2), LL 0, LL 2]) (st := []) h (ctX9_in l B D cA sa (Int32.toInt64 p2) 0 2 s2) calX9_in (mw9 1 rfl) (Or.inl (mw9 0 rfl)) hgood ⟨rfl, rfl, Nat.le_of_ble_eq_true rfl, Nat.le_of_ble_eq_true rfl⟩ ⟨Nat.le_of_ble_eq_true rfl, Nat.le_of_ble_eq_true rfl⟩ rfl (Nat.le_of_ble_eq_true rfl) dX9_jumper_18 (fun v3 s4 => ?_)
    refine k_if_eq (tgt := 51) h dX9_jumper_21 (by decide) ?_ ?_
    · refine k_iconst (v := (-1)) h dX9_jumper_51 (by decide) ?_
      exact k_iret h rfl dX9_jumper_52 (Nat.le_of_ble_eq_true rfl) (Nat.le_of_ble_eq_true rfl)
    · refine k_iload_n h 3 dX9_jumper_24 rfl rfl ?_
      refine k_i2l h dX9_jumper_25 ?_
      refine k_ldc2_w (v := 40) h dX9_jumper_26 (mw15 0 rfl) ?_
      refine k_ldc2_w (v := 200) h dX9_jumper_29 (mw15 1 rfl) ?_
      refine k_callSI (As := [LL (Int32.toInt64 p3), LL 40, LL 200]) (st := []) h (ctX9_in l B D cA sa (Int32.toInt64 p3) 40 200 s4) calX9_in (mw9 1 rfl) (Or.inl (mw9 0 rfl)) hgood ⟨rfl, rfl, Nat.le_of_ble_eq_true rfl, Nat.le_of_ble_eq_true rfl⟩ ⟨Nat.le_of_ble_eq_true rfl, Nat.le_of_ble_eq_true rfl⟩ rfl (Nat.le_of_ble_eq_true rfl) dX9_jumper_32 (fun v5 s6 => ?_)
      refine k_if_eq (tgt := 51) h dX9_jumper_35 (by decide) ?_ ?_
      · refine k_iconst (v := (-1)) h dX9_jumper_51 (by decide) ?_
        exact k_iret h rfl dX9_jumper_52 (Nat.le_of_ble_eq_true rfl) (Nat.le_of_ble_eq_true rfl)
      · refine k_iload h 4 dX9_jumper_38 rfl ?_
        refine k_i2l h dX9_jumper_40 ?_
        refine k_lconst (v := 0) h dX9_jumper_41 (by decide) ?_
        refine k_ldc2_w (v := 1000) h dX9_jumper_42 (mw15 2 rfl) ?_
        refine k_callSI (As := [LL (Int32.toInt64 p4), LL 0, LL 1000]) (st := []) h (ctX9_in l B D cA sa (Int32.toInt64 p4) 0 1000 s6) calX9_in (mw9 1 rfl) (Or.inl (mw9 0 rfl)) hgood ⟨rfl, rfl, Nat.le_of_ble_eq_true rfl, Nat.le_of_ble_eq_true rfl⟩ ⟨Nat.le_of_ble_eq_true rfl, Nat.le_of_ble_eq_true rfl⟩ rfl (Nat.le_of_ble_eq_true rfl) dX9_jumper_45 (fun v7 s8 => ?_)
        refine k_if_ne (tgt := 53) h dX9_jumper_48 (by decide) ?_ ?_
        · refine k_aload_n h 0 dX9_jumper_53 rfl rfl ?_
          refine k_getR h fX9_5 (Or.inl (mw6 16 rfl)) dX9_jumper_54 (fun v9 => ?_)
          refine k_iload_n h 1 dX9_jumper_57 rfl rfl ?_
          refine k_iload_n h 2 dX9_jumper_58 rfl rfl ?_
          refine k_asI h dX9_jumper_59 (fun s10 => ?_)
          refine k_aload_n h 0 dX9_jumper_60 rfl rfl ?_
          refine k_getR h fX9_6 (Or.inl (mw6 17 rfl)) dX9_jumper_61 (fun v11 => ?_)
          refine k_iload_n h 1 dX9_jumper_64 rfl rfl ?_
          refine k_iload_n h 3 dX9_jumper_65 rfl rfl ?_
          refine k_asI h dX9_jumper_66 (fun s12 => ?_)
          refine k_aload_n h 0 dX9_jumper_67 rfl rfl ?_
          refine k_getR h fX9_7 (Or.inl (mw6 18 rfl)) dX9_jumper_68 (fun v13 => ?_)
          refine k_iload_n h 1 dX9_jumper_71 rfl rfl ?_
          refine k_iload h 4 dX9_jumper_72 rfl ?_
          refine k_asI h dX9_jumper_74 (fun s14 => ?_)
          refine k_iconst (v := 1) h dX9_jumper_75 (by decide) ?_
          exact k_iret h rfl dX9_jumper_76 (Nat.le_of_ble_eq_true rfl) (Nat.le_of_ble_eq_true rfl)
        · refine k_iconst (v := (-1)) h dX9_jumper_51 (by decide) ?_
          exact k_iret h rfl dX9_jumper_52 (Nat.le_of_ble_eq_true rfl) (Nat.le_of_ble_eq_true rfl)
def mX9_group (a0 : Nat) (p1 : Int32) (p2 : Int32) (p3 : Int32) (p4 : Int32) (s0 : Sg) : Option (Int32 × Sg) :=
cl (mX9_in (Int32.toInt64 p1) 0 3 s0) fun v1 s2 =>
if v1 = 0 then (
some ((-1), s2))
else (
cl (mX9_in (Int32.toInt64 p2) 6000 15000 s2) fun v3 s4 =>
if v3 = 0 then (
some ((-1), s4))
else (
cl (mX9_in (Int32.toInt64 p3) 0 150 s4) fun v5 s6 =>
if v5 = 0 then (
some ((-1), s6))
else (
cl (mX9_in (Int32.toInt64 p4) 0 3 s6) fun v7 s8 =>
if ¬ v7 = 0 then (
gdI s8 9 8 (some a0) fun v9 =>
if ¬ v9 = 20 then (
gdR s8 9 9 (some a0) fun v10 =>
gdI s8 9 8 (some a0) fun v11 =>
asI s8 v10 v11 p1 fun s12 =>
gdR s12 9 10 (some a0) fun v13 =>
gdI s12 9 8 (some a0) fun v14 =>
asI s12 v13 v14 p2 fun s15 =>
gdR s15 9 11 (some a0) fun v16 =>
gdI s15 9 8 (some a0) fun v17 =>
asI s15 v16 v17 p3 fun s18 =>
gdR s18 9 12 (some a0) fun v19 =>
gdI s18 9 8 (some a0) fun v20 =>
asI s18 v19 v20 p4 fun s21 =>
gdI s21 9 8 (some a0) fun v22 =>
ptI s21 9 8 (some a0) (v22 + 1) fun s23 =>
gdI s23 9 8 (some a0) fun v24 =>
some ((v24 - 1), s23))
else (
some ((-2), s8)))
else (
some ((-1), s8)))))
def rmX9_group : Room := { frames := 1, cells := 0, slots := 0, locals := 25 }
theorem calX9_group : Cal yX9_group cX9_group 5 (some .int) 4 := ⟨(mw15 13 rfl), (mw1 5 rfl), by decide, by decide, by decide +kernel⟩
set_option maxHeartbeats 4000000 in
set_option maxRecDepth 100000 in
theorem ctX9_group (l : Launch) (B : Nat) (D : va_G) (cA : Nat → ClassId) (sa : Nat → Nat) (a0 : Nat) (p1 : Int32) (p2 : Int32) (p3 : Int32) (p4 : Int32) (s0 : Sg) : Ct l B D cA sa yX9_group cX9_group 5 (some .int) rmX9_group rI [LR (some a0), LI p1, LI p2, LI p3, LI p4] s0 0 0 (mX9_group a0 p1 p2 p3 p4 s0) := by
  refine Ct.of (own := RX9) (by decide) rfl _ (Nat.le_of_ble_eq_true rfl) rfl ?_
  intro p e s m args below meth c h hi
  unfold mX9_group
  refine k_iload_n h 1 dX9_group_0 rfl rfl ?_
  refine k_i2l h dX9_group_1 ?_
  refine k_lconst (v := 0) h dX9_group_2 (by decide) ?_
  refine k_ldc2_w (v := 3) h dX9_group_3 (mw15 14 rfl) ?_
  refine k_callSI (As := [LL (Int32.toInt64 p1), LL 0, LL 3]) (st := []) h (ctX9_in l B D cA sa (Int32.toInt64 p1) 0 3 s0) calX9_in (mw9 1 rfl) (Or.inl (mw9 0 rfl)) hgood ⟨rfl, rfl, Nat.le_of_ble_eq_true rfl, Nat.le_of_ble_eq_true rfl⟩ ⟨Nat.le_of_ble_eq_true rfl, Nat.le_of_ble_eq_true rfl⟩ rfl (Nat.le_of_ble_eq_true rfl) dX9_group_6 (fun v1 s2 => ?_)
  refine k_if_eq (tgt := 51) h dX9_group_9 (by decide) ?_ ?_
  · refine k_iconst (v := (-1)) h dX9_group_51 (by decide) ?_
    exact k_iret h rfl dX9_group_52 (Nat.le_of_ble_eq_true rfl) (Nat.le_of_ble_eq_true rfl)
  · refine k_iload_n h 2 dX9_group_12 rfl rfl ?_
    refine k_i2l h dX9_group_13 ?_
    refine k_ldc2_w (v := 6000) h dX9_group_14 (mw15 15 rfl) ?_
    refine k_ldc2_w (v := 15000) h dX9_group_17 (mw15 16 rfl) ?_
    refine k_callSI (As := [LL (Int32.toInt64 p2), LL 6000, LL 15000]) (st := []) h (ctX9_in l B D cA sa (Int32.toInt64 p2) 6000 15000 s2) calX9_in (mw9 1 rfl) (Or.inl (mw9 0 rfl)) hgood ⟨rfl, rfl, Nat.le_of_ble_eq_true rfl, Nat.le_of_ble_eq_true rfl⟩ ⟨Nat.le_of_ble_eq_true rfl, Nat.le_of_ble_eq_true rfl⟩ rfl (Nat.le_of_ble_eq_true rfl) dX9_group_20 (fun v3 s4 => ?_)
    refine k_if_eq (tgt := 51) h dX9_group_23 (by decide) ?_ ?_
    · refine k_iconst (v := (-1)) h dX9_group_51 (by decide) ?_
      exact k_iret h rfl dX9_group_52 (Nat.le_of_ble_eq_true rfl) (Nat.le_of_ble_eq_true rfl)
    · refine k_iload_n h 3 dX9_group_26 rfl rfl ?_
      refine k_i2l h dX9_group_27 ?_
      refine k_lconst (v := 0) h dX9_group_28 (by decide) ?_
      refine k_ldc2_w (v := 150) h dX9_group_29 (mw15 17 rfl) ?_
      refine k_callSI (As := [LL (Int32.toInt64 p3), LL 0, LL 150]) (st := []) h (ctX9_in l B D cA sa (Int32.toInt64 p3) 0 150 s4) calX9_in (mw9 1 rfl) (Or.inl (mw9 0 rfl)) hgood ⟨rfl, rfl, Nat.le_of_ble_eq_true rfl, Nat.le_of_ble_eq_true rfl⟩ ⟨Nat.le_of_ble_eq_true rfl, Nat.le_of_ble_eq_true rfl⟩ rfl (Nat.le_of_ble_eq_true rfl) dX9_group_32 (fun v5 s6 => ?_)
      refine k_if_eq (tgt := 51) h dX9_group_35 (by decide) ?_ ?_
      · refine k_iconst (v := (-1)) h dX9_group_51 (by decide) ?_
        exact k_iret h rfl dX9_group_52 (Nat.le_of_ble_eq_true rfl) (Nat.le_of_ble_eq_true rfl)
      · refine k_iload h 4 dX9_group_38 rfl ?_
        refine k_i2l h dX9_group_40 ?_
        refine k_lconst (v := 0) h dX9_group_41 (by decide) ?_
        refine k_ldc2_w (v := 3) h dX9_group_42 (mw15 14 rfl) ?_
        refine k_callSI (As := [LL (Int32.toInt64 p4), LL 0, LL 3]) (st := []) h (ctX9_in l B D cA sa (Int32.toInt64 p4) 0 3 s6) calX9_in (mw9 1 rfl) (Or.inl (mw9 0 rfl)) hgood ⟨rfl, rfl, Nat.le_of_ble_eq_true rfl, Nat.le_of_ble_eq_true rfl⟩ ⟨Nat.le_of_ble_eq_true rfl, Nat.le_of_ble_eq_true rfl⟩ rfl (Nat.le_of_ble_eq_true rfl) dX9_group_45 (fun v7 s8 => ?_)
        refine k_if_ne (tgt := 53) h dX9_group_48 (by decide) ?_ ?_
        · refine k_aload_n h 0 dX9_group_53 rfl rfl ?_
          refine k_getI h fX9_8 (Or.inl (mw15 18 rfl)) dX9_group_54 (fun v9 => ?_)
          refine k_bipush (v := 20) h dX9_group_57 (by decide) ?_
          refine k_icmp_ne (tgt := 65) h dX9_group_59 (by decide) ?_ ?_
          · refine k_aload_n h 0 dX9_group_65 rfl rfl ?_
            refine k_getR h fX9_9 (Or.inl (mw6 19 rfl)) dX9_group_66 (fun v10 => ?_)
            refine k_aload_n h 0 dX9_group_69 rfl rfl ?_
            refine k_getI h fX9_8 (Or.inl (mw15 18 rfl)) dX9_group_70 (fun v11 => ?_)
            refine k_iload_n h 1 dX9_group_73 rfl rfl ?_
            refine k_asI h dX9_group_74 (fun s12 => ?_)
            refine k_aload_n h 0 dX9_group_75 rfl rfl ?_
            refine k_getR h fX9_10 (Or.inl (mw6 20 rfl)) dX9_group_76 (fun v13 => ?_)
            refine k_aload_n h 0 dX9_group_79 rfl rfl ?_
            refine k_getI h fX9_8 (Or.inl (mw15 18 rfl)) dX9_group_80 (fun v14 => ?_)
            refine k_iload_n h 2 dX9_group_83 rfl rfl ?_
            refine k_asI h dX9_group_84 (fun s15 => ?_)
            refine k_aload_n h 0 dX9_group_85 rfl rfl ?_
            refine k_getR h fX9_11 (Or.inl (mw6 21 rfl)) dX9_group_86 (fun v16 => ?_)
            refine k_aload_n h 0 dX9_group_89 rfl rfl ?_
            refine k_getI h fX9_8 (Or.inl (mw15 18 rfl)) dX9_group_90 (fun v17 => ?_)
            refine k_iload_n h 3 dX9_group_93 rfl rfl ?_
            refine k_asI h dX9_group_94 (fun s18 => ?_)
            refine k_aload_n h 0 dX9_group_95 rfl rfl ?_
            refine k_getR h fX9_12 (Or.inl (mw6 22 rfl)) dX9_group_96 (fun v19 => ?_)
            refine k_aload_n h 0 dX9_group_99 rfl rfl ?_
            refine k_getI h fX9_8 (Or.inl (mw15 18 rfl)) dX9_group_100 (fun v20 => ?_)
            refine k_iload h 4 dX9_group_103 rfl ?_
            refine k_asI h dX9_group_105 (fun s21 => ?_)
            refine k_aload_n h 0 dX9_group_106 rfl rfl ?_
            refine k_dup h dX9_group_107 rfl ?_
            refine k_getI h fX9_8 (Or.inl (mw15 18 rfl)) dX9_group_108 (fun v22 => ?_)
            refine k_iconst (v := 1) h dX9_group_111 (by decide) ?_
            refine k_iadd h dX9_group_112 ?_
            refine k_putI h fX9_8 (Or.inl (mw15 18 rfl)) rfl dX9_group_113 (fun s23 => ?_)
            refine k_aload_n h 0 dX9_group_116 rfl rfl ?_
            refine k_getI h fX9_8 (Or.inl (mw15 18 rfl)) dX9_group_117 (fun v24 => ?_)
            refine k_iconst (v := 1) h dX9_group_120 (by decide) ?_
            refine k_isub h dX9_group_121 ?_
            exact k_iret h rfl dX9_group_122 (Nat.le_of_ble_eq_true rfl) (Nat.le_of_ble_eq_true rfl)
          · refine k_bipush (v := (-2)) h dX9_group_62 (by decide) ?_
            exact k_iret h rfl dX9_group_64 (Nat.le_of_ble_eq_true rfl) (Nat.le_of_ble_eq_true rfl)
        · refine k_iconst (v := (-1)) h dX9_group_51 (by decide) ?_
          exact k_iret h rfl dX9_group_52 (Nat.le_of_ble_eq_true rfl) (Nat.le_of_ble_eq_true rfl)
def mX9_isInSome_b17 (a0 : Nat) (q1 : Int32 × Int32) (r3 : (Int32 × Int32) → Sg → Option (Int32 × Sg)) (p2 : Int32) (p1 : Int32) (r7 : (Int32 × Int32) → Sg → Option (Int32 × Sg)) (q5 : Int32 × Int32) (s6 : Sg) : Option (Int32 × Sg) :=
gdR s6 9 22 (some a0) fun v8 =>
alI s6 v8 q1.2 fun v9 =>
if v9 ≤ q5.2 then (
r3 (q5.1, (q1.2 + 1)) s6)
else (
if ¬ q5.1 = 0 then (
r7 (1, (q5.2 + 1)) s6)
else (
gdR s6 9 26 (some a0) fun v10 =>
alZ s6 v10 q1.2 fun v11 =>
if ¬ v11 = p2 then (
r7 (0, (q5.2 + 1)) s6)
else (
gdR s6 9 23 (some a0) fun v12 =>
alI s6 v12 ((6 * q1.2) + q5.2) fun v13 =>
if ¬ v13 = p1 then (
r7 (0, (q5.2 + 1)) s6)
else (
r7 (1, (q5.2 + 1)) s6))))
def mX9_isInSome_b5 (a0 : Nat) (p2 : Int32) (p1 : Int32) (r3 : (Int32 × Int32) → Sg → Option (Int32 × Sg)) (q1 : Int32 × Int32) (s2 : Sg) : Option (Int32 × Sg) :=
gdI s2 9 20 (some a0) fun v4 =>
if v4 ≤ q1.2 then (
ckB q1.1 (some (q1.1, s2)))
else (
lp (mX9_isInSome_b17 a0 q1 r3 p2 p1) FU (q1.1, 0) s2)
def mX9_isInSome (a0 : Nat) (p1 : Int32) (p2 : Int32) (s0 : Sg) : Option (Int32 × Sg) :=
lp (mX9_isInSome_b5 a0 p2 p1) FU (0, 0) s0
def rmX9_isInSome : Room := { frames := 0, cells := 0, slots := 0, locals := 0 }
theorem calX9_isInSome : Cal yX9_isInSome cX9_isInSome 6 (some .boolean) 2 := ⟨(mw17 3 rfl), (mw1 5 rfl), by decide, by decide, by decide +kernel⟩
set_option maxHeartbeats 4000000 in
set_option maxRecDepth 100000 in
theorem ctX9_isInSome (l : Launch) (B : Nat) (D : va_G) (cA : Nat → ClassId) (sa : Nat → Nat) (a0 : Nat) (p1 : Int32) (p2 : Int32) (s0 : Sg) : Ct l B D cA sa yX9_isInSome cX9_isInSome 6 (some .boolean) rmX9_isInSome rI [LR (some a0), LI p1, LI p2] s0 0 0 (mX9_isInSome a0 p1 p2 s0) := by
  refine Ct.of (own := RX9) (by decide) rfl _ (Nat.le_of_ble_eq_true rfl) rfl ?_
  intro p e s m args below meth c h hi
  unfold mX9_isInSome
  refine k_iconst (v := 0) h dX9_isInSome_0 (by decide) ?_
  refine k_istore_n (lv' := [(3, LI 0), (0, LR (some a0)), (1, LI p1), (2, LI p2)]) h dX9_isInSome_1 rfl (by decide) rfl ?_
  refine k_iconst (v := 0) h dX9_isInSome_2 (by decide) ?_
  refine k_istore (lv' := [(4, LI 0), (3, LI 0), (0, LR (some a0)), (1, LI p1), (2, LI p2)]) h dX9_isInSome_3 (by decide) rfl ?_
  refine k_sub (lv' := [(0, LR (some a0)), (1, LI p1), (2, LI p2), (3, LI 0), (4, LI 0)]) h [2, 3, 4, 1, 0] rfl ?_
  refine k_lp (A := Int32 × Int32) (fun q1 => [(0, LR (some a0)), (1, LI p1), (2, LI p2), (3, LI q1.1), (4, LI q1.2)]) (fun q1 => []) (fun r3 hr3 q1 s2 => ?_) FU (0, 0) s0
  unfold mX9_isInSome_b5
  refine k_iload h 4 dX9_isInSome_5 rfl ?_
  refine k_aload_n h 0 dX9_isInSome_7 rfl rfl ?_
  refine k_getI h fX9_20 (Or.inl (mw17 4 rfl)) dX9_isInSome_8 (fun v4 => ?_)
  refine k_icmp_ge (tgt := 79) h dX9_isInSome_11 (by decide) ?_ ?_
  · refine k_iload_n h 3 dX9_isInSome_79 rfl rfl ?_
    exact k_zret h rfl dX9_isInSome_80 (Nat.le_of_ble_eq_true rfl) (Nat.le_of_ble_eq_true rfl)
  · refine k_iconst (v := 0) h dX9_isInSome_14 (by decide) ?_
    refine k_istore (lv' := [(5, LI 0), (0, LR (some a0)), (1, LI p1), (2, LI p2), (3, LI q1.1), (4, LI q1.2)]) h dX9_isInSome_15 (by decide) rfl ?_
    refine k_sub (lv' := [(0, LR (some a0)), (1, LI p1), (2, LI p2), (3, LI q1.1), (4, LI q1.2), (5, LI 0)]) h [1, 2, 3, 4, 5, 0] rfl ?_
    refine k_lp (A := Int32 × Int32) (fun q5 => [(0, LR (some a0)), (1, LI p1), (2, LI p2), (3, LI q5.1), (4, LI q1.2), (5, LI q5.2)]) (fun q5 => []) (fun r7 hr7 q5 s6 => ?_) FU (q1.1, 0) s2
    unfold mX9_isInSome_b17
    refine k_iload h 5 dX9_isInSome_17 rfl ?_
    refine k_aload_n h 0 dX9_isInSome_19 rfl rfl ?_
    refine k_getR h fX9_22 (Or.inl (mw7 7 rfl)) dX9_isInSome_20 (fun v8 => ?_)
    refine k_iload h 4 dX9_isInSome_23 rfl ?_
    refine k_alI h dX9_isInSome_25 (fun v9 => ?_)
    refine k_icmp_ge (tgt := 73) h dX9_isInSome_26 (by decide) ?_ ?_
    · refine k_iinc (w := (q1.2 + 1)) (lv' := [(4, LI (q1.2 + 1)), (0, LR (some a0)), (1, LI p1), (2, LI p2), (3, LI q5.1), (5, LI q5.2)]) h 4 dX9_isInSome_73 rfl rfl (by decide) rfl ?_
      refine k_goto (tgt := 5) h dX9_isInSome_76 (by decide) ?_
      refine k_sub (lv' := [(0, LR (some a0)), (1, LI p1), (2, LI p2), (3, LI q5.1), (4, LI (q1.2 + 1))]) h [1, 2, 3, 4, 0] rfl ?_
      exact hr3 (q5.1, (q1.2 + 1)) s6
    · refine k_iload_n h 3 dX9_isInSome_29 rfl rfl ?_
      refine k_if_ne (tgt := 61) h dX9_isInSome_30 (by decide) ?_ ?_
      · refine k_iconst (v := 1) h dX9_isInSome_61 (by decide) ?_
        refine k_goto (tgt := 66) h dX9_isInSome_62 (by decide) ?_
        refine k_istore_n (lv' := [(3, LI 1), (0, LR (some a0)), (1, LI p1), (2, LI p2), (4, LI q1.2), (5, LI q5.2)]) h dX9_isInSome_66 rfl (by decide) rfl ?_
        refine k_iinc (w := (q5.2 + 1)) (lv' := [(5, LI (q5.2 + 1)), (3, LI 1), (0, LR (some a0)), (1, LI p1), (2, LI p2), (4, LI q1.2)]) h 5 dX9_isInSome_67 rfl rfl (by decide) rfl ?_
        refine k_goto (tgt := 17) h dX9_isInSome_70 (by decide) ?_
        refine k_sub (lv' := [(0, LR (some a0)), (1, LI p1), (2, LI p2), (3, LI 1), (4, LI q1.2), (5, LI (q5.2 + 1))]) h [2, 3, 4, 1, 5, 0] rfl ?_
        exact hr7 (1, (q5.2 + 1)) s6
      · refine k_aload_n h 0 dX9_isInSome_33 rfl rfl ?_
        refine k_getR h fX9_26 (Or.inl (mw7 11 rfl)) dX9_isInSome_34 (fun v10 => ?_)
        refine k_iload h 4 dX9_isInSome_37 rfl ?_
        refine k_alZ h dX9_isInSome_39 (fun v11 => ?_)
        refine k_iload_n h 2 dX9_isInSome_40 rfl rfl ?_
        refine k_icmp_ne (tgt := 65) h dX9_isInSome_41 (by decide) ?_ ?_
        · refine k_iconst (v := 0) h dX9_isInSome_65 (by decide) ?_
          refine k_istore_n (lv' := [(3, LI 0), (0, LR (some a0)), (1, LI p1), (2, LI p2), (4, LI q1.2), (5, LI q5.2)]) h dX9_isInSome_66 rfl (by decide) rfl ?_
          refine k_iinc (w := (q5.2 + 1)) (lv' := [(5, LI (q5.2 + 1)), (3, LI 0), (0, LR (some a0)), (1, LI p1), (2, LI p2), (4, LI q1.2)]) h 5 dX9_isInSome_67 rfl rfl (by decide) rfl ?_
          refine k_goto (tgt := 17) h dX9_isInSome_70 (by decide) ?_
          refine k_sub (lv' := [(0, LR (some a0)), (1, LI p1), (2, LI p2), (3, LI 0), (4, LI q1.2), (5, LI (q5.2 + 1))]) h [2, 3, 4, 1, 5, 0] rfl ?_
          exact hr7 (0, (q5.2 + 1)) s6
        · refine k_aload_n h 0 dX9_isInSome_44 rfl rfl ?_
          refine k_getR h fX9_23 (Or.inl (mw7 8 rfl)) dX9_isInSome_45 (fun v12 => ?_)
          refine k_bipush (v := 6) h dX9_isInSome_48 (by decide) ?_
          refine k_iload h 4 dX9_isInSome_50 rfl ?_
          refine k_imul h dX9_isInSome_52 ?_
          refine k_iload h 5 dX9_isInSome_53 rfl ?_
          refine k_iadd h dX9_isInSome_55 ?_
          refine k_alI h dX9_isInSome_56 (fun v13 => ?_)
          refine k_iload_n h 1 dX9_isInSome_57 rfl rfl ?_
          refine k_icmp_ne (tgt := 65) h dX9_isInSome_58 (by decide) ?_ ?_
          · refine k_iconst (v := 0) h dX9_isInSome_65 (by decide) ?_
            refine k_istore_n (lv' := [(3, LI 0), (0, LR (some a0)), (1, LI p1), (2, LI p2), (4, LI q1.2), (5, LI q5.2)]) h dX9_isInSome_66 rfl (by decide) rfl ?_
            refine k_iinc (w := (q5.2 + 1)) (lv' := [(5, LI (q5.2 + 1)), (3, LI 0), (0, LR (some a0)), (1, LI p1), (2, LI p2), (4, LI q1.2)]) h 5 dX9_isInSome_67 rfl rfl (by decide) rfl ?_
            refine k_goto (tgt := 17) h dX9_isInSome_70 (by decide) ?_
            refine k_sub (lv' := [(0, LR (some a0)), (1, LI p1), (2, LI p2), (3, LI 0), (4, LI q1.2), (5, LI (q5.2 + 1))]) h [2, 3, 4, 1, 5, 0] rfl ?_
            exact hr7 (0, (q5.2 + 1)) s6
          · refine k_iconst (v := 1) h dX9_isInSome_61 (by decide) ?_
            refine k_goto (tgt := 66) h dX9_isInSome_62 (by decide) ?_
            refine k_istore_n (lv' := [(3, LI 1), (0, LR (some a0)), (1, LI p1), (2, LI p2), (4, LI q1.2), (5, LI q5.2)]) h dX9_isInSome_66 rfl (by decide) rfl ?_
            refine k_iinc (w := (q5.2 + 1)) (lv' := [(5, LI (q5.2 + 1)), (3, LI 1), (0, LR (some a0)), (1, LI p1), (2, LI p2), (4, LI q1.2)]) h 5 dX9_isInSome_67 rfl rfl (by decide) rfl ?_
            refine k_goto (tgt := 17) h dX9_isInSome_70 (by decide) ?_
            refine k_sub (lv' := [(0, LR (some a0)), (1, LI p1), (2, LI p2), (3, LI 1), (4, LI q1.2), (5, LI (q5.2 + 1))]) h [2, 3, 4, 1, 5, 0] rfl ?_
            exact hr7 (1, (q5.2 + 1)) s6
def mX9_hasJumper_b5 (a0 : Nat) (p1 : Int32) (p2 : Int32) (r3 : (Int32 × Int32) → Sg → Option (Int32 × Sg)) (q1 : Int32 × Int32) (s2 : Sg) : Option (Int32 × Sg) :=
gdR s2 9 13 (some a0) fun v4 =>
alI s2 v4 p1 fun v5 =>
if v5 ≤ q1.2 then (
ckB q1.1 (some (q1.1, s2)))
else (
if ¬ q1.1 = 0 then (
r3 (1, (q1.2 + 1)) s2)
else (
gdR s2 9 14 (some a0) fun v6 =>
alI s2 v6 ((4 * p1) + q1.2) fun v7 =>
if ¬ v7 = p2 then (
r3 (0, (q1.2 + 1)) s2)
else (
r3 (1, (q1.2 + 1)) s2)))
def mX9_hasJumper (a0 : Nat) (p1 : Int32) (p2 : Int32) (s0 : Sg) : Option (Int32 × Sg) :=
lp (mX9_hasJumper_b5 a0 p1 p2) FU (0, 0) s0
def rmX9_hasJumper : Room := { frames := 0, cells := 0, slots := 0, locals := 0 }
theorem calX9_hasJumper : Cal yX9_hasJumper cX9_hasJumper 5 (some .boolean) 2 := ⟨(mw17 8 rfl), (mw1 5 rfl), by decide, by decide, by decide +kernel⟩
set_option maxHeartbeats 4000000 in
set_option maxRecDepth 100000 in
theorem ctX9_hasJumper (l : Launch) (B : Nat) (D : va_G) (cA : Nat → ClassId) (sa : Nat → Nat) (a0 : Nat) (p1 : Int32) (p2 : Int32) (s0 : Sg) : Ct l B D cA sa yX9_hasJumper cX9_hasJumper 5 (some .boolean) rmX9_hasJumper rI [LR (some a0), LI p1, LI p2] s0 0 0 (mX9_hasJumper a0 p1 p2 s0) := by
  refine Ct.of (own := RX9) (by decide) rfl _ (Nat.le_of_ble_eq_true rfl) rfl ?_
  intro p e s m args below meth c h hi
  unfold mX9_hasJumper
  refine k_iconst (v := 0) h dX9_hasJumper_0 (by decide) ?_
  refine k_istore_n (lv' := [(3, LI 0), (0, LR (some a0)), (1, LI p1), (2, LI p2)]) h dX9_hasJumper_1 rfl (by decide) rfl ?_
  refine k_iconst (v := 0) h dX9_hasJumper_2 (by decide) ?_
  refine k_istore (lv' := [(4, LI 0), (3, LI 0), (0, LR (some a0)), (1, LI p1), (2, LI p2)]) h dX9_hasJumper_3 (by decide) rfl ?_
  refine k_sub (lv' := [(0, LR (some a0)), (1, LI p1), (2, LI p2), (3, LI 0), (4, LI 0)]) h [2, 3, 4, 1, 0] rfl ?_
  refine k_lp (A := Int32 × Int32) (fun q1 => [(0, LR (some a0)), (1, LI p1), (2, LI p2), (3, LI q1.1), (4, LI q1.2)]) (fun q1 => []) (fun r3 hr3 q1 s2 => ?_) FU (0, 0) s0
  unfold mX9_hasJumper_b5
  refine k_iload h 4 dX9_hasJumper_5 rfl ?_
  refine k_aload_n h 0 dX9_hasJumper_7 rfl rfl ?_
  refine k_getR h fX9_13 (Or.inl (mw6 23 rfl)) dX9_hasJumper_8 (fun v4 => ?_)
  refine k_iload_n h 1 dX9_hasJumper_11 rfl rfl ?_
  refine k_alI h dX9_hasJumper_12 (fun v5 => ?_)
  refine k_icmp_ge (tgt := 47) h dX9_hasJumper_13 (by decide) ?_ ?_
  · refine k_iload_n h 3 dX9_hasJumper_47 rfl rfl ?_
    exact k_zret h rfl dX9_hasJumper_48 (Nat.le_of_ble_eq_true rfl) (Nat.le_of_ble_eq_true rfl)
  · refine k_iload_n h 3 dX9_hasJumper_16 rfl rfl ?_
    refine k_if_ne (tgt := 35) h dX9_hasJumper_17 (by decide) ?_ ?_
    · refine k_iconst (v := 1) h dX9_hasJumper_35 (by decide) ?_
      refine k_goto (tgt := 40) h dX9_hasJumper_36 (by decide) ?_
      refine k_istore_n (lv' := [(3, LI 1), (0, LR (some a0)), (1, LI p1), (2, LI p2), (4, LI q1.2)]) h dX9_hasJumper_40 rfl (by decide) rfl ?_
      refine k_iinc (w := (q1.2 + 1)) (lv' := [(4, LI (q1.2 + 1)), (3, LI 1), (0, LR (some a0)), (1, LI p1), (2, LI p2)]) h 4 dX9_hasJumper_41 rfl rfl (by decide) rfl ?_
      refine k_goto (tgt := 5) h dX9_hasJumper_44 (by decide) ?_
      refine k_sub (lv' := [(0, LR (some a0)), (1, LI p1), (2, LI p2), (3, LI 1), (4, LI (q1.2 + 1))]) h [2, 3, 4, 1, 0] rfl ?_
      exact hr3 (1, (q1.2 + 1)) s2
    · refine k_aload_n h 0 dX9_hasJumper_20 rfl rfl ?_
      refine k_getR h fX9_14 (Or.inl (mw7 0 rfl)) dX9_hasJumper_21 (fun v6 => ?_)
      refine k_iconst (v := 4) h dX9_hasJumper_24 (by decide) ?_
      refine k_iload_n h 1 dX9_hasJumper_25 rfl rfl ?_
      refine k_imul h dX9_hasJumper_26 ?_
      refine k_iload h 4 dX9_hasJumper_27 rfl ?_
      refine k_iadd h dX9_hasJumper_29 ?_
      refine k_alI h dX9_hasJumper_30 (fun v7 => ?_)
      refine k_iload_n h 2 dX9_hasJumper_31 rfl rfl ?_
      refine k_icmp_ne (tgt := 39) h dX9_hasJumper_32 (by decide) ?_ ?_
      · refine k_iconst (v := 0) h dX9_hasJumper_39 (by decide) ?_
        refine k_istore_n (lv' := [(3, LI 0), (0, LR (some a0)), (1, LI p1), (2, LI p2), (4, LI q1.2)]) h dX9_hasJumper_40 rfl (by decide) rfl ?_
        refine k_iinc (w := (q1.2 + 1)) (lv' := [(4, LI (q1.2 + 1)), (3, LI 0), (0, LR (some a0)), (1, LI p1), (2, LI p2)]) h 4 dX9_hasJumper_41 rfl rfl (by decide) rfl ?_
        refine k_goto (tgt := 5) h dX9_hasJumper_44 (by decide) ?_
        refine k_sub (lv' := [(0, LR (some a0)), (1, LI p1), (2, LI p2), (3, LI 0), (4, LI (q1.2 + 1))]) h [2, 3, 4, 1, 0] rfl ?_
        exact hr3 (0, (q1.2 + 1)) s2
      · refine k_iconst (v := 1) h dX9_hasJumper_35 (by decide) ?_
        refine k_goto (tgt := 40) h dX9_hasJumper_36 (by decide) ?_
        refine k_istore_n (lv' := [(3, LI 1), (0, LR (some a0)), (1, LI p1), (2, LI p2), (4, LI q1.2)]) h dX9_hasJumper_40 rfl (by decide) rfl ?_
        refine k_iinc (w := (q1.2 + 1)) (lv' := [(4, LI (q1.2 + 1)), (3, LI 1), (0, LR (some a0)), (1, LI p1), (2, LI p2)]) h 4 dX9_hasJumper_41 rfl rfl (by decide) rfl ?_
        refine k_goto (tgt := 5) h dX9_hasJumper_44 (by decide) ?_
        refine k_sub (lv' := [(0, LR (some a0)), (1, LI p1), (2, LI p2), (3, LI 1), (4, LI (q1.2 + 1))]) h [2, 3, 4, 1, 0] rfl ?_
        exact hr3 (1, (q1.2 + 1)) s2
def mX9_join (a0 : Nat) (p1 : Int32) (p2 : Int32) (s0 : Sg) : Option (Int32 × Sg) :=
cv s0 9 (some a0) fun a22 => cl (mX9_isGroup a22 p1 s0) fun v1 s2 =>
if v1 = 0 then (
some ((-1), s2))
else (
cl (mX9_in (Int32.toInt64 p2) 0 31 s2) fun v3 s4 =>
if ¬ v3 = 0 then (
cv s4 9 (some a0) fun a21 => cl (mX9_isInSome a21 p1 1 s4) fun v5 s6 =>
if v5 = 0 then (
cv s6 9 (some a0) fun a20 => cl (mX9_hasJumper a20 p1 p2 s6) fun v7 s8 =>
if v7 = 0 then (
gdR s8 9 13 (some a0) fun v9 =>
alI s8 v9 p1 fun v10 =>
if ¬ v10 = 4 then (
gdR s8 9 14 (some a0) fun v11 =>
gdR s8 9 13 (some a0) fun v12 =>
alI s8 v12 p1 fun v13 =>
asI s8 v11 ((4 * p1) + v13) p2 fun s14 =>
gdR s14 9 13 (some a0) fun v15 =>
alI s14 v15 p1 fun v16 =>
asI s14 v15 p1 (v16 + 1) fun s17 =>
gdR s17 9 13 (some a0) fun v18 =>
alI s17 v18 p1 fun v19 =>
some (v19, s17))
else (
some ((-2), s8)))
else (
some ((-5), s8)))
else (
some ((-6), s6)))
else (
some ((-1), s4)))
def rmX9_join : Room := { frames := 2, cells := 0, slots := 0, locals := 46 }
theorem calX9_join : Cal yX9_join cX9_join 3 (some .int) 2 := ⟨(mw16 19 rfl), (mw1 5 rfl), by decide, by decide, by decide +kernel⟩
set_option maxHeartbeats 4000000 in
set_option maxRecDepth 100000 in
theorem ctX9_join (l : Launch) (B : Nat) (D : va_G) (cA : Nat → ClassId) (sa : Nat → Nat) (a0 : Nat) (p1 : Int32) (p2 : Int32) (s0 : Sg) : Ct l B D cA sa yX9_join cX9_join 3 (some .int) rmX9_join rI [LR (some a0), LI p1, LI p2] s0 0 0 (mX9_join a0 p1 p2 s0) := by
  refine Ct.of (own := RX9) (by decide) rfl _ (Nat.le_of_ble_eq_true rfl) rfl ?_
  intro p e s m args below meth c h hi
  unfold mX9_join
  refine k_aload_n h 0 dX9_join_0 rfl rfl ?_
  refine k_iload_n h 1 dX9_join_1 rfl rfl ?_
  refine k_callVI (As := [LI p1]) (st := []) (x0 := (some a0)) (xg := fun a22 => mX9_isGroup a22 p1 s0) h (fun a22 => ctX9_isGroup l B D cA sa a22 p1 s0) calX9_isGroup rfl (by decide) (mw16 21 rfl) (mw16 22 rfl) (Or.inl (mw16 20 rfl)) hgood ⟨rfl, rfl, Nat.le_of_ble_eq_true rfl, Nat.le_of_ble_eq_true rfl⟩ ⟨Nat.le_of_ble_eq_true rfl, Nat.le_of_ble_eq_true rfl⟩ rfl (Nat.le_of_ble_eq_true rfl) dX9_join_2 (fun v1 s2 => ?_)
  refine k_if_eq (tgt := 20) h dX9_join_5 (by decide) ?_ ?_
  · refine k_iconst (v := (-1)) h dX9_join_20 (by decide) ?_
    exact k_iret h rfl dX9_join_21 (Nat.le_of_ble_eq_true rfl) (Nat.le_of_ble_eq_true rfl)
  · refine k_iload_n h 2 dX9_join_8 rfl rfl ?_
    refine k_i2l h dX9_join_9 ?_
    refine k_lconst (v := 0) h dX9_join_10 (by decide) ?_
    refine k_ldc2_w (v := 31) h dX9_join_11 (mw14 23 rfl) ?_
    refine k_callSI (As := [LL (Int32.toInt64 p2), LL 0, LL 31]) (st := []) h (ctX9_in l B D cA sa (Int32.toInt64 p2) 0 31 s2) calX9_in (mw9 1 rfl) (Or.inl (mw9 0 rfl)) hgood ⟨rfl, rfl, Nat.le_of_ble_eq_true rfl, Nat.le_of_ble_eq_true rfl⟩ ⟨Nat.le_of_ble_eq_true rfl, Nat.le_of_ble_eq_true rfl⟩ rfl (Nat.le_of_ble_eq_true rfl) dX9_join_14 (fun v3 s4 => ?_)
    refine k_if_ne (tgt := 22) h dX9_join_17 (by decide) ?_ ?_
    · refine k_aload_n h 0 dX9_join_22 rfl rfl ?_
      refine k_iload_n h 1 dX9_join_23 rfl rfl ?_
      refine k_iconst (v := 1) h dX9_join_24 (by decide) ?_
      refine k_callVI (As := [LI p1, LI 1]) (st := []) (x0 := (some a0)) (xg := fun a21 => mX9_isInSome a21 p1 1 s4) h (fun a21 => ctX9_isInSome l B D cA sa a21 p1 1 s4) calX9_isInSome rfl (by decide) (mw17 1 rfl) (mw17 2 rfl) (Or.inl (mw17 0 rfl)) hgood ⟨rfl, rfl, Nat.le_of_ble_eq_true rfl, Nat.le_of_ble_eq_true rfl⟩ ⟨Nat.le_of_ble_eq_true rfl, Nat.le_of_ble_eq_true rfl⟩ rfl (Nat.le_of_ble_eq_true rfl) dX9_join_25 (fun v5 s6 => ?_)
      refine k_if_eq (tgt := 34) h dX9_join_28 (by decide) ?_ ?_
      · refine k_aload_n h 0 dX9_join_34 rfl rfl ?_
        refine k_iload_n h 1 dX9_join_35 rfl rfl ?_
        refine k_iload_n h 2 dX9_join_36 rfl rfl ?_
        refine k_callVI (As := [LI p1, LI p2]) (st := []) (x0 := (some a0)) (xg := fun a20 => mX9_hasJumper a20 p1 p2 s6) h (fun a20 => ctX9_hasJumper l B D cA sa a20 p1 p2 s6) calX9_hasJumper rfl (by decide) (mw17 6 rfl) (mw17 7 rfl) (Or.inl (mw17 5 rfl)) hgood ⟨rfl, rfl, Nat.le_of_ble_eq_true rfl, Nat.le_of_ble_eq_true rfl⟩ ⟨Nat.le_of_ble_eq_true rfl, Nat.le_of_ble_eq_true rfl⟩ rfl (Nat.le_of_ble_eq_true rfl) dX9_join_37 (fun v7 s8 => ?_)
        refine k_if_eq (tgt := 46) h dX9_join_40 (by decide) ?_ ?_
        · refine k_aload_n h 0 dX9_join_46 rfl rfl ?_
          refine k_getR h fX9_13 (Or.inl (mw6 23 rfl)) dX9_join_47 (fun v9 => ?_)
          refine k_iload_n h 1 dX9_join_50 rfl rfl ?_
          refine k_alI h dX9_join_51 (fun v10 => ?_)
          refine k_iconst (v := 4) h dX9_join_52 (by decide) ?_
          refine k_icmp_ne (tgt := 59) h dX9_join_53 (by decide) ?_ ?_
          · refine k_aload_n h 0 dX9_join_59 rfl rfl ?_
            refine k_getR h fX9_14 (Or.inl (mw7 0 rfl)) dX9_join_60 (fun v11 => ?_)
            refine k_iconst (v := 4) h dX9_join_63 (by decide) ?_
            refine k_iload_n h 1 dX9_join_64 rfl rfl ?_
            refine k_imul h dX9_join_65 ?_
            refine k_aload_n h 0 dX9_join_66 rfl rfl ?_
            refine k_getR h fX9_13 (Or.inl (mw6 23 rfl)) dX9_join_67 (fun v12 => ?_)
            refine k_iload_n h 1 dX9_join_70 rfl rfl ?_
            refine k_alI h dX9_join_71 (fun v13 => ?_)
            refine k_iadd h dX9_join_72 ?_
            refine k_iload_n h 2 dX9_join_73 rfl rfl ?_
            refine k_asI h dX9_join_74 (fun s14 => ?_)
            refine k_aload_n h 0 dX9_join_75 rfl rfl ?_
            refine k_getR h fX9_13 (Or.inl (mw6 23 rfl)) dX9_join_76 (fun v15 => ?_)
            refine k_iload_n h 1 dX9_join_79 rfl rfl ?_
            refine k_dup2 h dX9_join_80 rfl rfl ?_
            refine k_alI h dX9_join_81 (fun v16 => ?_)
            refine k_iconst (v := 1) h dX9_join_82 (by decide) ?_
            refine k_iadd h dX9_join_83 ?_
            refine k_asI h dX9_join_84 (fun s17 => ?_)
            refine k_aload_n h 0 dX9_join_85 rfl rfl ?_
            refine k_getR h fX9_13 (Or.inl (mw6 23 rfl)) dX9_join_86 (fun v18 => ?_)
            refine k_iload_n h 1 dX9_join_89 rfl rfl ?_
            refine k_alI h dX9_join_90 (fun v19 => ?_)
            exact k_iret h rfl dX9_join_91 (Nat.le_of_ble_eq_true rfl) (Nat.le_of_ble_eq_true rfl)
          · refine k_bipush (v := (-2)) h dX9_join_56 (by decide) ?_
            exact k_iret h rfl dX9_join_58 (Nat.le_of_ble_eq_true rfl) (Nat.le_of_ble_eq_true rfl)
        · refine k_bipush (v := (-5)) h dX9_join_43 (by decide) ?_
          exact k_iret h rfl dX9_join_45 (Nat.le_of_ble_eq_true rfl) (Nat.le_of_ble_eq_true rfl)
      · refine k_bipush (v := (-6)) h dX9_join_31 (by decide) ?_
        exact k_iret h rfl dX9_join_33 (Nat.le_of_ble_eq_true rfl) (Nat.le_of_ble_eq_true rfl)
    · refine k_iconst (v := (-1)) h dX9_join_20 (by decide) ?_
      exact k_iret h rfl dX9_join_21 (Nat.le_of_ble_eq_true rfl) (Nat.le_of_ble_eq_true rfl)
def mX9_weightIn_b4 (a0 : Nat) (p1 : Int32) (r3 : (Int32 × Int32) → Sg → Option (Int32 × Sg)) (q1 : Int32 × Int32) (s2 : Sg) : Option (Int32 × Sg) :=
gdR s2 9 13 (some a0) fun v4 =>
alI s2 v4 p1 fun v5 =>
if v5 ≤ q1.2 then (
some (q1.1, s2))
else (
gdR s2 9 6 (some a0) fun v6 =>
gdR s2 9 14 (some a0) fun v7 =>
alI s2 v7 ((4 * p1) + q1.2) fun v8 =>
alI s2 v6 v8 fun v9 =>
r3 ((q1.1 + v9), (q1.2 + 1)) s2)
def mX9_weightIn (a0 : Nat) (p1 : Int32) (s0 : Sg) : Option (Int32 × Sg) :=
lp (mX9_weightIn_b4 a0 p1) FU (0, 0) s0
def rmX9_weightIn : Room := { frames := 0, cells := 0, slots := 0, locals := 0 }
theorem calX9_weightIn : Cal yX9_weightIn cX9_weightIn 4 (some .int) 1 := ⟨(mw18 3 rfl), (mw1 5 rfl), by decide, by decide, by decide +kernel⟩
set_option maxHeartbeats 4000000 in
set_option maxRecDepth 100000 in
theorem ctX9_weightIn (l : Launch) (B : Nat) (D : va_G) (cA : Nat → ClassId) (sa : Nat → Nat) (a0 : Nat) (p1 : Int32) (s0 : Sg) : Ct l B D cA sa yX9_weightIn cX9_weightIn 4 (some .int) rmX9_weightIn rI [LR (some a0), LI p1] s0 0 0 (mX9_weightIn a0 p1 s0) := by
  refine Ct.of (own := RX9) (by decide) rfl _ (Nat.le_of_ble_eq_true rfl) rfl ?_
  intro p e s m args below meth c h hi
  unfold mX9_weightIn
  refine k_iconst (v := 0) h dX9_weightIn_0 (by decide) ?_
  refine k_istore_n (lv' := [(2, LI 0), (0, LR (some a0)), (1, LI p1)]) h dX9_weightIn_1 rfl (by decide) rfl ?_
  refine k_iconst (v := 0) h dX9_weightIn_2 (by decide) ?_
  refine k_istore_n (lv' := [(3, LI 0), (2, LI 0), (0, LR (some a0)), (1, LI p1)]) h dX9_weightIn_3 rfl (by decide) rfl ?_
  refine k_sub (lv' := [(0, LR (some a0)), (1, LI p1), (2, LI 0), (3, LI 0)]) h [2, 3, 1, 0] rfl ?_
  refine k_lp (A := Int32 × Int32) (fun q1 => [(0, LR (some a0)), (1, LI p1), (2, LI q1.1), (3, LI q1.2)]) (fun q1 => []) (fun r3 hr3 q1 s2 => ?_) FU (0, 0) s0
  unfold mX9_weightIn_b4
  refine k_iload_n h 3 dX9_weightIn_4 rfl rfl ?_
  refine k_aload_n h 0 dX9_weightIn_5 rfl rfl ?_
  refine k_getR h fX9_13 (Or.inl (mw6 23 rfl)) dX9_weightIn_6 (fun v4 => ?_)
  refine k_iload_n h 1 dX9_weightIn_9 rfl rfl ?_
  refine k_alI h dX9_weightIn_10 (fun v5 => ?_)
  refine k_icmp_ge (tgt := 38) h dX9_weightIn_11 (by decide) ?_ ?_
  · refine k_iload_n h 2 dX9_weightIn_38 rfl rfl ?_
    exact k_iret h rfl dX9_weightIn_39 (Nat.le_of_ble_eq_true rfl) (Nat.le_of_ble_eq_true rfl)
  · refine k_iload_n h 2 dX9_weightIn_14 rfl rfl ?_
    refine k_aload_n h 0 dX9_weightIn_15 rfl rfl ?_
    refine k_getR h fX9_6 (Or.inl (mw6 17 rfl)) dX9_weightIn_16 (fun v6 => ?_)
    refine k_aload_n h 0 dX9_weightIn_19 rfl rfl ?_
    refine k_getR h fX9_14 (Or.inl (mw7 0 rfl)) dX9_weightIn_20 (fun v7 => ?_)
    refine k_iconst (v := 4) h dX9_weightIn_23 (by decide) ?_
    refine k_iload_n h 1 dX9_weightIn_24 rfl rfl ?_
    refine k_imul h dX9_weightIn_25 ?_
    refine k_iload_n h 3 dX9_weightIn_26 rfl rfl ?_
    refine k_iadd h dX9_weightIn_27 ?_
    refine k_alI h dX9_weightIn_28 (fun v8 => ?_)
    refine k_alI h dX9_weightIn_29 (fun v9 => ?_)
    refine k_iadd h dX9_weightIn_30 ?_
    refine k_istore_n (lv' := [(2, LI (q1.1 + v9)), (0, LR (some a0)), (1, LI p1), (3, LI q1.2)]) h dX9_weightIn_31 rfl (by decide) rfl ?_
    refine k_iinc (w := (q1.2 + 1)) (lv' := [(3, LI (q1.2 + 1)), (2, LI (q1.1 + v9)), (0, LR (some a0)), (1, LI p1)]) h 3 dX9_weightIn_32 rfl rfl (by decide) rfl ?_
    refine k_goto (tgt := 4) h dX9_weightIn_35 (by decide) ?_
    refine k_sub (lv' := [(0, LR (some a0)), (1, LI p1), (2, LI (q1.1 + v9)), (3, LI (q1.2 + 1))]) h [2, 3, 1, 0] rfl ?_
    exact hr3 ((q1.1 + v9), (q1.2 + 1)) s2
def mX9_of (a0 : Nat) (p1 : Int32) (p2 : Int32) (s0 : Sg) : Option (Int32 × Sg) :=
cv s0 9 (some a0) fun a20 => cl (mX9_isGroup a20 p1 s0) fun v1 s2 =>
if ¬ v1 = 0 then (
if p2 < 10 then (
swc p2 0 [
gdR s2 9 9 (some a0) fun v3 =>
alI s2 v3 p1 fun v4 =>
some (v4, s2),
gdR s2 9 10 (some a0) fun v5 =>
alI s2 v5 p1 fun v6 =>
some (v6, s2),
gdR s2 9 11 (some a0) fun v7 =>
alI s2 v7 p1 fun v8 =>
some (v8, s2),
gdR s2 9 12 (some a0) fun v9 =>
alI s2 v9 p1 fun v10 =>
some (v10, s2),
gdR s2 9 13 (some a0) fun v11 =>
alI s2 v11 p1 fun v12 =>
some (v12, s2),
cv s2 9 (some a0) fun a15 => cl (mX9_weightIn a15 p1 s2) fun v13 s14 =>
some (v13, s14)] (
some ((-1), s2)))
else (
gdR s2 9 13 (some a0) fun v16 =>
alI s2 v16 p1 fun v17 =>
if v17 ≤ (p2 - 10) then (
some ((-1), s2))
else (
gdR s2 9 14 (some a0) fun v18 =>
alI s2 v18 (((4 * p1) + p2) - 10) fun v19 =>
some (v19, s2))))
else (
some ((-1), s2))
def rmX9_of : Room := { frames := 2, cells := 0, slots := 0, locals := 46 }
theorem calX9_of : Cal yX9_of cX9_of 3 (some .int) 2 := ⟨(mw17 23 rfl), (mw1 5 rfl), by decide, by decide, by decide +kernel⟩
set_option maxHeartbeats 4000000 in
set_option maxRecDepth 100000 in
theorem ctX9_of (l : Launch) (B : Nat) (D : va_G) (cA : Nat → ClassId) (sa : Nat → Nat) (a0 : Nat) (p1 : Int32) (p2 : Int32) (s0 : Sg) : Ct l B D cA sa yX9_of cX9_of 3 (some .int) rmX9_of rI [LR (some a0), LI p1, LI p2] s0 0 0 (mX9_of a0 p1 p2 s0) := by
  refine Ct.of (own := RX9) (by decide) rfl _ (Nat.le_of_ble_eq_true rfl) rfl ?_
  intro p e s m args below meth c h hi
  unfold mX9_of
  refine k_aload_n h 0 dX9_of_0 rfl rfl ?_
  refine k_iload_n h 1 dX9_of_1 rfl rfl ?_
  refine k_callVI (As := [LI p1]) (st := []) (x0 := (some a0)) (xg := fun a20 => mX9_isGroup a20 p1 s0) h (fun a20 => ctX9_isGroup l B D cA sa a20 p1 s0) calX9_isGroup rfl (by decide) (mw16 21 rfl) (mw16 22 rfl) (Or.inl (mw16 20 rfl)) hgood ⟨rfl, rfl, Nat.le_of_ble_eq_true rfl, Nat.le_of_ble_eq_true rfl⟩ ⟨Nat.le_of_ble_eq_true rfl, Nat.le_of_ble_eq_true rfl⟩ rfl (Nat.le_of_ble_eq_true rfl) dX9_of_2 (fun v1 s2 => ?_)
  refine k_if_ne (tgt := 10) h dX9_of_5 (by decide) ?_ ?_
  · refine k_iload_n h 2 dX9_of_10 rfl rfl ?_
    refine k_bipush (v := 10) h dX9_of_11 (by decide) ?_
    refine k_icmp_lt (tgt := 47) h dX9_of_13 (by decide) ?_ ?_
    · refine k_iload_n h 2 dX9_of_47 rfl rfl ?_
      refine k_table (tg := 129) (tgs := [88, 95, 102, 109, 116, 123]) h dX9_of_48 (by decide) (by decide) rfl (by decide) ?_ ?_
      · refine k_iconst (v := (-1)) h dX9_of_129 (by decide) ?_
        exact k_iret h rfl dX9_of_130 (Nat.le_of_ble_eq_true rfl) (Nat.le_of_ble_eq_true rfl)
      · intro q9 hq9
        simp only [List.zip_cons_cons, List.zip_nil_right, List.zip_nil_left, List.mem_cons, List.not_mem_nil, or_false] at hq9
        rcases hq9 with rfl | rfl | rfl | rfl | rfl | rfl
        · dsimp only
          refine k_aload_n h 0 dX9_of_88 rfl rfl ?_
          refine k_getR h fX9_9 (Or.inl (mw6 19 rfl)) dX9_of_89 (fun v3 => ?_)
          refine k_iload_n h 1 dX9_of_92 rfl rfl ?_
          refine k_alI h dX9_of_93 (fun v4 => ?_)
          exact k_iret h rfl dX9_of_94 (Nat.le_of_ble_eq_true rfl) (Nat.le_of_ble_eq_true rfl)
        · dsimp only
          refine k_aload_n h 0 dX9_of_95 rfl rfl ?_
          refine k_getR h fX9_10 (Or.inl (mw6 20 rfl)) dX9_of_96 (fun v5 => ?_)
          refine k_iload_n h 1 dX9_of_99 rfl rfl ?_
          refine k_alI h dX9_of_100 (fun v6 => ?_)
          exact k_iret h rfl dX9_of_101 (Nat.le_of_ble_eq_true rfl) (Nat.le_of_ble_eq_true rfl)
        · dsimp only
          refine k_aload_n h 0 dX9_of_102 rfl rfl ?_
          refine k_getR h fX9_11 (Or.inl (mw6 21 rfl)) dX9_of_103 (fun v7 => ?_)
          refine k_iload_n h 1 dX9_of_106 rfl rfl ?_
          refine k_alI h dX9_of_107 (fun v8 => ?_)
          exact k_iret h rfl dX9_of_108 (Nat.le_of_ble_eq_true rfl) (Nat.le_of_ble_eq_true rfl)
        · dsimp only
          refine k_aload_n h 0 dX9_of_109 rfl rfl ?_
          refine k_getR h fX9_12 (Or.inl (mw6 22 rfl)) dX9_of_110 (fun v9 => ?_)
          refine k_iload_n h 1 dX9_of_113 rfl rfl ?_
          refine k_alI h dX9_of_114 (fun v10 => ?_)
          exact k_iret h rfl dX9_of_115 (Nat.le_of_ble_eq_true rfl) (Nat.le_of_ble_eq_true rfl)
        · dsimp only
          refine k_aload_n h 0 dX9_of_116 rfl rfl ?_
          refine k_getR h fX9_13 (Or.inl (mw6 23 rfl)) dX9_of_117 (fun v11 => ?_)
          refine k_iload_n h 1 dX9_of_120 rfl rfl ?_
          refine k_alI h dX9_of_121 (fun v12 => ?_)
          exact k_iret h rfl dX9_of_122 (Nat.le_of_ble_eq_true rfl) (Nat.le_of_ble_eq_true rfl)
        · dsimp only
          refine k_aload_n h 0 dX9_of_123 rfl rfl ?_
          refine k_iload_n h 1 dX9_of_124 rfl rfl ?_
          refine k_callVI (As := [LI p1]) (st := []) (x0 := (some a0)) (xg := fun a15 => mX9_weightIn a15 p1 s2) h (fun a15 => ctX9_weightIn l B D cA sa a15 p1 s2) calX9_weightIn rfl (by decide) (mw18 1 rfl) (mw18 2 rfl) (Or.inl (mw18 0 rfl)) hgood ⟨rfl, rfl, Nat.le_of_ble_eq_true rfl, Nat.le_of_ble_eq_true rfl⟩ ⟨Nat.le_of_ble_eq_true rfl, Nat.le_of_ble_eq_true rfl⟩ rfl (Nat.le_of_ble_eq_true rfl) dX9_of_125 (fun v13 s14 => ?_)
          exact k_iret h rfl dX9_of_128 (Nat.le_of_ble_eq_true rfl) (Nat.le_of_ble_eq_true rfl)
    · refine k_iload_n h 2 dX9_of_16 rfl rfl ?_
      refine k_bipush (v := 10) h dX9_of_17 (by decide) ?_
      refine k_isub h dX9_of_19 ?_
      refine k_aload_n h 0 dX9_of_20 rfl rfl ?_
      refine k_getR h fX9_13 (Or.inl (mw6 23 rfl)) dX9_of_21 (fun v16 => ?_)
      refine k_iload_n h 1 dX9_of_24 rfl rfl ?_
      refine k_alI h dX9_of_25 (fun v17 => ?_)
      refine k_icmp_ge (tgt := 45) h dX9_of_26 (by decide) ?_ ?_
      · refine k_iconst (v := (-1)) h dX9_of_45 (by decide) ?_
        exact k_iret h rfl dX9_of_46 (Nat.le_of_ble_eq_true rfl) (Nat.le_of_ble_eq_true rfl)
      · refine k_aload_n h 0 dX9_of_29 rfl rfl ?_
        refine k_getR h fX9_14 (Or.inl (mw7 0 rfl)) dX9_of_30 (fun v18 => ?_)
        refine k_iconst (v := 4) h dX9_of_33 (by decide) ?_
        refine k_iload_n h 1 dX9_of_34 rfl rfl ?_
        refine k_imul h dX9_of_35 ?_
        refine k_iload_n h 2 dX9_of_36 rfl rfl ?_
        refine k_iadd h dX9_of_37 ?_
        refine k_bipush (v := 10) h dX9_of_38 (by decide) ?_
        refine k_isub h dX9_of_40 ?_
        refine k_alI h dX9_of_41 (fun v19 => ?_)
        refine k_goto (tgt := 46) h dX9_of_42 (by decide) ?_
        exact k_iret h rfl dX9_of_46 (Nat.le_of_ble_eq_true rfl) (Nat.le_of_ble_eq_true rfl)
  · refine k_iconst (v := (-1)) h dX9_of_8 (by decide) ?_
    exact k_iret h rfl dX9_of_9 (Nat.le_of_ble_eq_true rfl) (Nat.le_of_ble_eq_true rfl)
def mX9_plane (a0 : Nat) (p1 : Int32) (p2 : Int32) (p3 : Int32) (p4 : Int32) (p5 : Int32) (s0 : Sg) : Option (Int32 × Sg) :=
cl (mX9_in (Int32.toInt64 p1) 0 2 s0) fun v1 s2 =>
if v1 = 0 then (
some ((-1), s2))
else (
cl (mX9_in (Int32.toInt64 p2) 1 20 s2) fun v3 s4 =>
if v3 = 0 then (
some ((-1), s4))
else (
cl (mX9_in (Int32.toInt64 p3) 100 4000 s4) fun v5 s6 =>
if v5 = 0 then (
some ((-1), s6))
else (
cl (mX9_in (Int32.toInt64 p4) 200 600 s6) fun v7 s8 =>
if v7 = 0 then (
some ((-1), s8))
else (
cl (mX9_in (Int32.toInt64 p5) 15000 47000 s8) fun v9 s10 =>
if ¬ v9 = 0 then (
gdR s10 9 15 (some a0) fun v11 =>
asI s10 v11 p1 p2 fun s12 =>
gdR s12 9 16 (some a0) fun v13 =>
asI s12 v13 p1 p3 fun s14 =>
gdR s14 9 17 (some a0) fun v15 =>
asI s14 v15 p1 p4 fun s16 =>
gdR s16 9 18 (some a0) fun v17 =>
asI s16 v17 p1 p5 fun s18 =>
some (1, s18))
else (
some ((-1), s10))))))
def rmX9_plane : Room := { frames := 1, cells := 0, slots := 0, locals := 25 }
theorem calX9_plane : Cal yX9_plane cX9_plane 6 (some .int) 5 := ⟨(mw18 19 rfl), (mw1 5 rfl), by decide, by decide, by decide +kernel⟩
set_option maxHeartbeats 4000000 in
set_option maxRecDepth 100000 in
theorem ctX9_plane (l : Launch) (B : Nat) (D : va_G) (cA : Nat → ClassId) (sa : Nat → Nat) (a0 : Nat) (p1 : Int32) (p2 : Int32) (p3 : Int32) (p4 : Int32) (p5 : Int32) (s0 : Sg) : Ct l B D cA sa yX9_plane cX9_plane 6 (some .int) rmX9_plane rI [LR (some a0), LI p1, LI p2, LI p3, LI p4, LI p5] s0 0 0 (mX9_plane a0 p1 p2 p3 p4 p5 s0) := by
  refine Ct.of (own := RX9) (by decide) rfl _ (Nat.le_of_ble_eq_true rfl) rfl ?_
  intro p e s m args below meth c h hi
  unfold mX9_plane
  refine k_iload_n h 1 dX9_plane_0 rfl rfl ?_
  refine k_i2l h dX9_plane_1 ?_
  refine k_lconst (v := 0) h dX9_plane_2 (by decide) ?_
  refine k_ldc2_w (v := 2) h dX9_plane_3 (mw8 23 rfl) ?_
  refine k_callSI (As := [LL (Int32.toInt64 p1), LL 0, LL 2]) (st := []) h (ctX9_in l B D cA sa (Int32.toInt64 p1) 0 2 s0) calX9_in (mw9 1 rfl) (Or.inl (mw9 0 rfl)) hgood ⟨rfl, rfl, Nat.le_of_ble_eq_true rfl, Nat.le_of_ble_eq_true rfl⟩ ⟨Nat.le_of_ble_eq_true rfl, Nat.le_of_ble_eq_true rfl⟩ rfl (Nat.le_of_ble_eq_true rfl) dX9_plane_6 (fun v1 s2 => ?_)
  refine k_if_eq (tgt := 68) h dX9_plane_9 (by decide) ?_ ?_
  · refine k_iconst (v := (-1)) h dX9_plane_68 (by decide) ?_
    exact k_iret h rfl dX9_plane_69 (Nat.le_of_ble_eq_true rfl) (Nat.le_of_ble_eq_true rfl)
  · refine k_iload_n h 2 dX9_plane_12 rfl rfl ?_
    refine k_i2l h dX9_plane_13 ?_
    refine k_lconst (v := 1) h dX9_plane_14 (by decide) ?_
    refine k_ldc2_w (v := 20) h dX9_plane_15 (mw9 21 rfl) ?_
    refine k_callSI (As := [LL (Int32.toInt64 p2), LL 1, LL 20]) (st := []) h (ctX9_in l B D cA sa (Int32.toInt64 p2) 1 20 s2) calX9_in (mw9 1 rfl) (Or.inl (mw9 0 rfl)) hgood ⟨rfl, rfl, Nat.le_of_ble_eq_true rfl, Nat.le_of_ble_eq_true rfl⟩ ⟨Nat.le_of_ble_eq_true rfl, Nat.le_of_ble_eq_true rfl⟩ rfl (Nat.le_of_ble_eq_true rfl) dX9_plane_18 (fun v3 s4 => ?_)
    refine k_if_eq (tgt := 68) h dX9_plane_21 (by decide) ?_ ?_
    · refine k_iconst (v := (-1)) h dX9_plane_68 (by decide) ?_
      exact k_iret h rfl dX9_plane_69 (Nat.le_of_ble_eq_true rfl) (Nat.le_of_ble_eq_true rfl)
    · refine k_iload_n h 3 dX9_plane_24 rfl rfl ?_
      refine k_i2l h dX9_plane_25 ?_
      refine k_ldc2_w (v := 100) h dX9_plane_26 (mw18 20 rfl) ?_
      refine k_ldc2_w (v := 4000) h dX9_plane_29 (mw18 21 rfl) ?_
      refine k_callSI (As := [LL (Int32.toInt64 p3), LL 100, LL 4000]) (st := []) h (ctX9_in l B D cA sa (Int32.toInt64 p3) 100 4000 s4) calX9_in (mw9 1 rfl) (Or.inl (mw9 0 rfl)) hgood ⟨rfl, rfl, Nat.le_of_ble_eq_true rfl, Nat.le_of_ble_eq_true rfl⟩ ⟨Nat.le_of_ble_eq_true rfl, Nat.le_of_ble_eq_true rfl⟩ rfl (Nat.le_of_ble_eq_true rfl) dX9_plane_32 (fun v5 s6 => ?_)
      refine k_if_eq (tgt := 68) h dX9_plane_35 (by decide) ?_ ?_
      · refine k_iconst (v := (-1)) h dX9_plane_68 (by decide) ?_
        exact k_iret h rfl dX9_plane_69 (Nat.le_of_ble_eq_true rfl) (Nat.le_of_ble_eq_true rfl)
      · refine k_iload h 4 dX9_plane_38 rfl ?_
        refine k_i2l h dX9_plane_40 ?_
        refine k_ldc2_w (v := 200) h dX9_plane_41 (mw15 1 rfl) ?_
        refine k_ldc2_w (v := 600) h dX9_plane_44 (mw18 22 rfl) ?_
        refine k_callSI (As := [LL (Int32.toInt64 p4), LL 200, LL 600]) (st := []) h (ctX9_in l B D cA sa (Int32.toInt64 p4) 200 600 s6) calX9_in (mw9 1 rfl) (Or.inl (mw9 0 rfl)) hgood ⟨rfl, rfl, Nat.le_of_ble_eq_true rfl, Nat.le_of_ble_eq_true rfl⟩ ⟨Nat.le_of_ble_eq_true rfl, Nat.le_of_ble_eq_true rfl⟩ rfl (Nat.le_of_ble_eq_true rfl) dX9_plane_47 (fun v7 s8 => ?_)
        refine k_if_eq (tgt := 68) h dX9_plane_50 (by decide) ?_ ?_
        · refine k_iconst (v := (-1)) h dX9_plane_68 (by decide) ?_
          exact k_iret h rfl dX9_plane_69 (Nat.le_of_ble_eq_true rfl) (Nat.le_of_ble_eq_true rfl)
        · refine k_iload h 5 dX9_plane_53 rfl ?_
          refine k_i2l h dX9_plane_55 ?_
          refine k_ldc2_w (v := 15000) h dX9_plane_56 (mw15 16 rfl) ?_
          refine k_ldc2_w (v := 47000) h dX9_plane_59 (mw18 23 rfl) ?_
          refine k_callSI (As := [LL (Int32.toInt64 p5), LL 15000, LL 47000]) (st := []) h (ctX9_in l B D cA sa (Int32.toInt64 p5) 15000 47000 s8) calX9_in (mw9 1 rfl) (Or.inl (mw9 0 rfl)) hgood ⟨rfl, rfl, Nat.le_of_ble_eq_true rfl, Nat.le_of_ble_eq_true rfl⟩ ⟨Nat.le_of_ble_eq_true rfl, Nat.le_of_ble_eq_true rfl⟩ rfl (Nat.le_of_ble_eq_true rfl) dX9_plane_62 (fun v9 s10 => ?_)
          refine k_if_ne (tgt := 70) h dX9_plane_65 (by decide) ?_ ?_
          · refine k_aload_n h 0 dX9_plane_70 rfl rfl ?_
            refine k_getR h fX9_15 (Or.inl (mw7 1 rfl)) dX9_plane_71 (fun v11 => ?_)
            refine k_iload_n h 1 dX9_plane_74 rfl rfl ?_
            refine k_iload_n h 2 dX9_plane_75 rfl rfl ?_
            refine k_asI h dX9_plane_76 (fun s12 => ?_)
            refine k_aload_n h 0 dX9_plane_77 rfl rfl ?_
            refine k_getR h fX9_16 (Or.inl (mw7 2 rfl)) dX9_plane_78 (fun v13 => ?_)
            refine k_iload_n h 1 dX9_plane_81 rfl rfl ?_
            refine k_iload_n h 3 dX9_plane_82 rfl rfl ?_
            refine k_asI h dX9_plane_83 (fun s14 => ?_)
            refine k_aload_n h 0 dX9_plane_84 rfl rfl ?_
            refine k_getR h fX9_17 (Or.inl (mw7 3 rfl)) dX9_plane_85 (fun v15 => ?_)
            refine k_iload_n h 1 dX9_plane_88 rfl rfl ?_
            refine k_iload h 4 dX9_plane_89 rfl ?_
            refine k_asI h dX9_plane_91 (fun s16 => ?_)
            refine k_aload_n h 0 dX9_plane_92 rfl rfl ?_
            refine k_getR h fX9_18 (Or.inl (mw7 4 rfl)) dX9_plane_93 (fun v17 => ?_)
            refine k_iload_n h 1 dX9_plane_96 rfl rfl ?_
            refine k_iload h 5 dX9_plane_97 rfl ?_
            refine k_asI h dX9_plane_99 (fun s18 => ?_)
            refine k_iconst (v := 1) h dX9_plane_100 (by decide) ?_
            exact k_iret h rfl dX9_plane_101 (Nat.le_of_ble_eq_true rfl) (Nat.le_of_ble_eq_true rfl)
          · refine k_iconst (v := (-1)) h dX9_plane_68 (by decide) ?_
            exact k_iret h rfl dX9_plane_69 (Nat.le_of_ble_eq_true rfl) (Nat.le_of_ble_eq_true rfl)
def mX9_rule (a0 : Nat) (p1 : Int32) (p2 : Int32) (s0 : Sg) : Option (Int32 × Sg) :=
cl (mX9_in (Int32.toInt64 p1) 0 9 s0) fun v1 s2 =>
if ¬ v1 = 0 then (
jn (fun (q3 : Int32) (s4 : Sg) =>
cl (mX9_in (Int32.toInt64 p2) 0 (Int32.toInt64 q3) s4) fun v6 s7 =>
if ¬ v6 = 0 then (
gdR s7 9 19 (some a0) fun v8 =>
alI s7 v8 p1 fun v9 =>
gdR s7 9 19 (some a0) fun v10 =>
asI s7 v10 p1 p2 fun s11 =>
some (v9, s11))
else (
some ((-1), s7))) (fun j5 =>
if ¬ p1 = 0 then (
if ¬ p1 = 1 then (
if 6 ≤ p1 then (
j5 3 s2)
else (
j5 180000 s2))
else (
j5 20000 s2))
else (
j5 5000 s2)))
else (
some ((-1), s2))
def rmX9_rule : Room := { frames := 1, cells := 0, slots := 0, locals := 25 }
theorem calX9_rule : Cal yX9_rule cX9_rule 5 (some .int) 2 := ⟨(mw19 8 rfl), (mw1 5 rfl), by decide, by decide, by decide +kernel⟩
set_option maxHeartbeats 4000000 in
set_option maxRecDepth 100000 in
theorem ctX9_rule (l : Launch) (B : Nat) (D : va_G) (cA : Nat → ClassId) (sa : Nat → Nat) (a0 : Nat) (p1 : Int32) (p2 : Int32) (s0 : Sg) : Ct l B D cA sa yX9_rule cX9_rule 5 (some .int) rmX9_rule rI [LR (some a0), LI p1, LI p2] s0 0 0 (mX9_rule a0 p1 p2 s0) := by
  refine Ct.of (own := RX9) (by decide) rfl _ (Nat.le_of_ble_eq_true rfl) rfl ?_
  intro p e s m args below meth c h hi
  unfold mX9_rule
  refine k_iload_n h 1 dX9_rule_0 rfl rfl ?_
  refine k_i2l h dX9_rule_1 ?_
  refine k_lconst (v := 0) h dX9_rule_2 (by decide) ?_
  refine k_ldc2_w (v := 9) h dX9_rule_3 (mw19 9 rfl) ?_
  refine k_callSI (As := [LL (Int32.toInt64 p1), LL 0, LL 9]) (st := []) h (ctX9_in l B D cA sa (Int32.toInt64 p1) 0 9 s0) calX9_in (mw9 1 rfl) (Or.inl (mw9 0 rfl)) hgood ⟨rfl, rfl, Nat.le_of_ble_eq_true rfl, Nat.le_of_ble_eq_true rfl⟩ ⟨Nat.le_of_ble_eq_true rfl, Nat.le_of_ble_eq_true rfl⟩ rfl (Nat.le_of_ble_eq_true rfl) dX9_rule_6 (fun v1 s2 => ?_)
  refine k_if_ne (tgt := 14) h dX9_rule_9 (by decide) ?_ ?_
  · refine k_iload_n h 1 dX9_rule_14 rfl rfl ?_
    refine k_jn (A := Int32) (J := 47) (fun q3 => [(0, LR (some a0)), (1, LI p1), (2, LI p2)]) (fun q3 => [LI q3]) (fun q3 s4 => ?_) (fun j5 hj5 => ?_)
    · refine k_istore_n (lv' := [(3, LI q3), (0, LR (some a0)), (1, LI p1), (2, LI p2)]) h dX9_rule_47 rfl (by decide) rfl ?_
      refine k_iload_n h 3 dX9_rule_48 rfl rfl ?_
      refine k_i2l h dX9_rule_49 ?_
      refine k_lconst (v := 0) h dX9_rule_50 (by decide) ?_
      refine k_iload_n h 0 dX9_rule_51 rfl rfl ?_
      refine k_i2l h dX9_rule_52 ?_
      refine k_callSI (As := [LL (Int32.toInt64 p2), LL 0, LL (Int32.toInt64 q3)]) (st := []) h (ctX9_in l B D cA sa (Int32.toInt64 p2) 0 (Int32.toInt64 q3) s4) calX9_in (mw9 1 rfl) (Or.inl (mw9 0 rfl)) hgood ⟨rfl, rfl, Nat.le_of_ble_eq_true rfl, Nat.le_of_ble_eq_true rfl⟩ ⟨Nat.le_of_ble_eq_true rfl, Nat.le_of_ble_eq_true rfl⟩ rfl (Nat.le_of_ble_eq_true rfl) dX9_rule_53 (fun v6 s7 => ?_)
      refine k_if_ne (tgt := 61) h dX9_rule_56 (by decide) ?_ ?_
      · refine k_aload_n h 1 dX9_rule_61 rfl rfl ?_
        refine k_getR h fX9_19 (Or.inl (mw7 5 rfl)) dX9_rule_62 (fun v8 => ?_)
        refine k_iload_n h 2 dX9_rule_65 rfl rfl ?_
        refine k_alI h dX9_rule_66 (fun v9 => ?_)
        refine k_istore (lv' := [(4, LI v9), (3, LI q3), (0, LR (some a0)), (1, LI p1), (2, LI p2)]) h dX9_rule_67 (by decide) rfl ?_
        refine k_aload_n h 2 dX9_rule_69 rfl rfl ?_
        refine k_getR h fX9_19 (Or.inl (mw7 5 rfl)) dX9_rule_70 (fun v10 => ?_)
        refine k_iload_n h 3 dX9_rule_73 rfl rfl ?_
        refine k_iload_n h 4 dX9_rule_74 rfl rfl ?_
        refine k_asI h dX9_rule_75 (fun s11 => ?_)
        refine k_iload h 0 dX9_rule_76 rfl ?_
        exact k_iret h rfl dX9_rule_78 (Nat.le_of_ble_eq_true rfl) (Nat.le_of_ble_eq_true rfl)
      · refine k_iconst (v := (-1)) h dX9_rule_59 (by decide) ?_
        exact k_iret h rfl dX9_rule_60 (Nat.le_of_ble_eq_true rfl) (Nat.le_of_ble_eq_true rfl)
    · refine k_if_ne (tgt := 24) h dX9_rule_15 (by decide) ?_ ?_
      · refine k_iload_n h 1 dX9_rule_24 rfl rfl ?_
        refine k_iconst (v := 1) h dX9_rule_25 (by decide) ?_
        refine k_icmp_ne (tgt := 35) h dX9_rule_26 (by decide) ?_ ?_
        · refine k_iload_n h 1 dX9_rule_35 rfl rfl ?_
          refine k_bipush (v := 6) h dX9_rule_36 (by decide) ?_
          refine k_icmp_ge (tgt := 46) h dX9_rule_38 (by decide) ?_ ?_
          · refine k_iconst (v := 3) h dX9_rule_46 (by decide) ?_
            refine k_sub (lv' := [(0, LR (some a0)), (1, LI p1), (2, LI p2)]) h [0, 1, 2] rfl ?_
            exact hj5 3 s2
          · refine k_ldc (v := 180000) h dX9_rule_41 (mw19 10 rfl) ?_
            refine k_goto (tgt := 47) h dX9_rule_43 (by decide) ?_
            refine k_sub (lv' := [(0, LR (some a0)), (1, LI p1), (2, LI p2)]) h [0, 1, 2] rfl ?_
            exact hj5 180000 s2
        · refine k_sipush (v := 20000) h dX9_rule_29 (by decide) ?_
          refine k_goto (tgt := 47) h dX9_rule_32 (by decide) ?_
          refine k_sub (lv' := [(0, LR (some a0)), (1, LI p1), (2, LI p2)]) h [0, 1, 2] rfl ?_
          exact hj5 20000 s2
      · refine k_sipush (v := 5000) h dX9_rule_18 (by decide) ?_
        refine k_goto (tgt := 47) h dX9_rule_21 (by decide) ?_
        refine k_sub (lv' := [(0, LR (some a0)), (1, LI p1), (2, LI p2)]) h [0, 1, 2] rfl ?_
        exact hj5 5000 s2
  · refine k_iconst (v := (-1)) h dX9_rule_12 (by decide) ?_
    exact k_iret h rfl dX9_rule_13 (Nat.le_of_ble_eq_true rfl) (Nat.le_of_ble_eq_true rfl)
def mX9_load (a0 : Nat) (p1 : Int32) (s0 : Sg) : Option (Int32 × Sg) :=
cl (mX9_in (Int32.toInt64 p1) 0 2 s0) fun v1 s2 =>
if ¬ v1 = 0 then (
gdI s2 9 20 (some a0) fun v3 =>
if ¬ v3 = 12 then (
gdR s2 9 21 (some a0) fun v4 =>
gdI s2 9 20 (some a0) fun v5 =>
asI s2 v4 v5 p1 fun s6 =>
gdI s6 9 20 (some a0) fun v7 =>
ptI s6 9 20 (some a0) (v7 + 1) fun s8 =>
gdI s8 9 20 (some a0) fun v9 =>
some ((v9 - 1), s8))
else (
some ((-2), s2)))
else (
some ((-1), s2))
def rmX9_load : Room := { frames := 1, cells := 0, slots := 0, locals := 25 }
theorem calX9_load : Cal yX9_load cX9_load 2 (some .int) 1 := ⟨(mw19 21 rfl), (mw1 5 rfl), by decide, by decide, by decide +kernel⟩
set_option maxHeartbeats 4000000 in
set_option maxRecDepth 100000 in
theorem ctX9_load (l : Launch) (B : Nat) (D : va_G) (cA : Nat → ClassId) (sa : Nat → Nat) (a0 : Nat) (p1 : Int32) (s0 : Sg) : Ct l B D cA sa yX9_load cX9_load 2 (some .int) rmX9_load rI [LR (some a0), LI p1] s0 0 0 (mX9_load a0 p1 s0) := by
  refine Ct.of (own := RX9) (by decide) rfl _ (Nat.le_of_ble_eq_true rfl) rfl ?_
  intro p e s m args below meth c h hi
  unfold mX9_load
  refine k_iload_n h 1 dX9_load_0 rfl rfl ?_
  refine k_i2l h dX9_load_1 ?_
  refine k_lconst (v := 0) h dX9_load_2 (by decide) ?_
  refine k_ldc2_w (v := 2) h dX9_load_3 (mw8 23 rfl) ?_
  refine k_callSI (As := [LL (Int32.toInt64 p1), LL 0, LL 2]) (st := []) h (ctX9_in l B D cA sa (Int32.toInt64 p1) 0 2 s0) calX9_in (mw9 1 rfl) (Or.inl (mw9 0 rfl)) hgood ⟨rfl, rfl, Nat.le_of_ble_eq_true rfl, Nat.le_of_ble_eq_true rfl⟩ ⟨Nat.le_of_ble_eq_true rfl, Nat.le_of_ble_eq_true rfl⟩ rfl (Nat.le_of_ble_eq_true rfl) dX9_load_6 (fun v1 s2 => ?_)
  refine k_if_ne (tgt := 14) h dX9_load_9 (by decide) ?_ ?_
  · refine k_aload_n h 0 dX9_load_14 rfl rfl ?_
    refine k_getI h fX9_20 (Or.inl (mw17 4 rfl)) dX9_load_15 (fun v3 => ?_)
    refine k_bipush (v := 12) h dX9_load_18 (by decide) ?_
    refine k_icmp_ne (tgt := 26) h dX9_load_20 (by decide) ?_ ?_
    · refine k_aload_n h 0 dX9_load_26 rfl rfl ?_
      refine k_getR h fX9_21 (Or.inl (mw7 6 rfl)) dX9_load_27 (fun v4 => ?_)
      refine k_aload_n h 0 dX9_load_30 rfl rfl ?_
      refine k_getI h fX9_20 (Or.inl (mw17 4 rfl)) dX9_load_31 (fun v5 => ?_)
      refine k_iload_n h 1 dX9_load_34 rfl rfl ?_
      refine k_asI h dX9_load_35 (fun s6 => ?_)
      refine k_aload_n h 0 dX9_load_36 rfl rfl ?_
      refine k_dup h dX9_load_37 rfl ?_
      refine k_getI h fX9_20 (Or.inl (mw17 4 rfl)) dX9_load_38 (fun v7 => ?_)
      refine k_iconst (v := 1) h dX9_load_41 (by decide) ?_
      refine k_iadd h dX9_load_42 ?_
      refine k_putI h fX9_20 (Or.inl (mw17 4 rfl)) rfl dX9_load_43 (fun s8 => ?_)
      refine k_aload_n h 0 dX9_load_46 rfl rfl ?_
      refine k_getI h fX9_20 (Or.inl (mw17 4 rfl)) dX9_load_47 (fun v9 => ?_)
      refine k_iconst (v := 1) h dX9_load_50 (by decide) ?_
      refine k_isub h dX9_load_51 ?_
      exact k_iret h rfl dX9_load_52 (Nat.le_of_ble_eq_true rfl) (Nat.le_of_ble_eq_true rfl)
    · refine k_bipush (v := (-2)) h dX9_load_23 (by decide) ?_
      exact k_iret h rfl dX9_load_25 (Nat.le_of_ble_eq_true rfl) (Nat.le_of_ble_eq_true rfl)
  · refine k_iconst (v := (-1)) h dX9_load_12 (by decide) ?_
    exact k_iret h rfl dX9_load_13 (Nat.le_of_ble_eq_true rfl) (Nat.le_of_ble_eq_true rfl)
def mX9_put (a0 : Nat) (p1 : Int32) (p2 : Int32) (p3 : Int32) (s0 : Sg) : Option (Int32 × Sg) :=
cv s0 9 (some a0) fun a28 => cl (mX9_isLoad a28 p1 s0) fun v1 s2 =>
if v1 = 0 then (
some ((-1), s2))
else (
cv s2 9 (some a0) fun a27 => cl (mX9_isGroup a27 p2 s2) fun v3 s4 =>
if v3 = 0 then (
some ((-1), s4))
else (
cl (mX9_in (Int32.toInt64 p3) 1 60 s4) fun v5 s6 =>
if ¬ v5 = 0 then (
gdR s6 9 26 (some a0) fun v7 =>
alZ s6 v7 p1 fun v8 =>
if v8 = 0 then (
cv s6 9 (some a0) fun a26 => cl (mX9_isInSome a26 p2 0 s6) fun v9 s10 =>
if v9 = 0 then (
gdR s10 9 22 (some a0) fun v11 =>
alI s10 v11 p1 fun v12 =>
if ¬ v12 = 6 then (
gdR s10 9 23 (some a0) fun v13 =>
gdR s10 9 22 (some a0) fun v14 =>
alI s10 v14 p1 fun v15 =>
asI s10 v13 ((6 * p1) + v15) p2 fun s16 =>
gdR s16 9 24 (some a0) fun v17 =>
gdR s16 9 22 (some a0) fun v18 =>
alI s16 v18 p1 fun v19 =>
asI s16 v17 ((6 * p1) + v19) p3 fun s20 =>
gdR s20 9 22 (some a0) fun v21 =>
alI s20 v21 p1 fun v22 =>
asI s20 v21 p1 (v22 + 1) fun s23 =>
gdR s23 9 22 (some a0) fun v24 =>
alI s23 v24 p1 fun v25 =>
some (v25, s23))
else (
some ((-2), s10)))
else (
some ((-5), s10)))
else (
some ((-6), s6)))
else (
some ((-1), s6))))
def rmX9_put : Room := { frames := 2, cells := 0, slots := 0, locals := 46 }
theorem calX9_put : Cal yX9_put cX9_put 4 (some .int) 3 := ⟨(mw20 15 rfl), (mw1 5 rfl), by decide, by decide, by decide +kernel⟩
set_option maxHeartbeats 4000000 in
set_option maxRecDepth 100000 in
theorem ctX9_put (l : Launch) (B : Nat) (D : va_G) (cA : Nat → ClassId) (sa : Nat → Nat) (a0 : Nat) (p1 : Int32) (p2 : Int32) (p3 : Int32) (s0 : Sg) : Ct l B D cA sa yX9_put cX9_put 4 (some .int) rmX9_put rI [LR (some a0), LI p1, LI p2, LI p3] s0 0 0 (mX9_put a0 p1 p2 p3 s0) := by
  refine Ct.of (own := RX9) (by decide) rfl _ (Nat.le_of_ble_eq_true rfl) rfl ?_
  intro p e s m args below meth c h hi
  unfold mX9_put
  refine k_aload_n h 0 dX9_put_0 rfl rfl ?_
  refine k_iload_n h 1 dX9_put_1 rfl rfl ?_
  refine k_callVI (As := [LI p1]) (st := []) (x0 := (some a0)) (xg := fun a28 => mX9_isLoad a28 p1 s0) h (fun a28 => ctX9_isLoad l B D cA sa a28 p1 s0) calX9_isLoad rfl (by decide) (mw20 18 rfl) (mw20 19 rfl) (Or.inl (mw20 17 rfl)) hgood ⟨rfl, rfl, Nat.le_of_ble_eq_true rfl, Nat.le_of_ble_eq_true rfl⟩ ⟨Nat.le_of_ble_eq_true rfl, Nat.le_of_ble_eq_true rfl⟩ rfl (Nat.le_of_ble_eq_true rfl) dX9_put_2 (fun v1 s2 => ?_)
  refine k_if_eq (tgt := 28) h dX9_put_5 (by decide) ?_ ?_
  · refine k_iconst (v := (-1)) h dX9_put_28 (by decide) ?_
    exact k_iret h rfl dX9_put_29 (Nat.le_of_ble_eq_true rfl) (Nat.le_of_ble_eq_true rfl)
  · refine k_aload_n h 0 dX9_put_8 rfl rfl ?_
    refine k_iload_n h 2 dX9_put_9 rfl rfl ?_
    refine k_callVI (As := [LI p2]) (st := []) (x0 := (some a0)) (xg := fun a27 => mX9_isGroup a27 p2 s2) h (fun a27 => ctX9_isGroup l B D cA sa a27 p2 s2) calX9_isGroup rfl (by decide) (mw16 21 rfl) (mw16 22 rfl) (Or.inl (mw16 20 rfl)) hgood ⟨rfl, rfl, Nat.le_of_ble_eq_true rfl, Nat.le_of_ble_eq_true rfl⟩ ⟨Nat.le_of_ble_eq_true rfl, Nat.le_of_ble_eq_true rfl⟩ rfl (Nat.le_of_ble_eq_true rfl) dX9_put_10 (fun v3 s4 => ?_)
    refine k_if_eq (tgt := 28) h dX9_put_13 (by decide) ?_ ?_
    · refine k_iconst (v := (-1)) h dX9_put_28 (by decide) ?_
      exact k_iret h rfl dX9_put_29 (Nat.le_of_ble_eq_true rfl) (Nat.le_of_ble_eq_true rfl)
    · refine k_iload_n h 3 dX9_put_16 rfl rfl ?_
      refine k_i2l h dX9_put_17 ?_
      refine k_lconst (v := 1) h dX9_put_18 (by decide) ?_
      refine k_ldc2_w (v := 60) h dX9_put_19 (mw20 16 rfl) ?_
      refine k_callSI (As := [LL (Int32.toInt64 p3), LL 1, LL 60]) (st := []) h (ctX9_in l B D cA sa (Int32.toInt64 p3) 1 60 s4) calX9_in (mw9 1 rfl) (Or.inl (mw9 0 rfl)) hgood ⟨rfl, rfl, Nat.le_of_ble_eq_true rfl, Nat.le_of_ble_eq_true rfl⟩ ⟨Nat.le_of_ble_eq_true rfl, Nat.le_of_ble_eq_true rfl⟩ rfl (Nat.le_of_ble_eq_true rfl) dX9_put_22 (fun v5 s6 => ?_)
      refine k_if_ne (tgt := 30) h dX9_put_25 (by decide) ?_ ?_
      · refine k_aload_n h 0 dX9_put_30 rfl rfl ?_
        refine k_getR h fX9_26 (Or.inl (mw7 11 rfl)) dX9_put_31 (fun v7 => ?_)
        refine k_iload_n h 1 dX9_put_34 rfl rfl ?_
        refine k_alZ h dX9_put_35 (fun v8 => ?_)
        refine k_if_eq (tgt := 42) h dX9_put_36 (by decide) ?_ ?_
        · refine k_aload_n h 0 dX9_put_42 rfl rfl ?_
          refine k_iload_n h 2 dX9_put_43 rfl rfl ?_
          refine k_iconst (v := 0) h dX9_put_44 (by decide) ?_
          refine k_callVI (As := [LI p2, LI 0]) (st := []) (x0 := (some a0)) (xg := fun a26 => mX9_isInSome a26 p2 0 s6) h (fun a26 => ctX9_isInSome l B D cA sa a26 p2 0 s6) calX9_isInSome rfl (by decide) (mw17 1 rfl) (mw17 2 rfl) (Or.inl (mw17 0 rfl)) hgood ⟨rfl, rfl, Nat.le_of_ble_eq_true rfl, Nat.le_of_ble_eq_true rfl⟩ ⟨Nat.le_of_ble_eq_true rfl, Nat.le_of_ble_eq_true rfl⟩ rfl (Nat.le_of_ble_eq_true rfl) dX9_put_45 (fun v9 s10 => ?_)
          refine k_if_eq (tgt := 54) h dX9_put_48 (by decide) ?_ ?_
          · refine k_aload_n h 0 dX9_put_54 rfl rfl ?_
            refine k_getR h fX9_22 (Or.inl (mw7 7 rfl)) dX9_put_55 (fun v11 => ?_)
            refine k_iload_n h 1 dX9_put_58 rfl rfl ?_
            refine k_alI h dX9_put_59 (fun v12 => ?_)
            refine k_bipush (v := 6) h dX9_put_60 (by decide) ?_
            refine k_icmp_ne (tgt := 68) h dX9_put_62 (by decide) ?_ ?_
            · refine k_aload_n h 0 dX9_put_68 rfl rfl ?_
              refine k_getR h fX9_23 (Or.inl (mw7 8 rfl)) dX9_put_69 (fun v13 => ?_)
              refine k_bipush (v := 6) h dX9_put_72 (by decide) ?_
              refine k_iload_n h 1 dX9_put_74 rfl rfl ?_
              refine k_imul h dX9_put_75 ?_
              refine k_aload_n h 0 dX9_put_76 rfl rfl ?_
              refine k_getR h fX9_22 (Or.inl (mw7 7 rfl)) dX9_put_77 (fun v14 => ?_)
              refine k_iload_n h 1 dX9_put_80 rfl rfl ?_
              refine k_alI h dX9_put_81 (fun v15 => ?_)
              refine k_iadd h dX9_put_82 ?_
              refine k_iload_n h 2 dX9_put_83 rfl rfl ?_
              refine k_asI h dX9_put_84 (fun s16 => ?_)
              refine k_aload_n h 0 dX9_put_85 rfl rfl ?_
              refine k_getR h fX9_24 (Or.inl (mw7 9 rfl)) dX9_put_86 (fun v17 => ?_)
              refine k_bipush (v := 6) h dX9_put_89 (by decide) ?_
              refine k_iload_n h 1 dX9_put_91 rfl rfl ?_
              refine k_imul h dX9_put_92 ?_
              refine k_aload_n h 0 dX9_put_93 rfl rfl ?_
              refine k_getR h fX9_22 (Or.inl (mw7 7 rfl)) dX9_put_94 (fun v18 => ?_)
              refine k_iload_n h 1 dX9_put_97 rfl rfl ?_
              refine k_alI h dX9_put_98 (fun v19 => ?_)
              refine k_iadd h dX9_put_99 ?_
              refine k_iload_n h 3 dX9_put_100 rfl rfl ?_
              refine k_asI h dX9_put_101 (fun s20 => ?_)
              refine k_aload_n h 0 dX9_put_102 rfl rfl ?_
              refine k_getR h fX9_22 (Or.inl (mw7 7 rfl)) dX9_put_103 (fun v21 => ?_)
              refine k_iload_n h 1 dX9_put_106 rfl rfl ?_
              refine k_dup2 h dX9_put_107 rfl rfl ?_
              refine k_alI h dX9_put_108 (fun v22 => ?_)
              refine k_iconst (v := 1) h dX9_put_109 (by decide) ?_
              refine k_iadd h dX9_put_110 ?_
              refine k_asI h dX9_put_111 (fun s23 => ?_)
              refine k_aload_n h 0 dX9_put_112 rfl rfl ?_
              refine k_getR h fX9_22 (Or.inl (mw7 7 rfl)) dX9_put_113 (fun v24 => ?_)
              refine k_iload_n h 1 dX9_put_116 rfl rfl ?_
              refine k_alI h dX9_put_117 (fun v25 => ?_)
              exact k_iret h rfl dX9_put_118 (Nat.le_of_ble_eq_true rfl) (Nat.le_of_ble_eq_true rfl)
            · refine k_bipush (v := (-2)) h dX9_put_65 (by decide) ?_
              exact k_iret h rfl dX9_put_67 (Nat.le_of_ble_eq_true rfl) (Nat.le_of_ble_eq_true rfl)
          · refine k_bipush (v := (-5)) h dX9_put_51 (by decide) ?_
            exact k_iret h rfl dX9_put_53 (Nat.le_of_ble_eq_true rfl) (Nat.le_of_ble_eq_true rfl)
        · refine k_bipush (v := (-6)) h dX9_put_39 (by decide) ?_
          exact k_iret h rfl dX9_put_41 (Nat.le_of_ble_eq_true rfl) (Nat.le_of_ble_eq_true rfl)
      · refine k_iconst (v := (-1)) h dX9_put_28 (by decide) ?_
        exact k_iret h rfl dX9_put_29 (Nat.le_of_ble_eq_true rfl) (Nat.le_of_ble_eq_true rfl)
def mX9_out_b35 (a0 : Nat) (p1 : Int32) (r10 : (Int32) → Sg → Option (Int32 × Sg)) (q8 : Int32) (s9 : Sg) : Option (Int32 × Sg) :=
gdR s9 9 22 (some a0) fun v11 =>
alI s9 v11 p1 fun v12 =>
if v12 ≤ q8 then (
gdR s9 9 22 (some a0) fun v13 =>
alI s9 v13 p1 fun v14 =>
some (v14, s9))
else (
gdR s9 9 23 (some a0) fun v15 =>
gdR s9 9 23 (some a0) fun v16 =>
alI s9 v16 (((6 * p1) + q8) + 1) fun v17 =>
asI s9 v15 ((6 * p1) + q8) v17 fun s18 =>
gdR s18 9 24 (some a0) fun v19 =>
gdR s18 9 24 (some a0) fun v20 =>
alI s18 v20 (((6 * p1) + q8) + 1) fun v21 =>
asI s18 v19 ((6 * p1) + q8) v21 fun s22 =>
r10 (q8 + 1) s22)
def mX9_out (a0 : Nat) (p1 : Int32) (p2 : Int32) (s0 : Sg) : Option (Int32 × Sg) :=
cv s0 9 (some a0) fun a24 => cl (mX9_isIn a24 p1 p2 s0) fun v1 s2 =>
if ¬ v1 = 0 then (
gdR s2 9 26 (some a0) fun v3 =>
alZ s2 v3 p1 fun v4 =>
if v4 = 0 then (
gdR s2 9 22 (some a0) fun v5 =>
alI s2 v5 p1 fun v6 =>
asI s2 v5 p1 (v6 - 1) fun s7 =>
lp (mX9_out_b35 a0 p1) FU p2 s7)
else (
some ((-6), s2)))
else (
some ((-1), s2))
def rmX9_out : Room := { frames := 3, cells := 0, slots := 0, locals := 68 }
theorem calX9_out : Cal yX9_out cX9_out 4 (some .int) 2 := ⟨(mw21 11 rfl), (mw1 5 rfl), by decide, by decide, by decide +kernel⟩
set_option maxHeartbeats 4000000 in
set_option maxRecDepth 100000 in
theorem ctX9_out (l : Launch) (B : Nat) (D : va_G) (cA : Nat → ClassId) (sa : Nat → Nat) (a0 : Nat) (p1 : Int32) (p2 : Int32) (s0 : Sg) : Ct l B D cA sa yX9_out cX9_out 4 (some .int) rmX9_out rI [LR (some a0), LI p1, LI p2] s0 0 0 (mX9_out a0 p1 p2 s0) := by
  refine Ct.of (own := RX9) (by decide) rfl _ (Nat.le_of_ble_eq_true rfl) rfl ?_
  intro p e s m args below meth c h hi
  unfold mX9_out
  refine k_aload_n h 0 dX9_out_0 rfl rfl ?_
  refine k_iload_n h 1 dX9_out_1 rfl rfl ?_
  refine k_iload_n h 2 dX9_out_2 rfl rfl ?_
  refine k_callVI (As := [LI p1, LI p2]) (st := []) (x0 := (some a0)) (xg := fun a24 => mX9_isIn a24 p1 p2 s0) h (fun a24 => ctX9_isIn l B D cA sa a24 p1 p2 s0) calX9_isIn rfl (by decide) (mw21 13 rfl) (mw21 14 rfl) (Or.inl (mw21 12 rfl)) hgood ⟨rfl, rfl, Nat.le_of_ble_eq_true rfl, Nat.le_of_ble_eq_true rfl⟩ ⟨Nat.le_of_ble_eq_true rfl, Nat.le_of_ble_eq_true rfl⟩ rfl (Nat.le_of_ble_eq_true rfl) dX9_out_3 (fun v1 s2 => ?_)
  refine k_if_ne (tgt := 11) h dX9_out_6 (by decide) ?_ ?_
  · refine k_aload_n h 0 dX9_out_11 rfl rfl ?_
    refine k_getR h fX9_26 (Or.inl (mw7 11 rfl)) dX9_out_12 (fun v3 => ?_)
    refine k_iload_n h 1 dX9_out_15 rfl rfl ?_
    refine k_alZ h dX9_out_16 (fun v4 => ?_)
    refine k_if_eq (tgt := 23) h dX9_out_17 (by decide) ?_ ?_
    · refine k_aload_n h 0 dX9_out_23 rfl rfl ?_
      refine k_getR h fX9_22 (Or.inl (mw7 7 rfl)) dX9_out_24 (fun v5 => ?_)
      refine k_iload_n h 1 dX9_out_27 rfl rfl ?_
      refine k_dup2 h dX9_out_28 rfl rfl ?_
      refine k_alI h dX9_out_29 (fun v6 => ?_)
      refine k_iconst (v := 1) h dX9_out_30 (by decide) ?_
      refine k_isub h dX9_out_31 ?_
      refine k_asI h dX9_out_32 (fun s7 => ?_)
      refine k_iload_n h 2 dX9_out_33 rfl rfl ?_
      refine k_istore_n (lv' := [(3, LI p2), (0, LR (some a0)), (1, LI p1), (2, LI p2)]) h dX9_out_34 rfl (by decide) rfl ?_
      refine k_sub (lv' := [(0, LR (some a0)), (1, LI p1), (3, LI p2)]) h [1, 2, 0] rfl ?_
      refine k_lp (A := Int32) (fun q8 => [(0, LR (some a0)), (1, LI p1), (3, LI q8)]) (fun q8 => []) (fun r10 hr10 q8 s9 => ?_) FU p2 s7
      unfold mX9_out_b35
      refine k_iload_n h 2 dX9_out_35 rfl rfl ?_
      refine k_aload_n h 0 dX9_out_36 rfl rfl ?_
      refine k_getR h fX9_22 (Or.inl (mw7 7 rfl)) dX9_out_37 (fun v11 => ?_)
      refine k_iload_n h 1 dX9_out_40 rfl rfl ?_
      refine k_alI h dX9_out_41 (fun v12 => ?_)
      refine k_icmp_ge (tgt := 99) h dX9_out_42 (by decide) ?_ ?_
      · refine k_aload_n h 0 dX9_out_99 rfl rfl ?_
        refine k_getR h fX9_22 (Or.inl (mw7 7 rfl)) dX9_out_100 (fun v13 => ?_)
        refine k_iload_n h 1 dX9_out_103 rfl rfl ?_
        refine k_alI h dX9_out_104 (fun v14 => ?_)
        exact k_iret h rfl dX9_out_105 (Nat.le_of_ble_eq_true rfl) (Nat.le_of_ble_eq_true rfl)
      · refine k_aload_n h 0 dX9_out_45 rfl rfl ?_
        refine k_getR h fX9_23 (Or.inl (mw7 8 rfl)) dX9_out_46 (fun v15 => ?_)
        refine k_bipush (v := 6) h dX9_out_49 (by decide) ?_
        refine k_iload_n h 1 dX9_out_51 rfl rfl ?_
        refine k_imul h dX9_out_52 ?_
        refine k_iload_n h 2 dX9_out_53 rfl rfl ?_
        refine k_iadd h dX9_out_54 ?_
        refine k_aload_n h 0 dX9_out_55 rfl rfl ?_
        refine k_getR h fX9_23 (Or.inl (mw7 8 rfl)) dX9_out_56 (fun v16 => ?_)
        refine k_bipush (v := 6) h dX9_out_59 (by decide) ?_
        refine k_iload_n h 1 dX9_out_61 rfl rfl ?_
        refine k_imul h dX9_out_62 ?_
        refine k_iload_n h 2 dX9_out_63 rfl rfl ?_
        refine k_iadd h dX9_out_64 ?_
        refine k_iconst (v := 1) h dX9_out_65 (by decide) ?_
        refine k_iadd h dX9_out_66 ?_
        refine k_alI h dX9_out_67 (fun v17 => ?_)
        refine k_asI h dX9_out_68 (fun s18 => ?_)
        refine k_aload_n h 0 dX9_out_69 rfl rfl ?_
        refine k_getR h fX9_24 (Or.inl (mw7 9 rfl)) dX9_out_70 (fun v19 => ?_)
        refine k_bipush (v := 6) h dX9_out_73 (by decide) ?_
        refine k_iload_n h 1 dX9_out_75 rfl rfl ?_
        refine k_imul h dX9_out_76 ?_
        refine k_iload_n h 2 dX9_out_77 rfl rfl ?_
        refine k_iadd h dX9_out_78 ?_
        refine k_aload_n h 0 dX9_out_79 rfl rfl ?_
        refine k_getR h fX9_24 (Or.inl (mw7 9 rfl)) dX9_out_80 (fun v20 => ?_)
        refine k_bipush (v := 6) h dX9_out_83 (by decide) ?_
        refine k_iload_n h 1 dX9_out_85 rfl rfl ?_
        refine k_imul h dX9_out_86 ?_
        refine k_iload_n h 2 dX9_out_87 rfl rfl ?_
        refine k_iadd h dX9_out_88 ?_
        refine k_iconst (v := 1) h dX9_out_89 (by decide) ?_
        refine k_iadd h dX9_out_90 ?_
        refine k_alI h dX9_out_91 (fun v21 => ?_)
        refine k_asI h dX9_out_92 (fun s22 => ?_)
        refine k_iinc (w := (q8 + 1)) (lv' := [(3, LI (q8 + 1)), (0, LR (some a0)), (1, LI p1)]) h 2 dX9_out_93 rfl rfl (by decide) rfl ?_
        refine k_goto (tgt := 35) h dX9_out_96 (by decide) ?_
        refine k_sub (lv' := [(0, LR (some a0)), (1, LI p1), (3, LI (q8 + 1))]) h [1, 2, 0] rfl ?_
        exact hr10 (q8 + 1) s22
    · refine k_bipush (v := (-6)) h dX9_out_20 (by decide) ?_
      exact k_iret h rfl dX9_out_22 (Nat.le_of_ble_eq_true rfl) (Nat.le_of_ble_eq_true rfl)
  · refine k_iconst (v := (-1)) h dX9_out_9 (by decide) ?_
    exact k_iret h rfl dX9_out_10 (Nat.le_of_ble_eq_true rfl) (Nat.le_of_ble_eq_true rfl)
def mX9_pause (a0 : Nat) (p1 : Int32) (p2 : Int32) (p3 : Int32) (s0 : Sg) : Option (Int32 × Sg) :=
cv s0 9 (some a0) fun a9 => cl (mX9_isIn a9 p1 p2 s0) fun v1 s2 =>
if v1 = 0 then (
some ((-1), s2))
else (
cl (mX9_in (Int32.toInt64 p3) 1 60 s2) fun v3 s4 =>
if ¬ v3 = 0 then (
gdR s4 9 26 (some a0) fun v5 =>
alZ s4 v5 p1 fun v6 =>
if v6 = 0 then (
gdR s4 9 24 (some a0) fun v7 =>
asI s4 v7 ((6 * p1) + p2) p3 fun s8 =>
some (1, s8))
else (
some ((-6), s4)))
else (
some ((-1), s4)))
def rmX9_pause : Room := { frames := 3, cells := 0, slots := 0, locals := 68 }
theorem calX9_pause : Cal yX9_pause cX9_pause 4 (some .int) 3 := ⟨(mw21 23 rfl), (mw1 5 rfl), by decide, by decide, by decide +kernel⟩
set_option maxHeartbeats 4000000 in
set_option maxRecDepth 100000 in
theorem ctX9_pause (l : Launch) (B : Nat) (D : va_G) (cA : Nat → ClassId) (sa : Nat → Nat) (a0 : Nat) (p1 : Int32) (p2 : Int32) (p3 : Int32) (s0 : Sg) : Ct l B D cA sa yX9_pause cX9_pause 4 (some .int) rmX9_pause rI [LR (some a0), LI p1, LI p2, LI p3] s0 0 0 (mX9_pause a0 p1 p2 p3 s0) := by
  refine Ct.of (own := RX9) (by decide) rfl _ (Nat.le_of_ble_eq_true rfl) rfl ?_
  intro p e s m args below meth c h hi
  unfold mX9_pause
  refine k_aload_n h 0 dX9_pause_0 rfl rfl ?_
  refine k_iload_n h 1 dX9_pause_1 rfl rfl ?_
  refine k_iload_n h 2 dX9_pause_2 rfl rfl ?_
  refine k_callVI (As := [LI p1, LI p2]) (st := []) (x0 := (some a0)) (xg := fun a9 => mX9_isIn a9 p1 p2 s0) h (fun a9 => ctX9_isIn l B D cA sa a9 p1 p2 s0) calX9_isIn rfl (by decide) (mw21 13 rfl) (mw21 14 rfl) (Or.inl (mw21 12 rfl)) hgood ⟨rfl, rfl, Nat.le_of_ble_eq_true rfl, Nat.le_of_ble_eq_true rfl⟩ ⟨Nat.le_of_ble_eq_true rfl, Nat.le_of_ble_eq_true rfl⟩ rfl (Nat.le_of_ble_eq_true rfl) dX9_pause_3 (fun v1 s2 => ?_)
  refine k_if_eq (tgt := 21) h dX9_pause_6 (by decide) ?_ ?_
  · refine k_iconst (v := (-1)) h dX9_pause_21 (by decide) ?_
    exact k_iret h rfl dX9_pause_22 (Nat.le_of_ble_eq_true rfl) (Nat.le_of_ble_eq_true rfl)
  · refine k_iload_n h 3 dX9_pause_9 rfl rfl ?_
    refine k_i2l h dX9_pause_10 ?_
    refine k_lconst (v := 1) h dX9_pause_11 (by decide) ?_
    refine k_ldc2_w (v := 60) h dX9_pause_12 (mw20 16 rfl) ?_
    refine k_callSI (As := [LL (Int32.toInt64 p3), LL 1, LL 60]) (st := []) h (ctX9_in l B D cA sa (Int32.toInt64 p3) 1 60 s2) calX9_in (mw9 1 rfl) (Or.inl (mw9 0 rfl)) hgood ⟨rfl, rfl, Nat.le_of_ble_eq_true rfl, Nat.le_of_ble_eq_true rfl⟩ ⟨Nat.le_of_ble_eq_true rfl, Nat.le_of_ble_eq_true rfl⟩ rfl (Nat.le_of_ble_eq_true rfl) dX9_pause_15 (fun v3 s4 => ?_)
    refine k_if_ne (tgt := 23) h dX9_pause_18 (by decide) ?_ ?_
    · refine k_aload_n h 0 dX9_pause_23 rfl rfl ?_
      refine k_getR h fX9_26 (Or.inl (mw7 11 rfl)) dX9_pause_24 (fun v5 => ?_)
      refine k_iload_n h 1 dX9_pause_27 rfl rfl ?_
      refine k_alZ h dX9_pause_28 (fun v6 => ?_)
      refine k_if_eq (tgt := 35) h dX9_pause_29 (by decide) ?_ ?_
      · refine k_aload_n h 0 dX9_pause_35 rfl rfl ?_
        refine k_getR h fX9_24 (Or.inl (mw7 9 rfl)) dX9_pause_36 (fun v7 => ?_)
        refine k_bipush (v := 6) h dX9_pause_39 (by decide) ?_
        refine k_iload_n h 1 dX9_pause_41 rfl rfl ?_
        refine k_imul h dX9_pause_42 ?_
        refine k_iload_n h 2 dX9_pause_43 rfl rfl ?_
        refine k_iadd h dX9_pause_44 ?_
        refine k_iload_n h 3 dX9_pause_45 rfl rfl ?_
        refine k_asI h dX9_pause_46 (fun s8 => ?_)
        refine k_iconst (v := 1) h dX9_pause_47 (by decide) ?_
        exact k_iret h rfl dX9_pause_48 (Nat.le_of_ble_eq_true rfl) (Nat.le_of_ble_eq_true rfl)
      · refine k_bipush (v := (-6)) h dX9_pause_32 (by decide) ?_
        exact k_iret h rfl dX9_pause_34 (Nat.le_of_ble_eq_true rfl) (Nat.le_of_ble_eq_true rfl)
    · refine k_iconst (v := (-1)) h dX9_pause_21 (by decide) ?_
      exact k_iret h rfl dX9_pause_22 (Nat.le_of_ble_eq_true rfl) (Nat.le_of_ble_eq_true rfl)
def mX9_start (a0 : Nat) (p1 : Int32) (p2 : Int32) (s0 : Sg) : Option (Int32 × Sg) :=
cv s0 9 (some a0) fun a9 => cl (mX9_isLoad a9 p1 s0) fun v1 s2 =>
if v1 = 0 then (
some ((-1), s2))
else (
cl (mX9_in (Int32.toInt64 p2) (-50000) 50000 s2) fun v3 s4 =>
if ¬ v3 = 0 then (
gdR s4 9 26 (some a0) fun v5 =>
alZ s4 v5 p1 fun v6 =>
if v6 = 0 then (
gdR s4 9 25 (some a0) fun v7 =>
asI s4 v7 p1 p2 fun s8 =>
some (1, s8))
else (
some ((-6), s4)))
else (
some ((-1), s4)))
def rmX9_start : Room := { frames := 2, cells := 0, slots := 0, locals := 46 }
theorem calX9_start : Cal yX9_start cX9_start 3 (some .int) 2 := ⟨(mw22 9 rfl), (mw1 5 rfl), by decide, by decide, by decide +kernel⟩
set_option maxHeartbeats 4000000 in
set_option maxRecDepth 100000 in
theorem ctX9_start (l : Launch) (B : Nat) (D : va_G) (cA : Nat → ClassId) (sa : Nat → Nat) (a0 : Nat) (p1 : Int32) (p2 : Int32) (s0 : Sg) : Ct l B D cA sa yX9_start cX9_start 3 (some .int) rmX9_start rI [LR (some a0), LI p1, LI p2] s0 0 0 (mX9_start a0 p1 p2 s0) := by
  refine Ct.of (own := RX9) (by decide) rfl _ (Nat.le_of_ble_eq_true rfl) rfl ?_
  intro p e s m args below meth c h hi
  unfold mX9_start
  refine k_aload_n h 0 dX9_start_0 rfl rfl ?_
  refine k_iload_n h 1 dX9_start_1 rfl rfl ?_
  refine k_callVI (As := [LI p1]) (st := []) (x0 := (some a0)) (xg := fun a9 => mX9_isLoad a9 p1 s0) h (fun a9 => ctX9_isLoad l B D cA sa a9 p1 s0) calX9_isLoad rfl (by decide) (mw20 18 rfl) (mw20 19 rfl) (Or.inl (mw20 17 rfl)) hgood ⟨rfl, rfl, Nat.le_of_ble_eq_true rfl, Nat.le_of_ble_eq_true rfl⟩ ⟨Nat.le_of_ble_eq_true rfl, Nat.le_of_ble_eq_true rfl⟩ rfl (Nat.le_of_ble_eq_true rfl) dX9_start_2 (fun v1 s2 => ?_)
  refine k_if_eq (tgt := 22) h dX9_start_5 (by decide) ?_ ?_
  · refine k_iconst (v := (-1)) h dX9_start_22 (by decide) ?_
    exact k_iret h rfl dX9_start_23 (Nat.le_of_ble_eq_true rfl) (Nat.le_of_ble_eq_true rfl)
  · refine k_iload_n h 2 dX9_start_8 rfl rfl ?_
    refine k_i2l h dX9_start_9 ?_
    refine k_ldc2_w (v := (-50000)) h dX9_start_10 (mw22 10 rfl) ?_
    refine k_ldc2_w (v := 50000) h dX9_start_13 (mw22 11 rfl) ?_
    refine k_callSI (As := [LL (Int32.toInt64 p2), LL (-50000), LL 50000]) (st := []) h (ctX9_in l B D cA sa (Int32.toInt64 p2) (-50000) 50000 s2) calX9_in (mw9 1 rfl) (Or.inl (mw9 0 rfl)) hgood ⟨rfl, rfl, Nat.le_of_ble_eq_true rfl, Nat.le_of_ble_eq_true rfl⟩ ⟨Nat.le_of_ble_eq_true rfl, Nat.le_of_ble_eq_true rfl⟩ rfl (Nat.le_of_ble_eq_true rfl) dX9_start_16 (fun v3 s4 => ?_)
    refine k_if_ne (tgt := 24) h dX9_start_19 (by decide) ?_ ?_
    · refine k_aload_n h 0 dX9_start_24 rfl rfl ?_
      refine k_getR h fX9_26 (Or.inl (mw7 11 rfl)) dX9_start_25 (fun v5 => ?_)
      refine k_iload_n h 1 dX9_start_28 rfl rfl ?_
      refine k_alZ h dX9_start_29 (fun v6 => ?_)
      refine k_if_eq (tgt := 36) h dX9_start_30 (by decide) ?_ ?_
      · refine k_aload_n h 0 dX9_start_36 rfl rfl ?_
        refine k_getR h fX9_25 (Or.inl (mw7 10 rfl)) dX9_start_37 (fun v7 => ?_)
        refine k_iload_n h 1 dX9_start_40 rfl rfl ?_
        refine k_iload_n h 2 dX9_start_41 rfl rfl ?_
        refine k_asI h dX9_start_42 (fun s8 => ?_)
        refine k_iconst (v := 1) h dX9_start_43 (by decide) ?_
        exact k_iret h rfl dX9_start_44 (Nat.le_of_ble_eq_true rfl) (Nat.le_of_ble_eq_true rfl)
      · refine k_bipush (v := (-6)) h dX9_start_33 (by decide) ?_
        exact k_iret h rfl dX9_start_35 (Nat.le_of_ble_eq_true rfl) (Nat.le_of_ble_eq_true rfl)
    · refine k_iconst (v := (-1)) h dX9_start_22 (by decide) ?_
      exact k_iret h rfl dX9_start_23 (Nat.le_of_ble_eq_true rfl) (Nat.le_of_ble_eq_true rfl)
def mX9_leavesAt_b5 (p2 : Int32) (a0 : Nat) (p1 : Int32) (r3 : (Int32 × Int32) → Sg → Option (Int32 × Sg)) (q1 : Int32 × Int32) (s2 : Sg) : Option (Int32 × Sg) :=
if p2 < q1.2 then (
some (q1.1, s2))
else (
gdR s2 9 24 (some a0) fun v4 =>
alI s2 v4 ((6 * p1) + q1.2) fun v5 =>
r3 ((q1.1 + v5), (q1.2 + 1)) s2)
def mX9_leavesAt (a0 : Nat) (p1 : Int32) (p2 : Int32) (s0 : Sg) : Option (Int32 × Sg) :=
lp (mX9_leavesAt_b5 p2 a0 p1) FU (0, 1) s0
def rmX9_leavesAt : Room := { frames := 0, cells := 0, slots := 0, locals := 0 }
theorem calX9_leavesAt : Cal yX9_leavesAt cX9_leavesAt 5 (some .int) 2 := ⟨(mw23 10 rfl), (mw1 5 rfl), by decide, by decide, by decide +kernel⟩
set_option maxHeartbeats 4000000 in
set_option maxRecDepth 100000 in
theorem ctX9_leavesAt (l : Launch) (B : Nat) (D : va_G) (cA : Nat → ClassId) (sa : Nat → Nat) (a0 : Nat) (p1 : Int32) (p2 : Int32) (s0 : Sg) : Ct l B D cA sa yX9_leavesAt cX9_leavesAt 5 (some .int) rmX9_leavesAt rI [LR (some a0), LI p1, LI p2] s0 0 0 (mX9_leavesAt a0 p1 p2 s0) := by
  refine Ct.of (own := RX9) (by decide) rfl _ (Nat.le_of_ble_eq_true rfl) rfl ?_
  intro p e s m args below meth c h hi
  unfold mX9_leavesAt
  refine k_iconst (v := 0) h dX9_leavesAt_0 (by decide) ?_
  refine k_istore_n (lv' := [(3, LI 0), (0, LR (some a0)), (1, LI p1), (2, LI p2)]) h dX9_leavesAt_1 rfl (by decide) rfl ?_
  refine k_iconst (v := 1) h dX9_leavesAt_2 (by decide) ?_
  refine k_istore (lv' := [(4, LI 1), (3, LI 0), (0, LR (some a0)), (1, LI p1), (2, LI p2)]) h dX9_leavesAt_3 (by decide) rfl ?_
  refine k_sub (lv' := [(0, LR (some a0)), (1, LI p1), (2, LI p2), (3, LI 0), (4, LI 1)]) h [2, 3, 4, 1, 0] rfl ?_
  refine k_lp (A := Int32 × Int32) (fun q1 => [(0, LR (some a0)), (1, LI p1), (2, LI p2), (3, LI q1.1), (4, LI q1.2)]) (fun q1 => []) (fun r3 hr3 q1 s2 => ?_) FU (0, 1) s0
  unfold mX9_leavesAt_b5
  refine k_iload h 4 dX9_leavesAt_5 rfl ?_
  refine k_iload_n h 2 dX9_leavesAt_7 rfl rfl ?_
  refine k_icmp_gt (tgt := 32) h dX9_leavesAt_8 (by decide) ?_ ?_
  · refine k_iload_n h 3 dX9_leavesAt_32 rfl rfl ?_
    exact k_iret h rfl dX9_leavesAt_33 (Nat.le_of_ble_eq_true rfl) (Nat.le_of_ble_eq_true rfl)
  · refine k_iload_n h 3 dX9_leavesAt_11 rfl rfl ?_
    refine k_aload_n h 0 dX9_leavesAt_12 rfl rfl ?_
    refine k_getR h fX9_24 (Or.inl (mw7 9 rfl)) dX9_leavesAt_13 (fun v4 => ?_)
    refine k_bipush (v := 6) h dX9_leavesAt_16 (by decide) ?_
    refine k_iload_n h 1 dX9_leavesAt_18 rfl rfl ?_
    refine k_imul h dX9_leavesAt_19 ?_
    refine k_iload h 4 dX9_leavesAt_20 rfl ?_
    refine k_iadd h dX9_leavesAt_22 ?_
    refine k_alI h dX9_leavesAt_23 (fun v5 => ?_)
    refine k_iadd h dX9_leavesAt_24 ?_
    refine k_istore_n (lv' := [(3, LI (q1.1 + v5)), (0, LR (some a0)), (1, LI p1), (2, LI p2), (4, LI q1.2)]) h dX9_leavesAt_25 rfl (by decide) rfl ?_
    refine k_iinc (w := (q1.2 + 1)) (lv' := [(4, LI (q1.2 + 1)), (3, LI (q1.1 + v5)), (0, LR (some a0)), (1, LI p1), (2, LI p2)]) h 4 dX9_leavesAt_26 rfl rfl (by decide) rfl ?_
    refine k_goto (tgt := 5) h dX9_leavesAt_29 (by decide) ?_
    refine k_sub (lv' := [(0, LR (some a0)), (1, LI p1), (2, LI p2), (3, LI (q1.1 + v5)), (4, LI (q1.2 + 1))]) h [2, 3, 4, 1, 0] rfl ?_
    exact hr3 ((q1.1 + v5), (q1.2 + 1)) s2
def mX9_in_ (a0 : Nat) (p1 : Int32) (p2 : Int32) (s0 : Sg) : Option (Int32 × Sg) :=
cv s0 9 (some a0) fun a23 => cl (mX9_isLoad a23 p1 s0) fun v1 s2 =>
if ¬ v1 = 0 then (
jn (fun (q3 : Unit) (s4 : Sg) =>
swc p2 0 [
gdR s4 9 21 (some a0) fun v6 =>
alI s4 v6 p1 fun v7 =>
some (v7, s4),
gdR s4 9 22 (some a0) fun v8 =>
alI s4 v8 p1 fun v9 =>
some (v9, s4),
gdR s4 9 25 (some a0) fun v10 =>
alI s4 v10 p1 fun v11 =>
some (v11, s4),
gdR s4 9 26 (some a0) fun v12 =>
alZ s4 v12 p1 fun v13 =>
if v13 = 0 then (
some (0, s4))
else (
some (1, s4))] (
some ((-1), s4))) (fun j5 =>
if p2 < 10 then (
j5 () s2)
else (
if 40 ≤ p2 then (
j5 () s2)
else (
ckZ 10 (
gdR s2 9 22 (some a0) fun v14 =>
alI s2 v14 p1 fun v15 =>
if (p2 - p2 / 10 * 10) < v15 then (
if 20 ≤ p2 then (
if 30 ≤ p2 then (
cv s2 9 (some a0) fun a18 => cl (mX9_leavesAt a18 p1 (p2 - p2 / 10 * 10) s2) fun v16 s17 =>
some (v16, s17))
else (
gdR s2 9 24 (some a0) fun v19 =>
alI s2 v19 ((6 * p1) + (p2 - p2 / 10 * 10)) fun v20 =>
some (v20, s2)))
else (
gdR s2 9 23 (some a0) fun v21 =>
alI s2 v21 ((6 * p1) + (p2 - p2 / 10 * 10)) fun v22 =>
some (v22, s2)))
else (
some ((-1), s2)))))))
else (
some ((-1), s2))
def rmX9_in_ : Room := { frames := 2, cells := 0, slots := 0, locals := 46 }
theorem calX9_in_ : Cal yX9_in_ cX9_in_ 5 (some .int) 2 := ⟨(mw23 6 rfl), (mw1 5 rfl), by decide, by decide, by decide +kernel⟩
set_option maxHeartbeats 4000000 in
set_option maxRecDepth 100000 in
theorem ctX9_in_ (l : Launch) (B : Nat) (D : va_G) (cA : Nat → ClassId) (sa : Nat → Nat) (a0 : Nat) (p1 : Int32) (p2 : Int32) (s0 : Sg) : Ct l B D cA sa yX9_in_ cX9_in_ 5 (some .int) rmX9_in_ rI [LR (some a0), LI p1, LI p2] s0 0 0 (mX9_in_ a0 p1 p2 s0) := by
  refine Ct.of (own := RX9) (by decide) rfl _ (Nat.le_of_ble_eq_true rfl) rfl ?_
  intro p e s m args below meth c h hi
  unfold mX9_in_
  refine k_aload_n h 0 dX9_in__0 rfl rfl ?_
  refine k_iload_n h 1 dX9_in__1 rfl rfl ?_
  refine k_callVI (As := [LI p1]) (st := []) (x0 := (some a0)) (xg := fun a23 => mX9_isLoad a23 p1 s0) h (fun a23 => ctX9_isLoad l B D cA sa a23 p1 s0) calX9_isLoad rfl (by decide) (mw20 18 rfl) (mw20 19 rfl) (Or.inl (mw20 17 rfl)) hgood ⟨rfl, rfl, Nat.le_of_ble_eq_true rfl, Nat.le_of_ble_eq_true rfl⟩ ⟨Nat.le_of_ble_eq_true rfl, Nat.le_of_ble_eq_true rfl⟩ rfl (Nat.le_of_ble_eq_true rfl) dX9_in__2 (fun v1 s2 => ?_)
  refine k_if_ne (tgt := 10) h dX9_in__5 (by decide) ?_ ?_
  · refine k_iload_n h 2 dX9_in__10 rfl rfl ?_
    refine k_bipush (v := 10) h dX9_in__11 (by decide) ?_
    refine k_jn (A := Unit) (J := 88) (fun q3 => [(0, LR (some a0)), (1, LI p1), (2, LI p2)]) (fun q3 => []) (fun q3 s4 => ?_) (fun j5 hj5 => ?_)
    · refine k_iload_n h 2 dX9_in__88 rfl rfl ?_
      refine k_table (tg := 156) (tgs := [120, 127, 134, 141]) h dX9_in__89 (by decide) (by decide) rfl (by decide) ?_ ?_
      · refine k_iconst (v := (-1)) h dX9_in__156 (by decide) ?_
        exact k_iret h rfl dX9_in__157 (Nat.le_of_ble_eq_true rfl) (Nat.le_of_ble_eq_true rfl)
      · intro q9 hq9
        simp only [List.zip_cons_cons, List.zip_nil_right, List.zip_nil_left, List.mem_cons, List.not_mem_nil, or_false] at hq9
        rcases hq9 with rfl | rfl | rfl | rfl
        · dsimp only
          refine k_aload_n h 0 dX9_in__120 rfl rfl ?_
          refine k_getR h fX9_21 (Or.inl (mw7 6 rfl)) dX9_in__121 (fun v6 => ?_)
          refine k_iload_n h 1 dX9_in__124 rfl rfl ?_
          refine k_alI h dX9_in__125 (fun v7 => ?_)
          exact k_iret h rfl dX9_in__126 (Nat.le_of_ble_eq_true rfl) (Nat.le_of_ble_eq_true rfl)
        · dsimp only
          refine k_aload_n h 0 dX9_in__127 rfl rfl ?_
          refine k_getR h fX9_22 (Or.inl (mw7 7 rfl)) dX9_in__128 (fun v8 => ?_)
          refine k_iload_n h 1 dX9_in__131 rfl rfl ?_
          refine k_alI h dX9_in__132 (fun v9 => ?_)
          exact k_iret h rfl dX9_in__133 (Nat.le_of_ble_eq_true rfl) (Nat.le_of_ble_eq_true rfl)
        · dsimp only
          refine k_aload_n h 0 dX9_in__134 rfl rfl ?_
          refine k_getR h fX9_25 (Or.inl (mw7 10 rfl)) dX9_in__135 (fun v10 => ?_)
          refine k_iload_n h 1 dX9_in__138 rfl rfl ?_
          refine k_alI h dX9_in__139 (fun v11 => ?_)
          exact k_iret h rfl dX9_in__140 (Nat.le_of_ble_eq_true rfl) (Nat.le_of_ble_eq_true rfl)
        · dsimp only
          refine k_aload_n h 0 dX9_in__141 rfl rfl ?_
          refine k_getR h fX9_26 (Or.inl (mw7 11 rfl)) dX9_in__142 (fun v12 => ?_)
          refine k_iload_n h 1 dX9_in__145 rfl rfl ?_
          refine k_alZ h dX9_in__146 (fun v13 => ?_)
          refine k_if_eq (tgt := 154) h dX9_in__147 (by decide) ?_ ?_
          · refine k_iconst (v := 0) h dX9_in__154 (by decide) ?_
            exact k_iret h rfl dX9_in__155 (Nat.le_of_ble_eq_true rfl) (Nat.le_of_ble_eq_true rfl)
          · refine k_iconst (v := 1) h dX9_in__150 (by decide) ?_
            refine k_goto (tgt := 155) h dX9_in__151 (by decide) ?_
            exact k_iret h rfl dX9_in__155 (Nat.le_of_ble_eq_true rfl) (Nat.le_of_ble_eq_true rfl)
    · refine k_icmp_lt (tgt := 88) h dX9_in__13 (by decide) ?_ ?_
      · refine k_sub (lv' := [(0, LR (some a0)), (1, LI p1), (2, LI p2)]) h [0, 1, 2] rfl ?_
        exact hj5 () s2
      · refine k_iload_n h 2 dX9_in__16 rfl rfl ?_
        refine k_bipush (v := 40) h dX9_in__17 (by decide) ?_
        refine k_icmp_ge (tgt := 88) h dX9_in__19 (by decide) ?_ ?_
        · refine k_sub (lv' := [(0, LR (some a0)), (1, LI p1), (2, LI p2)]) h [0, 1, 2] rfl ?_
          exact hj5 () s2
        · refine k_iload_n h 2 dX9_in__22 rfl rfl ?_
          refine k_bipush (v := 10) h dX9_in__23 (by decide) ?_
          refine k_irem h dX9_in__25 ?_
          refine k_istore_n (lv' := [(3, LI (p2 - p2 / 10 * 10)), (0, LR (some a0)), (1, LI p1), (2, LI p2)]) h dX9_in__26 rfl (by decide) rfl ?_
          refine k_bipush (v := 6) h dX9_in__27 (by decide) ?_
          refine k_iload_n h 2 dX9_in__29 rfl rfl ?_
          refine k_imul h dX9_in__30 ?_
          refine k_iload_n h 0 dX9_in__31 rfl rfl ?_
          refine k_iadd h dX9_in__32 ?_
          refine k_istore (lv' := [(4, LI ((6 * p1) + (p2 - p2 / 10 * 10))), (3, LI (p2 - p2 / 10 * 10)), (0, LR (some a0)), (1, LI p1), (2, LI p2)]) h dX9_in__33 (by decide) rfl ?_
          refine k_iload_n h 1 dX9_in__35 rfl rfl ?_
          refine k_aload_n h 2 dX9_in__36 rfl rfl ?_
          refine k_getR h fX9_22 (Or.inl (mw7 7 rfl)) dX9_in__37 (fun v14 => ?_)
          refine k_iload_n h 3 dX9_in__40 rfl rfl ?_
          refine k_alI h dX9_in__41 (fun v15 => ?_)
          refine k_icmp_lt (tgt := 49) h dX9_in__42 (by decide) ?_ ?_
          · refine k_iload_n h 4 dX9_in__49 rfl rfl ?_
            refine k_bipush (v := 20) h dX9_in__50 (by decide) ?_
            refine k_icmp_ge (tgt := 65) h dX9_in__52 (by decide) ?_ ?_
            · refine k_iload_n h 4 dX9_in__65 rfl rfl ?_
              refine k_bipush (v := 30) h dX9_in__66 (by decide) ?_
              refine k_icmp_ge (tgt := 81) h dX9_in__68 (by decide) ?_ ?_
              · refine k_aload_n h 2 dX9_in__81 rfl rfl ?_
                refine k_iload_n h 3 dX9_in__82 rfl rfl ?_
                refine k_iload_n h 1 dX9_in__83 rfl rfl ?_
                refine k_callVI (As := [LI p1, LI (p2 - p2 / 10 * 10)]) (st := []) (x0 := (some a0)) (xg := fun a18 => mX9_leavesAt a18 p1 (p2 - p2 / 10 * 10) s2) h (fun a18 => ctX9_leavesAt l B D cA sa a18 p1 (p2 - p2 / 10 * 10) s2) calX9_leavesAt rfl (by decide) (mw23 8 rfl) (mw23 9 rfl) (Or.inl (mw23 7 rfl)) hgood ⟨rfl, rfl, Nat.le_of_ble_eq_true rfl, Nat.le_of_ble_eq_true rfl⟩ ⟨Nat.le_of_ble_eq_true rfl, Nat.le_of_ble_eq_true rfl⟩ rfl (Nat.le_of_ble_eq_true rfl) dX9_in__84 (fun v16 s17 => ?_)
                exact k_iret h rfl dX9_in__87 (Nat.le_of_ble_eq_true rfl) (Nat.le_of_ble_eq_true rfl)
              · refine k_aload_n h 2 dX9_in__71 rfl rfl ?_
                refine k_getR h fX9_24 (Or.inl (mw7 9 rfl)) dX9_in__72 (fun v19 => ?_)
                refine k_iload h 0 dX9_in__75 rfl ?_
                refine k_alI h dX9_in__77 (fun v20 => ?_)
                refine k_goto (tgt := 87) h dX9_in__78 (by decide) ?_
                exact k_iret h rfl dX9_in__87 (Nat.le_of_ble_eq_true rfl) (Nat.le_of_ble_eq_true rfl)
            · refine k_aload_n h 2 dX9_in__55 rfl rfl ?_
              refine k_getR h fX9_23 (Or.inl (mw7 8 rfl)) dX9_in__56 (fun v21 => ?_)
              refine k_iload h 0 dX9_in__59 rfl ?_
              refine k_alI h dX9_in__61 (fun v22 => ?_)
              refine k_goto (tgt := 87) h dX9_in__62 (by decide) ?_
              exact k_iret h rfl dX9_in__87 (Nat.le_of_ble_eq_true rfl) (Nat.le_of_ble_eq_true rfl)
          · refine k_iconst (v := (-1)) h dX9_in__45 (by decide) ?_
            refine k_goto (tgt := 87) h dX9_in__46 (by decide) ?_
            exact k_iret h rfl dX9_in__87 (Nat.le_of_ble_eq_true rfl) (Nat.le_of_ble_eq_true rfl)
  · refine k_iconst (v := (-1)) h dX9_in__8 (by decide) ?_
    exact k_iret h rfl dX9_in__9 (Nat.le_of_ble_eq_true rfl) (Nat.le_of_ble_eq_true rfl)
def mX9_takePlane_b22 (a0 : Nat) (r9 : (Int32) → Sg → Option (Unit × Sg)) (q7 : Int32) (s8 : Sg) : Option (Unit × Sg) :=
if 12 ≤ q7 then (
some ((), s8))
else (
gdR s8 9 32 (some a0) fun v10 =>
gdR s8 9 3 (some a0) fun v11 =>
alI s8 v11 q7 fun v12 =>
asI s8 v10 q7 v12 fun s13 =>
gdR s13 9 33 (some a0) fun v14 =>
gdR s13 9 4 (some a0) fun v15 =>
alI s13 v15 q7 fun v16 =>
asI s13 v14 q7 v16 fun s17 =>
r9 (q7 + 1) s17)
def mX9_takePlane (a0 : Nat) (p1 : Int32) (s0 : Sg) : Option (Unit × Sg) :=
gdR s0 9 17 (some a0) fun v1 =>
alI s0 v1 p1 fun v2 =>
ptI s0 9 34 (some a0) v2 fun s3 =>
gdR s3 9 18 (some a0) fun v4 =>
alI s3 v4 p1 fun v5 =>
ptI s3 9 35 (some a0) v5 fun s6 =>
lp (mX9_takePlane_b22 a0) FU 0 s6
def rmX9_takePlane : Room := { frames := 0, cells := 0, slots := 0, locals := 0 }
theorem calX9_takePlane : Cal yX9_takePlane cX9_takePlane 3 none 1 := ⟨(mw25 13 rfl), (mw1 5 rfl), by decide, by decide, by decide +kernel⟩
set_option maxHeartbeats 4000000 in
set_option maxRecDepth 100000 in
theorem ctX9_takePlane (l : Launch) (B : Nat) (D : va_G) (cA : Nat → ClassId) (sa : Nat → Nat) (a0 : Nat) (p1 : Int32) (s0 : Sg) : Ct l B D cA sa yX9_takePlane cX9_takePlane 3 none rmX9_takePlane rU [LR (some a0), LI p1] s0 0 0 (mX9_takePlane a0 p1 s0) := by
  refine Ct.of (own := RX9) (by decide) rfl _ (Nat.le_of_ble_eq_true rfl) rfl ?_
  intro p e s m args below meth c h hi
  unfold mX9_takePlane
  refine k_aload_n h 0 dX9_takePlane_0 rfl rfl ?_
  refine k_aload_n h 0 dX9_takePlane_1 rfl rfl ?_
  refine k_getR h fX9_17 (Or.inl (mw7 3 rfl)) dX9_takePlane_2 (fun v1 => ?_)
  refine k_iload_n h 1 dX9_takePlane_5 rfl rfl ?_
  refine k_alI h dX9_takePlane_6 (fun v2 => ?_)
  refine k_putI h fX9_34 (Or.inl (mw25 4 rfl)) rfl dX9_takePlane_7 (fun s3 => ?_)
  refine k_aload_n h 0 dX9_takePlane_10 rfl rfl ?_
  refine k_aload_n h 0 dX9_takePlane_11 rfl rfl ?_
  refine k_getR h fX9_18 (Or.inl (mw7 4 rfl)) dX9_takePlane_12 (fun v4 => ?_)
  refine k_iload_n h 1 dX9_takePlane_15 rfl rfl ?_
  refine k_alI h dX9_takePlane_16 (fun v5 => ?_)
  refine k_putI h fX9_35 (Or.inl (mw25 9 rfl)) rfl dX9_takePlane_17 (fun s6 => ?_)
  refine k_iconst (v := 0) h dX9_takePlane_20 (by decide) ?_
  refine k_istore_n (lv' := [(2, LI 0), (0, LR (some a0)), (1, LI p1)]) h dX9_takePlane_21 rfl (by decide) rfl ?_
  refine k_sub (lv' := [(0, LR (some a0)), (2, LI 0)]) h [1, 0] rfl ?_
  refine k_lp (A := Int32) (fun q7 => [(0, LR (some a0)), (2, LI q7)]) (fun q7 => []) (fun r9 hr9 q7 s8 => ?_) FU 0 s6
  unfold mX9_takePlane_b22
  refine k_iload_n h 1 dX9_takePlane_22 rfl rfl ?_
  refine k_bipush (v := 12) h dX9_takePlane_23 (by decide) ?_
  refine k_icmp_ge (tgt := 58) h dX9_takePlane_25 (by decide) ?_ ?_
  · exact k_vret h rfl dX9_takePlane_58 (Nat.le_of_ble_eq_true rfl) (Nat.le_of_ble_eq_true rfl)
  · refine k_aload_n h 0 dX9_takePlane_28 rfl rfl ?_
    refine k_getR h fX9_32 (Or.inl (mw7 16 rfl)) dX9_takePlane_29 (fun v10 => ?_)
    refine k_iload_n h 1 dX9_takePlane_32 rfl rfl ?_
    refine k_aload_n h 0 dX9_takePlane_33 rfl rfl ?_
    refine k_getR h fX9_3 (Or.inl (mw6 14 rfl)) dX9_takePlane_34 (fun v11 => ?_)
    refine k_iload_n h 1 dX9_takePlane_37 rfl rfl ?_
    refine k_alI h dX9_takePlane_38 (fun v12 => ?_)
    refine k_asI h dX9_takePlane_39 (fun s13 => ?_)
    refine k_aload_n h 0 dX9_takePlane_40 rfl rfl ?_
    refine k_getR h fX9_33 (Or.inl (mw7 17 rfl)) dX9_takePlane_41 (fun v14 => ?_)
    refine k_iload_n h 1 dX9_takePlane_44 rfl rfl ?_
    refine k_aload_n h 0 dX9_takePlane_45 rfl rfl ?_
    refine k_getR h fX9_4 (Or.inl (mw6 15 rfl)) dX9_takePlane_46 (fun v15 => ?_)
    refine k_iload_n h 1 dX9_takePlane_49 rfl rfl ?_
    refine k_alI h dX9_takePlane_50 (fun v16 => ?_)
    refine k_asI h dX9_takePlane_51 (fun s17 => ?_)
    refine k_iinc (w := (q7 + 1)) (lv' := [(2, LI (q7 + 1)), (0, LR (some a0))]) h 1 dX9_takePlane_52 rfl rfl (by decide) rfl ?_
    refine k_goto (tgt := 22) h dX9_takePlane_55 (by decide) ?_
    refine k_sub (lv' := [(0, LR (some a0)), (2, LI (q7 + 1))]) h [1, 0] rfl ?_
    exact hr9 (q7 + 1) s17
def mX9_takeLoad_b41 (a0 : Nat) (p1 : Int32) (r15 : (Int32) → Sg → Option (Unit × Sg)) (q13 : Int32) (s14 : Sg) : Option (Unit × Sg) :=
if 12 ≤ q13 then (
some ((), s14))
else (
gdR s14 9 32 (some a0) fun v16 =>
gdR s14 9 27 (some a0) fun v17 =>
alI s14 v17 ((12 * p1) + q13) fun v18 =>
asI s14 v16 q13 v18 fun s19 =>
gdR s19 9 33 (some a0) fun v20 =>
gdR s19 9 28 (some a0) fun v21 =>
alI s19 v21 ((12 * p1) + q13) fun v22 =>
asI s19 v20 q13 v22 fun s23 =>
r15 (q13 + 1) s23)
def mX9_takeLoad (a0 : Nat) (p1 : Int32) (s0 : Sg) : Option (Unit × Sg) :=
gdR s0 9 21 (some a0) fun v1 =>
alI s0 v1 p1 fun v2 =>
cv s0 9 (some a0) fun a25 => cl (mX9_takePlane a25 v2 s0) fun u3 s4 =>
gdR s4 9 26 (some a0) fun v5 =>
alZ s4 v5 p1 fun v6 =>
if v6 = 0 then (
some ((), s4))
else (
gdR s4 9 29 (some a0) fun v7 =>
alI s4 v7 p1 fun v8 =>
ptI s4 9 34 (some a0) v8 fun s9 =>
gdR s9 9 30 (some a0) fun v10 =>
alI s9 v10 p1 fun v11 =>
ptI s9 9 35 (some a0) v11 fun s12 =>
lp (mX9_takeLoad_b41 a0 p1) FU 0 s12)
def rmX9_takeLoad : Room := { frames := 1, cells := 0, slots := 0, locals := 22 }
theorem calX9_takeLoad : Cal yX9_takeLoad cX9_takeLoad 3 none 1 := ⟨(mw25 8 rfl), (mw1 5 rfl), by decide, by decide, by decide +kernel⟩
set_option maxHeartbeats 4000000 in
set_option maxRecDepth 100000 in
theorem ctX9_takeLoad (l : Launch) (B : Nat) (D : va_G) (cA : Nat → ClassId) (sa : Nat → Nat) (a0 : Nat) (p1 : Int32) (s0 : Sg) : Ct l B D cA sa yX9_takeLoad cX9_takeLoad 3 none rmX9_takeLoad rU [LR (some a0), LI p1] s0 0 0 (mX9_takeLoad a0 p1 s0) := by
  refine Ct.of (own := RX9) (by decide) rfl _ (Nat.le_of_ble_eq_true rfl) rfl ?_
  intro p e s m args below meth c h hi
  unfold mX9_takeLoad
  refine k_aload_n h 0 dX9_takeLoad_0 rfl rfl ?_
  refine k_aload_n h 0 dX9_takeLoad_1 rfl rfl ?_
  refine k_getR h fX9_21 (Or.inl (mw7 6 rfl)) dX9_takeLoad_2 (fun v1 => ?_)
  refine k_iload_n h 1 dX9_takeLoad_5 rfl rfl ?_
  refine k_alI h dX9_takeLoad_6 (fun v2 => ?_)
  refine k_callVU (As := [LI v2]) (st := []) (x0 := (some a0)) (xg := fun a25 => mX9_takePlane a25 v2 s0) h (fun a25 => ctX9_takePlane l B D cA sa a25 v2 s0) calX9_takePlane rfl (by decide) (mw25 11 rfl) (mw25 12 rfl) (Or.inl (mw25 10 rfl)) hgood ⟨rfl, rfl, Nat.le_of_ble_eq_true rfl, Nat.le_of_ble_eq_true rfl⟩ ⟨Nat.le_of_ble_eq_true rfl, Nat.le_of_ble_eq_true rfl⟩ rfl (Nat.le_of_ble_eq_true rfl) dX9_takeLoad_7 (fun u3 s4 => ?_)
  refine k_aload_n h 0 dX9_takeLoad_10 rfl rfl ?_
  refine k_getR h fX9_26 (Or.inl (mw7 11 rfl)) dX9_takeLoad_11 (fun v5 => ?_)
  refine k_iload_n h 1 dX9_takeLoad_14 rfl rfl ?_
  refine k_alZ h dX9_takeLoad_15 (fun v6 => ?_)
  refine k_if_eq (tgt := 87) h dX9_takeLoad_16 (by decide) ?_ ?_
  · exact k_vret h rfl dX9_takeLoad_87 (Nat.le_of_ble_eq_true rfl) (Nat.le_of_ble_eq_true rfl)
  · refine k_aload_n h 0 dX9_takeLoad_19 rfl rfl ?_
    refine k_aload_n h 0 dX9_takeLoad_20 rfl rfl ?_
    refine k_getR h fX9_29 (Or.inl (mw7 14 rfl)) dX9_takeLoad_21 (fun v7 => ?_)
    refine k_iload_n h 1 dX9_takeLoad_24 rfl rfl ?_
    refine k_alI h dX9_takeLoad_25 (fun v8 => ?_)
    refine k_putI h fX9_34 (Or.inl (mw25 4 rfl)) rfl dX9_takeLoad_26 (fun s9 => ?_)
    refine k_aload_n h 0 dX9_takeLoad_29 rfl rfl ?_
    refine k_aload_n h 0 dX9_takeLoad_30 rfl rfl ?_
    refine k_getR h fX9_30 (Or.inl (mw7 15 rfl)) dX9_takeLoad_31 (fun v10 => ?_)
    refine k_iload_n h 1 dX9_takeLoad_34 rfl rfl ?_
    refine k_alI h dX9_takeLoad_35 (fun v11 => ?_)
    refine k_putI h fX9_35 (Or.inl (mw25 9 rfl)) rfl dX9_takeLoad_36 (fun s12 => ?_)
    refine k_iconst (v := 0) h dX9_takeLoad_39 (by decide) ?_
    refine k_istore_n (lv' := [(2, LI 0), (0, LR (some a0)), (1, LI p1)]) h dX9_takeLoad_40 rfl (by decide) rfl ?_
    refine k_sub (lv' := [(0, LR (some a0)), (1, LI p1), (2, LI 0)]) h [1, 2, 0] rfl ?_
    refine k_lp (A := Int32) (fun q13 => [(0, LR (some a0)), (1, LI p1), (2, LI q13)]) (fun q13 => []) (fun r15 hr15 q13 s14 => ?_) FU 0 s12
    unfold mX9_takeLoad_b41
    refine k_iload_n h 2 dX9_takeLoad_41 rfl rfl ?_
    refine k_bipush (v := 12) h dX9_takeLoad_42 (by decide) ?_
    refine k_icmp_ge (tgt := 87) h dX9_takeLoad_44 (by decide) ?_ ?_
    · exact k_vret h rfl dX9_takeLoad_87 (Nat.le_of_ble_eq_true rfl) (Nat.le_of_ble_eq_true rfl)
    · refine k_aload_n h 0 dX9_takeLoad_47 rfl rfl ?_
      refine k_getR h fX9_32 (Or.inl (mw7 16 rfl)) dX9_takeLoad_48 (fun v16 => ?_)
      refine k_iload_n h 2 dX9_takeLoad_51 rfl rfl ?_
      refine k_aload_n h 0 dX9_takeLoad_52 rfl rfl ?_
      refine k_getR h fX9_27 (Or.inl (mw7 12 rfl)) dX9_takeLoad_53 (fun v17 => ?_)
      refine k_bipush (v := 12) h dX9_takeLoad_56 (by decide) ?_
      refine k_iload_n h 1 dX9_takeLoad_58 rfl rfl ?_
      refine k_imul h dX9_takeLoad_59 ?_
      refine k_iload_n h 2 dX9_takeLoad_60 rfl rfl ?_
      refine k_iadd h dX9_takeLoad_61 ?_
      refine k_alI h dX9_takeLoad_62 (fun v18 => ?_)
      refine k_asI h dX9_takeLoad_63 (fun s19 => ?_)
      refine k_aload_n h 0 dX9_takeLoad_64 rfl rfl ?_
      refine k_getR h fX9_33 (Or.inl (mw7 17 rfl)) dX9_takeLoad_65 (fun v20 => ?_)
      refine k_iload_n h 2 dX9_takeLoad_68 rfl rfl ?_
      refine k_aload_n h 0 dX9_takeLoad_69 rfl rfl ?_
      refine k_getR h fX9_28 (Or.inl (mw7 13 rfl)) dX9_takeLoad_70 (fun v21 => ?_)
      refine k_bipush (v := 12) h dX9_takeLoad_73 (by decide) ?_
      refine k_iload_n h 1 dX9_takeLoad_75 rfl rfl ?_
      refine k_imul h dX9_takeLoad_76 ?_
      refine k_iload_n h 2 dX9_takeLoad_77 rfl rfl ?_
      refine k_iadd h dX9_takeLoad_78 ?_
      refine k_alI h dX9_takeLoad_79 (fun v22 => ?_)
      refine k_asI h dX9_takeLoad_80 (fun s23 => ?_)
      refine k_iinc (w := (q13 + 1)) (lv' := [(2, LI (q13 + 1)), (0, LR (some a0)), (1, LI p1)]) h 2 dX9_takeLoad_81 rfl rfl (by decide) rfl ?_
      refine k_goto (tgt := 41) h dX9_takeLoad_84 (by decide) ?_
      refine k_sub (lv' := [(0, LR (some a0)), (1, LI p1), (2, LI (q13 + 1))]) h [1, 2, 0] rfl ?_
      exact hr15 (q13 + 1) s23
