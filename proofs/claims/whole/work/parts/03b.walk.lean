def mX4_measure (a0 : Nat) (p1 : Option Nat) (p2 : Option Nat) (p3 : Int32) (s0 : Sg) : Option (Unit × Sg) :=
gdR s0 4 0 (some a0) fun v1 =>
gdI s0 2 0 p1 fun v2 =>
gdI s0 2 0 p2 fun v3 =>
asI s0 v1 ((v2 * 20) + v3) p3 fun s4 =>
some ((), s4)
def rmX4_measure : Room := { frames := 0, cells := 0, slots := 0, locals := 0 }
theorem calX4_measure : Cal yX4_measure cX4_measure 4 none 3 := ⟨(mw28 23 rfl), (mw2 14 rfl), by decide, by decide, by decide +kernel⟩
set_option maxHeartbeats 4000000 in
set_option maxRecDepth 100000 in
theorem ctX4_measure (l : Launch) (B : Nat) (D : va_G) (cA : Nat → ClassId) (sa : Nat → Nat) (a0 : Nat) (p1 : Option Nat) (p2 : Option Nat) (p3 : Int32) (s0 : Sg) : Ct l B D cA sa yX4_measure cX4_measure 4 none rmX4_measure rU [LR (some a0), LR p1, LR p2, LI p3] s0 0 0 (mX4_measure a0 p1 p2 p3 s0) := by
  refine Ct.of (own := RX4) (by decide) rfl _ (Nat.le_of_ble_eq_true rfl) rfl ?_
  intro p e s m args below meth c h hi
  unfold mX4_measure
  refine k_aload_n h 0 dX4_measure_0 rfl rfl ?_
  refine k_getR h fX4_0 (Or.inl (mw3 15 rfl)) dX4_measure_1 (fun v1 => ?_)
  refine k_aload_n h 1 dX4_measure_4 rfl rfl ?_
  refine k_getI h fX2_0 (Or.inr ⟨_, nwf 7 rfl⟩) dX4_measure_5 (fun v2 => ?_)
  refine k_bipush (v := 20) h dX4_measure_8 (by decide) ?_
  refine k_imul h dX4_measure_10 ?_
  refine k_aload_n h 2 dX4_measure_11 rfl rfl ?_
  refine k_getI h fX2_0 (Or.inr ⟨_, nwf 7 rfl⟩) dX4_measure_12 (fun v3 => ?_)
  refine k_iadd h dX4_measure_15 ?_
  refine k_iload_n h 3 dX4_measure_16 rfl rfl ?_
  refine k_asI h dX4_measure_17 (fun s4 => ?_)
  exact k_vret h rfl dX4_measure_18 (Nat.le_of_ble_eq_true rfl) (Nat.le_of_ble_eq_true rfl)
def mX4_pauseBetween (a0 : Nat) (p1 : Int32) (p2 : Int32) (s0 : Sg) : Option (Int32 × Sg) :=
gdR s0 4 0 (some a0) fun v1 =>
alI s0 v1 ((p1 * 20) + p2) fun v2 =>
some (v2, s0)
def rmX4_pauseBetween : Room := { frames := 0, cells := 0, slots := 0, locals := 0 }
theorem calX4_pauseBetween : Cal yX4_pauseBetween cX4_pauseBetween 3 (some .int) 2 := ⟨(mw29 17 rfl), (mw2 14 rfl), by decide, by decide, by decide +kernel⟩
set_option maxHeartbeats 4000000 in
set_option maxRecDepth 100000 in
theorem ctX4_pauseBetween (l : Launch) (B : Nat) (D : va_G) (cA : Nat → ClassId) (sa : Nat → Nat) (a0 : Nat) (p1 : Int32) (p2 : Int32) (s0 : Sg) : Ct l B D cA sa yX4_pauseBetween cX4_pauseBetween 3 (some .int) rmX4_pauseBetween rI [LR (some a0), LI p1, LI p2] s0 0 0 (mX4_pauseBetween a0 p1 p2 s0) := by
  refine Ct.of (own := RX4) (by decide) rfl _ (Nat.le_of_ble_eq_true rfl) rfl ?_
  intro p e s m args below meth c h hi
  unfold mX4_pauseBetween
  refine k_aload_n h 0 dX4_pauseBetween_0 rfl rfl ?_
  refine k_getR h fX4_0 (Or.inl (mw3 15 rfl)) dX4_pauseBetween_1 (fun v1 => ?_)
  refine k_iload_n h 1 dX4_pauseBetween_4 rfl rfl ?_
  refine k_bipush (v := 20) h dX4_pauseBetween_5 (by decide) ?_
  refine k_imul h dX4_pauseBetween_7 ?_
  refine k_iload_n h 2 dX4_pauseBetween_8 rfl rfl ?_
  refine k_iadd h dX4_pauseBetween_9 ?_
  refine k_alI h dX4_pauseBetween_10 (fun v2 => ?_)
  exact k_iret h rfl dX4_pauseBetween_11 (Nat.le_of_ble_eq_true rfl) (Nat.le_of_ble_eq_true rfl)
def mX4_begin_b31 (a0 : Nat) (v9 : Int32) (r5 : (Int32) → Sg → Option (Unit × Sg)) (q3 : Int32) (r12 : (Int32) → Sg → Option (Unit × Sg)) (q10 : Int32) (s11 : Sg) : Option (Unit × Sg) :=
jn (fun (q13 : Unit) (s14 : Sg) =>
gdR s14 4 1 (some a0) fun v16 =>
asI s14 v16 q10 v9 fun s17 =>
r5 (q3 + 1) s17) (fun j15 =>
if q10 ≤ 0 then (
j15 () s11)
else (
gdR s11 4 1 (some a0) fun v18 =>
alI s11 v18 (q10 - 1) fun v19 =>
if v19 ≤ v9 then (
j15 () s11)
else (
gdR s11 4 1 (some a0) fun v20 =>
gdR s11 4 1 (some a0) fun v21 =>
alI s11 v21 (q10 - 1) fun v22 =>
asI s11 v20 q10 v22 fun s23 =>
r12 (q10 + (-1)) s23)))
def mX4_begin_b10 (a0 : Nat) (p1 : Option Nat) (r5 : (Int32) → Sg → Option (Unit × Sg)) (q3 : Int32) (s4 : Sg) : Option (Unit × Sg) :=
gdI s4 4 3 (some a0) fun v6 =>
if v6 ≤ q3 then (
some ((), s4))
else (
gdR s4 5 0 p1 fun v7 =>
alR s4 2 v7 q3 fun v8 =>
gdI s4 2 0 v8 fun v9 =>
lp (mX4_begin_b31 a0 v9 r5 q3) FU q3 s4)
def mX4_begin (a0 : Nat) (p1 : Option Nat) (s0 : Sg) : Option (Unit × Sg) :=
gdI s0 5 6 p1 fun v1 =>
ptI s0 4 3 (some a0) v1 fun s2 =>
lp (mX4_begin_b10 a0 p1) FU 0 s2
def rmX4_begin : Room := { frames := 0, cells := 0, slots := 0, locals := 0 }
theorem calX4_begin : Cal yX4_begin cX4_begin 5 none 1 := ⟨(mw29 2 rfl), (mw2 14 rfl), by decide, by decide, by decide +kernel⟩
set_option maxHeartbeats 4000000 in
set_option maxRecDepth 100000 in
theorem ctX4_begin (l : Launch) (B : Nat) (D : va_G) (cA : Nat → ClassId) (sa : Nat → Nat) (a0 : Nat) (p1 : Option Nat) (s0 : Sg) : Ct l B D cA sa yX4_begin cX4_begin 5 none rmX4_begin rU [LR (some a0), LR p1] s0 0 0 (mX4_begin a0 p1 s0) := by
  refine Ct.of (own := RX4) (by decide) rfl _ (Nat.le_of_ble_eq_true rfl) rfl ?_
  intro p e s m args below meth c h hi
  unfold mX4_begin
  refine k_aload_n h 0 dX4_begin_0 rfl rfl ?_
  refine k_aload_n h 1 dX4_begin_1 rfl rfl ?_
  refine k_getI h fX5_6 (Or.inr ⟨_, nwf 28 rfl⟩) dX4_begin_2 (fun v1 => ?_)
  refine k_putI h fX4_3 (Or.inl (mw3 18 rfl)) rfl dX4_begin_5 (fun s2 => ?_)
  refine k_iconst (v := 0) h dX4_begin_8 (by decide) ?_
  refine k_istore_n (lv' := [(2, LI 0), (0, LR (some a0)), (1, LR p1)]) h dX4_begin_9 rfl (by decide) rfl ?_
  refine k_sub (lv' := [(0, LR (some a0)), (1, LR p1), (2, LI 0)]) h [1, 2, 0] rfl ?_
  refine k_lp (A := Int32) (fun q3 => [(0, LR (some a0)), (1, LR p1), (2, LI q3)]) (fun q3 => []) (fun r5 hr5 q3 s4 => ?_) FU 0 s2
  unfold mX4_begin_b10
  refine k_iload_n h 2 dX4_begin_10 rfl rfl ?_
  refine k_aload_n h 0 dX4_begin_11 rfl rfl ?_
  refine k_getI h fX4_3 (Or.inl (mw3 18 rfl)) dX4_begin_12 (fun v6 => ?_)
  refine k_icmp_ge (tgt := 85) h dX4_begin_15 (by decide) ?_ ?_
  · exact k_vret h rfl dX4_begin_85 (Nat.le_of_ble_eq_true rfl) (Nat.le_of_ble_eq_true rfl)
  · refine k_aload_n h 1 dX4_begin_18 rfl rfl ?_
    refine k_getR h fX5_0 (Or.inr ⟨_, nwf 22 rfl⟩) dX4_begin_19 (fun v7 => ?_)
    refine k_iload_n h 2 dX4_begin_22 rfl rfl ?_
    refine k_alR h rfl rfl dX4_begin_23 (fun v8 => ?_)
    refine k_getI h fX2_0 (Or.inr ⟨_, nwf 7 rfl⟩) dX4_begin_24 (fun v9 => ?_)
    refine k_istore_n (lv' := [(3, LI v9), (0, LR (some a0)), (1, LR p1), (2, LI q3)]) h dX4_begin_27 rfl (by decide) rfl ?_
    refine k_iload_n h 3 dX4_begin_28 rfl rfl ?_
    refine k_istore (lv' := [(4, LI q3), (3, LI v9), (0, LR (some a0)), (1, LR p1), (2, LI q3)]) h dX4_begin_29 (by decide) rfl ?_
    refine k_sub (lv' := [(0, LR (some a0)), (1, LR p1), (2, LI q3), (3, LI v9), (4, LI q3)]) h [2, 3, 4, 1, 0] rfl ?_
    refine k_lp (A := Int32) (fun q10 => [(0, LR (some a0)), (1, LR p1), (2, LI q3), (3, LI v9), (4, LI q10)]) (fun q10 => []) (fun r12 hr12 q10 s11 => ?_) FU q3 s4
    unfold mX4_begin_b31
    refine k_iload h 4 dX4_begin_31 rfl ?_
    refine k_jn (A := Unit) (J := 71) (fun q13 => [(0, LR (some a0)), (1, LR p1), (2, LI q3), (3, LI v9), (4, LI q10)]) (fun q13 => []) (fun q13 s14 => ?_) (fun j15 hj15 => ?_)
    · refine k_aload_n h 0 dX4_begin_71 rfl rfl ?_
      refine k_getR h fX4_1 (Or.inl (mw3 16 rfl)) dX4_begin_72 (fun v16 => ?_)
      refine k_iload h 4 dX4_begin_75 rfl ?_
      refine k_iload_n h 3 dX4_begin_77 rfl rfl ?_
      refine k_asI h dX4_begin_78 (fun s17 => ?_)
      refine k_iinc (w := (q3 + 1)) (lv' := [(2, LI (q3 + 1)), (0, LR (some a0)), (1, LR p1), (3, LI v9), (4, LI q10)]) h 2 dX4_begin_79 rfl rfl (by decide) rfl ?_
      refine k_goto (tgt := 10) h dX4_begin_82 (by decide) ?_
      refine k_sub (lv' := [(0, LR (some a0)), (1, LR p1), (2, LI (q3 + 1))]) h [1, 2, 0] rfl ?_
      exact hr5 (q3 + 1) s17
    · refine k_if_le (tgt := 71) h dX4_begin_33 (by decide) ?_ ?_
      · refine k_sub (lv' := [(0, LR (some a0)), (1, LR p1), (2, LI q3), (3, LI v9), (4, LI q10)]) h [0, 1, 2, 3, 4] rfl ?_
        exact hj15 () s11
      · refine k_aload_n h 0 dX4_begin_36 rfl rfl ?_
        refine k_getR h fX4_1 (Or.inl (mw3 16 rfl)) dX4_begin_37 (fun v18 => ?_)
        refine k_iload h 4 dX4_begin_40 rfl ?_
        refine k_iconst (v := 1) h dX4_begin_42 (by decide) ?_
        refine k_isub h dX4_begin_43 ?_
        refine k_alI h dX4_begin_44 (fun v19 => ?_)
        refine k_iload_n h 3 dX4_begin_45 rfl rfl ?_
        refine k_icmp_le (tgt := 71) h dX4_begin_46 (by decide) ?_ ?_
        · refine k_sub (lv' := [(0, LR (some a0)), (1, LR p1), (2, LI q3), (3, LI v9), (4, LI q10)]) h [0, 1, 2, 3, 4] rfl ?_
          exact hj15 () s11
        · refine k_aload_n h 0 dX4_begin_49 rfl rfl ?_
          refine k_getR h fX4_1 (Or.inl (mw3 16 rfl)) dX4_begin_50 (fun v20 => ?_)
          refine k_iload h 4 dX4_begin_53 rfl ?_
          refine k_aload_n h 0 dX4_begin_55 rfl rfl ?_
          refine k_getR h fX4_1 (Or.inl (mw3 16 rfl)) dX4_begin_56 (fun v21 => ?_)
          refine k_iload h 4 dX4_begin_59 rfl ?_
          refine k_iconst (v := 1) h dX4_begin_61 (by decide) ?_
          refine k_isub h dX4_begin_62 ?_
          refine k_alI h dX4_begin_63 (fun v22 => ?_)
          refine k_asI h dX4_begin_64 (fun s23 => ?_)
          refine k_iinc (w := (q10 + (-1))) (lv' := [(4, LI (q10 + (-1))), (0, LR (some a0)), (1, LR p1), (2, LI q3), (3, LI v9)]) h 4 dX4_begin_65 rfl rfl (by decide) rfl ?_
          refine k_goto (tgt := 31) h dX4_begin_68 (by decide) ?_
          refine k_sub (lv' := [(0, LR (some a0)), (1, LR p1), (2, LI q3), (3, LI v9), (4, LI (q10 + (-1)))]) h [1, 2, 3, 4, 0] rfl ?_
          exact hr12 (q10 + (-1)) s23
def mX4_sumOfRow_b4 (a0 : Nat) (r3 : (Int32 × Int32) → Sg → Option (Int32 × Sg)) (q1 : Int32 × Int32) (s2 : Sg) : Option (Int32 × Sg) :=
gdI s2 4 3 (some a0) fun v4 =>
if v4 ≤ q1.2 then (
some (q1.1, s2))
else (
gdR s2 4 1 (some a0) fun v5 =>
alI s2 v5 (q1.2 - 1) fun v6 =>
gdR s2 4 1 (some a0) fun v7 =>
alI s2 v7 q1.2 fun v8 =>
cv s2 4 (some a0) fun a11 => cl (mX4_pauseBetween a11 v6 v8 s2) fun v9 s10 =>
if ¬ v9 = 0 then (
r3 ((q1.1 + v9), (q1.2 + 1)) s10)
else (
some ((-1), s10)))
def mX4_sumOfRow (a0 : Nat) (s0 : Sg) : Option (Int32 × Sg) :=
lp (mX4_sumOfRow_b4 a0) FU (0, 1) s0
def rmX4_sumOfRow : Room := { frames := 1, cells := 0, slots := 0, locals := 22 }
theorem calX4_sumOfRow : Cal yX4_sumOfRow cX4_sumOfRow 4 (some .int) 0 := ⟨(mw29 13 rfl), (mw2 14 rfl), by decide, by decide, by decide +kernel⟩
set_option maxHeartbeats 4000000 in
set_option maxRecDepth 100000 in
theorem ctX4_sumOfRow (l : Launch) (B : Nat) (D : va_G) (cA : Nat → ClassId) (sa : Nat → Nat) (a0 : Nat) (s0 : Sg) : Ct l B D cA sa yX4_sumOfRow cX4_sumOfRow 4 (some .int) rmX4_sumOfRow rI [LR (some a0)] s0 0 0 (mX4_sumOfRow a0 s0) := by
  refine Ct.of (own := RX4) (by decide) rfl _ (Nat.le_of_ble_eq_true rfl) rfl ?_
  intro p e s m args below meth c h hi
  unfold mX4_sumOfRow
  refine k_iconst (v := 0) h dX4_sumOfRow_0 (by decide) ?_
  refine k_istore_n (lv' := [(1, LI 0), (0, LR (some a0))]) h dX4_sumOfRow_1 rfl (by decide) rfl ?_
  refine k_iconst (v := 1) h dX4_sumOfRow_2 (by decide) ?_
  refine k_istore_n (lv' := [(2, LI 1), (1, LI 0), (0, LR (some a0))]) h dX4_sumOfRow_3 rfl (by decide) rfl ?_
  refine k_sub (lv' := [(0, LR (some a0)), (1, LI 0), (2, LI 1)]) h [2, 1, 0] rfl ?_
  refine k_lp (A := Int32 × Int32) (fun q1 => [(0, LR (some a0)), (1, LI q1.1), (2, LI q1.2)]) (fun q1 => []) (fun r3 hr3 q1 s2 => ?_) FU (0, 1) s0
  unfold mX4_sumOfRow_b4
  refine k_iload_n h 2 dX4_sumOfRow_4 rfl rfl ?_
  refine k_aload_n h 0 dX4_sumOfRow_5 rfl rfl ?_
  refine k_getI h fX4_3 (Or.inl (mw3 18 rfl)) dX4_sumOfRow_6 (fun v4 => ?_)
  refine k_icmp_ge (tgt := 47) h dX4_sumOfRow_9 (by decide) ?_ ?_
  · refine k_iload_n h 1 dX4_sumOfRow_47 rfl rfl ?_
    exact k_iret h rfl dX4_sumOfRow_48 (Nat.le_of_ble_eq_true rfl) (Nat.le_of_ble_eq_true rfl)
  · refine k_aload_n h 0 dX4_sumOfRow_12 rfl rfl ?_
    refine k_aload_n h 0 dX4_sumOfRow_13 rfl rfl ?_
    refine k_getR h fX4_1 (Or.inl (mw3 16 rfl)) dX4_sumOfRow_14 (fun v5 => ?_)
    refine k_iload_n h 2 dX4_sumOfRow_17 rfl rfl ?_
    refine k_iconst (v := 1) h dX4_sumOfRow_18 (by decide) ?_
    refine k_isub h dX4_sumOfRow_19 ?_
    refine k_alI h dX4_sumOfRow_20 (fun v6 => ?_)
    refine k_aload_n h 0 dX4_sumOfRow_21 rfl rfl ?_
    refine k_getR h fX4_1 (Or.inl (mw3 16 rfl)) dX4_sumOfRow_22 (fun v7 => ?_)
    refine k_iload_n h 2 dX4_sumOfRow_25 rfl rfl ?_
    refine k_alI h dX4_sumOfRow_26 (fun v8 => ?_)
    refine k_callVI (As := [LI v6, LI v8]) (st := []) (x0 := (some a0)) (xg := fun a11 => mX4_pauseBetween a11 v6 v8 s2) h (fun a11 => ctX4_pauseBetween l B D cA sa a11 v6 v8 s2) calX4_pauseBetween rfl (by decide) (mw29 15 rfl) (mw29 16 rfl) (Or.inl (mw29 14 rfl)) hgood ⟨rfl, rfl, Nat.le_of_ble_eq_true rfl, Nat.le_of_ble_eq_true rfl⟩ ⟨Nat.le_of_ble_eq_true rfl, Nat.le_of_ble_eq_true rfl⟩ rfl (Nat.le_of_ble_eq_true rfl) dX4_sumOfRow_27 (fun v9 s10 => ?_)
    refine k_istore_n (lv' := [(3, LI v9), (0, LR (some a0)), (1, LI q1.1), (2, LI q1.2)]) h dX4_sumOfRow_30 rfl (by decide) rfl ?_
    refine k_iload_n h 0 dX4_sumOfRow_31 rfl rfl ?_
    refine k_if_ne (tgt := 37) h dX4_sumOfRow_32 (by decide) ?_ ?_
    · refine k_iload_n h 2 dX4_sumOfRow_37 rfl rfl ?_
      refine k_iload_n h 0 dX4_sumOfRow_38 rfl rfl ?_
      refine k_iadd h dX4_sumOfRow_39 ?_
      refine k_istore_n (lv' := [(1, LI (q1.1 + v9)), (3, LI v9), (0, LR (some a0)), (2, LI q1.2)]) h dX4_sumOfRow_40 rfl (by decide) rfl ?_
      refine k_iinc (w := (q1.2 + 1)) (lv' := [(2, LI (q1.2 + 1)), (1, LI (q1.1 + v9)), (3, LI v9), (0, LR (some a0))]) h 3 dX4_sumOfRow_41 rfl rfl (by decide) rfl ?_
      refine k_goto (tgt := 4) h dX4_sumOfRow_44 (by decide) ?_
      refine k_sub (lv' := [(0, LR (some a0)), (1, LI (q1.1 + v9)), (2, LI (q1.2 + 1))]) h [3, 1, 0] rfl ?_
      exact hr3 ((q1.1 + v9), (q1.2 + 1)) s10
    · refine k_iconst (v := (-1)) h dX4_sumOfRow_35 (by decide) ?_
      exact k_iret h rfl dX4_sumOfRow_36 (Nat.le_of_ble_eq_true rfl) (Nat.le_of_ble_eq_true rfl)
def mX4_swap (a0 : Nat) (p1 : Int32) (p2 : Int32) (s0 : Sg) : Option (Unit × Sg) :=
gdR s0 4 1 (some a0) fun v1 =>
alI s0 v1 p1 fun v2 =>
gdR s0 4 1 (some a0) fun v3 =>
gdR s0 4 1 (some a0) fun v4 =>
alI s0 v4 p2 fun v5 =>
asI s0 v3 p1 v5 fun s6 =>
gdR s6 4 1 (some a0) fun v7 =>
asI s6 v7 p2 v2 fun s8 =>
some ((), s8)
def rmX4_swap : Room := { frames := 0, cells := 0, slots := 0, locals := 0 }
theorem calX4_swap : Cal yX4_swap cX4_swap 4 none 2 := ⟨(mw30 1 rfl), (mw2 14 rfl), by decide, by decide, by decide +kernel⟩
set_option maxHeartbeats 4000000 in
set_option maxRecDepth 100000 in
theorem ctX4_swap (l : Launch) (B : Nat) (D : va_G) (cA : Nat → ClassId) (sa : Nat → Nat) (a0 : Nat) (p1 : Int32) (p2 : Int32) (s0 : Sg) : Ct l B D cA sa yX4_swap cX4_swap 4 none rmX4_swap rU [LR (some a0), LI p1, LI p2] s0 0 0 (mX4_swap a0 p1 p2 s0) := by
  refine Ct.of (own := RX4) (by decide) rfl _ (Nat.le_of_ble_eq_true rfl) rfl ?_
  intro p e s m args below meth c h hi
  unfold mX4_swap
  refine k_aload_n h 0 dX4_swap_0 rfl rfl ?_
  refine k_getR h fX4_1 (Or.inl (mw3 16 rfl)) dX4_swap_1 (fun v1 => ?_)
  refine k_iload_n h 1 dX4_swap_4 rfl rfl ?_
  refine k_alI h dX4_swap_5 (fun v2 => ?_)
  refine k_istore_n (lv' := [(3, LI v2), (0, LR (some a0)), (1, LI p1), (2, LI p2)]) h dX4_swap_6 rfl (by decide) rfl ?_
  refine k_aload_n h 1 dX4_swap_7 rfl rfl ?_
  refine k_getR h fX4_1 (Or.inl (mw3 16 rfl)) dX4_swap_8 (fun v3 => ?_)
  refine k_iload_n h 2 dX4_swap_11 rfl rfl ?_
  refine k_aload_n h 1 dX4_swap_12 rfl rfl ?_
  refine k_getR h fX4_1 (Or.inl (mw3 16 rfl)) dX4_swap_13 (fun v4 => ?_)
  refine k_iload_n h 3 dX4_swap_16 rfl rfl ?_
  refine k_alI h dX4_swap_17 (fun v5 => ?_)
  refine k_asI h dX4_swap_18 (fun s6 => ?_)
  refine k_aload_n h 1 dX4_swap_19 rfl rfl ?_
  refine k_getR h fX4_1 (Or.inl (mw3 16 rfl)) dX4_swap_20 (fun v7 => ?_)
  refine k_iload_n h 3 dX4_swap_23 rfl rfl ?_
  refine k_iload_n h 0 dX4_swap_24 rfl rfl ?_
  refine k_asI h dX4_swap_25 (fun s8 => ?_)
  exact k_vret h rfl dX4_swap_26 (Nat.le_of_ble_eq_true rfl) (Nat.le_of_ble_eq_true rfl)
def mX4_stepRow_b93 (a0 : Nat) (r20 : (Int32 × Int32) → Sg → Option (Int32 × Sg)) (q18 : Int32 × Int32) (s19 : Sg) : Option (Int32 × Sg) :=
if q18.2 ≤ q18.1 then (
ckB 1 (some (1, s19)))
else (
cv s19 4 (some a0) fun a23 => cl (mX4_swap a23 q18.1 q18.2 s19) fun u21 s22 =>
r20 ((q18.1 + 1), (q18.2 + (-1))) s22)
def mX4_stepRow_b47 (a0 : Nat) (q2 : Int32) (r11 : (Int32) → Sg → Option (Int32 × Sg)) (q9 : Int32) (s10 : Sg) : Option (Int32 × Sg) :=
jn (fun (q12 : Unit) (s13 : Sg) =>
cv s13 4 (some a0) fun a25 => cl (mX4_swap a25 q2 q9 s13) fun u15 s16 =>
gdI s16 4 3 (some a0) fun v17 =>
lp (mX4_stepRow_b93 a0) FU ((q2 + 1), (v17 - 1)) s16) (fun j14 =>
if q9 ≤ (q2 + 1) then (
j14 () s10)
else (
gdR s10 4 1 (some a0) fun v26 =>
alI s10 v26 q9 fun v27 =>
gdR s10 4 1 (some a0) fun v28 =>
alI s10 v28 q2 fun v29 =>
if v29 ≤ v27 then (
j14 () s10)
else (
r11 (q9 + (-1)) s10)))
def mX4_stepRow_b7 (a0 : Nat) (r4 : (Int32) → Sg → Option (Int32 × Sg)) (q2 : Int32) (s3 : Sg) : Option (Int32 × Sg) :=
jn (fun (q5 : Unit) (s6 : Sg) =>
if 0 ≤ q2 then (
gdI s6 4 3 (some a0) fun v8 =>
lp (mX4_stepRow_b47 a0 q2) FU (v8 - 1) s6)
else (
ckB 0 (some (0, s6)))) (fun j7 =>
if q2 < 0 then (
j7 () s3)
else (
gdR s3 4 1 (some a0) fun v31 =>
alI s3 v31 q2 fun v32 =>
gdR s3 4 1 (some a0) fun v33 =>
alI s3 v33 (q2 + 1) fun v34 =>
if v32 ≤ v34 then (
j7 () s3)
else (
r4 (q2 + (-1)) s3)))
def mX4_stepRow (a0 : Nat) (s0 : Sg) : Option (Int32 × Sg) :=
gdI s0 4 3 (some a0) fun v1 =>
lp (mX4_stepRow_b7 a0) FU (v1 - 2) s0
def rmX4_stepRow : Room := { frames := 1, cells := 0, slots := 0, locals := 23 }
theorem calX4_stepRow : Cal yX4_stepRow cX4_stepRow 5 (some .boolean) 0 := ⟨(mw29 21 rfl), (mw2 14 rfl), by decide, by decide, by decide +kernel⟩
set_option maxHeartbeats 4000000 in
set_option maxRecDepth 100000 in
theorem ctX4_stepRow (l : Launch) (B : Nat) (D : va_G) (cA : Nat → ClassId) (sa : Nat → Nat) (a0 : Nat) (s0 : Sg) : Ct l B D cA sa yX4_stepRow cX4_stepRow 5 (some .boolean) rmX4_stepRow rI [LR (some a0)] s0 0 0 (mX4_stepRow a0 s0) := by
  refine Ct.of (own := RX4) (by decide) rfl _ (Nat.le_of_ble_eq_true rfl) rfl ?_
  intro p e s m args below meth c h hi
  unfold mX4_stepRow
  refine k_aload_n h 0 dX4_stepRow_0 rfl rfl ?_
  refine k_getI h fX4_3 (Or.inl (mw3 18 rfl)) dX4_stepRow_1 (fun v1 => ?_)
  refine k_iconst (v := 2) h dX4_stepRow_4 (by decide) ?_
  refine k_isub h dX4_stepRow_5 ?_
  refine k_istore_n (lv' := [(1, LI (v1 - 2)), (0, LR (some a0))]) h dX4_stepRow_6 rfl (by decide) rfl ?_
  refine k_sub (lv' := [(0, LR (some a0)), (1, LI (v1 - 2))]) h [1, 0] rfl ?_
  refine k_lp (A := Int32) (fun q2 => [(0, LR (some a0)), (1, LI q2)]) (fun q2 => []) (fun r4 hr4 q2 s3 => ?_) FU (v1 - 2) s0
  unfold mX4_stepRow_b7
  refine k_iload_n h 1 dX4_stepRow_7 rfl rfl ?_
  refine k_jn (A := Unit) (J := 34) (fun q5 => [(0, LR (some a0)), (1, LI q2)]) (fun q5 => []) (fun q5 s6 => ?_) (fun j7 hj7 => ?_)
  · refine k_iload_n h 1 dX4_stepRow_34 rfl rfl ?_
    refine k_if_ge (tgt := 40) h dX4_stepRow_35 (by decide) ?_ ?_
    · refine k_aload_n h 0 dX4_stepRow_40 rfl rfl ?_
      refine k_getI h fX4_3 (Or.inl (mw3 18 rfl)) dX4_stepRow_41 (fun v8 => ?_)
      refine k_iconst (v := 1) h dX4_stepRow_44 (by decide) ?_
      refine k_isub h dX4_stepRow_45 ?_
      refine k_istore_n (lv' := [(2, LI (v8 - 1)), (0, LR (some a0)), (1, LI q2)]) h dX4_stepRow_46 rfl (by decide) rfl ?_
      refine k_sub (lv' := [(0, LR (some a0)), (1, LI q2), (2, LI (v8 - 1))]) h [1, 2, 0] rfl ?_
      refine k_lp (A := Int32) (fun q9 => [(0, LR (some a0)), (1, LI q2), (2, LI q9)]) (fun q9 => []) (fun r11 hr11 q9 s10 => ?_) FU (v8 - 1) s6
      unfold mX4_stepRow_b47
      refine k_iload_n h 2 dX4_stepRow_47 rfl rfl ?_
      refine k_iload_n h 1 dX4_stepRow_48 rfl rfl ?_
      refine k_iconst (v := 1) h dX4_stepRow_49 (by decide) ?_
      refine k_iadd h dX4_stepRow_50 ?_
      refine k_jn (A := Unit) (J := 75) (fun q12 => [(0, LR (some a0)), (1, LI q2), (2, LI q9)]) (fun q12 => []) (fun q12 s13 => ?_) (fun j14 hj14 => ?_)
      · refine k_aload_n h 0 dX4_stepRow_75 rfl rfl ?_
        refine k_iload_n h 1 dX4_stepRow_76 rfl rfl ?_
        refine k_iload_n h 2 dX4_stepRow_77 rfl rfl ?_
        refine k_callVU (As := [LI q2, LI q9]) (st := []) (x0 := (some a0)) (xg := fun a25 => mX4_swap a25 q2 q9 s13) h (fun a25 => ctX4_swap l B D cA sa a25 q2 q9 s13) calX4_swap rfl (by decide) (mw29 23 rfl) (mw30 0 rfl) (Or.inl (mw29 22 rfl)) hgood ⟨rfl, rfl, Nat.le_of_ble_eq_true rfl, Nat.le_of_ble_eq_true rfl⟩ ⟨Nat.le_of_ble_eq_true rfl, Nat.le_of_ble_eq_true rfl⟩ rfl (Nat.le_of_ble_eq_true rfl) dX4_stepRow_78 (fun u15 s16 => ?_)
        refine k_iload_n h 1 dX4_stepRow_81 rfl rfl ?_
        refine k_iconst (v := 1) h dX4_stepRow_82 (by decide) ?_
        refine k_iadd h dX4_stepRow_83 ?_
        refine k_istore_n (lv' := [(3, LI (q2 + 1)), (0, LR (some a0)), (1, LI q2), (2, LI q9)]) h dX4_stepRow_84 rfl (by decide) rfl ?_
        refine k_aload_n h 1 dX4_stepRow_85 rfl rfl ?_
        refine k_getI h fX4_3 (Or.inl (mw3 18 rfl)) dX4_stepRow_86 (fun v17 => ?_)
        refine k_iconst (v := 1) h dX4_stepRow_89 (by decide) ?_
        refine k_isub h dX4_stepRow_90 ?_
        refine k_istore (lv' := [(4, LI (v17 - 1)), (3, LI (q2 + 1)), (0, LR (some a0)), (1, LI q2), (2, LI q9)]) h dX4_stepRow_91 (by decide) rfl ?_
        refine k_sub (lv' := [(0, LR (some a0)), (3, LI (q2 + 1)), (4, LI (v17 - 1))]) h [2, 1, 0] rfl ?_
        refine k_lp (A := Int32 × Int32) (fun q18 => [(0, LR (some a0)), (3, LI q18.1), (4, LI q18.2)]) (fun q18 => []) (fun r20 hr20 q18 s19 => ?_) FU ((q2 + 1), (v17 - 1)) s16
        unfold mX4_stepRow_b93
        refine k_iload_n h 1 dX4_stepRow_93 rfl rfl ?_
        refine k_iload h 2 dX4_stepRow_94 rfl ?_
        refine k_icmp_ge (tgt := 115) h dX4_stepRow_96 (by decide) ?_ ?_
        · refine k_iconst (v := 1) h dX4_stepRow_115 (by decide) ?_
          exact k_zret h rfl dX4_stepRow_116 (Nat.le_of_ble_eq_true rfl) (Nat.le_of_ble_eq_true rfl)
        · refine k_aload_n h 0 dX4_stepRow_99 rfl rfl ?_
          refine k_iload_n h 1 dX4_stepRow_100 rfl rfl ?_
          refine k_iload h 2 dX4_stepRow_101 rfl ?_
          refine k_callVU (As := [LI q18.1, LI q18.2]) (st := []) (x0 := (some a0)) (xg := fun a23 => mX4_swap a23 q18.1 q18.2 s19) h (fun a23 => ctX4_swap l B D cA sa a23 q18.1 q18.2 s19) calX4_swap rfl (by decide) (mw29 23 rfl) (mw30 0 rfl) (Or.inl (mw29 22 rfl)) hgood ⟨rfl, rfl, Nat.le_of_ble_eq_true rfl, Nat.le_of_ble_eq_true rfl⟩ ⟨Nat.le_of_ble_eq_true rfl, Nat.le_of_ble_eq_true rfl⟩ rfl (Nat.le_of_ble_eq_true rfl) dX4_stepRow_103 (fun u21 s22 => ?_)
          refine k_iinc (w := (q18.1 + 1)) (lv' := [(3, LI (q18.1 + 1)), (0, LR (some a0)), (4, LI q18.2)]) h 1 dX4_stepRow_106 rfl rfl (by decide) rfl ?_
          refine k_iinc (w := (q18.2 + (-1))) (lv' := [(4, LI (q18.2 + (-1))), (3, LI (q18.1 + 1)), (0, LR (some a0))]) h 2 dX4_stepRow_109 rfl rfl (by decide) rfl ?_
          refine k_goto (tgt := 93) h dX4_stepRow_112 (by decide) ?_
          refine k_sub (lv' := [(0, LR (some a0)), (3, LI (q18.1 + 1)), (4, LI (q18.2 + (-1)))]) h [2, 1, 0] rfl ?_
          exact hr20 ((q18.1 + 1), (q18.2 + (-1))) s22
      · refine k_icmp_le (tgt := 75) h dX4_stepRow_51 (by decide) ?_ ?_
        · refine k_sub (lv' := [(0, LR (some a0)), (1, LI q2), (2, LI q9)]) h [0, 1, 2] rfl ?_
          exact hj14 () s10
        · refine k_aload_n h 0 dX4_stepRow_54 rfl rfl ?_
          refine k_getR h fX4_1 (Or.inl (mw3 16 rfl)) dX4_stepRow_55 (fun v26 => ?_)
          refine k_iload_n h 2 dX4_stepRow_58 rfl rfl ?_
          refine k_alI h dX4_stepRow_59 (fun v27 => ?_)
          refine k_aload_n h 0 dX4_stepRow_60 rfl rfl ?_
          refine k_getR h fX4_1 (Or.inl (mw3 16 rfl)) dX4_stepRow_61 (fun v28 => ?_)
          refine k_iload_n h 1 dX4_stepRow_64 rfl rfl ?_
          refine k_alI h dX4_stepRow_65 (fun v29 => ?_)
          refine k_icmp_ge (tgt := 75) h dX4_stepRow_66 (by decide) ?_ ?_
          · refine k_sub (lv' := [(0, LR (some a0)), (1, LI q2), (2, LI q9)]) h [0, 1, 2] rfl ?_
            exact hj14 () s10
          · refine k_iinc (w := (q9 + (-1))) (lv' := [(2, LI (q9 + (-1))), (0, LR (some a0)), (1, LI q2)]) h 2 dX4_stepRow_69 rfl rfl (by decide) rfl ?_
            refine k_goto (tgt := 47) h dX4_stepRow_72 (by decide) ?_
            refine k_sub (lv' := [(0, LR (some a0)), (1, LI q2), (2, LI (q9 + (-1)))]) h [1, 2, 0] rfl ?_
            exact hr11 (q9 + (-1)) s10
    · refine k_iconst (v := 0) h dX4_stepRow_38 (by decide) ?_
      exact k_zret h rfl dX4_stepRow_39 (Nat.le_of_ble_eq_true rfl) (Nat.le_of_ble_eq_true rfl)
  · refine k_if_lt (tgt := 34) h dX4_stepRow_8 (by decide) ?_ ?_
    · refine k_sub (lv' := [(0, LR (some a0)), (1, LI q2)]) h [0, 1] rfl ?_
      exact hj7 () s3
    · refine k_aload_n h 0 dX4_stepRow_11 rfl rfl ?_
      refine k_getR h fX4_1 (Or.inl (mw3 16 rfl)) dX4_stepRow_12 (fun v31 => ?_)
      refine k_iload_n h 1 dX4_stepRow_15 rfl rfl ?_
      refine k_alI h dX4_stepRow_16 (fun v32 => ?_)
      refine k_aload_n h 0 dX4_stepRow_17 rfl rfl ?_
      refine k_getR h fX4_1 (Or.inl (mw3 16 rfl)) dX4_stepRow_18 (fun v33 => ?_)
      refine k_iload_n h 1 dX4_stepRow_21 rfl rfl ?_
      refine k_iconst (v := 1) h dX4_stepRow_22 (by decide) ?_
      refine k_iadd h dX4_stepRow_23 ?_
      refine k_alI h dX4_stepRow_24 (fun v34 => ?_)
      refine k_icmp_le (tgt := 34) h dX4_stepRow_25 (by decide) ?_ ?_
      · refine k_sub (lv' := [(0, LR (some a0)), (1, LI q2)]) h [0, 1] rfl ?_
        exact hj7 () s3
      · refine k_iinc (w := (q2 + (-1))) (lv' := [(1, LI (q2 + (-1))), (0, LR (some a0))]) h 1 dX4_stepRow_28 rfl rfl (by decide) rfl ?_
        refine k_goto (tgt := 7) h dX4_stepRow_31 (by decide) ?_
        refine k_sub (lv' := [(0, LR (some a0)), (1, LI (q2 + (-1)))]) h [1, 0] rfl ?_
        exact hr4 (q2 + (-1)) s3
def mX4_findShortest_b4 (a0 : Nat) (r3 : (Int32 × Int32) → Sg → Option (Int32 × Sg)) (q1 : Int32 × Int32) (s2 : Sg) : Option (Int32 × Sg) :=
if 720 ≤ q1.2 then (
ckB q1.1 (some (q1.1, s2)))
else (
cv s2 4 (some a0) fun a21 => cl (mX4_sumOfRow a21 s2) fun v4 s5 =>
jn (fun (q6 : Int32) (s7 : Sg) =>
cv s7 4 (some a0) fun a11 => cl (mX4_stepRow a11 s7) fun v9 s10 =>
if ¬ v9 = 0 then (
r3 (q6, (q1.2 + 1)) s10)
else (
ckB q6 (some (q6, s10)))) (fun j8 =>
if v4 < 0 then (
j8 q1.1 s5)
else (
jn (fun (q12 : Unit) (s13 : Sg) =>
ptI s13 4 4 (some a0) v4 fun s15 =>
gdR s15 4 1 (some a0) fun v16 =>
gdR s15 4 2 (some a0) fun v17 =>
gdI s15 4 3 (some a0) fun v18 =>
acI s15 v16 0 v17 0 v18 fun s19 =>
j8 1 s19) (fun j14 =>
if q1.1 = 0 then (
j14 () s5)
else (
gdI s5 4 4 (some a0) fun v20 =>
if v20 ≤ v4 then (
j8 q1.1 s5)
else (
j14 () s5))))))
def mX4_findShortest (a0 : Nat) (s0 : Sg) : Option (Int32 × Sg) :=
lp (mX4_findShortest_b4 a0) FU (0, 0) s0
def rmX4_findShortest : Room := { frames := 2, cells := 0, slots := 0, locals := 47 }
theorem calX4_findShortest : Cal yX4_findShortest cX4_findShortest 4 (some .boolean) 0 := ⟨(mw29 5 rfl), (mw2 14 rfl), by decide, by decide, by decide +kernel⟩
set_option maxHeartbeats 4000000 in
set_option maxRecDepth 100000 in
theorem ctX4_findShortest (l : Launch) (B : Nat) (D : va_G) (cA : Nat → ClassId) (sa : Nat → Nat) (a0 : Nat) (s0 : Sg) : Ct l B D cA sa yX4_findShortest cX4_findShortest 4 (some .boolean) rmX4_findShortest rI [LR (some a0)] s0 0 0 (mX4_findShortest a0 s0) := by
  refine Ct.of (own := RX4) (by decide) rfl _ (Nat.le_of_ble_eq_true rfl) rfl ?_
  intro p e s m args below meth c h hi
  unfold mX4_findShortest
  refine k_iconst (v := 0) h dX4_findShortest_0 (by decide) ?_
  refine k_istore_n (lv' := [(1, LI 0), (0, LR (some a0))]) h dX4_findShortest_1 rfl (by decide) rfl ?_
  refine k_iconst (v := 0) h dX4_findShortest_2 (by decide) ?_
  refine k_istore_n (lv' := [(2, LI 0), (1, LI 0), (0, LR (some a0))]) h dX4_findShortest_3 rfl (by decide) rfl ?_
  refine k_sub (lv' := [(0, LR (some a0)), (1, LI 0), (2, LI 0)]) h [2, 1, 0] rfl ?_
  refine k_lp (A := Int32 × Int32) (fun q1 => [(0, LR (some a0)), (1, LI q1.1), (2, LI q1.2)]) (fun q1 => []) (fun r3 hr3 q1 s2 => ?_) FU (0, 0) s0
  unfold mX4_findShortest_b4
  refine k_iload_n h 2 dX4_findShortest_4 rfl rfl ?_
  refine k_sipush (v := 720) h dX4_findShortest_5 (by decide) ?_
  refine k_icmp_ge (tgt := 71) h dX4_findShortest_8 (by decide) ?_ ?_
  · refine k_iload_n h 1 dX4_findShortest_71 rfl rfl ?_
    exact k_zret h rfl dX4_findShortest_72 (Nat.le_of_ble_eq_true rfl) (Nat.le_of_ble_eq_true rfl)
  · refine k_aload_n h 0 dX4_findShortest_11 rfl rfl ?_
    refine k_callVI (As := []) (st := []) (x0 := (some a0)) (xg := fun a21 => mX4_sumOfRow a21 s2) h (fun a21 => ctX4_sumOfRow l B D cA sa a21  s2) calX4_sumOfRow rfl (by decide) (mw29 11 rfl) (mw29 12 rfl) (Or.inl (mw29 10 rfl)) hgood ⟨rfl, rfl, Nat.le_of_ble_eq_true rfl, Nat.le_of_ble_eq_true rfl⟩ ⟨Nat.le_of_ble_eq_true rfl, Nat.le_of_ble_eq_true rfl⟩ rfl (Nat.le_of_ble_eq_true rfl) dX4_findShortest_12 (fun v4 s5 => ?_)
    refine k_istore_n (lv' := [(3, LI v4), (0, LR (some a0)), (1, LI q1.1), (2, LI q1.2)]) h dX4_findShortest_15 rfl (by decide) rfl ?_
    refine k_iload_n h 0 dX4_findShortest_16 rfl rfl ?_
    refine k_jn (A := Int32) (J := 56) (fun q6 => [(0, LR (some a0)), (1, LI q6), (2, LI q1.2)]) (fun q6 => []) (fun q6 s7 => ?_) (fun j8 hj8 => ?_)
    · refine k_aload_n h 0 dX4_findShortest_56 rfl rfl ?_
      refine k_callVI (As := []) (st := []) (x0 := (some a0)) (xg := fun a11 => mX4_stepRow a11 s7) h (fun a11 => ctX4_stepRow l B D cA sa a11  s7) calX4_stepRow rfl (by decide) (mw29 19 rfl) (mw29 20 rfl) (Or.inl (mw29 18 rfl)) hgood ⟨rfl, rfl, Nat.le_of_ble_eq_true rfl, Nat.le_of_ble_eq_true rfl⟩ ⟨Nat.le_of_ble_eq_true rfl, Nat.le_of_ble_eq_true rfl⟩ rfl (Nat.le_of_ble_eq_true rfl) dX4_findShortest_57 (fun v9 s10 => ?_)
      refine k_if_ne (tgt := 65) h dX4_findShortest_60 (by decide) ?_ ?_
      · refine k_iinc (w := (q1.2 + 1)) (lv' := [(2, LI (q1.2 + 1)), (0, LR (some a0)), (1, LI q6)]) h 2 dX4_findShortest_65 rfl rfl (by decide) rfl ?_
        refine k_goto (tgt := 4) h dX4_findShortest_68 (by decide) ?_
        refine k_sub (lv' := [(0, LR (some a0)), (1, LI q6), (2, LI (q1.2 + 1))]) h [1, 2, 0] rfl ?_
        exact hr3 (q6, (q1.2 + 1)) s10
      · refine k_iload_n h 1 dX4_findShortest_63 rfl rfl ?_
        exact k_zret h rfl dX4_findShortest_64 (Nat.le_of_ble_eq_true rfl) (Nat.le_of_ble_eq_true rfl)
    · refine k_if_lt (tgt := 56) h dX4_findShortest_17 (by decide) ?_ ?_
      · refine k_sub (lv' := [(0, LR (some a0)), (1, LI q1.1), (2, LI q1.2)]) h [1, 2, 3] rfl ?_
        exact hj8 q1.1 s5
      · refine k_iload_n h 2 dX4_findShortest_20 rfl rfl ?_
        refine k_jn (A := Unit) (J := 32) (fun q12 => [(0, LR (some a0)), (2, LI q1.2), (3, LI v4)]) (fun q12 => []) (fun q12 s13 => ?_) (fun j14 hj14 => ?_)
        · refine k_iconst (v := 1) h dX4_findShortest_32 (by decide) ?_
          refine k_istore_n (lv' := [(1, LI 1), (0, LR (some a0)), (2, LI q1.2), (3, LI v4)]) h dX4_findShortest_33 rfl (by decide) rfl ?_
          refine k_aload_n h 1 dX4_findShortest_34 rfl rfl ?_
          refine k_iload_n h 3 dX4_findShortest_35 rfl rfl ?_
          refine k_putI h fX4_4 (Or.inl (mw3 19 rfl)) rfl dX4_findShortest_36 (fun s15 => ?_)
          refine k_aload_n h 1 dX4_findShortest_39 rfl rfl ?_
          refine k_getR h fX4_1 (Or.inl (mw3 16 rfl)) dX4_findShortest_40 (fun v16 => ?_)
          refine k_iconst (v := 0) h dX4_findShortest_43 (by decide) ?_
          refine k_aload_n h 1 dX4_findShortest_44 rfl rfl ?_
          refine k_getR h fX4_2 (Or.inl (mw3 17 rfl)) dX4_findShortest_45 (fun v17 => ?_)
          refine k_iconst (v := 0) h dX4_findShortest_48 (by decide) ?_
          refine k_aload_n h 1 dX4_findShortest_49 rfl rfl ?_
          refine k_getI h fX4_3 (Or.inl (mw3 18 rfl)) dX4_findShortest_50 (fun v18 => ?_)
          refine k_acpy h (mw29 6 rfl) (mw29 7 rfl) (mw29 8 rfl) (mw29 9 rfl) (Nat.le_of_ble_eq_true rfl) (Nat.le_of_ble_eq_true rfl) dX4_findShortest_53 (fun s19 => ?_)
          refine k_sub (lv' := [(0, LR (some a0)), (1, LI 1), (2, LI q1.2)]) h [1, 0, 2] rfl ?_
          exact hj8 1 s19
        · refine k_if_eq (tgt := 32) h dX4_findShortest_21 (by decide) ?_ ?_
          · refine k_sub (lv' := [(0, LR (some a0)), (2, LI q1.2), (3, LI v4)]) h [1, 3, 0] rfl ?_
            exact hj14 () s5
          · refine k_iload_n h 0 dX4_findShortest_24 rfl rfl ?_
            refine k_aload_n h 1 dX4_findShortest_25 rfl rfl ?_
            refine k_getI h fX4_4 (Or.inl (mw3 19 rfl)) dX4_findShortest_26 (fun v20 => ?_)
            refine k_icmp_ge (tgt := 56) h dX4_findShortest_29 (by decide) ?_ ?_
            · refine k_sub (lv' := [(0, LR (some a0)), (1, LI q1.1), (2, LI q1.2)]) h [1, 2, 3] rfl ?_
              exact hj8 q1.1 s5
            · refine k_sub (lv' := [(0, LR (some a0)), (2, LI q1.2), (3, LI v4)]) h [1, 3, 0] rfl ?_
              exact hj14 () s5
def mX4_giveTo_b2 (a0 : Nat) (p1 : Option Nat) (p2 : Option Nat) (r3 : (Int32) → Sg → Option (Unit × Sg)) (q1 : Int32) (s2 : Sg) : Option (Unit × Sg) :=
gdI s2 4 3 (some a0) fun v4 =>
if v4 ≤ q1 then (
some ((), s2))
else (
gdR s2 5 0 p1 fun v5 =>
aln s2 v5 fun v6 =>
if v6 ≤ q1 then (
some ((), s2))
else (
gdR s2 5 0 p1 fun v7 =>
gdR s2 4 2 (some a0) fun v8 =>
alI s2 v8 q1 fun v9 =>
alR s2 2 p2 v9 fun v10 =>
asR s2 2 v7 q1 v10 fun s11 =>
gdR s11 5 1 p1 fun v12 =>
if ¬ q1 = 0 then (
gdR s11 4 2 (some a0) fun v13 =>
alI s11 v13 (q1 - 1) fun v14 =>
gdR s11 4 2 (some a0) fun v15 =>
alI s11 v15 q1 fun v16 =>
cv s11 4 (some a0) fun a20 => cl (mX4_pauseBetween a20 v14 v16 s11) fun v17 s18 =>
asI s18 v12 q1 v17 fun s19 =>
r3 (q1 + 1) s19)
else (
asI s11 v12 q1 1 fun s21 =>
r3 (q1 + 1) s21)))
def mX4_giveTo (a0 : Nat) (p1 : Option Nat) (p2 : Option Nat) (s0 : Sg) : Option (Unit × Sg) :=
lp (mX4_giveTo_b2 a0 p1 p2) FU 0 s0
def rmX4_giveTo : Room := { frames := 1, cells := 0, slots := 0, locals := 22 }
theorem calX4_giveTo : Cal yX4_giveTo cX4_giveTo 4 none 2 := ⟨(mw30 4 rfl), (mw2 14 rfl), by decide, by decide, by decide +kernel⟩
set_option maxHeartbeats 4000000 in
set_option maxRecDepth 100000 in
theorem ctX4_giveTo (l : Launch) (B : Nat) (D : va_G) (cA : Nat → ClassId) (sa : Nat → Nat) (a0 : Nat) (p1 : Option Nat) (p2 : Option Nat) (s0 : Sg) : Ct l B D cA sa yX4_giveTo cX4_giveTo 4 none rmX4_giveTo rU [LR (some a0), LR p1, LR p2] s0 0 0 (mX4_giveTo a0 p1 p2 s0) := by
  refine Ct.of (own := RX4) (by decide) rfl _ (Nat.le_of_ble_eq_true rfl) rfl ?_
  intro p e s m args below meth c h hi
  unfold mX4_giveTo
  refine k_iconst (v := 0) h dX4_giveTo_0 (by decide) ?_
  refine k_istore_n (lv' := [(3, LI 0), (0, LR (some a0)), (1, LR p1), (2, LR p2)]) h dX4_giveTo_1 rfl (by decide) rfl ?_
  refine k_sub (lv' := [(0, LR (some a0)), (1, LR p1), (2, LR p2), (3, LI 0)]) h [1, 2, 3, 0] rfl ?_
  refine k_lp (A := Int32) (fun q1 => [(0, LR (some a0)), (1, LR p1), (2, LR p2), (3, LI q1)]) (fun q1 => []) (fun r3 hr3 q1 s2 => ?_) FU 0 s0
  unfold mX4_giveTo_b2
  refine k_iload_n h 3 dX4_giveTo_2 rfl rfl ?_
  refine k_aload_n h 0 dX4_giveTo_3 rfl rfl ?_
  refine k_getI h fX4_3 (Or.inl (mw3 18 rfl)) dX4_giveTo_4 (fun v4 => ?_)
  refine k_icmp_ge (tgt := 71) h dX4_giveTo_7 (by decide) ?_ ?_
  · exact k_vret h rfl dX4_giveTo_71 (Nat.le_of_ble_eq_true rfl) (Nat.le_of_ble_eq_true rfl)
  · refine k_iload_n h 3 dX4_giveTo_10 rfl rfl ?_
    refine k_aload_n h 1 dX4_giveTo_11 rfl rfl ?_
    refine k_getR h fX5_0 (Or.inr ⟨_, nwf 22 rfl⟩) dX4_giveTo_12 (fun v5 => ?_)
    refine k_aln h dX4_giveTo_15 (fun v6 => ?_)
    refine k_icmp_ge (tgt := 71) h dX4_giveTo_16 (by decide) ?_ ?_
    · exact k_vret h rfl dX4_giveTo_71 (Nat.le_of_ble_eq_true rfl) (Nat.le_of_ble_eq_true rfl)
    · refine k_aload_n h 1 dX4_giveTo_19 rfl rfl ?_
      refine k_getR h fX5_0 (Or.inr ⟨_, nwf 22 rfl⟩) dX4_giveTo_20 (fun v7 => ?_)
      refine k_iload_n h 3 dX4_giveTo_23 rfl rfl ?_
      refine k_aload_n h 2 dX4_giveTo_24 rfl rfl ?_
      refine k_aload_n h 0 dX4_giveTo_25 rfl rfl ?_
      refine k_getR h fX4_2 (Or.inl (mw3 17 rfl)) dX4_giveTo_26 (fun v8 => ?_)
      refine k_iload_n h 3 dX4_giveTo_29 rfl rfl ?_
      refine k_alI h dX4_giveTo_30 (fun v9 => ?_)
      refine k_alR h rfl rfl dX4_giveTo_31 (fun v10 => ?_)
      refine k_asR h rfl rfl rfl (by decide) dX4_giveTo_32 (fun s11 => ?_)
      refine k_aload_n h 1 dX4_giveTo_33 rfl rfl ?_
      refine k_getR h fX5_1 (Or.inr ⟨_, nwf 24 rfl⟩) dX4_giveTo_34 (fun v12 => ?_)
      refine k_iload_n h 3 dX4_giveTo_37 rfl rfl ?_
      refine k_iload_n h 3 dX4_giveTo_38 rfl rfl ?_
      refine k_if_ne (tgt := 46) h dX4_giveTo_39 (by decide) ?_ ?_
      · refine k_aload_n h 0 dX4_giveTo_46 rfl rfl ?_
        refine k_aload_n h 0 dX4_giveTo_47 rfl rfl ?_
        refine k_getR h fX4_2 (Or.inl (mw3 17 rfl)) dX4_giveTo_48 (fun v13 => ?_)
        refine k_iload_n h 3 dX4_giveTo_51 rfl rfl ?_
        refine k_iconst (v := 1) h dX4_giveTo_52 (by decide) ?_
        refine k_isub h dX4_giveTo_53 ?_
        refine k_alI h dX4_giveTo_54 (fun v14 => ?_)
        refine k_aload_n h 0 dX4_giveTo_55 rfl rfl ?_
        refine k_getR h fX4_2 (Or.inl (mw3 17 rfl)) dX4_giveTo_56 (fun v15 => ?_)
        refine k_iload_n h 3 dX4_giveTo_59 rfl rfl ?_
        refine k_alI h dX4_giveTo_60 (fun v16 => ?_)
        refine k_callVI (As := [LI v14, LI v16]) (st := [LI q1, LR v12]) (x0 := (some a0)) (xg := fun a20 => mX4_pauseBetween a20 v14 v16 s11) h (fun a20 => ctX4_pauseBetween l B D cA sa a20 v14 v16 s11) calX4_pauseBetween rfl (by decide) (mw29 15 rfl) (mw29 16 rfl) (Or.inl (mw29 14 rfl)) hgood ⟨rfl, rfl, Nat.le_of_ble_eq_true rfl, Nat.le_of_ble_eq_true rfl⟩ ⟨Nat.le_of_ble_eq_true rfl, Nat.le_of_ble_eq_true rfl⟩ rfl (Nat.le_of_ble_eq_true rfl) dX4_giveTo_61 (fun v17 s18 => ?_)
        refine k_asI h dX4_giveTo_64 (fun s19 => ?_)
        refine k_iinc (w := (q1 + 1)) (lv' := [(3, LI (q1 + 1)), (0, LR (some a0)), (1, LR p1), (2, LR p2)]) h 3 dX4_giveTo_65 rfl rfl (by decide) rfl ?_
        refine k_goto (tgt := 2) h dX4_giveTo_68 (by decide) ?_
        refine k_sub (lv' := [(0, LR (some a0)), (1, LR p1), (2, LR p2), (3, LI (q1 + 1))]) h [1, 2, 3, 0] rfl ?_
        exact hr3 (q1 + 1) s19
      · refine k_iconst (v := 1) h dX4_giveTo_42 (by decide) ?_
        refine k_goto (tgt := 64) h dX4_giveTo_43 (by decide) ?_
        refine k_asI h dX4_giveTo_64 (fun s21 => ?_)
        refine k_iinc (w := (q1 + 1)) (lv' := [(3, LI (q1 + 1)), (0, LR (some a0)), (1, LR p1), (2, LR p2)]) h 3 dX4_giveTo_65 rfl rfl (by decide) rfl ?_
        refine k_goto (tgt := 2) h dX4_giveTo_68 (by decide) ?_
        refine k_sub (lv' := [(0, LR (some a0)), (1, LR p1), (2, LR p2), (3, LI (q1 + 1))]) h [1, 2, 3, 0] rfl ?_
        exact hr3 (q1 + 1) s21
def mX1_drift (a0 : Nat) (p1 : Int32) (p2 : Option Nat) (s0 : Sg) : Option (Unit × Sg) :=
gdR s0 1 2 (some a0) fun v1 =>
alI s0 v1 p1 fun v2 =>
ckZ 4000 (
gdR s0 1 0 (some a0) fun v3 =>
gdR s0 1 0 (some a0) fun v4 =>
alI s0 v4 p1 fun v5 =>
cv s0 0 p2 fun a16 => cl (mX0_alongX a16 (v2 / 4000) s0) fun v6 s7 =>
asI s7 v3 (p1 + 1) (v5 + v6) fun s8 =>
gdR s8 1 1 (some a0) fun v9 =>
gdR s8 1 1 (some a0) fun v10 =>
alI s8 v10 p1 fun v11 =>
cv s8 0 p2 fun a15 => cl (mX0_alongY a15 (v2 / 4000) s8) fun v12 s13 =>
asI s13 v9 (p1 + 1) (v11 + v12) fun s14 =>
some ((), s14))
def rmX1_drift : Room := { frames := 1, cells := 0, slots := 0, locals := 21 }
theorem calX1_drift : Cal yX1_drift cX1_drift 4 none 2 := ⟨(mw24 2 rfl), (mw3 5 rfl), by decide, by decide, by decide +kernel⟩
set_option maxHeartbeats 4000000 in
set_option maxRecDepth 100000 in
theorem ctX1_drift (l : Launch) (B : Nat) (D : va_G) (cA : Nat → ClassId) (sa : Nat → Nat) (a0 : Nat) (p1 : Int32) (p2 : Option Nat) (s0 : Sg) : Ct l B D cA sa yX1_drift cX1_drift 4 none rmX1_drift rU [LR (some a0), LI p1, LR p2] s0 0 0 (mX1_drift a0 p1 p2 s0) := by
  refine Ct.of (own := RX1) (by decide) rfl _ (Nat.le_of_ble_eq_true rfl) rfl ?_
  intro p e s m args below meth c h hi
  unfold mX1_drift
  refine k_aload_n h 0 dX1_drift_0 rfl rfl ?_
  refine k_getR h fX1_2 (Or.inl (mw6 4 rfl)) dX1_drift_1 (fun v1 => ?_)
  refine k_iload_n h 1 dX1_drift_4 rfl rfl ?_
  refine k_alI h dX1_drift_5 (fun v2 => ?_)
  refine k_sipush (v := 4000) h dX1_drift_6 (by decide) ?_
  refine k_idiv h dX1_drift_9 ?_
  refine k_istore_n (lv' := [(3, LI (v2 / 4000)), (0, LR (some a0)), (1, LI p1), (2, LR p2)]) h dX1_drift_10 rfl (by decide) rfl ?_
  refine k_aload_n h 1 dX1_drift_11 rfl rfl ?_
  refine k_getR h fX1_0 (Or.inl (mw6 2 rfl)) dX1_drift_12 (fun v3 => ?_)
  refine k_iload_n h 2 dX1_drift_15 rfl rfl ?_
  refine k_iconst (v := 1) h dX1_drift_16 (by decide) ?_
  refine k_iadd h dX1_drift_17 ?_
  refine k_aload_n h 1 dX1_drift_18 rfl rfl ?_
  refine k_getR h fX1_0 (Or.inl (mw6 2 rfl)) dX1_drift_19 (fun v4 => ?_)
  refine k_iload_n h 2 dX1_drift_22 rfl rfl ?_
  refine k_alI h dX1_drift_23 (fun v5 => ?_)
  refine k_aload_n h 3 dX1_drift_24 rfl rfl ?_
  refine k_iload_n h 0 dX1_drift_25 rfl rfl ?_
  refine k_callVI (As := [LI (v2 / 4000)]) (st := [LI v5, LI (p1 + 1), LR v3]) (x0 := p2) (xg := fun a16 => mX0_alongX a16 (v2 / 4000) s0) h (fun a16 => ctX0_alongX l B D cA sa a16 (v2 / 4000) s0) calX0_alongX rfl (by decide) (mw13 22 rfl) (mw13 23 rfl) (Or.inr ⟨_, nwm 32 rfl⟩) hgood ⟨rfl, rfl, Nat.le_of_ble_eq_true rfl, Nat.le_of_ble_eq_true rfl⟩ ⟨Nat.le_of_ble_eq_true rfl, Nat.le_of_ble_eq_true rfl⟩ rfl (Nat.le_of_ble_eq_true rfl) dX1_drift_26 (fun v6 s7 => ?_)
  refine k_iadd h dX1_drift_29 ?_
  refine k_asI h dX1_drift_30 (fun s8 => ?_)
  refine k_aload_n h 1 dX1_drift_31 rfl rfl ?_
  refine k_getR h fX1_1 (Or.inl (mw6 3 rfl)) dX1_drift_32 (fun v9 => ?_)
  refine k_iload_n h 2 dX1_drift_35 rfl rfl ?_
  refine k_iconst (v := 1) h dX1_drift_36 (by decide) ?_
  refine k_iadd h dX1_drift_37 ?_
  refine k_aload_n h 1 dX1_drift_38 rfl rfl ?_
  refine k_getR h fX1_1 (Or.inl (mw6 3 rfl)) dX1_drift_39 (fun v10 => ?_)
  refine k_iload_n h 2 dX1_drift_42 rfl rfl ?_
  refine k_alI h dX1_drift_43 (fun v11 => ?_)
  refine k_aload_n h 3 dX1_drift_44 rfl rfl ?_
  refine k_iload_n h 0 dX1_drift_45 rfl rfl ?_
  refine k_callVI (As := [LI (v2 / 4000)]) (st := [LI v11, LI (p1 + 1), LR v9]) (x0 := p2) (xg := fun a15 => mX0_alongY a15 (v2 / 4000) s8) h (fun a15 => ctX0_alongY l B D cA sa a15 (v2 / 4000) s8) calX0_alongY rfl (by decide) (mw14 1 rfl) (mw14 2 rfl) (Or.inr ⟨_, nwm 33 rfl⟩) hgood ⟨rfl, rfl, Nat.le_of_ble_eq_true rfl, Nat.le_of_ble_eq_true rfl⟩ ⟨Nat.le_of_ble_eq_true rfl, Nat.le_of_ble_eq_true rfl⟩ rfl (Nat.le_of_ble_eq_true rfl) dX1_drift_46 (fun v12 s13 => ?_)
  refine k_iadd h dX1_drift_49 ?_
  refine k_asI h dX1_drift_50 (fun s14 => ?_)
  exact k_vret h rfl dX1_drift_51 (Nat.le_of_ble_eq_true rfl) (Nat.le_of_ble_eq_true rfl)
def mX1_track (a0 : Nat) (p1 : Int32) (p2 : Int32) (s0 : Sg) : Option (Unit × Sg) :=
swc p2 0 [
gdR s0 1 0 (some a0) fun v4 =>
alI s0 v4 (p1 + 1) fun v5 =>
asI s0 v4 (p1 + 1) (v5 + 80) fun s6 =>
some ((), s6),
gdR s0 1 1 (some a0) fun v7 =>
alI s0 v7 (p1 + 1) fun v8 =>
asI s0 v7 (p1 + 1) (v8 + 80) fun s9 =>
some ((), s9),
gdR s0 1 0 (some a0) fun v10 =>
alI s0 v10 (p1 + 1) fun v11 =>
asI s0 v10 (p1 + 1) (v11 - 80) fun s12 =>
some ((), s12)] (
gdR s0 1 1 (some a0) fun v1 =>
alI s0 v1 (p1 + 1) fun v2 =>
asI s0 v1 (p1 + 1) (v2 - 80) fun s3 =>
some ((), s3))
def rmX1_track : Room := { frames := 0, cells := 0, slots := 0, locals := 0 }
theorem calX1_track : Cal yX1_track cX1_track 3 none 2 := ⟨(mw24 10 rfl), (mw3 5 rfl), by decide, by decide, by decide +kernel⟩
set_option maxHeartbeats 4000000 in
set_option maxRecDepth 100000 in
theorem ctX1_track (l : Launch) (B : Nat) (D : va_G) (cA : Nat → ClassId) (sa : Nat → Nat) (a0 : Nat) (p1 : Int32) (p2 : Int32) (s0 : Sg) : Ct l B D cA sa yX1_track cX1_track 3 none rmX1_track rU [LR (some a0), LI p1, LI p2] s0 0 0 (mX1_track a0 p1 p2 s0) := by
  refine Ct.of (own := RX1) (by decide) rfl _ (Nat.le_of_ble_eq_true rfl) rfl ?_
  intro p e s m args below meth c h hi
  unfold mX1_track
  refine k_iload_n h 2 dX1_track_0 rfl rfl ?_
  refine k_table (tg := 76) (tgs := [28, 44, 60]) h dX1_track_1 (by decide) (by decide) rfl (by decide) ?_ ?_
  · refine k_aload_n h 0 dX1_track_76 rfl rfl ?_
    refine k_getR h fX1_1 (Or.inl (mw6 3 rfl)) dX1_track_77 (fun v1 => ?_)
    refine k_iload_n h 1 dX1_track_80 rfl rfl ?_
    refine k_iconst (v := 1) h dX1_track_81 (by decide) ?_
    refine k_iadd h dX1_track_82 ?_
    refine k_dup2 h dX1_track_83 rfl rfl ?_
    refine k_alI h dX1_track_84 (fun v2 => ?_)
    refine k_bipush (v := 80) h dX1_track_85 (by decide) ?_
    refine k_isub h dX1_track_87 ?_
    refine k_asI h dX1_track_88 (fun s3 => ?_)
    exact k_vret h rfl dX1_track_89 (Nat.le_of_ble_eq_true rfl) (Nat.le_of_ble_eq_true rfl)
  · intro q9 hq9
    simp only [List.zip_cons_cons, List.zip_nil_right, List.zip_nil_left, List.mem_cons, List.not_mem_nil, or_false] at hq9
    rcases hq9 with rfl | rfl | rfl
    · dsimp only
      refine k_aload_n h 0 dX1_track_28 rfl rfl ?_
      refine k_getR h fX1_0 (Or.inl (mw6 2 rfl)) dX1_track_29 (fun v4 => ?_)
      refine k_iload_n h 1 dX1_track_32 rfl rfl ?_
      refine k_iconst (v := 1) h dX1_track_33 (by decide) ?_
      refine k_iadd h dX1_track_34 ?_
      refine k_dup2 h dX1_track_35 rfl rfl ?_
      refine k_alI h dX1_track_36 (fun v5 => ?_)
      refine k_bipush (v := 80) h dX1_track_37 (by decide) ?_
      refine k_iadd h dX1_track_39 ?_
      refine k_asI h dX1_track_40 (fun s6 => ?_)
      refine k_goto (tgt := 89) h dX1_track_41 (by decide) ?_
      exact k_vret h rfl dX1_track_89 (Nat.le_of_ble_eq_true rfl) (Nat.le_of_ble_eq_true rfl)
    · dsimp only
      refine k_aload_n h 0 dX1_track_44 rfl rfl ?_
      refine k_getR h fX1_1 (Or.inl (mw6 3 rfl)) dX1_track_45 (fun v7 => ?_)
      refine k_iload_n h 1 dX1_track_48 rfl rfl ?_
      refine k_iconst (v := 1) h dX1_track_49 (by decide) ?_
      refine k_iadd h dX1_track_50 ?_
      refine k_dup2 h dX1_track_51 rfl rfl ?_
      refine k_alI h dX1_track_52 (fun v8 => ?_)
      refine k_bipush (v := 80) h dX1_track_53 (by decide) ?_
      refine k_iadd h dX1_track_55 ?_
      refine k_asI h dX1_track_56 (fun s9 => ?_)
      refine k_goto (tgt := 89) h dX1_track_57 (by decide) ?_
      exact k_vret h rfl dX1_track_89 (Nat.le_of_ble_eq_true rfl) (Nat.le_of_ble_eq_true rfl)
    · dsimp only
      refine k_aload_n h 0 dX1_track_60 rfl rfl ?_
      refine k_getR h fX1_0 (Or.inl (mw6 2 rfl)) dX1_track_61 (fun v10 => ?_)
      refine k_iload_n h 1 dX1_track_64 rfl rfl ?_
      refine k_iconst (v := 1) h dX1_track_65 (by decide) ?_
      refine k_iadd h dX1_track_66 ?_
      refine k_dup2 h dX1_track_67 rfl rfl ?_
      refine k_alI h dX1_track_68 (fun v11 => ?_)
      refine k_bipush (v := 80) h dX1_track_69 (by decide) ?_
      refine k_isub h dX1_track_71 ?_
      refine k_asI h dX1_track_72 (fun s12 => ?_)
      refine k_goto (tgt := 89) h dX1_track_73 (by decide) ?_
      exact k_vret h rfl dX1_track_89 (Nat.le_of_ble_eq_true rfl) (Nat.le_of_ble_eq_true rfl)
def mX1_fall (a0 : Nat) (p1 : Int32) (p2 : Option Nat) (p3 : Int32) (s0 : Sg) : Option (Unit × Sg) :=
jn (fun (q1 : Unit) (s2 : Sg) =>
gdI s2 2 3 p2 fun v4 =>
jn (fun (q5 : Unit) (s6 : Sg) =>
gdR s6 1 2 (some a0) fun v8 =>
gdR s6 1 2 (some a0) fun v9 =>
alI s6 v9 p1 fun v10 =>
cv s6 2 p2 fun a20 => cl (mX2_dropIn a20 p1 s6) fun v11 s12 =>
asI s12 v8 (p1 + 1) (v10 - v11) fun s13 =>
gdR s13 1 2 (some a0) fun v14 =>
alI s13 v14 (p1 + 1) fun v15 =>
cv s13 2 p2 fun a19 => cl (mX2_opensBehind a19 p1 v15 s13) fun v16 s17 =>
if v16 = 0 then (
some ((), s17))
else (
ptI s17 1 3 (some a0) (p1 + 1) fun s18 =>
some ((), s18))) (fun j7 =>
if ¬ v4 = 2 then (
j7 () s2)
else (
if p1 < 5 then (
j7 () s2)
else (
gdI s2 2 6 p2 fun v21 =>
cv s2 1 (some a0) fun a24 => cl (mX1_track a24 p1 v21 s2) fun u22 s23 =>
j7 () s23)))) (fun j3 =>
if 20 < p1 then (
j3 () s0)
else (
gdR s0 1 0 (some a0) fun v25 =>
alI s0 v25 (p1 + 1) fun v26 =>
asI s0 v25 (p1 + 1) (v26 + (p3 >>> ((p1 + 1) &&& 31))) fun s27 =>
j3 () s27))
def rmX1_fall : Room := { frames := 1, cells := 0, slots := 0, locals := 22 }
theorem calX1_fall : Cal yX1_fall cX1_fall 4 none 3 := ⟨(mw24 6 rfl), (mw3 5 rfl), by decide, by decide, by decide +kernel⟩
set_option maxHeartbeats 4000000 in
set_option maxRecDepth 100000 in
theorem ctX1_fall (l : Launch) (B : Nat) (D : va_G) (cA : Nat → ClassId) (sa : Nat → Nat) (a0 : Nat) (p1 : Int32) (p2 : Option Nat) (p3 : Int32) (s0 : Sg) : Ct l B D cA sa yX1_fall cX1_fall 4 none rmX1_fall rU [LR (some a0), LI p1, LR p2, LI p3] s0 0 0 (mX1_fall a0 p1 p2 p3 s0) := by
  refine Ct.of (own := RX1) (by decide) rfl _ (Nat.le_of_ble_eq_true rfl) rfl ?_
  intro p e s m args below meth c h hi
  unfold mX1_fall
  refine k_iload_n h 1 dX1_fall_0 rfl rfl ?_
  refine k_bipush (v := 20) h dX1_fall_1 (by decide) ?_
  refine k_jn (A := Unit) (J := 22) (fun q1 => [(0, LR (some a0)), (1, LI p1), (2, LR p2)]) (fun q1 => []) (fun q1 s2 => ?_) (fun j3 hj3 => ?_)
  · refine k_aload_n h 2 dX1_fall_22 rfl rfl ?_
    refine k_getI h fX2_3 (Or.inr ⟨_, nwf 11 rfl⟩) dX1_fall_23 (fun v4 => ?_)
    refine k_iconst (v := 2) h dX1_fall_26 (by decide) ?_
    refine k_jn (A := Unit) (J := 44) (fun q5 => [(0, LR (some a0)), (1, LI p1), (2, LR p2)]) (fun q5 => []) (fun q5 s6 => ?_) (fun j7 hj7 => ?_)
    · refine k_aload_n h 0 dX1_fall_44 rfl rfl ?_
      refine k_getR h fX1_2 (Or.inl (mw6 4 rfl)) dX1_fall_45 (fun v8 => ?_)
      refine k_iload_n h 1 dX1_fall_48 rfl rfl ?_
      refine k_iconst (v := 1) h dX1_fall_49 (by decide) ?_
      refine k_iadd h dX1_fall_50 ?_
      refine k_aload_n h 0 dX1_fall_51 rfl rfl ?_
      refine k_getR h fX1_2 (Or.inl (mw6 4 rfl)) dX1_fall_52 (fun v9 => ?_)
      refine k_iload_n h 1 dX1_fall_55 rfl rfl ?_
      refine k_alI h dX1_fall_56 (fun v10 => ?_)
      refine k_aload_n h 2 dX1_fall_57 rfl rfl ?_
      refine k_iload_n h 1 dX1_fall_58 rfl rfl ?_
      refine k_callVI (As := [LI p1]) (st := [LI v10, LI (p1 + 1), LR v8]) (x0 := p2) (xg := fun a20 => mX2_dropIn a20 p1 s6) h (fun a20 => ctX2_dropIn l B D cA sa a20 p1 s6) calX2_dropIn rfl (by decide) (mw24 11 rfl) (mw24 12 rfl) (Or.inr ⟨_, nwm 34 rfl⟩) hgood ⟨rfl, rfl, Nat.le_of_ble_eq_true rfl, Nat.le_of_ble_eq_true rfl⟩ ⟨Nat.le_of_ble_eq_true rfl, Nat.le_of_ble_eq_true rfl⟩ rfl (Nat.le_of_ble_eq_true rfl) dX1_fall_59 (fun v11 s12 => ?_)
      refine k_isub h dX1_fall_62 ?_
      refine k_asI h dX1_fall_63 (fun s13 => ?_)
      refine k_aload_n h 2 dX1_fall_64 rfl rfl ?_
      refine k_iload_n h 1 dX1_fall_65 rfl rfl ?_
      refine k_aload_n h 0 dX1_fall_66 rfl rfl ?_
      refine k_getR h fX1_2 (Or.inl (mw6 4 rfl)) dX1_fall_67 (fun v14 => ?_)
      refine k_iload_n h 1 dX1_fall_70 rfl rfl ?_
      refine k_iconst (v := 1) h dX1_fall_71 (by decide) ?_
      refine k_iadd h dX1_fall_72 ?_
      refine k_alI h dX1_fall_73 (fun v15 => ?_)
      refine k_callVI (As := [LI p1, LI v15]) (st := []) (x0 := p2) (xg := fun a19 => mX2_opensBehind a19 p1 v15 s13) h (fun a19 => ctX2_opensBehind l B D cA sa a19 p1 v15 s13) calX2_opensBehind rfl (by decide) (mw24 14 rfl) (mw24 15 rfl) (Or.inr ⟨_, nwm 35 rfl⟩) hgood ⟨rfl, rfl, Nat.le_of_ble_eq_true rfl, Nat.le_of_ble_eq_true rfl⟩ ⟨Nat.le_of_ble_eq_true rfl, Nat.le_of_ble_eq_true rfl⟩ rfl (Nat.le_of_ble_eq_true rfl) dX1_fall_74 (fun v16 s17 => ?_)
      refine k_if_eq (tgt := 87) h dX1_fall_77 (by decide) ?_ ?_
      · exact k_vret h rfl dX1_fall_87 (Nat.le_of_ble_eq_true rfl) (Nat.le_of_ble_eq_true rfl)
      · refine k_aload_n h 0 dX1_fall_80 rfl rfl ?_
        refine k_iload_n h 1 dX1_fall_81 rfl rfl ?_
        refine k_iconst (v := 1) h dX1_fall_82 (by decide) ?_
        refine k_iadd h dX1_fall_83 ?_
        refine k_putI h fX1_3 (Or.inl (mw6 5 rfl)) rfl dX1_fall_84 (fun s18 => ?_)
        exact k_vret h rfl dX1_fall_87 (Nat.le_of_ble_eq_true rfl) (Nat.le_of_ble_eq_true rfl)
    · refine k_icmp_ne (tgt := 44) h dX1_fall_27 (by decide) ?_ ?_
      · refine k_sub (lv' := [(0, LR (some a0)), (1, LI p1), (2, LR p2)]) h [0, 1, 2] rfl ?_
        exact hj7 () s2
      · refine k_iload_n h 1 dX1_fall_30 rfl rfl ?_
        refine k_iconst (v := 5) h dX1_fall_31 (by decide) ?_
        refine k_icmp_lt (tgt := 44) h dX1_fall_32 (by decide) ?_ ?_
        · refine k_sub (lv' := [(0, LR (some a0)), (1, LI p1), (2, LR p2)]) h [0, 1, 2] rfl ?_
          exact hj7 () s2
        · refine k_aload_n h 0 dX1_fall_35 rfl rfl ?_
          refine k_iload_n h 1 dX1_fall_36 rfl rfl ?_
          refine k_aload_n h 2 dX1_fall_37 rfl rfl ?_
          refine k_getI h fX2_6 (Or.inr ⟨_, nwf 14 rfl⟩) dX1_fall_38 (fun v21 => ?_)
          refine k_callVU (As := [LI p1, LI v21]) (st := []) (x0 := (some a0)) (xg := fun a24 => mX1_track a24 p1 v21 s2) h (fun a24 => ctX1_track l B D cA sa a24 p1 v21 s2) calX1_track rfl (by decide) (mw24 8 rfl) (mw24 9 rfl) (Or.inl (mw24 7 rfl)) hgood ⟨rfl, rfl, Nat.le_of_ble_eq_true rfl, Nat.le_of_ble_eq_true rfl⟩ ⟨Nat.le_of_ble_eq_true rfl, Nat.le_of_ble_eq_true rfl⟩ rfl (Nat.le_of_ble_eq_true rfl) dX1_fall_41 (fun u22 s23 => ?_)
          refine k_sub (lv' := [(0, LR (some a0)), (1, LI p1), (2, LR p2)]) h [0, 1, 2] rfl ?_
          exact hj7 () s23
  · refine k_icmp_gt (tgt := 22) h dX1_fall_3 (by decide) ?_ ?_
    · refine k_sub (lv' := [(0, LR (some a0)), (1, LI p1), (2, LR p2)]) h [0, 1, 2] rfl ?_
      exact hj3 () s0
    · refine k_aload_n h 0 dX1_fall_6 rfl rfl ?_
      refine k_getR h fX1_0 (Or.inl (mw6 2 rfl)) dX1_fall_7 (fun v25 => ?_)
      refine k_iload_n h 1 dX1_fall_10 rfl rfl ?_
      refine k_iconst (v := 1) h dX1_fall_11 (by decide) ?_
      refine k_iadd h dX1_fall_12 ?_
      refine k_dup2 h dX1_fall_13 rfl rfl ?_
      refine k_alI h dX1_fall_14 (fun v26 => ?_)
      refine k_iload_n h 3 dX1_fall_15 rfl rfl ?_
      refine k_iload_n h 1 dX1_fall_16 rfl rfl ?_
      refine k_iconst (v := 1) h dX1_fall_17 (by decide) ?_
      refine k_iadd h dX1_fall_18 ?_
      refine k_ishr h dX1_fall_19 ?_
      refine k_iadd h dX1_fall_20 ?_
      refine k_asI h dX1_fall_21 (fun s27 => ?_)
      refine k_sub (lv' := [(0, LR (some a0)), (1, LI p1), (2, LR p2)]) h [0, 1, 2] rfl ?_
      exact hj3 () s27
def mX1_follow_b41 (a0 : Nat) (p3 : Option Nat) (p2 : Option Nat) (p1 : Option Nat) (r12 : (Int32) → Sg → Option (Unit × Sg)) (q10 : Int32) (s11 : Sg) : Option (Unit × Sg) :=
if 1000 ≤ q10 then (
some ((), s11))
else (
cv s11 1 (some a0) fun a30 => cl (mX1_drift a30 q10 p3 s11) fun u13 s14 =>
gdI s14 1 3 (some a0) fun v15 =>
jn (fun (q16 : Unit) (s17 : Sg) =>
gdR s17 1 2 (some a0) fun v19 =>
alI s17 v19 (q10 + 1) fun v20 =>
if ¬ v20 = 0 then (
r12 (q10 + 1) s17)
else (
ptI s17 1 4 (some a0) (q10 + 1) fun s21 =>
some ((), s21))) (fun j18 =>
if q10 < v15 then (
gdI s14 6 3 p2 fun v22 =>
cv s14 1 (some a0) fun a25 => cl (mX1_fall a25 q10 p1 v22 s14) fun u23 s24 =>
j18 () s24)
else (
gdR s14 1 2 (some a0) fun v26 =>
gdR s14 1 2 (some a0) fun v27 =>
alI s14 v27 q10 fun v28 =>
asI s14 v26 (q10 + 1) (mxI (v28 - 50) 0) fun s29 =>
j18 () s29)))
def mX1_follow (a0 : Nat) (p1 : Option Nat) (p2 : Option Nat) (p3 : Option Nat) (s0 : Sg) : Option (Unit × Sg) :=
gdR s0 1 0 (some a0) fun v1 =>
asI s0 v1 0 0 fun s2 =>
gdR s2 1 1 (some a0) fun v3 =>
asI s2 v3 0 0 fun s4 =>
gdR s4 1 2 (some a0) fun v5 =>
gdI s4 6 4 p2 fun v6 =>
asI s4 v5 0 v6 fun s7 =>
ptI s7 1 3 (some a0) 1000 fun s8 =>
ptI s8 1 4 (some a0) 1000 fun s9 =>
lp (mX1_follow_b41 a0 p3 p2 p1) FU 0 s9
def rmX1_follow : Room := { frames := 2, cells := 0, slots := 0, locals := 45 }
theorem calX1_follow : Cal yX1_follow cX1_follow 5 none 3 := ⟨(mw23 19 rfl), (mw3 5 rfl), by decide, by decide, by decide +kernel⟩
set_option maxHeartbeats 4000000 in
set_option maxRecDepth 100000 in
theorem ctX1_follow (l : Launch) (B : Nat) (D : va_G) (cA : Nat → ClassId) (sa : Nat → Nat) (a0 : Nat) (p1 : Option Nat) (p2 : Option Nat) (p3 : Option Nat) (s0 : Sg) : Ct l B D cA sa yX1_follow cX1_follow 5 none rmX1_follow rU [LR (some a0), LR p1, LR p2, LR p3] s0 0 0 (mX1_follow a0 p1 p2 p3 s0) := by
  refine Ct.of (own := RX1) (by decide) rfl _ (Nat.le_of_ble_eq_true rfl) rfl ?_
  intro p e s m args below meth c h hi
  unfold mX1_follow
  refine k_aload_n h 0 dX1_follow_0 rfl rfl ?_
  refine k_getR h fX1_0 (Or.inl (mw6 2 rfl)) dX1_follow_1 (fun v1 => ?_)
  refine k_iconst (v := 0) h dX1_follow_4 (by decide) ?_
  refine k_iconst (v := 0) h dX1_follow_5 (by decide) ?_
  refine k_asI h dX1_follow_6 (fun s2 => ?_)
  refine k_aload_n h 0 dX1_follow_7 rfl rfl ?_
  refine k_getR h fX1_1 (Or.inl (mw6 3 rfl)) dX1_follow_8 (fun v3 => ?_)
  refine k_iconst (v := 0) h dX1_follow_11 (by decide) ?_
  refine k_iconst (v := 0) h dX1_follow_12 (by decide) ?_
  refine k_asI h dX1_follow_13 (fun s4 => ?_)
  refine k_aload_n h 0 dX1_follow_14 rfl rfl ?_
  refine k_getR h fX1_2 (Or.inl (mw6 4 rfl)) dX1_follow_15 (fun v5 => ?_)
  refine k_iconst (v := 0) h dX1_follow_18 (by decide) ?_
  refine k_aload_n h 2 dX1_follow_19 rfl rfl ?_
  refine k_getI h fX6_4 (Or.inr ⟨_, nwf 21 rfl⟩) dX1_follow_20 (fun v6 => ?_)
  refine k_asI h dX1_follow_23 (fun s7 => ?_)
  refine k_aload_n h 0 dX1_follow_24 rfl rfl ?_
  refine k_sipush (v := 1000) h dX1_follow_25 (by decide) ?_
  refine k_putI h fX1_3 (Or.inl (mw6 5 rfl)) rfl dX1_follow_28 (fun s8 => ?_)
  refine k_aload_n h 0 dX1_follow_31 rfl rfl ?_
  refine k_sipush (v := 1000) h dX1_follow_32 (by decide) ?_
  refine k_putI h fX1_4 (Or.inl (mw6 6 rfl)) rfl dX1_follow_35 (fun s9 => ?_)
  refine k_iconst (v := 0) h dX1_follow_38 (by decide) ?_
  refine k_istore (lv' := [(4, LI 0), (0, LR (some a0)), (1, LR p1), (2, LR p2), (3, LR p3)]) h dX1_follow_39 (by decide) rfl ?_
  refine k_sub (lv' := [(0, LR (some a0)), (1, LR p1), (2, LR p2), (3, LR p3), (4, LI 0)]) h [1, 2, 3, 4, 0] rfl ?_
  refine k_lp (A := Int32) (fun q10 => [(0, LR (some a0)), (1, LR p1), (2, LR p2), (3, LR p3), (4, LI q10)]) (fun q10 => []) (fun r12 hr12 q10 s11 => ?_) FU 0 s9
  unfold mX1_follow_b41
  refine k_iload h 4 dX1_follow_41 rfl ?_
  refine k_sipush (v := 1000) h dX1_follow_43 (by decide) ?_
  refine k_icmp_ge (tgt := 129) h dX1_follow_46 (by decide) ?_ ?_
  · exact k_vret h rfl dX1_follow_129 (Nat.le_of_ble_eq_true rfl) (Nat.le_of_ble_eq_true rfl)
  · refine k_aload_n h 0 dX1_follow_49 rfl rfl ?_
    refine k_iload h 4 dX1_follow_50 rfl ?_
    refine k_aload_n h 3 dX1_follow_52 rfl rfl ?_
    refine k_callVU (As := [LI q10, LR p3]) (st := []) (x0 := (some a0)) (xg := fun a30 => mX1_drift a30 q10 p3 s11) h (fun a30 => ctX1_drift l B D cA sa a30 q10 p3 s11) calX1_drift rfl (by decide) (mw24 0 rfl) (mw24 1 rfl) (Or.inl (mw23 23 rfl)) hgood ⟨rfl, rfl, Nat.le_of_ble_eq_true rfl, Nat.le_of_ble_eq_true rfl⟩ ⟨Nat.le_of_ble_eq_true rfl, Nat.le_of_ble_eq_true rfl⟩ rfl (Nat.le_of_ble_eq_true rfl) dX1_follow_53 (fun u13 s14 => ?_)
    refine k_iload h 4 dX1_follow_56 rfl ?_
    refine k_aload_n h 0 dX1_follow_58 rfl rfl ?_
    refine k_getI h fX1_3 (Or.inl (mw6 5 rfl)) dX1_follow_59 (fun v15 => ?_)
    refine k_jn (A := Unit) (J := 102) (fun q16 => [(0, LR (some a0)), (1, LR p1), (2, LR p2), (3, LR p3), (4, LI q10)]) (fun q16 => []) (fun q16 s17 => ?_) (fun j18 hj18 => ?_)
    · refine k_aload_n h 0 dX1_follow_102 rfl rfl ?_
      refine k_getR h fX1_2 (Or.inl (mw6 4 rfl)) dX1_follow_103 (fun v19 => ?_)
      refine k_iload h 4 dX1_follow_106 rfl ?_
      refine k_iconst (v := 1) h dX1_follow_108 (by decide) ?_
      refine k_iadd h dX1_follow_109 ?_
      refine k_alI h dX1_follow_110 (fun v20 => ?_)
      refine k_if_ne (tgt := 123) h dX1_follow_111 (by decide) ?_ ?_
      · refine k_iinc (w := (q10 + 1)) (lv' := [(4, LI (q10 + 1)), (0, LR (some a0)), (1, LR p1), (2, LR p2), (3, LR p3)]) h 4 dX1_follow_123 rfl rfl (by decide) rfl ?_
        refine k_goto (tgt := 41) h dX1_follow_126 (by decide) ?_
        refine k_sub (lv' := [(0, LR (some a0)), (1, LR p1), (2, LR p2), (3, LR p3), (4, LI (q10 + 1))]) h [1, 2, 3, 4, 0] rfl ?_
        exact hr12 (q10 + 1) s17
      · refine k_aload_n h 0 dX1_follow_114 rfl rfl ?_
        refine k_iload h 4 dX1_follow_115 rfl ?_
        refine k_iconst (v := 1) h dX1_follow_117 (by decide) ?_
        refine k_iadd h dX1_follow_118 ?_
        refine k_putI h fX1_4 (Or.inl (mw6 6 rfl)) rfl dX1_follow_119 (fun s21 => ?_)
        exact k_vret h rfl dX1_follow_122 (Nat.le_of_ble_eq_true rfl) (Nat.le_of_ble_eq_true rfl)
    · refine k_icmp_lt (tgt := 91) h dX1_follow_62 (by decide) ?_ ?_
      · refine k_aload_n h 0 dX1_follow_91 rfl rfl ?_
        refine k_iload h 4 dX1_follow_92 rfl ?_
        refine k_aload_n h 1 dX1_follow_94 rfl rfl ?_
        refine k_aload_n h 2 dX1_follow_95 rfl rfl ?_
        refine k_getI h fX6_3 (Or.inr ⟨_, nwf 18 rfl⟩) dX1_follow_96 (fun v22 => ?_)
        refine k_callVU (As := [LI q10, LR p1, LI v22]) (st := []) (x0 := (some a0)) (xg := fun a25 => mX1_fall a25 q10 p1 v22 s14) h (fun a25 => ctX1_fall l B D cA sa a25 q10 p1 v22 s14) calX1_fall rfl (by decide) (mw24 4 rfl) (mw24 5 rfl) (Or.inl (mw24 3 rfl)) hgood ⟨rfl, rfl, Nat.le_of_ble_eq_true rfl, Nat.le_of_ble_eq_true rfl⟩ ⟨Nat.le_of_ble_eq_true rfl, Nat.le_of_ble_eq_true rfl⟩ rfl (Nat.le_of_ble_eq_true rfl) dX1_follow_99 (fun u23 s24 => ?_)
        refine k_sub (lv' := [(0, LR (some a0)), (1, LR p1), (2, LR p2), (3, LR p3), (4, LI q10)]) h [0, 1, 2, 3, 4] rfl ?_
        exact hj18 () s24
      · refine k_aload_n h 0 dX1_follow_65 rfl rfl ?_
        refine k_getR h fX1_2 (Or.inl (mw6 4 rfl)) dX1_follow_66 (fun v26 => ?_)
        refine k_iload h 4 dX1_follow_69 rfl ?_
        refine k_iconst (v := 1) h dX1_follow_71 (by decide) ?_
        refine k_iadd h dX1_follow_72 ?_
        refine k_aload_n h 0 dX1_follow_73 rfl rfl ?_
        refine k_getR h fX1_2 (Or.inl (mw6 4 rfl)) dX1_follow_74 (fun v27 => ?_)
        refine k_iload h 4 dX1_follow_77 rfl ?_
        refine k_alI h dX1_follow_79 (fun v28 => ?_)
        refine k_bipush (v := 50) h dX1_follow_80 (by decide) ?_
        refine k_isub h dX1_follow_82 ?_
        refine k_iconst (v := 0) h dX1_follow_83 (by decide) ?_
        refine k_mmax h (mw23 20 rfl) (mw23 21 rfl) (mw12 12 rfl) (mw23 22 rfl) (Nat.le_of_ble_eq_true rfl) (Nat.le_of_ble_eq_true rfl) (Nat.le_of_ble_eq_true rfl) (Nat.le_of_ble_eq_true rfl) dX1_follow_84 ?_
        refine k_asI h dX1_follow_87 (fun s29 => ?_)
        refine k_goto (tgt := 102) h dX1_follow_88 (by decide) ?_
        refine k_sub (lv' := [(0, LR (some a0)), (1, LR p1), (2, LR p2), (3, LR p3), (4, LI q10)]) h [0, 1, 2, 3, 4] rfl ?_
        exact hj18 () s29
def mX1_stateAt (a0 : Nat) (p1 : Int32) (s0 : Sg) : Option (Int32 × Sg) :=
gdI s0 1 4 (some a0) fun v1 =>
if p1 < v1 then (
gdI s0 1 3 (some a0) fun v2 =>
if p1 < v2 then (
some (1, s0))
else (
some (2, s0)))
else (
some (3, s0))
def rmX1_stateAt : Room := { frames := 0, cells := 0, slots := 0, locals := 0 }
theorem calX1_stateAt : Cal yX1_stateAt cX1_stateAt 2 (some .int) 1 := ⟨(mw24 22 rfl), (mw3 5 rfl), by decide, by decide, by decide +kernel⟩
set_option maxHeartbeats 4000000 in
set_option maxRecDepth 100000 in
theorem ctX1_stateAt (l : Launch) (B : Nat) (D : va_G) (cA : Nat → ClassId) (sa : Nat → Nat) (a0 : Nat) (p1 : Int32) (s0 : Sg) : Ct l B D cA sa yX1_stateAt cX1_stateAt 2 (some .int) rmX1_stateAt rI [LR (some a0), LI p1] s0 0 0 (mX1_stateAt a0 p1 s0) := by
  refine Ct.of (own := RX1) (by decide) rfl _ (Nat.le_of_ble_eq_true rfl) rfl ?_
  intro p e s m args below meth c h hi
  unfold mX1_stateAt
  refine k_iload_n h 1 dX1_stateAt_0 rfl rfl ?_
  refine k_aload_n h 0 dX1_stateAt_1 rfl rfl ?_
  refine k_getI h fX1_4 (Or.inl (mw6 6 rfl)) dX1_stateAt_2 (fun v1 => ?_)
  refine k_icmp_lt (tgt := 10) h dX1_stateAt_5 (by decide) ?_ ?_
  · refine k_iload_n h 1 dX1_stateAt_10 rfl rfl ?_
    refine k_aload_n h 0 dX1_stateAt_11 rfl rfl ?_
    refine k_getI h fX1_3 (Or.inl (mw6 5 rfl)) dX1_stateAt_12 (fun v2 => ?_)
    refine k_icmp_lt (tgt := 22) h dX1_stateAt_15 (by decide) ?_ ?_
    · refine k_iconst (v := 1) h dX1_stateAt_22 (by decide) ?_
      exact k_iret h rfl dX1_stateAt_23 (Nat.le_of_ble_eq_true rfl) (Nat.le_of_ble_eq_true rfl)
    · refine k_iconst (v := 2) h dX1_stateAt_18 (by decide) ?_
      refine k_goto (tgt := 23) h dX1_stateAt_19 (by decide) ?_
      exact k_iret h rfl dX1_stateAt_23 (Nat.le_of_ble_eq_true rfl) (Nat.le_of_ble_eq_true rfl)
  · refine k_iconst (v := 3) h dX1_stateAt_8 (by decide) ?_
    exact k_iret h rfl dX1_stateAt_9 (Nat.le_of_ble_eq_true rfl) (Nat.le_of_ble_eq_true rfl)
def mX1_secondsOpen (a0 : Nat) (s0 : Sg) : Option (Int32 × Sg) :=
gdI s0 1 4 (some a0) fun v1 =>
gdI s0 1 3 (some a0) fun v2 =>
some ((v1 - v2), s0)
def rmX1_secondsOpen : Room := { frames := 0, cells := 0, slots := 0, locals := 0 }
theorem calX1_secondsOpen : Cal yX1_secondsOpen cX1_secondsOpen 1 (some .int) 0 := ⟨(mw31 20 rfl), (mw3 5 rfl), by decide, by decide, by decide +kernel⟩
set_option maxHeartbeats 4000000 in
set_option maxRecDepth 100000 in
theorem ctX1_secondsOpen (l : Launch) (B : Nat) (D : va_G) (cA : Nat → ClassId) (sa : Nat → Nat) (a0 : Nat) (s0 : Sg) : Ct l B D cA sa yX1_secondsOpen cX1_secondsOpen 1 (some .int) rmX1_secondsOpen rI [LR (some a0)] s0 0 0 (mX1_secondsOpen a0 s0) := by
  refine Ct.of (own := RX1) (by decide) rfl _ (Nat.le_of_ble_eq_true rfl) rfl ?_
  intro p e s m args below meth c h hi
  unfold mX1_secondsOpen
  refine k_aload_n h 0 dX1_secondsOpen_0 rfl rfl ?_
  refine k_getI h fX1_4 (Or.inl (mw6 6 rfl)) dX1_secondsOpen_1 (fun v1 => ?_)
  refine k_aload_n h 0 dX1_secondsOpen_4 rfl rfl ?_
  refine k_getI h fX1_3 (Or.inl (mw6 5 rfl)) dX1_secondsOpen_5 (fun v2 => ?_)
  refine k_isub h dX1_secondsOpen_8 ?_
  exact k_iret h rfl dX1_secondsOpen_9 (Nat.le_of_ble_eq_true rfl) (Nat.le_of_ble_eq_true rfl)
def mX1_downX (a0 : Nat) (s0 : Sg) : Option (Int32 × Sg) :=
gdR s0 1 0 (some a0) fun v1 =>
gdI s0 1 4 (some a0) fun v2 =>
alI s0 v1 v2 fun v3 =>
some (v3, s0)
def rmX1_downX : Room := { frames := 0, cells := 0, slots := 0, locals := 0 }
theorem calX1_downX : Cal yX1_downX cX1_downX 1 (some .int) 0 := ⟨(mw32 3 rfl), (mw3 5 rfl), by decide, by decide, by decide +kernel⟩
set_option maxHeartbeats 4000000 in
set_option maxRecDepth 100000 in
theorem ctX1_downX (l : Launch) (B : Nat) (D : va_G) (cA : Nat → ClassId) (sa : Nat → Nat) (a0 : Nat) (s0 : Sg) : Ct l B D cA sa yX1_downX cX1_downX 1 (some .int) rmX1_downX rI [LR (some a0)] s0 0 0 (mX1_downX a0 s0) := by
  refine Ct.of (own := RX1) (by decide) rfl _ (Nat.le_of_ble_eq_true rfl) rfl ?_
  intro p e s m args below meth c h hi
  unfold mX1_downX
  refine k_aload_n h 0 dX1_downX_0 rfl rfl ?_
  refine k_getR h fX1_0 (Or.inl (mw6 2 rfl)) dX1_downX_1 (fun v1 => ?_)
  refine k_aload_n h 0 dX1_downX_4 rfl rfl ?_
  refine k_getI h fX1_4 (Or.inl (mw6 6 rfl)) dX1_downX_5 (fun v2 => ?_)
  refine k_alI h dX1_downX_8 (fun v3 => ?_)
  exact k_iret h rfl dX1_downX_9 (Nat.le_of_ble_eq_true rfl) (Nat.le_of_ble_eq_true rfl)
def mX1_downY (a0 : Nat) (s0 : Sg) : Option (Int32 × Sg) :=
gdR s0 1 1 (some a0) fun v1 =>
gdI s0 1 4 (some a0) fun v2 =>
alI s0 v1 v2 fun v3 =>
some (v3, s0)
def rmX1_downY : Room := { frames := 0, cells := 0, slots := 0, locals := 0 }
theorem calX1_downY : Cal yX1_downY cX1_downY 1 (some .int) 0 := ⟨(mw31 13 rfl), (mw3 5 rfl), by decide, by decide, by decide +kernel⟩
set_option maxHeartbeats 4000000 in
set_option maxRecDepth 100000 in
theorem ctX1_downY (l : Launch) (B : Nat) (D : va_G) (cA : Nat → ClassId) (sa : Nat → Nat) (a0 : Nat) (s0 : Sg) : Ct l B D cA sa yX1_downY cX1_downY 1 (some .int) rmX1_downY rI [LR (some a0)] s0 0 0 (mX1_downY a0 s0) := by
  refine Ct.of (own := RX1) (by decide) rfl _ (Nat.le_of_ble_eq_true rfl) rfl ?_
  intro p e s m args below meth c h hi
  unfold mX1_downY
  refine k_aload_n h 0 dX1_downY_0 rfl rfl ?_
  refine k_getR h fX1_1 (Or.inl (mw6 3 rfl)) dX1_downY_1 (fun v1 => ?_)
  refine k_aload_n h 0 dX1_downY_4 rfl rfl ?_
  refine k_getI h fX1_4 (Or.inl (mw6 6 rfl)) dX1_downY_5 (fun v2 => ?_)
  refine k_alI h dX1_downY_8 (fun v3 => ?_)
  exact k_iret h rfl dX1_downY_9 (Nat.le_of_ble_eq_true rfl) (Nat.le_of_ble_eq_true rfl)
def mX1_nearTo_b30 (v1 : Int32) (p2 : Int32) (v2 : Int32) (p4 : Int64) (p1 : Option Nat) (a0 : Nat) (p3 : Int32) (r5 : (Int64 × Int32) → Sg → Option (Int64 × Sg)) (q3 : Int64 × Int32) (s4 : Sg) : Option (Int64 × Sg) :=
if (mnI (v1 - p2) v2) ≤ q3.2 then (
some (q3.1, s4))
else (
if p2 < 0 then (
some (q3.1, s4))
else (
if (lg_cmp q3.1 p4) < 0 then (
some (q3.1, s4))
else (
gdR s4 1 0 p1 fun v6 =>
alI s4 v6 q3.2 fun v7 =>
gdR s4 1 0 (some a0) fun v8 =>
alI s4 v8 (q3.2 + p2) fun v9 =>
gdR s4 1 1 p1 fun v10 =>
alI s4 v10 q3.2 fun v11 =>
gdR s4 1 1 (some a0) fun v12 =>
alI s4 v12 (q3.2 + p2) fun v13 =>
gdR s4 1 2 p1 fun v14 =>
alI s4 v14 q3.2 fun v15 =>
gdR s4 1 2 (some a0) fun v16 =>
alI s4 v16 (q3.2 + p2) fun v17 =>
r5 ((mnL q3.1 (((((((Int32.toInt64 p3) * (Int32.toInt64 p2)) + (Int32.toInt64 v7)) - (Int32.toInt64 v9)) * ((((Int32.toInt64 p3) * (Int32.toInt64 p2)) + (Int32.toInt64 v7)) - (Int32.toInt64 v9))) + ((Int32.toInt64 (v11 - v13)) * (Int32.toInt64 (v11 - v13)))) + ((Int32.toInt64 (v15 - v17)) * (Int32.toInt64 (v15 - v17))))), (q3.2 + 1)) s4)))
def mX1_nearTo (a0 : Nat) (p1 : Option Nat) (p2 : Int32) (p3 : Int32) (p4 : Int64) (s0 : Sg) : Option (Int64 × Sg) :=
gdI s0 1 4 (some a0) fun v1 =>
gdI s0 1 4 p1 fun v2 =>
lp (mX1_nearTo_b30 v1 p2 v2 p4 p1 a0 p3) FU (1152921504606846976, 0) s0
def rmX1_nearTo : Room := { frames := 1, cells := 0, slots := 0, locals := 32 }
theorem calX1_nearTo : Cal yX1_nearTo cX1_nearTo 18 (some .long) 4 := ⟨(mw26 9 rfl), (mw3 5 rfl), by decide, by decide, by decide +kernel⟩
set_option maxHeartbeats 4000000 in
set_option maxRecDepth 100000 in
theorem ctX1_nearTo (l : Launch) (B : Nat) (D : va_G) (cA : Nat → ClassId) (sa : Nat → Nat) (a0 : Nat) (p1 : Option Nat) (p2 : Int32) (p3 : Int32) (p4 : Int64) (s0 : Sg) : Ct l B D cA sa yX1_nearTo cX1_nearTo 18 (some .long) rmX1_nearTo rL [LR (some a0), LR p1, LI p2, LI p3, LL p4] s0 0 0 (mX1_nearTo a0 p1 p2 p3 p4 s0) := by
  refine Ct.of (own := RX1) (by decide) rfl _ (Nat.le_of_ble_eq_true rfl) rfl ?_
  intro p e s m args below meth c h hi
  unfold mX1_nearTo
  refine k_ldc2_w (v := 1152921504606846976) h dX1_nearTo_0 (mw26 10 rfl) ?_
  refine k_lstore (lv' := [(6, LL 1152921504606846976), (0, LR (some a0)), (1, LR p1), (2, LI p2), (3, LI p3), (4, LL p4)]) h dX1_nearTo_3 (by decide) rfl ?_
  refine k_iload_n h 4 dX1_nearTo_5 rfl rfl ?_
  refine k_i2l h dX1_nearTo_6 ?_
  refine k_iload_n h 3 dX1_nearTo_7 rfl rfl ?_
  refine k_i2l h dX1_nearTo_8 ?_
  refine k_lmul h dX1_nearTo_9 ?_
  refine k_lstore (lv' := [(8, LL ((Int32.toInt64 p3) * (Int32.toInt64 p2))), (6, LL 1152921504606846976), (0, LR (some a0)), (1, LR p1), (2, LI p2), (3, LI p3), (4, LL p4)]) h dX1_nearTo_10 (by decide) rfl ?_
  refine k_aload_n h 2 dX1_nearTo_12 rfl rfl ?_
  refine k_getI h fX1_4 (Or.inl (mw6 6 rfl)) dX1_nearTo_13 (fun v1 => ?_)
  refine k_iload_n h 4 dX1_nearTo_16 rfl rfl ?_
  refine k_isub h dX1_nearTo_17 ?_
  refine k_aload_n h 3 dX1_nearTo_18 rfl rfl ?_
  refine k_getI h fX1_4 (Or.inl (mw6 6 rfl)) dX1_nearTo_19 (fun v2 => ?_)
  refine k_mmin h (mw26 11 rfl) (mw12 11 rfl) (mw12 12 rfl) (mw12 13 rfl) (Nat.le_of_ble_eq_true rfl) (Nat.le_of_ble_eq_true rfl) (Nat.le_of_ble_eq_true rfl) (Nat.le_of_ble_eq_true rfl) dX1_nearTo_22 ?_
  refine k_istore (lv' := [(10, LI (mnI (v1 - p2) v2)), (8, LL ((Int32.toInt64 p3) * (Int32.toInt64 p2))), (6, LL 1152921504606846976), (0, LR (some a0)), (1, LR p1), (2, LI p2), (3, LI p3), (4, LL p4)]) h dX1_nearTo_25 (by decide) rfl ?_
  refine k_iconst (v := 0) h dX1_nearTo_27 (by decide) ?_
  refine k_istore (lv' := [(11, LI 0), (10, LI (mnI (v1 - p2) v2)), (8, LL ((Int32.toInt64 p3) * (Int32.toInt64 p2))), (6, LL 1152921504606846976), (0, LR (some a0)), (1, LR p1), (2, LI p2), (3, LI p3), (4, LL p4)]) h dX1_nearTo_28 (by decide) rfl ?_
  refine k_sub (lv' := [(0, LR (some a0)), (1, LR p1), (2, LI p2), (4, LL p4), (6, LL 1152921504606846976), (8, LL ((Int32.toInt64 p3) * (Int32.toInt64 p2))), (10, LI (mnI (v1 - p2) v2)), (11, LI 0)]) h [4, 5, 6, 8, 3, 2, 1, 0] rfl ?_
  refine k_lp (A := Int64 × Int32) (fun q3 => [(0, LR (some a0)), (1, LR p1), (2, LI p2), (4, LL p4), (6, LL q3.1), (8, LL ((Int32.toInt64 p3) * (Int32.toInt64 p2))), (10, LI (mnI (v1 - p2) v2)), (11, LI q3.2)]) (fun q3 => []) (fun r5 hr5 q3 s4 => ?_) FU (1152921504606846976, 0) s0
  unfold mX1_nearTo_b30
  refine k_iload h 7 dX1_nearTo_30 rfl ?_
  refine k_iload h 6 dX1_nearTo_32 rfl ?_
  refine k_icmp_ge (tgt := 143) h dX1_nearTo_34 (by decide) ?_ ?_
  · refine k_lload h 4 dX1_nearTo_143 rfl ?_
    exact k_lret h rfl dX1_nearTo_145 (Nat.le_of_ble_eq_true rfl) (Nat.le_of_ble_eq_true rfl)
  · refine k_iload_n h 2 dX1_nearTo_37 rfl rfl ?_
    refine k_if_lt (tgt := 143) h dX1_nearTo_38 (by decide) ?_ ?_
    · refine k_lload h 4 dX1_nearTo_143 rfl ?_
      exact k_lret h rfl dX1_nearTo_145 (Nat.le_of_ble_eq_true rfl) (Nat.le_of_ble_eq_true rfl)
    · refine k_lload h 4 dX1_nearTo_41 rfl ?_
      refine k_lload h 3 dX1_nearTo_43 rfl ?_
      refine k_lcmp h dX1_nearTo_45 ?_
      refine k_if_lt (tgt := 143) h dX1_nearTo_46 (by decide) ?_ ?_
      · refine k_lload h 4 dX1_nearTo_143 rfl ?_
        exact k_lret h rfl dX1_nearTo_145 (Nat.le_of_ble_eq_true rfl) (Nat.le_of_ble_eq_true rfl)
      · refine k_lload h 5 dX1_nearTo_49 rfl ?_
        refine k_aload_n h 1 dX1_nearTo_51 rfl rfl ?_
        refine k_getR h fX1_0 (Or.inl (mw6 2 rfl)) dX1_nearTo_52 (fun v6 => ?_)
        refine k_iload h 7 dX1_nearTo_55 rfl ?_
        refine k_alI h dX1_nearTo_57 (fun v7 => ?_)
        refine k_i2l h dX1_nearTo_58 ?_
        refine k_ladd h dX1_nearTo_59 ?_
        refine k_aload_n h 0 dX1_nearTo_60 rfl rfl ?_
        refine k_getR h fX1_0 (Or.inl (mw6 2 rfl)) dX1_nearTo_61 (fun v8 => ?_)
        refine k_iload h 7 dX1_nearTo_64 rfl ?_
        refine k_iload_n h 2 dX1_nearTo_66 rfl rfl ?_
        refine k_iadd h dX1_nearTo_67 ?_
        refine k_alI h dX1_nearTo_68 (fun v9 => ?_)
        refine k_i2l h dX1_nearTo_69 ?_
        refine k_lsub h dX1_nearTo_70 ?_
        refine k_lstore (lv' := [(12, LL ((((Int32.toInt64 p3) * (Int32.toInt64 p2)) + (Int32.toInt64 v7)) - (Int32.toInt64 v9))), (0, LR (some a0)), (1, LR p1), (2, LI p2), (4, LL p4), (6, LL q3.1), (8, LL ((Int32.toInt64 p3) * (Int32.toInt64 p2))), (10, LI (mnI (v1 - p2) v2)), (11, LI q3.2)]) h dX1_nearTo_71 (by decide) rfl ?_
        refine k_aload_n h 2 dX1_nearTo_73 rfl rfl ?_
        refine k_getR h fX1_1 (Or.inl (mw6 3 rfl)) dX1_nearTo_74 (fun v10 => ?_)
        refine k_iload h 8 dX1_nearTo_77 rfl ?_
        refine k_alI h dX1_nearTo_79 (fun v11 => ?_)
        refine k_aload_n h 1 dX1_nearTo_80 rfl rfl ?_
        refine k_getR h fX1_1 (Or.inl (mw6 3 rfl)) dX1_nearTo_81 (fun v12 => ?_)
        refine k_iload h 8 dX1_nearTo_84 rfl ?_
        refine k_iload_n h 3 dX1_nearTo_86 rfl rfl ?_
        refine k_iadd h dX1_nearTo_87 ?_
        refine k_alI h dX1_nearTo_88 (fun v13 => ?_)
        refine k_isub h dX1_nearTo_89 ?_
        refine k_i2l h dX1_nearTo_90 ?_
        refine k_lstore (lv' := [(14, LL (Int32.toInt64 (v11 - v13))), (12, LL ((((Int32.toInt64 p3) * (Int32.toInt64 p2)) + (Int32.toInt64 v7)) - (Int32.toInt64 v9))), (0, LR (some a0)), (1, LR p1), (2, LI p2), (4, LL p4), (6, LL q3.1), (8, LL ((Int32.toInt64 p3) * (Int32.toInt64 p2))), (10, LI (mnI (v1 - p2) v2)), (11, LI q3.2)]) h dX1_nearTo_91 (by decide) rfl ?_
        refine k_aload_n h 3 dX1_nearTo_93 rfl rfl ?_
        refine k_getR h fX1_2 (Or.inl (mw6 4 rfl)) dX1_nearTo_94 (fun v14 => ?_)
        refine k_iload h 9 dX1_nearTo_97 rfl ?_
        refine k_alI h dX1_nearTo_99 (fun v15 => ?_)
        refine k_aload_n h 2 dX1_nearTo_100 rfl rfl ?_
        refine k_getR h fX1_2 (Or.inl (mw6 4 rfl)) dX1_nearTo_101 (fun v16 => ?_)
        refine k_iload h 9 dX1_nearTo_104 rfl ?_
        refine k_iload_n h 4 dX1_nearTo_106 rfl rfl ?_
        refine k_iadd h dX1_nearTo_107 ?_
        refine k_alI h dX1_nearTo_108 (fun v17 => ?_)
        refine k_isub h dX1_nearTo_109 ?_
        refine k_i2l h dX1_nearTo_110 ?_
        refine k_lstore (lv' := [(16, LL (Int32.toInt64 (v15 - v17))), (14, LL (Int32.toInt64 (v11 - v13))), (12, LL ((((Int32.toInt64 p3) * (Int32.toInt64 p2)) + (Int32.toInt64 v7)) - (Int32.toInt64 v9))), (0, LR (some a0)), (1, LR p1), (2, LI p2), (4, LL p4), (6, LL q3.1), (8, LL ((Int32.toInt64 p3) * (Int32.toInt64 p2))), (10, LI (mnI (v1 - p2) v2)), (11, LI q3.2)]) h dX1_nearTo_111 (by decide) rfl ?_
        refine k_lload h 7 dX1_nearTo_113 rfl ?_
        refine k_lload h 2 dX1_nearTo_115 rfl ?_
        refine k_lload h 2 dX1_nearTo_117 rfl ?_
        refine k_lmul h dX1_nearTo_119 ?_
        refine k_lload h 1 dX1_nearTo_120 rfl ?_
        refine k_lload h 1 dX1_nearTo_122 rfl ?_
        refine k_lmul h dX1_nearTo_124 ?_
        refine k_ladd h dX1_nearTo_125 ?_
        refine k_lload h 0 dX1_nearTo_126 rfl ?_
        refine k_lload h 0 dX1_nearTo_128 rfl ?_
        refine k_lmul h dX1_nearTo_130 ?_
        refine k_ladd h dX1_nearTo_131 ?_
        refine k_mminl h (mw26 12 rfl) (mw26 13 rfl) (mw12 12 rfl) (mw26 14 rfl) (Nat.le_of_ble_eq_true rfl) (Nat.le_of_ble_eq_true rfl) (Nat.le_of_ble_eq_true rfl) (Nat.le_of_ble_eq_true rfl) dX1_nearTo_132 ?_
        refine k_lstore (lv' := [(6, LL (mnL q3.1 (((((((Int32.toInt64 p3) * (Int32.toInt64 p2)) + (Int32.toInt64 v7)) - (Int32.toInt64 v9)) * ((((Int32.toInt64 p3) * (Int32.toInt64 p2)) + (Int32.toInt64 v7)) - (Int32.toInt64 v9))) + ((Int32.toInt64 (v11 - v13)) * (Int32.toInt64 (v11 - v13)))) + ((Int32.toInt64 (v15 - v17)) * (Int32.toInt64 (v15 - v17)))))), (16, LL (Int32.toInt64 (v15 - v17))), (14, LL (Int32.toInt64 (v11 - v13))), (12, LL ((((Int32.toInt64 p3) * (Int32.toInt64 p2)) + (Int32.toInt64 v7)) - (Int32.toInt64 v9))), (0, LR (some a0)), (1, LR p1), (2, LI p2), (4, LL p4), (8, LL ((Int32.toInt64 p3) * (Int32.toInt64 p2))), (10, LI (mnI (v1 - p2) v2)), (11, LI q3.2)]) h dX1_nearTo_135 (by decide) rfl ?_
        refine k_iinc (w := (q3.2 + 1)) (lv' := [(11, LI (q3.2 + 1)), (6, LL (mnL q3.1 (((((((Int32.toInt64 p3) * (Int32.toInt64 p2)) + (Int32.toInt64 v7)) - (Int32.toInt64 v9)) * ((((Int32.toInt64 p3) * (Int32.toInt64 p2)) + (Int32.toInt64 v7)) - (Int32.toInt64 v9))) + ((Int32.toInt64 (v11 - v13)) * (Int32.toInt64 (v11 - v13)))) + ((Int32.toInt64 (v15 - v17)) * (Int32.toInt64 (v15 - v17)))))), (16, LL (Int32.toInt64 (v15 - v17))), (14, LL (Int32.toInt64 (v11 - v13))), (12, LL ((((Int32.toInt64 p3) * (Int32.toInt64 p2)) + (Int32.toInt64 v7)) - (Int32.toInt64 v9))), (0, LR (some a0)), (1, LR p1), (2, LI p2), (4, LL p4), (8, LL ((Int32.toInt64 p3) * (Int32.toInt64 p2))), (10, LI (mnI (v1 - p2) v2))]) h 10 dX1_nearTo_137 rfl rfl (by decide) rfl ?_
        refine k_goto (tgt := 30) h dX1_nearTo_140 (by decide) ?_
        refine k_sub (lv' := [(0, LR (some a0)), (1, LR p1), (2, LI p2), (4, LL p4), (6, LL (mnL q3.1 (((((((Int32.toInt64 p3) * (Int32.toInt64 p2)) + (Int32.toInt64 v7)) - (Int32.toInt64 v9)) * ((((Int32.toInt64 p3) * (Int32.toInt64 p2)) + (Int32.toInt64 v7)) - (Int32.toInt64 v9))) + ((Int32.toInt64 (v11 - v13)) * (Int32.toInt64 (v11 - v13)))) + ((Int32.toInt64 (v15 - v17)) * (Int32.toInt64 (v15 - v17)))))), (8, LL ((Int32.toInt64 p3) * (Int32.toInt64 p2))), (10, LI (mnI (v1 - p2) v2)), (11, LI (q3.2 + 1))]) h [5, 6, 7, 8, 1, 9, 10, 0] rfl ?_
        exact hr5 ((mnL q3.1 (((((((Int32.toInt64 p3) * (Int32.toInt64 p2)) + (Int32.toInt64 v7)) - (Int32.toInt64 v9)) * ((((Int32.toInt64 p3) * (Int32.toInt64 p2)) + (Int32.toInt64 v7)) - (Int32.toInt64 v9))) + ((Int32.toInt64 (v11 - v13)) * (Int32.toInt64 (v11 - v13)))) + ((Int32.toInt64 (v15 - v17)) * (Int32.toInt64 (v15 - v17))))), (q3.2 + 1)) s4
def mX5_begin (a0 : Nat) (p1 : Option Nat) (p2 : Option Nat) (s0 : Sg) : Option (Unit × Sg) :=
ptR s0 5 4 (some a0) p1 fun s1 =>
ptR s1 5 5 (some a0) p2 fun s2 =>
some ((), s2)
def rmX5_begin : Room := { frames := 0, cells := 0, slots := 0, locals := 0 }
theorem calX5_begin : Cal yX5_begin cX5_begin 3 none 2 := ⟨(mw19 17 rfl), (mw3 3 rfl), by decide, by decide, by decide +kernel⟩
set_option maxHeartbeats 4000000 in
set_option maxRecDepth 100000 in
theorem ctX5_begin (l : Launch) (B : Nat) (D : va_G) (cA : Nat → ClassId) (sa : Nat → Nat) (a0 : Nat) (p1 : Option Nat) (p2 : Option Nat) (s0 : Sg) : Ct l B D cA sa yX5_begin cX5_begin 3 none rmX5_begin rU [LR (some a0), LR p1, LR p2] s0 0 0 (mX5_begin a0 p1 p2 s0) := by
  refine Ct.of (own := RX5) (by decide) rfl _ (Nat.le_of_ble_eq_true rfl) rfl ?_
  intro p e s m args below meth c h hi
  unfold mX5_begin
  refine k_aload_n h 0 dX5_begin_0 rfl rfl ?_
  refine k_aload_n h 1 dX5_begin_1 rfl rfl ?_
  refine k_putR h fX5_4 (Or.inl ⟨_, rfl⟩) (Or.inl (mw5 18 rfl)) rfl dX5_begin_2 (fun s1 => ?_)
  refine k_aload_n h 0 dX5_begin_5 rfl rfl ?_
  refine k_aload_n h 2 dX5_begin_6 rfl rfl ?_
  refine k_putR h fX5_5 (Or.inl ⟨_, rfl⟩) (Or.inl (mw5 19 rfl)) rfl dX5_begin_7 (fun s2 => ?_)
  exact k_vret h rfl dX5_begin_10 (Nat.le_of_ble_eq_true rfl) (Nat.le_of_ble_eq_true rfl)
def mX5_goUp (a0 : Nat) (s0 : Sg) : Option (Unit × Sg) :=
gdR s0 5 2 (some a0) fun v1 =>
gdR s0 5 4 (some a0) fun v2 =>
cv s0 6 v1 fun a15 => cl (mX6_becomeAs a15 v2 s0) fun u3 s4 =>
gdR s4 5 3 (some a0) fun v5 =>
gdR s4 5 5 (some a0) fun v6 =>
cv s4 0 v5 fun a14 => cl (mX0_blowAs a14 v6 s4) fun u7 s8 =>
gdR s8 5 2 (some a0) fun v9 =>
ptR s8 5 4 (some a0) v9 fun s10 =>
gdR s10 5 3 (some a0) fun v11 =>
ptR s10 5 5 (some a0) v11 fun s12 =>
ptZ s12 5 8 (some a0) 1 fun s13 =>
some ((), s13)
def rmX5_goUp : Room := { frames := 2, cells := 0, slots := 0, locals := 45 }
theorem calX5_goUp : Cal yX5_goUp cX5_goUp 1 none 0 := ⟨(mw37 18 rfl), (mw3 3 rfl), by decide, by decide, by decide +kernel⟩
set_option maxHeartbeats 4000000 in
set_option maxRecDepth 100000 in
theorem ctX5_goUp (l : Launch) (B : Nat) (D : va_G) (cA : Nat → ClassId) (sa : Nat → Nat) (a0 : Nat) (s0 : Sg) : Ct l B D cA sa yX5_goUp cX5_goUp 1 none rmX5_goUp rU [LR (some a0)] s0 0 0 (mX5_goUp a0 s0) := by
  refine Ct.of (own := RX5) (by decide) rfl _ (Nat.le_of_ble_eq_true rfl) rfl ?_
  intro p e s m args below meth c h hi
  unfold mX5_goUp
  refine k_aload_n h 0 dX5_goUp_0 rfl rfl ?_
  refine k_getR h fX5_2 (Or.inl (mw5 15 rfl)) dX5_goUp_1 (fun v1 => ?_)
  refine k_aload_n h 0 dX5_goUp_4 rfl rfl ?_
  refine k_getR h fX5_4 (Or.inl (mw5 18 rfl)) dX5_goUp_5 (fun v2 => ?_)
  refine k_callVU (As := [LR v2]) (st := []) (x0 := v1) (xg := fun a15 => mX6_becomeAs a15 v2 s0) h (fun a15 => ctX6_becomeAs l B D cA sa a15 v2 s0) calX6_becomeAs rfl (by decide) (mw37 19 rfl) (mw37 20 rfl) (Or.inr ⟨_, nwm 59 rfl⟩) hgood ⟨rfl, rfl, Nat.le_of_ble_eq_true rfl, Nat.le_of_ble_eq_true rfl⟩ ⟨Nat.le_of_ble_eq_true rfl, Nat.le_of_ble_eq_true rfl⟩ rfl (Nat.le_of_ble_eq_true rfl) dX5_goUp_8 (fun u3 s4 => ?_)
  refine k_aload_n h 0 dX5_goUp_11 rfl rfl ?_
  refine k_getR h fX5_3 (Or.inl (mw5 17 rfl)) dX5_goUp_12 (fun v5 => ?_)
  refine k_aload_n h 0 dX5_goUp_15 rfl rfl ?_
  refine k_getR h fX5_5 (Or.inl (mw5 19 rfl)) dX5_goUp_16 (fun v6 => ?_)
  refine k_callVU (As := [LR v6]) (st := []) (x0 := v5) (xg := fun a14 => mX0_blowAs a14 v6 s4) h (fun a14 => ctX0_blowAs l B D cA sa a14 v6 s4) calX0_blowAs rfl (by decide) (mw37 23 rfl) (mw38 0 rfl) (Or.inr ⟨_, nwm 60 rfl⟩) hgood ⟨rfl, rfl, Nat.le_of_ble_eq_true rfl, Nat.le_of_ble_eq_true rfl⟩ ⟨Nat.le_of_ble_eq_true rfl, Nat.le_of_ble_eq_true rfl⟩ rfl (Nat.le_of_ble_eq_true rfl) dX5_goUp_19 (fun u7 s8 => ?_)
  refine k_aload_n h 0 dX5_goUp_22 rfl rfl ?_
  refine k_aload_n h 0 dX5_goUp_23 rfl rfl ?_
  refine k_getR h fX5_2 (Or.inl (mw5 15 rfl)) dX5_goUp_24 (fun v9 => ?_)
  refine k_putR h fX5_4 (Or.inl ⟨_, rfl⟩) (Or.inl (mw5 18 rfl)) rfl dX5_goUp_27 (fun s10 => ?_)
  refine k_aload_n h 0 dX5_goUp_30 rfl rfl ?_
  refine k_aload_n h 0 dX5_goUp_31 rfl rfl ?_
  refine k_getR h fX5_3 (Or.inl (mw5 17 rfl)) dX5_goUp_32 (fun v11 => ?_)
  refine k_putR h fX5_5 (Or.inl ⟨_, rfl⟩) (Or.inl (mw5 19 rfl)) rfl dX5_goUp_35 (fun s12 => ?_)
  refine k_aload_n h 0 dX5_goUp_38 rfl rfl ?_
  refine k_iconst (v := 1) h dX5_goUp_39 (by decide) ?_
  refine k_putZ h fX5_8 (Or.inl (mw5 22 rfl)) rfl dX5_goUp_40 (fun s13 => ?_)
  exact k_vret h rfl dX5_goUp_43 (Nat.le_of_ble_eq_true rfl) (Nat.le_of_ble_eq_true rfl)
def mX5_has (a0 : Nat) (p1 : Int32) (s0 : Sg) : Option (Int32 × Sg) :=
if p1 < 0 then (
ckB 0 (some (0, s0)))
else (
gdI s0 5 6 (some a0) fun v1 =>
if v1 ≤ p1 then (
ckB 0 (some (0, s0)))
else (
gdR s0 5 0 (some a0) fun v2 =>
aln s0 v2 fun v3 =>
if v3 ≤ p1 then (
ckB 0 (some (0, s0)))
else (
ckB 1 (some (1, s0)))))
def rmX5_has : Room := { frames := 0, cells := 0, slots := 0, locals := 0 }
theorem calX5_has : Cal yX5_has cX5_has 2 (some .boolean) 1 := ⟨(mw21 3 rfl), (mw3 3 rfl), by decide, by decide, by decide +kernel⟩
set_option maxHeartbeats 4000000 in
set_option maxRecDepth 100000 in
theorem ctX5_has (l : Launch) (B : Nat) (D : va_G) (cA : Nat → ClassId) (sa : Nat → Nat) (a0 : Nat) (p1 : Int32) (s0 : Sg) : Ct l B D cA sa yX5_has cX5_has 2 (some .boolean) rmX5_has rI [LR (some a0), LI p1] s0 0 0 (mX5_has a0 p1 s0) := by
  refine Ct.of (own := RX5) (by decide) rfl _ (Nat.le_of_ble_eq_true rfl) rfl ?_
  intro p e s m args below meth c h hi
  unfold mX5_has
  refine k_iload_n h 1 dX5_has_0 rfl rfl ?_
  refine k_if_lt (tgt := 25) h dX5_has_1 (by decide) ?_ ?_
  · refine k_iconst (v := 0) h dX5_has_25 (by decide) ?_
    exact k_zret h rfl dX5_has_26 (Nat.le_of_ble_eq_true rfl) (Nat.le_of_ble_eq_true rfl)
  · refine k_iload_n h 1 dX5_has_4 rfl rfl ?_
    refine k_aload_n h 0 dX5_has_5 rfl rfl ?_
    refine k_getI h fX5_6 (Or.inl (mw5 20 rfl)) dX5_has_6 (fun v1 => ?_)
    refine k_icmp_ge (tgt := 25) h dX5_has_9 (by decide) ?_ ?_
    · refine k_iconst (v := 0) h dX5_has_25 (by decide) ?_
      exact k_zret h rfl dX5_has_26 (Nat.le_of_ble_eq_true rfl) (Nat.le_of_ble_eq_true rfl)
    · refine k_iload_n h 1 dX5_has_12 rfl rfl ?_
      refine k_aload_n h 0 dX5_has_13 rfl rfl ?_
      refine k_getR h fX5_0 (Or.inl (mw5 12 rfl)) dX5_has_14 (fun v2 => ?_)
      refine k_aln h dX5_has_17 (fun v3 => ?_)
      refine k_icmp_ge (tgt := 25) h dX5_has_18 (by decide) ?_ ?_
      · refine k_iconst (v := 0) h dX5_has_25 (by decide) ?_
        exact k_zret h rfl dX5_has_26 (Nat.le_of_ble_eq_true rfl) (Nat.le_of_ble_eq_true rfl)
      · refine k_iconst (v := 1) h dX5_has_21 (by decide) ?_
        refine k_goto (tgt := 26) h dX5_has_22 (by decide) ?_
        exact k_zret h rfl dX5_has_26 (Nat.le_of_ble_eq_true rfl) (Nat.le_of_ble_eq_true rfl)
def mX5_holds_b2 (a0 : Nat) (p1 : Option Nat) (r3 : (Int32) → Sg → Option (Int32 × Sg)) (q1 : Int32) (s2 : Sg) : Option (Int32 × Sg) :=
gdI s2 5 6 (some a0) fun v4 =>
if v4 ≤ q1 then (
ckB 0 (some (0, s2)))
else (
gdR s2 5 0 (some a0) fun v5 =>
alR s2 2 v5 q1 fun v6 =>
if ¬ v6 = p1 then (
r3 (q1 + 1) s2)
else (
ckB 1 (some (1, s2))))
def mX5_holds (a0 : Nat) (p1 : Option Nat) (s0 : Sg) : Option (Int32 × Sg) :=
lp (mX5_holds_b2 a0 p1) FU 0 s0
def rmX5_holds : Room := { frames := 0, cells := 0, slots := 0, locals := 0 }
theorem calX5_holds : Cal yX5_holds cX5_holds 3 (some .boolean) 1 := ⟨(mw16 9 rfl), (mw3 3 rfl), by decide, by decide, by decide +kernel⟩
set_option maxHeartbeats 4000000 in
set_option maxRecDepth 100000 in
theorem ctX5_holds (l : Launch) (B : Nat) (D : va_G) (cA : Nat → ClassId) (sa : Nat → Nat) (a0 : Nat) (p1 : Option Nat) (s0 : Sg) : Ct l B D cA sa yX5_holds cX5_holds 3 (some .boolean) rmX5_holds rI [LR (some a0), LR p1] s0 0 0 (mX5_holds a0 p1 s0) := by
  refine Ct.of (own := RX5) (by decide) rfl _ (Nat.le_of_ble_eq_true rfl) rfl ?_
  intro p e s m args below meth c h hi
  unfold mX5_holds
  refine k_iconst (v := 0) h dX5_holds_0 (by decide) ?_
  refine k_istore_n (lv' := [(2, LI 0), (0, LR (some a0)), (1, LR p1)]) h dX5_holds_1 rfl (by decide) rfl ?_
  refine k_sub (lv' := [(0, LR (some a0)), (1, LR p1), (2, LI 0)]) h [1, 2, 0] rfl ?_
  refine k_lp (A := Int32) (fun q1 => [(0, LR (some a0)), (1, LR p1), (2, LI q1)]) (fun q1 => []) (fun r3 hr3 q1 s2 => ?_) FU 0 s0
  unfold mX5_holds_b2
  refine k_iload_n h 2 dX5_holds_2 rfl rfl ?_
  refine k_aload_n h 0 dX5_holds_3 rfl rfl ?_
  refine k_getI h fX5_6 (Or.inl (mw5 20 rfl)) dX5_holds_4 (fun v4 => ?_)
  refine k_icmp_ge (tgt := 28) h dX5_holds_7 (by decide) ?_ ?_
  · refine k_iconst (v := 0) h dX5_holds_28 (by decide) ?_
    exact k_zret h rfl dX5_holds_29 (Nat.le_of_ble_eq_true rfl) (Nat.le_of_ble_eq_true rfl)
  · refine k_aload_n h 0 dX5_holds_10 rfl rfl ?_
    refine k_getR h fX5_0 (Or.inl (mw5 12 rfl)) dX5_holds_11 (fun v5 => ?_)
    refine k_iload_n h 2 dX5_holds_14 rfl rfl ?_
    refine k_alR h rfl rfl dX5_holds_15 (fun v6 => ?_)
    refine k_aload_n h 1 dX5_holds_16 rfl rfl ?_
    refine k_acmp_ne (tgt := 22) h dX5_holds_17 (by decide) ?_ ?_
    · refine k_iinc (w := (q1 + 1)) (lv' := [(2, LI (q1 + 1)), (0, LR (some a0)), (1, LR p1)]) h 2 dX5_holds_22 rfl rfl (by decide) rfl ?_
      refine k_goto (tgt := 2) h dX5_holds_25 (by decide) ?_
      refine k_sub (lv' := [(0, LR (some a0)), (1, LR p1), (2, LI (q1 + 1))]) h [1, 2, 0] rfl ?_
      exact hr3 (q1 + 1) s2
    · refine k_iconst (v := 1) h dX5_holds_20 (by decide) ?_
      exact k_zret h rfl dX5_holds_21 (Nat.le_of_ble_eq_true rfl) (Nat.le_of_ble_eq_true rfl)
def mX5_add (a0 : Nat) (p1 : Option Nat) (p2 : Int32) (s0 : Sg) : Option (Unit × Sg) :=
gdI s0 5 6 (some a0) fun v1 =>
gdR s0 5 0 (some a0) fun v2 =>
aln s0 v2 fun v3 =>
if v3 ≤ v1 then (
some ((), s0))
else (
gdR s0 5 0 (some a0) fun v4 =>
gdI s0 5 6 (some a0) fun v5 =>
asR s0 2 v4 v5 p1 fun s6 =>
gdR s6 5 1 (some a0) fun v7 =>
gdI s6 5 6 (some a0) fun v8 =>
asI s6 v7 v8 p2 fun s9 =>
gdI s9 5 6 (some a0) fun v10 =>
ptI s9 5 6 (some a0) (v10 + 1) fun s11 =>
some ((), s11))
def rmX5_add : Room := { frames := 0, cells := 0, slots := 0, locals := 0 }
theorem calX5_add : Cal yX5_add cX5_add 3 none 2 := ⟨(mw20 11 rfl), (mw3 3 rfl), by decide, by decide, by decide +kernel⟩
set_option maxHeartbeats 4000000 in
set_option maxRecDepth 100000 in
theorem ctX5_add (l : Launch) (B : Nat) (D : va_G) (cA : Nat → ClassId) (sa : Nat → Nat) (a0 : Nat) (p1 : Option Nat) (p2 : Int32) (s0 : Sg) : Ct l B D cA sa yX5_add cX5_add 3 none rmX5_add rU [LR (some a0), LR p1, LI p2] s0 0 0 (mX5_add a0 p1 p2 s0) := by
  refine Ct.of (own := RX5) (by decide) rfl _ (Nat.le_of_ble_eq_true rfl) rfl ?_
  intro p e s m args below meth c h hi
  unfold mX5_add
  refine k_aload_n h 0 dX5_add_0 rfl rfl ?_
  refine k_getI h fX5_6 (Or.inl (mw5 20 rfl)) dX5_add_1 (fun v1 => ?_)
  refine k_aload_n h 0 dX5_add_4 rfl rfl ?_
  refine k_getR h fX5_0 (Or.inl (mw5 12 rfl)) dX5_add_5 (fun v2 => ?_)
  refine k_aln h dX5_add_8 (fun v3 => ?_)
  refine k_icmp_ge (tgt := 42) h dX5_add_9 (by decide) ?_ ?_
  · exact k_vret h rfl dX5_add_42 (Nat.le_of_ble_eq_true rfl) (Nat.le_of_ble_eq_true rfl)
  · refine k_aload_n h 0 dX5_add_12 rfl rfl ?_
    refine k_getR h fX5_0 (Or.inl (mw5 12 rfl)) dX5_add_13 (fun v4 => ?_)
    refine k_aload_n h 0 dX5_add_16 rfl rfl ?_
    refine k_getI h fX5_6 (Or.inl (mw5 20 rfl)) dX5_add_17 (fun v5 => ?_)
    refine k_aload_n h 1 dX5_add_20 rfl rfl ?_
    refine k_asR h rfl rfl rfl (by decide) dX5_add_21 (fun s6 => ?_)
    refine k_aload_n h 0 dX5_add_22 rfl rfl ?_
    refine k_getR h fX5_1 (Or.inl (mw5 13 rfl)) dX5_add_23 (fun v7 => ?_)
    refine k_aload_n h 0 dX5_add_26 rfl rfl ?_
    refine k_getI h fX5_6 (Or.inl (mw5 20 rfl)) dX5_add_27 (fun v8 => ?_)
    refine k_iload_n h 2 dX5_add_30 rfl rfl ?_
    refine k_asI h dX5_add_31 (fun s9 => ?_)
    refine k_aload_n h 0 dX5_add_32 rfl rfl ?_
    refine k_dup h dX5_add_33 rfl ?_
    refine k_getI h fX5_6 (Or.inl (mw5 20 rfl)) dX5_add_34 (fun v10 => ?_)
    refine k_iconst (v := 1) h dX5_add_37 (by decide) ?_
    refine k_iadd h dX5_add_38 ?_
    refine k_putI h fX5_6 (Or.inl (mw5 20 rfl)) rfl dX5_add_39 (fun s11 => ?_)
    exact k_vret h rfl dX5_add_42 (Nat.le_of_ble_eq_true rfl) (Nat.le_of_ble_eq_true rfl)
def mX5_remove_b13 (a0 : Nat) (r5 : (Int32) → Sg → Option (Unit × Sg)) (q3 : Int32) (s4 : Sg) : Option (Unit × Sg) :=
gdI s4 5 6 (some a0) fun v6 =>
if v6 ≤ q3 then (
gdI s4 5 6 (some a0) fun v7 =>
ptI s4 5 6 (some a0) (v7 - 1) fun s8 =>
some ((), s8))
else (
gdR s4 5 0 (some a0) fun v9 =>
gdR s4 5 0 (some a0) fun v10 =>
alR s4 2 v10 q3 fun v11 =>
asR s4 2 v9 (q3 - 1) v11 fun s12 =>
gdR s12 5 1 (some a0) fun v13 =>
gdR s12 5 1 (some a0) fun v14 =>
alI s12 v14 q3 fun v15 =>
asI s12 v13 (q3 - 1) v15 fun s16 =>
r5 (q3 + 1) s16)
def mX5_remove (a0 : Nat) (p1 : Int32) (s0 : Sg) : Option (Unit × Sg) :=
cv s0 5 (some a0) fun a18 => cl (mX5_has a18 p1 s0) fun v1 s2 =>
if ¬ v1 = 0 then (
lp (mX5_remove_b13 a0) FU (p1 + 1) s2)
else (
some ((), s2))
def rmX5_remove : Room := { frames := 1, cells := 0, slots := 0, locals := 21 }
theorem calX5_remove : Cal yX5_remove cX5_remove 3 none 1 := ⟨(mw21 6 rfl), (mw3 3 rfl), by decide, by decide, by decide +kernel⟩
set_option maxHeartbeats 4000000 in
set_option maxRecDepth 100000 in
theorem ctX5_remove (l : Launch) (B : Nat) (D : va_G) (cA : Nat → ClassId) (sa : Nat → Nat) (a0 : Nat) (p1 : Int32) (s0 : Sg) : Ct l B D cA sa yX5_remove cX5_remove 3 none rmX5_remove rU [LR (some a0), LI p1] s0 0 0 (mX5_remove a0 p1 s0) := by
  refine Ct.of (own := RX5) (by decide) rfl _ (Nat.le_of_ble_eq_true rfl) rfl ?_
  intro p e s m args below meth c h hi
  unfold mX5_remove
  refine k_aload_n h 0 dX5_remove_0 rfl rfl ?_
  refine k_iload_n h 1 dX5_remove_1 rfl rfl ?_
  refine k_callVI (As := [LI p1]) (st := []) (x0 := (some a0)) (xg := fun a18 => mX5_has a18 p1 s0) h (fun a18 => ctX5_has l B D cA sa a18 p1 s0) calX5_has rfl (by decide) (mw21 1 rfl) (mw21 2 rfl) (Or.inl (mw21 7 rfl)) hgood ⟨rfl, rfl, Nat.le_of_ble_eq_true rfl, Nat.le_of_ble_eq_true rfl⟩ ⟨Nat.le_of_ble_eq_true rfl, Nat.le_of_ble_eq_true rfl⟩ rfl (Nat.le_of_ble_eq_true rfl) dX5_remove_2 (fun v1 s2 => ?_)
  refine k_if_ne (tgt := 9) h dX5_remove_5 (by decide) ?_ ?_
  · refine k_iload_n h 1 dX5_remove_9 rfl rfl ?_
    refine k_iconst (v := 1) h dX5_remove_10 (by decide) ?_
    refine k_iadd h dX5_remove_11 ?_
    refine k_istore_n (lv' := [(2, LI (p1 + 1)), (0, LR (some a0)), (1, LI p1)]) h dX5_remove_12 rfl (by decide) rfl ?_
    refine k_sub (lv' := [(0, LR (some a0)), (2, LI (p1 + 1))]) h [1, 0] rfl ?_
    refine k_lp (A := Int32) (fun q3 => [(0, LR (some a0)), (2, LI q3)]) (fun q3 => []) (fun r5 hr5 q3 s4 => ?_) FU (p1 + 1) s2
    unfold mX5_remove_b13
    refine k_iload_n h 1 dX5_remove_13 rfl rfl ?_
    refine k_aload_n h 0 dX5_remove_14 rfl rfl ?_
    refine k_getI h fX5_6 (Or.inl (mw5 20 rfl)) dX5_remove_15 (fun v6 => ?_)
    refine k_icmp_ge (tgt := 55) h dX5_remove_18 (by decide) ?_ ?_
    · refine k_aload_n h 0 dX5_remove_55 rfl rfl ?_
      refine k_dup h dX5_remove_56 rfl ?_
      refine k_getI h fX5_6 (Or.inl (mw5 20 rfl)) dX5_remove_57 (fun v7 => ?_)
      refine k_iconst (v := 1) h dX5_remove_60 (by decide) ?_
      refine k_isub h dX5_remove_61 ?_
      refine k_putI h fX5_6 (Or.inl (mw5 20 rfl)) rfl dX5_remove_62 (fun s8 => ?_)
      exact k_vret h rfl dX5_remove_65 (Nat.le_of_ble_eq_true rfl) (Nat.le_of_ble_eq_true rfl)
    · refine k_aload_n h 0 dX5_remove_21 rfl rfl ?_
      refine k_getR h fX5_0 (Or.inl (mw5 12 rfl)) dX5_remove_22 (fun v9 => ?_)
      refine k_iload_n h 1 dX5_remove_25 rfl rfl ?_
      refine k_iconst (v := 1) h dX5_remove_26 (by decide) ?_
      refine k_isub h dX5_remove_27 ?_
      refine k_aload_n h 0 dX5_remove_28 rfl rfl ?_
      refine k_getR h fX5_0 (Or.inl (mw5 12 rfl)) dX5_remove_29 (fun v10 => ?_)
      refine k_iload_n h 1 dX5_remove_32 rfl rfl ?_
      refine k_alR h rfl rfl dX5_remove_33 (fun v11 => ?_)
      refine k_asR h rfl rfl rfl (by decide) dX5_remove_34 (fun s12 => ?_)
      refine k_aload_n h 0 dX5_remove_35 rfl rfl ?_
      refine k_getR h fX5_1 (Or.inl (mw5 13 rfl)) dX5_remove_36 (fun v13 => ?_)
      refine k_iload_n h 1 dX5_remove_39 rfl rfl ?_
      refine k_iconst (v := 1) h dX5_remove_40 (by decide) ?_
      refine k_isub h dX5_remove_41 ?_
      refine k_aload_n h 0 dX5_remove_42 rfl rfl ?_
      refine k_getR h fX5_1 (Or.inl (mw5 13 rfl)) dX5_remove_43 (fun v14 => ?_)
      refine k_iload_n h 1 dX5_remove_46 rfl rfl ?_
      refine k_alI h dX5_remove_47 (fun v15 => ?_)
      refine k_asI h dX5_remove_48 (fun s16 => ?_)
      refine k_iinc (w := (q3 + 1)) (lv' := [(2, LI (q3 + 1)), (0, LR (some a0))]) h 1 dX5_remove_49 rfl rfl (by decide) rfl ?_
      refine k_goto (tgt := 13) h dX5_remove_52 (by decide) ?_
      refine k_sub (lv' := [(0, LR (some a0)), (2, LI (q3 + 1))]) h [1, 0] rfl ?_
      exact hr5 (q3 + 1) s16
  · exact k_vret h rfl dX5_remove_8 (Nat.le_of_ble_eq_true rfl) (Nat.le_of_ble_eq_true rfl)
def mX5_secondOf_b4 (p1 : Int32) (a0 : Nat) (r3 : (Int32 × Int32) → Sg → Option (Int32 × Sg)) (q1 : Int32 × Int32) (s2 : Sg) : Option (Int32 × Sg) :=
if p1 < q1.2 then (
some (q1.1, s2))
else (
gdI s2 5 6 (some a0) fun v4 =>
if v4 ≤ q1.2 then (
some (q1.1, s2))
else (
gdR s2 5 1 (some a0) fun v5 =>
alI s2 v5 q1.2 fun v6 =>
r3 ((q1.1 + v6), (q1.2 + 1)) s2))
def mX5_secondOf (a0 : Nat) (p1 : Int32) (s0 : Sg) : Option (Int32 × Sg) :=
lp (mX5_secondOf_b4 p1 a0) FU (0, 1) s0
def rmX5_secondOf : Room := { frames := 0, cells := 0, slots := 0, locals := 0 }
theorem calX5_secondOf : Cal yX5_secondOf cX5_secondOf 4 (some .int) 1 := ⟨(mw23 2 rfl), (mw3 3 rfl), by decide, by decide, by decide +kernel⟩
set_option maxHeartbeats 4000000 in
set_option maxRecDepth 100000 in
theorem ctX5_secondOf (l : Launch) (B : Nat) (D : va_G) (cA : Nat → ClassId) (sa : Nat → Nat) (a0 : Nat) (p1 : Int32) (s0 : Sg) : Ct l B D cA sa yX5_secondOf cX5_secondOf 4 (some .int) rmX5_secondOf rI [LR (some a0), LI p1] s0 0 0 (mX5_secondOf a0 p1 s0) := by
  refine Ct.of (own := RX5) (by decide) rfl _ (Nat.le_of_ble_eq_true rfl) rfl ?_
  intro p e s m args below meth c h hi
  unfold mX5_secondOf
  refine k_iconst (v := 0) h dX5_secondOf_0 (by decide) ?_
  refine k_istore_n (lv' := [(2, LI 0), (0, LR (some a0)), (1, LI p1)]) h dX5_secondOf_1 rfl (by decide) rfl ?_
  refine k_iconst (v := 1) h dX5_secondOf_2 (by decide) ?_
  refine k_istore_n (lv' := [(3, LI 1), (2, LI 0), (0, LR (some a0)), (1, LI p1)]) h dX5_secondOf_3 rfl (by decide) rfl ?_
  refine k_sub (lv' := [(0, LR (some a0)), (1, LI p1), (2, LI 0), (3, LI 1)]) h [2, 3, 1, 0] rfl ?_
  refine k_lp (A := Int32 × Int32) (fun q1 => [(0, LR (some a0)), (1, LI p1), (2, LI q1.1), (3, LI q1.2)]) (fun q1 => []) (fun r3 hr3 q1 s2 => ?_) FU (0, 1) s0
  unfold mX5_secondOf_b4
  refine k_iload_n h 3 dX5_secondOf_4 rfl rfl ?_
  refine k_iload_n h 1 dX5_secondOf_5 rfl rfl ?_
  refine k_icmp_gt (tgt := 32) h dX5_secondOf_6 (by decide) ?_ ?_
  · refine k_iload_n h 2 dX5_secondOf_32 rfl rfl ?_
    exact k_iret h rfl dX5_secondOf_33 (Nat.le_of_ble_eq_true rfl) (Nat.le_of_ble_eq_true rfl)
  · refine k_iload_n h 3 dX5_secondOf_9 rfl rfl ?_
    refine k_aload_n h 0 dX5_secondOf_10 rfl rfl ?_
    refine k_getI h fX5_6 (Or.inl (mw5 20 rfl)) dX5_secondOf_11 (fun v4 => ?_)
    refine k_icmp_ge (tgt := 32) h dX5_secondOf_14 (by decide) ?_ ?_
    · refine k_iload_n h 2 dX5_secondOf_32 rfl rfl ?_
      exact k_iret h rfl dX5_secondOf_33 (Nat.le_of_ble_eq_true rfl) (Nat.le_of_ble_eq_true rfl)
    · refine k_iload_n h 2 dX5_secondOf_17 rfl rfl ?_
      refine k_aload_n h 0 dX5_secondOf_18 rfl rfl ?_
      refine k_getR h fX5_1 (Or.inl (mw5 13 rfl)) dX5_secondOf_19 (fun v5 => ?_)
      refine k_iload_n h 3 dX5_secondOf_22 rfl rfl ?_
      refine k_alI h dX5_secondOf_23 (fun v6 => ?_)
      refine k_iadd h dX5_secondOf_24 ?_
      refine k_istore_n (lv' := [(2, LI (q1.1 + v6)), (0, LR (some a0)), (1, LI p1), (3, LI q1.2)]) h dX5_secondOf_25 rfl (by decide) rfl ?_
      refine k_iinc (w := (q1.2 + 1)) (lv' := [(3, LI (q1.2 + 1)), (2, LI (q1.1 + v6)), (0, LR (some a0)), (1, LI p1)]) h 3 dX5_secondOf_26 rfl rfl (by decide) rfl ?_
      refine k_goto (tgt := 4) h dX5_secondOf_29 (by decide) ?_
      refine k_sub (lv' := [(0, LR (some a0)), (1, LI p1), (2, LI (q1.1 + v6)), (3, LI (q1.2 + 1))]) h [2, 3, 1, 0] rfl ?_
      exact hr3 ((q1.1 + v6), (q1.2 + 1)) s2
def mX5_tellOfPlace (a0 : Nat) (p1 : Int32) (s0 : Sg) : Option (Int32 × Sg) :=
if p1 < 10 then (
some ((-1), s0))
else (
if 40 ≤ p1 then (
some ((-1), s0))
else (
ckZ 10 (
cv s0 5 (some a0) fun a11 => cl (mX5_has a11 (p1 - p1 / 10 * 10) s0) fun v1 s2 =>
if ¬ v1 = 0 then (
ckZ 10 (
if 20 ≤ p1 then (
if 30 ≤ p1 then (
cv s2 5 (some a0) fun a5 => cl (mX5_secondOf a5 (p1 - p1 / 10 * 10) s2) fun v3 s4 =>
some (v3, s4))
else (
gdR s2 5 1 (some a0) fun v6 =>
alI s2 v6 (p1 - p1 / 10 * 10) fun v7 =>
some (v7, s2)))
else (
gdR s2 5 0 (some a0) fun v8 =>
alR s2 2 v8 (p1 - p1 / 10 * 10) fun v9 =>
gdI s2 2 0 v9 fun v10 =>
some (v10, s2))))
else (
some ((-1), s2)))))
def rmX5_tellOfPlace : Room := { frames := 1, cells := 0, slots := 0, locals := 23 }
theorem calX5_tellOfPlace : Cal yX5_tellOfPlace cX5_tellOfPlace 3 (some .int) 1 := ⟨(mw22 22 rfl), (mw3 3 rfl), by decide, by decide, by decide +kernel⟩
set_option maxHeartbeats 4000000 in
set_option maxRecDepth 100000 in
theorem ctX5_tellOfPlace (l : Launch) (B : Nat) (D : va_G) (cA : Nat → ClassId) (sa : Nat → Nat) (a0 : Nat) (p1 : Int32) (s0 : Sg) : Ct l B D cA sa yX5_tellOfPlace cX5_tellOfPlace 3 (some .int) rmX5_tellOfPlace rI [LR (some a0), LI p1] s0 0 0 (mX5_tellOfPlace a0 p1 s0) := by
  refine Ct.of (own := RX5) (by decide) rfl _ (Nat.le_of_ble_eq_true rfl) rfl ?_
  intro p e s m args below meth c h hi
  unfold mX5_tellOfPlace
  refine k_iload_n h 1 dX5_tellOfPlace_0 rfl rfl ?_
  refine k_bipush (v := 10) h dX5_tellOfPlace_1 (by decide) ?_
  refine k_icmp_lt (tgt := 23) h dX5_tellOfPlace_3 (by decide) ?_ ?_
  · refine k_iconst (v := (-1)) h dX5_tellOfPlace_23 (by decide) ?_
    exact k_iret h rfl dX5_tellOfPlace_24 (Nat.le_of_ble_eq_true rfl) (Nat.le_of_ble_eq_true rfl)
  · refine k_iload_n h 1 dX5_tellOfPlace_6 rfl rfl ?_
    refine k_bipush (v := 40) h dX5_tellOfPlace_7 (by decide) ?_
    refine k_icmp_ge (tgt := 23) h dX5_tellOfPlace_9 (by decide) ?_ ?_
    · refine k_iconst (v := (-1)) h dX5_tellOfPlace_23 (by decide) ?_
      exact k_iret h rfl dX5_tellOfPlace_24 (Nat.le_of_ble_eq_true rfl) (Nat.le_of_ble_eq_true rfl)
    · refine k_aload_n h 0 dX5_tellOfPlace_12 rfl rfl ?_
      refine k_iload_n h 1 dX5_tellOfPlace_13 rfl rfl ?_
      refine k_bipush (v := 10) h dX5_tellOfPlace_14 (by decide) ?_
      refine k_irem h dX5_tellOfPlace_16 ?_
      refine k_callVI (As := [LI (p1 - p1 / 10 * 10)]) (st := []) (x0 := (some a0)) (xg := fun a11 => mX5_has a11 (p1 - p1 / 10 * 10) s0) h (fun a11 => ctX5_has l B D cA sa a11 (p1 - p1 / 10 * 10) s0) calX5_has rfl (by decide) (mw21 1 rfl) (mw21 2 rfl) (Or.inl (mw21 7 rfl)) hgood ⟨rfl, rfl, Nat.le_of_ble_eq_true rfl, Nat.le_of_ble_eq_true rfl⟩ ⟨Nat.le_of_ble_eq_true rfl, Nat.le_of_ble_eq_true rfl⟩ rfl (Nat.le_of_ble_eq_true rfl) dX5_tellOfPlace_17 (fun v1 s2 => ?_)
      refine k_if_ne (tgt := 25) h dX5_tellOfPlace_20 (by decide) ?_ ?_
      · refine k_iload_n h 1 dX5_tellOfPlace_25 rfl rfl ?_
        refine k_bipush (v := 10) h dX5_tellOfPlace_26 (by decide) ?_
        refine k_irem h dX5_tellOfPlace_28 ?_
        refine k_istore_n (lv' := [(2, LI (p1 - p1 / 10 * 10)), (0, LR (some a0)), (1, LI p1)]) h dX5_tellOfPlace_29 rfl (by decide) rfl ?_
        refine k_iload_n h 2 dX5_tellOfPlace_30 rfl rfl ?_
        refine k_bipush (v := 20) h dX5_tellOfPlace_31 (by decide) ?_
        refine k_icmp_ge (tgt := 46) h dX5_tellOfPlace_33 (by decide) ?_ ?_
        · refine k_iload_n h 2 dX5_tellOfPlace_46 rfl rfl ?_
          refine k_bipush (v := 30) h dX5_tellOfPlace_47 (by decide) ?_
          refine k_icmp_ge (tgt := 61) h dX5_tellOfPlace_49 (by decide) ?_ ?_
          · refine k_aload_n h 1 dX5_tellOfPlace_61 rfl rfl ?_
            refine k_iload_n h 0 dX5_tellOfPlace_62 rfl rfl ?_
            refine k_callVI (As := [LI (p1 - p1 / 10 * 10)]) (st := []) (x0 := (some a0)) (xg := fun a5 => mX5_secondOf a5 (p1 - p1 / 10 * 10) s2) h (fun a5 => ctX5_secondOf l B D cA sa a5 (p1 - p1 / 10 * 10) s2) calX5_secondOf rfl (by decide) (mw23 0 rfl) (mw23 1 rfl) (Or.inl (mw22 23 rfl)) hgood ⟨rfl, rfl, Nat.le_of_ble_eq_true rfl, Nat.le_of_ble_eq_true rfl⟩ ⟨Nat.le_of_ble_eq_true rfl, Nat.le_of_ble_eq_true rfl⟩ rfl (Nat.le_of_ble_eq_true rfl) dX5_tellOfPlace_63 (fun v3 s4 => ?_)
            exact k_iret h rfl dX5_tellOfPlace_66 (Nat.le_of_ble_eq_true rfl) (Nat.le_of_ble_eq_true rfl)
          · refine k_aload_n h 1 dX5_tellOfPlace_52 rfl rfl ?_
            refine k_getR h fX5_1 (Or.inl (mw5 13 rfl)) dX5_tellOfPlace_53 (fun v6 => ?_)
            refine k_iload_n h 0 dX5_tellOfPlace_56 rfl rfl ?_
            refine k_alI h dX5_tellOfPlace_57 (fun v7 => ?_)
            refine k_goto (tgt := 66) h dX5_tellOfPlace_58 (by decide) ?_
            exact k_iret h rfl dX5_tellOfPlace_66 (Nat.le_of_ble_eq_true rfl) (Nat.le_of_ble_eq_true rfl)
        · refine k_aload_n h 1 dX5_tellOfPlace_36 rfl rfl ?_
          refine k_getR h fX5_0 (Or.inl (mw5 12 rfl)) dX5_tellOfPlace_37 (fun v8 => ?_)
          refine k_iload_n h 0 dX5_tellOfPlace_40 rfl rfl ?_
          refine k_alR h rfl rfl dX5_tellOfPlace_41 (fun v9 => ?_)
          refine k_getI h fX2_0 (Or.inr ⟨_, nwf 8 rfl⟩) dX5_tellOfPlace_42 (fun v10 => ?_)
          exact k_iret h rfl dX5_tellOfPlace_45 (Nat.le_of_ble_eq_true rfl) (Nat.le_of_ble_eq_true rfl)
      · refine k_iconst (v := (-1)) h dX5_tellOfPlace_23 (by decide) ?_
        exact k_iret h rfl dX5_tellOfPlace_24 (Nat.le_of_ble_eq_true rfl) (Nat.le_of_ble_eq_true rfl)
def mX5_tell (a0 : Nat) (p1 : Int32) (s0 : Sg) : Option (Int32 × Sg) :=
swc p1 0 [
gdR s0 5 4 (some a0) fun v4 =>
gdI s0 6 0 v4 fun v5 =>
some (v5, s0),
gdI s0 5 6 (some a0) fun v6 =>
some (v6, s0),
gdI s0 5 7 (some a0) fun v7 =>
some (v7, s0),
gdI s0 5 8 (some a0) fun v8 =>
if v8 = 0 then (
some (0, s0))
else (
some (1, s0))] (
cv s0 5 (some a0) fun a3 => cl (mX5_tellOfPlace a3 p1 s0) fun v1 s2 =>
some (v1, s2))
def rmX5_tell : Room := { frames := 2, cells := 0, slots := 0, locals := 45 }
theorem calX5_tell : Cal yX5_tell cX5_tell 2 (some .int) 1 := ⟨(mw22 18 rfl), (mw3 3 rfl), by decide, by decide, by decide +kernel⟩
set_option maxHeartbeats 4000000 in
set_option maxRecDepth 100000 in
theorem ctX5_tell (l : Launch) (B : Nat) (D : va_G) (cA : Nat → ClassId) (sa : Nat → Nat) (a0 : Nat) (p1 : Int32) (s0 : Sg) : Ct l B D cA sa yX5_tell cX5_tell 2 (some .int) rmX5_tell rI [LR (some a0), LI p1] s0 0 0 (mX5_tell a0 p1 s0) := by
  refine Ct.of (own := RX5) (by decide) rfl _ (Nat.le_of_ble_eq_true rfl) rfl ?_
  intro p e s m args below meth c h hi
  unfold mX5_tell
  refine k_iload_n h 1 dX5_tell_0 rfl rfl ?_
  refine k_table (tg := 63) (tgs := [32, 40, 45, 50]) h dX5_tell_1 (by decide) (by decide) rfl (by decide) ?_ ?_
  · refine k_aload_n h 0 dX5_tell_63 rfl rfl ?_
    refine k_iload_n h 1 dX5_tell_64 rfl rfl ?_
    refine k_callVI (As := [LI p1]) (st := []) (x0 := (some a0)) (xg := fun a3 => mX5_tellOfPlace a3 p1 s0) h (fun a3 => ctX5_tellOfPlace l B D cA sa a3 p1 s0) calX5_tellOfPlace rfl (by decide) (mw22 20 rfl) (mw22 21 rfl) (Or.inl (mw22 19 rfl)) hgood ⟨rfl, rfl, Nat.le_of_ble_eq_true rfl, Nat.le_of_ble_eq_true rfl⟩ ⟨Nat.le_of_ble_eq_true rfl, Nat.le_of_ble_eq_true rfl⟩ rfl (Nat.le_of_ble_eq_true rfl) dX5_tell_65 (fun v1 s2 => ?_)
    exact k_iret h rfl dX5_tell_68 (Nat.le_of_ble_eq_true rfl) (Nat.le_of_ble_eq_true rfl)
  · intro q9 hq9
    simp only [List.zip_cons_cons, List.zip_nil_right, List.zip_nil_left, List.mem_cons, List.not_mem_nil, or_false] at hq9
    rcases hq9 with rfl | rfl | rfl | rfl
    · dsimp only
      refine k_aload_n h 0 dX5_tell_32 rfl rfl ?_
      refine k_getR h fX5_4 (Or.inl (mw5 18 rfl)) dX5_tell_33 (fun v4 => ?_)
      refine k_getI h fX6_0 (Or.inr ⟨_, nwf 15 rfl⟩) dX5_tell_36 (fun v5 => ?_)
      exact k_iret h rfl dX5_tell_39 (Nat.le_of_ble_eq_true rfl) (Nat.le_of_ble_eq_true rfl)
    · dsimp only
      refine k_aload_n h 0 dX5_tell_40 rfl rfl ?_
      refine k_getI h fX5_6 (Or.inl (mw5 20 rfl)) dX5_tell_41 (fun v6 => ?_)
      exact k_iret h rfl dX5_tell_44 (Nat.le_of_ble_eq_true rfl) (Nat.le_of_ble_eq_true rfl)
    · dsimp only
      refine k_aload_n h 0 dX5_tell_45 rfl rfl ?_
      refine k_getI h fX5_7 (Or.inl (mw5 21 rfl)) dX5_tell_46 (fun v7 => ?_)
      exact k_iret h rfl dX5_tell_49 (Nat.le_of_ble_eq_true rfl) (Nat.le_of_ble_eq_true rfl)
    · dsimp only
      refine k_aload_n h 0 dX5_tell_50 rfl rfl ?_
      refine k_getI h fX5_8 (Or.inl (mw5 22 rfl)) dX5_tell_51 (fun v8 => ?_)
      refine k_if_eq (tgt := 61) h dX5_tell_54 (by decide) ?_ ?_
      · refine k_iconst (v := 0) h dX5_tell_61 (by decide) ?_
        exact k_iret h rfl dX5_tell_62 (Nat.le_of_ble_eq_true rfl) (Nat.le_of_ble_eq_true rfl)
      · refine k_iconst (v := 1) h dX5_tell_57 (by decide) ?_
        refine k_goto (tgt := 62) h dX5_tell_58 (by decide) ?_
        exact k_iret h rfl dX5_tell_62 (Nat.le_of_ble_eq_true rfl) (Nat.le_of_ble_eq_true rfl)
def mX5_leavesAtX (a0 : Nat) (p1 : Int32) (s0 : Sg) : Option (Int32 × Sg) :=
gdI s0 5 7 (some a0) fun v1 =>
gdR s0 5 4 (some a0) fun v2 =>
gdI s0 6 3 v2 fun v3 =>
cv s0 5 (some a0) fun a6 => cl (mX5_secondOf a6 p1 s0) fun v4 s5 =>
some ((v1 + (v3 * v4)), s5)
def rmX5_leavesAtX : Room := { frames := 1, cells := 0, slots := 0, locals := 23 }
theorem calX5_leavesAtX : Cal yX5_leavesAtX cX5_leavesAtX 2 (some .int) 1 := ⟨(mw24 19 rfl), (mw3 3 rfl), by decide, by decide, by decide +kernel⟩
set_option maxHeartbeats 4000000 in
set_option maxRecDepth 100000 in
theorem ctX5_leavesAtX (l : Launch) (B : Nat) (D : va_G) (cA : Nat → ClassId) (sa : Nat → Nat) (a0 : Nat) (p1 : Int32) (s0 : Sg) : Ct l B D cA sa yX5_leavesAtX cX5_leavesAtX 2 (some .int) rmX5_leavesAtX rI [LR (some a0), LI p1] s0 0 0 (mX5_leavesAtX a0 p1 s0) := by
  refine Ct.of (own := RX5) (by decide) rfl _ (Nat.le_of_ble_eq_true rfl) rfl ?_
  intro p e s m args below meth c h hi
  unfold mX5_leavesAtX
  refine k_aload_n h 0 dX5_leavesAtX_0 rfl rfl ?_
  refine k_getI h fX5_7 (Or.inl (mw5 21 rfl)) dX5_leavesAtX_1 (fun v1 => ?_)
  refine k_aload_n h 0 dX5_leavesAtX_4 rfl rfl ?_
  refine k_getR h fX5_4 (Or.inl (mw5 18 rfl)) dX5_leavesAtX_5 (fun v2 => ?_)
  refine k_getI h fX6_3 (Or.inr ⟨_, nwf 19 rfl⟩) dX5_leavesAtX_8 (fun v3 => ?_)
  refine k_aload_n h 0 dX5_leavesAtX_11 rfl rfl ?_
  refine k_iload_n h 1 dX5_leavesAtX_12 rfl rfl ?_
  refine k_callVI (As := [LI p1]) (st := [LI v3, LI v1]) (x0 := (some a0)) (xg := fun a6 => mX5_secondOf a6 p1 s0) h (fun a6 => ctX5_secondOf l B D cA sa a6 p1 s0) calX5_secondOf rfl (by decide) (mw23 0 rfl) (mw23 1 rfl) (Or.inl (mw22 23 rfl)) hgood ⟨rfl, rfl, Nat.le_of_ble_eq_true rfl, Nat.le_of_ble_eq_true rfl⟩ ⟨Nat.le_of_ble_eq_true rfl, Nat.le_of_ble_eq_true rfl⟩ rfl (Nat.le_of_ble_eq_true rfl) dX5_leavesAtX_13 (fun v4 s5 => ?_)
  refine k_imul h dX5_leavesAtX_16 ?_
  refine k_iadd h dX5_leavesAtX_17 ?_
  exact k_iret h rfl dX5_leavesAtX_18 (Nat.le_of_ble_eq_true rfl) (Nat.le_of_ble_eq_true rfl)
def mX5_lacksJumpers_b2 (a0 : Nat) (r3 : (Int32) → Sg → Option (Int32 × Sg)) (q1 : Int32) (s2 : Sg) : Option (Int32 × Sg) :=
gdI s2 5 6 (some a0) fun v4 =>
if v4 ≤ q1 then (
gdI s2 5 6 (some a0) fun v5 =>
if ¬ v5 = 0 then (
ckB 0 (some (0, s2)))
else (
ckB 1 (some (1, s2))))
else (
gdR s2 5 0 (some a0) fun v6 =>
alR s2 2 v6 q1 fun v7 =>
gdI s2 2 2 v7 fun v8 =>
if ¬ v8 = 0 then (
r3 (q1 + 1) s2)
else (
ckB 1 (some (1, s2))))
def mX5_lacksJumpers (a0 : Nat) (s0 : Sg) : Option (Int32 × Sg) :=
lp (mX5_lacksJumpers_b2 a0) FU 0 s0
def rmX5_lacksJumpers : Room := { frames := 0, cells := 0, slots := 0, locals := 0 }
theorem calX5_lacksJumpers : Cal yX5_lacksJumpers cX5_lacksJumpers 2 (some .boolean) 0 := ⟨(mw33 2 rfl), (mw3 3 rfl), by decide, by decide, by decide +kernel⟩
set_option maxHeartbeats 4000000 in
set_option maxRecDepth 100000 in
theorem ctX5_lacksJumpers (l : Launch) (B : Nat) (D : va_G) (cA : Nat → ClassId) (sa : Nat → Nat) (a0 : Nat) (s0 : Sg) : Ct l B D cA sa yX5_lacksJumpers cX5_lacksJumpers 2 (some .boolean) rmX5_lacksJumpers rI [LR (some a0)] s0 0 0 (mX5_lacksJumpers a0 s0) := by
  refine Ct.of (own := RX5) (by decide) rfl _ (Nat.le_of_ble_eq_true rfl) rfl ?_
  intro p e s m args below meth c h hi
  unfold mX5_lacksJumpers
  refine k_iconst (v := 0) h dX5_lacksJumpers_0 (by decide) ?_
  refine k_istore_n (lv' := [(1, LI 0), (0, LR (some a0))]) h dX5_lacksJumpers_1 rfl (by decide) rfl ?_
  refine k_sub (lv' := [(0, LR (some a0)), (1, LI 0)]) h [1, 0] rfl ?_
  refine k_lp (A := Int32) (fun q1 => [(0, LR (some a0)), (1, LI q1)]) (fun q1 => []) (fun r3 hr3 q1 s2 => ?_) FU 0 s0
  unfold mX5_lacksJumpers_b2
  refine k_iload_n h 1 dX5_lacksJumpers_2 rfl rfl ?_
  refine k_aload_n h 0 dX5_lacksJumpers_3 rfl rfl ?_
  refine k_getI h fX5_6 (Or.inl (mw5 20 rfl)) dX5_lacksJumpers_4 (fun v4 => ?_)
  refine k_icmp_ge (tgt := 30) h dX5_lacksJumpers_7 (by decide) ?_ ?_
  · refine k_aload_n h 0 dX5_lacksJumpers_30 rfl rfl ?_
    refine k_getI h fX5_6 (Or.inl (mw5 20 rfl)) dX5_lacksJumpers_31 (fun v5 => ?_)
    refine k_if_ne (tgt := 41) h dX5_lacksJumpers_34 (by decide) ?_ ?_
    · refine k_iconst (v := 0) h dX5_lacksJumpers_41 (by decide) ?_
      exact k_zret h rfl dX5_lacksJumpers_42 (Nat.le_of_ble_eq_true rfl) (Nat.le_of_ble_eq_true rfl)
    · refine k_iconst (v := 1) h dX5_lacksJumpers_37 (by decide) ?_
      refine k_goto (tgt := 42) h dX5_lacksJumpers_38 (by decide) ?_
      exact k_zret h rfl dX5_lacksJumpers_42 (Nat.le_of_ble_eq_true rfl) (Nat.le_of_ble_eq_true rfl)
  · refine k_aload_n h 0 dX5_lacksJumpers_10 rfl rfl ?_
    refine k_getR h fX5_0 (Or.inl (mw5 12 rfl)) dX5_lacksJumpers_11 (fun v6 => ?_)
    refine k_iload_n h 1 dX5_lacksJumpers_14 rfl rfl ?_
    refine k_alR h rfl rfl dX5_lacksJumpers_15 (fun v7 => ?_)
    refine k_getI h fX2_2 (Or.inr ⟨_, nwf 9 rfl⟩) dX5_lacksJumpers_16 (fun v8 => ?_)
    refine k_if_ne (tgt := 24) h dX5_lacksJumpers_19 (by decide) ?_ ?_
    · refine k_iinc (w := (q1 + 1)) (lv' := [(1, LI (q1 + 1)), (0, LR (some a0))]) h 1 dX5_lacksJumpers_24 rfl rfl (by decide) rfl ?_
      refine k_goto (tgt := 2) h dX5_lacksJumpers_27 (by decide) ?_
      refine k_sub (lv' := [(0, LR (some a0)), (1, LI (q1 + 1))]) h [1, 0] rfl ?_
      exact hr3 (q1 + 1) s2
    · refine k_iconst (v := 1) h dX5_lacksJumpers_22 (by decide) ?_
      exact k_zret h rfl dX5_lacksJumpers_23 (Nat.le_of_ble_eq_true rfl) (Nat.le_of_ble_eq_true rfl)
def mX5_jumperCount_b4 (a0 : Nat) (r3 : (Int32 × Int32) → Sg → Option (Int32 × Sg)) (q1 : Int32 × Int32) (s2 : Sg) : Option (Int32 × Sg) :=
gdI s2 5 6 (some a0) fun v4 =>
if v4 ≤ q1.2 then (
some (q1.1, s2))
else (
gdR s2 5 0 (some a0) fun v5 =>
alR s2 2 v5 q1.2 fun v6 =>
gdI s2 2 2 v6 fun v7 =>
r3 ((q1.1 + v7), (q1.2 + 1)) s2)
def mX5_jumperCount (a0 : Nat) (s0 : Sg) : Option (Int32 × Sg) :=
lp (mX5_jumperCount_b4 a0) FU (0, 0) s0
def rmX5_jumperCount : Room := { frames := 0, cells := 0, slots := 0, locals := 0 }
theorem calX5_jumperCount : Cal yX5_jumperCount cX5_jumperCount 3 (some .int) 0 := ⟨(mw33 5 rfl), (mw3 3 rfl), by decide, by decide, by decide +kernel⟩
set_option maxHeartbeats 4000000 in
set_option maxRecDepth 100000 in
theorem ctX5_jumperCount (l : Launch) (B : Nat) (D : va_G) (cA : Nat → ClassId) (sa : Nat → Nat) (a0 : Nat) (s0 : Sg) : Ct l B D cA sa yX5_jumperCount cX5_jumperCount 3 (some .int) rmX5_jumperCount rI [LR (some a0)] s0 0 0 (mX5_jumperCount a0 s0) := by
  refine Ct.of (own := RX5) (by decide) rfl _ (Nat.le_of_ble_eq_true rfl) rfl ?_
  intro p e s m args below meth c h hi
  unfold mX5_jumperCount
  refine k_iconst (v := 0) h dX5_jumperCount_0 (by decide) ?_
  refine k_istore_n (lv' := [(1, LI 0), (0, LR (some a0))]) h dX5_jumperCount_1 rfl (by decide) rfl ?_
  refine k_iconst (v := 0) h dX5_jumperCount_2 (by decide) ?_
  refine k_istore_n (lv' := [(2, LI 0), (1, LI 0), (0, LR (some a0))]) h dX5_jumperCount_3 rfl (by decide) rfl ?_
  refine k_sub (lv' := [(0, LR (some a0)), (1, LI 0), (2, LI 0)]) h [2, 1, 0] rfl ?_
  refine k_lp (A := Int32 × Int32) (fun q1 => [(0, LR (some a0)), (1, LI q1.1), (2, LI q1.2)]) (fun q1 => []) (fun r3 hr3 q1 s2 => ?_) FU (0, 0) s0
  unfold mX5_jumperCount_b4
  refine k_iload_n h 2 dX5_jumperCount_4 rfl rfl ?_
  refine k_aload_n h 0 dX5_jumperCount_5 rfl rfl ?_
  refine k_getI h fX5_6 (Or.inl (mw5 20 rfl)) dX5_jumperCount_6 (fun v4 => ?_)
  refine k_icmp_ge (tgt := 30) h dX5_jumperCount_9 (by decide) ?_ ?_
  · refine k_iload_n h 1 dX5_jumperCount_30 rfl rfl ?_
    exact k_iret h rfl dX5_jumperCount_31 (Nat.le_of_ble_eq_true rfl) (Nat.le_of_ble_eq_true rfl)
  · refine k_iload_n h 1 dX5_jumperCount_12 rfl rfl ?_
    refine k_aload_n h 0 dX5_jumperCount_13 rfl rfl ?_
    refine k_getR h fX5_0 (Or.inl (mw5 12 rfl)) dX5_jumperCount_14 (fun v5 => ?_)
    refine k_iload_n h 2 dX5_jumperCount_17 rfl rfl ?_
    refine k_alR h rfl rfl dX5_jumperCount_18 (fun v6 => ?_)
    refine k_getI h fX2_2 (Or.inr ⟨_, nwf 9 rfl⟩) dX5_jumperCount_19 (fun v7 => ?_)
    refine k_iadd h dX5_jumperCount_22 ?_
    refine k_istore_n (lv' := [(1, LI (q1.1 + v7)), (0, LR (some a0)), (2, LI q1.2)]) h dX5_jumperCount_23 rfl (by decide) rfl ?_
    refine k_iinc (w := (q1.2 + 1)) (lv' := [(2, LI (q1.2 + 1)), (1, LI (q1.1 + v7)), (0, LR (some a0))]) h 2 dX5_jumperCount_24 rfl rfl (by decide) rfl ?_
    refine k_goto (tgt := 4) h dX5_jumperCount_27 (by decide) ?_
    refine k_sub (lv' := [(0, LR (some a0)), (1, LI (q1.1 + v7)), (2, LI (q1.2 + 1))]) h [2, 1, 0] rfl ?_
    exact hr3 ((q1.1 + v7), (q1.2 + 1)) s2
def mX5_weight_b4 (a0 : Nat) (r3 : (Int32 × Int32) → Sg → Option (Int32 × Sg)) (q1 : Int32 × Int32) (s2 : Sg) : Option (Int32 × Sg) :=
gdI s2 5 6 (some a0) fun v4 =>
if v4 ≤ q1.2 then (
some (q1.1, s2))
else (
gdR s2 5 0 (some a0) fun v5 =>
alR s2 2 v5 q1.2 fun v6 =>
cv s2 2 v6 fun a9 => cl (mX2_weight a9 s2) fun v7 s8 =>
r3 ((q1.1 + v7), (q1.2 + 1)) s8)
def mX5_weight (a0 : Nat) (s0 : Sg) : Option (Int32 × Sg) :=
lp (mX5_weight_b4 a0) FU (0, 0) s0
def rmX5_weight : Room := { frames := 1, cells := 0, slots := 0, locals := 22 }
theorem calX5_weight : Cal yX5_weight cX5_weight 3 (some .int) 0 := ⟨(mw33 8 rfl), (mw3 3 rfl), by decide, by decide, by decide +kernel⟩
set_option maxHeartbeats 4000000 in
set_option maxRecDepth 100000 in
theorem ctX5_weight (l : Launch) (B : Nat) (D : va_G) (cA : Nat → ClassId) (sa : Nat → Nat) (a0 : Nat) (s0 : Sg) : Ct l B D cA sa yX5_weight cX5_weight 3 (some .int) rmX5_weight rI [LR (some a0)] s0 0 0 (mX5_weight a0 s0) := by
  refine Ct.of (own := RX5) (by decide) rfl _ (Nat.le_of_ble_eq_true rfl) rfl ?_
  intro p e s m args below meth c h hi
  unfold mX5_weight
  refine k_iconst (v := 0) h dX5_weight_0 (by decide) ?_
  refine k_istore_n (lv' := [(1, LI 0), (0, LR (some a0))]) h dX5_weight_1 rfl (by decide) rfl ?_
  refine k_iconst (v := 0) h dX5_weight_2 (by decide) ?_
  refine k_istore_n (lv' := [(2, LI 0), (1, LI 0), (0, LR (some a0))]) h dX5_weight_3 rfl (by decide) rfl ?_
  refine k_sub (lv' := [(0, LR (some a0)), (1, LI 0), (2, LI 0)]) h [2, 1, 0] rfl ?_
  refine k_lp (A := Int32 × Int32) (fun q1 => [(0, LR (some a0)), (1, LI q1.1), (2, LI q1.2)]) (fun q1 => []) (fun r3 hr3 q1 s2 => ?_) FU (0, 0) s0
  unfold mX5_weight_b4
  refine k_iload_n h 2 dX5_weight_4 rfl rfl ?_
  refine k_aload_n h 0 dX5_weight_5 rfl rfl ?_
  refine k_getI h fX5_6 (Or.inl (mw5 20 rfl)) dX5_weight_6 (fun v4 => ?_)
  refine k_icmp_ge (tgt := 30) h dX5_weight_9 (by decide) ?_ ?_
  · refine k_iload_n h 1 dX5_weight_30 rfl rfl ?_
    exact k_iret h rfl dX5_weight_31 (Nat.le_of_ble_eq_true rfl) (Nat.le_of_ble_eq_true rfl)
  · refine k_iload_n h 1 dX5_weight_12 rfl rfl ?_
    refine k_aload_n h 0 dX5_weight_13 rfl rfl ?_
    refine k_getR h fX5_0 (Or.inl (mw5 12 rfl)) dX5_weight_14 (fun v5 => ?_)
    refine k_iload_n h 2 dX5_weight_17 rfl rfl ?_
    refine k_alR h rfl rfl dX5_weight_18 (fun v6 => ?_)
    refine k_callVI (As := []) (st := [LI q1.1]) (x0 := v6) (xg := fun a9 => mX2_weight a9 s2) h (fun a9 => ctX2_weight l B D cA sa a9  s2) calX2_weight rfl (by decide) (mw17 17 rfl) (mw17 18 rfl) (Or.inr ⟨_, nwm 50 rfl⟩) hgood ⟨rfl, rfl, Nat.le_of_ble_eq_true rfl, Nat.le_of_ble_eq_true rfl⟩ ⟨Nat.le_of_ble_eq_true rfl, Nat.le_of_ble_eq_true rfl⟩ rfl (Nat.le_of_ble_eq_true rfl) dX5_weight_19 (fun v7 s8 => ?_)
    refine k_iadd h dX5_weight_22 ?_
    refine k_istore_n (lv' := [(1, LI (q1.1 + v7)), (0, LR (some a0)), (2, LI q1.2)]) h dX5_weight_23 rfl (by decide) rfl ?_
    refine k_iinc (w := (q1.2 + 1)) (lv' := [(2, LI (q1.2 + 1)), (1, LI (q1.1 + v7)), (0, LR (some a0))]) h 2 dX5_weight_24 rfl rfl (by decide) rfl ?_
    refine k_goto (tgt := 4) h dX5_weight_27 (by decide) ?_
    refine k_sub (lv' := [(0, LR (some a0)), (1, LI (q1.1 + v7)), (2, LI (q1.2 + 1))]) h [2, 1, 0] rfl ?_
    exact hr3 ((q1.1 + v7), (q1.2 + 1)) s8
def mX5_isWornOn_b2 (a0 : Nat) (p1 : Int32) (r3 : (Int32) → Sg → Option (Int32 × Sg)) (q1 : Int32) (s2 : Sg) : Option (Int32 × Sg) :=
gdI s2 5 6 (some a0) fun v4 =>
if v4 ≤ q1 then (
ckB 0 (some (0, s2)))
else (
gdR s2 5 0 (some a0) fun v5 =>
alR s2 2 v5 q1 fun v6 =>
cv s2 2 v6 fun a9 => cl (mX2_isWornOn a9 p1 s2) fun v7 s8 =>
if v7 = 0 then (
r3 (q1 + 1) s8)
else (
ckB 1 (some (1, s8))))
def mX5_isWornOn (a0 : Nat) (p1 : Int32) (s0 : Sg) : Option (Int32 × Sg) :=
lp (mX5_isWornOn_b2 a0 p1) FU 0 s0
def rmX5_isWornOn : Room := { frames := 1, cells := 0, slots := 0, locals := 22 }
theorem calX5_isWornOn : Cal yX5_isWornOn cX5_isWornOn 3 (some .boolean) 1 := ⟨(mw33 11 rfl), (mw3 3 rfl), by decide, by decide, by decide +kernel⟩
set_option maxHeartbeats 4000000 in
set_option maxRecDepth 100000 in
theorem ctX5_isWornOn (l : Launch) (B : Nat) (D : va_G) (cA : Nat → ClassId) (sa : Nat → Nat) (a0 : Nat) (p1 : Int32) (s0 : Sg) : Ct l B D cA sa yX5_isWornOn cX5_isWornOn 3 (some .boolean) rmX5_isWornOn rI [LR (some a0), LI p1] s0 0 0 (mX5_isWornOn a0 p1 s0) := by
  refine Ct.of (own := RX5) (by decide) rfl _ (Nat.le_of_ble_eq_true rfl) rfl ?_
  intro p e s m args below meth c h hi
  unfold mX5_isWornOn
  refine k_iconst (v := 0) h dX5_isWornOn_0 (by decide) ?_
  refine k_istore_n (lv' := [(2, LI 0), (0, LR (some a0)), (1, LI p1)]) h dX5_isWornOn_1 rfl (by decide) rfl ?_
  refine k_sub (lv' := [(0, LR (some a0)), (1, LI p1), (2, LI 0)]) h [1, 2, 0] rfl ?_
  refine k_lp (A := Int32) (fun q1 => [(0, LR (some a0)), (1, LI p1), (2, LI q1)]) (fun q1 => []) (fun r3 hr3 q1 s2 => ?_) FU 0 s0
  unfold mX5_isWornOn_b2
  refine k_iload_n h 2 dX5_isWornOn_2 rfl rfl ?_
  refine k_aload_n h 0 dX5_isWornOn_3 rfl rfl ?_
  refine k_getI h fX5_6 (Or.inl (mw5 20 rfl)) dX5_isWornOn_4 (fun v4 => ?_)
  refine k_icmp_ge (tgt := 31) h dX5_isWornOn_7 (by decide) ?_ ?_
  · refine k_iconst (v := 0) h dX5_isWornOn_31 (by decide) ?_
    exact k_zret h rfl dX5_isWornOn_32 (Nat.le_of_ble_eq_true rfl) (Nat.le_of_ble_eq_true rfl)
  · refine k_aload_n h 0 dX5_isWornOn_10 rfl rfl ?_
    refine k_getR h fX5_0 (Or.inl (mw5 12 rfl)) dX5_isWornOn_11 (fun v5 => ?_)
    refine k_iload_n h 2 dX5_isWornOn_14 rfl rfl ?_
    refine k_alR h rfl rfl dX5_isWornOn_15 (fun v6 => ?_)
    refine k_iload_n h 1 dX5_isWornOn_16 rfl rfl ?_
    refine k_callVI (As := [LI p1]) (st := []) (x0 := v6) (xg := fun a9 => mX2_isWornOn a9 p1 s2) h (fun a9 => ctX2_isWornOn l B D cA sa a9 p1 s2) calX2_isWornOn rfl (by decide) (mw33 12 rfl) (mw33 13 rfl) (Or.inr ⟨_, nwm 52 rfl⟩) hgood ⟨rfl, rfl, Nat.le_of_ble_eq_true rfl, Nat.le_of_ble_eq_true rfl⟩ ⟨Nat.le_of_ble_eq_true rfl, Nat.le_of_ble_eq_true rfl⟩ rfl (Nat.le_of_ble_eq_true rfl) dX5_isWornOn_17 (fun v7 s8 => ?_)
    refine k_if_eq (tgt := 25) h dX5_isWornOn_20 (by decide) ?_ ?_
    · refine k_iinc (w := (q1 + 1)) (lv' := [(2, LI (q1 + 1)), (0, LR (some a0)), (1, LI p1)]) h 2 dX5_isWornOn_25 rfl rfl (by decide) rfl ?_
      refine k_goto (tgt := 2) h dX5_isWornOn_28 (by decide) ?_
      refine k_sub (lv' := [(0, LR (some a0)), (1, LI p1), (2, LI (q1 + 1))]) h [1, 2, 0] rfl ?_
      exact hr3 (q1 + 1) s8
    · refine k_iconst (v := 1) h dX5_isWornOn_23 (by decide) ?_
      exact k_zret h rfl dX5_isWornOn_24 (Nat.le_of_ble_eq_true rfl) (Nat.le_of_ble_eq_true rfl)
def mX5_holdsOneTwice_b14 (a0 : Nat) (r3 : (Int32) → Sg → Option (Int32 × Sg)) (q1 : Int32) (r7 : (Int32) → Sg → Option (Int32 × Sg)) (q5 : Int32) (s6 : Sg) : Option (Int32 × Sg) :=
gdI s6 5 6 (some a0) fun v8 =>
if v8 ≤ q5 then (
r3 (q1 + 1) s6)
else (
gdR s6 5 0 (some a0) fun v9 =>
alR s6 2 v9 q1 fun v10 =>
gdR s6 5 0 (some a0) fun v11 =>
alR s6 2 v11 q5 fun v12 =>
cv s6 2 v10 fun a15 => cl (mX2_sharesOneWith a15 v12 s6) fun v13 s14 =>
if v13 = 0 then (
r7 (q5 + 1) s14)
else (
ckB 1 (some (1, s14))))
def mX5_holdsOneTwice_b2 (a0 : Nat) (r3 : (Int32) → Sg → Option (Int32 × Sg)) (q1 : Int32) (s2 : Sg) : Option (Int32 × Sg) :=
gdI s2 5 6 (some a0) fun v4 =>
if v4 ≤ q1 then (
ckB 0 (some (0, s2)))
else (
lp (mX5_holdsOneTwice_b14 a0 r3 q1) FU (q1 + 1) s2)
def mX5_holdsOneTwice (a0 : Nat) (s0 : Sg) : Option (Int32 × Sg) :=
lp (mX5_holdsOneTwice_b2 a0) FU 0 s0
def rmX5_holdsOneTwice : Room := { frames := 2, cells := 0, slots := 0, locals := 44 }
theorem calX5_holdsOneTwice : Cal yX5_holdsOneTwice cX5_holdsOneTwice 3 (some .boolean) 0 := ⟨(mw33 17 rfl), (mw3 3 rfl), by decide, by decide, by decide +kernel⟩
set_option maxHeartbeats 4000000 in
set_option maxRecDepth 100000 in
theorem ctX5_holdsOneTwice (l : Launch) (B : Nat) (D : va_G) (cA : Nat → ClassId) (sa : Nat → Nat) (a0 : Nat) (s0 : Sg) : Ct l B D cA sa yX5_holdsOneTwice cX5_holdsOneTwice 3 (some .boolean) rmX5_holdsOneTwice rI [LR (some a0)] s0 0 0 (mX5_holdsOneTwice a0 s0) := by
  refine Ct.of (own := RX5) (by decide) rfl _ (Nat.le_of_ble_eq_true rfl) rfl ?_
  intro p e s m args below meth c h hi
  unfold mX5_holdsOneTwice
  refine k_iconst (v := 0) h dX5_holdsOneTwice_0 (by decide) ?_
  refine k_istore_n (lv' := [(1, LI 0), (0, LR (some a0))]) h dX5_holdsOneTwice_1 rfl (by decide) rfl ?_
  refine k_sub (lv' := [(0, LR (some a0)), (1, LI 0)]) h [1, 0] rfl ?_
  refine k_lp (A := Int32) (fun q1 => [(0, LR (some a0)), (1, LI q1)]) (fun q1 => []) (fun r3 hr3 q1 s2 => ?_) FU 0 s0
  unfold mX5_holdsOneTwice_b2
  refine k_iload_n h 1 dX5_holdsOneTwice_2 rfl rfl ?_
  refine k_aload_n h 0 dX5_holdsOneTwice_3 rfl rfl ?_
  refine k_getI h fX5_6 (Or.inl (mw5 20 rfl)) dX5_holdsOneTwice_4 (fun v4 => ?_)
  refine k_icmp_ge (tgt := 54) h dX5_holdsOneTwice_7 (by decide) ?_ ?_
  · refine k_iconst (v := 0) h dX5_holdsOneTwice_54 (by decide) ?_
    exact k_zret h rfl dX5_holdsOneTwice_55 (Nat.le_of_ble_eq_true rfl) (Nat.le_of_ble_eq_true rfl)
  · refine k_iload_n h 1 dX5_holdsOneTwice_10 rfl rfl ?_
    refine k_iconst (v := 1) h dX5_holdsOneTwice_11 (by decide) ?_
    refine k_iadd h dX5_holdsOneTwice_12 ?_
    refine k_istore_n (lv' := [(2, LI (q1 + 1)), (0, LR (some a0)), (1, LI q1)]) h dX5_holdsOneTwice_13 rfl (by decide) rfl ?_
    refine k_sub (lv' := [(0, LR (some a0)), (1, LI q1), (2, LI (q1 + 1))]) h [1, 2, 0] rfl ?_
    refine k_lp (A := Int32) (fun q5 => [(0, LR (some a0)), (1, LI q1), (2, LI q5)]) (fun q5 => []) (fun r7 hr7 q5 s6 => ?_) FU (q1 + 1) s2
    unfold mX5_holdsOneTwice_b14
    refine k_iload_n h 2 dX5_holdsOneTwice_14 rfl rfl ?_
    refine k_aload_n h 0 dX5_holdsOneTwice_15 rfl rfl ?_
    refine k_getI h fX5_6 (Or.inl (mw5 20 rfl)) dX5_holdsOneTwice_16 (fun v8 => ?_)
    refine k_icmp_ge (tgt := 48) h dX5_holdsOneTwice_19 (by decide) ?_ ?_
    · refine k_iinc (w := (q1 + 1)) (lv' := [(1, LI (q1 + 1)), (0, LR (some a0)), (2, LI q5)]) h 1 dX5_holdsOneTwice_48 rfl rfl (by decide) rfl ?_
      refine k_goto (tgt := 2) h dX5_holdsOneTwice_51 (by decide) ?_
      refine k_sub (lv' := [(0, LR (some a0)), (1, LI (q1 + 1))]) h [1, 0] rfl ?_
      exact hr3 (q1 + 1) s6
    · refine k_aload_n h 0 dX5_holdsOneTwice_22 rfl rfl ?_
      refine k_getR h fX5_0 (Or.inl (mw5 12 rfl)) dX5_holdsOneTwice_23 (fun v9 => ?_)
      refine k_iload_n h 1 dX5_holdsOneTwice_26 rfl rfl ?_
      refine k_alR h rfl rfl dX5_holdsOneTwice_27 (fun v10 => ?_)
      refine k_aload_n h 0 dX5_holdsOneTwice_28 rfl rfl ?_
      refine k_getR h fX5_0 (Or.inl (mw5 12 rfl)) dX5_holdsOneTwice_29 (fun v11 => ?_)
      refine k_iload_n h 2 dX5_holdsOneTwice_32 rfl rfl ?_
      refine k_alR h rfl rfl dX5_holdsOneTwice_33 (fun v12 => ?_)
      refine k_callVI (As := [LR v12]) (st := []) (x0 := v10) (xg := fun a15 => mX2_sharesOneWith a15 v12 s6) h (fun a15 => ctX2_sharesOneWith l B D cA sa a15 v12 s6) calX2_sharesOneWith rfl (by decide) (mw33 18 rfl) (mw33 19 rfl) (Or.inr ⟨_, nwm 54 rfl⟩) hgood ⟨rfl, rfl, Nat.le_of_ble_eq_true rfl, Nat.le_of_ble_eq_true rfl⟩ ⟨Nat.le_of_ble_eq_true rfl, Nat.le_of_ble_eq_true rfl⟩ rfl (Nat.le_of_ble_eq_true rfl) dX5_holdsOneTwice_34 (fun v13 s14 => ?_)
      refine k_if_eq (tgt := 42) h dX5_holdsOneTwice_37 (by decide) ?_ ?_
      · refine k_iinc (w := (q5 + 1)) (lv' := [(2, LI (q5 + 1)), (0, LR (some a0)), (1, LI q1)]) h 2 dX5_holdsOneTwice_42 rfl rfl (by decide) rfl ?_
        refine k_goto (tgt := 14) h dX5_holdsOneTwice_45 (by decide) ?_
        refine k_sub (lv' := [(0, LR (some a0)), (1, LI q1), (2, LI (q5 + 1))]) h [1, 2, 0] rfl ?_
        exact hr7 (q5 + 1) s14
      · refine k_iconst (v := 1) h dX5_holdsOneTwice_40 (by decide) ?_
        exact k_zret h rfl dX5_holdsOneTwice_41 (Nat.le_of_ble_eq_true rfl) (Nat.le_of_ble_eq_true rfl)
def mX5_lacksHelp_b2 (a0 : Nat) (r3 : (Int32) → Sg → Option (Int32 × Sg)) (q1 : Int32) (s2 : Sg) : Option (Int32 × Sg) :=
gdI s2 5 6 (some a0) fun v4 =>
if v4 ≤ q1 then (
ckB 0 (some (0, s2)))
else (
gdR s2 5 0 (some a0) fun v5 =>
alR s2 2 v5 q1 fun v6 =>
cv s2 2 v6 fun a9 => cl (mX2_lacksHelp a9 s2) fun v7 s8 =>
if v7 = 0 then (
r3 (q1 + 1) s8)
else (
ckB 1 (some (1, s8))))
def mX5_lacksHelp (a0 : Nat) (s0 : Sg) : Option (Int32 × Sg) :=
lp (mX5_lacksHelp_b2 a0) FU 0 s0
def rmX5_lacksHelp : Room := { frames := 2, cells := 0, slots := 0, locals := 44 }
theorem calX5_lacksHelp : Cal yX5_lacksHelp cX5_lacksHelp 2 (some .boolean) 0 := ⟨(mw34 0 rfl), (mw3 3 rfl), by decide, by decide, by decide +kernel⟩
set_option maxHeartbeats 4000000 in
set_option maxRecDepth 100000 in
theorem ctX5_lacksHelp (l : Launch) (B : Nat) (D : va_G) (cA : Nat → ClassId) (sa : Nat → Nat) (a0 : Nat) (s0 : Sg) : Ct l B D cA sa yX5_lacksHelp cX5_lacksHelp 2 (some .boolean) rmX5_lacksHelp rI [LR (some a0)] s0 0 0 (mX5_lacksHelp a0 s0) := by
  refine Ct.of (own := RX5) (by decide) rfl _ (Nat.le_of_ble_eq_true rfl) rfl ?_
  intro p e s m args below meth c h hi
  unfold mX5_lacksHelp
  refine k_iconst (v := 0) h dX5_lacksHelp_0 (by decide) ?_
  refine k_istore_n (lv' := [(1, LI 0), (0, LR (some a0))]) h dX5_lacksHelp_1 rfl (by decide) rfl ?_
  refine k_sub (lv' := [(0, LR (some a0)), (1, LI 0)]) h [1, 0] rfl ?_
  refine k_lp (A := Int32) (fun q1 => [(0, LR (some a0)), (1, LI q1)]) (fun q1 => []) (fun r3 hr3 q1 s2 => ?_) FU 0 s0
  unfold mX5_lacksHelp_b2
  refine k_iload_n h 1 dX5_lacksHelp_2 rfl rfl ?_
  refine k_aload_n h 0 dX5_lacksHelp_3 rfl rfl ?_
  refine k_getI h fX5_6 (Or.inl (mw5 20 rfl)) dX5_lacksHelp_4 (fun v4 => ?_)
  refine k_icmp_ge (tgt := 30) h dX5_lacksHelp_7 (by decide) ?_ ?_
  · refine k_iconst (v := 0) h dX5_lacksHelp_30 (by decide) ?_
    exact k_zret h rfl dX5_lacksHelp_31 (Nat.le_of_ble_eq_true rfl) (Nat.le_of_ble_eq_true rfl)
  · refine k_aload_n h 0 dX5_lacksHelp_10 rfl rfl ?_
    refine k_getR h fX5_0 (Or.inl (mw5 12 rfl)) dX5_lacksHelp_11 (fun v5 => ?_)
    refine k_iload_n h 1 dX5_lacksHelp_14 rfl rfl ?_
    refine k_alR h rfl rfl dX5_lacksHelp_15 (fun v6 => ?_)
    refine k_callVI (As := []) (st := []) (x0 := v6) (xg := fun a9 => mX2_lacksHelp a9 s2) h (fun a9 => ctX2_lacksHelp l B D cA sa a9  s2) calX2_lacksHelp rfl (by decide) (mw34 1 rfl) (mw34 2 rfl) (Or.inr ⟨_, nwm 56 rfl⟩) hgood ⟨rfl, rfl, Nat.le_of_ble_eq_true rfl, Nat.le_of_ble_eq_true rfl⟩ ⟨Nat.le_of_ble_eq_true rfl, Nat.le_of_ble_eq_true rfl⟩ rfl (Nat.le_of_ble_eq_true rfl) dX5_lacksHelp_16 (fun v7 s8 => ?_)
    refine k_if_eq (tgt := 24) h dX5_lacksHelp_19 (by decide) ?_ ?_
    · refine k_iinc (w := (q1 + 1)) (lv' := [(1, LI (q1 + 1)), (0, LR (some a0))]) h 1 dX5_lacksHelp_24 rfl rfl (by decide) rfl ?_
      refine k_goto (tgt := 2) h dX5_lacksHelp_27 (by decide) ?_
      refine k_sub (lv' := [(0, LR (some a0)), (1, LI (q1 + 1))]) h [1, 0] rfl ?_
      exact hr3 (q1 + 1) s8
    · refine k_iconst (v := 1) h dX5_lacksHelp_22 (by decide) ?_
      exact k_zret h rfl dX5_lacksHelp_23 (Nat.le_of_ble_eq_true rfl) (Nat.le_of_ble_eq_true rfl)
