def mX7_begin_b2 (a0 : Nat) (p1 : Int32) (r3 : (Int32) → Sg → Option (Unit × Sg)) (q1 : Int32) (s2 : Sg) : Option (Unit × Sg) :=
gdR s2 7 0 (some a0) fun v4 =>
aln s2 v4 fun v5 =>
if v5 ≤ q1 then (
ptI s2 7 2 (some a0) p1 fun s6 =>
ptZ s6 7 3 (some a0) 1 fun s7 =>
some ((), s7))
else (
gdR s2 7 0 (some a0) fun v8 =>
asF s2 v8 q1 0 fun s9 =>
gdR s9 7 1 (some a0) fun v10 =>
asZ s9 v10 q1 0 fun s11 =>
r3 (q1 + 1) s11)
def mX7_begin (a0 : Nat) (p1 : Int32) (s0 : Sg) : Option (Unit × Sg) :=
lp (mX7_begin_b2 a0 p1) FU 0 s0
def rmX7_begin : Room := { frames := 0, cells := 0, slots := 0, locals := 0 }
theorem calX7_begin : Cal yX7_begin cX7_begin 3 none 1 := ⟨(mw8 15 rfl), (mw2 19 rfl), by decide, by decide, by decide +kernel⟩
set_option maxHeartbeats 4000000 in
set_option maxRecDepth 100000 in
theorem ctX7_begin (l : Launch) (B : Nat) (D : va_G) (cA : Nat → ClassId) (sa : Nat → Nat) (a0 : Nat) (p1 : Int32) (s0 : Sg) : Ct l B D cA sa yX7_begin cX7_begin 3 none rmX7_begin rU [LR (some a0), LI p1] s0 0 0 (mX7_begin a0 p1 s0) := by
  refine Ct.of (own := RX7) (by decide) rfl _ (Nat.le_of_ble_eq_true rfl) rfl ?_
  intro p e s m args below meth c h hi
  unfold mX7_begin
  refine k_iconst (v := 0) h dX7_begin_0 (by decide) ?_
  refine k_istore_n (lv' := [(2, LI 0), (0, LR (some a0)), (1, LI p1)]) h dX7_begin_1 rfl (by decide) rfl ?_
  refine k_sub (lv' := [(0, LR (some a0)), (1, LI p1), (2, LI 0)]) h [1, 2, 0] rfl ?_
  refine k_lp (A := Int32) (fun q1 => [(0, LR (some a0)), (1, LI p1), (2, LI q1)]) (fun q1 => []) (fun r3 hr3 q1 s2 => ?_) FU 0 s0
  unfold mX7_begin_b2
  refine k_iload_n h 2 dX7_begin_2 rfl rfl ?_
  refine k_aload_n h 0 dX7_begin_3 rfl rfl ?_
  refine k_getR h fX7_0 (Or.inl (mw4 0 rfl)) dX7_begin_4 (fun v4 => ?_)
  refine k_aln h dX7_begin_7 (fun v5 => ?_)
  refine k_icmp_ge (tgt := 31) h dX7_begin_8 (by decide) ?_ ?_
  · refine k_aload_n h 0 dX7_begin_31 rfl rfl ?_
    refine k_iload_n h 1 dX7_begin_32 rfl rfl ?_
    refine k_putI h fX7_2 (Or.inl (mw4 3 rfl)) rfl dX7_begin_33 (fun s6 => ?_)
    refine k_aload_n h 0 dX7_begin_36 rfl rfl ?_
    refine k_iconst (v := 1) h dX7_begin_37 (by decide) ?_
    refine k_putZ h fX7_3 (Or.inl (mw4 4 rfl)) rfl dX7_begin_38 (fun s7 => ?_)
    exact k_vret h rfl dX7_begin_41 (Nat.le_of_ble_eq_true rfl) (Nat.le_of_ble_eq_true rfl)
  · refine k_aload_n h 0 dX7_begin_11 rfl rfl ?_
    refine k_getR h fX7_0 (Or.inl (mw4 0 rfl)) dX7_begin_12 (fun v8 => ?_)
    refine k_iload_n h 2 dX7_begin_15 rfl rfl ?_
    refine k_fconst0 h dX7_begin_16 ?_
    refine k_asF h dX7_begin_17 (fun s9 => ?_)
    refine k_aload_n h 0 dX7_begin_18 rfl rfl ?_
    refine k_getR h fX7_1 (Or.inl (mw4 2 rfl)) dX7_begin_19 (fun v10 => ?_)
    refine k_iload_n h 2 dX7_begin_22 rfl rfl ?_
    refine k_iconst (v := 0) h dX7_begin_23 (by decide) ?_
    refine k_asZ h dX7_begin_24 (fun s11 => ?_)
    refine k_iinc (w := (q1 + 1)) (lv' := [(2, LI (q1 + 1)), (0, LR (some a0)), (1, LI p1)]) h 2 dX7_begin_25 rfl rfl (by decide) rfl ?_
    refine k_goto (tgt := 2) h dX7_begin_28 (by decide) ?_
    refine k_sub (lv' := [(0, LR (some a0)), (1, LI p1), (2, LI (q1 + 1))]) h [1, 2, 0] rfl ?_
    exact hr3 (q1 + 1) s11
def mX7_has (a0 : Nat) (p1 : Int32) (s0 : Sg) : Option (Int32 × Sg) :=
if p1 < 0 then (
ckB 0 (some (0, s0)))
else (
gdI s0 7 2 (some a0) fun v1 =>
if v1 ≤ p1 then (
ckB 0 (some (0, s0)))
else (
gdR s0 7 0 (some a0) fun v2 =>
aln s0 v2 fun v3 =>
if v3 ≤ p1 then (
ckB 0 (some (0, s0)))
else (
ckB 1 (some (1, s0)))))
def rmX7_has : Room := { frames := 0, cells := 0, slots := 0, locals := 0 }
theorem calX7_has : Cal yX7_has cX7_has 2 (some .boolean) 1 := ⟨(mw9 12 rfl), (mw2 19 rfl), by decide, by decide, by decide +kernel⟩
set_option maxHeartbeats 4000000 in
set_option maxRecDepth 100000 in
theorem ctX7_has (l : Launch) (B : Nat) (D : va_G) (cA : Nat → ClassId) (sa : Nat → Nat) (a0 : Nat) (p1 : Int32) (s0 : Sg) : Ct l B D cA sa yX7_has cX7_has 2 (some .boolean) rmX7_has rI [LR (some a0), LI p1] s0 0 0 (mX7_has a0 p1 s0) := by
  refine Ct.of (own := RX7) (by decide) rfl _ (Nat.le_of_ble_eq_true rfl) rfl ?_
  intro p e s m args below meth c h hi
  unfold mX7_has
  refine k_iload_n h 1 dX7_has_0 rfl rfl ?_
  refine k_if_lt (tgt := 25) h dX7_has_1 (by decide) ?_ ?_
  · refine k_iconst (v := 0) h dX7_has_25 (by decide) ?_
    exact k_zret h rfl dX7_has_26 (Nat.le_of_ble_eq_true rfl) (Nat.le_of_ble_eq_true rfl)
  · refine k_iload_n h 1 dX7_has_4 rfl rfl ?_
    refine k_aload_n h 0 dX7_has_5 rfl rfl ?_
    refine k_getI h fX7_2 (Or.inl (mw4 3 rfl)) dX7_has_6 (fun v1 => ?_)
    refine k_icmp_ge (tgt := 25) h dX7_has_9 (by decide) ?_ ?_
    · refine k_iconst (v := 0) h dX7_has_25 (by decide) ?_
      exact k_zret h rfl dX7_has_26 (Nat.le_of_ble_eq_true rfl) (Nat.le_of_ble_eq_true rfl)
    · refine k_iload_n h 1 dX7_has_12 rfl rfl ?_
      refine k_aload_n h 0 dX7_has_13 rfl rfl ?_
      refine k_getR h fX7_0 (Or.inl (mw4 0 rfl)) dX7_has_14 (fun v2 => ?_)
      refine k_aln h dX7_has_17 (fun v3 => ?_)
      refine k_icmp_ge (tgt := 25) h dX7_has_18 (by decide) ?_ ?_
      · refine k_iconst (v := 0) h dX7_has_25 (by decide) ?_
        exact k_zret h rfl dX7_has_26 (Nat.le_of_ble_eq_true rfl) (Nat.le_of_ble_eq_true rfl)
      · refine k_iconst (v := 1) h dX7_has_21 (by decide) ?_
        refine k_goto (tgt := 26) h dX7_has_22 (by decide) ?_
        exact k_zret h rfl dX7_has_26 (Nat.le_of_ble_eq_true rfl) (Nat.le_of_ble_eq_true rfl)
def mX7_write (a0 : Nat) (p1 : Int32) (p2 : UInt32) (s0 : Sg) : Option (Unit × Sg) :=
cv s0 7 (some a0) fun a7 => cl (mX7_has a7 p1 s0) fun v1 s2 =>
if v1 = 0 then (
some ((), s2))
else (
gdR s2 7 0 (some a0) fun v3 =>
asF s2 v3 p1 p2 fun s4 =>
gdR s4 7 1 (some a0) fun v5 =>
asZ s4 v5 p1 0 fun s6 =>
some ((), s6))
def rmX7_write : Room := { frames := 1, cells := 0, slots := 0, locals := 21 }
theorem calX7_write : Cal yX7_write cX7_write 3 none 2 := ⟨(mw9 15 rfl), (mw2 19 rfl), by decide, by decide, by decide +kernel⟩
set_option maxHeartbeats 4000000 in
set_option maxRecDepth 100000 in
theorem ctX7_write (l : Launch) (B : Nat) (D : va_G) (cA : Nat → ClassId) (sa : Nat → Nat) (a0 : Nat) (p1 : Int32) (p2 : UInt32) (s0 : Sg) : Ct l B D cA sa yX7_write cX7_write 3 none rmX7_write rU [LR (some a0), LI p1, LF p2] s0 0 0 (mX7_write a0 p1 p2 s0) := by
  refine Ct.of (own := RX7) (by decide) rfl _ (Nat.le_of_ble_eq_true rfl) rfl ?_
  intro p e s m args below meth c h hi
  unfold mX7_write
  refine k_aload_n h 0 dX7_write_0 rfl rfl ?_
  refine k_iload_n h 1 dX7_write_1 rfl rfl ?_
  refine k_callVI (As := [LI p1]) (st := []) (x0 := (some a0)) (xg := fun a7 => mX7_has a7 p1 s0) h (fun a7 => ctX7_has l B D cA sa a7 p1 s0) calX7_has rfl (by decide) (mw9 10 rfl) (mw9 11 rfl) (Or.inl (mw9 16 rfl)) hgood ⟨rfl, rfl, Nat.le_of_ble_eq_true rfl, Nat.le_of_ble_eq_true rfl⟩ ⟨Nat.le_of_ble_eq_true rfl, Nat.le_of_ble_eq_true rfl⟩ rfl (Nat.le_of_ble_eq_true rfl) dX7_write_2 (fun v1 s2 => ?_)
  refine k_if_eq (tgt := 22) h dX7_write_5 (by decide) ?_ ?_
  · exact k_vret h rfl dX7_write_22 (Nat.le_of_ble_eq_true rfl) (Nat.le_of_ble_eq_true rfl)
  · refine k_aload_n h 0 dX7_write_8 rfl rfl ?_
    refine k_getR h fX7_0 (Or.inl (mw4 0 rfl)) dX7_write_9 (fun v3 => ?_)
    refine k_iload_n h 1 dX7_write_12 rfl rfl ?_
    refine k_fload_n h 2 dX7_write_13 rfl rfl ?_
    refine k_asF h dX7_write_14 (fun s4 => ?_)
    refine k_aload_n h 0 dX7_write_15 rfl rfl ?_
    refine k_getR h fX7_1 (Or.inl (mw4 2 rfl)) dX7_write_16 (fun v5 => ?_)
    refine k_iload_n h 1 dX7_write_19 rfl rfl ?_
    refine k_iconst (v := 0) h dX7_write_20 (by decide) ?_
    refine k_asZ h dX7_write_21 (fun s6 => ?_)
    exact k_vret h rfl dX7_write_22 (Nat.le_of_ble_eq_true rfl) (Nat.le_of_ble_eq_true rfl)
def mX7_blank (a0 : Nat) (p1 : Int32) (s0 : Sg) : Option (Unit × Sg) :=
cv s0 7 (some a0) fun a5 => cl (mX7_has a5 p1 s0) fun v1 s2 =>
if v1 = 0 then (
some ((), s2))
else (
gdR s2 7 1 (some a0) fun v3 =>
asZ s2 v3 p1 1 fun s4 =>
some ((), s4))
def rmX7_blank : Room := { frames := 1, cells := 0, slots := 0, locals := 21 }
theorem calX7_blank : Cal yX7_blank cX7_blank 2 none 1 := ⟨(mw10 4 rfl), (mw2 19 rfl), by decide, by decide, by decide +kernel⟩
set_option maxHeartbeats 4000000 in
set_option maxRecDepth 100000 in
theorem ctX7_blank (l : Launch) (B : Nat) (D : va_G) (cA : Nat → ClassId) (sa : Nat → Nat) (a0 : Nat) (p1 : Int32) (s0 : Sg) : Ct l B D cA sa yX7_blank cX7_blank 2 none rmX7_blank rU [LR (some a0), LI p1] s0 0 0 (mX7_blank a0 p1 s0) := by
  refine Ct.of (own := RX7) (by decide) rfl _ (Nat.le_of_ble_eq_true rfl) rfl ?_
  intro p e s m args below meth c h hi
  unfold mX7_blank
  refine k_aload_n h 0 dX7_blank_0 rfl rfl ?_
  refine k_iload_n h 1 dX7_blank_1 rfl rfl ?_
  refine k_callVI (As := [LI p1]) (st := []) (x0 := (some a0)) (xg := fun a5 => mX7_has a5 p1 s0) h (fun a5 => ctX7_has l B D cA sa a5 p1 s0) calX7_has rfl (by decide) (mw9 10 rfl) (mw9 11 rfl) (Or.inl (mw9 16 rfl)) hgood ⟨rfl, rfl, Nat.le_of_ble_eq_true rfl, Nat.le_of_ble_eq_true rfl⟩ ⟨Nat.le_of_ble_eq_true rfl, Nat.le_of_ble_eq_true rfl⟩ rfl (Nat.le_of_ble_eq_true rfl) dX7_blank_2 (fun v1 s2 => ?_)
  refine k_if_eq (tgt := 15) h dX7_blank_5 (by decide) ?_ ?_
  · exact k_vret h rfl dX7_blank_15 (Nat.le_of_ble_eq_true rfl) (Nat.le_of_ble_eq_true rfl)
  · refine k_aload_n h 0 dX7_blank_8 rfl rfl ?_
    refine k_getR h fX7_1 (Or.inl (mw4 2 rfl)) dX7_blank_9 (fun v3 => ?_)
    refine k_iload_n h 1 dX7_blank_12 rfl rfl ?_
    refine k_iconst (v := 1) h dX7_blank_13 (by decide) ?_
    refine k_asZ h dX7_blank_14 (fun s4 => ?_)
    exact k_vret h rfl dX7_blank_15 (Nat.le_of_ble_eq_true rfl) (Nat.le_of_ble_eq_true rfl)
def mX7_knownBelow_b4 (a0 : Nat) (r3 : (Int32) → Sg → Option (Int32 × Sg)) (q1 : Int32) (s2 : Sg) : Option (Int32 × Sg) :=
if q1 < 0 then (
some ((-1), s2))
else (
gdR s2 7 1 (some a0) fun v4 =>
alZ s2 v4 q1 fun v5 =>
if ¬ v5 = 0 then (
r3 (q1 + (-1)) s2)
else (
some (q1, s2)))
def mX7_knownBelow (a0 : Nat) (p1 : Int32) (s0 : Sg) : Option (Int32 × Sg) :=
lp (mX7_knownBelow_b4 a0) FU (p1 - 1) s0
def rmX7_knownBelow : Room := { frames := 0, cells := 0, slots := 0, locals := 0 }
theorem calX7_knownBelow : Cal yX7_knownBelow cX7_knownBelow 3 (some .int) 1 := ⟨(mw11 5 rfl), (mw2 19 rfl), by decide, by decide, by decide +kernel⟩
set_option maxHeartbeats 4000000 in
set_option maxRecDepth 100000 in
theorem ctX7_knownBelow (l : Launch) (B : Nat) (D : va_G) (cA : Nat → ClassId) (sa : Nat → Nat) (a0 : Nat) (p1 : Int32) (s0 : Sg) : Ct l B D cA sa yX7_knownBelow cX7_knownBelow 3 (some .int) rmX7_knownBelow rI [LR (some a0), LI p1] s0 0 0 (mX7_knownBelow a0 p1 s0) := by
  refine Ct.of (own := RX7) (by decide) rfl _ (Nat.le_of_ble_eq_true rfl) rfl ?_
  intro p e s m args below meth c h hi
  unfold mX7_knownBelow
  refine k_iload_n h 1 dX7_knownBelow_0 rfl rfl ?_
  refine k_iconst (v := 1) h dX7_knownBelow_1 (by decide) ?_
  refine k_isub h dX7_knownBelow_2 ?_
  refine k_istore_n (lv' := [(2, LI (p1 - 1)), (0, LR (some a0)), (1, LI p1)]) h dX7_knownBelow_3 rfl (by decide) rfl ?_
  refine k_sub (lv' := [(0, LR (some a0)), (2, LI (p1 - 1))]) h [1, 0] rfl ?_
  refine k_lp (A := Int32) (fun q1 => [(0, LR (some a0)), (2, LI q1)]) (fun q1 => []) (fun r3 hr3 q1 s2 => ?_) FU (p1 - 1) s0
  unfold mX7_knownBelow_b4
  refine k_iload_n h 1 dX7_knownBelow_4 rfl rfl ?_
  refine k_if_lt (tgt := 25) h dX7_knownBelow_5 (by decide) ?_ ?_
  · refine k_iconst (v := (-1)) h dX7_knownBelow_25 (by decide) ?_
    exact k_iret h rfl dX7_knownBelow_26 (Nat.le_of_ble_eq_true rfl) (Nat.le_of_ble_eq_true rfl)
  · refine k_aload_n h 0 dX7_knownBelow_8 rfl rfl ?_
    refine k_getR h fX7_1 (Or.inl (mw4 2 rfl)) dX7_knownBelow_9 (fun v4 => ?_)
    refine k_iload_n h 1 dX7_knownBelow_12 rfl rfl ?_
    refine k_alZ h dX7_knownBelow_13 (fun v5 => ?_)
    refine k_if_ne (tgt := 19) h dX7_knownBelow_14 (by decide) ?_ ?_
    · refine k_iinc (w := (q1 + (-1))) (lv' := [(2, LI (q1 + (-1))), (0, LR (some a0))]) h 1 dX7_knownBelow_19 rfl rfl (by decide) rfl ?_
      refine k_goto (tgt := 4) h dX7_knownBelow_22 (by decide) ?_
      refine k_sub (lv' := [(0, LR (some a0)), (2, LI (q1 + (-1)))]) h [1, 0] rfl ?_
      exact hr3 (q1 + (-1)) s2
    · refine k_iload_n h 1 dX7_knownBelow_17 rfl rfl ?_
      exact k_iret h rfl dX7_knownBelow_18 (Nat.le_of_ble_eq_true rfl) (Nat.le_of_ble_eq_true rfl)
def mX7_knownAbove_b4 (a0 : Nat) (r3 : (Int32) → Sg → Option (Int32 × Sg)) (q1 : Int32) (s2 : Sg) : Option (Int32 × Sg) :=
gdI s2 7 2 (some a0) fun v4 =>
if v4 ≤ q1 then (
some ((-1), s2))
else (
gdR s2 7 1 (some a0) fun v5 =>
alZ s2 v5 q1 fun v6 =>
if ¬ v6 = 0 then (
r3 (q1 + 1) s2)
else (
some (q1, s2)))
def mX7_knownAbove (a0 : Nat) (p1 : Int32) (s0 : Sg) : Option (Int32 × Sg) :=
lp (mX7_knownAbove_b4 a0) FU (p1 + 1) s0
def rmX7_knownAbove : Room := { frames := 0, cells := 0, slots := 0, locals := 0 }
theorem calX7_knownAbove : Cal yX7_knownAbove cX7_knownAbove 3 (some .int) 1 := ⟨(mw11 9 rfl), (mw2 19 rfl), by decide, by decide, by decide +kernel⟩
set_option maxHeartbeats 4000000 in
set_option maxRecDepth 100000 in
theorem ctX7_knownAbove (l : Launch) (B : Nat) (D : va_G) (cA : Nat → ClassId) (sa : Nat → Nat) (a0 : Nat) (p1 : Int32) (s0 : Sg) : Ct l B D cA sa yX7_knownAbove cX7_knownAbove 3 (some .int) rmX7_knownAbove rI [LR (some a0), LI p1] s0 0 0 (mX7_knownAbove a0 p1 s0) := by
  refine Ct.of (own := RX7) (by decide) rfl _ (Nat.le_of_ble_eq_true rfl) rfl ?_
  intro p e s m args below meth c h hi
  unfold mX7_knownAbove
  refine k_iload_n h 1 dX7_knownAbove_0 rfl rfl ?_
  refine k_iconst (v := 1) h dX7_knownAbove_1 (by decide) ?_
  refine k_iadd h dX7_knownAbove_2 ?_
  refine k_istore_n (lv' := [(2, LI (p1 + 1)), (0, LR (some a0)), (1, LI p1)]) h dX7_knownAbove_3 rfl (by decide) rfl ?_
  refine k_sub (lv' := [(0, LR (some a0)), (2, LI (p1 + 1))]) h [1, 0] rfl ?_
  refine k_lp (A := Int32) (fun q1 => [(0, LR (some a0)), (2, LI q1)]) (fun q1 => []) (fun r3 hr3 q1 s2 => ?_) FU (p1 + 1) s0
  unfold mX7_knownAbove_b4
  refine k_iload_n h 1 dX7_knownAbove_4 rfl rfl ?_
  refine k_aload_n h 0 dX7_knownAbove_5 rfl rfl ?_
  refine k_getI h fX7_2 (Or.inl (mw4 3 rfl)) dX7_knownAbove_6 (fun v4 => ?_)
  refine k_icmp_ge (tgt := 29) h dX7_knownAbove_9 (by decide) ?_ ?_
  · refine k_iconst (v := (-1)) h dX7_knownAbove_29 (by decide) ?_
    exact k_iret h rfl dX7_knownAbove_30 (Nat.le_of_ble_eq_true rfl) (Nat.le_of_ble_eq_true rfl)
  · refine k_aload_n h 0 dX7_knownAbove_12 rfl rfl ?_
    refine k_getR h fX7_1 (Or.inl (mw4 2 rfl)) dX7_knownAbove_13 (fun v5 => ?_)
    refine k_iload_n h 1 dX7_knownAbove_16 rfl rfl ?_
    refine k_alZ h dX7_knownAbove_17 (fun v6 => ?_)
    refine k_if_ne (tgt := 23) h dX7_knownAbove_18 (by decide) ?_ ?_
    · refine k_iinc (w := (q1 + 1)) (lv' := [(2, LI (q1 + 1)), (0, LR (some a0))]) h 1 dX7_knownAbove_23 rfl rfl (by decide) rfl ?_
      refine k_goto (tgt := 4) h dX7_knownAbove_26 (by decide) ?_
      refine k_sub (lv' := [(0, LR (some a0)), (2, LI (q1 + 1))]) h [1, 0] rfl ?_
      exact hr3 (q1 + 1) s2
    · refine k_iload_n h 1 dX7_knownAbove_21 rfl rfl ?_
      exact k_iret h rfl dX7_knownAbove_22 (Nat.le_of_ble_eq_true rfl) (Nat.le_of_ble_eq_true rfl)
def mX7_filled (a0 : Nat) (p1 : Int32) (s0 : Sg) : Option (UInt32 × Sg) :=
cv s0 7 (some a0) fun a26 => cl (mX7_has a26 p1 s0) fun v1 s2 =>
if ¬ v1 = 0 then (
gdR s2 7 1 (some a0) fun v3 =>
alZ s2 v3 p1 fun v4 =>
if ¬ v4 = 0 then (
cv s2 7 (some a0) fun a23 => cl (mX7_knownBelow a23 p1 s2) fun v5 s6 =>
cv s6 7 (some a0) fun a22 => cl (mX7_knownAbove a22 p1 s6) fun v7 s8 =>
jn (fun (q9 : Unit) (s10 : Sg) =>
if v5 < 0 then (
if v7 < 0 then (
some (0, s10))
else (
gdR s10 7 0 (some a0) fun v12 =>
alF s10 v12 v7 fun v13 =>
some (v13, s10)))
else (
gdR s10 7 0 (some a0) fun v14 =>
alF s10 v14 v5 fun v15 =>
some (v15, s10)))
(fun j11 =>
if v5 < 0 then (
j11 () s8)
else (
if v7 < 0 then (
j11 () s8)
else (
gdR s8 7 0 (some a0) fun v16 =>
alF s8 v16 v5 fun v17 =>
gdR s8 7 0 (some a0) fun v18 =>
alF s8 v18 v7 fun v19 =>
ckN (FP.fadd v17 v19) fun v20 =>
ckN (FP.fdiv v20 0x40000000) fun v21 =>
some (v21, s8)))))
else (
gdR s2 7 0 (some a0) fun v24 =>
alF s2 v24 p1 fun v25 =>
some (v25, s2)))
else (
some (0, s2))
def rmX7_filled : Room := { frames := 1, cells := 0, slots := 0, locals := 22 }
theorem calX7_filled : Cal yX7_filled cX7_filled 4 (some .float) 1 := ⟨(mw11 1 rfl), (mw2 19 rfl), by decide, by decide, by decide +kernel⟩
set_option maxHeartbeats 4000000 in
set_option maxRecDepth 100000 in
theorem ctX7_filled (l : Launch) (B : Nat) (D : va_G) (cA : Nat → ClassId) (sa : Nat → Nat) (a0 : Nat) (p1 : Int32) (s0 : Sg) : Ct l B D cA sa yX7_filled cX7_filled 4 (some .float) rmX7_filled rF [LR (some a0), LI p1] s0 0 0 (mX7_filled a0 p1 s0) := by
  refine Ct.of (own := RX7) (by decide) rfl _ (Nat.le_of_ble_eq_true rfl) rfl ?_
  intro p e s m args below meth c h hi
  unfold mX7_filled
  refine k_aload_n h 0 dX7_filled_0 rfl rfl ?_
  refine k_iload_n h 1 dX7_filled_1 rfl rfl ?_
  refine k_callVI (As := [LI p1]) (st := []) (x0 := (some a0)) (xg := fun a26 => mX7_has a26 p1 s0) h (fun a26 => ctX7_has l B D cA sa a26 p1 s0) calX7_has rfl (by decide) (mw9 10 rfl) (mw9 11 rfl) (Or.inl (mw9 16 rfl)) hgood ⟨rfl, rfl, Nat.le_of_ble_eq_true rfl, Nat.le_of_ble_eq_true rfl⟩ ⟨Nat.le_of_ble_eq_true rfl, Nat.le_of_ble_eq_true rfl⟩ rfl (Nat.le_of_ble_eq_true rfl) dX7_filled_2 (fun v1 s2 => ?_)
  refine k_if_ne (tgt := 10) h dX7_filled_5 (by decide) ?_ ?_
  · refine k_aload_n h 0 dX7_filled_10 rfl rfl ?_
    refine k_getR h fX7_1 (Or.inl (mw4 2 rfl)) dX7_filled_11 (fun v3 => ?_)
    refine k_iload_n h 1 dX7_filled_14 rfl rfl ?_
    refine k_alZ h dX7_filled_15 (fun v4 => ?_)
    refine k_if_ne (tgt := 26) h dX7_filled_16 (by decide) ?_ ?_
    · refine k_aload_n h 0 dX7_filled_26 rfl rfl ?_
      refine k_iload_n h 1 dX7_filled_27 rfl rfl ?_
      refine k_callVI (As := [LI p1]) (st := []) (x0 := (some a0)) (xg := fun a23 => mX7_knownBelow a23 p1 s2) h (fun a23 => ctX7_knownBelow l B D cA sa a23 p1 s2) calX7_knownBelow rfl (by decide) (mw11 3 rfl) (mw11 4 rfl) (Or.inl (mw11 2 rfl)) hgood ⟨rfl, rfl, Nat.le_of_ble_eq_true rfl, Nat.le_of_ble_eq_true rfl⟩ ⟨Nat.le_of_ble_eq_true rfl, Nat.le_of_ble_eq_true rfl⟩ rfl (Nat.le_of_ble_eq_true rfl) dX7_filled_28 (fun v5 s6 => ?_)
      refine k_istore_n (lv' := [(2, LI v5), (0, LR (some a0)), (1, LI p1)]) h dX7_filled_31 rfl (by decide) rfl ?_
      refine k_aload_n h 1 dX7_filled_32 rfl rfl ?_
      refine k_iload_n h 2 dX7_filled_33 rfl rfl ?_
      refine k_callVI (As := [LI p1]) (st := []) (x0 := (some a0)) (xg := fun a22 => mX7_knownAbove a22 p1 s6) h (fun a22 => ctX7_knownAbove l B D cA sa a22 p1 s6) calX7_knownAbove rfl (by decide) (mw11 7 rfl) (mw11 8 rfl) (Or.inl (mw11 6 rfl)) hgood ⟨rfl, rfl, Nat.le_of_ble_eq_true rfl, Nat.le_of_ble_eq_true rfl⟩ ⟨Nat.le_of_ble_eq_true rfl, Nat.le_of_ble_eq_true rfl⟩ rfl (Nat.le_of_ble_eq_true rfl) dX7_filled_34 (fun v7 s8 => ?_)
      refine k_istore_n (lv' := [(3, LI v7), (2, LI v5), (0, LR (some a0)), (1, LI p1)]) h dX7_filled_37 rfl (by decide) rfl ?_
      refine k_iload_n h 1 dX7_filled_38 rfl rfl ?_
      refine k_jn (A := Unit) (J := 62) (fun q9 => [(0, LR (some a0)), (2, LI v5), (3, LI v7)]) (fun q9 => []) (fun q9 s10 => ?_) (fun j11 hj11 => ?_)
      · refine k_iload_n h 1 dX7_filled_62 rfl rfl ?_
        refine k_if_lt (tgt := 73) h dX7_filled_63 (by decide) ?_ ?_
        · refine k_iload_n h 2 dX7_filled_73 rfl rfl ?_
          refine k_if_lt (tgt := 86) h dX7_filled_74 (by decide) ?_ ?_
          · refine k_fconst0 h dX7_filled_86 ?_
            exact k_fret h rfl dX7_filled_87 (Nat.le_of_ble_eq_true rfl) (Nat.le_of_ble_eq_true rfl)
          · refine k_aload_n h 0 dX7_filled_77 rfl rfl ?_
            refine k_getR h fX7_0 (Or.inl (mw4 0 rfl)) dX7_filled_78 (fun v12 => ?_)
            refine k_iload_n h 2 dX7_filled_81 rfl rfl ?_
            refine k_alF h dX7_filled_82 (fun v13 => ?_)
            refine k_goto (tgt := 87) h dX7_filled_83 (by decide) ?_
            exact k_fret h rfl dX7_filled_87 (Nat.le_of_ble_eq_true rfl) (Nat.le_of_ble_eq_true rfl)
        · refine k_aload_n h 0 dX7_filled_66 rfl rfl ?_
          refine k_getR h fX7_0 (Or.inl (mw4 0 rfl)) dX7_filled_67 (fun v14 => ?_)
          refine k_iload_n h 1 dX7_filled_70 rfl rfl ?_
          refine k_alF h dX7_filled_71 (fun v15 => ?_)
          exact k_fret h rfl dX7_filled_72 (Nat.le_of_ble_eq_true rfl) (Nat.le_of_ble_eq_true rfl)
      · refine k_if_lt (tgt := 62) h dX7_filled_39 (by decide) ?_ ?_
        · refine k_sub (lv' := [(0, LR (some a0)), (2, LI v5), (3, LI v7)]) h [2, 1, 0] rfl ?_
          exact hj11 () s8
        · refine k_iload_n h 0 dX7_filled_42 rfl rfl ?_
          refine k_if_lt (tgt := 62) h dX7_filled_43 (by decide) ?_ ?_
          · refine k_sub (lv' := [(0, LR (some a0)), (2, LI v5), (3, LI v7)]) h [2, 1, 0] rfl ?_
            exact hj11 () s8
          · refine k_aload_n h 2 dX7_filled_46 rfl rfl ?_
            refine k_getR h fX7_0 (Or.inl (mw4 0 rfl)) dX7_filled_47 (fun v16 => ?_)
            refine k_iload_n h 1 dX7_filled_50 rfl rfl ?_
            refine k_alF h dX7_filled_51 (fun v17 => ?_)
            refine k_aload_n h 2 dX7_filled_52 rfl rfl ?_
            refine k_getR h fX7_0 (Or.inl (mw4 0 rfl)) dX7_filled_53 (fun v18 => ?_)
            refine k_iload_n h 0 dX7_filled_56 rfl rfl ?_
            refine k_alF h dX7_filled_57 (fun v19 => ?_)
            refine k_fadd h dX7_filled_58 (fun v20 => ?_)
            refine k_fconst2 h dX7_filled_59 ?_
            refine k_fdiv h dX7_filled_60 (fun v21 => ?_)
            exact k_fret h rfl dX7_filled_61 (Nat.le_of_ble_eq_true rfl) (Nat.le_of_ble_eq_true rfl)
    · refine k_aload_n h 0 dX7_filled_19 rfl rfl ?_
      refine k_getR h fX7_0 (Or.inl (mw4 0 rfl)) dX7_filled_20 (fun v24 => ?_)
      refine k_iload_n h 1 dX7_filled_23 rfl rfl ?_
      refine k_alF h dX7_filled_24 (fun v25 => ?_)
      exact k_fret h rfl dX7_filled_25 (Nat.le_of_ble_eq_true rfl) (Nat.le_of_ble_eq_true rfl)
  · refine k_fconst0 h dX7_filled_8 ?_
    exact k_fret h rfl dX7_filled_9 (Nat.le_of_ble_eq_true rfl) (Nat.le_of_ble_eq_true rfl)
def mX7_windOf (a0 : Nat) (p1 : Int32) (s0 : Sg) : Option (Int32 × Sg) :=
gdI s0 7 2 (some a0) fun v1 =>
cv s0 7 (some a0) fun a5 => cl (mX7_filled a5 (mnI p1 (v1 - 1)) s0) fun v2 s3 =>
ckN (FP.fmul v2 1092616192) fun v4 =>
some ((FP.f2i v4), s3)
def rmX7_windOf : Room := { frames := 2, cells := 0, slots := 0, locals := 45 }
theorem calX7_windOf : Cal yX7_windOf cX7_windOf 2 (some .int) 1 := ⟨(mw12 9 rfl), (mw2 19 rfl), by decide, by decide, by decide +kernel⟩
set_option maxHeartbeats 4000000 in
set_option maxRecDepth 100000 in
theorem ctX7_windOf (l : Launch) (B : Nat) (D : va_G) (cA : Nat → ClassId) (sa : Nat → Nat) (a0 : Nat) (p1 : Int32) (s0 : Sg) : Ct l B D cA sa yX7_windOf cX7_windOf 2 (some .int) rmX7_windOf rI [LR (some a0), LI p1] s0 0 0 (mX7_windOf a0 p1 s0) := by
  refine Ct.of (own := RX7) (by decide) rfl _ (Nat.le_of_ble_eq_true rfl) rfl ?_
  intro p e s m args below meth c h hi
  unfold mX7_windOf
  refine k_aload_n h 0 dX7_windOf_0 rfl rfl ?_
  refine k_iload_n h 1 dX7_windOf_1 rfl rfl ?_
  refine k_aload_n h 0 dX7_windOf_2 rfl rfl ?_
  refine k_getI h fX7_2 (Or.inl (mw4 3 rfl)) dX7_windOf_3 (fun v1 => ?_)
  refine k_iconst (v := 1) h dX7_windOf_6 (by decide) ?_
  refine k_isub h dX7_windOf_7 ?_
  refine k_mmin h (mw12 10 rfl) (mw12 11 rfl) (mw12 12 rfl) (mw12 13 rfl) (Nat.le_of_ble_eq_true rfl) (Nat.le_of_ble_eq_true rfl) (Nat.le_of_ble_eq_true rfl) (Nat.le_of_ble_eq_true rfl) dX7_windOf_8 ?_
  refine k_callVF (As := [LI (mnI p1 (v1 - 1))]) (st := []) (x0 := (some a0)) (xg := fun a5 => mX7_filled a5 (mnI p1 (v1 - 1)) s0) h (fun a5 => ctX7_filled l B D cA sa a5 (mnI p1 (v1 - 1)) s0) calX7_filled rfl (by decide) (mw10 23 rfl) (mw11 0 rfl) (Or.inl (mw12 15 rfl)) hgood ⟨rfl, rfl, Nat.le_of_ble_eq_true rfl, Nat.le_of_ble_eq_true rfl⟩ ⟨Nat.le_of_ble_eq_true rfl, Nat.le_of_ble_eq_true rfl⟩ rfl (Nat.le_of_ble_eq_true rfl) dX7_windOf_11 (fun v2 s3 => ?_)
  refine k_ldcf (v := 1092616192) h dX7_windOf_14 (mw12 14 rfl) ?_
  refine k_fmul h dX7_windOf_16 (fun v4 => ?_)
  refine k_f2i h dX7_windOf_17 ?_
  exact k_iret h rfl dX7_windOf_18 (Nat.le_of_ble_eq_true rfl) (Nat.le_of_ble_eq_true rfl)
def mX0_blowAt (a0 : Nat) (p1 : Int32) (p2 : Int32) (p3 : Int32) (s0 : Sg) : Option (Unit × Sg) :=
if p1 < 0 then (
some ((), s0))
else (
if 12 ≤ p1 then (
some ((), s0))
else (
gdR s0 0 0 (some a0) fun v1 =>
asI s0 v1 p1 p2 fun s2 =>
gdR s2 0 1 (some a0) fun v3 =>
asI s2 v3 p1 p3 fun s4 =>
some ((), s4)))
def rmX0_blowAt : Room := { frames := 0, cells := 0, slots := 0, locals := 0 }
theorem calX0_blowAt : Cal yX0_blowAt cX0_blowAt 4 none 3 := ⟨(mw12 21 rfl), (mw1 16 rfl), by decide, by decide, by decide +kernel⟩
set_option maxHeartbeats 4000000 in
set_option maxRecDepth 100000 in
theorem ctX0_blowAt (l : Launch) (B : Nat) (D : va_G) (cA : Nat → ClassId) (sa : Nat → Nat) (a0 : Nat) (p1 : Int32) (p2 : Int32) (p3 : Int32) (s0 : Sg) : Ct l B D cA sa yX0_blowAt cX0_blowAt 4 none rmX0_blowAt rU [LR (some a0), LI p1, LI p2, LI p3] s0 0 0 (mX0_blowAt a0 p1 p2 p3 s0) := by
  refine Ct.of (own := RX0) (by decide) rfl _ (Nat.le_of_ble_eq_true rfl) rfl ?_
  intro p e s m args below meth c h hi
  unfold mX0_blowAt
  refine k_iload_n h 1 dX0_blowAt_0 rfl rfl ?_
  refine k_if_lt (tgt := 24) h dX0_blowAt_1 (by decide) ?_ ?_
  · exact k_vret h rfl dX0_blowAt_24 (Nat.le_of_ble_eq_true rfl) (Nat.le_of_ble_eq_true rfl)
  · refine k_iload_n h 1 dX0_blowAt_4 rfl rfl ?_
    refine k_bipush (v := 12) h dX0_blowAt_5 (by decide) ?_
    refine k_icmp_ge (tgt := 24) h dX0_blowAt_7 (by decide) ?_ ?_
    · exact k_vret h rfl dX0_blowAt_24 (Nat.le_of_ble_eq_true rfl) (Nat.le_of_ble_eq_true rfl)
    · refine k_aload_n h 0 dX0_blowAt_10 rfl rfl ?_
      refine k_getR h fX0_0 (Or.inl (mw3 10 rfl)) dX0_blowAt_11 (fun v1 => ?_)
      refine k_iload_n h 1 dX0_blowAt_14 rfl rfl ?_
      refine k_iload_n h 2 dX0_blowAt_15 rfl rfl ?_
      refine k_asI h dX0_blowAt_16 (fun s2 => ?_)
      refine k_aload_n h 0 dX0_blowAt_17 rfl rfl ?_
      refine k_getR h fX0_1 (Or.inl (mw3 11 rfl)) dX0_blowAt_18 (fun v3 => ?_)
      refine k_iload_n h 1 dX0_blowAt_21 rfl rfl ?_
      refine k_iload_n h 3 dX0_blowAt_22 rfl rfl ?_
      refine k_asI h dX0_blowAt_23 (fun s4 => ?_)
      exact k_vret h rfl dX0_blowAt_24 (Nat.le_of_ble_eq_true rfl) (Nat.le_of_ble_eq_true rfl)
def mX0_blowAs_b2 (a0 : Nat) (p1 : Option Nat) (r3 : (Int32) → Sg → Option (Unit × Sg)) (q1 : Int32) (s2 : Sg) : Option (Unit × Sg) :=
if 12 ≤ q1 then (
some ((), s2))
else (
gdR s2 0 0 (some a0) fun v4 =>
gdR s2 0 0 p1 fun v5 =>
alI s2 v5 q1 fun v6 =>
asI s2 v4 q1 v6 fun s7 =>
gdR s7 0 1 (some a0) fun v8 =>
gdR s7 0 1 p1 fun v9 =>
alI s7 v9 q1 fun v10 =>
asI s7 v8 q1 v10 fun s11 =>
r3 (q1 + 1) s11)
def mX0_blowAs (a0 : Nat) (p1 : Option Nat) (s0 : Sg) : Option (Unit × Sg) :=
lp (mX0_blowAs_b2 a0 p1) FU 0 s0
def rmX0_blowAs : Room := { frames := 0, cells := 0, slots := 0, locals := 0 }
theorem calX0_blowAs : Cal yX0_blowAs cX0_blowAs 3 none 1 := ⟨(mw38 1 rfl), (mw1 16 rfl), by decide, by decide, by decide +kernel⟩
set_option maxHeartbeats 4000000 in
set_option maxRecDepth 100000 in
theorem ctX0_blowAs (l : Launch) (B : Nat) (D : va_G) (cA : Nat → ClassId) (sa : Nat → Nat) (a0 : Nat) (p1 : Option Nat) (s0 : Sg) : Ct l B D cA sa yX0_blowAs cX0_blowAs 3 none rmX0_blowAs rU [LR (some a0), LR p1] s0 0 0 (mX0_blowAs a0 p1 s0) := by
  refine Ct.of (own := RX0) (by decide) rfl _ (Nat.le_of_ble_eq_true rfl) rfl ?_
  intro p e s m args below meth c h hi
  unfold mX0_blowAs
  refine k_iconst (v := 0) h dX0_blowAs_0 (by decide) ?_
  refine k_istore_n (lv' := [(2, LI 0), (0, LR (some a0)), (1, LR p1)]) h dX0_blowAs_1 rfl (by decide) rfl ?_
  refine k_sub (lv' := [(0, LR (some a0)), (1, LR p1), (2, LI 0)]) h [1, 2, 0] rfl ?_
  refine k_lp (A := Int32) (fun q1 => [(0, LR (some a0)), (1, LR p1), (2, LI q1)]) (fun q1 => []) (fun r3 hr3 q1 s2 => ?_) FU 0 s0
  unfold mX0_blowAs_b2
  refine k_iload_n h 2 dX0_blowAs_2 rfl rfl ?_
  refine k_bipush (v := 12) h dX0_blowAs_3 (by decide) ?_
  refine k_icmp_ge (tgt := 38) h dX0_blowAs_5 (by decide) ?_ ?_
  · exact k_vret h rfl dX0_blowAs_38 (Nat.le_of_ble_eq_true rfl) (Nat.le_of_ble_eq_true rfl)
  · refine k_aload_n h 0 dX0_blowAs_8 rfl rfl ?_
    refine k_getR h fX0_0 (Or.inl (mw3 10 rfl)) dX0_blowAs_9 (fun v4 => ?_)
    refine k_iload_n h 2 dX0_blowAs_12 rfl rfl ?_
    refine k_aload_n h 1 dX0_blowAs_13 rfl rfl ?_
    refine k_getR h fX0_0 (Or.inl (mw3 10 rfl)) dX0_blowAs_14 (fun v5 => ?_)
    refine k_iload_n h 2 dX0_blowAs_17 rfl rfl ?_
    refine k_alI h dX0_blowAs_18 (fun v6 => ?_)
    refine k_asI h dX0_blowAs_19 (fun s7 => ?_)
    refine k_aload_n h 0 dX0_blowAs_20 rfl rfl ?_
    refine k_getR h fX0_1 (Or.inl (mw3 11 rfl)) dX0_blowAs_21 (fun v8 => ?_)
    refine k_iload_n h 2 dX0_blowAs_24 rfl rfl ?_
    refine k_aload_n h 1 dX0_blowAs_25 rfl rfl ?_
    refine k_getR h fX0_1 (Or.inl (mw3 11 rfl)) dX0_blowAs_26 (fun v9 => ?_)
    refine k_iload_n h 2 dX0_blowAs_29 rfl rfl ?_
    refine k_alI h dX0_blowAs_30 (fun v10 => ?_)
    refine k_asI h dX0_blowAs_31 (fun s11 => ?_)
    refine k_iinc (w := (q1 + 1)) (lv' := [(2, LI (q1 + 1)), (0, LR (some a0)), (1, LR p1)]) h 2 dX0_blowAs_32 rfl rfl (by decide) rfl ?_
    refine k_goto (tgt := 2) h dX0_blowAs_35 (by decide) ?_
    refine k_sub (lv' := [(0, LR (some a0)), (1, LR p1), (2, LI (q1 + 1))]) h [1, 2, 0] rfl ?_
    exact hr3 (q1 + 1) s11
def mX0_alongX (a0 : Nat) (p1 : Int32) (s0 : Sg) : Option (Int32 × Sg) :=
if p1 < 0 then (
some (0, s0))
else (
if 12 ≤ p1 then (
some (0, s0))
else (
gdR s0 0 0 (some a0) fun v1 =>
alI s0 v1 p1 fun v2 =>
some (v2, s0)))
def rmX0_alongX : Room := { frames := 0, cells := 0, slots := 0, locals := 0 }
theorem calX0_alongX : Cal yX0_alongX cX0_alongX 2 (some .int) 1 := ⟨(mw14 0 rfl), (mw1 16 rfl), by decide, by decide, by decide +kernel⟩
set_option maxHeartbeats 4000000 in
set_option maxRecDepth 100000 in
theorem ctX0_alongX (l : Launch) (B : Nat) (D : va_G) (cA : Nat → ClassId) (sa : Nat → Nat) (a0 : Nat) (p1 : Int32) (s0 : Sg) : Ct l B D cA sa yX0_alongX cX0_alongX 2 (some .int) rmX0_alongX rI [LR (some a0), LI p1] s0 0 0 (mX0_alongX a0 p1 s0) := by
  refine Ct.of (own := RX0) (by decide) rfl _ (Nat.le_of_ble_eq_true rfl) rfl ?_
  intro p e s m args below meth c h hi
  unfold mX0_alongX
  refine k_iload_n h 1 dX0_alongX_0 rfl rfl ?_
  refine k_if_lt (tgt := 19) h dX0_alongX_1 (by decide) ?_ ?_
  · refine k_iconst (v := 0) h dX0_alongX_19 (by decide) ?_
    exact k_iret h rfl dX0_alongX_20 (Nat.le_of_ble_eq_true rfl) (Nat.le_of_ble_eq_true rfl)
  · refine k_iload_n h 1 dX0_alongX_4 rfl rfl ?_
    refine k_bipush (v := 12) h dX0_alongX_5 (by decide) ?_
    refine k_icmp_ge (tgt := 19) h dX0_alongX_7 (by decide) ?_ ?_
    · refine k_iconst (v := 0) h dX0_alongX_19 (by decide) ?_
      exact k_iret h rfl dX0_alongX_20 (Nat.le_of_ble_eq_true rfl) (Nat.le_of_ble_eq_true rfl)
    · refine k_aload_n h 0 dX0_alongX_10 rfl rfl ?_
      refine k_getR h fX0_0 (Or.inl (mw3 10 rfl)) dX0_alongX_11 (fun v1 => ?_)
      refine k_iload_n h 1 dX0_alongX_14 rfl rfl ?_
      refine k_alI h dX0_alongX_15 (fun v2 => ?_)
      refine k_goto (tgt := 20) h dX0_alongX_16 (by decide) ?_
      exact k_iret h rfl dX0_alongX_20 (Nat.le_of_ble_eq_true rfl) (Nat.le_of_ble_eq_true rfl)
def mX0_alongY (a0 : Nat) (p1 : Int32) (s0 : Sg) : Option (Int32 × Sg) :=
if p1 < 0 then (
some (0, s0))
else (
if 12 ≤ p1 then (
some (0, s0))
else (
gdR s0 0 1 (some a0) fun v1 =>
alI s0 v1 p1 fun v2 =>
some (v2, s0)))
def rmX0_alongY : Room := { frames := 0, cells := 0, slots := 0, locals := 0 }
theorem calX0_alongY : Cal yX0_alongY cX0_alongY 2 (some .int) 1 := ⟨(mw14 3 rfl), (mw1 16 rfl), by decide, by decide, by decide +kernel⟩
set_option maxHeartbeats 4000000 in
set_option maxRecDepth 100000 in
theorem ctX0_alongY (l : Launch) (B : Nat) (D : va_G) (cA : Nat → ClassId) (sa : Nat → Nat) (a0 : Nat) (p1 : Int32) (s0 : Sg) : Ct l B D cA sa yX0_alongY cX0_alongY 2 (some .int) rmX0_alongY rI [LR (some a0), LI p1] s0 0 0 (mX0_alongY a0 p1 s0) := by
  refine Ct.of (own := RX0) (by decide) rfl _ (Nat.le_of_ble_eq_true rfl) rfl ?_
  intro p e s m args below meth c h hi
  unfold mX0_alongY
  refine k_iload_n h 1 dX0_alongY_0 rfl rfl ?_
  refine k_if_lt (tgt := 19) h dX0_alongY_1 (by decide) ?_ ?_
  · refine k_iconst (v := 0) h dX0_alongY_19 (by decide) ?_
    exact k_iret h rfl dX0_alongY_20 (Nat.le_of_ble_eq_true rfl) (Nat.le_of_ble_eq_true rfl)
  · refine k_iload_n h 1 dX0_alongY_4 rfl rfl ?_
    refine k_bipush (v := 12) h dX0_alongY_5 (by decide) ?_
    refine k_icmp_ge (tgt := 19) h dX0_alongY_7 (by decide) ?_ ?_
    · refine k_iconst (v := 0) h dX0_alongY_19 (by decide) ?_
      exact k_iret h rfl dX0_alongY_20 (Nat.le_of_ble_eq_true rfl) (Nat.le_of_ble_eq_true rfl)
    · refine k_aload_n h 0 dX0_alongY_10 rfl rfl ?_
      refine k_getR h fX0_1 (Or.inl (mw3 11 rfl)) dX0_alongY_11 (fun v1 => ?_)
      refine k_iload_n h 1 dX0_alongY_14 rfl rfl ?_
      refine k_alI h dX0_alongY_15 (fun v2 => ?_)
      refine k_goto (tgt := 20) h dX0_alongY_16 (by decide) ?_
      exact k_iret h rfl dX0_alongY_20 (Nat.le_of_ble_eq_true rfl) (Nat.le_of_ble_eq_true rfl)
def mX0_squareOnGround (a0 : Nat) (s0 : Sg) : Option (Int32 × Sg) :=
gdR s0 0 0 (some a0) fun v1 =>
alI s0 v1 0 fun v2 =>
gdR s0 0 0 (some a0) fun v3 =>
alI s0 v3 0 fun v4 =>
gdR s0 0 1 (some a0) fun v5 =>
alI s0 v5 0 fun v6 =>
gdR s0 0 1 (some a0) fun v7 =>
alI s0 v7 0 fun v8 =>
some (((v2 * v4) + (v6 * v8)), s0)
def rmX0_squareOnGround : Room := { frames := 0, cells := 0, slots := 0, locals := 0 }
theorem calX0_squareOnGround : Cal yX0_squareOnGround cX0_squareOnGround 1 (some .int) 0 := ⟨(mw34 18 rfl), (mw1 16 rfl), by decide, by decide, by decide +kernel⟩
set_option maxHeartbeats 4000000 in
set_option maxRecDepth 100000 in
theorem ctX0_squareOnGround (l : Launch) (B : Nat) (D : va_G) (cA : Nat → ClassId) (sa : Nat → Nat) (a0 : Nat) (s0 : Sg) : Ct l B D cA sa yX0_squareOnGround cX0_squareOnGround 1 (some .int) rmX0_squareOnGround rI [LR (some a0)] s0 0 0 (mX0_squareOnGround a0 s0) := by
  refine Ct.of (own := RX0) (by decide) rfl _ (Nat.le_of_ble_eq_true rfl) rfl ?_
  intro p e s m args below meth c h hi
  unfold mX0_squareOnGround
  refine k_aload_n h 0 dX0_squareOnGround_0 rfl rfl ?_
  refine k_getR h fX0_0 (Or.inl (mw3 10 rfl)) dX0_squareOnGround_1 (fun v1 => ?_)
  refine k_iconst (v := 0) h dX0_squareOnGround_4 (by decide) ?_
  refine k_alI h dX0_squareOnGround_5 (fun v2 => ?_)
  refine k_aload_n h 0 dX0_squareOnGround_6 rfl rfl ?_
  refine k_getR h fX0_0 (Or.inl (mw3 10 rfl)) dX0_squareOnGround_7 (fun v3 => ?_)
  refine k_iconst (v := 0) h dX0_squareOnGround_10 (by decide) ?_
  refine k_alI h dX0_squareOnGround_11 (fun v4 => ?_)
  refine k_imul h dX0_squareOnGround_12 ?_
  refine k_aload_n h 0 dX0_squareOnGround_13 rfl rfl ?_
  refine k_getR h fX0_1 (Or.inl (mw3 11 rfl)) dX0_squareOnGround_14 (fun v5 => ?_)
  refine k_iconst (v := 0) h dX0_squareOnGround_17 (by decide) ?_
  refine k_alI h dX0_squareOnGround_18 (fun v6 => ?_)
  refine k_aload_n h 0 dX0_squareOnGround_19 rfl rfl ?_
  refine k_getR h fX0_1 (Or.inl (mw3 11 rfl)) dX0_squareOnGround_20 (fun v7 => ?_)
  refine k_iconst (v := 0) h dX0_squareOnGround_23 (by decide) ?_
  refine k_alI h dX0_squareOnGround_24 (fun v8 => ?_)
  refine k_imul h dX0_squareOnGround_25 ?_
  refine k_iadd h dX0_squareOnGround_26 ?_
  exact k_iret h rfl dX0_squareOnGround_27 (Nat.le_of_ble_eq_true rfl) (Nat.le_of_ble_eq_true rfl)
def mX3_become (a0 : Nat) (p1 : Int32) (p2 : Int32) (p3 : Int32) (s0 : Sg) : Option (Unit × Sg) :=
ptI s0 3 1 (some a0) p1 fun s1 =>
ptI s1 3 2 (some a0) p2 fun s2 =>
ptI s2 3 3 (some a0) p3 fun s3 =>
some ((), s3)
def rmX3_become : Room := { frames := 0, cells := 0, slots := 0, locals := 0 }
theorem calX3_become : Cal yX3_become cX3_become 4 none 3 := ⟨(mw14 18 rfl), (mw2 21 rfl), by decide, by decide, by decide +kernel⟩
set_option maxHeartbeats 4000000 in
set_option maxRecDepth 100000 in
theorem ctX3_become (l : Launch) (B : Nat) (D : va_G) (cA : Nat → ClassId) (sa : Nat → Nat) (a0 : Nat) (p1 : Int32) (p2 : Int32) (p3 : Int32) (s0 : Sg) : Ct l B D cA sa yX3_become cX3_become 4 none rmX3_become rU [LR (some a0), LI p1, LI p2, LI p3] s0 0 0 (mX3_become a0 p1 p2 p3 s0) := by
  refine Ct.of (own := RX3) (by decide) rfl _ (Nat.le_of_ble_eq_true rfl) rfl ?_
  intro p e s m args below meth c h hi
  unfold mX3_become
  refine k_aload_n h 0 dX3_become_0 rfl rfl ?_
  refine k_iload_n h 1 dX3_become_1 rfl rfl ?_
  refine k_putI h fX3_1 (Or.inl (mw4 8 rfl)) rfl dX3_become_2 (fun s1 => ?_)
  refine k_aload_n h 0 dX3_become_5 rfl rfl ?_
  refine k_iload_n h 2 dX3_become_6 rfl rfl ?_
  refine k_putI h fX3_2 (Or.inl (mw4 9 rfl)) rfl dX3_become_7 (fun s2 => ?_)
  refine k_aload_n h 0 dX3_become_10 rfl rfl ?_
  refine k_iload_n h 3 dX3_become_11 rfl rfl ?_
  refine k_putI h fX3_3 (Or.inl (mw4 10 rfl)) rfl dX3_become_12 (fun s3 => ?_)
  exact k_vret h rfl dX3_become_15 (Nat.le_of_ble_eq_true rfl) (Nat.le_of_ble_eq_true rfl)
def mX2_become (a0 : Nat) (p1 : Int32) (p2 : Int32) (p3 : Int32) (p4 : Int32) (s0 : Sg) : Option (Unit × Sg) :=
ptI s0 2 3 (some a0) p1 fun s1 =>
ptI s1 2 4 (some a0) p2 fun s2 =>
ptI s2 2 5 (some a0) p3 fun s3 =>
ptI s3 2 6 (some a0) p4 fun s4 =>
some ((), s4)
def rmX2_become : Room := { frames := 0, cells := 0, slots := 0, locals := 0 }
theorem calX2_become : Cal yX2_become cX2_become 5 none 4 := ⟨(mw15 9 rfl), (mw2 23 rfl), by decide, by decide, by decide +kernel⟩
set_option maxHeartbeats 4000000 in
set_option maxRecDepth 100000 in
theorem ctX2_become (l : Launch) (B : Nat) (D : va_G) (cA : Nat → ClassId) (sa : Nat → Nat) (a0 : Nat) (p1 : Int32) (p2 : Int32) (p3 : Int32) (p4 : Int32) (s0 : Sg) : Ct l B D cA sa yX2_become cX2_become 5 none rmX2_become rU [LR (some a0), LI p1, LI p2, LI p3, LI p4] s0 0 0 (mX2_become a0 p1 p2 p3 p4 s0) := by
  refine Ct.of (own := RX2) (by decide) rfl _ (Nat.le_of_ble_eq_true rfl) rfl ?_
  intro p e s m args below meth c h hi
  unfold mX2_become
  refine k_aload_n h 0 dX2_become_0 rfl rfl ?_
  refine k_iload_n h 1 dX2_become_1 rfl rfl ?_
  refine k_putI h fX2_3 (Or.inl (mw4 18 rfl)) rfl dX2_become_2 (fun s1 => ?_)
  refine k_aload_n h 0 dX2_become_5 rfl rfl ?_
  refine k_iload_n h 2 dX2_become_6 rfl rfl ?_
  refine k_putI h fX2_4 (Or.inl (mw4 19 rfl)) rfl dX2_become_7 (fun s2 => ?_)
  refine k_aload_n h 0 dX2_become_10 rfl rfl ?_
  refine k_iload_n h 3 dX2_become_11 rfl rfl ?_
  refine k_putI h fX2_5 (Or.inl (mw4 20 rfl)) rfl dX2_become_12 (fun s3 => ?_)
  refine k_aload_n h 0 dX2_become_15 rfl rfl ?_
  refine k_iload h 4 dX2_become_16 rfl ?_
  refine k_putI h fX2_6 (Or.inl (mw4 21 rfl)) rfl dX2_become_18 (fun s4 => ?_)
  exact k_vret h rfl dX2_become_21 (Nat.le_of_ble_eq_true rfl) (Nat.le_of_ble_eq_true rfl)
def mX2_holds_b2 (a0 : Nat) (p1 : Option Nat) (r3 : (Int32) → Sg → Option (Int32 × Sg)) (q1 : Int32) (s2 : Sg) : Option (Int32 × Sg) :=
gdI s2 2 2 (some a0) fun v4 =>
if v4 ≤ q1 then (
ckB 0 (some (0, s2)))
else (
gdR s2 2 1 (some a0) fun v5 =>
alR s2 3 v5 q1 fun v6 =>
if ¬ v6 = p1 then (
r3 (q1 + 1) s2)
else (
ckB 1 (some (1, s2))))
def mX2_holds (a0 : Nat) (p1 : Option Nat) (s0 : Sg) : Option (Int32 × Sg) :=
lp (mX2_holds_b2 a0 p1) FU 0 s0
def rmX2_holds : Room := { frames := 0, cells := 0, slots := 0, locals := 0 }
theorem calX2_holds : Cal yX2_holds cX2_holds 3 (some .boolean) 1 := ⟨(mw16 12 rfl), (mw2 23 rfl), by decide, by decide, by decide +kernel⟩
set_option maxHeartbeats 4000000 in
set_option maxRecDepth 100000 in
theorem ctX2_holds (l : Launch) (B : Nat) (D : va_G) (cA : Nat → ClassId) (sa : Nat → Nat) (a0 : Nat) (p1 : Option Nat) (s0 : Sg) : Ct l B D cA sa yX2_holds cX2_holds 3 (some .boolean) rmX2_holds rI [LR (some a0), LR p1] s0 0 0 (mX2_holds a0 p1 s0) := by
  refine Ct.of (own := RX2) (by decide) rfl _ (Nat.le_of_ble_eq_true rfl) rfl ?_
  intro p e s m args below meth c h hi
  unfold mX2_holds
  refine k_iconst (v := 0) h dX2_holds_0 (by decide) ?_
  refine k_istore_n (lv' := [(2, LI 0), (0, LR (some a0)), (1, LR p1)]) h dX2_holds_1 rfl (by decide) rfl ?_
  refine k_sub (lv' := [(0, LR (some a0)), (1, LR p1), (2, LI 0)]) h [1, 2, 0] rfl ?_
  refine k_lp (A := Int32) (fun q1 => [(0, LR (some a0)), (1, LR p1), (2, LI q1)]) (fun q1 => []) (fun r3 hr3 q1 s2 => ?_) FU 0 s0
  unfold mX2_holds_b2
  refine k_iload_n h 2 dX2_holds_2 rfl rfl ?_
  refine k_aload_n h 0 dX2_holds_3 rfl rfl ?_
  refine k_getI h fX2_2 (Or.inl (mw4 17 rfl)) dX2_holds_4 (fun v4 => ?_)
  refine k_icmp_ge (tgt := 28) h dX2_holds_7 (by decide) ?_ ?_
  · refine k_iconst (v := 0) h dX2_holds_28 (by decide) ?_
    exact k_zret h rfl dX2_holds_29 (Nat.le_of_ble_eq_true rfl) (Nat.le_of_ble_eq_true rfl)
  · refine k_aload_n h 0 dX2_holds_10 rfl rfl ?_
    refine k_getR h fX2_1 (Or.inl (mw4 16 rfl)) dX2_holds_11 (fun v5 => ?_)
    refine k_iload_n h 2 dX2_holds_14 rfl rfl ?_
    refine k_alR h rfl rfl dX2_holds_15 (fun v6 => ?_)
    refine k_aload_n h 1 dX2_holds_16 rfl rfl ?_
    refine k_acmp_ne (tgt := 22) h dX2_holds_17 (by decide) ?_ ?_
    · refine k_iinc (w := (q1 + 1)) (lv' := [(2, LI (q1 + 1)), (0, LR (some a0)), (1, LR p1)]) h 2 dX2_holds_22 rfl rfl (by decide) rfl ?_
      refine k_goto (tgt := 2) h dX2_holds_25 (by decide) ?_
      refine k_sub (lv' := [(0, LR (some a0)), (1, LR p1), (2, LI (q1 + 1))]) h [1, 2, 0] rfl ?_
      exact hr3 (q1 + 1) s2
    · refine k_iconst (v := 1) h dX2_holds_20 (by decide) ?_
      exact k_zret h rfl dX2_holds_21 (Nat.le_of_ble_eq_true rfl) (Nat.le_of_ble_eq_true rfl)
def mX2_add (a0 : Nat) (p1 : Option Nat) (s0 : Sg) : Option (Unit × Sg) :=
gdI s0 2 2 (some a0) fun v1 =>
gdR s0 2 1 (some a0) fun v2 =>
aln s0 v2 fun v3 =>
if v3 ≤ v1 then (
some ((), s0))
else (
gdR s0 2 1 (some a0) fun v4 =>
gdI s0 2 2 (some a0) fun v5 =>
asR s0 3 v4 v5 p1 fun s6 =>
gdI s6 2 2 (some a0) fun v7 =>
ptI s6 2 2 (some a0) (v7 + 1) fun s8 =>
some ((), s8))
def rmX2_add : Room := { frames := 0, cells := 0, slots := 0, locals := 0 }
theorem calX2_add : Cal yX2_add cX2_add 2 none 1 := ⟨(mw16 15 rfl), (mw2 23 rfl), by decide, by decide, by decide +kernel⟩
set_option maxHeartbeats 4000000 in
set_option maxRecDepth 100000 in
theorem ctX2_add (l : Launch) (B : Nat) (D : va_G) (cA : Nat → ClassId) (sa : Nat → Nat) (a0 : Nat) (p1 : Option Nat) (s0 : Sg) : Ct l B D cA sa yX2_add cX2_add 2 none rmX2_add rU [LR (some a0), LR p1] s0 0 0 (mX2_add a0 p1 s0) := by
  refine Ct.of (own := RX2) (by decide) rfl _ (Nat.le_of_ble_eq_true rfl) rfl ?_
  intro p e s m args below meth c h hi
  unfold mX2_add
  refine k_aload_n h 0 dX2_add_0 rfl rfl ?_
  refine k_getI h fX2_2 (Or.inl (mw4 17 rfl)) dX2_add_1 (fun v1 => ?_)
  refine k_aload_n h 0 dX2_add_4 rfl rfl ?_
  refine k_getR h fX2_1 (Or.inl (mw4 16 rfl)) dX2_add_5 (fun v2 => ?_)
  refine k_aln h dX2_add_8 (fun v3 => ?_)
  refine k_icmp_ge (tgt := 32) h dX2_add_9 (by decide) ?_ ?_
  · exact k_vret h rfl dX2_add_32 (Nat.le_of_ble_eq_true rfl) (Nat.le_of_ble_eq_true rfl)
  · refine k_aload_n h 0 dX2_add_12 rfl rfl ?_
    refine k_getR h fX2_1 (Or.inl (mw4 16 rfl)) dX2_add_13 (fun v4 => ?_)
    refine k_aload_n h 0 dX2_add_16 rfl rfl ?_
    refine k_getI h fX2_2 (Or.inl (mw4 17 rfl)) dX2_add_17 (fun v5 => ?_)
    refine k_aload_n h 1 dX2_add_20 rfl rfl ?_
    refine k_asR h rfl rfl rfl (by decide) dX2_add_21 (fun s6 => ?_)
    refine k_aload_n h 0 dX2_add_22 rfl rfl ?_
    refine k_dup h dX2_add_23 rfl ?_
    refine k_getI h fX2_2 (Or.inl (mw4 17 rfl)) dX2_add_24 (fun v7 => ?_)
    refine k_iconst (v := 1) h dX2_add_27 (by decide) ?_
    refine k_iadd h dX2_add_28 ?_
    refine k_putI h fX2_2 (Or.inl (mw4 17 rfl)) rfl dX2_add_29 (fun s8 => ?_)
    exact k_vret h rfl dX2_add_32 (Nat.le_of_ble_eq_true rfl) (Nat.le_of_ble_eq_true rfl)
def mX2_weight_b4 (a0 : Nat) (r3 : (Int32 × Int32) → Sg → Option (Int32 × Sg)) (q1 : Int32 × Int32) (s2 : Sg) : Option (Int32 × Sg) :=
gdI s2 2 2 (some a0) fun v4 =>
if v4 ≤ q1.2 then (
some (q1.1, s2))
else (
gdR s2 2 1 (some a0) fun v5 =>
alR s2 3 v5 q1.2 fun v6 =>
gdI s2 3 2 v6 fun v7 =>
r3 ((q1.1 + v7), (q1.2 + 1)) s2)
def mX2_weight (a0 : Nat) (s0 : Sg) : Option (Int32 × Sg) :=
lp (mX2_weight_b4 a0) FU (0, 0) s0
def rmX2_weight : Room := { frames := 0, cells := 0, slots := 0, locals := 0 }
theorem calX2_weight : Cal yX2_weight cX2_weight 3 (some .int) 0 := ⟨(mw17 19 rfl), (mw2 23 rfl), by decide, by decide, by decide +kernel⟩
set_option maxHeartbeats 4000000 in
set_option maxRecDepth 100000 in
theorem ctX2_weight (l : Launch) (B : Nat) (D : va_G) (cA : Nat → ClassId) (sa : Nat → Nat) (a0 : Nat) (s0 : Sg) : Ct l B D cA sa yX2_weight cX2_weight 3 (some .int) rmX2_weight rI [LR (some a0)] s0 0 0 (mX2_weight a0 s0) := by
  refine Ct.of (own := RX2) (by decide) rfl _ (Nat.le_of_ble_eq_true rfl) rfl ?_
  intro p e s m args below meth c h hi
  unfold mX2_weight
  refine k_iconst (v := 0) h dX2_weight_0 (by decide) ?_
  refine k_istore_n (lv' := [(1, LI 0), (0, LR (some a0))]) h dX2_weight_1 rfl (by decide) rfl ?_
  refine k_iconst (v := 0) h dX2_weight_2 (by decide) ?_
  refine k_istore_n (lv' := [(2, LI 0), (1, LI 0), (0, LR (some a0))]) h dX2_weight_3 rfl (by decide) rfl ?_
  refine k_sub (lv' := [(0, LR (some a0)), (1, LI 0), (2, LI 0)]) h [2, 1, 0] rfl ?_
  refine k_lp (A := Int32 × Int32) (fun q1 => [(0, LR (some a0)), (1, LI q1.1), (2, LI q1.2)]) (fun q1 => []) (fun r3 hr3 q1 s2 => ?_) FU (0, 0) s0
  unfold mX2_weight_b4
  refine k_iload_n h 2 dX2_weight_4 rfl rfl ?_
  refine k_aload_n h 0 dX2_weight_5 rfl rfl ?_
  refine k_getI h fX2_2 (Or.inl (mw4 17 rfl)) dX2_weight_6 (fun v4 => ?_)
  refine k_icmp_ge (tgt := 30) h dX2_weight_9 (by decide) ?_ ?_
  · refine k_iload_n h 1 dX2_weight_30 rfl rfl ?_
    exact k_iret h rfl dX2_weight_31 (Nat.le_of_ble_eq_true rfl) (Nat.le_of_ble_eq_true rfl)
  · refine k_iload_n h 1 dX2_weight_12 rfl rfl ?_
    refine k_aload_n h 0 dX2_weight_13 rfl rfl ?_
    refine k_getR h fX2_1 (Or.inl (mw4 16 rfl)) dX2_weight_14 (fun v5 => ?_)
    refine k_iload_n h 2 dX2_weight_17 rfl rfl ?_
    refine k_alR h rfl rfl dX2_weight_18 (fun v6 => ?_)
    refine k_getI h fX3_2 (Or.inr ⟨_, nwf 5 rfl⟩) dX2_weight_19 (fun v7 => ?_)
    refine k_iadd h dX2_weight_22 ?_
    refine k_istore_n (lv' := [(1, LI (q1.1 + v7)), (0, LR (some a0)), (2, LI q1.2)]) h dX2_weight_23 rfl (by decide) rfl ?_
    refine k_iinc (w := (q1.2 + 1)) (lv' := [(2, LI (q1.2 + 1)), (1, LI (q1.1 + v7)), (0, LR (some a0))]) h 2 dX2_weight_24 rfl rfl (by decide) rfl ?_
    refine k_goto (tgt := 4) h dX2_weight_27 (by decide) ?_
    refine k_sub (lv' := [(0, LR (some a0)), (1, LI (q1.1 + v7)), (2, LI (q1.2 + 1))]) h [2, 1, 0] rfl ?_
    exact hr3 ((q1.1 + v7), (q1.2 + 1)) s2
def mX2_tell (a0 : Nat) (p1 : Int32) (s0 : Sg) : Option (Int32 × Sg) :=
swc p1 0 [
gdI s0 2 3 (some a0) fun v5 =>
some (v5, s0),
gdI s0 2 4 (some a0) fun v6 =>
some (v6, s0),
gdI s0 2 5 (some a0) fun v7 =>
some (v7, s0),
gdI s0 2 6 (some a0) fun v8 =>
some (v8, s0),
gdI s0 2 2 (some a0) fun v9 =>
some (v9, s0),
cv s0 2 (some a0) fun a12 => cl (mX2_weight a12 s0) fun v10 s11 =>
some (v10, s11)] (
if p1 < 10 then (
some ((-1), s0))
else (
gdI s0 2 2 (some a0) fun v1 =>
if (10 + v1) ≤ p1 then (
some ((-1), s0))
else (
gdR s0 2 1 (some a0) fun v2 =>
alR s0 3 v2 (p1 - 10) fun v3 =>
gdI s0 3 0 v3 fun v4 =>
some (v4, s0))))
def rmX2_tell : Room := { frames := 1, cells := 0, slots := 0, locals := 22 }
theorem calX2_tell : Cal yX2_tell cX2_tell 2 (some .int) 1 := ⟨(mw17 15 rfl), (mw2 23 rfl), by decide, by decide, by decide +kernel⟩
set_option maxHeartbeats 4000000 in
set_option maxRecDepth 100000 in
theorem ctX2_tell (l : Launch) (B : Nat) (D : va_G) (cA : Nat → ClassId) (sa : Nat → Nat) (a0 : Nat) (p1 : Int32) (s0 : Sg) : Ct l B D cA sa yX2_tell cX2_tell 2 (some .int) rmX2_tell rI [LR (some a0), LI p1] s0 0 0 (mX2_tell a0 p1 s0) := by
  refine Ct.of (own := RX2) (by decide) rfl _ (Nat.le_of_ble_eq_true rfl) rfl ?_
  intro p e s m args below meth c h hi
  unfold mX2_tell
  refine k_iload_n h 1 dX2_tell_0 rfl rfl ?_
  refine k_table (tg := 70) (tgs := [40, 45, 50, 55, 60, 65]) h dX2_tell_1 (by decide) (by decide) rfl (by decide) ?_ ?_
  · refine k_iload_n h 1 dX2_tell_70 rfl rfl ?_
    refine k_bipush (v := 10) h dX2_tell_71 (by decide) ?_
    refine k_icmp_lt (tgt := 102) h dX2_tell_73 (by decide) ?_ ?_
    · refine k_iconst (v := (-1)) h dX2_tell_102 (by decide) ?_
      exact k_iret h rfl dX2_tell_103 (Nat.le_of_ble_eq_true rfl) (Nat.le_of_ble_eq_true rfl)
    · refine k_iload_n h 1 dX2_tell_76 rfl rfl ?_
      refine k_bipush (v := 10) h dX2_tell_77 (by decide) ?_
      refine k_aload_n h 0 dX2_tell_79 rfl rfl ?_
      refine k_getI h fX2_2 (Or.inl (mw4 17 rfl)) dX2_tell_80 (fun v1 => ?_)
      refine k_iadd h dX2_tell_83 ?_
      refine k_icmp_ge (tgt := 102) h dX2_tell_84 (by decide) ?_ ?_
      · refine k_iconst (v := (-1)) h dX2_tell_102 (by decide) ?_
        exact k_iret h rfl dX2_tell_103 (Nat.le_of_ble_eq_true rfl) (Nat.le_of_ble_eq_true rfl)
      · refine k_aload_n h 0 dX2_tell_87 rfl rfl ?_
        refine k_getR h fX2_1 (Or.inl (mw4 16 rfl)) dX2_tell_88 (fun v2 => ?_)
        refine k_iload_n h 1 dX2_tell_91 rfl rfl ?_
        refine k_bipush (v := 10) h dX2_tell_92 (by decide) ?_
        refine k_isub h dX2_tell_94 ?_
        refine k_alR h rfl rfl dX2_tell_95 (fun v3 => ?_)
        refine k_getI h fX3_0 (Or.inr ⟨_, nwf 3 rfl⟩) dX2_tell_96 (fun v4 => ?_)
        refine k_goto (tgt := 103) h dX2_tell_99 (by decide) ?_
        exact k_iret h rfl dX2_tell_103 (Nat.le_of_ble_eq_true rfl) (Nat.le_of_ble_eq_true rfl)
  · intro q9 hq9
    simp only [List.zip_cons_cons, List.zip_nil_right, List.zip_nil_left, List.mem_cons, List.not_mem_nil, or_false] at hq9
    rcases hq9 with rfl | rfl | rfl | rfl | rfl | rfl
    · dsimp only
      refine k_aload_n h 0 dX2_tell_40 rfl rfl ?_
      refine k_getI h fX2_3 (Or.inl (mw4 18 rfl)) dX2_tell_41 (fun v5 => ?_)
      exact k_iret h rfl dX2_tell_44 (Nat.le_of_ble_eq_true rfl) (Nat.le_of_ble_eq_true rfl)
    · dsimp only
      refine k_aload_n h 0 dX2_tell_45 rfl rfl ?_
      refine k_getI h fX2_4 (Or.inl (mw4 19 rfl)) dX2_tell_46 (fun v6 => ?_)
      exact k_iret h rfl dX2_tell_49 (Nat.le_of_ble_eq_true rfl) (Nat.le_of_ble_eq_true rfl)
    · dsimp only
      refine k_aload_n h 0 dX2_tell_50 rfl rfl ?_
      refine k_getI h fX2_5 (Or.inl (mw4 20 rfl)) dX2_tell_51 (fun v7 => ?_)
      exact k_iret h rfl dX2_tell_54 (Nat.le_of_ble_eq_true rfl) (Nat.le_of_ble_eq_true rfl)
    · dsimp only
      refine k_aload_n h 0 dX2_tell_55 rfl rfl ?_
      refine k_getI h fX2_6 (Or.inl (mw4 21 rfl)) dX2_tell_56 (fun v8 => ?_)
      exact k_iret h rfl dX2_tell_59 (Nat.le_of_ble_eq_true rfl) (Nat.le_of_ble_eq_true rfl)
    · dsimp only
      refine k_aload_n h 0 dX2_tell_60 rfl rfl ?_
      refine k_getI h fX2_2 (Or.inl (mw4 17 rfl)) dX2_tell_61 (fun v9 => ?_)
      exact k_iret h rfl dX2_tell_64 (Nat.le_of_ble_eq_true rfl) (Nat.le_of_ble_eq_true rfl)
    · dsimp only
      refine k_aload_n h 0 dX2_tell_65 rfl rfl ?_
      refine k_callVI (As := []) (st := []) (x0 := (some a0)) (xg := fun a12 => mX2_weight a12 s0) h (fun a12 => ctX2_weight l B D cA sa a12  s0) calX2_weight rfl (by decide) (mw17 17 rfl) (mw17 18 rfl) (Or.inl (mw17 16 rfl)) hgood ⟨rfl, rfl, Nat.le_of_ble_eq_true rfl, Nat.le_of_ble_eq_true rfl⟩ ⟨Nat.le_of_ble_eq_true rfl, Nat.le_of_ble_eq_true rfl⟩ rfl (Nat.le_of_ble_eq_true rfl) dX2_tell_66 (fun v10 s11 => ?_)
      exact k_iret h rfl dX2_tell_69 (Nat.le_of_ble_eq_true rfl) (Nat.le_of_ble_eq_true rfl)
def mX2_countOf_b4 (a0 : Nat) (p1 : Int32) (r3 : (Int32 × Int32) → Sg → Option (Int32 × Sg)) (q1 : Int32 × Int32) (s2 : Sg) : Option (Int32 × Sg) :=
gdI s2 2 2 (some a0) fun v4 =>
if v4 ≤ q1.2 then (
some (q1.1, s2))
else (
gdR s2 2 1 (some a0) fun v5 =>
alR s2 3 v5 q1.2 fun v6 =>
gdI s2 3 1 v6 fun v7 =>
if ¬ v7 = p1 then (
r3 (q1.1, (q1.2 + 1)) s2)
else (
r3 ((q1.1 + 1), (q1.2 + 1)) s2))
def mX2_countOf (a0 : Nat) (p1 : Int32) (s0 : Sg) : Option (Int32 × Sg) :=
lp (mX2_countOf_b4 a0 p1) FU (0, 0) s0
def rmX2_countOf : Room := { frames := 0, cells := 0, slots := 0, locals := 0 }
theorem calX2_countOf : Cal yX2_countOf cX2_countOf 4 (some .int) 1 := ⟨(mw34 7 rfl), (mw2 23 rfl), by decide, by decide, by decide +kernel⟩
set_option maxHeartbeats 4000000 in
set_option maxRecDepth 100000 in
theorem ctX2_countOf (l : Launch) (B : Nat) (D : va_G) (cA : Nat → ClassId) (sa : Nat → Nat) (a0 : Nat) (p1 : Int32) (s0 : Sg) : Ct l B D cA sa yX2_countOf cX2_countOf 4 (some .int) rmX2_countOf rI [LR (some a0), LI p1] s0 0 0 (mX2_countOf a0 p1 s0) := by
  refine Ct.of (own := RX2) (by decide) rfl _ (Nat.le_of_ble_eq_true rfl) rfl ?_
  intro p e s m args below meth c h hi
  unfold mX2_countOf
  refine k_iconst (v := 0) h dX2_countOf_0 (by decide) ?_
  refine k_istore_n (lv' := [(2, LI 0), (0, LR (some a0)), (1, LI p1)]) h dX2_countOf_1 rfl (by decide) rfl ?_
  refine k_iconst (v := 0) h dX2_countOf_2 (by decide) ?_
  refine k_istore_n (lv' := [(3, LI 0), (2, LI 0), (0, LR (some a0)), (1, LI p1)]) h dX2_countOf_3 rfl (by decide) rfl ?_
  refine k_sub (lv' := [(0, LR (some a0)), (1, LI p1), (2, LI 0), (3, LI 0)]) h [2, 3, 1, 0] rfl ?_
  refine k_lp (A := Int32 × Int32) (fun q1 => [(0, LR (some a0)), (1, LI p1), (2, LI q1.1), (3, LI q1.2)]) (fun q1 => []) (fun r3 hr3 q1 s2 => ?_) FU (0, 0) s0
  unfold mX2_countOf_b4
  refine k_iload_n h 3 dX2_countOf_4 rfl rfl ?_
  refine k_aload_n h 0 dX2_countOf_5 rfl rfl ?_
  refine k_getI h fX2_2 (Or.inl (mw4 17 rfl)) dX2_countOf_6 (fun v4 => ?_)
  refine k_icmp_ge (tgt := 34) h dX2_countOf_9 (by decide) ?_ ?_
  · refine k_iload_n h 2 dX2_countOf_34 rfl rfl ?_
    exact k_iret h rfl dX2_countOf_35 (Nat.le_of_ble_eq_true rfl) (Nat.le_of_ble_eq_true rfl)
  · refine k_aload_n h 0 dX2_countOf_12 rfl rfl ?_
    refine k_getR h fX2_1 (Or.inl (mw4 16 rfl)) dX2_countOf_13 (fun v5 => ?_)
    refine k_iload_n h 3 dX2_countOf_16 rfl rfl ?_
    refine k_alR h rfl rfl dX2_countOf_17 (fun v6 => ?_)
    refine k_getI h fX3_1 (Or.inr ⟨_, nwf 4 rfl⟩) dX2_countOf_18 (fun v7 => ?_)
    refine k_iload_n h 1 dX2_countOf_21 rfl rfl ?_
    refine k_icmp_ne (tgt := 28) h dX2_countOf_22 (by decide) ?_ ?_
    · refine k_iinc (w := (q1.2 + 1)) (lv' := [(3, LI (q1.2 + 1)), (0, LR (some a0)), (1, LI p1), (2, LI q1.1)]) h 3 dX2_countOf_28 rfl rfl (by decide) rfl ?_
      refine k_goto (tgt := 4) h dX2_countOf_31 (by decide) ?_
      refine k_sub (lv' := [(0, LR (some a0)), (1, LI p1), (2, LI q1.1), (3, LI (q1.2 + 1))]) h [1, 2, 3, 0] rfl ?_
      exact hr3 (q1.1, (q1.2 + 1)) s2
    · refine k_iinc (w := (q1.1 + 1)) (lv' := [(2, LI (q1.1 + 1)), (0, LR (some a0)), (1, LI p1), (3, LI q1.2)]) h 2 dX2_countOf_25 rfl rfl (by decide) rfl ?_
      refine k_iinc (w := (q1.2 + 1)) (lv' := [(3, LI (q1.2 + 1)), (2, LI (q1.1 + 1)), (0, LR (some a0)), (1, LI p1)]) h 3 dX2_countOf_28 rfl rfl (by decide) rfl ?_
      refine k_goto (tgt := 4) h dX2_countOf_31 (by decide) ?_
      refine k_sub (lv' := [(0, LR (some a0)), (1, LI p1), (2, LI (q1.1 + 1)), (3, LI (q1.2 + 1))]) h [2, 3, 1, 0] rfl ?_
      exact hr3 ((q1.1 + 1), (q1.2 + 1)) s2
def mX2_lacksHelp (a0 : Nat) (s0 : Sg) : Option (Int32 × Sg) :=
cv s0 2 (some a0) fun a7 => cl (mX2_countOf a7 1 s0) fun v1 s2 =>
cv s2 2 (some a0) fun a6 => cl (mX2_countOf a6 2 s2) fun v3 s4 =>
if v3 < v1 then (
ckB 1 (some (1, s4)))
else (
if v1 ≤ 0 then (
ckB 0 (some (0, s4)))
else (
gdI s4 2 3 (some a0) fun v5 =>
if v5 = 3 then (
ckB 0 (some (0, s4)))
else (
ckB 1 (some (1, s4)))))
def rmX2_lacksHelp : Room := { frames := 1, cells := 0, slots := 0, locals := 23 }
theorem calX2_lacksHelp : Cal yX2_lacksHelp cX2_lacksHelp 2 (some .boolean) 0 := ⟨(mw34 3 rfl), (mw2 23 rfl), by decide, by decide, by decide +kernel⟩
set_option maxHeartbeats 4000000 in
set_option maxRecDepth 100000 in
theorem ctX2_lacksHelp (l : Launch) (B : Nat) (D : va_G) (cA : Nat → ClassId) (sa : Nat → Nat) (a0 : Nat) (s0 : Sg) : Ct l B D cA sa yX2_lacksHelp cX2_lacksHelp 2 (some .boolean) rmX2_lacksHelp rI [LR (some a0)] s0 0 0 (mX2_lacksHelp a0 s0) := by
  refine Ct.of (own := RX2) (by decide) rfl _ (Nat.le_of_ble_eq_true rfl) rfl ?_
  intro p e s m args below meth c h hi
  unfold mX2_lacksHelp
  refine k_aload_n h 0 dX2_lacksHelp_0 rfl rfl ?_
  refine k_iconst (v := 1) h dX2_lacksHelp_1 (by decide) ?_
  refine k_callVI (As := [LI 1]) (st := []) (x0 := (some a0)) (xg := fun a7 => mX2_countOf a7 1 s0) h (fun a7 => ctX2_countOf l B D cA sa a7 1 s0) calX2_countOf rfl (by decide) (mw34 5 rfl) (mw34 6 rfl) (Or.inl (mw34 4 rfl)) hgood ⟨rfl, rfl, Nat.le_of_ble_eq_true rfl, Nat.le_of_ble_eq_true rfl⟩ ⟨Nat.le_of_ble_eq_true rfl, Nat.le_of_ble_eq_true rfl⟩ rfl (Nat.le_of_ble_eq_true rfl) dX2_lacksHelp_2 (fun v1 s2 => ?_)
  refine k_istore_n (lv' := [(1, LI v1), (0, LR (some a0))]) h dX2_lacksHelp_5 rfl (by decide) rfl ?_
  refine k_iload_n h 0 dX2_lacksHelp_6 rfl rfl ?_
  refine k_aload_n h 1 dX2_lacksHelp_7 rfl rfl ?_
  refine k_iconst (v := 2) h dX2_lacksHelp_8 (by decide) ?_
  refine k_callVI (As := [LI 2]) (st := [LI v1]) (x0 := (some a0)) (xg := fun a6 => mX2_countOf a6 2 s2) h (fun a6 => ctX2_countOf l B D cA sa a6 2 s2) calX2_countOf rfl (by decide) (mw34 5 rfl) (mw34 6 rfl) (Or.inl (mw34 4 rfl)) hgood ⟨rfl, rfl, Nat.le_of_ble_eq_true rfl, Nat.le_of_ble_eq_true rfl⟩ ⟨Nat.le_of_ble_eq_true rfl, Nat.le_of_ble_eq_true rfl⟩ rfl (Nat.le_of_ble_eq_true rfl) dX2_lacksHelp_9 (fun v3 s4 => ?_)
  refine k_icmp_gt (tgt := 27) h dX2_lacksHelp_12 (by decide) ?_ ?_
  · refine k_iconst (v := 1) h dX2_lacksHelp_27 (by decide) ?_
    refine k_goto (tgt := 32) h dX2_lacksHelp_28 (by decide) ?_
    exact k_zret h rfl dX2_lacksHelp_32 (Nat.le_of_ble_eq_true rfl) (Nat.le_of_ble_eq_true rfl)
  · refine k_iload_n h 0 dX2_lacksHelp_15 rfl rfl ?_
    refine k_if_le (tgt := 31) h dX2_lacksHelp_16 (by decide) ?_ ?_
    · refine k_iconst (v := 0) h dX2_lacksHelp_31 (by decide) ?_
      exact k_zret h rfl dX2_lacksHelp_32 (Nat.le_of_ble_eq_true rfl) (Nat.le_of_ble_eq_true rfl)
    · refine k_aload_n h 1 dX2_lacksHelp_19 rfl rfl ?_
      refine k_getI h fX2_3 (Or.inl (mw4 18 rfl)) dX2_lacksHelp_20 (fun v5 => ?_)
      refine k_iconst (v := 3) h dX2_lacksHelp_23 (by decide) ?_
      refine k_icmp_eq (tgt := 31) h dX2_lacksHelp_24 (by decide) ?_ ?_
      · refine k_iconst (v := 0) h dX2_lacksHelp_31 (by decide) ?_
        exact k_zret h rfl dX2_lacksHelp_32 (Nat.le_of_ble_eq_true rfl) (Nat.le_of_ble_eq_true rfl)
      · refine k_iconst (v := 1) h dX2_lacksHelp_27 (by decide) ?_
        refine k_goto (tgt := 32) h dX2_lacksHelp_28 (by decide) ?_
        exact k_zret h rfl dX2_lacksHelp_32 (Nat.le_of_ble_eq_true rfl) (Nat.le_of_ble_eq_true rfl)
def mX2_isWornOn_b2 (a0 : Nat) (p1 : Int32) (r3 : (Int32) → Sg → Option (Int32 × Sg)) (q1 : Int32) (s2 : Sg) : Option (Int32 × Sg) :=
gdI s2 2 2 (some a0) fun v4 =>
if v4 ≤ q1 then (
ckB 0 (some (0, s2)))
else (
gdR s2 2 1 (some a0) fun v5 =>
alR s2 3 v5 q1 fun v6 =>
gdI s2 3 3 v6 fun v7 =>
if p1 ≤ v7 then (
r3 (q1 + 1) s2)
else (
ckB 1 (some (1, s2))))
def mX2_isWornOn (a0 : Nat) (p1 : Int32) (s0 : Sg) : Option (Int32 × Sg) :=
lp (mX2_isWornOn_b2 a0 p1) FU 0 s0
def rmX2_isWornOn : Room := { frames := 0, cells := 0, slots := 0, locals := 0 }
theorem calX2_isWornOn : Cal yX2_isWornOn cX2_isWornOn 3 (some .boolean) 1 := ⟨(mw33 14 rfl), (mw2 23 rfl), by decide, by decide, by decide +kernel⟩
set_option maxHeartbeats 4000000 in
set_option maxRecDepth 100000 in
theorem ctX2_isWornOn (l : Launch) (B : Nat) (D : va_G) (cA : Nat → ClassId) (sa : Nat → Nat) (a0 : Nat) (p1 : Int32) (s0 : Sg) : Ct l B D cA sa yX2_isWornOn cX2_isWornOn 3 (some .boolean) rmX2_isWornOn rI [LR (some a0), LI p1] s0 0 0 (mX2_isWornOn a0 p1 s0) := by
  refine Ct.of (own := RX2) (by decide) rfl _ (Nat.le_of_ble_eq_true rfl) rfl ?_
  intro p e s m args below meth c h hi
  unfold mX2_isWornOn
  refine k_iconst (v := 0) h dX2_isWornOn_0 (by decide) ?_
  refine k_istore_n (lv' := [(2, LI 0), (0, LR (some a0)), (1, LI p1)]) h dX2_isWornOn_1 rfl (by decide) rfl ?_
  refine k_sub (lv' := [(0, LR (some a0)), (1, LI p1), (2, LI 0)]) h [1, 2, 0] rfl ?_
  refine k_lp (A := Int32) (fun q1 => [(0, LR (some a0)), (1, LI p1), (2, LI q1)]) (fun q1 => []) (fun r3 hr3 q1 s2 => ?_) FU 0 s0
  unfold mX2_isWornOn_b2
  refine k_iload_n h 2 dX2_isWornOn_2 rfl rfl ?_
  refine k_aload_n h 0 dX2_isWornOn_3 rfl rfl ?_
  refine k_getI h fX2_2 (Or.inl (mw4 17 rfl)) dX2_isWornOn_4 (fun v4 => ?_)
  refine k_icmp_ge (tgt := 31) h dX2_isWornOn_7 (by decide) ?_ ?_
  · refine k_iconst (v := 0) h dX2_isWornOn_31 (by decide) ?_
    exact k_zret h rfl dX2_isWornOn_32 (Nat.le_of_ble_eq_true rfl) (Nat.le_of_ble_eq_true rfl)
  · refine k_aload_n h 0 dX2_isWornOn_10 rfl rfl ?_
    refine k_getR h fX2_1 (Or.inl (mw4 16 rfl)) dX2_isWornOn_11 (fun v5 => ?_)
    refine k_iload_n h 2 dX2_isWornOn_14 rfl rfl ?_
    refine k_alR h rfl rfl dX2_isWornOn_15 (fun v6 => ?_)
    refine k_getI h fX3_3 (Or.inr ⟨_, nwf 6 rfl⟩) dX2_isWornOn_16 (fun v7 => ?_)
    refine k_iload_n h 1 dX2_isWornOn_19 rfl rfl ?_
    refine k_icmp_ge (tgt := 25) h dX2_isWornOn_20 (by decide) ?_ ?_
    · refine k_iinc (w := (q1 + 1)) (lv' := [(2, LI (q1 + 1)), (0, LR (some a0)), (1, LI p1)]) h 2 dX2_isWornOn_25 rfl rfl (by decide) rfl ?_
      refine k_goto (tgt := 2) h dX2_isWornOn_28 (by decide) ?_
      refine k_sub (lv' := [(0, LR (some a0)), (1, LI p1), (2, LI (q1 + 1))]) h [1, 2, 0] rfl ?_
      exact hr3 (q1 + 1) s2
    · refine k_iconst (v := 1) h dX2_isWornOn_23 (by decide) ?_
      exact k_zret h rfl dX2_isWornOn_24 (Nat.le_of_ble_eq_true rfl) (Nat.le_of_ble_eq_true rfl)
def mX2_sharesOneWith_b2 (a0 : Nat) (p1 : Option Nat) (r3 : (Int32) → Sg → Option (Int32 × Sg)) (q1 : Int32) (s2 : Sg) : Option (Int32 × Sg) :=
gdI s2 2 2 (some a0) fun v4 =>
if v4 ≤ q1 then (
ckB 0 (some (0, s2)))
else (
gdR s2 2 1 (some a0) fun v5 =>
alR s2 3 v5 q1 fun v6 =>
cv s2 2 p1 fun a9 => cl (mX2_holds a9 v6 s2) fun v7 s8 =>
if v7 = 0 then (
r3 (q1 + 1) s8)
else (
ckB 1 (some (1, s8))))
def mX2_sharesOneWith (a0 : Nat) (p1 : Option Nat) (s0 : Sg) : Option (Int32 × Sg) :=
lp (mX2_sharesOneWith_b2 a0 p1) FU 0 s0
def rmX2_sharesOneWith : Room := { frames := 1, cells := 0, slots := 0, locals := 22 }
theorem calX2_sharesOneWith : Cal yX2_sharesOneWith cX2_sharesOneWith 3 (some .boolean) 1 := ⟨(mw33 20 rfl), (mw2 23 rfl), by decide, by decide, by decide +kernel⟩
set_option maxHeartbeats 4000000 in
set_option maxRecDepth 100000 in
theorem ctX2_sharesOneWith (l : Launch) (B : Nat) (D : va_G) (cA : Nat → ClassId) (sa : Nat → Nat) (a0 : Nat) (p1 : Option Nat) (s0 : Sg) : Ct l B D cA sa yX2_sharesOneWith cX2_sharesOneWith 3 (some .boolean) rmX2_sharesOneWith rI [LR (some a0), LR p1] s0 0 0 (mX2_sharesOneWith a0 p1 s0) := by
  refine Ct.of (own := RX2) (by decide) rfl _ (Nat.le_of_ble_eq_true rfl) rfl ?_
  intro p e s m args below meth c h hi
  unfold mX2_sharesOneWith
  refine k_iconst (v := 0) h dX2_sharesOneWith_0 (by decide) ?_
  refine k_istore_n (lv' := [(2, LI 0), (0, LR (some a0)), (1, LR p1)]) h dX2_sharesOneWith_1 rfl (by decide) rfl ?_
  refine k_sub (lv' := [(0, LR (some a0)), (1, LR p1), (2, LI 0)]) h [1, 2, 0] rfl ?_
  refine k_lp (A := Int32) (fun q1 => [(0, LR (some a0)), (1, LR p1), (2, LI q1)]) (fun q1 => []) (fun r3 hr3 q1 s2 => ?_) FU 0 s0
  unfold mX2_sharesOneWith_b2
  refine k_iload_n h 2 dX2_sharesOneWith_2 rfl rfl ?_
  refine k_aload_n h 0 dX2_sharesOneWith_3 rfl rfl ?_
  refine k_getI h fX2_2 (Or.inl (mw4 17 rfl)) dX2_sharesOneWith_4 (fun v4 => ?_)
  refine k_icmp_ge (tgt := 31) h dX2_sharesOneWith_7 (by decide) ?_ ?_
  · refine k_iconst (v := 0) h dX2_sharesOneWith_31 (by decide) ?_
    exact k_zret h rfl dX2_sharesOneWith_32 (Nat.le_of_ble_eq_true rfl) (Nat.le_of_ble_eq_true rfl)
  · refine k_aload_n h 1 dX2_sharesOneWith_10 rfl rfl ?_
    refine k_aload_n h 0 dX2_sharesOneWith_11 rfl rfl ?_
    refine k_getR h fX2_1 (Or.inl (mw4 16 rfl)) dX2_sharesOneWith_12 (fun v5 => ?_)
    refine k_iload_n h 2 dX2_sharesOneWith_15 rfl rfl ?_
    refine k_alR h rfl rfl dX2_sharesOneWith_16 (fun v6 => ?_)
    refine k_callVI (As := [LR v6]) (st := []) (x0 := p1) (xg := fun a9 => mX2_holds a9 v6 s2) h (fun a9 => ctX2_holds l B D cA sa a9 v6 s2) calX2_holds rfl (by decide) (mw16 10 rfl) (mw16 11 rfl) (Or.inl (mw33 21 rfl)) hgood ⟨rfl, rfl, Nat.le_of_ble_eq_true rfl, Nat.le_of_ble_eq_true rfl⟩ ⟨Nat.le_of_ble_eq_true rfl, Nat.le_of_ble_eq_true rfl⟩ rfl (Nat.le_of_ble_eq_true rfl) dX2_sharesOneWith_17 (fun v7 s8 => ?_)
    refine k_if_eq (tgt := 25) h dX2_sharesOneWith_20 (by decide) ?_ ?_
    · refine k_iinc (w := (q1 + 1)) (lv' := [(2, LI (q1 + 1)), (0, LR (some a0)), (1, LR p1)]) h 2 dX2_sharesOneWith_25 rfl rfl (by decide) rfl ?_
      refine k_goto (tgt := 2) h dX2_sharesOneWith_28 (by decide) ?_
      refine k_sub (lv' := [(0, LR (some a0)), (1, LR p1), (2, LI (q1 + 1))]) h [1, 2, 0] rfl ?_
      exact hr3 (q1 + 1) s8
    · refine k_iconst (v := 1) h dX2_sharesOneWith_23 (by decide) ?_
      exact k_zret h rfl dX2_sharesOneWith_24 (Nat.le_of_ble_eq_true rfl) (Nat.le_of_ble_eq_true rfl)
def mX2_dropIn (a0 : Nat) (p1 : Int32) (s0 : Sg) : Option (Int32 × Sg) :=
gdI s0 2 3 (some a0) fun v1 =>
gS 0 v1 fun v2 =>
if v2 ≤ (10 * (p1 + 1)) then (
gdI s0 2 3 (some a0) fun v3 =>
gS 0 v3 fun v4 =>
some ((10 * v4), s0))
else (
some ((10 * (10 * (p1 + 1))), s0))
def rmX2_dropIn : Room := { frames := 0, cells := 0, slots := 0, locals := 0 }
theorem calX2_dropIn : Cal yX2_dropIn cX2_dropIn 3 (some .int) 1 := ⟨(mw24 13 rfl), (mw2 23 rfl), by decide, by decide, by decide +kernel⟩
set_option maxHeartbeats 4000000 in
set_option maxRecDepth 100000 in
theorem ctX2_dropIn (l : Launch) (B : Nat) (D : va_G) (cA : Nat → ClassId) (sa : Nat → Nat) (a0 : Nat) (p1 : Int32) (s0 : Sg) : Ct l B D cA sa yX2_dropIn cX2_dropIn 3 (some .int) rmX2_dropIn rI [LR (some a0), LI p1] s0 0 0 (mX2_dropIn a0 p1 s0) := by
  refine Ct.of (own := RX2) (by decide) rfl _ (Nat.le_of_ble_eq_true rfl) rfl ?_
  intro p e s m args below meth c h hi
  unfold mX2_dropIn
  refine k_bipush (v := 10) h dX2_dropIn_0 (by decide) ?_
  refine k_iload_n h 1 dX2_dropIn_2 rfl rfl ?_
  refine k_iconst (v := 1) h dX2_dropIn_3 (by decide) ?_
  refine k_iadd h dX2_dropIn_4 ?_
  refine k_imul h dX2_dropIn_5 ?_
  refine k_istore_n (lv' := [(2, LI (10 * (p1 + 1))), (0, LR (some a0)), (1, LI p1)]) h dX2_dropIn_6 rfl (by decide) rfl ?_
  refine k_bipush (v := 10) h dX2_dropIn_7 (by decide) ?_
  refine k_iload_n h 0 dX2_dropIn_9 rfl rfl ?_
  refine k_gets (k0 := 0) h (by decide) (Or.inr ⟨_, nwf 36 rfl⟩) dX2_dropIn_10 ?_
  refine k_aload_n h 1 dX2_dropIn_13 rfl rfl ?_
  refine k_getI h fX2_3 (Or.inl (mw4 18 rfl)) dX2_dropIn_14 (fun v1 => ?_)
  refine k_alS h (by decide) dX2_dropIn_17 (fun v2 => ?_)
  refine k_icmp_ge (tgt := 25) h dX2_dropIn_18 (by decide) ?_ ?_
  · refine k_gets (k0 := 0) h (by decide) (Or.inr ⟨_, nwf 36 rfl⟩) dX2_dropIn_25 ?_
    refine k_aload_n h 1 dX2_dropIn_28 rfl rfl ?_
    refine k_getI h fX2_3 (Or.inl (mw4 18 rfl)) dX2_dropIn_29 (fun v3 => ?_)
    refine k_alS h (by decide) dX2_dropIn_32 (fun v4 => ?_)
    refine k_imul h dX2_dropIn_33 ?_
    exact k_iret h rfl dX2_dropIn_34 (Nat.le_of_ble_eq_true rfl) (Nat.le_of_ble_eq_true rfl)
  · refine k_iload_n h 0 dX2_dropIn_21 rfl rfl ?_
    refine k_goto (tgt := 33) h dX2_dropIn_22 (by decide) ?_
    refine k_imul h dX2_dropIn_33 ?_
    exact k_iret h rfl dX2_dropIn_34 (Nat.le_of_ble_eq_true rfl) (Nat.le_of_ble_eq_true rfl)
def mX2_opensBehind (a0 : Nat) (p1 : Int32) (p2 : Int32) (s0 : Sg) : Option (Int32 × Sg) :=
gdI s0 2 4 (some a0) fun v1 =>
if p2 ≤ v1 then (
ckB 1 (some (1, s0)))
else (
gdI s0 2 3 (some a0) fun v2 =>
if ¬ v2 = 3 then (
ckB 0 (some (0, s0)))
else (
if p1 < 2 then (
ckB 0 (some (0, s0)))
else (
ckB 1 (some (1, s0)))))
def rmX2_opensBehind : Room := { frames := 0, cells := 0, slots := 0, locals := 0 }
theorem calX2_opensBehind : Cal yX2_opensBehind cX2_opensBehind 3 (some .boolean) 2 := ⟨(mw24 16 rfl), (mw2 23 rfl), by decide, by decide, by decide +kernel⟩
set_option maxHeartbeats 4000000 in
set_option maxRecDepth 100000 in
theorem ctX2_opensBehind (l : Launch) (B : Nat) (D : va_G) (cA : Nat → ClassId) (sa : Nat → Nat) (a0 : Nat) (p1 : Int32) (p2 : Int32) (s0 : Sg) : Ct l B D cA sa yX2_opensBehind cX2_opensBehind 3 (some .boolean) rmX2_opensBehind rI [LR (some a0), LI p1, LI p2] s0 0 0 (mX2_opensBehind a0 p1 p2 s0) := by
  refine Ct.of (own := RX2) (by decide) rfl _ (Nat.le_of_ble_eq_true rfl) rfl ?_
  intro p e s m args below meth c h hi
  unfold mX2_opensBehind
  refine k_iload_n h 2 dX2_opensBehind_0 rfl rfl ?_
  refine k_aload_n h 0 dX2_opensBehind_1 rfl rfl ?_
  refine k_getI h fX2_4 (Or.inl (mw4 19 rfl)) dX2_opensBehind_2 (fun v1 => ?_)
  refine k_icmp_le (tgt := 21) h dX2_opensBehind_5 (by decide) ?_ ?_
  · refine k_iconst (v := 1) h dX2_opensBehind_21 (by decide) ?_
    refine k_goto (tgt := 26) h dX2_opensBehind_22 (by decide) ?_
    exact k_zret h rfl dX2_opensBehind_26 (Nat.le_of_ble_eq_true rfl) (Nat.le_of_ble_eq_true rfl)
  · refine k_aload_n h 0 dX2_opensBehind_8 rfl rfl ?_
    refine k_getI h fX2_3 (Or.inl (mw4 18 rfl)) dX2_opensBehind_9 (fun v2 => ?_)
    refine k_iconst (v := 3) h dX2_opensBehind_12 (by decide) ?_
    refine k_icmp_ne (tgt := 25) h dX2_opensBehind_13 (by decide) ?_ ?_
    · refine k_iconst (v := 0) h dX2_opensBehind_25 (by decide) ?_
      exact k_zret h rfl dX2_opensBehind_26 (Nat.le_of_ble_eq_true rfl) (Nat.le_of_ble_eq_true rfl)
    · refine k_iload_n h 1 dX2_opensBehind_16 rfl rfl ?_
      refine k_iconst (v := 2) h dX2_opensBehind_17 (by decide) ?_
      refine k_icmp_lt (tgt := 25) h dX2_opensBehind_18 (by decide) ?_ ?_
      · refine k_iconst (v := 0) h dX2_opensBehind_25 (by decide) ?_
        exact k_zret h rfl dX2_opensBehind_26 (Nat.le_of_ble_eq_true rfl) (Nat.le_of_ble_eq_true rfl)
      · refine k_iconst (v := 1) h dX2_opensBehind_21 (by decide) ?_
        refine k_goto (tgt := 26) h dX2_opensBehind_22 (by decide) ?_
        exact k_zret h rfl dX2_opensBehind_26 (Nat.le_of_ble_eq_true rfl) (Nat.le_of_ble_eq_true rfl)
def mX6_become (a0 : Nat) (p1 : Int32) (p2 : Int32) (p3 : Int32) (p4 : Int32) (s0 : Sg) : Option (Unit × Sg) :=
ptI s0 6 1 (some a0) p1 fun s1 =>
ptI s1 6 2 (some a0) p2 fun s2 =>
ptI s2 6 3 (some a0) p3 fun s3 =>
ptI s3 6 4 (some a0) p4 fun s4 =>
some ((), s4)
def rmX6_become : Room := { frames := 0, cells := 0, slots := 0, locals := 0 }
theorem calX6_become : Cal yX6_become cX6_become 5 none 4 := ⟨(mw18 15 rfl), (mw3 1 rfl), by decide, by decide, by decide +kernel⟩
set_option maxHeartbeats 4000000 in
set_option maxRecDepth 100000 in
theorem ctX6_become (l : Launch) (B : Nat) (D : va_G) (cA : Nat → ClassId) (sa : Nat → Nat) (a0 : Nat) (p1 : Int32) (p2 : Int32) (p3 : Int32) (p4 : Int32) (s0 : Sg) : Ct l B D cA sa yX6_become cX6_become 5 none rmX6_become rU [LR (some a0), LI p1, LI p2, LI p3, LI p4] s0 0 0 (mX6_become a0 p1 p2 p3 p4 s0) := by
  refine Ct.of (own := RX6) (by decide) rfl _ (Nat.le_of_ble_eq_true rfl) rfl ?_
  intro p e s m args below meth c h hi
  unfold mX6_become
  refine k_aload_n h 0 dX6_become_0 rfl rfl ?_
  refine k_iload_n h 1 dX6_become_1 rfl rfl ?_
  refine k_putI h fX6_1 (Or.inl (mw5 2 rfl)) rfl dX6_become_2 (fun s1 => ?_)
  refine k_aload_n h 0 dX6_become_5 rfl rfl ?_
  refine k_iload_n h 2 dX6_become_6 rfl rfl ?_
  refine k_putI h fX6_2 (Or.inl (mw5 3 rfl)) rfl dX6_become_7 (fun s2 => ?_)
  refine k_aload_n h 0 dX6_become_10 rfl rfl ?_
  refine k_iload_n h 3 dX6_become_11 rfl rfl ?_
  refine k_putI h fX6_3 (Or.inl (mw5 4 rfl)) rfl dX6_become_12 (fun s3 => ?_)
  refine k_aload_n h 0 dX6_become_15 rfl rfl ?_
  refine k_iload h 4 dX6_become_16 rfl ?_
  refine k_putI h fX6_4 (Or.inl (mw5 6 rfl)) rfl dX6_become_18 (fun s4 => ?_)
  exact k_vret h rfl dX6_become_21 (Nat.le_of_ble_eq_true rfl) (Nat.le_of_ble_eq_true rfl)
def mX6_becomeAs (a0 : Nat) (p1 : Option Nat) (s0 : Sg) : Option (Unit × Sg) :=
gdI s0 6 0 p1 fun v1 =>
ptI s0 6 0 (some a0) v1 fun s2 =>
gdI s2 6 1 p1 fun v3 =>
gdI s2 6 2 p1 fun v4 =>
gdI s2 6 3 p1 fun v5 =>
gdI s2 6 4 p1 fun v6 =>
cv s2 6 (some a0) fun a9 => cl (mX6_become a9 v3 v4 v5 v6 s2) fun u7 s8 =>
some ((), s8)
def rmX6_becomeAs : Room := { frames := 1, cells := 0, slots := 0, locals := 24 }
theorem calX6_becomeAs : Cal yX6_becomeAs cX6_becomeAs 2 none 1 := ⟨(mw37 21 rfl), (mw3 1 rfl), by decide, by decide, by decide +kernel⟩
set_option maxHeartbeats 4000000 in
set_option maxRecDepth 100000 in
theorem ctX6_becomeAs (l : Launch) (B : Nat) (D : va_G) (cA : Nat → ClassId) (sa : Nat → Nat) (a0 : Nat) (p1 : Option Nat) (s0 : Sg) : Ct l B D cA sa yX6_becomeAs cX6_becomeAs 2 none rmX6_becomeAs rU [LR (some a0), LR p1] s0 0 0 (mX6_becomeAs a0 p1 s0) := by
  refine Ct.of (own := RX6) (by decide) rfl _ (Nat.le_of_ble_eq_true rfl) rfl ?_
  intro p e s m args below meth c h hi
  unfold mX6_becomeAs
  refine k_aload_n h 0 dX6_becomeAs_0 rfl rfl ?_
  refine k_aload_n h 1 dX6_becomeAs_1 rfl rfl ?_
  refine k_getI h fX6_0 (Or.inl (mw5 7 rfl)) dX6_becomeAs_2 (fun v1 => ?_)
  refine k_putI h fX6_0 (Or.inl (mw5 7 rfl)) rfl dX6_becomeAs_5 (fun s2 => ?_)
  refine k_aload_n h 0 dX6_becomeAs_8 rfl rfl ?_
  refine k_aload_n h 1 dX6_becomeAs_9 rfl rfl ?_
  refine k_getI h fX6_1 (Or.inl (mw5 2 rfl)) dX6_becomeAs_10 (fun v3 => ?_)
  refine k_aload_n h 1 dX6_becomeAs_13 rfl rfl ?_
  refine k_getI h fX6_2 (Or.inl (mw5 3 rfl)) dX6_becomeAs_14 (fun v4 => ?_)
  refine k_aload_n h 1 dX6_becomeAs_17 rfl rfl ?_
  refine k_getI h fX6_3 (Or.inl (mw5 4 rfl)) dX6_becomeAs_18 (fun v5 => ?_)
  refine k_aload_n h 1 dX6_becomeAs_21 rfl rfl ?_
  refine k_getI h fX6_4 (Or.inl (mw5 6 rfl)) dX6_becomeAs_22 (fun v6 => ?_)
  refine k_callVU (As := [LI v3, LI v4, LI v5, LI v6]) (st := []) (x0 := (some a0)) (xg := fun a9 => mX6_become a9 v3 v4 v5 v6 s2) h (fun a9 => ctX6_become l B D cA sa a9 v3 v4 v5 v6 s2) calX6_become rfl (by decide) (mw18 13 rfl) (mw18 14 rfl) (Or.inl (mw37 22 rfl)) hgood ⟨rfl, rfl, Nat.le_of_ble_eq_true rfl, Nat.le_of_ble_eq_true rfl⟩ ⟨Nat.le_of_ble_eq_true rfl, Nat.le_of_ble_eq_true rfl⟩ rfl (Nat.le_of_ble_eq_true rfl) dX6_becomeAs_25 (fun u7 s8 => ?_)
  exact k_vret h rfl dX6_becomeAs_28 (Nat.le_of_ble_eq_true rfl) (Nat.le_of_ble_eq_true rfl)
