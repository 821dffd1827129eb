def mX9_least (p1 : Int32) (p2 : Int32) (s0 : Sg) : Option (Int32 × Sg) :=
if p2 ≤ p1 then (
some (p2, s0))
else (
some (p1, s0))
def rmX9_least : Room := { frames := 0, cells := 0, slots := 0, locals := 0 }
theorem calX9_least : Cal yX9_least cX9_least 2 (some .int) 2 := ⟨(mw26 0 rfl), (mw1 5 rfl), by decide, by decide, by decide +kernel⟩
set_option maxHeartbeats 4000000 in
set_option maxRecDepth 100000 in
theorem ctX9_least (l : Launch) (B : Nat) (D : va_G) (cA : Nat → ClassId) (sa : Nat → Nat) (p1 : Int32) (p2 : Int32) (s0 : Sg) : Ct l B D cA sa yX9_least cX9_least 2 (some .int) rmX9_least rI [LI p1, LI p2] s0 0 0 (mX9_least p1 p2 s0) := by
  refine Ct.of (own := RX9) (by decide) rfl _ (Nat.le_of_ble_eq_true rfl) rfl ?_
  intro p e s m args below meth c h hi
  unfold mX9_least
  refine k_iload_n h 0 dX9_least_0 rfl rfl ?_
  refine k_iload_n h 1 dX9_least_1 rfl rfl ?_
  refine k_icmp_ge (tgt := 9) h dX9_least_2 (by decide) ?_ ?_
  · refine k_iload_n h 1 dX9_least_9 rfl rfl ?_
    exact k_iret h rfl dX9_least_10 (Nat.le_of_ble_eq_true rfl) (Nat.le_of_ble_eq_true rfl)
  · refine k_iload_n h 0 dX9_least_5 rfl rfl ?_
    refine k_goto (tgt := 10) h dX9_least_6 (by decide) ?_
    exact k_iret h rfl dX9_least_10 (Nat.le_of_ble_eq_true rfl) (Nat.le_of_ble_eq_true rfl)
def mX9_fall (a0 : Nat) (p1 : Int32) (p2 : Int32) (p3 : Int32) (s0 : Sg) : Option (Unit × Sg) :=
gdR s0 9 9 (some a0) fun v1 =>
alI s0 v1 p1 fun v2 =>
gdR s0 9 36 (some a0) fun v3 =>
alI s0 v3 p3 fun v4 =>
jn (fun (q5 : Int32) (s6 : Sg) =>
asI s6 v3 p3 (v4 + q5) fun s8 =>
jn (fun (q9 : Unit) (s10 : Sg) =>
jn (fun (q12 : Int32) (s13 : Sg) =>
gdR s13 9 38 (some a0) fun v15 =>
alI s13 v15 p3 fun v16 =>
cl (mX9_least (10 * (p2 + 1)) q12 s13) fun v17 s18 =>
asI s18 v15 p3 (v16 - (10 * v17)) fun s19 =>
gdR s19 9 38 (some a0) fun v20 =>
alI s19 v20 p3 fun v21 =>
gdR s19 9 10 (some a0) fun v22 =>
alI s19 v22 p1 fun v23 =>
jn (fun (q24 : Unit) (s25 : Sg) =>
gdR s25 9 39 (some a0) fun v27 =>
asI s25 v27 p3 2 fun s28 =>
some ((), s28)) (fun j26 =>
if v21 ≤ v23 then (
j26 () s19)
else (
if ¬ v2 = 3 then (
some ((), s19))
else (
if p2 < 2 then (
some ((), s19))
else (
j26 () s19))))) (fun j14 =>
if ¬ v2 = 1 then (
if ¬ v2 = 2 then (
j14 50 s10)
else (
j14 45 s10))
else (
j14 60 s10))) (fun j11 =>
if ¬ v2 = 2 then (
j11 () s8)
else (
if p2 < 5 then (
j11 () s8)
else (
gdR s8 9 12 (some a0) fun v29 =>
alI s8 v29 p1 fun v30 =>
gdR s8 9 36 (some a0) fun v31 =>
alI s8 v31 p3 fun v32 =>
jn (fun (q33 : Int32) (s34 : Sg) =>
asI s34 v31 p3 (v32 + q33) fun s36 =>
gdR s36 9 37 (some a0) fun v37 =>
alI s36 v37 p3 fun v38 =>
jn (fun (q39 : Int32) (s40 : Sg) =>
asI s40 v37 p3 (v38 + q39) fun s42 =>
j11 () s42) (fun j41 =>
if ¬ v30 = 1 then (
if ¬ v30 = 3 then (
j41 0 s36)
else (
j41 (-80) s36))
else (
j41 80 s36))) (fun j35 =>
if ¬ v30 = 0 then (
if ¬ v30 = 2 then (
j35 0 s8)
else (
j35 (-80) s8))
else (
j35 80 s8)))))) (fun j7 =>
if p2 ≤ 20 then (
gdI s0 9 34 (some a0) fun v43 =>
j7 (v43 >>> ((p2 + 1) &&& 31)) s0)
else (
j7 0 s0))
def rmX9_fall : Room := { frames := 1, cells := 0, slots := 0, locals := 21 }
theorem calX9_fall : Cal yX9_fall cX9_fall 6 none 3 := ⟨(mw25 21 rfl), (mw1 5 rfl), by decide, by decide, by decide +kernel⟩
set_option maxHeartbeats 4000000 in
set_option maxRecDepth 100000 in
theorem ctX9_fall (l : Launch) (B : Nat) (D : va_G) (cA : Nat → ClassId) (sa : Nat → Nat) (a0 : Nat) (p1 : Int32) (p2 : Int32) (p3 : Int32) (s0 : Sg) : Ct l B D cA sa yX9_fall cX9_fall 6 none rmX9_fall rU [LR (some a0), LI p1, LI p2, LI p3] s0 0 0 (mX9_fall a0 p1 p2 p3 s0) := by
  refine Ct.of (own := RX9) (by decide) rfl _ (Nat.le_of_ble_eq_true rfl) rfl ?_
  intro p e s m args below meth c h hi
  unfold mX9_fall
  refine k_aload_n h 0 dX9_fall_0 rfl rfl ?_
  refine k_getR h fX9_9 (Or.inl (mw6 19 rfl)) dX9_fall_1 (fun v1 => ?_)
  refine k_iload_n h 1 dX9_fall_4 rfl rfl ?_
  refine k_alI h dX9_fall_5 (fun v2 => ?_)
  refine k_istore (lv' := [(4, LI v2), (0, LR (some a0)), (1, LI p1), (2, LI p2), (3, LI p3)]) h dX9_fall_6 (by decide) rfl ?_
  refine k_aload_n h 1 dX9_fall_8 rfl rfl ?_
  refine k_getR h fX9_36 (Or.inl (mw7 18 rfl)) dX9_fall_9 (fun v3 => ?_)
  refine k_iload_n h 4 dX9_fall_12 rfl rfl ?_
  refine k_dup2 h dX9_fall_13 rfl rfl ?_
  refine k_alI h dX9_fall_14 (fun v4 => ?_)
  refine k_iload_n h 3 dX9_fall_15 rfl rfl ?_
  refine k_bipush (v := 20) h dX9_fall_16 (by decide) ?_
  refine k_jn (A := Int32) (J := 33) (fun q5 => [(0, LR (some a0)), (1, LI p1), (2, LI p2), (3, LI p3), (4, LI v2)]) (fun q5 => [LI q5, LI v4, LI p3, LR v3]) (fun q5 s6 => ?_) (fun j7 hj7 => ?_)
  · refine k_iadd h dX9_fall_33 ?_
    refine k_asI h dX9_fall_34 (fun s8 => ?_)
    refine k_iload h 4 dX9_fall_35 rfl ?_
    refine k_iconst (v := 2) h dX9_fall_37 (by decide) ?_
    refine k_jn (A := Unit) (J := 117) (fun q9 => [(0, LR (some a0)), (1, LI p1), (2, LI p2), (3, LI p3), (4, LI v2)]) (fun q9 => []) (fun q9 s10 => ?_) (fun j11 hj11 => ?_)
    · refine k_iload h 4 dX9_fall_117 rfl ?_
      refine k_iconst (v := 1) h dX9_fall_119 (by decide) ?_
      refine k_jn (A := Int32) (J := 141) (fun q12 => [(0, LR (some a0)), (1, LI p1), (2, LI p2), (3, LI p3), (4, LI v2)]) (fun q12 => [LI q12]) (fun q12 s13 => ?_) (fun j14 hj14 => ?_)
      · refine k_istore (lv' := [(5, LI q12), (0, LR (some a0)), (1, LI p1), (2, LI p2), (3, LI p3), (4, LI v2)]) h dX9_fall_141 (by decide) rfl ?_
        refine k_aload_n h 1 dX9_fall_143 rfl rfl ?_
        refine k_getR h fX9_38 (Or.inl (mw7 20 rfl)) dX9_fall_144 (fun v15 => ?_)
        refine k_iload_n h 4 dX9_fall_147 rfl rfl ?_
        refine k_dup2 h dX9_fall_148 rfl rfl ?_
        refine k_alI h dX9_fall_149 (fun v16 => ?_)
        refine k_bipush (v := 10) h dX9_fall_150 (by decide) ?_
        refine k_bipush (v := 10) h dX9_fall_152 (by decide) ?_
        refine k_iload_n h 3 dX9_fall_154 rfl rfl ?_
        refine k_iconst (v := 1) h dX9_fall_155 (by decide) ?_
        refine k_iadd h dX9_fall_156 ?_
        refine k_imul h dX9_fall_157 ?_
        refine k_iload h 0 dX9_fall_158 rfl ?_
        refine k_callSI (As := [LI (10 * (p2 + 1)), LI q12]) (st := [LI 10, LI v16, LI p3, LR v15]) h (ctX9_least l B D cA sa (10 * (p2 + 1)) q12 s13) calX9_least (mw25 23 rfl) (Or.inl (mw25 22 rfl)) hgood ⟨rfl, rfl, Nat.le_of_ble_eq_true rfl, Nat.le_of_ble_eq_true rfl⟩ ⟨Nat.le_of_ble_eq_true rfl, Nat.le_of_ble_eq_true rfl⟩ rfl (Nat.le_of_ble_eq_true rfl) dX9_fall_160 (fun v17 s18 => ?_)
        refine k_imul h dX9_fall_163 ?_
        refine k_isub h dX9_fall_164 ?_
        refine k_asI h dX9_fall_165 (fun s19 => ?_)
        refine k_aload_n h 1 dX9_fall_166 rfl rfl ?_
        refine k_getR h fX9_38 (Or.inl (mw7 20 rfl)) dX9_fall_167 (fun v20 => ?_)
        refine k_iload_n h 4 dX9_fall_170 rfl rfl ?_
        refine k_alI h dX9_fall_171 (fun v21 => ?_)
        refine k_aload_n h 1 dX9_fall_172 rfl rfl ?_
        refine k_getR h fX9_10 (Or.inl (mw6 20 rfl)) dX9_fall_173 (fun v22 => ?_)
        refine k_iload_n h 2 dX9_fall_176 rfl rfl ?_
        refine k_alI h dX9_fall_177 (fun v23 => ?_)
        refine k_jn (A := Unit) (J := 192) (fun q24 => [(0, LR (some a0)), (3, LI p3)]) (fun q24 => []) (fun q24 s25 => ?_) (fun j26 hj26 => ?_)
        · refine k_aload_n h 0 dX9_fall_192 rfl rfl ?_
          refine k_getR h fX9_39 (Or.inl (mw7 21 rfl)) dX9_fall_193 (fun v27 => ?_)
          refine k_iload_n h 1 dX9_fall_196 rfl rfl ?_
          refine k_iconst (v := 2) h dX9_fall_197 (by decide) ?_
          refine k_asI h dX9_fall_198 (fun s28 => ?_)
          exact k_vret h rfl dX9_fall_199 (Nat.le_of_ble_eq_true rfl) (Nat.le_of_ble_eq_true rfl)
        · refine k_icmp_le (tgt := 192) h dX9_fall_178 (by decide) ?_ ?_
          · refine k_sub (lv' := [(0, LR (some a0)), (3, LI p3)]) h [1, 4] rfl ?_
            exact hj26 () s19
          · refine k_iload h 5 dX9_fall_181 rfl ?_
            refine k_iconst (v := 3) h dX9_fall_183 (by decide) ?_
            refine k_icmp_ne (tgt := 199) h dX9_fall_184 (by decide) ?_ ?_
            · exact k_vret h rfl dX9_fall_199 (Nat.le_of_ble_eq_true rfl) (Nat.le_of_ble_eq_true rfl)
            · refine k_iload_n h 3 dX9_fall_187 rfl rfl ?_
              refine k_iconst (v := 2) h dX9_fall_188 (by decide) ?_
              refine k_icmp_lt (tgt := 199) h dX9_fall_189 (by decide) ?_ ?_
              · exact k_vret h rfl dX9_fall_199 (Nat.le_of_ble_eq_true rfl) (Nat.le_of_ble_eq_true rfl)
              · refine k_sub (lv' := [(0, LR (some a0)), (3, LI p3)]) h [1, 4] rfl ?_
                exact hj26 () s19
      · refine k_icmp_ne (tgt := 128) h dX9_fall_120 (by decide) ?_ ?_
        · refine k_iload h 4 dX9_fall_128 rfl ?_
          refine k_iconst (v := 2) h dX9_fall_130 (by decide) ?_
          refine k_icmp_ne (tgt := 139) h dX9_fall_131 (by decide) ?_ ?_
          · refine k_bipush (v := 50) h dX9_fall_139 (by decide) ?_
            refine k_sub (lv' := [(0, LR (some a0)), (1, LI p1), (2, LI p2), (3, LI p3), (4, LI v2)]) h [0, 1, 2, 3, 4] rfl ?_
            exact hj14 50 s10
          · refine k_bipush (v := 45) h dX9_fall_134 (by decide) ?_
            refine k_goto (tgt := 141) h dX9_fall_136 (by decide) ?_
            refine k_sub (lv' := [(0, LR (some a0)), (1, LI p1), (2, LI p2), (3, LI p3), (4, LI v2)]) h [0, 1, 2, 3, 4] rfl ?_
            exact hj14 45 s10
        · refine k_bipush (v := 60) h dX9_fall_123 (by decide) ?_
          refine k_goto (tgt := 141) h dX9_fall_125 (by decide) ?_
          refine k_sub (lv' := [(0, LR (some a0)), (1, LI p1), (2, LI p2), (3, LI p3), (4, LI v2)]) h [0, 1, 2, 3, 4] rfl ?_
          exact hj14 60 s10
    · refine k_icmp_ne (tgt := 117) h dX9_fall_38 (by decide) ?_ ?_
      · refine k_sub (lv' := [(0, LR (some a0)), (1, LI p1), (2, LI p2), (3, LI p3), (4, LI v2)]) h [0, 1, 2, 3, 4] rfl ?_
        exact hj11 () s8
      · refine k_iload_n h 2 dX9_fall_41 rfl rfl ?_
        refine k_iconst (v := 5) h dX9_fall_42 (by decide) ?_
        refine k_icmp_lt (tgt := 117) h dX9_fall_43 (by decide) ?_ ?_
        · refine k_sub (lv' := [(0, LR (some a0)), (1, LI p1), (2, LI p2), (3, LI p3), (4, LI v2)]) h [0, 1, 2, 3, 4] rfl ?_
          exact hj11 () s8
        · refine k_aload_n h 0 dX9_fall_46 rfl rfl ?_
          refine k_getR h fX9_12 (Or.inl (mw6 22 rfl)) dX9_fall_47 (fun v29 => ?_)
          refine k_iload_n h 1 dX9_fall_50 rfl rfl ?_
          refine k_alI h dX9_fall_51 (fun v30 => ?_)
          refine k_istore (lv' := [(5, LI v30), (0, LR (some a0)), (1, LI p1), (2, LI p2), (3, LI p3), (4, LI v2)]) h dX9_fall_52 (by decide) rfl ?_
          refine k_aload_n h 1 dX9_fall_54 rfl rfl ?_
          refine k_getR h fX9_36 (Or.inl (mw7 18 rfl)) dX9_fall_55 (fun v31 => ?_)
          refine k_iload_n h 4 dX9_fall_58 rfl rfl ?_
          refine k_dup2 h dX9_fall_59 rfl rfl ?_
          refine k_alI h dX9_fall_60 (fun v32 => ?_)
          refine k_iload h 0 dX9_fall_61 rfl ?_
          refine k_jn (A := Int32) (J := 83) (fun q33 => [(0, LR (some a0)), (1, LI p1), (2, LI p2), (3, LI p3), (4, LI v2), (5, LI v30)]) (fun q33 => [LI q33, LI v32, LI p3, LR v31]) (fun q33 s34 => ?_) (fun j35 hj35 => ?_)
          · refine k_iadd h dX9_fall_83 ?_
            refine k_asI h dX9_fall_84 (fun s36 => ?_)
            refine k_aload_n h 0 dX9_fall_85 rfl rfl ?_
            refine k_getR h fX9_37 (Or.inl (mw7 19 rfl)) dX9_fall_86 (fun v37 => ?_)
            refine k_iload_n h 3 dX9_fall_89 rfl rfl ?_
            refine k_dup2 h dX9_fall_90 rfl rfl ?_
            refine k_alI h dX9_fall_91 (fun v38 => ?_)
            refine k_iload h 5 dX9_fall_92 rfl ?_
            refine k_iconst (v := 1) h dX9_fall_94 (by decide) ?_
            refine k_jn (A := Int32) (J := 115) (fun q39 => [(0, LR (some a0)), (1, LI p1), (2, LI p2), (3, LI p3), (4, LI v2)]) (fun q39 => [LI q39, LI v38, LI p3, LR v37]) (fun q39 s40 => ?_) (fun j41 hj41 => ?_)
            · refine k_iadd h dX9_fall_115 ?_
              refine k_asI h dX9_fall_116 (fun s42 => ?_)
              refine k_sub (lv' := [(0, LR (some a0)), (1, LI p1), (2, LI p2), (3, LI p3), (4, LI v2)]) h [0, 1, 2, 3, 4] rfl ?_
              exact hj11 () s42
            · refine k_icmp_ne (tgt := 103) h dX9_fall_95 (by decide) ?_ ?_
              · refine k_iload h 5 dX9_fall_103 rfl ?_
                refine k_iconst (v := 3) h dX9_fall_105 (by decide) ?_
                refine k_icmp_ne (tgt := 114) h dX9_fall_106 (by decide) ?_ ?_
                · refine k_iconst (v := 0) h dX9_fall_114 (by decide) ?_
                  refine k_sub (lv' := [(0, LR (some a0)), (1, LI p1), (2, LI p2), (3, LI p3), (4, LI v2)]) h [0, 1, 2, 3, 4] rfl ?_
                  exact hj41 0 s36
                · refine k_bipush (v := (-80)) h dX9_fall_109 (by decide) ?_
                  refine k_goto (tgt := 115) h dX9_fall_111 (by decide) ?_
                  refine k_sub (lv' := [(0, LR (some a0)), (1, LI p1), (2, LI p2), (3, LI p3), (4, LI v2)]) h [0, 1, 2, 3, 4] rfl ?_
                  exact hj41 (-80) s36
              · refine k_bipush (v := 80) h dX9_fall_98 (by decide) ?_
                refine k_goto (tgt := 115) h dX9_fall_100 (by decide) ?_
                refine k_sub (lv' := [(0, LR (some a0)), (1, LI p1), (2, LI p2), (3, LI p3), (4, LI v2)]) h [0, 1, 2, 3, 4] rfl ?_
                exact hj41 80 s36
          · refine k_if_ne (tgt := 71) h dX9_fall_63 (by decide) ?_ ?_
            · refine k_iload h 0 dX9_fall_71 rfl ?_
              refine k_iconst (v := 2) h dX9_fall_73 (by decide) ?_
              refine k_icmp_ne (tgt := 82) h dX9_fall_74 (by decide) ?_ ?_
              · refine k_iconst (v := 0) h dX9_fall_82 (by decide) ?_
                refine k_sub (lv' := [(0, LR (some a0)), (1, LI p1), (2, LI p2), (3, LI p3), (4, LI v2), (5, LI v30)]) h [1, 2, 3, 4, 5, 0] rfl ?_
                exact hj35 0 s8
              · refine k_bipush (v := (-80)) h dX9_fall_77 (by decide) ?_
                refine k_goto (tgt := 83) h dX9_fall_79 (by decide) ?_
                refine k_sub (lv' := [(0, LR (some a0)), (1, LI p1), (2, LI p2), (3, LI p3), (4, LI v2), (5, LI v30)]) h [1, 2, 3, 4, 5, 0] rfl ?_
                exact hj35 (-80) s8
            · refine k_bipush (v := 80) h dX9_fall_66 (by decide) ?_
              refine k_goto (tgt := 83) h dX9_fall_68 (by decide) ?_
              refine k_sub (lv' := [(0, LR (some a0)), (1, LI p1), (2, LI p2), (3, LI p3), (4, LI v2), (5, LI v30)]) h [1, 2, 3, 4, 5, 0] rfl ?_
              exact hj35 80 s8
  · refine k_icmp_le (tgt := 25) h dX9_fall_18 (by decide) ?_ ?_
    · refine k_aload_n h 1 dX9_fall_25 rfl rfl ?_
      refine k_getI h fX9_34 (Or.inl (mw25 4 rfl)) dX9_fall_26 (fun v43 => ?_)
      refine k_iload_n h 3 dX9_fall_29 rfl rfl ?_
      refine k_iconst (v := 1) h dX9_fall_30 (by decide) ?_
      refine k_iadd h dX9_fall_31 ?_
      refine k_ishr h dX9_fall_32 ?_
      refine k_sub (lv' := [(0, LR (some a0)), (1, LI p1), (2, LI p2), (3, LI p3), (4, LI v2)]) h [1, 2, 3, 4, 0] rfl ?_
      exact hj7 (v43 >>> ((p2 + 1) &&& 31)) s0
    · refine k_iconst (v := 0) h dX9_fall_21 (by decide) ?_
      refine k_goto (tgt := 33) h dX9_fall_22 (by decide) ?_
      refine k_sub (lv' := [(0, LR (some a0)), (1, LI p1), (2, LI p2), (3, LI p3), (4, LI v2)]) h [1, 2, 3, 4, 0] rfl ?_
      exact hj7 0 s0
def mX9_layOut_b54 (a0 : Nat) (p2 : Int32) (p1 : Int32) (r16 : (Int32) → Sg → Option (Unit × Sg)) (q14 : Int32) (s15 : Sg) : Option (Unit × Sg) :=
if 1000 ≤ q14 then (
some ((), s15))
else (
gdR s15 9 38 (some a0) fun v17 =>
alI s15 v17 ((1001 * p2) + q14) fun v18 =>
ckZ 4000 (
gdR s15 9 36 (some a0) fun v19 =>
gdR s15 9 36 (some a0) fun v20 =>
alI s15 v20 ((1001 * p2) + q14) fun v21 =>
asI s15 v19 (((1001 * p2) + q14) + 1) v21 fun s22 =>
gdR s22 9 37 (some a0) fun v23 =>
gdR s22 9 37 (some a0) fun v24 =>
alI s22 v24 ((1001 * p2) + q14) fun v25 =>
asI s22 v23 (((1001 * p2) + q14) + 1) v25 fun s26 =>
gdR s26 9 38 (some a0) fun v27 =>
gdR s26 9 38 (some a0) fun v28 =>
alI s26 v28 ((1001 * p2) + q14) fun v29 =>
asI s26 v27 (((1001 * p2) + q14) + 1) v29 fun s30 =>
gdR s30 9 39 (some a0) fun v31 =>
gdR s30 9 39 (some a0) fun v32 =>
alI s30 v32 ((1001 * p2) + q14) fun v33 =>
asI s30 v31 (((1001 * p2) + q14) + 1) v33 fun s34 =>
gdR s34 9 39 (some a0) fun v35 =>
alI s34 v35 ((1001 * p2) + q14) fun v36 =>
jn (fun (q37 : Unit) (s38 : Sg) =>
gdR s38 9 39 (some a0) fun v40 =>
alI s38 v40 ((1001 * p2) + q14) fun v41 =>
if ¬ v41 = 1 then (
gdR s38 9 39 (some a0) fun v42 =>
alI s38 v42 ((1001 * p2) + q14) fun v43 =>
if ¬ v43 = 2 then (
r16 (q14 + 1) s38)
else (
gdR s38 9 41 (some a0) fun v44 =>
alI s38 v44 p2 fun v45 =>
asI s38 v44 p2 (v45 + 1) fun s46 =>
gdR s46 9 38 (some a0) fun v47 =>
alI s46 v47 (((1001 * p2) + q14) + 1) fun v48 =>
asI s46 v47 (((1001 * p2) + q14) + 1) (v48 - 50) fun s49 =>
gdR s49 9 38 (some a0) fun v50 =>
alI s49 v50 (((1001 * p2) + q14) + 1) fun v51 =>
if 0 < v51 then (
r16 (q14 + 1) s49)
else (
gdR s49 9 38 (some a0) fun v52 =>
asI s49 v52 (((1001 * p2) + q14) + 1) 0 fun s53 =>
gdR s53 9 39 (some a0) fun v54 =>
asI s53 v54 (((1001 * p2) + q14) + 1) 3 fun s55 =>
gdR s55 9 40 (some a0) fun v56 =>
asI s55 v56 p2 (q14 + 1) fun s57 =>
r16 (q14 + 1) s57)))
else (
cv s38 9 (some a0) fun a60 => cl (mX9_fall a60 p1 q14 (((1001 * p2) + q14) + 1) s38) fun u58 s59 =>
r16 (q14 + 1) s59)) (fun j39 =>
if 3 ≤ v36 then (
j39 () s34)
else (
gdR s34 9 36 (some a0) fun v61 =>
alI s34 v61 (((1001 * p2) + q14) + 1) fun v62 =>
gdR s34 9 32 (some a0) fun v63 =>
alI s34 v63 (v18 / 4000) fun v64 =>
asI s34 v61 (((1001 * p2) + q14) + 1) (v62 + v64) fun s65 =>
gdR s65 9 37 (some a0) fun v66 =>
alI s65 v66 (((1001 * p2) + q14) + 1) fun v67 =>
gdR s65 9 33 (some a0) fun v68 =>
alI s65 v68 (v18 / 4000) fun v69 =>
asI s65 v66 (((1001 * p2) + q14) + 1) (v67 + v69) fun s70 =>
j39 () s70))))
def mX9_layOut (a0 : Nat) (p1 : Int32) (p2 : Int32) (s0 : Sg) : Option (Unit × Sg) :=
gdR s0 9 36 (some a0) fun v1 =>
asI s0 v1 (1001 * p2) 0 fun s2 =>
gdR s2 9 37 (some a0) fun v3 =>
asI s2 v3 (1001 * p2) 0 fun s4 =>
gdR s4 9 38 (some a0) fun v5 =>
gdI s4 9 35 (some a0) fun v6 =>
asI s4 v5 (1001 * p2) v6 fun s7 =>
gdR s7 9 39 (some a0) fun v8 =>
asI s7 v8 (1001 * p2) 1 fun s9 =>
gdR s9 9 40 (some a0) fun v10 =>
asI s9 v10 p2 (-1) fun s11 =>
gdR s11 9 41 (some a0) fun v12 =>
asI s11 v12 p2 0 fun s13 =>
lp (mX9_layOut_b54 a0 p2 p1) FU 0 s13
def rmX9_layOut : Room := { frames := 2, cells := 0, slots := 0, locals := 46 }
theorem calX9_layOut : Cal yX9_layOut cX9_layOut 7 none 2 := ⟨(mw25 17 rfl), (mw1 5 rfl), by decide, by decide, by decide +kernel⟩
set_option maxHeartbeats 4000000 in
set_option maxRecDepth 100000 in
theorem ctX9_layOut (l : Launch) (B : Nat) (D : va_G) (cA : Nat → ClassId) (sa : Nat → Nat) (a0 : Nat) (p1 : Int32) (p2 : Int32) (s0 : Sg) : Ct l B D cA sa yX9_layOut cX9_layOut 7 none rmX9_layOut rU [LR (some a0), LI p1, LI p2] s0 0 0 (mX9_layOut a0 p1 p2 s0) := by
  refine Ct.of (own := RX9) (by decide) rfl _ (Nat.le_of_ble_eq_true rfl) rfl ?_
  intro p e s m args below meth c h hi
  unfold mX9_layOut
  refine k_sipush (v := 1001) h dX9_layOut_0 (by decide) ?_
  refine k_iload_n h 2 dX9_layOut_3 rfl rfl ?_
  refine k_imul h dX9_layOut_4 ?_
  refine k_istore_n (lv' := [(3, LI (1001 * p2)), (0, LR (some a0)), (1, LI p1), (2, LI p2)]) h dX9_layOut_5 rfl (by decide) rfl ?_
  refine k_aload_n h 1 dX9_layOut_6 rfl rfl ?_
  refine k_getR h fX9_36 (Or.inl (mw7 18 rfl)) dX9_layOut_7 (fun v1 => ?_)
  refine k_iload_n h 0 dX9_layOut_10 rfl rfl ?_
  refine k_iconst (v := 0) h dX9_layOut_11 (by decide) ?_
  refine k_asI h dX9_layOut_12 (fun s2 => ?_)
  refine k_aload_n h 1 dX9_layOut_13 rfl rfl ?_
  refine k_getR h fX9_37 (Or.inl (mw7 19 rfl)) dX9_layOut_14 (fun v3 => ?_)
  refine k_iload_n h 0 dX9_layOut_17 rfl rfl ?_
  refine k_iconst (v := 0) h dX9_layOut_18 (by decide) ?_
  refine k_asI h dX9_layOut_19 (fun s4 => ?_)
  refine k_aload_n h 1 dX9_layOut_20 rfl rfl ?_
  refine k_getR h fX9_38 (Or.inl (mw7 20 rfl)) dX9_layOut_21 (fun v5 => ?_)
  refine k_iload_n h 0 dX9_layOut_24 rfl rfl ?_
  refine k_aload_n h 1 dX9_layOut_25 rfl rfl ?_
  refine k_getI h fX9_35 (Or.inl (mw25 9 rfl)) dX9_layOut_26 (fun v6 => ?_)
  refine k_asI h dX9_layOut_29 (fun s7 => ?_)
  refine k_aload_n h 1 dX9_layOut_30 rfl rfl ?_
  refine k_getR h fX9_39 (Or.inl (mw7 21 rfl)) dX9_layOut_31 (fun v8 => ?_)
  refine k_iload_n h 0 dX9_layOut_34 rfl rfl ?_
  refine k_iconst (v := 1) h dX9_layOut_35 (by decide) ?_
  refine k_asI h dX9_layOut_36 (fun s9 => ?_)
  refine k_aload_n h 1 dX9_layOut_37 rfl rfl ?_
  refine k_getR h fX9_40 (Or.inl (mw7 22 rfl)) dX9_layOut_38 (fun v10 => ?_)
  refine k_iload_n h 3 dX9_layOut_41 rfl rfl ?_
  refine k_iconst (v := (-1)) h dX9_layOut_42 (by decide) ?_
  refine k_asI h dX9_layOut_43 (fun s11 => ?_)
  refine k_aload_n h 1 dX9_layOut_44 rfl rfl ?_
  refine k_getR h fX9_41 (Or.inl (mw7 23 rfl)) dX9_layOut_45 (fun v12 => ?_)
  refine k_iload_n h 3 dX9_layOut_48 rfl rfl ?_
  refine k_iconst (v := 0) h dX9_layOut_49 (by decide) ?_
  refine k_asI h dX9_layOut_50 (fun s13 => ?_)
  refine k_iconst (v := 0) h dX9_layOut_51 (by decide) ?_
  refine k_istore (lv' := [(4, LI 0), (3, LI (1001 * p2)), (0, LR (some a0)), (1, LI p1), (2, LI p2)]) h dX9_layOut_52 (by decide) rfl ?_
  refine k_sub (lv' := [(0, LR (some a0)), (1, LI p1), (2, LI p2), (3, LI (1001 * p2)), (4, LI 0)]) h [2, 3, 4, 1, 0] rfl ?_
  refine k_lp (A := Int32) (fun q14 => [(0, LR (some a0)), (1, LI p1), (2, LI p2), (3, LI (1001 * p2)), (4, LI q14)]) (fun q14 => []) (fun r16 hr16 q14 s15 => ?_) FU 0 s13
  unfold mX9_layOut_b54
  refine k_iload h 4 dX9_layOut_54 rfl ?_
  refine k_sipush (v := 1000) h dX9_layOut_56 (by decide) ?_
  refine k_icmp_ge (tgt := 302) h dX9_layOut_59 (by decide) ?_ ?_
  · exact k_vret h rfl dX9_layOut_302 (Nat.le_of_ble_eq_true rfl) (Nat.le_of_ble_eq_true rfl)
  · refine k_iload_n h 3 dX9_layOut_62 rfl rfl ?_
    refine k_iload h 4 dX9_layOut_63 rfl ?_
    refine k_iadd h dX9_layOut_65 ?_
    refine k_istore (lv' := [(5, LI ((1001 * p2) + q14)), (0, LR (some a0)), (1, LI p1), (2, LI p2), (3, LI (1001 * p2)), (4, LI q14)]) h dX9_layOut_66 (by decide) rfl ?_
    refine k_aload_n h 1 dX9_layOut_68 rfl rfl ?_
    refine k_getR h fX9_38 (Or.inl (mw7 20 rfl)) dX9_layOut_69 (fun v17 => ?_)
    refine k_iload h 0 dX9_layOut_72 rfl ?_
    refine k_alI h dX9_layOut_74 (fun v18 => ?_)
    refine k_sipush (v := 4000) h dX9_layOut_75 (by decide) ?_
    refine k_idiv h dX9_layOut_78 ?_
    refine k_istore (lv' := [(6, LI (v18 / 4000)), (5, LI ((1001 * p2) + q14)), (0, LR (some a0)), (1, LI p1), (2, LI p2), (3, LI (1001 * p2)), (4, LI q14)]) h dX9_layOut_79 (by decide) rfl ?_
    refine k_aload_n h 2 dX9_layOut_81 rfl rfl ?_
    refine k_getR h fX9_36 (Or.inl (mw7 18 rfl)) dX9_layOut_82 (fun v19 => ?_)
    refine k_iload h 1 dX9_layOut_85 rfl ?_
    refine k_iconst (v := 1) h dX9_layOut_87 (by decide) ?_
    refine k_iadd h dX9_layOut_88 ?_
    refine k_aload_n h 2 dX9_layOut_89 rfl rfl ?_
    refine k_getR h fX9_36 (Or.inl (mw7 18 rfl)) dX9_layOut_90 (fun v20 => ?_)
    refine k_iload h 1 dX9_layOut_93 rfl ?_
    refine k_alI h dX9_layOut_95 (fun v21 => ?_)
    refine k_asI h dX9_layOut_96 (fun s22 => ?_)
    refine k_aload_n h 2 dX9_layOut_97 rfl rfl ?_
    refine k_getR h fX9_37 (Or.inl (mw7 19 rfl)) dX9_layOut_98 (fun v23 => ?_)
    refine k_iload h 1 dX9_layOut_101 rfl ?_
    refine k_iconst (v := 1) h dX9_layOut_103 (by decide) ?_
    refine k_iadd h dX9_layOut_104 ?_
    refine k_aload_n h 2 dX9_layOut_105 rfl rfl ?_
    refine k_getR h fX9_37 (Or.inl (mw7 19 rfl)) dX9_layOut_106 (fun v24 => ?_)
    refine k_iload h 1 dX9_layOut_109 rfl ?_
    refine k_alI h dX9_layOut_111 (fun v25 => ?_)
    refine k_asI h dX9_layOut_112 (fun s26 => ?_)
    refine k_aload_n h 2 dX9_layOut_113 rfl rfl ?_
    refine k_getR h fX9_38 (Or.inl (mw7 20 rfl)) dX9_layOut_114 (fun v27 => ?_)
    refine k_iload h 1 dX9_layOut_117 rfl ?_
    refine k_iconst (v := 1) h dX9_layOut_119 (by decide) ?_
    refine k_iadd h dX9_layOut_120 ?_
    refine k_aload_n h 2 dX9_layOut_121 rfl rfl ?_
    refine k_getR h fX9_38 (Or.inl (mw7 20 rfl)) dX9_layOut_122 (fun v28 => ?_)
    refine k_iload h 1 dX9_layOut_125 rfl ?_
    refine k_alI h dX9_layOut_127 (fun v29 => ?_)
    refine k_asI h dX9_layOut_128 (fun s30 => ?_)
    refine k_aload_n h 2 dX9_layOut_129 rfl rfl ?_
    refine k_getR h fX9_39 (Or.inl (mw7 21 rfl)) dX9_layOut_130 (fun v31 => ?_)
    refine k_iload h 1 dX9_layOut_133 rfl ?_
    refine k_iconst (v := 1) h dX9_layOut_135 (by decide) ?_
    refine k_iadd h dX9_layOut_136 ?_
    refine k_aload_n h 2 dX9_layOut_137 rfl rfl ?_
    refine k_getR h fX9_39 (Or.inl (mw7 21 rfl)) dX9_layOut_138 (fun v32 => ?_)
    refine k_iload h 1 dX9_layOut_141 rfl ?_
    refine k_alI h dX9_layOut_143 (fun v33 => ?_)
    refine k_asI h dX9_layOut_144 (fun s34 => ?_)
    refine k_aload_n h 2 dX9_layOut_145 rfl rfl ?_
    refine k_getR h fX9_39 (Or.inl (mw7 21 rfl)) dX9_layOut_146 (fun v35 => ?_)
    refine k_iload h 1 dX9_layOut_149 rfl ?_
    refine k_alI h dX9_layOut_151 (fun v36 => ?_)
    refine k_iconst (v := 3) h dX9_layOut_152 (by decide) ?_
    refine k_jn (A := Unit) (J := 194) (fun q37 => [(0, LR (some a0)), (1, LI p1), (2, LI p2), (3, LI (1001 * p2)), (4, LI q14), (5, LI ((1001 * p2) + q14))]) (fun q37 => []) (fun q37 s38 => ?_) (fun j39 hj39 => ?_)
    · refine k_aload_n h 0 dX9_layOut_194 rfl rfl ?_
      refine k_getR h fX9_39 (Or.inl (mw7 21 rfl)) dX9_layOut_195 (fun v40 => ?_)
      refine k_iload h 5 dX9_layOut_198 rfl ?_
      refine k_alI h dX9_layOut_200 (fun v41 => ?_)
      refine k_iconst (v := 1) h dX9_layOut_201 (by decide) ?_
      refine k_icmp_ne (tgt := 219) h dX9_layOut_202 (by decide) ?_ ?_
      · refine k_aload_n h 0 dX9_layOut_219 rfl rfl ?_
        refine k_getR h fX9_39 (Or.inl (mw7 21 rfl)) dX9_layOut_220 (fun v42 => ?_)
        refine k_iload h 5 dX9_layOut_223 rfl ?_
        refine k_alI h dX9_layOut_225 (fun v43 => ?_)
        refine k_iconst (v := 2) h dX9_layOut_226 (by decide) ?_
        refine k_icmp_ne (tgt := 296) h dX9_layOut_227 (by decide) ?_ ?_
        · refine k_iinc (w := (q14 + 1)) (lv' := [(4, LI (q14 + 1)), (0, LR (some a0)), (1, LI p1), (2, LI p2), (3, LI (1001 * p2)), (5, LI ((1001 * p2) + q14))]) h 4 dX9_layOut_296 rfl rfl (by decide) rfl ?_
          refine k_goto (tgt := 54) h dX9_layOut_299 (by decide) ?_
          refine k_sub (lv' := [(0, LR (some a0)), (1, LI p1), (2, LI p2), (3, LI (1001 * p2)), (4, LI (q14 + 1))]) h [1, 2, 3, 4, 0] rfl ?_
          exact hr16 (q14 + 1) s38
        · refine k_aload_n h 0 dX9_layOut_230 rfl rfl ?_
          refine k_getR h fX9_41 (Or.inl (mw7 23 rfl)) dX9_layOut_231 (fun v44 => ?_)
          refine k_iload_n h 2 dX9_layOut_234 rfl rfl ?_
          refine k_dup2 h dX9_layOut_235 rfl rfl ?_
          refine k_alI h dX9_layOut_236 (fun v45 => ?_)
          refine k_iconst (v := 1) h dX9_layOut_237 (by decide) ?_
          refine k_iadd h dX9_layOut_238 ?_
          refine k_asI h dX9_layOut_239 (fun s46 => ?_)
          refine k_aload_n h 0 dX9_layOut_240 rfl rfl ?_
          refine k_getR h fX9_38 (Or.inl (mw7 20 rfl)) dX9_layOut_241 (fun v47 => ?_)
          refine k_iload h 5 dX9_layOut_244 rfl ?_
          refine k_iconst (v := 1) h dX9_layOut_246 (by decide) ?_
          refine k_iadd h dX9_layOut_247 ?_
          refine k_dup2 h dX9_layOut_248 rfl rfl ?_
          refine k_alI h dX9_layOut_249 (fun v48 => ?_)
          refine k_bipush (v := 50) h dX9_layOut_250 (by decide) ?_
          refine k_isub h dX9_layOut_252 ?_
          refine k_asI h dX9_layOut_253 (fun s49 => ?_)
          refine k_aload_n h 0 dX9_layOut_254 rfl rfl ?_
          refine k_getR h fX9_38 (Or.inl (mw7 20 rfl)) dX9_layOut_255 (fun v50 => ?_)
          refine k_iload h 5 dX9_layOut_258 rfl ?_
          refine k_iconst (v := 1) h dX9_layOut_260 (by decide) ?_
          refine k_iadd h dX9_layOut_261 ?_
          refine k_alI h dX9_layOut_262 (fun v51 => ?_)
          refine k_if_gt (tgt := 296) h dX9_layOut_263 (by decide) ?_ ?_
          · refine k_iinc (w := (q14 + 1)) (lv' := [(4, LI (q14 + 1)), (0, LR (some a0)), (1, LI p1), (2, LI p2), (3, LI (1001 * p2)), (5, LI ((1001 * p2) + q14))]) h 4 dX9_layOut_296 rfl rfl (by decide) rfl ?_
            refine k_goto (tgt := 54) h dX9_layOut_299 (by decide) ?_
            refine k_sub (lv' := [(0, LR (some a0)), (1, LI p1), (2, LI p2), (3, LI (1001 * p2)), (4, LI (q14 + 1))]) h [1, 2, 3, 4, 0] rfl ?_
            exact hr16 (q14 + 1) s49
          · refine k_aload_n h 0 dX9_layOut_266 rfl rfl ?_
            refine k_getR h fX9_38 (Or.inl (mw7 20 rfl)) dX9_layOut_267 (fun v52 => ?_)
            refine k_iload h 5 dX9_layOut_270 rfl ?_
            refine k_iconst (v := 1) h dX9_layOut_272 (by decide) ?_
            refine k_iadd h dX9_layOut_273 ?_
            refine k_iconst (v := 0) h dX9_layOut_274 (by decide) ?_
            refine k_asI h dX9_layOut_275 (fun s53 => ?_)
            refine k_aload_n h 0 dX9_layOut_276 rfl rfl ?_
            refine k_getR h fX9_39 (Or.inl (mw7 21 rfl)) dX9_layOut_277 (fun v54 => ?_)
            refine k_iload h 5 dX9_layOut_280 rfl ?_
            refine k_iconst (v := 1) h dX9_layOut_282 (by decide) ?_
            refine k_iadd h dX9_layOut_283 ?_
            refine k_iconst (v := 3) h dX9_layOut_284 (by decide) ?_
            refine k_asI h dX9_layOut_285 (fun s55 => ?_)
            refine k_aload_n h 0 dX9_layOut_286 rfl rfl ?_
            refine k_getR h fX9_40 (Or.inl (mw7 22 rfl)) dX9_layOut_287 (fun v56 => ?_)
            refine k_iload_n h 2 dX9_layOut_290 rfl rfl ?_
            refine k_iload h 4 dX9_layOut_291 rfl ?_
            refine k_iconst (v := 1) h dX9_layOut_293 (by decide) ?_
            refine k_iadd h dX9_layOut_294 ?_
            refine k_asI h dX9_layOut_295 (fun s57 => ?_)
            refine k_iinc (w := (q14 + 1)) (lv' := [(4, LI (q14 + 1)), (0, LR (some a0)), (1, LI p1), (2, LI p2), (3, LI (1001 * p2)), (5, LI ((1001 * p2) + q14))]) h 4 dX9_layOut_296 rfl rfl (by decide) rfl ?_
            refine k_goto (tgt := 54) h dX9_layOut_299 (by decide) ?_
            refine k_sub (lv' := [(0, LR (some a0)), (1, LI p1), (2, LI p2), (3, LI (1001 * p2)), (4, LI (q14 + 1))]) h [1, 2, 3, 4, 0] rfl ?_
            exact hr16 (q14 + 1) s57
      · refine k_aload_n h 0 dX9_layOut_205 rfl rfl ?_
        refine k_iload_n h 1 dX9_layOut_206 rfl rfl ?_
        refine k_iload h 4 dX9_layOut_207 rfl ?_
        refine k_iload h 5 dX9_layOut_209 rfl ?_
        refine k_iconst (v := 1) h dX9_layOut_211 (by decide) ?_
        refine k_iadd h dX9_layOut_212 ?_
        refine k_callVU (As := [LI p1, LI q14, LI (((1001 * p2) + q14) + 1)]) (st := []) (x0 := (some a0)) (xg := fun a60 => mX9_fall a60 p1 q14 (((1001 * p2) + q14) + 1) s38) h (fun a60 => ctX9_fall l B D cA sa a60 p1 q14 (((1001 * p2) + q14) + 1) s38) calX9_fall rfl (by decide) (mw25 19 rfl) (mw25 20 rfl) (Or.inl (mw25 18 rfl)) hgood ⟨rfl, rfl, Nat.le_of_ble_eq_true rfl, Nat.le_of_ble_eq_true rfl⟩ ⟨Nat.le_of_ble_eq_true rfl, Nat.le_of_ble_eq_true rfl⟩ rfl (Nat.le_of_ble_eq_true rfl) dX9_layOut_213 (fun u58 s59 => ?_)
        refine k_goto (tgt := 296) h dX9_layOut_216 (by decide) ?_
        refine k_iinc (w := (q14 + 1)) (lv' := [(4, LI (q14 + 1)), (0, LR (some a0)), (1, LI p1), (2, LI p2), (3, LI (1001 * p2)), (5, LI ((1001 * p2) + q14))]) h 4 dX9_layOut_296 rfl rfl (by decide) rfl ?_
        refine k_goto (tgt := 54) h dX9_layOut_299 (by decide) ?_
        refine k_sub (lv' := [(0, LR (some a0)), (1, LI p1), (2, LI p2), (3, LI (1001 * p2)), (4, LI (q14 + 1))]) h [1, 2, 3, 4, 0] rfl ?_
        exact hr16 (q14 + 1) s59
    · refine k_icmp_ge (tgt := 194) h dX9_layOut_153 (by decide) ?_ ?_
      · refine k_sub (lv' := [(0, LR (some a0)), (1, LI p1), (2, LI p2), (3, LI (1001 * p2)), (4, LI q14), (5, LI ((1001 * p2) + q14))]) h [2, 3, 4, 5, 6, 1] rfl ?_
        exact hj39 () s34
      · refine k_aload_n h 2 dX9_layOut_156 rfl rfl ?_
        refine k_getR h fX9_36 (Or.inl (mw7 18 rfl)) dX9_layOut_157 (fun v61 => ?_)
        refine k_iload h 1 dX9_layOut_160 rfl ?_
        refine k_iconst (v := 1) h dX9_layOut_162 (by decide) ?_
        refine k_iadd h dX9_layOut_163 ?_
        refine k_dup2 h dX9_layOut_164 rfl rfl ?_
        refine k_alI h dX9_layOut_165 (fun v62 => ?_)
        refine k_aload_n h 2 dX9_layOut_166 rfl rfl ?_
        refine k_getR h fX9_32 (Or.inl (mw7 16 rfl)) dX9_layOut_167 (fun v63 => ?_)
        refine k_iload h 0 dX9_layOut_170 rfl ?_
        refine k_alI h dX9_layOut_172 (fun v64 => ?_)
        refine k_iadd h dX9_layOut_173 ?_
        refine k_asI h dX9_layOut_174 (fun s65 => ?_)
        refine k_aload_n h 2 dX9_layOut_175 rfl rfl ?_
        refine k_getR h fX9_37 (Or.inl (mw7 19 rfl)) dX9_layOut_176 (fun v66 => ?_)
        refine k_iload h 1 dX9_layOut_179 rfl ?_
        refine k_iconst (v := 1) h dX9_layOut_181 (by decide) ?_
        refine k_iadd h dX9_layOut_182 ?_
        refine k_dup2 h dX9_layOut_183 rfl rfl ?_
        refine k_alI h dX9_layOut_184 (fun v67 => ?_)
        refine k_aload_n h 2 dX9_layOut_185 rfl rfl ?_
        refine k_getR h fX9_33 (Or.inl (mw7 17 rfl)) dX9_layOut_186 (fun v68 => ?_)
        refine k_iload h 0 dX9_layOut_189 rfl ?_
        refine k_alI h dX9_layOut_191 (fun v69 => ?_)
        refine k_iadd h dX9_layOut_192 ?_
        refine k_asI h dX9_layOut_193 (fun s70 => ?_)
        refine k_sub (lv' := [(0, LR (some a0)), (1, LI p1), (2, LI p2), (3, LI (1001 * p2)), (4, LI q14), (5, LI ((1001 * p2) + q14))]) h [2, 3, 4, 5, 6, 1] rfl ?_
        exact hj39 () s70
def mX9_where (a0 : Nat) (p1 : Int32) (p2 : Int32) (p3 : Int32) (p4 : Int32) (s0 : Sg) : Option (Int32 × Sg) :=
cv s0 9 (some a0) fun a29 => cl (mX9_isIn a29 p1 p2 s0) fun v1 s2 =>
if v1 = 0 then (
some ((-1000000), s2))
else (
cl (mX9_in (Int32.toInt64 p3) 0 1000 s2) fun v3 s4 =>
if v3 = 0 then (
some ((-1000000), s4))
else (
cl (mX9_in (Int32.toInt64 p4) 0 3 s4) fun v5 s6 =>
if ¬ v5 = 0 then (
cv s6 9 (some a0) fun a28 => cl (mX9_takeLoad a28 p1 s6) fun u7 s8 =>
gdR s8 9 23 (some a0) fun v9 =>
alI s8 v9 ((6 * p1) + p2) fun v10 =>
cv s8 9 (some a0) fun a27 => cl (mX9_layOut a27 v10 0 s8) fun u11 s12 =>
swc p4 0 [
gdR s12 9 25 (some a0) fun v15 =>
alI s12 v15 p1 fun v16 =>
gdI s12 9 34 (some a0) fun v17 =>
cv s12 9 (some a0) fun a22 => cl (mX9_leavesAt a22 p1 p2 s12) fun v18 s19 =>
gdR s19 9 36 (some a0) fun v20 =>
alI s19 v20 p3 fun v21 =>
some (((v16 + (v17 * v18)) + v21), s19),
gdR s12 9 37 (some a0) fun v23 =>
alI s12 v23 p3 fun v24 =>
some (v24, s12),
gdR s12 9 38 (some a0) fun v25 =>
alI s12 v25 p3 fun v26 =>
some (v26, s12)] (
gdR s12 9 39 (some a0) fun v13 =>
alI s12 v13 p3 fun v14 =>
some (v14, s12)))
else (
some ((-1000000), s6))))
def rmX9_where : Room := { frames := 3, cells := 0, slots := 0, locals := 72 }
theorem calX9_where : Cal yX9_where cX9_where 5 (some .int) 4 := ⟨(mw25 2 rfl), (mw1 5 rfl), by decide, by decide, by decide +kernel⟩
set_option maxHeartbeats 4000000 in
set_option maxRecDepth 100000 in
theorem ctX9_where (l : Launch) (B : Nat) (D : va_G) (cA : Nat → ClassId) (sa : Nat → Nat) (a0 : Nat) (p1 : Int32) (p2 : Int32) (p3 : Int32) (p4 : Int32) (s0 : Sg) : Ct l B D cA sa yX9_where cX9_where 5 (some .int) rmX9_where rI [LR (some a0), LI p1, LI p2, LI p3, LI p4] s0 0 0 (mX9_where a0 p1 p2 p3 p4 s0) := by
  refine Ct.of (own := RX9) (by decide) rfl _ (Nat.le_of_ble_eq_true rfl) rfl ?_
  intro p e s m args below meth c h hi
  unfold mX9_where
  refine k_aload_n h 0 dX9_where_0 rfl rfl ?_
  refine k_iload_n h 1 dX9_where_1 rfl rfl ?_
  refine k_iload_n h 2 dX9_where_2 rfl rfl ?_
  refine k_callVI (As := [LI p1, LI p2]) (st := []) (x0 := (some a0)) (xg := fun a29 => mX9_isIn a29 p1 p2 s0) h (fun a29 => ctX9_isIn l B D cA sa a29 p1 p2 s0) calX9_isIn rfl (by decide) (mw21 13 rfl) (mw21 14 rfl) (Or.inl (mw21 12 rfl)) hgood ⟨rfl, rfl, Nat.le_of_ble_eq_true rfl, Nat.le_of_ble_eq_true rfl⟩ ⟨Nat.le_of_ble_eq_true rfl, Nat.le_of_ble_eq_true rfl⟩ rfl (Nat.le_of_ble_eq_true rfl) dX9_where_3 (fun v1 s2 => ?_)
  refine k_if_eq (tgt := 34) h dX9_where_6 (by decide) ?_ ?_
  · refine k_ldc (v := (-1000000)) h dX9_where_34 (mw25 3 rfl) ?_
    exact k_iret h rfl dX9_where_36 (Nat.le_of_ble_eq_true rfl) (Nat.le_of_ble_eq_true rfl)
  · refine k_iload_n h 3 dX9_where_9 rfl rfl ?_
    refine k_i2l h dX9_where_10 ?_
    refine k_lconst (v := 0) h dX9_where_11 (by decide) ?_
    refine k_ldc2_w (v := 1000) h dX9_where_12 (mw15 2 rfl) ?_
    refine k_callSI (As := [LL (Int32.toInt64 p3), LL 0, LL 1000]) (st := []) h (ctX9_in l B D cA sa (Int32.toInt64 p3) 0 1000 s2) calX9_in (mw9 1 rfl) (Or.inl (mw9 0 rfl)) hgood ⟨rfl, rfl, Nat.le_of_ble_eq_true rfl, Nat.le_of_ble_eq_true rfl⟩ ⟨Nat.le_of_ble_eq_true rfl, Nat.le_of_ble_eq_true rfl⟩ rfl (Nat.le_of_ble_eq_true rfl) dX9_where_15 (fun v3 s4 => ?_)
    refine k_if_eq (tgt := 34) h dX9_where_18 (by decide) ?_ ?_
    · refine k_ldc (v := (-1000000)) h dX9_where_34 (mw25 3 rfl) ?_
      exact k_iret h rfl dX9_where_36 (Nat.le_of_ble_eq_true rfl) (Nat.le_of_ble_eq_true rfl)
    · refine k_iload h 4 dX9_where_21 rfl ?_
      refine k_i2l h dX9_where_23 ?_
      refine k_lconst (v := 0) h dX9_where_24 (by decide) ?_
      refine k_ldc2_w (v := 3) h dX9_where_25 (mw15 14 rfl) ?_
      refine k_callSI (As := [LL (Int32.toInt64 p4), LL 0, LL 3]) (st := []) h (ctX9_in l B D cA sa (Int32.toInt64 p4) 0 3 s4) calX9_in (mw9 1 rfl) (Or.inl (mw9 0 rfl)) hgood ⟨rfl, rfl, Nat.le_of_ble_eq_true rfl, Nat.le_of_ble_eq_true rfl⟩ ⟨Nat.le_of_ble_eq_true rfl, Nat.le_of_ble_eq_true rfl⟩ rfl (Nat.le_of_ble_eq_true rfl) dX9_where_28 (fun v5 s6 => ?_)
      refine k_if_ne (tgt := 37) h dX9_where_31 (by decide) ?_ ?_
      · refine k_aload_n h 0 dX9_where_37 rfl rfl ?_
        refine k_iload_n h 1 dX9_where_38 rfl rfl ?_
        refine k_callVU (As := [LI p1]) (st := []) (x0 := (some a0)) (xg := fun a28 => mX9_takeLoad a28 p1 s6) h (fun a28 => ctX9_takeLoad l B D cA sa a28 p1 s6) calX9_takeLoad rfl (by decide) (mw25 6 rfl) (mw25 7 rfl) (Or.inl (mw25 5 rfl)) hgood ⟨rfl, rfl, Nat.le_of_ble_eq_true rfl, Nat.le_of_ble_eq_true rfl⟩ ⟨Nat.le_of_ble_eq_true rfl, Nat.le_of_ble_eq_true rfl⟩ rfl (Nat.le_of_ble_eq_true rfl) dX9_where_39 (fun u7 s8 => ?_)
        refine k_aload_n h 0 dX9_where_42 rfl rfl ?_
        refine k_aload_n h 0 dX9_where_43 rfl rfl ?_
        refine k_getR h fX9_23 (Or.inl (mw7 8 rfl)) dX9_where_44 (fun v9 => ?_)
        refine k_bipush (v := 6) h dX9_where_47 (by decide) ?_
        refine k_iload_n h 1 dX9_where_49 rfl rfl ?_
        refine k_imul h dX9_where_50 ?_
        refine k_iload_n h 2 dX9_where_51 rfl rfl ?_
        refine k_iadd h dX9_where_52 ?_
        refine k_alI h dX9_where_53 (fun v10 => ?_)
        refine k_iconst (v := 0) h dX9_where_54 (by decide) ?_
        refine k_callVU (As := [LI v10, LI 0]) (st := []) (x0 := (some a0)) (xg := fun a27 => mX9_layOut a27 v10 0 s8) h (fun a27 => ctX9_layOut l B D cA sa a27 v10 0 s8) calX9_layOut rfl (by decide) (mw25 15 rfl) (mw25 16 rfl) (Or.inl (mw25 14 rfl)) hgood ⟨rfl, rfl, Nat.le_of_ble_eq_true rfl, Nat.le_of_ble_eq_true rfl⟩ ⟨Nat.le_of_ble_eq_true rfl, Nat.le_of_ble_eq_true rfl⟩ rfl (Nat.le_of_ble_eq_true rfl) dX9_where_55 (fun u11 s12 => ?_)
        refine k_iload h 4 dX9_where_58 rfl ?_
        refine k_table (tg := 128) (tgs := [88, 114, 121]) h dX9_where_60 (by decide) (by decide) rfl (by decide) ?_ ?_
        · refine k_aload_n h 0 dX9_where_128 rfl rfl ?_
          refine k_getR h fX9_39 (Or.inl (mw7 21 rfl)) dX9_where_129 (fun v13 => ?_)
          refine k_iload_n h 3 dX9_where_132 rfl rfl ?_
          refine k_alI h dX9_where_133 (fun v14 => ?_)
          exact k_iret h rfl dX9_where_134 (Nat.le_of_ble_eq_true rfl) (Nat.le_of_ble_eq_true rfl)
        · intro q9 hq9
          simp only [List.zip_cons_cons, List.zip_nil_right, List.zip_nil_left, List.mem_cons, List.not_mem_nil, or_false] at hq9
          rcases hq9 with rfl | rfl | rfl
          · dsimp only
            refine k_aload_n h 0 dX9_where_88 rfl rfl ?_
            refine k_getR h fX9_25 (Or.inl (mw7 10 rfl)) dX9_where_89 (fun v15 => ?_)
            refine k_iload_n h 1 dX9_where_92 rfl rfl ?_
            refine k_alI h dX9_where_93 (fun v16 => ?_)
            refine k_aload_n h 0 dX9_where_94 rfl rfl ?_
            refine k_getI h fX9_34 (Or.inl (mw25 4 rfl)) dX9_where_95 (fun v17 => ?_)
            refine k_aload_n h 0 dX9_where_98 rfl rfl ?_
            refine k_iload_n h 1 dX9_where_99 rfl rfl ?_
            refine k_iload_n h 2 dX9_where_100 rfl rfl ?_
            refine k_callVI (As := [LI p1, LI p2]) (st := [LI v17, LI v16]) (x0 := (some a0)) (xg := fun a22 => mX9_leavesAt a22 p1 p2 s12) h (fun a22 => ctX9_leavesAt l B D cA sa a22 p1 p2 s12) calX9_leavesAt rfl (by decide) (mw23 8 rfl) (mw23 9 rfl) (Or.inl (mw23 7 rfl)) hgood ⟨rfl, rfl, Nat.le_of_ble_eq_true rfl, Nat.le_of_ble_eq_true rfl⟩ ⟨Nat.le_of_ble_eq_true rfl, Nat.le_of_ble_eq_true rfl⟩ rfl (Nat.le_of_ble_eq_true rfl) dX9_where_101 (fun v18 s19 => ?_)
            refine k_imul h dX9_where_104 ?_
            refine k_iadd h dX9_where_105 ?_
            refine k_aload_n h 0 dX9_where_106 rfl rfl ?_
            refine k_getR h fX9_36 (Or.inl (mw7 18 rfl)) dX9_where_107 (fun v20 => ?_)
            refine k_iload_n h 3 dX9_where_110 rfl rfl ?_
            refine k_alI h dX9_where_111 (fun v21 => ?_)
            refine k_iadd h dX9_where_112 ?_
            exact k_iret h rfl dX9_where_113 (Nat.le_of_ble_eq_true rfl) (Nat.le_of_ble_eq_true rfl)
          · dsimp only
            refine k_aload_n h 0 dX9_where_114 rfl rfl ?_
            refine k_getR h fX9_37 (Or.inl (mw7 19 rfl)) dX9_where_115 (fun v23 => ?_)
            refine k_iload_n h 3 dX9_where_118 rfl rfl ?_
            refine k_alI h dX9_where_119 (fun v24 => ?_)
            exact k_iret h rfl dX9_where_120 (Nat.le_of_ble_eq_true rfl) (Nat.le_of_ble_eq_true rfl)
          · dsimp only
            refine k_aload_n h 0 dX9_where_121 rfl rfl ?_
            refine k_getR h fX9_38 (Or.inl (mw7 20 rfl)) dX9_where_122 (fun v25 => ?_)
            refine k_iload_n h 3 dX9_where_125 rfl rfl ?_
            refine k_alI h dX9_where_126 (fun v26 => ?_)
            exact k_iret h rfl dX9_where_127 (Nat.le_of_ble_eq_true rfl) (Nat.le_of_ble_eq_true rfl)
      · refine k_ldc (v := (-1000000)) h dX9_where_34 (mw25 3 rfl) ?_
        exact k_iret h rfl dX9_where_36 (Nat.le_of_ble_eq_true rfl) (Nat.le_of_ble_eq_true rfl)
def mX9_nearBy_b7 (a0 : Nat) (p1 : Int32) (r3 : (Int64 × Int32) → Sg → Option (Int64 × Sg)) (q1 : Int64 × Int32) (s2 : Sg) : Option (Int64 × Sg) :=
gdR s2 9 40 (some a0) fun v4 =>
alI s2 v4 0 fun v5 =>
if v5 ≤ q1.2 then (
some (q1.1, s2))
else (
gdR s2 9 40 (some a0) fun v6 =>
alI s2 v6 1 fun v7 =>
if v7 ≤ (q1.2 - p1) then (
some (q1.1, s2))
else (
gdR s2 9 36 (some a0) fun v8 =>
alI s2 v8 q1.2 fun v9 =>
gdR s2 9 36 (some a0) fun v10 =>
alI s2 v10 ((1001 + q1.2) - p1) fun v11 =>
gdI s2 9 34 (some a0) fun v12 =>
gdR s2 9 37 (some a0) fun v13 =>
alI s2 v13 q1.2 fun v14 =>
gdR s2 9 37 (some a0) fun v15 =>
alI s2 v15 ((1001 + q1.2) - p1) fun v16 =>
gdR s2 9 38 (some a0) fun v17 =>
alI s2 v17 q1.2 fun v18 =>
gdR s2 9 38 (some a0) fun v19 =>
alI s2 v19 ((1001 + q1.2) - p1) fun v20 =>
if 0 ≤ (lg_cmp ((((((Int32.toInt64 v9) - (Int32.toInt64 v11)) - ((Int32.toInt64 v12) * (Int32.toInt64 p1))) * (((Int32.toInt64 v9) - (Int32.toInt64 v11)) - ((Int32.toInt64 v12) * (Int32.toInt64 p1)))) + (((Int32.toInt64 v14) - (Int32.toInt64 v16)) * ((Int32.toInt64 v14) - (Int32.toInt64 v16)))) + (((Int32.toInt64 v18) - (Int32.toInt64 v20)) * ((Int32.toInt64 v18) - (Int32.toInt64 v20)))) q1.1) then (
r3 (q1.1, (q1.2 + 1)) s2)
else (
r3 (((((((Int32.toInt64 v9) - (Int32.toInt64 v11)) - ((Int32.toInt64 v12) * (Int32.toInt64 p1))) * (((Int32.toInt64 v9) - (Int32.toInt64 v11)) - ((Int32.toInt64 v12) * (Int32.toInt64 p1)))) + (((Int32.toInt64 v14) - (Int32.toInt64 v16)) * ((Int32.toInt64 v14) - (Int32.toInt64 v16)))) + (((Int32.toInt64 v18) - (Int32.toInt64 v20)) * ((Int32.toInt64 v18) - (Int32.toInt64 v20)))), (q1.2 + 1)) s2)))
def mX9_nearBy (a0 : Nat) (p1 : Int32) (s0 : Sg) : Option (Int64 × Sg) :=
lp (mX9_nearBy_b7 a0 p1) FU (1152921504606846976, p1) s0
def rmX9_nearBy : Room := { frames := 0, cells := 0, slots := 0, locals := 0 }
theorem calX9_nearBy : Cal yX9_nearBy cX9_nearBy 14 (some .long) 1 := ⟨(mw27 3 rfl), (mw1 5 rfl), by decide, by decide, by decide +kernel⟩
set_option maxHeartbeats 4000000 in
set_option maxRecDepth 100000 in
theorem ctX9_nearBy (l : Launch) (B : Nat) (D : va_G) (cA : Nat → ClassId) (sa : Nat → Nat) (a0 : Nat) (p1 : Int32) (s0 : Sg) : Ct l B D cA sa yX9_nearBy cX9_nearBy 14 (some .long) rmX9_nearBy rL [LR (some a0), LI p1] s0 0 0 (mX9_nearBy a0 p1 s0) := by
  refine Ct.of (own := RX9) (by decide) rfl _ (Nat.le_of_ble_eq_true rfl) rfl ?_
  intro p e s m args below meth c h hi
  unfold mX9_nearBy
  refine k_ldc2_w (v := 1152921504606846976) h dX9_nearBy_0 (mw27 4 rfl) ?_
  refine k_lstore_n (lv' := [(2, LL 1152921504606846976), (0, LR (some a0)), (1, LI p1)]) h dX9_nearBy_3 rfl (by decide) rfl ?_
  refine k_iload_n h 2 dX9_nearBy_4 rfl rfl ?_
  refine k_istore (lv' := [(4, LI p1), (2, LL 1152921504606846976), (0, LR (some a0)), (1, LI p1)]) h dX9_nearBy_5 (by decide) rfl ?_
  refine k_sub (lv' := [(0, LR (some a0)), (1, LI p1), (2, LL 1152921504606846976), (4, LI p1)]) h [2, 3, 1, 0] rfl ?_
  refine k_lp (A := Int64 × Int32) (fun q1 => [(0, LR (some a0)), (1, LI p1), (2, LL q1.1), (4, LI q1.2)]) (fun q1 => []) (fun r3 hr3 q1 s2 => ?_) FU (1152921504606846976, p1) s0
  unfold mX9_nearBy_b7
  refine k_iload h 3 dX9_nearBy_7 rfl ?_
  refine k_aload_n h 0 dX9_nearBy_9 rfl rfl ?_
  refine k_getR h fX9_40 (Or.inl (mw7 22 rfl)) dX9_nearBy_10 (fun v4 => ?_)
  refine k_iconst (v := 0) h dX9_nearBy_13 (by decide) ?_
  refine k_alI h dX9_nearBy_14 (fun v5 => ?_)
  refine k_icmp_ge (tgt := 146) h dX9_nearBy_15 (by decide) ?_ ?_
  · refine k_lload_n h 2 dX9_nearBy_146 rfl rfl ?_
    exact k_lret h rfl dX9_nearBy_147 (Nat.le_of_ble_eq_true rfl) (Nat.le_of_ble_eq_true rfl)
  · refine k_iload h 3 dX9_nearBy_18 rfl ?_
    refine k_iload_n h 1 dX9_nearBy_20 rfl rfl ?_
    refine k_isub h dX9_nearBy_21 ?_
    refine k_aload_n h 0 dX9_nearBy_22 rfl rfl ?_
    refine k_getR h fX9_40 (Or.inl (mw7 22 rfl)) dX9_nearBy_23 (fun v6 => ?_)
    refine k_iconst (v := 1) h dX9_nearBy_26 (by decide) ?_
    refine k_alI h dX9_nearBy_27 (fun v7 => ?_)
    refine k_icmp_ge (tgt := 146) h dX9_nearBy_28 (by decide) ?_ ?_
    · refine k_lload_n h 2 dX9_nearBy_146 rfl rfl ?_
      exact k_lret h rfl dX9_nearBy_147 (Nat.le_of_ble_eq_true rfl) (Nat.le_of_ble_eq_true rfl)
    · refine k_sipush (v := 1001) h dX9_nearBy_31 (by decide) ?_
      refine k_iload h 3 dX9_nearBy_34 rfl ?_
      refine k_iadd h dX9_nearBy_36 ?_
      refine k_iload_n h 1 dX9_nearBy_37 rfl rfl ?_
      refine k_isub h dX9_nearBy_38 ?_
      refine k_istore (lv' := [(5, LI ((1001 + q1.2) - p1)), (0, LR (some a0)), (1, LI p1), (2, LL q1.1), (4, LI q1.2)]) h dX9_nearBy_39 (by decide) rfl ?_
      refine k_aload_n h 1 dX9_nearBy_41 rfl rfl ?_
      refine k_getR h fX9_36 (Or.inl (mw7 18 rfl)) dX9_nearBy_42 (fun v8 => ?_)
      refine k_iload h 4 dX9_nearBy_45 rfl ?_
      refine k_alI h dX9_nearBy_47 (fun v9 => ?_)
      refine k_i2l h dX9_nearBy_48 ?_
      refine k_aload_n h 1 dX9_nearBy_49 rfl rfl ?_
      refine k_getR h fX9_36 (Or.inl (mw7 18 rfl)) dX9_nearBy_50 (fun v10 => ?_)
      refine k_iload h 0 dX9_nearBy_53 rfl ?_
      refine k_alI h dX9_nearBy_55 (fun v11 => ?_)
      refine k_i2l h dX9_nearBy_56 ?_
      refine k_lsub h dX9_nearBy_57 ?_
      refine k_aload_n h 1 dX9_nearBy_58 rfl rfl ?_
      refine k_getI h fX9_34 (Or.inl (mw25 4 rfl)) dX9_nearBy_59 (fun v12 => ?_)
      refine k_i2l h dX9_nearBy_62 ?_
      refine k_iload_n h 2 dX9_nearBy_63 rfl rfl ?_
      refine k_i2l h dX9_nearBy_64 ?_
      refine k_lmul h dX9_nearBy_65 ?_
      refine k_lsub h dX9_nearBy_66 ?_
      refine k_lstore (lv' := [(6, LL (((Int32.toInt64 v9) - (Int32.toInt64 v11)) - ((Int32.toInt64 v12) * (Int32.toInt64 p1)))), (5, LI ((1001 + q1.2) - p1)), (0, LR (some a0)), (1, LI p1), (2, LL q1.1), (4, LI q1.2)]) h dX9_nearBy_67 (by decide) rfl ?_
      refine k_aload_n h 2 dX9_nearBy_69 rfl rfl ?_
      refine k_getR h fX9_37 (Or.inl (mw7 19 rfl)) dX9_nearBy_70 (fun v13 => ?_)
      refine k_iload h 5 dX9_nearBy_73 rfl ?_
      refine k_alI h dX9_nearBy_75 (fun v14 => ?_)
      refine k_i2l h dX9_nearBy_76 ?_
      refine k_aload_n h 2 dX9_nearBy_77 rfl rfl ?_
      refine k_getR h fX9_37 (Or.inl (mw7 19 rfl)) dX9_nearBy_78 (fun v15 => ?_)
      refine k_iload h 1 dX9_nearBy_81 rfl ?_
      refine k_alI h dX9_nearBy_83 (fun v16 => ?_)
      refine k_i2l h dX9_nearBy_84 ?_
      refine k_lsub h dX9_nearBy_85 ?_
      refine k_lstore (lv' := [(8, LL ((Int32.toInt64 v14) - (Int32.toInt64 v16))), (6, LL (((Int32.toInt64 v9) - (Int32.toInt64 v11)) - ((Int32.toInt64 v12) * (Int32.toInt64 p1)))), (5, LI ((1001 + q1.2) - p1)), (0, LR (some a0)), (1, LI p1), (2, LL q1.1), (4, LI q1.2)]) h dX9_nearBy_86 (by decide) rfl ?_
      refine k_aload_n h 3 dX9_nearBy_88 rfl rfl ?_
      refine k_getR h fX9_38 (Or.inl (mw7 20 rfl)) dX9_nearBy_89 (fun v17 => ?_)
      refine k_iload h 6 dX9_nearBy_92 rfl ?_
      refine k_alI h dX9_nearBy_94 (fun v18 => ?_)
      refine k_i2l h dX9_nearBy_95 ?_
      refine k_aload_n h 3 dX9_nearBy_96 rfl rfl ?_
      refine k_getR h fX9_38 (Or.inl (mw7 20 rfl)) dX9_nearBy_97 (fun v19 => ?_)
      refine k_iload h 2 dX9_nearBy_100 rfl ?_
      refine k_alI h dX9_nearBy_102 (fun v20 => ?_)
      refine k_i2l h dX9_nearBy_103 ?_
      refine k_lsub h dX9_nearBy_104 ?_
      refine k_lstore (lv' := [(10, LL ((Int32.toInt64 v18) - (Int32.toInt64 v20))), (8, LL ((Int32.toInt64 v14) - (Int32.toInt64 v16))), (6, LL (((Int32.toInt64 v9) - (Int32.toInt64 v11)) - ((Int32.toInt64 v12) * (Int32.toInt64 p1)))), (5, LI ((1001 + q1.2) - p1)), (0, LR (some a0)), (1, LI p1), (2, LL q1.1), (4, LI q1.2)]) h dX9_nearBy_105 (by decide) rfl ?_
      refine k_lload h 2 dX9_nearBy_107 rfl ?_
      refine k_lload h 2 dX9_nearBy_109 rfl ?_
      refine k_lmul h dX9_nearBy_111 ?_
      refine k_lload h 1 dX9_nearBy_112 rfl ?_
      refine k_lload h 1 dX9_nearBy_114 rfl ?_
      refine k_lmul h dX9_nearBy_116 ?_
      refine k_ladd h dX9_nearBy_117 ?_
      refine k_lload h 0 dX9_nearBy_118 rfl ?_
      refine k_lload h 0 dX9_nearBy_120 rfl ?_
      refine k_lmul h dX9_nearBy_122 ?_
      refine k_ladd h dX9_nearBy_123 ?_
      refine k_lstore (lv' := [(12, LL ((((((Int32.toInt64 v9) - (Int32.toInt64 v11)) - ((Int32.toInt64 v12) * (Int32.toInt64 p1))) * (((Int32.toInt64 v9) - (Int32.toInt64 v11)) - ((Int32.toInt64 v12) * (Int32.toInt64 p1)))) + (((Int32.toInt64 v14) - (Int32.toInt64 v16)) * ((Int32.toInt64 v14) - (Int32.toInt64 v16)))) + (((Int32.toInt64 v18) - (Int32.toInt64 v20)) * ((Int32.toInt64 v18) - (Int32.toInt64 v20))))), (10, LL ((Int32.toInt64 v18) - (Int32.toInt64 v20))), (8, LL ((Int32.toInt64 v14) - (Int32.toInt64 v16))), (6, LL (((Int32.toInt64 v9) - (Int32.toInt64 v11)) - ((Int32.toInt64 v12) * (Int32.toInt64 p1)))), (5, LI ((1001 + q1.2) - p1)), (0, LR (some a0)), (1, LI p1), (2, LL q1.1), (4, LI q1.2)]) h dX9_nearBy_124 (by decide) rfl ?_
      refine k_lload h 0 dX9_nearBy_126 rfl ?_
      refine k_lload_n h 7 dX9_nearBy_128 rfl rfl ?_
      refine k_lcmp h dX9_nearBy_129 ?_
      refine k_if_ge (tgt := 138) h dX9_nearBy_130 (by decide) ?_ ?_
      · refine k_lload_n h 7 dX9_nearBy_138 rfl rfl ?_
        refine k_lstore_n (lv' := [(2, LL q1.1), (12, LL ((((((Int32.toInt64 v9) - (Int32.toInt64 v11)) - ((Int32.toInt64 v12) * (Int32.toInt64 p1))) * (((Int32.toInt64 v9) - (Int32.toInt64 v11)) - ((Int32.toInt64 v12) * (Int32.toInt64 p1)))) + (((Int32.toInt64 v14) - (Int32.toInt64 v16)) * ((Int32.toInt64 v14) - (Int32.toInt64 v16)))) + (((Int32.toInt64 v18) - (Int32.toInt64 v20)) * ((Int32.toInt64 v18) - (Int32.toInt64 v20))))), (10, LL ((Int32.toInt64 v18) - (Int32.toInt64 v20))), (8, LL ((Int32.toInt64 v14) - (Int32.toInt64 v16))), (6, LL (((Int32.toInt64 v9) - (Int32.toInt64 v11)) - ((Int32.toInt64 v12) * (Int32.toInt64 p1)))), (5, LI ((1001 + q1.2) - p1)), (0, LR (some a0)), (1, LI p1), (4, LI q1.2)]) h dX9_nearBy_139 rfl (by decide) rfl ?_
        refine k_iinc (w := (q1.2 + 1)) (lv' := [(4, LI (q1.2 + 1)), (2, LL q1.1), (12, LL ((((((Int32.toInt64 v9) - (Int32.toInt64 v11)) - ((Int32.toInt64 v12) * (Int32.toInt64 p1))) * (((Int32.toInt64 v9) - (Int32.toInt64 v11)) - ((Int32.toInt64 v12) * (Int32.toInt64 p1)))) + (((Int32.toInt64 v14) - (Int32.toInt64 v16)) * ((Int32.toInt64 v14) - (Int32.toInt64 v16)))) + (((Int32.toInt64 v18) - (Int32.toInt64 v20)) * ((Int32.toInt64 v18) - (Int32.toInt64 v20))))), (10, LL ((Int32.toInt64 v18) - (Int32.toInt64 v20))), (8, LL ((Int32.toInt64 v14) - (Int32.toInt64 v16))), (6, LL (((Int32.toInt64 v9) - (Int32.toInt64 v11)) - ((Int32.toInt64 v12) * (Int32.toInt64 p1)))), (5, LI ((1001 + q1.2) - p1)), (0, LR (some a0)), (1, LI p1)]) h 8 dX9_nearBy_140 rfl rfl (by decide) rfl ?_
        refine k_goto (tgt := 7) h dX9_nearBy_143 (by decide) ?_
        refine k_sub (lv' := [(0, LR (some a0)), (1, LI p1), (2, LL q1.1), (4, LI (q1.2 + 1))]) h [7, 8, 1, 0] rfl ?_
        exact hr3 (q1.1, (q1.2 + 1)) s2
      · refine k_lload h 0 dX9_nearBy_133 rfl ?_
        refine k_goto (tgt := 139) h dX9_nearBy_135 (by decide) ?_
        refine k_lstore_n (lv' := [(2, LL ((((((Int32.toInt64 v9) - (Int32.toInt64 v11)) - ((Int32.toInt64 v12) * (Int32.toInt64 p1))) * (((Int32.toInt64 v9) - (Int32.toInt64 v11)) - ((Int32.toInt64 v12) * (Int32.toInt64 p1)))) + (((Int32.toInt64 v14) - (Int32.toInt64 v16)) * ((Int32.toInt64 v14) - (Int32.toInt64 v16)))) + (((Int32.toInt64 v18) - (Int32.toInt64 v20)) * ((Int32.toInt64 v18) - (Int32.toInt64 v20))))), (12, LL ((((((Int32.toInt64 v9) - (Int32.toInt64 v11)) - ((Int32.toInt64 v12) * (Int32.toInt64 p1))) * (((Int32.toInt64 v9) - (Int32.toInt64 v11)) - ((Int32.toInt64 v12) * (Int32.toInt64 p1)))) + (((Int32.toInt64 v14) - (Int32.toInt64 v16)) * ((Int32.toInt64 v14) - (Int32.toInt64 v16)))) + (((Int32.toInt64 v18) - (Int32.toInt64 v20)) * ((Int32.toInt64 v18) - (Int32.toInt64 v20))))), (10, LL ((Int32.toInt64 v18) - (Int32.toInt64 v20))), (8, LL ((Int32.toInt64 v14) - (Int32.toInt64 v16))), (6, LL (((Int32.toInt64 v9) - (Int32.toInt64 v11)) - ((Int32.toInt64 v12) * (Int32.toInt64 p1)))), (5, LI ((1001 + q1.2) - p1)), (0, LR (some a0)), (1, LI p1), (4, LI q1.2)]) h dX9_nearBy_139 rfl (by decide) rfl ?_
        refine k_iinc (w := (q1.2 + 1)) (lv' := [(4, LI (q1.2 + 1)), (2, LL ((((((Int32.toInt64 v9) - (Int32.toInt64 v11)) - ((Int32.toInt64 v12) * (Int32.toInt64 p1))) * (((Int32.toInt64 v9) - (Int32.toInt64 v11)) - ((Int32.toInt64 v12) * (Int32.toInt64 p1)))) + (((Int32.toInt64 v14) - (Int32.toInt64 v16)) * ((Int32.toInt64 v14) - (Int32.toInt64 v16)))) + (((Int32.toInt64 v18) - (Int32.toInt64 v20)) * ((Int32.toInt64 v18) - (Int32.toInt64 v20))))), (12, LL ((((((Int32.toInt64 v9) - (Int32.toInt64 v11)) - ((Int32.toInt64 v12) * (Int32.toInt64 p1))) * (((Int32.toInt64 v9) - (Int32.toInt64 v11)) - ((Int32.toInt64 v12) * (Int32.toInt64 p1)))) + (((Int32.toInt64 v14) - (Int32.toInt64 v16)) * ((Int32.toInt64 v14) - (Int32.toInt64 v16)))) + (((Int32.toInt64 v18) - (Int32.toInt64 v20)) * ((Int32.toInt64 v18) - (Int32.toInt64 v20))))), (10, LL ((Int32.toInt64 v18) - (Int32.toInt64 v20))), (8, LL ((Int32.toInt64 v14) - (Int32.toInt64 v16))), (6, LL (((Int32.toInt64 v9) - (Int32.toInt64 v11)) - ((Int32.toInt64 v12) * (Int32.toInt64 p1)))), (5, LI ((1001 + q1.2) - p1)), (0, LR (some a0)), (1, LI p1)]) h 8 dX9_nearBy_140 rfl rfl (by decide) rfl ?_
        refine k_goto (tgt := 7) h dX9_nearBy_143 (by decide) ?_
        refine k_sub (lv' := [(0, LR (some a0)), (1, LI p1), (2, LL ((((((Int32.toInt64 v9) - (Int32.toInt64 v11)) - ((Int32.toInt64 v12) * (Int32.toInt64 p1))) * (((Int32.toInt64 v9) - (Int32.toInt64 v11)) - ((Int32.toInt64 v12) * (Int32.toInt64 p1)))) + (((Int32.toInt64 v14) - (Int32.toInt64 v16)) * ((Int32.toInt64 v14) - (Int32.toInt64 v16)))) + (((Int32.toInt64 v18) - (Int32.toInt64 v20)) * ((Int32.toInt64 v18) - (Int32.toInt64 v20))))), (4, LI (q1.2 + 1))]) h [7, 8, 1, 0] rfl ?_
        exact hr3 (((((((Int32.toInt64 v9) - (Int32.toInt64 v11)) - ((Int32.toInt64 v12) * (Int32.toInt64 p1))) * (((Int32.toInt64 v9) - (Int32.toInt64 v11)) - ((Int32.toInt64 v12) * (Int32.toInt64 p1)))) + (((Int32.toInt64 v14) - (Int32.toInt64 v16)) * ((Int32.toInt64 v14) - (Int32.toInt64 v16)))) + (((Int32.toInt64 v18) - (Int32.toInt64 v20)) * ((Int32.toInt64 v18) - (Int32.toInt64 v20)))), (q1.2 + 1)) s2
def mX9_nearOf (a0 : Nat) (p1 : Int32) (p2 : Int32) (p3 : Int32) (s0 : Sg) : Option (Int64 × Sg) :=
jn (fun (q1 : Int32) (s2 : Sg) =>
jn (fun (q4 : Int32) (s5 : Sg) =>
gdR s5 9 23 (some a0) fun v7 =>
alI s5 v7 ((6 * p1) + q1) fun v8 =>
cv s5 9 (some a0) fun a25 => cl (mX9_layOut a25 v8 0 s5) fun u9 s10 =>
gdR s10 9 23 (some a0) fun v11 =>
alI s10 v11 ((6 * p1) + q4) fun v12 =>
cv s10 9 (some a0) fun a24 => cl (mX9_layOut a24 v12 1 s10) fun u13 s14 =>
cv s14 9 (some a0) fun a23 => cl (mX9_leavesAt a23 p1 q4 s14) fun v15 s16 =>
cv s16 9 (some a0) fun a22 => cl (mX9_leavesAt a22 p1 q1 s16) fun v17 s18 =>
cv s18 9 (some a0) fun a21 => cl (mX9_nearBy a21 (v15 - v17) s18) fun v19 s20 =>
some (v19, s20)) (fun j6 =>
if p3 ≤ p2 then (
j6 p2 s2)
else (
j6 p3 s2))) (fun j3 =>
if p3 ≤ p2 then (
j3 p3 s0)
else (
j3 p2 s0))
def rmX9_nearOf : Room := { frames := 3, cells := 0, slots := 0, locals := 72 }
theorem calX9_nearOf : Cal yX9_nearOf cX9_nearOf 6 (some .long) 3 := ⟨(mw26 23 rfl), (mw1 5 rfl), by decide, by decide, by decide +kernel⟩
set_option maxHeartbeats 4000000 in
set_option maxRecDepth 100000 in
theorem ctX9_nearOf (l : Launch) (B : Nat) (D : va_G) (cA : Nat → ClassId) (sa : Nat → Nat) (a0 : Nat) (p1 : Int32) (p2 : Int32) (p3 : Int32) (s0 : Sg) : Ct l B D cA sa yX9_nearOf cX9_nearOf 6 (some .long) rmX9_nearOf rL [LR (some a0), LI p1, LI p2, LI p3] s0 0 0 (mX9_nearOf a0 p1 p2 p3 s0) := by
  refine Ct.of (own := RX9) (by decide) rfl _ (Nat.le_of_ble_eq_true rfl) rfl ?_
  intro p e s m args below meth c h hi
  unfold mX9_nearOf
  refine k_iload_n h 2 dX9_nearOf_0 rfl rfl ?_
  refine k_iload_n h 3 dX9_nearOf_1 rfl rfl ?_
  refine k_jn (A := Int32) (J := 10) (fun q1 => [(0, LR (some a0)), (1, LI p1), (2, LI p2), (3, LI p3)]) (fun q1 => [LI q1]) (fun q1 s2 => ?_) (fun j3 hj3 => ?_)
  · refine k_istore (lv' := [(4, LI q1), (0, LR (some a0)), (1, LI p1), (2, LI p2), (3, LI p3)]) h dX9_nearOf_10 (by decide) rfl ?_
    refine k_iload_n h 3 dX9_nearOf_12 rfl rfl ?_
    refine k_iload_n h 4 dX9_nearOf_13 rfl rfl ?_
    refine k_jn (A := Int32) (J := 22) (fun q4 => [(0, LR (some a0)), (1, LI p1), (4, LI q1)]) (fun q4 => [LI q4]) (fun q4 s5 => ?_) (fun j6 hj6 => ?_)
    · refine k_istore (lv' := [(5, LI q4), (0, LR (some a0)), (1, LI p1), (4, LI q1)]) h dX9_nearOf_22 (by decide) rfl ?_
      refine k_aload_n h 1 dX9_nearOf_24 rfl rfl ?_
      refine k_aload_n h 1 dX9_nearOf_25 rfl rfl ?_
      refine k_getR h fX9_23 (Or.inl (mw7 8 rfl)) dX9_nearOf_26 (fun v7 => ?_)
      refine k_bipush (v := 6) h dX9_nearOf_29 (by decide) ?_
      refine k_iload_n h 2 dX9_nearOf_31 rfl rfl ?_
      refine k_imul h dX9_nearOf_32 ?_
      refine k_iload h 3 dX9_nearOf_33 rfl ?_
      refine k_iadd h dX9_nearOf_35 ?_
      refine k_alI h dX9_nearOf_36 (fun v8 => ?_)
      refine k_iconst (v := 0) h dX9_nearOf_37 (by decide) ?_
      refine k_callVU (As := [LI v8, LI 0]) (st := []) (x0 := (some a0)) (xg := fun a25 => mX9_layOut a25 v8 0 s5) h (fun a25 => ctX9_layOut l B D cA sa a25 v8 0 s5) calX9_layOut rfl (by decide) (mw25 15 rfl) (mw25 16 rfl) (Or.inl (mw25 14 rfl)) hgood ⟨rfl, rfl, Nat.le_of_ble_eq_true rfl, Nat.le_of_ble_eq_true rfl⟩ ⟨Nat.le_of_ble_eq_true rfl, Nat.le_of_ble_eq_true rfl⟩ rfl (Nat.le_of_ble_eq_true rfl) dX9_nearOf_38 (fun u9 s10 => ?_)
      refine k_aload_n h 1 dX9_nearOf_41 rfl rfl ?_
      refine k_aload_n h 1 dX9_nearOf_42 rfl rfl ?_
      refine k_getR h fX9_23 (Or.inl (mw7 8 rfl)) dX9_nearOf_43 (fun v11 => ?_)
      refine k_bipush (v := 6) h dX9_nearOf_46 (by decide) ?_
      refine k_iload_n h 2 dX9_nearOf_48 rfl rfl ?_
      refine k_imul h dX9_nearOf_49 ?_
      refine k_iload h 0 dX9_nearOf_50 rfl ?_
      refine k_iadd h dX9_nearOf_52 ?_
      refine k_alI h dX9_nearOf_53 (fun v12 => ?_)
      refine k_iconst (v := 1) h dX9_nearOf_54 (by decide) ?_
      refine k_callVU (As := [LI v12, LI 1]) (st := []) (x0 := (some a0)) (xg := fun a24 => mX9_layOut a24 v12 1 s10) h (fun a24 => ctX9_layOut l B D cA sa a24 v12 1 s10) calX9_layOut rfl (by decide) (mw25 15 rfl) (mw25 16 rfl) (Or.inl (mw25 14 rfl)) hgood ⟨rfl, rfl, Nat.le_of_ble_eq_true rfl, Nat.le_of_ble_eq_true rfl⟩ ⟨Nat.le_of_ble_eq_true rfl, Nat.le_of_ble_eq_true rfl⟩ rfl (Nat.le_of_ble_eq_true rfl) dX9_nearOf_55 (fun u13 s14 => ?_)
      refine k_aload_n h 1 dX9_nearOf_58 rfl rfl ?_
      refine k_aload_n h 1 dX9_nearOf_59 rfl rfl ?_
      refine k_iload_n h 2 dX9_nearOf_60 rfl rfl ?_
      refine k_iload h 0 dX9_nearOf_61 rfl ?_
      refine k_callVI (As := [LI p1, LI q4]) (st := [LR (some a0)]) (x0 := (some a0)) (xg := fun a23 => mX9_leavesAt a23 p1 q4 s14) h (fun a23 => ctX9_leavesAt l B D cA sa a23 p1 q4 s14) calX9_leavesAt rfl (by decide) (mw23 8 rfl) (mw23 9 rfl) (Or.inl (mw23 7 rfl)) hgood ⟨rfl, rfl, Nat.le_of_ble_eq_true rfl, Nat.le_of_ble_eq_true rfl⟩ ⟨Nat.le_of_ble_eq_true rfl, Nat.le_of_ble_eq_true rfl⟩ rfl (Nat.le_of_ble_eq_true rfl) dX9_nearOf_63 (fun v15 s16 => ?_)
      refine k_aload_n h 1 dX9_nearOf_66 rfl rfl ?_
      refine k_iload_n h 2 dX9_nearOf_67 rfl rfl ?_
      refine k_iload h 3 dX9_nearOf_68 rfl ?_
      refine k_callVI (As := [LI p1, LI q1]) (st := [LI v15, LR (some a0)]) (x0 := (some a0)) (xg := fun a22 => mX9_leavesAt a22 p1 q1 s16) h (fun a22 => ctX9_leavesAt l B D cA sa a22 p1 q1 s16) calX9_leavesAt rfl (by decide) (mw23 8 rfl) (mw23 9 rfl) (Or.inl (mw23 7 rfl)) hgood ⟨rfl, rfl, Nat.le_of_ble_eq_true rfl, Nat.le_of_ble_eq_true rfl⟩ ⟨Nat.le_of_ble_eq_true rfl, Nat.le_of_ble_eq_true rfl⟩ rfl (Nat.le_of_ble_eq_true rfl) dX9_nearOf_70 (fun v17 s18 => ?_)
      refine k_isub h dX9_nearOf_73 ?_
      refine k_callVL (As := [LI (v15 - v17)]) (st := []) (x0 := (some a0)) (xg := fun a21 => mX9_nearBy a21 (v15 - v17) s18) h (fun a21 => ctX9_nearBy l B D cA sa a21 (v15 - v17) s18) calX9_nearBy rfl (by decide) (mw27 1 rfl) (mw27 2 rfl) (Or.inl (mw27 0 rfl)) hgood ⟨rfl, rfl, Nat.le_of_ble_eq_true rfl, Nat.le_of_ble_eq_true rfl⟩ ⟨Nat.le_of_ble_eq_true rfl, Nat.le_of_ble_eq_true rfl⟩ rfl (Nat.le_of_ble_eq_true rfl) dX9_nearOf_74 (fun v19 s20 => ?_)
      exact k_lret h rfl dX9_nearOf_77 (Nat.le_of_ble_eq_true rfl) (Nat.le_of_ble_eq_true rfl)
    · refine k_icmp_ge (tgt := 21) h dX9_nearOf_14 (by decide) ?_ ?_
      · refine k_iload_n h 3 dX9_nearOf_21 rfl rfl ?_
        refine k_sub (lv' := [(0, LR (some a0)), (1, LI p1), (4, LI q1)]) h [1, 2, 0] rfl ?_
        exact hj6 p2 s2
      · refine k_iload_n h 4 dX9_nearOf_17 rfl rfl ?_
        refine k_goto (tgt := 22) h dX9_nearOf_18 (by decide) ?_
        refine k_sub (lv' := [(0, LR (some a0)), (1, LI p1), (4, LI q1)]) h [1, 2, 0] rfl ?_
        exact hj6 p3 s2
  · refine k_icmp_ge (tgt := 9) h dX9_nearOf_2 (by decide) ?_ ?_
    · refine k_iload_n h 3 dX9_nearOf_9 rfl rfl ?_
      refine k_sub (lv' := [(0, LR (some a0)), (1, LI p1), (2, LI p2), (3, LI p3)]) h [0, 1, 2, 3] rfl ?_
      exact hj3 p3 s0
    · refine k_iload_n h 2 dX9_nearOf_5 rfl rfl ?_
      refine k_goto (tgt := 10) h dX9_nearOf_6 (by decide) ?_
      refine k_sub (lv' := [(0, LR (some a0)), (1, LI p1), (2, LI p2), (3, LI p3)]) h [0, 1, 2, 3] rfl ?_
      exact hj3 p2 s0
def mX9_near (a0 : Nat) (p1 : Int32) (p2 : Int32) (p3 : Int32) (s0 : Sg) : Option (Int64 × Sg) :=
cv s0 9 (some a0) fun a12 => cl (mX9_isIn a12 p1 p2 s0) fun v1 s2 =>
if v1 = 0 then (
some ((-1), s2))
else (
cv s2 9 (some a0) fun a11 => cl (mX9_isIn a11 p1 p3 s2) fun v3 s4 =>
if v3 = 0 then (
some ((-1), s4))
else (
if ¬ p2 = p3 then (
cv s4 9 (some a0) fun a10 => cl (mX9_takeLoad a10 p1 s4) fun u5 s6 =>
cv s6 9 (some a0) fun a9 => cl (mX9_nearOf a9 p1 p2 p3 s6) fun v7 s8 =>
some (v7, s8))
else (
some ((-1), s4))))
def rmX9_near : Room := { frames := 4, cells := 0, slots := 0, locals := 97 }
theorem calX9_near : Cal yX9_near cX9_near 4 (some .long) 3 := ⟨(mw26 18 rfl), (mw1 5 rfl), by decide, by decide, by decide +kernel⟩
set_option maxHeartbeats 4000000 in
set_option maxRecDepth 100000 in
theorem ctX9_near (l : Launch) (B : Nat) (D : va_G) (cA : Nat → ClassId) (sa : Nat → Nat) (a0 : Nat) (p1 : Int32) (p2 : Int32) (p3 : Int32) (s0 : Sg) : Ct l B D cA sa yX9_near cX9_near 4 (some .long) rmX9_near rL [LR (some a0), LI p1, LI p2, LI p3] s0 0 0 (mX9_near a0 p1 p2 p3 s0) := by
  refine Ct.of (own := RX9) (by decide) rfl _ (Nat.le_of_ble_eq_true rfl) rfl ?_
  intro p e s m args below meth c h hi
  unfold mX9_near
  refine k_aload_n h 0 dX9_near_0 rfl rfl ?_
  refine k_iload_n h 1 dX9_near_1 rfl rfl ?_
  refine k_iload_n h 2 dX9_near_2 rfl rfl ?_
  refine k_callVI (As := [LI p1, LI p2]) (st := []) (x0 := (some a0)) (xg := fun a12 => mX9_isIn a12 p1 p2 s0) h (fun a12 => ctX9_isIn l B D cA sa a12 p1 p2 s0) calX9_isIn rfl (by decide) (mw21 13 rfl) (mw21 14 rfl) (Or.inl (mw21 12 rfl)) hgood ⟨rfl, rfl, Nat.le_of_ble_eq_true rfl, Nat.le_of_ble_eq_true rfl⟩ ⟨Nat.le_of_ble_eq_true rfl, Nat.le_of_ble_eq_true rfl⟩ rfl (Nat.le_of_ble_eq_true rfl) dX9_near_3 (fun v1 s2 => ?_)
  refine k_if_eq (tgt := 23) h dX9_near_6 (by decide) ?_ ?_
  · refine k_ldc2_w (v := (-1)) h dX9_near_23 (mw26 19 rfl) ?_
    exact k_lret h rfl dX9_near_26 (Nat.le_of_ble_eq_true rfl) (Nat.le_of_ble_eq_true rfl)
  · refine k_aload_n h 0 dX9_near_9 rfl rfl ?_
    refine k_iload_n h 1 dX9_near_10 rfl rfl ?_
    refine k_iload_n h 3 dX9_near_11 rfl rfl ?_
    refine k_callVI (As := [LI p1, LI p3]) (st := []) (x0 := (some a0)) (xg := fun a11 => mX9_isIn a11 p1 p3 s2) h (fun a11 => ctX9_isIn l B D cA sa a11 p1 p3 s2) calX9_isIn rfl (by decide) (mw21 13 rfl) (mw21 14 rfl) (Or.inl (mw21 12 rfl)) hgood ⟨rfl, rfl, Nat.le_of_ble_eq_true rfl, Nat.le_of_ble_eq_true rfl⟩ ⟨Nat.le_of_ble_eq_true rfl, Nat.le_of_ble_eq_true rfl⟩ rfl (Nat.le_of_ble_eq_true rfl) dX9_near_12 (fun v3 s4 => ?_)
    refine k_if_eq (tgt := 23) h dX9_near_15 (by decide) ?_ ?_
    · refine k_ldc2_w (v := (-1)) h dX9_near_23 (mw26 19 rfl) ?_
      exact k_lret h rfl dX9_near_26 (Nat.le_of_ble_eq_true rfl) (Nat.le_of_ble_eq_true rfl)
    · refine k_iload_n h 2 dX9_near_18 rfl rfl ?_
      refine k_iload_n h 3 dX9_near_19 rfl rfl ?_
      refine k_icmp_ne (tgt := 27) h dX9_near_20 (by decide) ?_ ?_
      · refine k_aload_n h 0 dX9_near_27 rfl rfl ?_
        refine k_iload_n h 1 dX9_near_28 rfl rfl ?_
        refine k_callVU (As := [LI p1]) (st := []) (x0 := (some a0)) (xg := fun a10 => mX9_takeLoad a10 p1 s4) h (fun a10 => ctX9_takeLoad l B D cA sa a10 p1 s4) calX9_takeLoad rfl (by decide) (mw25 6 rfl) (mw25 7 rfl) (Or.inl (mw25 5 rfl)) hgood ⟨rfl, rfl, Nat.le_of_ble_eq_true rfl, Nat.le_of_ble_eq_true rfl⟩ ⟨Nat.le_of_ble_eq_true rfl, Nat.le_of_ble_eq_true rfl⟩ rfl (Nat.le_of_ble_eq_true rfl) dX9_near_29 (fun u5 s6 => ?_)
        refine k_aload_n h 0 dX9_near_32 rfl rfl ?_
        refine k_iload_n h 1 dX9_near_33 rfl rfl ?_
        refine k_iload_n h 2 dX9_near_34 rfl rfl ?_
        refine k_iload_n h 3 dX9_near_35 rfl rfl ?_
        refine k_callVL (As := [LI p1, LI p2, LI p3]) (st := []) (x0 := (some a0)) (xg := fun a9 => mX9_nearOf a9 p1 p2 p3 s6) h (fun a9 => ctX9_nearOf l B D cA sa a9 p1 p2 p3 s6) calX9_nearOf rfl (by decide) (mw26 21 rfl) (mw26 22 rfl) (Or.inl (mw26 20 rfl)) hgood ⟨rfl, rfl, Nat.le_of_ble_eq_true rfl, Nat.le_of_ble_eq_true rfl⟩ ⟨Nat.le_of_ble_eq_true rfl, Nat.le_of_ble_eq_true rfl⟩ rfl (Nat.le_of_ble_eq_true rfl) dX9_near_36 (fun v7 s8 => ?_)
        exact k_lret h rfl dX9_near_39 (Nat.le_of_ble_eq_true rfl) (Nat.le_of_ble_eq_true rfl)
      · refine k_ldc2_w (v := (-1)) h dX9_near_23 (mw26 19 rfl) ?_
        exact k_lret h rfl dX9_near_26 (Nat.le_of_ble_eq_true rfl) (Nat.le_of_ble_eq_true rfl)
def mX9_isFree (a0 : Nat) (p1 : Int64) (s0 : Sg) : Option (Int32 × Sg) :=
gdR s0 9 19 (some a0) fun v1 =>
alI s0 v1 0 fun v2 =>
gdR s0 9 19 (some a0) fun v3 =>
alI s0 v3 0 fun v4 =>
if (lg_cmp p1 ((Int32.toInt64 v2) * (Int32.toInt64 v4))) < 0 then (
ckB 0 (some (0, s0)))
else (
ckB 1 (some (1, s0)))
def rmX9_isFree : Room := { frames := 0, cells := 0, slots := 0, locals := 0 }
theorem calX9_isFree : Cal yX9_isFree cX9_isFree 3 (some .boolean) 1 := ⟨(mw28 4 rfl), (mw1 5 rfl), by decide, by decide, by decide +kernel⟩
set_option maxHeartbeats 4000000 in
set_option maxRecDepth 100000 in
theorem ctX9_isFree (l : Launch) (B : Nat) (D : va_G) (cA : Nat → ClassId) (sa : Nat → Nat) (a0 : Nat) (p1 : Int64) (s0 : Sg) : Ct l B D cA sa yX9_isFree cX9_isFree 3 (some .boolean) rmX9_isFree rI [LR (some a0), LL p1] s0 0 0 (mX9_isFree a0 p1 s0) := by
  refine Ct.of (own := RX9) (by decide) rfl _ (Nat.le_of_ble_eq_true rfl) rfl ?_
  intro p e s m args below meth c h hi
  unfold mX9_isFree
  refine k_lload_n h 1 dX9_isFree_0 rfl rfl ?_
  refine k_aload_n h 0 dX9_isFree_1 rfl rfl ?_
  refine k_getR h fX9_19 (Or.inl (mw7 5 rfl)) dX9_isFree_2 (fun v1 => ?_)
  refine k_iconst (v := 0) h dX9_isFree_5 (by decide) ?_
  refine k_alI h dX9_isFree_6 (fun v2 => ?_)
  refine k_i2l h dX9_isFree_7 ?_
  refine k_aload_n h 0 dX9_isFree_8 rfl rfl ?_
  refine k_getR h fX9_19 (Or.inl (mw7 5 rfl)) dX9_isFree_9 (fun v3 => ?_)
  refine k_iconst (v := 0) h dX9_isFree_12 (by decide) ?_
  refine k_alI h dX9_isFree_13 (fun v4 => ?_)
  refine k_i2l h dX9_isFree_14 ?_
  refine k_lmul h dX9_isFree_15 ?_
  refine k_lcmp h dX9_isFree_16 ?_
  refine k_if_lt (tgt := 24) h dX9_isFree_17 (by decide) ?_ ?_
  · refine k_iconst (v := 0) h dX9_isFree_24 (by decide) ?_
    exact k_zret h rfl dX9_isFree_25 (Nat.le_of_ble_eq_true rfl) (Nat.le_of_ble_eq_true rfl)
  · refine k_iconst (v := 1) h dX9_isFree_20 (by decide) ?_
    refine k_goto (tgt := 25) h dX9_isFree_21 (by decide) ?_
    exact k_zret h rfl dX9_isFree_25 (Nat.le_of_ble_eq_true rfl) (Nat.le_of_ble_eq_true rfl)
def mX9_betweenOf_b14 (a0 : Nat) (r7 : (Int32) → Sg → Option (Int32 × Sg)) (q5 : Int32) (s6 : Sg) : Option (Int32 × Sg) :=
jn (fun (q8 : Unit) (s9 : Sg) =>
if 60 < q5 then (
some ((-7), s9))
else (
some (q5, s9))) (fun j10 =>
if 60 < q5 then (
j10 () s6)
else (
cv s6 9 (some a0) fun a16 => cl (mX9_nearBy a16 q5 s6) fun v11 s12 =>
cv s12 9 (some a0) fun a15 => cl (mX9_isFree a15 v11 s12) fun v13 s14 =>
if ¬ v13 = 0 then (
j10 () s14)
else (
r7 (q5 + 1) s14)))
def mX9_betweenOf (a0 : Nat) (p1 : Int32) (p2 : Int32) (s0 : Sg) : Option (Int32 × Sg) :=
cv s0 9 (some a0) fun a19 => cl (mX9_layOut a19 p1 0 s0) fun u1 s2 =>
cv s2 9 (some a0) fun a18 => cl (mX9_layOut a18 p2 1 s2) fun u3 s4 =>
lp (mX9_betweenOf_b14 a0) FU 1 s4
def rmX9_betweenOf : Room := { frames := 3, cells := 0, slots := 0, locals := 72 }
theorem calX9_betweenOf : Cal yX9_betweenOf cX9_betweenOf 4 (some .int) 2 := ⟨(mw28 0 rfl), (mw1 5 rfl), by decide, by decide, by decide +kernel⟩
set_option maxHeartbeats 4000000 in
set_option maxRecDepth 100000 in
theorem ctX9_betweenOf (l : Launch) (B : Nat) (D : va_G) (cA : Nat → ClassId) (sa : Nat → Nat) (a0 : Nat) (p1 : Int32) (p2 : Int32) (s0 : Sg) : Ct l B D cA sa yX9_betweenOf cX9_betweenOf 4 (some .int) rmX9_betweenOf rI [LR (some a0), LI p1, LI p2] s0 0 0 (mX9_betweenOf a0 p1 p2 s0) := by
  refine Ct.of (own := RX9) (by decide) rfl _ (Nat.le_of_ble_eq_true rfl) rfl ?_
  intro p e s m args below meth c h hi
  unfold mX9_betweenOf
  refine k_aload_n h 0 dX9_betweenOf_0 rfl rfl ?_
  refine k_iload_n h 1 dX9_betweenOf_1 rfl rfl ?_
  refine k_iconst (v := 0) h dX9_betweenOf_2 (by decide) ?_
  refine k_callVU (As := [LI p1, LI 0]) (st := []) (x0 := (some a0)) (xg := fun a19 => mX9_layOut a19 p1 0 s0) h (fun a19 => ctX9_layOut l B D cA sa a19 p1 0 s0) calX9_layOut rfl (by decide) (mw25 15 rfl) (mw25 16 rfl) (Or.inl (mw25 14 rfl)) hgood ⟨rfl, rfl, Nat.le_of_ble_eq_true rfl, Nat.le_of_ble_eq_true rfl⟩ ⟨Nat.le_of_ble_eq_true rfl, Nat.le_of_ble_eq_true rfl⟩ rfl (Nat.le_of_ble_eq_true rfl) dX9_betweenOf_3 (fun u1 s2 => ?_)
  refine k_aload_n h 0 dX9_betweenOf_6 rfl rfl ?_
  refine k_iload_n h 2 dX9_betweenOf_7 rfl rfl ?_
  refine k_iconst (v := 1) h dX9_betweenOf_8 (by decide) ?_
  refine k_callVU (As := [LI p2, LI 1]) (st := []) (x0 := (some a0)) (xg := fun a18 => mX9_layOut a18 p2 1 s2) h (fun a18 => ctX9_layOut l B D cA sa a18 p2 1 s2) calX9_layOut rfl (by decide) (mw25 15 rfl) (mw25 16 rfl) (Or.inl (mw25 14 rfl)) hgood ⟨rfl, rfl, Nat.le_of_ble_eq_true rfl, Nat.le_of_ble_eq_true rfl⟩ ⟨Nat.le_of_ble_eq_true rfl, Nat.le_of_ble_eq_true rfl⟩ rfl (Nat.le_of_ble_eq_true rfl) dX9_betweenOf_9 (fun u3 s4 => ?_)
  refine k_iconst (v := 1) h dX9_betweenOf_12 (by decide) ?_
  refine k_istore_n (lv' := [(3, LI 1), (0, LR (some a0)), (1, LI p1), (2, LI p2)]) h dX9_betweenOf_13 rfl (by decide) rfl ?_
  refine k_sub (lv' := [(0, LR (some a0)), (3, LI 1)]) h [1, 0] rfl ?_
  refine k_lp (A := Int32) (fun q5 => [(0, LR (some a0)), (3, LI q5)]) (fun q5 => []) (fun r7 hr7 q5 s6 => ?_) FU 1 s4
  unfold mX9_betweenOf_b14
  refine k_iload_n h 1 dX9_betweenOf_14 rfl rfl ?_
  refine k_bipush (v := 60) h dX9_betweenOf_15 (by decide) ?_
  refine k_jn (A := Unit) (J := 38) (fun q8 => [(3, LI q5)]) (fun q8 => []) (fun q8 s9 => ?_) (fun j10 hj10 => ?_)
  · refine k_iload_n h 0 dX9_betweenOf_38 rfl rfl ?_
    refine k_bipush (v := 60) h dX9_betweenOf_39 (by decide) ?_
    refine k_icmp_gt (tgt := 48) h dX9_betweenOf_41 (by decide) ?_ ?_
    · refine k_bipush (v := (-7)) h dX9_betweenOf_48 (by decide) ?_
      exact k_iret h rfl dX9_betweenOf_50 (Nat.le_of_ble_eq_true rfl) (Nat.le_of_ble_eq_true rfl)
    · refine k_iload_n h 0 dX9_betweenOf_44 rfl rfl ?_
      refine k_goto (tgt := 50) h dX9_betweenOf_45 (by decide) ?_
      exact k_iret h rfl dX9_betweenOf_50 (Nat.le_of_ble_eq_true rfl) (Nat.le_of_ble_eq_true rfl)
  · refine k_icmp_gt (tgt := 38) h dX9_betweenOf_17 (by decide) ?_ ?_
    · refine k_sub (lv' := [(3, LI q5)]) h [1] rfl ?_
      exact hj10 () s6
    · refine k_aload_n h 0 dX9_betweenOf_20 rfl rfl ?_
      refine k_aload_n h 0 dX9_betweenOf_21 rfl rfl ?_
      refine k_iload_n h 1 dX9_betweenOf_22 rfl rfl ?_
      refine k_callVL (As := [LI q5]) (st := [LR (some a0)]) (x0 := (some a0)) (xg := fun a16 => mX9_nearBy a16 q5 s6) h (fun a16 => ctX9_nearBy l B D cA sa a16 q5 s6) calX9_nearBy rfl (by decide) (mw27 1 rfl) (mw27 2 rfl) (Or.inl (mw27 0 rfl)) hgood ⟨rfl, rfl, Nat.le_of_ble_eq_true rfl, Nat.le_of_ble_eq_true rfl⟩ ⟨Nat.le_of_ble_eq_true rfl, Nat.le_of_ble_eq_true rfl⟩ rfl (Nat.le_of_ble_eq_true rfl) dX9_betweenOf_23 (fun v11 s12 => ?_)
      refine k_callVI (As := [LL v11]) (st := []) (x0 := (some a0)) (xg := fun a15 => mX9_isFree a15 v11 s12) h (fun a15 => ctX9_isFree l B D cA sa a15 v11 s12) calX9_isFree rfl (by decide) (mw28 2 rfl) (mw28 3 rfl) (Or.inl (mw28 1 rfl)) hgood ⟨rfl, rfl, Nat.le_of_ble_eq_true rfl, Nat.le_of_ble_eq_true rfl⟩ ⟨Nat.le_of_ble_eq_true rfl, Nat.le_of_ble_eq_true rfl⟩ rfl (Nat.le_of_ble_eq_true rfl) dX9_betweenOf_26 (fun v13 s14 => ?_)
      refine k_if_ne (tgt := 38) h dX9_betweenOf_29 (by decide) ?_ ?_
      · refine k_sub (lv' := [(3, LI q5)]) h [1] rfl ?_
        exact hj10 () s14
      · refine k_iinc (w := (q5 + 1)) (lv' := [(3, LI (q5 + 1)), (0, LR (some a0))]) h 1 dX9_betweenOf_32 rfl rfl (by decide) rfl ?_
        refine k_goto (tgt := 14) h dX9_betweenOf_35 (by decide) ?_
        refine k_sub (lv' := [(0, LR (some a0)), (3, LI (q5 + 1))]) h [1, 0] rfl ?_
        exact hr7 (q5 + 1) s14
def mX9_between (a0 : Nat) (p1 : Int32) (p2 : Int32) (p3 : Int32) (s0 : Sg) : Option (Int32 × Sg) :=
cl (mX9_in (Int32.toInt64 p1) 0 2 s0) fun v1 s2 =>
if v1 = 0 then (
some ((-1), s2))
else (
cv s2 9 (some a0) fun a14 => cl (mX9_isGroup a14 p2 s2) fun v3 s4 =>
if v3 = 0 then (
some ((-1), s4))
else (
cv s4 9 (some a0) fun a13 => cl (mX9_isGroup a13 p3 s4) fun v5 s6 =>
if v5 = 0 then (
some ((-1), s6))
else (
if ¬ p2 = p3 then (
cv s6 9 (some a0) fun a12 => cl (mX9_takePlane a12 p1 s6) fun u7 s8 =>
cv s8 9 (some a0) fun a11 => cl (mX9_betweenOf a11 p2 p3 s8) fun v9 s10 =>
some (v9, s10))
else (
some ((-1), s6)))))
def rmX9_between : Room := { frames := 4, cells := 0, slots := 0, locals := 95 }
theorem calX9_between : Cal yX9_between cX9_between 4 (some .int) 3 := ⟨(mw27 20 rfl), (mw1 5 rfl), by decide, by decide, by decide +kernel⟩
set_option maxHeartbeats 4000000 in
set_option maxRecDepth 100000 in
theorem ctX9_between (l : Launch) (B : Nat) (D : va_G) (cA : Nat → ClassId) (sa : Nat → Nat) (a0 : Nat) (p1 : Int32) (p2 : Int32) (p3 : Int32) (s0 : Sg) : Ct l B D cA sa yX9_between cX9_between 4 (some .int) rmX9_between rI [LR (some a0), LI p1, LI p2, LI p3] s0 0 0 (mX9_between a0 p1 p2 p3 s0) := by
  refine Ct.of (own := RX9) (by decide) rfl _ (Nat.le_of_ble_eq_true rfl) rfl ?_
  intro p e s m args below meth c h hi
  unfold mX9_between
  refine k_iload_n h 1 dX9_between_0 rfl rfl ?_
  refine k_i2l h dX9_between_1 ?_
  refine k_lconst (v := 0) h dX9_between_2 (by decide) ?_
  refine k_ldc2_w (v := 2) h dX9_between_3 (mw8 23 rfl) ?_
  refine k_callSI (As := [LL (Int32.toInt64 p1), LL 0, LL 2]) (st := []) h (ctX9_in l B D cA sa (Int32.toInt64 p1) 0 2 s0) calX9_in (mw9 1 rfl) (Or.inl (mw9 0 rfl)) hgood ⟨rfl, rfl, Nat.le_of_ble_eq_true rfl, Nat.le_of_ble_eq_true rfl⟩ ⟨Nat.le_of_ble_eq_true rfl, Nat.le_of_ble_eq_true rfl⟩ rfl (Nat.le_of_ble_eq_true rfl) dX9_between_6 (fun v1 s2 => ?_)
  refine k_if_eq (tgt := 33) h dX9_between_9 (by decide) ?_ ?_
  · refine k_iconst (v := (-1)) h dX9_between_33 (by decide) ?_
    exact k_iret h rfl dX9_between_34 (Nat.le_of_ble_eq_true rfl) (Nat.le_of_ble_eq_true rfl)
  · refine k_aload_n h 0 dX9_between_12 rfl rfl ?_
    refine k_iload_n h 2 dX9_between_13 rfl rfl ?_
    refine k_callVI (As := [LI p2]) (st := []) (x0 := (some a0)) (xg := fun a14 => mX9_isGroup a14 p2 s2) h (fun a14 => ctX9_isGroup l B D cA sa a14 p2 s2) calX9_isGroup rfl (by decide) (mw16 21 rfl) (mw16 22 rfl) (Or.inl (mw16 20 rfl)) hgood ⟨rfl, rfl, Nat.le_of_ble_eq_true rfl, Nat.le_of_ble_eq_true rfl⟩ ⟨Nat.le_of_ble_eq_true rfl, Nat.le_of_ble_eq_true rfl⟩ rfl (Nat.le_of_ble_eq_true rfl) dX9_between_14 (fun v3 s4 => ?_)
    refine k_if_eq (tgt := 33) h dX9_between_17 (by decide) ?_ ?_
    · refine k_iconst (v := (-1)) h dX9_between_33 (by decide) ?_
      exact k_iret h rfl dX9_between_34 (Nat.le_of_ble_eq_true rfl) (Nat.le_of_ble_eq_true rfl)
    · refine k_aload_n h 0 dX9_between_20 rfl rfl ?_
      refine k_iload_n h 3 dX9_between_21 rfl rfl ?_
      refine k_callVI (As := [LI p3]) (st := []) (x0 := (some a0)) (xg := fun a13 => mX9_isGroup a13 p3 s4) h (fun a13 => ctX9_isGroup l B D cA sa a13 p3 s4) calX9_isGroup rfl (by decide) (mw16 21 rfl) (mw16 22 rfl) (Or.inl (mw16 20 rfl)) hgood ⟨rfl, rfl, Nat.le_of_ble_eq_true rfl, Nat.le_of_ble_eq_true rfl⟩ ⟨Nat.le_of_ble_eq_true rfl, Nat.le_of_ble_eq_true rfl⟩ rfl (Nat.le_of_ble_eq_true rfl) dX9_between_22 (fun v5 s6 => ?_)
      refine k_if_eq (tgt := 33) h dX9_between_25 (by decide) ?_ ?_
      · refine k_iconst (v := (-1)) h dX9_between_33 (by decide) ?_
        exact k_iret h rfl dX9_between_34 (Nat.le_of_ble_eq_true rfl) (Nat.le_of_ble_eq_true rfl)
      · refine k_iload_n h 2 dX9_between_28 rfl rfl ?_
        refine k_iload_n h 3 dX9_between_29 rfl rfl ?_
        refine k_icmp_ne (tgt := 35) h dX9_between_30 (by decide) ?_ ?_
        · refine k_aload_n h 0 dX9_between_35 rfl rfl ?_
          refine k_iload_n h 1 dX9_between_36 rfl rfl ?_
          refine k_callVU (As := [LI p1]) (st := []) (x0 := (some a0)) (xg := fun a12 => mX9_takePlane a12 p1 s6) h (fun a12 => ctX9_takePlane l B D cA sa a12 p1 s6) calX9_takePlane rfl (by decide) (mw25 11 rfl) (mw25 12 rfl) (Or.inl (mw25 10 rfl)) hgood ⟨rfl, rfl, Nat.le_of_ble_eq_true rfl, Nat.le_of_ble_eq_true rfl⟩ ⟨Nat.le_of_ble_eq_true rfl, Nat.le_of_ble_eq_true rfl⟩ rfl (Nat.le_of_ble_eq_true rfl) dX9_between_37 (fun u7 s8 => ?_)
          refine k_aload_n h 0 dX9_between_40 rfl rfl ?_
          refine k_iload_n h 2 dX9_between_41 rfl rfl ?_
          refine k_iload_n h 3 dX9_between_42 rfl rfl ?_
          refine k_callVI (As := [LI p2, LI p3]) (st := []) (x0 := (some a0)) (xg := fun a11 => mX9_betweenOf a11 p2 p3 s8) h (fun a11 => ctX9_betweenOf l B D cA sa a11 p2 p3 s8) calX9_betweenOf rfl (by decide) (mw27 22 rfl) (mw27 23 rfl) (Or.inl (mw27 21 rfl)) hgood ⟨rfl, rfl, Nat.le_of_ble_eq_true rfl, Nat.le_of_ble_eq_true rfl⟩ ⟨Nat.le_of_ble_eq_true rfl, Nat.le_of_ble_eq_true rfl⟩ rfl (Nat.le_of_ble_eq_true rfl) dX9_between_43 (fun v9 s10 => ?_)
          exact k_iret h rfl dX9_between_46 (Nat.le_of_ble_eq_true rfl) (Nat.le_of_ble_eq_true rfl)
        · refine k_iconst (v := (-1)) h dX9_between_33 (by decide) ?_
          exact k_iret h rfl dX9_between_34 (Nat.le_of_ble_eq_true rfl) (Nat.le_of_ble_eq_true rfl)
def mX9_nextOrder_b100 (a0 : Nat) (r24 : (Int32 × Int32) → Sg → Option (Int32 × Sg)) (q22 : Int32 × Int32) (s23 : Sg) : Option (Int32 × Sg) :=
if q22.2 ≤ q22.1 then (
ckB 1 (some (1, s23)))
else (
gdR s23 9 44 (some a0) fun v25 =>
alI s23 v25 q22.1 fun v26 =>
gdR s23 9 44 (some a0) fun v27 =>
gdR s23 9 44 (some a0) fun v28 =>
alI s23 v28 q22.2 fun v29 =>
asI s23 v27 q22.1 v29 fun s30 =>
gdR s30 9 44 (some a0) fun v31 =>
asI s30 v31 q22.2 v26 fun s32 =>
r24 ((q22.1 + 1), (q22.2 + (-1))) s32)
def mX9_nextOrder_b41 (a0 : Nat) (q1 : Int32) (p1 : Int32) (r9 : (Int32) → Sg → Option (Int32 × Sg)) (q7 : Int32) (s8 : Sg) : Option (Int32 × Sg) :=
gdR s8 9 44 (some a0) fun v10 =>
alI s8 v10 q7 fun v11 =>
gdR s8 9 44 (some a0) fun v12 =>
alI s8 v12 q1 fun v13 =>
if v13 ≤ v11 then (
gdR s8 9 44 (some a0) fun v14 =>
alI s8 v14 q1 fun v15 =>
gdR s8 9 44 (some a0) fun v16 =>
gdR s8 9 44 (some a0) fun v17 =>
alI s8 v17 q7 fun v18 =>
asI s8 v16 q1 v18 fun s19 =>
gdR s19 9 44 (some a0) fun v20 =>
asI s19 v20 q7 v15 fun s21 =>
lp (mX9_nextOrder_b100 a0) FU ((q1 + 1), (p1 - 1)) s21)
else (
r9 (q7 + (-1)) s8)
def mX9_nextOrder_b4 (a0 : Nat) (p1 : Int32) (r3 : (Int32) → Sg → Option (Int32 × Sg)) (q1 : Int32) (s2 : Sg) : Option (Int32 × Sg) :=
jn (fun (q4 : Unit) (s5 : Sg) =>
if 0 ≤ q1 then (
lp (mX9_nextOrder_b41 a0 q1 p1) FU (p1 - 1) s5)
else (
ckB 0 (some (0, s5)))) (fun j6 =>
if q1 < 0 then (
j6 () s2)
else (
gdR s2 9 44 (some a0) fun v35 =>
alI s2 v35 q1 fun v36 =>
gdR s2 9 44 (some a0) fun v37 =>
alI s2 v37 (q1 + 1) fun v38 =>
if v36 ≤ v38 then (
j6 () s2)
else (
r3 (q1 + (-1)) s2)))
def mX9_nextOrder (a0 : Nat) (p1 : Int32) (s0 : Sg) : Option (Int32 × Sg) :=
lp (mX9_nextOrder_b4 a0 p1) FU (p1 - 2) s0
def rmX9_nextOrder : Room := { frames := 0, cells := 0, slots := 0, locals := 0 }
theorem calX9_nextOrder : Cal yX9_nextOrder cX9_nextOrder 7 (some .boolean) 1 := ⟨(mw31 0 rfl), (mw1 5 rfl), by decide, by decide, by decide +kernel⟩
set_option maxHeartbeats 4000000 in
set_option maxRecDepth 100000 in
theorem ctX9_nextOrder (l : Launch) (B : Nat) (D : va_G) (cA : Nat → ClassId) (sa : Nat → Nat) (a0 : Nat) (p1 : Int32) (s0 : Sg) : Ct l B D cA sa yX9_nextOrder cX9_nextOrder 7 (some .boolean) rmX9_nextOrder rI [LR (some a0), LI p1] s0 0 0 (mX9_nextOrder a0 p1 s0) := by
  refine Ct.of (own := RX9) (by decide) rfl _ (Nat.le_of_ble_eq_true rfl) rfl ?_
  intro p e s m args below meth c h hi
  unfold mX9_nextOrder
  refine k_iload_n h 1 dX9_nextOrder_0 rfl rfl ?_
  refine k_iconst (v := 2) h dX9_nextOrder_1 (by decide) ?_
  refine k_isub h dX9_nextOrder_2 ?_
  refine k_istore_n (lv' := [(2, LI (p1 - 2)), (0, LR (some a0)), (1, LI p1)]) h dX9_nextOrder_3 rfl (by decide) rfl ?_
  refine k_sub (lv' := [(0, LR (some a0)), (1, LI p1), (2, LI (p1 - 2))]) h [1, 2, 0] rfl ?_
  refine k_lp (A := Int32) (fun q1 => [(0, LR (some a0)), (1, LI p1), (2, LI q1)]) (fun q1 => []) (fun r3 hr3 q1 s2 => ?_) FU (p1 - 2) s0
  unfold mX9_nextOrder_b4
  refine k_iload_n h 2 dX9_nextOrder_4 rfl rfl ?_
  refine k_jn (A := Unit) (J := 31) (fun q4 => [(0, LR (some a0)), (1, LI p1), (2, LI q1)]) (fun q4 => []) (fun q4 s5 => ?_) (fun j6 hj6 => ?_)
  · refine k_iload_n h 2 dX9_nextOrder_31 rfl rfl ?_
    refine k_if_ge (tgt := 37) h dX9_nextOrder_32 (by decide) ?_ ?_
    · refine k_iload_n h 1 dX9_nextOrder_37 rfl rfl ?_
      refine k_iconst (v := 1) h dX9_nextOrder_38 (by decide) ?_
      refine k_isub h dX9_nextOrder_39 ?_
      refine k_istore_n (lv' := [(3, LI (p1 - 1)), (0, LR (some a0)), (1, LI p1), (2, LI q1)]) h dX9_nextOrder_40 rfl (by decide) rfl ?_
      refine k_sub (lv' := [(0, LR (some a0)), (1, LI p1), (2, LI q1), (3, LI (p1 - 1))]) h [1, 2, 3, 0] rfl ?_
      refine k_lp (A := Int32) (fun q7 => [(0, LR (some a0)), (1, LI p1), (2, LI q1), (3, LI q7)]) (fun q7 => []) (fun r9 hr9 q7 s8 => ?_) FU (p1 - 1) s5
      unfold mX9_nextOrder_b41
      refine k_aload_n h 0 dX9_nextOrder_41 rfl rfl ?_
      refine k_getR h fX9_44 (Or.inl (mw8 2 rfl)) dX9_nextOrder_42 (fun v10 => ?_)
      refine k_iload_n h 3 dX9_nextOrder_45 rfl rfl ?_
      refine k_alI h dX9_nextOrder_46 (fun v11 => ?_)
      refine k_aload_n h 0 dX9_nextOrder_47 rfl rfl ?_
      refine k_getR h fX9_44 (Or.inl (mw8 2 rfl)) dX9_nextOrder_48 (fun v12 => ?_)
      refine k_iload_n h 2 dX9_nextOrder_51 rfl rfl ?_
      refine k_alI h dX9_nextOrder_52 (fun v13 => ?_)
      refine k_icmp_ge (tgt := 62) h dX9_nextOrder_53 (by decide) ?_ ?_
      · refine k_aload_n h 0 dX9_nextOrder_62 rfl rfl ?_
        refine k_getR h fX9_44 (Or.inl (mw8 2 rfl)) dX9_nextOrder_63 (fun v14 => ?_)
        refine k_iload_n h 2 dX9_nextOrder_66 rfl rfl ?_
        refine k_alI h dX9_nextOrder_67 (fun v15 => ?_)
        refine k_istore (lv' := [(4, LI v15), (0, LR (some a0)), (1, LI p1), (2, LI q1), (3, LI q7)]) h dX9_nextOrder_68 (by decide) rfl ?_
        refine k_aload_n h 1 dX9_nextOrder_70 rfl rfl ?_
        refine k_getR h fX9_44 (Or.inl (mw8 2 rfl)) dX9_nextOrder_71 (fun v16 => ?_)
        refine k_iload_n h 3 dX9_nextOrder_74 rfl rfl ?_
        refine k_aload_n h 1 dX9_nextOrder_75 rfl rfl ?_
        refine k_getR h fX9_44 (Or.inl (mw8 2 rfl)) dX9_nextOrder_76 (fun v17 => ?_)
        refine k_iload_n h 4 dX9_nextOrder_79 rfl rfl ?_
        refine k_alI h dX9_nextOrder_80 (fun v18 => ?_)
        refine k_asI h dX9_nextOrder_81 (fun s19 => ?_)
        refine k_aload_n h 1 dX9_nextOrder_82 rfl rfl ?_
        refine k_getR h fX9_44 (Or.inl (mw8 2 rfl)) dX9_nextOrder_83 (fun v20 => ?_)
        refine k_iload_n h 4 dX9_nextOrder_86 rfl rfl ?_
        refine k_iload h 0 dX9_nextOrder_87 rfl ?_
        refine k_asI h dX9_nextOrder_89 (fun s21 => ?_)
        refine k_iload_n h 3 dX9_nextOrder_90 rfl rfl ?_
        refine k_iconst (v := 1) h dX9_nextOrder_91 (by decide) ?_
        refine k_iadd h dX9_nextOrder_92 ?_
        refine k_istore (lv' := [(5, LI (q1 + 1)), (4, LI v15), (0, LR (some a0)), (1, LI p1), (2, LI q1), (3, LI q7)]) h dX9_nextOrder_93 (by decide) rfl ?_
        refine k_iload_n h 3 dX9_nextOrder_95 rfl rfl ?_
        refine k_iconst (v := 1) h dX9_nextOrder_96 (by decide) ?_
        refine k_isub h dX9_nextOrder_97 ?_
        refine k_istore (lv' := [(6, LI (p1 - 1)), (5, LI (q1 + 1)), (4, LI v15), (0, LR (some a0)), (1, LI p1), (2, LI q1), (3, LI q7)]) h dX9_nextOrder_98 (by decide) rfl ?_
        refine k_sub (lv' := [(0, LR (some a0)), (5, LI (q1 + 1)), (6, LI (p1 - 1))]) h [3, 1, 0] rfl ?_
        refine k_lp (A := Int32 × Int32) (fun q22 => [(0, LR (some a0)), (5, LI q22.1), (6, LI q22.2)]) (fun q22 => []) (fun r24 hr24 q22 s23 => ?_) FU ((q1 + 1), (p1 - 1)) s21
        unfold mX9_nextOrder_b100
        refine k_iload h 1 dX9_nextOrder_100 rfl ?_
        refine k_iload h 2 dX9_nextOrder_102 rfl ?_
        refine k_icmp_ge (tgt := 148) h dX9_nextOrder_104 (by decide) ?_ ?_
        · refine k_iconst (v := 1) h dX9_nextOrder_148 (by decide) ?_
          exact k_zret h rfl dX9_nextOrder_149 (Nat.le_of_ble_eq_true rfl) (Nat.le_of_ble_eq_true rfl)
        · refine k_aload_n h 0 dX9_nextOrder_107 rfl rfl ?_
          refine k_getR h fX9_44 (Or.inl (mw8 2 rfl)) dX9_nextOrder_108 (fun v25 => ?_)
          refine k_iload h 1 dX9_nextOrder_111 rfl ?_
          refine k_alI h dX9_nextOrder_113 (fun v26 => ?_)
          refine k_istore (lv' := [(4, LI v26), (0, LR (some a0)), (5, LI q22.1), (6, LI q22.2)]) h dX9_nextOrder_114 (by decide) rfl ?_
          refine k_aload_n h 1 dX9_nextOrder_116 rfl rfl ?_
          refine k_getR h fX9_44 (Or.inl (mw8 2 rfl)) dX9_nextOrder_117 (fun v27 => ?_)
          refine k_iload h 2 dX9_nextOrder_120 rfl ?_
          refine k_aload_n h 1 dX9_nextOrder_122 rfl rfl ?_
          refine k_getR h fX9_44 (Or.inl (mw8 2 rfl)) dX9_nextOrder_123 (fun v28 => ?_)
          refine k_iload h 3 dX9_nextOrder_126 rfl ?_
          refine k_alI h dX9_nextOrder_128 (fun v29 => ?_)
          refine k_asI h dX9_nextOrder_129 (fun s30 => ?_)
          refine k_aload_n h 1 dX9_nextOrder_130 rfl rfl ?_
          refine k_getR h fX9_44 (Or.inl (mw8 2 rfl)) dX9_nextOrder_131 (fun v31 => ?_)
          refine k_iload h 3 dX9_nextOrder_134 rfl ?_
          refine k_iload h 0 dX9_nextOrder_136 rfl ?_
          refine k_asI h dX9_nextOrder_138 (fun s32 => ?_)
          refine k_iinc (w := (q22.1 + 1)) (lv' := [(5, LI (q22.1 + 1)), (4, LI v26), (0, LR (some a0)), (6, LI q22.2)]) h 2 dX9_nextOrder_139 rfl rfl (by decide) rfl ?_
          refine k_iinc (w := (q22.2 + (-1))) (lv' := [(6, LI (q22.2 + (-1))), (5, LI (q22.1 + 1)), (4, LI v26), (0, LR (some a0))]) h 3 dX9_nextOrder_142 rfl rfl (by decide) rfl ?_
          refine k_goto (tgt := 100) h dX9_nextOrder_145 (by decide) ?_
          refine k_sub (lv' := [(0, LR (some a0)), (5, LI (q22.1 + 1)), (6, LI (q22.2 + (-1)))]) h [3, 1, 0] rfl ?_
          exact hr24 ((q22.1 + 1), (q22.2 + (-1))) s32
      · refine k_iinc (w := (q7 + (-1))) (lv' := [(3, LI (q7 + (-1))), (0, LR (some a0)), (1, LI p1), (2, LI q1)]) h 3 dX9_nextOrder_56 rfl rfl (by decide) rfl ?_
        refine k_goto (tgt := 41) h dX9_nextOrder_59 (by decide) ?_
        refine k_sub (lv' := [(0, LR (some a0)), (1, LI p1), (2, LI q1), (3, LI (q7 + (-1)))]) h [1, 2, 3, 0] rfl ?_
        exact hr9 (q7 + (-1)) s8
    · refine k_iconst (v := 0) h dX9_nextOrder_35 (by decide) ?_
      exact k_zret h rfl dX9_nextOrder_36 (Nat.le_of_ble_eq_true rfl) (Nat.le_of_ble_eq_true rfl)
  · refine k_if_lt (tgt := 31) h dX9_nextOrder_5 (by decide) ?_ ?_
    · refine k_sub (lv' := [(0, LR (some a0)), (1, LI p1), (2, LI q1)]) h [0, 1, 2] rfl ?_
      exact hj6 () s2
    · refine k_aload_n h 0 dX9_nextOrder_8 rfl rfl ?_
      refine k_getR h fX9_44 (Or.inl (mw8 2 rfl)) dX9_nextOrder_9 (fun v35 => ?_)
      refine k_iload_n h 2 dX9_nextOrder_12 rfl rfl ?_
      refine k_alI h dX9_nextOrder_13 (fun v36 => ?_)
      refine k_aload_n h 0 dX9_nextOrder_14 rfl rfl ?_
      refine k_getR h fX9_44 (Or.inl (mw8 2 rfl)) dX9_nextOrder_15 (fun v37 => ?_)
      refine k_iload_n h 2 dX9_nextOrder_18 rfl rfl ?_
      refine k_iconst (v := 1) h dX9_nextOrder_19 (by decide) ?_
      refine k_iadd h dX9_nextOrder_20 ?_
      refine k_alI h dX9_nextOrder_21 (fun v38 => ?_)
      refine k_icmp_le (tgt := 31) h dX9_nextOrder_22 (by decide) ?_ ?_
      · refine k_sub (lv' := [(0, LR (some a0)), (1, LI p1), (2, LI q1)]) h [0, 1, 2] rfl ?_
        exact hj6 () s2
      · refine k_iinc (w := (q1 + (-1))) (lv' := [(2, LI (q1 + (-1))), (0, LR (some a0)), (1, LI p1)]) h 2 dX9_nextOrder_25 rfl rfl (by decide) rfl ?_
        refine k_goto (tgt := 4) h dX9_nextOrder_28 (by decide) ?_
        refine k_sub (lv' := [(0, LR (some a0)), (1, LI p1), (2, LI (q1 + (-1)))]) h [1, 2, 0] rfl ?_
        exact hr3 (q1 + (-1)) s2
def mX9_rankOf (a0 : Nat) (p1 : Int32) (s0 : Sg) : Option (Int32 × Sg) :=
gdR s0 9 19 (some a0) fun v1 =>
gdR s0 9 9 (some a0) fun v2 =>
alI s0 v2 p1 fun v3 =>
alI s0 v1 (6 + v3) fun v4 =>
some (v4, s0)
def rmX9_rankOf : Room := { frames := 0, cells := 0, slots := 0, locals := 0 }
theorem calX9_rankOf : Cal yX9_rankOf cX9_rankOf 2 (some .int) 1 := ⟨(mw30 20 rfl), (mw1 5 rfl), by decide, by decide, by decide +kernel⟩
set_option maxHeartbeats 4000000 in
set_option maxRecDepth 100000 in
theorem ctX9_rankOf (l : Launch) (B : Nat) (D : va_G) (cA : Nat → ClassId) (sa : Nat → Nat) (a0 : Nat) (p1 : Int32) (s0 : Sg) : Ct l B D cA sa yX9_rankOf cX9_rankOf 2 (some .int) rmX9_rankOf rI [LR (some a0), LI p1] s0 0 0 (mX9_rankOf a0 p1 s0) := by
  refine Ct.of (own := RX9) (by decide) rfl _ (Nat.le_of_ble_eq_true rfl) rfl ?_
  intro p e s m args below meth c h hi
  unfold mX9_rankOf
  refine k_aload_n h 0 dX9_rankOf_0 rfl rfl ?_
  refine k_getR h fX9_19 (Or.inl (mw7 5 rfl)) dX9_rankOf_1 (fun v1 => ?_)
  refine k_bipush (v := 6) h dX9_rankOf_4 (by decide) ?_
  refine k_aload_n h 0 dX9_rankOf_6 rfl rfl ?_
  refine k_getR h fX9_9 (Or.inl (mw6 19 rfl)) dX9_rankOf_7 (fun v2 => ?_)
  refine k_iload_n h 1 dX9_rankOf_10 rfl rfl ?_
  refine k_alI h dX9_rankOf_11 (fun v3 => ?_)
  refine k_iadd h dX9_rankOf_12 ?_
  refine k_alI h dX9_rankOf_13 (fun v4 => ?_)
  exact k_iret h rfl dX9_rankOf_14 (Nat.le_of_ble_eq_true rfl) (Nat.le_of_ble_eq_true rfl)
def mX9_sumOf_b4 (p1 : Int32) (a0 : Nat) (r3 : (Int32 × Int32) → Sg → Option (Int32 × Sg)) (q1 : Int32 × Int32) (s2 : Sg) : Option (Int32 × Sg) :=
if p1 ≤ q1.2 then (
some (q1.1, s2))
else (
if q1.1 < 0 then (
some (q1.1, s2))
else (
gdR s2 9 43 (some a0) fun v4 =>
gdR s2 9 44 (some a0) fun v5 =>
alI s2 v5 (q1.2 - 1) fun v6 =>
gdR s2 9 44 (some a0) fun v7 =>
alI s2 v7 q1.2 fun v8 =>
alI s2 v4 ((6 * v6) + v8) fun v9 =>
jn (fun (q10 : Int32) (s11 : Sg) =>
if q10 = 0 then (
r3 ((-1), (q1.2 + 1)) s11)
else (
r3 ((q1.1 + v9), (q1.2 + 1)) s11)) (fun j12 =>
jn (fun (q13 : Unit) (s14 : Sg) =>
j12 0 s14) (fun j15 =>
if v9 ≤ 0 then (
j15 () s2)
else (
gdR s2 9 42 (some a0) fun v16 =>
gdR s2 9 44 (some a0) fun v17 =>
alI s2 v17 (q1.2 - 1) fun v18 =>
alI s2 v16 v18 fun v19 =>
cv s2 9 (some a0) fun a29 => cl (mX9_rankOf a29 v19 s2) fun v20 s21 =>
gdR s21 9 42 (some a0) fun v22 =>
gdR s21 9 44 (some a0) fun v23 =>
alI s21 v23 q1.2 fun v24 =>
alI s21 v22 v24 fun v25 =>
cv s21 9 (some a0) fun a28 => cl (mX9_rankOf a28 v25 s21) fun v26 s27 =>
if v26 < v20 then (
j15 () s27)
else (
j12 1 s27))))))
def mX9_sumOf (a0 : Nat) (p1 : Int32) (s0 : Sg) : Option (Int32 × Sg) :=
lp (mX9_sumOf_b4 p1 a0) FU (0, 1) s0
def rmX9_sumOf : Room := { frames := 1, cells := 0, slots := 0, locals := 21 }
theorem calX9_sumOf : Cal yX9_sumOf cX9_sumOf 6 (some .int) 1 := ⟨(mw30 16 rfl), (mw1 5 rfl), by decide, by decide, by decide +kernel⟩
set_option maxHeartbeats 4000000 in
set_option maxRecDepth 100000 in
theorem ctX9_sumOf (l : Launch) (B : Nat) (D : va_G) (cA : Nat → ClassId) (sa : Nat → Nat) (a0 : Nat) (p1 : Int32) (s0 : Sg) : Ct l B D cA sa yX9_sumOf cX9_sumOf 6 (some .int) rmX9_sumOf rI [LR (some a0), LI p1] s0 0 0 (mX9_sumOf a0 p1 s0) := by
  refine Ct.of (own := RX9) (by decide) rfl _ (Nat.le_of_ble_eq_true rfl) rfl ?_
  intro p e s m args below meth c h hi
  unfold mX9_sumOf
  refine k_iconst (v := 0) h dX9_sumOf_0 (by decide) ?_
  refine k_istore_n (lv' := [(2, LI 0), (0, LR (some a0)), (1, LI p1)]) h dX9_sumOf_1 rfl (by decide) rfl ?_
  refine k_iconst (v := 1) h dX9_sumOf_2 (by decide) ?_
  refine k_istore_n (lv' := [(3, LI 1), (2, LI 0), (0, LR (some a0)), (1, LI p1)]) h dX9_sumOf_3 rfl (by decide) rfl ?_
  refine k_sub (lv' := [(0, LR (some a0)), (1, LI p1), (2, LI 0), (3, LI 1)]) h [2, 3, 1, 0] rfl ?_
  refine k_lp (A := Int32 × Int32) (fun q1 => [(0, LR (some a0)), (1, LI p1), (2, LI q1.1), (3, LI q1.2)]) (fun q1 => []) (fun r3 hr3 q1 s2 => ?_) FU (0, 1) s0
  unfold mX9_sumOf_b4
  refine k_iload_n h 3 dX9_sumOf_4 rfl rfl ?_
  refine k_iload_n h 1 dX9_sumOf_5 rfl rfl ?_
  refine k_icmp_ge (tgt := 105) h dX9_sumOf_6 (by decide) ?_ ?_
  · refine k_iload_n h 2 dX9_sumOf_105 rfl rfl ?_
    exact k_iret h rfl dX9_sumOf_106 (Nat.le_of_ble_eq_true rfl) (Nat.le_of_ble_eq_true rfl)
  · refine k_iload_n h 2 dX9_sumOf_9 rfl rfl ?_
    refine k_if_lt (tgt := 105) h dX9_sumOf_10 (by decide) ?_ ?_
    · refine k_iload_n h 2 dX9_sumOf_105 rfl rfl ?_
      exact k_iret h rfl dX9_sumOf_106 (Nat.le_of_ble_eq_true rfl) (Nat.le_of_ble_eq_true rfl)
    · refine k_aload_n h 0 dX9_sumOf_13 rfl rfl ?_
      refine k_getR h fX9_43 (Or.inl (mw8 1 rfl)) dX9_sumOf_14 (fun v4 => ?_)
      refine k_bipush (v := 6) h dX9_sumOf_17 (by decide) ?_
      refine k_aload_n h 0 dX9_sumOf_19 rfl rfl ?_
      refine k_getR h fX9_44 (Or.inl (mw8 2 rfl)) dX9_sumOf_20 (fun v5 => ?_)
      refine k_iload_n h 3 dX9_sumOf_23 rfl rfl ?_
      refine k_iconst (v := 1) h dX9_sumOf_24 (by decide) ?_
      refine k_isub h dX9_sumOf_25 ?_
      refine k_alI h dX9_sumOf_26 (fun v6 => ?_)
      refine k_imul h dX9_sumOf_27 ?_
      refine k_aload_n h 0 dX9_sumOf_28 rfl rfl ?_
      refine k_getR h fX9_44 (Or.inl (mw8 2 rfl)) dX9_sumOf_29 (fun v7 => ?_)
      refine k_iload_n h 3 dX9_sumOf_32 rfl rfl ?_
      refine k_alI h dX9_sumOf_33 (fun v8 => ?_)
      refine k_iadd h dX9_sumOf_34 ?_
      refine k_alI h dX9_sumOf_35 (fun v9 => ?_)
      refine k_istore (lv' := [(4, LI v9), (0, LR (some a0)), (1, LI p1), (2, LI q1.1), (3, LI q1.2)]) h dX9_sumOf_36 (by decide) rfl ?_
      refine k_iload h 0 dX9_sumOf_38 rfl ?_
      refine k_jn (A := Int32) (J := 83) (fun q10 => [(0, LR (some a0)), (1, LI p1), (2, LI q1.1), (3, LI q1.2), (4, LI v9)]) (fun q10 => [LI q10]) (fun q10 s11 => ?_) (fun j12 hj12 => ?_)
      · refine k_istore (lv' := [(5, LI q10), (0, LR (some a0)), (1, LI p1), (2, LI q1.1), (3, LI q1.2), (4, LI v9)]) h dX9_sumOf_83 (by decide) rfl ?_
        refine k_iload h 0 dX9_sumOf_85 rfl ?_
        refine k_if_eq (tgt := 97) h dX9_sumOf_87 (by decide) ?_ ?_
        · refine k_iconst (v := (-1)) h dX9_sumOf_97 (by decide) ?_
          refine k_istore_n (lv' := [(2, LI (-1)), (5, LI q10), (0, LR (some a0)), (1, LI p1), (3, LI q1.2), (4, LI v9)]) h dX9_sumOf_98 rfl (by decide) rfl ?_
          refine k_iinc (w := (q1.2 + 1)) (lv' := [(3, LI (q1.2 + 1)), (2, LI (-1)), (5, LI q10), (0, LR (some a0)), (1, LI p1), (4, LI v9)]) h 4 dX9_sumOf_99 rfl rfl (by decide) rfl ?_
          refine k_goto (tgt := 4) h dX9_sumOf_102 (by decide) ?_
          refine k_sub (lv' := [(0, LR (some a0)), (1, LI p1), (2, LI (-1)), (3, LI (q1.2 + 1))]) h [3, 4, 1, 0] rfl ?_
          exact hr3 ((-1), (q1.2 + 1)) s11
        · refine k_iload_n h 3 dX9_sumOf_90 rfl rfl ?_
          refine k_iload h 5 dX9_sumOf_91 rfl ?_
          refine k_iadd h dX9_sumOf_93 ?_
          refine k_goto (tgt := 98) h dX9_sumOf_94 (by decide) ?_
          refine k_istore_n (lv' := [(2, LI (q1.1 + v9)), (5, LI q10), (0, LR (some a0)), (1, LI p1), (3, LI q1.2), (4, LI v9)]) h dX9_sumOf_98 rfl (by decide) rfl ?_
          refine k_iinc (w := (q1.2 + 1)) (lv' := [(3, LI (q1.2 + 1)), (2, LI (q1.1 + v9)), (5, LI q10), (0, LR (some a0)), (1, LI p1), (4, LI v9)]) h 4 dX9_sumOf_99 rfl rfl (by decide) rfl ?_
          refine k_goto (tgt := 4) h dX9_sumOf_102 (by decide) ?_
          refine k_sub (lv' := [(0, LR (some a0)), (1, LI p1), (2, LI (q1.1 + v9)), (3, LI (q1.2 + 1))]) h [3, 4, 1, 0] rfl ?_
          exact hr3 ((q1.1 + v9), (q1.2 + 1)) s11
      · refine k_jn (A := Unit) (J := 82) (fun q13 => [(0, LR (some a0)), (1, LI p1), (2, LI q1.1), (3, LI q1.2), (4, LI v9)]) (fun q13 => []) (fun q13 s14 => ?_) (fun j15 hj15 => ?_)
        · refine k_iconst (v := 0) h dX9_sumOf_82 (by decide) ?_
          refine k_sub (lv' := [(0, LR (some a0)), (1, LI p1), (2, LI q1.1), (3, LI q1.2), (4, LI v9)]) h [0, 1, 2, 3, 4] rfl ?_
          exact hj12 0 s14
        · refine k_if_le (tgt := 82) h dX9_sumOf_40 (by decide) ?_ ?_
          · refine k_sub (lv' := [(0, LR (some a0)), (1, LI p1), (2, LI q1.1), (3, LI q1.2), (4, LI v9)]) h [1, 2, 3, 4, 0] rfl ?_
            exact hj15 () s2
          · refine k_aload_n h 1 dX9_sumOf_43 rfl rfl ?_
            refine k_aload_n h 1 dX9_sumOf_44 rfl rfl ?_
            refine k_getR h fX9_42 (Or.inl (mw8 0 rfl)) dX9_sumOf_45 (fun v16 => ?_)
            refine k_aload_n h 1 dX9_sumOf_48 rfl rfl ?_
            refine k_getR h fX9_44 (Or.inl (mw8 2 rfl)) dX9_sumOf_49 (fun v17 => ?_)
            refine k_iload_n h 4 dX9_sumOf_52 rfl rfl ?_
            refine k_iconst (v := 1) h dX9_sumOf_53 (by decide) ?_
            refine k_isub h dX9_sumOf_54 ?_
            refine k_alI h dX9_sumOf_55 (fun v18 => ?_)
            refine k_alI h dX9_sumOf_56 (fun v19 => ?_)
            refine k_callVI (As := [LI v19]) (st := []) (x0 := (some a0)) (xg := fun a29 => mX9_rankOf a29 v19 s2) h (fun a29 => ctX9_rankOf l B D cA sa a29 v19 s2) calX9_rankOf rfl (by decide) (mw30 18 rfl) (mw30 19 rfl) (Or.inl (mw30 17 rfl)) hgood ⟨rfl, rfl, Nat.le_of_ble_eq_true rfl, Nat.le_of_ble_eq_true rfl⟩ ⟨Nat.le_of_ble_eq_true rfl, Nat.le_of_ble_eq_true rfl⟩ rfl (Nat.le_of_ble_eq_true rfl) dX9_sumOf_57 (fun v20 s21 => ?_)
            refine k_aload_n h 1 dX9_sumOf_60 rfl rfl ?_
            refine k_aload_n h 1 dX9_sumOf_61 rfl rfl ?_
            refine k_getR h fX9_42 (Or.inl (mw8 0 rfl)) dX9_sumOf_62 (fun v22 => ?_)
            refine k_aload_n h 1 dX9_sumOf_65 rfl rfl ?_
            refine k_getR h fX9_44 (Or.inl (mw8 2 rfl)) dX9_sumOf_66 (fun v23 => ?_)
            refine k_iload_n h 4 dX9_sumOf_69 rfl rfl ?_
            refine k_alI h dX9_sumOf_70 (fun v24 => ?_)
            refine k_alI h dX9_sumOf_71 (fun v25 => ?_)
            refine k_callVI (As := [LI v25]) (st := [LI v20]) (x0 := (some a0)) (xg := fun a28 => mX9_rankOf a28 v25 s21) h (fun a28 => ctX9_rankOf l B D cA sa a28 v25 s21) calX9_rankOf rfl (by decide) (mw30 18 rfl) (mw30 19 rfl) (Or.inl (mw30 17 rfl)) hgood ⟨rfl, rfl, Nat.le_of_ble_eq_true rfl, Nat.le_of_ble_eq_true rfl⟩ ⟨Nat.le_of_ble_eq_true rfl, Nat.le_of_ble_eq_true rfl⟩ rfl (Nat.le_of_ble_eq_true rfl) dX9_sumOf_72 (fun v26 s27 => ?_)
            refine k_icmp_gt (tgt := 82) h dX9_sumOf_75 (by decide) ?_ ?_
            · refine k_sub (lv' := [(0, LR (some a0)), (1, LI p1), (2, LI q1.1), (3, LI q1.2), (4, LI v9)]) h [1, 2, 3, 4, 0] rfl ?_
              exact hj15 () s27
            · refine k_iconst (v := 1) h dX9_sumOf_78 (by decide) ?_
              refine k_goto (tgt := 83) h dX9_sumOf_79 (by decide) ?_
              refine k_sub (lv' := [(0, LR (some a0)), (1, LI p1), (2, LI q1.1), (3, LI q1.2), (4, LI v9)]) h [1, 2, 3, 4, 0] rfl ?_
              exact hj12 1 s27
def mX9_sortGroups_b27 (a0 : Nat) (v7 : Int32) (r3 : (Int32) → Sg → Option (Unit × Sg)) (q1 : Int32) (r10 : (Int32) → Sg → Option (Unit × Sg)) (q8 : Int32) (s9 : Sg) : Option (Unit × Sg) :=
jn (fun (q11 : Unit) (s12 : Sg) =>
gdR s12 9 42 (some a0) fun v14 =>
asI s12 v14 q8 v7 fun s15 =>
r3 (q1 + 1) s15) (fun j13 =>
if q8 ≤ 0 then (
j13 () s9)
else (
gdR s9 9 42 (some a0) fun v16 =>
alI s9 v16 (q8 - 1) fun v17 =>
if v17 ≤ v7 then (
j13 () s9)
else (
gdR s9 9 42 (some a0) fun v18 =>
gdR s9 9 42 (some a0) fun v19 =>
alI s9 v19 (q8 - 1) fun v20 =>
asI s9 v18 q8 v20 fun s21 =>
r10 (q8 + (-1)) s21)))
def mX9_sortGroups_b2 (a0 : Nat) (p1 : Int32) (r3 : (Int32) → Sg → Option (Unit × Sg)) (q1 : Int32) (s2 : Sg) : Option (Unit × Sg) :=
gdR s2 9 22 (some a0) fun v4 =>
alI s2 v4 p1 fun v5 =>
if v5 ≤ q1 then (
some ((), s2))
else (
gdR s2 9 23 (some a0) fun v6 =>
alI s2 v6 ((6 * p1) + q1) fun v7 =>
lp (mX9_sortGroups_b27 a0 v7 r3 q1) FU q1 s2)
def mX9_sortGroups (a0 : Nat) (p1 : Int32) (s0 : Sg) : Option (Unit × Sg) :=
lp (mX9_sortGroups_b2 a0 p1) FU 0 s0
def rmX9_sortGroups : Room := { frames := 0, cells := 0, slots := 0, locals := 0 }
theorem calX9_sortGroups : Cal yX9_sortGroups cX9_sortGroups 5 none 1 := ⟨(mw30 12 rfl), (mw1 5 rfl), by decide, by decide, by decide +kernel⟩
set_option maxHeartbeats 4000000 in
set_option maxRecDepth 100000 in
theorem ctX9_sortGroups (l : Launch) (B : Nat) (D : va_G) (cA : Nat → ClassId) (sa : Nat → Nat) (a0 : Nat) (p1 : Int32) (s0 : Sg) : Ct l B D cA sa yX9_sortGroups cX9_sortGroups 5 none rmX9_sortGroups rU [LR (some a0), LI p1] s0 0 0 (mX9_sortGroups a0 p1 s0) := by
  refine Ct.of (own := RX9) (by decide) rfl _ (Nat.le_of_ble_eq_true rfl) rfl ?_
  intro p e s m args below meth c h hi
  unfold mX9_sortGroups
  refine k_iconst (v := 0) h dX9_sortGroups_0 (by decide) ?_
  refine k_istore_n (lv' := [(2, LI 0), (0, LR (some a0)), (1, LI p1)]) h dX9_sortGroups_1 rfl (by decide) rfl ?_
  refine k_sub (lv' := [(0, LR (some a0)), (1, LI p1), (2, LI 0)]) h [1, 2, 0] rfl ?_
  refine k_lp (A := Int32) (fun q1 => [(0, LR (some a0)), (1, LI p1), (2, LI q1)]) (fun q1 => []) (fun r3 hr3 q1 s2 => ?_) FU 0 s0
  unfold mX9_sortGroups_b2
  refine k_iload_n h 2 dX9_sortGroups_2 rfl rfl ?_
  refine k_aload_n h 0 dX9_sortGroups_3 rfl rfl ?_
  refine k_getR h fX9_22 (Or.inl (mw7 7 rfl)) dX9_sortGroups_4 (fun v4 => ?_)
  refine k_iload_n h 1 dX9_sortGroups_7 rfl rfl ?_
  refine k_alI h dX9_sortGroups_8 (fun v5 => ?_)
  refine k_icmp_ge (tgt := 81) h dX9_sortGroups_9 (by decide) ?_ ?_
  · exact k_vret h rfl dX9_sortGroups_81 (Nat.le_of_ble_eq_true rfl) (Nat.le_of_ble_eq_true rfl)
  · refine k_aload_n h 0 dX9_sortGroups_12 rfl rfl ?_
    refine k_getR h fX9_23 (Or.inl (mw7 8 rfl)) dX9_sortGroups_13 (fun v6 => ?_)
    refine k_bipush (v := 6) h dX9_sortGroups_16 (by decide) ?_
    refine k_iload_n h 1 dX9_sortGroups_18 rfl rfl ?_
    refine k_imul h dX9_sortGroups_19 ?_
    refine k_iload_n h 2 dX9_sortGroups_20 rfl rfl ?_
    refine k_iadd h dX9_sortGroups_21 ?_
    refine k_alI h dX9_sortGroups_22 (fun v7 => ?_)
    refine k_istore_n (lv' := [(3, LI v7), (0, LR (some a0)), (1, LI p1), (2, LI q1)]) h dX9_sortGroups_23 rfl (by decide) rfl ?_
    refine k_iload_n h 3 dX9_sortGroups_24 rfl rfl ?_
    refine k_istore (lv' := [(4, LI q1), (3, LI v7), (0, LR (some a0)), (1, LI p1), (2, LI q1)]) h dX9_sortGroups_25 (by decide) rfl ?_
    refine k_sub (lv' := [(0, LR (some a0)), (1, LI p1), (2, LI q1), (3, LI v7), (4, LI q1)]) h [2, 3, 4, 1, 0] rfl ?_
    refine k_lp (A := Int32) (fun q8 => [(0, LR (some a0)), (1, LI p1), (2, LI q1), (3, LI v7), (4, LI q8)]) (fun q8 => []) (fun r10 hr10 q8 s9 => ?_) FU q1 s2
    unfold mX9_sortGroups_b27
    refine k_iload h 4 dX9_sortGroups_27 rfl ?_
    refine k_jn (A := Unit) (J := 67) (fun q11 => [(0, LR (some a0)), (1, LI p1), (2, LI q1), (3, LI v7), (4, LI q8)]) (fun q11 => []) (fun q11 s12 => ?_) (fun j13 hj13 => ?_)
    · refine k_aload_n h 0 dX9_sortGroups_67 rfl rfl ?_
      refine k_getR h fX9_42 (Or.inl (mw8 0 rfl)) dX9_sortGroups_68 (fun v14 => ?_)
      refine k_iload h 4 dX9_sortGroups_71 rfl ?_
      refine k_iload_n h 3 dX9_sortGroups_73 rfl rfl ?_
      refine k_asI h dX9_sortGroups_74 (fun s15 => ?_)
      refine k_iinc (w := (q1 + 1)) (lv' := [(2, LI (q1 + 1)), (0, LR (some a0)), (1, LI p1), (3, LI v7), (4, LI q8)]) h 2 dX9_sortGroups_75 rfl rfl (by decide) rfl ?_
      refine k_goto (tgt := 2) h dX9_sortGroups_78 (by decide) ?_
      refine k_sub (lv' := [(0, LR (some a0)), (1, LI p1), (2, LI (q1 + 1))]) h [1, 2, 0] rfl ?_
      exact hr3 (q1 + 1) s15
    · refine k_if_le (tgt := 67) h dX9_sortGroups_29 (by decide) ?_ ?_
      · refine k_sub (lv' := [(0, LR (some a0)), (1, LI p1), (2, LI q1), (3, LI v7), (4, LI q8)]) h [0, 1, 2, 3, 4] rfl ?_
        exact hj13 () s9
      · refine k_aload_n h 0 dX9_sortGroups_32 rfl rfl ?_
        refine k_getR h fX9_42 (Or.inl (mw8 0 rfl)) dX9_sortGroups_33 (fun v16 => ?_)
        refine k_iload h 4 dX9_sortGroups_36 rfl ?_
        refine k_iconst (v := 1) h dX9_sortGroups_38 (by decide) ?_
        refine k_isub h dX9_sortGroups_39 ?_
        refine k_alI h dX9_sortGroups_40 (fun v17 => ?_)
        refine k_iload_n h 3 dX9_sortGroups_41 rfl rfl ?_
        refine k_icmp_le (tgt := 67) h dX9_sortGroups_42 (by decide) ?_ ?_
        · refine k_sub (lv' := [(0, LR (some a0)), (1, LI p1), (2, LI q1), (3, LI v7), (4, LI q8)]) h [0, 1, 2, 3, 4] rfl ?_
          exact hj13 () s9
        · refine k_aload_n h 0 dX9_sortGroups_45 rfl rfl ?_
          refine k_getR h fX9_42 (Or.inl (mw8 0 rfl)) dX9_sortGroups_46 (fun v18 => ?_)
          refine k_iload h 4 dX9_sortGroups_49 rfl ?_
          refine k_aload_n h 0 dX9_sortGroups_51 rfl rfl ?_
          refine k_getR h fX9_42 (Or.inl (mw8 0 rfl)) dX9_sortGroups_52 (fun v19 => ?_)
          refine k_iload h 4 dX9_sortGroups_55 rfl ?_
          refine k_iconst (v := 1) h dX9_sortGroups_57 (by decide) ?_
          refine k_isub h dX9_sortGroups_58 ?_
          refine k_alI h dX9_sortGroups_59 (fun v20 => ?_)
          refine k_asI h dX9_sortGroups_60 (fun s21 => ?_)
          refine k_iinc (w := (q8 + (-1))) (lv' := [(4, LI (q8 + (-1))), (0, LR (some a0)), (1, LI p1), (2, LI q1), (3, LI v7)]) h 4 dX9_sortGroups_61 rfl rfl (by decide) rfl ?_
          refine k_goto (tgt := 27) h dX9_sortGroups_64 (by decide) ?_
          refine k_sub (lv' := [(0, LR (some a0)), (1, LI p1), (2, LI q1), (3, LI v7), (4, LI (q8 + (-1)))]) h [1, 2, 3, 4, 0] rfl ?_
          exact hr10 (q8 + (-1)) s21
def mX9_order_b205 (v6 : Int32) (q14 : Int32 × Int32) (a0 : Nat) (p1 : Int32) (r19 : (Int32) → Sg → Option (Int32 × Sg)) (q17 : Int32) (s18 : Sg) : Option (Int32 × Sg) :=
if v6 ≤ q17 then (
some (q14.1, s18))
else (
gdR s18 9 23 (some a0) fun v20 =>
gdR s18 9 42 (some a0) fun v21 =>
gdR s18 9 45 (some a0) fun v22 =>
alI s18 v22 q17 fun v23 =>
alI s18 v21 v23 fun v24 =>
asI s18 v20 ((6 * p1) + q17) v24 fun s25 =>
gdR s25 9 24 (some a0) fun v26 =>
if ¬ q17 = 0 then (
gdR s25 9 43 (some a0) fun v27 =>
gdR s25 9 45 (some a0) fun v28 =>
alI s25 v28 (q17 - 1) fun v29 =>
gdR s25 9 45 (some a0) fun v30 =>
alI s25 v30 q17 fun v31 =>
alI s25 v27 ((6 * v29) + v31) fun v32 =>
asI s25 v26 ((6 * p1) + q17) v32 fun s33 =>
r19 (q17 + 1) s33)
else (
asI s25 v26 ((6 * p1) + q17) 1 fun s34 =>
r19 (q17 + 1) s34))
def mX9_order_b159 (v6 : Int32) (j40 : (Int32) → Sg → Option (Int32 × Sg)) (v36 : Int32) (a0 : Nat) (r46 : (Int32) → Sg → Option (Int32 × Sg)) (q44 : Int32) (s45 : Sg) : Option (Int32 × Sg) :=
if v6 ≤ q44 then (
j40 v36 s45)
else (
gdR s45 9 45 (some a0) fun v47 =>
gdR s45 9 44 (some a0) fun v48 =>
alI s45 v48 q44 fun v49 =>
asI s45 v47 q44 v49 fun s50 =>
r46 (q44 + 1) s50)
def mX9_order_b159_ (v6 : Int32) (j40 : (Int32) → Sg → Option (Int32 × Sg)) (v36 : Int32) (a0 : Nat) (r54 : (Int32) → Sg → Option (Int32 × Sg)) (q52 : Int32) (s53 : Sg) : Option (Int32 × Sg) :=
if v6 ≤ q52 then (
j40 v36 s53)
else (
gdR s53 9 45 (some a0) fun v55 =>
gdR s53 9 44 (some a0) fun v56 =>
alI s53 v56 q52 fun v57 =>
asI s53 v55 q52 v57 fun s58 =>
r54 (q52 + 1) s58)
def mX9_order_b126 (v6 : Int32) (a0 : Nat) (p1 : Int32) (r16 : (Int32 × Int32) → Sg → Option (Int32 × Sg)) (q14 : Int32 × Int32) (s15 : Sg) : Option (Int32 × Sg) :=
if q14.2 = 0 then (
if 0 ≤ q14.1 then (
lp (mX9_order_b205 v6 q14 a0 p1) FU 0 s15)
else (
some ((-7), s15)))
else (
cv s15 9 (some a0) fun a60 => cl (mX9_sumOf a60 v6 s15) fun v36 s37 =>
jn (fun (q38 : Int32) (s39 : Sg) =>
cv s39 9 (some a0) fun a43 => cl (mX9_nextOrder a43 v6 s39) fun v41 s42 =>
r16 (q38, v41) s42) (fun j40 =>
if v36 < 0 then (
j40 q14.1 s37)
else (
if q14.1 < 0 then (
lp (mX9_order_b159 v6 j40 v36 a0) FU 0 s37)
else (
if q14.1 ≤ v36 then (
j40 q14.1 s37)
else (
lp (mX9_order_b159_ v6 j40 v36 a0) FU 0 s37)))))
def mX9_order_b56 (v6 : Int32) (a0 : Nat) (q11 : Int32) (r13 : (Int32) → Sg → Option (Int32 × Sg)) (r64 : (Int32) → Sg → Option (Int32 × Sg)) (q62 : Int32) (s63 : Sg) : Option (Int32 × Sg) :=
if v6 ≤ q62 then (
gdR s63 9 44 (some a0) fun v65 =>
asI s63 v65 q11 q11 fun s66 =>
r13 (q11 + 1) s66)
else (
gdR s63 9 43 (some a0) fun v67 =>
if ¬ q11 = q62 then (
gdR s63 9 42 (some a0) fun v68 =>
alI s63 v68 q11 fun v69 =>
gdR s63 9 42 (some a0) fun v70 =>
alI s63 v70 q62 fun v71 =>
cv s63 9 (some a0) fun a75 => cl (mX9_betweenOf a75 v69 v71 s63) fun v72 s73 =>
asI s73 v67 ((6 * q11) + q62) v72 fun s74 =>
r64 (q62 + 1) s74)
else (
asI s63 v67 ((6 * q11) + q62) (-7) fun s76 =>
r64 (q62 + 1) s76))
def mX9_order_b48 (v6 : Int32) (a0 : Nat) (p1 : Int32) (r13 : (Int32) → Sg → Option (Int32 × Sg)) (q11 : Int32) (s12 : Sg) : Option (Int32 × Sg) :=
if v6 ≤ q11 then (
lp (mX9_order_b126 v6 a0 p1) FU ((-1), 1) s12)
else (
lp (mX9_order_b56 v6 a0 q11 r13) FU 0 s12)
def mX9_order (a0 : Nat) (p1 : Int32) (s0 : Sg) : Option (Int32 × Sg) :=
cv s0 9 (some a0) fun a81 => cl (mX9_isLoad a81 p1 s0) fun v1 s2 =>
if ¬ v1 = 0 then (
gdR s2 9 26 (some a0) fun v3 =>
alZ s2 v3 p1 fun v4 =>
if v4 = 0 then (
gdR s2 9 22 (some a0) fun v5 =>
alI s2 v5 p1 fun v6 =>
if ¬ v6 = 0 then (
cv s2 9 (some a0) fun a80 => cl (mX9_takeLoad a80 p1 s2) fun u7 s8 =>
cv s8 9 (some a0) fun a79 => cl (mX9_sortGroups a79 p1 s8) fun u9 s10 =>
lp (mX9_order_b48 v6 a0 p1) FU 0 s10)
else (
some ((-7), s2)))
else (
some ((-6), s2)))
else (
some ((-1), s2))
def rmX9_order : Room := { frames := 4, cells := 0, slots := 0, locals := 95 }
theorem calX9_order : Cal yX9_order cX9_order 7 (some .int) 1 := ⟨(mw30 8 rfl), (mw1 5 rfl), by decide, by decide, by decide +kernel⟩
set_option maxHeartbeats 4000000 in
set_option maxRecDepth 100000 in
theorem ctX9_order (l : Launch) (B : Nat) (D : va_G) (cA : Nat → ClassId) (sa : Nat → Nat) (a0 : Nat) (p1 : Int32) (s0 : Sg) : Ct l B D cA sa yX9_order cX9_order 7 (some .int) rmX9_order rI [LR (some a0), LI p1] s0 0 0 (mX9_order a0 p1 s0) := by
  refine Ct.of (own := RX9) (by decide) rfl _ (Nat.le_of_ble_eq_true rfl) rfl ?_
  intro p e s m args below meth c h hi
  unfold mX9_order
  refine k_aload_n h 0 dX9_order_0 rfl rfl ?_
  refine k_iload_n h 1 dX9_order_1 rfl rfl ?_
  refine k_callVI (As := [LI p1]) (st := []) (x0 := (some a0)) (xg := fun a81 => mX9_isLoad a81 p1 s0) h (fun a81 => ctX9_isLoad l B D cA sa a81 p1 s0) calX9_isLoad rfl (by decide) (mw20 18 rfl) (mw20 19 rfl) (Or.inl (mw20 17 rfl)) hgood ⟨rfl, rfl, Nat.le_of_ble_eq_true rfl, Nat.le_of_ble_eq_true rfl⟩ ⟨Nat.le_of_ble_eq_true rfl, Nat.le_of_ble_eq_true rfl⟩ rfl (Nat.le_of_ble_eq_true rfl) dX9_order_2 (fun v1 s2 => ?_)
  refine k_if_ne (tgt := 10) h dX9_order_5 (by decide) ?_ ?_
  · refine k_aload_n h 0 dX9_order_10 rfl rfl ?_
    refine k_getR h fX9_26 (Or.inl (mw7 11 rfl)) dX9_order_11 (fun v3 => ?_)
    refine k_iload_n h 1 dX9_order_14 rfl rfl ?_
    refine k_alZ h dX9_order_15 (fun v4 => ?_)
    refine k_if_eq (tgt := 22) h dX9_order_16 (by decide) ?_ ?_
    · refine k_aload_n h 0 dX9_order_22 rfl rfl ?_
      refine k_getR h fX9_22 (Or.inl (mw7 7 rfl)) dX9_order_23 (fun v5 => ?_)
      refine k_iload_n h 1 dX9_order_26 rfl rfl ?_
      refine k_alI h dX9_order_27 (fun v6 => ?_)
      refine k_istore_n (lv' := [(2, LI v6), (0, LR (some a0)), (1, LI p1)]) h dX9_order_28 rfl (by decide) rfl ?_
      refine k_iload_n h 0 dX9_order_29 rfl rfl ?_
      refine k_if_ne (tgt := 36) h dX9_order_30 (by decide) ?_ ?_
      · refine k_aload_n h 1 dX9_order_36 rfl rfl ?_
        refine k_iload_n h 2 dX9_order_37 rfl rfl ?_
        refine k_callVU (As := [LI p1]) (st := []) (x0 := (some a0)) (xg := fun a80 => mX9_takeLoad a80 p1 s2) h (fun a80 => ctX9_takeLoad l B D cA sa a80 p1 s2) calX9_takeLoad rfl (by decide) (mw25 6 rfl) (mw25 7 rfl) (Or.inl (mw25 5 rfl)) hgood ⟨rfl, rfl, Nat.le_of_ble_eq_true rfl, Nat.le_of_ble_eq_true rfl⟩ ⟨Nat.le_of_ble_eq_true rfl, Nat.le_of_ble_eq_true rfl⟩ rfl (Nat.le_of_ble_eq_true rfl) dX9_order_38 (fun u7 s8 => ?_)
        refine k_aload_n h 1 dX9_order_41 rfl rfl ?_
        refine k_iload_n h 2 dX9_order_42 rfl rfl ?_
        refine k_callVU (As := [LI p1]) (st := []) (x0 := (some a0)) (xg := fun a79 => mX9_sortGroups a79 p1 s8) h (fun a79 => ctX9_sortGroups l B D cA sa a79 p1 s8) calX9_sortGroups rfl (by decide) (mw30 10 rfl) (mw30 11 rfl) (Or.inl (mw30 9 rfl)) hgood ⟨rfl, rfl, Nat.le_of_ble_eq_true rfl, Nat.le_of_ble_eq_true rfl⟩ ⟨Nat.le_of_ble_eq_true rfl, Nat.le_of_ble_eq_true rfl⟩ rfl (Nat.le_of_ble_eq_true rfl) dX9_order_43 (fun u9 s10 => ?_)
        refine k_iconst (v := 0) h dX9_order_46 (by decide) ?_
        refine k_istore_n (lv' := [(3, LI 0), (2, LI v6), (0, LR (some a0)), (1, LI p1)]) h dX9_order_47 rfl (by decide) rfl ?_
        refine k_sub (lv' := [(0, LR (some a0)), (1, LI p1), (2, LI v6), (3, LI 0)]) h [2, 3, 1, 0] rfl ?_
        refine k_lp (A := Int32) (fun q11 => [(0, LR (some a0)), (1, LI p1), (2, LI v6), (3, LI q11)]) (fun q11 => []) (fun r13 hr13 q11 s12 => ?_) FU 0 s10
        unfold mX9_order_b48
        refine k_iload_n h 3 dX9_order_48 rfl rfl ?_
        refine k_iload_n h 2 dX9_order_49 rfl rfl ?_
        refine k_icmp_ge (tgt := 121) h dX9_order_50 (by decide) ?_ ?_
        · refine k_iconst (v := (-1)) h dX9_order_121 (by decide) ?_
          refine k_istore_n (lv' := [(3, LI (-1)), (0, LR (some a0)), (1, LI p1), (2, LI v6)]) h dX9_order_122 rfl (by decide) rfl ?_
          refine k_iconst (v := 1) h dX9_order_123 (by decide) ?_
          refine k_istore (lv' := [(4, LI 1), (3, LI (-1)), (0, LR (some a0)), (1, LI p1), (2, LI v6)]) h dX9_order_124 (by decide) rfl ?_
          refine k_sub (lv' := [(0, LR (some a0)), (1, LI p1), (2, LI v6), (3, LI (-1)), (4, LI 1)]) h [2, 3, 4, 1, 0] rfl ?_
          refine k_lp (A := Int32 × Int32) (fun q14 => [(0, LR (some a0)), (1, LI p1), (2, LI v6), (3, LI q14.1), (4, LI q14.2)]) (fun q14 => []) (fun r16 hr16 q14 s15 => ?_) FU ((-1), 1) s12
          unfold mX9_order_b126
          refine k_iload h 4 dX9_order_126 rfl ?_
          refine k_if_eq (tgt := 195) h dX9_order_128 (by decide) ?_ ?_
          · refine k_iload_n h 3 dX9_order_195 rfl rfl ?_
            refine k_if_ge (tgt := 202) h dX9_order_196 (by decide) ?_ ?_
            · refine k_iconst (v := 0) h dX9_order_202 (by decide) ?_
              refine k_istore (lv' := [(5, LI 0), (0, LR (some a0)), (1, LI p1), (2, LI v6), (3, LI q14.1), (4, LI q14.2)]) h dX9_order_203 (by decide) rfl ?_
              refine k_sub (lv' := [(0, LR (some a0)), (1, LI p1), (2, LI v6), (3, LI q14.1), (5, LI 0)]) h [1, 2, 3, 4, 0] rfl ?_
              refine k_lp (A := Int32) (fun q17 => [(0, LR (some a0)), (1, LI p1), (2, LI v6), (3, LI q14.1), (5, LI q17)]) (fun q17 => []) (fun r19 hr19 q17 s18 => ?_) FU 0 s15
              unfold mX9_order_b205
              refine k_iload h 4 dX9_order_205 rfl ?_
              refine k_iload_n h 2 dX9_order_207 rfl rfl ?_
              refine k_icmp_ge (tgt := 287) h dX9_order_208 (by decide) ?_ ?_
              · refine k_iload_n h 3 dX9_order_287 rfl rfl ?_
                exact k_iret h rfl dX9_order_288 (Nat.le_of_ble_eq_true rfl) (Nat.le_of_ble_eq_true rfl)
              · refine k_aload_n h 0 dX9_order_211 rfl rfl ?_
                refine k_getR h fX9_23 (Or.inl (mw7 8 rfl)) dX9_order_212 (fun v20 => ?_)
                refine k_bipush (v := 6) h dX9_order_215 (by decide) ?_
                refine k_iload_n h 1 dX9_order_217 rfl rfl ?_
                refine k_imul h dX9_order_218 ?_
                refine k_iload h 4 dX9_order_219 rfl ?_
                refine k_iadd h dX9_order_221 ?_
                refine k_aload_n h 0 dX9_order_222 rfl rfl ?_
                refine k_getR h fX9_42 (Or.inl (mw8 0 rfl)) dX9_order_223 (fun v21 => ?_)
                refine k_aload_n h 0 dX9_order_226 rfl rfl ?_
                refine k_getR h fX9_45 (Or.inl (mw8 3 rfl)) dX9_order_227 (fun v22 => ?_)
                refine k_iload h 4 dX9_order_230 rfl ?_
                refine k_alI h dX9_order_232 (fun v23 => ?_)
                refine k_alI h dX9_order_233 (fun v24 => ?_)
                refine k_asI h dX9_order_234 (fun s25 => ?_)
                refine k_aload_n h 0 dX9_order_235 rfl rfl ?_
                refine k_getR h fX9_24 (Or.inl (mw7 9 rfl)) dX9_order_236 (fun v26 => ?_)
                refine k_bipush (v := 6) h dX9_order_239 (by decide) ?_
                refine k_iload_n h 1 dX9_order_241 rfl rfl ?_
                refine k_imul h dX9_order_242 ?_
                refine k_iload h 4 dX9_order_243 rfl ?_
                refine k_iadd h dX9_order_245 ?_
                refine k_iload h 4 dX9_order_246 rfl ?_
                refine k_if_ne (tgt := 255) h dX9_order_248 (by decide) ?_ ?_
                · refine k_aload_n h 0 dX9_order_255 rfl rfl ?_
                  refine k_getR h fX9_43 (Or.inl (mw8 1 rfl)) dX9_order_256 (fun v27 => ?_)
                  refine k_bipush (v := 6) h dX9_order_259 (by decide) ?_
                  refine k_aload_n h 0 dX9_order_261 rfl rfl ?_
                  refine k_getR h fX9_45 (Or.inl (mw8 3 rfl)) dX9_order_262 (fun v28 => ?_)
                  refine k_iload h 4 dX9_order_265 rfl ?_
                  refine k_iconst (v := 1) h dX9_order_267 (by decide) ?_
                  refine k_isub h dX9_order_268 ?_
                  refine k_alI h dX9_order_269 (fun v29 => ?_)
                  refine k_imul h dX9_order_270 ?_
                  refine k_aload_n h 0 dX9_order_271 rfl rfl ?_
                  refine k_getR h fX9_45 (Or.inl (mw8 3 rfl)) dX9_order_272 (fun v30 => ?_)
                  refine k_iload h 4 dX9_order_275 rfl ?_
                  refine k_alI h dX9_order_277 (fun v31 => ?_)
                  refine k_iadd h dX9_order_278 ?_
                  refine k_alI h dX9_order_279 (fun v32 => ?_)
                  refine k_asI h dX9_order_280 (fun s33 => ?_)
                  refine k_iinc (w := (q17 + 1)) (lv' := [(5, LI (q17 + 1)), (0, LR (some a0)), (1, LI p1), (2, LI v6), (3, LI q14.1)]) h 4 dX9_order_281 rfl rfl (by decide) rfl ?_
                  refine k_goto (tgt := 205) h dX9_order_284 (by decide) ?_
                  refine k_sub (lv' := [(0, LR (some a0)), (1, LI p1), (2, LI v6), (3, LI q14.1), (5, LI (q17 + 1))]) h [1, 2, 3, 4, 0] rfl ?_
                  exact hr19 (q17 + 1) s33
                · refine k_iconst (v := 1) h dX9_order_251 (by decide) ?_
                  refine k_goto (tgt := 280) h dX9_order_252 (by decide) ?_
                  refine k_asI h dX9_order_280 (fun s34 => ?_)
                  refine k_iinc (w := (q17 + 1)) (lv' := [(5, LI (q17 + 1)), (0, LR (some a0)), (1, LI p1), (2, LI v6), (3, LI q14.1)]) h 4 dX9_order_281 rfl rfl (by decide) rfl ?_
                  refine k_goto (tgt := 205) h dX9_order_284 (by decide) ?_
                  refine k_sub (lv' := [(0, LR (some a0)), (1, LI p1), (2, LI v6), (3, LI q14.1), (5, LI (q17 + 1))]) h [1, 2, 3, 4, 0] rfl ?_
                  exact hr19 (q17 + 1) s34
            · refine k_bipush (v := (-7)) h dX9_order_199 (by decide) ?_
              exact k_iret h rfl dX9_order_201 (Nat.le_of_ble_eq_true rfl) (Nat.le_of_ble_eq_true rfl)
          · refine k_aload_n h 0 dX9_order_131 rfl rfl ?_
            refine k_iload_n h 2 dX9_order_132 rfl rfl ?_
            refine k_callVI (As := [LI v6]) (st := []) (x0 := (some a0)) (xg := fun a60 => mX9_sumOf a60 v6 s15) h (fun a60 => ctX9_sumOf l B D cA sa a60 v6 s15) calX9_sumOf rfl (by decide) (mw30 14 rfl) (mw30 15 rfl) (Or.inl (mw30 13 rfl)) hgood ⟨rfl, rfl, Nat.le_of_ble_eq_true rfl, Nat.le_of_ble_eq_true rfl⟩ ⟨Nat.le_of_ble_eq_true rfl, Nat.le_of_ble_eq_true rfl⟩ rfl (Nat.le_of_ble_eq_true rfl) dX9_order_133 (fun v36 s37 => ?_)
            refine k_istore (lv' := [(5, LI v36), (0, LR (some a0)), (1, LI p1), (2, LI v6), (3, LI q14.1), (4, LI q14.2)]) h dX9_order_136 (by decide) rfl ?_
            refine k_iload h 0 dX9_order_138 rfl ?_
            refine k_jn (A := Int32) (J := 185) (fun q38 => [(0, LR (some a0)), (1, LI p1), (2, LI v6), (3, LI q38)]) (fun q38 => []) (fun q38 s39 => ?_) (fun j40 hj40 => ?_)
            · refine k_aload_n h 0 dX9_order_185 rfl rfl ?_
              refine k_iload_n h 2 dX9_order_186 rfl rfl ?_
              refine k_callVI (As := [LI v6]) (st := []) (x0 := (some a0)) (xg := fun a43 => mX9_nextOrder a43 v6 s39) h (fun a43 => ctX9_nextOrder l B D cA sa a43 v6 s39) calX9_nextOrder rfl (by decide) (mw30 22 rfl) (mw30 23 rfl) (Or.inl (mw30 21 rfl)) hgood ⟨rfl, rfl, Nat.le_of_ble_eq_true rfl, Nat.le_of_ble_eq_true rfl⟩ ⟨Nat.le_of_ble_eq_true rfl, Nat.le_of_ble_eq_true rfl⟩ rfl (Nat.le_of_ble_eq_true rfl) dX9_order_187 (fun v41 s42 => ?_)
              refine k_istore (lv' := [(4, LI v41), (0, LR (some a0)), (1, LI p1), (2, LI v6), (3, LI q38)]) h dX9_order_190 (by decide) rfl ?_
              refine k_goto (tgt := 126) h dX9_order_192 (by decide) ?_
              refine k_sub (lv' := [(0, LR (some a0)), (1, LI p1), (2, LI v6), (3, LI q38), (4, LI v41)]) h [1, 2, 3, 4, 0] rfl ?_
              exact hr16 (q38, v41) s42
            · refine k_if_lt (tgt := 185) h dX9_order_140 (by decide) ?_ ?_
              · refine k_sub (lv' := [(0, LR (some a0)), (1, LI p1), (2, LI v6), (3, LI q14.1)]) h [1, 2, 3, 4] rfl ?_
                exact hj40 q14.1 s37
              · refine k_iload_n h 4 dX9_order_143 rfl rfl ?_
                refine k_if_lt (tgt := 153) h dX9_order_144 (by decide) ?_ ?_
                · refine k_iload h 0 dX9_order_153 rfl ?_
                  refine k_istore_n (lv' := [(3, LI v36), (5, LI v36), (0, LR (some a0)), (1, LI p1), (2, LI v6), (4, LI q14.2)]) h dX9_order_155 rfl (by decide) rfl ?_
                  refine k_iconst (v := 0) h dX9_order_156 (by decide) ?_
                  refine k_istore (lv' := [(6, LI 0), (3, LI v36), (5, LI v36), (0, LR (some a0)), (1, LI p1), (2, LI v6), (4, LI q14.2)]) h dX9_order_157 (by decide) rfl ?_
                  refine k_sub (lv' := [(0, LR (some a0)), (1, LI p1), (2, LI v6), (3, LI v36), (6, LI 0)]) h [3, 4, 5, 1, 0] rfl ?_
                  refine k_lp (A := Int32) (fun q44 => [(0, LR (some a0)), (1, LI p1), (2, LI v6), (3, LI v36), (6, LI q44)]) (fun q44 => []) (fun r46 hr46 q44 s45 => ?_) FU 0 s37
                  unfold mX9_order_b159
                  refine k_iload h 4 dX9_order_159 rfl ?_
                  refine k_iload_n h 2 dX9_order_161 rfl rfl ?_
                  refine k_icmp_ge (tgt := 185) h dX9_order_162 (by decide) ?_ ?_
                  · refine k_sub (lv' := [(0, LR (some a0)), (1, LI p1), (2, LI v6), (3, LI v36)]) h [0, 1, 2, 3] rfl ?_
                    exact hj40 v36 s45
                  · refine k_aload_n h 0 dX9_order_165 rfl rfl ?_
                    refine k_getR h fX9_45 (Or.inl (mw8 3 rfl)) dX9_order_166 (fun v47 => ?_)
                    refine k_iload h 4 dX9_order_169 rfl ?_
                    refine k_aload_n h 0 dX9_order_171 rfl rfl ?_
                    refine k_getR h fX9_44 (Or.inl (mw8 2 rfl)) dX9_order_172 (fun v48 => ?_)
                    refine k_iload h 4 dX9_order_175 rfl ?_
                    refine k_alI h dX9_order_177 (fun v49 => ?_)
                    refine k_asI h dX9_order_178 (fun s50 => ?_)
                    refine k_iinc (w := (q44 + 1)) (lv' := [(6, LI (q44 + 1)), (0, LR (some a0)), (1, LI p1), (2, LI v6), (3, LI v36)]) h 4 dX9_order_179 rfl rfl (by decide) rfl ?_
                    refine k_goto (tgt := 159) h dX9_order_182 (by decide) ?_
                    refine k_sub (lv' := [(0, LR (some a0)), (1, LI p1), (2, LI v6), (3, LI v36), (6, LI (q44 + 1))]) h [1, 2, 3, 4, 0] rfl ?_
                    exact hr46 (q44 + 1) s50
                · refine k_iload h 0 dX9_order_147 rfl ?_
                  refine k_iload_n h 4 dX9_order_149 rfl rfl ?_
                  refine k_icmp_ge (tgt := 185) h dX9_order_150 (by decide) ?_ ?_
                  · refine k_sub (lv' := [(0, LR (some a0)), (1, LI p1), (2, LI v6), (3, LI q14.1)]) h [1, 2, 3, 4] rfl ?_
                    exact hj40 q14.1 s37
                  · refine k_iload h 0 dX9_order_153 rfl ?_
                    refine k_istore_n (lv' := [(3, LI v36), (5, LI v36), (0, LR (some a0)), (1, LI p1), (2, LI v6), (4, LI q14.2)]) h dX9_order_155 rfl (by decide) rfl ?_
                    refine k_iconst (v := 0) h dX9_order_156 (by decide) ?_
                    refine k_istore (lv' := [(6, LI 0), (3, LI v36), (5, LI v36), (0, LR (some a0)), (1, LI p1), (2, LI v6), (4, LI q14.2)]) h dX9_order_157 (by decide) rfl ?_
                    refine k_sub (lv' := [(0, LR (some a0)), (1, LI p1), (2, LI v6), (3, LI v36), (6, LI 0)]) h [3, 4, 5, 1, 0] rfl ?_
                    refine k_lp (A := Int32) (fun q52 => [(0, LR (some a0)), (1, LI p1), (2, LI v6), (3, LI v36), (6, LI q52)]) (fun q52 => []) (fun r54 hr54 q52 s53 => ?_) FU 0 s37
                    unfold mX9_order_b159_
                    refine k_iload h 4 dX9_order_159 rfl ?_
                    refine k_iload_n h 2 dX9_order_161 rfl rfl ?_
                    refine k_icmp_ge (tgt := 185) h dX9_order_162 (by decide) ?_ ?_
                    · refine k_sub (lv' := [(0, LR (some a0)), (1, LI p1), (2, LI v6), (3, LI v36)]) h [0, 1, 2, 3] rfl ?_
                      exact hj40 v36 s53
                    · refine k_aload_n h 0 dX9_order_165 rfl rfl ?_
                      refine k_getR h fX9_45 (Or.inl (mw8 3 rfl)) dX9_order_166 (fun v55 => ?_)
                      refine k_iload h 4 dX9_order_169 rfl ?_
                      refine k_aload_n h 0 dX9_order_171 rfl rfl ?_
                      refine k_getR h fX9_44 (Or.inl (mw8 2 rfl)) dX9_order_172 (fun v56 => ?_)
                      refine k_iload h 4 dX9_order_175 rfl ?_
                      refine k_alI h dX9_order_177 (fun v57 => ?_)
                      refine k_asI h dX9_order_178 (fun s58 => ?_)
                      refine k_iinc (w := (q52 + 1)) (lv' := [(6, LI (q52 + 1)), (0, LR (some a0)), (1, LI p1), (2, LI v6), (3, LI v36)]) h 4 dX9_order_179 rfl rfl (by decide) rfl ?_
                      refine k_goto (tgt := 159) h dX9_order_182 (by decide) ?_
                      refine k_sub (lv' := [(0, LR (some a0)), (1, LI p1), (2, LI v6), (3, LI v36), (6, LI (q52 + 1))]) h [1, 2, 3, 4, 0] rfl ?_
                      exact hr54 (q52 + 1) s58
        · refine k_iconst (v := 0) h dX9_order_53 (by decide) ?_
          refine k_istore (lv' := [(4, LI 0), (0, LR (some a0)), (1, LI p1), (2, LI v6), (3, LI q11)]) h dX9_order_54 (by decide) rfl ?_
          refine k_sub (lv' := [(0, LR (some a0)), (1, LI p1), (2, LI v6), (3, LI q11), (4, LI 0)]) h [1, 2, 3, 4, 0] rfl ?_
          refine k_lp (A := Int32) (fun q62 => [(0, LR (some a0)), (1, LI p1), (2, LI v6), (3, LI q11), (4, LI q62)]) (fun q62 => []) (fun r64 hr64 q62 s63 => ?_) FU 0 s12
          unfold mX9_order_b56
          refine k_iload h 4 dX9_order_56 rfl ?_
          refine k_iload_n h 2 dX9_order_58 rfl rfl ?_
          refine k_icmp_ge (tgt := 108) h dX9_order_59 (by decide) ?_ ?_
          · refine k_aload_n h 0 dX9_order_108 rfl rfl ?_
            refine k_getR h fX9_44 (Or.inl (mw8 2 rfl)) dX9_order_109 (fun v65 => ?_)
            refine k_iload_n h 3 dX9_order_112 rfl rfl ?_
            refine k_iload_n h 3 dX9_order_113 rfl rfl ?_
            refine k_asI h dX9_order_114 (fun s66 => ?_)
            refine k_iinc (w := (q11 + 1)) (lv' := [(3, LI (q11 + 1)), (0, LR (some a0)), (1, LI p1), (2, LI v6), (4, LI q62)]) h 3 dX9_order_115 rfl rfl (by decide) rfl ?_
            refine k_goto (tgt := 48) h dX9_order_118 (by decide) ?_
            refine k_sub (lv' := [(0, LR (some a0)), (1, LI p1), (2, LI v6), (3, LI (q11 + 1))]) h [1, 2, 3, 0] rfl ?_
            exact hr13 (q11 + 1) s66
          · refine k_aload_n h 0 dX9_order_62 rfl rfl ?_
            refine k_getR h fX9_43 (Or.inl (mw8 1 rfl)) dX9_order_63 (fun v67 => ?_)
            refine k_bipush (v := 6) h dX9_order_66 (by decide) ?_
            refine k_iload_n h 3 dX9_order_68 rfl rfl ?_
            refine k_imul h dX9_order_69 ?_
            refine k_iload h 4 dX9_order_70 rfl ?_
            refine k_iadd h dX9_order_72 ?_
            refine k_iload_n h 3 dX9_order_73 rfl rfl ?_
            refine k_iload h 4 dX9_order_74 rfl ?_
            refine k_icmp_ne (tgt := 84) h dX9_order_76 (by decide) ?_ ?_
            · refine k_aload_n h 0 dX9_order_84 rfl rfl ?_
              refine k_aload_n h 0 dX9_order_85 rfl rfl ?_
              refine k_getR h fX9_42 (Or.inl (mw8 0 rfl)) dX9_order_86 (fun v68 => ?_)
              refine k_iload_n h 3 dX9_order_89 rfl rfl ?_
              refine k_alI h dX9_order_90 (fun v69 => ?_)
              refine k_aload_n h 0 dX9_order_91 rfl rfl ?_
              refine k_getR h fX9_42 (Or.inl (mw8 0 rfl)) dX9_order_92 (fun v70 => ?_)
              refine k_iload h 4 dX9_order_95 rfl ?_
              refine k_alI h dX9_order_97 (fun v71 => ?_)
              refine k_callVI (As := [LI v69, LI v71]) (st := [LI ((6 * q11) + q62), LR v67]) (x0 := (some a0)) (xg := fun a75 => mX9_betweenOf a75 v69 v71 s63) h (fun a75 => ctX9_betweenOf l B D cA sa a75 v69 v71 s63) calX9_betweenOf rfl (by decide) (mw27 22 rfl) (mw27 23 rfl) (Or.inl (mw27 21 rfl)) hgood ⟨rfl, rfl, Nat.le_of_ble_eq_true rfl, Nat.le_of_ble_eq_true rfl⟩ ⟨Nat.le_of_ble_eq_true rfl, Nat.le_of_ble_eq_true rfl⟩ rfl (Nat.le_of_ble_eq_true rfl) dX9_order_98 (fun v72 s73 => ?_)
              refine k_asI h dX9_order_101 (fun s74 => ?_)
              refine k_iinc (w := (q62 + 1)) (lv' := [(4, LI (q62 + 1)), (0, LR (some a0)), (1, LI p1), (2, LI v6), (3, LI q11)]) h 4 dX9_order_102 rfl rfl (by decide) rfl ?_
              refine k_goto (tgt := 56) h dX9_order_105 (by decide) ?_
              refine k_sub (lv' := [(0, LR (some a0)), (1, LI p1), (2, LI v6), (3, LI q11), (4, LI (q62 + 1))]) h [1, 2, 3, 4, 0] rfl ?_
              exact hr64 (q62 + 1) s74
            · refine k_bipush (v := (-7)) h dX9_order_79 (by decide) ?_
              refine k_goto (tgt := 101) h dX9_order_81 (by decide) ?_
              refine k_asI h dX9_order_101 (fun s76 => ?_)
              refine k_iinc (w := (q62 + 1)) (lv' := [(4, LI (q62 + 1)), (0, LR (some a0)), (1, LI p1), (2, LI v6), (3, LI q11)]) h 4 dX9_order_102 rfl rfl (by decide) rfl ?_
              refine k_goto (tgt := 56) h dX9_order_105 (by decide) ?_
              refine k_sub (lv' := [(0, LR (some a0)), (1, LI p1), (2, LI v6), (3, LI q11), (4, LI (q62 + 1))]) h [1, 2, 3, 4, 0] rfl ?_
              exact hr64 (q62 + 1) s76
      · refine k_bipush (v := (-7)) h dX9_order_33 (by decide) ?_
        exact k_iret h rfl dX9_order_35 (Nat.le_of_ble_eq_true rfl) (Nat.le_of_ble_eq_true rfl)
    · refine k_bipush (v := (-6)) h dX9_order_19 (by decide) ?_
      exact k_iret h rfl dX9_order_21 (Nat.le_of_ble_eq_true rfl) (Nat.le_of_ble_eq_true rfl)
  · refine k_iconst (v := (-1)) h dX9_order_8 (by decide) ?_
    exact k_iret h rfl dX9_order_9 (Nat.le_of_ble_eq_true rfl) (Nat.le_of_ble_eq_true rfl)
def mX9_root_b7 (p1 : Int64) (r3 : (Int64 × Int64) → Sg → Option (Int64 × Sg)) (q1 : Int64 × Int64) (s2 : Sg) : Option (Int64 × Sg) :=
if (lg_cmp q1.2 0) ≤ 0 then (
some (q1.1, s2))
else (
jn (fun (q4 : Int64) (s5 : Sg) =>
r3 ((q1.1 + q4), (q1.2 >>> ((1 : Int32).toInt64 &&& 63))) s5) (fun j6 =>
if 0 < (lg_cmp ((q1.1 + q1.2) * (q1.1 + q1.2)) p1) then (
j6 0 s2)
else (
j6 q1.2 s2)))
def mX9_root (p1 : Int64) (s0 : Sg) : Option (Int64 × Sg) :=
lp (mX9_root_b7 p1) FU (0, 1073741824) s0
def rmX9_root : Room := { frames := 0, cells := 0, slots := 0, locals := 0 }
theorem calX9_root : Cal yX9_root cX9_root 6 (some .long) 1 := ⟨(mw32 18 rfl), (mw1 5 rfl), by decide, by decide, by decide +kernel⟩
set_option maxHeartbeats 4000000 in
set_option maxRecDepth 100000 in
theorem ctX9_root (l : Launch) (B : Nat) (D : va_G) (cA : Nat → ClassId) (sa : Nat → Nat) (p1 : Int64) (s0 : Sg) : Ct l B D cA sa yX9_root cX9_root 6 (some .long) rmX9_root rL [LL p1] s0 0 0 (mX9_root p1 s0) := by
  refine Ct.of (own := RX9) (by decide) rfl _ (Nat.le_of_ble_eq_true rfl) rfl ?_
  intro p e s m args below meth c h hi
  unfold mX9_root
  refine k_lconst (v := 0) h dX9_root_0 (by decide) ?_
  refine k_lstore_n (lv' := [(2, LL 0), (0, LL p1)]) h dX9_root_1 rfl (by decide) rfl ?_
  refine k_ldc2_w (v := 1073741824) h dX9_root_2 (mw32 19 rfl) ?_
  refine k_lstore (lv' := [(4, LL 1073741824), (2, LL 0), (0, LL p1)]) h dX9_root_5 (by decide) rfl ?_
  refine k_sub (lv' := [(0, LL p1), (2, LL 0), (4, LL 1073741824)]) h [2, 1, 0] rfl ?_
  refine k_lp (A := Int64 × Int64) (fun q1 => [(0, LL p1), (2, LL q1.1), (4, LL q1.2)]) (fun q1 => []) (fun r3 hr3 q1 s2 => ?_) FU (0, 1073741824) s0
  unfold mX9_root_b7
  refine k_lload h 2 dX9_root_7 rfl ?_
  refine k_lconst (v := 0) h dX9_root_9 (by decide) ?_
  refine k_lcmp h dX9_root_10 ?_
  refine k_if_le (tgt := 46) h dX9_root_11 (by decide) ?_ ?_
  · refine k_lload_n h 1 dX9_root_46 rfl rfl ?_
    exact k_lret h rfl dX9_root_47 (Nat.le_of_ble_eq_true rfl) (Nat.le_of_ble_eq_true rfl)
  · refine k_lload_n h 1 dX9_root_14 rfl rfl ?_
    refine k_lload_n h 1 dX9_root_15 rfl rfl ?_
    refine k_lload h 2 dX9_root_16 rfl ?_
    refine k_ladd h dX9_root_18 ?_
    refine k_lload_n h 1 dX9_root_19 rfl rfl ?_
    refine k_lload h 2 dX9_root_20 rfl ?_
    refine k_ladd h dX9_root_22 ?_
    refine k_lmul h dX9_root_23 ?_
    refine k_lload_n h 0 dX9_root_24 rfl rfl ?_
    refine k_lcmp h dX9_root_25 ?_
    refine k_jn (A := Int64) (J := 35) (fun q4 => [(0, LL p1), (4, LL q1.2)]) (fun q4 => [LL q4, LL q1.1]) (fun q4 s5 => ?_) (fun j6 hj6 => ?_)
    · refine k_ladd h dX9_root_35 ?_
      refine k_lstore_n (lv' := [(2, LL (q1.1 + q4)), (0, LL p1), (4, LL q1.2)]) h dX9_root_36 rfl (by decide) rfl ?_
      refine k_lload h 2 dX9_root_37 rfl ?_
      refine k_iconst (v := 1) h dX9_root_39 (by decide) ?_
      refine k_lshr h dX9_root_40 ?_
      refine k_lstore (lv' := [(4, LL (q1.2 >>> ((1 : Int32).toInt64 &&& 63))), (2, LL (q1.1 + q4)), (0, LL p1)]) h dX9_root_41 (by decide) rfl ?_
      refine k_goto (tgt := 7) h dX9_root_43 (by decide) ?_
      refine k_sub (lv' := [(0, LL p1), (2, LL (q1.1 + q4)), (4, LL (q1.2 >>> ((1 : Int32).toInt64 &&& 63)))]) h [2, 1, 0] rfl ?_
      exact hr3 ((q1.1 + q4), (q1.2 >>> ((1 : Int32).toInt64 &&& 63))) s5
    · refine k_if_gt (tgt := 34) h dX9_root_26 (by decide) ?_ ?_
      · refine k_lconst (v := 0) h dX9_root_34 (by decide) ?_
        refine k_sub (lv' := [(0, LL p1), (4, LL q1.2)]) h [0, 2] rfl ?_
        exact hj6 0 s2
      · refine k_lload h 2 dX9_root_29 rfl ?_
        refine k_goto (tgt := 35) h dX9_root_31 (by decide) ?_
        refine k_sub (lv' := [(0, LL p1), (4, LL q1.2)]) h [0, 2] rfl ?_
        exact hj6 q1.2 s2
def mX9_findStarts_b16 (a0 : Nat) (p1 : Int32) (r5 : (Int32) → Sg → Option (Unit × Sg)) (q3 : Int32) (s4 : Sg) : Option (Unit × Sg) :=
gdR s4 9 22 (some a0) fun v6 =>
alI s4 v6 p1 fun v7 =>
if v7 ≤ q3 then (
some ((), s4))
else (
gdR s4 9 23 (some a0) fun v8 =>
alI s4 v8 ((6 * p1) + q3) fun v9 =>
cv s4 9 (some a0) fun a44 => cl (mX9_layOut a44 v9 0 s4) fun u10 s11 =>
gdI s11 9 34 (some a0) fun v12 =>
cv s11 9 (some a0) fun a43 => cl (mX9_leavesAt a43 p1 q3 s11) fun v13 s14 =>
gdR s14 9 36 (some a0) fun v15 =>
gdR s14 9 40 (some a0) fun v16 =>
alI s14 v16 0 fun v17 =>
alI s14 v15 v17 fun v18 =>
gdR s14 9 37 (some a0) fun v19 =>
gdR s14 9 40 (some a0) fun v20 =>
alI s14 v20 0 fun v21 =>
alI s14 v19 v21 fun v22 =>
gdR s14 9 19 (some a0) fun v23 =>
alI s14 v23 1 fun v24 =>
gdR s14 9 11 (some a0) fun v25 =>
alI s14 v25 v9 fun v26 =>
gdR s14 9 41 (some a0) fun v27 =>
alI s14 v27 0 fun v28 =>
if 0 ≤ (lg_cmp ((((Int32.toInt64 v24) + ((Int32.toInt64 v26) * (Int32.toInt64 v28))) * ((Int32.toInt64 v24) + ((Int32.toInt64 v26) * (Int32.toInt64 v28)))) - ((Int32.toInt64 v22) * (Int32.toInt64 v22))) 0) then (
cl (mX9_root ((((Int32.toInt64 v24) + ((Int32.toInt64 v26) * (Int32.toInt64 v28))) * ((Int32.toInt64 v24) + ((Int32.toInt64 v26) * (Int32.toInt64 v28)))) - ((Int32.toInt64 v22) * (Int32.toInt64 v22))) s14) fun v29 s30 =>
gdL s30 9 46 (some a0) fun v31 =>
jn (fun (q32 : Int64) (s33 : Sg) =>
ptL s33 9 46 (some a0) q32 fun s35 =>
gdL s35 9 47 (some a0) fun v36 =>
if 0 ≤ (lg_cmp (v29 - (((Int32.toInt64 v12) * (Int32.toInt64 v13)) + (Int32.toInt64 v18))) v36) then (
gdL s35 9 47 (some a0) fun v37 =>
ptL s35 9 47 (some a0) v37 fun s38 =>
r5 (q3 + 1) s38)
else (
ptL s35 9 47 (some a0) (v29 - (((Int32.toInt64 v12) * (Int32.toInt64 v13)) + (Int32.toInt64 v18))) fun s39 =>
r5 (q3 + 1) s39)) (fun j34 =>
if (lg_cmp ((-v29) - (((Int32.toInt64 v12) * (Int32.toInt64 v13)) + (Int32.toInt64 v18))) v31) ≤ 0 then (
gdL s30 9 46 (some a0) fun v40 =>
j34 v40 s30)
else (
j34 ((-v29) - (((Int32.toInt64 v12) * (Int32.toInt64 v13)) + (Int32.toInt64 v18))) s30)))
else (
gdL s14 9 46 (some a0) fun v41 =>
ptL s14 9 47 (some a0) (v41 - 1) fun s42 =>
some ((), s42)))
def mX9_findStarts (a0 : Nat) (p1 : Int32) (s0 : Sg) : Option (Unit × Sg) :=
ptL s0 9 46 (some a0) (-50000) fun s1 =>
ptL s1 9 47 (some a0) 50000 fun s2 =>
lp (mX9_findStarts_b16 a0 p1) FU 0 s2
def rmX9_findStarts : Room := { frames := 3, cells := 0, slots := 0, locals := 72 }
theorem calX9_findStarts : Cal yX9_findStarts cX9_findStarts 14 none 1 := ⟨(mw32 15 rfl), (mw1 5 rfl), by decide, by decide, by decide +kernel⟩
set_option maxHeartbeats 4000000 in
set_option maxRecDepth 100000 in
theorem ctX9_findStarts (l : Launch) (B : Nat) (D : va_G) (cA : Nat → ClassId) (sa : Nat → Nat) (a0 : Nat) (p1 : Int32) (s0 : Sg) : Ct l B D cA sa yX9_findStarts cX9_findStarts 14 none rmX9_findStarts rU [LR (some a0), LI p1] s0 0 0 (mX9_findStarts a0 p1 s0) := by
  refine Ct.of (own := RX9) (by decide) rfl _ (Nat.le_of_ble_eq_true rfl) rfl ?_
  intro p e s m args below meth c h hi
  unfold mX9_findStarts
  refine k_aload_n h 0 dX9_findStarts_0 rfl rfl ?_
  refine k_ldc2_w (v := (-50000)) h dX9_findStarts_1 (mw22 10 rfl) ?_
  refine k_putL h fX9_46 (Or.inl (mw32 9 rfl)) rfl dX9_findStarts_4 (fun s1 => ?_)
  refine k_aload_n h 0 dX9_findStarts_7 rfl rfl ?_
  refine k_ldc2_w (v := 50000) h dX9_findStarts_8 (mw22 11 rfl) ?_
  refine k_putL h fX9_47 (Or.inl (mw32 10 rfl)) rfl dX9_findStarts_11 (fun s2 => ?_)
  refine k_iconst (v := 0) h dX9_findStarts_14 (by decide) ?_
  refine k_istore_n (lv' := [(2, LI 0), (0, LR (some a0)), (1, LI p1)]) h dX9_findStarts_15 rfl (by decide) rfl ?_
  refine k_sub (lv' := [(0, LR (some a0)), (1, LI p1), (2, LI 0)]) h [1, 2, 0] rfl ?_
  refine k_lp (A := Int32) (fun q3 => [(0, LR (some a0)), (1, LI p1), (2, LI q3)]) (fun q3 => []) (fun r5 hr5 q3 s4 => ?_) FU 0 s2
  unfold mX9_findStarts_b16
  refine k_iload_n h 2 dX9_findStarts_16 rfl rfl ?_
  refine k_aload_n h 0 dX9_findStarts_17 rfl rfl ?_
  refine k_getR h fX9_22 (Or.inl (mw7 7 rfl)) dX9_findStarts_18 (fun v6 => ?_)
  refine k_iload_n h 1 dX9_findStarts_21 rfl rfl ?_
  refine k_alI h dX9_findStarts_22 (fun v7 => ?_)
  refine k_icmp_ge (tgt := 215) h dX9_findStarts_23 (by decide) ?_ ?_
  · exact k_vret h rfl dX9_findStarts_215 (Nat.le_of_ble_eq_true rfl) (Nat.le_of_ble_eq_true rfl)
  · refine k_aload_n h 0 dX9_findStarts_26 rfl rfl ?_
    refine k_getR h fX9_23 (Or.inl (mw7 8 rfl)) dX9_findStarts_27 (fun v8 => ?_)
    refine k_bipush (v := 6) h dX9_findStarts_30 (by decide) ?_
    refine k_iload_n h 1 dX9_findStarts_32 rfl rfl ?_
    refine k_imul h dX9_findStarts_33 ?_
    refine k_iload_n h 2 dX9_findStarts_34 rfl rfl ?_
    refine k_iadd h dX9_findStarts_35 ?_
    refine k_alI h dX9_findStarts_36 (fun v9 => ?_)
    refine k_istore_n (lv' := [(3, LI v9), (0, LR (some a0)), (1, LI p1), (2, LI q3)]) h dX9_findStarts_37 rfl (by decide) rfl ?_
    refine k_aload_n h 1 dX9_findStarts_38 rfl rfl ?_
    refine k_iload_n h 0 dX9_findStarts_39 rfl rfl ?_
    refine k_iconst (v := 0) h dX9_findStarts_40 (by decide) ?_
    refine k_callVU (As := [LI v9, LI 0]) (st := []) (x0 := (some a0)) (xg := fun a44 => mX9_layOut a44 v9 0 s4) h (fun a44 => ctX9_layOut l B D cA sa a44 v9 0 s4) calX9_layOut rfl (by decide) (mw25 15 rfl) (mw25 16 rfl) (Or.inl (mw25 14 rfl)) hgood ⟨rfl, rfl, Nat.le_of_ble_eq_true rfl, Nat.le_of_ble_eq_true rfl⟩ ⟨Nat.le_of_ble_eq_true rfl, Nat.le_of_ble_eq_true rfl⟩ rfl (Nat.le_of_ble_eq_true rfl) dX9_findStarts_41 (fun u10 s11 => ?_)
    refine k_aload_n h 1 dX9_findStarts_44 rfl rfl ?_
    refine k_getI h fX9_34 (Or.inl (mw25 4 rfl)) dX9_findStarts_45 (fun v12 => ?_)
    refine k_i2l h dX9_findStarts_48 ?_
    refine k_aload_n h 1 dX9_findStarts_49 rfl rfl ?_
    refine k_iload_n h 2 dX9_findStarts_50 rfl rfl ?_
    refine k_iload_n h 3 dX9_findStarts_51 rfl rfl ?_
    refine k_callVI (As := [LI p1, LI q3]) (st := [LL (Int32.toInt64 v12)]) (x0 := (some a0)) (xg := fun a43 => mX9_leavesAt a43 p1 q3 s11) h (fun a43 => ctX9_leavesAt l B D cA sa a43 p1 q3 s11) calX9_leavesAt rfl (by decide) (mw23 8 rfl) (mw23 9 rfl) (Or.inl (mw23 7 rfl)) hgood ⟨rfl, rfl, Nat.le_of_ble_eq_true rfl, Nat.le_of_ble_eq_true rfl⟩ ⟨Nat.le_of_ble_eq_true rfl, Nat.le_of_ble_eq_true rfl⟩ rfl (Nat.le_of_ble_eq_true rfl) dX9_findStarts_52 (fun v13 s14 => ?_)
    refine k_i2l h dX9_findStarts_55 ?_
    refine k_lmul h dX9_findStarts_56 ?_
    refine k_aload_n h 1 dX9_findStarts_57 rfl rfl ?_
    refine k_getR h fX9_36 (Or.inl (mw7 18 rfl)) dX9_findStarts_58 (fun v15 => ?_)
    refine k_aload_n h 1 dX9_findStarts_61 rfl rfl ?_
    refine k_getR h fX9_40 (Or.inl (mw7 22 rfl)) dX9_findStarts_62 (fun v16 => ?_)
    refine k_iconst (v := 0) h dX9_findStarts_65 (by decide) ?_
    refine k_alI h dX9_findStarts_66 (fun v17 => ?_)
    refine k_alI h dX9_findStarts_67 (fun v18 => ?_)
    refine k_i2l h dX9_findStarts_68 ?_
    refine k_ladd h dX9_findStarts_69 ?_
    refine k_lstore (lv' := [(4, LL (((Int32.toInt64 v12) * (Int32.toInt64 v13)) + (Int32.toInt64 v18))), (3, LI v9), (0, LR (some a0)), (1, LI p1), (2, LI q3)]) h dX9_findStarts_70 (by decide) rfl ?_
    refine k_aload_n h 2 dX9_findStarts_72 rfl rfl ?_
    refine k_getR h fX9_37 (Or.inl (mw7 19 rfl)) dX9_findStarts_73 (fun v19 => ?_)
    refine k_aload_n h 2 dX9_findStarts_76 rfl rfl ?_
    refine k_getR h fX9_40 (Or.inl (mw7 22 rfl)) dX9_findStarts_77 (fun v20 => ?_)
    refine k_iconst (v := 0) h dX9_findStarts_80 (by decide) ?_
    refine k_alI h dX9_findStarts_81 (fun v21 => ?_)
    refine k_alI h dX9_findStarts_82 (fun v22 => ?_)
    refine k_i2l h dX9_findStarts_83 ?_
    refine k_lstore (lv' := [(6, LL (Int32.toInt64 v22)), (4, LL (((Int32.toInt64 v12) * (Int32.toInt64 v13)) + (Int32.toInt64 v18))), (3, LI v9), (0, LR (some a0)), (1, LI p1), (2, LI q3)]) h dX9_findStarts_84 (by decide) rfl ?_
    refine k_aload_n h 3 dX9_findStarts_86 rfl rfl ?_
    refine k_getR h fX9_19 (Or.inl (mw7 5 rfl)) dX9_findStarts_87 (fun v23 => ?_)
    refine k_iconst (v := 1) h dX9_findStarts_90 (by decide) ?_
    refine k_alI h dX9_findStarts_91 (fun v24 => ?_)
    refine k_i2l h dX9_findStarts_92 ?_
    refine k_aload_n h 3 dX9_findStarts_93 rfl rfl ?_
    refine k_getR h fX9_11 (Or.inl (mw6 21 rfl)) dX9_findStarts_94 (fun v25 => ?_)
    refine k_iload_n h 2 dX9_findStarts_97 rfl rfl ?_
    refine k_alI h dX9_findStarts_98 (fun v26 => ?_)
    refine k_i2l h dX9_findStarts_99 ?_
    refine k_aload_n h 3 dX9_findStarts_100 rfl rfl ?_
    refine k_getR h fX9_41 (Or.inl (mw7 23 rfl)) dX9_findStarts_101 (fun v27 => ?_)
    refine k_iconst (v := 0) h dX9_findStarts_104 (by decide) ?_
    refine k_alI h dX9_findStarts_105 (fun v28 => ?_)
    refine k_i2l h dX9_findStarts_106 ?_
    refine k_lmul h dX9_findStarts_107 ?_
    refine k_ladd h dX9_findStarts_108 ?_
    refine k_lstore (lv' := [(8, LL ((Int32.toInt64 v24) + ((Int32.toInt64 v26) * (Int32.toInt64 v28)))), (6, LL (Int32.toInt64 v22)), (4, LL (((Int32.toInt64 v12) * (Int32.toInt64 v13)) + (Int32.toInt64 v18))), (3, LI v9), (0, LR (some a0)), (1, LI p1), (2, LI q3)]) h dX9_findStarts_109 (by decide) rfl ?_
    refine k_lload h 0 dX9_findStarts_111 rfl ?_
    refine k_lload h 0 dX9_findStarts_113 rfl ?_
    refine k_lmul h dX9_findStarts_115 ?_
    refine k_lload h 1 dX9_findStarts_116 rfl ?_
    refine k_lload h 1 dX9_findStarts_118 rfl ?_
    refine k_lmul h dX9_findStarts_120 ?_
    refine k_lsub h dX9_findStarts_121 ?_
    refine k_lstore (lv' := [(10, LL ((((Int32.toInt64 v24) + ((Int32.toInt64 v26) * (Int32.toInt64 v28))) * ((Int32.toInt64 v24) + ((Int32.toInt64 v26) * (Int32.toInt64 v28)))) - ((Int32.toInt64 v22) * (Int32.toInt64 v22)))), (8, LL ((Int32.toInt64 v24) + ((Int32.toInt64 v26) * (Int32.toInt64 v28)))), (6, LL (Int32.toInt64 v22)), (4, LL (((Int32.toInt64 v12) * (Int32.toInt64 v13)) + (Int32.toInt64 v18))), (3, LI v9), (0, LR (some a0)), (1, LI p1), (2, LI q3)]) h dX9_findStarts_122 (by decide) rfl ?_
    refine k_lload h 0 dX9_findStarts_124 rfl ?_
    refine k_lconst (v := 0) h dX9_findStarts_126 (by decide) ?_
    refine k_lcmp h dX9_findStarts_127 ?_
    refine k_if_ge (tgt := 142) h dX9_findStarts_128 (by decide) ?_ ?_
    · refine k_lload h 0 dX9_findStarts_142 rfl ?_
      refine k_callSL (As := [LL ((((Int32.toInt64 v24) + ((Int32.toInt64 v26) * (Int32.toInt64 v28))) * ((Int32.toInt64 v24) + ((Int32.toInt64 v26) * (Int32.toInt64 v28)))) - ((Int32.toInt64 v22) * (Int32.toInt64 v22)))]) (st := []) h (ctX9_root l B D cA sa ((((Int32.toInt64 v24) + ((Int32.toInt64 v26) * (Int32.toInt64 v28))) * ((Int32.toInt64 v24) + ((Int32.toInt64 v26) * (Int32.toInt64 v28)))) - ((Int32.toInt64 v22) * (Int32.toInt64 v22))) s14) calX9_root (mw32 17 rfl) (Or.inl (mw32 16 rfl)) hgood ⟨rfl, rfl, Nat.le_of_ble_eq_true rfl, Nat.le_of_ble_eq_true rfl⟩ ⟨Nat.le_of_ble_eq_true rfl, Nat.le_of_ble_eq_true rfl⟩ rfl (Nat.le_of_ble_eq_true rfl) dX9_findStarts_144 (fun v29 s30 => ?_)
      refine k_lstore (lv' := [(12, LL v29), (10, LL ((((Int32.toInt64 v24) + ((Int32.toInt64 v26) * (Int32.toInt64 v28))) * ((Int32.toInt64 v24) + ((Int32.toInt64 v26) * (Int32.toInt64 v28)))) - ((Int32.toInt64 v22) * (Int32.toInt64 v22)))), (8, LL ((Int32.toInt64 v24) + ((Int32.toInt64 v26) * (Int32.toInt64 v28)))), (6, LL (Int32.toInt64 v22)), (4, LL (((Int32.toInt64 v12) * (Int32.toInt64 v13)) + (Int32.toInt64 v18))), (3, LI v9), (0, LR (some a0)), (1, LI p1), (2, LI q3)]) h dX9_findStarts_147 (by decide) rfl ?_
      refine k_aload_n h 6 dX9_findStarts_149 rfl rfl ?_
      refine k_lload h 0 dX9_findStarts_150 rfl ?_
      refine k_lneg h dX9_findStarts_152 ?_
      refine k_lload h 4 dX9_findStarts_153 rfl ?_
      refine k_lsub h dX9_findStarts_155 ?_
      refine k_aload_n h 6 dX9_findStarts_156 rfl rfl ?_
      refine k_getL h fX9_46 (Or.inl (mw32 9 rfl)) dX9_findStarts_157 (fun v31 => ?_)
      refine k_lcmp h dX9_findStarts_160 ?_
      refine k_jn (A := Int64) (J := 177) (fun q32 => [(0, LR (some a0)), (1, LI p1), (2, LI q3), (4, LL (((Int32.toInt64 v12) * (Int32.toInt64 v13)) + (Int32.toInt64 v18))), (12, LL v29)]) (fun q32 => [LL q32, LR (some a0)]) (fun q32 s33 => ?_) (fun j34 hj34 => ?_)
      · refine k_putL h fX9_46 (Or.inl (mw32 9 rfl)) rfl dX9_findStarts_177 (fun s35 => ?_)
        refine k_aload_n h 0 dX9_findStarts_180 rfl rfl ?_
        refine k_lload h 4 dX9_findStarts_181 rfl ?_
        refine k_lload h 3 dX9_findStarts_183 rfl ?_
        refine k_lsub h dX9_findStarts_185 ?_
        refine k_aload_n h 0 dX9_findStarts_186 rfl rfl ?_
        refine k_getL h fX9_47 (Or.inl (mw32 10 rfl)) dX9_findStarts_187 (fun v36 => ?_)
        refine k_lcmp h dX9_findStarts_190 ?_
        refine k_if_ge (tgt := 202) h dX9_findStarts_191 (by decide) ?_ ?_
        · refine k_aload_n h 0 dX9_findStarts_202 rfl rfl ?_
          refine k_getL h fX9_47 (Or.inl (mw32 10 rfl)) dX9_findStarts_203 (fun v37 => ?_)
          refine k_putL h fX9_47 (Or.inl (mw32 10 rfl)) rfl dX9_findStarts_206 (fun s38 => ?_)
          refine k_iinc (w := (q3 + 1)) (lv' := [(2, LI (q3 + 1)), (0, LR (some a0)), (1, LI p1), (4, LL (((Int32.toInt64 v12) * (Int32.toInt64 v13)) + (Int32.toInt64 v18))), (12, LL v29)]) h 2 dX9_findStarts_209 rfl rfl (by decide) rfl ?_
          refine k_goto (tgt := 16) h dX9_findStarts_212 (by decide) ?_
          refine k_sub (lv' := [(0, LR (some a0)), (1, LI p1), (2, LI (q3 + 1))]) h [1, 2, 0] rfl ?_
          exact hr5 (q3 + 1) s38
        · refine k_lload h 4 dX9_findStarts_194 rfl ?_
          refine k_lload h 3 dX9_findStarts_196 rfl ?_
          refine k_lsub h dX9_findStarts_198 ?_
          refine k_goto (tgt := 206) h dX9_findStarts_199 (by decide) ?_
          refine k_putL h fX9_47 (Or.inl (mw32 10 rfl)) rfl dX9_findStarts_206 (fun s39 => ?_)
          refine k_iinc (w := (q3 + 1)) (lv' := [(2, LI (q3 + 1)), (0, LR (some a0)), (1, LI p1), (4, LL (((Int32.toInt64 v12) * (Int32.toInt64 v13)) + (Int32.toInt64 v18))), (12, LL v29)]) h 2 dX9_findStarts_209 rfl rfl (by decide) rfl ?_
          refine k_goto (tgt := 16) h dX9_findStarts_212 (by decide) ?_
          refine k_sub (lv' := [(0, LR (some a0)), (1, LI p1), (2, LI (q3 + 1))]) h [1, 2, 0] rfl ?_
          exact hr5 (q3 + 1) s39
      · refine k_if_le (tgt := 173) h dX9_findStarts_161 (by decide) ?_ ?_
        · refine k_aload_n h 6 dX9_findStarts_173 rfl rfl ?_
          refine k_getL h fX9_46 (Or.inl (mw32 9 rfl)) dX9_findStarts_174 (fun v40 => ?_)
          refine k_sub (lv' := [(0, LR (some a0)), (1, LI p1), (2, LI q3), (4, LL (((Int32.toInt64 v12) * (Int32.toInt64 v13)) + (Int32.toInt64 v18))), (12, LL v29)]) h [6, 7, 8, 4, 0] rfl ?_
          exact hj34 v40 s30
        · refine k_lload h 0 dX9_findStarts_164 rfl ?_
          refine k_lneg h dX9_findStarts_166 ?_
          refine k_lload h 4 dX9_findStarts_167 rfl ?_
          refine k_lsub h dX9_findStarts_169 ?_
          refine k_goto (tgt := 177) h dX9_findStarts_170 (by decide) ?_
          refine k_sub (lv' := [(0, LR (some a0)), (1, LI p1), (2, LI q3), (4, LL (((Int32.toInt64 v12) * (Int32.toInt64 v13)) + (Int32.toInt64 v18))), (12, LL v29)]) h [6, 7, 8, 4, 0] rfl ?_
          exact hj34 ((-v29) - (((Int32.toInt64 v12) * (Int32.toInt64 v13)) + (Int32.toInt64 v18))) s30
    · refine k_aload_n h 5 dX9_findStarts_131 rfl rfl ?_
      refine k_aload_n h 5 dX9_findStarts_132 rfl rfl ?_
      refine k_getL h fX9_46 (Or.inl (mw32 9 rfl)) dX9_findStarts_133 (fun v41 => ?_)
      refine k_lconst (v := 1) h dX9_findStarts_136 (by decide) ?_
      refine k_lsub h dX9_findStarts_137 ?_
      refine k_putL h fX9_47 (Or.inl (mw32 10 rfl)) rfl dX9_findStarts_138 (fun s42 => ?_)
      exact k_vret h rfl dX9_findStarts_141 (Nat.le_of_ble_eq_true rfl) (Nat.le_of_ble_eq_true rfl)
def mX9_spot (a0 : Nat) (p1 : Int32) (p2 : Int32) (s0 : Sg) : Option (Int32 × Sg) :=
cv s0 9 (some a0) fun a15 => cl (mX9_isLoad a15 p1 s0) fun v1 s2 =>
if v1 = 0 then (
some ((-100002), s2))
else (
cl (mX9_in (Int32.toInt64 p2) 0 1 s2) fun v3 s4 =>
if ¬ v3 = 0 then (
cv s4 9 (some a0) fun a14 => cl (mX9_takeLoad a14 p1 s4) fun u5 s6 =>
cv s6 9 (some a0) fun a13 => cl (mX9_findStarts a13 p1 s6) fun u7 s8 =>
gdL s8 9 46 (some a0) fun v9 =>
gdL s8 9 47 (some a0) fun v10 =>
if (lg_cmp v9 v10) ≤ 0 then (
if ¬ p2 = 0 then (
gdL s8 9 47 (some a0) fun v11 =>
some ((Int64.toInt32 v11), s8))
else (
gdL s8 9 46 (some a0) fun v12 =>
some ((Int64.toInt32 v12), s8)))
else (
some ((-100001), s8)))
else (
some ((-100002), s4)))
def rmX9_spot : Room := { frames := 4, cells := 0, slots := 0, locals := 105 }
theorem calX9_spot : Cal yX9_spot cX9_spot 3 (some .int) 2 := ⟨(mw32 7 rfl), (mw1 5 rfl), by decide, by decide, by decide +kernel⟩
set_option maxHeartbeats 4000000 in
set_option maxRecDepth 100000 in
theorem ctX9_spot (l : Launch) (B : Nat) (D : va_G) (cA : Nat → ClassId) (sa : Nat → Nat) (a0 : Nat) (p1 : Int32) (p2 : Int32) (s0 : Sg) : Ct l B D cA sa yX9_spot cX9_spot 3 (some .int) rmX9_spot rI [LR (some a0), LI p1, LI p2] s0 0 0 (mX9_spot a0 p1 p2 s0) := by
  refine Ct.of (own := RX9) (by decide) rfl _ (Nat.le_of_ble_eq_true rfl) rfl ?_
  intro p e s m args below meth c h hi
  unfold mX9_spot
  refine k_aload_n h 0 dX9_spot_0 rfl rfl ?_
  refine k_iload_n h 1 dX9_spot_1 rfl rfl ?_
  refine k_callVI (As := [LI p1]) (st := []) (x0 := (some a0)) (xg := fun a15 => mX9_isLoad a15 p1 s0) h (fun a15 => ctX9_isLoad l B D cA sa a15 p1 s0) calX9_isLoad rfl (by decide) (mw20 18 rfl) (mw20 19 rfl) (Or.inl (mw20 17 rfl)) hgood ⟨rfl, rfl, Nat.le_of_ble_eq_true rfl, Nat.le_of_ble_eq_true rfl⟩ ⟨Nat.le_of_ble_eq_true rfl, Nat.le_of_ble_eq_true rfl⟩ rfl (Nat.le_of_ble_eq_true rfl) dX9_spot_2 (fun v1 s2 => ?_)
  refine k_if_eq (tgt := 18) h dX9_spot_5 (by decide) ?_ ?_
  · refine k_ldc_w (v := (-100002)) h dX9_spot_18 (mw32 8 rfl) ?_
    exact k_iret h rfl dX9_spot_21 (Nat.le_of_ble_eq_true rfl) (Nat.le_of_ble_eq_true rfl)
  · refine k_iload_n h 2 dX9_spot_8 rfl rfl ?_
    refine k_i2l h dX9_spot_9 ?_
    refine k_lconst (v := 0) h dX9_spot_10 (by decide) ?_
    refine k_lconst (v := 1) h dX9_spot_11 (by decide) ?_
    refine k_callSI (As := [LL (Int32.toInt64 p2), LL 0, LL 1]) (st := []) h (ctX9_in l B D cA sa (Int32.toInt64 p2) 0 1 s2) calX9_in (mw9 1 rfl) (Or.inl (mw9 0 rfl)) hgood ⟨rfl, rfl, Nat.le_of_ble_eq_true rfl, Nat.le_of_ble_eq_true rfl⟩ ⟨Nat.le_of_ble_eq_true rfl, Nat.le_of_ble_eq_true rfl⟩ rfl (Nat.le_of_ble_eq_true rfl) dX9_spot_12 (fun v3 s4 => ?_)
    refine k_if_ne (tgt := 22) h dX9_spot_15 (by decide) ?_ ?_
    · refine k_aload_n h 0 dX9_spot_22 rfl rfl ?_
      refine k_iload_n h 1 dX9_spot_23 rfl rfl ?_
      refine k_callVU (As := [LI p1]) (st := []) (x0 := (some a0)) (xg := fun a14 => mX9_takeLoad a14 p1 s4) h (fun a14 => ctX9_takeLoad l B D cA sa a14 p1 s4) calX9_takeLoad rfl (by decide) (mw25 6 rfl) (mw25 7 rfl) (Or.inl (mw25 5 rfl)) hgood ⟨rfl, rfl, Nat.le_of_ble_eq_true rfl, Nat.le_of_ble_eq_true rfl⟩ ⟨Nat.le_of_ble_eq_true rfl, Nat.le_of_ble_eq_true rfl⟩ rfl (Nat.le_of_ble_eq_true rfl) dX9_spot_24 (fun u5 s6 => ?_)
      refine k_aload_n h 0 dX9_spot_27 rfl rfl ?_
      refine k_iload_n h 1 dX9_spot_28 rfl rfl ?_
      refine k_callVU (As := [LI p1]) (st := []) (x0 := (some a0)) (xg := fun a13 => mX9_findStarts a13 p1 s6) h (fun a13 => ctX9_findStarts l B D cA sa a13 p1 s6) calX9_findStarts rfl (by decide) (mw32 13 rfl) (mw32 14 rfl) (Or.inl (mw32 12 rfl)) hgood ⟨rfl, rfl, Nat.le_of_ble_eq_true rfl, Nat.le_of_ble_eq_true rfl⟩ ⟨Nat.le_of_ble_eq_true rfl, Nat.le_of_ble_eq_true rfl⟩ rfl (Nat.le_of_ble_eq_true rfl) dX9_spot_29 (fun u7 s8 => ?_)
      refine k_aload_n h 0 dX9_spot_32 rfl rfl ?_
      refine k_getL h fX9_46 (Or.inl (mw32 9 rfl)) dX9_spot_33 (fun v9 => ?_)
      refine k_aload_n h 0 dX9_spot_36 rfl rfl ?_
      refine k_getL h fX9_47 (Or.inl (mw32 10 rfl)) dX9_spot_37 (fun v10 => ?_)
      refine k_lcmp h dX9_spot_40 ?_
      refine k_if_le (tgt := 50) h dX9_spot_41 (by decide) ?_ ?_
      · refine k_iload_n h 2 dX9_spot_50 rfl rfl ?_
        refine k_if_ne (tgt := 61) h dX9_spot_51 (by decide) ?_ ?_
        · refine k_aload_n h 0 dX9_spot_61 rfl rfl ?_
          refine k_getL h fX9_47 (Or.inl (mw32 10 rfl)) dX9_spot_62 (fun v11 => ?_)
          refine k_l2i h dX9_spot_65 ?_
          exact k_iret h rfl dX9_spot_66 (Nat.le_of_ble_eq_true rfl) (Nat.le_of_ble_eq_true rfl)
        · refine k_aload_n h 0 dX9_spot_54 rfl rfl ?_
          refine k_getL h fX9_46 (Or.inl (mw32 9 rfl)) dX9_spot_55 (fun v12 => ?_)
          refine k_goto (tgt := 65) h dX9_spot_58 (by decide) ?_
          refine k_l2i h dX9_spot_65 ?_
          exact k_iret h rfl dX9_spot_66 (Nat.le_of_ble_eq_true rfl) (Nat.le_of_ble_eq_true rfl)
      · refine k_ldc_w (v := (-100001)) h dX9_spot_44 (mw32 11 rfl) ?_
        refine k_goto (tgt := 66) h dX9_spot_47 (by decide) ?_
        exact k_iret h rfl dX9_spot_66 (Nat.le_of_ble_eq_true rfl) (Nat.le_of_ble_eq_true rfl)
    · refine k_ldc_w (v := (-100002)) h dX9_spot_18 (mw32 8 rfl) ?_
      exact k_iret h rfl dX9_spot_21 (Nat.le_of_ble_eq_true rfl) (Nat.le_of_ble_eq_true rfl)
def mX9_jumpersIn_b4 (a0 : Nat) (p1 : Int32) (r3 : (Int32 × Int32) → Sg → Option (Int32 × Sg)) (q1 : Int32 × Int32) (s2 : Sg) : Option (Int32 × Sg) :=
gdR s2 9 22 (some a0) fun v4 =>
alI s2 v4 p1 fun v5 =>
if v5 ≤ q1.2 then (
some (q1.1, s2))
else (
gdR s2 9 13 (some a0) fun v6 =>
gdR s2 9 23 (some a0) fun v7 =>
alI s2 v7 ((6 * p1) + q1.2) fun v8 =>
alI s2 v6 v8 fun v9 =>
r3 ((q1.1 + v9), (q1.2 + 1)) s2)
def mX9_jumpersIn (a0 : Nat) (p1 : Int32) (s0 : Sg) : Option (Int32 × Sg) :=
lp (mX9_jumpersIn_b4 a0 p1) FU (0, 0) s0
def rmX9_jumpersIn : Room := { frames := 0, cells := 0, slots := 0, locals := 0 }
theorem calX9_jumpersIn : Cal yX9_jumpersIn cX9_jumpersIn 4 (some .int) 1 := ⟨(mw35 22 rfl), (mw1 5 rfl), by decide, by decide, by decide +kernel⟩
set_option maxHeartbeats 4000000 in
set_option maxRecDepth 100000 in
theorem ctX9_jumpersIn (l : Launch) (B : Nat) (D : va_G) (cA : Nat → ClassId) (sa : Nat → Nat) (a0 : Nat) (p1 : Int32) (s0 : Sg) : Ct l B D cA sa yX9_jumpersIn cX9_jumpersIn 4 (some .int) rmX9_jumpersIn rI [LR (some a0), LI p1] s0 0 0 (mX9_jumpersIn a0 p1 s0) := by
  refine Ct.of (own := RX9) (by decide) rfl _ (Nat.le_of_ble_eq_true rfl) rfl ?_
  intro p e s m args below meth c h hi
  unfold mX9_jumpersIn
  refine k_iconst (v := 0) h dX9_jumpersIn_0 (by decide) ?_
  refine k_istore_n (lv' := [(2, LI 0), (0, LR (some a0)), (1, LI p1)]) h dX9_jumpersIn_1 rfl (by decide) rfl ?_
  refine k_iconst (v := 0) h dX9_jumpersIn_2 (by decide) ?_
  refine k_istore_n (lv' := [(3, LI 0), (2, LI 0), (0, LR (some a0)), (1, LI p1)]) h dX9_jumpersIn_3 rfl (by decide) rfl ?_
  refine k_sub (lv' := [(0, LR (some a0)), (1, LI p1), (2, LI 0), (3, LI 0)]) h [2, 3, 1, 0] rfl ?_
  refine k_lp (A := Int32 × Int32) (fun q1 => [(0, LR (some a0)), (1, LI p1), (2, LI q1.1), (3, LI q1.2)]) (fun q1 => []) (fun r3 hr3 q1 s2 => ?_) FU (0, 0) s0
  unfold mX9_jumpersIn_b4
  refine k_iload_n h 3 dX9_jumpersIn_4 rfl rfl ?_
  refine k_aload_n h 0 dX9_jumpersIn_5 rfl rfl ?_
  refine k_getR h fX9_22 (Or.inl (mw7 7 rfl)) dX9_jumpersIn_6 (fun v4 => ?_)
  refine k_iload_n h 1 dX9_jumpersIn_9 rfl rfl ?_
  refine k_alI h dX9_jumpersIn_10 (fun v5 => ?_)
  refine k_icmp_ge (tgt := 39) h dX9_jumpersIn_11 (by decide) ?_ ?_
  · refine k_iload_n h 2 dX9_jumpersIn_39 rfl rfl ?_
    exact k_iret h rfl dX9_jumpersIn_40 (Nat.le_of_ble_eq_true rfl) (Nat.le_of_ble_eq_true rfl)
  · refine k_iload_n h 2 dX9_jumpersIn_14 rfl rfl ?_
    refine k_aload_n h 0 dX9_jumpersIn_15 rfl rfl ?_
    refine k_getR h fX9_13 (Or.inl (mw6 23 rfl)) dX9_jumpersIn_16 (fun v6 => ?_)
    refine k_aload_n h 0 dX9_jumpersIn_19 rfl rfl ?_
    refine k_getR h fX9_23 (Or.inl (mw7 8 rfl)) dX9_jumpersIn_20 (fun v7 => ?_)
    refine k_bipush (v := 6) h dX9_jumpersIn_23 (by decide) ?_
    refine k_iload_n h 1 dX9_jumpersIn_25 rfl rfl ?_
    refine k_imul h dX9_jumpersIn_26 ?_
    refine k_iload_n h 3 dX9_jumpersIn_27 rfl rfl ?_
    refine k_iadd h dX9_jumpersIn_28 ?_
    refine k_alI h dX9_jumpersIn_29 (fun v8 => ?_)
    refine k_alI h dX9_jumpersIn_30 (fun v9 => ?_)
    refine k_iadd h dX9_jumpersIn_31 ?_
    refine k_istore_n (lv' := [(2, LI (q1.1 + v9)), (0, LR (some a0)), (1, LI p1), (3, LI q1.2)]) h dX9_jumpersIn_32 rfl (by decide) rfl ?_
    refine k_iinc (w := (q1.2 + 1)) (lv' := [(3, LI (q1.2 + 1)), (2, LI (q1.1 + v9)), (0, LR (some a0)), (1, LI p1)]) h 3 dX9_jumpersIn_33 rfl rfl (by decide) rfl ?_
    refine k_goto (tgt := 4) h dX9_jumpersIn_36 (by decide) ?_
    refine k_sub (lv' := [(0, LR (some a0)), (1, LI p1), (2, LI (q1.1 + v9)), (3, LI (q1.2 + 1))]) h [2, 3, 1, 0] rfl ?_
    exact hr3 ((q1.1 + v9), (q1.2 + 1)) s2
def mX9_hasEmpty_b17 (a0 : Nat) (p1 : Int32) (r5 : (Int32 × Int32) → Sg → Option (Int32 × Sg)) (q3 : Int32 × Int32) (s4 : Sg) : Option (Int32 × Sg) :=
gdR s4 9 22 (some a0) fun v6 =>
alI s4 v6 p1 fun v7 =>
if v7 ≤ q3.2 then (
ckB q3.1 (some (q3.1, s4)))
else (
if ¬ q3.1 = 0 then (
r5 (1, (q3.2 + 1)) s4)
else (
gdR s4 9 13 (some a0) fun v8 =>
gdR s4 9 23 (some a0) fun v9 =>
alI s4 v9 ((6 * p1) + q3.2) fun v10 =>
alI s4 v8 v10 fun v11 =>
if ¬ v11 = 0 then (
r5 (0, (q3.2 + 1)) s4)
else (
r5 (1, (q3.2 + 1)) s4)))
def mX9_hasEmpty_b17_ (a0 : Nat) (p1 : Int32) (r15 : (Int32 × Int32) → Sg → Option (Int32 × Sg)) (q13 : Int32 × Int32) (s14 : Sg) : Option (Int32 × Sg) :=
gdR s14 9 22 (some a0) fun v16 =>
alI s14 v16 p1 fun v17 =>
if v17 ≤ q13.2 then (
ckB q13.1 (some (q13.1, s14)))
else (
if ¬ q13.1 = 0 then (
r15 (1, (q13.2 + 1)) s14)
else (
gdR s14 9 13 (some a0) fun v18 =>
gdR s14 9 23 (some a0) fun v19 =>
alI s14 v19 ((6 * p1) + q13.2) fun v20 =>
alI s14 v18 v20 fun v21 =>
if ¬ v21 = 0 then (
r15 (0, (q13.2 + 1)) s14)
else (
r15 (1, (q13.2 + 1)) s14)))
def mX9_hasEmpty (a0 : Nat) (p1 : Int32) (s0 : Sg) : Option (Int32 × Sg) :=
gdR s0 9 22 (some a0) fun v1 =>
alI s0 v1 p1 fun v2 =>
if ¬ v2 = 0 then (
lp (mX9_hasEmpty_b17 a0 p1) FU (0, 0) s0)
else (
lp (mX9_hasEmpty_b17_ a0 p1) FU (1, 0) s0)
def rmX9_hasEmpty : Room := { frames := 0, cells := 0, slots := 0, locals := 0 }
theorem calX9_hasEmpty : Cal yX9_hasEmpty cX9_hasEmpty 4 (some .boolean) 1 := ⟨(mw35 18 rfl), (mw1 5 rfl), by decide, by decide, by decide +kernel⟩
set_option maxHeartbeats 4000000 in
set_option maxRecDepth 100000 in
theorem ctX9_hasEmpty (l : Launch) (B : Nat) (D : va_G) (cA : Nat → ClassId) (sa : Nat → Nat) (a0 : Nat) (p1 : Int32) (s0 : Sg) : Ct l B D cA sa yX9_hasEmpty cX9_hasEmpty 4 (some .boolean) rmX9_hasEmpty rI [LR (some a0), LI p1] s0 0 0 (mX9_hasEmpty a0 p1 s0) := by
  refine Ct.of (own := RX9) (by decide) rfl _ (Nat.le_of_ble_eq_true rfl) rfl ?_
  intro p e s m args below meth c h hi
  unfold mX9_hasEmpty
  refine k_aload_n h 0 dX9_hasEmpty_0 rfl rfl ?_
  refine k_getR h fX9_22 (Or.inl (mw7 7 rfl)) dX9_hasEmpty_1 (fun v1 => ?_)
  refine k_iload_n h 1 dX9_hasEmpty_4 rfl rfl ?_
  refine k_alI h dX9_hasEmpty_5 (fun v2 => ?_)
  refine k_if_ne (tgt := 13) h dX9_hasEmpty_6 (by decide) ?_ ?_
  · refine k_iconst (v := 0) h dX9_hasEmpty_13 (by decide) ?_
    refine k_istore_n (lv' := [(2, LI 0), (0, LR (some a0)), (1, LI p1)]) h dX9_hasEmpty_14 rfl (by decide) rfl ?_
    refine k_iconst (v := 0) h dX9_hasEmpty_15 (by decide) ?_
    refine k_istore_n (lv' := [(3, LI 0), (2, LI 0), (0, LR (some a0)), (1, LI p1)]) h dX9_hasEmpty_16 rfl (by decide) rfl ?_
    refine k_sub (lv' := [(0, LR (some a0)), (1, LI p1), (2, LI 0), (3, LI 0)]) h [2, 3, 1, 0] rfl ?_
    refine k_lp (A := Int32 × Int32) (fun q3 => [(0, LR (some a0)), (1, LI p1), (2, LI q3.1), (3, LI q3.2)]) (fun q3 => []) (fun r5 hr5 q3 s4 => ?_) FU (0, 0) s0
    unfold mX9_hasEmpty_b17
    refine k_iload_n h 3 dX9_hasEmpty_17 rfl rfl ?_
    refine k_aload_n h 0 dX9_hasEmpty_18 rfl rfl ?_
    refine k_getR h fX9_22 (Or.inl (mw7 7 rfl)) dX9_hasEmpty_19 (fun v6 => ?_)
    refine k_iload_n h 1 dX9_hasEmpty_22 rfl rfl ?_
    refine k_alI h dX9_hasEmpty_23 (fun v7 => ?_)
    refine k_icmp_ge (tgt := 62) h dX9_hasEmpty_24 (by decide) ?_ ?_
    · refine k_iload_n h 2 dX9_hasEmpty_62 rfl rfl ?_
      exact k_zret h rfl dX9_hasEmpty_63 (Nat.le_of_ble_eq_true rfl) (Nat.le_of_ble_eq_true rfl)
    · refine k_iload_n h 2 dX9_hasEmpty_27 rfl rfl ?_
      refine k_if_ne (tgt := 50) h dX9_hasEmpty_28 (by decide) ?_ ?_
      · refine k_iconst (v := 1) h dX9_hasEmpty_50 (by decide) ?_
        refine k_goto (tgt := 55) h dX9_hasEmpty_51 (by decide) ?_
        refine k_istore_n (lv' := [(2, LI 1), (0, LR (some a0)), (1, LI p1), (3, LI q3.2)]) h dX9_hasEmpty_55 rfl (by decide) rfl ?_
        refine k_iinc (w := (q3.2 + 1)) (lv' := [(3, LI (q3.2 + 1)), (2, LI 1), (0, LR (some a0)), (1, LI p1)]) h 3 dX9_hasEmpty_56 rfl rfl (by decide) rfl ?_
        refine k_goto (tgt := 17) h dX9_hasEmpty_59 (by decide) ?_
        refine k_sub (lv' := [(0, LR (some a0)), (1, LI p1), (2, LI 1), (3, LI (q3.2 + 1))]) h [2, 3, 1, 0] rfl ?_
        exact hr5 (1, (q3.2 + 1)) s4
      · refine k_aload_n h 0 dX9_hasEmpty_31 rfl rfl ?_
        refine k_getR h fX9_13 (Or.inl (mw6 23 rfl)) dX9_hasEmpty_32 (fun v8 => ?_)
        refine k_aload_n h 0 dX9_hasEmpty_35 rfl rfl ?_
        refine k_getR h fX9_23 (Or.inl (mw7 8 rfl)) dX9_hasEmpty_36 (fun v9 => ?_)
        refine k_bipush (v := 6) h dX9_hasEmpty_39 (by decide) ?_
        refine k_iload_n h 1 dX9_hasEmpty_41 rfl rfl ?_
        refine k_imul h dX9_hasEmpty_42 ?_
        refine k_iload_n h 3 dX9_hasEmpty_43 rfl rfl ?_
        refine k_iadd h dX9_hasEmpty_44 ?_
        refine k_alI h dX9_hasEmpty_45 (fun v10 => ?_)
        refine k_alI h dX9_hasEmpty_46 (fun v11 => ?_)
        refine k_if_ne (tgt := 54) h dX9_hasEmpty_47 (by decide) ?_ ?_
        · refine k_iconst (v := 0) h dX9_hasEmpty_54 (by decide) ?_
          refine k_istore_n (lv' := [(2, LI 0), (0, LR (some a0)), (1, LI p1), (3, LI q3.2)]) h dX9_hasEmpty_55 rfl (by decide) rfl ?_
          refine k_iinc (w := (q3.2 + 1)) (lv' := [(3, LI (q3.2 + 1)), (2, LI 0), (0, LR (some a0)), (1, LI p1)]) h 3 dX9_hasEmpty_56 rfl rfl (by decide) rfl ?_
          refine k_goto (tgt := 17) h dX9_hasEmpty_59 (by decide) ?_
          refine k_sub (lv' := [(0, LR (some a0)), (1, LI p1), (2, LI 0), (3, LI (q3.2 + 1))]) h [2, 3, 1, 0] rfl ?_
          exact hr5 (0, (q3.2 + 1)) s4
        · refine k_iconst (v := 1) h dX9_hasEmpty_50 (by decide) ?_
          refine k_goto (tgt := 55) h dX9_hasEmpty_51 (by decide) ?_
          refine k_istore_n (lv' := [(2, LI 1), (0, LR (some a0)), (1, LI p1), (3, LI q3.2)]) h dX9_hasEmpty_55 rfl (by decide) rfl ?_
          refine k_iinc (w := (q3.2 + 1)) (lv' := [(3, LI (q3.2 + 1)), (2, LI 1), (0, LR (some a0)), (1, LI p1)]) h 3 dX9_hasEmpty_56 rfl rfl (by decide) rfl ?_
          refine k_goto (tgt := 17) h dX9_hasEmpty_59 (by decide) ?_
          refine k_sub (lv' := [(0, LR (some a0)), (1, LI p1), (2, LI 1), (3, LI (q3.2 + 1))]) h [2, 3, 1, 0] rfl ?_
          exact hr5 (1, (q3.2 + 1)) s4
  · refine k_iconst (v := 1) h dX9_hasEmpty_9 (by decide) ?_
    refine k_goto (tgt := 14) h dX9_hasEmpty_10 (by decide) ?_
    refine k_istore_n (lv' := [(2, LI 1), (0, LR (some a0)), (1, LI p1)]) h dX9_hasEmpty_14 rfl (by decide) rfl ?_
    refine k_iconst (v := 0) h dX9_hasEmpty_15 (by decide) ?_
    refine k_istore_n (lv' := [(3, LI 0), (2, LI 1), (0, LR (some a0)), (1, LI p1)]) h dX9_hasEmpty_16 rfl (by decide) rfl ?_
    refine k_sub (lv' := [(0, LR (some a0)), (1, LI p1), (2, LI 1), (3, LI 0)]) h [2, 3, 1, 0] rfl ?_
    refine k_lp (A := Int32 × Int32) (fun q13 => [(0, LR (some a0)), (1, LI p1), (2, LI q13.1), (3, LI q13.2)]) (fun q13 => []) (fun r15 hr15 q13 s14 => ?_) FU (1, 0) s0
    unfold mX9_hasEmpty_b17_
    refine k_iload_n h 3 dX9_hasEmpty_17 rfl rfl ?_
    refine k_aload_n h 0 dX9_hasEmpty_18 rfl rfl ?_
    refine k_getR h fX9_22 (Or.inl (mw7 7 rfl)) dX9_hasEmpty_19 (fun v16 => ?_)
    refine k_iload_n h 1 dX9_hasEmpty_22 rfl rfl ?_
    refine k_alI h dX9_hasEmpty_23 (fun v17 => ?_)
    refine k_icmp_ge (tgt := 62) h dX9_hasEmpty_24 (by decide) ?_ ?_
    · refine k_iload_n h 2 dX9_hasEmpty_62 rfl rfl ?_
      exact k_zret h rfl dX9_hasEmpty_63 (Nat.le_of_ble_eq_true rfl) (Nat.le_of_ble_eq_true rfl)
    · refine k_iload_n h 2 dX9_hasEmpty_27 rfl rfl ?_
      refine k_if_ne (tgt := 50) h dX9_hasEmpty_28 (by decide) ?_ ?_
      · refine k_iconst (v := 1) h dX9_hasEmpty_50 (by decide) ?_
        refine k_goto (tgt := 55) h dX9_hasEmpty_51 (by decide) ?_
        refine k_istore_n (lv' := [(2, LI 1), (0, LR (some a0)), (1, LI p1), (3, LI q13.2)]) h dX9_hasEmpty_55 rfl (by decide) rfl ?_
        refine k_iinc (w := (q13.2 + 1)) (lv' := [(3, LI (q13.2 + 1)), (2, LI 1), (0, LR (some a0)), (1, LI p1)]) h 3 dX9_hasEmpty_56 rfl rfl (by decide) rfl ?_
        refine k_goto (tgt := 17) h dX9_hasEmpty_59 (by decide) ?_
        refine k_sub (lv' := [(0, LR (some a0)), (1, LI p1), (2, LI 1), (3, LI (q13.2 + 1))]) h [2, 3, 1, 0] rfl ?_
        exact hr15 (1, (q13.2 + 1)) s14
      · refine k_aload_n h 0 dX9_hasEmpty_31 rfl rfl ?_
        refine k_getR h fX9_13 (Or.inl (mw6 23 rfl)) dX9_hasEmpty_32 (fun v18 => ?_)
        refine k_aload_n h 0 dX9_hasEmpty_35 rfl rfl ?_
        refine k_getR h fX9_23 (Or.inl (mw7 8 rfl)) dX9_hasEmpty_36 (fun v19 => ?_)
        refine k_bipush (v := 6) h dX9_hasEmpty_39 (by decide) ?_
        refine k_iload_n h 1 dX9_hasEmpty_41 rfl rfl ?_
        refine k_imul h dX9_hasEmpty_42 ?_
        refine k_iload_n h 3 dX9_hasEmpty_43 rfl rfl ?_
        refine k_iadd h dX9_hasEmpty_44 ?_
        refine k_alI h dX9_hasEmpty_45 (fun v20 => ?_)
        refine k_alI h dX9_hasEmpty_46 (fun v21 => ?_)
        refine k_if_ne (tgt := 54) h dX9_hasEmpty_47 (by decide) ?_ ?_
        · refine k_iconst (v := 0) h dX9_hasEmpty_54 (by decide) ?_
          refine k_istore_n (lv' := [(2, LI 0), (0, LR (some a0)), (1, LI p1), (3, LI q13.2)]) h dX9_hasEmpty_55 rfl (by decide) rfl ?_
          refine k_iinc (w := (q13.2 + 1)) (lv' := [(3, LI (q13.2 + 1)), (2, LI 0), (0, LR (some a0)), (1, LI p1)]) h 3 dX9_hasEmpty_56 rfl rfl (by decide) rfl ?_
          refine k_goto (tgt := 17) h dX9_hasEmpty_59 (by decide) ?_
          refine k_sub (lv' := [(0, LR (some a0)), (1, LI p1), (2, LI 0), (3, LI (q13.2 + 1))]) h [2, 3, 1, 0] rfl ?_
          exact hr15 (0, (q13.2 + 1)) s14
        · refine k_iconst (v := 1) h dX9_hasEmpty_50 (by decide) ?_
          refine k_goto (tgt := 55) h dX9_hasEmpty_51 (by decide) ?_
          refine k_istore_n (lv' := [(2, LI 1), (0, LR (some a0)), (1, LI p1), (3, LI q13.2)]) h dX9_hasEmpty_55 rfl (by decide) rfl ?_
          refine k_iinc (w := (q13.2 + 1)) (lv' := [(3, LI (q13.2 + 1)), (2, LI 1), (0, LR (some a0)), (1, LI p1)]) h 3 dX9_hasEmpty_56 rfl rfl (by decide) rfl ?_
          refine k_goto (tgt := 17) h dX9_hasEmpty_59 (by decide) ?_
          refine k_sub (lv' := [(0, LR (some a0)), (1, LI p1), (2, LI 1), (3, LI (q13.2 + 1))]) h [2, 3, 1, 0] rfl ?_
          exact hr15 (1, (q13.2 + 1)) s14
def mX9_weightOn_b4 (a0 : Nat) (p1 : Int32) (r3 : (Int32 × Int32) → Sg → Option (Int32 × Sg)) (q1 : Int32 × Int32) (s2 : Sg) : Option (Int32 × Sg) :=
gdR s2 9 22 (some a0) fun v4 =>
alI s2 v4 p1 fun v5 =>
if v5 ≤ q1.2 then (
some (q1.1, s2))
else (
gdR s2 9 23 (some a0) fun v6 =>
alI s2 v6 ((6 * p1) + q1.2) fun v7 =>
cv s2 9 (some a0) fun a10 => cl (mX9_weightIn a10 v7 s2) fun v8 s9 =>
r3 ((q1.1 + v8), (q1.2 + 1)) s9)
def mX9_weightOn (a0 : Nat) (p1 : Int32) (s0 : Sg) : Option (Int32 × Sg) :=
lp (mX9_weightOn_b4 a0 p1) FU (0, 0) s0
def rmX9_weightOn : Room := { frames := 1, cells := 0, slots := 0, locals := 23 }
theorem calX9_weightOn : Cal yX9_weightOn cX9_weightOn 4 (some .int) 1 := ⟨(mw36 2 rfl), (mw1 5 rfl), by decide, by decide, by decide +kernel⟩
set_option maxHeartbeats 4000000 in
set_option maxRecDepth 100000 in
theorem ctX9_weightOn (l : Launch) (B : Nat) (D : va_G) (cA : Nat → ClassId) (sa : Nat → Nat) (a0 : Nat) (p1 : Int32) (s0 : Sg) : Ct l B D cA sa yX9_weightOn cX9_weightOn 4 (some .int) rmX9_weightOn rI [LR (some a0), LI p1] s0 0 0 (mX9_weightOn a0 p1 s0) := by
  refine Ct.of (own := RX9) (by decide) rfl _ (Nat.le_of_ble_eq_true rfl) rfl ?_
  intro p e s m args below meth c h hi
  unfold mX9_weightOn
  refine k_iconst (v := 0) h dX9_weightOn_0 (by decide) ?_
  refine k_istore_n (lv' := [(2, LI 0), (0, LR (some a0)), (1, LI p1)]) h dX9_weightOn_1 rfl (by decide) rfl ?_
  refine k_iconst (v := 0) h dX9_weightOn_2 (by decide) ?_
  refine k_istore_n (lv' := [(3, LI 0), (2, LI 0), (0, LR (some a0)), (1, LI p1)]) h dX9_weightOn_3 rfl (by decide) rfl ?_
  refine k_sub (lv' := [(0, LR (some a0)), (1, LI p1), (2, LI 0), (3, LI 0)]) h [2, 3, 1, 0] rfl ?_
  refine k_lp (A := Int32 × Int32) (fun q1 => [(0, LR (some a0)), (1, LI p1), (2, LI q1.1), (3, LI q1.2)]) (fun q1 => []) (fun r3 hr3 q1 s2 => ?_) FU (0, 0) s0
  unfold mX9_weightOn_b4
  refine k_iload_n h 3 dX9_weightOn_4 rfl rfl ?_
  refine k_aload_n h 0 dX9_weightOn_5 rfl rfl ?_
  refine k_getR h fX9_22 (Or.inl (mw7 7 rfl)) dX9_weightOn_6 (fun v4 => ?_)
  refine k_iload_n h 1 dX9_weightOn_9 rfl rfl ?_
  refine k_alI h dX9_weightOn_10 (fun v5 => ?_)
  refine k_icmp_ge (tgt := 38) h dX9_weightOn_11 (by decide) ?_ ?_
  · refine k_iload_n h 2 dX9_weightOn_38 rfl rfl ?_
    exact k_iret h rfl dX9_weightOn_39 (Nat.le_of_ble_eq_true rfl) (Nat.le_of_ble_eq_true rfl)
  · refine k_iload_n h 2 dX9_weightOn_14 rfl rfl ?_
    refine k_aload_n h 0 dX9_weightOn_15 rfl rfl ?_
    refine k_aload_n h 0 dX9_weightOn_16 rfl rfl ?_
    refine k_getR h fX9_23 (Or.inl (mw7 8 rfl)) dX9_weightOn_17 (fun v6 => ?_)
    refine k_bipush (v := 6) h dX9_weightOn_20 (by decide) ?_
    refine k_iload_n h 1 dX9_weightOn_22 rfl rfl ?_
    refine k_imul h dX9_weightOn_23 ?_
    refine k_iload_n h 3 dX9_weightOn_24 rfl rfl ?_
    refine k_iadd h dX9_weightOn_25 ?_
    refine k_alI h dX9_weightOn_26 (fun v7 => ?_)
    refine k_callVI (As := [LI v7]) (st := [LI q1.1]) (x0 := (some a0)) (xg := fun a10 => mX9_weightIn a10 v7 s2) h (fun a10 => ctX9_weightIn l B D cA sa a10 v7 s2) calX9_weightIn rfl (by decide) (mw18 1 rfl) (mw18 2 rfl) (Or.inl (mw18 0 rfl)) hgood ⟨rfl, rfl, Nat.le_of_ble_eq_true rfl, Nat.le_of_ble_eq_true rfl⟩ ⟨Nat.le_of_ble_eq_true rfl, Nat.le_of_ble_eq_true rfl⟩ rfl (Nat.le_of_ble_eq_true rfl) dX9_weightOn_27 (fun v8 s9 => ?_)
    refine k_iadd h dX9_weightOn_30 ?_
    refine k_istore_n (lv' := [(2, LI (q1.1 + v8)), (0, LR (some a0)), (1, LI p1), (3, LI q1.2)]) h dX9_weightOn_31 rfl (by decide) rfl ?_
    refine k_iinc (w := (q1.2 + 1)) (lv' := [(3, LI (q1.2 + 1)), (2, LI (q1.1 + v8)), (0, LR (some a0)), (1, LI p1)]) h 3 dX9_weightOn_32 rfl rfl (by decide) rfl ?_
    refine k_goto (tgt := 4) h dX9_weightOn_35 (by decide) ?_
    refine k_sub (lv' := [(0, LR (some a0)), (1, LI p1), (2, LI (q1.1 + v8)), (3, LI (q1.2 + 1))]) h [2, 3, 1, 0] rfl ?_
    exact hr3 ((q1.1 + v8), (q1.2 + 1)) s9
def mX9_hasOldGear_b33 (a0 : Nat) (v7 : Int32) (r3 : (Int32 × Int32) → Sg → Option (Int32 × Sg)) (q1 : Int32 × Int32) (p2 : Int32) (r10 : (Int32 × Int32) → Sg → Option (Int32 × Sg)) (q8 : Int32 × Int32) (s9 : Sg) : Option (Int32 × Sg) :=
gdR s9 9 13 (some a0) fun v11 =>
alI s9 v11 v7 fun v12 =>
if v12 ≤ q8.2 then (
r3 (q8.1, (q1.2 + 1)) s9)
else (
if ¬ q8.1 = 0 then (
r10 (1, (q8.2 + 1)) s9)
else (
gdR s9 9 7 (some a0) fun v13 =>
gdR s9 9 14 (some a0) fun v14 =>
alI s9 v14 ((4 * v7) + q8.2) fun v15 =>
alI s9 v13 v15 fun v16 =>
if p2 ≤ v16 then (
r10 (0, (q8.2 + 1)) s9)
else (
r10 (1, (q8.2 + 1)) s9)))
def mX9_hasOldGear_b5 (a0 : Nat) (p1 : Int32) (p2 : Int32) (r3 : (Int32 × Int32) → Sg → Option (Int32 × Sg)) (q1 : Int32 × Int32) (s2 : Sg) : Option (Int32 × Sg) :=
gdR s2 9 22 (some a0) fun v4 =>
alI s2 v4 p1 fun v5 =>
if v5 ≤ q1.2 then (
ckB q1.1 (some (q1.1, s2)))
else (
gdR s2 9 23 (some a0) fun v6 =>
alI s2 v6 ((6 * p1) + q1.2) fun v7 =>
lp (mX9_hasOldGear_b33 a0 v7 r3 q1 p2) FU (q1.1, 0) s2)
def mX9_hasOldGear (a0 : Nat) (p1 : Int32) (p2 : Int32) (s0 : Sg) : Option (Int32 × Sg) :=
lp (mX9_hasOldGear_b5 a0 p1 p2) FU (0, 0) s0
def rmX9_hasOldGear : Room := { frames := 0, cells := 0, slots := 0, locals := 0 }
theorem calX9_hasOldGear : Cal yX9_hasOldGear cX9_hasOldGear 7 (some .boolean) 2 := ⟨(mw36 6 rfl), (mw1 5 rfl), by decide, by decide, by decide +kernel⟩
set_option maxHeartbeats 4000000 in
set_option maxRecDepth 100000 in
theorem ctX9_hasOldGear (l : Launch) (B : Nat) (D : va_G) (cA : Nat → ClassId) (sa : Nat → Nat) (a0 : Nat) (p1 : Int32) (p2 : Int32) (s0 : Sg) : Ct l B D cA sa yX9_hasOldGear cX9_hasOldGear 7 (some .boolean) rmX9_hasOldGear rI [LR (some a0), LI p1, LI p2] s0 0 0 (mX9_hasOldGear a0 p1 p2 s0) := by
  refine Ct.of (own := RX9) (by decide) rfl _ (Nat.le_of_ble_eq_true rfl) rfl ?_
  intro p e s m args below meth c h hi
  unfold mX9_hasOldGear
  refine k_iconst (v := 0) h dX9_hasOldGear_0 (by decide) ?_
  refine k_istore_n (lv' := [(3, LI 0), (0, LR (some a0)), (1, LI p1), (2, LI p2)]) h dX9_hasOldGear_1 rfl (by decide) rfl ?_
  refine k_iconst (v := 0) h dX9_hasOldGear_2 (by decide) ?_
  refine k_istore (lv' := [(4, LI 0), (3, LI 0), (0, LR (some a0)), (1, LI p1), (2, LI p2)]) h dX9_hasOldGear_3 (by decide) rfl ?_
  refine k_sub (lv' := [(0, LR (some a0)), (1, LI p1), (2, LI p2), (3, LI 0), (4, LI 0)]) h [2, 3, 4, 1, 0] rfl ?_
  refine k_lp (A := Int32 × Int32) (fun q1 => [(0, LR (some a0)), (1, LI p1), (2, LI p2), (3, LI q1.1), (4, LI q1.2)]) (fun q1 => []) (fun r3 hr3 q1 s2 => ?_) FU (0, 0) s0
  unfold mX9_hasOldGear_b5
  refine k_iload h 4 dX9_hasOldGear_5 rfl ?_
  refine k_aload_n h 0 dX9_hasOldGear_7 rfl rfl ?_
  refine k_getR h fX9_22 (Or.inl (mw7 7 rfl)) dX9_hasOldGear_8 (fun v4 => ?_)
  refine k_iload_n h 1 dX9_hasOldGear_11 rfl rfl ?_
  refine k_alI h dX9_hasOldGear_12 (fun v5 => ?_)
  refine k_icmp_ge (tgt := 88) h dX9_hasOldGear_13 (by decide) ?_ ?_
  · refine k_iload_n h 3 dX9_hasOldGear_88 rfl rfl ?_
    exact k_zret h rfl dX9_hasOldGear_89 (Nat.le_of_ble_eq_true rfl) (Nat.le_of_ble_eq_true rfl)
  · refine k_aload_n h 0 dX9_hasOldGear_16 rfl rfl ?_
    refine k_getR h fX9_23 (Or.inl (mw7 8 rfl)) dX9_hasOldGear_17 (fun v6 => ?_)
    refine k_bipush (v := 6) h dX9_hasOldGear_20 (by decide) ?_
    refine k_iload_n h 1 dX9_hasOldGear_22 rfl rfl ?_
    refine k_imul h dX9_hasOldGear_23 ?_
    refine k_iload h 4 dX9_hasOldGear_24 rfl ?_
    refine k_iadd h dX9_hasOldGear_26 ?_
    refine k_alI h dX9_hasOldGear_27 (fun v7 => ?_)
    refine k_istore (lv' := [(5, LI v7), (0, LR (some a0)), (1, LI p1), (2, LI p2), (3, LI q1.1), (4, LI q1.2)]) h dX9_hasOldGear_28 (by decide) rfl ?_
    refine k_iconst (v := 0) h dX9_hasOldGear_30 (by decide) ?_
    refine k_istore (lv' := [(6, LI 0), (5, LI v7), (0, LR (some a0)), (1, LI p1), (2, LI p2), (3, LI q1.1), (4, LI q1.2)]) h dX9_hasOldGear_31 (by decide) rfl ?_
    refine k_sub (lv' := [(0, LR (some a0)), (1, LI p1), (2, LI p2), (3, LI q1.1), (4, LI q1.2), (5, LI v7), (6, LI 0)]) h [2, 3, 4, 5, 6, 1, 0] rfl ?_
    refine k_lp (A := Int32 × Int32) (fun q8 => [(0, LR (some a0)), (1, LI p1), (2, LI p2), (3, LI q8.1), (4, LI q1.2), (5, LI v7), (6, LI q8.2)]) (fun q8 => []) (fun r10 hr10 q8 s9 => ?_) FU (q1.1, 0) s2
    unfold mX9_hasOldGear_b33
    refine k_iload h 6 dX9_hasOldGear_33 rfl ?_
    refine k_aload_n h 0 dX9_hasOldGear_35 rfl rfl ?_
    refine k_getR h fX9_13 (Or.inl (mw6 23 rfl)) dX9_hasOldGear_36 (fun v11 => ?_)
    refine k_iload h 5 dX9_hasOldGear_39 rfl ?_
    refine k_alI h dX9_hasOldGear_41 (fun v12 => ?_)
    refine k_icmp_ge (tgt := 82) h dX9_hasOldGear_42 (by decide) ?_ ?_
    · refine k_iinc (w := (q1.2 + 1)) (lv' := [(4, LI (q1.2 + 1)), (0, LR (some a0)), (1, LI p1), (2, LI p2), (3, LI q8.1), (5, LI v7), (6, LI q8.2)]) h 4 dX9_hasOldGear_82 rfl rfl (by decide) rfl ?_
      refine k_goto (tgt := 5) h dX9_hasOldGear_85 (by decide) ?_
      refine k_sub (lv' := [(0, LR (some a0)), (1, LI p1), (2, LI p2), (3, LI q8.1), (4, LI (q1.2 + 1))]) h [1, 2, 3, 4, 0] rfl ?_
      exact hr3 (q8.1, (q1.2 + 1)) s9
    · refine k_iload_n h 3 dX9_hasOldGear_45 rfl rfl ?_
      refine k_if_ne (tgt := 70) h dX9_hasOldGear_46 (by decide) ?_ ?_
      · refine k_iconst (v := 1) h dX9_hasOldGear_70 (by decide) ?_
        refine k_goto (tgt := 75) h dX9_hasOldGear_71 (by decide) ?_
        refine k_istore_n (lv' := [(3, LI 1), (0, LR (some a0)), (1, LI p1), (2, LI p2), (4, LI q1.2), (5, LI v7), (6, LI q8.2)]) h dX9_hasOldGear_75 rfl (by decide) rfl ?_
        refine k_iinc (w := (q8.2 + 1)) (lv' := [(6, LI (q8.2 + 1)), (3, LI 1), (0, LR (some a0)), (1, LI p1), (2, LI p2), (4, LI q1.2), (5, LI v7)]) h 6 dX9_hasOldGear_76 rfl rfl (by decide) rfl ?_
        refine k_goto (tgt := 33) h dX9_hasOldGear_79 (by decide) ?_
        refine k_sub (lv' := [(0, LR (some a0)), (1, LI p1), (2, LI p2), (3, LI 1), (4, LI q1.2), (5, LI v7), (6, LI (q8.2 + 1))]) h [2, 3, 4, 1, 5, 6, 0] rfl ?_
        exact hr10 (1, (q8.2 + 1)) s9
      · refine k_aload_n h 0 dX9_hasOldGear_49 rfl rfl ?_
        refine k_getR h fX9_7 (Or.inl (mw6 18 rfl)) dX9_hasOldGear_50 (fun v13 => ?_)
        refine k_aload_n h 0 dX9_hasOldGear_53 rfl rfl ?_
        refine k_getR h fX9_14 (Or.inl (mw7 0 rfl)) dX9_hasOldGear_54 (fun v14 => ?_)
        refine k_iconst (v := 4) h dX9_hasOldGear_57 (by decide) ?_
        refine k_iload h 5 dX9_hasOldGear_58 rfl ?_
        refine k_imul h dX9_hasOldGear_60 ?_
        refine k_iload h 6 dX9_hasOldGear_61 rfl ?_
        refine k_iadd h dX9_hasOldGear_63 ?_
        refine k_alI h dX9_hasOldGear_64 (fun v15 => ?_)
        refine k_alI h dX9_hasOldGear_65 (fun v16 => ?_)
        refine k_iload_n h 2 dX9_hasOldGear_66 rfl rfl ?_
        refine k_icmp_ge (tgt := 74) h dX9_hasOldGear_67 (by decide) ?_ ?_
        · refine k_iconst (v := 0) h dX9_hasOldGear_74 (by decide) ?_
          refine k_istore_n (lv' := [(3, LI 0), (0, LR (some a0)), (1, LI p1), (2, LI p2), (4, LI q1.2), (5, LI v7), (6, LI q8.2)]) h dX9_hasOldGear_75 rfl (by decide) rfl ?_
          refine k_iinc (w := (q8.2 + 1)) (lv' := [(6, LI (q8.2 + 1)), (3, LI 0), (0, LR (some a0)), (1, LI p1), (2, LI p2), (4, LI q1.2), (5, LI v7)]) h 6 dX9_hasOldGear_76 rfl rfl (by decide) rfl ?_
          refine k_goto (tgt := 33) h dX9_hasOldGear_79 (by decide) ?_
          refine k_sub (lv' := [(0, LR (some a0)), (1, LI p1), (2, LI p2), (3, LI 0), (4, LI q1.2), (5, LI v7), (6, LI (q8.2 + 1))]) h [2, 3, 4, 1, 5, 6, 0] rfl ?_
          exact hr10 (0, (q8.2 + 1)) s9
        · refine k_iconst (v := 1) h dX9_hasOldGear_70 (by decide) ?_
          refine k_goto (tgt := 75) h dX9_hasOldGear_71 (by decide) ?_
          refine k_istore_n (lv' := [(3, LI 1), (0, LR (some a0)), (1, LI p1), (2, LI p2), (4, LI q1.2), (5, LI v7), (6, LI q8.2)]) h dX9_hasOldGear_75 rfl (by decide) rfl ?_
          refine k_iinc (w := (q8.2 + 1)) (lv' := [(6, LI (q8.2 + 1)), (3, LI 1), (0, LR (some a0)), (1, LI p1), (2, LI p2), (4, LI q1.2), (5, LI v7)]) h 6 dX9_hasOldGear_76 rfl rfl (by decide) rfl ?_
          refine k_goto (tgt := 33) h dX9_hasOldGear_79 (by decide) ?_
          refine k_sub (lv' := [(0, LR (some a0)), (1, LI p1), (2, LI p2), (3, LI 1), (4, LI q1.2), (5, LI v7), (6, LI (q8.2 + 1))]) h [2, 3, 4, 1, 5, 6, 0] rfl ?_
          exact hr10 (1, (q8.2 + 1)) s9
def mX9_hasTwice_b16 (a0 : Nat) (p1 : Int32) (q1 : Int32 × Int32) (r3 : (Int32 × Int32) → Sg → Option (Int32 × Sg)) (r6 : (Int32 × Int32) → Sg → Option (Int32 × Sg)) (q4 : Int32 × Int32) (s5 : Sg) : Option (Int32 × Sg) :=
gdR s5 9 22 (some a0) fun v7 =>
alI s5 v7 p1 fun v8 =>
if v8 ≤ q4.2 then (
if ¬ q1.1 = 0 then (
r3 (1, (q1.2 + 1)) s5)
else (
if q4.1 ≤ 1 then (
r3 (0, (q1.2 + 1)) s5)
else (
r3 (1, (q1.2 + 1)) s5)))
else (
gdR s5 9 23 (some a0) fun v9 =>
alI s5 v9 ((6 * p1) + q4.2) fun v10 =>
cv s5 9 (some a0) fun a13 => cl (mX9_hasJumper a13 v10 q1.2 s5) fun v11 s12 =>
if v11 = 0 then (
r6 ((q4.1 + 0), (q4.2 + 1)) s12)
else (
r6 ((q4.1 + 1), (q4.2 + 1)) s12))
def mX9_hasTwice_b4 (a0 : Nat) (p1 : Int32) (r3 : (Int32 × Int32) → Sg → Option (Int32 × Sg)) (q1 : Int32 × Int32) (s2 : Sg) : Option (Int32 × Sg) :=
if 32 ≤ q1.2 then (
ckB q1.1 (some (q1.1, s2)))
else (
lp (mX9_hasTwice_b16 a0 p1 q1 r3) FU (0, 0) s2)
def mX9_hasTwice (a0 : Nat) (p1 : Int32) (s0 : Sg) : Option (Int32 × Sg) :=
lp (mX9_hasTwice_b4 a0 p1) FU (0, 0) s0
def rmX9_hasTwice : Room := { frames := 1, cells := 0, slots := 0, locals := 24 }
theorem calX9_hasTwice : Cal yX9_hasTwice cX9_hasTwice 6 (some .boolean) 1 := ⟨(mw36 10 rfl), (mw1 5 rfl), by decide, by decide, by decide +kernel⟩
set_option maxHeartbeats 4000000 in
set_option maxRecDepth 100000 in
theorem ctX9_hasTwice (l : Launch) (B : Nat) (D : va_G) (cA : Nat → ClassId) (sa : Nat → Nat) (a0 : Nat) (p1 : Int32) (s0 : Sg) : Ct l B D cA sa yX9_hasTwice cX9_hasTwice 6 (some .boolean) rmX9_hasTwice rI [LR (some a0), LI p1] s0 0 0 (mX9_hasTwice a0 p1 s0) := by
  refine Ct.of (own := RX9) (by decide) rfl _ (Nat.le_of_ble_eq_true rfl) rfl ?_
  intro p e s m args below meth c h hi
  unfold mX9_hasTwice
  refine k_iconst (v := 0) h dX9_hasTwice_0 (by decide) ?_
  refine k_istore_n (lv' := [(2, LI 0), (0, LR (some a0)), (1, LI p1)]) h dX9_hasTwice_1 rfl (by decide) rfl ?_
  refine k_iconst (v := 0) h dX9_hasTwice_2 (by decide) ?_
  refine k_istore_n (lv' := [(3, LI 0), (2, LI 0), (0, LR (some a0)), (1, LI p1)]) h dX9_hasTwice_3 rfl (by decide) rfl ?_
  refine k_sub (lv' := [(0, LR (some a0)), (1, LI p1), (2, LI 0), (3, LI 0)]) h [2, 3, 1, 0] rfl ?_
  refine k_lp (A := Int32 × Int32) (fun q1 => [(0, LR (some a0)), (1, LI p1), (2, LI q1.1), (3, LI q1.2)]) (fun q1 => []) (fun r3 hr3 q1 s2 => ?_) FU (0, 0) s0
  unfold mX9_hasTwice_b4
  refine k_iload_n h 3 dX9_hasTwice_4 rfl rfl ?_
  refine k_bipush (v := 32) h dX9_hasTwice_5 (by decide) ?_
  refine k_icmp_ge (tgt := 85) h dX9_hasTwice_7 (by decide) ?_ ?_
  · refine k_iload_n h 2 dX9_hasTwice_85 rfl rfl ?_
    exact k_zret h rfl dX9_hasTwice_86 (Nat.le_of_ble_eq_true rfl) (Nat.le_of_ble_eq_true rfl)
  · refine k_iconst (v := 0) h dX9_hasTwice_10 (by decide) ?_
    refine k_istore (lv' := [(4, LI 0), (0, LR (some a0)), (1, LI p1), (2, LI q1.1), (3, LI q1.2)]) h dX9_hasTwice_11 (by decide) rfl ?_
    refine k_iconst (v := 0) h dX9_hasTwice_13 (by decide) ?_
    refine k_istore (lv' := [(5, LI 0), (4, LI 0), (0, LR (some a0)), (1, LI p1), (2, LI q1.1), (3, LI q1.2)]) h dX9_hasTwice_14 (by decide) rfl ?_
    refine k_sub (lv' := [(0, LR (some a0)), (1, LI p1), (2, LI q1.1), (3, LI q1.2), (4, LI 0), (5, LI 0)]) h [2, 3, 4, 5, 1, 0] rfl ?_
    refine k_lp (A := Int32 × Int32) (fun q4 => [(0, LR (some a0)), (1, LI p1), (2, LI q1.1), (3, LI q1.2), (4, LI q4.1), (5, LI q4.2)]) (fun q4 => []) (fun r6 hr6 q4 s5 => ?_) FU (0, 0) s2
    unfold mX9_hasTwice_b16
    refine k_iload h 5 dX9_hasTwice_16 rfl ?_
    refine k_aload_n h 0 dX9_hasTwice_18 rfl rfl ?_
    refine k_getR h fX9_22 (Or.inl (mw7 7 rfl)) dX9_hasTwice_19 (fun v7 => ?_)
    refine k_iload_n h 1 dX9_hasTwice_22 rfl rfl ?_
    refine k_alI h dX9_hasTwice_23 (fun v8 => ?_)
    refine k_icmp_ge (tgt := 63) h dX9_hasTwice_24 (by decide) ?_ ?_
    · refine k_iload_n h 2 dX9_hasTwice_63 rfl rfl ?_
      refine k_if_ne (tgt := 73) h dX9_hasTwice_64 (by decide) ?_ ?_
      · refine k_iconst (v := 1) h dX9_hasTwice_73 (by decide) ?_
        refine k_goto (tgt := 78) h dX9_hasTwice_74 (by decide) ?_
        refine k_istore_n (lv' := [(2, LI 1), (0, LR (some a0)), (1, LI p1), (3, LI q1.2), (4, LI q4.1), (5, LI q4.2)]) h dX9_hasTwice_78 rfl (by decide) rfl ?_
        refine k_iinc (w := (q1.2 + 1)) (lv' := [(3, LI (q1.2 + 1)), (2, LI 1), (0, LR (some a0)), (1, LI p1), (4, LI q4.1), (5, LI q4.2)]) h 3 dX9_hasTwice_79 rfl rfl (by decide) rfl ?_
        refine k_goto (tgt := 4) h dX9_hasTwice_82 (by decide) ?_
        refine k_sub (lv' := [(0, LR (some a0)), (1, LI p1), (2, LI 1), (3, LI (q1.2 + 1))]) h [2, 3, 1, 0] rfl ?_
        exact hr3 (1, (q1.2 + 1)) s5
      · refine k_iload h 4 dX9_hasTwice_67 rfl ?_
        refine k_iconst (v := 1) h dX9_hasTwice_69 (by decide) ?_
        refine k_icmp_le (tgt := 77) h dX9_hasTwice_70 (by decide) ?_ ?_
        · refine k_iconst (v := 0) h dX9_hasTwice_77 (by decide) ?_
          refine k_istore_n (lv' := [(2, LI 0), (0, LR (some a0)), (1, LI p1), (3, LI q1.2), (4, LI q4.1), (5, LI q4.2)]) h dX9_hasTwice_78 rfl (by decide) rfl ?_
          refine k_iinc (w := (q1.2 + 1)) (lv' := [(3, LI (q1.2 + 1)), (2, LI 0), (0, LR (some a0)), (1, LI p1), (4, LI q4.1), (5, LI q4.2)]) h 3 dX9_hasTwice_79 rfl rfl (by decide) rfl ?_
          refine k_goto (tgt := 4) h dX9_hasTwice_82 (by decide) ?_
          refine k_sub (lv' := [(0, LR (some a0)), (1, LI p1), (2, LI 0), (3, LI (q1.2 + 1))]) h [2, 3, 1, 0] rfl ?_
          exact hr3 (0, (q1.2 + 1)) s5
        · refine k_iconst (v := 1) h dX9_hasTwice_73 (by decide) ?_
          refine k_goto (tgt := 78) h dX9_hasTwice_74 (by decide) ?_
          refine k_istore_n (lv' := [(2, LI 1), (0, LR (some a0)), (1, LI p1), (3, LI q1.2), (4, LI q4.1), (5, LI q4.2)]) h dX9_hasTwice_78 rfl (by decide) rfl ?_
          refine k_iinc (w := (q1.2 + 1)) (lv' := [(3, LI (q1.2 + 1)), (2, LI 1), (0, LR (some a0)), (1, LI p1), (4, LI q4.1), (5, LI q4.2)]) h 3 dX9_hasTwice_79 rfl rfl (by decide) rfl ?_
          refine k_goto (tgt := 4) h dX9_hasTwice_82 (by decide) ?_
          refine k_sub (lv' := [(0, LR (some a0)), (1, LI p1), (2, LI 1), (3, LI (q1.2 + 1))]) h [2, 3, 1, 0] rfl ?_
          exact hr3 (1, (q1.2 + 1)) s5
    · refine k_iload h 4 dX9_hasTwice_27 rfl ?_
      refine k_aload_n h 0 dX9_hasTwice_29 rfl rfl ?_
      refine k_aload_n h 0 dX9_hasTwice_30 rfl rfl ?_
      refine k_getR h fX9_23 (Or.inl (mw7 8 rfl)) dX9_hasTwice_31 (fun v9 => ?_)
      refine k_bipush (v := 6) h dX9_hasTwice_34 (by decide) ?_
      refine k_iload_n h 1 dX9_hasTwice_36 rfl rfl ?_
      refine k_imul h dX9_hasTwice_37 ?_
      refine k_iload h 5 dX9_hasTwice_38 rfl ?_
      refine k_iadd h dX9_hasTwice_40 ?_
      refine k_alI h dX9_hasTwice_41 (fun v10 => ?_)
      refine k_iload_n h 3 dX9_hasTwice_42 rfl rfl ?_
      refine k_callVI (As := [LI v10, LI q1.2]) (st := [LI q4.1]) (x0 := (some a0)) (xg := fun a13 => mX9_hasJumper a13 v10 q1.2 s5) h (fun a13 => ctX9_hasJumper l B D cA sa a13 v10 q1.2 s5) calX9_hasJumper rfl (by decide) (mw17 6 rfl) (mw17 7 rfl) (Or.inl (mw17 5 rfl)) hgood ⟨rfl, rfl, Nat.le_of_ble_eq_true rfl, Nat.le_of_ble_eq_true rfl⟩ ⟨Nat.le_of_ble_eq_true rfl, Nat.le_of_ble_eq_true rfl⟩ rfl (Nat.le_of_ble_eq_true rfl) dX9_hasTwice_43 (fun v11 s12 => ?_)
      refine k_if_eq (tgt := 53) h dX9_hasTwice_46 (by decide) ?_ ?_
      · refine k_iconst (v := 0) h dX9_hasTwice_53 (by decide) ?_
        refine k_iadd h dX9_hasTwice_54 ?_
        refine k_istore (lv' := [(4, LI (q4.1 + 0)), (0, LR (some a0)), (1, LI p1), (2, LI q1.1), (3, LI q1.2), (5, LI q4.2)]) h dX9_hasTwice_55 (by decide) rfl ?_
        refine k_iinc (w := (q4.2 + 1)) (lv' := [(5, LI (q4.2 + 1)), (4, LI (q4.1 + 0)), (0, LR (some a0)), (1, LI p1), (2, LI q1.1), (3, LI q1.2)]) h 5 dX9_hasTwice_57 rfl rfl (by decide) rfl ?_
        refine k_goto (tgt := 16) h dX9_hasTwice_60 (by decide) ?_
        refine k_sub (lv' := [(0, LR (some a0)), (1, LI p1), (2, LI q1.1), (3, LI q1.2), (4, LI (q4.1 + 0)), (5, LI (q4.2 + 1))]) h [2, 3, 4, 5, 1, 0] rfl ?_
        exact hr6 ((q4.1 + 0), (q4.2 + 1)) s12
      · refine k_iconst (v := 1) h dX9_hasTwice_49 (by decide) ?_
        refine k_goto (tgt := 54) h dX9_hasTwice_50 (by decide) ?_
        refine k_iadd h dX9_hasTwice_54 ?_
        refine k_istore (lv' := [(4, LI (q4.1 + 1)), (0, LR (some a0)), (1, LI p1), (2, LI q1.1), (3, LI q1.2), (5, LI q4.2)]) h dX9_hasTwice_55 (by decide) rfl ?_
        refine k_iinc (w := (q4.2 + 1)) (lv' := [(5, LI (q4.2 + 1)), (4, LI (q4.1 + 1)), (0, LR (some a0)), (1, LI p1), (2, LI q1.1), (3, LI q1.2)]) h 5 dX9_hasTwice_57 rfl rfl (by decide) rfl ?_
        refine k_goto (tgt := 16) h dX9_hasTwice_60 (by decide) ?_
        refine k_sub (lv' := [(0, LR (some a0)), (1, LI p1), (2, LI q1.1), (3, LI q1.2), (4, LI (q4.1 + 1)), (5, LI (q4.2 + 1))]) h [2, 3, 4, 5, 1, 0] rfl ?_
        exact hr6 ((q4.1 + 1), (q4.2 + 1)) s12
def mX9_sortsIn_b5 (a0 : Nat) (p1 : Int32) (p2 : Int32) (r3 : (Int32 × Int32) → Sg → Option (Int32 × Sg)) (q1 : Int32 × Int32) (s2 : Sg) : Option (Int32 × Sg) :=
gdR s2 9 13 (some a0) fun v4 =>
alI s2 v4 p1 fun v5 =>
if v5 ≤ q1.2 then (
some (q1.1, s2))
else (
gdR s2 9 5 (some a0) fun v6 =>
gdR s2 9 14 (some a0) fun v7 =>
alI s2 v7 ((4 * p1) + q1.2) fun v8 =>
alI s2 v6 v8 fun v9 =>
if ¬ v9 = p2 then (
r3 ((q1.1 + 0), (q1.2 + 1)) s2)
else (
r3 ((q1.1 + 1), (q1.2 + 1)) s2))
def mX9_sortsIn (a0 : Nat) (p1 : Int32) (p2 : Int32) (s0 : Sg) : Option (Int32 × Sg) :=
lp (mX9_sortsIn_b5 a0 p1 p2) FU (0, 0) s0
def rmX9_sortsIn : Room := { frames := 0, cells := 0, slots := 0, locals := 0 }
theorem calX9_sortsIn : Cal yX9_sortsIn cX9_sortsIn 5 (some .int) 2 := ⟨(mw36 18 rfl), (mw1 5 rfl), by decide, by decide, by decide +kernel⟩
set_option maxHeartbeats 4000000 in
set_option maxRecDepth 100000 in
theorem ctX9_sortsIn (l : Launch) (B : Nat) (D : va_G) (cA : Nat → ClassId) (sa : Nat → Nat) (a0 : Nat) (p1 : Int32) (p2 : Int32) (s0 : Sg) : Ct l B D cA sa yX9_sortsIn cX9_sortsIn 5 (some .int) rmX9_sortsIn rI [LR (some a0), LI p1, LI p2] s0 0 0 (mX9_sortsIn a0 p1 p2 s0) := by
  refine Ct.of (own := RX9) (by decide) rfl _ (Nat.le_of_ble_eq_true rfl) rfl ?_
  intro p e s m args below meth c h hi
  unfold mX9_sortsIn
  refine k_iconst (v := 0) h dX9_sortsIn_0 (by decide) ?_
  refine k_istore_n (lv' := [(3, LI 0), (0, LR (some a0)), (1, LI p1), (2, LI p2)]) h dX9_sortsIn_1 rfl (by decide) rfl ?_
  refine k_iconst (v := 0) h dX9_sortsIn_2 (by decide) ?_
  refine k_istore (lv' := [(4, LI 0), (3, LI 0), (0, LR (some a0)), (1, LI p1), (2, LI p2)]) h dX9_sortsIn_3 (by decide) rfl ?_
  refine k_sub (lv' := [(0, LR (some a0)), (1, LI p1), (2, LI p2), (3, LI 0), (4, LI 0)]) h [2, 3, 4, 1, 0] rfl ?_
  refine k_lp (A := Int32 × Int32) (fun q1 => [(0, LR (some a0)), (1, LI p1), (2, LI p2), (3, LI q1.1), (4, LI q1.2)]) (fun q1 => []) (fun r3 hr3 q1 s2 => ?_) FU (0, 0) s0
  unfold mX9_sortsIn_b5
  refine k_iload h 4 dX9_sortsIn_5 rfl ?_
  refine k_aload_n h 0 dX9_sortsIn_7 rfl rfl ?_
  refine k_getR h fX9_13 (Or.inl (mw6 23 rfl)) dX9_sortsIn_8 (fun v4 => ?_)
  refine k_iload_n h 1 dX9_sortsIn_11 rfl rfl ?_
  refine k_alI h dX9_sortsIn_12 (fun v5 => ?_)
  refine k_icmp_ge (tgt := 50) h dX9_sortsIn_13 (by decide) ?_ ?_
  · refine k_iload_n h 3 dX9_sortsIn_50 rfl rfl ?_
    exact k_iret h rfl dX9_sortsIn_51 (Nat.le_of_ble_eq_true rfl) (Nat.le_of_ble_eq_true rfl)
  · refine k_iload_n h 3 dX9_sortsIn_16 rfl rfl ?_
    refine k_aload_n h 0 dX9_sortsIn_17 rfl rfl ?_
    refine k_getR h fX9_5 (Or.inl (mw6 16 rfl)) dX9_sortsIn_18 (fun v6 => ?_)
    refine k_aload_n h 0 dX9_sortsIn_21 rfl rfl ?_
    refine k_getR h fX9_14 (Or.inl (mw7 0 rfl)) dX9_sortsIn_22 (fun v7 => ?_)
    refine k_iconst (v := 4) h dX9_sortsIn_25 (by decide) ?_
    refine k_iload_n h 1 dX9_sortsIn_26 rfl rfl ?_
    refine k_imul h dX9_sortsIn_27 ?_
    refine k_iload h 4 dX9_sortsIn_28 rfl ?_
    refine k_iadd h dX9_sortsIn_30 ?_
    refine k_alI h dX9_sortsIn_31 (fun v8 => ?_)
    refine k_alI h dX9_sortsIn_32 (fun v9 => ?_)
    refine k_iload_n h 2 dX9_sortsIn_33 rfl rfl ?_
    refine k_icmp_ne (tgt := 41) h dX9_sortsIn_34 (by decide) ?_ ?_
    · refine k_iconst (v := 0) h dX9_sortsIn_41 (by decide) ?_
      refine k_iadd h dX9_sortsIn_42 ?_
      refine k_istore_n (lv' := [(3, LI (q1.1 + 0)), (0, LR (some a0)), (1, LI p1), (2, LI p2), (4, LI q1.2)]) h dX9_sortsIn_43 rfl (by decide) rfl ?_
      refine k_iinc (w := (q1.2 + 1)) (lv' := [(4, LI (q1.2 + 1)), (3, LI (q1.1 + 0)), (0, LR (some a0)), (1, LI p1), (2, LI p2)]) h 4 dX9_sortsIn_44 rfl rfl (by decide) rfl ?_
      refine k_goto (tgt := 5) h dX9_sortsIn_47 (by decide) ?_
      refine k_sub (lv' := [(0, LR (some a0)), (1, LI p1), (2, LI p2), (3, LI (q1.1 + 0)), (4, LI (q1.2 + 1))]) h [2, 3, 4, 1, 0] rfl ?_
      exact hr3 ((q1.1 + 0), (q1.2 + 1)) s2
    · refine k_iconst (v := 1) h dX9_sortsIn_37 (by decide) ?_
      refine k_goto (tgt := 42) h dX9_sortsIn_38 (by decide) ?_
      refine k_iadd h dX9_sortsIn_42 ?_
      refine k_istore_n (lv' := [(3, LI (q1.1 + 1)), (0, LR (some a0)), (1, LI p1), (2, LI p2), (4, LI q1.2)]) h dX9_sortsIn_43 rfl (by decide) rfl ?_
      refine k_iinc (w := (q1.2 + 1)) (lv' := [(4, LI (q1.2 + 1)), (3, LI (q1.1 + 1)), (0, LR (some a0)), (1, LI p1), (2, LI p2)]) h 4 dX9_sortsIn_44 rfl rfl (by decide) rfl ?_
      refine k_goto (tgt := 5) h dX9_sortsIn_47 (by decide) ?_
      refine k_sub (lv' := [(0, LR (some a0)), (1, LI p1), (2, LI p2), (3, LI (q1.1 + 1)), (4, LI (q1.2 + 1))]) h [2, 3, 4, 1, 0] rfl ?_
      exact hr3 ((q1.1 + 1), (q1.2 + 1)) s2
def mX9_hasAlone_b4 (a0 : Nat) (p1 : Int32) (r3 : (Int32 × Int32) → Sg → Option (Int32 × Sg)) (q1 : Int32 × Int32) (s2 : Sg) : Option (Int32 × Sg) :=
gdR s2 9 22 (some a0) fun v4 =>
alI s2 v4 p1 fun v5 =>
if v5 ≤ q1.2 then (
ckB q1.1 (some (q1.1, s2)))
else (
gdR s2 9 23 (some a0) fun v6 =>
alI s2 v6 ((6 * p1) + q1.2) fun v7 =>
cv s2 9 (some a0) fun a15 => cl (mX9_sortsIn a15 v7 1 s2) fun v8 s9 =>
if ¬ q1.1 = 0 then (
r3 (1, (q1.2 + 1)) s9)
else (
cv s9 9 (some a0) fun a14 => cl (mX9_sortsIn a14 v7 2 s9) fun v10 s11 =>
if v10 < v8 then (
r3 (1, (q1.2 + 1)) s11)
else (
if v8 ≤ 0 then (
r3 (0, (q1.2 + 1)) s11)
else (
gdR s11 9 9 (some a0) fun v12 =>
alI s11 v12 v7 fun v13 =>
if v13 = 3 then (
r3 (0, (q1.2 + 1)) s11)
else (
r3 (1, (q1.2 + 1)) s11)))))
def mX9_hasAlone (a0 : Nat) (p1 : Int32) (s0 : Sg) : Option (Int32 × Sg) :=
lp (mX9_hasAlone_b4 a0 p1) FU (0, 0) s0
def rmX9_hasAlone : Room := { frames := 1, cells := 0, slots := 0, locals := 24 }
theorem calX9_hasAlone : Cal yX9_hasAlone cX9_hasAlone 6 (some .boolean) 1 := ⟨(mw36 14 rfl), (mw1 5 rfl), by decide, by decide, by decide +kernel⟩
set_option maxHeartbeats 4000000 in
set_option maxRecDepth 100000 in
theorem ctX9_hasAlone (l : Launch) (B : Nat) (D : va_G) (cA : Nat → ClassId) (sa : Nat → Nat) (a0 : Nat) (p1 : Int32) (s0 : Sg) : Ct l B D cA sa yX9_hasAlone cX9_hasAlone 6 (some .boolean) rmX9_hasAlone rI [LR (some a0), LI p1] s0 0 0 (mX9_hasAlone a0 p1 s0) := by
  refine Ct.of (own := RX9) (by decide) rfl _ (Nat.le_of_ble_eq_true rfl) rfl ?_
  intro p e s m args below meth c h hi
  unfold mX9_hasAlone
  refine k_iconst (v := 0) h dX9_hasAlone_0 (by decide) ?_
  refine k_istore_n (lv' := [(2, LI 0), (0, LR (some a0)), (1, LI p1)]) h dX9_hasAlone_1 rfl (by decide) rfl ?_
  refine k_iconst (v := 0) h dX9_hasAlone_2 (by decide) ?_
  refine k_istore_n (lv' := [(3, LI 0), (2, LI 0), (0, LR (some a0)), (1, LI p1)]) h dX9_hasAlone_3 rfl (by decide) rfl ?_
  refine k_sub (lv' := [(0, LR (some a0)), (1, LI p1), (2, LI 0), (3, LI 0)]) h [2, 3, 1, 0] rfl ?_
  refine k_lp (A := Int32 × Int32) (fun q1 => [(0, LR (some a0)), (1, LI p1), (2, LI q1.1), (3, LI q1.2)]) (fun q1 => []) (fun r3 hr3 q1 s2 => ?_) FU (0, 0) s0
  unfold mX9_hasAlone_b4
  refine k_iload_n h 3 dX9_hasAlone_4 rfl rfl ?_
  refine k_aload_n h 0 dX9_hasAlone_5 rfl rfl ?_
  refine k_getR h fX9_22 (Or.inl (mw7 7 rfl)) dX9_hasAlone_6 (fun v4 => ?_)
  refine k_iload_n h 1 dX9_hasAlone_9 rfl rfl ?_
  refine k_alI h dX9_hasAlone_10 (fun v5 => ?_)
  refine k_icmp_ge (tgt := 80) h dX9_hasAlone_11 (by decide) ?_ ?_
  · refine k_iload_n h 2 dX9_hasAlone_80 rfl rfl ?_
    exact k_zret h rfl dX9_hasAlone_81 (Nat.le_of_ble_eq_true rfl) (Nat.le_of_ble_eq_true rfl)
  · refine k_aload_n h 0 dX9_hasAlone_14 rfl rfl ?_
    refine k_getR h fX9_23 (Or.inl (mw7 8 rfl)) dX9_hasAlone_15 (fun v6 => ?_)
    refine k_bipush (v := 6) h dX9_hasAlone_18 (by decide) ?_
    refine k_iload_n h 1 dX9_hasAlone_20 rfl rfl ?_
    refine k_imul h dX9_hasAlone_21 ?_
    refine k_iload_n h 3 dX9_hasAlone_22 rfl rfl ?_
    refine k_iadd h dX9_hasAlone_23 ?_
    refine k_alI h dX9_hasAlone_24 (fun v7 => ?_)
    refine k_istore (lv' := [(4, LI v7), (0, LR (some a0)), (1, LI p1), (2, LI q1.1), (3, LI q1.2)]) h dX9_hasAlone_25 (by decide) rfl ?_
    refine k_aload_n h 1 dX9_hasAlone_27 rfl rfl ?_
    refine k_iload h 0 dX9_hasAlone_28 rfl ?_
    refine k_iconst (v := 1) h dX9_hasAlone_30 (by decide) ?_
    refine k_callVI (As := [LI v7, LI 1]) (st := []) (x0 := (some a0)) (xg := fun a15 => mX9_sortsIn a15 v7 1 s2) h (fun a15 => ctX9_sortsIn l B D cA sa a15 v7 1 s2) calX9_sortsIn rfl (by decide) (mw36 16 rfl) (mw36 17 rfl) (Or.inl (mw36 15 rfl)) hgood ⟨rfl, rfl, Nat.le_of_ble_eq_true rfl, Nat.le_of_ble_eq_true rfl⟩ ⟨Nat.le_of_ble_eq_true rfl, Nat.le_of_ble_eq_true rfl⟩ rfl (Nat.le_of_ble_eq_true rfl) dX9_hasAlone_31 (fun v8 s9 => ?_)
    refine k_istore (lv' := [(5, LI v8), (4, LI v7), (0, LR (some a0)), (1, LI p1), (2, LI q1.1), (3, LI q1.2)]) h dX9_hasAlone_34 (by decide) rfl ?_
    refine k_iload_n h 4 dX9_hasAlone_36 rfl rfl ?_
    refine k_if_ne (tgt := 68) h dX9_hasAlone_37 (by decide) ?_ ?_
    · refine k_iconst (v := 1) h dX9_hasAlone_68 (by decide) ?_
      refine k_goto (tgt := 73) h dX9_hasAlone_69 (by decide) ?_
      refine k_istore_n (lv' := [(2, LI 1), (5, LI v8), (4, LI v7), (0, LR (some a0)), (1, LI p1), (3, LI q1.2)]) h dX9_hasAlone_73 rfl (by decide) rfl ?_
      refine k_iinc (w := (q1.2 + 1)) (lv' := [(3, LI (q1.2 + 1)), (2, LI 1), (5, LI v8), (4, LI v7), (0, LR (some a0)), (1, LI p1)]) h 5 dX9_hasAlone_74 rfl rfl (by decide) rfl ?_
      refine k_goto (tgt := 4) h dX9_hasAlone_77 (by decide) ?_
      refine k_sub (lv' := [(0, LR (some a0)), (1, LI p1), (2, LI 1), (3, LI (q1.2 + 1))]) h [4, 5, 1, 0] rfl ?_
      exact hr3 (1, (q1.2 + 1)) s9
    · refine k_iload h 0 dX9_hasAlone_40 rfl ?_
      refine k_aload_n h 2 dX9_hasAlone_42 rfl rfl ?_
      refine k_iload h 1 dX9_hasAlone_43 rfl ?_
      refine k_iconst (v := 2) h dX9_hasAlone_45 (by decide) ?_
      refine k_callVI (As := [LI v7, LI 2]) (st := [LI v8]) (x0 := (some a0)) (xg := fun a14 => mX9_sortsIn a14 v7 2 s9) h (fun a14 => ctX9_sortsIn l B D cA sa a14 v7 2 s9) calX9_sortsIn rfl (by decide) (mw36 16 rfl) (mw36 17 rfl) (Or.inl (mw36 15 rfl)) hgood ⟨rfl, rfl, Nat.le_of_ble_eq_true rfl, Nat.le_of_ble_eq_true rfl⟩ ⟨Nat.le_of_ble_eq_true rfl, Nat.le_of_ble_eq_true rfl⟩ rfl (Nat.le_of_ble_eq_true rfl) dX9_hasAlone_46 (fun v10 s11 => ?_)
      refine k_icmp_gt (tgt := 68) h dX9_hasAlone_49 (by decide) ?_ ?_
      · refine k_iconst (v := 1) h dX9_hasAlone_68 (by decide) ?_
        refine k_goto (tgt := 73) h dX9_hasAlone_69 (by decide) ?_
        refine k_istore_n (lv' := [(2, LI 1), (5, LI v8), (4, LI v7), (0, LR (some a0)), (1, LI p1), (3, LI q1.2)]) h dX9_hasAlone_73 rfl (by decide) rfl ?_
        refine k_iinc (w := (q1.2 + 1)) (lv' := [(3, LI (q1.2 + 1)), (2, LI 1), (5, LI v8), (4, LI v7), (0, LR (some a0)), (1, LI p1)]) h 5 dX9_hasAlone_74 rfl rfl (by decide) rfl ?_
        refine k_goto (tgt := 4) h dX9_hasAlone_77 (by decide) ?_
        refine k_sub (lv' := [(0, LR (some a0)), (1, LI p1), (2, LI 1), (3, LI (q1.2 + 1))]) h [4, 5, 1, 0] rfl ?_
        exact hr3 (1, (q1.2 + 1)) s11
      · refine k_iload h 0 dX9_hasAlone_52 rfl ?_
        refine k_if_le (tgt := 72) h dX9_hasAlone_54 (by decide) ?_ ?_
        · refine k_iconst (v := 0) h dX9_hasAlone_72 (by decide) ?_
          refine k_istore_n (lv' := [(2, LI 0), (5, LI v8), (4, LI v7), (0, LR (some a0)), (1, LI p1), (3, LI q1.2)]) h dX9_hasAlone_73 rfl (by decide) rfl ?_
          refine k_iinc (w := (q1.2 + 1)) (lv' := [(3, LI (q1.2 + 1)), (2, LI 0), (5, LI v8), (4, LI v7), (0, LR (some a0)), (1, LI p1)]) h 5 dX9_hasAlone_74 rfl rfl (by decide) rfl ?_
          refine k_goto (tgt := 4) h dX9_hasAlone_77 (by decide) ?_
          refine k_sub (lv' := [(0, LR (some a0)), (1, LI p1), (2, LI 0), (3, LI (q1.2 + 1))]) h [4, 5, 1, 0] rfl ?_
          exact hr3 (0, (q1.2 + 1)) s11
        · refine k_aload_n h 2 dX9_hasAlone_57 rfl rfl ?_
          refine k_getR h fX9_9 (Or.inl (mw6 19 rfl)) dX9_hasAlone_58 (fun v12 => ?_)
          refine k_iload h 1 dX9_hasAlone_61 rfl ?_
          refine k_alI h dX9_hasAlone_63 (fun v13 => ?_)
          refine k_iconst (v := 3) h dX9_hasAlone_64 (by decide) ?_
          refine k_icmp_eq (tgt := 72) h dX9_hasAlone_65 (by decide) ?_ ?_
          · refine k_iconst (v := 0) h dX9_hasAlone_72 (by decide) ?_
            refine k_istore_n (lv' := [(2, LI 0), (5, LI v8), (4, LI v7), (0, LR (some a0)), (1, LI p1), (3, LI q1.2)]) h dX9_hasAlone_73 rfl (by decide) rfl ?_
            refine k_iinc (w := (q1.2 + 1)) (lv' := [(3, LI (q1.2 + 1)), (2, LI 0), (5, LI v8), (4, LI v7), (0, LR (some a0)), (1, LI p1)]) h 5 dX9_hasAlone_74 rfl rfl (by decide) rfl ?_
            refine k_goto (tgt := 4) h dX9_hasAlone_77 (by decide) ?_
            refine k_sub (lv' := [(0, LR (some a0)), (1, LI p1), (2, LI 0), (3, LI (q1.2 + 1))]) h [4, 5, 1, 0] rfl ?_
            exact hr3 (0, (q1.2 + 1)) s11
          · refine k_iconst (v := 1) h dX9_hasAlone_68 (by decide) ?_
            refine k_goto (tgt := 73) h dX9_hasAlone_69 (by decide) ?_
            refine k_istore_n (lv' := [(2, LI 1), (5, LI v8), (4, LI v7), (0, LR (some a0)), (1, LI p1), (3, LI q1.2)]) h dX9_hasAlone_73 rfl (by decide) rfl ?_
            refine k_iinc (w := (q1.2 + 1)) (lv' := [(3, LI (q1.2 + 1)), (2, LI 1), (5, LI v8), (4, LI v7), (0, LR (some a0)), (1, LI p1)]) h 5 dX9_hasAlone_74 rfl rfl (by decide) rfl ?_
            refine k_goto (tgt := 4) h dX9_hasAlone_77 (by decide) ?_
            refine k_sub (lv' := [(0, LR (some a0)), (1, LI p1), (2, LI 1), (3, LI (q1.2 + 1))]) h [4, 5, 1, 0] rfl ?_
            exact hr3 (1, (q1.2 + 1)) s11
def mX9_blowsTooMuch_b33 (a0 : Nat) (p1 : Int32) (v2 : Int32) (v4 : Int32) (v6 : Int32) (v8 : Int32) (r11 : (Int32 × Int32) → Sg → Option (Int32 × Sg)) (q9 : Int32 × Int32) (s10 : Sg) : Option (Int32 × Sg) :=
gdR s10 9 22 (some a0) fun v12 =>
alI s10 v12 p1 fun v13 =>
if v13 ≤ q9.2 then (
ckB q9.1 (some (q9.1, s10)))
else (
if ¬ q9.1 = 0 then (
r11 (1, (q9.2 + 1)) s10)
else (
gdR s10 9 19 (some a0) fun v14 =>
gdR s10 9 9 (some a0) fun v15 =>
gdR s10 9 23 (some a0) fun v16 =>
alI s10 v16 ((6 * p1) + q9.2) fun v17 =>
alI s10 v15 v17 fun v18 =>
alI s10 v14 (2 + v18) fun v19 =>
if ((v2 * v4) + (v6 * v8)) ≤ v19 then (
r11 (0, (q9.2 + 1)) s10)
else (
r11 (1, (q9.2 + 1)) s10)))
def mX9_blowsTooMuch (a0 : Nat) (p1 : Int32) (s0 : Sg) : Option (Int32 × Sg) :=
gdR s0 9 3 (some a0) fun v1 =>
alI s0 v1 0 fun v2 =>
gdR s0 9 3 (some a0) fun v3 =>
alI s0 v3 0 fun v4 =>
gdR s0 9 4 (some a0) fun v5 =>
alI s0 v5 0 fun v6 =>
gdR s0 9 4 (some a0) fun v7 =>
alI s0 v7 0 fun v8 =>
lp (mX9_blowsTooMuch_b33 a0 p1 v2 v4 v6 v8) FU (0, 0) s0
def rmX9_blowsTooMuch : Room := { frames := 0, cells := 0, slots := 0, locals := 0 }
theorem calX9_blowsTooMuch : Cal yX9_blowsTooMuch cX9_blowsTooMuch 5 (some .boolean) 1 := ⟨(mw36 22 rfl), (mw1 5 rfl), by decide, by decide, by decide +kernel⟩
set_option maxHeartbeats 4000000 in
set_option maxRecDepth 100000 in
theorem ctX9_blowsTooMuch (l : Launch) (B : Nat) (D : va_G) (cA : Nat → ClassId) (sa : Nat → Nat) (a0 : Nat) (p1 : Int32) (s0 : Sg) : Ct l B D cA sa yX9_blowsTooMuch cX9_blowsTooMuch 5 (some .boolean) rmX9_blowsTooMuch rI [LR (some a0), LI p1] s0 0 0 (mX9_blowsTooMuch a0 p1 s0) := by
  refine Ct.of (own := RX9) (by decide) rfl _ (Nat.le_of_ble_eq_true rfl) rfl ?_
  intro p e s m args below meth c h hi
  unfold mX9_blowsTooMuch
  refine k_aload_n h 0 dX9_blowsTooMuch_0 rfl rfl ?_
  refine k_getR h fX9_3 (Or.inl (mw6 14 rfl)) dX9_blowsTooMuch_1 (fun v1 => ?_)
  refine k_iconst (v := 0) h dX9_blowsTooMuch_4 (by decide) ?_
  refine k_alI h dX9_blowsTooMuch_5 (fun v2 => ?_)
  refine k_aload_n h 0 dX9_blowsTooMuch_6 rfl rfl ?_
  refine k_getR h fX9_3 (Or.inl (mw6 14 rfl)) dX9_blowsTooMuch_7 (fun v3 => ?_)
  refine k_iconst (v := 0) h dX9_blowsTooMuch_10 (by decide) ?_
  refine k_alI h dX9_blowsTooMuch_11 (fun v4 => ?_)
  refine k_imul h dX9_blowsTooMuch_12 ?_
  refine k_aload_n h 0 dX9_blowsTooMuch_13 rfl rfl ?_
  refine k_getR h fX9_4 (Or.inl (mw6 15 rfl)) dX9_blowsTooMuch_14 (fun v5 => ?_)
  refine k_iconst (v := 0) h dX9_blowsTooMuch_17 (by decide) ?_
  refine k_alI h dX9_blowsTooMuch_18 (fun v6 => ?_)
  refine k_aload_n h 0 dX9_blowsTooMuch_19 rfl rfl ?_
  refine k_getR h fX9_4 (Or.inl (mw6 15 rfl)) dX9_blowsTooMuch_20 (fun v7 => ?_)
  refine k_iconst (v := 0) h dX9_blowsTooMuch_23 (by decide) ?_
  refine k_alI h dX9_blowsTooMuch_24 (fun v8 => ?_)
  refine k_imul h dX9_blowsTooMuch_25 ?_
  refine k_iadd h dX9_blowsTooMuch_26 ?_
  refine k_istore_n (lv' := [(2, LI ((v2 * v4) + (v6 * v8))), (0, LR (some a0)), (1, LI p1)]) h dX9_blowsTooMuch_27 rfl (by decide) rfl ?_
  refine k_iconst (v := 0) h dX9_blowsTooMuch_28 (by decide) ?_
  refine k_istore_n (lv' := [(3, LI 0), (2, LI ((v2 * v4) + (v6 * v8))), (0, LR (some a0)), (1, LI p1)]) h dX9_blowsTooMuch_29 rfl (by decide) rfl ?_
  refine k_iconst (v := 0) h dX9_blowsTooMuch_30 (by decide) ?_
  refine k_istore (lv' := [(4, LI 0), (3, LI 0), (2, LI ((v2 * v4) + (v6 * v8))), (0, LR (some a0)), (1, LI p1)]) h dX9_blowsTooMuch_31 (by decide) rfl ?_
  refine k_sub (lv' := [(0, LR (some a0)), (1, LI p1), (2, LI ((v2 * v4) + (v6 * v8))), (3, LI 0), (4, LI 0)]) h [3, 4, 2, 1, 0] rfl ?_
  refine k_lp (A := Int32 × Int32) (fun q9 => [(0, LR (some a0)), (1, LI p1), (2, LI ((v2 * v4) + (v6 * v8))), (3, LI q9.1), (4, LI q9.2)]) (fun q9 => []) (fun r11 hr11 q9 s10 => ?_) FU (0, 0) s0
  unfold mX9_blowsTooMuch_b33
  refine k_iload h 4 dX9_blowsTooMuch_33 rfl ?_
  refine k_aload_n h 0 dX9_blowsTooMuch_35 rfl rfl ?_
  refine k_getR h fX9_22 (Or.inl (mw7 7 rfl)) dX9_blowsTooMuch_36 (fun v12 => ?_)
  refine k_iload_n h 1 dX9_blowsTooMuch_39 rfl rfl ?_
  refine k_alI h dX9_blowsTooMuch_40 (fun v13 => ?_)
  refine k_icmp_ge (tgt := 88) h dX9_blowsTooMuch_41 (by decide) ?_ ?_
  · refine k_iload_n h 3 dX9_blowsTooMuch_88 rfl rfl ?_
    exact k_zret h rfl dX9_blowsTooMuch_89 (Nat.le_of_ble_eq_true rfl) (Nat.le_of_ble_eq_true rfl)
  · refine k_iload_n h 3 dX9_blowsTooMuch_44 rfl rfl ?_
    refine k_if_ne (tgt := 76) h dX9_blowsTooMuch_45 (by decide) ?_ ?_
    · refine k_iconst (v := 1) h dX9_blowsTooMuch_76 (by decide) ?_
      refine k_goto (tgt := 81) h dX9_blowsTooMuch_77 (by decide) ?_
      refine k_istore_n (lv' := [(3, LI 1), (0, LR (some a0)), (1, LI p1), (2, LI ((v2 * v4) + (v6 * v8))), (4, LI q9.2)]) h dX9_blowsTooMuch_81 rfl (by decide) rfl ?_
      refine k_iinc (w := (q9.2 + 1)) (lv' := [(4, LI (q9.2 + 1)), (3, LI 1), (0, LR (some a0)), (1, LI p1), (2, LI ((v2 * v4) + (v6 * v8)))]) h 4 dX9_blowsTooMuch_82 rfl rfl (by decide) rfl ?_
      refine k_goto (tgt := 33) h dX9_blowsTooMuch_85 (by decide) ?_
      refine k_sub (lv' := [(0, LR (some a0)), (1, LI p1), (2, LI ((v2 * v4) + (v6 * v8))), (3, LI 1), (4, LI (q9.2 + 1))]) h [2, 3, 4, 1, 0] rfl ?_
      exact hr11 (1, (q9.2 + 1)) s10
    · refine k_aload_n h 0 dX9_blowsTooMuch_48 rfl rfl ?_
      refine k_getR h fX9_19 (Or.inl (mw7 5 rfl)) dX9_blowsTooMuch_49 (fun v14 => ?_)
      refine k_iconst (v := 2) h dX9_blowsTooMuch_52 (by decide) ?_
      refine k_aload_n h 0 dX9_blowsTooMuch_53 rfl rfl ?_
      refine k_getR h fX9_9 (Or.inl (mw6 19 rfl)) dX9_blowsTooMuch_54 (fun v15 => ?_)
      refine k_aload_n h 0 dX9_blowsTooMuch_57 rfl rfl ?_
      refine k_getR h fX9_23 (Or.inl (mw7 8 rfl)) dX9_blowsTooMuch_58 (fun v16 => ?_)
      refine k_bipush (v := 6) h dX9_blowsTooMuch_61 (by decide) ?_
      refine k_iload_n h 1 dX9_blowsTooMuch_63 rfl rfl ?_
      refine k_imul h dX9_blowsTooMuch_64 ?_
      refine k_iload h 4 dX9_blowsTooMuch_65 rfl ?_
      refine k_iadd h dX9_blowsTooMuch_67 ?_
      refine k_alI h dX9_blowsTooMuch_68 (fun v17 => ?_)
      refine k_alI h dX9_blowsTooMuch_69 (fun v18 => ?_)
      refine k_iadd h dX9_blowsTooMuch_70 ?_
      refine k_alI h dX9_blowsTooMuch_71 (fun v19 => ?_)
      refine k_iload_n h 2 dX9_blowsTooMuch_72 rfl rfl ?_
      refine k_icmp_ge (tgt := 80) h dX9_blowsTooMuch_73 (by decide) ?_ ?_
      · refine k_iconst (v := 0) h dX9_blowsTooMuch_80 (by decide) ?_
        refine k_istore_n (lv' := [(3, LI 0), (0, LR (some a0)), (1, LI p1), (2, LI ((v2 * v4) + (v6 * v8))), (4, LI q9.2)]) h dX9_blowsTooMuch_81 rfl (by decide) rfl ?_
        refine k_iinc (w := (q9.2 + 1)) (lv' := [(4, LI (q9.2 + 1)), (3, LI 0), (0, LR (some a0)), (1, LI p1), (2, LI ((v2 * v4) + (v6 * v8)))]) h 4 dX9_blowsTooMuch_82 rfl rfl (by decide) rfl ?_
        refine k_goto (tgt := 33) h dX9_blowsTooMuch_85 (by decide) ?_
        refine k_sub (lv' := [(0, LR (some a0)), (1, LI p1), (2, LI ((v2 * v4) + (v6 * v8))), (3, LI 0), (4, LI (q9.2 + 1))]) h [2, 3, 4, 1, 0] rfl ?_
        exact hr11 (0, (q9.2 + 1)) s10
      · refine k_iconst (v := 1) h dX9_blowsTooMuch_76 (by decide) ?_
        refine k_goto (tgt := 81) h dX9_blowsTooMuch_77 (by decide) ?_
        refine k_istore_n (lv' := [(3, LI 1), (0, LR (some a0)), (1, LI p1), (2, LI ((v2 * v4) + (v6 * v8))), (4, LI q9.2)]) h dX9_blowsTooMuch_81 rfl (by decide) rfl ?_
        refine k_iinc (w := (q9.2 + 1)) (lv' := [(4, LI (q9.2 + 1)), (3, LI 1), (0, LR (some a0)), (1, LI p1), (2, LI ((v2 * v4) + (v6 * v8)))]) h 4 dX9_blowsTooMuch_82 rfl rfl (by decide) rfl ?_
        refine k_goto (tgt := 33) h dX9_blowsTooMuch_85 (by decide) ?_
        refine k_sub (lv' := [(0, LR (some a0)), (1, LI p1), (2, LI ((v2 * v4) + (v6 * v8))), (3, LI 1), (4, LI (q9.2 + 1))]) h [2, 3, 4, 1, 0] rfl ?_
        exact hr11 (1, (q9.2 + 1)) s10
def mX9_areRanksWrong_b4 (a0 : Nat) (p1 : Int32) (r3 : (Int32 × Int32) → Sg → Option (Int32 × Sg)) (q1 : Int32 × Int32) (s2 : Sg) : Option (Int32 × Sg) :=
gdR s2 9 22 (some a0) fun v4 =>
alI s2 v4 p1 fun v5 =>
if v5 ≤ q1.2 then (
ckB q1.1 (some (q1.1, s2)))
else (
if ¬ q1.1 = 0 then (
r3 (1, (q1.2 + 1)) s2)
else (
gdR s2 9 23 (some a0) fun v6 =>
alI s2 v6 (((6 * p1) + q1.2) - 1) fun v7 =>
cv s2 9 (some a0) fun a15 => cl (mX9_rankOf a15 v7 s2) fun v8 s9 =>
gdR s9 9 23 (some a0) fun v10 =>
alI s9 v10 ((6 * p1) + q1.2) fun v11 =>
cv s9 9 (some a0) fun a14 => cl (mX9_rankOf a14 v11 s9) fun v12 s13 =>
if v8 ≤ v12 then (
r3 (0, (q1.2 + 1)) s13)
else (
r3 (1, (q1.2 + 1)) s13)))
def mX9_areRanksWrong (a0 : Nat) (p1 : Int32) (s0 : Sg) : Option (Int32 × Sg) :=
lp (mX9_areRanksWrong_b4 a0 p1) FU (0, 1) s0
def rmX9_areRanksWrong : Room := { frames := 1, cells := 0, slots := 0, locals := 21 }
theorem calX9_areRanksWrong : Cal yX9_areRanksWrong cX9_areRanksWrong 4 (some .boolean) 1 := ⟨(mw37 2 rfl), (mw1 5 rfl), by decide, by decide, by decide +kernel⟩
set_option maxHeartbeats 4000000 in
set_option maxRecDepth 100000 in
theorem ctX9_areRanksWrong (l : Launch) (B : Nat) (D : va_G) (cA : Nat → ClassId) (sa : Nat → Nat) (a0 : Nat) (p1 : Int32) (s0 : Sg) : Ct l B D cA sa yX9_areRanksWrong cX9_areRanksWrong 4 (some .boolean) rmX9_areRanksWrong rI [LR (some a0), LI p1] s0 0 0 (mX9_areRanksWrong a0 p1 s0) := by
  refine Ct.of (own := RX9) (by decide) rfl _ (Nat.le_of_ble_eq_true rfl) rfl ?_
  intro p e s m args below meth c h hi
  unfold mX9_areRanksWrong
  refine k_iconst (v := 0) h dX9_areRanksWrong_0 (by decide) ?_
  refine k_istore_n (lv' := [(2, LI 0), (0, LR (some a0)), (1, LI p1)]) h dX9_areRanksWrong_1 rfl (by decide) rfl ?_
  refine k_iconst (v := 1) h dX9_areRanksWrong_2 (by decide) ?_
  refine k_istore_n (lv' := [(3, LI 1), (2, LI 0), (0, LR (some a0)), (1, LI p1)]) h dX9_areRanksWrong_3 rfl (by decide) rfl ?_
  refine k_sub (lv' := [(0, LR (some a0)), (1, LI p1), (2, LI 0), (3, LI 1)]) h [2, 3, 1, 0] rfl ?_
  refine k_lp (A := Int32 × Int32) (fun q1 => [(0, LR (some a0)), (1, LI p1), (2, LI q1.1), (3, LI q1.2)]) (fun q1 => []) (fun r3 hr3 q1 s2 => ?_) FU (0, 1) s0
  unfold mX9_areRanksWrong_b4
  refine k_iload_n h 3 dX9_areRanksWrong_4 rfl rfl ?_
  refine k_aload_n h 0 dX9_areRanksWrong_5 rfl rfl ?_
  refine k_getR h fX9_22 (Or.inl (mw7 7 rfl)) dX9_areRanksWrong_6 (fun v4 => ?_)
  refine k_iload_n h 1 dX9_areRanksWrong_9 rfl rfl ?_
  refine k_alI h dX9_areRanksWrong_10 (fun v5 => ?_)
  refine k_icmp_ge (tgt := 65) h dX9_areRanksWrong_11 (by decide) ?_ ?_
  · refine k_iload_n h 2 dX9_areRanksWrong_65 rfl rfl ?_
    exact k_zret h rfl dX9_areRanksWrong_66 (Nat.le_of_ble_eq_true rfl) (Nat.le_of_ble_eq_true rfl)
  · refine k_iload_n h 2 dX9_areRanksWrong_14 rfl rfl ?_
    refine k_if_ne (tgt := 53) h dX9_areRanksWrong_15 (by decide) ?_ ?_
    · refine k_iconst (v := 1) h dX9_areRanksWrong_53 (by decide) ?_
      refine k_goto (tgt := 58) h dX9_areRanksWrong_54 (by decide) ?_
      refine k_istore_n (lv' := [(2, LI 1), (0, LR (some a0)), (1, LI p1), (3, LI q1.2)]) h dX9_areRanksWrong_58 rfl (by decide) rfl ?_
      refine k_iinc (w := (q1.2 + 1)) (lv' := [(3, LI (q1.2 + 1)), (2, LI 1), (0, LR (some a0)), (1, LI p1)]) h 3 dX9_areRanksWrong_59 rfl rfl (by decide) rfl ?_
      refine k_goto (tgt := 4) h dX9_areRanksWrong_62 (by decide) ?_
      refine k_sub (lv' := [(0, LR (some a0)), (1, LI p1), (2, LI 1), (3, LI (q1.2 + 1))]) h [2, 3, 1, 0] rfl ?_
      exact hr3 (1, (q1.2 + 1)) s2
    · refine k_aload_n h 0 dX9_areRanksWrong_18 rfl rfl ?_
      refine k_aload_n h 0 dX9_areRanksWrong_19 rfl rfl ?_
      refine k_getR h fX9_23 (Or.inl (mw7 8 rfl)) dX9_areRanksWrong_20 (fun v6 => ?_)
      refine k_bipush (v := 6) h dX9_areRanksWrong_23 (by decide) ?_
      refine k_iload_n h 1 dX9_areRanksWrong_25 rfl rfl ?_
      refine k_imul h dX9_areRanksWrong_26 ?_
      refine k_iload_n h 3 dX9_areRanksWrong_27 rfl rfl ?_
      refine k_iadd h dX9_areRanksWrong_28 ?_
      refine k_iconst (v := 1) h dX9_areRanksWrong_29 (by decide) ?_
      refine k_isub h dX9_areRanksWrong_30 ?_
      refine k_alI h dX9_areRanksWrong_31 (fun v7 => ?_)
      refine k_callVI (As := [LI v7]) (st := []) (x0 := (some a0)) (xg := fun a15 => mX9_rankOf a15 v7 s2) h (fun a15 => ctX9_rankOf l B D cA sa a15 v7 s2) calX9_rankOf rfl (by decide) (mw30 18 rfl) (mw30 19 rfl) (Or.inl (mw30 17 rfl)) hgood ⟨rfl, rfl, Nat.le_of_ble_eq_true rfl, Nat.le_of_ble_eq_true rfl⟩ ⟨Nat.le_of_ble_eq_true rfl, Nat.le_of_ble_eq_true rfl⟩ rfl (Nat.le_of_ble_eq_true rfl) dX9_areRanksWrong_32 (fun v8 s9 => ?_)
      refine k_aload_n h 0 dX9_areRanksWrong_35 rfl rfl ?_
      refine k_aload_n h 0 dX9_areRanksWrong_36 rfl rfl ?_
      refine k_getR h fX9_23 (Or.inl (mw7 8 rfl)) dX9_areRanksWrong_37 (fun v10 => ?_)
      refine k_bipush (v := 6) h dX9_areRanksWrong_40 (by decide) ?_
      refine k_iload_n h 1 dX9_areRanksWrong_42 rfl rfl ?_
      refine k_imul h dX9_areRanksWrong_43 ?_
      refine k_iload_n h 3 dX9_areRanksWrong_44 rfl rfl ?_
      refine k_iadd h dX9_areRanksWrong_45 ?_
      refine k_alI h dX9_areRanksWrong_46 (fun v11 => ?_)
      refine k_callVI (As := [LI v11]) (st := [LI v8]) (x0 := (some a0)) (xg := fun a14 => mX9_rankOf a14 v11 s9) h (fun a14 => ctX9_rankOf l B D cA sa a14 v11 s9) calX9_rankOf rfl (by decide) (mw30 18 rfl) (mw30 19 rfl) (Or.inl (mw30 17 rfl)) hgood ⟨rfl, rfl, Nat.le_of_ble_eq_true rfl, Nat.le_of_ble_eq_true rfl⟩ ⟨Nat.le_of_ble_eq_true rfl, Nat.le_of_ble_eq_true rfl⟩ rfl (Nat.le_of_ble_eq_true rfl) dX9_areRanksWrong_47 (fun v12 s13 => ?_)
      refine k_icmp_le (tgt := 57) h dX9_areRanksWrong_50 (by decide) ?_ ?_
      · refine k_iconst (v := 0) h dX9_areRanksWrong_57 (by decide) ?_
        refine k_istore_n (lv' := [(2, LI 0), (0, LR (some a0)), (1, LI p1), (3, LI q1.2)]) h dX9_areRanksWrong_58 rfl (by decide) rfl ?_
        refine k_iinc (w := (q1.2 + 1)) (lv' := [(3, LI (q1.2 + 1)), (2, LI 0), (0, LR (some a0)), (1, LI p1)]) h 3 dX9_areRanksWrong_59 rfl rfl (by decide) rfl ?_
        refine k_goto (tgt := 4) h dX9_areRanksWrong_62 (by decide) ?_
        refine k_sub (lv' := [(0, LR (some a0)), (1, LI p1), (2, LI 0), (3, LI (q1.2 + 1))]) h [2, 3, 1, 0] rfl ?_
        exact hr3 (0, (q1.2 + 1)) s13
      · refine k_iconst (v := 1) h dX9_areRanksWrong_53 (by decide) ?_
        refine k_goto (tgt := 58) h dX9_areRanksWrong_54 (by decide) ?_
        refine k_istore_n (lv' := [(2, LI 1), (0, LR (some a0)), (1, LI p1), (3, LI q1.2)]) h dX9_areRanksWrong_58 rfl (by decide) rfl ?_
        refine k_iinc (w := (q1.2 + 1)) (lv' := [(3, LI (q1.2 + 1)), (2, LI 1), (0, LR (some a0)), (1, LI p1)]) h 3 dX9_areRanksWrong_59 rfl rfl (by decide) rfl ?_
        refine k_goto (tgt := 4) h dX9_areRanksWrong_62 (by decide) ?_
        refine k_sub (lv' := [(0, LR (some a0)), (1, LI p1), (2, LI 1), (3, LI (q1.2 + 1))]) h [2, 3, 1, 0] rfl ?_
        exact hr3 (1, (q1.2 + 1)) s13
def mX9_areSomeNear_b17 (q1 : Int32 × Int32) (r3 : (Int32 × Int32) → Sg → Option (Int32 × Sg)) (a0 : Nat) (p1 : Int32) (r8 : (Int32 × Int32) → Sg → Option (Int32 × Sg)) (q6 : Int32 × Int32) (s7 : Sg) : Option (Int32 × Sg) :=
if q1.2 ≤ q6.2 then (
r3 (q6.1, (q1.2 + 1)) s7)
else (
if ¬ q6.1 = 0 then (
r8 (1, (q6.2 + 1)) s7)
else (
cv s7 9 (some a0) fun a14 => cl (mX9_nearOf a14 p1 q1.2 q6.2 s7) fun v9 s10 =>
cv s10 9 (some a0) fun a13 => cl (mX9_isFree a13 v9 s10) fun v11 s12 =>
if ¬ v11 = 0 then (
r8 (0, (q6.2 + 1)) s12)
else (
r8 (1, (q6.2 + 1)) s12)))
def mX9_areSomeNear_b4 (a0 : Nat) (p1 : Int32) (r3 : (Int32 × Int32) → Sg → Option (Int32 × Sg)) (q1 : Int32 × Int32) (s2 : Sg) : Option (Int32 × Sg) :=
gdR s2 9 22 (some a0) fun v4 =>
alI s2 v4 p1 fun v5 =>
if v5 ≤ q1.2 then (
ckB q1.1 (some (q1.1, s2)))
else (
lp (mX9_areSomeNear_b17 q1 r3 a0 p1) FU (q1.1, 0) s2)
def mX9_areSomeNear (a0 : Nat) (p1 : Int32) (s0 : Sg) : Option (Int32 × Sg) :=
lp (mX9_areSomeNear_b4 a0 p1) FU (0, 0) s0
def rmX9_areSomeNear : Room := { frames := 4, cells := 0, slots := 0, locals := 97 }
theorem calX9_areSomeNear : Cal yX9_areSomeNear cX9_areSomeNear 5 (some .boolean) 1 := ⟨(mw37 6 rfl), (mw1 5 rfl), by decide, by decide, by decide +kernel⟩
set_option maxHeartbeats 4000000 in
set_option maxRecDepth 100000 in
theorem ctX9_areSomeNear (l : Launch) (B : Nat) (D : va_G) (cA : Nat → ClassId) (sa : Nat → Nat) (a0 : Nat) (p1 : Int32) (s0 : Sg) : Ct l B D cA sa yX9_areSomeNear cX9_areSomeNear 5 (some .boolean) rmX9_areSomeNear rI [LR (some a0), LI p1] s0 0 0 (mX9_areSomeNear a0 p1 s0) := by
  refine Ct.of (own := RX9) (by decide) rfl _ (Nat.le_of_ble_eq_true rfl) rfl ?_
  intro p e s m args below meth c h hi
  unfold mX9_areSomeNear
  refine k_iconst (v := 0) h dX9_areSomeNear_0 (by decide) ?_
  refine k_istore_n (lv' := [(2, LI 0), (0, LR (some a0)), (1, LI p1)]) h dX9_areSomeNear_1 rfl (by decide) rfl ?_
  refine k_iconst (v := 0) h dX9_areSomeNear_2 (by decide) ?_
  refine k_istore_n (lv' := [(3, LI 0), (2, LI 0), (0, LR (some a0)), (1, LI p1)]) h dX9_areSomeNear_3 rfl (by decide) rfl ?_
  refine k_sub (lv' := [(0, LR (some a0)), (1, LI p1), (2, LI 0), (3, LI 0)]) h [2, 3, 1, 0] rfl ?_
  refine k_lp (A := Int32 × Int32) (fun q1 => [(0, LR (some a0)), (1, LI p1), (2, LI q1.1), (3, LI q1.2)]) (fun q1 => []) (fun r3 hr3 q1 s2 => ?_) FU (0, 0) s0
  unfold mX9_areSomeNear_b4
  refine k_iload_n h 3 dX9_areSomeNear_4 rfl rfl ?_
  refine k_aload_n h 0 dX9_areSomeNear_5 rfl rfl ?_
  refine k_getR h fX9_22 (Or.inl (mw7 7 rfl)) dX9_areSomeNear_6 (fun v4 => ?_)
  refine k_iload_n h 1 dX9_areSomeNear_9 rfl rfl ?_
  refine k_alI h dX9_areSomeNear_10 (fun v5 => ?_)
  refine k_icmp_ge (tgt := 60) h dX9_areSomeNear_11 (by decide) ?_ ?_
  · refine k_iload_n h 2 dX9_areSomeNear_60 rfl rfl ?_
    exact k_zret h rfl dX9_areSomeNear_61 (Nat.le_of_ble_eq_true rfl) (Nat.le_of_ble_eq_true rfl)
  · refine k_iconst (v := 0) h dX9_areSomeNear_14 (by decide) ?_
    refine k_istore (lv' := [(4, LI 0), (0, LR (some a0)), (1, LI p1), (2, LI q1.1), (3, LI q1.2)]) h dX9_areSomeNear_15 (by decide) rfl ?_
    refine k_sub (lv' := [(0, LR (some a0)), (1, LI p1), (2, LI q1.1), (3, LI q1.2), (4, LI 0)]) h [1, 2, 3, 4, 0] rfl ?_
    refine k_lp (A := Int32 × Int32) (fun q6 => [(0, LR (some a0)), (1, LI p1), (2, LI q6.1), (3, LI q1.2), (4, LI q6.2)]) (fun q6 => []) (fun r8 hr8 q6 s7 => ?_) FU (q1.1, 0) s2
    unfold mX9_areSomeNear_b17
    refine k_iload h 4 dX9_areSomeNear_17 rfl ?_
    refine k_iload_n h 3 dX9_areSomeNear_19 rfl rfl ?_
    refine k_icmp_ge (tgt := 54) h dX9_areSomeNear_20 (by decide) ?_ ?_
    · refine k_iinc (w := (q1.2 + 1)) (lv' := [(3, LI (q1.2 + 1)), (0, LR (some a0)), (1, LI p1), (2, LI q6.1), (4, LI q6.2)]) h 3 dX9_areSomeNear_54 rfl rfl (by decide) rfl ?_
      refine k_goto (tgt := 4) h dX9_areSomeNear_57 (by decide) ?_
      refine k_sub (lv' := [(0, LR (some a0)), (1, LI p1), (2, LI q6.1), (3, LI (q1.2 + 1))]) h [1, 2, 3, 0] rfl ?_
      exact hr3 (q6.1, (q1.2 + 1)) s7
    · refine k_iload_n h 2 dX9_areSomeNear_23 rfl rfl ?_
      refine k_if_ne (tgt := 42) h dX9_areSomeNear_24 (by decide) ?_ ?_
      · refine k_iconst (v := 1) h dX9_areSomeNear_42 (by decide) ?_
        refine k_goto (tgt := 47) h dX9_areSomeNear_43 (by decide) ?_
        refine k_istore_n (lv' := [(2, LI 1), (0, LR (some a0)), (1, LI p1), (3, LI q1.2), (4, LI q6.2)]) h dX9_areSomeNear_47 rfl (by decide) rfl ?_
        refine k_iinc (w := (q6.2 + 1)) (lv' := [(4, LI (q6.2 + 1)), (2, LI 1), (0, LR (some a0)), (1, LI p1), (3, LI q1.2)]) h 4 dX9_areSomeNear_48 rfl rfl (by decide) rfl ?_
        refine k_goto (tgt := 17) h dX9_areSomeNear_51 (by decide) ?_
        refine k_sub (lv' := [(0, LR (some a0)), (1, LI p1), (2, LI 1), (3, LI q1.2), (4, LI (q6.2 + 1))]) h [2, 3, 1, 4, 0] rfl ?_
        exact hr8 (1, (q6.2 + 1)) s7
      · refine k_aload_n h 0 dX9_areSomeNear_27 rfl rfl ?_
        refine k_aload_n h 0 dX9_areSomeNear_28 rfl rfl ?_
        refine k_iload_n h 1 dX9_areSomeNear_29 rfl rfl ?_
        refine k_iload_n h 3 dX9_areSomeNear_30 rfl rfl ?_
        refine k_iload h 4 dX9_areSomeNear_31 rfl ?_
        refine k_callVL (As := [LI p1, LI q1.2, LI q6.2]) (st := [LR (some a0)]) (x0 := (some a0)) (xg := fun a14 => mX9_nearOf a14 p1 q1.2 q6.2 s7) h (fun a14 => ctX9_nearOf l B D cA sa a14 p1 q1.2 q6.2 s7) calX9_nearOf rfl (by decide) (mw26 21 rfl) (mw26 22 rfl) (Or.inl (mw26 20 rfl)) hgood ⟨rfl, rfl, Nat.le_of_ble_eq_true rfl, Nat.le_of_ble_eq_true rfl⟩ ⟨Nat.le_of_ble_eq_true rfl, Nat.le_of_ble_eq_true rfl⟩ rfl (Nat.le_of_ble_eq_true rfl) dX9_areSomeNear_33 (fun v9 s10 => ?_)
        refine k_callVI (As := [LL v9]) (st := []) (x0 := (some a0)) (xg := fun a13 => mX9_isFree a13 v9 s10) h (fun a13 => ctX9_isFree l B D cA sa a13 v9 s10) calX9_isFree rfl (by decide) (mw28 2 rfl) (mw28 3 rfl) (Or.inl (mw28 1 rfl)) hgood ⟨rfl, rfl, Nat.le_of_ble_eq_true rfl, Nat.le_of_ble_eq_true rfl⟩ ⟨Nat.le_of_ble_eq_true rfl, Nat.le_of_ble_eq_true rfl⟩ rfl (Nat.le_of_ble_eq_true rfl) dX9_areSomeNear_36 (fun v11 s12 => ?_)
        refine k_if_ne (tgt := 46) h dX9_areSomeNear_39 (by decide) ?_ ?_
        · refine k_iconst (v := 0) h dX9_areSomeNear_46 (by decide) ?_
          refine k_istore_n (lv' := [(2, LI 0), (0, LR (some a0)), (1, LI p1), (3, LI q1.2), (4, LI q6.2)]) h dX9_areSomeNear_47 rfl (by decide) rfl ?_
          refine k_iinc (w := (q6.2 + 1)) (lv' := [(4, LI (q6.2 + 1)), (2, LI 0), (0, LR (some a0)), (1, LI p1), (3, LI q1.2)]) h 4 dX9_areSomeNear_48 rfl rfl (by decide) rfl ?_
          refine k_goto (tgt := 17) h dX9_areSomeNear_51 (by decide) ?_
          refine k_sub (lv' := [(0, LR (some a0)), (1, LI p1), (2, LI 0), (3, LI q1.2), (4, LI (q6.2 + 1))]) h [2, 3, 1, 4, 0] rfl ?_
          exact hr8 (0, (q6.2 + 1)) s12
        · refine k_iconst (v := 1) h dX9_areSomeNear_42 (by decide) ?_
          refine k_goto (tgt := 47) h dX9_areSomeNear_43 (by decide) ?_
          refine k_istore_n (lv' := [(2, LI 1), (0, LR (some a0)), (1, LI p1), (3, LI q1.2), (4, LI q6.2)]) h dX9_areSomeNear_47 rfl (by decide) rfl ?_
          refine k_iinc (w := (q6.2 + 1)) (lv' := [(4, LI (q6.2 + 1)), (2, LI 1), (0, LR (some a0)), (1, LI p1), (3, LI q1.2)]) h 4 dX9_areSomeNear_48 rfl rfl (by decide) rfl ?_
          refine k_goto (tgt := 17) h dX9_areSomeNear_51 (by decide) ?_
          refine k_sub (lv' := [(0, LR (some a0)), (1, LI p1), (2, LI 1), (3, LI q1.2), (4, LI (q6.2 + 1))]) h [2, 3, 1, 4, 0] rfl ?_
          exact hr8 (1, (q6.2 + 1)) s12
def mX9_isSomeOut (a0 : Nat) (p1 : Int32) (s0 : Sg) : Option (Int32 × Sg) :=
cv s0 9 (some a0) fun a9 => cl (mX9_findStarts a9 p1 s0) fun u1 s2 =>
gdR s2 9 25 (some a0) fun v3 =>
alI s2 v3 p1 fun v4 =>
gdL s2 9 46 (some a0) fun v5 =>
gdL s2 9 47 (some a0) fun v6 =>
cl (mX9_in (Int32.toInt64 v4) v5 v6 s2) fun v7 s8 =>
if ¬ v7 = 0 then (
ckB 0 (some (0, s8)))
else (
ckB 1 (some (1, s8)))
def rmX9_isSomeOut : Room := { frames := 4, cells := 0, slots := 0, locals := 105 }
theorem calX9_isSomeOut : Cal yX9_isSomeOut cX9_isSomeOut 2 (some .boolean) 1 := ⟨(mw37 10 rfl), (mw1 5 rfl), by decide, by decide, by decide +kernel⟩
set_option maxHeartbeats 4000000 in
set_option maxRecDepth 100000 in
theorem ctX9_isSomeOut (l : Launch) (B : Nat) (D : va_G) (cA : Nat → ClassId) (sa : Nat → Nat) (a0 : Nat) (p1 : Int32) (s0 : Sg) : Ct l B D cA sa yX9_isSomeOut cX9_isSomeOut 2 (some .boolean) rmX9_isSomeOut rI [LR (some a0), LI p1] s0 0 0 (mX9_isSomeOut a0 p1 s0) := by
  refine Ct.of (own := RX9) (by decide) rfl _ (Nat.le_of_ble_eq_true rfl) rfl ?_
  intro p e s m args below meth c h hi
  unfold mX9_isSomeOut
  refine k_aload_n h 0 dX9_isSomeOut_0 rfl rfl ?_
  refine k_iload_n h 1 dX9_isSomeOut_1 rfl rfl ?_
  refine k_callVU (As := [LI p1]) (st := []) (x0 := (some a0)) (xg := fun a9 => mX9_findStarts a9 p1 s0) h (fun a9 => ctX9_findStarts l B D cA sa a9 p1 s0) calX9_findStarts rfl (by decide) (mw32 13 rfl) (mw32 14 rfl) (Or.inl (mw32 12 rfl)) hgood ⟨rfl, rfl, Nat.le_of_ble_eq_true rfl, Nat.le_of_ble_eq_true rfl⟩ ⟨Nat.le_of_ble_eq_true rfl, Nat.le_of_ble_eq_true rfl⟩ rfl (Nat.le_of_ble_eq_true rfl) dX9_isSomeOut_2 (fun u1 s2 => ?_)
  refine k_aload_n h 0 dX9_isSomeOut_5 rfl rfl ?_
  refine k_getR h fX9_25 (Or.inl (mw7 10 rfl)) dX9_isSomeOut_6 (fun v3 => ?_)
  refine k_iload_n h 1 dX9_isSomeOut_9 rfl rfl ?_
  refine k_alI h dX9_isSomeOut_10 (fun v4 => ?_)
  refine k_i2l h dX9_isSomeOut_11 ?_
  refine k_aload_n h 0 dX9_isSomeOut_12 rfl rfl ?_
  refine k_getL h fX9_46 (Or.inl (mw32 9 rfl)) dX9_isSomeOut_13 (fun v5 => ?_)
  refine k_aload_n h 0 dX9_isSomeOut_16 rfl rfl ?_
  refine k_getL h fX9_47 (Or.inl (mw32 10 rfl)) dX9_isSomeOut_17 (fun v6 => ?_)
  refine k_callSI (As := [LL (Int32.toInt64 v4), LL v5, LL v6]) (st := []) h (ctX9_in l B D cA sa (Int32.toInt64 v4) v5 v6 s2) calX9_in (mw9 1 rfl) (Or.inl (mw9 0 rfl)) hgood ⟨rfl, rfl, Nat.le_of_ble_eq_true rfl, Nat.le_of_ble_eq_true rfl⟩ ⟨Nat.le_of_ble_eq_true rfl, Nat.le_of_ble_eq_true rfl⟩ rfl (Nat.le_of_ble_eq_true rfl) dX9_isSomeOut_20 (fun v7 s8 => ?_)
  refine k_if_ne (tgt := 30) h dX9_isSomeOut_23 (by decide) ?_ ?_
  · refine k_iconst (v := 0) h dX9_isSomeOut_30 (by decide) ?_
    exact k_zret h rfl dX9_isSomeOut_31 (Nat.le_of_ble_eq_true rfl) (Nat.le_of_ble_eq_true rfl)
  · refine k_iconst (v := 1) h dX9_isSomeOut_26 (by decide) ?_
    refine k_goto (tgt := 31) h dX9_isSomeOut_27 (by decide) ?_
    exact k_zret h rfl dX9_isSomeOut_31 (Nat.le_of_ble_eq_true rfl) (Nat.le_of_ble_eq_true rfl)
def mX9_barOf (a0 : Nat) (p1 : Int32) (p2 : Int32) (s0 : Sg) : Option (Int32 × Sg) :=
cv s0 9 (some a0) fun a41 => cl (mX9_takeLoad a41 p1 s0) fun u1 s2 =>
gdR s2 9 21 (some a0) fun v3 =>
alI s2 v3 p1 fun v4 =>
gdR s2 9 26 (some a0) fun v5 =>
alZ s2 v5 p1 fun v6 =>
if v6 = 0 then (
cv s2 9 (some a0) fun a40 => cl (mX9_hasEmpty a40 p1 s2) fun v7 s8 =>
if v7 = 0 then (
cv s8 9 (some a0) fun a39 => cl (mX9_jumpersIn a39 p1 s8) fun v9 s10 =>
gdR s10 9 15 (some a0) fun v11 =>
alI s10 v11 v4 fun v12 =>
if v9 ≤ v12 then (
cv s10 9 (some a0) fun a38 => cl (mX9_weightOn a38 p1 s10) fun v13 s14 =>
gdR s14 9 16 (some a0) fun v15 =>
alI s14 v15 v4 fun v16 =>
if v13 ≤ v16 then (
cv s14 9 (some a0) fun a37 => cl (mX9_hasOldGear a37 p1 p2 s14) fun v17 s18 =>
if v17 = 0 then (
cv s18 9 (some a0) fun a36 => cl (mX9_hasTwice a36 p1 s18) fun v19 s20 =>
if v19 = 0 then (
cv s20 9 (some a0) fun a35 => cl (mX9_hasAlone a35 p1 s20) fun v21 s22 =>
if v21 = 0 then (
cv s22 9 (some a0) fun a34 => cl (mX9_blowsTooMuch a34 p1 s22) fun v23 s24 =>
if v23 = 0 then (
cv s24 9 (some a0) fun a33 => cl (mX9_areRanksWrong a33 p1 s24) fun v25 s26 =>
if v25 = 0 then (
cv s26 9 (some a0) fun a32 => cl (mX9_areSomeNear a32 p1 s26) fun v27 s28 =>
if v27 = 0 then (
cv s28 9 (some a0) fun a31 => cl (mX9_isSomeOut a31 p1 s28) fun v29 s30 =>
if v29 = 0 then (
some (0, s30))
else (
some (11, s30)))
else (
some (10, s28)))
else (
some (9, s26)))
else (
some (8, s24)))
else (
some (7, s22)))
else (
some (6, s20)))
else (
some (5, s18)))
else (
some (4, s14)))
else (
some (3, s10)))
else (
some (2, s8)))
else (
some (1, s2))
def rmX9_barOf : Room := { frames := 5, cells := 0, slots := 0, locals := 126 }
theorem calX9_barOf : Cal yX9_barOf cX9_barOf 4 (some .int) 2 := ⟨(mw35 14 rfl), (mw1 5 rfl), by decide, by decide, by decide +kernel⟩
set_option maxHeartbeats 4000000 in
set_option maxRecDepth 100000 in
theorem ctX9_barOf (l : Launch) (B : Nat) (D : va_G) (cA : Nat → ClassId) (sa : Nat → Nat) (a0 : Nat) (p1 : Int32) (p2 : Int32) (s0 : Sg) : Ct l B D cA sa yX9_barOf cX9_barOf 4 (some .int) rmX9_barOf rI [LR (some a0), LI p1, LI p2] s0 0 0 (mX9_barOf a0 p1 p2 s0) := by
  refine Ct.of (own := RX9) (by decide) rfl _ (Nat.le_of_ble_eq_true rfl) rfl ?_
  intro p e s m args below meth c h hi
  unfold mX9_barOf
  refine k_aload_n h 0 dX9_barOf_0 rfl rfl ?_
  refine k_iload_n h 1 dX9_barOf_1 rfl rfl ?_
  refine k_callVU (As := [LI p1]) (st := []) (x0 := (some a0)) (xg := fun a41 => mX9_takeLoad a41 p1 s0) h (fun a41 => ctX9_takeLoad l B D cA sa a41 p1 s0) calX9_takeLoad rfl (by decide) (mw25 6 rfl) (mw25 7 rfl) (Or.inl (mw25 5 rfl)) hgood ⟨rfl, rfl, Nat.le_of_ble_eq_true rfl, Nat.le_of_ble_eq_true rfl⟩ ⟨Nat.le_of_ble_eq_true rfl, Nat.le_of_ble_eq_true rfl⟩ rfl (Nat.le_of_ble_eq_true rfl) dX9_barOf_2 (fun u1 s2 => ?_)
  refine k_aload_n h 0 dX9_barOf_5 rfl rfl ?_
  refine k_getR h fX9_21 (Or.inl (mw7 6 rfl)) dX9_barOf_6 (fun v3 => ?_)
  refine k_iload_n h 1 dX9_barOf_9 rfl rfl ?_
  refine k_alI h dX9_barOf_10 (fun v4 => ?_)
  refine k_istore_n (lv' := [(3, LI v4), (0, LR (some a0)), (1, LI p1), (2, LI p2)]) h dX9_barOf_11 rfl (by decide) rfl ?_
  refine k_aload_n h 1 dX9_barOf_12 rfl rfl ?_
  refine k_getR h fX9_26 (Or.inl (mw7 11 rfl)) dX9_barOf_13 (fun v5 => ?_)
  refine k_iload_n h 2 dX9_barOf_16 rfl rfl ?_
  refine k_alZ h dX9_barOf_17 (fun v6 => ?_)
  refine k_if_eq (tgt := 23) h dX9_barOf_18 (by decide) ?_ ?_
  · refine k_aload_n h 1 dX9_barOf_23 rfl rfl ?_
    refine k_iload_n h 2 dX9_barOf_24 rfl rfl ?_
    refine k_callVI (As := [LI p1]) (st := []) (x0 := (some a0)) (xg := fun a40 => mX9_hasEmpty a40 p1 s2) h (fun a40 => ctX9_hasEmpty l B D cA sa a40 p1 s2) calX9_hasEmpty rfl (by decide) (mw35 16 rfl) (mw35 17 rfl) (Or.inl (mw35 15 rfl)) hgood ⟨rfl, rfl, Nat.le_of_ble_eq_true rfl, Nat.le_of_ble_eq_true rfl⟩ ⟨Nat.le_of_ble_eq_true rfl, Nat.le_of_ble_eq_true rfl⟩ rfl (Nat.le_of_ble_eq_true rfl) dX9_barOf_25 (fun v7 s8 => ?_)
    refine k_if_eq (tgt := 33) h dX9_barOf_28 (by decide) ?_ ?_
    · refine k_aload_n h 1 dX9_barOf_33 rfl rfl ?_
      refine k_iload_n h 2 dX9_barOf_34 rfl rfl ?_
      refine k_callVI (As := [LI p1]) (st := []) (x0 := (some a0)) (xg := fun a39 => mX9_jumpersIn a39 p1 s8) h (fun a39 => ctX9_jumpersIn l B D cA sa a39 p1 s8) calX9_jumpersIn rfl (by decide) (mw35 20 rfl) (mw35 21 rfl) (Or.inl (mw35 19 rfl)) hgood ⟨rfl, rfl, Nat.le_of_ble_eq_true rfl, Nat.le_of_ble_eq_true rfl⟩ ⟨Nat.le_of_ble_eq_true rfl, Nat.le_of_ble_eq_true rfl⟩ rfl (Nat.le_of_ble_eq_true rfl) dX9_barOf_35 (fun v9 s10 => ?_)
      refine k_aload_n h 1 dX9_barOf_38 rfl rfl ?_
      refine k_getR h fX9_15 (Or.inl (mw7 1 rfl)) dX9_barOf_39 (fun v11 => ?_)
      refine k_iload_n h 0 dX9_barOf_42 rfl rfl ?_
      refine k_alI h dX9_barOf_43 (fun v12 => ?_)
      refine k_icmp_le (tgt := 49) h dX9_barOf_44 (by decide) ?_ ?_
      · refine k_aload_n h 1 dX9_barOf_49 rfl rfl ?_
        refine k_iload_n h 2 dX9_barOf_50 rfl rfl ?_
        refine k_callVI (As := [LI p1]) (st := []) (x0 := (some a0)) (xg := fun a38 => mX9_weightOn a38 p1 s10) h (fun a38 => ctX9_weightOn l B D cA sa a38 p1 s10) calX9_weightOn rfl (by decide) (mw36 0 rfl) (mw36 1 rfl) (Or.inl (mw35 23 rfl)) hgood ⟨rfl, rfl, Nat.le_of_ble_eq_true rfl, Nat.le_of_ble_eq_true rfl⟩ ⟨Nat.le_of_ble_eq_true rfl, Nat.le_of_ble_eq_true rfl⟩ rfl (Nat.le_of_ble_eq_true rfl) dX9_barOf_51 (fun v13 s14 => ?_)
        refine k_aload_n h 1 dX9_barOf_54 rfl rfl ?_
        refine k_getR h fX9_16 (Or.inl (mw7 2 rfl)) dX9_barOf_55 (fun v15 => ?_)
        refine k_iload_n h 0 dX9_barOf_58 rfl rfl ?_
        refine k_alI h dX9_barOf_59 (fun v16 => ?_)
        refine k_icmp_le (tgt := 65) h dX9_barOf_60 (by decide) ?_ ?_
        · refine k_aload_n h 1 dX9_barOf_65 rfl rfl ?_
          refine k_iload_n h 2 dX9_barOf_66 rfl rfl ?_
          refine k_iload_n h 3 dX9_barOf_67 rfl rfl ?_
          refine k_callVI (As := [LI p1, LI p2]) (st := []) (x0 := (some a0)) (xg := fun a37 => mX9_hasOldGear a37 p1 p2 s14) h (fun a37 => ctX9_hasOldGear l B D cA sa a37 p1 p2 s14) calX9_hasOldGear rfl (by decide) (mw36 4 rfl) (mw36 5 rfl) (Or.inl (mw36 3 rfl)) hgood ⟨rfl, rfl, Nat.le_of_ble_eq_true rfl, Nat.le_of_ble_eq_true rfl⟩ ⟨Nat.le_of_ble_eq_true rfl, Nat.le_of_ble_eq_true rfl⟩ rfl (Nat.le_of_ble_eq_true rfl) dX9_barOf_68 (fun v17 s18 => ?_)
          refine k_if_eq (tgt := 76) h dX9_barOf_71 (by decide) ?_ ?_
          · refine k_aload_n h 1 dX9_barOf_76 rfl rfl ?_
            refine k_iload_n h 2 dX9_barOf_77 rfl rfl ?_
            refine k_callVI (As := [LI p1]) (st := []) (x0 := (some a0)) (xg := fun a36 => mX9_hasTwice a36 p1 s18) h (fun a36 => ctX9_hasTwice l B D cA sa a36 p1 s18) calX9_hasTwice rfl (by decide) (mw36 8 rfl) (mw36 9 rfl) (Or.inl (mw36 7 rfl)) hgood ⟨rfl, rfl, Nat.le_of_ble_eq_true rfl, Nat.le_of_ble_eq_true rfl⟩ ⟨Nat.le_of_ble_eq_true rfl, Nat.le_of_ble_eq_true rfl⟩ rfl (Nat.le_of_ble_eq_true rfl) dX9_barOf_78 (fun v19 s20 => ?_)
            refine k_if_eq (tgt := 87) h dX9_barOf_81 (by decide) ?_ ?_
            · refine k_aload_n h 1 dX9_barOf_87 rfl rfl ?_
              refine k_iload_n h 2 dX9_barOf_88 rfl rfl ?_
              refine k_callVI (As := [LI p1]) (st := []) (x0 := (some a0)) (xg := fun a35 => mX9_hasAlone a35 p1 s20) h (fun a35 => ctX9_hasAlone l B D cA sa a35 p1 s20) calX9_hasAlone rfl (by decide) (mw36 12 rfl) (mw36 13 rfl) (Or.inl (mw36 11 rfl)) hgood ⟨rfl, rfl, Nat.le_of_ble_eq_true rfl, Nat.le_of_ble_eq_true rfl⟩ ⟨Nat.le_of_ble_eq_true rfl, Nat.le_of_ble_eq_true rfl⟩ rfl (Nat.le_of_ble_eq_true rfl) dX9_barOf_89 (fun v21 s22 => ?_)
              refine k_if_eq (tgt := 98) h dX9_barOf_92 (by decide) ?_ ?_
              · refine k_aload_n h 1 dX9_barOf_98 rfl rfl ?_
                refine k_iload_n h 2 dX9_barOf_99 rfl rfl ?_
                refine k_callVI (As := [LI p1]) (st := []) (x0 := (some a0)) (xg := fun a34 => mX9_blowsTooMuch a34 p1 s22) h (fun a34 => ctX9_blowsTooMuch l B D cA sa a34 p1 s22) calX9_blowsTooMuch rfl (by decide) (mw36 20 rfl) (mw36 21 rfl) (Or.inl (mw36 19 rfl)) hgood ⟨rfl, rfl, Nat.le_of_ble_eq_true rfl, Nat.le_of_ble_eq_true rfl⟩ ⟨Nat.le_of_ble_eq_true rfl, Nat.le_of_ble_eq_true rfl⟩ rfl (Nat.le_of_ble_eq_true rfl) dX9_barOf_100 (fun v23 s24 => ?_)
                refine k_if_eq (tgt := 109) h dX9_barOf_103 (by decide) ?_ ?_
                · refine k_aload_n h 1 dX9_barOf_109 rfl rfl ?_
                  refine k_iload_n h 2 dX9_barOf_110 rfl rfl ?_
                  refine k_callVI (As := [LI p1]) (st := []) (x0 := (some a0)) (xg := fun a33 => mX9_areRanksWrong a33 p1 s24) h (fun a33 => ctX9_areRanksWrong l B D cA sa a33 p1 s24) calX9_areRanksWrong rfl (by decide) (mw37 0 rfl) (mw37 1 rfl) (Or.inl (mw36 23 rfl)) hgood ⟨rfl, rfl, Nat.le_of_ble_eq_true rfl, Nat.le_of_ble_eq_true rfl⟩ ⟨Nat.le_of_ble_eq_true rfl, Nat.le_of_ble_eq_true rfl⟩ rfl (Nat.le_of_ble_eq_true rfl) dX9_barOf_111 (fun v25 s26 => ?_)
                  refine k_if_eq (tgt := 122) h dX9_barOf_114 (by decide) ?_ ?_
                  · refine k_aload_n h 1 dX9_barOf_122 rfl rfl ?_
                    refine k_iload_n h 2 dX9_barOf_123 rfl rfl ?_
                    refine k_callVI (As := [LI p1]) (st := []) (x0 := (some a0)) (xg := fun a32 => mX9_areSomeNear a32 p1 s26) h (fun a32 => ctX9_areSomeNear l B D cA sa a32 p1 s26) calX9_areSomeNear rfl (by decide) (mw37 4 rfl) (mw37 5 rfl) (Or.inl (mw37 3 rfl)) hgood ⟨rfl, rfl, Nat.le_of_ble_eq_true rfl, Nat.le_of_ble_eq_true rfl⟩ ⟨Nat.le_of_ble_eq_true rfl, Nat.le_of_ble_eq_true rfl⟩ rfl (Nat.le_of_ble_eq_true rfl) dX9_barOf_124 (fun v27 s28 => ?_)
                    refine k_if_eq (tgt := 135) h dX9_barOf_127 (by decide) ?_ ?_
                    · refine k_aload_n h 1 dX9_barOf_135 rfl rfl ?_
                      refine k_iload_n h 2 dX9_barOf_136 rfl rfl ?_
                      refine k_callVI (As := [LI p1]) (st := []) (x0 := (some a0)) (xg := fun a31 => mX9_isSomeOut a31 p1 s28) h (fun a31 => ctX9_isSomeOut l B D cA sa a31 p1 s28) calX9_isSomeOut rfl (by decide) (mw37 8 rfl) (mw37 9 rfl) (Or.inl (mw37 7 rfl)) hgood ⟨rfl, rfl, Nat.le_of_ble_eq_true rfl, Nat.le_of_ble_eq_true rfl⟩ ⟨Nat.le_of_ble_eq_true rfl, Nat.le_of_ble_eq_true rfl⟩ rfl (Nat.le_of_ble_eq_true rfl) dX9_barOf_137 (fun v29 s30 => ?_)
                      refine k_if_eq (tgt := 148) h dX9_barOf_140 (by decide) ?_ ?_
                      · refine k_iconst (v := 0) h dX9_barOf_148 (by decide) ?_
                        exact k_iret h rfl dX9_barOf_149 (Nat.le_of_ble_eq_true rfl) (Nat.le_of_ble_eq_true rfl)
                      · refine k_bipush (v := 11) h dX9_barOf_143 (by decide) ?_
                        refine k_goto (tgt := 149) h dX9_barOf_145 (by decide) ?_
                        exact k_iret h rfl dX9_barOf_149 (Nat.le_of_ble_eq_true rfl) (Nat.le_of_ble_eq_true rfl)
                    · refine k_bipush (v := 10) h dX9_barOf_130 (by decide) ?_
                      refine k_goto (tgt := 149) h dX9_barOf_132 (by decide) ?_
                      exact k_iret h rfl dX9_barOf_149 (Nat.le_of_ble_eq_true rfl) (Nat.le_of_ble_eq_true rfl)
                  · refine k_bipush (v := 9) h dX9_barOf_117 (by decide) ?_
                    refine k_goto (tgt := 149) h dX9_barOf_119 (by decide) ?_
                    exact k_iret h rfl dX9_barOf_149 (Nat.le_of_ble_eq_true rfl) (Nat.le_of_ble_eq_true rfl)
                · refine k_bipush (v := 8) h dX9_barOf_106 (by decide) ?_
                  exact k_iret h rfl dX9_barOf_108 (Nat.le_of_ble_eq_true rfl) (Nat.le_of_ble_eq_true rfl)
              · refine k_bipush (v := 7) h dX9_barOf_95 (by decide) ?_
                exact k_iret h rfl dX9_barOf_97 (Nat.le_of_ble_eq_true rfl) (Nat.le_of_ble_eq_true rfl)
            · refine k_bipush (v := 6) h dX9_barOf_84 (by decide) ?_
              exact k_iret h rfl dX9_barOf_86 (Nat.le_of_ble_eq_true rfl) (Nat.le_of_ble_eq_true rfl)
          · refine k_iconst (v := 5) h dX9_barOf_74 (by decide) ?_
            exact k_iret h rfl dX9_barOf_75 (Nat.le_of_ble_eq_true rfl) (Nat.le_of_ble_eq_true rfl)
        · refine k_iconst (v := 4) h dX9_barOf_63 (by decide) ?_
          exact k_iret h rfl dX9_barOf_64 (Nat.le_of_ble_eq_true rfl) (Nat.le_of_ble_eq_true rfl)
      · refine k_iconst (v := 3) h dX9_barOf_47 (by decide) ?_
        exact k_iret h rfl dX9_barOf_48 (Nat.le_of_ble_eq_true rfl) (Nat.le_of_ble_eq_true rfl)
    · refine k_iconst (v := 2) h dX9_barOf_31 (by decide) ?_
      exact k_iret h rfl dX9_barOf_32 (Nat.le_of_ble_eq_true rfl) (Nat.le_of_ble_eq_true rfl)
  · refine k_iconst (v := 1) h dX9_barOf_21 (by decide) ?_
    exact k_iret h rfl dX9_barOf_22 (Nat.le_of_ble_eq_true rfl) (Nat.le_of_ble_eq_true rfl)
def mX9_why (a0 : Nat) (p1 : Int32) (p2 : Int32) (s0 : Sg) : Option (Int32 × Sg) :=
cv s0 9 (some a0) fun a8 => cl (mX9_isLoad a8 p1 s0) fun v1 s2 =>
if v1 = 0 then (
some ((-1), s2))
else (
cl (mX9_in (Int32.toInt64 p2) 0 1000 s2) fun v3 s4 =>
if v3 = 0 then (
some ((-1), s4))
else (
cv s4 9 (some a0) fun a7 => cl (mX9_barOf a7 p1 p2 s4) fun v5 s6 =>
some (v5, s6)))
def rmX9_why : Room := { frames := 6, cells := 0, slots := 0, locals := 149 }
theorem calX9_why : Cal yX9_why cX9_why 3 (some .int) 2 := ⟨(mw35 10 rfl), (mw1 5 rfl), by decide, by decide, by decide +kernel⟩
set_option maxHeartbeats 4000000 in
set_option maxRecDepth 100000 in
theorem ctX9_why (l : Launch) (B : Nat) (D : va_G) (cA : Nat → ClassId) (sa : Nat → Nat) (a0 : Nat) (p1 : Int32) (p2 : Int32) (s0 : Sg) : Ct l B D cA sa yX9_why cX9_why 3 (some .int) rmX9_why rI [LR (some a0), LI p1, LI p2] s0 0 0 (mX9_why a0 p1 p2 s0) := by
  refine Ct.of (own := RX9) (by decide) rfl _ (Nat.le_of_ble_eq_true rfl) rfl ?_
  intro p e s m args below meth c h hi
  unfold mX9_why
  refine k_aload_n h 0 dX9_why_0 rfl rfl ?_
  refine k_iload_n h 1 dX9_why_1 rfl rfl ?_
  refine k_callVI (As := [LI p1]) (st := []) (x0 := (some a0)) (xg := fun a8 => mX9_isLoad a8 p1 s0) h (fun a8 => ctX9_isLoad l B D cA sa a8 p1 s0) calX9_isLoad rfl (by decide) (mw20 18 rfl) (mw20 19 rfl) (Or.inl (mw20 17 rfl)) hgood ⟨rfl, rfl, Nat.le_of_ble_eq_true rfl, Nat.le_of_ble_eq_true rfl⟩ ⟨Nat.le_of_ble_eq_true rfl, Nat.le_of_ble_eq_true rfl⟩ rfl (Nat.le_of_ble_eq_true rfl) dX9_why_2 (fun v1 s2 => ?_)
  refine k_if_eq (tgt := 29) h dX9_why_5 (by decide) ?_ ?_
  · refine k_iconst (v := (-1)) h dX9_why_29 (by decide) ?_
    exact k_iret h rfl dX9_why_30 (Nat.le_of_ble_eq_true rfl) (Nat.le_of_ble_eq_true rfl)
  · refine k_iload_n h 2 dX9_why_8 rfl rfl ?_
    refine k_i2l h dX9_why_9 ?_
    refine k_lconst (v := 0) h dX9_why_10 (by decide) ?_
    refine k_ldc2_w (v := 1000) h dX9_why_11 (mw15 2 rfl) ?_
    refine k_callSI (As := [LL (Int32.toInt64 p2), LL 0, LL 1000]) (st := []) h (ctX9_in l B D cA sa (Int32.toInt64 p2) 0 1000 s2) calX9_in (mw9 1 rfl) (Or.inl (mw9 0 rfl)) hgood ⟨rfl, rfl, Nat.le_of_ble_eq_true rfl, Nat.le_of_ble_eq_true rfl⟩ ⟨Nat.le_of_ble_eq_true rfl, Nat.le_of_ble_eq_true rfl⟩ rfl (Nat.le_of_ble_eq_true rfl) dX9_why_14 (fun v3 s4 => ?_)
    refine k_if_eq (tgt := 29) h dX9_why_17 (by decide) ?_ ?_
    · refine k_iconst (v := (-1)) h dX9_why_29 (by decide) ?_
      exact k_iret h rfl dX9_why_30 (Nat.le_of_ble_eq_true rfl) (Nat.le_of_ble_eq_true rfl)
    · refine k_aload_n h 0 dX9_why_20 rfl rfl ?_
      refine k_iload_n h 1 dX9_why_21 rfl rfl ?_
      refine k_iload_n h 2 dX9_why_22 rfl rfl ?_
      refine k_callVI (As := [LI p1, LI p2]) (st := []) (x0 := (some a0)) (xg := fun a7 => mX9_barOf a7 p1 p2 s4) h (fun a7 => ctX9_barOf l B D cA sa a7 p1 p2 s4) calX9_barOf rfl (by decide) (mw35 12 rfl) (mw35 13 rfl) (Or.inl (mw35 11 rfl)) hgood ⟨rfl, rfl, Nat.le_of_ble_eq_true rfl, Nat.le_of_ble_eq_true rfl⟩ ⟨Nat.le_of_ble_eq_true rfl, Nat.le_of_ble_eq_true rfl⟩ rfl (Nat.le_of_ble_eq_true rfl) dX9_why_23 (fun v5 s6 => ?_)
      refine k_goto (tgt := 30) h dX9_why_26 (by decide) ?_
      exact k_iret h rfl dX9_why_30 (Nat.le_of_ble_eq_true rfl) (Nat.le_of_ble_eq_true rfl)
def mX9_leave_b63 (a0 : Nat) (p1 : Int32) (r17 : (Int32) → Sg → Option (Int32 × Sg)) (q15 : Int32) (s16 : Sg) : Option (Int32 × Sg) :=
if 12 ≤ q15 then (
cv s16 9 (some a0) fun a22 => cl (mX9_jumpersIn a22 p1 s16) fun v18 s19 =>
gdI s19 9 31 (some a0) fun v20 =>
ptI s19 9 31 (some a0) (v20 + v18) fun s21 =>
some (v18, s21))
else (
gdR s16 9 27 (some a0) fun v23 =>
gdR s16 9 3 (some a0) fun v24 =>
alI s16 v24 q15 fun v25 =>
asI s16 v23 ((12 * p1) + q15) v25 fun s26 =>
gdR s26 9 28 (some a0) fun v27 =>
gdR s26 9 4 (some a0) fun v28 =>
alI s26 v28 q15 fun v29 =>
asI s26 v27 ((12 * p1) + q15) v29 fun s30 =>
r17 (q15 + 1) s30)
def mX9_leave (a0 : Nat) (p1 : Int32) (p2 : Int32) (s0 : Sg) : Option (Int32 × Sg) :=
cv s0 9 (some a0) fun a33 => cl (mX9_isLoad a33 p1 s0) fun v1 s2 =>
if v1 = 0 then (
some ((-1), s2))
else (
cl (mX9_in (Int32.toInt64 p2) 0 1000 s2) fun v3 s4 =>
if ¬ v3 = 0 then (
cv s4 9 (some a0) fun a32 => cl (mX9_barOf a32 p1 p2 s4) fun v5 s6 =>
if v5 ≤ 0 then (
gdR s6 9 26 (some a0) fun v7 =>
asZ s6 v7 p1 1 fun s8 =>
gdR s8 9 29 (some a0) fun v9 =>
gdI s8 9 34 (some a0) fun v10 =>
asI s8 v9 p1 v10 fun s11 =>
gdR s11 9 30 (some a0) fun v12 =>
gdI s11 9 35 (some a0) fun v13 =>
asI s11 v12 p1 v13 fun s14 =>
lp (mX9_leave_b63 a0 p1) FU 0 s14)
else (
some ((-6), s6)))
else (
some ((-1), s4)))
def rmX9_leave : Room := { frames := 6, cells := 0, slots := 0, locals := 149 }
theorem calX9_leave : Cal yX9_leave cX9_leave 4 (some .int) 2 := ⟨(mw38 5 rfl), (mw1 5 rfl), by decide, by decide, by decide +kernel⟩
set_option maxHeartbeats 4000000 in
set_option maxRecDepth 100000 in
theorem ctX9_leave (l : Launch) (B : Nat) (D : va_G) (cA : Nat → ClassId) (sa : Nat → Nat) (a0 : Nat) (p1 : Int32) (p2 : Int32) (s0 : Sg) : Ct l B D cA sa yX9_leave cX9_leave 4 (some .int) rmX9_leave rI [LR (some a0), LI p1, LI p2] s0 0 0 (mX9_leave a0 p1 p2 s0) := by
  refine Ct.of (own := RX9) (by decide) rfl _ (Nat.le_of_ble_eq_true rfl) rfl ?_
  intro p e s m args below meth c h hi
  unfold mX9_leave
  refine k_aload_n h 0 dX9_leave_0 rfl rfl ?_
  refine k_iload_n h 1 dX9_leave_1 rfl rfl ?_
  refine k_callVI (As := [LI p1]) (st := []) (x0 := (some a0)) (xg := fun a33 => mX9_isLoad a33 p1 s0) h (fun a33 => ctX9_isLoad l B D cA sa a33 p1 s0) calX9_isLoad rfl (by decide) (mw20 18 rfl) (mw20 19 rfl) (Or.inl (mw20 17 rfl)) hgood ⟨rfl, rfl, Nat.le_of_ble_eq_true rfl, Nat.le_of_ble_eq_true rfl⟩ ⟨Nat.le_of_ble_eq_true rfl, Nat.le_of_ble_eq_true rfl⟩ rfl (Nat.le_of_ble_eq_true rfl) dX9_leave_2 (fun v1 s2 => ?_)
  refine k_if_eq (tgt := 20) h dX9_leave_5 (by decide) ?_ ?_
  · refine k_iconst (v := (-1)) h dX9_leave_20 (by decide) ?_
    exact k_iret h rfl dX9_leave_21 (Nat.le_of_ble_eq_true rfl) (Nat.le_of_ble_eq_true rfl)
  · refine k_iload_n h 2 dX9_leave_8 rfl rfl ?_
    refine k_i2l h dX9_leave_9 ?_
    refine k_lconst (v := 0) h dX9_leave_10 (by decide) ?_
    refine k_ldc2_w (v := 1000) h dX9_leave_11 (mw15 2 rfl) ?_
    refine k_callSI (As := [LL (Int32.toInt64 p2), LL 0, LL 1000]) (st := []) h (ctX9_in l B D cA sa (Int32.toInt64 p2) 0 1000 s2) calX9_in (mw9 1 rfl) (Or.inl (mw9 0 rfl)) hgood ⟨rfl, rfl, Nat.le_of_ble_eq_true rfl, Nat.le_of_ble_eq_true rfl⟩ ⟨Nat.le_of_ble_eq_true rfl, Nat.le_of_ble_eq_true rfl⟩ rfl (Nat.le_of_ble_eq_true rfl) dX9_leave_14 (fun v3 s4 => ?_)
    refine k_if_ne (tgt := 22) h dX9_leave_17 (by decide) ?_ ?_
    · refine k_aload_n h 0 dX9_leave_22 rfl rfl ?_
      refine k_iload_n h 1 dX9_leave_23 rfl rfl ?_
      refine k_iload_n h 2 dX9_leave_24 rfl rfl ?_
      refine k_callVI (As := [LI p1, LI p2]) (st := []) (x0 := (some a0)) (xg := fun a32 => mX9_barOf a32 p1 p2 s4) h (fun a32 => ctX9_barOf l B D cA sa a32 p1 p2 s4) calX9_barOf rfl (by decide) (mw35 12 rfl) (mw35 13 rfl) (Or.inl (mw35 11 rfl)) hgood ⟨rfl, rfl, Nat.le_of_ble_eq_true rfl, Nat.le_of_ble_eq_true rfl⟩ ⟨Nat.le_of_ble_eq_true rfl, Nat.le_of_ble_eq_true rfl⟩ rfl (Nat.le_of_ble_eq_true rfl) dX9_leave_25 (fun v5 s6 => ?_)
      refine k_if_le (tgt := 34) h dX9_leave_28 (by decide) ?_ ?_
      · refine k_aload_n h 0 dX9_leave_34 rfl rfl ?_
        refine k_getR h fX9_26 (Or.inl (mw7 11 rfl)) dX9_leave_35 (fun v7 => ?_)
        refine k_iload_n h 1 dX9_leave_38 rfl rfl ?_
        refine k_iconst (v := 1) h dX9_leave_39 (by decide) ?_
        refine k_asZ h dX9_leave_40 (fun s8 => ?_)
        refine k_aload_n h 0 dX9_leave_41 rfl rfl ?_
        refine k_getR h fX9_29 (Or.inl (mw7 14 rfl)) dX9_leave_42 (fun v9 => ?_)
        refine k_iload_n h 1 dX9_leave_45 rfl rfl ?_
        refine k_aload_n h 0 dX9_leave_46 rfl rfl ?_
        refine k_getI h fX9_34 (Or.inl (mw25 4 rfl)) dX9_leave_47 (fun v10 => ?_)
        refine k_asI h dX9_leave_50 (fun s11 => ?_)
        refine k_aload_n h 0 dX9_leave_51 rfl rfl ?_
        refine k_getR h fX9_30 (Or.inl (mw7 15 rfl)) dX9_leave_52 (fun v12 => ?_)
        refine k_iload_n h 1 dX9_leave_55 rfl rfl ?_
        refine k_aload_n h 0 dX9_leave_56 rfl rfl ?_
        refine k_getI h fX9_35 (Or.inl (mw25 9 rfl)) dX9_leave_57 (fun v13 => ?_)
        refine k_asI h dX9_leave_60 (fun s14 => ?_)
        refine k_iconst (v := 0) h dX9_leave_61 (by decide) ?_
        refine k_istore_n (lv' := [(3, LI 0), (0, LR (some a0)), (1, LI p1), (2, LI p2)]) h dX9_leave_62 rfl (by decide) rfl ?_
        refine k_sub (lv' := [(0, LR (some a0)), (1, LI p1), (3, LI 0)]) h [1, 2, 0] rfl ?_
        refine k_lp (A := Int32) (fun q15 => [(0, LR (some a0)), (1, LI p1), (3, LI q15)]) (fun q15 => []) (fun r17 hr17 q15 s16 => ?_) FU 0 s14
        unfold mX9_leave_b63
        refine k_iload_n h 2 dX9_leave_63 rfl rfl ?_
        refine k_bipush (v := 12) h dX9_leave_64 (by decide) ?_
        refine k_icmp_ge (tgt := 109) h dX9_leave_66 (by decide) ?_ ?_
        · refine k_aload_n h 0 dX9_leave_109 rfl rfl ?_
          refine k_iload_n h 1 dX9_leave_110 rfl rfl ?_
          refine k_callVI (As := [LI p1]) (st := []) (x0 := (some a0)) (xg := fun a22 => mX9_jumpersIn a22 p1 s16) h (fun a22 => ctX9_jumpersIn l B D cA sa a22 p1 s16) calX9_jumpersIn rfl (by decide) (mw35 20 rfl) (mw35 21 rfl) (Or.inl (mw35 19 rfl)) hgood ⟨rfl, rfl, Nat.le_of_ble_eq_true rfl, Nat.le_of_ble_eq_true rfl⟩ ⟨Nat.le_of_ble_eq_true rfl, Nat.le_of_ble_eq_true rfl⟩ rfl (Nat.le_of_ble_eq_true rfl) dX9_leave_111 (fun v18 s19 => ?_)
          refine k_istore_n (lv' := [(3, LI v18), (0, LR (some a0)), (1, LI p1)]) h dX9_leave_114 rfl (by decide) rfl ?_
          refine k_aload_n h 1 dX9_leave_115 rfl rfl ?_
          refine k_dup h dX9_leave_116 rfl ?_
          refine k_getI h fX9_31 (Or.inl (mw38 6 rfl)) dX9_leave_117 (fun v20 => ?_)
          refine k_iload_n h 0 dX9_leave_120 rfl rfl ?_
          refine k_iadd h dX9_leave_121 ?_
          refine k_putI h fX9_31 (Or.inl (mw38 6 rfl)) rfl dX9_leave_122 (fun s21 => ?_)
          refine k_iload_n h 0 dX9_leave_125 rfl rfl ?_
          exact k_iret h rfl dX9_leave_126 (Nat.le_of_ble_eq_true rfl) (Nat.le_of_ble_eq_true rfl)
        · refine k_aload_n h 0 dX9_leave_69 rfl rfl ?_
          refine k_getR h fX9_27 (Or.inl (mw7 12 rfl)) dX9_leave_70 (fun v23 => ?_)
          refine k_bipush (v := 12) h dX9_leave_73 (by decide) ?_
          refine k_iload_n h 1 dX9_leave_75 rfl rfl ?_
          refine k_imul h dX9_leave_76 ?_
          refine k_iload_n h 2 dX9_leave_77 rfl rfl ?_
          refine k_iadd h dX9_leave_78 ?_
          refine k_aload_n h 0 dX9_leave_79 rfl rfl ?_
          refine k_getR h fX9_3 (Or.inl (mw6 14 rfl)) dX9_leave_80 (fun v24 => ?_)
          refine k_iload_n h 2 dX9_leave_83 rfl rfl ?_
          refine k_alI h dX9_leave_84 (fun v25 => ?_)
          refine k_asI h dX9_leave_85 (fun s26 => ?_)
          refine k_aload_n h 0 dX9_leave_86 rfl rfl ?_
          refine k_getR h fX9_28 (Or.inl (mw7 13 rfl)) dX9_leave_87 (fun v27 => ?_)
          refine k_bipush (v := 12) h dX9_leave_90 (by decide) ?_
          refine k_iload_n h 1 dX9_leave_92 rfl rfl ?_
          refine k_imul h dX9_leave_93 ?_
          refine k_iload_n h 2 dX9_leave_94 rfl rfl ?_
          refine k_iadd h dX9_leave_95 ?_
          refine k_aload_n h 0 dX9_leave_96 rfl rfl ?_
          refine k_getR h fX9_4 (Or.inl (mw6 15 rfl)) dX9_leave_97 (fun v28 => ?_)
          refine k_iload_n h 2 dX9_leave_100 rfl rfl ?_
          refine k_alI h dX9_leave_101 (fun v29 => ?_)
          refine k_asI h dX9_leave_102 (fun s30 => ?_)
          refine k_iinc (w := (q15 + 1)) (lv' := [(3, LI (q15 + 1)), (0, LR (some a0)), (1, LI p1)]) h 2 dX9_leave_103 rfl rfl (by decide) rfl ?_
          refine k_goto (tgt := 63) h dX9_leave_106 (by decide) ?_
          refine k_sub (lv' := [(0, LR (some a0)), (1, LI p1), (3, LI (q15 + 1))]) h [1, 2, 0] rfl ?_
          exact hr17 (q15 + 1) s30
      · refine k_bipush (v := (-6)) h dX9_leave_31 (by decide) ?_
        exact k_iret h rfl dX9_leave_33 (Nat.le_of_ble_eq_true rfl) (Nat.le_of_ble_eq_true rfl)
    · refine k_iconst (v := (-1)) h dX9_leave_20 (by decide) ?_
      exact k_iret h rfl dX9_leave_21 (Nat.le_of_ble_eq_true rfl) (Nat.le_of_ble_eq_true rfl)
def mX9_many_b4 (a0 : Nat) (p1 : Int32) (r3 : (Int32 × Int32) → Sg → Option (Int32 × Sg)) (q1 : Int32 × Int32) (s2 : Sg) : Option (Int32 × Sg) :=
gdI s2 9 20 (some a0) fun v4 =>
if v4 ≤ q1.2 then (
swc p1 0 [
gdI s2 9 8 (some a0) fun v5 =>
some (v5, s2),
gdI s2 9 20 (some a0) fun v6 =>
some (v6, s2),
some (q1.1, s2),
gdI s2 9 31 (some a0) fun v7 =>
some (v7, s2)] (
some ((-1), s2)))
else (
gdR s2 9 26 (some a0) fun v8 =>
alZ s2 v8 q1.2 fun v9 =>
if v9 = 0 then (
r3 ((q1.1 + 0), (q1.2 + 1)) s2)
else (
r3 ((q1.1 + 1), (q1.2 + 1)) s2))
def mX9_many (a0 : Nat) (p1 : Int32) (s0 : Sg) : Option (Int32 × Sg) :=
lp (mX9_many_b4 a0 p1) FU (0, 0) s0
def rmX9_many : Room := { frames := 0, cells := 0, slots := 0, locals := 0 }
theorem calX9_many : Cal yX9_many cX9_many 4 (some .int) 1 := ⟨(mw38 22 rfl), (mw1 5 rfl), by decide, by decide, by decide +kernel⟩
set_option maxHeartbeats 4000000 in
set_option maxRecDepth 100000 in
theorem ctX9_many (l : Launch) (B : Nat) (D : va_G) (cA : Nat → ClassId) (sa : Nat → Nat) (a0 : Nat) (p1 : Int32) (s0 : Sg) : Ct l B D cA sa yX9_many cX9_many 4 (some .int) rmX9_many rI [LR (some a0), LI p1] s0 0 0 (mX9_many a0 p1 s0) := by
  refine Ct.of (own := RX9) (by decide) rfl _ (Nat.le_of_ble_eq_true rfl) rfl ?_
  intro p e s m args below meth c h hi
  unfold mX9_many
  refine k_iconst (v := 0) h dX9_many_0 (by decide) ?_
  refine k_istore_n (lv' := [(2, LI 0), (0, LR (some a0)), (1, LI p1)]) h dX9_many_1 rfl (by decide) rfl ?_
  refine k_iconst (v := 0) h dX9_many_2 (by decide) ?_
  refine k_istore_n (lv' := [(3, LI 0), (2, LI 0), (0, LR (some a0)), (1, LI p1)]) h dX9_many_3 rfl (by decide) rfl ?_
  refine k_sub (lv' := [(0, LR (some a0)), (1, LI p1), (2, LI 0), (3, LI 0)]) h [2, 3, 1, 0] rfl ?_
  refine k_lp (A := Int32 × Int32) (fun q1 => [(0, LR (some a0)), (1, LI p1), (2, LI q1.1), (3, LI q1.2)]) (fun q1 => []) (fun r3 hr3 q1 s2 => ?_) FU (0, 0) s0
  unfold mX9_many_b4
  refine k_iload_n h 3 dX9_many_4 rfl rfl ?_
  refine k_aload_n h 0 dX9_many_5 rfl rfl ?_
  refine k_getI h fX9_20 (Or.inl (mw17 4 rfl)) dX9_many_6 (fun v4 => ?_)
  refine k_icmp_ge (tgt := 35) h dX9_many_9 (by decide) ?_ ?_
  · refine k_iload_n h 1 dX9_many_35 rfl rfl ?_
    refine k_table (tg := 85) (tgs := [68, 73, 78, 80]) h dX9_many_36 (by decide) (by decide) rfl (by decide) ?_ ?_
    · refine k_iconst (v := (-1)) h dX9_many_85 (by decide) ?_
      exact k_iret h rfl dX9_many_86 (Nat.le_of_ble_eq_true rfl) (Nat.le_of_ble_eq_true rfl)
    · intro q9 hq9
      simp only [List.zip_cons_cons, List.zip_nil_right, List.zip_nil_left, List.mem_cons, List.not_mem_nil, or_false] at hq9
      rcases hq9 with rfl | rfl | rfl | rfl
      · dsimp only
        refine k_aload_n h 0 dX9_many_68 rfl rfl ?_
        refine k_getI h fX9_8 (Or.inl (mw15 18 rfl)) dX9_many_69 (fun v5 => ?_)
        exact k_iret h rfl dX9_many_72 (Nat.le_of_ble_eq_true rfl) (Nat.le_of_ble_eq_true rfl)
      · dsimp only
        refine k_aload_n h 0 dX9_many_73 rfl rfl ?_
        refine k_getI h fX9_20 (Or.inl (mw17 4 rfl)) dX9_many_74 (fun v6 => ?_)
        exact k_iret h rfl dX9_many_77 (Nat.le_of_ble_eq_true rfl) (Nat.le_of_ble_eq_true rfl)
      · dsimp only
        refine k_iload_n h 2 dX9_many_78 rfl rfl ?_
        exact k_iret h rfl dX9_many_79 (Nat.le_of_ble_eq_true rfl) (Nat.le_of_ble_eq_true rfl)
      · dsimp only
        refine k_aload_n h 0 dX9_many_80 rfl rfl ?_
        refine k_getI h fX9_31 (Or.inl (mw38 6 rfl)) dX9_many_81 (fun v7 => ?_)
        exact k_iret h rfl dX9_many_84 (Nat.le_of_ble_eq_true rfl) (Nat.le_of_ble_eq_true rfl)
  · refine k_iload_n h 2 dX9_many_12 rfl rfl ?_
    refine k_aload_n h 0 dX9_many_13 rfl rfl ?_
    refine k_getR h fX9_26 (Or.inl (mw7 11 rfl)) dX9_many_14 (fun v8 => ?_)
    refine k_iload_n h 3 dX9_many_17 rfl rfl ?_
    refine k_alZ h dX9_many_18 (fun v9 => ?_)
    refine k_if_eq (tgt := 26) h dX9_many_19 (by decide) ?_ ?_
    · refine k_iconst (v := 0) h dX9_many_26 (by decide) ?_
      refine k_iadd h dX9_many_27 ?_
      refine k_istore_n (lv' := [(2, LI (q1.1 + 0)), (0, LR (some a0)), (1, LI p1), (3, LI q1.2)]) h dX9_many_28 rfl (by decide) rfl ?_
      refine k_iinc (w := (q1.2 + 1)) (lv' := [(3, LI (q1.2 + 1)), (2, LI (q1.1 + 0)), (0, LR (some a0)), (1, LI p1)]) h 3 dX9_many_29 rfl rfl (by decide) rfl ?_
      refine k_goto (tgt := 4) h dX9_many_32 (by decide) ?_
      refine k_sub (lv' := [(0, LR (some a0)), (1, LI p1), (2, LI (q1.1 + 0)), (3, LI (q1.2 + 1))]) h [2, 3, 1, 0] rfl ?_
      exact hr3 ((q1.1 + 0), (q1.2 + 1)) s2
    · refine k_iconst (v := 1) h dX9_many_22 (by decide) ?_
      refine k_goto (tgt := 27) h dX9_many_23 (by decide) ?_
      refine k_iadd h dX9_many_27 ?_
      refine k_istore_n (lv' := [(2, LI (q1.1 + 1)), (0, LR (some a0)), (1, LI p1), (3, LI q1.2)]) h dX9_many_28 rfl (by decide) rfl ?_
      refine k_iinc (w := (q1.2 + 1)) (lv' := [(3, LI (q1.2 + 1)), (2, LI (q1.1 + 1)), (0, LR (some a0)), (1, LI p1)]) h 3 dX9_many_29 rfl rfl (by decide) rfl ?_
      refine k_goto (tgt := 4) h dX9_many_32 (by decide) ?_
      refine k_sub (lv' := [(0, LR (some a0)), (1, LI p1), (2, LI (q1.1 + 1)), (3, LI (q1.2 + 1))]) h [2, 3, 1, 0] rfl ?_
      exact hr3 ((q1.1 + 1), (q1.2 + 1)) s2
