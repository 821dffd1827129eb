/-! SPOT: the least and the greatest start -/
noncomputable def dri (s : Sg) (l : Nat) (V : Int32) (H : Nat) (wx : Nat → Int32) (i : Nat) : Int := V.toInt * (pN s l i : Int) + gxd s (pgi s l i) V H wx
def sLo (D : Nat → Int) (W : Nat → Nat) : Nat → Int
  | 0 => -50000
  | i + 1 => max (sLo D W i) (-(D i) - (W i : Int))
def sHi (D : Nat → Int) (W : Nat → Nat) : Nat → Int
  | 0 => 50000
  | i + 1 => min (sHi D W i) (-(D i) + (W i : Int))
theorem sLo_b {D : Nat → Int} {W : Nat → Nat} : ∀ i, (∀ j, j < i → -3000000 ≤ D j ∧ D j ≤ 3000000 ∧ W j ≤ 3000000) → -50000 ≤ sLo D W i ∧ sLo D W i ≤ 3000000 ∧ -6000000 ≤ sHi D W i ∧ sHi D W i ≤ 50000
  | 0, _ => ⟨Int.le_refl _, by show (-50000 : Int) ≤ 3000000; decide, by show (-6000000 : Int) ≤ 50000; decide, Int.le_refl _⟩
  | i + 1, h => by
    have ih := sLo_b (D := D) (W := W) i (fun j hj => h j (by omega))
    have := h i (by omega)
    show -50000 ≤ max (sLo D W i) (-(D i) - (W i : Int)) ∧ max (sLo D W i) (-(D i) - (W i : Int)) ≤ 3000000 ∧ -6000000 ≤ min (sHi D W i) (-(D i) + (W i : Int)) ∧ min (sHi D W i) (-(D i) + (W i : Int)) ≤ 50000
    omega
theorem mxI_i {a b : Int32} : (mxI a b).toInt = max a.toInt b.toInt := by
  unfold mxI
  by_cases h : a < b
  · rw [if_pos h]
    rw [Int32.lt_iff_toInt_lt] at h
    omega
  · rw [if_neg h]
    rw [Int32.lt_iff_toInt_lt] at h
    omega
theorem mnI_i {a b : Int32} : (mnI a b).toInt = min a.toInt b.toInt := by
  unfold mnI
  by_cases h : b < a
  · rw [if_pos h]
    rw [Int32.lt_iff_toInt_lt] at h
    omega
  · rw [if_neg h]
    rw [Int32.lt_iff_toInt_lt] at h
    omega
theorem neg_B {a : Int32} (h1 : -2147483648 < a.toInt) : (-a).toInt = -a.toInt := by
  have h2 : a.toInt < 2147483648 := a.toInt_lt
  rw [← Int32.zero_sub, sub_B]
  · have : (0 : Int32).toInt = 0 := rfl
    omega
  · have : (0 : Int32).toInt = 0 := rfl
    omega
  · have : (0 : Int32).toInt = 0 := rfl
    omega
theorem negL_B {a : Int64} (h1 : -9223372036854775808 < a.toInt) : (-a).toInt = -a.toInt := by
  have h2 : a.toInt < 9223372036854775808 := a.toInt_lt
  have h0 : (0 : Int64).toInt = 0 := rfl
  rw [← Int64.zero_sub, suL_B (by omega) (by omega)]
  omega
theorem st_cancel (a b : Int32) : a + b - a = b := by grind
theorem to32 {x : Int64} (h1 : -2147483648 ≤ x.toInt) (h2 : x.toInt < 2147483648) : (Int64.toInt32 x).toInt = x.toInt := by
  rw [Int64.toInt_toInt32]; exact Int.bmod_eq_of_le (by omega) (by omega)
theorem sL_s {s : Sg} {a k : Nat} {v : Int64} : sL (uL s a k v) a k = v := u2_s _ _ _ _
theorem sL_nk {s : Sg} {a b j k : Nat} {v : Int64} (h : j ≠ k) : sL (uL s a k v) b j = sL s b j := u2_k _ _ _ _ h
theorem mL' {β : Type} {s : Sg} {k : Nat} {f : Int64 → Option β} (hN : sN s = 249) : gdL s 9 k (some 207) f = f (sL s 207 k) := gdL_at (by decide) (by rw [hN]; decide)
section SPOT
variable {s s1 : Sg} {P A ax ay H n l m i : Nat} {V : Int32} {wx wy : Nat → Int32}
theorem dri_b (hr : Rel s) (hn : n < 13) (e : sI s 207 20 = nI n) (hl : l < n) (hv : LV s l m) (hP : PA s P A ax ay V H wx wy) (hi : i < m) : (-1000000 ≤ gxd s (pgi s l i) V H wx ∧ gxd s (pgi s l i) V H wx ≤ 1000000) ∧ (V * nI (pN s l i)).toInt = V.toInt * (pN s l i : Int) ∧ 0 ≤ V.toInt * (pN s l i : Int) ∧ V.toInt * (pN s l i : Int) ≤ 216000 ∧ pN s l i ≤ 360 := by
  have hm := hv.2.1
  obtain ⟨g1, g2, g3⟩ := hr.lgi hn e hl hv hi
  have hW := hr.wd g1 hP.hH
  obtain ⟨p1, p2⟩ := hv.pQ i hi
  have hx := (wb_g hP s (pgi s l i) (gOD s (pgi s l i) H).2 (by have := hW.2.2.1; omega)).1
  obtain ⟨v1, v2, v3⟩ := vp_b (p := pN s l i) hP.hV (by omega)
  refine ⟨hx, ?_, v2, v3, by omega⟩
  have e2 : (nI (pN s l i)).toInt = (pN s l i : Int) := nI_toInt (by omega)
  rw [mul_B (by rw [e2]; omega) (by rw [e2]; omega), e2]
/-- the reference finds the starts -/
theorem findStarts_ok (hr : Rel s) (hS : MEq s s1) (hT : TD s1 V H wx wy) (hn : n < 13) (e : sI s 207 20 = nI n) (hl : l < n) (hv : LV s l m) (hP : PA s P A ax ay V H wx wy) : ∃ s', mX9_findStarts 207 (nI l) s1 = some ((), s') ∧ Scr s1 s' ∧ TD s' V H wx wy ∧ (((∀ i, i < m → 0 ≤ (rst s (pgi s l i) H wy).toInt) ∧ (sL s' 207 46).toInt = sLo (dri s l V H wx) (fun i => wid s (pgi s l i) H wy) m ∧ (sL s' 207 47).toInt = sHi (dri s l V H wx) (fun i => wid s (pgi s l i) H wy) m) ∨ ((∃ i, i < m ∧ (rst s (pgi s l i) H wy).toInt < 0) ∧ (sL s' 207 47).toInt < (sL s' 207 46).toInt)) := by
  have hM := hr.1.m
  have hN := hM.1
  have hN1 : sN s1 = 249 := hS.1.1
  obtain ⟨hl12, hm, z1, z2, z3, z9, -, z4⟩ := id hv
  have hb : ∀ j, j < m → 0 ≤ (rst s (pgi s l j) H wy).toInt → -3000000 ≤ dri s l V H wx j ∧ dri s l V H wx j ≤ 3000000 ∧ wid s (pgi s l j) H wy ≤ 3000000 := fun j hj h0 => by
    obtain ⟨b1, b2, b3, b4, b5⟩ := dri_b hr hn e hl hv hP hj
    have w1 := (wid_b hr hP (hr.lgi hn e hl hv hj).1 h0).1
    unfold dri
    omega
  unfold mX9_findStarts
  rw [ptL_at (by decide) (by omega), ptL_at (by decide) (by rw [sN_uL]; omega)]
  refine lp_inv (F := mX9_findStarts_b16 207 (nI l)) (n := m) (I := fun i q s' => q = nI i ∧ Scr s1 s' ∧ TD s' V H wx wy ∧ (∀ j, j < i → 0 ≤ (rst s (pgi s l j) H wy).toInt) ∧ (sL s' 207 46).toInt = sLo (dri s l V H wx) (fun i => wid s (pgi s l i) H wy) i ∧ (sL s' 207 47).toInt = sHi (dri s l V H wx) (fun i => wid s (pgi s l i) H wy) i) (Q := fun x => ∃ s', x = some ((), s') ∧ Scr s1 s' ∧ TD s' V H wx wy ∧ (((∀ i, i < m → 0 ≤ (rst s (pgi s l i) H wy).toInt) ∧ (sL s' 207 46).toInt = sLo (dri s l V H wx) (fun i => wid s (pgi s l i) H wy) m ∧ (sL s' 207 47).toInt = sHi (dri s l V H wx) (fun i => wid s (pgi s l i) H wy) m) ∨ ((∃ i, i < m ∧ (rst s (pgi s l i) H wy).toInt < 0) ∧ (sL s' 207 47).toInt < (sL s' 207 46).toInt))) (fun q s' r h => ?_) (fun i q s' r hi h hr' => ?_) FU 0 (Nat.zero_le _) (show m - 0 < 4000 by omega) 0 _ ⟨rfl, Scr.rf (s := s1), hT, fun j hj => absurd hj (Nat.not_lt_zero j), ?_, ?_⟩
  · obtain ⟨rfl, c1, c2, c3, c4, c5⟩ := h
    have hS' := hS.tr c1
    have hM' := hS'.1
    refine ⟨s', ?_, c1, c2, Or.inl ⟨c3, c4, c5⟩⟩
    unfold mX9_findStarts_b16
    rw [mR hM' 22 228 rfl (by decide) (by decide), alI_n (show l < ln 228 from hl12) (by decide) (by rw [hM'.1]; decide), hS'.eq (a := 228) (by omega), z1, if_pos (Int32.le_refl _)]
  · obtain ⟨rfl, c1, c2, c3, c4, c5⟩ := h
    have hS' := hS.tr c1
    have hM' := hS'.1
    have hN' := hM'.1
    obtain ⟨g1, g2, g3⟩ := hr.lgi hn e hl hv hi
    have hg20 := g1.1
    obtain ⟨b1, b2, b3, b4, b5⟩ := dri_b hr hn e hl hv hP hi
    obtain ⟨p1, p2⟩ := hv.pQ i hi
    have hW := hr.wd g1 hP.hH
    have hd := hW.2.2.1
    obtain ⟨sa, a1, a2, a3, a4, -, -, a6⟩ := mLay2 (w := 0) hr hS' c2 hP g1 (by decide)
    have hSa := hS'.tr a2
    have hMa := hSa.1
    have hNa := hMa.1
    obtain ⟨u1, u2, u3, u4, u5⟩ := id a4
    obtain ⟨x1, x2, -⟩ := u1 (gOD s (pgi s l i) H).2 (by omega)
    simp only [Nat.mul_zero, Nat.zero_add] at x1 x2
    have hlt : (gOD s (pgi s l i) H).2 < 2002 := by omega
    have eR : Int32.toInt64 (sI s 226 1) + Int32.toInt64 (sI s 218 (pgi s l i)) * Int32.toInt64 (nI ((gOD s (pgi s l i) H).2 - (gOD s (pgi s l i) H).1)) = rch s (pgi s l i) H := rfl
    have eY : Int32.toInt64 (gwY s (pgi s l i) H wy (gOD s (pgi s l i) H).2) = gyd s (pgi s l i) H wy := rfl
    have eT : rch s (pgi s l i) H * rch s (pgi s l i) H - gyd s (pgi s l i) H wy * gyd s (pgi s l i) H wy = rst s (pgi s l i) H wy := rfl
    have e0 : (0 : Int64).toInt = 0 := rfl
    have pre : ∀ r', mX9_findStarts_b16 207 (nI l) r' (nI i) s' = (if 0 ≤ (lg_cmp (rst s (pgi s l i) H wy) 0) then (cl (mX9_root (rst s (pgi s l i) H wy) sa) fun v29 s30 => gdL s30 9 46 (some 207) fun v31 => jn (fun (q32 : Int64) (s33 : Sg) => ptL s33 9 46 (some 207) q32 fun s35 => gdL s35 9 47 (some 207) fun v36 => if 0 ≤ (lg_cmp (v29 - (((Int32.toInt64 V) * (Int32.toInt64 (nI (pN s l i)))) + (Int32.toInt64 (gwX s (pgi s l i) V H wx (gOD s (pgi s l i) H).2)))) v36) then (gdL s35 9 47 (some 207) fun v37 => ptL s35 9 47 (some 207) v37 fun s38 => r' (nI i + 1) s38) else (ptL s35 9 47 (some 207) (v29 - (((Int32.toInt64 V) * (Int32.toInt64 (nI (pN s l i)))) + (Int32.toInt64 (gwX s (pgi s l i) V H wx (gOD s (pgi s l i) H).2)))) fun s39 => r' (nI i + 1) s39)) (fun j34 => if (lg_cmp ((-v29) - (((Int32.toInt64 V) * (Int32.toInt64 (nI (pN s l i)))) + (Int32.toInt64 (gwX s (pgi s l i) V H wx (gOD s (pgi s l i) H).2)))) v31) ≤ 0 then (gdL s30 9 46 (some 207) fun v40 => j34 v40 s30) else (j34 ((-v29) - (((Int32.toInt64 V) * (Int32.toInt64 (nI (pN s l i)))) + (Int32.toInt64 (gwX s (pgi s l i) V H wx (gOD s (pgi s l i) H).2)))) s30))) else (gdL sa 9 46 (some 207) fun v41 => ptL sa 9 47 (some 207) (v41 - 1) fun s42 => some ((), s42))) := by
      intro r'
      unfold mX9_findStarts_b16
      rw [mR hM' 22 228 rfl (by decide) (by decide), alI_n (show l < ln 228 from hl12) (by decide) (by rw [hN']; decide), hS'.eq (a := 228) (by omega), z1, if_neg (nI_ge hi (by omega)), mR hM' 23 229 rfl (by decide) (by decide), i6, alI_n (show _ < ln 229 from show _ < 72 by omega) (by decide) (by rw [hN']; decide), hS'.eq (a := 229) (by omega), g2, c9 hN', show (0 : Int32) = nI 0 from rfl, a1, cl_some, mI hNa, a3.1, c9 hNa, mLeavesAt hMa hl12 (by omega), cl_some, psum_me hSa, p1, mR hMa 36 239 rfl (by decide) (by decide), mR hMa 40 243 rfl (by decide) (by decide), alI_n (n := 0) (by decide) (by decide) (by rw [hNa]; decide), u2, alI_n (show _ < ln 239 from hlt) (by decide) (by rw [hNa]; decide), x1, mR hMa 37 240 rfl (by decide) (by decide), mR hMa 40 243 rfl (by decide) (by decide), alI_n (n := 0) (by decide) (by decide) (by rw [hNa]; decide), u2, alI_n (show _ < ln 240 from hlt) (by decide) (by rw [hNa]; decide), x2, mR hMa 19 226 rfl (by decide) (by decide), alI_at (i := 1) (n := 1) rfl (by decide) (by decide) (by rw [hNa]; decide), hSa.eq (a := 226) (by omega), mR hMa 11 218 rfl (by decide) (by decide), alI_n (show _ < ln 218 from hg20) (by decide) (by rw [hNa]; decide), hSa.eq (a := 218) (by omega), mR hMa 41 244 rfl (by decide) (by decide), alI_n (n := 0) (by decide) (by decide) (by rw [hNa]; decide), u3, eR, eY, eT]
    have eD : (((Int32.toInt64 V) * (Int32.toInt64 (nI (pN s l i)))) + (Int32.toInt64 (gwX s (pgi s l i) V H wx (gOD s (pgi s l i) H).2))).toInt = dri s l V H wx i := by
      obtain ⟨v1, v2, v3⟩ := vp_b (p := pN s l i) hP.hV b5
      have ex : (Int32.toInt64 (gwX s (pgi s l i) V H wx (gOD s (pgi s l i) H).2)).toInt = gxd s (pgi s l i) V H wx := t64 _
      rw [adL_B (by rw [v1, ex]; omega) (by rw [v1, ex]; omega), v1, ex]
      rfl
    have hdb : -3000000 ≤ dri s l V H wx i ∧ dri s l V H wx i ≤ 3000000 := by
      unfold dri
      omega
    have hLb := sLo_b (D := dri s l V H wx) (W := fun i => wid s (pgi s l i) H wy) i (fun j hj => hb j (by omega) (c3 j hj))
    have s46 : (sL sa 207 46).toInt = sLo (dri s l V H wx) (fun i => wid s (pgi s l i) H wy) i := by rw [a6]; exact c4
    have s47 : (sL sa 207 47).toInt = sHi (dri s l V H wx) (fun i => wid s (pgi s l i) H wy) i := by rw [a6]; exact c5
    rw [pre r]
    generalize hXd : (((Int32.toInt64 V) * (Int32.toInt64 (nI (pN s l i)))) + (Int32.toInt64 (gwX s (pgi s l i) V H wx (gOD s (pgi s l i) H).2))) = X at eD
    by_cases hc : 0 ≤ (rst s (pgi s l i) H wy).toInt
    · have h42 := (rst_b hr hP g1).2.2.2.2.2.2.2.1
      obtain ⟨R, r1, r2⟩ := mRoot_ok (s := sa) (v := rst s (pgi s l i) H wy) (n := (rst s (pgi s l i) H wy).toInt.toNat) (by omega) (by omega)
      have r3 : R.toInt = (wid s (pgi s l i) H wy : Int) := r2
      have hwb := (wid_b hr hP g1 hc).1
      have eA : (-R - X).toInt = -(dri s l V H wx i) - (wid s (pgi s l i) H wy : Int) := by
        have en : (-R).toInt = -R.toInt := negL_B (by omega)
        rw [suL_B (by rw [en, eD, r3]; omega) (by rw [en, eD, r3]; omega), en, eD, r3]
        omega
      have eB : (R - X).toInt = -(dri s l V H wx i) + (wid s (pgi s l i) H wy : Int) := by
        rw [suL_B (by rw [eD, r3]; omega) (by rw [eD, r3]; omega), eD, r3]
        omega
      rw [if_pos (lgc_ge.mpr (by rw [e0]; exact hc)), r1, cl_some, mL' hNa, jn_eq]
      have stp : ∀ (L1 : Int64), L1.toInt = sLo (dri s l V H wx) (fun i => wid s (pgi s l i) H wy) (i + 1) → ∃ L2 : Int64, L2.toInt = sHi (dri s l V H wx) (fun i => wid s (pgi s l i) H wy) (i + 1) ∧ (ptL sa 9 46 (some 207) L1 fun s35 => gdL s35 9 47 (some 207) fun v36 => if 0 ≤ (lg_cmp (R - X) v36) then (gdL s35 9 47 (some 207) fun v37 => ptL s35 9 47 (some 207) v37 fun s38 => r (nI i + 1) s38) else (ptL s35 9 47 (some 207) (R - X) fun s39 => r (nI i + 1) s39)) = r (nI (i + 1)) (uL (uL sa 207 46 L1) 207 47 L2) := by
        intro L1 hL1
        rw [ptL_at (by decide) (by rw [hNa]; decide), mL' (show sN (uL sa 207 46 L1) = 249 from hNa), sL_nk (by decide), nI_1]
        by_cases hq : (sL sa 207 47).toInt ≤ (R - X).toInt
        · refine ⟨sL sa 207 47, ?_, ?_⟩
          · rw [s47]
            rw [s47, eB] at hq
            show _ = min _ _
            dsimp only
            omega
          · rw [if_pos (lgc_ge.mpr hq), mL' (show sN (uL sa 207 46 L1) = 249 from hNa), sL_nk (by decide), ptL_at (by decide) (by rw [sN_uL, hNa]; decide)]
        · refine ⟨R - X, ?_, ?_⟩
          · rw [eB]
            rw [s47, eB] at hq
            show _ = min _ _
            dsimp only
            omega
          · rw [if_neg (fun z => hq (lgc_ge.mp z)), ptL_at (by decide) (by rw [sN_uL, hNa]; decide)]
      have fin : ∀ (L1 L2 : Int64), L1.toInt = sLo (dri s l V H wx) (fun i => wid s (pgi s l i) H wy) (i + 1) → L2.toInt = sHi (dri s l V H wx) (fun i => wid s (pgi s l i) H wy) (i + 1) → ∃ s', r (nI (i + 1)) (uL (uL sa 207 46 L1) 207 47 L2) = some ((), s') ∧ Scr s1 s' ∧ TD s' V H wx wy ∧ (((∀ i, i < m → 0 ≤ (rst s (pgi s l i) H wy).toInt) ∧ (sL s' 207 46).toInt = sLo (dri s l V H wx) (fun i => wid s (pgi s l i) H wy) m ∧ (sL s' 207 47).toInt = sHi (dri s l V H wx) (fun i => wid s (pgi s l i) H wy) m) ∨ ((∃ i, i < m ∧ (rst s (pgi s l i) H wy).toInt < 0) ∧ (sL s' 207 47).toInt < (sL s' 207 46).toInt)) := by
        intro L1 L2 h1 h2
        refine hr' _ _ ⟨rfl, c1.tr a2, a3, fun j hj => ?_, ?_, ?_⟩
        · by_cases hji : j = i
          · subst hji; exact hc
          · exact c3 j (by omega)
        · rw [sL_nk (by decide), sL_s]; exact h1
        · rw [sL_s]; exact h2
      by_cases hq : (-R - X).toInt ≤ (sL sa 207 46).toInt
      · have hL1 : (sL sa 207 46).toInt = sLo (dri s l V H wx) (fun i => wid s (pgi s l i) H wy) (i + 1) := by
          rw [s46]
          rw [s46, eA] at hq
          show _ = max _ _
          dsimp only
          omega
        obtain ⟨L2, q1, q2⟩ := stp _ hL1
        rw [if_pos (lgc_le.mpr hq), mL' hNa]
        dsimp only
        rw [q2]
        exact fin _ _ hL1 q1
      · have hL1 : (-R - X).toInt = sLo (dri s l V H wx) (fun i => wid s (pgi s l i) H wy) (i + 1) := by
          rw [eA]
          rw [s46, eA] at hq
          show _ = max _ _
          dsimp only
          omega
        obtain ⟨L2, q1, q2⟩ := stp _ hL1
        rw [if_neg (fun z => hq (lgc_le.mp z))]
        dsimp only
        rw [q2]
        exact fin _ _ hL1 q1
    · rw [if_neg (fun z => hc (by have := lgc_ge.mp z; rw [e0] at this; exact this)), mL' hNa, ptL_at (by decide) (by rw [hNa]; decide)]
      refine ⟨_, rfl, c1.tr a2, a3, Or.inr ⟨⟨i, hi, by omega⟩, ?_⟩⟩
      rw [sL_s, sL_nk (by decide)]
      have e1 : (1 : Int64).toInt = 1 := rfl
      rw [suL_B (by rw [s46, e1]; omega) (by rw [s46, e1]; omega), e1]
      omega
  · show (sL (uL (uL s1 207 46 (-50000)) 207 47 50000) 207 46).toInt = -50000
    rw [sL_nk (by decide), sL_s]
    rfl
  · show (sL (uL (uL s1 207 46 (-50000)) 207 47 50000) 207 47).toInt = 50000
    rw [sL_s]
    rfl
end SPOT
