section SPC
variable {s s1 : Sg} {P A ax ay H n l m i : Nat} {V p2 : Int32} {wx wy : Nat → Int32}
theorem Rel.st {s : Sg} (hr : Rel s) {l : Nat} (hl : l < 12) : sI s (99 + 7 * l) 7 = sI s 231 l := by
  obtain ⟨r0, r1, r2, r3, r4, r5, r6, ⟨en, n, hn, en2, hL⟩, r8⟩ := hr
  exact (hL l hl).2.1
theorem cLeav (hr : Rel s) (hS : Scr s s1) (hv : LV s l m) (hP : PA s P A ax ay V H wx wy) (e4 : sR s (99 + 7 * l) 4 = some P) (hi : i < m) : mX5_leavesAtX (99 + 7 * l) (nI i) s1 = some (sI s 231 l + V * nI (pN s l i), s1) := by
  have hl12 := hv.1
  rw [leavesAtX_ok (hv.scr hS) hi ⟨hP.1.1, hP.1.2.1⟩ (by rw [hS.2.1]; exact e4) (hP.scr hS).2.1 ((hr.scr hS).st hl12), psum_scr hS, (hv.pQ i hi).1, hS.eq (a := 231) (by omega)]
theorem cSpot (hr : Rel s) (hS : Scr s s1) (hn : n < 13) (e : sI s 207 20 = nI n) (hl : l < n) (hv : LV s l m) (hP : PA s P A ax ay V H wx wy) (e4 : sR s (99 + 7 * l) 4 = some P) (hg : ∀ i, i < m → GW s s1 (183 + 4 * i) (pgi s l i) V H wx wy) : ∃ v, lp (mX8_spot_b39 (some (99 + 7 * l)) p2 0) FU (-50000, 50000, 0) s1 = some (v, s1) ∧ (((∀ i, i < m → 0 ≤ (rst s (pgi s l i) H wy).toInt) ∧ sLo (dri s l V H wx) (fun i => wid s (pgi s l i) H wy) m ≤ sHi (dri s l V H wx) (fun i => wid s (pgi s l i) H wy) m ∧ v.toInt = (if p2 = 0 then sLo (dri s l V H wx) (fun i => wid s (pgi s l i) H wy) m else sHi (dri s l V H wx) (fun i => wid s (pgi s l i) H wy) m)) ∨ (((∃ i, i < m ∧ (rst s (pgi s l i) H wy).toInt < 0) ∨ ((∀ i, i < m → 0 ≤ (rst s (pgi s l i) H wy).toInt) ∧ sHi (dri s l V H wx) (fun i => wid s (pgi s l i) H wy) m < sLo (dri s l V H wx) (fun i => wid s (pgi s l i) H wy) m)) ∧ v = -100001)) := by
  have hN1 := (hr.scr hS).1.1
  obtain ⟨hl12, hm, z1, z2, z3, z9, hM, z4⟩ := id hv
  obtain ⟨k1, k2, k3, k4, k5, -⟩ := kdLo l hl12
  have hR : sR s1 = sR s := hS.2.1
  refine lp_inv (F := mX8_spot_b39 (some (99 + 7 * l)) p2 0) (n := m) (I := fun i q s' => s' = s1 ∧ q.2.2 = nI i ∧ q.1.toInt = sLo (dri s l V H wx) (fun i => wid s (pgi s l i) H wy) i ∧ q.2.1.toInt = sHi (dri s l V H wx) (fun i => wid s (pgi s l i) H wy) i ∧ ∀ j, j < i → 0 ≤ (rst s (pgi s l j) H wy).toInt) (Q := fun x => ∃ v, x = some (v, s1) ∧ (((∀ i, i < m → 0 ≤ (rst s (pgi s l i) H wy).toInt) ∧ sLo (dri s l V H wx) (fun i => wid s (pgi s l i) H wy) m ≤ sHi (dri s l V H wx) (fun i => wid s (pgi s l i) H wy) m ∧ v.toInt = (if p2 = 0 then sLo (dri s l V H wx) (fun i => wid s (pgi s l i) H wy) m else sHi (dri s l V H wx) (fun i => wid s (pgi s l i) H wy) m)) ∨ (((∃ i, i < m ∧ (rst s (pgi s l i) H wy).toInt < 0) ∨ ((∀ i, i < m → 0 ≤ (rst s (pgi s l i) H wy).toInt) ∧ sHi (dri s l V H wx) (fun i => wid s (pgi s l i) H wy) m < sLo (dri s l V H wx) (fun i => wid s (pgi s l i) H wy) m)) ∧ v = -100001))) (fun q s' r h => ?_) (fun i q s' r hi h hr' => ?_) FU 0 (Nat.zero_le _) (show m - 0 < 4000 by omega) _ _ ⟨rfl, rfl, rfl, rfl, fun j hj => absurd hj (Nat.not_lt_zero j)⟩
  · obtain ⟨q1, q2, q3⟩ := q
    obtain ⟨rfl, c1, c2, c3, c4⟩ := h
    dsimp only at c1 c2 c3
    subst c1
    unfold mX8_spot_b39
    rw [gdI_at k1 (by omega), hS.eq (a := 99 + 7 * l) (by omega), z2, if_pos (Int32.le_refl _)]
    dsimp only
    by_cases hc : q1 ≤ q2
    · have hc2 := hc
      rw [Int32.le_iff_toInt_le, c2, c3] at hc2
      rw [if_pos hc]
      by_cases hp : p2 = 0
      · rw [if_neg (fun z => z hp)]
        exact ⟨_, rfl, Or.inl ⟨c4, hc2, by rw [if_pos hp]; exact c2⟩⟩
      · rw [if_pos hp]
        exact ⟨_, rfl, Or.inl ⟨c4, hc2, by rw [if_neg hp]; exact c3⟩⟩
    · have hc2 := hc
      rw [Int32.le_iff_toInt_le, c2, c3] at hc2
      rw [if_neg hc]
      exact ⟨_, rfl, Or.inr ⟨Or.inr ⟨c4, by omega⟩, rfl⟩⟩
  · obtain ⟨q1, q2, q3⟩ := q
    obtain ⟨rfl, c1, c2, c3, c4⟩ := h
    dsimp only at c1 c2 c3
    subst c1
    obtain ⟨g1, g2, g3⟩ := hr.lgi hn e hl hv hi
    obtain ⟨f1, f2, f3, f4, f5, f6⟩ := fall_ref hr.1 (i := i) (by omega)
    have hgi := hg i hi
    have kf1 := f1.1
    have kf9 := f1.2.2.2.2.2.2.2.2
    unfold mX8_spot_b39
    rw [gdI_at k1 (by omega), hS.eq (a := 99 + 7 * l) (by omega), z2]
    dsimp only
    rw [if_neg (nI_ge hi (by omega)), gdR_at k1 (by omega), hR, z3, alR_n (show i < ln _ by omega) k2 (by omega), hR, g3, dR hN1, hR, f6, alR_n (show i < ln 10 from show i < 6 by omega) (by decide) (by omega), hR, f5, c8 hN1, room_ok hr hS g1 hgi, cl_some]
    by_cases hc : 0 ≤ (rst s (pgi s l i) H wy).toInt
    · have hwb := (wid_b hr hP g1 hc).1
      obtain ⟨b1, b2, b3, b4, b5⟩ := dri_b hr hn e hl hv hP hi
      have hwI : (nI (wid s (pgi s l i) H wy)).toInt = (wid s (pgi s l i) H wy : Int) := nI_toInt (by omega)
      rw [if_pos hc, if_pos (nI_pos' (by omega)), cv_at k1 (by omega), cLeav hr hS hv hP e4 hi, cl_some, gdI_at k1 (by omega), hS.eq (a := 99 + 7 * l) (by omega), hr.st hl12, dR hN1, hR, f6, alR_n (show i < ln 10 from show i < 6 by omega) (by decide) (by omega), hR, f5, cv_at kf1 (by omega), hgi.downX, cl_some, st_cancel, nI_1]
      have eX : (V * nI (pN s l i) + gwX s (pgi s l i) V H wx (gOD s (pgi s l i) H).2).toInt = dri s l V H wx i := by
        have ex : (gwX s (pgi s l i) V H wx (gOD s (pgi s l i) H).2).toInt = gxd s (pgi s l i) V H wx := rfl
        rw [add_B (by rw [b2, ex]; omega) (by rw [b2, ex]; omega), b2, ex]
        rfl
      have hdb : -3000000 ≤ dri s l V H wx i ∧ dri s l V H wx i ≤ 3000000 := by
        unfold dri
        omega
      generalize V * nI (pN s l i) + gwX s (pgi s l i) V H wx (gOD s (pgi s l i) H).2 = X at eX
      have eN : (-X).toInt = -(dri s l V H wx i) := by rw [neg_B (by rw [eX]; omega), eX]
      have eA : (-X - nI (wid s (pgi s l i) H wy)).toInt = -(dri s l V H wx i) - (wid s (pgi s l i) H wy : Int) := by
        rw [sub_B (by rw [eN, hwI]; omega) (by rw [eN, hwI]; omega), eN, hwI]
      have eB : (-X + nI (wid s (pgi s l i) H wy)).toInt = -(dri s l V H wx i) + (wid s (pgi s l i) H wy : Int) := by
        rw [add_B (by rw [eN, hwI]; omega) (by rw [eN, hwI]; omega), eN, hwI]
      refine hr' _ _ ⟨rfl, rfl, ?_, ?_, fun j hj => ?_⟩
      · dsimp only
        rw [mxI_i, eA, c2]
        rfl
      · dsimp only
        rw [mnI_i, eB, c3]
        rfl
      · by_cases hji : j = i
        · subst hji; exact hc
        · exact c4 j (by omega)
    · rw [if_neg hc, if_neg (by decide)]
      exact ⟨_, rfl, Or.inr ⟨Or.inl ⟨i, hi, by omega⟩, rfl⟩⟩
end SPC
theorem op_spot : Op2 mX8_spot mX9_spot := by
  intro s hr p1 p2
  have hN := hr.1.1
  have hM := hr.1.m
  obtain ⟨r0, r1, r2, r3, r4, r5, r6, r7, r8⟩ := id hr
  obtain ⟨en, n, hn, en2, hL⟩ := id r7
  rcases plc n (by omega) p1 with hp | ⟨l, hln, rfl⟩
  · exact ⟨-100002, s, s, by simp only [mX8_spot, c8 hN, loadAt_out r0 (en.trans en2) hp, cl_some, nn, if_true], hN, by simp only [mX9_spot, c9 hN, isLoad_n hM hn en2 hp, cl_some, i00, if_true], hr⟩
  by_cases h2 : btw p2 0 1
  rotate_left
  · exact ⟨-100002, s, s, by simp only [mX8_spot, c8 hN, loadAt_in r0 hn (en.trans en2) hln, Wn0_1 h2, cl_some, sn, i00, if_false, not_true], hN, by simp only [mX9_spot, c9 hN, isLoad_y hM hn en2 hln, Mn0_1 h2, cl_some, i00, i10, if_false, not_true], hr⟩
  have hl12 : l < 12 := by omega
  obtain ⟨m, hv⟩ := (hL l hl12).lv r0 hl12
  have hm := hv.2.1
  obtain ⟨P, A, ax, ay, V, H, wx, wy, e4, e5, hP, hT⟩ := hr.ld hn en2 hln
  obtain ⟨sa, a1, a2, a3⟩ := followAll_ok hr hn en2 hln hv hP e4 e5
  have hNa : sN sa = 249 := a2.1.trans hN
  have hMa := a2.m hM
  obtain ⟨v, b1, b2⟩ := cSpot (p2 := p2) hr a2 hn en2 hln hv hP e4 a3
  obtain ⟨sc, d1, d2⟩ := hT sa (a2.me hM)
  have hSc := a2.tr d2.toS
  obtain ⟨sd, f1, f2, f3, f4⟩ := findStarts_ok hr (hSc.me hM) d2.td hn en2 hln hv hP
  have hNd : sN sd = 249 := (hSc.tr f2).1.trans hN
  refine ⟨v, sa, sd, ?_, hNa, ?_, hr.scr (hSc.tr f2)⟩
  · unfold mX8_spot
    rw [c8 hN, loadAt_in r0 hn (en.trans en2) hln, cl_some, if_neg (by simp), Wy0_1 h2, cl_some, if_pos (by decide), c8 hN, a1, cl_some]
    exact b1
  · unfold mX9_spot
    rw [c9 hNa, isLoad_y hMa hn (by rw [a2.e7 (by decide)]; exact en2) hln, cl_some, if_neg (by decide), My0_1 h2, cl_some, if_pos (by decide), c9 hNa, d1, cl_some, c9 (hSc.1.trans hN), f1, cl_some, mL' hNd, mL' hNd]
    rcases f4 with ⟨x1, x2, x3⟩ | ⟨⟨i, hi, x1⟩, x2⟩
    · rcases b2 with ⟨y1, y2, y3⟩ | ⟨y1, y2⟩
      · have hb := sLo_b (D := dri s l V H wx) (W := fun i => wid s (pgi s l i) H wy) m (fun j hj => by
          obtain ⟨b1, b2, b3, b4, b5⟩ := dri_b hr hn en2 hln hv hP hj
          have w1 := (wid_b hr hP (hr.lgi hn en2 hln hv hj).1 (x1 j hj)).1
          unfold dri
          omega)
        rw [if_pos (lgc_le.mpr (by rw [x2, x3]; exact y2))]
        by_cases hp : p2 = 0
        · rw [if_neg (fun z => z hp), mL' hNd]
          rw [if_pos hp] at y3
          have : Int64.toInt32 (sL sd 207 46) = v := Int32.toInt_inj.mp (by rw [to32 (by omega) (by omega), x2, y3])
          rw [this]
        · rw [if_pos hp, mL' hNd]
          rw [if_neg hp] at y3
          have : Int64.toInt32 (sL sd 207 47) = v := Int32.toInt_inj.mp (by rw [to32 (by omega) (by omega), x3, y3])
          rw [this]
      · rcases y1 with ⟨i, hi, y1⟩ | ⟨-, y1⟩
        · exact absurd (x1 i hi) (by omega)
        · rw [if_neg (fun z => by have := lgc_le.mp z; rw [x2, x3] at this; omega), y2]
    · rw [if_neg (fun z => by have := lgc_le.mp z; omega)]
      rcases b2 with ⟨y1, y2, y3⟩ | ⟨y1, y2⟩
      · exact absurd (y1 i hi) (by omega)
      · rw [y2]
