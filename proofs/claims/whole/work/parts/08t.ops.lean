/-! WHERE -/
theorem Rel.lg {s : Sg} (hr : Rel s) {n l m i : Nat} (hn : n < 13) (e : sI s 207 20 = nI n) (hl : l < n) (hv : LV s l m) (hi : i < m) : ∃ g Kd Di oo fw, g < 20 ∧ sI s 229 (6 * l + i) = nI g ∧ sR s (100 + 7 * l) i = some (56 + 2 * g) ∧ nI g < sI s 207 8 ∧ GI s g Kd Di oo fw := by
  obtain ⟨r0, r1, r2, r3, r4, r5, r6, r7, r8⟩ := hr
  obtain ⟨en, n', hn', en2, hL⟩ := r7
  have hnn : n' = n := (nI_eq (by omega) (by omega)).mp (en2.symm.trans e)
  subst hnn
  obtain ⟨-, -, -, -, -, m', hm', hm2, -, hI⟩ := hL l (by omega)
  have hmm : m' = m := by
    have := hv.2.2.1
    rw [hm2] at this
    exact (nI_eq (by omega) (by have := hv.2.1; omega)).mp this
  subst hmm
  obtain ⟨⟨-, -, g, d3, d4, d5, d6⟩, -⟩ := hI i hi
  obtain ⟨Kd, Di, oo, fw, hG⟩ := r4.gi d3 d4
  exact ⟨g, Kd, Di, oo, fw, d3, d5, d6, d4, hG⟩
/-- the class's way lies there -/
def FW (s : Sg) (b : Nat) (xf yf : Nat → Int32) (hf : Nat → Nat × Nat) (o d : Nat) : Prop := FB b ∧ sN s = 249 ∧ sR s b 0 = some (b + 1) ∧ sR s b 1 = some (b + 2) ∧ sR s b 2 = some (b + 3) ∧ (∀ t, t ≤ d → sI s (b + 1) t = xf t ∧ sI s (b + 2) t = yf t ∧ sI s (b + 3) t = nI (hf t).1) ∧ sI s b 3 = nI o ∧ sI s b 4 = nI d ∧ d ≤ 943 ∧ o < d
/-- the reference's way lies there -/
def MW (s : Sg) (w : Nat) (xf yf : Nat → Int32) (hf : Nat → Nat × Nat) (o d : Nat) : Prop := (∀ t, t ≤ 1000 → sI s 239 (1001 * w + t) = xf t ∧ sI s 240 (1001 * w + t) = yf t ∧ sI s 241 (1001 * w + t) = nI (hf t).1 ∧ sI s 242 (1001 * w + t) = nI (hf t).2) ∧ sI s 243 w = nI d ∧ sI s 244 w = nI (d - o) ∧ d ≤ 943 ∧ o < d
section VW
variable {s s0 s1 : Sg} {b g o d oo H w i l m : Nat} {Kd Di V : Int32} {wx wy xf yf : Nat → Int32} {hf : Nat → Nat × Nat}
theorem CWi.toW (h : CWi s0 s b xf yf hf o d d) (hF : FB b) (hN : sN s0 = 249) (q0 : sR s0 b 0 = some (b + 1)) (q1 : sR s0 b 1 = some (b + 2)) (q2 : sR s0 b 2 = some (b + 3)) (hod : o < d) (hd : d ≤ 943) : FW s b xf yf hf o d := by
  obtain ⟨h1, h2, h3, h4, h5, h6, h7⟩ := h
  refine ⟨hF, h1.trans hN, by rw [h2]; exact q0, by rw [h2]; exact q1, by rw [h2]; exact q2, h5, ?_, ?_, hd, hod⟩
  · rw [h6, if_neg (by omega)]
  · rw [h7, if_neg (by omega)]
theorem LWi.mw (h : LWi s0 s w xf yf hf o d 1000) (hod : o < d) (hd : d ≤ 943) : MW s w xf yf hf o d := by
  obtain ⟨h1, h2, h3, h4, h5, h6, h7⟩ := h
  refine ⟨h5, ?_, ?_, hd, hod⟩
  · rw [h6, if_neg (by omega)]
  · rw [h7, show min 1000 d - min 1000 o = d - o by omega]
theorem FW.keep {b2 : Nat} {xf2 yf2 : Nat → Int32} {hf2 : Nat → Nat × Nat} {o2 d2 k : Nat} (h : FW s b xf yf hf o d) (h2 : CWi s s1 b2 xf2 yf2 hf2 o2 d2 k) (hb : b + 3 < b2 ∨ b2 + 3 < b) : FW s1 b xf yf hf o d := by
  obtain ⟨h1, h3, h4, h5, h6, h7, h8, h9, h10⟩ := h
  obtain ⟨c1, c2, c3, c4, -⟩ := h2
  refine ⟨h1, c1.trans h3, by rw [c2]; exact h4, by rw [c2]; exact h5, by rw [c2]; exact h6, fun t ht => ?_, by rw [c4 _ _ (by omega)]; exact h8, by rw [c4 _ _ (by omega)]; exact h9, h10⟩
  rw [c4 _ _ (by omega), c4 _ _ (by omega), c4 _ _ (by omega)]
  exact h7 t ht
theorem MW.keep {w2 : Nat} {xf2 yf2 : Nat → Int32} {hf2 : Nat → Nat × Nat} {o2 d2 k : Nat} (h : MW s w xf yf hf o d) (h2 : LWi s s1 w2 xf2 yf2 hf2 o2 d2 k) (hb : w ≠ w2) : MW s1 w xf yf hf o d := by
  obtain ⟨h1, h3, h4, h5⟩ := h
  obtain ⟨c1, c2, c3, c4, -⟩ := h2
  refine ⟨fun t ht => ?_, by rw [c4 _ _ (by omega)]; exact h3, by rw [c4 _ _ (by omega)]; exact h4, h5⟩
  rw [c4 _ _ (by omega), c4 _ _ (by omega), c4 _ _ (by omega), c4 _ _ (by omega)]
  exact h1 t ht
theorem mn_nI {a c : Nat} (ha : a < 2 ^ 31) (hc : c < 2 ^ 31) : mnI (nI a) (nI c) = nI (min a c) := by
  unfold mnI
  by_cases h : c < a
  · rw [if_pos (nI_lt h ha), Nat.min_eq_right (by omega)]
  · rw [if_neg (nI_nlt (by omega) hc), Nat.min_eq_left (by omega)]
theorem mx_nI {a c : Nat} (ha : a < 2 ^ 31) (hc : c < 2 ^ 31) : mxI (nI a) (nI c) = nI (max a c) := by
  unfold mxI
  by_cases h : a < c
  · rw [if_pos (nI_lt h hc), Nat.max_eq_right (by omega)]
  · rw [if_neg (nI_nlt (by omega) ha), Nat.max_eq_left (by omega)]
theorem fh_min (h : Wd Kd oo H o d) (t : Nat) : fh Kd oo H (min t d) = fh Kd oo H t := by
  rcases Nat.lt_or_ge t d with ht | ht
  · rw [Nat.min_eq_left (by omega)]
  · rw [Nat.min_eq_right ht, h.2.2.2.2.2 d (Nat.le_refl _), h.2.2.2.2.2 t ht]
theorem fx_min (h : Wd Kd oo H o d) (t : Nat) : fx Kd Di V oo H wx (min t d) = fx Kd Di V oo H wx t := by
  rcases Nat.lt_or_ge t d with ht | ht
  · rw [Nat.min_eq_left (by omega)]
  · rw [Nat.min_eq_right ht]
    have := fx_down (D := Di) (V := V) (wx := wx) h (t - d)
    rw [show d + (t - d) = t by omega] at this
    exact this.symm
theorem fy_min (h : Wd Kd oo H o d) (t : Nat) : fy Kd Di oo H wy (min t d) = fy Kd Di oo H wy t := by
  rcases Nat.lt_or_ge t d with ht | ht
  · rw [Nat.min_eq_left (by omega)]
  · rw [Nat.min_eq_right ht]
    have := fy_down (D := Di) (wy := wy) h (t - d)
    rw [show d + (t - d) = t by omega] at this
    exact this.symm
theorem leavesAtX_ok {P : Nat} (hv : LV s l m) (hi : i < m) (hP : kd P = 6 ∧ P < 183) (hpl : sR s (99 + 7 * l) 4 = some P) (hV : sI s P 3 = V) (hst : sI s (99 + 7 * l) 7 = sI s 231 l) : mX5_leavesAtX (99 + 7 * l) (nI i) s = some (sI s 231 l + V * psum s l i, s) := by
  obtain ⟨hl, hm, z1, z2, z3, z9, ⟨hN, hM⟩, z4⟩ := id hv
  obtain ⟨k1, -⟩ := kdLo l hl
  unfold mX5_leavesAtX
  rw [gdI_at k1 (by omega), gdR_at k1 (by omega), hpl, gdI_at hP.1 (by omega), hV, cv_at k1 (by omega), hv.sec hi, cl_some, hst]
theorem FW.state (h : FW s b xf yf hf o d) {t : Nat} (ht : t ≤ 1000) : mX1_stateAt b (nI t) s = some (if t < d then (if t < o then 1 else 2) else 3, s) := by
  obtain ⟨⟨f1, f2, f3, f4, f5, f6, f7, f8, f9⟩, hN, q0, q1, q2, hv, h3, h4, h5, h6⟩ := h
  unfold mX1_stateAt
  rw [gdI_at f1 (by omega), h4]
  by_cases h7 : t < d
  · rw [if_pos (nI_lt h7 (by omega)), gdI_at f1 (by omega), h3, if_pos h7]
    by_cases h8 : t < o
    · rw [if_pos (nI_lt h8 (by omega)), if_pos h8]
    · rw [if_neg (nI_nlt (by omega) (by omega)), if_neg h8]
  · rw [if_neg (nI_nlt (by omega) (by omega)), if_neg h7]
end VW
theorem gd3' {β : Type} {a b c d : β} : [a, b, c].getD 3 d = d := rfl
theorem op_where : Op4 mX8_where mX9_where := by
  intro s hr p1 p2 p3 p4
  have hN := hr.1.1
  have hM := hr.1.m
  obtain ⟨r0, r1, r2, r3, r4, r5, r6, r7, r8⟩ := id hr
  obtain ⟨en, n, hn, en2, hL⟩ := id r7
  rcases plc n (by omega) p1 with hp | ⟨l, hln, rfl⟩
  · exact ⟨-1000000, s, s, by simp only [mX8_where, c8 hN, loadAt_out r0 (en.trans en2) hp, cl_some, nn, if_true], hN, by simp only [mX9_where, c9 hN, isIn_l hM hn en2 hp, cl_some, i00, if_true], hr⟩
  have hl12 : l < 12 := by omega
  obtain ⟨k1, k2, k3, k4, k5, -⟩ := kdLo l hl12
  obtain ⟨m, hv⟩ := (hL l hl12).lv r0 hl12
  obtain ⟨-, hm, z1, z2, z3, z9, -, z4⟩ := id hv
  rcases plc m (by omega) p2 with hp | ⟨i, him, rfl⟩
  · refine ⟨-1000000, s, s, ?_, hN, ?_, hr⟩
    · simp only [mX8_where, c8 hN, loadAt_in r0 hn (en.trans en2) hln, cl_some, sn, if_false]
      rw [cv_at k1 (by omega), hv.has_out hp, cl_some, if_pos rfl]
    · simp only [mX9_where, c9 hN, isIn_n hM hn en2 hln hm z1 hp, cl_some, i00, if_true]
  by_cases h3 : btw p3 0 1000
  rotate_left
  · refine ⟨-1000000, s, s, ?_, hN, ?_, hr⟩
    · simp only [mX8_where, c8 hN, loadAt_in r0 hn (en.trans en2) hln, cl_some, sn, if_false]
      rw [cv_at k1 (by omega), hv.has_in him, cl_some, if_neg (by decide), Wn0_1000 h3, cl_some, if_pos rfl]
    · simp only [mX9_where, c9 hN, isIn_y hM hn en2 hln hm z1 him, Mn0_1000 h3, cl_some, i00, i10, if_true, if_false]
  by_cases h4 : btw p4 0 3
  rotate_left
  · refine ⟨-1000000, s, s, ?_, hN, ?_, hr⟩
    · simp only [mX8_where, c8 hN, loadAt_in r0 hn (en.trans en2) hln, cl_some, sn, if_false]
      rw [cv_at k1 (by omega), hv.has_in him, cl_some, if_neg (by decide), Wy0_1000 h3, cl_some, if_neg (by decide), Wn0_3 h4, cl_some, if_neg (by decide)]
    · simp only [mX9_where, c9 hN, isIn_y hM hn en2 hln hm z1 him, My0_1000 h3, Mn0_3 h4, cl_some, i00, i10, if_true, if_false, not_true]
  obtain ⟨g, Kd, Di, oo, fw, hg20, t1, t2, t3, hG⟩ := hr.lg hn en2 hln hv him
  obtain ⟨P, A, ax, ay, V, H, wx, wy, e4, e5, hP, hT⟩ := hr.ld hn en2 hln
  obtain ⟨f1, f2, f3, f4, f5, f6⟩ := fall_ref r0 (i := 0) (by decide)
  obtain ⟨o, d, hW⟩ := hG.wd hP.2.2.2.2.2.2.2.2.2.2.1
  obtain ⟨s1, hF, hC⟩ := cFol r0 hP hG (i := 0) (by decide) hW
  have hod := hW.2.1
  have hd := hW.2.2.1
  have hS1 := hC.toS f1
  have hw1 := hC.toW f1 hN f2 f3 f4 hod hd
  obtain ⟨s2, e2, hK⟩ := hT s1 (hS1.me hM)
  have hS2 := hS1.tr hK.toS
  obtain ⟨s3, e3, hLW⟩ := mLay (w := 0) (hS2.m hM) hP (hG.scr hS2) hK.2.2.2.2 hW (by decide)
  have hS3 := hS2.tr hLW.toS
  have hmw := hLW.mw hod hd
  have hr3 := hr.scr hS3
  have hN1 : sN s1 = 249 := hS1.1.trans hN
  have hN2 : sN s2 = 249 := hS2.1.trans hN
  have hN3 : sN s3 = 249 := hS3.1.trans hN
  have hM1 := hS1.m hM
  have hM2 := hS2.m hM
  have hM3 := hS3.m hM
  obtain ⟨t, ht, rfl⟩ := btw_nI 1001 h3 (by decide)
  obtain ⟨j, hj, rfl⟩ := btw_nI 4 h4 (by decide)
  have hT34 : sI s3 207 34 = V := (hLW.2.2.2.1 207 34 (by omega)).trans hK.2.2.2.2.1
  obtain ⟨v, hA, hB⟩ : ∃ v, mX8_where 0 (nI l) (nI i) (nI t) (nI j) s = some (v, s1) ∧ mX9_where 207 (nI l) (nI i) (nI t) (nI j) s1 = some (v, s3) := by
    obtain ⟨kf1, kf2, kf3, kf4, kf5, kf6, kf7, kf8, kf9⟩ := id f1
    obtain ⟨-, -, w2, w3, w4, w5, w6, w7, -⟩ := id hw1
    obtain ⟨m1, m2, m3, -⟩ := id hmw
    have mt := m1 t (by omega)
    simp only [Nat.mul_zero, Nat.zero_add] at mt
    have mind : min t d ≤ d := Nat.min_le_right _ _
    obtain ⟨u1, u2, u3⟩ := w5 _ mind
    rw [fx_min hW] at u1
    rw [fy_min hW] at u2
    rw [fh_min hW] at u3
    unfold mX8_where mX9_where
    rw [c8 hN, c9 hN1, loadAt_in r0 hn (en.trans en2) hln, isIn_y hM1 hn (by rw [hS1.e7 (by decide)]; exact en2) hln hm (by rw [hS1.eq (a := 228) (by decide)]; exact z1) him, cl_some, cl_some, if_neg (by simp), if_neg (by decide), cv_at k1 (by omega), hv.has_in him, cl_some, if_neg (by decide), Wy0_1000 h3, My0_1000 h3, cl_some, cl_some, if_neg (by decide), if_neg (by decide), Wy0_3 h4, My0_3 h4, cl_some, cl_some, if_pos (by decide), if_pos (by decide), dR hN, f6, alR_at (i := 0) (n := 0) rfl (by decide) (by decide) (by omega), f5, gdR_at k1 (by omega), z3, alR_n (by omega) k2 (by omega), t2, gdR_at k1 (by omega), e4, gdR_at k1 (by omega), e5, cv_at kf1 (by omega), hF, cl_some, gdI_at kf1 (by omega), w7, c9 hN1, e2, cl_some, mR hM2 23 229 rfl (by decide) (by decide), i6, alI_n (show _ < ln 229 from show _ < 72 by omega) (by decide) (by omega), hS2.eq (a := 229) (by decide), t1, c9 hN2, show (0 : Int32) = nI 0 from rfl, e3, cl_some, mn_nI (by omega) (by omega), swc_at (by omega), swc_at (by omega)]
    rcases (show j = 0 ∨ j = 1 ∨ j = 2 ∨ j = 3 by omega) with rfl | rfl | rfl | rfl
    · refine ⟨(sI s 231 l + V * psum s l i) + fx Kd Di V oo H wx t, ?_, ?_⟩
      · rw [gd0]
        have hv1 := hv.scr hS1
        have e4' : sR s1 (99 + 7 * l) 4 = some P := by rw [hS1.2.1]; exact e4
        rw [cv_at k1 (by omega), leavesAtX_ok hv1 him ⟨hP.1.1, hP.1.2.1⟩ e4' ((hP.scr hS1).2.1) (by rw [hS1.eq (a := 99 + 7 * l) (by omega), hS1.eq (a := 231) (by omega)]; exact (hL l hl12).2.1), cl_some, gdR_at kf1 (by omega), w2, alI_n (by omega) kf2 (by omega), u1, psum_scr hS1, hS1.eq (a := 231) (by omega)]
      · rw [gd0]
        rw [mR hM3 25 231 rfl (by decide) (by decide), alI_n (show l < ln 231 from hl12) (by decide) (by omega), hS3.eq (a := 231) (by omega), mI hN3, hT34, c9 hN3, mLeavesAt hM3 hl12 (by omega), cl_some, mR hM3 36 239 rfl (by decide) (by decide), alI_n (show t < ln 239 from show t < 2002 by omega) (by decide) (by omega), mt.1, psum_scr hS3]
    · refine ⟨fy Kd Di oo H wy t, ?_, ?_⟩
      · rw [gd1]
        rw [gdR_at kf1 (by omega), w3, alI_n (by omega) kf4 (by omega), u2]
      · rw [gd1]
        rw [mR hM3 37 240 rfl (by decide) (by decide), alI_n (show t < ln 240 from show t < 2002 by omega) (by decide) (by omega), mt.2.1]
    · refine ⟨nI (fh Kd oo H t).1, ?_, ?_⟩
      · rw [gd2]
        rw [gdR_at kf1 (by omega), w4, alI_n (by omega) kf6 (by omega), u3]
      · rw [gd2]
        rw [mR hM3 38 241 rfl (by decide) (by decide), alI_n (show t < ln 241 from show t < 2002 by omega) (by decide) (by omega), mt.2.2.1]
    · refine ⟨nI (fh Kd oo H t).2, ?_, ?_⟩
      · rw [gd3']
        rw [cv_at kf1 (by omega), hw1.state (by omega), cl_some]
        rcases Nat.lt_or_ge t o with h | h
        · rw [if_pos (by omega), if_pos (by omega), hW.2.2.2.1 t h]
          rfl
        · rcases Nat.lt_or_ge t d with h' | h'
          · rw [if_pos (by omega), if_neg (by omega), hW.2.2.2.2.1 t h h']
            rfl
          · rw [if_neg (by omega), hW.2.2.2.2.2 t h']
            rfl
      · rw [gd3']
        rw [mR hM3 39 242 rfl (by decide) (by decide), alI_n (show t < ln 242 from show t < 2002 by omega) (by decide) (by omega), mt.2.2.2]
  exact ⟨v, s1, s3, hA, hN1, hB, hr3⟩
