theorem Rel.lgN {s : Sg} (hr : Rel s) {n l m i : Nat} (hn : n < 13) (e : sI s 207 20 = nI n) (hl : l < n) (hv : LV s l m) (hi : i < m) : ∃ g, GN s g ∧ sI s 229 (6 * l + i) = nI g ∧ sR s (100 + 7 * l) i = some (56 + 2 * g) := by
  obtain ⟨g, Kd, Di, oo, fw, h1, h2, h3, h4, h5⟩ := hr.lg hn e hl hv hi
  exact ⟨g, ⟨h1, h4⟩, h2, h3⟩
section PW
variable {s s1 s2 : Sg} {P A ax ay H n l m i j a c g1 g2 : Nat} {V : Int32} {wx wy : Nat → Int32}
/-- the reference's near of places a < c of a load -/
theorem mNearAt (hr : Rel s) (hS : MEq s s1) (hT : TD s1 V H wx wy) (hP : PA s P A ax ay V H wx wy) (hv : LV s l m) (ha : a ≤ c) (hc : c < m) (hg1 : GN s g1) (hg2 : GN s g2) (e1 : sI s 229 (6 * l + a) = nI g1) (e2 : sI s 229 (6 * l + c) = nI g2) : ∃ s', (gdR s1 9 23 (some 207) fun v7 => alI s1 v7 ((6 * nI l) + nI a) fun v8 => cv s1 9 (some 207) fun a25 => cl (mX9_layOut a25 v8 0 s1) fun (_ : Unit) s10 => gdR s10 9 23 (some 207) fun v11 => alI s10 v11 ((6 * nI l) + nI c) fun v12 => cv s10 9 (some 207) fun a24 => cl (mX9_layOut a24 v12 1 s10) fun (_ : Unit) s14 => cv s14 9 (some 207) fun a23 => cl (mX9_leavesAt a23 (nI l) (nI c) s14) fun v15 s16 => cv s16 9 (some 207) fun a22 => cl (mX9_leavesAt a22 (nI l) (nI a) s16) fun v17 s18 => cv s18 9 (some 207) fun a21 => cl (mX9_nearBy a21 (v15 - v17) s18) fun v19 s20 => some (v19, s20)) = some (nG s V H wx wy g1 g2 (pN s l c - pN s l a), s') ∧ Scr s1 s' ∧ TD s' V H wx wy := by
  obtain ⟨hl, hm, z1, z2, z3, z9, hM, z4⟩ := id hv
  have hM1 := hS.1
  have hN1 := hM1.1
  obtain ⟨sa, a1, a2, a3, a4, a5, a7, -⟩ := mLay2 (w := 0) hr hS hT hP hg1 (by decide)
  have hSa := hS.tr a2
  have hMa := hSa.1
  have hNa := hMa.1
  obtain ⟨sb, b1, b2, b3, b4, b5, b7, -⟩ := mLay2 (w := 1) hr hSa a3 hP hg2 (by decide)
  have hSb := hSa.tr b2
  have hMb := hSb.1
  have hNb := hMb.1
  obtain ⟨p1, p2⟩ := hv.pQ c hc
  obtain ⟨p3, p4⟩ := hv.pQ a (by omega)
  have p5 := pN_le s l a (c - a)
  rw [show a + (c - a) = c by omega] at p5
  refine ⟨sb, ?_, a2.tr b2, b3⟩
  rw [mR hM1 23 229 rfl (by decide) (by decide), i6, alI_n (show _ < ln 229 from show _ < 72 by omega) (by decide) (by omega), hS.eq (a := 229) (by omega), e1, c9 hN1, show (0 : Int32) = nI 0 from rfl, a1, cl_some, mR hMa 23 229 rfl (by decide) (by decide), i6, alI_n (show _ < ln 229 from show _ < 72 by omega) (by decide) (by omega), hSa.eq (a := 229) (by omega), e2, c9 hNa, show (1 : Int32) = nI 1 from rfl, b1, cl_some, c9 hNb, mLeavesAt hMb hl (by omega), cl_some, c9 hNb, mLeavesAt hMb hl (by omega), cl_some, psum_me hSb, psum_me hSb, p1, p3, pk_sub p5, c9 hNb, mNear hMb b3 (b5 0 g1 (by decide) a4) b4 (by omega), cl_some]
theorem mNearOf (hr : Rel s) (hS : MEq s s1) (hT : TD s1 V H wx wy) (hP : PA s P A ax ay V H wx wy) (hv : LV s l m) (hi : i < m) (hj : j < m) (hg1 : GN s g1) (hg2 : GN s g2) (e1 : sI s 229 (6 * l + min i j) = nI g1) (e2 : sI s 229 (6 * l + max i j) = nI g2) : ∃ s', mX9_nearOf 207 (nI l) (nI i) (nI j) s1 = some (nG s V H wx wy g1 g2 (pN s l (max i j) - pN s l (min i j)), s') ∧ Scr s1 s' ∧ TD s' V H wx wy := by
  have hm := hv.2.1
  obtain ⟨s', h1, h2⟩ := mNearAt (a := min i j) (c := max i j) hr hS hT hP hv (by omega) (by omega) hg1 hg2 e1 e2
  refine ⟨s', ?_, h2⟩
  unfold mX9_nearOf
  rw [jn_eq]
  by_cases hij : j ≤ i
  · rw [if_pos (nI_le hij (by omega))]
    dsimp only
    rw [jn_eq, if_pos (nI_le hij (by omega))]
    rw [Nat.min_eq_right hij, Nat.max_eq_left hij] at h1
    rw [Nat.min_eq_right hij, Nat.max_eq_left hij]
    exact h1
  · rw [if_neg (nI_ge (by omega) (by omega))]
    dsimp only
    rw [jn_eq, if_neg (nI_ge (by omega) (by omega))]
    rw [Nat.min_eq_left (by omega), Nat.max_eq_right (by omega)] at h1
    rw [Nat.min_eq_left (by omega), Nat.max_eq_right (by omega)]
    exact h1
end PW
theorem op_near : Op3 mX8_near mX9_near := by
  intro s hr p1 p2 p3
  have hN := hr.1.1
  have hM := hr.1.m
  obtain ⟨r0, r1, r2, r3, r4, r5, r6, r7, r8⟩ := id hr
  obtain ⟨en, n, hn, en2, hL⟩ := id r7
  rcases plc n (by omega) p1 with hp | ⟨l, hln, rfl⟩
  · exact ⟨-1, s, s, by simp only [mX8_near, c8 hN, loadAt_out r0 (en.trans en2) hp, cl_some, nn, if_true], hN, by simp only [mX9_near, c9 hN, isIn_l hM hn en2 hp, cl_some, i00, if_true], hr⟩
  have hl12 : l < 12 := by omega
  obtain ⟨k1, k2, k3, k4, k5, -⟩ := kdLo l hl12
  obtain ⟨m, hv⟩ := (hL l hl12).lv r0 hl12
  obtain ⟨-, hm, z1, z2, z3, z9, -, z4⟩ := id hv
  rcases plc m (by omega) p2 with hp | ⟨i, him, rfl⟩
  · refine ⟨-1, s, s, ?_, hN, ?_, hr⟩
    · simp only [mX8_near, c8 hN, loadAt_in r0 hn (en.trans en2) hln, cl_some, sn, if_false]
      rw [cv_at k1 (by omega), hv.has_out hp, cl_some, if_pos rfl]
    · simp only [mX9_near, c9 hN, isIn_n hM hn en2 hln hm z1 hp, cl_some, i00, if_true]
  rcases plc m (by omega) p3 with hp | ⟨j, hjm, rfl⟩
  · refine ⟨-1, s, s, ?_, hN, ?_, hr⟩
    · simp only [mX8_near, c8 hN, loadAt_in r0 hn (en.trans en2) hln, cl_some, sn, if_false]
      rw [cv_at k1 (by omega), hv.has_in him, cl_some, if_neg (by decide), cv_at k1 (by omega), hv.has_out hp, cl_some, if_pos rfl]
    · simp only [mX9_near, c9 hN, isIn_y hM hn en2 hln hm z1 him, isIn_n hM hn en2 hln hm z1 hp, cl_some, i00, i10, if_true, if_false]
  by_cases hij : i = j
  · subst hij
    refine ⟨-1, s, s, ?_, hN, ?_, hr⟩
    · simp only [mX8_near, c8 hN, loadAt_in r0 hn (en.trans en2) hln, cl_some, sn, if_false]
      rw [cv_at k1 (by omega), hv.has_in him, cl_some, if_neg (by decide), cv_at k1 (by omega), hv.has_in him, cl_some, if_neg (by decide), if_neg (fun z => z trivial)]
    · simp only [mX9_near, c9 hN, isIn_y hM hn en2 hln hm z1 him, cl_some, i10, if_true, if_false, not_true]
  have hne : ¬ nI i = nI j := fun z => hij ((nI_eq (by omega) (by omega)).mp z)
  obtain ⟨P, A, ax, ay, V, H, wx, wy, e4, e5, hP, hT⟩ := hr.ld hn en2 hln
  obtain ⟨g1, hg1, t1, t1'⟩ := hr.lgN hn en2 hln hv (i := min i j) (by omega)
  obtain ⟨g2, hg2, t2, t2'⟩ := hr.lgN hn en2 hln hv (i := max i j) (by omega)
  obtain ⟨f1, f2, f3, f4, f5, f6⟩ := fall_ref r0 (i := 0) (by decide)
  obtain ⟨f1', -, -, -, f5', -⟩ := fall_ref r0 (i := 1) (by decide)
  obtain ⟨sa, a1, a2, a3, -⟩ := cFol2 hr Scr.rf hP hg1 (i := 0) (by decide)
  obtain ⟨sb, b1, b2, b3, b4⟩ := cFol2 hr a2 hP hg2 (i := 1) (by decide)
  have b5 := b4 0 g1 (by decide) (by decide) a3
  have hNa : sN sa = 249 := a2.1.trans hN
  have hNb : sN sb = 249 := b2.1.trans hN
  have hMb := b2.m hM
  have hvb := hv.scr b2
  obtain ⟨q1, q2⟩ := hv.pQ (max i j) (by omega)
  obtain ⟨q3, q4⟩ := hv.pQ (min i j) (by omega)
  have q5 := pN_le s l (min i j) (max i j - min i j)
  rw [show min i j + (max i j - min i j) = max i j by omega] at q5
  obtain ⟨v, c1, -, c2⟩ := cNear (p := pN s l (max i j) - pN s l (min i j)) hr hP hg1 hg2 b5 b3 (by omega) 0
  rw [c2 rfl] at c1
  obtain ⟨sc, d1, d2⟩ := hT sb (b2.me hM)
  have hSc := b2.tr d2.toS
  obtain ⟨sd, g1', g2', g3'⟩ := mNearOf hr (hSc.me hM) d2.td hP hv him hjm hg1 hg2 t1 t2
  refine ⟨nG s V H wx wy g1 g2 (pN s l (max i j) - pN s l (min i j)), sb, sd, ?_, hNb, ?_, hr.scr (hSc.tr g2')⟩
  · obtain ⟨kf1, -⟩ := id f1
    obtain ⟨kf1', -⟩ := id f1'
    have hRa : sR sa = sR s := a2.2.1
    have hRb : sR sb = sR s := b2.2.1
    unfold mX8_near
    rw [c8 hN, loadAt_in r0 hn (en.trans en2) hln, cl_some, if_neg (by simp), cv_at k1 (by omega), hv.has_in him, cl_some, if_neg (by decide), cv_at k1 (by omega), hv.has_in hjm, cl_some, if_neg (by decide), if_pos hne, dR hN, f6, alR_at (i := 0) (n := 0) rfl (by decide) (by decide) (by omega), f5, gdR_at k1 (by omega), z3, mn_nI (by omega) (by omega), alR_n (show _ < ln _ by omega) k2 (by omega), t1', gdR_at k1 (by omega), e4, gdR_at k1 (by omega), e5, cv_at kf1 (by omega), a1, cl_some, dR hNa, hRa, f6, alR_at (i := 1) (n := 1) rfl (by decide) (by decide) (by omega), hRa, f5', gdR_at k1 (by omega), hRa, z3, mx_nI (by omega) (by omega), alR_n (show _ < ln _ by omega) k2 (by omega), hRa, t2', gdR_at k1 (by omega), hRa, e4, gdR_at k1 (by omega), hRa, e5, cv_at kf1' (by omega), b1, cl_some, cv_at k1 (by omega), hvb.sec (by omega), cl_some, cv_at k1 (by omega), hvb.sec (by omega), cl_some, psum_scr b2, psum_scr b2, q1, q3, pk_sub q5, dR hNb, hRb, f6, alR_at (i := 0) (n := 0) rfl (by decide) (by decide) (by omega), hRb, f5, dR hNb, hRb, f6, alR_at (i := 1) (n := 1) rfl (by decide) (by decide) (by omega), hRb, f5', gdR_at k1 (by omega), hRb, e4, gdI_at hP.1.1 (by have := hP.1.2.1; omega), (hP.scr b2).2.1, cv_at kf1 (by omega), c1, cl_some]
  · unfold mX9_near
    rw [c9 hNb, isIn_y hMb hn (by rw [b2.e7 (by decide)]; exact en2) hln hm (by rw [b2.eq (a := 228) (by decide)]; exact z1) him, cl_some, if_neg (by decide), c9 hNb, isIn_y hMb hn (by rw [b2.e7 (by decide)]; exact en2) hln hm (by rw [b2.eq (a := 228) (by decide)]; exact z1) hjm, cl_some, if_neg (by decide), if_pos hne, c9 hNb, d1, cl_some, c9 (hSc.1.trans hN), g1', cl_some]
theorem op_between : Op3 mX8_between mX9_between := by
  intro s hr p1 p2 p3
  have hN := hr.1.1
  have hM := hr.1.m
  obtain ⟨r0, r1, r2, r3, r4, r5, r6, r7, r8⟩ := id hr
  obtain ⟨en, n, hn, en2, hL⟩ := id r4
  by_cases h1 : btw p1 0 2
  rotate_left
  · refine ⟨-1, s, s, ?_, hN, by simp only [mX9_between, Mn0_2 h1, cl_some, i00, if_true], hr⟩
    unfold mX8_between
    rw [c8 hN, planeAt_out r0 h1, cl_some, c8 hN]
    rcases plc n (by omega) p2 with hp | ⟨g, hg, rfl⟩
    · rw [groupAt_out r0 (en.trans en2) hp, cl_some, c8 hN]
      rcases plc n (by omega) p3 with hp | ⟨h, hh, rfl⟩
      · rw [groupAt_out r0 (en.trans en2) hp, cl_some, if_pos rfl]
      · rw [groupAt_in r0 hn (en.trans en2) hh, cl_some, if_pos rfl]
    · rw [groupAt_in r0 hn (en.trans en2) hg, cl_some, c8 hN]
      rcases plc n (by omega) p3 with hp | ⟨h, hh, rfl⟩
      · rw [groupAt_out r0 (en.trans en2) hp, cl_some, if_pos rfl]
      · rw [groupAt_in r0 hn (en.trans en2) hh, cl_some, if_pos rfl]
  obtain ⟨p, hp3, rfl⟩ := btw_nI 3 h1 (by decide)
  rcases plc n (by omega) p2 with hp | ⟨g, hg, rfl⟩
  · refine ⟨-1, s, s, ?_, hN, by simp only [mX9_between, My0_2 h1, c9 hN, isGroup_n hM hn en2 hp, cl_some, i00, i10, if_true, if_false], hr⟩
    unfold mX8_between
    rw [c8 hN, planeAt_in r0 hp3, cl_some, c8 hN, groupAt_out r0 (en.trans en2) hp, cl_some, c8 hN]
    rcases plc n (by omega) p3 with hp | ⟨h, hh, rfl⟩
    · rw [groupAt_out r0 (en.trans en2) hp, cl_some, if_neg (by simp), if_pos rfl]
    · rw [groupAt_in r0 hn (en.trans en2) hh, cl_some, if_neg (by simp), if_pos rfl]
  rcases plc n (by omega) p3 with hp | ⟨h, hh, rfl⟩
  · refine ⟨-1, s, s, ?_, hN, by simp only [mX9_between, My0_2 h1, c9 hN, isGroup_y hM hn en2 hg, isGroup_n hM hn en2 hp, cl_some, i00, i10, if_true, if_false], hr⟩
    unfold mX8_between
    rw [c8 hN, planeAt_in r0 hp3, cl_some, c8 hN, groupAt_in r0 hn (en.trans en2) hg, cl_some, c8 hN, groupAt_out r0 (en.trans en2) hp, cl_some, if_neg (by simp), if_neg (by simp), if_pos rfl]
  by_cases hgh : g = h
  · subst hgh
    refine ⟨-1, s, s, ?_, hN, by simp only [mX9_between, My0_2 h1, c9 hN, isGroup_y hM hn en2 hg, cl_some, i10, if_true, if_false, not_true], hr⟩
    unfold mX8_between
    rw [c8 hN, planeAt_in r0 hp3, cl_some, c8 hN, groupAt_in r0 hn (en.trans en2) hg, cl_some, c8 hN, groupAt_in r0 hn (en.trans en2) hg, cl_some, if_neg (by simp), if_neg (by simp), if_neg (by simp), if_neg (fun z => z rfl)]
  have hne : ¬ nI g = nI h := fun z => hgh ((nI_eq (by omega) (by omega)).mp z)
  have hne2 : ¬ (some (56 + 2 * g) = some (56 + 2 * h)) := fun z => by
    have := Option.some.inj z
    omega
  have hg1 : GN s g := ⟨by omega, by rw [en2]; exact nI_lt hg (by omega)⟩
  have hg2 : GN s h := ⟨by omega, by rw [en2]; exact nI_lt hh (by omega)⟩
  obtain ⟨H, hP, hH⟩ := hr.pl hp3
  obtain ⟨f1, f2, f3, f4, f5, f6⟩ := fall_ref r0 (i := 0) (by decide)
  obtain ⟨f1', -, -, -, f5', -⟩ := fall_ref r0 (i := 1) (by decide)
  obtain ⟨sa, a1, a2, a3, -⟩ := cFol2 hr Scr.rf hP hg1 (i := 0) (by decide)
  obtain ⟨sb, b1, b2, b3, b4⟩ := cFol2 hr a2 hP hg2 (i := 1) (by decide)
  have b5 := b4 0 g (by decide) (by decide) a3
  have hNa : sN sa = 249 := a2.1.trans hN
  have hNb : sN sb = 249 := b2.1.trans hN
  have hMb := b2.m hM
  obtain ⟨sc, d1, d2⟩ := takePlane_ok (s := sb) (p := p) (V := sI s 224 p) (H := H) hMb hp3 (by rw [b2.eq (a := 224) (by decide)]) (by rw [b2.eq (a := 225) (by decide)]; exact hH)
  rw [b2.eq (a := 211) (by decide), b2.eq (a := 212) (by decide)] at d2
  have hSc := b2.tr d2.toS
  obtain ⟨sd, m1, m2, m3, -⟩ := betweenOf_ok hr (hSc.me hM) d2.td hP hg1 hg2
  have hlp := leastPause_ok hr b2 hP hg1 hg2 b5 b3
  obtain ⟨k1, k2, k3, k4⟩ := btN_sp s (sI s 224 p) H (sI s 211) (sI s 212) g h
  generalize btN s (sI s 224 p) H (sI s 211) (sI s 212) g h = k at k1 k2 k3 k4 m1 hlp
  refine ⟨if k ≤ 60 then nI k else -7, sb, sd, ?_, hNb, ?_, hr.scr (hSc.tr m2)⟩
  · obtain ⟨kf1, -⟩ := id f1
    obtain ⟨kf1', -⟩ := id f1'
    have hRa : sR sa = sR s := a2.2.1
    have hRb : sR sb = sR s := b2.2.1
    have q := r0
    obtain ⟨h0, q0, q1, -⟩ := q
    unfold mX8_between
    rw [c8 hN, planeAt_in r0 hp3, cl_some, c8 hN, groupAt_in r0 hn (en.trans en2) hg, cl_some, c8 hN, groupAt_in r0 hn (en.trans en2) hh, cl_some, if_neg (by simp), if_neg (by simp), if_neg (by simp), if_pos hne2, dR hN, f6, alR_at (i := 0) (n := 0) rfl (by decide) (by decide) (by omega), f5, dR hN, q1, cv_at kf1 (by omega), a1, cl_some, dR hNa, hRa, f6, alR_at (i := 1) (n := 1) rfl (by decide) (by decide) (by omega), hRa, f5', dR hNa, hRa, q1, cv_at kf1' (by omega), b1, cl_some, dR hNb, hRb, f6, alR_at (i := 0) (n := 0) rfl (by decide) (by decide) (by omega), hRb, f5, dR hNb, hRb, f6, alR_at (i := 1) (n := 1) rfl (by decide) (by decide) (by omega), hRb, f5', gdI_at (kdPl p hp3) (by omega), (hP.scr b2).2.1, c8 hNb, hlp, cl_some]
    by_cases hk : k ≤ 60
    · rw [if_pos hk, if_pos (nI_ne0 (by omega) (by omega)), if_pos hk]
    · rw [if_neg hk, if_neg (fun z => z rfl), if_neg hk]
  · unfold mX9_between
    rw [My0_2 h1, cl_some, if_neg (by decide), c9 hNb, isGroup_y hMb hn (by rw [b2.e7 (by decide)]; exact en2) hg, cl_some, if_neg (by decide), c9 hNb, isGroup_y hMb hn (by rw [b2.e7 (by decide)]; exact en2) hh, cl_some, if_neg (by decide), if_pos hne, c9 hNb, d1, cl_some, c9 (hSc.1.trans hN), m1, cl_some]
