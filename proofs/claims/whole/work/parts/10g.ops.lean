/-! ORDER -/
theorem prw_spec {W : Nat → Nat → Nat} {f : Nat → Nat} {n v u : Nat} (h0 : 0 < n) (h7 : n < 7) (hW : ∀ x y, W x y ≤ 60) (hf : inc f n) (hB : ∀ k, k < n → f k < 20) (h : bsF (sT W f n) (pts n).length = some (v, u)) : (∀ k, k < n → pa n u k < n ∧ prw f n u k < 20) ∧ (∀ k, k < n → ∀ j, j < k → prw f n u j ≠ prw f n u k ∧ pa n u j ≠ pa n u k) ∧ v ≤ 360 ∧ ∀ k, k + 1 < n → W (prw f n u k) (prw f n u (k + 1)) ≠ 0 := by
  obtain ⟨h1, h2⟩ := bsF_sp _ _ v u h
  have hp := pa_perm h0 h7 h1
  obtain ⟨h3, h4⟩ := smF_b hW (n - 1) v h2
  refine ⟨fun k hk => ⟨(hp k hk).1, hB _ (hp k hk).1⟩, fun k hk j hj => ⟨fun z => ?_, (hp k hk).2 j hj⟩, by omega, fun k hk => h4 k (by omega)⟩
  have hjn := (hp j (by omega)).1
  have hkn := (hp k hk).1
  have hne := (hp k hk).2 j hj
  have z' : f (pa n u j) = f (pa n u k) := z
  rcases Nat.lt_or_ge (pa n u j) (pa n u k) with h | h
  · have := hf _ _ h hkn; omega
  · have := hf (pa n u k) (pa n u j) (by omega) hjn; omega
theorem op_order : Op1 mX8_order mX9_order := by
  intro s hr p1
  have hN := hr.1.1
  have hM := hr.1.m
  obtain ⟨r0, r1, r2, r3, r4, r5, r6, r7, r8⟩ := id hr
  obtain ⟨en, n, hn, en2, hL⟩ := id r7
  rcases plc n (by omega) p1 with hp | ⟨l, hln, rfl⟩
  · exact ⟨-1, s, s, by simp only [mX8_order, c8 hN, loadAt_out r0 (en.trans en2) hp, cl_some, nn, if_true], hN, by simp only [mX9_order, c9 hN, isLoad_n hM hn en2 hp, cl_some, if_false, not_true], hr⟩
  have hl12 : l < 12 := by omega
  obtain ⟨k1, k2, k3, k4, k5, -⟩ := kdLo l hl12
  have hRL := hL l hl12
  obtain ⟨m, hv⟩ := hRL.lv r0 hl12
  obtain ⟨-, hm, z1, z2, z3, z9, -, z4⟩ := id hv
  have a3 := hRL.2.2.1
  have cHead : mX8_order 0 (nI l) s = (gdI s 5 8 (some (99 + 7 * l)) fun v3 => if v3 = 0 then (gdI s 5 6 (some (99 + 7 * l)) fun v4 => if ¬ v4 = 0 then (cv s 8 (some 0) fun a22 => cl (mX8_measurePauses a22 (some (99 + 7 * l)) s) fun u5 s6 => gdR s6 8 8 (some 0) fun v7 => cv s6 4 v7 fun a21 => cl (mX4_begin a21 (some (99 + 7 * l)) s6) fun u8 s9 => gdR s9 8 8 (some 0) fun v10 => cv s9 4 v10 fun a20 => cl (mX4_findShortest a20 s9) fun v11 s12 => if ¬ v11 = 0 then (gdR s12 8 8 (some 0) fun v13 => gdR s12 8 3 (some 0) fun v14 => cv s12 4 v13 fun a19 => cl (mX4_giveTo a19 (some (99 + 7 * l)) v14 s12) fun u15 s16 => gdR s16 8 8 (some 0) fun v17 => gdI s16 4 4 v17 fun v18 => some (v18, s16)) else some ((-7), s12)) else some ((-7), s)) else some ((-6), s)) := by
    unfold mX8_order
    rw [c8 hN, loadAt_in r0 hn (en.trans en2) hln, cl_some, if_neg (by simp)]
  rcases hRL.z with z | ⟨z, -⟩
  rotate_left
  · refine ⟨-6, s, s, ?_, hN, ?_, hr⟩
    · rw [cHead, gdI_at k1 (by omega), a3, z, if_neg (by decide)]
    · unfold mX9_order
      rw [c9 hN, isLoad_y hM hn en2 hln, cl_some, if_pos (by decide), mR hM 26 232 rfl (by decide) (by decide), alZ_n (show l < ln 232 from hl12) (by decide) (by omega), z, if_neg (by decide)]
  rw [gdI_at k1 (by omega), a3, z, if_pos rfl, gdI_at k1 (by omega), z2] at cHead
  have mHead : ∀ s1, MEq s s1 → mX9_order 207 (nI l) s1 = (if ¬ nI m = 0 then (cv s1 9 (some 207) fun a80 => cl (mX9_takeLoad a80 (nI l) s1) fun u7 s8 => cv s8 9 (some 207) fun a79 => cl (mX9_sortGroups a79 (nI l) s8) fun u9 s10 => lp (mX9_order_b48 (nI m) 207 (nI l)) FU 0 s10) else some ((-7), s1)) := fun s1 hS => by
    have hM1 := hS.1
    unfold mX9_order
    rw [c9 hM1.1, isLoad_y hM1 hn (by rw [hS.e7 (by decide)]; exact en2) hln, cl_some, if_pos (by decide), mR hM1 26 232 rfl (by decide) (by decide), alZ_n (show l < ln 232 from hl12) (by decide) (by rw [hM1.1]; decide), hS.eq (a := 232) (by omega), z, if_pos rfl, mR hM1 22 228 rfl (by decide) (by decide), alI_n (show l < ln 228 from hl12) (by decide) (by rw [hM1.1]; decide), hS.eq (a := 228) (by omega), z1]
  rcases Nat.eq_zero_or_pos m with hm0 | hm0
  · subst hm0
    refine ⟨-7, s, s, ?_, hN, ?_, hr⟩
    · rw [cHead, if_neg (fun z => z rfl)]
    · rw [mHead s (Scr.rf.me hM), if_neg (fun z => z rfl)]
  have hm1 : ¬ nI m = 0 := nI_ne0 hm0 (by omega)
  rw [if_pos hm1, c8 hN] at cHead
  have hQ := hr.lq hn en2 hln hv
  have hp := hQ.2.2
  have hinj : ∀ i, i < m → ∀ j, j < i → pgi s l j ≠ pgi s l i := fun i hi j hj => hr.inj hn en2 hln hv hi hj
  obtain ⟨P, A, ax, ay, V, H, wx, wy, e4, e5, hP, hT⟩ := hr.ld hn en2 hln
  -- the class
  obtain ⟨s1, b1, b2, b3⟩ := measure_ok hr hn en2 hln hv hP e4 e5
  have hr1 := hr.scr b2
  have hN1 := hr1.1.1
  have hR1 : sR s1 = sR s := b2.2.1
  have qq := r0
  obtain ⟨h0, y0, y1, y2, y3, y4, y5, y6, y7, y8, y9, y10, y11, y12, y13, gb1, gb2, gb3, -⟩ := qq
  obtain ⟨s2, c1, c2, c3⟩ := begin_ok (s := s1) (g := fun i => pgi s l i) hN1 (by rw [hR1]; exact y12) hl12 hm (by rw [b2.eq (a := 99 + 7 * l) (by omega)]; exact z2) (by rw [hR1]; exact z3) (fun i hi => ⟨(hp i hi).1.1, by rw [hR1]; exact (hp i hi).2.2, by
    have hg20 := (hp i hi).1.1
    rw [b2.eq (a := 56 + 2 * pgi s l i) (by omega)]
    exact (gb3 _ hg20).2.1⟩) hinj
  have hS2 : Scr s s2 := by
    refine b2.tr ⟨c2.1, c2.2.1, c2.2.2.1, fun a q h => ?_⟩
    have h13 : a ≠ 13 := fun z => by subst z; revert h; unfold scr; omega
    have h11 : a ≠ 11 := fun z => by subst z; revert h; unfold scr; omega
    rw [c2.2.2.2 a q h13, sI_ne h11]
  have hN2 : sN s2 = 249 := hS2.1.trans hN
  have hR2 : sR s2 = sR s := hS2.2.1
  have hLN : LN s2 m := ⟨hN2, by rw [hR2]; exact y11, by rw [hR2]; exact y12, by rw [hR2]; exact y13, by rw [c2.2.2.2 11 3 (by decide), sI_s], hm0, hm⟩
  obtain ⟨hinc, hsrt⟩ := srtF_sp m hinj
  have hsB := srt_b (fun i hi => (hp i hi).1.1) hinj (i := m) (Nat.le_refl _)
  have hWb : ∀ x y, Wg s V H wx wy x y ≤ 60 := fun x y => Wg_b s V H wx wy x y
  have hPW : ∀ x y, x < m → y < m → sI s2 12 (srtF (fun i => pgi s l i) m x * 20 + srtF (fun i => pgi s l i) m y) = nI (Wg s V H wx wy (srtF (fun i => pgi s l i) m x) (srtF (fun i => pgi s l i) m y)) := fun x y hx hy => by
    obtain ⟨i, hi, e1⟩ := hsrt x hx
    obtain ⟨j, hj, e2⟩ := hsrt y hy
    rw [e1, e2, c2.2.2.2 12 _ (by decide), sI_ne (by decide)]
    exact b3 i j hi hj
  have hfG : ∀ k, k < m → GN s (srtF (fun i => pgi s l i) m k) := fun k hk => by
    obtain ⟨i, hi, e1⟩ := hsrt k hk
    rw [e1]
    exact (hp i hi).1
  -- the reference's sorted row is the same
  have hsg : ∀ s', MEq s s' → ∃ s'', mX9_sortGroups 207 (nI l) s' = some ((), s'') ∧ On s' s'' 245 ∧ RW s'' 245 (srtF (fun i => pgi s l i) m) m := fun s' hE => sortGroups_ok (g := fun i => pgi s l i) hE.1 hl12 hm (by rw [hE.eq (a := 228) (by omega)]; exact z1) (fun i hi => ⟨(hp i hi).1.1, by rw [hE.eq (a := 229) (by omega)]; exact (hp i hi).2.1⟩) hinj
  generalize srtF (fun i => pgi s l i) m = f at c3 hinc hsB hPW hfG hsg
  obtain ⟨s3, fd, d1, d2, d3⟩ := findShort_ok (W := Wg s V H wx wy) hLN hinc hsB hWb hPW c3
  have hS3 : Scr s s3 := hS2.tr ⟨d2.1, d2.2.1, d2.2.2.1, fun a q h => d2.2.2.2 a q (fun z => by
    revert h
    unfold scr
    omega)⟩
  have hN3 : sN s3 = 249 := hS3.1.trans hN
  have hR3 : sR s3 = sR s := hS3.2.1
  rw [b1, cl_some, dR hN1, hR1, y8, cv_at (by decide) (by rw [hN1]; decide), c1, cl_some, dR hN2, hR2, y8, cv_at (by decide) (by rw [hN2]; decide), d1, cl_some] at cHead
  -- the reference, from any state
  have mRun : ∀ s', MEq s s' → ∃ s4, Scr s' s4 ∧ RW s4 245 f m ∧ PWm s4 (btN s V H wx wy) f m ∧ ((bsF (sT (Wg s V H wx wy) f m) (pts m).length = none ∧ mX9_order 207 (nI l) s' = some (-7, s4)) ∨ ∃ v u q, bsF (sT (Wg s V H wx wy) f m) (pts m).length = some (v, u) ∧ q.1 = nI v ∧ RW s4 248 (pa m u) m ∧ mX9_order 207 (nI l) s' = lp (mX9_order_b205 (nI m) q 207 (nI l)) FU 0 s4) := fun s' hE => by
    obtain ⟨sa, g1, g2⟩ := hT s' hE
    have hEa := hE.tr g2.toS
    obtain ⟨sb, i1, i2, i3⟩ := hsg sa hEa
    have hEb := hEa.tr (i2.sc (by omega))
    obtain ⟨sc, j1, j2, j3, j4, j5⟩ := mPauses (l := l) hr hEb (g2.td.on i2 (by omega)) hP hm hfG i3
    have hEc := hEb.tr j2
    obtain ⟨sd, o1, o2, o3, o4⟩ := mOrders (s := s) (l := l) (m := m) (V := V) (H := H) (wx := wx) (wy := wy) (W := Wg s V H wx wy) hQ.mv hEc hm0 hm hsB hinc j3 j4 j5 (fun _ _ => rfl)
    have e0 : mX9_order 207 (nI l) s' = lp (mX9_order_b126 (nI m) 207 (nI l)) FU (-1, 1) sc := by
      rw [mHead s' hE, if_pos hm1, c9 hE.1.1, g1, cl_some, c9 hEa.1.1, i1, cl_some, j1]
    refine ⟨sd, ((g2.toS.tr (i2.sc (by omega))).tr j2).tr o1, o2, o3, ?_⟩
    rw [e0]
    exact o4
  cases hbs : bsF (sT (Wg s V H wx wy) f m) (pts m).length with
  | none =>
    rw [hbs] at d3
    have e : fd = 0 := d3
    subst e
    obtain ⟨s4, g1, -, -, g2⟩ := mRun s3 (hS3.me hM)
    rcases g2 with ⟨-, g2⟩ | ⟨v, u, q, g2, -⟩
    · refine ⟨-7, s3, s4, ?_, hN3, g2, hr.scr (hS3.tr g1)⟩
      rw [cHead, if_neg (fun z => z rfl)]
    · rw [hbs] at g2; cases g2
  | some vu =>
    obtain ⟨v, u⟩ := vu
    rw [hbs] at d3
    obtain ⟨e, d4, d5⟩ : fd = 1 ∧ sI s3 11 4 = nI v ∧ RW s3 14 (prw f m u) m := d3
    subst e
    obtain ⟨w1, w2, w3, w4⟩ := prw_spec hm0 hm hWb hinc hsB hbs
    have hLN3 : LN s3 m := d2.ln hLN
    obtain ⟨U, t1, tN, tF, tR, tRn, tI, tIn⟩ := giveTo_ok (W := Wg s V H wx wy) (B := prw f m u) hLN3 hl12 (by rw [hR3]; exact z3) (by rw [hR3]; exact z9) (fun g hg => by rw [hR3]; exact (gb3 g hg).1) (fun k hk => (w1 k hk).2) d5 (fun i j hi hj => by
      rw [d2.2.2.2 12 _ (by omega)]
      exact hPW _ _ (w1 i hi).1 (w1 j hj).1)
    have hNU : sN U = 249 := tN.trans hN3
    have hMU : M0 U := ⟨hNU, fun k hk => by rw [tR _ _ (by omega), hR3]; exact hM.2 k hk⟩
    have hEU : MEq s U := ⟨hMU, fun a q h1 h2 => by rw [tI a q (by omega)]; exact hS3.2.2.2 a q h2⟩
    obtain ⟨s4, g1, g2, g3, g4⟩ := mRun U hEU
    rcases g4 with ⟨g4, -⟩ | ⟨v', u', q, g4, g5, g6, g7⟩
    · rw [hbs] at g4; cases g4
    rw [hbs] at g4
    have e1 := congrArg Prod.fst (Option.some.inj g4)
    have e2 := congrArg Prod.snd (Option.some.inj g4)
    dsimp only at e1 e2
    subst e1 e2
    have hE4 := hEU.tr g1
    obtain ⟨T, x1, xN, xR, xF, xo, xn⟩ := mGive (l := l) (W := Wg s V H wx wy) (T := btN s V H wx wy) (q := q) (a := pa m u) hE4.1 hl12 hm hsB (fun k hk => (w1 k hk).1) g2 g3 g6 (fun k hk => by
      have h9 := w4 k hk
      have e9 : Wg s V H wx wy (prw f m u k) (prw f m u (k + 1)) = if prw f m u k ≠ prw f m u (k + 1) ∧ ¬ rnk s (prw f m u (k + 1)) < rnk s (prw f m u k) ∧ btN s V H wx wy (prw f m u k) (prw f m u (k + 1)) ≤ 60 then btN s V H wx wy (prw f m u k) (prw f m u (k + 1)) else 0 := rfl
      by_cases hc : prw f m u k ≠ prw f m u (k + 1) ∧ ¬ rnk s (prw f m u (k + 1)) < rnk s (prw f m u k) ∧ btN s V H wx wy (prw f m u k) (prw f m u (k + 1)) ≤ 60
      · rw [if_pos hc] at e9
        exact ⟨(w2 (k + 1) hk k (by omega)).2, hc.2.2, e9⟩
      · rw [if_neg hc] at e9
        exact absurd e9 h9)
    refine ⟨nI v, U, T, ?_, hNU, ?_, ?_⟩
    · rw [cHead, if_pos (by decide), dR hN3, hR3, y8, dR hN3, hR3, y3, cv_at (by decide) (by rw [hN3]; decide), t1, cl_some, dR hNU, tR _ _ (by omega), hR3, y8, gdI_at (by decide) (by rw [hNU]; decide), tI _ _ (by omega), d4]
    · rw [g7, x1, g5]
    -- the relation again
    have tC : ∀ a q, a < 183 → (a < 11 ∨ 14 < a) → ¬ (a = 101 + 7 * l ∧ q < m) → sI T a q = sI s a q := fun a q h1 h2 h3 => by
      rw [xo a q (by omega), g1.eq (a := a) (by omega), tI a q h3, hS3.eq (a := a) (by omega)]
    have tM : ∀ a q, 208 ≤ a → a < 237 → ¬ ((a = 229 ∨ a = 230) ∧ 6 * l ≤ q ∧ q < 6 * l + m) → sI T a q = sI s a q := fun a q h1 h2 h3 => by
      rw [xo a q h3]
      exact hE4.2 a q (by omega) (nscr (by omega))
    have t7 : ∀ q, q ≠ 34 → q ≠ 35 → sI T 207 q = sI s 207 q := fun q h1 h2 => by
      rw [xo 207 q (by omega)]
      exact hE4.e7 ⟨h1, h2⟩
    have tRo : ∀ a k, ¬ (a = 100 + 7 * l ∧ k < m) → sR T a k = sR s a k := fun a k h => by rw [xR, g1.2.1, tR a k h, hR3]
    have tFF : sF T = sF s := by rw [xF, g1.2.2.1, tF, hS3.2.2.1]
    have tNN : sN T = sN s := by rw [xN, g1.1, tN, hS3.1]
    have hE : ∀ a, ((a < 183 ∧ (a < 11 ∨ 14 < a) ∧ a ≠ 100 + 7 * l ∧ a ≠ 101 + 7 * l) ∨ (208 ≤ a ∧ a < 237 ∧ a ≠ 229 ∧ a ≠ 230)) → Eqc s T a := fun a h => ⟨funext fun q => by
      rcases h with h | h
      · exact tC a q (by omega) (by omega) (by omega)
      · exact tM a q (by omega) (by omega) (by omega), funext fun k => tRo a k (by omega), by rw [tFF]⟩
    have h00 : ∀ q, sI T 0 q = sI s 0 q := fun q => tC 0 q (by omega) (by omega) (by omega)
    refine ⟨r0.congr tNN (fun a k _ h3 _ => tRo a k (by omega)) (fun a h1 h2 => tC a 0 (by omega) (by omega) (by omega)), r1.congr (fun a h => hE a (by omega)), r2.congr (fun a h => hE a (by omega)), r3.congr (fun a h => hE a (by omega)), r4.congr (fun a h => hE a (by omega)) (h00 _) (t7 _ (by omega) (by omega)), r5.congr (fun a h => hE a (by omega)), r6.congr (fun a h => hE a (by omega)), ⟨by rw [h00, t7 _ (by omega) (by omega)]; exact en, n, hn, by rw [t7 _ (by omega) (by omega)]; exact en2, fun l' hl' => ?_⟩, ?_⟩
    · by_cases hll : l' = l
      · subst hll
        obtain ⟨cc1, cc2, cc3, cc4, cc5, m', hm', hm2', hm3', -⟩ := hRL
        have hmm : m' = m := (nI_eq (by omega) (by omega)).mp (hm2'.symm.trans z1)
        subst hmm
        have q9 : ∀ q, sI T (99 + 7 * l') q = sI s (99 + 7 * l') q := fun q => tC _ q (by omega) (by omega) (by omega)
        have eM : ∀ b, 208 ≤ b → b < 237 → b ≠ 229 → b ≠ 230 → sI T b = sI s b := fun b h1 h2 h3 h4 => funext fun q => tM b q h1 h2 (by omega)
        have eC : ∀ b, 14 < b → b < 183 → b ≠ 101 + 7 * l' → sI T b = sI s b := fun b h1 h2 h3 => funext fun q => tC b q h2 (by omega) (by omega)
        unfold RL1
        rw [eC (99 + 7 * l') (by omega) (by omega) (by omega), eC (102 + 7 * l') (by omega) (by omega) (by omega), eC (104 + 7 * l') (by omega) (by omega) (by omega), eC (105 + 7 * l') (by omega) (by omega) (by omega), eM 228 (by omega) (by omega) (by omega) (by omega), eM 231 (by omega) (by omega) (by omega) (by omega), eM 232 (by omega) (by omega) (by omega) (by omega), eM 227 (by omega) (by omega) (by omega) (by omega), eM 233 (by omega) (by omega) (by omega) (by omega), eM 234 (by omega) (by omega) (by omega) (by omega), eM 235 (by omega) (by omega) (by omega) (by omega), eM 236 (by omega) (by omega) (by omega) (by omega), t7 _ (by omega) (by omega), tRo (99 + 7 * l') 4 (by omega), tRo (99 + 7 * l') 5 (by omega)]
        refine ⟨cc1, cc2, cc3, cc4, cc5, m', hm', hm2', hm3', fun i hi => ?_⟩
        obtain ⟨v1, v2⟩ := xn i hi
        have eI : sI T (101 + 7 * l') i = nI (pzF (Wg s V H wx wy) (prw f m' u) i) := by
          rw [xo _ _ (by omega), g1.eq (a := 101 + 7 * l') (by omega)]
          exact tIn i hi
        have eR : sR T (100 + 7 * l') i = some (56 + 2 * prw f m' u i) := by
          rw [xR, g1.2.1]
          exact tRn i hi
        have v2' : sI T 230 (6 * l' + i) = nI (pzF (Wg s V H wx wy) (prw f m' u) i) := v2
        have v1' : sI T 229 (6 * l' + i) = nI (prw f m' u i) := v1
        refine ⟨⟨eI.trans v2'.symm, ?_, prw f m' u i, (w1 i hi).2, (hfG _ (w1 i hi).1).2, v1', eR⟩, fun j hj => ?_⟩
        · rw [v2']
          have hb : 1 ≤ pzF (Wg s V H wx wy) (prw f m' u) i ∧ pzF (Wg s V H wx wy) (prw f m' u) i ≤ 60 := by
            unfold pzF
            by_cases hi0 : i = 0
            · rw [if_pos hi0]; omega
            · rw [if_neg hi0]
              have := w4 (i - 1) (by omega)
              rw [show i - 1 + 1 = i by omega] at this
              have := hWb (prw f m' u (i - 1)) (prw f m' u i)
              omega
          unfold btw
          rw [nI_toInt (by omega)]
          omega
        · have vj : sI T 229 (6 * l' + j) = nI (prw f m' u j) := (xn j (by omega)).1
          have hbj := (w1 j (by omega)).2
          have hbi := (w1 i hi).2
          rw [v1', vj, nI_eq (by omega) (by omega)]
          exact (w2 i hi j hj).1
      · exact (hL l' hl').fr hl' (fun a h3 h4 => hE a (by omega)) (t7 _ (by omega) (by omega)) (fun b h3 h4 h5 h6 h7 h8 => tM b l' (by omega) (by omega) (by omega)) (fun i hi => tM 229 _ (by omega) (by omega) (by omega)) (fun i hi => tM 230 _ (by omega) (by omega) (by omega)) (fun i hi => tM 233 _ (by omega) (by omega) (by omega)) (fun i hi => tM 234 _ (by omega) (by omega) (by omega))
    · show sI T 207 31 = jup T 12
      rw [t7 _ (by omega) (by omega), jup_eq (s := s) (s' := T) 12 (fun l' hl' => ⟨tM 232 _ (by omega) (by omega) (by omega), ?_⟩)]
      · exact r8
      · by_cases hll : l' = l
        · subst hll; exact Or.inl z
        · refine Or.inr ⟨tM 228 _ (by omega) (by omega) (by omega), fun i hi => ?_⟩
          have hm6 : (sI s 228 l').toNatClampNeg < 7 := by
            obtain ⟨-, -, -, -, -, m', hm', hm2', -⟩ := hL l' hl'
            rw [hm2', nI_clamp (by omega)]
            exact hm'
          rw [tM 229 _ (by omega) (by omega) (by omega), tM 220 _ (by omega) (by omega) (by omega)]
