/-! NEAR: squares, second by second -/
def WB (xf yf : Nat → Int32) (hf : Nat → Nat × Nat) : Prop := ∀ t, t ≤ 1000 → btw (xf t) (-1000000) 1000000 ∧ btw (yf t) (-1000000) 1000000 ∧ (hf t).1 ≤ 47000
def sq2 (V : Int32) (p : Nat) (x1 y1 : Nat → Int32) (h1 : Nat → Nat × Nat) (x2 y2 : Nat → Int32) (h2 : Nat → Nat × Nat) (u : Nat) : Int64 :=
  (((Int32.toInt64 (x1 (u + p)) - Int32.toInt64 (x2 u)) - (Int32.toInt64 V * Int32.toInt64 (nI p))) * ((Int32.toInt64 (x1 (u + p)) - Int32.toInt64 (x2 u)) - (Int32.toInt64 V * Int32.toInt64 (nI p))) + ((Int32.toInt64 (y1 (u + p)) - Int32.toInt64 (y2 u)) * (Int32.toInt64 (y1 (u + p)) - Int32.toInt64 (y2 u)))) + ((Int32.toInt64 (nI (h1 (u + p)).1) - Int32.toInt64 (nI (h2 u).1)) * (Int32.toInt64 (nI (h1 (u + p)).1) - Int32.toInt64 (nI (h2 u).1)))
def nr (f : Nat → Int64) : Nat → Int64
  | 0 => 1152921504606846976
  | k + 1 => if f k < nr f k then f k else nr f k
theorem nr_s (f : Nat → Int64) (k : Nat) : nr f (k + 1) = if f k < nr f k then f k else nr f k := rfl
theorem nr_mono (f : Nat → Int64) (k : Nat) : ∀ d, (nr f (k + d)).toInt ≤ (nr f k).toInt
  | 0 => Int.le_refl _
  | d + 1 => by
    have ih := nr_mono f k d
    show (nr f (k + d + 1)).toInt ≤ _
    rw [nr_s]
    by_cases h : f (k + d) < nr f (k + d)
    · rw [if_pos h]
      rw [Int64.lt_iff_toInt_lt] at h
      omega
    · rw [if_neg h]; exact ih
theorem nr_pos {f : Nat → Int64} : ∀ k, (∀ u, u < k → 0 ≤ (f u).toInt) → 0 ≤ (nr f k).toInt
  | 0, _ => (by decide : (0 : Int) ≤ (1152921504606846976 : Int64).toInt)
  | k + 1, h => by
    have ih := nr_pos (f := f) k (fun u hu => h u (by omega))
    rw [nr_s]
    by_cases hc : f k < nr f k
    · rw [if_pos hc]; exact h k (by omega)
    · rw [if_neg hc]; exact ih
theorem sq_b {a : Int} {M : Int} (h1 : -M ≤ a) (h2 : a ≤ M) : 0 ≤ a * a ∧ a * a ≤ M * M := by
  refine ⟨?_, ?_⟩
  · rcases Int.le_total 0 a with h | h
    · exact Int.mul_nonneg h h
    · exact Int.mul_nonneg_of_nonpos_of_nonpos h h
  · rcases Int.le_total 0 a with h | h
    · exact Int.mul_le_mul h2 h2 h (by omega)
    · have e : a * a = (-a) * (-a) := by rw [Int.neg_mul_neg]
      rw [e]
      exact Int.mul_le_mul (by omega) (by omega) (by omega) (by omega)
theorem t64 (x : Int32) : (Int32.toInt64 x).toInt = x.toInt := Int32.toInt_toInt64 x
theorem vp_b {V : Int32} {p : Nat} (hV : btw V 200 600) (hp : p ≤ 360) : (Int32.toInt64 V * Int32.toInt64 (nI p)).toInt = V.toInt * (p : Int) ∧ 0 ≤ V.toInt * (p : Int) ∧ V.toInt * (p : Int) ≤ 216000 := by
  have h2 : V.toInt * (p : Int) ≤ 600 * 360 := Int.mul_le_mul hV.2 (by omega) (by omega) (by omega)
  have h3 : 0 ≤ V.toInt * (p : Int) := Int.mul_nonneg (by have := hV.1; omega) (by omega)
  have e : (Int32.toInt64 V).toInt * (Int32.toInt64 (nI p)).toInt = V.toInt * (p : Int) := by rw [t64, t64, nI_toInt (by omega)]
  refine ⟨?_, h3, by omega⟩
  rw [muL_B (by rw [e]; omega) (by rw [e]; omega), e]
section NEAR
variable {V : Int32} {p d1 d2 o1 o2 b1 b2 : Nat} {x1 y1 x2 y2 : Nat → Int32} {h1 h2 : Nat → Nat × Nat} {s : Sg}
theorem sq2_b (w1 : WB x1 y1 h1) (w2 : WB x2 y2 h2) (hV : btw V 200 600) (hp : p ≤ 360) {u : Nat} (hu : u + p ≤ 1000) : 0 ≤ (sq2 V p x1 y1 h1 x2 y2 h2 u).toInt := by
  obtain ⟨a1, a2, a3⟩ := w1 (u + p) hu
  obtain ⟨c1, c2, c3⟩ := w2 u (by omega)
  obtain ⟨v1, v2, v3⟩ := vp_b hV hp
  unfold btw at a1 a2 c1 c2
  unfold sq2
  have ex1 : (Int32.toInt64 (x1 (u + p)) - Int32.toInt64 (x2 u)).toInt = (x1 (u + p)).toInt - (x2 u).toInt := by
    rw [suL_B (by rw [t64, t64]; omega) (by rw [t64, t64]; omega), t64, t64]
  have ex2 : ((Int32.toInt64 (x1 (u + p)) - Int32.toInt64 (x2 u)) - (Int32.toInt64 V * Int32.toInt64 (nI p))).toInt = ((x1 (u + p)).toInt - (x2 u).toInt) - V.toInt * (p : Int) := by
    rw [suL_B (by rw [ex1, v1]; omega) (by rw [ex1, v1]; omega), ex1, v1]
  have ey : (Int32.toInt64 (y1 (u + p)) - Int32.toInt64 (y2 u)).toInt = (y1 (u + p)).toInt - (y2 u).toInt := by
    rw [suL_B (by rw [t64, t64]; omega) (by rw [t64, t64]; omega), t64, t64]
  have eh1 : (Int32.toInt64 (nI (h1 (u + p)).1)).toInt = ((h1 (u + p)).1 : Int) := by rw [t64, nI_toInt (by omega)]
  have eh2 : (Int32.toInt64 (nI (h2 u).1)).toInt = ((h2 u).1 : Int) := by rw [t64, nI_toInt (by omega)]
  have eh : (Int32.toInt64 (nI (h1 (u + p)).1) - Int32.toInt64 (nI (h2 u).1)).toInt = ((h1 (u + p)).1 : Int) - ((h2 u).1 : Int) := by
    rw [suL_B (by rw [eh1, eh2]; omega) (by rw [eh1, eh2]; omega), eh1, eh2]
  generalize hA : (Int32.toInt64 (x1 (u + p)) - Int32.toInt64 (x2 u)) - (Int32.toInt64 V * Int32.toInt64 (nI p)) = A at ex2 ⊢
  generalize hB : Int32.toInt64 (y1 (u + p)) - Int32.toInt64 (y2 u) = B at ey ⊢
  generalize hC : Int32.toInt64 (nI (h1 (u + p)).1) - Int32.toInt64 (nI (h2 u).1) = C at eh ⊢
  have bA := sq_b (a := A.toInt) (M := 3000000) (by rw [ex2]; omega) (by rw [ex2]; omega)
  have bB := sq_b (a := B.toInt) (M := 3000000) (by rw [ey]; omega) (by rw [ey]; omega)
  have bC := sq_b (a := C.toInt) (M := 3000000) (by rw [eh]; omega) (by rw [eh]; omega)
  have qA : (A * A).toInt = A.toInt * A.toInt := muL_B (by omega) (by omega)
  have qB : (B * B).toInt = B.toInt * B.toInt := muL_B (by omega) (by omega)
  have qC : (C * C).toInt = C.toInt * C.toInt := muL_B (by omega) (by omega)
  have qAB : (A * A + B * B).toInt = A.toInt * A.toInt + B.toInt * B.toInt := by
    rw [adL_B (by rw [qA, qB]; omega) (by rw [qA, qB]; omega), qA, qB]
  rw [adL_B (by rw [qAB, qC]; omega) (by rw [qAB, qC]; omega), qAB, qC]
  omega
theorem sub64 {a b : Int32} (ha : btw a (-1000000) 1000000) (hb : btw b (-1000000) 1000000) : Int32.toInt64 (a - b) = Int32.toInt64 a - Int32.toInt64 b := by
  unfold btw at ha hb
  apply Int64.toInt_inj.mp
  rw [t64, sub_B (by omega) (by omega), suL_B (by rw [t64, t64]; omega) (by rw [t64, t64]; omega), t64, t64]
theorem cube (a b c y z h k : Int64) : (((a + b) - c) * ((a + b) - c) + (z - y) * (z - y)) + (k - h) * (k - h) = (((c - b) - a) * ((c - b) - a) + (y - z) * (y - z)) + (h - k) * (h - k) := by grind
/-- the class's square is the reference's -/
theorem csq (w1 : WB x1 y1 h1) (w2 : WB x2 y2 h2) {u : Nat} (hu : u + p ≤ 1000) : (((((Int32.toInt64 V) * (Int32.toInt64 (nI p))) + (Int32.toInt64 (x2 u))) - (Int32.toInt64 (x1 (u + p)))) * ((((Int32.toInt64 V) * (Int32.toInt64 (nI p))) + (Int32.toInt64 (x2 u))) - (Int32.toInt64 (x1 (u + p))))) + ((Int32.toInt64 (y2 u - y1 (u + p))) * (Int32.toInt64 (y2 u - y1 (u + p)))) + ((Int32.toInt64 (nI (h2 u).1 - nI (h1 (u + p)).1)) * (Int32.toInt64 (nI (h2 u).1 - nI (h1 (u + p)).1))) = sq2 V p x1 y1 h1 x2 y2 h2 u := by
  obtain ⟨a1, a2, a3⟩ := w1 (u + p) hu
  obtain ⟨c1, c2, c3⟩ := w2 u (by omega)
  have bh1 : btw (nI (h1 (u + p)).1) (-1000000) 1000000 := by
    unfold btw; rw [nI_toInt (by omega)]; omega
  have bh2 : btw (nI (h2 u).1) (-1000000) 1000000 := by
    unfold btw; rw [nI_toInt (by omega)]; omega
  rw [sub64 c2 a2, sub64 bh2 bh1]
  unfold sq2
  exact cube _ _ _ _ _ _ _
theorem secs_le (hd1 : d1 ≤ 943) (hd2 : d2 ≤ 943) (hp : p ≤ 360) (i : Nat) (hi : i < 2 ^ 30) : (mnI (nI d1 - nI p) (nI d2) ≤ nI i) ↔ min (d1 - p) d2 ≤ i := by
  have e1 : (nI d1 - nI p).toInt = (d1 : Int) - p := pk_sub_toInt (by omega) (by omega)
  have e2 : (nI d2).toInt = (d2 : Int) := nI_toInt (by omega)
  have e3 : (nI i).toInt = (i : Int) := nI_toInt (by omega)
  unfold mnI
  by_cases h : nI d2 < nI d1 - nI p
  · rw [if_pos h, Int32.le_iff_toInt_le, e2, e3]
    rw [Int32.lt_iff_toInt_lt, e1, e2] at h
    omega
  · rw [if_neg h, Int32.le_iff_toInt_le, e1, e3]
    rw [Int32.lt_iff_toInt_lt, e1, e2] at h
    omega
theorem nearTo_ok (f1 : FW s b1 x1 y1 h1 o1 d1) (f2 : FW s b2 x2 y2 h2 o2 d2) (w1 : WB x1 y1 h1) (w2 : WB x2 y2 h2) (hp : p ≤ 360) (Bd : Int64) : ∃ k, k ≤ min (d1 - p) d2 ∧ mX1_nearTo b1 (some b2) (nI p) V Bd s = some (nr (sq2 V p x1 y1 h1 x2 y2 h2) k, s) ∧ (k = min (d1 - p) d2 ∨ nr (sq2 V p x1 y1 h1 x2 y2 h2) k < Bd) := by
  obtain ⟨⟨f1a, f1b, f1c, f1d, f1e, f1f, f1g, f1h, f1i⟩, hN, q0, q1, q2, u5, u6, u7, u8, u9⟩ := f1
  obtain ⟨⟨f2a, f2b, f2c, f2d, f2e, f2f, f2g, f2h, f2i⟩, -, r0, r1, r2, v5, v6, v7, v8, v9⟩ := f2
  unfold mX1_nearTo
  rw [gdI_at f1a (by omega), u7, gdI_at f2a (by omega), v7]
  refine lp_inv (F := mX1_nearTo_b30 (nI d1) (nI p) (nI d2) Bd (some b2) b1 V) (n := min (d1 - p) d2) (I := fun i q s' => s' = s ∧ q = (nr (sq2 V p x1 y1 h1 x2 y2 h2) i, nI i)) (Q := fun x => ∃ k, k ≤ min (d1 - p) d2 ∧ x = some (nr (sq2 V p x1 y1 h1 x2 y2 h2) k, s) ∧ (k = min (d1 - p) d2 ∨ nr (sq2 V p x1 y1 h1 x2 y2 h2) k < Bd)) (fun q s' r h => ?_) (fun i q s' r hi h hr => ?_) FU 0 (Nat.zero_le _) (show min (d1 - p) d2 - 0 < 4000 by omega) _ _ ⟨rfl, rfl⟩
  · obtain ⟨rfl, rfl⟩ := h
    refine ⟨_, Nat.le_refl _, ?_, Or.inl rfl⟩
    unfold mX1_nearTo_b30
    rw [if_pos ((secs_le u8 v8 hp _ (by omega)).2 (Nat.le_refl _))]
  · obtain ⟨rfl, rfl⟩ := h
    unfold mX1_nearTo_b30
    rw [if_neg (fun z => by have := (secs_le u8 v8 hp i (by omega)).1 z; omega), if_neg (nI0 (by omega))]
    by_cases hc : lg_cmp (nr (sq2 V p x1 y1 h1 x2 y2 h2) i) Bd < 0
    · rw [if_pos hc]
      exact ⟨i, by omega, rfl, Or.inr ((lg_cmp_lt _ _).mp hc)⟩
    · obtain ⟨a1, a2, a3⟩ := u5 (i + p) (by omega)
      obtain ⟨c1, c2, c3⟩ := v5 i (by omega)
      rw [if_neg hc, gdR_at f2a (by omega), r0, alI_n (by omega) f2b (by omega), c1, gdR_at f1a (by omega), q0]
      dsimp only
      rw [nI_add, alI_n (by omega) f1b (by omega), a1, gdR_at f2a (by omega), r1, alI_n (by omega) f2d (by omega), c2, gdR_at f1a (by omega), q1, alI_n (by omega) f1d (by omega), a2, gdR_at f2a (by omega), r2, alI_n (by omega) f2f (by omega), c3, gdR_at f1a (by omega), q2, alI_n (by omega) f1f (by omega), a3, csq w1 w2 (by omega), nI_1]
      exact hr _ _ ⟨rfl, rfl⟩
theorem nr_lt_iff {f : Nat → Int64} {k N : Nat} {Bd : Int64} (hk : k ≤ N) (h : k = N ∨ nr f k < Bd) : (nr f k < Bd ↔ nr f N < Bd) := by
  rcases h with rfl | h
  · exact Iff.rfl
  · refine ⟨fun _ => ?_, fun _ => h⟩
    have := nr_mono f k (N - k)
    rw [show k + (N - k) = N by omega] at this
    rw [Int64.lt_iff_toInt_lt] at h ⊢
    omega
theorem nearBy_ok (hM : M0 s) (m1 : MW s 0 x1 y1 h1 o1 d1) (m2 : MW s 1 x2 y2 h2 o2 d2) (hV : sI s 207 34 = V) (hp : p ≤ 360) : mX9_nearBy 207 (nI p) s = some (nr (sq2 V p x1 y1 h1 x2 y2 h2) (min (d1 - p) d2), s) := by
  have hN := hM.1
  obtain ⟨u1, u2, u3, u4, u5⟩ := m1
  obtain ⟨v1, v2, v3, v4, v5⟩ := m2
  suffices hgo : lp (mX9_nearBy_b7 207 (nI p)) FU (nr (sq2 V p x1 y1 h1 x2 y2 h2) 0, nI (0 + p)) s = some (nr (sq2 V p x1 y1 h1 x2 y2 h2) (min (d1 - p) d2), s) by
    unfold mX9_nearBy
    rw [Nat.zero_add] at hgo
    exact hgo
  refine lp_run (F := mX9_nearBy_b7 207 (nI p)) (n := min (d1 - p) d2) (q := fun i => (nr (sq2 V p x1 y1 h1 x2 y2 h2) i, nI (i + p))) (S := fun _ => s) (fun r => ?_) (fun i hi r => ?_) FU 0 (Nat.zero_le _) (show min (d1 - p) d2 - 0 < 4000 by omega)
  · unfold mX9_nearBy_b7
    rw [mR hM 40 243 rfl (by decide) (by decide), alI_at (i := 0) (n := 0) rfl (by decide) (by decide) (by omega), u2]
    dsimp only
    by_cases hc : d1 ≤ min (d1 - p) d2 + p
    · rw [if_pos (nI_le hc (by omega))]
    · rw [if_neg (nI_ge (by omega) (by omega)), mR hM 40 243 rfl (by decide) (by decide), alI_at (i := 1) (n := 1) rfl (by decide) (by decide) (by omega), v2, pk_sub (by omega), if_pos (nI_le (by omega) (by omega))]
  · have a := u1 (i + p) (by omega)
    have c := v1 i (by omega)
    rw [show 1001 * 0 + (i + p) = i + p by omega] at a
    rw [show 1001 * 1 + i = 1001 + i by omega] at c
    obtain ⟨a1, a2, a3, -⟩ := a
    obtain ⟨c1, c2, c3, -⟩ := c
    have ei : (1001 : Int32) + nI (i + p) - nI p = nI (1001 + i) := by
      rw [show (1001 : Int32) = nI 1001 from rfl, nI_add, pk_sub (by omega), show 1001 + (i + p) - p = 1001 + i by omega]
    have l1 : i + p < 2002 := by omega
    have l2 : 1001 + i < 2002 := by omega
    unfold mX9_nearBy_b7
    rw [mR hM 40 243 rfl (by decide) (by decide), alI_at (i := 0) (n := 0) rfl (by decide) (by decide) (by omega), u2]
    dsimp only
    rw [if_neg (nI_ge (by omega) (by omega)), mR hM 40 243 rfl (by decide) (by decide), alI_at (i := 1) (n := 1) rfl (by decide) (by decide) (by omega), v2, pk_sub (by omega), if_neg (nI_ge (by omega) (by omega)), mR hM 36 239 rfl (by decide) (by decide), alI_n (show _ < ln 239 from l1) (by decide) (by omega), a1, mR hM 36 239 rfl (by decide) (by decide), ei, alI_n (show _ < ln 239 from l2) (by decide) (by omega), c1, mI hN, hV, mR hM 37 240 rfl (by decide) (by decide), alI_n (show _ < ln 240 from l1) (by decide) (by omega), a2, mR hM 37 240 rfl (by decide) (by decide), alI_n (show _ < ln 240 from l2) (by decide) (by omega), c2, mR hM 38 241 rfl (by decide) (by decide), alI_n (show _ < ln 241 from l1) (by decide) (by omega), a3, mR hM 38 241 rfl (by decide) (by decide), alI_n (show _ < ln 241 from l2) (by decide) (by omega), c3]
    have esq : ((Int32.toInt64 (x1 (i + p)) - Int32.toInt64 (x2 i) - Int32.toInt64 V * Int32.toInt64 (nI p)) * (Int32.toInt64 (x1 (i + p)) - Int32.toInt64 (x2 i) - Int32.toInt64 V * Int32.toInt64 (nI p)) + (Int32.toInt64 (y1 (i + p)) - Int32.toInt64 (y2 i)) * (Int32.toInt64 (y1 (i + p)) - Int32.toInt64 (y2 i)) + (Int32.toInt64 (nI (h1 (i + p)).1) - Int32.toInt64 (nI (h2 i).1)) * (Int32.toInt64 (nI (h1 (i + p)).1) - Int32.toInt64 (nI (h2 i).1))) = sq2 V p x1 y1 h1 x2 y2 h2 i := rfl
    rw [esq, nI_1, show i + p + 1 = i + 1 + p by omega, nr_s]
    by_cases hc : sq2 V p x1 y1 h1 x2 y2 h2 i < nr (sq2 V p x1 y1 h1 x2 y2 h2) i
    · rw [if_pos hc, if_neg (fun z => by
        have := (lg_cmp_lt _ _).mpr hc
        rw [Int32.lt_iff_toInt_lt] at this
        rw [Int32.le_iff_toInt_le] at z
        omega)]
    · rw [if_neg hc, if_pos (by
        have : ¬ lg_cmp (sq2 V p x1 y1 h1 x2 y2 h2 i) (nr (sq2 V p x1 y1 h1 x2 y2 h2) i) < 0 := fun z => hc ((lg_cmp_lt _ _).mp z)
        rw [Int32.lt_iff_toInt_lt] at this
        rw [Int32.le_iff_toInt_le]
        omega)]
end NEAR
theorem wb_way {Kd Di V : Int32} {oo H : Nat} {wx wy : Nat → Int32} (hV : btw V 200 600) (hH : H ≤ 47000) (hw : ∀ j, j < 12 → okW (wx j) ∧ okW (wy j)) : WB (fx Kd Di V oo H wx) (fy Kd Di oo H wy) (fh Kd oo H) := by
  intro t ht
  have b1 := fx_b (K := Kd) (D := Di) (oo := oo) (V := V) (wx := wx) ⟨by have := hV.1; omega, hV.2⟩ hH (fun j hj => (hw j hj).1) t ht
  have b2 := fy_b (K := Kd) (D := Di) (oo := oo) (wy := wy) hH (fun j hj => (hw j hj).2) t ht
  unfold btw at b1 b2 ⊢
  exact ⟨by omega, by omega, fh_top hH t⟩
