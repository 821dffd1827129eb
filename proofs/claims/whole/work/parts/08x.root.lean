/-! ROOTS -/
def rN (v : Nat) : Nat → Nat → Nat
  | 0, r => r
  | k + 1, r => if (r + 2 ^ k) * (r + 2 ^ k) ≤ v then rN v k (r + 2 ^ k) else rN v k r
theorem rN_s (v k r : Nat) : rN v (k + 1) r = if (r + 2 ^ k) * (r + 2 ^ k) ≤ v then rN v k (r + 2 ^ k) else rN v k r := rfl
theorem two_s (k : Nat) : 2 ^ (k + 1) = 2 ^ k + 2 ^ k := by rw [Nat.pow_succ]; omega
theorem rN_spec (v : Nat) : ∀ k r, r * r ≤ v → v < (r + 2 ^ k) * (r + 2 ^ k) → rN v k r * rN v k r ≤ v ∧ v < (rN v k r + 1) * (rN v k r + 1) ∧ rN v k r < r + 2 ^ k
  | 0, r, h1, h2 => ⟨h1, h2, Nat.lt_succ_self r⟩
  | k + 1, r, h1, h2 => by
    have hp := Nat.two_pow_pos k
    rw [rN_s]
    rw [two_s] at h2 ⊢
    by_cases h : (r + 2 ^ k) * (r + 2 ^ k) ≤ v
    · rw [if_pos h]
      rw [show r + (2 ^ k + 2 ^ k) = r + 2 ^ k + 2 ^ k by omega] at h2 ⊢
      exact rN_spec v k (r + 2 ^ k) h h2
    · rw [if_neg h]
      obtain ⟨a, b, c⟩ := rN_spec v k r h1 (Nat.lt_of_not_le h)
      exact ⟨a, b, by omega⟩
theorem rN_top {v : Nat} (hv : v < 2 ^ 42) : ∀ j, rN v (21 + j) 0 = rN v 21 0
  | 0 => rfl
  | j + 1 => by
    have h1 : 2 ^ 21 ≤ 2 ^ (21 + j) := Nat.pow_le_pow_right (by decide) (by omega)
    have h2 : 2 ^ 21 * 2 ^ 21 ≤ 2 ^ (21 + j) * 2 ^ (21 + j) := Nat.mul_le_mul h1 h1
    have h3 : (2 : Nat) ^ 21 * 2 ^ 21 = 2 ^ 42 := by decide
    show rN v (21 + j + 1) 0 = _
    rw [rN_s, Nat.zero_add, if_neg (by omega), rN_top hv j]
def bv : Nat → Nat
  | 0 => 0
  | k + 1 => 2 ^ k
theorem bv_shr : ∀ k, k < 21 → nI (2 ^ k) >>> ((1 : Int32) &&& 31) = nI (bv k) := by decide +kernel
theorem bv_shrL : ∀ k, k < 31 → Int64.ofNat (2 ^ k) >>> ((1 : Int32).toInt64 &&& 63) = Int64.ofNat (bv k) := by decide +kernel
theorem bv_L : ∀ k, k < 31 → (Int64.ofNat (2 ^ k)).toInt = ((2 ^ k : Nat) : Int) := by decide +kernel
theorem lgc_le {a b : Int64} : lg_cmp a b ≤ 0 ↔ a.toInt ≤ b.toInt := by
  have h := lgc_gt (a := a) (b := b)
  have h0 : (0 : Int32).toInt = 0 := rfl
  rw [Int32.lt_iff_toInt_lt] at h
  rw [Int32.le_iff_toInt_le]
  omega
theorem lgc_ge {a b : Int64} : 0 ≤ lg_cmp a b ↔ b.toInt ≤ a.toInt := by
  have h := lgc_lt (a := a) (b := b)
  have h0 : (0 : Int32).toInt = 0 := rfl
  rw [Int32.lt_iff_toInt_lt] at h
  rw [Int32.le_iff_toInt_le]
  omega
theorem sqL {x : Int64} {n : Nat} (h : x.toInt = (n : Int)) (hn : n < 2 ^ 31) : (x * x).toInt = ((n * n : Nat) : Int) := by
  have b := sq_b (a := (n : Int)) (M := 2147483648) (by omega) (by omega)
  rw [muL_B (by rw [h]; omega) (by rw [h]; omega), h]
  exact (Int.natCast_mul n n).symm
section RT
variable {s : Sg} {v : Int64} {n : Nat}
theorem cRoot (hv : v.toInt = (n : Int)) : ∀ k, k ≤ 21 → ∀ r f, k < f → r + 2 ^ k ≤ 2 ^ 21 → lp (mX8_wholeRoot_b6 v) f (nI r, nI (bv k)) s = some (nI (rN n k r), s)
  | 0, _, r, f, hf, hr => by
    obtain ⟨f, rfl⟩ : ∃ g, f = g + 1 := ⟨f - 1, by omega⟩
    show mX8_wholeRoot_b6 v (lp (mX8_wholeRoot_b6 v) f) (nI r, nI (bv 0)) s = _
    unfold mX8_wholeRoot_b6
    dsimp only
    rw [if_pos (show nI (bv 0) ≤ 0 by decide)]
    rfl
  | k + 1, hk, r, f, hf, hr => by
    obtain ⟨f, rfl⟩ : ∃ g, f = g + 1 := ⟨f - 1, by omega⟩
    have hp := Nat.two_pow_pos k
    have hq : 2 ^ k ≤ 2 ^ 20 := Nat.pow_le_pow_right (by decide) (by omega)
    rw [two_s] at hr
    have ih1 := cRoot hv k (by omega) (r + 2 ^ k) f (by omega) (by omega)
    have ih2 := cRoot hv k (by omega) r f (by omega) (by omega)
    have hx : (Int32.toInt64 (nI (r + 2 ^ k))).toInt = ((r + 2 ^ k : Nat) : Int) := by rw [t64, nI_toInt (by omega)]
    have hs := sqL hx (by omega)
    show mX8_wholeRoot_b6 v (lp (mX8_wholeRoot_b6 v) f) (nI r, nI (2 ^ k)) s = _
    unfold mX8_wholeRoot_b6
    dsimp only
    rw [if_neg (nI_nle hp (by omega)), nI_add, bv_shr k (by omega), rN_s]
    by_cases h : (r + 2 ^ k) * (r + 2 ^ k) ≤ n
    · rw [if_neg (fun z => by rw [lgc_gt, hs, hv] at z; omega), if_pos h]
      exact ih1
    · rw [if_pos (by rw [lgc_gt, hs, hv]; omega), if_neg h]
      exact ih2
theorem mRoot (hv : v.toInt = (n : Int)) : ∀ k, k ≤ 31 → ∀ (r f : Nat) (R : Int64), R.toInt = (r : Int) → k < f → r + 2 ^ k ≤ 2 ^ 31 → ∃ R', lp (mX9_root_b7 v) f (R, Int64.ofNat (bv k)) s = some (R', s) ∧ R'.toInt = ((rN n k r : Nat) : Int)
  | 0, _, r, f, R, hR, hf, hr => by
    obtain ⟨f, rfl⟩ : ∃ g, f = g + 1 := ⟨f - 1, by omega⟩
    refine ⟨R, ?_, hR⟩
    show mX9_root_b7 v (lp (mX9_root_b7 v) f) (R, Int64.ofNat (bv 0)) s = _
    unfold mX9_root_b7
    dsimp only
    rw [if_pos (show lg_cmp (Int64.ofNat (bv 0)) 0 ≤ 0 by rw [lgc_le]; decide)]
  | k + 1, hk, r, f, R, hR, hf, hr => by
    obtain ⟨f, rfl⟩ : ∃ g, f = g + 1 := ⟨f - 1, by omega⟩
    have hp := Nat.two_pow_pos k
    have hq : 2 ^ k ≤ 2 ^ 30 := Nat.pow_le_pow_right (by decide) (by omega)
    rw [two_s] at hr
    have hb := bv_L k (by omega)
    have hx : (R + Int64.ofNat (2 ^ k)).toInt = ((r + 2 ^ k : Nat) : Int) := by
      rw [adL_B (by rw [hR, hb]; omega) (by rw [hR, hb]; omega), hR, hb]
      omega
    have hs := sqL hx (by omega)
    show ∃ R', mX9_root_b7 v (lp (mX9_root_b7 v) f) (R, Int64.ofNat (2 ^ k)) s = some (R', s) ∧ _
    unfold mX9_root_b7
    dsimp only
    rw [if_neg (by rw [lgc_le, hb]; have h0 : (0 : Int64).toInt = 0 := rfl; omega), jn_eq, bv_shrL k (by omega), rN_s]
    by_cases h : (r + 2 ^ k) * (r + 2 ^ k) ≤ n
    · rw [if_neg (fun z => by rw [lgc_gt, hs, hv] at z; omega), if_pos h]
      exact mRoot hv k (by omega) (r + 2 ^ k) f _ hx (by omega) (by omega)
    · rw [if_pos (by rw [lgc_gt, hs, hv]; omega), if_neg h]
      have e00 : R + 0 = R := Int64.add_zero R
      dsimp only
      rw [e00]
      exact mRoot hv k (by omega) r f _ hR (by omega) (by omega)
theorem cRoot_ok (hv : v.toInt = (n : Int)) : mX8_wholeRoot v s = some (nI (rN n 21 0), s) := cRoot hv 21 (by decide) 0 FU (by decide) (by decide)
theorem mRoot_ok (hv : v.toInt = (n : Int)) (hn : n < 2 ^ 42) : ∃ R', mX9_root v s = some (R', s) ∧ R'.toInt = ((rN n 21 0 : Nat) : Int) := by
  obtain ⟨R', h1, h2⟩ := mRoot (s := s) hv 31 (by decide) 0 FU 0 rfl (by decide) (by decide)
  refine ⟨R', h1, ?_⟩
  rw [h2, rN_top hn 10]
end RT
/-! who comes home, and from where -/
def pgi (s : Sg) (l i : Nat) : Nat := (sI s 229 (6 * l + i)).toNatClampNeg
theorem Rel.lgi {s : Sg} (hr : Rel s) {n l m i : Nat} (hn : n < 13) (e : sI s 207 20 = nI n) (hl : l < n) (hv : LV s l m) (hi : i < m) : GN s (pgi s l i) ∧ sI s 229 (6 * l + i) = nI (pgi s l i) ∧ sR s (100 + 7 * l) i = some (56 + 2 * pgi s l i) := by
  obtain ⟨g, h1, h2, h3⟩ := hr.lgN hn e hl hv hi
  have hg := h1.1
  have e : pgi s l i = g := by
    unfold pgi
    rw [h2, nI_clamp (by omega)]
  rw [e]
  exact ⟨h1, h2, h3⟩
noncomputable def rch (s : Sg) (g H : Nat) : Int64 := Int32.toInt64 (sI s 226 1) + Int32.toInt64 (sI s 218 g) * Int32.toInt64 (nI ((gOD s g H).2 - (gOD s g H).1))
noncomputable def gyd (s : Sg) (g H : Nat) (wy : Nat → Int32) : Int64 := Int32.toInt64 (gwY s g H wy (gOD s g H).2)
noncomputable def rst (s : Sg) (g H : Nat) (wy : Nat → Int32) : Int64 := rch s g H * rch s g H - gyd s g H wy * gyd s g H wy
noncomputable def wid (s : Sg) (g H : Nat) (wy : Nat → Int32) : Nat := rN (rst s g H wy).toInt.toNat 21 0
noncomputable def gxd (s : Sg) (g : Nat) (V : Int32) (H : Nat) (wx : Nat → Int32) : Int := (gwX s g V H wx (gOD s g H).2).toInt
section HOME
variable {s s1 : Sg} {P A ax ay H g b n l m i : Nat} {V : Int32} {wx wy : Nat → Int32}
theorem rst_b (hr : Rel s) (hP : PA s P A ax ay V H wx wy) (hg : GN s g) : 0 ≤ (rch s g H).toInt ∧ (rch s g H).toInt ≤ 200000 ∧ -1000000 ≤ (gyd s g H wy).toInt ∧ (gyd s g H wy).toInt ≤ 1000000 ∧ (rch s g H * rch s g H).toInt = (rch s g H).toInt * (rch s g H).toInt ∧ (gyd s g H wy * gyd s g H wy).toInt = (gyd s g H wy).toInt * (gyd s g H wy).toInt ∧ (rst s g H wy).toInt = (rch s g H).toInt * (rch s g H).toInt - (gyd s g H wy).toInt * (gyd s g H wy).toInt ∧ (rst s g H wy).toInt < 2 ^ 42 ∧ -2000000000000 ≤ (rst s g H wy).toInt := by
  have hW := hr.wd hg hP.hH
  have hod := hW.2.1
  have hd := hW.2.2.1
  obtain ⟨g1, g2, g3, g4, g5, g6, g7, g8, g9, g10, g11, g12, g13, g14⟩ := hr.gi hg
  obtain ⟨r0, r1, r2, r3, r4, r5, r6, r7, r8⟩ := hr
  have h6 := (r6 1 (by decide)).2
  have e20 : (stv 1 1).toInt = 20000 := rfl
  rw [e20] at h6
  have hy := (wb_g hP s g (gOD s g H).2 (by omega)).2.1
  have hm := Int.mul_le_mul g12.2 (show (((gOD s g H).2 - (gOD s g H).1 : Nat) : Int) ≤ 943 by omega) (by omega) (by omega)
  have hm0 : 0 ≤ (sI s 218 g).toInt * (((gOD s g H).2 - (gOD s g H).1 : Nat) : Int) := Int.mul_nonneg g12.1 (by omega)
  have em : (Int32.toInt64 (sI s 218 g) * Int32.toInt64 (nI ((gOD s g H).2 - (gOD s g H).1))).toInt = (sI s 218 g).toInt * (((gOD s g H).2 - (gOD s g H).1 : Nat) : Int) := by
    have e : (Int32.toInt64 (nI ((gOD s g H).2 - (gOD s g H).1))).toInt = (((gOD s g H).2 - (gOD s g H).1 : Nat) : Int) := by rw [t64, nI_toInt (by omega)]
    rw [muL_B (by rw [t64, e]; omega) (by rw [t64, e]; omega), t64, e]
  have er : (rch s g H).toInt = (sI s 226 1).toInt + (sI s 218 g).toInt * (((gOD s g H).2 - (gOD s g H).1 : Nat) : Int) := by
    unfold rch
    unfold btw at h6
    rw [adL_B (by rw [t64, em]; omega) (by rw [t64, em]; omega), t64, em]
  have ey : (gyd s g H wy).toInt = (gwY s g H wy (gOD s g H).2).toInt := t64 _
  unfold btw at h6 hy
  have b1 : 0 ≤ (rch s g H).toInt ∧ (rch s g H).toInt ≤ 200000 := by rw [er]; omega
  have b2 : -1000000 ≤ (gyd s g H wy).toInt ∧ (gyd s g H wy).toInt ≤ 1000000 := by rw [ey]; omega
  have c1 := sq_b (a := (rch s g H).toInt) (M := 200000) (by omega) (by omega)
  have c2 := sq_b (a := (gyd s g H wy).toInt) (M := 1000000) (by omega) (by omega)
  have q1 : (rch s g H * rch s g H).toInt = (rch s g H).toInt * (rch s g H).toInt := muL_B (by omega) (by omega)
  have q2 : (gyd s g H wy * gyd s g H wy).toInt = (gyd s g H wy).toInt * (gyd s g H wy).toInt := muL_B (by omega) (by omega)
  have q3 : (rst s g H wy).toInt = (rch s g H).toInt * (rch s g H).toInt - (gyd s g H wy).toInt * (gyd s g H wy).toInt := by
    unfold rst
    rw [suL_B (by rw [q1, q2]; omega) (by rw [q1, q2]; omega), q1, q2]
  exact ⟨b1.1, b1.2, b2.1, b2.2, q1, q2, q3, by rw [q3]; omega, by rw [q3]; omega⟩
theorem wid_b (hr : Rel s) (hP : PA s P A ax ay V H wx wy) (hg : GN s g) (h0 : 0 ≤ (rst s g H wy).toInt) : wid s g H wy < 2 ^ 21 ∧ (wid s g H wy : Int) * (wid s g H wy : Int) ≤ (rst s g H wy).toInt ∧ (rst s g H wy).toInt < ((wid s g H wy : Int) + 1) * ((wid s g H wy : Int) + 1) := by
  obtain ⟨-, -, -, -, -, -, -, h2, -⟩ := rst_b hr hP hg
  obtain ⟨n, hn⟩ : ∃ n : Nat, (rst s g H wy).toInt = (n : Int) := ⟨(rst s g H wy).toInt.toNat, by omega⟩
  have e : wid s g H wy = rN n 21 0 := by
    unfold wid
    rw [hn]
    rfl
  rw [hn] at h2 ⊢
  obtain ⟨a1, a2, a3⟩ := rN_spec n 21 0 (Nat.zero_le _) (by
    have : (0 + 2 ^ 21) * (0 + 2 ^ 21) = 2 ^ 42 := by decide
    omega)
  rw [← e] at a1 a2 a3
  refine ⟨by omega, ?_, ?_⟩
  · exact_mod_cast a1
  · exact_mod_cast a2
theorem GW.downX (h : GW s s1 b g V H wx wy) : mX1_downX b s1 = some (gwX s g V H wx (gOD s g H).2, s1) := by
  obtain ⟨⟨f1, f2, f3, f4, f5, f6, f7, f8, f9⟩, hN, q0, q1, q2, u5, u6, u7, u8, u9⟩ := h
  unfold mX1_downX
  rw [gdR_at f1 (by omega), q0, gdI_at f1 (by omega), u7, alI_n (by omega) f2 (by omega), (u5 _ (Nat.le_refl _)).1]
theorem GW.downY (h : GW s s1 b g V H wx wy) : mX1_downY b s1 = some (gwY s g H wy (gOD s g H).2, s1) := by
  obtain ⟨⟨f1, f2, f3, f4, f5, f6, f7, f8, f9⟩, hN, q0, q1, q2, u5, u6, u7, u8, u9⟩ := h
  unfold mX1_downY
  rw [gdR_at f1 (by omega), q1, gdI_at f1 (by omega), u7, alI_n (by omega) f4 (by omega), (u5 _ (Nat.le_refl _)).2.1]
theorem reach_ok (hr : Rel s) (hS : Scr s s1) (hg : GN s g) (h : GW s s1 b g V H wx wy) : mX8_reachSquare 0 (some (56 + 2 * g)) (some b) s1 = some (rch s g H * rch s g H, s1) := by
  have hr1 := hr.scr hS
  have hN1 := hr1.1.1
  have q := hr1.1
  obtain ⟨h0, q0, q1, q2, q3, q4, q5, q6, -⟩ := q
  have hG := (hr.gi hg).scr hS
  have e9 : sI s1 9 1 = sI s 226 1 := by
    rw [hS.eq (a := 9) (by omega)]
    obtain ⟨r0, r1, r2, r3, r4, r5, r6, r7, r8⟩ := hr
    exact (r6 1 (by decide)).1
  obtain ⟨⟨f1, f2, f3, f4, f5, f6, f7, f8, f9⟩, -, -, -, -, u5, u6, u7, u8, u9⟩ := h
  have hg20 := hg.1
  unfold mX8_reachSquare
  rw [dR hN1, q6, alI_at (i := 1) (n := 1) rfl (by decide) (by decide) (by omega), e9, gdI_at (kdGr g hg20).1 (by omega), hG.2.2.2.2.1, cv_at f1 (by omega)]
  unfold mX1_secondsOpen
  rw [gdI_at f1 (by omega), u7, gdI_at f1 (by omega), u6, cl_some, pk_sub (by omega)]
  rfl
theorem room_ok (hr : Rel s) (hS : Scr s s1) (hg : GN s g) (h : GW s s1 b g V H wx wy) : mX8_roomAlongX 0 (some (56 + 2 * g)) (some b) s1 = some (if 0 ≤ (rst s g H wy).toInt then nI (wid s g H wy) else -1, s1) := by
  have hN1 := (hr.scr hS).1.1
  have hb := h.1
  obtain ⟨f1, f2, f3, f4, f5, f6, f7, f8, f9⟩ := hb
  have e0 : (0 : Int64).toInt = 0 := rfl
  have er : rch s g H * rch s g H - Int32.toInt64 (gwY s g H wy (gOD s g H).2) * Int32.toInt64 (gwY s g H wy (gOD s g H).2) = rst s g H wy := rfl
  unfold mX8_roomAlongX
  rw [cv_at f1 (by omega), h.downY, cl_some, c8 hN1, reach_ok hr hS hg h, cl_some, er]
  by_cases hc : 0 ≤ (rst s g H wy).toInt
  · rw [if_pos (lgc_ge.mpr (by rw [e0]; exact hc)), if_pos hc, cRoot_ok (n := (rst s g H wy).toInt.toNat) (by omega), cl_some]
    rfl
  · rw [if_neg (fun z => hc (by have := lgc_ge.mp z; rw [e0] at this; exact this)), if_neg hc]
theorem followAll_ok (hr : Rel s) (hn : n < 13) (e : sI s 207 20 = nI n) (hl : l < n) (hv : LV s l m) (hP : PA s P A ax ay V H wx wy) (e4 : sR s (99 + 7 * l) 4 = some P) (e5 : sR s (99 + 7 * l) 5 = some A) : ∃ s', mX8_followAll 0 (some (99 + 7 * l)) s = some ((), s') ∧ Scr s s' ∧ ∀ i, i < m → GW s s' (183 + 4 * i) (pgi s l i) V H wx wy := by
  have hN := hr.1.1
  obtain ⟨hl12, hm, z1, z2, z3, z9, hM, z4⟩ := id hv
  obtain ⟨k1, k2, k3, k4, k5, -⟩ := kdLo l hl12
  unfold mX8_followAll
  refine lp_inv (F := mX8_followAll_b2 (some (99 + 7 * l)) 0) (n := m) (I := fun i q s' => q = nI i ∧ Scr s s' ∧ ∀ j, j < i → GW s s' (183 + 4 * j) (pgi s l j) V H wx wy) (Q := fun x => ∃ s', x = some ((), s') ∧ Scr s s' ∧ ∀ i, i < m → GW s s' (183 + 4 * i) (pgi s l i) V H wx wy) (fun q s' r h => ?_) (fun i q s' r hi h hr' => ?_) FU 0 (Nat.zero_le _) (show m - 0 < 4000 by omega) 0 s ⟨rfl, Scr.rf, fun j hj => absurd hj (Nat.not_lt_zero j)⟩
  · obtain ⟨rfl, hS, hw⟩ := h
    refine ⟨s', ?_, hS, hw⟩
    have hN' : sN s' = 249 := hS.1.trans hN
    unfold mX8_followAll_b2
    rw [gdI_at k1 (by omega), hS.eq (a := 99 + 7 * l) (by omega), z2, if_pos (Int32.le_refl _)]
  · obtain ⟨rfl, hS, hw⟩ := h
    have hN' : sN s' = 249 := hS.1.trans hN
    have hR : sR s' = sR s := hS.2.1
    obtain ⟨g1, g2, g3⟩ := hr.lgi hn e hl hv hi
    obtain ⟨f1, f2, f3, f4, f5, f6⟩ := fall_ref hr.1 (i := i) (by omega)
    obtain ⟨sa, a1, a2, a3, a4⟩ := cFol2 hr hS hP g1 (i := i) (by omega)
    have kf1 := f1.1
    have kf9 := f1.2.2.2.2.2.2.2.2
    unfold mX8_followAll_b2
    rw [gdI_at k1 (by omega), hS.eq (a := 99 + 7 * l) (by omega), z2, if_neg (nI_ge hi (by omega)), dR hN', hR, f6, aln_at (by decide) (by rw [hN']; decide), if_neg (nI_ge (show i < ln 10 from show i < 6 by omega) (by decide)), dR hN', hR, f6, alR_n (show i < ln 10 from show i < 6 by omega) (by decide) (by omega), hR, f5, gdR_at k1 (by omega), hR, z3, alR_n (show i < ln _ by omega) k2 (by omega), hR, g3, gdR_at k1 (by omega), hR, e4, gdR_at k1 (by omega), hR, e5, cv_at kf1 (by omega), a1, cl_some, nI_1]
    refine hr' _ _ ⟨rfl, a2, fun j hj => ?_⟩
    by_cases hji : j = i
    · subst hji; exact a3
    · exact a4 j (pgi s l j) (by omega) hji (hw j (by omega))
end HOME
