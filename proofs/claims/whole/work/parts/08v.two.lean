/-! ways by the groups' numbers, over the state s at the beginning of the call -/
def goo (s : Sg) (g : Nat) : Nat := (sI s 217 g).toNatClampNeg
def gwX (s : Sg) (g : Nat) (V : Int32) (H : Nat) (wx : Nat → Int32) : Nat → Int32 := fx (sI s 216 g) (sI s 219 g) V (goo s g) H wx
def gwY (s : Sg) (g : Nat) (H : Nat) (wy : Nat → Int32) : Nat → Int32 := fy (sI s 216 g) (sI s 219 g) (goo s g) H wy
def gwH (s : Sg) (g : Nat) (H : Nat) : Nat → Nat × Nat := fh (sI s 216 g) (goo s g) H
noncomputable def gOD (s : Sg) (g : Nat) (H : Nat) : Nat × Nat := Classical.epsilon (fun x : Nat × Nat => Wd (sI s 216 g) (goo s g) H x.1 x.2)
/-- a group that there is -/
def GN (s : Sg) (g : Nat) : Prop := g < 20 ∧ nI g < sI s 207 8
theorem Rel.gi {s : Sg} (hr : Rel s) {g : Nat} (hg : GN s g) : GI s g (sI s 216 g) (sI s 219 g) (goo s g) (sI s 218 g) := by
  obtain ⟨r0, r1, r2, r3, r4, r5, r6, r7, r8⟩ := hr
  obtain ⟨Kd, Di, oo, fw, hG⟩ := r4.gi hg.1 hg.2
  have hG0 := hG
  obtain ⟨g1, g2, g3, g4, g5, g6, g7, g8, g9, g10, g11, g12, g13, g14⟩ := hG
  have e : goo s g = oo := by
    unfold goo
    rw [g7, nI_clamp (by omega)]
  rw [e, g6, g8, g9]
  exact hG0
theorem Rel.wd {s : Sg} (hr : Rel s) {g H : Nat} (hg : GN s g) (hH : 15000 ≤ H ∧ H ≤ 47000) : Wd (sI s 216 g) (goo s g) H (gOD s g H).1 (gOD s g H).2 := by
  obtain ⟨o, d, h⟩ := (hr.gi hg).wd hH
  exact Classical.epsilon_spec (p := fun x : Nat × Nat => Wd (sI s 216 g) (goo s g) H x.1 x.2) ⟨(o, d), h⟩
/-- the plane and winds that the reference took -/
def TD (s : Sg) (V : Int32) (H : Nat) (wx wy : Nat → Int32) : Prop := sI s 207 34 = V ∧ sI s 207 35 = nI H ∧ ∀ j, j < 12 → sI s 237 j = wx j ∧ sI s 238 j = wy j
noncomputable def GW (s s1 : Sg) (b g : Nat) (V : Int32) (H : Nat) (wx wy : Nat → Int32) : Prop := FW s1 b (gwX s g V H wx) (gwY s g H wy) (gwH s g H) (gOD s g H).1 (gOD s g H).2
noncomputable def GM (s s1 : Sg) (w g : Nat) (V : Int32) (H : Nat) (wx wy : Nat → Int32) : Prop := MW s1 w (gwX s g V H wx) (gwY s g H wy) (gwH s g H) (gOD s g H).1 (gOD s g H).2
noncomputable def nG (s : Sg) (V : Int32) (H : Nat) (wx wy : Nat → Int32) (g1 g2 p : Nat) : Int64 := nr (sq2 V p (gwX s g1 V H wx) (gwY s g1 H wy) (gwH s g1 H) (gwX s g2 V H wx) (gwY s g2 H wy) (gwH s g2 H)) (min ((gOD s g1 H).2 - p) (gOD s g2 H).2)
def RR (s : Sg) : Int64 := Int32.toInt64 (sI s 226 0) * Int32.toInt64 (sI s 226 0)
/-- the least pause from 1 on with F, or 61 -/
def frk (F : Nat → Prop) (k : Nat) : Prop := 1 ≤ k ∧ k ≤ 61 ∧ (∀ q, 1 ≤ q → q < k → ¬ F q) ∧ (k ≤ 60 → F k)
theorem frk_ex (F : Nat → Prop) : ∃ k, frk F k := by
  obtain ⟨k, h1, h2, h3⟩ := leastN (fun k => F (k + 1) ∨ k = 60) 60 (Or.inr rfl)
  refine ⟨k + 1, by omega, by omega, fun q h4 h5 h6 => ?_, fun h4 => ?_⟩
  · refine h3 (q - 1) (by omega) (Or.inl ?_)
    rw [show q - 1 + 1 = q by omega]
    exact h6
  · rcases h2 with h2 | h2
    · exact h2
    · omega
noncomputable def btN (s : Sg) (V : Int32) (H : Nat) (wx wy : Nat → Int32) (g1 g2 : Nat) : Nat := Classical.epsilon (fun k => frk (fun p => ¬ nG s V H wx wy g1 g2 p < RR s) k)
theorem btN_sp (s : Sg) (V : Int32) (H : Nat) (wx wy : Nat → Int32) (g1 g2 : Nat) : frk (fun p => ¬ nG s V H wx wy g1 g2 p < RR s) (btN s V H wx wy g1 g2) := Classical.epsilon_spec (p := fun k => frk (fun p => ¬ nG s V H wx wy g1 g2 p < RR s) k) (frk_ex _)
section TWO
variable {s s1 s2 : Sg} {P A ax ay H g g1 g2 i w b b1 b2 p : Nat} {V : Int32} {wx wy : Nat → Int32}
theorem PA.hH (h : PA s P A ax ay V H wx wy) : 15000 ≤ H ∧ H ≤ 47000 := h.2.2.2.2.2.2.2.2.2.2.1
theorem PA.hV (h : PA s P A ax ay V H wx wy) : btw V 200 600 := h.2.2.2.2.2.2.2.2.2.1
theorem PA.hw (h : PA s P A ax ay V H wx wy) : ∀ j, j < 12 → okW (wx j) ∧ okW (wy j) := h.2.2.2.2.2.2.2.2.2.2.2
theorem wb_g (hP : PA s P A ax ay V H wx wy) (s : Sg) (g : Nat) : WB (gwX s g V H wx) (gwY s g H wy) (gwH s g H) := wb_way hP.hV hP.hH.2 hP.hw
theorem TK.td (h : TK s s1 V H wx wy) : TD s1 V H wx wy := h.2.2.2.2
theorem cFol2 (hr : Rel s) (hS : Scr s s1) (hP : PA s P A ax ay V H wx wy) (hg : GN s g) (hi : i < 6) : ∃ s', mX1_follow (183 + 4 * i) (some (56 + 2 * g)) (some P) (some A) s1 = some ((), s') ∧ Scr s s' ∧ GW s s' (183 + 4 * i) g V H wx wy ∧ ∀ j g', j < 6 → j ≠ i → GW s s1 (183 + 4 * j) g' V H wx wy → GW s s' (183 + 4 * j) g' V H wx wy := by
  have hW := hr.wd hg hP.hH
  have hr1 := hr.scr hS
  obtain ⟨f1, f2, f3, f4, f5, f6⟩ := fall_ref hr1.1 hi
  obtain ⟨s', h1, h2⟩ := cFol hr1.1 (hP.scr hS) ((hr.gi hg).scr hS) hi hW
  refine ⟨s', h1, hS.tr (h2.toS f1), h2.toW f1 hr1.1.1 f2 f3 f4 hW.2.1 hW.2.2.1, fun j g' hj hji h => ?_⟩
  exact FW.keep h h2 (by omega)
theorem mLay2 (hr : Rel s) (hS : MEq s s1) (hT : TD s1 V H wx wy) (hP : PA s P A ax ay V H wx wy) (hg : GN s g) (hw : w < 2) : ∃ s', mX9_layOut 207 (nI g) (nI w) s1 = some ((), s') ∧ Scr s1 s' ∧ TD s' V H wx wy ∧ GM s s' w g V H wx wy ∧ (∀ w' g', w' ≠ w → GM s s1 w' g' V H wx wy → GM s s' w' g' V H wx wy) ∧ (∀ a q, (a < 239 ∨ 244 < a) → sI s' a q = sI s1 a q) ∧ sL s' = sL s1 := by
  have hW := hr.wd hg hP.hH
  obtain ⟨g1, g2, g3, g4, g5, g6, g7, g8, g9, g10, g11, g12, g13, g14⟩ := hr.gi hg
  obtain ⟨s', h1, h2⟩ := layOut_ok (g := g) (wx := wx) (wy := wy) (V := V) (s0 := s1) ⟨hS.1, g1, (congrFun (hS.eq (a := 216) (by omega)) g).trans g6, (congrFun (hS.eq (a := 217) (by omega)) g).trans g7, (congrFun (hS.eq (a := 219) (by omega)) g).trans g8, hT.1, hT.2.1, hT.2.2, g13, g14, hP.hH.1, hP.hH.2⟩ hW hw
  have hk : ∀ a q, (a < 239 ∨ 244 < a) → sI s' a q = sI s1 a q := fun a q h => h2.2.2.2.1 a q (by omega)
  exact ⟨s', h1, h2.toS, ⟨(hk _ _ (by omega)).trans hT.1, (hk _ _ (by omega)).trans hT.2.1, fun j hj => ⟨(hk _ _ (by omega)).trans (hT.2.2 j hj).1, (hk _ _ (by omega)).trans (hT.2.2 j hj).2⟩⟩, h2.mw hW.2.1 hW.2.2.1, fun w' g' hw' h => MW.keep h h2 hw', hk, h2.2.2.1.2⟩
theorem nG_pos (hr : Rel s) (hP : PA s P A ax ay V H wx wy) (hg1 : GN s g1) (hg2 : GN s g2) (hp : p ≤ 360) : ∀ k, k ≤ min ((gOD s g1 H).2 - p) (gOD s g2 H).2 → 0 ≤ (nr (sq2 V p (gwX s g1 V H wx) (gwY s g1 H wy) (gwH s g1 H) (gwX s g2 V H wx) (gwY s g2 H wy) (gwH s g2 H)) k).toInt := by
  have hW := hr.wd hg1 hP.hH
  have hd := hW.2.2.1
  intro k hk
  exact nr_pos k (fun u hu => sq2_b (wb_g hP s g1) (wb_g hP s g2) hP.hV hp (by omega))
theorem cNear (hr : Rel s) (hP : PA s P A ax ay V H wx wy) (hg1 : GN s g1) (hg2 : GN s g2) (h1 : GW s s1 b1 g1 V H wx wy) (h2 : GW s s1 b2 g2 V H wx wy) (hp : p ≤ 360) (Bd : Int64) : ∃ v, mX1_nearTo b1 (some b2) (nI p) V Bd s1 = some (v, s1) ∧ (v < Bd ↔ nG s V H wx wy g1 g2 p < Bd) ∧ (Bd = 0 → v = nG s V H wx wy g1 g2 p) := by
  obtain ⟨k, hk, e, hor⟩ := nearTo_ok (V := V) h1 h2 (wb_g hP s g1) (wb_g hP s g2) hp Bd
  refine ⟨_, e, nr_lt_iff hk hor, fun h0 => ?_⟩
  subst h0
  rcases hor with rfl | h
  · rfl
  · have := nG_pos hr hP hg1 hg2 hp k hk
    rw [Int64.lt_iff_toInt_lt] at h
    have h00 : (0 : Int64).toInt = 0 := rfl
    omega
theorem mNear (hM : M0 s1) (hT : TD s1 V H wx wy) (h1 : GM s s1 0 g1 V H wx wy) (h2 : GM s s1 1 g2 V H wx wy) (hp : p ≤ 360) : mX9_nearBy 207 (nI p) s1 = some (nG s V H wx wy g1 g2 p, s1) := nearBy_ok hM h1 h2 hT.1 hp
theorem areFree_ok (hr : Rel s) (hS : Scr s s1) (hP : PA s P A ax ay V H wx wy) (hg1 : GN s g1) (hg2 : GN s g2) (h1 : GW s s1 b1 g1 V H wx wy) (h2 : GW s s1 b2 g2 V H wx wy) (hp : p ≤ 360) : mX8_areFree 0 (some b1) (some b2) (nI p) V s1 = some (if nG s V H wx wy g1 g2 p < RR s then 0 else 1, s1) := by
  have hr1 := hr.scr hS
  have hN1 := hr1.1.1
  have q := hr1.1
  obtain ⟨h0, q0, q1, q2, q3, q4, q5, q6, q7, q8, q9, q10, q11, q12, q13, -⟩ := q
  have e9 : sI s1 9 0 = sI s 226 0 := by
    rw [hS.eq (a := 9) (by omega)]
    obtain ⟨r0, r1, r2, r3, r4, r5, r6, r7, r8⟩ := hr
    exact (r6 0 (by decide)).1
  obtain ⟨v, e, hv, -⟩ := cNear hr hP hg1 hg2 h1 h2 hp (RR s)
  obtain ⟨⟨f1a, f1b, f1c, f1d, f1e, f1f, f1g, f1h, f1i⟩, -⟩ := h1
  unfold mX8_areFree
  rw [dR hN1, q6, alI_at (i := 0) (n := 0) rfl (by decide) (by decide) (by omega), dR hN1, q6, alI_at (i := 0) (n := 0) rfl (by decide) (by decide) (by omega), e9, cv_at f1a (by omega)]
  unfold RR at e hv ⊢
  rw [e, cl_some]
  by_cases hc : v < Int32.toInt64 (sI s 226 0) * Int32.toInt64 (sI s 226 0)
  · rw [if_pos ((lg_cmp_lt _ _).mpr hc), if_pos (hv.1 hc)]
    rfl
  · rw [if_neg (fun z => hc ((lg_cmp_lt _ _).mp z)), if_neg (fun z => hc (hv.2 z))]
    rfl
theorem isFree_ok {v : Int64} (hM : M0 s1) (hS : MEq s s1) : mX9_isFree 207 v s1 = some (if v < RR s then 0 else 1, s1) := by
  have hN1 := hM.1
  unfold mX9_isFree RR
  rw [mR hM 19 226 rfl (by decide) (by decide), alI_at (i := 0) (n := 0) rfl (by decide) (by decide) (by omega), mR hM 19 226 rfl (by decide) (by decide), alI_at (i := 0) (n := 0) rfl (by decide) (by decide) (by omega), hS.eq (a := 226) (by omega)]
  by_cases hc : v < Int32.toInt64 (sI s 226 0) * Int32.toInt64 (sI s 226 0)
  · rw [if_pos ((lg_cmp_lt _ _).mpr hc), if_pos hc]
    rfl
  · rw [if_neg (fun z => hc ((lg_cmp_lt _ _).mp z)), if_neg hc]
    rfl
theorem leastPause_ok (hr : Rel s) (hS : Scr s s1) (hP : PA s P A ax ay V H wx wy) (hg1 : GN s g1) (hg2 : GN s g2) (h1 : GW s s1 b1 g1 V H wx wy) (h2 : GW s s1 b2 g2 V H wx wy) : mX8_leastPause 0 (some b1) (some b2) V s1 = some (if btN s V H wx wy g1 g2 ≤ 60 then nI (btN s V H wx wy g1 g2) else 0, s1) := by
  have hN1 := (hr.scr hS).1.1
  obtain ⟨k1, k2, k3, k4⟩ := btN_sp s V H wx wy g1 g2
  generalize btN s V H wx wy g1 g2 = k at k1 k2 k3 k4 ⊢
  unfold mX8_leastPause
  refine lp_run (F := mX8_leastPause_b3 0 (some b1) (some b2) V) (n := k - 1) (q := fun i => nI (i + 1)) (S := fun _ => s1) (fun r => ?_) (fun i hi r => ?_) FU 0 (Nat.zero_le _) (show k - 1 - 0 < 4000 by omega)
  · unfold mX8_leastPause_b3
    rw [show k - 1 + 1 = k by omega]
    by_cases hk : k ≤ 60
    · rw [if_neg (by rw [show (60 : Int32) = nI 60 from rfl]; exact nI_nlt hk (by decide)), c8 hN1, areFree_ok hr hS hP hg1 hg2 h1 h2 (by omega), cl_some, if_neg (k4 hk), if_neg (by decide), if_pos hk]
    · rw [if_pos (by rw [show (60 : Int32) = nI 60 from rfl]; exact nI_lt (by omega) (by omega)), if_neg hk]
  · unfold mX8_leastPause_b3
    rw [if_neg (by rw [show (60 : Int32) = nI 60 from rfl]; exact nI_nlt (by omega) (by decide)), c8 hN1, areFree_ok hr hS hP hg1 hg2 h1 h2 (by omega), cl_some, if_pos (Classical.byContradiction (k3 (i + 1) (by omega) (by omega))), if_pos rfl, nI_1]
theorem betweenLp (hM : M0 s1) (hS : MEq s s1) (hT : TD s1 V H wx wy) (h1 : GM s s1 0 g1 V H wx wy) (h2 : GM s s1 1 g2 V H wx wy) : lp (mX9_betweenOf_b14 207) FU 1 s1 = some (if btN s V H wx wy g1 g2 ≤ 60 then nI (btN s V H wx wy g1 g2) else -7, s1) := by
  have hN1 := hM.1
  obtain ⟨k1, k2, k3, k4⟩ := btN_sp s V H wx wy g1 g2
  generalize btN s V H wx wy g1 g2 = k at k1 k2 k3 k4 ⊢
  refine lp_run (F := mX9_betweenOf_b14 207) (n := k - 1) (q := fun i => nI (i + 1)) (S := fun _ => s1) (fun r => ?_) (fun i hi r => ?_) FU 0 (Nat.zero_le _) (show k - 1 - 0 < 4000 by omega)
  · unfold mX9_betweenOf_b14
    rw [show k - 1 + 1 = k by omega, jn_eq]
    by_cases hk : k ≤ 60
    · have hn : ¬ 60 < nI k := by rw [show (60 : Int32) = nI 60 from rfl]; exact nI_nlt hk (by decide)
      rw [if_neg hn, c9 hN1, mNear hM hT h1 h2 (by omega), cl_some, c9 hN1, isFree_ok hM hS, cl_some, if_neg (k4 hk), if_pos (by decide)]
      dsimp only
      rw [if_neg hn, if_pos hk]
    · have hn : 60 < nI k := by rw [show (60 : Int32) = nI 60 from rfl]; exact nI_lt (by omega) (by omega)
      rw [if_pos hn]
      dsimp only
      rw [if_pos hn, if_neg hk]
  · have hn : ¬ 60 < nI (i + 1) := by rw [show (60 : Int32) = nI 60 from rfl]; exact nI_nlt (by omega) (by decide)
    unfold mX9_betweenOf_b14
    rw [jn_eq, if_neg hn, c9 hN1, mNear hM hT h1 h2 (by omega), cl_some, c9 hN1, isFree_ok hM hS, cl_some, if_pos (Classical.byContradiction (k3 (i + 1) (by omega) (by omega))), if_neg (by decide), nI_1]
theorem betweenOf_ok (hr : Rel s) (hS : MEq s s1) (hT : TD s1 V H wx wy) (hP : PA s P A ax ay V H wx wy) (hg1 : GN s g1) (hg2 : GN s g2) : ∃ s', mX9_betweenOf 207 (nI g1) (nI g2) s1 = some (if btN s V H wx wy g1 g2 ≤ 60 then nI (btN s V H wx wy g1 g2) else -7, s') ∧ Scr s1 s' ∧ TD s' V H wx wy ∧ ∀ a q, (a < 239 ∨ 244 < a) → sI s' a q = sI s1 a q := by
  obtain ⟨sa, a1, a2, a3, a4, a5, a7, -⟩ := mLay2 (w := 0) hr hS hT hP hg1 (by decide)
  have hSa := hS.tr a2
  obtain ⟨sb, b1, b2, b3, b4, b5, b7, -⟩ := mLay2 (w := 1) hr hSa a3 hP hg2 (by decide)
  have hSb := hSa.tr b2
  refine ⟨sb, ?_, a2.tr b2, b3, fun a q h => (b7 a q h).trans (a7 a q h)⟩
  unfold mX9_betweenOf
  rw [c9 hS.1.1, show (0 : Int32) = nI 0 from rfl, a1, cl_some, c9 hSa.1.1, show (1 : Int32) = nI 1 from rfl, b1, cl_some]
  exact betweenLp hSb.1 hSb b3 (b5 0 g1 (by decide) a4) b4
end TWO
