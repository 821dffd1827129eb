/-! the reference's way w, laid up to second k -/
def LWi (s0 s : Sg) (w : Nat) (xf yf : Nat → Int32) (hf : Nat → Nat × Nat) (o d k : Nat) : Prop := sN s = sN s0 ∧ sR s = sR s0 ∧ (sF s = sF s0 ∧ sL s = sL s0) ∧ (∀ a q, (a < 239 ∨ 244 < a ∨ (a ≤ 242 ∧ (q < 1001 * w ∨ 1001 * w + 1000 < q)) ∨ (243 ≤ a ∧ q ≠ w)) → sI s a q = sI s0 a q) ∧ (∀ t, t ≤ k → sI s 239 (1001 * w + t) = xf t ∧ sI s 240 (1001 * w + t) = yf t ∧ sI s 241 (1001 * w + t) = nI (hf t).1 ∧ sI s 242 (1001 * w + t) = nI (hf t).2) ∧ sI s 243 w = (if k < d then -1 else nI d) ∧ sI s 244 w = nI (min k d - min k o)
/-- the reference's group g, and the plane and winds that it took -/
def MG (s : Sg) (g : Nat) (Kd Di V : Int32) (oo H : Nat) (wx wy : Nat → Int32) : Prop := M0 s ∧ g < 20 ∧ sI s 216 g = Kd ∧ sI s 217 g = nI oo ∧ sI s 219 g = Di ∧ sI s 207 34 = V ∧ sI s 207 35 = nI H ∧ (∀ j, j < 12 → sI s 237 j = wx j ∧ sI s 238 j = wy j) ∧ 6000 ≤ oo ∧ oo ≤ 15000 ∧ 15000 ≤ H ∧ H ≤ 47000
theorem i1001 (w k : Nat) : 1001 * nI w + nI k = nI (1001 * w + k) := by
  rw [show (1001 : Int32) = nI 1001 from rfl, pk_mul, nI_add]
theorem i1001m (w : Nat) : 1001 * nI w = nI (1001 * w) := by
  rw [show (1001 : Int32) = nI 1001 from rfl, pk_mul]
theorem cC_1 {s : Sg} {w n : Nat} {v : Int32} : uI s 239 n v = cC s w n v (sI s 240 n) (sI s 241 n) (sI s 242 n) (sI s 243 w) (sI s 244 w) := by
  have h := cC_u239 (s := s) (w := w) (n := n) (X := sI s 239 n) (Y := sI s 240 n) (H := sI s 241 n) (T := sI s 242 n) (D := sI s 243 w) (O := sI s 244 w) (v := v)
  rw [cC_self] at h
  exact h
theorem ckZ4 {β : Type} (x : Option β) : ckZ 4000 x = x := rfl
theorem lt1000 {k : Nat} (h : k < 1000) : ¬ (1000 : Int32) ≤ nI k := nI_ge (b := 1000) h (by decide)
theorem div4 {h : Nat} (hh : h < 2 ^ 31) : nI h / 4000 = nI (h / 4000) := pk_div (d := 4000) hh (by decide) (by decide)
section LAY
variable {s0 s : Sg} {w g : Nat} {Kd Di V : Int32} {oo H : Nat} {wx wy : Nat → Int32} {o d k : Nat}
/-- a new place written: the way is one second longer -/
theorem LWi.next {xf yf : Nat → Int32} {hf : Nat → Nat × Nat} {X Y Hh T D O : Int32} (h : LWi s0 s w xf yf hf o d k) (hk : k < 1000) (hX : X = xf (k + 1)) (hY : Y = yf (k + 1)) (hH : Hh = nI (hf (k + 1)).1) (hT : T = nI (hf (k + 1)).2) (hD : D = if k + 1 < d then -1 else nI d) (hO : O = nI (min (k + 1) d - min (k + 1) o)) : LWi s0 (cC s w (1001 * w + k + 1) X Y Hh T D O) w xf yf hf o d (k + 1) := by
  obtain ⟨h1, h2, h3, h4, h5, h6, h7⟩ := h
  refine ⟨h1, h2, h3, fun a q ha => ?_, fun t ht => ?_, ?_, ?_⟩
  · rw [cC_o (by omega)]
    exact h4 a q ha
  · by_cases htk : t = k + 1
    · subst htk
      rw [show 1001 * w + (k + 1) = 1001 * w + k + 1 by omega, cC_239, cC_240, cC_241, cC_242]
      exact ⟨hX, hY, hH, hT⟩
    · rw [cC_o (by omega), cC_o (by omega), cC_o (by omega), cC_o (by omega)]
      exact h5 t (by omega)
  · rw [cC_243]; exact hD
  · rw [cC_244]; exact hO
theorem lay_step (hG : MG s0 g Kd Di V oo H wx wy) (hW : Wd Kd oo H o d) (hw : w < 2) (hk : k < 1000) (hI : LWi s0 s w (fx Kd Di V oo H wx) (fy Kd Di oo H wy) (fh Kd oo H) o d k) : ∃ s', LWi s0 s' w (fx Kd Di V oo H wx) (fy Kd Di oo H wy) (fh Kd oo H) o d (k + 1) ∧ ∀ r, mX9_layOut_b54 207 (nI w) (nI g) r (nI k) s = r (nI (k + 1)) s' := by
  have hI0 := hI
  obtain ⟨h1, h2, h3, h4, h5, h6, h7⟩ := hI
  obtain ⟨hM0, hg, g1, g2, g3, g4, g5, g6, b1, b2, b3, b4⟩ := hG
  have hM : M0 s := ⟨h1.trans hM0.1, by rw [h2]; exact hM0.2⟩
  have hN := hM.1
  obtain ⟨x1, x2, x3, x4⟩ := h5 k (Nat.le_refl _)
  have f1 : sI s 216 g = Kd := (h4 216 g (by omega)).trans g1
  have f2 : sI s 217 g = nI oo := (h4 217 g (by omega)).trans g2
  have f3 : sI s 219 g = Di := (h4 219 g (by omega)).trans g3
  have f4 : sI s 207 34 = V := (h4 207 34 (by omega)).trans g4
  have htop := fh_top (K := Kd) (oo := oo) b4 k
  have hinv := fh_inv (K := Kd) b1 b2 b3 b4 k
  have hj : (fh Kd oo H k).1 / 4000 < 12 := by omega
  have f5 : sI s 237 ((fh Kd oo H k).1 / 4000) = wx ((fh Kd oo H k).1 / 4000) := (h4 237 _ (by omega)).trans (g6 _ hj).1
  have f6 : sI s 238 ((fh Kd oo H k).1 / 4000) = wy ((fh Kd oo H k).1 / 4000) := (h4 238 _ (by omega)).trans (g6 _ hj).2
  have hn : 1001 * w + k < 2002 := by omega
  have hn1 : 1001 * w + k + 1 < 2002 := by omega
  have hMC : ∀ {X Y H T D O : Int32}, M0 (cC s w (1001 * w + k + 1) X Y H T D O) := hM
  have hNC : ∀ {X Y H T D O : Int32}, sN (cC s w (1001 * w + k + 1) X Y H T D O) = 249 := hN
  have pre : ∀ r, mX9_layOut_b54 207 (nI w) (nI g) r (nI k) s = (mX9_layOut_b54 207 (nI w) (nI g) r (nI k) s) := fun _ => rfl
  rcases Nat.lt_or_ge k o with hko | hko
  · have hst : (fh Kd oo H k).2 = 1 := hW.2.2.2.1 k hko
    have hh6 : 6000 ≤ (fh Kd oo H k).1 := by
      rcases hinv with h | h | h
      · exact h.2.1
      · omega
      · omega
    have hdr := drp_b Kd k
    rw [hst] at x4
    refine ⟨_, hI0.next hk (X := ((fx Kd Di V oo H wx k + wx ((fh Kd oo H k).1 / 4000)) + thr V k) + trx Kd Di k) (Y := (fy Kd Di oo H wy k + wy ((fh Kd oo H k).1 / 4000)) + trw Kd Di k) (Hh := nI ((fh Kd oo H k).1 - drp Kd k)) (T := if (fh Kd oo H k).1 - drp Kd k ≤ oo ∨ (Kd = 3 ∧ 2 ≤ k) then 2 else nI 1) (D := sI s 243 w) (O := sI s 244 w) ?_ ?_ ?_ ?_ ?_ ?_, fun r => ?_⟩
    · rw [fx, if_pos hst]
    · rw [fy, if_pos hst]
    · rw [fh, if_pos hst]
    · rw [fh, if_pos hst]
      show _ = nI (if (fh Kd oo H k).1 - drp Kd k ≤ oo ∨ (Kd = 3 ∧ 2 ≤ k) then 2 else 1)
      by_cases hc : (fh Kd oo H k).1 - drp Kd k ≤ oo ∨ (Kd = 3 ∧ 2 ≤ k)
      · rw [if_pos hc, if_pos hc]; rfl
      · rw [if_neg hc, if_neg hc]
    · have := hW.2.1
      rw [h6, if_pos (by omega), if_pos (by omega)]
    · have := hW.2.1
      rw [h7, show min k d - min k o = 0 by omega, show min (k + 1) d - min (k + 1) o = 0 by omega]
    · unfold mX9_layOut_b54
      rw [if_neg (lt1000 hk), mR hM 38 241 rfl (by decide) (by decide), i1001, alI_n (show 1001 * w + k < ln 241 from hn) (by decide) (by omega), x3, ckZ4, mR hM 36 239 rfl (by decide) (by decide), mR hM 36 239 rfl (by decide) (by decide), alI_n (show 1001 * w + k < ln 239 from hn) (by decide) (by omega), x1, nI_1 (1001 * w + k), asI_n (show 1001 * w + k + 1 < ln 239 from hn1) (by decide) (by omega), cC_1 (w := w), mR hMC 37 240 rfl (by decide) (by decide), mR hMC 37 240 rfl (by decide) (by decide), alI_n (show 1001 * w + k < ln 240 from hn) (by decide) (by rw [hNC]; omega), cC_o (by omega), x2, asI_n (show 1001 * w + k + 1 < ln 240 from hn1) (by decide) (by rw [hNC]; omega), cC_u240, mR hMC 38 241 rfl (by decide) (by decide), mR hMC 38 241 rfl (by decide) (by decide), alI_n (show 1001 * w + k < ln 241 from hn) (by decide) (by rw [hNC]; omega), cC_o (by omega), x3, asI_n (show 1001 * w + k + 1 < ln 241 from hn1) (by decide) (by rw [hNC]; omega), cC_u241, mR hMC 39 242 rfl (by decide) (by decide), mR hMC 39 242 rfl (by decide) (by decide), alI_n (show 1001 * w + k < ln 242 from hn) (by decide) (by rw [hNC]; omega), cC_o (by omega), x4, asI_n (show 1001 * w + k + 1 < ln 242 from hn1) (by decide) (by rw [hNC]; omega), cC_u242, mR hMC 39 242 rfl (by decide) (by decide), alI_n (show 1001 * w + k < ln 242 from hn) (by decide) (by rw [hNC]; omega), cC_o (by omega), x4, jn_eq, if_neg (by decide)]
      try dsimp only
      rw [mR hMC 36 239 rfl (by decide) (by decide), alI_n (show 1001 * w + k + 1 < ln 239 from hn1) (by decide) (by rw [hNC]; omega), cC_239, mR hMC 32 237 rfl (by decide) (by decide), div4 (by omega), alI_n (show _ < ln 237 from hj) (by decide) (by rw [hNC]; omega), cC_o (by omega), f5, asI_n (show 1001 * w + k + 1 < ln 239 from hn1) (by decide) (by rw [hNC]; omega), cC_u239, mR hMC 37 240 rfl (by decide) (by decide), alI_n (show 1001 * w + k + 1 < ln 240 from hn1) (by decide) (by rw [hNC]; omega), cC_240, mR hMC 33 238 rfl (by decide) (by decide), alI_n (show _ < ln 238 from hj) (by decide) (by rw [hNC]; omega), cC_o (by omega), f6, asI_n (show 1001 * w + k + 1 < ln 240 from hn1) (by decide) (by rw [hNC]; omega), cC_u240]
      try dsimp only
      rw [mR hMC 39 242 rfl (by decide) (by decide), alI_n (show 1001 * w + k < ln 242 from hn) (by decide) (by rw [hNC]; omega), cC_o (by omega), x4, if_neg (by decide), c9 hNC, mfall_ok hM hw hn1 hg f1 f2 f3 f4 (by omega) hk (by omega) (by omega), cl_some, nI_1 k]
  rcases Nat.lt_or_ge k d with hkd | hkd
  · have hst : (fh Kd oo H k).2 = 2 := hW.2.2.2.2.1 k hko hkd
    have hh0 : 0 < (fh Kd oo H k).1 := by
      rcases hinv with h | h | h
      · omega
      · exact h.2.1
      · omega
    rw [hst] at x4
    have hst1 : ¬ (fh Kd oo H k).2 = 1 := by omega
    have hnext : fh Kd oo H (k + 1) = ((fh Kd oo H k).1 - 50, if (fh Kd oo H k).1 - 50 = 0 then 3 else 2) := by rw [fh, if_neg hst1, if_pos hst]
    have hnxt : (k + 1 < d ∧ 50 < (fh Kd oo H k).1) ∨ (k + 1 = d ∧ (fh Kd oo H k).1 ≤ 50) := by
      by_cases hz : (fh Kd oo H k).1 - 50 = 0
      · right
        refine ⟨?_, by omega⟩
        rcases Nat.lt_or_ge (k + 1) d with h | h
        · have h9 := hW.2.2.2.2.1 (k + 1) (by omega) h
          rw [hnext, if_pos hz] at h9
          exact absurd h9 (fun z => by cases z)
        · omega
      · left
        refine ⟨?_, by omega⟩
        rcases Nat.lt_or_ge (k + 1) d with h | h
        · exact h
        · have h9 := hW.2.2.2.2.2 (k + 1) h
          rw [hnext, if_neg hz] at h9
          exact absurd (congrArg Prod.snd h9) (fun z => by cases z)
    have hO : nI (min k d - min k o) + 1 = nI (min (k + 1) d - min (k + 1) o) := by
      rw [nI_1, show min k d - min k o + 1 = min (k + 1) d - min (k + 1) o by omega]
    have hX : fx Kd Di V oo H wx k + wx ((fh Kd oo H k).1 / 4000) = fx Kd Di V oo H wx (k + 1) := by rw [fx, if_neg hst1, if_pos hst]
    have hY : fy Kd Di oo H wy k + wy ((fh Kd oo H k).1 / 4000) = fy Kd Di oo H wy (k + 1) := by rw [fy, if_neg hst1, if_pos hst]
    have run : ∀ r, mX9_layOut_b54 207 (nI w) (nI g) r (nI k) s = (if 0 < nI (fh Kd oo H k).1 - 50 then r (nI (k + 1)) (cC s w (1001 * w + k + 1) (fx Kd Di V oo H wx k + wx ((fh Kd oo H k).1 / 4000)) (fy Kd Di oo H wy k + wy ((fh Kd oo H k).1 / 4000)) (nI (fh Kd oo H k).1 - 50) (nI 2) (sI s 243 w) (nI (min k d - min k o) + 1)) else r (nI (k + 1)) (cC s w (1001 * w + k + 1) (fx Kd Di V oo H wx k + wx ((fh Kd oo H k).1 / 4000)) (fy Kd Di oo H wy k + wy ((fh Kd oo H k).1 / 4000)) 0 3 (nI (k + 1)) (nI (min k d - min k o) + 1))) := by
      intro r
      unfold mX9_layOut_b54
      rw [if_neg (lt1000 hk), mR hM 38 241 rfl (by decide) (by decide), i1001, alI_n (show 1001 * w + k < ln 241 from hn) (by decide) (by omega), x3, ckZ4, mR hM 36 239 rfl (by decide) (by decide), mR hM 36 239 rfl (by decide) (by decide), alI_n (show 1001 * w + k < ln 239 from hn) (by decide) (by omega), x1, nI_1 (1001 * w + k), asI_n (show 1001 * w + k + 1 < ln 239 from hn1) (by decide) (by omega), cC_1 (w := w), mR hMC 37 240 rfl (by decide) (by decide), mR hMC 37 240 rfl (by decide) (by decide), alI_n (show 1001 * w + k < ln 240 from hn) (by decide) (by rw [hNC]; omega), cC_o (by omega), x2, asI_n (show 1001 * w + k + 1 < ln 240 from hn1) (by decide) (by rw [hNC]; omega), cC_u240, mR hMC 38 241 rfl (by decide) (by decide), mR hMC 38 241 rfl (by decide) (by decide), alI_n (show 1001 * w + k < ln 241 from hn) (by decide) (by rw [hNC]; omega), cC_o (by omega), x3, asI_n (show 1001 * w + k + 1 < ln 241 from hn1) (by decide) (by rw [hNC]; omega), cC_u241, mR hMC 39 242 rfl (by decide) (by decide), mR hMC 39 242 rfl (by decide) (by decide), alI_n (show 1001 * w + k < ln 242 from hn) (by decide) (by rw [hNC]; omega), cC_o (by omega), x4, asI_n (show 1001 * w + k + 1 < ln 242 from hn1) (by decide) (by rw [hNC]; omega), cC_u242, mR hMC 39 242 rfl (by decide) (by decide), alI_n (show 1001 * w + k < ln 242 from hn) (by decide) (by rw [hNC]; omega), cC_o (by omega), x4, jn_eq, if_neg (by decide)]
      try dsimp only
      rw [mR hMC 36 239 rfl (by decide) (by decide), alI_n (show 1001 * w + k + 1 < ln 239 from hn1) (by decide) (by rw [hNC]; omega), cC_239, mR hMC 32 237 rfl (by decide) (by decide), div4 (by omega), alI_n (show _ < ln 237 from hj) (by decide) (by rw [hNC]; omega), cC_o (by omega), f5, asI_n (show 1001 * w + k + 1 < ln 239 from hn1) (by decide) (by rw [hNC]; omega), cC_u239, mR hMC 37 240 rfl (by decide) (by decide), alI_n (show 1001 * w + k + 1 < ln 240 from hn1) (by decide) (by rw [hNC]; omega), cC_240, mR hMC 33 238 rfl (by decide) (by decide), alI_n (show _ < ln 238 from hj) (by decide) (by rw [hNC]; omega), cC_o (by omega), f6, asI_n (show 1001 * w + k + 1 < ln 240 from hn1) (by decide) (by rw [hNC]; omega), cC_u240]
      try dsimp only
      rw [mR hMC 39 242 rfl (by decide) (by decide), alI_n (show 1001 * w + k < ln 242 from hn) (by decide) (by rw [hNC]; omega), cC_o (by omega), x4, if_pos (by decide), mR hMC 39 242 rfl (by decide) (by decide), alI_n (show 1001 * w + k < ln 242 from hn) (by decide) (by rw [hNC]; omega), cC_o (by omega), x4, if_neg (by decide), mR hMC 41 244 rfl (by decide) (by decide), alI_n (show w < ln 244 from hw) (by decide) (by rw [hNC]; omega), cC_244, h7, asI_n (show w < ln 244 from hw) (by decide) (by rw [hNC]; omega), cC_u244, mR hMC 38 241 rfl (by decide) (by decide), alI_n (show 1001 * w + k + 1 < ln 241 from hn1) (by decide) (by rw [hNC]; omega), cC_241, asI_n (show 1001 * w + k + 1 < ln 241 from hn1) (by decide) (by rw [hNC]; omega), cC_u241, mR hMC 38 241 rfl (by decide) (by decide), alI_n (show 1001 * w + k + 1 < ln 241 from hn1) (by decide) (by rw [hNC]; omega), cC_241, nI_1 k]
      by_cases hz : 0 < nI (fh Kd oo H k).1 - 50
      · rw [if_pos hz, if_pos hz]
      · rw [if_neg hz, if_neg hz, mR hMC 38 241 rfl (by decide) (by decide), asI_n (show 1001 * w + k + 1 < ln 241 from hn1) (by decide) (by rw [hNC]; omega), cC_u241, mR hMC 39 242 rfl (by decide) (by decide), asI_n (show 1001 * w + k + 1 < ln 242 from hn1) (by decide) (by rw [hNC]; omega), cC_u242, mR hMC 40 243 rfl (by decide) (by decide), asI_n (show w < ln 243 from hw) (by decide) (by rw [hNC]; omega), cC_u243]
    rcases hnxt with ⟨hd, h50⟩ | ⟨hd, h50⟩
    · refine ⟨_, hI0.next hk (X := fx Kd Di V oo H wx k + wx ((fh Kd oo H k).1 / 4000)) (Y := fy Kd Di oo H wy k + wy ((fh Kd oo H k).1 / 4000)) (Hh := nI (fh Kd oo H k).1 - 50) (T := nI 2) (D := sI s 243 w) (O := nI (min k d - min k o) + 1) hX hY ?_ ?_ ?_ hO, fun r => (run r).trans (if_pos ?_)⟩
      · rw [hnext]
        exact pk_sub (b := 50) (by omega)
      · rw [hnext, if_neg (show ¬ (fh Kd oo H k).1 - 50 = 0 by omega)]
      · rw [h6, if_pos hkd, if_pos hd]
      · rw [show nI (fh Kd oo H k).1 - 50 = nI ((fh Kd oo H k).1 - 50) from pk_sub (b := 50) (by omega)]
        exact nI_lt (a := 0) (by omega) (by omega)
    · refine ⟨_, hI0.next hk (X := fx Kd Di V oo H wx k + wx ((fh Kd oo H k).1 / 4000)) (Y := fy Kd Di oo H wy k + wy ((fh Kd oo H k).1 / 4000)) (Hh := 0) (T := 3) (D := nI (k + 1)) (O := nI (min k d - min k o) + 1) hX hY ?_ ?_ ?_ hO, fun r => (run r).trans (if_neg ?_)⟩
      · rw [hnext]
        show (0 : Int32) = nI ((fh Kd oo H k).1 - 50)
        rw [show (fh Kd oo H k).1 - 50 = 0 by omega]
        rfl
      · rw [hnext, if_pos (show (fh Kd oo H k).1 - 50 = 0 by omega)]
        rfl
      · rw [if_neg (by omega), hd]
      · intro hz
        rw [Int32.lt_iff_toInt_lt, show (50 : Int32) = nI 50 from rfl, pk_sub_toInt (by omega) (by decide)] at hz
        have : (0 : Int32).toInt = 0 := rfl
        omega
  · have hst := hW.2.2.2.2.2 k hkd
    have hod := hW.2.1
    rw [hst] at x3 x4
    refine ⟨_, hI0.next hk (X := fx Kd Di V oo H wx k) (Y := fy Kd Di oo H wy k) (Hh := nI 0) (T := nI 3) (D := sI s 243 w) (O := sI s 244 w) ?_ ?_ ?_ ?_ ?_ ?_, fun r => ?_⟩
    · rw [fx, hst, if_neg (by decide), if_neg (by decide)]
    · rw [fy, hst, if_neg (by decide), if_neg (by decide)]
    · rw [hW.2.2.2.2.2 (k + 1) (by omega)]
    · rw [hW.2.2.2.2.2 (k + 1) (by omega)]
    · rw [h6, if_neg (by omega), if_neg (by omega)]
    · rw [h7, show min k d - min k o = min (k + 1) d - min (k + 1) o by omega]
    · unfold mX9_layOut_b54
      rw [if_neg (lt1000 hk), mR hM 38 241 rfl (by decide) (by decide), i1001, alI_n (show 1001 * w + k < ln 241 from hn) (by decide) (by omega), x3, ckZ4, mR hM 36 239 rfl (by decide) (by decide), mR hM 36 239 rfl (by decide) (by decide), alI_n (show 1001 * w + k < ln 239 from hn) (by decide) (by omega), x1, nI_1 (1001 * w + k), asI_n (show 1001 * w + k + 1 < ln 239 from hn1) (by decide) (by omega), cC_1 (w := w), mR hMC 37 240 rfl (by decide) (by decide), mR hMC 37 240 rfl (by decide) (by decide), alI_n (show 1001 * w + k < ln 240 from hn) (by decide) (by rw [hNC]; omega), cC_o (by omega), x2, asI_n (show 1001 * w + k + 1 < ln 240 from hn1) (by decide) (by rw [hNC]; omega), cC_u240, mR hMC 38 241 rfl (by decide) (by decide), mR hMC 38 241 rfl (by decide) (by decide), alI_n (show 1001 * w + k < ln 241 from hn) (by decide) (by rw [hNC]; omega), cC_o (by omega), x3, asI_n (show 1001 * w + k + 1 < ln 241 from hn1) (by decide) (by rw [hNC]; omega), cC_u241, mR hMC 39 242 rfl (by decide) (by decide), mR hMC 39 242 rfl (by decide) (by decide), alI_n (show 1001 * w + k < ln 242 from hn) (by decide) (by rw [hNC]; omega), cC_o (by omega), x4, asI_n (show 1001 * w + k + 1 < ln 242 from hn1) (by decide) (by rw [hNC]; omega), cC_u242, mR hMC 39 242 rfl (by decide) (by decide), alI_n (show 1001 * w + k < ln 242 from hn) (by decide) (by rw [hNC]; omega), cC_o (by omega), x4, jn_eq, if_pos (by decide)]
      try dsimp only
      rw [mR hMC 39 242 rfl (by decide) (by decide), alI_n (show 1001 * w + k < ln 242 from hn) (by decide) (by rw [hNC]; omega), cC_o (by omega), x4, if_pos (by decide), mR hMC 39 242 rfl (by decide) (by decide), alI_n (show 1001 * w + k < ln 242 from hn) (by decide) (by rw [hNC]; omega), cC_o (by omega), x4, if_pos (by decide), nI_1 k]
theorem layOut_ok (hG : MG s0 g Kd Di V oo H wx wy) (hW : Wd Kd oo H o d) (hw : w < 2) : ∃ s', mX9_layOut 207 (nI g) (nI w) s0 = some ((), s') ∧ LWi s0 s' w (fx Kd Di V oo H wx) (fy Kd Di oo H wy) (fh Kd oo H) o d 1000 := by
  have hG0 := hG
  obtain ⟨hM, hg, g1, g2, g3, g4, g5, g6, b1, b2, b3, b4⟩ := hG
  have hN := hM.1
  have hMC : ∀ {X Y H T D O : Int32}, M0 (cC s0 w (1001 * w) X Y H T D O) := hM
  have hNC : ∀ {X Y H T D O : Int32}, sN (cC s0 w (1001 * w) X Y H T D O) = 249 := hN
  have hn : 1001 * w < 2002 := by omega
  have e0 : mX9_layOut 207 (nI g) (nI w) s0 = lp (mX9_layOut_b54 207 (nI w) (nI g)) FU 0 (cC s0 w (1001 * w) 0 0 (nI H) 1 (-1) 0) := by
    unfold mX9_layOut
    rw [mR hM 36 239 rfl (by decide) (by decide), i1001m, asI_n (show _ < ln 239 from hn) (by decide) (by omega), cC_1 (w := w), mR hMC 37 240 rfl (by decide) (by decide), asI_n (show _ < ln 240 from hn) (by decide) (by rw [hNC]; omega), cC_u240, mR hMC 38 241 rfl (by decide) (by decide), mI hNC, cC_o (by omega), g5, asI_n (show _ < ln 241 from hn) (by decide) (by rw [hNC]; omega), cC_u241, mR hMC 39 242 rfl (by decide) (by decide), asI_n (show _ < ln 242 from hn) (by decide) (by rw [hNC]; omega), cC_u242, mR hMC 40 243 rfl (by decide) (by decide), asI_n (show w < ln 243 from hw) (by decide) (by rw [hNC]; omega), cC_u243, mR hMC 41 244 rfl (by decide) (by decide), asI_n (show w < ln 244 from hw) (by decide) (by rw [hNC]; omega), cC_u244]
  have hI0 : LWi s0 (cC s0 w (1001 * w) 0 0 (nI H) 1 (-1) 0) w (fx Kd Di V oo H wx) (fy Kd Di oo H wy) (fh Kd oo H) o d 0 := by
    have hod := hW.2.1
    refine ⟨rfl, rfl, ⟨rfl, rfl⟩, fun a q ha => cC_o (by omega), fun t ht => ?_, ?_, ?_⟩
    · have ht0 : t = 0 := by omega
      subst ht0
      rw [Nat.add_zero, cC_239, cC_240, cC_241, cC_242]
      exact ⟨rfl, rfl, rfl, rfl⟩
    · rw [cC_243, if_pos (by omega)]
    · rw [cC_244, Nat.zero_min, Nat.zero_min]
      rfl
  rw [e0]
  refine lp_inv (F := mX9_layOut_b54 207 (nI w) (nI g)) (n := 1000) (I := fun i q s => q = nI i ∧ LWi s0 s w (fx Kd Di V oo H wx) (fy Kd Di oo H wy) (fh Kd oo H) o d i) (Q := fun x => ∃ s', x = some ((), s') ∧ LWi s0 s' w (fx Kd Di V oo H wx) (fy Kd Di oo H wy) (fh Kd oo H) o d 1000) (fun q s r h => ?_) (fun i q s r hi h hr => ?_) FU 0 (Nat.zero_le _) (by decide) 0 _ ⟨rfl, hI0⟩
  · obtain ⟨rfl, h⟩ := h
    refine ⟨s, ?_, h⟩
    unfold mX9_layOut_b54
    rw [if_pos (by decide)]
  · obtain ⟨rfl, h⟩ := h
    obtain ⟨s', h1, h2⟩ := lay_step hG0 hW hw hi h
    rw [h2 r]
    exact hr _ _ ⟨rfl, h1⟩
end LAY
