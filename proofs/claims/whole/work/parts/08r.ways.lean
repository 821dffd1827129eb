/-! THE CLASS'S WAY: place n of the rows of the fall at b, as it is being written -/
def dIf (f : Nat → Nat → Int32) (b n : Nat) (X Y H O D : Int32) : Nat → Nat → Int32 := fun a q => if a = b + 1 ∧ q = n then X else if a = b + 2 ∧ q = n then Y else if a = b + 3 ∧ q = n then H else if a = b ∧ q = 3 then O else if a = b ∧ q = 4 then D else f a q
def dC (s : Sg) (b n : Nat) (X Y H O D : Int32) : Sg := (sN s, dIf (sI s) b n X Y H O D, sR s, sF s, sL s)
def FB (b : Nat) : Prop := kd b = 1 ∧ kd (b + 1) = 21 ∧ ln (b + 1) = 1001 ∧ kd (b + 2) = 21 ∧ ln (b + 2) = 1001 ∧ kd (b + 3) = 21 ∧ ln (b + 3) = 1001 ∧ 183 ≤ b ∧ b + 3 < 207
theorem fb_i : ∀ i, i < 6 → FB (183 + 4 * i) := by
  intro i hi
  obtain ⟨h1, h2, h3, h4, h5, h6, h7⟩ := kdFa i hi
  rw [show 184 + 4 * i = 183 + 4 * i + 1 by omega] at h2 h3
  rw [show 185 + 4 * i = 183 + 4 * i + 2 by omega] at h4 h5
  rw [show 186 + 4 * i = 183 + 4 * i + 3 by omega] at h6 h7
  exact ⟨h1, h2, h3, h4, h5, h6, h7, by omega, by omega⟩
section DC
variable {s : Sg} {b n : Nat} {X Y H O D v : Int32}
theorem dC_self : dC s b n (sI s (b + 1) n) (sI s (b + 2) n) (sI s (b + 3) n) (sI s b 3) (sI s b 4) = s := by
  have h : dIf (sI s) b n (sI s (b + 1) n) (sI s (b + 2) n) (sI s (b + 3) n) (sI s b 3) (sI s b 4) = sI s := by
    funext a q
    unfold dIf
    grind
  unfold dC
  rw [h]
  rfl
theorem dC_uX : uI (dC s b n X Y H O D) (b + 1) n v = dC s b n v Y H O D := by
  have h : u2 (dIf (sI s) b n X Y H O D) (b + 1) n v = dIf (sI s) b n v Y H O D := by
    funext a q
    unfold u2 dIf
    grind
  show (sN s, u2 (dIf (sI s) b n X Y H O D) (b + 1) n v, sR s, sF s, sL s) = _
  rw [h]; rfl
theorem dC_uY : uI (dC s b n X Y H O D) (b + 2) n v = dC s b n X v H O D := by
  have h : u2 (dIf (sI s) b n X Y H O D) (b + 2) n v = dIf (sI s) b n X v H O D := by
    funext a q
    unfold u2 dIf
    grind
  show (sN s, u2 (dIf (sI s) b n X Y H O D) (b + 2) n v, sR s, sF s, sL s) = _
  rw [h]; rfl
theorem dC_uH : uI (dC s b n X Y H O D) (b + 3) n v = dC s b n X Y v O D := by
  have h : u2 (dIf (sI s) b n X Y H O D) (b + 3) n v = dIf (sI s) b n X Y v O D := by
    funext a q
    unfold u2 dIf
    grind
  show (sN s, u2 (dIf (sI s) b n X Y H O D) (b + 3) n v, sR s, sF s, sL s) = _
  rw [h]; rfl
theorem dC_uO : uI (dC s b n X Y H O D) b 3 v = dC s b n X Y H v D := by
  have h : u2 (dIf (sI s) b n X Y H O D) b 3 v = dIf (sI s) b n X Y H v D := by
    funext a q
    unfold u2 dIf
    grind
  show (sN s, u2 (dIf (sI s) b n X Y H O D) b 3 v, sR s, sF s, sL s) = _
  rw [h]; rfl
theorem dC_uD : uI (dC s b n X Y H O D) b 4 v = dC s b n X Y H O v := by
  have h : u2 (dIf (sI s) b n X Y H O D) b 4 v = dIf (sI s) b n X Y H O v := by
    funext a q
    unfold u2 dIf
    grind
  show (sN s, u2 (dIf (sI s) b n X Y H O D) b 4 v, sR s, sF s, sL s) = _
  rw [h]; rfl
theorem dC_o {a q : Nat} (h : a < b ∨ b + 3 < a ∨ (b < a ∧ q ≠ n) ∨ (a = b ∧ q < 3)) : sI (dC s b n X Y H O D) a q = sI s a q := by
  show dIf (sI s) b n X Y H O D a q = _
  unfold dIf
  rw [if_neg (by omega), if_neg (by omega), if_neg (by omega), if_neg (by omega), if_neg (by omega)]
theorem dC_X : sI (dC s b n X Y H O D) (b + 1) n = X := if_pos ⟨rfl, rfl⟩
theorem dC_Y : sI (dC s b n X Y H O D) (b + 2) n = Y := by
  show dIf (sI s) b n X Y H O D (b + 2) n = _
  unfold dIf
  rw [if_neg (by omega), if_pos ⟨rfl, rfl⟩]
theorem dC_H : sI (dC s b n X Y H O D) (b + 3) n = H := by
  show dIf (sI s) b n X Y H O D (b + 3) n = _
  unfold dIf
  rw [if_neg (by omega), if_neg (by omega), if_pos ⟨rfl, rfl⟩]
theorem dC_O : sI (dC s b n X Y H O D) b 3 = O := by
  show dIf (sI s) b n X Y H O D b 3 = _
  unfold dIf
  rw [if_neg (by omega), if_neg (by omega), if_neg (by omega), if_pos ⟨rfl, rfl⟩]
theorem dC_D : sI (dC s b n X Y H O D) b 4 = D := by
  show dIf (sI s) b n X Y H O D b 4 = _
  unfold dIf
  rw [if_neg (by omega), if_neg (by omega), if_neg (by omega), if_neg (by omega), if_pos ⟨rfl, rfl⟩]
theorem dC_N : sN (dC s b n X Y H O D) = sN s := rfl
theorem dC_R {a q : Nat} : sR (dC s b n X Y H O D) a q = sR s a q := rfl
theorem dC_1 : uI s (b + 1) n v = dC s b n v (sI s (b + 2) n) (sI s (b + 3) n) (sI s b 3) (sI s b 4) := by
  have h := dC_uX (s := s) (b := b) (n := n) (X := sI s (b + 1) n) (Y := sI s (b + 2) n) (H := sI s (b + 3) n) (O := sI s b 3) (D := sI s b 4) (v := v)
  rw [dC_self] at h
  exact h
end DC
/-- what the class has of group g (at 56 + 2 g), plane P, air A -/
def CG (s : Sg) (b g P A ax ay : Nat) (Kd Di V : Int32) (oo H : Nat) (wx wy : Nat → Int32) : Prop := sN s = 249 ∧ g < 20 ∧ FB b ∧ sR s b 0 = some (b + 1) ∧ sR s b 1 = some (b + 2) ∧ sR s b 2 = some (b + 3) ∧ sI s (56 + 2 * g) 3 = Kd ∧ sI s (56 + 2 * g) 4 = nI oo ∧ sI s (56 + 2 * g) 6 = Di ∧ kd P = 6 ∧ P < 183 ∧ sI s P 3 = V ∧ sI s P 4 = nI H ∧ kd A = 0 ∧ A < 183 ∧ sR s A 0 = some ax ∧ sR s A 1 = some ay ∧ kd ax = 21 ∧ ax < 183 ∧ ln ax = 12 ∧ kd ay = 21 ∧ ay < 183 ∧ ln ay = 12 ∧ (∀ j, j < 12 → sI s ax j = wx j ∧ sI s ay j = wy j) ∧ btw Kd 0 3 ∧ btw Di 0 3 ∧ 6000 ≤ oo ∧ oo ≤ 15000 ∧ 15000 ≤ H ∧ H ≤ 47000
/-- the class's way in the fall at b, laid up to second k -/
def CWi (s0 s : Sg) (b : Nat) (xf yf : Nat → Int32) (hf : Nat → Nat × Nat) (o d k : Nat) : Prop := sN s = sN s0 ∧ sR s = sR s0 ∧ sF s = sF s0 ∧ (∀ a q, (a < b ∨ b + 3 < a) → sI s a q = sI s0 a q) ∧ (∀ t, t ≤ k → sI s (b + 1) t = xf t ∧ sI s (b + 2) t = yf t ∧ sI s (b + 3) t = nI (hf t).1) ∧ sI s b 3 = (if k < o then 1000 else nI o) ∧ sI s b 4 = (if k < d then 1000 else nI d)
theorem CWi.next {s0 s : Sg} {b o d k : Nat} {xf yf : Nat → Int32} {hf : Nat → Nat × Nat} {X Y Hh O D : Int32} (h : CWi s0 s b xf yf hf o d k) (hX : X = xf (k + 1)) (hY : Y = yf (k + 1)) (hH : Hh = nI (hf (k + 1)).1) (hO : O = if k + 1 < o then 1000 else nI o) (hD : D = if k + 1 < d then 1000 else nI d) : CWi s0 (dC s b (k + 1) X Y Hh O D) b xf yf hf o d (k + 1) := by
  obtain ⟨h1, h2, h3, h4, h5, h6, h7⟩ := h
  refine ⟨h1, h2, h3, fun a q ha => ?_, fun t ht => ?_, ?_, ?_⟩
  · rw [dC_o (by omega)]
    exact h4 a q ha
  · by_cases htk : t = k + 1
    · subst htk
      rw [dC_X, dC_Y, dC_H]
      exact ⟨hX, hY, hH⟩
    · rw [dC_o (by omega), dC_o (by omega), dC_o (by omega)]
      exact h5 t (by omega)
  · rw [dC_O]; exact hO
  · rw [dC_D]; exact hD
theorem stv_mst : ∀ k, k < 4 → stv 0 k = nI (mst (nI k)) := by decide
theorem lt12n {k : Nat} (hk : k < 12) : ¬ (12 : Int32) ≤ nI k := nI_ge (b := 12) hk (by decide)
theorem alongX_ok {s : Sg} {A ax j : Nat} (hN : sN s = 249) (hA : kd A = 0) (hA2 : A < 183) (h1 : sR s A 0 = some ax) (h2 : kd ax = 21) (h3 : ax < 183) (h4 : ln ax = 12) (hj : j < 12) : mX0_alongX A (nI j) s = some (sI s ax j, s) := by
  unfold mX0_alongX
  rw [if_neg (nI0 (by omega)), if_neg (lt12n hj), gdR_at hA (by omega), h1, alI_n (by omega) h2 (by omega)]
theorem alongY_ok {s : Sg} {A ax j : Nat} (hN : sN s = 249) (hA : kd A = 0) (hA2 : A < 183) (h1 : sR s A 1 = some ax) (h2 : kd ax = 21) (h3 : ax < 183) (h4 : ln ax = 12) (hj : j < 12) : mX0_alongY A (nI j) s = some (sI s ax j, s) := by
  unfold mX0_alongY
  rw [if_neg (nI0 (by omega)), if_neg (lt12n hj), gdR_at hA (by omega), h1, alI_n (by omega) h2 (by omega)]
theorem gt20 {k : Nat} (h : ¬ k ≤ 20) (hk : k < 2 ^ 31) : 20 < nI k := nI_lt (a := 20) (by omega) hk
theorem ngt20 {k : Nat} (h : k ≤ 20) : ¬ 20 < nI k := nI_nlt (a := 20) (b := k) h (by decide)
theorem mx50 {h : Nat} (hh : h < 2 ^ 30) : mxI (nI h - 50) 0 = nI (h - 50) := by
  unfold mxI
  have e : (nI h - 50).toInt = (h : Int) - 50 := pk_sub_toInt (b := 50) (by omega) (by decide)
  by_cases hz : nI h - 50 < 0
  · rw [if_pos hz]
    rw [Int32.lt_iff_toInt_lt, e] at hz
    have : (0 : Int32).toInt = 0 := rfl
    rw [show h - 50 = 0 by omega]
    rfl
  · rw [if_neg hz]
    rw [Int32.lt_iff_toInt_lt, e] at hz
    have : (0 : Int32).toInt = 0 := rfl
    exact pk_sub (b := 50) (by omega)
section CL
variable {s0 s : Sg} {b g P A ax ay : Nat} {Kd Di V : Int32} {oo H : Nat} {wx wy : Nat → Int32} {o d k n : Nat} {X Y Hh O D : Int32}
theorem drop_ok {S : Sg} (hN : sN S = 249) (hg : g < 20) (h1 : sI S (56 + 2 * g) 3 = Kd) (hK : btw Kd 0 3) (hk : k < 1000) : mX2_dropIn (56 + 2 * g) (nI k) S = some (nI (drp Kd k), S) := by
  obtain ⟨k1, k2, k3⟩ := kdGr g hg
  obtain ⟨q, hq, rfl⟩ := btw_nI 4 hK (by decide)
  have hm := mst_b (nI q)
  have hd : drp (nI q) k = 10 * min (10 * (k + 1)) (mst (nI q)) := rfl
  unfold mX2_dropIn
  rw [gdI_at k1 (by omega), h1, gS_at rfl (show q < 4 from hq) (by omega), i10k, stv_mst q hq]
  by_cases hc : mst (nI q) ≤ 10 * (k + 1)
  · rw [if_pos (nI_le hc (by omega)), gdI_at k1 (by omega), h1, gS_at rfl (show q < 4 from hq) (by omega), stv_mst q hq, show (10 : Int32) * nI (mst (nI q)) = nI (10 * mst (nI q)) from pk_mul 10 _, hd, Nat.min_eq_right hc]
  · rw [if_neg (nI_ge (by omega) (by omega)), show (10 : Int32) * nI (10 * (k + 1)) = nI (10 * (10 * (k + 1))) from pk_mul 10 _, hd, Nat.min_eq_left (by omega)]
theorem opens_ok {S : Sg} {h : Nat} (hN : sN S = 249) (hg : g < 20) (h1 : sI S (56 + 2 * g) 3 = Kd) (h2 : sI S (56 + 2 * g) 4 = nI oo) (ho : oo < 2 ^ 30) (hk : k < 1000) (hh : h < 2 ^ 30) : mX2_opensBehind (56 + 2 * g) (nI k) (nI h) S = some (if h ≤ oo ∨ (Kd = 3 ∧ 2 ≤ k) then 1 else 0, S) := by
  obtain ⟨k1, k2, k3⟩ := kdGr g hg
  unfold mX2_opensBehind
  rw [gdI_at k1 (by omega), h2]
  by_cases hc : h ≤ oo
  · rw [if_pos (nI_le hc (by omega)), if_pos (Or.inl hc)]
    rfl
  rw [if_neg (nI_ge (by omega) (by omega)), gdI_at k1 (by omega), h1]
  by_cases hK : Kd = 3
  · rw [if_neg (fun z => z hK)]
    by_cases h2k : 2 ≤ k
    · rw [if_neg (lt2k h2k (by omega)), if_pos (Or.inr ⟨hK, h2k⟩)]
      rfl
    · rw [if_pos (lt2 h2k), if_neg (fun z => by rcases z with z | z; exact hc z; exact h2k z.2)]
      rfl
  · rw [if_pos hK, if_neg (fun z => by rcases z with z | z; exact hc z; exact hK z.1)]
    rfl
theorem track_ok (hN : sN s = 249) (hF : FB b) (q0 : sR s b 0 = some (b + 1)) (q1 : sR s b 1 = some (b + 2)) (hD : btw Di 0 3) (hk : k < 1000) : mX1_track b (nI k) Di (dC s b (k + 1) X Y Hh O D) = some ((), dC s b (k + 1) (X + (if Di = 0 then 80 else if Di = 2 then -80 else 0)) (Y + (if Di = 1 then 80 else if Di = 3 then -80 else 0)) Hh O D) := by
  obtain ⟨f1, f2, f3, f4, f5, f6, f7, f8, f9⟩ := hF
  have hNC : ∀ {X Y H O D : Int32}, sN (dC s b (k + 1) X Y H O D) = 249 := hN
  obtain ⟨q, hq, rfl⟩ := btw_nI 4 hD (by decide)
  unfold mX1_track
  rcases (by omega : q = 0 ∨ q = 1 ∨ q = 2 ∨ q = 3) with rfl | rfl | rfl | rfl
  · rw [swc_at (by decide), gd0, gdR_at f1 (by rw [hNC]; omega), dC_R, q0, nI_1 k, alI_n (by omega) f2 (by rw [hNC]; omega), dC_X, asI_n (by omega) f2 (by rw [hNC]; omega), dC_uX, if_pos (by decide), if_neg (by decide), if_neg (by decide), Int32.add_zero]
  · rw [swc_at (by decide), gd1, gdR_at f1 (by rw [hNC]; omega), dC_R, q1, nI_1 k, alI_n (by omega) f4 (by rw [hNC]; omega), dC_Y, asI_n (by omega) f4 (by rw [hNC]; omega), dC_uY, if_neg (by decide), if_neg (by decide), if_pos (by decide), Int32.add_zero]
  · rw [swc_at (by decide), gd2, gdR_at f1 (by rw [hNC]; omega), dC_R, q0, nI_1 k, alI_n (by omega) f2 (by rw [hNC]; omega), dC_X, asI_n (by omega) f2 (by rw [hNC]; omega), dC_uX, if_neg (by decide), if_pos (by decide), if_neg (by decide), if_neg (by decide), Int32.add_zero, Int32.sub_eq_add_neg]
  · rw [swc_at (by decide), show ∀ (a b c d : Option (Unit × Sg)), [a, b, c].getD 3 d = d from fun _ _ _ _ => rfl, gdR_at f1 (by rw [hNC]; omega), dC_R, q1, nI_1 k, alI_n (by omega) f4 (by rw [hNC]; omega), dC_Y, asI_n (by omega) f4 (by rw [hNC]; omega), dC_uY, if_neg (by decide), if_neg (by decide), if_neg (by decide), if_pos (by decide), Int32.add_zero, Int32.sub_eq_add_neg]
theorem cfall_ok {h : Nat} (hN : sN s = 249) (hF : FB b) (q0 : sR s b 0 = some (b + 1)) (q1 : sR s b 1 = some (b + 2)) (q2 : sR s b 2 = some (b + 3)) (hg : g < 20) (h1 : sI s (56 + 2 * g) 3 = Kd) (h2 : sI s (56 + 2 * g) 4 = nI oo) (h3 : sI s (56 + 2 * g) 6 = Di) (hK : btw Kd 0 3) (hD : btw Di 0 3) (ho : oo < 2 ^ 30) (hk : k < 1000) (x3 : sI s (b + 3) k = nI h) (hh : drp Kd k ≤ h) (hh2 : h < 2 ^ 30) : mX1_fall b (nI k) (some (56 + 2 * g)) V (dC s b (k + 1) X Y Hh O D) = some ((), dC s b (k + 1) ((X + thr V k) + trx Kd Di k) (Y + trw Kd Di k) (nI (h - drp Kd k)) (if h - drp Kd k ≤ oo ∨ (Kd = 3 ∧ 2 ≤ k) then nI (k + 1) else O) D) := by
  have hF0 := hF
  obtain ⟨f1, f2, f3, f4, f5, f6, f7, f8, f9⟩ := hF
  obtain ⟨k1, k2, k3⟩ := kdGr g hg
  have hNC : ∀ {X Y H O D : Int32}, sN (dC s b (k + 1) X Y H O D) = 249 := hN
  have hGI : ∀ {X Y H O D : Int32} {q : Nat}, sI (dC s b (k + 1) X Y H O D) (56 + 2 * g) q = sI s (56 + 2 * g) q := fun {X Y H O D q} => dC_o (by omega)
  unfold mX1_fall
  have e1 : ∀ (G : Unit → Sg → Option (Unit × Sg)), jn G (fun j3 => if 20 < nI k then j3 () (dC s b (k + 1) X Y Hh O D) else gdR (dC s b (k + 1) X Y Hh O D) 1 0 (some b) fun v25 => alI (dC s b (k + 1) X Y Hh O D) v25 (nI k + 1) fun v26 => asI (dC s b (k + 1) X Y Hh O D) v25 (nI k + 1) (v26 + (V >>> ((nI k + 1) &&& 31))) fun s27 => j3 () s27) = G () (dC s b (k + 1) (X + thr V k) Y Hh O D) := by
    intro G
    rw [jn_eq]
    unfold thr
    by_cases h20 : k ≤ 20
    · rw [if_neg (ngt20 h20), if_pos h20, gdR_at f1 (by rw [hNC]; omega), dC_R, q0, nI_1 k, alI_n (by omega) f2 (by rw [hNC]; omega), dC_X, asI_n (by omega) f2 (by rw [hNC]; omega), dC_uX]
    · rw [if_pos (gt20 h20 (by omega)), if_neg h20, Int32.add_zero]
  rw [e1]
  try dsimp only
  rw [gdI_at k1 (by rw [hNC]; omega), hGI, h1]
  have e2 : ∀ (G : Unit → Sg → Option (Unit × Sg)), jn G (fun j7 => if ¬ Kd = 2 then j7 () (dC s b (k + 1) (X + thr V k) Y Hh O D) else if nI k < 5 then j7 () (dC s b (k + 1) (X + thr V k) Y Hh O D) else gdI (dC s b (k + 1) (X + thr V k) Y Hh O D) 2 6 (some (56 + 2 * g)) fun v21 => cv (dC s b (k + 1) (X + thr V k) Y Hh O D) 1 (some b) fun a24 => cl (mX1_track a24 (nI k) v21 (dC s b (k + 1) (X + thr V k) Y Hh O D)) fun u22 s23 => j7 () s23) = G () (dC s b (k + 1) ((X + thr V k) + trx Kd Di k) (Y + trw Kd Di k) Hh O D) := by
    intro G
    rw [jn_eq]
    unfold trx trw
    by_cases hK2 : Kd = 2
    · rw [if_neg (fun z => z hK2)]
      by_cases h5 : 5 ≤ k
      · rw [if_neg (nlt5 h5 (by omega)), if_pos (show Kd = 2 ∧ 5 ≤ k from ⟨hK2, h5⟩), if_pos (show Kd = 2 ∧ 5 ≤ k from ⟨hK2, h5⟩), gdI_at k1 (by rw [hNC]; omega), hGI, h3, cv_at f1 (by rw [hNC]; omega), track_ok hN hF0 q0 q1 hD hk, cl_some]
      · rw [if_pos (lt5 h5), if_neg (fun z => h5 z.2), if_neg (fun z => h5 z.2), Int32.add_zero, Int32.add_zero]
    · rw [if_pos hK2, if_neg (fun z => hK2 z.1), if_neg (fun z => hK2 z.1), Int32.add_zero, Int32.add_zero]
  rw [e2]
  try dsimp only
  rw [gdR_at f1 (by rw [hNC]; omega), dC_R, q2, gdR_at f1 (by rw [hNC]; omega), dC_R, q2, alI_n (by omega) f6 (by rw [hNC]; omega), dC_o (by omega), x3, cv_at k1 (by rw [hNC]; omega), drop_ok hNC hg (hGI.trans h1) hK hk, cl_some, pk_sub hh, nI_1 k, asI_n (by omega) f6 (by rw [hNC]; omega), dC_uH, gdR_at f1 (by rw [hNC]; omega), dC_R, q2, alI_n (by omega) f6 (by rw [hNC]; omega), dC_H, cv_at k1 (by rw [hNC]; omega), opens_ok hNC hg (hGI.trans h1) (hGI.trans h2) ho hk (by omega), cl_some]
  by_cases hc : h - drp Kd k ≤ oo ∨ (Kd = 3 ∧ 2 ≤ k)
  · rw [if_pos hc, if_pos hc, if_neg (by decide), ptI_at f1 (by rw [hNC]; omega), dC_uO]
  · rw [if_neg hc, if_neg hc, if_pos rfl]
theorem drift_ok {h : Nat} (hN : sN s = 249) (hF : FB b) (q0 : sR s b 0 = some (b + 1)) (q1 : sR s b 1 = some (b + 2)) (q2 : sR s b 2 = some (b + 3)) (a1 : kd A = 0) (a2 : A < 183) (a3 : sR s A 0 = some ax) (a4 : sR s A 1 = some ay) (b1 : kd ax = 21) (b2 : ax < 183) (b3 : ln ax = 12) (c1 : kd ay = 21) (c2 : ay < 183) (c3 : ln ay = 12) (hk : k < 1000) (x3 : sI s (b + 3) k = nI h) (hh : h < 48000) : mX1_drift b (nI k) (some A) s = some ((), dC s b (k + 1) (sI s (b + 1) k + sI s ax (h / 4000)) (sI s (b + 2) k + sI s ay (h / 4000)) (sI s (b + 3) (k + 1)) (sI s b 3) (sI s b 4)) := by
  obtain ⟨f1, f2, f3, f4, f5, f6, f7, f8, f9⟩ := hF
  have hNC : ∀ {X Y H O D : Int32}, sN (dC s b (k + 1) X Y H O D) = 249 := hN
  have hj : h / 4000 < 12 := by omega
  unfold mX1_drift
  rw [gdR_at f1 (by omega), q2, alI_n (by omega) f6 (by omega), x3, ckZ4, gdR_at f1 (by omega), q0, gdR_at f1 (by omega), q0, alI_n (by omega) f2 (by omega), cv_at a1 (by omega), div4 (by omega), alongX_ok hN a1 a2 a3 b1 b2 b3 hj, cl_some, nI_1 k, asI_n (by omega) f2 (by omega), dC_1, gdR_at f1 (by rw [hNC]; omega), dC_R, q1, gdR_at f1 (by rw [hNC]; omega), dC_R, q1, alI_n (by omega) f4 (by rw [hNC]; omega), dC_o (by omega), cv_at a1 (by rw [hNC]; omega), alongY_ok hNC a1 a2 a4 c1 c2 c3 hj, cl_some, dC_o (by omega), asI_n (by omega) f4 (by rw [hNC]; omega), dC_uY]
theorem fol_step (hG : CG s0 b g P A ax ay Kd Di V oo H wx wy) (hW : Wd Kd oo H o d) (hk : k < d) (hI : CWi s0 s b (fx Kd Di V oo H wx) (fy Kd Di oo H wy) (fh Kd oo H) o d k) : ∃ s', CWi s0 s' b (fx Kd Di V oo H wx) (fy Kd Di oo H wy) (fh Kd oo H) o d (k + 1) ∧ ∀ r, mX1_follow_b41 b (some A) (some P) (some (56 + 2 * g)) r (nI k) s = if k + 1 = d then some ((), s') else r (nI (k + 1)) s' := by
  have hI0 := hI
  obtain ⟨h1, h2, h3, h4, h5, h6, h7⟩ := hI
  obtain ⟨hN0, hg, hF, q0, q1, q2, g1, g2, g3, p1, p2, p3, p4, a1, a2, a3, a4, b1, b2, b3, c1, c2, c3, hw, hK, hD, ho1, ho2, hH1, hH2⟩ := hG
  have hF0 := hF
  obtain ⟨f1, f2, f3, f4, f5, f6, f7, f8, f9⟩ := hF
  have hd9 := hW.2.2.1
  have hk9 : k < 1000 := by omega
  have hN : sN s = 249 := h1.trans hN0
  have hR : ∀ a q, sR s a q = sR s0 a q := fun a q => by rw [h2]
  obtain ⟨x1, x2, x3⟩ := h5 k (Nat.le_refl _)
  have htop := fh_top (K := Kd) (oo := oo) hH2 k
  have hinv := fh_inv (K := Kd) ho1 ho2 hH1 hH2 k
  have hj : (fh Kd oo H k).1 / 4000 < 12 := by omega
  have w1 : sI s ax ((fh Kd oo H k).1 / 4000) = wx ((fh Kd oo H k).1 / 4000) := (h4 _ _ (by omega)).trans (hw _ hj).1
  have w2 : sI s ay ((fh Kd oo H k).1 / 4000) = wy ((fh Kd oo H k).1 / 4000) := (h4 _ _ (by omega)).trans (hw _ hj).2
  have hNC : ∀ {X Y H O D : Int32}, sN (dC s b (k + 1) X Y H O D) = 249 := hN
  have run : ∀ r, mX1_follow_b41 b (some A) (some P) (some (56 + 2 * g)) r (nI k) s = (jn (fun (q16 : Unit) (s17 : Sg) => gdR s17 1 2 (some b) fun v19 => alI s17 v19 (nI k + 1) fun v20 => if ¬ v20 = 0 then r (nI k + 1) s17 else ptI s17 1 4 (some b) (nI k + 1) fun s21 => some ((), s21)) (fun j18 => if nI k < (if k < o then 1000 else nI o) then gdI (dC s b (k + 1) (fx Kd Di V oo H wx k + wx ((fh Kd oo H k).1 / 4000)) (fy Kd Di oo H wy k + wy ((fh Kd oo H k).1 / 4000)) (sI s (b + 3) (k + 1)) (if k < o then 1000 else nI o) (if k < d then 1000 else nI d)) 6 3 (some P) fun v22 => cv (dC s b (k + 1) (fx Kd Di V oo H wx k + wx ((fh Kd oo H k).1 / 4000)) (fy Kd Di oo H wy k + wy ((fh Kd oo H k).1 / 4000)) (sI s (b + 3) (k + 1)) (if k < o then 1000 else nI o) (if k < d then 1000 else nI d)) 1 (some b) fun a25 => cl (mX1_fall a25 (nI k) (some (56 + 2 * g)) v22 (dC s b (k + 1) (fx Kd Di V oo H wx k + wx ((fh Kd oo H k).1 / 4000)) (fy Kd Di oo H wy k + wy ((fh Kd oo H k).1 / 4000)) (sI s (b + 3) (k + 1)) (if k < o then 1000 else nI o) (if k < d then 1000 else nI d))) fun u23 s24 => j18 () s24 else gdR (dC s b (k + 1) (fx Kd Di V oo H wx k + wx ((fh Kd oo H k).1 / 4000)) (fy Kd Di oo H wy k + wy ((fh Kd oo H k).1 / 4000)) (sI s (b + 3) (k + 1)) (if k < o then 1000 else nI o) (if k < d then 1000 else nI d)) 1 2 (some b) fun v26 => gdR (dC s b (k + 1) (fx Kd Di V oo H wx k + wx ((fh Kd oo H k).1 / 4000)) (fy Kd Di oo H wy k + wy ((fh Kd oo H k).1 / 4000)) (sI s (b + 3) (k + 1)) (if k < o then 1000 else nI o) (if k < d then 1000 else nI d)) 1 2 (some b) fun v27 => alI (dC s b (k + 1) (fx Kd Di V oo H wx k + wx ((fh Kd oo H k).1 / 4000)) (fy Kd Di oo H wy k + wy ((fh Kd oo H k).1 / 4000)) (sI s (b + 3) (k + 1)) (if k < o then 1000 else nI o) (if k < d then 1000 else nI d)) v27 (nI k) fun v28 => asI (dC s b (k + 1) (fx Kd Di V oo H wx k + wx ((fh Kd oo H k).1 / 4000)) (fy Kd Di oo H wy k + wy ((fh Kd oo H k).1 / 4000)) (sI s (b + 3) (k + 1)) (if k < o then 1000 else nI o) (if k < d then 1000 else nI d)) v26 (nI k + 1) (mxI (v28 - 50) 0) fun s29 => j18 () s29)) := by
    intro r
    unfold mX1_follow_b41
    rw [if_neg (lt1000 hk9), cv_at f1 (by omega), drift_ok hN hF0 (by rw [hR]; exact q0) (by rw [hR]; exact q1) (by rw [hR]; exact q2) a1 a2 (by rw [hR]; exact a3) (by rw [hR]; exact a4) b1 b2 b3 c1 c2 c3 hk9 x3 (by omega), cl_some, x1, x2, w1, w2, h6, h7, gdI_at f1 (by rw [hNC]; omega), dC_O]
  rcases Nat.lt_or_ge k o with hko | hko
  · have hst : (fh Kd oo H k).2 = 1 := hW.2.2.2.1 k hko
    have hh6 : 6000 ≤ (fh Kd oo H k).1 := by
      rcases hinv with h | h | h
      · exact h.2.1
      · omega
      · omega
    have hdr := drp_b Kd k
    have hod := hW.2.1
    have hnext : fh Kd oo H (k + 1) = ((fh Kd oo H k).1 - drp Kd k, if (fh Kd oo H k).1 - drp Kd k ≤ oo ∨ (Kd = 3 ∧ 2 ≤ k) then 2 else 1) := by rw [fh, if_pos hst]
    have hpos : 0 < (fh Kd oo H k).1 - drp Kd k := by omega
    refine ⟨_, hI0.next (X := ((fx Kd Di V oo H wx k + wx ((fh Kd oo H k).1 / 4000)) + thr V k) + trx Kd Di k) (Y := (fy Kd Di oo H wy k + wy ((fh Kd oo H k).1 / 4000)) + trw Kd Di k) (Hh := nI ((fh Kd oo H k).1 - drp Kd k)) (O := if (fh Kd oo H k).1 - drp Kd k ≤ oo ∨ (Kd = 3 ∧ 2 ≤ k) then nI (k + 1) else (if k < o then 1000 else nI o)) (D := if k < d then 1000 else nI d) ?_ ?_ ?_ ?_ ?_, fun r => ?_⟩
    · rw [fx, if_pos hst]
    · rw [fy, if_pos hst]
    · rw [hnext]
    · by_cases hc : (fh Kd oo H k).1 - drp Kd k ≤ oo ∨ (Kd = 3 ∧ 2 ≤ k)
      · rw [if_pos hc]
        have hke : k + 1 = o := by
          rcases Nat.lt_or_ge (k + 1) o with h | h
          · have h9 := hW.2.2.2.1 (k + 1) h
            rw [hnext, if_pos hc] at h9
            exact absurd h9 (fun z => by cases z)
          · omega
        rw [if_neg (by omega), hke]
      · rw [if_neg hc, if_pos hko]
        have hke : k + 1 < o := by
          rcases Nat.lt_or_ge (k + 1) o with h | h
          · exact h
          · have h9 := hW.2.2.2.2.1 (k + 1) h (by omega)
            rw [hnext, if_neg hc] at h9
            exact absurd h9 (fun z => by cases z)
        rw [if_pos hke]
    · rw [if_pos hk, if_pos (by omega)]
    · rw [run r, jn_eq, if_pos (show nI k < (if k < o then 1000 else nI o) by rw [if_pos hko]; exact nI_lt (b := 1000) hk9 (by decide)), gdI_at p1 (by rw [hNC]; omega), dC_o (by omega), (h4 P 3 (by omega)).trans p3, cv_at f1 (by rw [hNC]; omega), cfall_ok hN hF0 (by rw [hR]; exact q0) (by rw [hR]; exact q1) (by rw [hR]; exact q2) hg ((h4 _ _ (by omega)).trans g1) ((h4 _ _ (by omega)).trans g2) ((h4 _ _ (by omega)).trans g3) hK hD (by omega) hk9 x3 (by omega) (by omega), cl_some]
      try dsimp only
      rw [gdR_at f1 (by rw [hNC]; omega), dC_R, hR, q2, nI_1 k, alI_n (by omega) f6 (by rw [hNC]; omega), dC_H, if_pos (nI_ne0 hpos (by omega)), if_neg (show ¬ k + 1 = d by omega)]
  · have hst : (fh Kd oo H k).2 = 2 := hW.2.2.2.2.1 k hko hk
    have hst1 : ¬ (fh Kd oo H k).2 = 1 := by omega
    have hnext : fh Kd oo H (k + 1) = ((fh Kd oo H k).1 - 50, if (fh Kd oo H k).1 - 50 = 0 then 3 else 2) := by rw [fh, if_neg hst1, if_pos hst]
    have hnxt : (k + 1 < d ∧ 50 < (fh Kd oo H k).1) ∨ (k + 1 = d ∧ (fh Kd oo H k).1 ≤ 50) := by
      by_cases hz : (fh Kd oo H k).1 - 50 = 0
      · right
        refine ⟨?_, by omega⟩
        rcases Nat.lt_or_ge (k + 1) d with h | h
        · have h9 := hW.2.2.2.2.1 (k + 1) (by omega) h
          rw [hnext, if_pos hz] at h9
          exact absurd h9 (fun z => by cases z)
        · omega
      · left
        refine ⟨?_, by omega⟩
        rcases Nat.lt_or_ge (k + 1) d with h | h
        · exact h
        · have h9 := hW.2.2.2.2.2 (k + 1) h
          rw [hnext, if_neg hz] at h9
          exact absurd (congrArg Prod.snd h9) (fun z => by cases z)
    have hX : fx Kd Di V oo H wx k + wx ((fh Kd oo H k).1 / 4000) = fx Kd Di V oo H wx (k + 1) := by rw [fx, if_neg hst1, if_pos hst]
    have hY : fy Kd Di oo H wy k + wy ((fh Kd oo H k).1 / 4000) = fy Kd Di oo H wy (k + 1) := by rw [fy, if_neg hst1, if_pos hst]
    have hlt : ¬ nI k < (if k < o then 1000 else nI o) := by
      rw [if_neg (by omega)]
      exact nI_nlt hko (by omega)
    rcases hnxt with ⟨hd, h50⟩ | ⟨hd, h50⟩
    · refine ⟨_, hI0.next (X := fx Kd Di V oo H wx k + wx ((fh Kd oo H k).1 / 4000)) (Y := fy Kd Di oo H wy k + wy ((fh Kd oo H k).1 / 4000)) (Hh := nI ((fh Kd oo H k).1 - 50)) (O := if k < o then 1000 else nI o) (D := if k < d then 1000 else nI d) hX hY (by rw [hnext]) (by rw [if_neg (by omega), if_neg (by omega)]) (by rw [if_pos hk, if_pos hd]), fun r => ?_⟩
      rw [run r, jn_eq, if_neg hlt, gdR_at f1 (by rw [hNC]; omega), dC_R, hR, q2, gdR_at f1 (by rw [hNC]; omega), dC_R, hR, q2, alI_n (by omega) f6 (by rw [hNC]; omega), dC_o (by omega), x3, mx50 (by omega), nI_1 k, asI_n (by omega) f6 (by rw [hNC]; omega), dC_uH]
      try dsimp only
      rw [gdR_at f1 (by rw [hNC]; omega), dC_R, hR, q2, alI_n (by omega) f6 (by rw [hNC]; omega), dC_H, if_pos (nI_ne0 (show 0 < (fh Kd oo H k).1 - 50 by omega) (by omega)), if_neg (show ¬ k + 1 = d by omega)]
    · refine ⟨_, hI0.next (X := fx Kd Di V oo H wx k + wx ((fh Kd oo H k).1 / 4000)) (Y := fy Kd Di oo H wy k + wy ((fh Kd oo H k).1 / 4000)) (Hh := nI ((fh Kd oo H k).1 - 50)) (O := if k < o then 1000 else nI o) (D := nI (k + 1)) hX hY (by rw [hnext]) (by rw [if_neg (by omega), if_neg (by omega)]) (by rw [if_neg (by omega), hd]), fun r => ?_⟩
      rw [run r, jn_eq, if_neg hlt, gdR_at f1 (by rw [hNC]; omega), dC_R, hR, q2, gdR_at f1 (by rw [hNC]; omega), dC_R, hR, q2, alI_n (by omega) f6 (by rw [hNC]; omega), dC_o (by omega), x3, mx50 (by omega), nI_1 k, asI_n (by omega) f6 (by rw [hNC]; omega), dC_uH]
      try dsimp only
      rw [gdR_at f1 (by rw [hNC]; omega), dC_R, hR, q2, alI_n (by omega) f6 (by rw [hNC]; omega), dC_H, if_neg (show ¬ ¬ nI ((fh Kd oo H k).1 - 50) = 0 by rw [show (fh Kd oo H k).1 - 50 = 0 by omega]; exact fun z => z rfl), ptI_at f1 (by rw [hNC]; omega), dC_uD, if_pos hd]
theorem follow_ok (hG : CG s0 b g P A ax ay Kd Di V oo H wx wy) (hW : Wd Kd oo H o d) : ∃ s', mX1_follow b (some (56 + 2 * g)) (some P) (some A) s0 = some ((), s') ∧ CWi s0 s' b (fx Kd Di V oo H wx) (fy Kd Di oo H wy) (fh Kd oo H) o d d := by
  have hG0 := hG
  obtain ⟨hN, hg, hF, q0, q1, q2, g1, g2, g3, p1, p2, p3, p4, a1, a2, a3, a4, b1, b2, b3, c1, c2, c3, hw, hK, hD, ho1, ho2, hH1, hH2⟩ := hG
  obtain ⟨f1, f2, f3, f4, f5, f6, f7, f8, f9⟩ := hF
  have hNC : ∀ {X Y H O D : Int32}, sN (dC s0 b 0 X Y H O D) = 249 := hN
  have hod := hW.2.1
  have ho0 := hW.1
  have hd9 := hW.2.2.1
  have e0 : mX1_follow b (some (56 + 2 * g)) (some P) (some A) s0 = lp (mX1_follow_b41 b (some A) (some P) (some (56 + 2 * g))) FU 0 (dC s0 b 0 0 0 (nI H) 1000 1000) := by
    unfold mX1_follow
    rw [gdR_at f1 (by omega), q0, asI_at (i := 0) (n := 0) rfl (by omega) f2 (by omega), dC_1, gdR_at f1 (by rw [hNC]; omega), dC_R, q1, asI_at (i := 0) (n := 0) rfl (by omega) f4 (by rw [hNC]; omega), dC_uY, gdR_at f1 (by rw [hNC]; omega), dC_R, q2, gdI_at p1 (by rw [hNC]; omega), dC_o (by omega), p4, asI_at (i := 0) (n := 0) rfl (by omega) f6 (by rw [hNC]; omega), dC_uH, ptI_at f1 (by rw [hNC]; omega), dC_uO, ptI_at f1 (by rw [hNC]; omega), dC_uD]
  have hI0 : CWi s0 (dC s0 b 0 0 0 (nI H) 1000 1000) b (fx Kd Di V oo H wx) (fy Kd Di oo H wy) (fh Kd oo H) o d 0 := by
    refine ⟨rfl, rfl, rfl, fun a q ha => dC_o (by omega), fun t ht => ?_, ?_, ?_⟩
    · have ht0 : t = 0 := by omega
      subst ht0
      rw [dC_X, dC_Y, dC_H]
      exact ⟨rfl, rfl, rfl⟩
    · rw [dC_O, if_pos ho0]
    · rw [dC_D, if_pos (by omega)]
  rw [e0]
  refine lp_inv (F := mX1_follow_b41 b (some A) (some P) (some (56 + 2 * g))) (n := d) (I := fun i q s => i < d ∧ q = nI i ∧ CWi s0 s b (fx Kd Di V oo H wx) (fy Kd Di oo H wy) (fh Kd oo H) o d i) (Q := fun x => ∃ s', x = some ((), s') ∧ CWi s0 s' b (fx Kd Di V oo H wx) (fy Kd Di oo H wy) (fh Kd oo H) o d d) (fun q s r h => ?_) (fun i q s r hi h hr => ?_) FU 0 (Nat.zero_le _) (show d - 0 < 4000 by omega) 0 _ ⟨by omega, rfl, hI0⟩
  · exact absurd h.1 (Nat.lt_irrefl _)
  · obtain ⟨hid, rfl, h⟩ := h
    obtain ⟨s', h1, h2⟩ := fol_step hG0 hW hid h
    rw [h2 r]
    by_cases hd : i + 1 = d
    · rw [if_pos hd]
      refine ⟨s', rfl, ?_⟩
      rw [hd] at h1
      exact h1
    · rw [if_neg hd]
      exact hr _ _ ⟨by omega, rfl, h1⟩
end CL
