theorem le20 {k : Nat} (h : k ≤ 20) : nI k ≤ 20 := nI_le (b := 20) h (by decide)
theorem nle20 {k : Nat} (h : ¬ k ≤ 20) (hk : k < 2 ^ 31) : ¬ nI k ≤ 20 := nI_ge (a := 20) (by omega) hk
theorem lt5 {k : Nat} (h : ¬ 5 ≤ k) : nI k < 5 := nI_lt (b := 5) (by omega) (by decide)
theorem nlt5 {k : Nat} (h : 5 ≤ k) (hk : k < 2 ^ 31) : ¬ nI k < 5 := nI_nlt (a := k) (b := 5) h hk
theorem lt2 {k : Nat} (h : ¬ 2 ≤ k) : nI k < 2 := nI_lt (b := 2) (by omega) (by decide)
/-! THE REFERENCE'S WAY: one row's place n of way w, as it is being written -/
def cI (f : Nat → Nat → Int32) (w n : Nat) (X Y H T D O : Int32) : Nat → Nat → Int32 := fun a q => if a = 239 ∧ q = n then X else if a = 240 ∧ q = n then Y else if a = 241 ∧ q = n then H else if a = 242 ∧ q = n then T else if a = 243 ∧ q = w then D else if a = 244 ∧ q = w then O else f a q
def cC (s : Sg) (w n : Nat) (X Y H T D O : Int32) : Sg := (sN s, cI (sI s) w n X Y H T D O, sR s, sF s, sL s)
section CC
variable {s : Sg} {w n : Nat} {X Y H T D O v : Int32}
theorem cC_self : cC s w n (sI s 239 n) (sI s 240 n) (sI s 241 n) (sI s 242 n) (sI s 243 w) (sI s 244 w) = s := by
  have h : cI (sI s) w n (sI s 239 n) (sI s 240 n) (sI s 241 n) (sI s 242 n) (sI s 243 w) (sI s 244 w) = sI s := by
    funext a q
    unfold cI
    grind
  unfold cC
  rw [h]
  rfl
theorem cC_u239 : uI (cC s w n X Y H T D O) 239 n v = cC s w n v Y H T D O := by
  have h : u2 (cI (sI s) w n X Y H T D O) 239 n v = cI (sI s) w n v Y H T D O := by
    funext a q
    unfold u2 cI
    grind
  show (sN s, u2 (cI (sI s) w n X Y H T D O) 239 n v, sR s, sF s, sL s) = _
  rw [h]; rfl
theorem cC_u240 : uI (cC s w n X Y H T D O) 240 n v = cC s w n X v H T D O := by
  have h : u2 (cI (sI s) w n X Y H T D O) 240 n v = cI (sI s) w n X v H T D O := by
    funext a q
    unfold u2 cI
    grind
  show (sN s, u2 (cI (sI s) w n X Y H T D O) 240 n v, sR s, sF s, sL s) = _
  rw [h]; rfl
theorem cC_u241 : uI (cC s w n X Y H T D O) 241 n v = cC s w n X Y v T D O := by
  have h : u2 (cI (sI s) w n X Y H T D O) 241 n v = cI (sI s) w n X Y v T D O := by
    funext a q
    unfold u2 cI
    grind
  show (sN s, u2 (cI (sI s) w n X Y H T D O) 241 n v, sR s, sF s, sL s) = _
  rw [h]; rfl
theorem cC_u242 : uI (cC s w n X Y H T D O) 242 n v = cC s w n X Y H v D O := by
  have h : u2 (cI (sI s) w n X Y H T D O) 242 n v = cI (sI s) w n X Y H v D O := by
    funext a q
    unfold u2 cI
    grind
  show (sN s, u2 (cI (sI s) w n X Y H T D O) 242 n v, sR s, sF s, sL s) = _
  rw [h]; rfl
theorem cC_u243 : uI (cC s w n X Y H T D O) 243 w v = cC s w n X Y H T v O := by
  have h : u2 (cI (sI s) w n X Y H T D O) 243 w v = cI (sI s) w n X Y H T v O := by
    funext a q
    unfold u2 cI
    grind
  show (sN s, u2 (cI (sI s) w n X Y H T D O) 243 w v, sR s, sF s, sL s) = _
  rw [h]; rfl
theorem cC_u244 : uI (cC s w n X Y H T D O) 244 w v = cC s w n X Y H T D v := by
  have h : u2 (cI (sI s) w n X Y H T D O) 244 w v = cI (sI s) w n X Y H T D v := by
    funext a q
    unfold u2 cI
    grind
  show (sN s, u2 (cI (sI s) w n X Y H T D O) 244 w v, sR s, sF s, sL s) = _
  rw [h]; rfl
theorem cC_o {a q : Nat} (h : a < 239 ∨ 244 < a ∨ (a ≤ 242 ∧ q ≠ n) ∨ (243 ≤ a ∧ q ≠ w)) : sI (cC s w n X Y H T D O) a q = sI s a q := by
  show cI (sI s) w n X Y H T D O a q = _
  unfold cI
  rw [if_neg (by omega), if_neg (by omega), if_neg (by omega), if_neg (by omega), if_neg (by omega), if_neg (by omega)]
theorem cC_239 : sI (cC s w n X Y H T D O) 239 n = X := if_pos ⟨rfl, rfl⟩
theorem cC_240 : sI (cC s w n X Y H T D O) 240 n = Y := by
  show cI (sI s) w n X Y H T D O 240 n = _
  unfold cI
  rw [if_neg (by omega), if_pos ⟨rfl, rfl⟩]
theorem cC_241 : sI (cC s w n X Y H T D O) 241 n = H := by
  show cI (sI s) w n X Y H T D O 241 n = _
  unfold cI
  rw [if_neg (by omega), if_neg (by omega), if_pos ⟨rfl, rfl⟩]
theorem cC_242 : sI (cC s w n X Y H T D O) 242 n = T := by
  show cI (sI s) w n X Y H T D O 242 n = _
  unfold cI
  rw [if_neg (by omega), if_neg (by omega), if_neg (by omega), if_pos ⟨rfl, rfl⟩]
theorem cC_243 : sI (cC s w n X Y H T D O) 243 w = D := by
  show cI (sI s) w n X Y H T D O 243 w = _
  unfold cI
  rw [if_neg (by omega), if_neg (by omega), if_neg (by omega), if_neg (by omega), if_pos ⟨rfl, rfl⟩]
theorem cC_244 : sI (cC s w n X Y H T D O) 244 w = O := by
  show cI (sI s) w n X Y H T D O 244 w = _
  unfold cI
  rw [if_neg (by omega), if_neg (by omega), if_neg (by omega), if_neg (by omega), if_neg (by omega), if_pos ⟨rfl, rfl⟩]
theorem cC_M (h : M0 s) : M0 (cC s w n X Y H T D O) := h
/-! the joins of the reference's fall -/
theorem j_thr {α : Type} {F : Int32 → Sg → Option α} {V : Int32} {k : Nat} (hk : k < 2000) (hN : sN s = 249) (hV : sI s 207 34 = V) : jn F (fun j7 => if nI k ≤ 20 then (gdI s 9 34 (some 207) fun v43 => j7 (v43 >>> ((nI k + 1) &&& 31)) s) else j7 0 s) = F (thr V k) s := by
  rw [jn_eq]
  unfold thr
  by_cases h : k ≤ 20
  · rw [if_pos (le20 h), if_pos h, mI hN, hV, nI_1]
  · rw [if_neg (nle20 h (by omega)), if_neg h]
theorem j_most {α : Type} {F : Int32 → Sg → Option α} {K : Int32} : jn F (fun j14 => if ¬ K = 1 then (if ¬ K = 2 then j14 50 s else j14 45 s) else j14 60 s) = F (nI (mst K)) s := by
  rw [jn_eq]
  unfold mst
  by_cases h : K = 1
  · rw [if_neg (fun z => z h), if_pos h]; rfl
  · rw [if_pos h, if_neg h]
    by_cases h : K = 2
    · rw [if_neg (fun z => z h), if_pos h]; rfl
    · rw [if_pos h, if_neg h]; rfl
theorem j_tx {α : Type} {F : Int32 → Sg → Option α} {D : Int32} : jn F (fun j35 => if ¬ D = 0 then (if ¬ D = 2 then j35 0 s else j35 (-80) s) else j35 80 s) = F (if D = 0 then 80 else if D = 2 then -80 else 0) s := by
  rw [jn_eq]
  by_cases h : D = 0
  · rw [if_neg (fun z => z h), if_pos h]
  · rw [if_pos h, if_neg h]
    by_cases h : D = 2
    · rw [if_neg (fun z => z h), if_pos h]
    · rw [if_pos h, if_neg h]
theorem j_ty {α : Type} {F : Int32 → Sg → Option α} {D : Int32} : jn F (fun j41 => if ¬ D = 1 then (if ¬ D = 3 then j41 0 s else j41 (-80) s) else j41 80 s) = F (if D = 1 then 80 else if D = 3 then -80 else 0) s := by
  rw [jn_eq]
  by_cases h : D = 1
  · rw [if_neg (fun z => z h), if_pos h]
  · rw [if_pos h, if_neg h]
    by_cases h : D = 3
    · rw [if_neg (fun z => z h), if_pos h]
    · rw [if_pos h, if_neg h]
theorem least_ok {a b : Nat} (ha : a < 2 ^ 31) (hb : b < 2 ^ 31) : mX9_least (nI a) (nI b) s = some (nI (min a b), s) := by
  unfold mX9_least
  by_cases h : b ≤ a
  · rw [if_pos (nI_le h ha), Nat.min_eq_right h]
  · rw [if_neg (nI_ge (by omega) hb), Nat.min_eq_left (by omega)]
theorem i10k (k : Nat) : 10 * (nI k + 1) = nI (10 * (k + 1)) := by
  rw [nI_1, show (10 : Int32) = nI 10 from rfl, pk_mul]
theorem lt2k {k : Nat} (hk : 2 ≤ k) (h2 : k < 2 ^ 31) : ¬ nI k < 2 := nI_nlt (a := k) (b := 2) hk h2
theorem mfall_ok {Kd Di V : Int32} {oo g k h : Nat} (hM : M0 s) (hw : w < 2) (hn : n < 2002) (hg : g < 20) (h1 : sI s 216 g = Kd) (h2 : sI s 217 g = nI oo) (h3 : sI s 219 g = Di) (h4 : sI s 207 34 = V) (ho : oo < 2 ^ 30) (hk : k < 1000) (hh : drp Kd k ≤ h) (hh2 : h < 2 ^ 30) : mX9_fall 207 (nI g) (nI k) (nI n) (cC s w n X Y (nI h) T D O) = some ((), cC s w n ((X + thr V k) + trx Kd Di k) (Y + trw Kd Di k) (nI (h - drp Kd k)) (if h - drp Kd k ≤ oo ∨ (Kd = 3 ∧ 2 ≤ k) then 2 else T) D O) := by
  have hN := hM.1
  have hm := mst_b Kd
  have hNC : ∀ {X Y H T D O : Int32}, sN (cC s w n X Y H T D O) = 249 := hN
  have hMC : ∀ {X Y H T D O : Int32}, M0 (cC s w n X Y H T D O) := hM
  have hjt : ∀ (G : Unit → Sg → Option (Unit × Sg)) (X Y H T D O : Int32), jn G (fun j11 => if ¬ Kd = 2 then j11 () (cC s w n X Y H T D O) else if nI k < 5 then j11 () (cC s w n X Y H T D O) else gdR (cC s w n X Y H T D O) 9 12 (some 207) fun v29 => alI (cC s w n X Y H T D O) v29 (nI g) fun v30 => gdR (cC s w n X Y H T D O) 9 36 (some 207) fun v31 => alI (cC s w n X Y H T D O) v31 (nI n) fun v32 => jn (fun (q33 : Int32) (s34 : Sg) => asI s34 v31 (nI n) (v32 + q33) fun s36 => gdR s36 9 37 (some 207) fun v37 => alI s36 v37 (nI n) fun v38 => jn (fun (q39 : Int32) (s40 : Sg) => asI s40 v37 (nI n) (v38 + q39) fun s42 => j11 () s42) (fun j41 => if ¬ v30 = 1 then (if ¬ v30 = 3 then j41 0 s36 else j41 (-80) s36) else j41 80 s36)) (fun j35 => if ¬ v30 = 0 then (if ¬ v30 = 2 then j35 0 (cC s w n X Y H T D O) else j35 (-80) (cC s w n X Y H T D O)) else j35 80 (cC s w n X Y H T D O))) = G () (cC s w n (X + trx Kd Di k) (Y + trw Kd Di k) H T D O) := by
    intro G X Y H T D O
    rw [jn_eq]
    unfold trx trw
    by_cases hK : Kd = 2
    · rw [if_neg (fun z => z hK)]
      by_cases h5 : 5 ≤ k
      · rw [if_neg (nlt5 h5 (by omega)), if_pos (show Kd = 2 ∧ 5 ≤ k from ⟨hK, h5⟩), if_pos (show Kd = 2 ∧ 5 ≤ k from ⟨hK, h5⟩), mR hMC 12 219 rfl (by decide) (by decide), alI_n (show g < ln 219 from hg) (by decide) (by rw [hNC]; omega), cC_o (by omega), h3, mR hMC 36 239 rfl (by decide) (by decide), alI_n (show n < ln 239 from hn) (by decide) (by rw [hNC]; omega), cC_239, j_tx]
        try dsimp only
        rw [asI_n (show n < ln 239 from hn) (by decide) (by rw [hNC]; omega), cC_u239, mR hMC 37 240 rfl (by decide) (by decide), alI_n (show n < ln 240 from hn) (by decide) (by rw [hNC]; omega), cC_240, j_ty]
        try dsimp only
        rw [asI_n (show n < ln 240 from hn) (by decide) (by rw [hNC]; omega), cC_u240]
      · rw [if_pos (lt5 h5), if_neg (fun z => h5 z.2), if_neg (fun z => h5 z.2), Int32.add_zero, Int32.add_zero]
    · rw [if_pos hK, if_neg (fun z => hK z.1), if_neg (fun z => hK z.1), Int32.add_zero, Int32.add_zero]
  unfold mX9_fall
  rw [mR hMC 9 216 rfl (by decide) (by decide), alI_n (show g < ln 216 from hg) (by decide) (by rw [hNC]; omega), cC_o (by omega), h1, mR hMC 36 239 rfl (by decide) (by decide), alI_n (show n < ln 239 from hn) (by decide) (by rw [hNC]; omega), cC_239, j_thr (V := V) (by omega) hNC (by rw [cC_o (by omega)]; exact h4)]
  try dsimp only
  rw [asI_n (show n < ln 239 from hn) (by decide) (by rw [hNC]; omega), cC_u239, hjt]
  try dsimp only
  rw [j_most]
  try dsimp only
  have hdrp : 10 * min (10 * (k + 1)) (mst Kd) = drp Kd k := rfl
  rw [mR hMC 38 241 rfl (by decide) (by decide), alI_n (show n < ln 241 from hn) (by decide) (by rw [hNC]; omega), cC_241, i10k, least_ok (by omega) (by omega), cl_some, show (10 : Int32) * nI (min (10 * (k + 1)) (mst Kd)) = nI (drp Kd k) from pk_mul 10 _, pk_sub hh, asI_n (show n < ln 241 from hn) (by decide) (by rw [hNC]; omega), cC_u241, mR hMC 38 241 rfl (by decide) (by decide), alI_n (show n < ln 241 from hn) (by decide) (by rw [hNC]; omega), cC_241, mR hMC 10 217 rfl (by decide) (by decide), alI_n (show g < ln 217 from hg) (by decide) (by rw [hNC]; omega), cC_o (by omega), h2, jn_eq]
  have hset : (gdR (cC s w n (X + thr V k + trx Kd Di k) (Y + trw Kd Di k) (nI (h - drp Kd k)) T D O) 9 39 (some 207) fun v27 => asI (cC s w n (X + thr V k + trx Kd Di k) (Y + trw Kd Di k) (nI (h - drp Kd k)) T D O) v27 (nI n) 2 fun s28 => some ((), s28)) = some ((), cC s w n (X + thr V k + trx Kd Di k) (Y + trw Kd Di k) (nI (h - drp Kd k)) 2 D O) := by
    rw [mR hMC 39 242 rfl (by decide) (by decide), asI_n (show n < ln 242 from hn) (by decide) (by rw [hNC]; omega), cC_u242]
  by_cases hc : h - drp Kd k ≤ oo
  · rw [if_pos (nI_le hc (by omega)), if_pos (Or.inl hc)]
    exact hset
  rw [if_neg (nI_ge (by omega) (by omega))]
  by_cases hK : Kd = 3
  · rw [if_neg (fun z => z hK)]
    by_cases h2k : 2 ≤ k
    · rw [if_neg (lt2k h2k (by omega)), if_pos (Or.inr ⟨hK, h2k⟩)]
      exact hset
    · rw [if_pos (lt2 h2k), if_neg (fun z => by rcases z with z | z; exact hc z; exact h2k z.2)]
  · rw [if_pos hK, if_neg (fun z => by rcases z with z | z; exact hc z; exact hK z.1)]
end CC
