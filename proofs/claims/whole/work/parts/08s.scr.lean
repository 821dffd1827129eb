/-! SCRATCH: cells on which no later answer rests -/
def scr (a q : Nat) : Prop := (11 ≤ a ∧ a ≤ 14) ∨ (183 ≤ a ∧ a < 207) ∨ 237 ≤ a ∨ (a = 207 ∧ (q = 34 ∨ q = 35))
def Scr (s s' : Sg) : Prop := sN s' = sN s ∧ sR s' = sR s ∧ sF s' = sF s ∧ ∀ a q, ¬ scr a q → sI s' a q = sI s a q
theorem Scr.rf {s : Sg} : Scr s s := ⟨rfl, rfl, rfl, fun _ _ _ => rfl⟩
theorem Scr.tr {s s1 s2 : Sg} (h : Scr s s1) (h2 : Scr s1 s2) : Scr s s2 := ⟨h2.1.trans h.1, h2.2.1.trans h.2.1, h2.2.2.1.trans h.2.2.1, fun a q z => (h2.2.2.2 a q z).trans (h.2.2.2 a q z)⟩
theorem nscr {a q : Nat} (h : (a < 11 ∨ 14 < a) ∧ (a < 183 ∨ 208 ≤ a) ∧ a < 237) : ¬ scr a q := by
  unfold scr
  omega
theorem nscr7 {q : Nat} (h : q ≠ 34 ∧ q ≠ 35) : ¬ scr 207 q := by
  unfold scr
  omega
theorem Scr.eq {s s' : Sg} (h : Scr s s') {a : Nat} (ha : (a < 11 ∨ 14 < a) ∧ (a < 183 ∨ 208 ≤ a) ∧ a < 237) : sI s' a = sI s a := funext fun q => h.2.2.2 a q (nscr ha)
theorem Scr.e7 {s s' : Sg} (h : Scr s s') {q : Nat} (ha : q ≠ 34 ∧ q ≠ 35) : sI s' 207 q = sI s 207 q := h.2.2.2 207 q (nscr7 ha)
theorem Scr.ec {s s' : Sg} (h : Scr s s') {a : Nat} (ha : (a < 11 ∨ 14 < a) ∧ (a < 183 ∨ 208 ≤ a) ∧ a < 237) : Eqc s s' a := ⟨h.eq ha, by rw [h.2.1], by rw [h.2.2.1]⟩
theorem Scr.m {s s' : Sg} (h : Scr s s') (hM : M0 s) : M0 s' := ⟨h.1.trans hM.1, by rw [h.2.1]; exact hM.2⟩
/-- the reference's own cells are as in s; the class's may be any -/
def MEq (s s1 : Sg) : Prop := M0 s1 ∧ ∀ a q, 207 ≤ a → ¬ scr a q → sI s1 a q = sI s a q
theorem Scr.me {s s1 : Sg} (h : Scr s s1) (hM : M0 s) : MEq s s1 := ⟨h.m hM, fun a q _ z => h.2.2.2 a q z⟩
theorem MEq.eq {s s1 : Sg} (h : MEq s s1) {a : Nat} (ha : 208 ≤ a ∧ a < 237) : sI s1 a = sI s a := funext fun q => h.2 a q (by omega) (nscr (by omega))
theorem MEq.e7 {s s1 : Sg} (h : MEq s s1) {q : Nat} (ha : q ≠ 34 ∧ q ≠ 35) : sI s1 207 q = sI s 207 q := h.2 207 q (by omega) (nscr7 ha)
theorem MEq.tr {s s1 s2 : Sg} (h : MEq s s1) (h2 : Scr s1 s2) : MEq s s2 := ⟨h2.m h.1, fun a q z w => (h2.2.2.2 a q w).trans (h.2 a q z w)⟩
theorem psum_me {s s' : Sg} (hS : MEq s s') (l : Nat) : ∀ i, psum s' l i = psum s l i
  | 0 => rfl
  | i + 1 => by rw [psum, psum, psum_me hS l i, hS.eq (a := 230) (by omega)]
theorem Rel.scr {s s' : Sg} (hr : Rel s) (h : Scr s s') : Rel s' := by
  obtain ⟨r0, r1, r2, r3, r4, r5, r6, r7, r8⟩ := hr
  have h0 : sI s' 0 = sI s 0 := h.eq (by omega)
  refine ⟨r0.congr h.1 (fun a k _ _ _ => by rw [h.2.1]) (fun a h1 h2 => by rw [h.eq (by omega)]), r1.congr (fun a z => h.ec (by omega)), r2.congr (fun a z => h.ec (by omega)), r3.congr (fun a z => h.ec (by omega)), r4.congr (fun a z => h.ec (by omega)) (by rw [h0]) (h.e7 (by omega)), r5.congr (fun a z => h.ec (by omega)), r6.congr (fun a z => h.ec (by omega)), r7.congr (fun a z => h.ec (by omega)) (by rw [h0]) (h.e7 (by omega)) (h.e7 (by omega)), r8.congr (fun a z => h.ec (by omega)) (h.e7 (by omega))⟩
theorem LWi.toS {s0 s : Sg} {w o d k : Nat} {xf yf : Nat → Int32} {hf : Nat → Nat × Nat} (h : LWi s0 s w xf yf hf o d k) : Scr s0 s := ⟨h.1, h.2.1, h.2.2.1.1, fun a q z => h.2.2.2.1 a q (by unfold scr at z; omega)⟩
theorem CWi.toS {s0 s : Sg} {b o d k : Nat} {xf yf : Nat → Int32} {hf : Nat → Nat × Nat} (hF : FB b) (h : CWi s0 s b xf yf hf o d k) : Scr s0 s := ⟨h.1, h.2.1, h.2.2.1, fun a q z => h.2.2.2.1 a q (by
  obtain ⟨f1, f2, f3, f4, f5, f6, f7, f8, f9⟩ := hF
  unfold scr at z
  omega)⟩
theorem LV.scr {s s' : Sg} {l m : Nat} (h : LV s l m) (hS : Scr s s') : LV s' l m := by
  obtain ⟨h1, h2, h3, h4, h5, h6, h7, h8⟩ := h
  unfold LV
  rw [hS.eq (a := 228) (by omega), hS.eq (a := 229) (by omega), hS.eq (a := 230) (by omega), hS.eq (a := 99 + 7 * l) (by omega), hS.eq (a := 101 + 7 * l) (by omega), hS.2.1]
  exact ⟨h1, h2, h3, h4, h5, h6, hS.m h7, h8⟩
theorem GV.scr {s s' : Sg} {g m : Nat} (h : GV s g m) (hS : Scr s s') : GV s' g m := by
  obtain ⟨h1, h2, h3, h4, h5, h6, h7⟩ := h
  unfold GV
  rw [hS.eq (a := 220) (by omega), hS.eq (a := 221) (by omega), hS.eq (a := 56 + 2 * g) (by omega), hS.2.1]
  exact ⟨h1, h2, h3, h4, h5, hS.m h6, h7⟩
theorem psum_scr {s s' : Sg} (hS : Scr s s') (l : Nat) : ∀ i, psum s' l i = psum s l i
  | 0 => rfl
  | i + 1 => by rw [psum, psum, psum_scr hS l i, hS.eq (a := 230) (by omega)]
/-! seconds at which they leave -/
def pN (s : Sg) (l : Nat) : Nat → Nat
  | 0 => 0
  | i + 1 => pN s l i + (sI s 230 (6 * l + (i + 1))).toNatClampNeg
theorem pN_le (s : Sg) (l i : Nat) : ∀ d, pN s l i ≤ pN s l (i + d)
  | 0 => Nat.le_refl _
  | d + 1 => Nat.le_trans (pN_le s l i d) (Nat.le_add_right _ _)
theorem LV.pQ {s : Sg} {l m : Nat} (h : LV s l m) : ∀ i, i < m → psum s l i = nI (pN s l i) ∧ pN s l i ≤ 60 * i
  | 0, _ => ⟨rfl, Nat.le_refl _⟩
  | i + 1, hi => by
    obtain ⟨h1, h2⟩ := LV.pQ h i (by omega)
    obtain ⟨g, -, -, -, -, t5⟩ := h.2.2.2.2.2.2.2 (i + 1) hi
    obtain ⟨q, hq, hq2⟩ := btw_nI (B := 60) 61 (p := sI s 230 (6 * l + (i + 1))) ⟨by have := t5.1; omega, t5.2⟩ (by decide)
    have e : pN s l (i + 1) = pN s l i + q := by
      show pN s l i + (sI s 230 (6 * l + (i + 1))).toNatClampNeg = _
      rw [hq2, nI_clamp (by omega)]
    refine ⟨?_, by omega⟩
    rw [psum, h1, hq2, nI_add, e]
/-! what the reference takes: plane and winds -/
theorem wsh_M {s : Sg} {a b : Nat} {tx ty : Nat → Int32} (h : M0 s) : ∀ k, M0 (wsh s a b tx ty k)
  | 0 => h
  | k + 1 => ((wsh_M h k).uI).uI
theorem wsh_R {s : Sg} {a b : Nat} {tx ty : Nat → Int32} : ∀ k, sR (wsh s a b tx ty k) = sR s ∧ sF (wsh s a b tx ty k) = sF s ∧ sN (wsh s a b tx ty k) = sN s
  | 0 => ⟨rfl, rfl, rfl⟩
  | k + 1 => wsh_R (s := s) k
def TK (s s' : Sg) (V : Int32) (H : Nat) (wx wy : Nat → Int32) : Prop := sN s' = sN s ∧ sR s' = sR s ∧ sF s' = sF s ∧ (∀ a q, ¬ (a = 237 ∨ a = 238 ∨ (a = 207 ∧ (q = 34 ∨ q = 35))) → sI s' a q = sI s a q) ∧ sI s' 207 34 = V ∧ sI s' 207 35 = nI H ∧ ∀ j, j < 12 → sI s' 237 j = wx j ∧ sI s' 238 j = wy j
theorem TK.toS {s s' : Sg} {V : Int32} {H : Nat} {wx wy : Nat → Int32} (h : TK s s' V H wx wy) : Scr s s' := ⟨h.1, h.2.1, h.2.2.1, fun a q z => h.2.2.2.1 a q (by unfold scr at z; omega)⟩
theorem tk_wsh {s : Sg} {V : Int32} {H : Nat} {wx wy : Nat → Int32} : TK s (wsh (uI (uI s 207 34 V) 207 35 (nI H)) 237 238 wx wy 12) V H wx wy := by
  obtain ⟨w1, w2, w3⟩ := wsh_R (s := uI (uI s 207 34 V) 207 35 (nI H)) (a := 237) (b := 238) (tx := wx) (ty := wy) 12
  refine ⟨w3, w1, w2, fun a q z => ?_, ?_, ?_, fun j hj => ⟨?_, ?_⟩⟩
  · rw [wsh_Ic (by omega) (by omega), sI_if, if_neg (by omega), sI_if, if_neg (by omega)]
  · rw [wsh_Ic (by omega) (by omega), sI_nk (by decide), sI_s]
  · rw [wsh_Ic (by omega) (by omega), sI_s]
  · rw [wsh_I (by omega), if_neg (by omega), if_pos (by omega)]
  · rw [wsh_I (by omega), if_pos (by omega)]
theorem tp_loop {s : Sg} (hM : M0 s) : lp (mX9_takePlane_b22 207) FU 0 s = some ((), wsh s 237 238 (sI s 211) (sI s 212) 12) := by
  refine lp_run (F := mX9_takePlane_b22 207) (n := 12) (q := nI) (S := wsh s 237 238 (sI s 211) (sI s 212)) (fun r => ?_) (fun k hk r => ?_) FU 0 (Nat.zero_le _) (by decide)
  · unfold mX9_takePlane_b22
    rw [if_pos (by decide)]
  · have mk : M0 (wsh s 237 238 (sI s 211) (sI s 212) k) := wsh_M hM k
    have mN := mk.1
    unfold mX9_takePlane_b22
    rw [if_neg (lt12n hk), mR mk 32 237 rfl (by decide) (by decide), mR mk 3 211 rfl (by decide) (by decide), alI_n (show k < ln 211 from hk) (by decide) (by omega), wsh_Ic (by decide) (by decide), asI_n (show k < ln 237 from hk) (by decide) (by omega), mR mk.uI 33 238 rfl (by decide) (by decide), mR mk.uI 4 212 rfl (by decide) (by decide), alI_n (show k < ln 212 from hk) (by decide) (by rw [sN_uI]; omega), sI_ne (by decide), wsh_Ic (by decide) (by decide), asI_n (show k < ln 238 from hk) (by decide) (by rw [sN_uI]; omega), nI_1]
    rfl
theorem i12 (l k : Nat) : 12 * nI l + nI k = nI (12 * l + k) := by
  rw [show (12 : Int32) = nI 12 from rfl, pk_mul, nI_add]
theorem tl_loop {s : Sg} {l : Nat} (hM : M0 s) (hl : l < 12) : lp (mX9_takeLoad_b41 207 (nI l)) FU 0 s = some ((), wsh s 237 238 (fun k => sI s 233 (12 * l + k)) (fun k => sI s 234 (12 * l + k)) 12) := by
  refine lp_run (F := mX9_takeLoad_b41 207 (nI l)) (n := 12) (q := nI) (S := wsh s 237 238 (fun k => sI s 233 (12 * l + k)) (fun k => sI s 234 (12 * l + k))) (fun r => ?_) (fun k hk r => ?_) FU 0 (Nat.zero_le _) (by decide)
  · unfold mX9_takeLoad_b41
    rw [if_pos (by decide)]
  · have mk : M0 (wsh s 237 238 (fun k => sI s 233 (12 * l + k)) (fun k => sI s 234 (12 * l + k)) k) := wsh_M hM k
    have mN := mk.1
    have hlk : 12 * l + k < 144 := by omega
    unfold mX9_takeLoad_b41
    rw [if_neg (lt12n hk), mR mk 32 237 rfl (by decide) (by decide), mR mk 27 233 rfl (by decide) (by decide), i12, alI_n (show _ < ln 233 from hlk) (by decide) (by omega), wsh_Ic (by decide) (by decide), asI_n (show k < ln 237 from hk) (by decide) (by omega), mR mk.uI 33 238 rfl (by decide) (by decide), mR mk.uI 28 234 rfl (by decide) (by decide), alI_n (show _ < ln 234 from hlk) (by decide) (by rw [sN_uI]; omega), sI_ne (by decide), wsh_Ic (by decide) (by decide), asI_n (show k < ln 238 from hk) (by decide) (by rw [sN_uI]; omega), nI_1]
    rfl
theorem takePlane_ok {s : Sg} {p H : Nat} {V : Int32} (hM : M0 s) (hp : p < 3) (hV : sI s 224 p = V) (hH : sI s 225 p = nI H) : ∃ s', mX9_takePlane 207 (nI p) s = some ((), s') ∧ TK s s' V H (sI s 211) (sI s 212) := by
  have hN := hM.1
  refine ⟨_, ?_, tk_wsh⟩
  unfold mX9_takePlane
  rw [mR hM 17 224 rfl (by decide) (by decide), alI_n (show p < ln 224 from hp) (by decide) (by omega), hV, ptI_at (by decide) (by omega), mR hM.uI 18 225 rfl (by decide) (by decide), alI_n (show p < ln 225 from hp) (by decide) (by rw [sN_uI]; omega), sI_ne (by decide), hH, ptI_at (by decide) (by rw [sN_uI]; omega), tp_loop hM.uI.uI, sI_fa (by decide), sI_fa (by decide), sI_fa (by decide), sI_fa (by decide)]
theorem takeLoad_0 {s : Sg} {p H l : Nat} {V : Int32} (hM : M0 s) (hl : l < 12) (hp : p < 3) (hpl : sI s 227 l = nI p) (hV : sI s 224 p = V) (hH : sI s 225 p = nI H) (z : sI s 232 l = 0) : ∃ s', mX9_takeLoad 207 (nI l) s = some ((), s') ∧ TK s s' V H (sI s 211) (sI s 212) := by
  have hN := hM.1
  obtain ⟨s1, h1, h2⟩ := takePlane_ok hM hp hV hH
  have m1 : M0 s1 := h2.toS.m hM
  refine ⟨s1, ?_, h2⟩
  unfold mX9_takeLoad
  rw [mR hM 21 227 rfl (by decide) (by decide), alI_n (show l < ln 227 from hl) (by decide) (by omega), hpl, c9 hN, h1, cl_some, mR m1 26 232 rfl (by decide) (by decide), alZ_n (show l < ln 232 from hl) (by decide) (by rw [m1.1]; omega), h2.2.2.2.1 232 l (by omega), z, if_pos rfl]
theorem takeLoad_1 {s : Sg} {p H H2 l : Nat} {V V2 : Int32} (hM : M0 s) (hl : l < 12) (hp : p < 3) (hpl : sI s 227 l = nI p) (hV : sI s 224 p = V) (hH : sI s 225 p = nI H) (z : sI s 232 l = 1) (hV2 : sI s 235 l = V2) (hH2 : sI s 236 l = nI H2) : ∃ s', mX9_takeLoad 207 (nI l) s = some ((), s') ∧ TK s s' V2 H2 (fun k => sI s 233 (12 * l + k)) (fun k => sI s 234 (12 * l + k)) := by
  have hN := hM.1
  obtain ⟨s1, h1, h2⟩ := takePlane_ok hM hp hV hH
  have m1 : M0 s1 := h2.toS.m hM
  have m1N := m1.1
  have e : ∀ a q, ¬ (a = 237 ∨ a = 238 ∨ (a = 207 ∧ (q = 34 ∨ q = 35))) → sI s1 a q = sI s a q := h2.2.2.2.1
  refine ⟨wsh (uI (uI s1 207 34 V2) 207 35 (nI H2)) 237 238 (fun k => sI s 233 (12 * l + k)) (fun k => sI s 234 (12 * l + k)) 12, ?_, ?_⟩
  · have e3 : sI (uI (uI s1 207 34 V2) 207 35 (nI H2)) 233 = sI s 233 := funext fun q => by rw [sI_ne (by decide), sI_ne (by decide), e _ _ (by omega)]
    have e4 : sI (uI (uI s1 207 34 V2) 207 35 (nI H2)) 234 = sI s 234 := funext fun q => by rw [sI_ne (by decide), sI_ne (by decide), e _ _ (by omega)]
    unfold mX9_takeLoad
    rw [mR hM 21 227 rfl (by decide) (by decide), alI_n (show l < ln 227 from hl) (by decide) (by omega), hpl, c9 hN, h1, cl_some, mR m1 26 232 rfl (by decide) (by decide), alZ_n (show l < ln 232 from hl) (by decide) (by omega), e 232 l (by omega), z, if_neg (by decide), mR m1 29 235 rfl (by decide) (by decide), alI_n (show l < ln 235 from hl) (by decide) (by omega), e 235 l (by omega), hV2, ptI_at (by decide) (by omega), mR m1.uI 30 236 rfl (by decide) (by decide), alI_n (show l < ln 236 from hl) (by decide) (by rw [sN_uI]; omega), sI_ne (by decide), e 236 l (by omega), hH2, ptI_at (by decide) (by rw [sN_uI]; omega), tl_loop m1.uI.uI hl, e3, e4]
  · have t := tk_wsh (s := s1) (V := V2) (H := H2) (wx := fun k => sI s 233 (12 * l + k)) (wy := fun k => sI s 234 (12 * l + k))
    exact ⟨t.1.trans h2.1, t.2.1.trans h2.2.1, t.2.2.1.trans h2.2.2.1, fun a q h => (t.2.2.2.1 a q h).trans (e a q h), t.2.2.2.2⟩
/-! what both have -/
def PA (s : Sg) (P A ax ay : Nat) (V : Int32) (H : Nat) (wx wy : Nat → Int32) : Prop := (kd P = 6 ∧ P < 183 ∧ 14 < P) ∧ sI s P 3 = V ∧ sI s P 4 = nI H ∧ (kd A = 0 ∧ A < 183) ∧ sR s A 0 = some ax ∧ sR s A 1 = some ay ∧ (kd ax = 21 ∧ ax < 183 ∧ ln ax = 12 ∧ (ax < 11 ∨ 14 < ax)) ∧ (kd ay = 21 ∧ ay < 183 ∧ ln ay = 12 ∧ (ay < 11 ∨ 14 < ay)) ∧ (∀ j, j < 12 → sI s ax j = wx j ∧ sI s ay j = wy j) ∧ btw V 200 600 ∧ (15000 ≤ H ∧ H ≤ 47000) ∧ ∀ j, j < 12 → okW (wx j) ∧ okW (wy j)
theorem PA.scr {s s' : Sg} {P A ax ay H : Nat} {V : Int32} {wx wy : Nat → Int32} (h : PA s P A ax ay V H wx wy) (hS : Scr s s') : PA s' P A ax ay V H wx wy := by
  obtain ⟨h1, h2, h3, h4, h5, h6, h7, h8, h9, h10⟩ := h
  unfold PA
  rw [hS.eq (a := P) (by omega), hS.eq (a := ax) (by omega), hS.eq (a := ay) (by omega), hS.2.1]
  exact ⟨h1, h2, h3, h4, h5, h6, h7, h8, h9, h10⟩
def GI (s : Sg) (g : Nat) (Kd Di : Int32) (oo : Nat) (fw : Int32) : Prop := g < 20 ∧ sI s (56 + 2 * g) 3 = Kd ∧ sI s (56 + 2 * g) 4 = nI oo ∧ sI s (56 + 2 * g) 6 = Di ∧ sI s (56 + 2 * g) 5 = fw ∧ sI s 216 g = Kd ∧ sI s 217 g = nI oo ∧ sI s 219 g = Di ∧ sI s 218 g = fw ∧ btw Kd 0 3 ∧ btw Di 0 3 ∧ btw fw 0 150 ∧ 6000 ≤ oo ∧ oo ≤ 15000
theorem GI.scr {s s' : Sg} {g oo : Nat} {Kd Di fw : Int32} (h : GI s g Kd Di oo fw) (hS : Scr s s') : GI s' g Kd Di oo fw := by
  have hg := h.1
  unfold GI at h ⊢
  rw [hS.eq (a := 56 + 2 * g) (by omega), hS.eq (a := 216) (by omega), hS.eq (a := 217) (by omega), hS.eq (a := 218) (by omega), hS.eq (a := 219) (by omega)]
  exact h
theorem R4.gi {s : Sg} (h : R4 s) {g : Nat} (hg : g < 20) (hlt : nI g < sI s 207 8) : ∃ Kd Di oo fw, GI s g Kd Di oo fw := by
  obtain ⟨-, n, hn, en, h⟩ := h
  rw [en] at hlt
  have hgn : g < n := (nI_ltI (by omega) (by omega)).mp hlt
  obtain ⟨c1, c2, c3, c4, c5, d1, d2, d3, d4, d5, -⟩ := h g hg
  obtain ⟨oo, ho, hoe⟩ := btw_nI (B := 15000) 15001 d2 (by decide)
  have h6 := d5 hgn
  rw [hoe, nI_toInt (by omega)] at h6
  exact ⟨_, _, oo, _, hg, c1, c2.trans hoe, c4, c3, rfl, hoe, rfl, rfl, d1, d4, d3, by omega, by omega⟩
theorem Rel.pl {s : Sg} (hr : Rel s) {p : Nat} (hp : p < 3) : ∃ H, PA s (96 + p) 2 3 4 (sI s 224 p) H (sI s 211) (sI s 212) ∧ sI s 225 p = nI H := by
  obtain ⟨r0, r1, r2, r3, r4, r5, r6, r7, r8⟩ := hr
  obtain ⟨h0, q0, q1, q2, q3, q4, q5, q6, q7, q8, q9, q10, q11, q12, q13, b1, b2, b3, b4, b5, b6, b7⟩ := r0
  obtain ⟨c1, c2, c3, c4, d1, d2, d3, d4⟩ := r5 p hp
  obtain ⟨H, hH, hHe⟩ := btw_nI (B := 47000) 47001 (p := sI s 225 p) ⟨by have := d4.1; omega, d4.2⟩ (by decide)
  have d4' := d4
  rw [hHe] at d4'
  unfold btw at d4'
  rw [nI_toInt (by omega)] at d4'
  exact ⟨H, ⟨⟨kdPl p hp, by omega, by omega⟩, c3, c4.trans hHe, ⟨by decide, by decide⟩, q9, q10, ⟨by decide, by decide, by decide, by omega⟩, ⟨by decide, by decide, by decide, by omega⟩, fun j hj => ⟨(r2 j hj).1, (r2 j hj).2.1⟩, d3, ⟨by omega, by omega⟩, fun j hj => (r2 j hj).2.2⟩, hHe⟩
theorem Rel.ld {s : Sg} (hr : Rel s) {n l : Nat} (hn : n < 13) (e : sI s 207 20 = nI n) (hl : l < n) : ∃ P A ax ay V H wx wy, sR s (99 + 7 * l) 4 = some P ∧ sR s (99 + 7 * l) 5 = some A ∧ PA s P A ax ay V H wx wy ∧ ∀ s1, MEq s s1 → ∃ s2, mX9_takeLoad 207 (nI l) s1 = some ((), s2) ∧ TK s1 s2 V H wx wy := by
  have hr0 := hr
  have hM := hr.1.m
  obtain ⟨r0, r1, r2, r3, r4, r5, r6, r7, r8⟩ := hr
  obtain ⟨en, n', hn', en2, hL⟩ := r7
  have hnn : n' = n := (nI_eq (by omega) (by omega)).mp (en2.symm.trans e)
  subst hnn
  have hl12 : l < 12 := by omega
  obtain ⟨-, -, -, -, ⟨p, hp, hpl, hc⟩, -⟩ := hL l hl12
  obtain ⟨H, hP, hH⟩ := hr0.pl hp
  obtain ⟨k1, k2, k3, k4, k5, k6, k7, k8, k9, k10, k11⟩ := kdLo l hl12
  rcases hc with ⟨z, hc⟩ | ⟨z, -, c1, c2, c3, c4, c5, c6, c7, c8⟩
  · rcases hc with hc | ⟨c1, c2⟩
    · omega
    · refine ⟨96 + p, 2, 3, 4, sI s 224 p, H, sI s 211, sI s 212, c1, c2, hP, fun s1 hS => ?_⟩
      have e211 := hS.eq (a := 211) (by omega)
      have e212 := hS.eq (a := 212) (by omega)
      rw [← e211, ← e212]
      refine takeLoad_0 hS.1 hl12 hp ?_ ?_ ?_ ?_
      · rw [hS.eq (a := 227) (by omega)]; exact hpl
      · rw [hS.eq (a := 224) (by omega)]
      · rw [hS.eq (a := 225) (by omega)]; exact hH
      · rw [hS.eq (a := 232) (by omega)]; exact z
  · obtain ⟨h0, q0, q1, q2, q3, q4, q5, q6, q7, q8, q9, q10, q11, q12, q13, b1, b2, b3, b4, b5, b6, b7⟩ := r0
    obtain ⟨-, -, -, -, -, b5y, b5z⟩ := b5 l hl12
    obtain ⟨H2, hH2, hHe⟩ := btw_nI (B := 47000) 47001 (p := sI s 236 l) ⟨by have := c7.1; omega, c7.2⟩ (by decide)
    have c7' := c7
    rw [hHe] at c7'
    unfold btw at c7'
    rw [nI_toInt (by omega)] at c7'
    refine ⟨102 + 7 * l, 103 + 7 * l, 104 + 7 * l, 105 + 7 * l, sI s 235 l, H2, fun k => sI s 233 (12 * l + k), fun k => sI s 234 (12 * l + k), c1, c2, ⟨⟨k6, by omega, by omega⟩, c4, c5.trans hHe, ⟨k7, by omega⟩, b5y, b5z, ⟨k8, by omega, k9, by omega⟩, ⟨k10, by omega, k11, by omega⟩, fun j hj => ⟨(c8 j hj).1, (c8 j hj).2.1⟩, c6, ⟨by omega, by omega⟩, fun j hj => (c8 j hj).2.2⟩, fun s1 hS => ?_⟩
    have e233 := hS.eq (a := 233) (by omega)
    have e234 := hS.eq (a := 234) (by omega)
    rw [← e233, ← e234]
    refine takeLoad_1 (V := sI s 224 p) (H := H) hS.1 hl12 hp ?_ ?_ ?_ ?_ ?_ ?_
    · rw [hS.eq (a := 227) (by omega)]; exact hpl
    · rw [hS.eq (a := 224) (by omega)]
    · rw [hS.eq (a := 225) (by omega)]; exact hH
    · rw [hS.eq (a := 232) (by omega)]; exact z
    · rw [hS.eq (a := 235) (by omega)]
    · rw [hS.eq (a := 236) (by omega)]; exact hHe
/-! both lay the same way -/
section BOTH
variable {s s1 : Sg} {P A ax ay H g oo i w : Nat} {V Kd Di fw : Int32} {wx wy : Nat → Int32}
theorem fall_ref (r0 : R0 s) (hi : i < 6) : FB (183 + 4 * i) ∧ sR s (183 + 4 * i) 0 = some (183 + 4 * i + 1) ∧ sR s (183 + 4 * i) 1 = some (183 + 4 * i + 2) ∧ sR s (183 + 4 * i) 2 = some (183 + 4 * i + 3) ∧ sR s 10 i = some (183 + 4 * i) ∧ sR s 0 7 = some 10 := by
  obtain ⟨h0, q0, q1, q2, q3, q4, q5, q6, q7, q8, q9, q10, q11, q12, q13, b1, b2, b3, b4, b5, b6, b7⟩ := r0
  obtain ⟨c1, c2, c3, c4⟩ := b6 i hi
  rw [show 184 + 4 * i = 183 + 4 * i + 1 by omega] at c2
  rw [show 185 + 4 * i = 183 + 4 * i + 2 by omega] at c3
  rw [show 186 + 4 * i = 183 + 4 * i + 3 by omega] at c4
  exact ⟨fb_i i hi, c2, c3, c4, c1, q7⟩
theorem GI.wd (hG : GI s g Kd Di oo fw) (hH : 15000 ≤ H ∧ H ≤ 47000) : ∃ o d, Wd Kd oo H o d := by
  obtain ⟨g1, g2, g3, g4, g5, g6, g7, g8, g9, g10, g11, g12, g13, g14⟩ := hG
  exact fh_wd (K := Kd) g13 g14 hH.1 hH.2
theorem cFol {o d : Nat} (r0 : R0 s) (hP : PA s P A ax ay V H wx wy) (hG : GI s g Kd Di oo fw) (hi : i < 6) (hW : Wd Kd oo H o d) : ∃ s', mX1_follow (183 + 4 * i) (some (56 + 2 * g)) (some P) (some A) s = some ((), s') ∧ CWi s s' (183 + 4 * i) (fx Kd Di V oo H wx) (fy Kd Di oo H wy) (fh Kd oo H) o d d := by
  have hN := r0.1
  obtain ⟨f1, f2, f3, f4, f5, f6⟩ := fall_ref r0 hi
  obtain ⟨⟨p1, p2, p3⟩, p4, p5, ⟨p6, p7⟩, p8, p9, ⟨p10, p11, p12, p13⟩, ⟨p14, p15, p16, p17⟩, p18, p19, ⟨p20, p21⟩, p22⟩ := hP
  obtain ⟨g1, g2, g3, g4, g5, g6, g7, g8, g9, g10, g11, g12, g13, g14⟩ := hG
  exact follow_ok (ax := ax) (ay := ay) ⟨hN, g1, f1, f2, f3, f4, g2, g3, g4, p1, p2, p4, p5, p6, p7, p8, p9, p10, p11, p12, p14, p15, p16, p18, g10, g11, g13, g14, p20, p21⟩ hW
theorem mLay {s2 : Sg} {o d : Nat} (hM : M0 s2) (hP : PA s P A ax ay V H wx wy) (hG : GI s2 g Kd Di oo fw) (hT : sI s2 207 34 = V ∧ sI s2 207 35 = nI H ∧ ∀ j, j < 12 → sI s2 237 j = wx j ∧ sI s2 238 j = wy j) (hW : Wd Kd oo H o d) (hw : w < 2) : ∃ s', mX9_layOut 207 (nI g) (nI w) s2 = some ((), s') ∧ LWi s2 s' w (fx Kd Di V oo H wx) (fy Kd Di oo H wy) (fh Kd oo H) o d 1000 := by
  obtain ⟨⟨p1, p2, p3⟩, p4, p5, ⟨p6, p7⟩, p8, p9, ⟨p10, p11, p12, p13⟩, ⟨p14, p15, p16, p17⟩, p18, p19, ⟨p20, p21⟩, p22⟩ := hP
  obtain ⟨g1, g2, g3, g4, g5, g6, g7, g8, g9, g10, g11, g12, g13, g14⟩ := hG
  exact layOut_ok ⟨hM, g1, g6, g7, g8, hT.1, hT.2.1, hT.2.2, g13, g14, p20, p21⟩ hW hw
end BOTH
