def rI : Int32 → Option Value := fun v => some (.int v)
def rL : Int64 → Option Value := fun v => some (.long v)
def rF : UInt32 → Option Value := fun v => some (.float v)
def rU : Unit → Option Value := fun _ => none
def rR (B : Nat) : Option Nat → Option Value := fun v => some (va_rf (v.map (fun b => B + b)))
def gdI {β : Type} (σ : Sg) (c k : Nat) (x : Option Nat) (f : Int32 → Option β) : Option β := match x with
  | none => none
  | some a => if kd a = c ∧ a < sN σ then f (sI σ a k) else none
def gdR {β : Type} (σ : Sg) (c k : Nat) (x : Option Nat) (f : Option Nat → Option β) : Option β := match x with
  | none => none
  | some a => if kd a = c ∧ a < sN σ then f (sR σ a k) else none
def gdL {β : Type} (σ : Sg) (c k : Nat) (x : Option Nat) (f : Int64 → Option β) : Option β := match x with
  | none => none
  | some a => if kd a = c ∧ a < sN σ then f (sL σ a k) else none
def ptI {β : Type} (σ : Sg) (c k : Nat) (x : Option Nat) (v : Int32) (f : Sg → Option β) : Option β := match x with
  | none => none
  | some a => if kd a = c ∧ a < sN σ then f (uI σ a k v) else none
def ptZ {β : Type} (σ : Sg) (c k : Nat) (x : Option Nat) (v : Int32) (f : Sg → Option β) : Option β := match x with
  | none => none
  | some a => if (v = 0 ∨ v = 1) ∧ kd a = c ∧ a < sN σ then f (uI σ a k v) else none
def ptR {β : Type} (σ : Sg) (c k : Nat) (x : Option Nat) (v : Option Nat) (f : Sg → Option β) : Option β := match x with
  | none => none
  | some a => if kd a = c ∧ a < sN σ then f (uR σ a k v) else none
def ptL {β : Type} (σ : Sg) (c k : Nat) (x : Option Nat) (v : Int64) (f : Sg → Option β) : Option β := match x with
  | none => none
  | some a => if kd a = c ∧ a < sN σ then f (uL σ a k v) else none
def alI {β : Type} (σ : Sg) (x : Option Nat) (i : Int32) (f : Int32 → Option β) : Option β := match x with
  | none => none
  | some a => if kd a = 21 ∧ a < sN σ ∧ ¬ (i < 0 ∨ ln a ≤ i.toNatClampNeg) then f (sI σ a i.toNatClampNeg) else none
def alZ {β : Type} (σ : Sg) (x : Option Nat) (i : Int32) (f : Int32 → Option β) : Option β := match x with
  | none => none
  | some a => if kd a = 22 ∧ a < sN σ ∧ ¬ (i < 0 ∨ ln a ≤ i.toNatClampNeg) then f (sI σ a i.toNatClampNeg) else none
def alF {β : Type} (σ : Sg) (x : Option Nat) (i : Int32) (f : UInt32 → Option β) : Option β := match x with
  | none => none
  | some a => if kd a = 20 ∧ a < sN σ ∧ ¬ (i < 0 ∨ ln a ≤ i.toNatClampNeg) then f (sF σ a i.toNatClampNeg) else none
def alR {β : Type} (σ : Sg) (c : Nat) (x : Option Nat) (i : Int32) (f : Option Nat → Option β) : Option β := match x with
  | none => none
  | some a => if kd a = 30 + c ∧ a < sN σ ∧ ¬ (i < 0 ∨ ln a ≤ i.toNatClampNeg) then f (sR σ a i.toNatClampNeg) else none
def asI {β : Type} (σ : Sg) (x : Option Nat) (i v : Int32) (f : Sg → Option β) : Option β := match x with
  | none => none
  | some a => if kd a = 21 ∧ a < sN σ ∧ ¬ (i < 0 ∨ ln a ≤ i.toNatClampNeg) then f (uI σ a i.toNatClampNeg v) else none
def asZ {β : Type} (σ : Sg) (x : Option Nat) (i v : Int32) (f : Sg → Option β) : Option β := match x with
  | none => none
  | some a => if (v = 0 ∨ v = 1) ∧ kd a = 22 ∧ a < sN σ ∧ ¬ (i < 0 ∨ ln a ≤ i.toNatClampNeg) then f (uI σ a i.toNatClampNeg v) else none
def asF {β : Type} (σ : Sg) (x : Option Nat) (i : Int32) (v : UInt32) (f : Sg → Option β) : Option β := match x with
  | none => none
  | some a => if kd a = 20 ∧ a < sN σ ∧ ¬ (i < 0 ∨ ln a ≤ i.toNatClampNeg) then f (uF σ a i.toNatClampNeg v) else none
/-- what is stored is null, or an object of that very class -/
def isAb (σ : Sg) (c : Nat) : Option Nat → Bool
  | none => true
  | some b => decide (kd b = c ∧ b < sN σ)
def asR {β : Type} (σ : Sg) (c : Nat) (x : Option Nat) (i : Int32) (v : Option Nat) (f : Sg → Option β) : Option β := match x with
  | none => none
  | some a => if isAb σ c v = true ∧ kd a = 30 + c ∧ a < sN σ ∧ ¬ (i < 0 ∨ ln a ≤ i.toNatClampNeg) then f (uR σ a i.toNatClampNeg v) else none
def aln {β : Type} (σ : Sg) (x : Option Nat) (f : Int32 → Option β) : Option β := match x with
  | none => none
  | some a => if (kd a = 20 ∨ kd a = 21 ∨ kd a = 22 ∨ (30 ≤ kd a ∧ aok (kd a - 27) = true)) ∧ a < sN σ then f (Int32.ofNat (ln a)) else none
def gS {β : Type} (k : Nat) (i : Int32) (f : Int32 → Option β) : Option β := if ¬ (i < 0 ∨ (stV k).length ≤ i.toNatClampNeg) then f (stv k i.toNatClampNeg) else none
def cv {β : Type} (σ : Sg) (c : Nat) (x : Option Nat) (f : Nat → Option β) : Option β := match x with
  | none => none
  | some a => if kd a = c ∧ a < sN σ then f a else none
def cl {α β : Type} (x : Option (α × Sg)) (f : α → Sg → Option β) : Option β := match x with
  | none => none
  | some q => f q.1 q.2
def ckB {β : Type} (v : Int32) (x : Option β) : Option β := if v = 0 ∨ v = 1 then x else none

theorem k_getI {α : Type} {E : EE} {cc : ByteArray} {own : String} {nL : Nat} {ret : Option FieldType} {rv : α → Option Value} {mc ms ce sl pc : Nat} {lv : List (Nat × Lv)} {st : List Lv} {σ : Sg} {x : Option Nat} {c0 k0 : Nat} {C n d : String} {fin : Bool} {ty : FieldType} {idx : Nat} {f : Int32 → Option (α × Sg)} (h : Ok E cc own nL ret) (hF : Fld c0 k0 0 C n d fin ty) (hlk' : LkF own idx C n d) (hd : decode cc pc = .ok (.getfield idx, 3)) (k : ∀ v, Wq E rv nL mc ms ce sl (pc + 3) lv (LI v :: st) σ (f v)) : Wq E rv nL mc ms ce sl pc lv (LR x :: st) σ (gdI σ c0 k0 x f) := by
  obtain ⟨p, l, e, R, s, m, args, below, meth, c, B, D, cA, sa⟩ := E
  obtain ⟨hx, hb, hml, hr, ho, ht, hK, hA, hn, hst, hlk⟩ := h
  intro r σ' hxx H locs ls hm hS hl
  cases x with
  | none => simp [gdI] at hxx
  | some a =>
    simp only [gdI] at hxx
    by_cases hz : kd a = c0 ∧ a < sN σ
    · rw [if_pos hz] at hxx
      exact getW hx hb ho ht hn hK hm hF hlk' hz.2 hz.1 hd (k _ r σ' hxx H locs ls hm hS hl)
    · rw [if_neg hz] at hxx; cases hxx

theorem k_getR {α : Type} {E : EE} {cc : ByteArray} {own : String} {nL : Nat} {ret : Option FieldType} {rv : α → Option Value} {mc ms ce sl pc : Nat} {lv : List (Nat × Lv)} {st : List Lv} {σ : Sg} {x : Option Nat} {c0 k0 : Nat} {C n d : String} {fin : Bool} {ty : FieldType} {idx : Nat} {f : Option Nat → Option (α × Sg)} (h : Ok E cc own nL ret) (hF : Fld c0 k0 1 C n d fin ty) (hlk' : LkF own idx C n d) (hd : decode cc pc = .ok (.getfield idx, 3)) (k : ∀ v, Wq E rv nL mc ms ce sl (pc + 3) lv (LR v :: st) σ (f v)) : Wq E rv nL mc ms ce sl pc lv (LR x :: st) σ (gdR σ c0 k0 x f) := by
  obtain ⟨p, l, e, R, s, m, args, below, meth, c, B, D, cA, sa⟩ := E
  obtain ⟨hx, hb, hml, hr, ho, ht, hK, hA, hn, hst, hlk⟩ := h
  intro r σ' hxx H locs ls hm hS hl
  cases x with
  | none => simp [gdR] at hxx
  | some a =>
    simp only [gdR] at hxx
    by_cases hz : kd a = c0 ∧ a < sN σ
    · rw [if_pos hz] at hxx
      exact getW hx hb ho ht hn hK hm hF hlk' hz.2 hz.1 hd (k _ r σ' hxx H locs ls hm hS hl)
    · rw [if_neg hz] at hxx; cases hxx

theorem k_getL {α : Type} {E : EE} {cc : ByteArray} {own : String} {nL : Nat} {ret : Option FieldType} {rv : α → Option Value} {mc ms ce sl pc : Nat} {lv : List (Nat × Lv)} {st : List Lv} {σ : Sg} {x : Option Nat} {c0 k0 : Nat} {C n d : String} {fin : Bool} {ty : FieldType} {idx : Nat} {f : Int64 → Option (α × Sg)} (h : Ok E cc own nL ret) (hF : Fld c0 k0 2 C n d fin ty) (hlk' : LkF own idx C n d) (hd : decode cc pc = .ok (.getfield idx, 3)) (k : ∀ v, Wq E rv nL mc ms ce sl (pc + 3) lv (LL v :: st) σ (f v)) : Wq E rv nL mc ms ce sl pc lv (LR x :: st) σ (gdL σ c0 k0 x f) := by
  obtain ⟨p, l, e, R, s, m, args, below, meth, c, B, D, cA, sa⟩ := E
  obtain ⟨hx, hb, hml, hr, ho, ht, hK, hA, hn, hst, hlk⟩ := h
  intro r σ' hxx H locs ls hm hS hl
  cases x with
  | none => simp [gdL] at hxx
  | some a =>
    simp only [gdL] at hxx
    by_cases hz : kd a = c0 ∧ a < sN σ
    · rw [if_pos hz] at hxx
      exact getW hx hb ho ht hn hK hm hF hlk' hz.2 hz.1 hd (k _ r σ' hxx H locs ls hm hS hl)
    · rw [if_neg hz] at hxx; cases hxx

theorem k_putI {α : Type} {E : EE} {cc : ByteArray} {own : String} {nL : Nat} {ret : Option FieldType} {rv : α → Option Value} {mc ms ce sl pc : Nat} {lv : List (Nat × Lv)} {st : List Lv} {σ : Sg} {x : Option Nat} {c0 k0 : Nat} {C n d : String} {fin : Bool} {idx : Nat} {v : Int32} {f : Sg → Option (α × Sg)} (h : Ok E cc own nL ret) (hF : Fld c0 k0 0 C n d fin .int) (hlk' : LkF own idx C n d) (hfin : fin = false) (hd : decode cc pc = .ok (.putfield idx, 3)) (k : ∀ σ1, Wq E rv nL mc ms ce sl (pc + 3) lv st σ1 (f σ1)) : Wq E rv nL mc ms ce sl pc lv (LI v :: LR x :: st) σ (ptI σ c0 k0 x v f) := by
  obtain ⟨p, l, e, R, s, m, args, below, meth, c, B, D, cA, sa⟩ := E
  obtain ⟨hx, hb, hml, hr, ho, ht, hK, hA, hn, hst, hlk⟩ := h
  intro r σ' hxx H locs ls hm hS hl
  cases x with
  | none => simp [ptI] at hxx
  | some a =>
    simp only [ptI] at hxx
    by_cases hz : kd a = c0 ∧ a < sN σ
    · rw [if_pos hz] at hxx
      exact putW (σ' := uI σ a k0 v) hx hb ho ht hn hK hm hS hF hlk' hz.2 hz.1 (Or.inl hfin) rfl rfl rfl tv_uI (fun b hb => cel_uI hb) hd (fun H1 locs1 hm1 hS1 => k _ r σ' hxx H1 locs1 ls hm1 hS1 hl)
    · rw [if_neg hz] at hxx; cases hxx

theorem k_putZ {α : Type} {E : EE} {cc : ByteArray} {own : String} {nL : Nat} {ret : Option FieldType} {rv : α → Option Value} {mc ms ce sl pc : Nat} {lv : List (Nat × Lv)} {st : List Lv} {σ : Sg} {x : Option Nat} {c0 k0 : Nat} {C n d : String} {fin : Bool} {idx : Nat} {v : Int32} {f : Sg → Option (α × Sg)} (h : Ok E cc own nL ret) (hF : Fld c0 k0 0 C n d fin .boolean) (hlk' : LkF own idx C n d) (hfin : fin = false) (hd : decode cc pc = .ok (.putfield idx, 3)) (k : ∀ σ1, Wq E rv nL mc ms ce sl (pc + 3) lv st σ1 (f σ1)) : Wq E rv nL mc ms ce sl pc lv (LI v :: LR x :: st) σ (ptZ σ c0 k0 x v f) := by
  obtain ⟨p, l, e, R, s, m, args, below, meth, c, B, D, cA, sa⟩ := E
  obtain ⟨hx, hb, hml, hr, ho, ht, hK, hA, hn, hst, hlk⟩ := h
  intro r σ' hxx H locs ls hm hS hl
  cases x with
  | none => simp [ptZ] at hxx
  | some a =>
    simp only [ptZ] at hxx
    by_cases hz : (v = 0 ∨ v = 1) ∧ kd a = c0 ∧ a < sN σ
    · rw [if_pos hz] at hxx
      exact putW (σ' := uI σ a k0 v) hx hb ho ht hn hK hm hS hF hlk' hz.2.2 hz.2.1 (Or.inl hfin) (by rcases hz.1 with q | q <;> subst q <;> rfl) (by rcases hz.1 with q | q <;> subst q <;> rfl) rfl tv_uI (fun b hb => cel_uI hb) hd (fun H1 locs1 hm1 hS1 => k _ r σ' hxx H1 locs1 ls hm1 hS1 hl)
    · rw [if_neg hz] at hxx; cases hxx

theorem k_putR {α : Type} {E : EE} {cc : ByteArray} {own : String} {nL : Nat} {ret : Option FieldType} {rv : α → Option Value} {mc ms ce sl pc : Nat} {lv : List (Nat × Lv)} {st : List Lv} {σ : Sg} {x : Option Nat} {c0 k0 : Nat} {C n d : String} {fin : Bool} {ty : FieldType} {idx : Nat} {v : Option Nat} {f : Sg → Option (α × Sg)} (h : Ok E cc own nL ret) (hF : Fld c0 k0 1 C n d fin ty) (hty : (∃ o, ty = .object o) ∨ ∃ o, ty = .array o) (hlk' : LkF own idx C n d) (hfin : fin = false) (hd : decode cc pc = .ok (.putfield idx, 3)) (k : ∀ σ1, Wq E rv nL mc ms ce sl (pc + 3) lv st σ1 (f σ1)) : Wq E rv nL mc ms ce sl pc lv (LR v :: LR x :: st) σ (ptR σ c0 k0 x v f) := by
  obtain ⟨p, l, e, R, s, m, args, below, meth, c, B, D, cA, sa⟩ := E
  obtain ⟨hx, hb, hml, hr, ho, ht, hK, hA, hn, hst, hlk⟩ := h
  intro r σ' hxx H locs ls hm hS hl
  cases x with
  | none => simp [ptR] at hxx
  | some a =>
    simp only [ptR] at hxx
    by_cases hz : kd a = c0 ∧ a < sN σ
    · rw [if_pos hz] at hxx
      exact putW (σ' := uR σ a k0 v) hx hb ho ht hn hK hm hS hF hlk' hz.2 hz.1 (Or.inl hfin) (by rcases hty with ⟨o, rfl⟩ | ⟨o, rfl⟩ <;> cases v <;> rfl) (by rcases hty with ⟨o, rfl⟩ | ⟨o, rfl⟩ <;> cases v <;> rfl) rfl tv_uR (fun b hb => cel_uR hb) hd (fun H1 locs1 hm1 hS1 => k _ r σ' hxx H1 locs1 ls hm1 hS1 hl)
    · rw [if_neg hz] at hxx; cases hxx

theorem k_putL {α : Type} {E : EE} {cc : ByteArray} {own : String} {nL : Nat} {ret : Option FieldType} {rv : α → Option Value} {mc ms ce sl pc : Nat} {lv : List (Nat × Lv)} {st : List Lv} {σ : Sg} {x : Option Nat} {c0 k0 : Nat} {C n d : String} {fin : Bool} {idx : Nat} {v : Int64} {f : Sg → Option (α × Sg)} (h : Ok E cc own nL ret) (hF : Fld c0 k0 2 C n d fin .long) (hlk' : LkF own idx C n d) (hfin : fin = false) (hd : decode cc pc = .ok (.putfield idx, 3)) (k : ∀ σ1, Wq E rv nL mc ms ce sl (pc + 3) lv st σ1 (f σ1)) : Wq E rv nL mc ms ce sl pc lv (LL v :: LR x :: st) σ (ptL σ c0 k0 x v f) := by
  obtain ⟨p, l, e, R, s, m, args, below, meth, c, B, D, cA, sa⟩ := E
  obtain ⟨hx, hb, hml, hr, ho, ht, hK, hA, hn, hst, hlk⟩ := h
  intro r σ' hxx H locs ls hm hS hl
  cases x with
  | none => simp [ptL] at hxx
  | some a =>
    simp only [ptL] at hxx
    by_cases hz : kd a = c0 ∧ a < sN σ
    · rw [if_pos hz] at hxx
      exact putW (σ' := uL σ a k0 v) hx hb ho ht hn hK hm hS hF hlk' hz.2 hz.1 (Or.inl hfin) rfl rfl rfl tv_uL (fun b hb => cel_uL hb) hd (fun H1 locs1 hm1 hS1 => k _ r σ' hxx H1 locs1 ls hm1 hS1 hl)
    · rw [if_neg hz] at hxx; cases hxx

theorem k_alI {α : Type} {E : EE} {cc : ByteArray} {own : String} {nL : Nat} {ret : Option FieldType} {rv : α → Option Value} {mc ms ce sl pc : Nat} {lv : List (Nat × Lv)} {st : List Lv} {σ : Sg} {x : Option Nat} {i : Int32} {f : Int32 → Option (α × Sg)} (h : Ok E cc own nL ret) (hd : decode cc pc = .ok (.iaload, 1)) (k : ∀ v, Wq E rv nL mc ms ce sl (pc + 1) lv (LI v :: st) σ (f v)) : Wq E rv nL mc ms ce sl pc lv (LI i :: LR x :: st) σ (alI σ x i f) := by
  obtain ⟨p, l, e, R, s, m, args, below, meth, c, B, D, cA, sa⟩ := E
  obtain ⟨hx, hb, hml, hr, ho, ht, hK, hA, hn, hst, hlk⟩ := h
  intro r σ' hxx H locs ls hm hS hl
  cases x with
  | none => simp [alI] at hxx
  | some a =>
    simp only [alI] at hxx
    by_cases hz : kd a = 21 ∧ a < sN σ ∧ ¬ (i < 0 ∨ ln a ≤ i.toNatClampNeg)
    · rw [if_pos hz] at hxx
      have hat := hm.2 a hz.2.1
      rw [cel_i hz.1] at hat
      exact va_iald (tys := [(cA 1, aty 1)]) hx hb (hA.one hK 1 rfl) (va_P1 hat) 0 0 rfl rfl hz.2.2 hd (k _ r σ' hxx H locs ls hm hS hl)
    · rw [if_neg hz] at hxx; cases hxx

theorem k_alZ {α : Type} {E : EE} {cc : ByteArray} {own : String} {nL : Nat} {ret : Option FieldType} {rv : α → Option Value} {mc ms ce sl pc : Nat} {lv : List (Nat × Lv)} {st : List Lv} {σ : Sg} {x : Option Nat} {i : Int32} {f : Int32 → Option (α × Sg)} (h : Ok E cc own nL ret) (hd : decode cc pc = .ok (.baload, 1)) (k : ∀ v, Wq E rv nL mc ms ce sl (pc + 1) lv (LI v :: st) σ (f v)) : Wq E rv nL mc ms ce sl pc lv (LI i :: LR x :: st) σ (alZ σ x i f) := by
  obtain ⟨p, l, e, R, s, m, args, below, meth, c, B, D, cA, sa⟩ := E
  obtain ⟨hx, hb, hml, hr, ho, ht, hK, hA, hn, hst, hlk⟩ := h
  intro r σ' hxx H locs ls hm hS hl
  cases x with
  | none => simp [alZ] at hxx
  | some a =>
    simp only [alZ] at hxx
    by_cases hz : kd a = 22 ∧ a < sN σ ∧ ¬ (i < 0 ∨ ln a ≤ i.toNatClampNeg)
    · rw [if_pos hz] at hxx
      have hat := hm.2 a hz.2.1
      rw [cel_z hz.1] at hat
      exact va_zald (tys := [(cA 2, aty 2)]) hx hb (hA.one hK 2 rfl) (va_P1 hat) 0 0 rfl rfl hz.2.2 hd (k _ r σ' hxx H locs ls hm hS hl)
    · rw [if_neg hz] at hxx; cases hxx

theorem k_alF {α : Type} {E : EE} {cc : ByteArray} {own : String} {nL : Nat} {ret : Option FieldType} {rv : α → Option Value} {mc ms ce sl pc : Nat} {lv : List (Nat × Lv)} {st : List Lv} {σ : Sg} {x : Option Nat} {i : Int32} {f : UInt32 → Option (α × Sg)} (h : Ok E cc own nL ret) (hd : decode cc pc = .ok (.faload, 1)) (k : ∀ v, Wq E rv nL mc ms ce sl (pc + 1) lv (LF v :: st) σ (f v)) : Wq E rv nL mc ms ce sl pc lv (LI i :: LR x :: st) σ (alF σ x i f) := by
  obtain ⟨p, l, e, R, s, m, args, below, meth, c, B, D, cA, sa⟩ := E
  obtain ⟨hx, hb, hml, hr, ho, ht, hK, hA, hn, hst, hlk⟩ := h
  intro r σ' hxx H locs ls hm hS hl
  cases x with
  | none => simp [alF] at hxx
  | some a =>
    simp only [alF] at hxx
    by_cases hz : kd a = 20 ∧ a < sN σ ∧ ¬ (i < 0 ∨ ln a ≤ i.toNatClampNeg)
    · rw [if_pos hz] at hxx
      have hat := hm.2 a hz.2.1
      rw [cel_f hz.1] at hat
      exact va_fald (tys := [(cA 0, aty 0)]) hx hb (hA.one hK 0 rfl) (va_P1 hat) 0 0 rfl rfl hz.2.2 hd (k _ r σ' hxx H locs ls hm hS hl)
    · rw [if_neg hz] at hxx; cases hxx

theorem k_alR {α : Type} {E : EE} {cc : ByteArray} {own : String} {nL : Nat} {ret : Option FieldType} {rv : α → Option Value} {mc ms ce sl pc : Nat} {lv : List (Nat × Lv)} {st : List Lv} {σ : Sg} {x : Option Nat} {i : Int32} {c0 : Nat} {C0 : String} {f : Option Nat → Option (α × Sg)} (h : Ok E cc own nL ret) (hok : aok (3 + c0) = true) (hty : aty (3 + c0) = .object C0) (hd : decode cc pc = .ok (.aaload, 1)) (k : ∀ v, Wq E rv nL mc ms ce sl (pc + 1) lv (LR v :: st) σ (f v)) : Wq E rv nL mc ms ce sl pc lv (LI i :: LR x :: st) σ (alR σ c0 x i f) := by
  obtain ⟨p, l, e, R, s, m, args, below, meth, c, B, D, cA, sa⟩ := E
  obtain ⟨hx, hb, hml, hr, ho, ht, hK, hA, hn, hst, hlk⟩ := h
  intro r σ' hxx H locs ls hm hS hl
  cases x with
  | none => simp [alR] at hxx
  | some a =>
    simp only [alR] at hxx
    by_cases hz : kd a = 30 + c0 ∧ a < sN σ ∧ ¬ (i < 0 ∨ ln a ≤ i.toNatClampNeg)
    · rw [if_pos hz] at hxx
      have hat := hm.2 a hz.2.1
      rw [cel_r hz.1] at hat
      exact va_aldq (C := C0) (tys := [(cA (3 + c0), aty (3 + c0))]) hx hb (hA.one hK (3 + c0) hok) (va_P1 hat) 0 0 rfl (by rw [hty]; rfl) hz.2.2 hd (k _ r σ' hxx H locs ls hm hS hl)
    · rw [if_neg hz] at hxx; cases hxx

theorem k_asI {α : Type} {E : EE} {cc : ByteArray} {own : String} {nL : Nat} {ret : Option FieldType} {rv : α → Option Value} {mc ms ce sl pc : Nat} {lv : List (Nat × Lv)} {st : List Lv} {σ : Sg} {x : Option Nat} {i : Int32} {v : Int32} {f : Sg → Option (α × Sg)} (h : Ok E cc own nL ret) (hd : decode cc pc = .ok (.iastore, 1)) (k : ∀ σ1, Wq E rv nL mc ms ce sl (pc + 1) lv st σ1 (f σ1)) : Wq E rv nL mc ms ce sl pc lv (LI v :: LI i :: LR x :: st) σ (asI σ x i v f) := by
  obtain ⟨p, l, e, R, s, m, args, below, meth, c, B, D, cA, sa⟩ := E
  obtain ⟨hx, hb, hml, hr, ho, ht, hK, hA, hn, hst, hlk⟩ := h
  intro r σ' hxx H locs ls hm hS hl
  cases x with
  | none => simp [asI] at hxx
  | some a =>
    simp only [asI] at hxx
    by_cases hz : kd a = 21 ∧ a < sN σ ∧ ¬ (i < 0 ∨ ln a ≤ i.toNatClampNeg)
    · rw [if_pos hz] at hxx
      exact iastW hx hb hA hm hS hz.2.1 hz.1 hz.2.2 hd (fun H1 locs1 hm1 hS1 => k _ r σ' hxx H1 locs1 ls hm1 hS1 hl)
    · rw [if_neg hz] at hxx; cases hxx

theorem k_asZ {α : Type} {E : EE} {cc : ByteArray} {own : String} {nL : Nat} {ret : Option FieldType} {rv : α → Option Value} {mc ms ce sl pc : Nat} {lv : List (Nat × Lv)} {st : List Lv} {σ : Sg} {x : Option Nat} {i : Int32} {v : Int32} {f : Sg → Option (α × Sg)} (h : Ok E cc own nL ret) (hd : decode cc pc = .ok (.bastore, 1)) (k : ∀ σ1, Wq E rv nL mc ms ce sl (pc + 1) lv st σ1 (f σ1)) : Wq E rv nL mc ms ce sl pc lv (LI v :: LI i :: LR x :: st) σ (asZ σ x i v f) := by
  obtain ⟨p, l, e, R, s, m, args, below, meth, c, B, D, cA, sa⟩ := E
  obtain ⟨hx, hb, hml, hr, ho, ht, hK, hA, hn, hst, hlk⟩ := h
  intro r σ' hxx H locs ls hm hS hl
  cases x with
  | none => simp [asZ] at hxx
  | some a =>
    simp only [asZ] at hxx
    by_cases hz : (v = 0 ∨ v = 1) ∧ kd a = 22 ∧ a < sN σ ∧ ¬ (i < 0 ∨ ln a ≤ i.toNatClampNeg)
    · rw [if_pos hz] at hxx
      exact zastW hx hb hA hm hS hz.2.2.1 hz.2.1 hz.2.2.2 hz.1 hd (fun H1 locs1 hm1 hS1 => k _ r σ' hxx H1 locs1 ls hm1 hS1 hl)
    · rw [if_neg hz] at hxx; cases hxx

theorem k_asF {α : Type} {E : EE} {cc : ByteArray} {own : String} {nL : Nat} {ret : Option FieldType} {rv : α → Option Value} {mc ms ce sl pc : Nat} {lv : List (Nat × Lv)} {st : List Lv} {σ : Sg} {x : Option Nat} {i : Int32} {v : UInt32} {f : Sg → Option (α × Sg)} (h : Ok E cc own nL ret) (hd : decode cc pc = .ok (.fastore, 1)) (k : ∀ σ1, Wq E rv nL mc ms ce sl (pc + 1) lv st σ1 (f σ1)) : Wq E rv nL mc ms ce sl pc lv (LF v :: LI i :: LR x :: st) σ (asF σ x i v f) := by
  obtain ⟨p, l, e, R, s, m, args, below, meth, c, B, D, cA, sa⟩ := E
  obtain ⟨hx, hb, hml, hr, ho, ht, hK, hA, hn, hst, hlk⟩ := h
  intro r σ' hxx H locs ls hm hS hl
  cases x with
  | none => simp [asF] at hxx
  | some a =>
    simp only [asF] at hxx
    by_cases hz : kd a = 20 ∧ a < sN σ ∧ ¬ (i < 0 ∨ ln a ≤ i.toNatClampNeg)
    · rw [if_pos hz] at hxx
      exact fastW hx hb hA hm hS hz.2.1 hz.1 hz.2.2 hd (fun H1 locs1 hm1 hS1 => k _ r σ' hxx H1 locs1 ls hm1 hS1 hl)
    · rw [if_neg hz] at hxx; cases hxx

theorem k_asR {α : Type} {E : EE} {cc : ByteArray} {own : String} {nL : Nat} {ret : Option FieldType} {rv : α → Option Value} {mc ms ce sl pc : Nat} {lv : List (Nat × Lv)} {st : List Lv} {σ : Sg} {x : Option Nat} {i : Int32} {v : Option Nat} {c0 N : Nat} {C0 : String} {T : u_T} {f : Sg → Option (α × Sg)} (h : Ok E cc own nL ret) (hok : aok (3 + c0) = true) (hty : aty (3 + c0) = .object C0) (hcl : vwCl[c0]? = some (C0, T, N)) (hc20 : c0 < 20) (hd : decode cc pc = .ok (.aastore, 1)) (k : ∀ σ1, Wq E rv nL mc ms ce sl (pc + 1) lv st σ1 (f σ1)) : Wq E rv nL mc ms ce sl pc lv (LR v :: LI i :: LR x :: st) σ (asR σ c0 x i v f) := by
  obtain ⟨p, l, e, R, s, m, args, below, meth, c, B, D, cA, sa⟩ := E
  obtain ⟨hx, hb, hml, hr, ho, ht, hK, hA, hn, hst, hlk⟩ := h
  intro r σ' hxx H locs ls hm hS hl
  cases x with
  | none => simp [asR] at hxx
  | some a =>
    simp only [asR] at hxx
    by_cases hz : isAb σ c0 v = true ∧ kd a = 30 + c0 ∧ a < sN σ ∧ ¬ (i < 0 ∨ ln a ≤ i.toNatClampNeg)
    · rw [if_pos hz] at hxx
      exact aastW hx hb hA hK hm hS hz.2.2.1 hz.2.1 hok hcl hty hc20 hz.2.2.2 (fun b q => by subst q; simpa [isAb] using hz.1) hd (fun H1 locs1 hm1 hS1 => k _ r σ' hxx H1 locs1 ls hm1 hS1 hl)
    · rw [if_neg hz] at hxx; cases hxx

theorem k_aln {α : Type} {E : EE} {cc : ByteArray} {own : String} {nL : Nat} {ret : Option FieldType} {rv : α → Option Value} {mc ms ce sl pc : Nat} {lv : List (Nat × Lv)} {st : List Lv} {σ : Sg} {x : Option Nat} {f : Int32 → Option (α × Sg)} (h : Ok E cc own nL ret) (hd : decode cc pc = .ok (.arraylength, 1)) (k : ∀ v, Wq E rv nL mc ms ce sl (pc + 1) lv (LI v :: st) σ (f v)) : Wq E rv nL mc ms ce sl pc lv (LR x :: st) σ (aln σ x f) := by
  obtain ⟨p, l, e, R, s, m, args, below, meth, c, B, D, cA, sa⟩ := E
  obtain ⟨hx, hb, hml, hr, ho, ht, hK, hA, hn, hst, hlk⟩ := h
  intro r σ' hxx H locs ls hm hS hl
  cases x with
  | none => simp [aln] at hxx
  | some a =>
    simp only [aln] at hxx
    by_cases hz : (kd a = 20 ∨ kd a = 21 ∨ kd a = 22 ∨ (30 ≤ kd a ∧ aok (kd a - 27) = true)) ∧ a < sN σ
    · rw [if_pos hz] at hxx
      have hat := hm.2 a hz.2
      have k9 := k _ r σ' hxx H locs ls hm hS hl
      rcases hz.1 with q | q | q | ⟨q, q2⟩
      · rw [cel_f q] at hat
        exact va_alen (tys := [(cA 0, aty 0)]) hx hb (hA.one hK 0 rfl) (va_P1 hat) 0 0 rfl rfl rfl hd k9
      · rw [cel_i q] at hat
        exact va_alen (tys := [(cA 1, aty 1)]) hx hb (hA.one hK 1 rfl) (va_P1 hat) 0 0 rfl rfl rfl hd k9
      · rw [cel_z q] at hat
        exact va_alen (tys := [(cA 2, aty 2)]) hx hb (hA.one hK 2 rfl) (va_P1 hat) 0 0 rfl rfl rfl hd k9
      · have q3 : kd a - 27 = 3 + (kd a - 30) := by omega
        rw [q3] at q2
        rw [cel_r (c := kd a - 30) (by omega)] at hat
        exact va_alen (tys := [(cA (3 + (kd a - 30)), aty (3 + (kd a - 30)))]) hx hb (hA.one hK _ q2) (va_P1 hat) 0 0 rfl rfl rfl hd k9
    · rw [if_neg hz] at hxx; cases hxx

theorem k_gets {α : Type} {E : EE} {cc : ByteArray} {own : String} {nL : Nat} {ret : Option FieldType} {rv : α → Option Value} {mc ms ce sl pc : Nat} {lv : List (Nat × Lv)} {st : List Lv} {σ : Sg} {x : Option (α × Sg)} {k0 idx : Nat} (h : Ok E cc own nL ret) (hk : k0 < 3) (hlk' : LkF own idx RX8 (stN k0) "[I") (hd : decode cc pc = .ok (.getstatic idx, 3)) (k : Wq E rv nL mc ms ce sl (pc + 3) lv (LT k0 :: st) σ x) : Wq E rv nL mc ms ce sl pc lv st σ x := by
  obtain ⟨p, l, e, R, s, m, args, below, meth, c, B, D, cA, sa⟩ := E
  obtain ⟨hx, hb, hml, hr, ho, ht, hK, hA, hn, hst, hlk⟩ := h
  intro r σ' hxx H locs ls hm hS hl
  have hZ := (hst k0 hk).1
  have k9 := k r σ' hxx H locs ls hm hS hl
  rcases hlk' with hl' | ⟨host, hl'⟩
  · exact va_gets hx hb hZ hS ho (ht _ hl') (fun _ h => h) hd k9
  · exact va_getsN hx hb hZ hS ho (va_Nw.use rfl (hn _ hl')) (fun _ h => h) hd k9

theorem k_alS {α : Type} {E : EE} {cc : ByteArray} {own : String} {nL : Nat} {ret : Option FieldType} {rv : α → Option Value} {mc ms ce sl pc : Nat} {lv : List (Nat × Lv)} {st : List Lv} {σ : Sg} {i : Int32} {k0 : Nat} {f : Int32 → Option (α × Sg)} (h : Ok E cc own nL ret) (hk : k0 < 3) (hd : decode cc pc = .ok (.iaload, 1)) (k : ∀ v, Wq E rv nL mc ms ce sl (pc + 1) lv (LI v :: st) σ (f v)) : Wq E rv nL mc ms ce sl pc lv (LI i :: LT k0 :: st) σ (gS k0 i f) := by
  obtain ⟨p, l, e, R, s, m, args, below, meth, c, B, D, cA, sa⟩ := E
  obtain ⟨hx, hb, hml, hr, ho, ht, hK, hA, hn, hst, hlk⟩ := h
  intro r σ' hxx H locs ls hm hS hl
  unfold gS at hxx
  by_cases hz : ¬ (i < 0 ∨ (stV k0).length ≤ i.toNatClampNeg)
  · rw [if_pos hz] at hxx
    exact va_ti hx hb (hst k0 hk).2.1 hS hz rfl hd (k _ r σ' hxx H locs ls hm hS hl)
  · rw [if_neg hz] at hxx; cases hxx

theorem k_iret {E : EE} {cc : ByteArray} {own : String} {nL : Nat} {ret : Option FieldType} {mc ms ce sl pc : Nat} {lv : List (Nat × Lv)} {σ : Sg} {v : Int32} (h : Ok E cc own nL ret) (hr0 : ret = some .int) (hd : decode cc pc = .ok (.ireturn, 1)) (h1 : ce ≤ mc) (h2 : sl ≤ ms) : Wq (α := Int32) E rI nL mc ms ce sl pc lv [LI v] σ (some (v, σ)) := by
  obtain ⟨p, l, e, R, s, m, args, below, meth, c, B, D, cA, sa⟩ := E
  obtain ⟨hx, hb, hml, hr, ho, ht, hK, hA, hn, hst, hlk⟩ := h
  intro r σ' hxx H locs ls hm hS hl
  cases hxx
  have hq : ∀ t : State, t.heap = H → s.WarmedH t.vm → Qr B D cA rI v σ args s (.returned (rI v)) t := fun t h9 _ => ⟨rfl, by rw [h9]; exact hm, hS.F h9⟩
  refine W.widen h1 h2 ?_
  exact W.iret hx hb (by rw [hr, hr0]) hq hS.2.2 hd hlk

theorem k_zret {E : EE} {cc : ByteArray} {own : String} {nL : Nat} {ret : Option FieldType} {mc ms ce sl pc : Nat} {lv : List (Nat × Lv)} {σ : Sg} {v : Int32} (h : Ok E cc own nL ret) (hr0 : ret = some .boolean) (hd : decode cc pc = .ok (.ireturn, 1)) (h1 : ce ≤ mc) (h2 : sl ≤ ms) : Wq (α := Int32) E rI nL mc ms ce sl pc lv [LI v] σ (ckB v (some (v, σ))) := by
  obtain ⟨p, l, e, R, s, m, args, below, meth, c, B, D, cA, sa⟩ := E
  obtain ⟨hx, hb, hml, hr, ho, ht, hK, hA, hn, hst, hlk⟩ := h
  intro r σ' hxx H locs ls hm hS hl
  unfold ckB at hxx
  have hz : v = 0 ∨ v = 1 := by
    by_cases hz : v = 0 ∨ v = 1
    · exact hz
    · rw [if_neg hz] at hxx; cases hxx
  rw [if_pos hz] at hxx
  cases hxx
  have hq : ∀ t : State, t.heap = H → s.WarmedH t.vm → Qr B D cA rI v σ args s (.returned (rI v)) t := fun t h9 _ => ⟨rfl, by rw [h9]; exact hm, hS.F h9⟩
  refine W.widen h1 h2 ?_
  exact W.zret hx hb (by rw [hr, hr0]) (by rcases hz with q | q <;> subst q <;> rfl) hq hS.2.2 hd hlk

theorem k_lret {E : EE} {cc : ByteArray} {own : String} {nL : Nat} {ret : Option FieldType} {mc ms ce sl pc : Nat} {lv : List (Nat × Lv)} {σ : Sg} {v : Int64} (h : Ok E cc own nL ret) (hr0 : ret = some .long) (hd : decode cc pc = .ok (.lreturn, 1)) (h1 : ce ≤ mc) (h2 : sl ≤ ms) : Wq (α := Int64) E rL nL mc ms ce sl pc lv [LL v] σ (some (v, σ)) := by
  obtain ⟨p, l, e, R, s, m, args, below, meth, c, B, D, cA, sa⟩ := E
  obtain ⟨hx, hb, hml, hr, ho, ht, hK, hA, hn, hst, hlk⟩ := h
  intro r σ' hxx H locs ls hm hS hl
  cases hxx
  have hq : ∀ t : State, t.heap = H → s.WarmedH t.vm → Qr B D cA rL v σ args s (.returned (rL v)) t := fun t h9 _ => ⟨rfl, by rw [h9]; exact hm, hS.F h9⟩
  refine W.widen h1 h2 ?_
  exact W.lret hx hb (by rw [hr, hr0]) hq hS.2.2 hd hlk

theorem k_fret {E : EE} {cc : ByteArray} {own : String} {nL : Nat} {ret : Option FieldType} {mc ms ce sl pc : Nat} {lv : List (Nat × Lv)} {σ : Sg} {v : UInt32} (h : Ok E cc own nL ret) (hr0 : ret = some .float) (hd : decode cc pc = .ok (.freturn, 1)) (h1 : ce ≤ mc) (h2 : sl ≤ ms) : Wq (α := UInt32) E rF nL mc ms ce sl pc lv [LF v] σ (some (v, σ)) := by
  obtain ⟨p, l, e, R, s, m, args, below, meth, c, B, D, cA, sa⟩ := E
  obtain ⟨hx, hb, hml, hr, ho, ht, hK, hA, hn, hst, hlk⟩ := h
  intro r σ' hxx H locs ls hm hS hl
  cases hxx
  have hq : ∀ t : State, t.heap = H → s.WarmedH t.vm → Qr B D cA rF v σ args s (.returned (rF v)) t := fun t h9 _ => ⟨rfl, by rw [h9]; exact hm, hS.F h9⟩
  refine W.widen h1 h2 ?_
  exact W.fret hx hb (by rw [hr, hr0]) hq hS.2.2 hd hlk

theorem k_vret {E : EE} {cc : ByteArray} {own : String} {nL : Nat} {ret : Option FieldType} {mc ms ce sl pc : Nat} {lv : List (Nat × Lv)} {σ : Sg}  (h : Ok E cc own nL ret) (hr0 : ret = none) (hd : decode cc pc = .ok (.return_, 1)) (h1 : ce ≤ mc) (h2 : sl ≤ ms) : Wq (α := Unit) E rU nL mc ms ce sl pc lv [] σ (some ((), σ)) := by
  obtain ⟨p, l, e, R, s, m, args, below, meth, c, B, D, cA, sa⟩ := E
  obtain ⟨hx, hb, hml, hr, ho, ht, hK, hA, hn, hst, hlk⟩ := h
  intro r σ' hxx H locs ls hm hS hl
  cases hxx
  have hq : ∀ t : State, t.heap = H → s.WarmedH t.vm → Qr B D cA rU () σ args s (.returned (rU ())) t := fun t h9 _ => ⟨rfl, by rw [h9]; exact hm, hS.F h9⟩
  refine W.widen h1 h2 ?_
  exact W.vret hx hb (by rw [hr, hr0]) hq hS.2.2 hd hlk

theorem k_aret {E : EE} {cc : ByteArray} {own : String} {nL : Nat} {ret : Option FieldType} {mc ms ce sl pc : Nat} {lv : List (Nat × Lv)} {σ : Sg} {v : Option Nat} {o : String} (h : Ok E cc own nL ret) (hr0 : ret = some (.object o)) (hd : decode cc pc = .ok (.areturn, 1)) (h1 : ce ≤ mc) (h2 : sl ≤ ms) : Wq (α := (Option Nat)) E (rR (eB E)) nL mc ms ce sl pc lv [LR v] σ (some (v, σ)) := by
  obtain ⟨p, l, e, R, s, m, args, below, meth, c, B, D, cA, sa⟩ := E
  obtain ⟨hx, hb, hml, hr, ho, ht, hK, hA, hn, hst, hlk⟩ := h
  intro r σ' hxx H locs ls hm hS hl
  cases hxx
  have hq : ∀ t : State, t.heap = H → s.WarmedH t.vm → Qr B D cA (rR B) v σ args s (.returned ((rR B) v)) t := fun t h9 _ => ⟨rfl, by rw [h9]; exact hm, hS.F h9⟩
  refine W.widen h1 h2 ?_
  exact W.aret hx hb (by rw [hr, hr0]) (Or.inl ⟨o, rfl⟩) (by cases v; exact Or.inl rfl; exact Or.inr ⟨_, rfl⟩) hq hS.2.2 hd hlk

