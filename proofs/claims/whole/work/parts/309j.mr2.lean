-- the reference: an instruction list as it is read first
/-- whatever the notes become behind p and where something is open: a walk from p is one from a0 -/
def wR_cl (cb ν : Nat → Int32) (a0 p : Nat) (st : List (Nat × Option Nat)) : Prop :=
  ∀ (E : Nat) (nu : Nat → Int32), (∀ j, j < p → (∀ x ∈ st, wk_key x ≠ j) → nu j = ν j) → (∃ m, wkR cb nu E m p) → ∃ m, wkR cb nu E m a0
theorem wkR.lt {cb ν : Nat → Int32} {E m p : Nat} (h : wkR cb ν E m p) : p < E := by
  cases m with
  | zero => exact h.elim
  | succ m => exact h.1
section MR2
variable {cb ν ν' : Nat → Int32} {a0 p q s o : Nat} {st t : List (Nat × Option Nat)} {w : Int32} {x : Nat × Option Nat}
theorem wR_cl.go {st' : List (Nat × Option Nat)} (h : wR_cl cb ν a0 p st) (hq : p < q) (hn : ∀ nu : Nat → Int32, (∀ j, j < q → (∀ x ∈ st', wk_key x ≠ j) → nu j = ν' j) → (∀ j, j < p → (∀ x ∈ st, wk_key x ≠ j) → nu j = ν j) ∧ nR cb nu p q) : wR_cl cb ν' a0 q st' := by
  intro E nu ha ⟨m, hk⟩
  obtain ⟨h1, h2⟩ := hn nu ha
  have := hk.lt
  exact h E nu h1 ⟨m + 1, by omega, q, h2, .inr ⟨this, hk⟩⟩
/-- an instruction whose notes say nothing -/
theorem nR_low (hs : wk_sh ((cb p).toInt % 256) < 4) (h : rW cb (wk_sh ((cb p).toInt % 256)) (p + 1) q) (nu : Nat → Int32) : nR cb nu p q := ⟨h, fun e => by omega, fun e => by omega⟩
theorem rW_0 (hs : s = 0 ∨ s = 2 ∨ s = 3) : rW cb s p p := ⟨fun _ => rfl, fun e => by omega, fun e => by omega, fun e => by omega, fun e => by omega, fun e => by omega, fun e => by omega, fun e => by omega, fun e => by omega, fun e => by omega, fun e => by omega, by omega⟩
theorem wR_cl.plain (h : wR_cl cb ν a0 p st) (hs : wk_sh ((cb p).toInt % 256) = 0) : wR_cl cb ν a0 (p + 1) st :=
  h.go (by omega) (fun nu hnu => ⟨fun j hj hx => hnu j (by omega) hx, nR_low (by omega) (rW_0 (.inl hs)) nu⟩)
theorem wR_cl.opens (h : wR_cl cb ν a0 p st) (hs : wk_sh ((cb p).toInt % 256) = 1) (hb : rW cb 1 (p + 1) (p + 2)) : wR_cl cb ν a0 (p + 2) ((p, none) :: st) := by
  refine h.go (by omega) (fun nu hnu => ⟨fun j hj hx => hnu j (by omega) (fun x hm => ?_), nR_low (by omega) (by rw [hs]; exact hb) nu⟩)
  rcases List.mem_cons.mp hm with e | e
  · rw [e]
    show p + 1 ≠ j
    omega
  · exact hx x e
theorem wR_cl.els (h : wR_cl cb ν a0 p ((o, none) :: t)) (hst : wk_st p ((o, none) :: t)) (hs : wk_sh ((cb p).toInt % 256) = 2) : wR_cl cb (va_up ν (o + 1) w) a0 (p + 1) ((o, some p) :: t) := by
  have h1 : o + 1 < p := hst.2.1
  refine h.go (by omega) (fun nu hnu => ⟨fun j hj hx => ?_, nR_low (by omega) (rW_0 (by omega)) nu⟩)
  have hj1 : j ≠ o + 1 := fun e => hx (o, none) (List.mem_cons_self) e.symm
  rw [hnu j (by omega) (fun x hm => ?_), xh_up, if_neg hj1]
  rcases List.mem_cons.mp hm with e | e
  · rw [e]
    show p ≠ j
    omega
  · exact hx x (List.mem_cons_of_mem _ e)
theorem wR_cl.ends (h : wR_cl cb ν a0 p (x :: t)) (hst : wk_st p (x :: t)) (hs : wk_sh ((cb p).toInt % 256) = 3) : wR_cl cb (va_up ν (wk_key x) w) a0 (p + 1) t := by
  refine h.go (by omega) (fun nu hnu => ⟨fun j hj hx => ?_, nR_low (by omega) (rW_0 (by omega)) nu⟩)
  have hj1 : j ≠ wk_key x := fun e => hx x (List.mem_cons_self) e.symm
  rw [hnu j (by omega) (fun y hy => hx y (List.mem_cons_of_mem _ hy)), xh_up, if_neg hj1]
theorem wR_cl.op (h : wR_cl cb ν a0 p st) (hst : wk_st p st) (ho : rd_op s p q ν ν') (hn : ∀ nu : Nat → Int32, (∀ j, p ≤ j → j < q → nu j = ν' j) → nR cb nu p q) : wR_cl cb ν' a0 q st := by
  have hpq := ho.2.2.2.1
  refine h.go (by omega) (fun nu hnu => ⟨fun j hj hx => ?_, hn nu (fun j h1 h2 => hnu j h2 (fun x hx => ?_))⟩)
  · rw [hnu j (by omega) hx]
    exact ho.1 j hj
  · have := wk_st.key hst hx
    omega
theorem wR_cl.fin (h : wR_cl cb ν a0 p []) (hs : wk_sh ((cb p).toInt % 256) = 3) : ∃ m, wkR cb (va_up ν p w) (p + 1) m a0 :=
  h (p + 1) (va_up ν p w) (fun j hj _ => by rw [xh_up, if_neg (by omega)]) ⟨1, by omega, p + 1, nR_low (by omega) (rW_0 (by omega)) _, .inl rfl⟩
/-- a list of instructions from a to E -/
def exR (cb : Nat → Int32) (a E : Nat) : Prop := a < E ∧ ∃ ν : Nat → Int32, (∃ m, wk cb ν E m a []) ∧ ∃ m, wkR cb ν E m a
/-- kinds of what is open -/
def exo (cb f : Nat → Int32) : List (Nat × Option Nat) → Prop
  | [] => True
  | x :: t => (x.2 = none → f t.length = cb x.1) ∧ (∀ e, x.2 = some e → f t.length = 5) ∧ exo cb f t
theorem exo.up {f : Nat → Int32} {k : Nat} {w : Int32} : ∀ {t : List (Nat × Option Nat)}, t.length ≤ k → exo cb f t → exo cb (va_up f k w) t
  | [], _, _ => trivial
  | x :: t, hk, h => by
    simp only [List.length_cons] at hk
    refine ⟨fun e => ?_, fun e he => ?_, h.2.2.up (by omega)⟩
    · rw [xh_up, if_neg (by omega)]
      exact h.1 e
    · rw [xh_up, if_neg (by omega)]
      exact h.2.1 e he
/-- within a list: what is open, the notes so far -/
def exI (cb : Nat → Int32) (a0 p : Nat) (f : Nat → Int32) (st : List (Nat × Option Nat)) : Prop :=
  st.length ≤ 200 ∧ wk_st p st ∧ exo cb f st ∧ wk_c cb a0 st ∧ ∃ ν : Nat → Int32, wk_cl cb ν a0 p st ∧ wR_cl cb ν a0 p st ∧ ∀ j, p ≤ j → ν j = 0
theorem exI.beg {f : Nat → Int32} : exI cb p p f [] := ⟨by simp, trivial, trivial, trivial, fun _ => 0, fun E nu _ h => h, fun E nu _ h => h, fun _ _ => rfl⟩
theorem exI.plain {f : Nat → Int32} (h : exI cb a0 p f st) (hs : wk_sh ((cb p).toInt % 256) = 0) : exI cb a0 (p + 1) f st := by
  obtain ⟨h1, h2, h3, h4, ν, h5, h6, h7⟩ := h
  exact ⟨h1, h2.mono (by omega), h3, h4, ν, h5.plain hs, h6.plain hs, fun j hj => h7 j (by omega)⟩
theorem exI.opens {f : Nat → Int32} (h : exI cb a0 p f st) (ha : a0 ≤ p) (hs : wk_sh ((cb p).toInt % 256) = 1) (hp : (cb p).toInt = 2 ∨ (cb p).toInt = 3 ∨ (cb p).toInt = 4) (hb : rW cb 1 (p + 1) (p + 2)) (hby : -128 ≤ (cb (p + 1)).toInt ∧ (cb (p + 1)).toInt ≤ 127) (hl : st.length < 200) : exI cb a0 (p + 2) (va_up f st.length (cb p)) ((p, none) :: st) := by
  obtain ⟨h1, h2, h3, h4, ν, h5, h6, h7⟩ := h
  refine ⟨by simp only [List.length_cons]; omega, h2.op, ⟨fun _ => by rw [xh_up, if_pos rfl], fun e he => (by cases he), h3.up (Nat.le_refl _)⟩, ⟨⟨ha, fun _ => hp, fun e he => (by cases he)⟩, h4⟩, ν, h5.opens hs ?_ hl, h6.opens hs hb, fun j hj => h7 j (by omega)⟩
  have e1 := (hb.2.1 rfl).2
  unfold ub at e1
  simp only [z_eq, z_lt, z_255, Int32.reduceToInt] at e1
  omega
theorem exI.els {f : Nat → Int32} (h : exI cb a0 p f ((o, none) :: t)) (hs : wk_sh ((cb p).toInt % 256) = 2) (hp : cb p = 5) (ho : cb o = 4) (hpb : p < 2147483648) : exI cb a0 (p + 1) (va_up f t.length 5) ((o, some p) :: t) := by
  obtain ⟨h1, h2, h3, h4, ν, h5, h6, h7⟩ := h
  refine ⟨h1, h2.el, ⟨fun e => (by cases e), fun e _ => by rw [xh_up, if_pos rfl], h3.2.2.up (Nat.le_refl _)⟩, ⟨⟨h4.1.1, fun e => (by cases e), fun e he => ?_⟩, h4.2⟩, va_up ν (o + 1) (nI p), h5.els h2 hs ho (z_nI hpb), h6.els h2 hs, fun j hj => ?_⟩
  · cases he
    exact ⟨ho, hp⟩
  · have := h2.2.1
    dsimp only at this
    rw [xh_up, if_neg (by omega)]
    exact h7 j (by omega)
theorem exI.ends {f : Nat → Int32} (h : exI cb a0 p f (x :: t)) (hs : wk_sh ((cb p).toInt % 256) = 3) (hpb : p < 2147483648) : exI cb a0 (p + 1) f t := by
  obtain ⟨h1, h2, h3, h4, ν, h5, h6, h7⟩ := h
  refine ⟨by simp only [List.length_cons] at h1; omega, h2.tl, h3.2.2, h4.2, va_up ν (wk_key x) (nI p), h5.ends h2 hs (h7 p (Nat.le_refl p)) (z_nI hpb), h6.ends h2 hs, fun j hj => ?_⟩
  have := h2.1
  rw [xh_up, if_neg (by omega)]
  exact h7 j (by omega)
theorem exI.op {f : Nat → Int32} (h : exI cb a0 p f st) (hs : wk_sh ((cb p).toInt % 256) = s) (h4 : 4 ≤ s) (hr : rW cb s (p + 1) q) (hq : q < 2147483648) : exI cb a0 q f st := by
  obtain ⟨h1, h2, h3, h4', ν, h5, h6, h7⟩ := h
  obtain ⟨ν', o1, o2⟩ := nR_ex ν hs h4 hr hq
  have hpq := o1.2.2.2.1
  exact ⟨h1, h2.mono (by omega), h3, h4', ν', h5.op h2 hs h4 o1, h6.op h2 o1 o2, fun j hj => by rw [o1.2.1 j hj]; exact h7 j (by omega)⟩
theorem exI.fin {f : Nat → Int32} (h : exI cb a0 p f []) (ha : a0 ≤ p) (hs : wk_sh ((cb p).toInt % 256) = 3) : exR cb a0 (p + 1) := by
  obtain ⟨h1, h2, h3, h4, ν, h5, h6, h7⟩ := h
  exact ⟨by omega, va_up ν p 1, h5.fin hs rfl, h6.fin hs⟩
end MR2
