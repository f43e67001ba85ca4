-- the instructions of a module that was read, as its notes tell them
def wk_sh (b : Int) : Nat :=
  if 69 ≤ b then (if b ≤ 191 then 0 else 13) else if 65 ≤ b then 9 + (b - 65).toNat else if 40 ≤ b then (if 63 ≤ b then 8 else 7)
  else if b = 0 ∨ b = 1 ∨ b = 15 ∨ b = 26 ∨ b = 27 then 0 else if b = 2 ∨ b = 3 ∨ b = 4 then 1 else if b = 5 then 2 else if b = 11 then 3
  else if b = 12 ∨ b = 13 ∨ b = 16 ∨ b = 32 ∨ b = 33 ∨ b = 34 ∨ b = 35 ∨ b = 36 then 4 else if b = 14 then 5 else if b = 17 then 6 else 13
/-- what is written with an instruction at p that ends ahead of q -/
def wk_op (nt : Nat → Int32) (s p q : Nat) : Prop :=
  p + 2 ≤ q ∧ (s = 5 → 0 ≤ (nt (p + 1)).toInt ∧ (p : Int) + 2 + (nt (p + 1)).toInt < q) ∧ (s = 6 ∨ s = 7 ∨ s = 11 ∨ s = 12 → p + 3 ≤ q) ∧ s < 13
def wk (cb nt : Nat → Int32) (E : Nat) : Nat → Nat → List (Nat × Option Nat) → Prop
  | 0, _, _ => False
  | m + 1, p, st => p < E ∧
    (wk_sh ((cb p).toInt % 256) = 0 → wk cb nt E m (p + 1) st) ∧
    (wk_sh ((cb p).toInt % 256) = 1 → p + 2 < E ∧ ((cb (p + 1)).toInt = 64 ∨ 124 ≤ (cb (p + 1)).toInt ∧ (cb (p + 1)).toInt ≤ 127) ∧ st.length < 200 ∧ wk cb nt E m (p + 2) ((p, none) :: st)) ∧
    (wk_sh ((cb p).toInt % 256) = 2 → ∃ o st', st = (o, none) :: st' ∧ cb o = 4 ∧ (nt (o + 1)).toInt = p ∧ wk cb nt E m (p + 1) ((o, some p) :: st')) ∧
    (wk_sh ((cb p).toInt % 256) = 3 → (st = [] → (nt p).toInt = 1 ∧ p + 1 = E) ∧ (∀ o st', st = (o, none) :: st' → (nt (o + 1)).toInt = p ∧ nt p = 0 ∧ wk cb nt E m (p + 1) st') ∧ (∀ o e st', st = (o, some e) :: st' → (nt e).toInt = p ∧ nt p = 0 ∧ wk cb nt E m (p + 1) st')) ∧
    (4 ≤ wk_sh ((cb p).toInt % 256) → ∃ q : Nat, (nt p).toInt = q ∧ wk_op nt (wk_sh ((cb p).toInt % 256)) p q ∧ q < E ∧ wk cb nt E m q st)
/-- where the note of an open thing stands -/
def wk_key (x : Nat × Option Nat) : Nat := match x.2 with
  | none => x.1 + 1
  | some e => e
/-- open things: the latest first, each behind those below it, all ahead of p -/
def wk_st (p : Nat) : List (Nat × Option Nat) → Prop
  | [] => True
  | x :: t => wk_key x < p ∧ x.1 + 1 < p ∧ (∀ e, x.2 = some e → x.1 + 1 < e) ∧ wk_st x.1 t
theorem wk_st.mono {p q : Nat} : ∀ {st : List (Nat × Option Nat)}, wk_st p st → p ≤ q → wk_st q st
  | [], _, _ => trivial
  | _ :: _, h, hq => ⟨by have := h.1; omega, by have := h.2.1; omega, h.2.2.1, h.2.2.2⟩
theorem wk_st.key {p : Nat} : ∀ {st : List (Nat × Option Nat)} {x : Nat × Option Nat}, wk_st p st → x ∈ st → wk_key x < p
  | [], _, _, hx => by cases hx
  | y :: t, x, h, hx => by
    rcases List.mem_cons.mp hx with e | e
    · rw [e]; exact h.1
    · have h1 := wk_st.key h.2.2.2 e
      have h2 := h.2.1
      omega
theorem wk_st.op {p : Nat} {st : List (Nat × Option Nat)} (h : wk_st p st) : wk_st (p + 2) ((p, none) :: st) := ⟨by show p + 1 < p + 2; omega, by show p + 1 < p + 2; omega, fun e h9 => (by cases h9), h⟩
theorem wk_st.el {p o : Nat} {st : List (Nat × Option Nat)} (h : wk_st p ((o, none) :: st)) : wk_st (p + 1) ((o, some p) :: st) := ⟨by show p < p + 1; omega, by have := h.2.1; dsimp only at this ⊢; omega, fun e h9 => by have := h.2.1; cases h9; exact this, h.2.2.2⟩
theorem wk_st.tl {p : Nat} {x : Nat × Option Nat} {st : List (Nat × Option Nat)} (h : wk_st p (x :: st)) : wk_st (p + 1) st := h.2.2.2.mono (by have := h.2.1; omega)
/-- an instruction list's notes depend on what stands ahead of its end alone -/
theorem wk.congr {cb nt nu : Nat → Int32} {E : Nat} (h : ∀ j, j < E → nu j = nt j) : ∀ (m p : Nat) (st : List (Nat × Option Nat)), wk_st p st → wk cb nt E m p st → wk cb nu E m p st
  | 0, _, _, _, hw => hw
  | m + 1, p, st, hst, hw => by
    unfold wk at hw ⊢
    obtain ⟨h1, h2, h3, h4, h5, h6⟩ := hw
    refine ⟨h1, fun e => wk.congr h m _ _ (hst.mono (by omega)) (h2 e), fun e => ?_, fun e => ?_, fun e => ⟨fun e2 => ?_, fun o st' e2 => ?_, fun o e' st' e2 => ?_⟩, fun e => ?_⟩
    · obtain ⟨a1, a2, a9, a3⟩ := h3 e
      exact ⟨a1, a2, a9, wk.congr h m _ _ hst.op a3⟩
    · obtain ⟨o, st', a1, a2, a3, a4⟩ := h4 e
      subst a1
      refine ⟨o, st', rfl, a2, ?_, wk.congr h m _ _ hst.el a4⟩
      rw [h (o + 1) (by have := hst.2.1; dsimp only at this; omega)]
      exact a3
    · rw [h p h1]
      exact (h5 e).1 e2
    · obtain ⟨a1, a2, a3⟩ := (h5 e).2.1 o st' e2
      subst e2
      rw [h p h1, h (o + 1) (by have := hst.2.1; dsimp only at this; omega)]
      exact ⟨a1, a2, wk.congr h m _ _ hst.tl a3⟩
    · obtain ⟨a1, a2, a3⟩ := (h5 e).2.2 o e' st' e2
      subst e2
      rw [h p h1, h e' (by have := hst.1; dsimp only [wk_key] at this; omega)]
      exact ⟨a1, a2, wk.congr h m _ _ hst.tl a3⟩
    · obtain ⟨q, a1, a2, a3, a4⟩ := h6 e
      refine ⟨q, by rw [h p h1]; exact a1, ?_, a3, wk.congr h m _ _ (hst.mono (by have := a2.1; omega)) a4⟩
      obtain ⟨b1, b2, b3⟩ := a2
      exact ⟨b1, fun e9 => by rw [h (p + 1) (by omega)]; exact b2 e9, b3⟩
/-- .. and on what stands from p on and where something is open alone -/
theorem wk.congr2 {cb nt nu : Nat → Int32} {E : Nat} : ∀ (m p : Nat) (st : List (Nat × Option Nat)), wk_st p st → (∀ j, p ≤ j → j < E → nu j = nt j) → (∀ x ∈ st, nu (wk_key x) = nt (wk_key x)) → wk cb nt E m p st → wk cb nu E m p st
  | 0, _, _, _, _, _, hw => hw
  | m + 1, p, st, hst, h, hk, hw => by
    unfold wk at hw ⊢
    obtain ⟨h1, h2, h3, h4, h5, h6⟩ := hw
    refine ⟨h1, fun e => wk.congr2 m _ _ (hst.mono (by omega)) (fun j hj => h j (by omega)) hk (h2 e), fun e => ?_, fun e => ?_, fun e => ⟨fun e2 => ?_, fun o st' e2 => ?_, fun o e' st' e2 => ?_⟩, fun e => ?_⟩
    · obtain ⟨a1, a2, a9, a3⟩ := h3 e
      refine ⟨a1, a2, a9, wk.congr2 m _ _ hst.op (fun j hj => h j (by omega)) (fun x hx => ?_) a3⟩
      rcases List.mem_cons.mp hx with e9 | e9
      · rw [e9]
        exact h (p + 1) (by omega) (by omega)
      · exact hk x e9
    · obtain ⟨o, st', a1, a2, a3, a4⟩ := h4 e
      subst a1
      have k1 := hk (o, none) (List.mem_cons_self)
      refine ⟨o, st', rfl, a2, ?_, wk.congr2 m _ _ hst.el (fun j hj => h j (by omega)) (fun x hx => ?_) a4⟩
      · rw [show nu (o + 1) = nt (o + 1) from k1]
        exact a3
      · rcases List.mem_cons.mp hx with e9 | e9
        · rw [e9]
          exact h p (by omega) h1
        · exact hk x (List.mem_cons_of_mem _ e9)
    · rw [h p (by omega) h1]
      exact (h5 e).1 e2
    · obtain ⟨a1, a2, a3⟩ := (h5 e).2.1 o st' e2
      subst e2
      rw [h p (by omega) h1, show nu (o + 1) = nt (o + 1) from hk (o, none) (List.mem_cons_self)]
      exact ⟨a1, a2, wk.congr2 m _ _ hst.tl (fun j hj => h j (by omega)) (fun x hx => hk x (List.mem_cons_of_mem _ hx)) a3⟩
    · obtain ⟨a1, a2, a3⟩ := (h5 e).2.2 o e' st' e2
      subst e2
      rw [h p (by omega) h1, show nu e' = nt e' from hk (o, some e') (List.mem_cons_self)]
      exact ⟨a1, a2, wk.congr2 m _ _ hst.tl (fun j hj => h j (by omega)) (fun x hx => hk x (List.mem_cons_of_mem _ hx)) a3⟩
    · obtain ⟨q, a1, a2, a3, a4⟩ := h6 e
      have b1 := a2.1
      refine ⟨q, by rw [h p (by omega) h1]; exact a1, ?_, a3, wk.congr2 m _ _ (hst.mono (by omega)) (fun j hj => h j (by omega)) hk a4⟩
      obtain ⟨b1, b2, b3⟩ := a2
      exact ⟨b1, fun e9 => by rw [h (p + 1) (by omega) (by omega)]; exact b2 e9, b3⟩
