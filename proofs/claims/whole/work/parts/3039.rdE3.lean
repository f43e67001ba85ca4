-- the reader: a whole instruction list
def wk_pl (x : Nat × Option Nat) : Nat := match x.2 with
  | none => x.1
  | some e => e
def wk_o (f : Nat → Int32) : List (Nat × Option Nat) → Prop
  | [] => True
  | x :: t => (f t.length).toInt = wk_pl x ∧ wk_o f t
def wk_c (cb : Nat → Int32) (a0 : Nat) : List (Nat × Option Nat) → Prop
  | [] => True
  | x :: t => (a0 ≤ x.1 ∧ (x.2 = none → (cb x.1).toInt = 2 ∨ (cb x.1).toInt = 3 ∨ (cb x.1).toInt = 4) ∧ (∀ e, x.2 = some e → cb x.1 = 4 ∧ cb e = 5)) ∧ wk_c cb a0 t
theorem wk_o.up {f : Nat → Int32} {k : Nat} {w : Int32} : ∀ {t : List (Nat × Option Nat)}, t.length ≤ k → wk_o f t → wk_o (va_up f k w) t
  | [], _, _ => trivial
  | x :: t, hk, h => ⟨by rw [xh_up, if_neg (by simp at hk; omega)]; exact h.1, h.2.up (by simp at hk; omega)⟩
theorem wk_c.key {cb : Nat → Int32} {a0 p : Nat} : ∀ {t : List (Nat × Option Nat)} {x : Nat × Option Nat}, wk_c cb a0 t → wk_st p t → x ∈ t → a0 ≤ wk_key x
  | [], _, _, _, hx => by cases hx
  | y :: t, x, h, hs, hx => by
    rcases List.mem_cons.mp hx with e | e
    · subst e
      obtain ⟨o, e⟩ := x
      have h1 := h.1.1
      have h2 := hs.2.2.1
      cases e with
      | none => show a0 ≤ o + 1; dsimp only at h1; omega
      | some e => show a0 ≤ e; have := h2 e rfl; dsimp only at h1 this; omega
    · exact h.2.key hs.2.2.2 e
/-- whatever the notes become behind p and where something is open: if the list goes on well from p, it is well from a0 -/
def wk_cl (cb ν : Nat → Int32) (a0 p : Nat) (st : List (Nat × Option Nat)) : Prop :=
  ∀ (E : Nat) (nu : Nat → Int32), (∀ j, j < p → (∀ x ∈ st, wk_key x ≠ j) → nu j = ν j) → (∃ m, wk cb nu E m p st) → ∃ m, wk cb nu E m a0 []
theorem wk_cl.plain {cb ν : Nat → Int32} {a0 p : Nat} {st : List (Nat × Option Nat)} (h : wk_cl cb ν a0 p st) (hs : wk_sh ((cb p).toInt % 256) = 0) : wk_cl cb ν a0 (p + 1) st := by
  intro E nu ha ⟨m, hw⟩
  refine h E nu (fun j hj hx => ha j (by omega) hx) ⟨m + 1, ?_⟩
  have hp : p < E := by
    cases m with
    | zero => exact False.elim hw
    | succ m => have := hw.1; omega
  unfold wk
  exact ⟨hp, fun _ => hw, fun e => by omega, fun e => by omega, fun e => by omega, fun e => by omega⟩
theorem wk_cl.opens {cb ν : Nat → Int32} {a0 p : Nat} {st : List (Nat × Option Nat)} (h : wk_cl cb ν a0 p st) (hs : wk_sh ((cb p).toInt % 256) = 1) (hb : (cb (p + 1)).toInt = 64 ∨ 124 ≤ (cb (p + 1)).toInt ∧ (cb (p + 1)).toInt ≤ 127) (hl : st.length < 200) : wk_cl cb ν a0 (p + 2) ((p, none) :: st) := by
  intro E nu ha ⟨m, hw⟩
  refine h E nu (fun j hj hx => ha j (by omega) (fun x hm => ?_)) ⟨m + 1, ?_⟩
  · rcases List.mem_cons.mp hm with e | e
    · rw [e]
      show p + 1 ≠ j
      omega
    · exact hx x e
  · have hp : p + 2 < E := by
      cases m with
      | zero => exact False.elim hw
      | succ m => exact hw.1
    unfold wk
    exact ⟨by omega, fun e => by omega, fun _ => ⟨hp, hb, hl, hw⟩, fun e => by omega, fun e => by omega, fun e => by omega⟩
theorem wk_cl.els {cb ν : Nat → Int32} {a0 p o : Nat} {t : List (Nat × Option Nat)} {w : Int32} (h : wk_cl cb ν a0 p ((o, none) :: t)) (hst : wk_st p ((o, none) :: t)) (hs : wk_sh ((cb p).toInt % 256) = 2) (ho : cb o = 4) (hw : w.toInt = p) : wk_cl cb (va_up ν (o + 1) w) a0 (p + 1) ((o, some p) :: t) := by
  intro E nu ha ⟨m, hk⟩
  have h1 : o + 1 < p := hst.2.1
  have kt : ∀ x ∈ t, wk_key x < o := fun x hx => wk_st.key hst.2.2.2 hx
  refine h E nu (fun j hj hx => ?_) ⟨m + 1, ?_⟩
  · have hj1 : j ≠ o + 1 := fun e => hx (o, none) (List.mem_cons_self) e.symm
    rw [ha j (by omega) (fun x hm => ?_), xh_up, if_neg hj1]
    rcases List.mem_cons.mp hm with e | e
    · rw [e]
      show p ≠ j
      omega
    · exact hx x (List.mem_cons_of_mem _ e)
  · have hp : p < E := by
      cases m with
      | zero => exact False.elim hk
      | succ m => have := hk.1; omega
    have e1 : nu (o + 1) = w := by
      rw [ha (o + 1) (by omega) (fun x hm => ?_), xh_up, if_pos rfl]
      rcases List.mem_cons.mp hm with e | e
      · rw [e]
        show p ≠ o + 1
        omega
      · have := kt x e
        omega
    unfold wk
    exact ⟨hp, fun e => by omega, fun e => by omega, fun _ => ⟨o, t, rfl, ho, by rw [e1]; exact hw, hk⟩, fun e => by omega, fun e => by omega⟩
theorem wk_cl.ends {cb ν : Nat → Int32} {a0 p : Nat} {x : Nat × Option Nat} {t : List (Nat × Option Nat)} {w : Int32} (h : wk_cl cb ν a0 p (x :: t)) (hst : wk_st p (x :: t)) (hs : wk_sh ((cb p).toInt % 256) = 3) (hz : ν p = 0) (hw : w.toInt = p) : wk_cl cb (va_up ν (wk_key x) w) a0 (p + 1) t := by
  intro E nu ha ⟨m, hk⟩
  have h1 := hst.1
  have kt : ∀ y ∈ t, wk_key y < wk_key x := fun y hy => by
    have h2 := wk_st.key hst.2.2.2 hy
    have h3 : x.1 ≤ wk_key x := by
      obtain ⟨o, e⟩ := x
      cases e with
      | none => show o ≤ o + 1; omega
      | some e => have := hst.2.2.1 e rfl; show o ≤ e; dsimp only at this; omega
    omega
  have e1 : nu (wk_key x) = w := by
    rw [ha _ (by omega) (fun y hy => by have := kt y hy; omega), xh_up, if_pos rfl]
  have e2 : nu p = 0 := by
    rw [ha p (by omega) (fun y hy => by have := kt y hy; omega), xh_up, if_neg (by omega)]
    exact hz
  refine h E nu (fun j hj hx => ?_) ⟨m + 1, ?_⟩
  · have hj1 : j ≠ wk_key x := fun e => hx x (List.mem_cons_self) e.symm
    rw [ha j (by omega) (fun y hy => hx y (List.mem_cons_of_mem _ hy)), xh_up, if_neg hj1]
  · have hp : p < E := by
      cases m with
      | zero => exact False.elim hk
      | succ m => have := hk.1; omega
    unfold wk
    refine ⟨hp, fun e => by omega, fun e => by omega, fun e => by omega, fun _ => ⟨fun e => (by cases e), fun o st' e => ?_, fun o e' st' e => ?_⟩, fun e => by omega⟩
    · cases e
      exact ⟨by rw [show nu (o + 1) = w from e1]; exact hw, e2, hk⟩
    · cases e
      exact ⟨by rw [show nu e' = w from e1]; exact hw, e2, hk⟩
theorem wk_cl.op {cb ν ν' : Nat → Int32} {a0 p q s : Nat} {st : List (Nat × Option Nat)} (h : wk_cl cb ν a0 p st) (hst : wk_st p st) (hs : wk_sh ((cb p).toInt % 256) = s) (h4 : 4 ≤ s) (ho : rd_op s p q ν ν') : wk_cl cb ν' a0 q st := by
  obtain ⟨o1, o2, o3, o4, o5, o6, o7⟩ := ho
  intro E nu ha ⟨m, hk⟩
  refine h E nu (fun j hj hx => ?_) ⟨m + 1, ?_⟩
  · rw [ha j (by omega) hx]
    exact o1 j hj
  · have hp : q < E := by
      cases m with
      | zero => exact False.elim hk
      | succ m => exact hk.1
    have e1 : nu p = ν' p := ha p (by omega) (fun x hx => by have := wk_st.key hst hx; omega)
    have e2 : nu (p + 1) = ν' (p + 1) := ha (p + 1) (by omega) (fun x hx => by have := wk_st.key hst hx; omega)
    unfold wk
    refine ⟨by omega, fun e => by omega, fun e => by omega, fun e => by omega, fun e => by omega, fun _ => ⟨q, by rw [e1]; exact o3, ?_, hp, hk⟩⟩
    rw [hs]
    exact ⟨o4, fun e => by rw [e2]; exact o5 e, o6, o7⟩
theorem wk_cl.fin {cb ν : Nat → Int32} {a0 p : Nat} {w : Int32} (h : wk_cl cb ν a0 p []) (hs : wk_sh ((cb p).toInt % 256) = 3) (hw : w.toInt = 1) : ∃ m, wk cb (va_up ν p w) (p + 1) m a0 [] := by
  refine h (p + 1) (va_up ν p w) (fun j hj _ => by rw [xh_up, if_neg (by omega)]) ⟨1, ?_⟩
  unfold wk
  refine ⟨by omega, fun e => by omega, fun e => by omega, fun e => by omega, fun _ => ⟨fun _ => ⟨by rw [xh_up, if_pos rfl]; exact hw, rfl⟩, fun o st' e => (by cases e), fun o e' st' e => (by cases e)⟩, fun e => by omega⟩
