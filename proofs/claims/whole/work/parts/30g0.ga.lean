-- equality: a body's instructions, as the class and as the reference note them
/-- k instructions on from p -/
def lwk (cA : Nat → Int32) : Nat → Nat → Nat → Prop
  | 0, p, q => q = p
  | k + 1, p, q => ∃ p1, rW cA (wk_sh ((cA p).toInt % 256)) (p + 1) p1 ∧ lwk cA k p1 q
/-- q is the place of an instruction of a list that begins at p -/
def lw (cA : Nat → Int32) (p q : Nat) : Prop := ∃ k, lwk cA k p q
/-- the thing that was opened at x ends at p -/
def eAt (cb ν : Nat → Int32) (V : Nat → Prop) (x : Nat × Option Nat) (p : Nat) : Prop := match x.2 with
  | none => (ν (x.1 + 1)).toInt = p ∨ ∃ e : Nat, (ν (x.1 + 1)).toInt = e ∧ (cb e).toInt = 5 ∧ V e ∧ (ν e).toInt = p
  | some e => (ν e).toInt = p
section GA
variable {cA cb ν ν' ν0 ν1 : Nat → Int32} {b N E E2 E' p q r p0 : Nat} {V V' : Nat → Prop} {G : ctG}
theorem lw.rf : lw cA p p := ⟨0, rfl⟩
theorem lw.cn (h : rW cA (wk_sh ((cA p).toInt % 256)) (p + 1) q) (h2 : lw cA q r) : lw cA p r := by
  obtain ⟨k, hk⟩ := h2
  exact ⟨k + 1, q, h, hk⟩
theorem lwk_tr : ∀ (k : Nat) {p : Nat}, lwk cA k p q → lw cA q r → lw cA p r
  | 0, _, h, h2 => by
    have e : q = _ := h
    subst e
    exact h2
  | k + 1, _, h, h2 => by
    obtain ⟨p1, h1, h3⟩ := h
    exact lw.cn h1 (lwk_tr k h3 h2)
theorem lw.tr (h : lw cA p q) (h2 : lw cA q r) : lw cA p r := by
  obtain ⟨k, hk⟩ := h
  exact lwk_tr k hk h2
theorem lw.nx (h : lw cA p q) (h2 : rW cA (wk_sh ((cA q).toInt % 256)) (q + 1) r) : lw cA p r := h.tr (lw.cn h2 lw.rf)
theorem lwk_le : ∀ (k : Nat) {p : Nat}, lwk cA k p q → p ≤ q
  | 0, _, h => by
    have e : q = _ := h
    omega
  | k + 1, _, h => by
    obtain ⟨p1, h1, h3⟩ := h
    have := (rW_b h1).1
    have := lwk_le k h3
    omega
theorem lw.le (h : lw cA p q) : p ≤ q := by
  obtain ⟨k, hk⟩ := h
  exact lwk_le k hk
theorem wk_l {m : Nat} {st : List (Nat × Option Nat)} (h : wk cb ν E m q st) : q < E := by
  cases m with
  | zero => exact h.elim
  | succ m => exact h.1
theorem wkC_at : ∀ (k : Nat) {m p d : Nat}, wkC cA ν b E2 m p d → lwk cA k p q → q < E2 → ∃ m d, wkC cA ν b E2 m q d
  | 0, m, _, d, h, h2, _ => by
    have e : q = _ := h2
    subst e
    exact ⟨m, d, h⟩
  | k + 1, 0, _, _, h, _, _ => h.elim
  | k + 1, m + 1, p, d, h, h2, h3 => by
    obtain ⟨p1, g1, g2⟩ := h2
    obtain ⟨-, q', g3, -, g4⟩ := h
    have e := rW_f g3 g1
    subst e
    have := lwk_le k g2
    have := (rW_b g1).1
    rcases g4 with ⟨g5, -, -⟩ | ⟨-, -, g5⟩
    · omega
    · exact wkC_at k g5 g2 h3
/-- the class's walk goes over all places -/
theorem vc_lw (hCx : cx_ cA cb b N) (hN : E ≤ N) (hVc : ∀ j, V j → j + 1 = E ∨ V (nxZ cb ν j)) : ∀ (k : Nat) {m p d : Nat}, V p → p < E → wkC cA ν b (b + E) m (b + p) d → lwk cA k (b + p) (b + q) → q < E → V q
  | 0, m, _, d, hv, _, _, h2, _ => by
    have e : b + q = _ := h2
    have e2 : q = _ := Nat.add_left_cancel e
    rw [e2]
    exact hv
  | k + 1, 0, _, _, _, _, h, _, _ => h.elim
  | k + 1, m + 1, p, d, hv, hp, h, h2, h3 => by
    obtain ⟨p1, g1, g2⟩ := h2
    obtain ⟨-, q', g3, gn, g4⟩ := h
    have e := rW_f g3 g1
    subst e
    have l1 := lwk_le k g2
    have l2 := (rW_b g1).1
    have eb : cb p = cA (b + p) := hCx.1 p (by omega)
    rcases g4 with ⟨g5, -, -⟩ | ⟨-, g6, g5⟩
    · omega
    · obtain ⟨p2, e2⟩ : ∃ p2, q' = b + p2 := ⟨q' - b, by omega⟩
      subst e2
      have en : nxZ cb ν p = p2 := by
        unfold nxZ
        rw [eb]
        split
        · next hs =>
          rw [hs, rW_1i] at g1
          omega
        · next hs =>
          split
          · next h4 =>
            have := (gn h4).1
            rw [show b + p - b = p by omega] at this
            omega
          · next h4 =>
            have g7 := g1.1 (by omega)
            omega
      rcases hVc p hv with e | e
      · omega
      · rw [en] at e
        exact vc_lw hCx hN hVc k e (by omega) g5 g2 h3
/-- the reference's walk goes over all places -/
theorem vr_lw (hVr : ∀ j, V' j → (∃ m, wkR cA ν' E' m j) ∧ ∀ q2, rW cA (wk_sh ((cA j).toInt % 256)) (j + 1) q2 → q2 < E' → V' q2) : ∀ (k : Nat) {p : Nat}, V' p → lwk cA k p q → q < E' → V' q
  | 0, _, hv, h2, _ => by
    have e : q = _ := h2
    rw [e]
    exact hv
  | k + 1, p, hv, h2, h3 => by
    obtain ⟨p1, g1, g2⟩ := h2
    have := lwk_le k g2
    exact vr_lw hVr k ((hVr p hv).2 p1 g1 (by omega)) g2 h3
/-- both go over the same instructions, and what is open ends at the same places -/
theorem wk_two (hCx : cx_ cA cb b N) (hN : E ≤ N) (hVc : ∀ j, V j → j + 1 = E ∨ V (nxZ cb ν j)) (hVr : ∀ j, V' j → (∃ m, wkR cA ν' E' m j) ∧ ∀ q2, rW cA (wk_sh ((cA j).toInt % 256)) (j + 1) q2 → q2 < E' → V' q2) :
    ∀ (m q : Nat) (st : List (Nat × Option Nat)) (m2 d m' : Nat) (st' : List (Nat × Option Nat)), wk cb ν E m q st → wkC cA ν b (b + E) m2 (b + q) d → wk cA ν' E' m' (b + q) st' → V q → V' (b + q) → ∀ (i : Nat) (x x' : Nat × Option Nat), st[i]? = some x → st'[i]? = some x' →
    (x.2 = none → x'.2 = none → ∃ e : Nat, (ν (x.1 + 1)).toInt = e ∧ (ν' (x'.1 + 1)).toInt = (b + e : Nat) ∧ lw cA (b + q) (b + e) ∧ e < E ∧ ((cb e).toInt = 5 ∨ (cb e).toInt = 11)) ∧ ∃ p : Nat, eAt cb ν V x p ∧ eAt cA ν' V' x' (b + p) ∧ lw cA (b + q) (b + p) ∧ p < E ∧ (cb p).toInt = 11 := by
  intro m
  induction m with
  | zero => intro q st m2 d m' st' h1; exact h1.elim
  | succ m ih =>
    intro q st m2 d m' st' h1 h2 h3 hv hv' i x x' hx hx'
    cases m2 with
    | zero => exact h2.elim
    | succ m2 =>
    cases m' with
    | zero => exact h3.elim
    | succ m' =>
    obtain ⟨a0, a1, a2, a3, a4, a5⟩ := h1
    obtain ⟨b0, q', hW, hn, hb⟩ := h2
    obtain ⟨c0, c1, c2, c3, c4, c5⟩ := h3
    have eb : cb q = cA (b + q) := hCx.1 q (by omega)
    obtain ⟨mr, hR⟩ := (hVr _ hv').1
    have hVn := (hVr _ hv').2
    have hRn : 4 ≤ wk_sh ((cA (b + q)).toInt % 256) → ∀ q2, rW cA (wk_sh ((cA (b + q)).toInt % 256)) (b + q + 1) q2 → (ν' (b + q)).toInt = q2 := by
      intro h4 q2 hq2
      cases mr with
      | zero => exact hR.elim
      | succ mr =>
        obtain ⟨-, q3, r1, -⟩ := hR
        rw [← rW_f r1.1 hq2]
        exact r1.2.1 h4
    rw [← eb] at hW hn hb c1 c2 c3 c4 c5 hVn hRn
    have o1 : wk_sh ((cb q).toInt % 256) = 2 → (cb q).toInt = 5 := by
      intro hs
      have hr := hCx.2.2 q
      have : (cb q).toInt % 256 = 5 := by
        revert hs
        generalize (cb q).toInt % 256 = z
        unfold wk_sh
        split
        · split <;> omega
        · split
          · omega
          · split
            · split <;> omega
            · split
              · omega
              · split
                · omega
                · split
                  · omega
                  · split
                    · omega
                    · split
                      · omega
                      · split
                        · omega
                        · split <;> omega
      omega
    have o2 : wk_sh ((cb q).toInt % 256) = 3 → (cb q).toInt = 11 := by
      intro hs
      have hr := hCx.2.2 q
      have : (cb q).toInt % 256 = 11 := by
        revert hs
        generalize (cb q).toInt % 256 = z
        unfold wk_sh
        split
        · split <;> omega
        · split
          · omega
          · split
            · split <;> omega
            · split
              · omega
              · split
                · omega
                · split
                  · omega
                  · split
                    · omega
                    · split
                      · omega
                      · split
                        · omega
                        · split <;> omega
      omega
    have nxt : ∀ q1, rW cA (wk_sh ((cb q).toInt % 256)) (b + q + 1) (b + q1) → q1 < E → nxZ cb ν q = q1 → b + q1 < E' → V q1 ∧ V' (b + q1) ∧ (∃ m2 d, wkC cA ν b (b + E) m2 (b + q1) d) ∧ (∀ r, lw cA (b + q1) r → lw cA (b + q) r) := by
      intro q1 g1 g2 g3 g4
      have l2 := (rW_b g1).1
      have e := rW_f hW g1
      subst e
      refine ⟨?_, hVn _ g1 g4, ?_, fun r hr => lw.cn (by rw [← eb]; exact g1) hr⟩
      · rcases hVc q hv with e | e
        · omega
        · rw [g3] at e
          exact e
      · rcases hb with ⟨g5, -, -⟩ | ⟨-, -, g5⟩
        · omega
        · exact ⟨_, _, g5⟩
    have fin : ∀ q1, (∀ r, lw cA (b + q1) r → lw cA (b + q) r) → ∀ (x x' : Nat × Option Nat), ((x.2 = none → x'.2 = none → ∃ e : Nat, (ν (x.1 + 1)).toInt = e ∧ (ν' (x'.1 + 1)).toInt = (b + e : Nat) ∧ lw cA (b + q1) (b + e) ∧ e < E ∧ ((cb e).toInt = 5 ∨ (cb e).toInt = 11)) ∧ ∃ p : Nat, eAt cb ν V x p ∧ eAt cA ν' V' x' (b + p) ∧ lw cA (b + q1) (b + p) ∧ p < E ∧ (cb p).toInt = 11) → (x.2 = none → x'.2 = none → ∃ e : Nat, (ν (x.1 + 1)).toInt = e ∧ (ν' (x'.1 + 1)).toInt = (b + e : Nat) ∧ lw cA (b + q) (b + e) ∧ e < E ∧ ((cb e).toInt = 5 ∨ (cb e).toInt = 11)) ∧ ∃ p : Nat, eAt cb ν V x p ∧ eAt cA ν' V' x' (b + p) ∧ lw cA (b + q) (b + p) ∧ p < E ∧ (cb p).toInt = 11 := by
      intro q1 hl x x' ⟨g1, p, g2, g3, g4, g5, g6⟩
      refine ⟨fun e1 e2 => ?_, p, g2, g3, hl _ g4, g5, g6⟩
      obtain ⟨e, k1, k2, k3, k4⟩ := g1 e1 e2
      exact ⟨e, k1, k2, hl _ k3, k4⟩
    have nz : nxZ cb ν q = if wk_sh ((cb q).toInt % 256) = 1 then q + 2 else if 4 ≤ wk_sh ((cb q).toInt % 256) then (ν q).toInt.toNat else q + 1 := rfl
    generalize hs : wk_sh ((cb q).toInt % 256) = s at *
    rcases (show s = 0 ∨ s = 1 ∨ s = 2 ∨ s = 3 ∨ 4 ≤ s by omega) with e | e | e | e | e
    · have g1 := a1 e
      have g2 := c1 e
      have l1 := wk_l g1
      have l2 := wk_l g2
      obtain ⟨n1, n2, ⟨m3, d3, n3⟩, n4⟩ := nxt (q + 1) (by rw [e]; exact rW_0 (.inl rfl)) l1 (by rw [nz, if_neg (by omega), if_neg (by omega)]) l2
      exact fin _ n4 _ _ (ih _ _ _ _ _ _ g1 n3 g2 n1 n2 i x x' hx hx')
    · obtain ⟨-, -, -, g1⟩ := a2 e
      obtain ⟨-, -, -, g2⟩ := c2 e
      have l1 := wk_l g1
      have l2 := wk_l g2
      have hW' := hW
      rw [e, rW_1i] at hW'
      have e9 : q' = b + (q + 2) := by omega
      subst e9
      obtain ⟨n1, n2, ⟨m3, d3, n3⟩, n4⟩ := nxt (q + 2) hW l1 (by rw [nz, if_pos e]) l2
      exact fin _ n4 _ _ (ih _ _ _ _ _ _ g1 n3 g2 n1 n2 (i + 1) x x' (by simpa using hx) (by simpa using hx'))
    · obtain ⟨o, t, e1, -, e2, g1⟩ := a3 e
      obtain ⟨o', t', e1', -, e2', g2⟩ := c3 e
      have l1 := wk_l g1
      have l2 := wk_l g2
      obtain ⟨n1, n2, ⟨m3, d3, n3⟩, n4⟩ := nxt (q + 1) (by rw [e]; exact rW_0 (.inr (.inl rfl))) l1 (by rw [nz, if_neg (by omega), if_neg (by omega)]) l2
      subst e1
      subst e1'
      cases i with
      | zero =>
        have ex : (o, none) = x := by simpa using hx
        have ex' : (o', none) = x' := by simpa using hx'
        subst ex
        subst ex'
        obtain ⟨-, p, k1, k2, k3, k4, k5⟩ := ih _ _ _ _ _ _ g1 n3 g2 n1 n2 0 (o, some q) (o', some (b + q)) rfl rfl
        refine ⟨fun _ _ => ⟨q, e2, e2', lw.rf, a0, .inl (o1 e)⟩, p, .inr ⟨q, e2, o1 e, hv, k1⟩, .inr ⟨b + q, e2', ?_, hv', k2⟩, n4 _ k3, k4, k5⟩
        rw [← eb]
        exact o1 e
      | succ i =>
        have k := ih _ _ _ _ _ _ g1 n3 g2 n1 n2 (i + 1) x x' (by simpa using hx) (by simpa using hx')
        exact fin _ n4 _ _ k
    · obtain ⟨-, f1, f2⟩ := a4 e
      obtain ⟨-, f3, f4⟩ := c4 e
      cases st with
      | nil => simp at hx
      | cons y t =>
      cases st' with
      | nil => simp at hx'
      | cons y' t' =>
      have k1 : (ν (wk_key y)).toInt = q ∧ wk cb ν E m (q + 1) t := by
        obtain ⟨o, z⟩ := y
        cases z with
        | none => exact ⟨(f1 o t rfl).1, (f1 o t rfl).2.2⟩
        | some z => exact ⟨(f2 o z t rfl).1, (f2 o z t rfl).2.2⟩
      have k2 : (ν' (wk_key y')).toInt = (b + q : Nat) ∧ wk cA ν' E' m' (b + q + 1) t' := by
        obtain ⟨o, z⟩ := y'
        cases z with
        | none => exact ⟨(f3 o t' rfl).1, (f3 o t' rfl).2.2⟩
        | some z => exact ⟨(f4 o z t' rfl).1, (f4 o z t' rfl).2.2⟩
      have l1 := wk_l k1.2
      have l2 := wk_l k2.2
      obtain ⟨n1, n2, ⟨m3, d3, n3⟩, n4⟩ := nxt (q + 1) (by rw [e]; exact rW_0 (.inr (.inr rfl))) l1 (by rw [nz, if_neg (by omega), if_neg (by omega)]) l2
      cases i with
      | zero =>
        have ex : y = x := by simpa using hx
        have ex' : y' = x' := by simpa using hx'
        subst ex
        subst ex'
        refine ⟨fun z1 z2 => ⟨q, ?_, ?_, lw.rf, a0, .inr (o2 e)⟩, q, ?_, ?_, lw.rf, a0, o2 e⟩
        · have := k1.1
          unfold wk_key at this
          rw [z1] at this
          exact this
        · have := k2.1
          unfold wk_key at this
          rw [z2] at this
          exact this
        · have := k1.1
          obtain ⟨o, z⟩ := y
          cases z with
          | none => exact .inl this
          | some z => exact this
        · have := k2.1
          obtain ⟨o, z⟩ := y'
          cases z with
          | none => exact .inl this
          | some z => exact this
      | succ i =>
        have k := ih _ _ _ _ _ _ k1.2 n3 k2.2 n1 n2 i x x' (by simpa using hx) (by simpa using hx')
        exact fin _ n4 _ _ k
    · obtain ⟨q1, g0, -, -, g1⟩ := a5 e
      obtain ⟨q2, g0', -, -, g2⟩ := c5 e
      have l1 := wk_l g1
      have l2 := wk_l g2
      have k1 := (hn e).1
      rw [show b + q - b = q by omega] at k1
      have k2 := hRn e _ hW
      have e9 : q' = b + q1 := by omega
      subst e9
      have e8 : q2 = b + q1 := by omega
      subst e8
      obtain ⟨n1, n2, ⟨m3, d3, n3⟩, n4⟩ := nxt q1 hW l1 (by rw [nz, if_neg (by omega), if_pos e, g0]; rfl) l2
      exact fin _ n4 _ _ (ih _ _ _ _ _ _ g1 n3 g2 n1 n2 i x x' hx hx')
end GA
