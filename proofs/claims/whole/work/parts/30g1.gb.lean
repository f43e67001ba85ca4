-- equality: a module of the class and one of the reference; a place in a body
/-- the class's module d and the reference's D were read from the same bytes -/
def mdQ (d : mD) (D : zM) : Prop := ∃ (b N : Nat) (cA : Nat → Int32) (S : Sm) (ω : Nat → Int32), D = zk b N cA S ∧ ldR cA b N d ω S ∧ dX d = dxF cA b N (dcb d) (dnu d)
/-- what is open, in the class and in the reference -/
def gsQ (cA : Nat → Int32) (b p0 : Nat) (gs gs' : List gF) : Prop := gs'.length = gs.length ∧ ∀ (i o : Nat) (c : List Int), gs[i]? = some (o, c) → ∃ c', gs'[i]? = some (b + o, c') ∧ c'.length = c.length ∧ lw cA (b + p0) (b + o) ∧ wk_sh ((cA (b + o)).toInt % 256) = 1
/-- a place in a body, with the witnesses of both -/
def plQ (d : mD) (D : zM) (k t P lcn p0 E : Nat) (lo ν0 : Nat → Int32) (g : Nat) (G : ctG) (t' T p0' E' : Nat) (lo' ν0' ν1' : Nat → Int32) (G' : ctG) (V' : Nat → Prop) (rm : Int) (a : Nat) (c : List Int) (gs : List gF) (c' : List Int) (gs' : List gF) : Prop :=
  mdQ d D ∧ fB d k t P lcn p0 E lo ν0 g G ∧ G 0 a c gs ∧ bWt D t' T p0' E' lo' ν0' ν1' G' V' rm ∧ G' 0 (qb D + a) c' gs' ∧ (∀ y ∈ gs', V' y.1) ∧ lw (qc D) (qb D + p0) (qb D + a) ∧ gsQ (qc D) (qb D) p0 gs gs'
theorem gt_map {α β γ : Type} {f : α → γ} {g : β → γ} {l : List α} {l' : List β} {i : Nat} {x : β} (h : l.map f = l'.map g) (hx : l'[i]? = some x) : ∃ y, l[i]? = some y ∧ f y = g x := by
  have h1 : (l'.map g)[i]? = some (g x) := by rw [List.getElem?_map, hx]; rfl
  rw [← h, List.getElem?_map] at h1
  cases h2 : l[i]? with
  | none => rw [h2] at h1; cases h1
  | some y =>
    rw [h2] at h1
    exact ⟨y, rfl, Option.some.inj h1⟩
theorem wk_st.lt' {p : Nat} : ∀ {st : List (Nat × Option Nat)} {i : Nat} {x : Nat × Option Nat}, wk_st p st → st[i]? = some x → x.1 + 1 < p
  | [], _, _, _, hx => by simp at hx
  | y :: t, 0, x, h, hx => by
    have e : y = x := by simpa using hx
    rw [← e]
    exact h.2.1
  | y :: t, i + 1, x, h, hx => by
    have h1 := wk_st.lt' h.2.2.2 (by simpa using hx : t[i]? = some x)
    have h2 := h.2.1
    omega
section GB
variable {d : mD} {D : zM} {k t P lcn p0 E : Nat} {lo ν0 : Nat → Int32} {g : Nat} {G : ctG} {t' T p0' E' : Nat} {lo' ν0' ν1' : Nat → Int32} {G' : ctG} {V' : Nat → Prop} {rm : Int} {a : Nat} {c : List Int} {gs : List gF} {c' : List Int} {gs' : List gF}
theorem mdQ.cx (h : mdQ d D) : cx_ (qc D) (dcb d) (qb D) (dN d) ∧ qe D = qb D + dN d ∧ dX d = dxF (qc D) (qb D) (dN d) (dcb d) (dnu d) := by
  obtain ⟨b, N, cA, S, ω, h1, h2, h3⟩ := h
  obtain ⟨vs0, νr, hE, k9, k9', -, -, hcx, hdN, hS10⟩ := h2
  subst h1
  rw [hdN]
  exact ⟨hcx, rfl, h3⟩
/-- all that is known there -/
theorem plQ.core (h : plQ d D k t P lcn p0 E lo ν0 g G t' T p0' E' lo' ν0' ν1' G' V' rm a c gs c' gs') : a < E ∧ E ≤ dN d ∧ cx_ (qc D) (dcb d) (qb D) (dN d) ∧ ∃ V : Nat → Prop, (∀ j, V j → j + 1 = E ∨ V (nxZ (dcb d) ν0 j)) ∧ (∀ j, V j → (wk_sh ((dcb d j).toInt % 256) = 1 → dnu d (j + 1) = ν0 (j + 1)) ∧ (wk_sh ((dcb d j).toInt % 256) = 2 ∨ wk_sh ((dcb d j).toInt % 256) = 3 ∨ 4 ≤ wk_sh ((dcb d j).toInt % 256) → dnu d j = ν0 j) ∧ (7 ≤ wk_sh ((dcb d j).toInt % 256) → nxZ (dcb d) ν0 j ≤ E ∧ ∀ i, j ≤ i → i < nxZ (dcb d) ν0 j → dnu d i = ν0 i)) ∧ V a ∧ V' (qb D + a) ∧
    (∀ j, V' j → (∃ m, wkR (qc D) ν0' E' m j) ∧ ∀ q2, rW (qc D) (wk_sh ((qc D j).toInt % 256)) (j + 1) q2 → q2 < E' → V' q2) ∧ (∀ j, V' j → (wk_sh ((qc D j).toInt % 256) = 1 → ν1' (j + 1) = ν0' (j + 1)) ∧ (wk_sh ((qc D j).toInt % 256) = 2 ∨ wk_sh ((qc D j).toInt % 256) = 3 ∨ 4 ≤ wk_sh ((qc D j).toInt % 256) → ν1' j = ν0' j)) ∧
    (∃ m d', wkC (qc D) ν0 (qb D) (qb D + E) m (qb D + a) d') ∧ wOK (dcb d) ν0 E V a gs ∧ wOK (qc D) ν0' E' V' (qb D + a) gs' ∧ ∀ (i o : Nat) (c : List Int), gs[i]? = some (o, c) → V o := by
  obtain ⟨h1, h2, h3, h4, h5, h6, h7, h8⟩ := h
  obtain ⟨cx, qe1, dx⟩ := h1.cx
  obtain ⟨f1, f2, f3, f4, f5, f6, f7, f8⟩ := h2
  rw [dx] at f8
  obtain ⟨x1, x2, ⟨V, v1, v2, v3⟩, νr, E2, m, x3, x4, x5⟩ := f8
  obtain ⟨⟨a1, a2, -, -, m8, st8, w8, s8, e8⟩, -⟩ := f4 a c gs h3
  obtain ⟨-, m0, st0, w0, e0, -⟩ := v3 p0 [] [] f3
  have es0 : st0 = [] := by
    cases st0 with
    | nil => rfl
    | cons y l => cases e0
  subst es0
  have w1 : wk (dcb d) νr E m0 p0 [] := wk.congr2 m0 p0 [] trivial (fun j q1 q2 => (x5 j q1 q2).symm) (fun x hx => by cases hx) w0
  have eE := wk_end x2 x1 m0 p0 [] m 0 w1 x3 rfl
  subst eE
  have wc : wkC (qc D) ν0 (qb D) (qb D + E) m (qb D + p0) 0 := wkC.cg2 (by omega) x3 (fun j q1 q2 => x5 j (by omega) (by omega))
  obtain ⟨kl, hl⟩ := h7
  have vc : ∀ j, V j → j + 1 = E ∨ V (nxZ (dcb d) ν0 j) := fun j hj => (v2 j hj).2.2.1
  obtain ⟨b1, b2, b3, b4, b5, b6, b7, ⟨b8, b9, b10⟩, b11⟩ := h4
  refine ⟨a2, x1, x2, V, vc, fun j hj => ⟨fun e => ((v2 j hj).2.2.2.1 e).2, (v2 j hj).2.2.2.2.1, (v2 j hj).2.2.2.2.2⟩, (v3 a c gs h3).1, b10 _ _ _ h5, fun j hj => ⟨(b9 j hj).1, (b9 j hj).2.1⟩, fun j hj => ⟨(b9 j hj).2.2.1, (b9 j hj).2.2.2⟩, wkC_at kl wc hl (by omega), (v3 a c gs h3).2, (b11 _ _ _ h5).2, ?_⟩
  intro i o c1 hi
  obtain ⟨c2, -, -, ⟨k2, hk⟩, -⟩ := h8.2 i o c1 hi
  obtain ⟨y, y1, y2⟩ := gt_map e8 hi
  have := wk_st.lt' s8 y1
  have e9 : y.1 = o := y2
  exact vc_lw x2 x1 vc k2 v1 f2.2.2.2.1 wc hk (by omega)
theorem plQ.sh (h : plQ d D k t P lcn p0 E lo ν0 g G t' T p0' E' lo' ν0' ν1' G' V' rm a c gs c' gs') : qc D (qb D + a) = dcb d a := by
  obtain ⟨a1, a2, cx, -⟩ := h.core
  rw [cx.1 a (by omega)]
/-- an instruction with something written with it -/
theorem plQ.n4 (h : plQ d D k t P lcn p0 E lo ν0 g G t' T p0' E' lo' ν0' ν1' G' V' rm a c gs c' gs') (hs : 4 ≤ wk_sh ((dcb d a).toInt % 256)) : ∃ q', rW (qc D) (wk_sh ((dcb d a).toInt % 256)) (qb D + a + 1) q' ∧ nXc (qc D) ν0 (qb D) (wk_sh ((dcb d a).toInt % 256)) a q' ∧ nR (qc D) ν0' (qb D + a) q' ∧ lw (qc D) (qb D + p0) q' ∧ (dnu d a).toInt + qb D = q' ∧ (ν1' (qb D + a)).toInt = q' ∧ dnu d a = ν0 a ∧ (7 ≤ wk_sh ((dcb d a).toInt % 256) → ∀ i, a ≤ i → qb D + i < q' → dnu d i = ν0 i) := by
  obtain ⟨a1, a2, cx, V, vc, vn, va, va', vr, vn', ⟨m, d', wc⟩, -, -, -⟩ := h.core
  have eb := h.sh
  cases m with
  | zero => exact wc.elim
  | succ m =>
    obtain ⟨-, q', hW, hn, -⟩ := wc
    obtain ⟨⟨mr, hR⟩, -⟩ := vr _ va'
    cases mr with
    | zero => exact hR.elim
    | succ mr =>
      obtain ⟨-, q2, r1, -⟩ := hR
      have e := rW_f r1.1 hW
      subst e
      have hl : lw (qc D) (qb D + p0) q2 := h.2.2.2.2.2.2.1.nx hW
      rw [eb] at hn hW
      have hn' := hn hs
      rw [Nat.add_sub_cancel_left] at hn'
      have e1 := (vn a va).2.1 (.inr (.inr hs))
      have e2 := (vn' _ va').2 (.inr (.inr (by rw [eb]; exact hs)))
      refine ⟨q2, hW, hn', r1, hl, ?_, ?_, e1, fun h7 i i1 i2 => ((vn a va).2.2 h7).2 i i1 ?_⟩
      rotate_left
      rotate_left
      · unfold nxZ
        rw [if_neg (by omega), if_pos hs]
        have := hn'.1
        omega
      · rw [e1]
        exact hn'.1
      · rw [e2]
        exact r1.2.1 (by rw [eb]; exact hs)
/-- something is opened here -/
theorem plQ.op (h : plQ d D k t P lcn p0 E lo ν0 g G t' T p0' E' lo' ν0' ν1' G' V' rm a c gs c' gs') (hs : wk_sh ((dcb d a).toInt % 256) = 1) : (lw (qc D) (qb D + p0) (qb D + (a + 2)) ∧ a + 2 < E) ∧ ∃ e : Nat, (dnu d (a + 1)).toInt = e ∧ (ν1' (qb D + a + 1)).toInt = (qb D + e : Nat) ∧ lw (qc D) (qb D + p0) (qb D + e) ∧ lw (qc D) (qb D + p0) (qb D + (e + 1)) ∧ e < E := by
  obtain ⟨a1, a2, cx, V, vc, vn, va, va', vr, vn', ⟨m2, d', wc⟩, ⟨m, st, w1, -, -⟩, ⟨m', st', w2, -, -⟩, -⟩ := h.core
  have eb := h.sh
  have hl := h.2.2.2.2.2.2.1
  cases m with
  | zero => exact w1.elim
  | succ m =>
  cases m' with
  | zero => exact w2.elim
  | succ m' =>
    obtain ⟨c1, -, -, g1⟩ := w1.2.2.1 hs
    obtain ⟨c2, -, -, g2⟩ := w2.2.2.1 (by rw [eb]; exact hs)
    have hw : rW (qc D) (wk_sh ((qc D (qb D + a)).toInt % 256)) (qb D + a + 1) (qb D + (a + 2)) := by
      cases m2 with
      | zero => exact wc.elim
      | succ m2 =>
        obtain ⟨-, q', hW, -, -⟩ := wc
        have hW' := hW
        rw [eb, hs, rW_1i] at hW'
        rw [show qb D + (a + 2) = q' by omega]
        exact hW
    have n1 : V (a + 2) := by
      rcases vc a va with e | e
      · omega
      · unfold nxZ at e
        rw [if_pos hs] at e
        exact e
    have n2 : V' (qb D + (a + 2)) := (vr _ va').2 _ hw (by omega)
    obtain ⟨m3, d3, n3⟩ := wkC_at 1 wc ⟨_, hw, rfl⟩ (by omega : qb D + (a + 2) < qb D + E)
    obtain ⟨k1, -⟩ := wk_two cx a2 vc vr m (a + 2) _ m3 d3 m' _ g1 n3 g2 n1 n2 0 (a, none) (qb D + a, none) rfl rfl
    obtain ⟨e, k2, k3, k4, k5, k6⟩ := k1 rfl rfl
    have l1 := hl.nx hw
    have l2 := l1.tr k4
    refine ⟨⟨l1, c1⟩, e, ?_, ?_, l2, l2.nx ?_, k5⟩
    · rw [(vn a va).1 hs]
      exact k2
    · rw [(vn' _ va').1 (by rw [eb]; exact hs)]
      exact k3
    · rw [← cx.1 e (by omega)]
      rcases k6 with k6 | k6
      · rw [k6]
        exact rW_0 (.inr (.inl rfl))
      · rw [k6]
        exact rW_0 (.inr (.inr rfl))
/-- another part begins here -/
theorem plQ.el (h : plQ d D k t P lcn p0 E lo ν0 g G t' T p0' E' lo' ν0' ν1' G' V' rm a c gs c' gs') (hs : wk_sh ((dcb d a).toInt % 256) = 2) : ∃ p : Nat, (dnu d a).toInt = p ∧ (ν1' (qb D + a)).toInt = (qb D + p : Nat) ∧ lw (qc D) (qb D + p0) (qb D + p) ∧ p < E := by
  obtain ⟨a1, a2, cx, V, vc, vn, va, va', vr, vn', ⟨m2, d', wc⟩, ⟨m, st, w1, -, -⟩, ⟨m', st', w2, -, -⟩, -⟩ := h.core
  have eb := h.sh
  have hl := h.2.2.2.2.2.2.1
  cases m with
  | zero => exact w1.elim
  | succ m =>
  cases m' with
  | zero => exact w2.elim
  | succ m' =>
    obtain ⟨o, st1, e1, -, -, g1⟩ := w1.2.2.2.1 hs
    obtain ⟨o2, st2, e2, -, -, g2⟩ := w2.2.2.2.1 (by rw [eb]; exact hs)
    have l1 := wk_l g1
    have l2 := wk_l g2
    have hw : rW (qc D) (wk_sh ((qc D (qb D + a)).toInt % 256)) (qb D + a + 1) (qb D + (a + 1)) := by
      rw [eb, hs]
      exact rW_0 (.inr (.inl rfl))
    have n1 : V (a + 1) := by
      rcases vc a va with e | e
      · omega
      · unfold nxZ at e
        rw [if_neg (by omega), if_neg (by omega)] at e
        exact e
    have n2 : V' (qb D + (a + 1)) := (vr _ va').2 _ hw (by omega)
    obtain ⟨m3, d3, n3⟩ := wkC_at 1 wc ⟨_, hw, rfl⟩ (by omega : qb D + (a + 1) < qb D + E)
    obtain ⟨-, p, k2, k3, k4, k5, k6⟩ := wk_two cx a2 vc vr m (a + 1) _ m3 d3 m' _ g1 n3 g2 n1 n2 0 (o, some a) (o2, some (qb D + a)) rfl rfl
    have k2' : (ν0 a).toInt = p := k2
    have k3' : (ν0' (qb D + a)).toInt = (qb D + p : Nat) := k3
    refine ⟨p, ?_, ?_, (hl.nx hw).tr k4, k5⟩
    · rw [(vn a va).2.1 (.inl hs)]
      exact k2'
    · rw [(vn' _ va').2 (.inl (by rw [eb]; exact hs))]
      exact k3'
/-- a thing that is open ends at the same place in both -/
theorem plQ.br (h : plQ d D k t P lcn p0 E lo ν0 g G t' T p0' E' lo' ν0' ν1' G' V' rm a c gs c' gs') {i o : Nat} {c1 : List Int} (hi : gs[i]? = some (o, c1)) : qc D (qb D + o) = dcb d o ∧ qc D (qb D + (o + 1)) = dcb d (o + 1) ∧ wk_sh ((dcb d o).toInt % 256) = 1 ∧ lw (qc D) (qb D + p0) (qb D + (o + 2)) ∧ ∃ p : Nat, (∀ e x : Nat, ct_B (dnu d) p0 E (o + 1) e → (((dcb d e).toInt = 5 ∧ ct_B (dnu d) p0 E e x) ∨ ((dcb d e).toInt ≠ 5 ∧ x = e)) → x = p) ∧ (∀ e x : Nat, ct_B ν1' p0' E' (qb D + o + 1) e → (((qc D e).toInt = 5 ∧ ct_B ν1' p0' E' e x) ∨ ((qc D e).toInt ≠ 5 ∧ x = e)) → x = qb D + p) ∧ lw (qc D) (qb D + p0) (qb D + p) ∧ lw (qc D) (qb D + p0) (qb D + (p + 1)) ∧ p < E := by
  obtain ⟨a1, a2, cx, V, vc, vn, va, va', vr, vn', ⟨m2, d', wc⟩, ⟨m, st, w1, e1, s1⟩, ⟨m', st', w2, e2, s2⟩, vo⟩ := h.core
  have eb := h.sh
  have hl := h.2.2.2.2.2.2.1
  obtain ⟨c2, h1, -, h2, h3⟩ := h.2.2.2.2.2.2.2.2 i o c1 hi
  have vo' : V' (qb D + o) := h.2.2.2.2.2.1 _ (List.mem_of_getElem? h1)
  have vo1 := vo i o c1 hi
  obtain ⟨⟨-, -, -, -, m8, st8, w8, s8, e8⟩, -⟩ := h.2.1.2.2.2.1 a c gs h.2.2.1
  obtain ⟨y8, y9, y10⟩ := gt_map e8 hi
  have lo8 := wk_st.lt' s8 y9
  have e9 : y8.1 = o := y10
  obtain ⟨x, x1, x2⟩ := gt_map e1 hi
  obtain ⟨x', x1', x2'⟩ := gt_map e2 h1
  have x3 : x.1 = o := x2
  have x3' : x'.1 = qb D + o := x2'
  obtain ⟨-, p, k1, k2, k3, k4, k5⟩ := wk_two cx a2 vc vr m a st m2 d' m' st' w1 wc w2 va va' i x x' x1 x1'
  have eo : dcb d o = qc D (qb D + o) := cx.1 o (by omega)
  have eo1 : dcb d (o + 1) = qc D (qb D + (o + 1)) := cx.1 (o + 1) (by omega)
  have so : wk_sh ((dcb d o).toInt % 256) = 1 := by rw [eo]; exact h3
  have nb := (vn o vo1).1 so
  have nb' := (vn' _ vo').1 h3
  have lp := hl.tr k3
  have ep : dcb d p = qc D (qb D + p) := cx.1 p (by omega)
  have c5 : ∀ (cc : Int32), cc.toInt = 5 → wk_sh (cc.toInt % 256) = 2 := fun cc e => by rw [e]; rfl
  -- what was noted, in the class
  have q1 : (ν0 (o + 1)).toInt = p ∨ ∃ e : Nat, (ν0 (o + 1)).toInt = e ∧ (dcb d e).toInt = 5 ∧ V e ∧ (ν0 e).toInt = p := by
    obtain ⟨x0, xe⟩ := x
    cases xe with
    | none =>
      have x3' : x0 = o := x3
      rw [← x3']
      exact k1
    | some e =>
      have x3' : x0 = o := x3
      obtain ⟨z1, z2, z3⟩ := s1 _ (List.mem_of_getElem? x1) e rfl
      rw [← x3']
      exact .inr ⟨e, z1, z2, z3, k1⟩
  have q2 : (ν0' (qb D + o + 1)).toInt = (qb D + p : Nat) ∨ ∃ e : Nat, (ν0' (qb D + o + 1)).toInt = e ∧ (qc D e).toInt = 5 ∧ V' e ∧ (ν0' e).toInt = (qb D + p : Nat) := by
    obtain ⟨x0, xe⟩ := x'
    cases xe with
    | none =>
      have x4 : x0 = qb D + o := x3'
      rw [← x4]
      exact k2
    | some e =>
      have x4 : x0 = qb D + o := x3'
      obtain ⟨z1, z2, z3⟩ := s2 _ (List.mem_of_getElem? x1') e rfl
      rw [← x4]
      exact .inr ⟨e, z1, z2, z3, k2⟩
  have hw : rW (qc D) (wk_sh ((qc D (qb D + o)).toInt % 256)) (qb D + o + 1) (qb D + (o + 2)) := by
    obtain ⟨⟨mr, hR⟩, -⟩ := vr _ vo'
    cases mr with
    | zero => exact hR.elim
    | succ mr =>
      obtain ⟨-, q3, r1, -⟩ := hR
      have r2 := r1.1
      have r3 := r1.1
      rw [h3, rW_1i] at r3
      rw [show qb D + (o + 2) = q3 by omega]
      exact r2
  refine ⟨eo.symm, eo1.symm, so, h2.nx hw, p, ?_, ?_, lp, lp.nx ?_, k4⟩
  · intro e z hB hz
    have hB' : (dnu d (o + 1)).toInt = e := hB.2.2
    rw [nb] at hB'
    rcases q1 with q1 | ⟨e4, q1, q3, q4, q5⟩
    · have ee : e = p := by omega
      subst ee
      rcases hz with ⟨hz, -⟩ | ⟨-, hz⟩
      · omega
      · exact hz
    · have ee : e = e4 := by omega
      subst ee
      rcases hz with ⟨-, hz⟩ | ⟨hz, -⟩
      · have hz' : (dnu d e).toInt = z := hz.2.2
        rw [(vn e q4).2.1 (.inl (c5 _ q3))] at hz'
        omega
      · exact absurd q3 hz
  · intro e z hB hz
    have hB' : (ν1' (qb D + o + 1)).toInt = e := hB.2.2
    rw [nb'] at hB'
    rcases q2 with q1 | ⟨e4, q1, q3, q4, q5⟩
    · have ee : e = qb D + p := by omega
      subst ee
      rcases hz with ⟨hz, -⟩ | ⟨-, hz⟩
      · rw [← ep] at hz
        omega
      · exact hz
    · have ee : e = e4 := by omega
      subst ee
      rcases hz with ⟨-, hz⟩ | ⟨hz, -⟩
      · have hz' : (ν1' e).toInt = z := hz.2.2
        rw [(vn' e q4).2 (.inl (c5 _ q3))] at hz'
        omega
      · exact absurd q3 hz
  · rw [← ep, k5]
    exact rW_0 (.inr (.inr rfl))
/-- the next place, where nothing is written with the instruction -/
theorem plQ.n0 (h : plQ d D k t P lcn p0 E lo ν0 g G t' T p0' E' lo' ν0' ν1' G' V' rm a c gs c' gs') (hs : wk_sh ((dcb d a).toInt % 256) = 0 ∨ wk_sh ((dcb d a).toInt % 256) = 2 ∨ wk_sh ((dcb d a).toInt % 256) = 3) : lw (qc D) (qb D + p0) (qb D + (a + 1)) := by
  have eb := h.sh
  apply h.2.2.2.2.2.2.1.nx
  rw [eb]
  exact rW_0 hs
end GB
