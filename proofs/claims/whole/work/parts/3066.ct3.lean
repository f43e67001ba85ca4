-- else, end, and a body's own end
section CT3
variable {n : Nat → Nat} {vs : Nat → Nat → Int64} {cb lo ν ν' ν0 : Nat → Int32} {t lcn p0 E q q' : Nat} {G G' : ctG} {B B' : ctN} {g g' x : Int} {cur cur' c c' c2 : List Int} {gs : List gF} {f f2 f' : ckF} {r r' fs fs' : List ckF} {st st' : List (Nat × Option Nat)} {res w op : Int}
theorem ct_else {o : Nat} {r3 : Int} (hI : ct_I n vs cb lo t lcn p0 E ν0 G ν q cur f r ((o, none) :: st) g) (ho : (cb q).toInt = 5) (h4 : (cb o).toInt = 4) (hn : (ν0 (o + 1)).toInt = q) (ht : ck_tk f cur (fe f) r3 (fb f)) (hwk : ∃ m, wk cb ν0 E m (q + 1) ((o, some q) :: st)) :
    ∃ G' : ctG, ((∀ k a c s, G k a c s → G' k a c s) ∧ ∀ a c s, G' 0 a c s → G 0 a c s ∨ a = q + 1 ∨ (a = q ∧ (cb q).toInt = 11 ∧ s = gl (f :: r))) ∧ ct_I n vs cb lo t lcn p0 E ν0 G' ν (q + 1) (fb f) (5, fa f, fe f, fe f, fb f, 0, fv f) r ((o, some q) :: st) g := by
  obtain ⟨⟨a1, a2, a3, a4⟩, a5, a6, a7, a8, a9, a10, a11⟩ := id hI
  cases r with
  | nil => cases a4.1
  | cons f2 r =>
    obtain ⟨o', x', st'', e, ⟨⟨b1, b2, b3, b4, b5, b6, b7, b8⟩, c0, c1, d⟩, hF2⟩ := a4
    simp only [List.cons.injEq, Prod.mk.injEq] at e
    obtain ⟨⟨e1, e2⟩, e3⟩ := e
    subst e1 e2 e3
    have hfk : fk f = 4 := by
      rcases d with ⟨-, -, d3, -⟩ | ⟨e, d1, -⟩
      · omega
      · cases d1
    obtain ⟨hT2, u1, -⟩ := a5.tk ht
    have hcur : lvf f → cur = tp (fe f) ++ fb f := fun h => u1 h (by omega)
    have hoq : o + 1 < q := a2.2.1
    have hno : (ν (o + 1)).toInt = q := by rw [show ν (o + 1) = ν0 (o + 1) from a10 (o, none) List.mem_cons_self]; exact hn
    obtain ⟨f', hf'⟩ : ∃ f' : ckF, f' = (5, fa f, fe f, fe f, fb f, 0, fv f) := ⟨_, rfl⟩
    rw [← hf']
    have k1 : fk f' = 5 := by rw [hf']; rfl
    have k2 : fa f' = fa f := by rw [hf']; rfl
    have k3 : fl_ f' = fe f := by rw [hf']; rfl
    have k4 : fe f' = fe f := by rw [hf']; rfl
    have k5 : fb f' = fb f := by rw [hf']; rfl
    have k6 : fd f' = 0 := by rw [hf']; rfl
    have k7 : fv f' = fv f := by rw [hf']; rfl
    have lf : lvf f' ↔ fv f = true := ⟨fun h => by rw [← k7]; exact h.1, fun h => ⟨by rw [k7]; exact h, k6⟩⟩
    have eg : gl (f :: f2 :: r) = (o, fb f) :: gl (f2 :: r) := by
      show ((fa f).toNat, fb f) :: gl (f2 :: r) = _
      rw [b2]
      rfl
    have eg' : gl (f' :: f2 :: r) = (o, fb f) :: gl (f2 :: r) := by rw [gl_hd k2 k5, eg]
    have hG : ∀ k a c s, G k a c s → (fun k a c s => G k a c s ∨ (lvf f ∧ k = 3 ∧ a = o ∧ c = cur ∧ s = (o, fb f) :: gl (f2 :: r)) ∨ (fv f = true ∧ k = 0 ∧ a = q + 1 ∧ c = fb f ∧ s = (o, fb f) :: gl (f2 :: r)) : ctG) k a c s := fun k a c s h => .inl h
    refine ⟨fun k a c s => G k a c s ∨ (lvf f ∧ k = 3 ∧ a = o ∧ c = cur ∧ s = (o, fb f) :: gl (f2 :: r)) ∨ (fv f = true ∧ k = 0 ∧ a = q + 1 ∧ c = fb f ∧ s = (o, fb f) :: gl (f2 :: r)), ⟨hG, fun a c s ha => Or.elim ha .inl (fun h => h.elim (fun h => absurd h.2.1 (by omega)) (fun h => .inr (.inl h.2.2.1)))⟩, ct_next hI hG (fun j _ => rfl) (fun j _ => rfl) (by omega) (Int.le_refl g) (fun hl => ?_) (fun a c s ha => ?_) (fun o' c s ha => ?_) (fun o' c s ha => ?_) (fun o' c s ha => ?_) (fun o' c s ha => ?_) (fun o' c s ha => ?_) (fun o' c s ha => ?_) ⟨o, some q, st, rfl, ⟨⟨b1, k2.trans b2, by rw [k4]; exact b3, by rw [k4]; exact b4, by rw [k5]; exact b5, by rw [k5]; exact b6, by rw [k5]; exact b7, by rw [k5]; exact b8⟩, by rw [k7]; exact c0, fun e => ?_, .inr ⟨q, rfl, a1, k1, h4, ho, by rw [k3, k4], hno⟩⟩, hF2.mono hG (q := q) (fun j _ _ => rfl) (a2.2.2.2.mono (by show o ≤ q; omega))⟩ (wk_st.el a2) a3 ⟨hT2.1, ⟨[], by rw [k5]; rfl⟩, fun h => (c1 (lf.mp h)).1, by have := hT2.2.2.2.1; omega, hT2.2.2.2.2.1, by have := hT2.2.2.2.2.2.1; omega, hT2.2.2.2.2.2.2⟩ (fun h => .inr (.inr ⟨lf.mp h, rfl, rfl, rfl, eg'⟩)) (fun y hy => ?_) hwk⟩
    · refine LC_3 (by omega) ⟨o, fb f, gl (f2 :: r), eg, ⟨by omega, by omega, hno⟩, by rw [b3]; exact hcur hl, .inr (.inl ⟨hl, rfl, rfl, rfl, eg⟩)⟩
    · rcases ha with h | ⟨-, h, -⟩ | ⟨hv, -, e1, e2, e3⟩
      · exact .inl h
      · cases h
      · exact .inr (.inl ⟨e1, e2, by rw [e3, eg'], lf.mpr hv⟩)
    · rcases ha with h | ⟨-, h, -⟩ | ⟨hv, h, -⟩
      · exact .inl h
      · cases h
      · cases h
    · rcases ha with h | ⟨-, h, -⟩ | ⟨hv, h, -⟩
      · exact .inl h
      · cases h
      · cases h
    · rcases ha with h | ⟨hl, -, e1, e2, e3⟩ | ⟨hv, h, -⟩
      · exact .inl h
      · exact .inr (.inl (.inl ⟨by rw [k7]; exact hl.1, by rw [k2, b2, e1], by rw [e2, k4, k5]; exact hcur hl, by rw [e3, e1, k5], k1⟩))
      · cases h
    · rcases ha with ⟨h1, h2, h3, h4⟩ | h
      · exact .inl (.inl ⟨by rw [k7]; exact h1, by rw [k2]; exact h2, by rw [k4, k5]; exact h3, h4⟩)
      · exact .inl (.inr h)
    · rcases ha with ⟨h1, h2, h3, h4, h5⟩ | h
      · have e9 : o' = o := by omega
        exact .inr ⟨q, ⟨by omega, by omega, by rw [e9]; exact hno⟩, .inl ⟨ho, .inr (.inr ⟨h1, rfl, rfl, h4, by rw [e9, h4, h5]⟩)⟩⟩
      · exact .inl (.inr h)
    · rcases ha with ⟨h1, h2, h3, h4, h5⟩ | h
      · omega
      · exact .inl (.inr h)
    · rw [k7] at e
      obtain ⟨g1, g2, g3⟩ := c1 e
      rw [k5, k4]
      exact ⟨g1, hG _ _ _ _ g2, fun h => by omega⟩
    · rcases List.mem_cons.mp hy with e | e
      · rw [e]
        exact a9 q (Nat.le_refl q)
      · exact a10 y (List.mem_cons_of_mem _ e)
theorem ct_end {o : Nat} {x : Option Nat} {r3 : Int} (hI : ct_I n vs cb lo t lcn p0 E ν0 G ν q cur f r ((o, x) :: st) g) (ho : (cb q).toInt = 11) (hx : (x = none → (ν0 (o + 1)).toInt = q) ∧ ∀ e, x = some e → (ν0 e).toInt = q) (hn : ν0 q = 0) (ht : ck_tk f cur (fe f) r3 (fb f)) (h64 : fk f = 4 → fe f = 64) (hp : ck_pt (fb f) g (fe f) cur' g') (hwk : ∃ m, wk cb ν0 E m (q + 1) st) :
    ∃ (f2 : ckF) (r2 : List ckF) (G' : ctG), r = f2 :: r2 ∧ ((∀ k a c s, G k a c s → G' k a c s) ∧ ∀ a c s, G' 0 a c s → G 0 a c s ∨ a = q + 1 ∨ (a = q ∧ (cb q).toInt = 11 ∧ s = gl (f :: r))) ∧ ct_I n vs cb lo t lcn p0 E ν0 G' ν (q + 1) cur' f2 r2 st g' := by
  obtain ⟨⟨a1, a2, a3, a4⟩, a5, a6, a7, a8, a9, a10, a11⟩ := id hI
  have hmp := a4.map
  cases r with
  | nil => cases a4.1
  | cons f2 r =>
    obtain ⟨o', x', st'', e, ⟨⟨b1, b2, b3, b4, b5, b6, b7, ⟨ex, b8⟩⟩, c0, c1, d⟩, hF2⟩ := a4
    simp only [List.cons.injEq, Prod.mk.injEq] at e
    obtain ⟨⟨e1, e2⟩, e3⟩ := e
    subst e1 e2 e3
    obtain ⟨hT2, u1, -⟩ := a5.tk ht
    have hcur : lvf f → cur = tp (fe f) ++ fb f := fun h => u1 h (by omega)
    have hoq : o + 1 < q := a2.2.1
    obtain ⟨hT3, ecur, hg⟩ := hT2.pt (q' := q + 1) hp (b4.elim .inl (fun h => .inr (.inl h))) (Nat.lt_succ_self q)
    have hνq : (ν q).toInt = 0 := by rw [a9 q (Nat.le_refl q), hn]; rfl
    have eg : gl (f :: f2 :: r) = (o, fb f) :: gl (f2 :: r) := by
      show ((fa f).toNat, fb f) :: gl (f2 :: r) = _
      rw [b2]
      rfl
    have hcn : fv f = true → cnc cur' := fun h => by rw [ecur]; exact (tp_cnc b4).app (c1 h).1
    have hno : x = none → (ν (o + 1)).toInt = q := fun h => by
      subst h
      rw [show ν (o + 1) = ν0 (o + 1) from a10 (o, none) List.mem_cons_self]
      exact hx.1 rfl
    have hse : ∀ e, x = some e → (ν e).toInt = q ∧ e < q := fun e h => by
      subst h
      rw [show ν e = ν0 e from a10 (o, some e) List.mem_cons_self]
      exact ⟨hx.2 e rfl, a2.1⟩
    have hG : ∀ k a c s, G k a c s → (fun k a c s => G k a c s ∨ (fv f = true ∧ k = 0 ∧ c = cur' ∧ ((a = q + 1 ∧ s = gl (f2 :: r)) ∨ (a = q ∧ s = gl (f :: f2 :: r)))) : ctG) k a c s := fun k a c s h => .inl h
    have lc : ∀ c, c = cur' → fv f = true → ct_LC n vs cb lo t lcn ν0 (fun k a c s => G k a c s ∨ (fv f = true ∧ k = 0 ∧ c = cur' ∧ ((a = q + 1 ∧ s = gl (f2 :: r)) ∨ (a = q ∧ s = gl (f :: f2 :: r))))) (ct_B ν p0 (q + 1)) ((cb q).toInt % 256) q c (gl (f :: f2 :: r)) := fun c e9 hv => LC_4 (by omega) (.inr ⟨o, fb f, gl (f2 :: r), eg, ⟨a1, by omega, hνq⟩, by rw [b3, e9, ecur], .inr ⟨hv, rfl, e9, .inl ⟨rfl, rfl⟩⟩⟩)
    refine ⟨f2, r, fun k a c s => G k a c s ∨ (fv f = true ∧ k = 0 ∧ c = cur' ∧ ((a = q + 1 ∧ s = gl (f2 :: r)) ∨ (a = q ∧ s = gl (f :: f2 :: r)))), rfl, ⟨hG, fun a c s ha => Or.elim ha .inl (fun h => h.2.2.2.elim (fun h => .inr (.inl h.1)) (fun h => .inr (.inr ⟨h.1, ho, h.2⟩)))⟩, ct_next hI hG (fun j _ => rfl) (fun j _ => rfl) (by omega) hg (fun hl => lc cur (by rw [hcur hl, ecur]) hl.1) (fun a c s ha => ?_) (fun o' c s ha => ?_) (fun o' c s ha => ?_) (fun o' c s ha => ?_) (fun o' c s ha => ?_) (fun o' c s ha => ?_) (fun o' c s ha => ?_) (hF2.mono hG (q := q) (fun j _ _ => rfl) (a2.2.2.2.mono (by show o ≤ q; omega))) (wk_st.tl a2) (by simp only [List.length_cons] at a3; omega) ⟨hT3.1, ⟨tp (fe f) ++ ex, by rw [ecur, b8, List.append_assoc]⟩, fun h => hcn (c0.mpr h), hT3.2.2.2⟩ (fun h => .inr ⟨c0.mpr h, rfl, rfl, .inl ⟨rfl, rfl⟩⟩) (fun y hy => a10 y (List.mem_cons_of_mem _ hy)) hwk⟩
    · rcases ha with h | ⟨hv, -, e2, ⟨e1, e3⟩ | ⟨e1, e3⟩⟩
      · exact .inl h
      · exact .inr (.inl ⟨e1, e2, e3, c0.mp hv⟩)
      · obtain ⟨m, hm⟩ := a11
        rw [e1, e3]
        exact .inr (.inr ⟨⟨a1, hm.lt, by rw [e2]; exact hT3.2.2.2.2.2.2, by rw [e2]; exact hcn hv, m, (o, x) :: st, hm, a2, hmp⟩, by omega, lc c e2 hv⟩)
    · rcases ha with h | ⟨-, h, -⟩
      · exact .inl h
      · cases h
    · rcases ha with h | ⟨-, h, -⟩
      · exact .inl h
      · cases h
    · rcases ha with h | ⟨-, h, -⟩
      · exact .inl h
      · cases h
    · rcases ha with ⟨h1, h2, h3, h4⟩ | h
      · have e9 : o' = o := by omega
        subst e9
        refine .inr ?_
        have gg : (fun k a c s => G k a c s ∨ (fv f = true ∧ k = 0 ∧ c = cur' ∧ ((a = q + 1 ∧ s = gl (f2 :: r)) ∨ (a = q ∧ s = gl (f :: f2 :: r)))) : ctG) 0 (q + 1) c s := .inr ⟨h1, rfl, by rw [h3, ecur], .inl ⟨rfl, h4⟩⟩
        rcases d with ⟨d1, -⟩ | ⟨e, d1, d2, d3, d4, d5, d6, d7⟩
        · exact ⟨q, q, ⟨by omega, by omega, hno d1⟩, .inr ⟨by omega, rfl⟩, gg⟩
        · obtain ⟨g1, g2⟩ := hse e d1
          exact ⟨e, q, ⟨by omega, by omega, d7⟩, .inl ⟨d5, d2, by omega, g1⟩, gg⟩
      · exact .inl h
    · rcases ha with ⟨h1, h2, h3, h4, h5⟩ | h
      · have e9 : o' = o := by omega
        subst e9
        refine .inr ?_
        rcases d with ⟨d1, -⟩ | ⟨e, d1, d2, d3, -⟩
        · exact ⟨q, ⟨by omega, by omega, hno d1⟩, .inr ⟨by omega, .inr ⟨h1, rfl, by rw [h4, ecur, h64 h2]; rfl, .inl ⟨rfl, h5⟩⟩⟩⟩
        · omega
      · exact .inl h
    · rcases ha with ⟨h1, h2, h3, h4, h5⟩ | h
      · have e9 : o' = o := by omega
        subst e9
        refine .inr ?_
        rcases d with ⟨d1, d2, -⟩ | ⟨e, d1, d2, d3, d4, d5, d6, d7⟩
        · omega
        · obtain ⟨g1, g2⟩ := hse e d1
          exact ⟨e, q, ⟨by omega, by omega, d7⟩, d5, ⟨d2, by omega, g1⟩, .inr ⟨h1, rfl, by rw [h3, ecur], .inr ⟨rfl, by rw [h4, eg]⟩⟩⟩
      · exact .inl h
/-- what is left when a body has been checked to its end -/
def ct_ZG (n : Nat → Nat) (vs : Nat → Nat → Int64) (cb lo : Nat → Int32) (t lcn p0 E : Nat) (ν0 ν : Nat → Int32) (rm : Int) (G : ctG) : Prop :=
  G 0 p0 [] [] ∧ (∀ a c gs, G 0 a c gs → (p0 ≤ a ∧ a < E ∧ (c.length : Int) ≤ rm ∧ cnc c ∧ ct_w cb ν0 E a gs) ∧ ct_LC n vs cb lo t lcn ν0 G (ct_B ν p0 E) ((cb a).toInt % 256) a c gs) ∧ (∀ o c gs, G 1 o c gs → ct_ra cb G (ct_B ν p0 E) o c gs) ∧ (∀ o c gs, G 2 o c gs → ct_rb cb G (ct_B ν p0 E) o c gs) ∧ (∀ o c gs, G 3 o c gs → ct_rc cb G (ct_B ν p0 E) o c gs)
def ct_Z (n : Nat → Nat) (vs : Nat → Nat → Int64) (cb lo : Nat → Int32) (t lcn p0 E : Nat) (ν0 ν : Nat → Int32) (rm : Int) : Prop := ∃ G : ctG, ct_ZG n vs cb lo t lcn p0 E ν0 ν rm G
theorem ct_fin {r3 : Int} (hI : ct_I n vs cb lo t lcn p0 E ν0 G ν q cur f r [] g) (h0 : G 0 p0 [] []) (ho : (cb q).toInt = 11) (hn : (ν0 q).toInt = 1) (hE : q + 1 = E) (hres : (vs 0 (5 * t + 4)).toInt ≠ 0) (ht : ck_tk f cur (fe f) r3 (fb f)) (hp : ck_pt (fb f) g (fe f) cur' g') : r = [] ∧ ct_ZG n vs cb lo t lcn p0 E ν0 ν g' G := by
  obtain ⟨⟨a1, a2, a3, a4⟩, a5, a6, a7, a8, a9, a10, a11⟩ := id hI
  cases r with
  | cons f2 r => obtain ⟨o', x', st'', e, -⟩ := a4; cases e
  | nil =>
    refine ⟨rfl, ?_⟩
    obtain ⟨-, m1, m2, m3, m4, m5, m6⟩ := a4
    obtain ⟨hT2, u1, -⟩ := a5.tk ht
    have hg : g ≤ g' := by
      rcases hp with ⟨-, -, e⟩ | ⟨-, -, e⟩ <;> omega
    have hB : ∀ j v, ct_B ν p0 q j v → ct_B ν p0 E j v := ct_B.mono (fun j _ _ => rfl) (by omega)
    have hG : ∀ k a c s, G k a c s → G k a c s := fun k a c s h => h
    refine ⟨h0, fun a c gs ha => ?_, fun o c gs ha => ?_, fun o c gs ha => ?_, fun o c gs ha => ?_⟩
    · obtain ⟨⟨b1, b2, b3, b4, b5⟩, b6⟩ := a7 a c gs ha
      refine ⟨⟨b1, b2, by omega, b4, b5⟩, ?_⟩
      rcases b6 with ⟨e1, e2, e3, e4⟩ | ⟨b6, b7⟩
      · rw [e1, e2, e3]
        refine LC_4 (by omega) (.inl ⟨⟨a1, by omega, by rw [a9 q (Nat.le_refl q)]; exact hn⟩, rfl, ?_⟩)
        rw [u1 e4 (by rw [m4]; exact hres), m4, m5, List.append_nil]
      · exact b7.mono hG hB
    · rcases a8.1 o c gs ha with (⟨-, h, -⟩ | h) | h
      · omega
      · exact h.elim
      · exact h.mono hG hB
    · rcases a8.2.1 o c gs ha with (⟨-, h, -⟩ | h) | h
      · omega
      · exact h.elim
      · exact h.mono hG hB
    · rcases a8.2.2 o c gs ha with (⟨-, h, -⟩ | h) | h
      · omega
      · exact h.elim
      · exact h.mono hG hB
end CT3
