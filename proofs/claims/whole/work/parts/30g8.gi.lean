-- equality: control, an instruction
section GI
variable {own ad : Nat → Nat} {h : xb_H} {W : wD} {σ D : Nat} {gx : Nat → fG} {t P lcn p0 E : Nat} {lo ν0 : Nat → Int32} {g : Nat} {G : ctG} {A : Nat → Nat} {F : Nat → Nat → Int32} {DM : Nat → zM} {most : Nat → Int64} {x : cX} {r : List cX} {n : Nat} {v ω : Nat → Int64} {T p0' E' : Nat} {lo' ν0' ν1' : Nat → Int32} {G' : ctG} {V' : Nat → Prop} {rm : Int} {w w' : rWd} {z : cZ} {z' : rZ} {op : Nat} {φ : Nat → Nat → Int32}
theorem z_op0 {op : Nat} (h32 : op < 32) (hs : wk_sh (op : Int) < 13) (hfn : frN op) (o4 : ¬ op = 4) (o12 : ¬ op = 12) (o13 : ¬ op = 13) (o14 : ¬ op = 14) (o15 : ¬ op = 15) (o16 : ¬ op = 16) (o17 : ¬ op = 17) (o26 : ¬ op = 26) (o27 : ¬ op = 27) : op = 0 := by
  unfold frN at hfn
  obtain ⟨f1, f2, f3, f5, f11⟩ := hfn
  have key : ∀ k : Nat, k < 32 → k ∈ [0, 1, 2, 3, 4, 5, 11, 12, 13, 14, 15, 16, 17, 26, 27] ∨ 13 ≤ wk_sh (k : Int) := by decide
  rcases key op h32 with h9 | h9
  · simp only [List.mem_cons, List.not_mem_nil, or_false] at h9
    omega
  · omega
/-- a branch after a value was taken -/
theorem cq_bp {i : Nat} {c c2 : List Int} {wn : Int} {o : Oc} {y : uZ} (hc : cmP own ad h W σ D gx t P lcn p0 E lo ν0 g G A F DM most x r n ω T p0' E' lo' ν0' ν1' G' V' rm) (hC : gC (gx (D - 1)) = 127 :: c) (hl2 : c2.length = c.length) (hbr : ct_br (dcb (wd W (gI (gx (D - 1))))) (dvs (wd W (gI (gx (D - 1)))) 0 (5 * t + 4)).toInt G (ct_B (dnu (wd W (gI (gx (D - 1))))) p0 E) i wn c (gS (gx (D - 1))))
    (hb : brC W D (va_up gx (D - 1) (gR_ (gx (D - 1)) (gA (gx (D - 1))) c)) (xb_l h (ad 37)) (ct_B (dnu (wd W (gI (gx (D - 1))))) p0 E) i (gS (gx (D - 1))) o) (hr : brR (fMo (fun k => F (A k)) DM x.1) (fTy (fun k => F (A k)) DM x.1) x.2.1 x.2.2.1 (ct_B ν1' p0' E') c2 x.2.2.2.2.2 ω i y) : ∃ yy, uC (fMo (fun k => F (A k)) DM x.1) (fTy (fun k => F (A k)) DM x.1) x.1 x.2.1 x.2.2.1 r y = .inl yy ∧ oQ W (fun k => F (A k)) DM o (.inl yy) := by
  obtain ⟨hpl, hp0, h0, e1, e2, e3, e4⟩ := hc.pl
  obtain ⟨hvs, hbo, hb0, hbD, hLC, hv, -⟩ := hc.ty
  obtain ⟨t1, t2⟩ := hc.rt
  have hO := hc.2.2.2.2.2.1
  have hgq := hpl.2.2.2.2.2.2.2
  have hl := hpl.2.2.2.2.2.2.1
  have eg : va_up gx (D - 1) (gR_ (gx (D - 1)) (gA (gx (D - 1))) c) (D - 1) = gR_ (gx (D - 1)) (gA (gx (D - 1))) c := by rw [xh_up, if_pos rfl]
  have hO2 : oQ W (fun k => F (A k)) DM (.inl (D, va_up gx (D - 1) (gR_ (gx (D - 1)) (gA (gx (D - 1))) c), xb_l h (ad 37))) (.inl ((x.1, x.2.1, x.2.2.1, qb (fMo (fun k => F (A k)) DM x.1) + gA (gx (D - 1)), c2, x.2.2.2.2.2) :: r, n, ω)) := by
    refine oQ.go hO (by rw [hp0]; exact hl) hl2 (by rw [hp0]; exact hgq) (fun j hj => hv j ?_)
    rw [hC, List.length_cons]
    omega
  refine cq_br (d := wd W (gI (gx (D - 1)))) (x := (x.1, x.2.1, x.2.2.1, qb (fMo (fun k => F (A k)) DM x.1) + gA (gx (D - 1)), c2, x.2.2.2.2.2)) (k := gK (gx (D - 1))) (t := t) (P := P) (lcn := lcn) (E := E) (lo := lo) (ν0 := ν0) (g := g) (G := G) (t' := fTy (fun k => F (A k)) DM x.1) (T := T) (lo' := lo') (ν0' := ν0') (G' := G') (V' := V') (rm := rm) (a := gA (gx (D - 1))) (c := gC (gx (D - 1))) (c' := x.2.2.2.2.1) (p0 := p0) (p0' := p0') (E' := E') (ν1' := ν1') (wn := wn) (res := (dvs (wd W (gI (gx (D - 1)))) 0 (5 * t + 4)).toInt) hO2 (by rw [eg]; rfl) (by rw [eg]; exact hpl) (by rw [eg]; exact hp0) (by rw [eg]; exact hbr) (by rw [eg]; exact t2) (by rw [← t2]; exact t1) ?_ ?_ (by rw [eg]; show vst _ (gO (gx (D - 1))) c; rw [hC] at hvs; exact hvs.2) (by rw [eg]; exact hbo) (by rw [eg]; exact hb) hr
  · rw [xh_up]
    split
    · next e9 =>
      show gB (gx (D - 1)) = 0
      rw [← e9]
      exact hb0
    · exact hb0
  · intro j hj
    rw [xh_up, xh_up, if_neg (show ¬ j = D - 1 by omega)]
    split
    · next e9 =>
      show gB (gx (D - 1)) = _
      rw [← e9]
      exact hbD j hj
    · exact hbD j hj
/-- a call out of an instruction -/
theorem cq_ca {f y0 : Nat} {c c2 : List Int} {o : Oc} {e : Option Int64} {n0 : Nat} (hc : cmP own ad h W σ D gx t P lcn p0 E lo ν0 g G A F DM most x r n ω T p0' E' lo' ν0' ν1' G' V' rm) (hl9 : lw (qc (fMo (fun k => F (A k)) DM x.1)) (qb (fMo (fun k => F (A k)) DM x.1) + p0) (qb (fMo (fun k => F (A k)) DM x.1) + y0)) (hC : (fT W f).1.length + c.length ≤ (gC (gx (D - 1))).length) (hl2 : c2.length = c.length) (hn0 : w.2.2.2.2.2.1.toInt = n0)
    (hcl : clR W D (va_up gx (D - 1) (gT_ (gx (D - 1)) y0 c (gS (gx (D - 1))))) (xb_l h (ad 37)) f (gO (gx (D - 1)) + c.length) n0 (gA (gx (D - 1))) o e) (hca : caR A F DM ((x.1, x.2.1, x.2.2.1, qb (fMo (fun k => F (A k)) DM x.1) + y0, c2, x.2.2.2.2.2) :: r) (x.2.1 + x.2.2.1 + c2.length) (fmp f) ω w w' z) (htz : tzR A F x z z') :
    oQ W (fun k => F (A k)) DM o z' ∧ ((e = none ∧ w' = w) ∨ ∃ y, e = some y ∧ w' = (w.1, w.2.1, w.2.2.1, w.2.2.2.1, w.2.2.2.2.1, w.2.2.2.2.2.1 + 1, va_up w.2.2.2.2.2.2 w.2.2.2.2.2.1.toInt.toNat y)) := by
  obtain ⟨hpl, hp0, h0, e1, e2, e3, e4⟩ := hc.pl
  obtain ⟨hvs, hbo, hb0, hbD, hLC, hv, -⟩ := hc.ty
  have hO := hc.2.2.2.2.2.1
  have hgq := hpl.2.2.2.2.2.2.2
  have eg : va_up gx (D - 1) (gT_ (gx (D - 1)) y0 c (gS (gx (D - 1)))) (D - 1) = gT_ (gx (D - 1)) y0 c (gS (gx (D - 1))) := by rw [xh_up, if_pos rfl]
  have hfr : frQ W (fun k => F (A k)) DM (va_up gx (D - 1) (gT_ (gx (D - 1)) y0 c (gS (gx (D - 1))))) ((x.1, x.2.1, x.2.2.1, qb (fMo (fun k => F (A k)) DM x.1) + y0, c2, x.2.2.2.2.2) :: r) D := frQ.go hO (by rw [hp0]; exact hl9) hl2 (by rw [hp0]; exact hgq)
  rw [e2, hl2] at hca
  have hk := clQ hc.1 hc.2.1 hc.2.2.2.2.1 hfr (fun _ => by rw [eg]; rfl) (fun j hj => hv j (by omega)) hn0 hcl hca
  rcases hk with ⟨k1, k2, ⟨y, k3, k4⟩ | ⟨κ, -, kp, k3, k4⟩⟩ | ⟨k1, k8, k2, k3, k4⟩
  · subst k3
    have ez : z' = _ := htz
    subst ez
    exact ⟨k4, .inl ⟨k1, k2⟩⟩
  · subst k3
    rw [k4, trD_up]
    exact ⟨trQ hc.2.1 hc.2.2.2.2.1 hO kp rfl htz, .inl ⟨k1, k2⟩⟩
  · subst k3
    have ez : z' = _ := htz
    subst ez
    refine ⟨k4, .inr ⟨_, k1, ?_⟩⟩
    rw [k2]
    by_cases h8 : (fT W f).1.length = 0
    · exfalso
      unfold fT at h8
      rw [if_pos k8] at h8
      cases h8
    · rw [hv _ (by omega)]
/-- control, in both -/
theorem cq_co {o : Oc} {e : Option Int64} {n0 : Nat} (hc : cmP own ad h W σ D gx t P lcn p0 E lo ν0 g G A F DM most x r n ω T p0' E' lo' ν0' ν1' G' V' rm) (hop : (dcb (wd W (gI (gx (D - 1)))) (gA (gx (D - 1)))).toInt % 256 = op) (hfn : frN op) (h32 : op < 32) (hn0 : w.2.2.2.2.2.1.toInt = n0) (hco : coC h ad W D gx n0 (ct_B (dnu (wd W (gI (gx (D - 1))))) p0 E) ν0 op (gS (gx (D - 1))) o e)
    (hst : stR A F DM (fMo (fun k => F (A k)) DM x.1) (fTy (fun k => F (A k)) DM x.1) x.1 x.2.1 x.2.2.1 (ct_B ν1' p0' E') ν0' op x.2.2.2.1 x.2.2.2.2.1 x.2.2.2.2.2 r ω most w w' z) (htz : tzR A F x z z') :
    oQ W (fun k => F (A k)) DM o z' ∧ ((e = none ∧ w' = w) ∨ ∃ y, e = some y ∧ w' = (w.1, w.2.1, w.2.2.1, w.2.2.2.1, w.2.2.2.2.1, w.2.2.2.2.2.1 + 1, va_up w.2.2.2.2.2.2 w.2.2.2.2.2.1.toInt.toNat y)) := by
  obtain ⟨hpl, hp0, h0, e1, e2, e3, e4⟩ := hc.pl
  obtain ⟨hvs, hbo, hb0, hbD, hLC, hv, -⟩ := hc.ty
  obtain ⟨t1, t2⟩ := hc.rt
  have hO := hc.2.2.2.2.2.1
  have hW := hc.2.1
  have hs := hc.2.2.2.2.1
  have hgq := hpl.2.2.2.2.2.2.2
  have hl := hpl.2.2.2.2.2.2.1
  have hfq : fQ W (fun k => F (A k)) DM (gx (D - 1)) x := by
    obtain ⟨-, ⟨D', ed, f, fr⟩, -⟩ := id hO
    have eD : D - 1 = D' := by omega
    rw [eD]
    exact f
  obtain ⟨hfM, hmQ, hmR, h44, h45, hnik, hgk, ⟨md, hmo⟩, hfT, hrT⟩ := hfq.md hW hs
  have hgi : gI (gx (D - 1)) < wic W := hfq.1.2.2.2.1
  rw [hop] at hLC
  rw [e3] at hst
  have hsh13 : wk_sh (op : Int) < 13 := by
    obtain ⟨-, -, -, V, -, -, -, -, -, -, ⟨m, d', wc⟩, -⟩ := hpl.core
    cases m with
    | zero => exact wc.elim
    | succ m =>
      obtain ⟨-, q', hW9, -⟩ := wc
      have := hW9.2.2.2.2.2.2.2.2.2.2.2
      rw [hpl.sh, hop] at this
      exact this
  have hshp : ∀ s : Nat, wk_sh (op : Int) = s → wk_sh ((dcb (wd W (gI (gx (D - 1)))) (gA (gx (D - 1)))).toInt % 256) = s := fun s hs9 => by rw [hop]; exact hs9
  obtain ⟨k4, k12, k13, k14, k15, k16, k17, k26, k27, k0⟩ := hco
  by_cases o4 : op = 4
  · obtain ⟨ke, c, kc, ko⟩ := k4 o4
    obtain ⟨w1, y, hfl, ez⟩ := hst.1 (by omega)
    obtain ⟨c2, r1, r2⟩ := hfl.2.2.2.1 o4
    have hl2 : c2.length = c.length := by
      rw [r1, kc, List.length_cons, List.length_cons] at e4
      omega
    have evv : xb_l h (ad 37) (gO (gx (D - 1)) + c.length) = ω (x.2.1 + x.2.2.1 + c2.length) := by
      rw [e2, hl2]
      exact hv _ (by rw [kc, List.length_cons]; omega)
    have s1 := hshp 1 (by rw [o4]; rfl)
    obtain ⟨⟨p1, p2⟩, en0, p3, p4, p5, p6, p7⟩ := hpl.op s1
    refine ⟨?_, .inl ⟨ke, w1⟩⟩
    have hvc : ∀ j, j < gO (gx (D - 1)) + c.length → xb_l h (ad 37) j = ω j := fun j hj => hv j (by rw [kc, List.length_cons]; omega)
    have hgc : gsQ (qc (fMo (fun k => F (A k)) DM x.1)) (qb (fMo (fun k => F (A k)) DM x.1)) p0 ((gA (gx (D - 1)), c) :: gS (gx (D - 1))) ((qb (fMo (fun k => F (A k)) DM x.1) + gA (gx (D - 1)), c2) :: x.2.2.2.2.2) := hgq.cn hl2 hl (by rw [hpl.sh]; exact s1)
    rcases ko with ⟨ka, ko⟩ | ⟨ka, en, kb, ko⟩
    · rcases r2 with ⟨ra, rz⟩ | ⟨ra, -⟩
      · subst rz
        subst ez
        have ez' : z' = _ := htz
        subst ez'
        rw [ko, Nat.add_assoc]
        exact oQ.go hO (by rw [hp0]; exact p1) hl2 (by rw [hp0]; exact hgc) hvc
      · exact absurd (evv.trans ra) ka
    · rcases r2 with ⟨ra, -⟩ | ⟨ra, en', rb, rz⟩
      · exact absurd (evv.symm.trans ka) ra
      · have q1 : (dnu (wd W (gI (gx (D - 1)))) (gA (gx (D - 1)) + 1)).toInt = en := kb.2.2
        have q2 : (ν1' (qb (fMo (fun k => F (A k)) DM x.1) + gA (gx (D - 1)) + 1)).toInt = en' := rb.2.2
        have q3 : en = en0 := by omega
        have q4 : en' = qb (fMo (fun k => F (A k)) DM x.1) + en0 := by omega
        subst q3
        subst q4
        have ecx : dcb (wd W (gI (gx (D - 1)))) en = qc (fMo (fun k => F (A k)) DM x.1) (qb (fMo (fun k => F (A k)) DM x.1) + en) := hpl.core.2.2.1.1 en (by have := hpl.core.2.1; omega)
        rw [← ecx] at rz
        rcases ko with ⟨ka5, ko⟩ | ⟨ka5, ko⟩
        · rcases rz with ⟨rz5, rz⟩ | ⟨rz5, -⟩
          · subst rz
            subst ez
            have ez' : z' = _ := htz
            subst ez'
            rw [ko, Nat.add_assoc]
            exact oQ.go hO (by rw [hp0]; exact p6) hl2 (by rw [hp0]; exact hgc) hvc
          · exact absurd ka5 rz5
        · rcases rz with ⟨rz5, -⟩ | ⟨rz5, rz⟩
          · exact absurd rz5 ka5
          · subst rz
            subst ez
            have ez' : z' = _ := htz
            subst ez'
            rw [ko, Nat.add_assoc]
            exact oQ.go hO (by rw [hp0]; exact p6) hl2 (by rw [hp0]; exact hgq) hvc
  by_cases o12 : op = 12
  · obtain ⟨ke, i, ki, ko⟩ := k12 o12
    obtain ⟨w1, y, hfl, ez⟩ := hst.1 (by omega)
    obtain ⟨i', r1, r2⟩ := hfl.2.2.2.2.2.2.1 o12
    have s4 := hshp 4 (by rw [o12]; rfl)
    have ei := hpl.cnt (.inl s4) ki r1
    subst ei
    obtain ⟨i9, wn, l1, -, l3⟩ := hLC.2.2.2.2.2.1 (by rw [o12]; rfl)
    have ei9 : i9 = i' := by omega
    subst ei9
    obtain ⟨yy, y1, y2⟩ := cq_br hO rfl hpl hp0 l3 t2 (by rw [t1, t2]) hb0 hbD hvs hbo ko r2
    rw [y1] at ez
    subst ez
    have ez' : z' = _ := htz
    subst ez'
    exact ⟨y2, .inl ⟨ke, w1⟩⟩
  by_cases o13 : op = 13
  · obtain ⟨ke, c, kc, ko⟩ := k13 o13
    obtain ⟨w1, y, hfl, ez⟩ := hst.1 (by omega)
    obtain ⟨c2, r1, r2⟩ := hfl.2.2.2.2.2.2.2.1 o13
    have hl2 : c2.length = c.length := by
      rw [r1, kc, List.length_cons, List.length_cons] at e4
      omega
    have evv : xb_l h (ad 37) (gO (gx (D - 1)) + c.length) = ω (x.2.1 + x.2.2.1 + c2.length) := by
      rw [e2, hl2]
      exact hv _ (by rw [kc, List.length_cons]; omega)
    have s4 := hshp 4 (by rw [o13]; rfl)
    refine ⟨?_, .inl ⟨ke, w1⟩⟩
    rcases ko with ⟨ka, i, ki, ko⟩ | ⟨ka, xx, kb, ko⟩
    · rcases r2 with ⟨ra, i', ri, rz⟩ | ⟨ra, -⟩
      · have ei := hpl.cnt (.inl s4) ki ri
        subst ei
        obtain ⟨i9, wn, c9, x9, l1, -, l2, l3, -⟩ := hLC.2.2.2.2.2.2.1 (by rw [o13]; rfl)
        have ei9 : i9 = i' := by omega
        subst ei9
        rw [kc] at l2
        have ec := (List.cons.inj l2).2
        subst ec
        obtain ⟨yy, y1, y2⟩ := cq_bp hc kc hl2 l3 ko rz
        rw [y1] at ez
        subst ez
        have ez' : z' = _ := htz
        subst ez'
        exact y2
      · exact absurd (evv.trans ra) ka
    · rcases r2 with ⟨ra, -⟩ | ⟨ra, x', rb, rz⟩
      · exact absurd (evv.symm.trans ka) ra
      · obtain ⟨q1, q2⟩ := hpl.nx2 (by omega) kb rb
        subst q1
        subst rz
        subst ez
        have ez' : z' = _ := htz
        subst ez'
        rw [ko]
        exact oQ.go hO (by rw [hp0]; exact q2) hl2 (by rw [hp0]; exact hgq) (fun j hj => hv j (by rw [kc, List.length_cons]; omega))
  by_cases o14 : op = 14
  · obtain ⟨ke, c, kc, L, kk, i, kL, kmin, ki, ko⟩ := k14 o14
    obtain ⟨w1, y, hfl, ez⟩ := hst.1 (by omega)
    obtain ⟨c2, r1, L', kk', i', rL, rmin, ri, r2⟩ := hfl.2.2.2.2.2.2.2.2.1 o14
    have hl2 : c2.length = c.length := by
      rw [r1, kc, List.length_cons, List.length_cons] at e4
      omega
    have s5 := hshp 5 (by rw [o14]; rfl)
    have eL := hpl.cnt (.inr (.inl s5)) kL rL
    subst eL
    have hvv : vr 127 (xb_l h (ad 37) (gO (gx (D - 1)) + c.length)) := by
      rw [kc] at hvs
      exact hvs.1
    obtain ⟨v1, v2⟩ := hvv (.inl rfl)
    have ek : kk' = kk := by
      rw [e2, hl2, ← hv _ (by rw [kc, List.length_cons]; omega), Z_low] at rmin
      omega
    subst ek
    obtain ⟨L9, c9, l1, -, l2, l3⟩ := hLC.2.2.2.2.2.2.2.1 (by rw [o14]; rfl)
    rw [kc] at l2
    have ec := (List.cons.inj l2).2
    subst ec
    have hkL : kk' ≤ L9 := by omega
    obtain ⟨i9, wn, l4, -, l5⟩ := l3 kk' hkL
    have ei9 : i9 = i := by omega
    subst ei9
    have ei := hpl.lb s5 l1 hkL ki ri
    subst ei
    obtain ⟨yy, y1, y2⟩ := cq_bp hc kc hl2 l5 ko r2
    rw [y1] at ez
    subst ez
    have ez' : z' = _ := htz
    subst ez'
    exact ⟨y2, .inl ⟨ke, w1⟩⟩
  by_cases o15 : op = 15
  · obtain ⟨ke, ko⟩ := k15 o15
    obtain ⟨w1, y, hfl, ez⟩ := hst.1 (by omega)
    have r1 := hfl.2.2.2.2.2.2.2.2.2 o15
    subst r1
    subst ez
    have ez' : z' = _ := htz
    subst ez'
    obtain ⟨c9, l1⟩ := hLC.2.2.2.2.2.2.2.2.1 (by rw [o15]; rfl)
    rw [← t2] at l1
    rw [ko]
    exact ⟨oQ.le hO hb0 hbD l1 hvs hbo t1, .inl ⟨ke, w1⟩⟩
  by_cases o16 : op = 16
  · obtain ⟨i, xx, c, ki, kn, kb, kv, kC, ko⟩ := k16 o16
    obtain ⟨-, -, r16, -⟩ := hst.2.1 (by omega) h32
    obtain ⟨i', x', c2, ri, rn, rb, rC9, rz⟩ := r16 o16
    have s4 := hshp 4 (by rw [o16]; rfl)
    have ei := hpl.cnt (.inl s4) ki ri
    subst ei
    obtain ⟨q1, q2⟩ := hpl.nx2 (by omega) kb rb
    subst q1
    obtain ⟨f1, f2⟩ := fnI_ty hW hgi kn
    obtain ⟨f3, f4, f5, f6⟩ := hmQ.ft hmo kn
    have elen : (fT W (fnI h W (gI (gx (D - 1))) i')).1.length = tPn (fMo (fun k => F (A k)) DM x.1) (fty (fMo (fun k => F (A k)) DM x.1) i') := by rw [f2, f6, ptl_len]
    have hl2 : c2.length = c.length := by
      rw [rC9, kC, List.length_append, List.length_append, ptl_len, elen] at e4
      omega
    have emn : mnV A F DM (F (A 44) x.1).toInt.toNat 0 i' = fmp (fnI h W (gI (gx (D - 1))) i') := by
      rw [h44, Int.toNat_natCast]
      exact (hs.2.2.1 _ hgi).1 i' kn
    rw [emn] at rz
    exact cq_ca hc q2 (by rw [kC, List.length_append]; omega) hl2 hn0 ko rz htz
  by_cases o17 : op = 17
  · obtain ⟨u, j, κ, f, c0, ku, kn, kt, kC, kj, kce, ko⟩ := k17 o17
    obtain ⟨-, -, -, r17⟩ := hst.2.1 (by omega) h32
    obtain ⟨u', c2, j', tf, tz, ru, rn, rC9, rj, rtf, rtz, rz⟩ := r17 o17
    have s6 := hshp 6 (by rw [o17]; rfl)
    have eu := hpl.cnt (.inr (.inr s6)) ku ru
    subst eu
    have hl0 : (ptl (qc (fMo (fun k => F (A k)) DM x.1)) (tPa (fMo (fun k => F (A k)) DM x.1) u') (tPn (fMo (fun k => F (A k)) DM x.1) u') ++ c2).length = c0.length := by
      rw [rC9, kC, List.length_cons, List.length_cons] at e4
      omega
    have hvv : vr 127 (xb_l h (ad 37) (gO (gx (D - 1)) + c0.length)) := by
      rw [kC] at hvs
      exact hvs.1
    obtain ⟨v1, v2⟩ := hvv (.inl rfl)
    have ej : j' = j := by
      rw [e2, hl0, ← hv _ (by rw [kC, List.length_cons]; omega), Z_low] at rj
      omega
    subst ej
    rw [h44, Int.toNat_natCast] at rtf rtz
    obtain ⟨s1, s2⟩ := hs.2.2.2.1 _ hgi kt
    have etf : tf = tbF h W (gI (gx (D - 1))) := by omega
    have etz : tz = tbZ h W (gI (gx (D - 1))) := by omega
    subst etf
    subst etz
    obtain ⟨ty1, ty2, ty3⟩ := hmQ.ty hmo rn
    obtain ⟨-, -, -, -, -, ⟨d1, d2⟩, -⟩ := (hW.2.2.2.2.2.2.1.2.2.2 _ hgi).2
    obtain ⟨ta, ta1⟩ := d1 kt
    obtain ⟨ta2, ta3, fr9, sz9, ta4, ta5, ta6⟩ := d2 ta ta1
    have htb : tbF h W (gI (gx (D - 1))) + tbZ h W (gI (gx (D - 1))) ≤ wne W := by
      unfold tbF tbZ
      rw [ta1, Option.getD_some]
      omega
    have htrp : ∀ κ9 : Int32, 0 < κ9.toInt → κ9.toInt = κ → z = .inr κ9 → w' = w → o = trD κ D gx (gA (gx (D - 1))) → e = none → oQ W (fun k => F (A k)) DM o z' ∧ ((e = none ∧ w' = w) ∨ ∃ y, e = some y ∧ w' = (w.1, w.2.1, w.2.2.1, w.2.2.2.1, w.2.2.2.2.1, w.2.2.2.2.2.1 + 1, va_up w.2.2.2.2.2.2 w.2.2.2.2.2.1.toInt.toNat y)) := by
      intro κ9 z0 z1 z2 z3 z4 z5
      subst z2
      rw [z4]
      exact ⟨trQ hW hs hO z0 z1 htz, .inl ⟨z5, z3⟩⟩
    rcases kce with ⟨a1, a2⟩ | ⟨a1, a2, a3⟩ | ⟨a1, a2, a3, a4, a5⟩ | ⟨a1, a2, a3, a4, a5⟩
    · rcases ko with ⟨-, ke, ko⟩ | ⟨ko, -⟩
      · rcases rz with ⟨-, b2, b3⟩ | ⟨b1, -⟩ | ⟨b1, -⟩
        · exact htrp 6 (by decide) (by rw [a1]; rfl) b3 b2 ko ke
        · omega
        · omega
      · omega
    · rcases ko with ⟨-, ke, ko⟩ | ⟨ko, -⟩
      · rcases rz with ⟨b1, -⟩ | ⟨-, b1, b2, b3⟩ | ⟨-, f', b1, -⟩
        · omega
        · exact htrp 7 (by decide) (by rw [a1]; rfl) b3 b2 ko ke
        · rcases hs.2.2.2.2.1 (tbF h W (gI (gx (D - 1))) + j') (by omega) with ⟨-, g2⟩ | ⟨f9, g1, -⟩
          · rw [g2] at b1
            simp at b1
            omega
          · omega
      · omega
    · obtain ⟨g1, g2⟩ : ∃ _ : True, (F (A 51) (tbF h W (gI (gx (D - 1))) + j')).toInt = (fmp f + 1 : Nat) := by
        rcases hs.2.2.2.2.1 (tbF h W (gI (gx (D - 1))) + j') (by omega) with ⟨g1, -⟩ | ⟨f9, g1, g2, g3⟩
        · omega
        · have : f9 = f := by omega
          subst this
          exact ⟨trivial, g3⟩
      obtain ⟨ft1, ft2⟩ := hs.ft hW a4
      rcases ko with ⟨-, ke, ko⟩ | ⟨ko, -⟩
      · rcases rz with ⟨b1, -⟩ | ⟨-, b1, -⟩ | ⟨-, f', b1, b2⟩
        · omega
        · rw [b1] at g2
          simp at g2
          omega
        · have ef : f' = fmp f := by omega
          subst ef
          rw [ft1, ft2] at b2
          rcases b2 with ⟨-, b3, b4⟩ | ⟨b2, -⟩
          · exact htrp 8 (by decide) (by rw [a1]; rfl) b4 b3 ko ke
          · exfalso
            apply a5
            rw [ty1, ← b2.1, ← b2.2]
      · omega
    · obtain ⟨g1, g2⟩ : ∃ _ : True, (F (A 51) (tbF h W (gI (gx (D - 1))) + j')).toInt = (fmp f + 1 : Nat) := by
        rcases hs.2.2.2.2.1 (tbF h W (gI (gx (D - 1))) + j') (by omega) with ⟨g1, -⟩ | ⟨f9, g1, g2, g3⟩
        · omega
        · have : f9 = f := by omega
          subst this
          exact ⟨trivial, g3⟩
      obtain ⟨ft1, ft2⟩ := hs.ft hW a4
      rcases ko with ⟨ko, -⟩ | ⟨-, xx, c, kb, kc, ko⟩
      · exact absurd a1 ko
      · rcases rz with ⟨b1, -⟩ | ⟨-, b1, -⟩ | ⟨-, f', b1, b2⟩
        · omega
        · rw [b1] at g2
          simp at g2
          omega
        · have ef : f' = fmp f := by omega
          subst ef
          rw [ft1, ft2] at b2
          rcases b2 with ⟨b2, -⟩ | ⟨b2, x', rb, rz9⟩
          · exfalso
            apply b2
            rw [a5, ty1]
            exact ⟨rfl, rfl⟩
          · obtain ⟨q1, q2⟩ := hpl.nx2 (by omega) kb rb
            subst q1
            have hl2 : c2.length = c.length := by
              rw [List.length_append, kc, List.length_append, ← b2.1] at hl0
              omega
            exact cq_ca hc q2 (by rw [kC, List.length_cons, kc, List.length_append]; omega) hl2 hn0 ko rz9 htz
  by_cases o26 : op = 26
  · obtain ⟨ke, rr, c, kC, ko⟩ := k26 o26
    obtain ⟨r26, -⟩ := hst.2.1 (by omega) h32
    obtain ⟨y9, c1, rC9, rw9, rz⟩ := r26 o26
    have hl2 : c1.length = c.length := by
      rw [rC9, kC, List.length_cons, List.length_cons] at e4
      omega
    subst rz
    have ez' : z' = _ := htz
    subst ez'
    rw [ko, Nat.add_assoc]
    refine ⟨oQ.go hO ?_ hl2 (by rw [hp0]; exact hgq) (fun j hj => hv j (by rw [kC, List.length_cons]; omega)), .inl ⟨ke, rw9⟩⟩
    rw [hp0]
    exact hpl.n0 (.inl (hshp 0 (by rw [o26]; rfl)))
  by_cases o27 : op = 27
  · obtain ⟨ke, rr, c, kC, ko⟩ := k27 o27
    obtain ⟨-, r27, -⟩ := hst.2.1 (by omega) h32
    obtain ⟨y9, c1, rC9, rw9, rz⟩ := r27 o27
    have hl2 : c1.length = c.length := by
      rw [rC9, kC, List.length_cons, List.length_cons, List.length_cons, List.length_cons, List.length_cons, List.length_cons] at e4
      omega
    subst rz
    have ez' : z' = _ := htz
    subst ez'
    have hlc : (gC (gx (D - 1))).length = c.length + 3 := by rw [kC]; rfl
    rw [ko, Nat.add_assoc (qb (fMo (fun k => F (A k)) DM x.1)) (gA (gx (D - 1))) 1]
    refine ⟨oQ.go hO ?_ (by rw [List.length_cons, List.length_cons, hl2]) (by rw [hp0]; exact hgq) (fun j hj => ?_), .inl ⟨ke, rw9⟩⟩
    · rw [hp0]
      exact hpl.n0 (.inl (hshp 0 (by rw [o27]; rfl)))
    · rw [List.length_cons] at hj
      rw [e2, hl2, ← hv (gO (gx (D - 1)) + c.length + 2) (by omega), ← hv (gO (gx (D - 1)) + c.length + 1) (by omega), ← hv (gO (gx (D - 1)) + c.length) (by omega)]
      by_cases hzz : xb_l h (ad 37) (gO (gx (D - 1)) + c.length + 2) = 0
      · rw [if_pos hzz, if_pos hzz, xh_up, xh_up]
        split
        · rfl
        · exact hv j (by omega)
      · rw [if_neg hzz, if_neg hzz, xh_up]
        split
        · next e9 => rw [e9]
        · exact hv j (by omega)
  · have hz : op = 0 := z_op0 h32 hsh13 hfn o4 o12 o13 o14 o15 o16 o17 o26 o27
    obtain ⟨ke, ko⟩ := k0 o4 (.inl (by rw [hz]; decide))
    obtain ⟨w1, y, hfl, ez⟩ := hst.1 (by omega)
    have r1 := hfl.1 hz
    subst r1
    subst ez
    rw [ko]
    exact ⟨trQ hW hs hO (by decide) rfl htz, .inl ⟨ke, w1⟩⟩
end GI
