-- a run: a branch
/-- a branch of the class to label i: the outcome -/
def brC (W : wD) (D : Nat) (gx : Nat → fG) (v : Nat → Int64) (B : ctN) (i : Nat) (gs : List gF) (o : Oc) : Prop :=
  (i = gs.length ∧ o = ecO W D gx v) ∨ ∃ (oo : Nat) (b : List Int), gs[i]? = some (oo, b) ∧ (((dcb (wd W (gI (gx (D - 1)))) oo).toInt = 3 ∧ o = .inl (D, va_up gx (D - 1) (gT_ (gx (D - 1)) (oo + 2) b (gs.drop i)), v)) ∨
    ((dcb (wd W (gI (gx (D - 1)))) oo).toInt ≠ 3 ∧ ∃ e x : Nat, B (oo + 1) e ∧ (((dcb (wd W (gI (gx (D - 1)))) e).toInt = 5 ∧ B e x) ∨ ((dcb (wd W (gI (gx (D - 1)))) e).toInt ≠ 5 ∧ x = e)) ∧ o = .inl (D, va_up gx (D - 1) (gT_ (gx (D - 1)) (x + 1) (tp (dcb (wd W (gI (gx (D - 1)))) (oo + 1)).toInt ++ b) (gs.drop (i + 1))), if (dcb (wd W (gI (gx (D - 1)))) (oo + 1)).toInt = 64 then v else va_up v (gO (gx (D - 1)) + b.length) (v (gO (gx (D - 1)) + (gC (gx (D - 1))).length - 1)))))
section RND
variable {own own' ad ad' : Nat → Nat} {h h' : xb_H} {W : wD} {σ D : Nat} {gx : Nat → fG} {t P lcn p0 E g : Nat} {lo ν0 : Nat → Int32} {G : ctG}
theorem rX.rT_ (hr : rX ad h W D gx t P lcn p0 E lo ν0 g G) : rT W (gx (D - 1)) = (dvs (wd W (gI (gx (D - 1)))) 0 (5 * t + 4)).toInt := by
  obtain ⟨-, -, -, ⟨a, a5, b1, -⟩, -, -⟩ := id hr
  obtain ⟨⟨c1, c2, c3, c4, c5⟩, -⟩ := id b1
  show (dvs (wd W (gI (gx (D - 1)))) 0 (5 * (dvs (wd W (gI (gx (D - 1)))) 2 (2 * gK (gx (D - 1)) + 1)).toInt.toNat + 4)).toInt = _
  rw [c3, Int.toNat_natCast]
theorem mc_branch {i : Nat} {w : Int} {gs : List gF} {x1 : Int32} {Qr : xb_H → Prop} (hB : cB own ad h) (hW : wI own ad h W σ) (hS : mS ad h) (hr : rX ad h W D gx t P lcn p0 E lo ν0 g G) (hx : x1.toInt = w) (hbr : ct_br (dcb (wd W (gI (gx (D - 1))))) (dvs (wd W (gI (gx (D - 1)))) 0 (5 * t + 4)).toInt G (ct_B (dnu (wd W (gI (gx (D - 1))))) p0 E) i w (gC (gx (D - 1))) gs)
    (hQ : ∀ (h' : xb_H) (o : Oc), stp [15, 37] [] own ad own ad h h' → oR ad h ad h' W o → brC W D gx (xb_l h (ad 37)) (ct_B (dnu (wd W (gI (gx (D - 1))))) p0 E) i gs o → Qr h') : w_Machine_branch (ad 15) x1 h Qr := by
  obtain ⟨S1, S2, S3, S4⟩ := id hS
  obtain ⟨⟨d1, d2, d3, d4, d5⟩, ⟨t1, t2, t3, t4, t5, t6, t7⟩, h3, ⟨a, a5, b1, b2, b3, b7, b5, b6⟩, h4, h5⟩ := id hr
  obtain ⟨x, hxx⟩ : ∃ x, x = gx (D - 1) := ⟨_, rfl⟩
  rw [← hxx] at hbr t1 t2 t3 t4 t5 t6 t7 a5 b1 b2 b3 b6 b7
  obtain ⟨⟨c1, c2, c3, c4, c5⟩, ⟨e1, e2, e3, e4, e5, e6, e7, e8⟩, e9, g0, g1, g2, g3, -⟩ := id b1
  obtain ⟨l5, ⟨⟨q1, q2, q3, q4, q5⟩, -⟩⟩ := hW.2.2.2.2.2.2.1.2.2.2 _ a5
  obtain ⟨⟨m1, m2, m3, m4, m5⟩, ⟨m6, m7, m8, m9⟩, -, -, m10⟩ := id q5.1
  have hby := q5.2.1.2.2.2.2.2.2.2.2.2.2.2.2.2
  have k15 : xb_k h (ad 15) = 8 := hB.k 15 (by omega)
  unfold w_Machine_branch
  have n36 : ad 36 ≠ ad 15 := hB.ne (by omega) (by omega) (by omega)
  have n1537 : ad 15 ≠ ad 37 := hB.ne (by omega) (by omega) (by omega)
  rcases hbr with ⟨hbi, hw, c', hc'⟩ | ⟨o, b, ex, hbi, hw, ⟨f1, f2, f3⟩, hh⟩
  · have hx1 : x1 = -1 := by
      rw [z_eq, hx, hw]
      rfl
    refine ⟨fun e => absurd hx1 e, fun _ => ⟨k15, mc_endCall hB hW hS hr (c := c') ?_ (fun h' s r _ => hQ h' _ s r (.inl ⟨hbi, rfl⟩))⟩⟩
    rw [hr.rT_, ← hxx]
    exact hc'
  · have hxo : x1.toInt = o := by rw [hx, hw]
    have xn : ¬ x1 = -1 := fun e => by
      rw [e] at hxo
      have : (-1 : Int32).toInt = -1 := rfl
      omega
    have xc : x1.toNatClampNeg = o := by rw [z_cl, hxo, Int.toNat_natCast]
    refine ⟨fun _ => ⟨k15, _, t7, m7, by rw [z_in, hxo, m8]; omega, fun v6 e6' => ?_⟩, fun e => absurd e xn⟩
    rw [xc, m9] at e6'
    have hbl : b.length ≤ (gC x).length := by
      rcases hh with ⟨-, hc, -⟩ | ⟨-, hc, -⟩ <;> rw [hc] <;> simp only [List.length_append] <;> omega
    have hv6 : v6.toInt = (gO x + b.length : Nat) := by
      rw [e6', z_add, t4, f3]
      omega
    refine ⟨_, t6, m3, by rw [z_in, hxo, m4]; omega, ?_⟩
    rw [xc, m5]
    rcases hh with ⟨ho, hc, hG⟩ | ⟨ho, hc, hG⟩
    · refine ⟨fun e => absurd (z_eq.mpr ho) e, fun _ h22 e22 h23 e23 => ?_⟩
      have s22 : stp [15] [] own ad own ad h h22 := by rw [e22]; exact stp.Ic hB
      have s23 : stp [15] [] own ad own ad h22 h23 := by rw [e23]; exact stp.Ic s22.1
      have i23 : xb_i h23 (ad 15) = va_up (va_up (xb_i h (ad 15)) 10 v6) 15 (x1 + 2) := by rw [e23, xh_iI, if_pos rfl, e22, xh_iI, if_pos rfl]
      have n15 : ad 38 ≠ ad 15 := hB.ne (by omega) (by omega) (by omega)
      have l23 : xb_l h23 = xb_l h := by rw [e23, xh_lI, e22, xh_lI]
      have hv := b6
      rw [hc, vst.app] at hv
      refine hQ h23 _ ((s22.tr s23).mono (by decide) (fun k hk => by simpa using hk)) (hr.oT (v' := xb_l h (ad 37)) hG (fun j j1 j2 => by rw [i23, xh_up, if_neg j2, xh_up, if_neg j1]) (by rw [e23, xh_rI, e22, xh_rI]) (by rw [e23, xh_iI, if_neg n15, e22, xh_iI, if_neg n15]) (by rw [e23, xh_nI, e22, xh_nI]) (fun j _ => by rw [l23]) ?_ ?_ ?_ (fun j _ => by rw [l23]) (by rw [l23]) (by rw [e23, xh_iI, if_neg n36, e22, xh_iI, if_neg n36])) (.inr ⟨o, b, hbi, .inl ⟨by rw [← hxx]; exact ho, rfl⟩⟩)
      · rw [← hxx, i23, xh_up, if_neg (by omega), xh_up, if_pos rfl]
        exact hv6
      · rw [i23, xh_up, if_pos rfl, z_add, hxo, show (2 : Int32).toInt = 2 from rfl]
        omega
      · rw [← hxx, l23]
        exact hv.2
    · obtain ⟨en, xx, hBe, hor, hG0⟩ := g1 _ _ _ hG
      obtain ⟨u1, u2, u3⟩ := id hBe
      have hxx1 := (g0 _ _ _ hG0).1
      have hen : en < E := by
        rcases hor with ⟨-, -, h9, -⟩ | ⟨-, h9⟩
        · exact h9
        · omega
      have x11 : (x1 + 1).toInt = (o + 1 : Nat) := z_inc hxo (by omega)
      have x11c : (x1 + 1).toNatClampNeg = o + 1 := by rw [z_cl, x11, Int.toNat_natCast]
      have nd : dcd (wd W (gI x)) ≠ ad 15 ∧ dnt (wd W (gI x)) ≠ ad 15 ∧ dcd (wd W (gI x)) ≠ ad 37 ∧ dnt (wd W (gI x)) ≠ ad 37 := ⟨hB.n1 (by omega) q5.2.2.2.1, hB.n1 (by omega) q5.2.2.2.2.1, hB.n1 (by omega) q5.2.2.2.1, hB.n1 (by omega) q5.2.2.2.2.1⟩
      have L78 : ∀ (h1 : xb_H) (y : Int32), stp [37] [] own ad own ad h h1 → xb_i h1 = xb_i h → xb_r h1 = xb_r h → xb_n h1 = xb_n h → xb_l h1 (ad 15) = xb_l h (ad 15) → (∀ j, j < gO x → xb_l h1 (ad 37) j = xb_l h (ad 37) j) → (∀ j, j < gO x + (tp (dcb (wd W (gI x)) (o + 1)).toInt ++ b).length → xb_l h1 (ad 37) j = (if (dcb (wd W (gI x)) (o + 1)).toInt = 64 then xb_l h (ad 37) else va_up (xb_l h (ad 37)) (gO x + b.length) (xb_l h (ad 37) (gO x + (gC x).length - 1))) j) → y.toInt = (gO x + (tp (dcb (wd W (gI x)) (o + 1)).toInt ++ b).length : Nat) → vst (xb_l h1 (ad 37)) (gO x) (tp (dcb (wd W (gI x)) (o + 1)).toInt ++ b) → w_Machine_branch_L78 Qr (ad 15) x1 y h1 := by
        intro h1 y s1 w1 w2 w3 wl w4 wv w5 w6
        unfold w_Machine_branch_L78 w_Machine_branch_L113
        refine ⟨s1.1.k 15 (by omega), fun h2 e2' => ?_⟩
        have s2 : stp [15] [] own ad own ad h1 h2 := by rw [e2']; exact stp.Ic s1.1
        have s12 : stp [15, 37] [] own ad own ad h h2 := (s1.tr s2).mono (by decide) (fun k hk => by simpa using hk)
        have r2 : xb_r h2 = xb_r h := by rw [e2', xh_rI, w2]
        have n2 : xb_n h2 = xb_n h := by rw [e2', xh_nI, w3]
        have l2 : xb_l h2 = xb_l h1 := by rw [e2', xh_lI]
        have ic : xb_i h2 (dcd (wd W (gI x))) = dcb (wd W (gI x)) := by rw [e2', xh_iI, if_neg nd.1, w1, m5]
        have it : xb_i h2 (dnt (wd W (gI x))) = dnu (wd W (gI x)) := by rw [e2', xh_iI, if_neg nd.2.1, w1, m9]
        have i2 : xb_i h2 (ad 15) = va_up (xb_i h (ad 15)) 10 y := by rw [e2', xh_iI, if_pos rfl, w1]
        have n15 : ad 38 ≠ ad 15 := hB.ne (by omega) (by omega) (by omega)
        have fin : ∀ (z : Int32) (h3' : xb_H), z.toInt = xx → h3' = xb_I h2 (ad 15) 15 (z + 1) → Qr h3' := by
          intro z h3' hz e3'
          have s3 : stp [15] [] own ad own ad h2 h3' := by rw [e3']; exact stp.Ic s2.1
          have i3 : xb_i h3' (ad 15) = va_up (va_up (xb_i h (ad 15)) 10 y) 15 (z + 1) := by rw [e3', xh_iI, if_pos rfl, i2]
          refine hQ h3' _ ((s12.tr s3).mono (by decide) (fun k hk => by simpa using hk)) (hr.oT (v' := if (dcb (wd W (gI x)) (o + 1)).toInt = 64 then xb_l h (ad 37) else va_up (xb_l h (ad 37)) (gO x + b.length) (xb_l h (ad 37) (gO x + (gC x).length - 1))) hG0 (fun j j1 j2 => by rw [i3, xh_up, if_neg j2, xh_up, if_neg j1]) (by rw [e3', xh_rI, r2]) (by rw [e3', xh_iI, if_neg n15, e2', xh_iI, if_neg n15, w1]) (by rw [e3', xh_nI, n2]) (fun j hj => by rw [e3', xh_lI, l2]; exact w4 j (by rw [hxx]; exact hj)) ?_ ?_ ?_ (fun j hj => by rw [e3', xh_lI, l2]; exact wv j (by rw [← hxx] at hj; exact hj)) (by rw [e3', xh_lI, l2, wl]) (by rw [e3', xh_iI, if_neg n36, e2', xh_iI, if_neg n36, w1])) (.inr ⟨o, b, hbi, .inr ⟨by rw [← hxx]; exact ho, en, xx, by rw [← hxx]; exact hBe, by rw [← hxx]; exact hor, by rw [← hxx]⟩⟩)
          · rw [← hxx, i3, xh_up, if_neg (by omega), xh_up, if_pos rfl]
            exact w5
          · rw [i3, xh_up, if_pos rfl]
            exact z_inc hz (by omega)
          · rw [← hxx, e3', xh_lI, l2]
            exact w6
        refine ⟨_, by rw [r2]; exact t7, s12.2.2.2.1.k (c := 101) m7, by rw [z_in, x11, n2, m8]; omega, fun v6' e6'' => ?_⟩
        rw [x11c, it] at e6''
        have hv6' : v6'.toInt = en := by rw [e6'']; exact u3
        have v6c : v6'.toNatClampNeg = en := by rw [z_cl, hv6', Int.toNat_natCast]
        refine ⟨_, by rw [r2]; exact t6, s12.2.2.2.1.k (c := 99) m3, by rw [z_in, hv6', n2, m4]; omega, ?_⟩
        rw [v6c, ic]
        refine ⟨fun e => ⟨s2.1.k 15 (by omega), fun h3' e3' => fin v6' h3' ?_ e3'⟩, fun e => ⟨_, by rw [r2]; exact t7, s12.2.2.2.1.k (c := 101) m7, by rw [z_in, hv6', n2, m8]; omega, s2.1.k 15 (by omega), fun h3' e3' => fin _ h3' ?_ e3'⟩⟩
        · rcases hor with ⟨h9, -⟩ | ⟨-, h9⟩
          · exact absurd (z_eq.mpr h9) e
          · rw [hv6', h9]
        · rw [it]
          rcases hor with ⟨-, -, -, h9⟩ | ⟨h9, -⟩
          · exact h9
          · exact absurd (z_eq.mp e) h9
      have hv := b6
      rw [hc, vst.app, vst.app] at hv
      refine ⟨fun _ => ⟨_, t6, m3, by rw [z_in, x11, m4]; omega, fun e => ?_, fun e => ?_⟩, fun e => absurd (z_eq.mp e) ho⟩
      · rw [x11c, m5, z_eq, show (64 : Int32).toInt = 64 from rfl] at e
        have etp : tp (dcb (wd W (gI x)) (o + 1)).toInt = [] := if_pos e
        exact L78 h v6 ((stp.rf hB).mono (by decide) (fun k hk => hk)) rfl rfl rfl rfl (fun _ _ => rfl) (fun _ _ => by rw [if_pos e]) (by rw [etp]; exact hv6) (by rw [etp]; exact hv.2.2)
      · rw [x11c, m5, z_eq, show (64 : Int32).toInt = 64 from rfl] at e
        have etp : tp (dcb (wd W (gI x)) (o + 1)).toInt = [(dcb (wd W (gI x)) (o + 1)).toInt] := if_neg e
        rw [etp] at hc hv
        have hlen : (gC x).length = (ex ++ b).length + 1 := by rw [hc]; simp
        have hlen2 : (ex ++ b).length = ex.length + b.length := List.length_append
        have e10 : (xb_i h (ad 15) 10 - 1).toInt = (gO x + (ex ++ b).length : Nat) := by
          rw [z_sub, t1, show (1 : Int32).toInt = 1 from rfl]
          omega
        have c10 : (xb_i h (ad 15) 10 - 1).toNatClampNeg = gO x + (ex ++ b).length := by rw [z_cl, e10, Int.toNat_natCast]
        have c6 : v6.toNatClampNeg = gO x + b.length := by rw [z_cl, hv6, Int.toNat_natCast]
        refine ⟨ad 37, hB.r (15, 9, 37) (by decide), ad 37, hB.r (15, 9, 37) (by decide), hB.k 37 (by omega), by rw [z_in, e10]; omega, hB.k 37 (by omega), by rw [z_in, hv6]; omega, fun h21 e21 => ?_⟩
        rw [c10, c6] at e21
        have s21 : stp [37] [] own ad own ad h h21 := by rw [e21]; exact stp.Lc hB
        have l21 : xb_l h21 (ad 37) = va_up (xb_l h (ad 37)) (gO x + b.length) (xb_l h (ad 37) (gO x + (ex ++ b).length)) := by rw [e21, xh_lL, if_pos rfl]
        refine L78 h21 (v6 + 1) s21 (by rw [e21]; rfl) (by rw [e21]; rfl) (by rw [e21]; rfl) (by rw [e21, xh_lL, if_neg n1537]) (fun j hj => by rw [l21, xh_up, if_neg (by omega)]) (fun j _ => by rw [if_neg e, l21, show gO x + (gC x).length - 1 = gO x + (ex ++ b).length by omega]) ?_ ?_
        · rw [etp, z_add, hv6, show (1 : Int32).toInt = 1 from rfl]
          simp only [List.cons_append, List.nil_append, List.length_cons]
          omega
        · rw [etp]
          refine ⟨?_, hv.2.2.cg (fun j j1 j2 => by rw [l21, xh_up, if_neg (by omega)])⟩
          show vr _ (xb_l h21 (ad 37) (gO x + b.length))
          rw [l21, xh_up, if_pos rfl]
          exact hv.1.1
end RND
