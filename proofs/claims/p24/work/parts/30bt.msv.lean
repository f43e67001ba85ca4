-- the reference: run
/-- a run is under way and has begun -/
def rJ (v : Nat → Int32) : Prop := v 62 ≠ 0 ∧ v 63 ≠ 0 ∧ ∃ f : Nat, (v 64).toInt = f ∧ fnO v f
section MSV
variable {own : Nat → Nat} {mm m i ip k f t b nl o top q a o1 op base : Nat} {A : Nat → Nat} {h h' h2 : xb_H} {F F' F2 : Nat → Nat → Int32} {v v' v2 : Nat → Int32} {D : zM} {DM : Nat → zM} {len rl K : Nat} {Q : xb_H → Prop} {Qr : Int32 → xb_H → Prop} {Ql : Int64 → xb_H → Prop} {φ φ' : Nat → Nat → Int32} {ν ν' : Nat → Int32} {c c' ex pre : List Int} {gs g1 : List gF} {T p0 E : Nat} {lo ν0 ν1 cb : Nat → Int32} {G : ctG} {V : Nat → Prop} {rm y res : Int} {r cs : List cX} {nst : Prop} {x : Nat × Option Nat}
theorem rJ.p (hJ : rJ v) (hp : ∀ j, j ∉ rnV → j ≠ 53 → j ≠ 88 → j ≠ 95 → v' j = v j) : rJ v' := by
  obtain ⟨h1, h2, f, h3, h4⟩ := hJ
  refine ⟨by rw [hp 62 (by decide) (by decide) (by decide) (by decide)]; exact h1, by rw [hp 63 (by decide) (by decide) (by decide) (by decide)]; exact h2, f, by rw [hp 64 (by decide) (by decide) (by decide) (by decide)]; exact h3, ?_⟩
  unfold fnO vN
  rw [hp 43 (by decide) (by decide) (by decide) (by decide)]
  exact h4
theorem ptl_to {w : Nat → Int32} {p pa : Nat} : ∀ {P : Nat}, (∀ k, k < P → (w (p + k)).toInt = (cb (pa + k)).toInt) → tyS w p (ptl cb pa P)
  | 0, _ => trivial
  | P + 1, h => by
    rw [ptl_s]
    exact ⟨by rw [ptl_len]; exact h P (by omega), ptl_to (fun k hk => h k (by omega))⟩
theorem fPk_to {w : Nat → Int32} {p : Nat} (h : ∀ k, k < (fPl φ DM f).length → (w (p + k)).toInt = fPk φ DM f k) : tyS w p (fPl φ DM f) := by
  unfold fPl at h ⊢
  unfold fPk at h
  split
  · next e =>
    rw [if_pos e] at h
    simp only [if_pos e] at h
    refine ptl_to (fun k hk => h k (by rw [ptl_len]; exact hk))
  · next e =>
    rw [if_neg e] at h
    simp only [if_neg e] at h
    exact ⟨h 0 (by simp), trivial⟩
/-- a run ends -/
theorem n_end (hA : rU own mm A h F v DM len rl K) (hQ : ∀ r, rPq own mm A h F DM len rl K (Qr r)) : w_M_run_L276 Qr mm (mH h F mm v) := by
  have hB := hA.B
  obtain ⟨g74, k74, n74, m74⟩ := hB.kx (k := 74) (kd := 103) (n := 18384) (by decide) (by decide)
  have vo : ∀ j, j ≠ 62 → va_up v 62 0 j = v j := fun j hj => by rw [xh_up, if_neg hj]
  have hU : rU own mm A h F (va_up v 62 0) DM len rl K := n_vv hA (fun k hk => vo k ((by decide : ∀ k, k ∈ vW1 → k ≠ 62) k hk))
  have L313 : ∀ y0 : Int64, w_M_run_L313 Qr y0 mm (mH h F mm (va_up v 62 0)) := by
    intro y0
    unfold w_M_run_L313
    refine ⟨hB.2.1, fun h2 e2 => ?_⟩
    have e2' : h2 = mH (xb_L h mm 85 y0) F mm (va_up v 62 0) := e2
    subst e2'
    have hf : f0 own h F (xb_L h mm 85 y0) F := f0.L (by rw [hB.1]; omega)
    have hU2 : rU own mm A (xb_L h mm 85 y0) F (va_up v 62 0) DM len rl K := n_ch hU hf (n_eE hU hf rfl (fun _ _ => rfl)) hU.W1 hU.I.2 rfl rfl
    exact hQ 0 _ _ _ hf (hU2.A5 (W5.no (by rw [xh_up, if_pos rfl])))
  unfold w_M_run_L276
  refine ⟨hB.2.1, fun h2 e2 => ?_⟩
  rw [mH_I] at e2
  subst e2
  rw [mH_i]
  refine ⟨fun _ => ⟨fun _ => L313 _, fun _ => ⟨A 74, g74, k74, z_vin (k := 0) rfl n74 (by decide), L313 _⟩⟩, fun _ h8 e8 => ?_⟩
  rw [mH_I] at e8
  subst e8
  have vo2 : ∀ j, j ≠ 68 → va_up (va_up v 62 0) 68 0 j = va_up v 62 0 j := fun j hj => by rw [xh_up, if_neg hj]
  exact hQ 1 _ _ _ f0.rf ((n_vv hU (fun k hk => vo2 k ((by decide : ∀ k, k ∈ vW1 → k ≠ 68) k hk))).A5 (W5.no (by rw [xh_up, if_neg (by decide), xh_up, if_pos rfl])))
theorem n_qf (hf : f0 own h F h' F') (hQ : rPq own mm A h F DM len rl K Q) : rPq own mm A h' F' DM len rl K Q := fun h2 F2 v2 g1 g2 => hQ h2 F2 v2 (hf.tr g1) g2
theorem z_stp {lf m n m2 : Nat} (h1 : (lf + 1) * 2400001 + m < n + 1) (h2 : m2 ≤ 2400000) : lf * 2400001 + m2 < n := by
  rw [Nat.add_mul, Nat.one_mul] at h1
  generalize lf * 2400001 = z at h1 ⊢
  omega
theorem z_nst {lf m n m2 : Nat} (h1 : lf * 2400001 + m < n + 1) (h2 : m2 < m) : lf * 2400001 + m2 < n := by omega
/-- the loop of a run -/
theorem n_loop (hQ : ∀ r, rPq own mm A h F DM len rl K (Qr r)) : ∀ (n : Nat) (h1 : xb_H) (F1 : Nat → Nat → Int32) (v1 : Nat → Int32) (lf : Nat), (v1 95).toInt = lf → rU own mm A h1 F1 v1 DM len rl K → f0 own h F h1 F1 → rJ v1 → (v1 82 = 0 → cS A F1 v1 DM (fun m => lf * 2400001 + m < n)) → w_M_run_L125 Qr (n + 1) mm (mH h1 F1 mm v1) := by
  intro n
  induction n with
  | zero =>
    intro h1 F1 v1 lf h95 hU hf hJ hc
    have hB := hU.B
    have fin : w_M_run_L276 Qr mm (mH h1 F1 mm v1) := n_end hU (fun r => n_qf hf (hQ r))
    unfold w_M_run_L125
    rw [mH_i]
    refine ⟨hB.2.1, fun _ => fin, fun hgt => ⟨fun _ => fin, fun e82 => ?_⟩⟩
    rcases hc e82 with h0 | ⟨cs, top, opens, c1, c2, c3, c4, c5, c6⟩
    · exfalso
      apply hgt
      rw [z_le, h0]
      decide
    · exact absurd c6 (Nat.not_lt_zero _)
  | succ n ih =>
    intro h1 F1 v1 lf h95 hU hf hJ hc
    have hB := hU.B
    have fin : w_M_run_L276 Qr mm (mH h1 F1 mm v1) := n_end hU (fun r => n_qf hf (hQ r))
    unfold w_M_run_L125
    rw [mH_i]
    refine ⟨hB.2.1, fun _ => fin, fun hgt => ⟨fun _ => fin, fun e82 v4 e4 => ?_⟩⟩
    rcases hc e82 with h0 | ⟨cs, top, opens, c1, c2, c3, c4, c5, c6⟩
    · exfalso
      apply hgt
      rw [z_le, h0]
      decide
    cases cs with
    | nil => exact absurd rfl c1
    | cons x r =>
    obtain ⟨o, T, p0, E, lo, ν0, ν1, G, V, rm, hX, hG, e70, hqb⟩ := n_uX hU c2 c3 c4 c5
    have hlc := c5.lc
    simp only [List.length_cons] at c2 hlc
    have h4 : v4.toInt = r.length := by
      rw [e4, z_sub, c2]
      simp only [Int32.reduceToInt]
      omega
    have cl4 : v4.toNatClampNeg = r.length := by rw [z_cl, h4]; omega
    generalize hDD : fMo (fun k => F1 (A k)) DM x.1 = D at hX hqb
    generalize htt : fTy (fun k => F1 (A k)) DM x.1 = t at hX
    obtain ⟨iz, mz, bz, y1, y2, y3, y4, y5, y6, y7, y8, y9, hM, hM2, hM3⟩ := hX.dX
    obtain ⟨op, hop⟩ : ∃ op : Nat, (qc D x.2.2.2.1).toInt % 256 = op := ⟨((qc D x.2.2.2.1).toInt % 256).toNat, by omega⟩
    obtain ⟨-, -, -, -, ha1, ha2, -⟩ := hX.ai hG hop
    have e69 : (F1 (A 69) r.length).toInt = x.1 := hX.2.1.2.1.1
    obtain ⟨g69, k69, n69, m69⟩ := hB.kx (k := 69) (kd := 102) (n := 200) (by decide) (by decide)
    obtain ⟨g70, k70, n70, m70⟩ := hB.kx (k := 70) (kd := 102) (n := 200) (by decide) (by decide)
    obtain ⟨g3, k3, n3, m3⟩ := hB.kx (k := 3) (kd := 100) (n := 16384) (by decide) (by decide)
    obtain ⟨g44, k44, n44, m44⟩ := hB.kx (k := 44) (kd := 102) (n := 8192) (by decide) (by decide)
    obtain ⟨g31, k31, n31, m31⟩ := hB.kx (k := 31) (kd := 102) (n := 24) (by decide) (by decide)
    have hk200 : r.length < 200 := hX.2.1.1
    refine ⟨A 69, g69, k69, z_vin h4 n69 hk200, fun v8 e8 => ⟨A 70, g70, k70, z_vin h4 n70 hk200, fun v12 e12 => ?_⟩⟩
    rw [mH_o m69, cl4] at e8
    rw [mH_o m70, cl4] at e12
    have h8 : v8.toInt = x.1 := by rw [e8]; exact e69
    have h12 : v12.toInt = x.2.2.2.1 := by rw [e12]; exact e70
    have cl8 : v8.toNatClampNeg = x.1 := by rw [z_cl, h8]; omega
    have cl12 : v12.toNatClampNeg = x.2.2.2.1 := by rw [z_cl, h12]; omega
    refine ⟨A 3, g3, k3, z_vin h12 n3 (by omega), fun v16 e16 => ?_⟩
    rw [mH_o m3, cl12, hM.2.1.2.2.2.1 _ hqb (by omega)] at e16
    have h16 : v16.toInt = op := by
      rw [e16, z_255]
      exact hop
    have L201 : ∀ (v2 : Nat → Int32) (lf2 : Nat), (∀ j, j ≠ 95 → v2 j = v1 j) → (v2 95).toInt = lf2 → (∀ m, (nSt op → m < 12000 - x.2.2.2.1 + mu r) → m ≤ 2400000 → lf2 * 2400001 + m < n) → w_M_run_L201 (w_M_run_L125 Qr (n + 1)) Qr mm v4 v8 v12 v16 (mH h1 F1 mm v2) := by
      intro v2 lf2 hv2 h295 hP
      have hU2 : rU own mm A h1 F1 v2 DM len rl K := n_vv hU (fun k hk => hv2 k ((by decide : ∀ k, k ∈ vW1 → k ≠ 95) k hk))
      have hX2 := hX.cg hU2 (fun _ _ => rfl) (hv2 43 (by decide)) (hv2 68 (by decide)) (hv2 76 (by decide)) (hv2 81 (by decide))
      unfold w_M_run_L201
      refine ⟨hB.2.1, fun h2 e2 => ?_⟩
      rw [mH_I, vu_id hU2.W1.2.1.2.2] at e2
      subst e2
      have e44 : xb_i (mH h1 F1 mm v2) (A 44) v8.toNatClampNeg = F1 (A 44) x.1 := by rw [mH_o m44, cl8]
      have c44 : (F1 (A 44) x.1).toNatClampNeg = iz := by rw [z_cl, y1]; omega
      refine ⟨A 31, g31, A 44, g44, k44, z_vin h8 n44 y8, k31, by rw [e44]; exact z_vin y1 n31 y2, ?_⟩
      rw [e44, mH_o m31, c44]
      refine m_go_k hM hU2.z y4 (p := x.2.2.2.1 + 1) (z_inc h12 (by omega)) (by omega) (by omega) (fun v3 k3' _ => ⟨A 44, g44, k44, z_vin h8 n44 y8, ?_⟩)
      rw [mH_o m44, cl8]
      have hX3 := hX2.vg k3'.1 k3'.2.2.2
      have v382 : v3 82 = 0 := by rw [k3'.1 82 (by decide) (by decide) (by decide) (by decide) (by decide), hv2 82 (by decide)]; exact e82
      refine n_perform hX3 hG k3'.2.2.1 v382 h4 rfl h16 hop (fun h5 F5 v5 hp _ => ?_)
      obtain ⟨p1, p2, p3⟩ := hp
      have e94 : v5 94 = 0 := p2.W1.2.1.2.2
      rw [mH_i]
      have L259 : w_M_run_L259 (w_M_run_L125 Qr (n + 1)) Qr mm v12 (v5 84) mm (mH h5 F5 mm v5) := by
        unfold w_M_run_L259
        refine ⟨p2.B.2.1, fun h6 e6 => ?_⟩
        rw [mH_I, vu_id rfl] at e6
        subst e6
        refine ⟨p2.B.2.1, fun h7 e7 => ?_⟩
        rw [mH_I, vu_id e94] at e7
        subst e7
        refine n_noteTrap p2 (fun h9 => p3.elim (fun ⟨g1, _⟩ => absurd g1 h9) (fun ⟨_, g2⟩ => .inr g2)) (fun w _ => ?_)
        obtain ⟨q1, q2, q3⟩ := n_86 (w := w) p2
        have e95 : v5 95 = v2 95 := by rw [p1.2 95 (by decide) (by decide) (by decide), k3'.1 95 (by decide) (by decide) (by decide) (by decide) (by decide)]
        refine ih h5 _ v5 lf2 (by rw [e95]; exact h295) q1 ((hf.tr p1.1).tr q2) ((hJ.p (v' := v5)) (fun j a1 a2 a3 a4 => ?_)) (fun h9 => q3 _ ?_)
        · rw [p1.2 j a1 a2 a3, k3'.1 j (fun e => a1 (by rw [e]; decide)) (fun e => a1 (by rw [e]; decide)) (fun e => a1 (by rw [e]; decide)) (fun e => a1 (by rw [e]; decide)) (fun e => a1 (by rw [e]; decide)), hv2 j a4]
        · rcases p3 with ⟨-, g2⟩ | ⟨g1, -⟩
          · refine g2.imp id (fun ⟨cs', top', opens', d1, d2, d3, d4, d5, d6⟩ => ⟨cs', top', opens', d1, d2, d3, d4, d5, hP _ d6 ?_⟩)
            have z1 := mu_le (cs := cs')
            have z2 := d5.lc
            omega
          · exact absurd h9 g1
      exact ⟨fun _ => L259, fun h9 => absurd e94 h9⟩
    refine n_isStep h16 (fun r18 h18 _ => ⟨fun e0 => ?_, fun n0 => ⟨fun n95 h21 e21 => ?_, fun e95 => ?_⟩⟩)
    · rcases h18 with ⟨-, h18⟩ | ⟨h18, -⟩
      · exact L201 v1 lf (fun _ _ => rfl) h95 (fun m hm _ => z_nst c6 (hm h18))
      · rw [h18] at e0
        exact absurd e0 (by decide)
    · rcases h18 with ⟨h18, -⟩ | ⟨-, h18⟩
      · exact absurd h18 n0
      · rw [mH_i] at n95
        rw [mH_i, mH_I] at e21
        subst e21
        cases lf with
        | zero => exact absurd (by rw [z_eq, h95]; rfl) n95
        | succ lf =>
          refine L201 _ lf (fun j hj => by rw [xh_up, if_neg hj]) ?_ (fun m _ hm => z_stp c6 hm)
          rw [xh_up, if_pos rfl, z_sub, h95]
          simp only [Int32.reduceToInt]
          have := z_rg (v1 95)
          omega
    · obtain ⟨j1, j2, f, j3, j4⟩ := hJ
      exact hQ 2 _ _ _ hf (hU.A5 (fun _ => ⟨f, j3, j4, fun e => absurd e j2, fun _ => ⟨x :: r, top, opens, c2, c3, c4, c5⟩⟩))
end MSV
