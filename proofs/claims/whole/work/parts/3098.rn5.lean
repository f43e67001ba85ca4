-- a run: a call ends
/-- at rest, or with calls open -/
def rR (ad : Nat → Nat) (h : xb_H) (W : wD) : Prop := ((xb_i h (ad 15) 3).toInt = 0 ∧ (xb_i h (ad 15) 4).toInt = 0) ∨ ∃ (D : Nat) (gx : Nat → fG), rI ad h W D gx
def gR_ (x : fG) (a : Nat) (c : List Int) : fG := gT_ x a c (gS x)
/-- what a call gives -/
def ecV (W : wD) (x : fG) (v : Nat → Int64) : Int64 := if rT W x = 64 then 0 else v (gO x + (gC x).length - 1)
/-- the latest call ends -/
def ecO (W : wD) (D : Nat) (gx : Nat → fG) (v : Nat → Int64) : Oc :=
  if D = 1 then .inr (.inl (ecV W (gx (D - 1)) v)) else .inl (D - 1, va_up gx (D - 2) (gR_ (gx (D - 2)) (gA (gx (D - 2))) (tp (rT W (gx (D - 1))) ++ gC (gx (D - 2)))), if rT W (gx (D - 1)) = 64 then v else va_up v (gB (gx (D - 1))) (ecV W (gx (D - 1)) v))
/-- an open call whose body's witnesses are named, its place aside -/
def FX (W : wD) (nV : Nat) (v : Nat → Int64) (fr : Nat → Int32) (j : Nat) (x : fG) (t P lcn p0 E : Nat) (lo ν0 : Nat → Int32) (g : Nat) (G : ctG) : Prop :=
  ((fr (5 * j)).toInt = gI x ∧ (fr (5 * j + 1)).toInt = gK x ∧ (fr (5 * j + 3)).toInt = gB x ∧ (fr (5 * j + 4)).toInt = gO x) ∧ gI x < wic W ∧ fB (wd W (gI x)) (gK x) t P lcn p0 E lo ν0 g G ∧ gO x = gB x + P + lcn ∧ gO x + g ≤ nV ∧ (gC x).length ≤ g ∧ (∀ i, i < P + lcn → vr (ck_lt (dcb (wd W (gI x))) lo (dvs (wd W (gI x)) 0 (5 * t + 1)).toInt.toNat P i) (v (gB x + i))) ∧ vst v (gO x) (gC x)
/-- a run within an instruction -/
def rX (ad : Nat → Nat) (h : xb_H) (W : wD) (D : Nat) (gx : Nat → fG) (t P lcn p0 E : Nat) (lo ν0 : Nat → Int32) (g : Nat) (G : ctG) : Prop :=
  (0 < D ∧ D ≤ 200 ∧ (xb_i h (ad 15) 3).toInt = 1 ∧ (xb_i h (ad 15) 4).toInt = D ∧ (xb_i h (ad 15) 8).toInt = -1) ∧ ((xb_i h (ad 15) 10).toInt = (gO (gx (D - 1)) + (gC (gx (D - 1))).length : Nat) ∧ mT ad h W (gx (D - 1))) ∧
  (∀ j, j + 1 < D → FO W (xb_n h (ad 37)) (xb_l h (ad 37)) (xb_i h (ad 38)) j (gx j) (tp (rT W (gx (j + 1))))) ∧ FX W (xb_n h (ad 37)) (xb_l h (ad 37)) (xb_i h (ad 38)) (D - 1) (gx (D - 1)) t P lcn p0 E lo ν0 g G ∧ (∀ j, j + 1 < D → (xb_i h (ad 38) (5 * j + 2)).toInt = gA (gx j) ∧ gB (gx (j + 1)) = gO (gx j) + (gC (gx j)).length) ∧ gB (gx 0) = 0
section RN5
variable {own own' ad ad' : Nat → Nat} {h h' : xb_H} {W : wD} {σ D : Nat} {gx : Nat → fG} {t P lcn p0 E g : Nat} {lo ν0 : Nat → Int32} {G : ctG}
theorem rI.op (hr : rI ad h W D gx) : ∃ (t P lcn p0 E : Nat) (lo ν0 : Nat → Int32) (g : Nat) (G : ctG), rX ad h W D gx t P lcn p0 E lo ν0 g G ∧ G 0 (gA (gx (D - 1))) (gC (gx (D - 1))) (gS (gx (D - 1))) := by
  obtain ⟨d, e, h3, h4, h5⟩ := hr
  have hF := h3 (D - 1) (by have := d.1; omega)
  rw [if_pos (by have := d.1; omega)] at hF
  obtain ⟨a, a5, t, P, lcn, p0, E, lo, ν0, g, G, b1, b2, b3, b4, b5, b6⟩ := hF
  have := (b1.2.2.2.1 _ _ _ b4).1.2.2.1
  refine ⟨t, P, lcn, p0, E, lo, ν0, g, G, ⟨d, e, fun j hj => ?_, ⟨a, a5, b1, b2, b3, this, b5, b6⟩, h4, h5⟩, b4⟩
  have := h3 j (by omega)
  rw [if_neg (by omega)] at this
  exact this
theorem rX.cl (hr : rX ad h W D gx t P lcn p0 E lo ν0 g G) (hG : G 0 (gA (gx (D - 1))) (gC (gx (D - 1))) (gS (gx (D - 1)))) : rI ad h W D gx := by
  obtain ⟨d, e, h3, ⟨a, a5, b1, b2, b3, b7, b5, b6⟩, h4, h5⟩ := hr
  refine ⟨d, e, fun j hj => ?_, h4, h5⟩
  by_cases h9 : j + 1 = D
  · rw [if_pos h9, show j = D - 1 by omega]
    exact ⟨a, a5, t, P, lcn, p0, E, lo, ν0, g, G, b1, b2, b3, hG, b5, b6⟩
  · rw [if_neg h9]
    exact h3 j (by omega)
theorem mS.st {C X : List Nat} (hS : mS ad h) (hB : cB own ad h) (s : stp C X own ad own' ad h h') : mS ad h' := by
  obtain ⟨S1, S2, S3, S4⟩ := hS
  have e := s.2.2.2.1
  refine ⟨by rw [(e _ (hB.z 36 (by omega))).2]; exact S1, by rw [(e _ (hB.z 38 (by omega))).2]; exact S2, by rw [(e _ (hB.z 37 (by omega))).2]; exact S3, by rw [(e _ (hB.z 37 (by omega))).2]; exact S4⟩
theorem rX.back (hr : rX ad h W D gx t P lcn p0 E lo ν0 g G) (hD : 2 ≤ D) (i3 : xb_i h' (ad 15) 3 = xb_i h (ad 15) 3) (i8 : xb_i h' (ad 15) 8 = xb_i h (ad 15) 8) (i4 : (xb_i h' (ad 15) 4).toInt = (D - 1 : Nat)) (i10 : (xb_i h' (ad 15) 10).toInt = (gO (gx (D - 2)) + (tp (rT W (gx (D - 1))) ++ gC (gx (D - 2))).length : Nat)) (hT : mT ad h' W (gx (D - 2))) (e38 : xb_i h' (ad 38) = xb_i h (ad 38)) (n37 : xb_n h' (ad 37) = xb_n h (ad 37)) (ev : ∀ j, j < gO (gx (D - 2)) + (gC (gx (D - 2))).length → xb_l h' (ad 37) j = xb_l h (ad 37) j) (hv : vst (xb_l h' (ad 37)) (gO (gx (D - 2)) + (gC (gx (D - 2))).length) (tp (rT W (gx (D - 1))))) : rI ad h' W (D - 1) (va_up gx (D - 2) (gR_ (gx (D - 2)) (gA (gx (D - 2))) (tp (rT W (gx (D - 1))) ++ gC (gx (D - 2))))) := by
  obtain ⟨⟨d1, d2, d3, d4, d5⟩, -, h3, -, h4, h5⟩ := hr
  obtain ⟨x', hx'⟩ : ∃ x', x' = gR_ (gx (D - 2)) (gA (gx (D - 2))) (tp (rT W (gx (D - 1))) ++ gC (gx (D - 2))) := ⟨_, rfl⟩
  rw [← hx']
  have x1 : gI x' = gI (gx (D - 2)) := by rw [hx']; rfl
  have x2 : gK x' = gK (gx (D - 2)) := by rw [hx']; rfl
  have x3 : gB x' = gB (gx (D - 2)) := by rw [hx']; rfl
  have x4 : gO x' = gO (gx (D - 2)) := by rw [hx']; rfl
  have x5 : gA x' = gA (gx (D - 2)) := by rw [hx']; rfl
  have x6 : gC x' = tp (rT W (gx (D - 1))) ++ gC (gx (D - 2)) := by rw [hx']; rfl
  have x7 : gS x' = gS (gx (D - 2)) := by rw [hx']; rfl
  have u1 : va_up gx (D - 2) x' (D - 2) = x' := by rw [xh_up, if_pos rfl]
  have u1' : va_up gx (D - 2) x' (D - 1 - 1) = x' := by rw [show D - 1 - 1 = D - 2 by omega]; exact u1
  have u2 : ∀ j, j + 2 < D → va_up gx (D - 2) x' j = gx j := fun j hj => by rw [xh_up, if_neg (by omega)]
  -- what lies below
  have low : ∀ j, j + 2 < D → gO (gx j) + (gC (gx j)).length ≤ gB (gx (D - 2)) := by
    have key : ∀ m j, j + 2 < D → D - 2 - j ≤ m + 1 → gO (gx j) + (gC (gx j)).length ≤ gB (gx (D - 2)) := by
      intro m
      induction m with
      | zero =>
        intro j h1 h2
        have e := (h4 j (by omega)).2
        rw [show D - 2 = j + 1 by omega]
        omega
      | succ m ih =>
        intro j h1 h2
        have e := (h4 j (by omega)).2
        by_cases h9 : j + 1 + 2 < D
        · have := ih (j + 1) h9 (by omega)
          have := (h3 (j + 1) (by omega)).bo.1
          omega
        · rw [show D - 2 = j + 1 by omega]
          omega
    exact fun j hj => key D j hj (by omega)
  have hF := h3 (D - 2) (by omega)
  rw [show D - 2 + 1 = D - 1 by omega] at hF
  have hbo := hF.bo
  refine ⟨⟨by omega, by omega, by rw [i3]; exact d3, i4, by rw [i8]; exact d5⟩, ⟨by rw [u1', x4, x6]; exact i10, ?_⟩, fun j hj => ?_, fun j hj => ?_, ?_⟩
  · rw [u1']
    obtain ⟨t1, t2, t3, t4, t5, t6⟩ := hT
    exact ⟨by rw [x5]; exact t1, by rw [x3]; exact t2, by rw [x4]; exact t3, by rw [x1]; exact t4, by rw [x1]; exact t5, by rw [x1]; exact t6⟩
  · rw [n37, e38]
    by_cases hj2 : j + 1 = D - 1
    · rw [if_pos hj2, show j = D - 2 by omega, u1]
      obtain ⟨⟨a1, a2, a3, a4⟩, a5, t, P, lcn, p0, E, lo, ν0, g, G, b1, b2, b3, b4, b5, b6⟩ := hF
      refine ⟨⟨by rw [x1]; exact a1, by rw [x2]; exact a2, by rw [x3]; exact a3, by rw [x4]; exact a4⟩, by rw [x1]; exact a5, t, P, lcn, p0, E, lo, ν0, g, G, by rw [x1, x2]; exact b1, by rw [x3, x4]; exact b2, by rw [x4]; exact b3, by rw [x5, x6, x7]; exact b4, fun i hi => ?_, ?_⟩
      · rw [x1, x3, ev _ (by omega)]
        exact b5 i hi
      · rw [x4, x6, vst.app]
        exact ⟨hv, b6.cg (fun i h1 h2 => ev i h2)⟩
    · rw [if_neg hj2, u2 j (by omega)]
      have hF2 := h3 j (by omega)
      have eT : rT W (va_up gx (D - 2) x' (j + 1)) = rT W (gx (j + 1)) := by
        by_cases hj3 : j + 1 = D - 2
        · rw [hj3, u1]
          unfold rT
          rw [x1, x2]
        · rw [u2 (j + 1) (by omega)]
      rw [eT]
      exact hF2.cg (Nat.le_refl _) (fun i hi => ev i (by have := low j (by omega); omega)) (fun i _ _ => rfl)
  · rw [e38, u2 j (by omega)]
    obtain ⟨f1, f2⟩ := h4 j (by omega)
    refine ⟨f1, ?_⟩
    by_cases hj3 : j + 1 = D - 2
    · rw [hj3, u1, x3, ← f2, hj3]
    · rw [u2 (j + 1) (by omega)]
      exact f2
  · by_cases h9 : D = 2
    · subst h9
      rw [show (0 : Nat) = 2 - 2 from rfl, u1, x3]
      exact h5
    · rw [u2 0 (by omega)]
      exact h5
theorem mc_endCall {c : List Int} {Qr : xb_H → Prop} (hB : cB own ad h) (hW : wI own ad h W σ) (hS : mS ad h) (hr : rX ad h W D gx t P lcn p0 E lo ν0 g G) (hc : gC (gx (D - 1)) = tp (rT W (gx (D - 1))) ++ c)
    (hQ : ∀ h' : xb_H, stp [15, 37] [] own ad own ad h h' → oR ad h ad h' W (ecO W D gx (xb_l h (ad 37))) → Qr h') : w_Machine_endCall (ad 15) h Qr := by
  obtain ⟨⟨d1, d2, d3, d4, d5⟩, ⟨t1, t2, t3, t4, t5, t6, t7⟩, h3, hF, h4, h5⟩ := id hr
  obtain ⟨S1, S2, S3, S4⟩ := id hS
  obtain ⟨x, hx⟩ : ∃ x, x = gx (D - 1) := ⟨_, rfl⟩
  rw [← hx] at hc t1 t2 t3 t4 t5 t6 t7 hF
  obtain ⟨⟨a1, a2, a3, a4⟩, a5, b1, b2, b3, b7, b5, b6⟩ := id hF
  have hbo : gB x ≤ gO x ∧ gO x + (gC x).length ≤ xb_n h (ad 37) := ⟨by omega, by omega⟩
  obtain ⟨l5, ⟨⟨q1, q2, q3, q4, q5⟩, -⟩⟩ := hW.2.2.2.2.2.2.1.2.2.2 _ a5
  obtain ⟨⟨c1, c2, c3, c4, c5⟩, -⟩ := id b1
  have hres : rT W x = (dvs (wd W (gI x)) 0 (5 * t + 4)).toInt := by
    show (dvs (wd W (gI x)) 0 (5 * (dvs (wd W (gI x)) 2 (2 * gK x + 1)).toInt.toNat + 4)).toInt = _
    rw [c3, Int.toNat_natCast]
  obtain ⟨z1, z2⟩ := z_fr (x := xb_i h (ad 15) 4) (y := 1) (j := 1) d4 d1 d2 rfl (by omega)
  have n15 : ∀ k, k < 41 → k ≠ 15 → ad k ≠ ad 15 := fun k hk hne => hB.ne hk (by omega) hne
  have n36 : ad 36 ≠ ad 15 := n15 36 (by omega) (by omega)
  have top : ∀ y0 : Int64, y0 = ecV W x (xb_l h (ad 37)) → ((rT W x = 64) ∨ (rT W x ≠ 64 ∧ vr (rT W x) y0)) → ∀ r : Int32, (r = 0 ∧ rT W x = 64) ∨ (r = 1 ∧ rT W x ≠ 64) → w_Machine_endCall_L53 Qr (ad 15) r y0 h := by
    intro y0 hy0 hy r hr13
    unfold w_Machine_endCall_L53 w_Machine_endCall_L126
    refine ⟨hB.k 15 (by omega), fun h2 e2 h3' e3 => ?_⟩
    have s2 : stp [15] [] own ad own ad h h2 := by rw [e2]; exact stp.Ic hB
    have s3 : stp [15] [] own ad own ad h2 h3' := by rw [e3]; exact stp.Ic s2.1
    have s : stp [15] [] own ad own ad h h3' := (s2.tr s3).mono (by decide) (fun k hk => by simpa using hk)
    have i3 : xb_i h3' (ad 15) = va_up (va_up (xb_i h (ad 15)) 10 (xb_i h (ad 15) 16)) 4 (xb_i h (ad 15) 4 - 1) := by
      rw [e3, xh_iI, if_pos rfl, e2, xh_iI, if_pos rfl, xh_up, if_neg (by omega)]
    have io : ∀ a, a ≠ ad 15 → xb_i h3' a = xb_i h a := fun a ha => by rw [e3, xh_iI, if_neg ha, e2, xh_iI, if_neg ha]
    have l3' : xb_l h3' = xb_l h := by rw [e3, xh_lI, e2, xh_lI]
    have r3 : xb_r h3' = xb_r h := by rw [e3, xh_rI, e2, xh_rI]
    have n3 : xb_n h3' = xb_n h := by rw [e3, xh_nI, e2, xh_nI]
    have e4 : (xb_i h3' (ad 15) 4).toInt = (D - 1 : Nat) := by
      rw [i3, xh_up, if_pos rfl, z_sub, d4, show (1 : Int32).toInt = 1 from rfl]
      omega
    refine ⟨fun e9 v5 ev5 => ?_, fun e9 => mc_finish (W := W) s.1 (fun h15 s15 f1 _ => hQ h15 ((s.tr s15).mono (by decide) (fun k hk => by simpa using hk)) ?_)⟩
    rotate_left
    · have hD1 : D = 1 := by
        rw [z_eq, e4, show (0 : Int32).toInt = 0 from rfl] at e9
        omega
      unfold ecO
      rw [if_pos hD1, ← hx, ← hy0]
      exact f1.cg rfl rfl (by rw [l3']) (by rw [i3, xh_up, if_neg (by omega), xh_up, if_neg (by omega)]) (by rw [io _ n36])
    have hD2 : 2 ≤ D := by
      rw [z_eq, e4, show (0 : Int32).toInt = 0 from rfl] at e9
      omega
    have hF2 := h3 (D - 2) (by omega)
    rw [show D - 2 + 1 = D - 1 by omega, ← hx] at hF2
    have hbo2 := hF2.bo
    obtain ⟨⟨p1, p2, p3, p4⟩, p5, -⟩ := id hF2
    obtain ⟨k1, k2⟩ := h4 (D - 2) (by omega)
    rw [show D - 2 + 1 = D - 1 by omega, ← hx] at k2
    have ev : v5.toInt = (5 * (D - 2) : Nat) := by
      have e1 : (xb_i h3' (ad 15) 4 - 1).toInt = (D - 2 : Nat) := by
        rw [z_sub, e4, show (1 : Int32).toInt = 1 from rfl]
        omega
      rw [ev5, z_mul, e1, show (5 : Int32).toInt = 5 from rfl]
      omega
    have hW3 : wI own ad h3' W σ := hW.fr hB (fun a ha h9 => s.2.2.2.2.1 a ha (by simp) (fun k hk e => by
      have e1 : k = 15 := by simpa using hk
      rw [e, e1, hB.o 15 (by omega)] at h9
      unfold wtg at h9
      omega)) s.2.2.2.1 (fun a _ => rfl) (fun k _ => rfl)
    have hS3 := hS.st hB s
    refine mc_enter (j := D - 2) s.1 hW3 hS3 ev (by omega) (by rw [io _ (n15 38 (by omega) (by omega))]; exact p1) p5 (by rw [io _ (n15 38 (by omega) (by omega))]; exact p3) (by rw [io _ (n15 38 (by omega) (by omega))]; exact p4) (fun h6 s6 j1 j2 j3 j4 j5 j6 j7 _ => ?_)
    have y2 : (v5 + 2).toInt = (5 * (D - 2) + 2 : Nat) := by
      rw [z_add, ev, show (2 : Int32).toInt = 2 from rfl]
      omega
    have y2c : (v5 + 2).toNatClampNeg = 5 * (D - 2) + 2 := by rw [z_cl, y2, Int.toNat_natCast]
    have cm6 : ∀ k, k < 41 → k ≠ 15 → xh_sm h3' h6 (ad k) := fun k hk hne => (s6.cm s.1 (by decide) (fun x hx => by cases hx) hk (by simp; omega)).2
    have n6 : ∀ k, k < 41 → xb_n h6 (ad k) = xb_n h (ad k) := fun k hk => by rw [(s6.2.2.2.1 _ (s.1.z k hk)).2, n3]
    refine ⟨ad 38, s6.1.r (15, 11, 38) (by decide), s6.1.k 38 (by omega), by rw [z_in, y2, n6 38 (by omega), S2]; omega, fun h11 e11 => ?_⟩
    rw [y2c, (cm6 38 (by omega) (by omega)).1, io _ (n15 38 (by omega) (by omega))] at e11
    have s11 : stp [15] [] own ad own ad h6 h11 := by rw [e11]; exact stp.Ic s6.1
    have sA : stp [15] [] own ad own ad h h11 := ((s.tr s6).tr s11).mono (by decide) (fun k hk => by simpa using hk)
    have i11 : ∀ k, k ≠ 15 → xb_i h11 (ad 15) k = xb_i h6 (ad 15) k := fun k hk => by rw [e11, xh_iI, if_pos rfl, xh_up, if_neg hk]
    have i11a : (xb_i h11 (ad 15) 15).toInt = gA (gx (D - 2)) := by rw [e11, xh_iI, if_pos rfl, xh_up, if_pos rfl]; exact k1
    have r11 : xb_r h11 = xb_r h6 := by rw [e11, xh_rI]
    have l11 : xb_l h11 (ad 37) = xb_l h (ad 37) := by rw [e11, xh_lI, (cm6 37 (by omega) (by omega)).2.1, l3']
    have i38 : xb_i h11 (ad 38) = xb_i h (ad 38) := by rw [e11, xh_iI, if_neg (n15 38 (by omega) (by omega)), (cm6 38 (by omega) (by omega)).1, io _ (n15 38 (by omega) (by omega))]
    have n37 : xb_n h11 (ad 37) = xb_n h (ad 37) := by rw [e11, xh_nI, n6 37 (by omega)]
    have hT : mT ad h11 W (gx (D - 2)) := ⟨i11a, by rw [i11 16 (by omega)]; exact j3, by rw [i11 17 (by omega)]; exact j4, by rw [r11]; exact j5, by rw [r11]; exact j6, by rw [r11]; exact j7⟩
    have q3' : xb_i h11 (ad 15) 3 = xb_i h (ad 15) 3 := by rw [i11 3 (by omega), j1 3 (by omega) (by omega), i3, xh_up, if_neg (by omega), xh_up, if_neg (by omega)]
    have q8 : xb_i h11 (ad 15) 8 = xb_i h (ad 15) 8 := by rw [i11 8 (by omega), j1 8 (by omega) (by omega), i3, xh_up, if_neg (by omega), xh_up, if_neg (by omega)]
    have q4' : (xb_i h11 (ad 15) 4).toInt = (D - 1 : Nat) := by rw [i11 4 (by omega), j1 4 (by omega) (by omega)]; exact e4
    have q10 : (xb_i h11 (ad 15) 10).toInt = (gO (gx (D - 2)) + (gC (gx (D - 2))).length : Nat) := by
      rw [i11 10 (by omega), j1 10 (by omega) (by omega), i3, xh_up, if_neg (by omega), xh_up, if_pos rfl, t3, k2]
    have f11 : xb_l h11 (ad 15) = xb_l h (ad 15) := by rw [e11, xh_lI, j2, l3']
    have g11 : xb_i h11 (ad 15) 7 = xb_i h (ad 15) 7 := by rw [i11 7 (by omega), j1 7 (by omega) (by omega), i3, xh_up, if_neg (by omega), xh_up, if_neg (by omega)]
    have t11 : xb_i h11 (ad 36) = xb_i h (ad 36) := by rw [e11, xh_iI, if_neg n36, (cm6 36 (by omega) (by omega)).1, io _ n36]
    have hbk := rX.back (h' := h11) hr hD2 q3' q8 q4'
    rw [← hx] at hbk
    refine ⟨fun e0 => ?_, fun e0 => ?_⟩
    · have h64 : rT W x = 64 := by
        rcases hr13 with h9 | h9
        · exact h9.2
        · rw [h9.1] at e0
          cases e0
      have hI := hbk ?_ hT i38 n37 (fun j _ => by rw [l11]) ?_
      · refine hQ h11 (sA.mono (by decide) (fun k hk => hk)) ?_
        unfold ecO
        rw [if_neg (by omega), ← hx, if_pos h64]
        exact ⟨hI, fun j _ => by rw [l11], f11, g11, t11⟩
      · rw [h64, q10]
        rfl
      · rw [h64]
        exact trivial
    · have h64 : rT W x ≠ 64 := by
        rcases hr13 with h9 | h9
        · exact absurd h9.1 e0
        · exact h9.2
      have etp : tp (rT W x) = [rT W x] := if_neg h64
      rw [etp] at hbo2 hbk
      simp only [List.cons_append, List.nil_append, List.length_cons] at hbo2
      refine mc_put sA.1 q10 (by rw [n37]; omega) (by rw [n37]; exact S4) (fun h13 s13 w1 w2 w3 w4 w5 _ => ?_)
      have s13' := s13.cm sA.1 (by decide) (fun x hx => by cases hx) (k := 38) (by omega) (by decide)
      have hI := rX.back (h' := h13) hr hD2 (by rw [w1 3 (by omega)]; exact q3') (by rw [w1 8 (by omega)]; exact q8) (by rw [w1 4 (by omega)]; exact q4') ?_ ?_ (by rw [s13'.2.1]; exact i38) (by rw [(s13.2.2.2.1 _ (sA.1.z 37 (by omega))).2]; exact n37) (fun j hj => ?_) ?_
      · refine hQ h13 ((sA.tr s13).mono (by decide) (fun k hk => by simpa using hk)) ?_
        unfold ecO
        rw [if_neg (by omega), ← hx, if_neg h64]
        rw [← hx] at hI
        refine ⟨hI, fun j _ => by rw [w4, l11, k2, hy0], ?_, by rw [w1 7 (by omega)]; exact g11, ?_⟩
        · rw [w5]
          exact f11
        · rw [(s13.cm sA.1 (by decide) (fun x hx => by cases hx) (k := 36) (by omega) (by decide)).2.1]
          exact t11
      · rw [← hx, etp, w3]
        simp only [List.cons_append, List.nil_append, List.length_cons]
        rfl
      · obtain ⟨u1, u2, u3, u4, u5, u6⟩ := hT
        exact ⟨by rw [w1 15 (by omega)]; exact u1, by rw [w1 16 (by omega)]; exact u2, by rw [w1 17 (by omega)]; exact u3, by rw [w2]; exact u4, by rw [w2]; exact u5, by rw [w2]; exact u6⟩
      · rw [w4, xh_up, if_neg (by omega), l11]
      · rw [← hx, etp, w4]
        refine ⟨?_, trivial⟩
        show vr _ (va_up _ _ _ (_ + 0))
        rw [xh_up, if_pos (by omega)]
        rcases hy with h9 | h9
        · exact absurd h9 h64
        · exact h9.2
  unfold w_Machine_endCall
  rw [z2]
  refine ⟨hB.k 15 (by omega), _, t5, q1, _, q4, ad 38, hB.r (15, 11, 38) (by decide), hB.k 38 (by omega), by rw [z_in, z1, S2]; omega, fun v8 e8 => ⟨q5.1.k, mo_typeOf q5 (k := gK x) (by rw [e8]; exact a2) c2 (fun r11 e11 _ => md_hasResult (i := t) q5.1 q5.2.1.1.1 (by rw [e11, c3, Int.toNat_natCast]) c4 (fun r13 h13 _ => ?_))⟩⟩
  rw [← hres] at h13
  refine ⟨fun e0 => top 0 ?_ (.inl ?_) r13 h13, fun e0 => ⟨ad 37, hB.r (15, 9, 37) (by decide), hB.k 37 (by omega), ?_, top _ ?_ (.inr ?_) r13 h13⟩⟩
  · rcases h13 with h9 | h9
    · unfold ecV
      rw [if_pos h9.2]
    · rw [h9.1] at e0
      cases e0
  · rcases h13 with h9 | h9
    · exact h9.2
    · rw [h9.1] at e0
      cases e0
  · have h64 : rT W x ≠ 64 := by
      rcases h13 with h9 | h9
      · exact absurd h9.1 e0
      · exact h9.2
    rw [hc, show tp (rT W x) = [rT W x] from if_neg h64] at t1 hbo
    simp only [List.cons_append, List.nil_append, List.length_cons] at t1 hbo
    rw [z_in, z_sub, t1, show (1 : Int32).toInt = 1 from rfl]
    omega
  · have h64 : rT W x ≠ 64 := by
      rcases h13 with h9 | h9
      · exact absurd h9.1 e0
      · exact h9.2
    unfold ecV
    rw [if_neg h64]
    have e1 : (xb_i h (ad 15) 10 - 1).toNatClampNeg = gO x + (gC x).length - 1 := by
      rw [z_cl, z_sub, t1, show (1 : Int32).toInt = 1 from rfl]
      omega
    rw [e1]
  · have h64 : rT W x ≠ 64 := by
      rcases h13 with h9 | h9
      · exact absurd h9.1 e0
      · exact h9.2
    refine ⟨h64, ?_⟩
    rw [hc, show tp (rT W x) = [rT W x] from if_neg h64] at t1 hbo b6
    simp only [List.cons_append, List.nil_append, List.length_cons] at t1 hbo b6
    have e1 : (xb_i h (ad 15) 10 - 1).toNatClampNeg = gO x + c.length := by
      rw [z_cl, z_sub, t1, show (1 : Int32).toInt = 1 from rfl]
      omega
    rw [e1]
    exact b6.1
end RN5
