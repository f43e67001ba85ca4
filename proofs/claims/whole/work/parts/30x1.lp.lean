-- the law, whole
section LWL
variable {σ L x0 x1 x2 x3 bc bs : Nat} {xs : Nat → Int32} {K23 : Nat → Nat → Nat → Nat → Int32 → xb_H → Nat → Nat → Prop} {Qr : Int32 → xb_H → Nat → Nat → Prop} {x4 : Int32} {h : xb_H}
theorem lab261 (h9 : K23 x0 x1 x2 x3 (x4 + 6) h bc bs) : w2_Law_law_L261 σ L xs K23 Qr x0 x1 x2 x3 x4 h bc bs := h9
theorem lab341 (h9 : K23 x0 x1 x2 x3 (x4 + 6) h bc bs) : w2_Law_law_L341 σ L xs K23 Qr x0 x1 x2 x3 x4 h bc bs := h9
theorem lab397 (h9 : K23 x0 x1 x2 x3 (x4 + 6) h bc bs) : w2_Law_law_L397 σ L xs K23 Qr x0 x1 x2 x3 x4 h bc bs := h9
theorem lab465 (h9 : K23 x0 x1 x2 x3 (x4 + 6) h bc bs) : w2_Law_law_L465 σ L xs K23 Qr x0 x1 x2 x3 x4 h bc bs := h9
theorem lab533 (h9 : K23 x0 x1 x2 x3 (x4 + 6) h bc bs) : w2_Law_law_L533 σ L xs K23 Qr x0 x1 x2 x3 x4 h bc bs := h9
theorem lab589 (h9 : K23 x0 x1 x2 x3 (x4 + 6) h bc bs) : w2_Law_law_L589 σ L xs K23 Qr x0 x1 x2 x3 x4 h bc bs := h9
theorem lab681 (h9 : K23 x0 x1 x2 x3 (x4 + 6) h bc bs) : w2_Law_law_L681 σ L xs K23 Qr x0 x1 x2 x3 x4 h bc bs := h9
theorem lab761 (h9 : K23 x0 x1 x2 x3 (x4 + 6) h bc bs) : w2_Law_law_L761 σ L xs K23 Qr x0 x1 x2 x3 x4 h bc bs := h9
theorem lab849 (h9 : K23 x0 x1 x2 x3 (x4 + 6) h bc bs) : w2_Law_law_L849 σ L xs K23 Qr x0 x1 x2 x3 x4 h bc bs := h9
theorem lab953 (h9 : K23 x0 x1 x2 x3 (x4 + 6) h bc bs) : w2_Law_law_L953 σ L xs K23 Qr x0 x1 x2 x3 x4 h bc bs := h9
theorem lab1049 (h9 : K23 x0 x1 x2 x3 (x4 + 6) h bc bs) : w2_Law_law_L1049 σ L xs K23 Qr x0 x1 x2 x3 x4 h bc bs := h9
theorem lab1105 (h9 : K23 x0 x1 x2 x3 (x4 + 6) h bc bs) : w2_Law_law_L1105 σ L xs K23 Qr x0 x1 x2 x3 x4 h bc bs := h9
theorem lab1173 (h9 : K23 x0 x1 x2 x3 (x4 + 6) h bc bs) : w2_Law_law_L1173 σ L xs K23 Qr x0 x1 x2 x3 x4 h bc bs := h9
theorem lab1300 (h9 : K23 x0 x1 x2 x3 (x4 + 6) h bc bs) : w2_Law_law_L1300 σ L xs K23 Qr x0 x1 x2 x3 x4 h bc bs := h9
theorem lab1368 (h9 : K23 x0 x1 x2 x3 (x4 + 6) h bc bs) : w2_Law_law_L1368 σ L xs K23 Qr x0 x1 x2 x3 x4 h bc bs := h9
theorem lab1449 (h9 : K23 x0 x1 x2 x3 (x4 + 6) h bc bs) : w2_Law_law_L1449 σ L xs K23 Qr x0 x1 x2 x3 x4 h bc bs := h9
theorem lab1465 (h9 : K23 x0 x1 x2 x3 (x4 + 6) h bc bs) : w2_Law_law_L1465 σ L xs K23 Qr x0 x1 x2 x3 x4 h bc bs := h9
end LWL
section LWW
variable {oc or_ A : Nat → Nat} {H H2 : xb_H} {v : Nat → Int32} {DM : Nat → zM} {len rl : Nat} {ad : Nat → Nat} {W : wD} {σ x0 x1 mm x3 K ts mc bc bs rc rs b2 s2 L : Nat} {M : Nat → mD} {r : Int32} {y : Int64} {xs : Nat → Int32} {Qr : Int32 → xb_H → Nat → Nat → Prop}
theorem jG.k9 (p : jG σ x1 mm x3 K H bc bs) : xb_k H mm = 9 ∧ xb_k H x3 = 103 ∧ xb_n H x3 = 1 ∧ xb_k H x1 = 1 := by
  obtain ⟨oc, or_, A, h, F, v, DM, len, rl, ad, W, ts, mc, M, eH, hA, e0, hI, hM, hQ, hg, agr, h3⟩ := p
  refine ⟨?_, h3.2.2.1, h3.2.2.2, ?_⟩
  · rw [eH]
    exact hA.1.2.1
  · rw [← e0]
    exact hI.1.1.k 0 (by omega)
theorem jG.dn (hP : jG σ x1 mm x3 (K + 1) H bc bs) : jG σ x1 mm x3 K H bc bs := by
  obtain ⟨oc, or_, A, v, DM, len, rl, ad, W, ts, mc, M, rc, rs, hO⟩ := hP.op
  obtain ⟨or', hJ⟩ := hO.th (c := 0) (s := 0) (by omega) (by omega)
  rw [Nat.sub_zero, Nat.sub_zero] at hJ
  have := hJ.fin f0.rf hJ.1.dn hO.2.1
  rw [← hJ.2.1] at this
  exact this
theorem jE.go {G B : xb_H → Prop} (p : jE σ x1 mm x3 K r y H2 b2 s2) (nx : G H2) : w_M_thrown mm H2 (fun r21 h20 => xb_ext H2 h20 → ((r21 = r → ((¬ r = (0 : Int32) → G h20) ∧ (r = (0 : Int32) → xb_k h20 x3 = 103 ∧ vp_in 0 (xb_n h20 x3) ∧ ((xb_l h20 x3 0 = y → G h20) ∧ (¬ xb_l h20 x3 0 = y → B h20))))) ∧ (¬ r21 = r → B h20))) := by
  obtain ⟨k1, k2, k3, -⟩ := p.1.k9
  refine ⟨k1, fun _ => ⟨fun _ => ⟨fun _ => nx, fun h0 => ⟨k2, by rw [k3, z_in]; decide, fun _ => nx, fun h9 => absurd (p.2.2 h0) h9⟩⟩, fun h9 => absurd p.2.1 h9⟩⟩
theorem jG.go {G B : xb_H → Prop} (p : jG σ x1 mm x3 K H2 b2 s2 ∧ xb_i H2 mm 0 = r) (nx : G H2) : w_M_thrown mm H2 (fun r21 h20 => xb_ext H2 h20 → ((r21 = r → G h20) ∧ (¬ r21 = r → B h20))) :=
  ⟨p.1.k9.1, fun _ => ⟨fun _ => nx, fun h9 => absurd p.2 h9⟩⟩
theorem lk_V {w' : (Int32 → xb_H → Nat → Nat → Prop) → Prop} {G B : xb_H → Nat → Nat → Prop} {H1 : xb_H} (nx : ∀ (H2 : xb_H) (b2 s2 : Nat), jG σ x1 mm x3 K H2 b2 s2 → G H2 b2 s2) (k9 : xb_k H1 mm = 9) (hM : ∀ Q2 : Int32 → xb_H → Nat → Nat → Prop, (∀ (r2 : Int32) (H2 : xb_H) (b2 s2 : Nat), jE σ x1 mm x3 K r (Int32.toInt64 r2) H2 b2 s2 → Q2 r2 H2 b2 s2) → w' Q2) : xb_k H1 mm = 9 ∧ w' (fun r19 h18 b s => xb_ext H1 h18 → w_M_thrown mm h18 (fun r21 h20 => xb_ext h18 h20 → ((r21 = r → ((¬ r = (0 : Int32) → G h20 b s) ∧ (r = (0 : Int32) → xb_k h20 x3 = 103 ∧ vp_in 0 (xb_n h20 x3) ∧ ((xb_l h20 x3 0 = (Int32.toInt64 r19) → G h20 b s) ∧ (¬ xb_l h20 x3 0 = (Int32.toInt64 r19) → B h20 b s))))) ∧ (¬ r21 = r → B h20 b s)))) :=
  ⟨k9, hM _ (fun r2 H2 b2 s2 p he => jE.go (G := fun h => G h b2 s2) (B := fun h => B h b2 s2) (p) (nx _ _ _ (p).1))⟩
theorem lk_X {w' : (Int32 → xb_H → Nat → Nat → Prop) → Prop} {G B : xb_H → Nat → Nat → Prop} {H1 : xb_H} (nx : ∀ (H2 : xb_H) (b2 s2 : Nat), jG σ x1 mm x3 K H2 b2 s2 → G H2 b2 s2) (k9 : xb_k H1 mm = 9) (hM : ∀ Q2 : Int32 → xb_H → Nat → Nat → Prop, (∀ (r2 : Int32) (H2 : xb_H) (b2 s2 : Nat), (xb_ext H1 H2 → jE σ x1 mm x3 K r (Int32.toInt64 r2) H2 b2 s2) → Q2 r2 H2 b2 s2) → w' Q2) : xb_k H1 mm = 9 ∧ w' (fun r19 h18 b s => xb_ext H1 h18 → w_M_thrown mm h18 (fun r21 h20 => xb_ext h18 h20 → ((r21 = r → ((¬ r = (0 : Int32) → G h20 b s) ∧ (r = (0 : Int32) → xb_k h20 x3 = 103 ∧ vp_in 0 (xb_n h20 x3) ∧ ((xb_l h20 x3 0 = (Int32.toInt64 r19) → G h20 b s) ∧ (¬ xb_l h20 x3 0 = (Int32.toInt64 r19) → B h20 b s))))) ∧ (¬ r21 = r → B h20 b s)))) :=
  ⟨k9, hM _ (fun r2 H2 b2 s2 p he => jE.go (G := fun h => G h b2 s2) (B := fun h => B h b2 s2) (p he) (nx _ _ _ (p he).1))⟩
theorem lk_Vl {w' : (Int64 → xb_H → Nat → Nat → Prop) → Prop} {G B : xb_H → Nat → Nat → Prop} {H1 : xb_H} (nx : ∀ (H2 : xb_H) (b2 s2 : Nat), jG σ x1 mm x3 K H2 b2 s2 → G H2 b2 s2) (k9 : xb_k H1 mm = 9) (hM : ∀ Q2 : Int64 → xb_H → Nat → Nat → Prop, (∀ (r2 : Int64) (H2 : xb_H) (b2 s2 : Nat), jE σ x1 mm x3 K r r2 H2 b2 s2 → Q2 r2 H2 b2 s2) → w' Q2) : xb_k H1 mm = 9 ∧ w' (fun r19 h18 b s => xb_ext H1 h18 → w_M_thrown mm h18 (fun r21 h20 => xb_ext h18 h20 → ((r21 = r → ((¬ r = (0 : Int32) → G h20 b s) ∧ (r = (0 : Int32) → xb_k h20 x3 = 103 ∧ vp_in 0 (xb_n h20 x3) ∧ ((xb_l h20 x3 0 = r19 → G h20 b s) ∧ (¬ xb_l h20 x3 0 = r19 → B h20 b s))))) ∧ (¬ r21 = r → B h20 b s)))) :=
  ⟨k9, hM _ (fun r2 H2 b2 s2 p he => jE.go (G := fun h => G h b2 s2) (B := fun h => B h b2 s2) (p) (nx _ _ _ (p).1))⟩
theorem lk_U {w' : (xb_H → Nat → Nat → Prop) → Prop} {G B : xb_H → Nat → Nat → Prop} {H1 : xb_H} (nx : ∀ (H2 : xb_H) (b2 s2 : Nat), jG σ x1 mm x3 K H2 b2 s2 → G H2 b2 s2) (k9 : xb_k H1 mm = 9) (hM : ∀ Q2 : xb_H → Nat → Nat → Prop, (∀ (H2 : xb_H) (b2 s2 : Nat), jG σ x1 mm x3 K H2 b2 s2 ∧ xb_i H2 mm 0 = r → Q2 H2 b2 s2) → w' Q2) : xb_k H1 mm = 9 ∧ w' (fun h18 b s => xb_ext H1 h18 → w_M_thrown mm h18 (fun r21 h20 => xb_ext h18 h20 → ((r21 = r → G h20 b s) ∧ (¬ r21 = r → B h20 b s)))) :=
  ⟨k9, hM _ (fun H2 b2 s2 p _ => jG.go (G := fun h => G h b2 s2) (B := fun h => B h b2 s2) p (nx _ _ _ p.1))⟩
theorem lk_W {α : Type} {w' : (α → xb_H → Prop) → Prop} {G B : xb_H → Prop} {H1 : xb_H} {r : α} (nx : ∀ (H2 : xb_H), jG σ x1 mm x3 K H2 bc bs → G H2) (k9 : xb_k H1 mm = 9) (hM : ∀ Q2 : α → xb_H → Prop, (∀ (r2 : α) (H2 : xb_H), r2 = r → jG σ x1 mm x3 K H2 bc bs → Q2 r2 H2) → w' Q2) : xb_k H1 mm = 9 ∧ w' (fun r19 h18 => xb_ext H1 h18 → ((r = r19 → G h18) ∧ (¬ r = r19 → B h18))) :=
  ⟨k9, hM _ (fun r2 H2 e p _ => ⟨fun _ => nx _ p, fun h9 => absurd e.symm h9⟩)⟩
set_option maxHeartbeats 1000000 in
set_option maxRecDepth 100000 in
theorem law_L23w (hin : ∀ (K : Nat) (a1 : Int32) (H : xb_H) (bc bs : Nat) (Q9 : Int32 → xb_H → Nat → Nat → Prop), jG σ x1 mm x3 (K + 1) H bc bs → jVx σ x1 mm x3 K (fun H1 b1 s1 Q2 => w_M_instantiate mm a1 H1 b1 s1 Q2) Q9 → w_Law_instantiate σ x1 a1 x3 H bc bs Q9) (hL : L ≤ 3072) (hQ : ∀ (H : xb_H) (bc bs : Nat), Qr 1 H bc bs) : ∀ (K i : Nat) (x4 : Int32) (H : xb_H) (bc bs : Nat), i + K = 512 → x4.toInt = (6 * i : Nat) → jG σ x1 mm x3 K H bc bs → w2_Law_law_L23 σ L xs Qr (K + 1) x0 x1 mm x3 x4 H bc bs := by
  have cond : (nI L - 6).toInt = (L : Int) - 6 := by
    rw [z_sub, z_nI (by omega), show (6 : Int32).toInt = 6 from rfl]
    omega
  intro K
  induction K with
  | zero =>
    intro i x4 H bc bs hi hx hP
    unfold w2_Law_law_L23
    refine ⟨fun _ => hQ _ _ _, fun hle => ?_⟩
    exfalso
    apply hle
    rw [z_lt, cond, hx]
    omega
  | succ K ih =>
    intro i x4 H bc bs hi hx hP
    have x6 : (x4 + 6).toInt = (6 * (i + 1) : Nat) := by
      have := z_ad2 (a := 6 * i) (y := 6) (w := 6) hx rfl (by omega) (by omega)
      omega
    have nx : ∀ (H2 : xb_H) (b2 s2 : Nat), jG σ x1 mm x3 K H2 b2 s2 → w2_Law_law_L23 σ L xs Qr (K + 1) x0 x1 mm x3 (x4 + 6) H2 b2 s2 := fun H2 b2 s2 p => ih (i + 1) (x4 + 6) H2 b2 s2 (by omega) x6 p
    unfold w2_Law_law_L23
    refine ⟨fun _ => hQ _ _ _, fun hle => ?_⟩
    rw [z_lt, cond, hx] at hle
    have v0 : vp_in x4 L := by rw [z_in, hx]; omega
    have V1 : vp_in (x4 + 1) L := by
      rw [z_in, z_ad2 (a := 6 * i) (w := 1) hx rfl (by omega) (by omega)]
      omega
    have V2 : vp_in (x4 + 2) L := by
      rw [z_in, z_ad2 (a := 6 * i) (w := 2) hx rfl (by omega) (by omega)]
      omega
    have V3 : vp_in (x4 + 3) L := by
      rw [z_in, z_ad2 (a := 6 * i) (w := 3) hx rfl (by omega) (by omega)]
      omega
    have V4 : vp_in (x4 + 4) L := by
      rw [z_in, z_ad2 (a := 6 * i) (w := 4) hx rfl (by omega) (by omega)]
      omega
    have V5 : vp_in (x4 + 5) L := by
      rw [z_in, z_ad2 (a := 6 * i) (w := 5) hx rfl (by omega) (by omega)]
      omega
    refine ⟨v0, ?_, ?_, ?_, ?_, ?_, ?_, ?_, ?_, ?_, ?_, ?_, ?_, ?_, ?_, ?_, ?_, ?_, ?_, ?_, ?_, ?_, ?_, ?_, ?_, ?_, ?_, ?_⟩
    · intro _
      refine ⟨V1, V2, V3, V4, V5, ?_⟩
      refine gw_feed hP ?_
      intro r H1 b1 s1 k9 hM _
      refine ⟨V1, V2, V3, V4, V5, ?_⟩
      have q := lk_V (G := w2_Law_law_L261 σ L xs (w2_Law_law_L23 σ L xs Qr (K + 1)) Qr x0 x1 mm x3 x4) (B := Qr 0) (fun H2 b2 s2 p => lab261 (nx _ _ _ p)) k9 hM
      exact q
    · intro _
      refine ⟨V1, ?_⟩
      refine gw_end hP ?_
      intro r H1 b1 s1 k9 hM _
      refine ⟨V1, ?_⟩
      have q := lk_U (G := w2_Law_law_L1465 σ L xs (w2_Law_law_L23 σ L xs Qr (K + 1)) Qr x0 x1 mm x3 x4) (B := Qr 0) (fun H2 b2 s2 p => lab1465 (nx _ _ _ p)) k9 hM
      exact q
    · intro _
      refine gw_load hP ?_
      intro r H1 b1 s1 k9 hM _
      have q := lk_X (G := w2_Law_law_L341 σ L xs (w2_Law_law_L23 σ L xs Qr (K + 1)) Qr x0 x1 mm x3 x4) (B := Qr 0) (fun H2 b2 s2 p => lab341 (nx _ _ _ p)) k9 hM
      exact q
    · intro _
      refine ⟨V1, ?_⟩
      refine gw_fault hP ?_
      intro r H1 b1 s1 k9 hM _
      refine ⟨V1, ?_⟩
      have q := lk_V (G := w2_Law_law_L397 σ L xs (w2_Law_law_L23 σ L xs Qr (K + 1)) Qr x0 x1 mm x3 x4) (B := Qr 0) (fun H2 b2 s2 p => lab397 (nx _ _ _ p)) k9 hM
      exact q
    · intro _
      refine ⟨V1, V2, ?_⟩
      refine gw_module hP ?_
      intro r H1 b1 s1 k9 hM _
      refine ⟨V1, V2, ?_⟩
      have q := lk_V (G := w2_Law_law_L465 σ L xs (w2_Law_law_L23 σ L xs Qr (K + 1)) Qr x0 x1 mm x3 x4) (B := Qr 0) (fun H2 b2 s2 p => lab465 (nx _ _ _ p)) k9 hM
      exact q
    · intro _
      refine ⟨V1, V2, ?_⟩
      refine gw_room hP ?_
      intro r H1 b1 s1 k9 hM _
      refine ⟨V1, V2, ?_⟩
      have q := lk_V (G := w2_Law_law_L533 σ L xs (w2_Law_law_L23 σ L xs Qr (K + 1)) Qr x0 x1 mm x3 x4) (B := Qr 0) (fun H2 b2 s2 p => lab533 (nx _ _ _ p)) k9 hM
      exact q
    · intro _
      refine ⟨V1, ?_⟩
      refine hin K _ H bc bs _ hP ?_
      intro r H1 b1 s1 k9 hM _
      refine ⟨V1, ?_⟩
      have q := lk_X (G := w2_Law_law_L589 σ L xs (w2_Law_law_L23 σ L xs Qr (K + 1)) Qr x0 x1 mm x3 x4) (B := Qr 0) (fun H2 b2 s2 p => lab589 (nx _ _ _ p)) k9 hM
      exact q
    · intro _
      refine ⟨V1, ?_⟩
      refine gw_name hP ?_
      intro r H1 b1 s1 k9 hM _
      refine ⟨V1, ?_⟩
      have q := lk_U (G := w2_Law_law_L1465 σ L xs (w2_Law_law_L23 σ L xs Qr (K + 1)) Qr x0 x1 mm x3 x4) (B := Qr 0) (fun H2 b2 s2 p => lab1465 (nx _ _ _ p)) k9 hM
      exact q
    · intro _
      refine ⟨V1, ?_⟩
      refine gw_find hP ?_
      intro r H1 b1 s1 k9 hM _
      refine ⟨V1, ?_⟩
      have q := lk_V (G := w2_Law_law_L681 σ L xs (w2_Law_law_L23 σ L xs Qr (K + 1)) Qr x0 x1 mm x3 x4) (B := Qr 0) (fun H2 b2 s2 p => lab681 (nx _ _ _ p)) k9 hM
      exact q
    · intro _
      refine ⟨V1, V2, V3, ?_⟩
      refine gw_exported hP ?_
      intro r H1 b1 s1 k9 hM _
      refine ⟨V1, V2, V3, ?_⟩
      have q := lk_V (G := w2_Law_law_L761 σ L xs (w2_Law_law_L23 σ L xs Qr (K + 1)) Qr x0 x1 mm x3 x4) (B := Qr 0) (fun H2 b2 s2 p => lab761 (nx _ _ _ p)) k9 hM
      exact q
    · intro _
      refine ⟨V1, V2, ?_⟩
      refine gw_push hP ?_
      intro r H1 b1 s1 k9 hM _
      refine ⟨V1, V2, ?_⟩
      have q := lk_V (G := w2_Law_law_L849 σ L xs (w2_Law_law_L23 σ L xs Qr (K + 1)) Qr x0 x1 mm x3 x4) (B := Qr 0) (fun H2 b2 s2 p => lab849 (nx _ _ _ p)) k9 hM
      exact q
    · intro _
      refine ⟨V1, V2, ?_⟩
      refine gw_invoke hP ?_
      intro r H1 b1 s1 k9 hM _
      refine ⟨V1, V2, ?_⟩
      have q := lk_U (G := w2_Law_law_L1465 σ L xs (w2_Law_law_L23 σ L xs Qr (K + 1)) Qr x0 x1 mm x3 x4) (B := Qr 0) (fun H2 b2 s2 p => lab1465 (nx _ _ _ p)) k9 hM
      exact q
    · intro _
      refine ⟨V1, ?_⟩
      refine gw_run hP ?_
      intro r H1 b1 s1 k9 hM _
      refine ⟨V1, ?_⟩
      have q := lk_V (G := w2_Law_law_L953 σ L xs (w2_Law_law_L23 σ L xs Qr (K + 1)) Qr x0 x1 mm x3 x4) (B := Qr 0) (fun H2 b2 s2 p => lab953 (nx _ _ _ p)) k9 hM
      exact q
    · intro _
      refine gw_stop hP ?_
      intro r H1 k9 hM _
      have q := lk_W (G := fun h => w2_Law_law_L1465 σ L xs (w2_Law_law_L23 σ L xs Qr (K + 1)) Qr x0 x1 mm x3 x4 h bc bs) (B := fun h => Qr 0 h bc bs) (fun H2 p => lab1465 (nx _ _ _ p)) k9 hM
      exact q
    · intro _
      refine gw_calls hP ?_
      intro r H1 k9 hM _
      have q := lk_W (G := fun h => w2_Law_law_L1465 σ L xs (w2_Law_law_L23 σ L xs Qr (K + 1)) Qr x0 x1 mm x3 x4 h bc bs) (B := fun h => Qr 0 h bc bs) (fun H2 p => lab1465 (nx _ _ _ p)) k9 hM
      exact q
    · intro _
      refine gw_result hP ?_
      intro r H1 k9 hM _
      have q := lk_W (G := fun h => w2_Law_law_L1465 σ L xs (w2_Law_law_L23 σ L xs Qr (K + 1)) Qr x0 x1 mm x3 x4 h bc bs) (B := fun h => Qr 0 h bc bs) (fun H2 p => lab1465 (nx _ _ _ p)) k9 hM
      exact q
    · intro _
      refine ⟨V1, ?_⟩
      refine gw_trap hP ?_
      intro r H1 b1 s1 k9 hM _
      refine ⟨V1, ?_⟩
      have q := lk_V (G := w2_Law_law_L1049 σ L xs (w2_Law_law_L23 σ L xs Qr (K + 1)) Qr x0 x1 mm x3 x4) (B := Qr 0) (fun H2 b2 s2 p => lab1049 (nx _ _ _ p)) k9 hM
      exact q
    · intro _
      refine ⟨V1, ?_⟩
      refine gw_pages hP ?_
      intro r H1 b1 s1 k9 hM _
      refine ⟨V1, ?_⟩
      have q := lk_V (G := w2_Law_law_L1105 σ L xs (w2_Law_law_L23 σ L xs Qr (K + 1)) Qr x0 x1 mm x3 x4) (B := Qr 0) (fun H2 b2 s2 p => lab1105 (nx _ _ _ p)) k9 hM
      exact q
    · intro _
      refine ⟨V1, V2, ?_⟩
      refine gw_peek hP ?_
      intro r H1 b1 s1 k9 hM _
      refine ⟨V1, V2, ?_⟩
      have q := lk_V (G := w2_Law_law_L1173 σ L xs (w2_Law_law_L23 σ L xs Qr (K + 1)) Qr x0 x1 mm x3 x4) (B := Qr 0) (fun H2 b2 s2 p => lab1173 (nx _ _ _ p)) k9 hM
      exact q
    · intro _
      refine ⟨V1, V2, V3, ?_⟩
      refine gw_poke hP ?_
      intro r H1 b1 s1 k9 hM _
      refine ⟨V1, V2, V3, ?_⟩
      have q := lk_U (G := w2_Law_law_L1465 σ L xs (w2_Law_law_L23 σ L xs Qr (K + 1)) Qr x0 x1 mm x3 x4) (B := Qr 0) (fun H2 b2 s2 p => lab1465 (nx _ _ _ p)) k9 hM
      exact q
    · intro _
      refine ⟨V1, V2, ?_⟩
      refine gw_variable hP ?_
      intro r H1 b1 s1 k9 hM _
      refine ⟨V1, V2, ?_⟩
      have q := lk_Vl (G := w2_Law_law_L1300 σ L xs (w2_Law_law_L23 σ L xs Qr (K + 1)) Qr x0 x1 mm x3 x4) (B := Qr 0) (fun H2 b2 s2 p => lab1300 (nx _ _ _ p)) k9 hM
      exact q
    · intro _
      refine ⟨V1, V2, ?_⟩
      refine gw_element hP ?_
      intro r H1 b1 s1 k9 hM _
      refine ⟨V1, V2, ?_⟩
      have q := lk_V (G := w2_Law_law_L1368 σ L xs (w2_Law_law_L23 σ L xs Qr (K + 1)) Qr x0 x1 mm x3 x4) (B := Qr 0) (fun H2 b2 s2 p => lab1368 (nx _ _ _ p)) k9 hM
      exact q
    · intro _
      refine gw_wrong hP ?_
      intro r H1 k9 hM _
      have q := lk_W (G := fun h => w2_Law_law_L1465 σ L xs (w2_Law_law_L23 σ L xs Qr (K + 1)) Qr x0 x1 mm x3 x4 h bc bs) (B := fun h => Qr 0 h bc bs) (fun H2 p => lab1465 (nx _ _ _ p)) k9 hM
      exact q
    · intro _
      refine gw_outs hP ?_
      intro r H1 k9 hM _
      have q := lk_W (G := fun h => w2_Law_law_L1465 σ L xs (w2_Law_law_L23 σ L xs Qr (K + 1)) Qr x0 x1 mm x3 x4 h bc bs) (B := fun h => Qr 0 h bc bs) (fun H2 p => lab1465 (nx _ _ _ p)) k9 hM
      exact q
    · intro _
      refine ⟨V1, ?_⟩
      refine gw_out hP ?_
      intro r H1 b1 s1 k9 hM _
      refine ⟨V1, ?_⟩
      have q := lk_Vl (G := w2_Law_law_L1449 σ L xs (w2_Law_law_L23 σ L xs Qr (K + 1)) Qr x0 x1 mm x3 x4) (B := Qr 0) (fun H2 b2 s2 p => lab1449 (nx _ _ _ p)) k9 hM
      exact q
    · intro _
      refine gw_clear hP ?_
      intro r H1 k9 hM _
      have q := lk_W (G := fun h => w2_Law_law_L1465 σ L xs (w2_Law_law_L23 σ L xs Qr (K + 1)) Qr x0 x1 mm x3 x4 h bc bs) (B := fun h => Qr 0 h bc bs) (fun H2 p => lab1465 (nx _ _ _ p)) k9 hM
      exact q
    · intros
      exact lab1465 (nx _ _ _ hP.dn)
end LWW
