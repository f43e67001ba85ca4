-- equality: calls that make objects, in general
section HH
variable {oc oc' or_ or' A A' : Nat → Nat} {H H1 H2 h h2 : xb_H} {F F2 : Nat → Nat → Int32} {v v2 u : Nat → Int32} {DM DM' : Nat → zM} {len rl len' rl' : Nat} {ad ad' : Nat → Nat} {W W' : wD} {σ x1 mm x3 K ts ts' mc mc' bc bs bc1 bs1 rc rs : Nat} {M M' : Nat → mD} {Qr : Int32 → xb_H → Nat → Nat → Prop} {r z c : Int32} {y : Int64}
/-- the reference's call is done, objects were made; x3 is not the reference's -/
theorem jMd.fin2 {own2 A2 : Nat → Nat} {DM2 : Nat → zM} {len2 rl2 bc2 bs2 : Nat} (hJ : jMd oc or_ H σ x1 mm x3 K bc bs A v DM len rl ad W ts mc M) (hT : zT (fun a => if a = x3 then 0 else or_ a) own2 H (xb_i H) h2 F2) (hA' : rA own2 mm A2 h2 F2 u DM2 len2 rl2 K) (hg' : rG len2 rl2 (cC ad H W ts K) (cS_ ad H W ts K) K bc2 bs2) (he : xb_ext H (mH h2 F2 mm u)) (hQ : gQ ad H W mc M ts (fun k => F2 (A2 k)) (fun k => xb_l h2 (A2 k)) u (xb_l h2 mm 85) DM2) : jG σ x1 mm x3 K (mH h2 F2 mm u) bc2 bs2 ∧ xb_l h2 x3 = xb_l H x3 := by
  obtain ⟨-, -, -, hI, hM, -, agr, ⟨o3, p3, k3, n3⟩⟩ := id hJ
  have z3 : xb_k H x3 ≠ 0 := by rw [k3]; decide
  have o0 : (fun a => if a = x3 then 0 else or_ a) x3 = 0 := if_pos rfl
  have ox : own2 x3 = 0 := ((hT.1 x3 z3).2).trans o0
  refine ⟨hJ.fin1 (or' := fun a => if a = x3 then 500 else own2 a) (A' := A2) (DM' := DM2) (oc2 := oc) ⟨fun a ha => ⟨(hT.1 a ha).1, ?_⟩, fun a ha hk => hT.2 a ?_ hk⟩ (hA'.ow (fun a h1 h2 => if_neg (fun e => by rw [e, ox] at h1; omega))) hg' he (fun ocx f => hQ.fz hI hM f), (hT.2 x3 (by rw [o0]; decide) z3).2.2.1⟩
  · show (if a = x3 then 500 else own2 a) = or_ a
    by_cases h9 : a = x3
    · rw [if_pos h9, h9, p3]
    · rw [if_neg h9, (hT.1 a ha).2]
      exact if_neg h9
  · show (if a = x3 then 0 else or_ a) < 60
    by_cases h9 : a = x3
    · rw [if_pos h9]
      decide
    · rw [if_neg h9]
      exact ha
theorem jO.chX {w : xb_H → Nat → Nat → (Int32 → xb_H → Nat → Nat → Prop) → Prop} (hO : jO σ x1 mm x3 K H bc bs oc or_ A v DM len rl ad W ts mc M rc rs) (hX : jVx σ x1 mm x3 K w Qr) (hr : hR oc oc' H H1) (e0 : ad' 0 = ad 0) (hI' : cI oc' ad' H1 W' σ ts' K) (hM' : cMx oc' ad' H1 mc' M') (hg' : cG ad' H1 W' ts' K rc rs bc1 bs1)
    (hw : ∀ (H2 : xb_H) (or' : Nat → Nat) (rc' rs' : Nat) (Q2 : Int32 → xb_H → Nat → Nat → Prop), rA or' mm A H2 (xb_i H2) v DM len rl (K + 1) → sR A mm H H2 → rG len rl rc' rs' (K + 1) bc1 bs1 → (∀ (own2 A2 : Nat → Nat) (h2 : xb_H) (F2 : Nat → Nat → Int32) (u : Nat → Int32) (DM2 : Nat → zM) (len2 rl2 bc2 bs2 : Nat), zT or' own2 H2 (xb_i H2) h2 F2 → rA own2 mm A2 h2 F2 u DM2 len2 rl2 K → rG len2 rl2 rc' rs' K bc2 bs2 → gQ ad' H1 W' mc' M' ts' (fun k => F2 (A2 k)) (fun k => xb_l h2 (A2 k)) u (xb_l h2 mm 85) DM2 → u 0 = 0 → Q2 z (mH h2 F2 mm u) bc2 bs2) → w (mH H2 (xb_i H2) mm v) bc1 bs1 Q2) : xb_k H1 x3 = 103 ∧ vp_in 0 (xb_n H1 x3) ∧ ∀ h6 : xb_H, h6 = xb_L H1 x3 (Int32.toNatClampNeg 0) (Int32.toInt64 z) → Qr 0 h6 bc1 bs1 := by
  obtain ⟨or', hJ, t1, t2⟩ := hO.2.2.2.2 H1 oc' ad' W' ts' mc' M' bc1 bs1 hr e0 hI' hM' hg'
  obtain ⟨k1, k2, k3, k4, k5⟩ := hJ.out (y := Int32.toInt64 z)
  have n3 := hJ.2.2.2.2.2.2.2.2.2.2
  have o3 : or' x3 = 500 := hJ.2.2.2.2.2.2.2.2.1
  refine ⟨hJ.2.2.2.2.2.2.2.2.2.1, by rw [n3, z_in]; decide, fun h6 e6 => ?_⟩
  subst e6
  refine hX 0 _ _ _ k1.k9 (fun Q2 hQ2 => ?_)
  show w (xb_L H1 x3 0 (Int32.toInt64 z)) bc1 bs1 _
  refine cast (congrArg (fun X => w X bc1 bs1 _) k1.2.1.symm) ?_
  refine hw _ (fun a => if a = x3 then 0 else or' a) _ _ _ (k1.1.ow (fun a h1 h2 => if_neg (fun e => h2 (by rw [e]; exact o3)))) ⟨fun k hk => ⟨(t1 k hk).1, (k3 k hk).trans (t1 k hk).2⟩, k4.trans t2⟩ k1.rgs (fun own2 A2 h2 F2 u DM2 len2 rl2 bc2 bs2 hT hA' hg2 hQ' h0 => hQ2 _ _ _ _ (fun he => ?_))
  have he' : xb_ext (xb_L H1 x3 0 (Int32.toInt64 z)) (mH h2 F2 mm u) := he
  obtain ⟨j1, j2⟩ := k1.fin2 hT hA' hg2 he' (hQ'.fz hI' hM' k2)
  refine ⟨j1, by rw [mH_i]; exact h0, fun _ => ?_⟩
  have : xb_l h2 x3 0 = xb_l (xb_L H1 x3 0 (Int32.toInt64 z)) x3 0 := congrFun j2 0
  exact this.trans k5
theorem jO.twX {w : xb_H → Nat → Nat → (Int32 → xb_H → Nat → Nat → Prop) → Prop} (hO : jO σ x1 mm x3 K H bc bs oc or_ A v DM len rl ad W ts mc M rc rs) (hX : jVx σ x1 mm x3 K w Qr) (hc : c ≠ 0)
    (hw : ∀ (or' : Nat → Nat) (rc' rs' : Nat) (Q2 : Int32 → xb_H → Nat → Nat → Prop), rA or' mm A H (xb_i H) v DM len rl (K + 1) → rG len rl rc' rs' (K + 1) (bc - 1) (bs - 6) → (∀ (zz : Int32) (own2 A2 : Nat → Nat) (h2 : xb_H) (F2 : Nat → Nat → Int32) (u : Nat → Int32) (DM2 : Nat → zM) (len2 rl2 bc2 bs2 : Nat), zT or' own2 H (xb_i H) h2 F2 → rA own2 mm A2 h2 F2 u DM2 len2 rl2 K → rG len2 rl2 rc' rs' K bc2 bs2 → gQ ad H W mc M ts (fun k => F2 (A2 k)) (fun k => xb_l h2 (A2 k)) u (xb_l h2 mm 85) DM2 → u 0 = c → Q2 zz (mH h2 F2 mm u) bc2 bs2) → w (mH H (xb_i H) mm v) (bc - 1) (bs - 6) Q2) : Qr c H (bc - 1) (bs - 6) := by
  obtain ⟨or', hJ⟩ := hO.th (c := 1) (s := 6) (by omega) (by omega)
  have o3 : or' x3 = 500 := hJ.2.2.2.2.2.2.2.2.1
  refine hX c _ _ _ hJ.k9 (fun Q2 hQ2 => ?_)
  refine cast (congrArg (fun X => w X _ _ _) hJ.2.1.symm) ?_
  refine hw (fun a => if a = x3 then 0 else or' a) _ _ _ (hJ.1.ow (fun a h1 h2 => if_neg (fun e => h2 (by rw [e]; exact o3)))) hJ.rgs (fun zz own2 A2 h2 F2 u DM2 len2 rl2 bc2 bs2 hT hA' hg2 hQ' h0 => hQ2 _ _ _ _ (fun he => ?_))
  obtain ⟨j1, j2⟩ := hJ.fin2 hT hA' hg2 he hQ'
  exact ⟨j1, by rw [mH_i]; exact h0, fun h9 => absurd h9 hc⟩
end HH
