-- equality: calls that change nothing
/-- after both calls: the mark, the answer -/
def jE (σ x1 mm x3 K : Nat) (r : Int32) (y : Int64) (H : xb_H) (bc bs : Nat) : Prop := jG σ x1 mm x3 K H bc bs ∧ xb_i H mm 0 = r ∧ (r = 0 → xb_l H x3 0 = y)
/-- both answer with a number -/
def jV (σ x1 mm x3 K : Nat) (w : xb_H → Nat → Nat → (Int32 → xb_H → Nat → Nat → Prop) → Prop) (Qr : Int32 → xb_H → Nat → Nat → Prop) : Prop := ∀ (r : Int32) (H1 : xb_H) (b1 s1 : Nat), xb_k H1 mm = 9 → (∀ Q2 : Int32 → xb_H → Nat → Nat → Prop, (∀ (r2 : Int32) (H2 : xb_H) (b2 s2 : Nat), jE σ x1 mm x3 K r (Int32.toInt64 r2) H2 b2 s2 → Q2 r2 H2 b2 s2) → w H1 b1 s1 Q2) → Qr r H1 b1 s1
def jVl (σ x1 mm x3 K : Nat) (w : xb_H → Nat → Nat → (Int64 → xb_H → Nat → Nat → Prop) → Prop) (Qr : Int32 → xb_H → Nat → Nat → Prop) : Prop := ∀ (r : Int32) (H1 : xb_H) (b1 s1 : Nat), xb_k H1 mm = 9 → (∀ Q2 : Int64 → xb_H → Nat → Nat → Prop, (∀ (r2 : Int64) (H2 : xb_H) (b2 s2 : Nat), jE σ x1 mm x3 K r r2 H2 b2 s2 → Q2 r2 H2 b2 s2) → w H1 b1 s1 Q2) → Qr r H1 b1 s1
/-- what the two calls need and give: the state opened -/
def jO (σ x1 mm x3 K : Nat) (H : xb_H) (bc bs : Nat) (oc or_ A : Nat → Nat) (v : Nat → Int32) (DM : Nat → zM) (len rl : Nat) (ad : Nat → Nat) (W : wD) (ts mc : Nat) (M : Nat → mD) (rc rs : Nat) : Prop :=
  (ad 0 = x1 ∧ cI oc ad H W σ ts (K + 1) ∧ cG ad H W ts (K + 1) rc rs bc bs ∧ cMx oc ad H mc M) ∧ gQ ad H W mc M ts (fun k => xb_i H (A k)) (fun k => xb_l H (A k)) v (xb_l H mm 85) DM ∧ rA or_ mm A H (xb_i H) v DM len rl (K + 1) ∧ H = mH H (xb_i H) mm v ∧
  ∀ (H1 : xb_H) (oc' ad' : Nat → Nat) (W' : wD) (ts' mc' : Nat) (M' : Nat → mD) (bc1 bs1 : Nat), hR oc oc' H H1 → ad' 0 = ad 0 → cI oc' ad' H1 W' σ ts' K → cMx oc' ad' H1 mc' M' → cG ad' H1 W' ts' K rc rs bc1 bs1 → ∃ or', jMd oc' or' H1 σ x1 mm x3 K bc1 bs1 A v DM len rl ad' W' ts' mc' M' ∧ (∀ k, (∃ e ∈ aL, e.1 = k) → xb_i H1 (A k) = xb_i H (A k) ∧ xb_l H1 (A k) = xb_l H (A k)) ∧ xb_l H1 mm = xb_l H mm
section GS
variable {oc oc' or_ or' A A' : Nat → Nat} {H H1 h h2 : xb_H} {F F2 : Nat → Nat → Int32} {v v2 u : Nat → Int32} {DM DM' : Nat → zM} {len rl len' rl' : Nat} {ad ad' : Nat → Nat} {W W' : wD} {σ x1 mm x3 K ts ts' mc mc' bc bs bc1 bs1 rc rs : Nat} {M M' : Nat → mD} {Qr : Int32 → xb_H → Nat → Nat → Prop} {r : Int32} {y : Int64}
theorem jG.op (hP : jG σ x1 mm x3 (K + 1) H bc bs) : ∃ (oc or_ A : Nat → Nat) (v : Nat → Int32) (DM : Nat → zM) (len rl : Nat) (ad : Nat → Nat) (W : wD) (ts mc : Nat) (M : Nat → mD) (rc rs : Nat), jO σ x1 mm x3 K H bc bs oc or_ A v DM len rl ad W ts mc M rc rs := by
  obtain ⟨oc, or_, A, h, F, v, DM, len, rl, ad, W, ts, mc, M, eH, hA, e0, hI, hM, hQ, hg, agr, h3⟩ := hP
  have g0 : hR oc oc H H := hR.rf
  obtain ⟨s1, s2⟩ := hA.1.sm eH agr g0
  obtain ⟨a1, a2⟩ := rA_hR (own' := or_) hA (fun _ _ => rfl) (by rw [← eH]; exact xb_ext.rf H) (fun a _ _ => by rw [← eH]; exact xh_sm.rf H a)
  refine ⟨oc, or_, A, v, DM, len, rl, ad, W, ts, mc, M, refC len rl (K + 1), refS len rl (K + 1), ⟨e0, hI, cG_cC.mpr hg, hM⟩, ?_, a1, a2, fun H1 oc' ad' W' ts' mc' M' bc1 bs1 g e0' hI' hM' hg' => ?_⟩
  · rw [s2]
    exact hQ.cgR (fun k hk => (s1 k (gAL_aL k (List.mem_append_left _ hk))).1) (fun k hk => (s1 k (gAL_aL k (List.mem_append_right _ hk))).2) (fun _ _ => rfl)
  · obtain ⟨or', hJ⟩ := jG_mid hA eH agr h3 g (e0'.trans e0) hI' hM' hg'
    obtain ⟨t1, t2⟩ := hA.1.sm eH agr g
    exact ⟨or', hJ, fun k hk => ⟨(t1 k hk).1.trans (s1 k hk).1.symm, (t1 k hk).2.trans (s1 k hk).2.symm⟩, t2.trans s2.symm⟩
/-- alike with the reference as it was before, where the class's call changed nothing it holds -/
theorem jMd.gq (hJ : jMd oc' or' H1 σ x1 mm x3 K bc1 bs1 A v DM len rl ad' W' ts' mc' M') (t1 : ∀ k, (∃ e ∈ aL, e.1 = k) → xb_i H1 (A k) = xb_i H (A k) ∧ xb_l H1 (A k) = xb_l H (A k)) (t2 : xb_l H1 mm = xb_l H mm) (hQ : gQ ad' H1 W' mc' M' ts' (fun k => xb_i H (A k)) (fun k => xb_l H (A k)) v (xb_l H mm 85) DM) : gQ ad' H1 W' mc' M' ts' (fun k => xb_i H1 (A k)) (fun k => xb_l H1 (A k)) v (xb_l H1 mm 85) DM := by
  rw [t2]
  exact hQ.cgR (fun k hk => (t1 k (gAL_aL k (List.mem_append_left _ hk))).1) (fun k hk => (t1 k (gAL_aL k (List.mem_append_right _ hk))).2) (fun _ _ => rfl)
/-- the class answered and changed nothing; its answer is written down -/
theorem jO.wr (hO : jO σ x1 mm x3 K H bc bs oc or_ A v DM len rl ad W ts mc M rc rs) (y : Int64) : ∃ or', jMd oc or' (xb_L H x3 0 y) σ x1 mm x3 K bc bs A v DM len rl ad W ts mc M ∧ gQ ad (xb_L H x3 0 y) W mc M ts (fun k => xb_i (xb_L H x3 0 y) (A k)) (fun k => xb_l (xb_L H x3 0 y) (A k)) v (xb_l (xb_L H x3 0 y) mm 85) DM ∧ xb_l (xb_L H x3 0 y) x3 0 = y ∧ xb_k H x3 = 103 ∧ xb_n H x3 = 1 ∧ (∀ k, (∃ e ∈ aL, e.1 = k) → xb_l (xb_L H x3 0 y) (A k) = xb_l H (A k)) ∧ xb_l (xb_L H x3 0 y) mm = xb_l H mm := by
  obtain ⟨⟨e0, hI, hg, hM⟩, hQ, hA, eH, nx⟩ := hO
  obtain ⟨hI', hg'⟩ := cI.no (c := 0) (s := 0) hI hg (by omega) (by omega)
  obtain ⟨or', hJ, t1, t2⟩ := nx H oc ad W ts mc M _ _ hR.rf rfl hI' hM hg'
  rw [Nat.sub_zero, Nat.sub_zero] at hJ
  obtain ⟨k1, k2, k3, k4, k5⟩ := hJ.out (y := y)
  refine ⟨or', k1, ?_, k5, hJ.2.2.2.2.2.2.2.2.2.1, hJ.2.2.2.2.2.2.2.2.2.2, k3, k4⟩
  rw [k4]
  exact (hQ.fz hI hM k2).cgR (fun k hk => rfl) (fun k hk => k3 k (gAL_aL k (List.mem_append_right _ hk))) (fun _ _ => rfl)
/-- the class threw -/
theorem jO.th (hO : jO σ x1 mm x3 K H bc bs oc or_ A v DM len rl ad W ts mc M rc rs) {c s : Nat} (hc : c ≤ 245) (hs : s ≤ 3020) : ∃ or', jMd oc or' H σ x1 mm x3 K (bc - c) (bs - s) A v DM len rl ad W ts mc M := by
  obtain ⟨⟨e0, hI, hg, hM⟩, hQ, hA, eH, nx⟩ := hO
  obtain ⟨hI', hg'⟩ := cI.no (c := c) (s := s) hI hg hc hs
  obtain ⟨or', hJ, t1, t2⟩ := nx H oc ad W ts mc M _ _ hR.rf rfl hI' hM hg'
  exact ⟨or', hJ⟩
/-- the reference answered and changed nothing but its mark -/
theorem jE.mk0 (hJ : jMd oc or_ H1 σ x1 mm x3 K bc bs A v DM len rl ad W ts mc M) (hQ : gQ ad H1 W mc M ts (fun k => xb_i H1 (A k)) (fun k => xb_l H1 (A k)) v (xb_l H1 mm 85) DM) (hA' : rA or_ mm A H1 (xb_i H1) u DM len rl K) (hu : ∀ j, j ∈ gVL → u j = v j) (h0 : u 0 = r) (hy : r = 0 → xb_l H1 x3 0 = y) : jE σ x1 mm x3 K r y (mH H1 (xb_i H1) mm u) bc bs :=
  ⟨hJ.fin f0.rf hA' (hQ.cgR (fun _ _ => rfl) (fun _ _ => rfl) hu), by rw [mH_i]; exact h0, hy⟩
theorem vu_gVL {x : Int32} : ∀ j, j ∈ gVL → va_up v 0 x j = v j := fun j hj => by
  rw [xh_up, if_neg ((by decide : ∀ j, j ∈ gVL → j ≠ 0) j hj)]
theorem vz_gVL {c : Int32} (h : vz v u c) : ∀ j, j ∈ gVL → u j = v j := fun j hj => by
  have := (by decide : ∀ j, j ∈ gVL → j ≠ 0 ∧ j ≠ 14 ∧ j ≠ 15 ∧ j ≠ 16 ∧ j ≠ 17 ∧ j ≠ 18) j hj
  exact h.1 j this.1 this.2.1 this.2.2.1 this.2.2.2.1 this.2.2.2.2.1 this.2.2.2.2.2
theorem jMd.k9 (hJ : jMd oc or_ H1 σ x1 mm x3 K bc bs A v DM len rl ad W ts mc M) : xb_k H1 mm = 9 := hJ.1.1.2.1
theorem byd_1 {n : Nat} {x : Int32} {j : Nat} (h : byd n x) (hx : x.toInt = j) (hj : j < n) : False := by
  unfold byd at h
  omega
/-- fault -/
theorem gw_fault {a1 : Int32} (hP : jG σ x1 mm x3 (K + 1) H bc bs) (hR : jV σ x1 mm x3 K (fun H1 b1 s1 Q2 => w_M_fault mm a1 H1 (fun r2 H2 => Q2 r2 H2 b1 s1)) Qr) : w_Law_fault x1 a1 x3 H bc bs Qr := by
  obtain ⟨oc, or_, A, v, DM, len, rl, ad, W, ts, mc, M, rc, rs, hO⟩ := hP.op
  obtain ⟨⟨e0, hI, hg, hM⟩, hQ, hA, eH, nx⟩ := id hO
  subst e0
  have nrm : ∀ (z : Int32) (j : Nat), a1.toInt = j → j < 2 → z = xb_i H (A 89) j → (xb_k H x3 = 103 ∧ vp_in 0 (xb_n H x3) ∧ ∀ h6 : xb_H, h6 = xb_L H x3 (Int32.toNatClampNeg 0) (Int32.toInt64 z) → Qr 0 h6 bc bs) := by
    intro z j hj hj2 hz
    obtain ⟨or', hJ, hQ1, k5, k3, n3, t1, t2⟩ := hO.wr (Int32.toInt64 z)
    refine ⟨k3, by rw [n3, z_in]; decide, fun h6 e6 => ?_⟩
    subst e6
    refine hR 0 _ _ _ hJ.k9 (fun Q2 hQ2 => ?_)
    show w_M_fault mm a1 (xb_L H x3 0 (Int32.toInt64 z)) _
    rw [hJ.2.1]
    refine r_fault hJ.1 (fun j' hj' _ hA' => hQ2 _ _ _ _ ?_) (fun h9 => (byd_1 h9 hj hj2).elim)
    have ej : j' = j := by omega
    subst ej
    refine jE.mk0 hJ hQ1 hA' vu_gVL (by rw [xh_up, if_pos rfl]) (fun _ => ?_)
    rw [k5, hz]
    rfl
  unfold w_Law_fault
  refine ⟨hI.1.1.k 0 (by omega), ho_fault hI hg (fun h9 _ => nrm _ 0 h9 (by omega) hQ.2.2.2.2.2.1.1.symm) (fun h9 _ => nrm _ 1 h9 (by omega) hQ.2.2.2.2.2.1.2.symm) (fun h9 _ _ => ⟨rfl, ?_⟩)⟩
  obtain ⟨or', hJ⟩ := hO.th (c := 1) (s := 6) (by omega) (by omega)
  refine hR 1 _ _ _ hJ.k9 (fun Q2 hQ2 => ?_)
  show w_M_fault mm a1 H _
  rw [hJ.2.1]
  refine r_fault hJ.1 (fun j' hj' hj2 _ => (byd_1 h9 hj' hj2).elim) (fun h9 hA' => hQ2 _ _ _ _ ?_)
  exact jE.mk0 hJ hQ hA' vu_gVL (by rw [xh_up, if_pos rfl]) (fun h9 => by cases h9)
end GS
