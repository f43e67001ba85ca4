-- equality: class and reference under the law's calls
/-- both hold, and alike: K calls are left -/
def jG (σ x1 mm x3 K : Nat) (H : xb_H) (bc bs : Nat) : Prop :=
  ∃ (oc or_ A : Nat → Nat) (h : xb_H) (F : Nat → Nat → Int32) (v : Nat → Int32) (DM : Nat → zM) (len rl : Nat) (ad : Nat → Nat) (W : wD) (ts mc : Nat) (M : Nat → mD), H = mH h F mm v ∧ rA or_ mm A h F v DM len rl K ∧ ad 0 = x1 ∧ cI oc ad H W σ ts K ∧ cMx oc ad H mc M ∧ gQ ad H W mc M ts (fun k => F (A k)) (fun k => xb_l h (A k)) v (xb_l h mm 85) DM ∧ (refC len rl K + cC ad H W ts K ≤ bc ∧ refS len rl K + cS_ ad H W ts K ≤ bs) ∧
  (∀ a, xb_k H a ≠ 0 → oc a < 60 → or_ a < 60) ∧ (oc x3 = 500 ∧ or_ x3 = 500 ∧ xb_k H x3 = 103 ∧ xb_n H x3 = 1)
/-- between the class's call and the reference's -/
def jMd (oc or_ : Nat → Nat) (H : xb_H) (σ x1 mm x3 K bc bs : Nat) (A : Nat → Nat) (v : Nat → Int32) (DM : Nat → zM) (len rl : Nat) (ad : Nat → Nat) (W : wD) (ts mc : Nat) (M : Nat → mD) : Prop :=
  rA or_ mm A H (xb_i H) v DM len rl (K + 1) ∧ H = mH H (xb_i H) mm v ∧ ad 0 = x1 ∧ cI oc ad H W σ ts K ∧ cMx oc ad H mc M ∧ (refC len rl (K + 1) + cC ad H W ts K ≤ bc ∧ refS len rl (K + 1) + cS_ ad H W ts K ≤ bs) ∧ (∀ a, xb_k H a ≠ 0 → oc a < 60 → or_ a < 60) ∧ (oc x3 = 500 ∧ or_ x3 = 500 ∧ xb_k H x3 = 103 ∧ xb_n H x3 = 1)
theorem gAL_aL : ∀ k, k ∈ gAL ++ gLL → ∃ e ∈ aL, e.1 = k := by decide
section GR
variable {oc oc' or_ or' A A' : Nat → Nat} {H H1 h h2 : xb_H} {F F2 : Nat → Nat → Int32} {v v2 : Nat → Int32} {DM DM' : Nat → zM} {len rl len' rl' : Nat} {ad ad' : Nat → Nat} {W W' : wD} {σ x1 mm x3 K ts ts' mc mc' bc bs bc1 bs1 : Nat} {M M' : Nat → mD}
/-- the reference's rows lie where the class writes nothing -/
theorem mB.sm (hB : mB or_ mm A h) (eH : H = mH h F mm v) (agr : ∀ a, xb_k H a ≠ 0 → oc a < 60 → or_ a < 60) (g : hR oc oc' H H1) : (∀ k, (∃ e ∈ aL, e.1 = k) → xb_i H1 (A k) = F (A k) ∧ xb_l H1 (A k) = xb_l h (A k)) ∧ xb_l H1 mm = xb_l h mm := by
  have key : ∀ a, xb_k H a ≠ 0 → 60 ≤ or_ a → xh_sm H H1 a := fun a ha ho => g.2.2 a ha (.inl (by
    apply Nat.le_of_not_lt
    intro h9
    have := agr a ha h9
    omega))
  have kH : xb_k H = xb_k h := by rw [eH]; rfl
  have lH : xb_l H = xb_l h := by rw [eH]; rfl
  refine ⟨fun k hk => ?_, ?_⟩
  · obtain ⟨e, he, e1⟩ := hk
    subst e1
    obtain ⟨-, h2, h3, -⟩ := hB.2.2 e he
    have hne : A e.1 ≠ mm := fun h9 => by
      rw [h9, hB.1] at h3
      omega
    have hz : xb_k H (A e.1) ≠ 0 := by
      rw [kH, h2]
      exact (by decide : ∀ e ∈ aL, e.2.1 ≠ 0) e he
    obtain ⟨k1, k2, -⟩ := key _ hz (by rw [h3]; omega)
    rw [k1, k2, lH, eH]
    exact ⟨mH_o hne, rfl⟩
  · rw [(key mm (by rw [kH, hB.2.1]; decide) (by rw [hB.1]; decide)).2.1, lH]
theorem jG_mid (hA : rA or_ mm A h F v DM len rl (K + 1)) (eH : H = mH h F mm v) (agr : ∀ a, xb_k H a ≠ 0 → oc a < 60 → or_ a < 60) (h3 : oc x3 = 500 ∧ or_ x3 = 500 ∧ xb_k H x3 = 103 ∧ xb_n H x3 = 1) (g : hR oc oc' H H1) (e0 : ad' 0 = x1) (hI' : cI oc' ad' H1 W' σ ts' K) (hM' : cMx oc' ad' H1 mc' M') (hg' : cG ad' H1 W' ts' K (refC len rl (K + 1)) (refS len rl (K + 1)) bc1 bs1) : ∃ or', jMd oc' or' H1 σ x1 mm x3 K bc1 bs1 A v DM len rl ad' W' ts' mc' M' := by
  obtain ⟨g1, g2, g3⟩ := g
  obtain ⟨o3, p3, k3, n3⟩ := h3
  have gn : ∀ a, xb_k H a ≠ 0 → (if xb_k H a = 0 then 0 else or_ a) = or_ a := fun a ha => if_neg ha
  obtain ⟨q1, q2⟩ := rA_hR (own' := fun a => if xb_k H a = 0 then 0 else or_ a) hA (fun a ha => by rw [← eH] at ha; exact gn a ha) (by rw [← eH]; exact g2) (fun a ha h6 => by
    rw [← eH] at ha ⊢
    exact g3 a ha (.inl (Nat.le_of_not_lt (fun h9 => absurd (agr a ha h9) (Nat.not_lt.mpr h6)))))
  have z3 : xb_k H x3 ≠ 0 := by rw [k3]; decide
  refine ⟨_, q1, q2, e0, hI', hM', cG_cC.mp hg', fun a ha h6 => ?_, by rw [g1 x3 z3]; exact o3, (gn x3 z3).trans p3, by rw [(g2 x3 z3).1]; exact k3, by rw [(g2 x3 z3).2]; exact n3⟩
  show (if xb_k H a = 0 then 0 else or_ a) < 60
  split
  · omega
  · rename_i h9
    rw [g1 a h9] at h6
    exact agr a h9 h6
/-- the law's own array gets a number -/
theorem jMd.out {y : Int64} (hJ : jMd oc or_ H σ x1 mm x3 K bc bs A v DM len rl ad W ts mc M) : jMd oc or_ (xb_L H x3 0 y) σ x1 mm x3 K bc bs A v DM len rl ad W ts mc M ∧ fz oc oc H (xb_L H x3 0 y) ∧ (∀ k, (∃ e ∈ aL, e.1 = k) → xb_l (xb_L H x3 0 y) (A k) = xb_l H (A k)) ∧ xb_l (xb_L H x3 0 y) mm = xb_l H mm ∧ xb_l (xb_L H x3 0 y) x3 0 = y := by
  obtain ⟨hA, eH, e0, hI, hM, hg, agr, ⟨o3, p3, k3, n3⟩⟩ := hJ
  have cl := cC_ln (ad := ad) (h := H) (h' := xb_L H x3 0 y) (W := W) (ts := ts) (K := K) (fun k hk => rfl)
  have f : fz oc oc H (xb_L H x3 0 y) := fz_L (by omega)
  refine ⟨⟨hA.L (by omega), ?_, e0, cI_fz hI f, hM.fz hI.1.1 f, by rw [cl.1, cl.2]; exact hg, agr, o3, p3, k3, n3⟩, f, fun k hk => ?_, ?_, ?_⟩
  · exact congrArg (fun X => xb_L X x3 0 y) eH
  · have h9 := hA.1.o hk
    have h8 := (by decide : ∀ e ∈ aL, e.1 ≤ 90)
    obtain ⟨e, he, e1⟩ := hk
    have h7 := h8 e he
    rw [xh_lL, if_neg (fun h6 => by rw [h6, p3] at h9; omega)]
  · rw [xh_lL, if_neg (fun h6 => by have := hA.1.1; rw [h6, p3] at this; omega)]
  · rw [xh_lL, if_pos rfl, xh_up, if_pos rfl]
/-- the reference's call is done, nothing was made -/
theorem jMd.fin (hJ : jMd oc or_ H σ x1 mm x3 K bc bs A v DM len rl ad W ts mc M) (hf : f0 or_ H (xb_i H) h2 F2) (hA' : rA or_ mm A h2 F2 v2 DM len rl K) (hQ : gQ ad H W mc M ts (fun k => F2 (A k)) (fun k => xb_l h2 (A k)) v2 (xb_l h2 mm 85) DM) : jG σ x1 mm x3 K (mH h2 F2 mm v2) bc bs := by
  obtain ⟨hA, eH, e0, hI, hM, hg, agr, ⟨o3, p3, k3, n3⟩⟩ := hJ
  have he : xb_ext H (mH h2 F2 mm v2) := fun a _ => ⟨congrFun hf.1 a, congrFun hf.2.1 a⟩
  have f : fz oc oc H (mH h2 F2 mm v2) := by
    refine ⟨fun _ _ => rfl, he, fun a ha h6 => ?_⟩
    have h7 := agr a ha h6
    have h8 := hf.2.2.2 a h7
    have hne : a ≠ mm := fun h9 => by
      have := hA.1.1
      rw [← h9] at this
      omega
    exact ⟨by rw [mH_o hne]; exact h8.2, h8.1, congrFun hf.2.2.1 a⟩
  have cl := cC_ln (ad := ad) (h := H) (h' := mH h2 F2 mm v2) (W := W) (ts := ts) (K := K) (fun k hk => (he _ (hI.1.1.z k hk)).2)
  refine ⟨oc, or_, A, h2, F2, v2, DM, len, rl, ad, W, ts, mc, M, rfl, hA', e0, cI_fz hI f, hM.fz hI.1.1 f, hQ.fz hI hM f, ?_, fun a ha h6 => agr a (by rw [← (congrFun hf.1 a : xb_k h2 a = xb_k H a)]; exact ha) h6, o3, p3, by rw [(he x3 (by rw [k3]; decide)).1]; exact k3, by rw [(he x3 (by rw [k3]; decide)).2]; exact n3⟩
  rw [cl.1, cl.2]
  unfold refC refS at *
  omega
/-- the reference's call is done -/
theorem jMd.fin1 {oc2 : Nat → Nat} (hJ : jMd oc or_ H σ x1 mm x3 K bc bs A v DM len rl ad W ts mc M) (hT : zT or_ or' H (xb_i H) h2 F2) (hA' : rA or' mm A' h2 F2 v2 DM' len' rl' K) (hg' : rG len' rl' (cC ad H W ts K) (cS_ ad H W ts K) K bc1 bs1) (he : xb_ext H (mH h2 F2 mm v2)) (hQ : ∀ ocx, fz oc ocx H (mH h2 F2 mm v2) → gQ ad (mH h2 F2 mm v2) W mc M ts (fun k => F2 (A' k)) (fun k => xb_l h2 (A' k)) v2 (xb_l h2 mm 85) DM') : jG σ x1 mm x3 K (mH h2 F2 mm v2) bc1 bs1 := by
  obtain ⟨hA, eH, e0, hI, hM, hg, agr, ⟨o3, p3, k3, n3⟩⟩ := hJ
  have gn : ∀ a, xb_k H a ≠ 0 → (if xb_k H a = 0 then 600 else oc a) = oc a := fun a ha => if_neg ha
  have he' : xb_ext (mH H (xb_i H) mm v) (mH h2 F2 mm v2) := by rw [← eH]; exact he
  have sm : ∀ a, xb_k H a ≠ 0 → or_ a < 60 → xh_sm H (mH h2 F2 mm v2) a := fun a ha h6 => by
    have := (zT_fz hT hA.1.1 he').2.2 a ha h6
    rw [← eH] at this
    exact this
  have f : fz oc (fun a => if xb_k H a = 0 then 600 else oc a) H (mH h2 F2 mm v2) := ⟨gn, he, fun a ha h6 => sm a ha (agr a ha h6)⟩
  have cl := cC_ln (ad := ad) (h := H) (h' := mH h2 F2 mm v2) (W := W) (ts := ts) (K := K) (fun k hk => (he _ (hI.1.1.z k hk)).2)
  have z3 : xb_k H x3 ≠ 0 := by rw [k3]; decide
  refine ⟨_, or', A', h2, F2, v2, DM', len', rl', ad, W, ts, mc, M, rfl, hA', e0, cI_fz hI f, hM.fz hI.1.1 f, hQ _ f, ?_, fun a ha h6 => ?_, (gn x3 z3).trans o3, (hT.1 x3 z3).2.trans p3, by rw [(he x3 z3).1]; exact k3, by rw [(he x3 z3).2]; exact n3⟩
  · rw [cl.1, cl.2]
    unfold rG at hg'
    unfold refC refS
    omega
  · by_cases h9 : xb_k H a = 0
    · have : (if xb_k H a = 0 then 600 else oc a) < 60 := h6
      rw [if_pos h9] at this
      omega
    · rw [(hT.1 a h9).2]
      have : (if xb_k H a = 0 then 600 else oc a) < 60 := h6
      rw [if_neg h9] at this
      exact agr a h9 this
end GR
