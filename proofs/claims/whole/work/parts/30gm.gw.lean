-- equality: calls that change a little, in general
/-- both answer with nothing -/
def jU (σ x1 mm x3 K : Nat) (w : xb_H → Nat → Nat → (xb_H → Nat → Nat → Prop) → Prop) (Qr : Int32 → xb_H → Nat → Nat → Prop) : Prop := ∀ (r : Int32) (H1 : xb_H) (b1 s1 : Nat), xb_k H1 mm = 9 → (∀ Q2 : xb_H → Nat → Nat → Prop, (∀ (H2 : xb_H) (b2 s2 : Nat), jG σ x1 mm x3 K H2 b2 s2 ∧ xb_i H2 mm 0 = r → Q2 H2 b2 s2) → w H1 b1 s1 Q2) → Qr r H1 b1 s1
/-- rows that instances are made of -/
def gWL : List Nat := [31, 6, 10, 12, 8, 44, 45, 32, 33, 35, 36, 37, 38, 48, 49, 51, 57, 54, 56]
/-- rows of what is under way -/
def gXL : List Nat := [31, 44, 45, 69, 70, 71, 72, 73, 75, 77, 78, 79, 80]
section GW
variable {own own' ad ad' : Nat → Nat} {H H' : xb_H} {W : wD} {σ mc ts : Nat} {M : Nat → mD} {φ φ' : Nat → Nat → Int32} {ℓ ℓ' : Nat → Nat → Int64} {ν ν' : Nat → Int32} {y y' : Int64} {DM : Nat → zM}
theorem stQ.cgW {A A' : Nat → Nat} {F F' : Nat → Nat → Int32} {most : Nat → Int64} (hk : ∀ k, k ∈ gWL → F' (A' k) = F (A k)) (hs : stQ H ad W A F DM most) : stQ H ad W A' F' DM most := by
  unfold stQ mnV gmV oV at *
  rw [hk 31 (by decide), hk 6 (by decide), hk 10 (by decide), hk 12 (by decide), hk 8 (by decide), hk 44 (by decide), hk 45 (by decide), hk 32 (by decide), hk 33 (by decide), hk 35 (by decide), hk 36 (by decide), hk 37 (by decide), hk 38 (by decide), hk 48 (by decide), hk 49 (by decide), hk 51 (by decide)]
  exact hs
theorem gmV_cgW {A A' : Nat → Nat} {F F' : Nat → Nat → Int32} (hk : ∀ k, k ∈ gWL → F' (A' k) = F (A k)) : gmV A' F' DM = gmV A F DM := by
  funext i
  unfold gmV oV
  rw [hk 31 (by decide), hk 32 (by decide), hk 33 (by decide), hk 37 (by decide), hk 38 (by decide)]
theorem rSt.cgX {cs : List cX} {n : Nat} (hφ : ∀ k, k ∈ gXL → φ' k = φ k) (hν : ∀ j, j ∈ [43, 68, 76, 81] → ν' j = ν j) (hr : rSt id φ ν DM cs n) : rSt id φ' ν' DM cs n := by
  obtain ⟨r1, r2, r3⟩ := hr
  refine ⟨by rw [hν 68 (by decide)]; exact r1, fun e => by rw [hν 76 (by decide)]; exact r2 e, fun e => ?_⟩
  obtain ⟨top, opens, k1, k2, k3⟩ := r3 e
  refine ⟨top, opens, by rw [hν 76 (by decide)]; exact k1, by rw [hν 81 (by decide)]; exact k2, ?_⟩
  refine RC.fr (φ := fun k => φ (id k)) (ν := ν) (hφ 31 (by decide)) (hφ 44 (by decide)) (hφ 45 (by decide)) (by unfold vN; rw [hν 43 (by decide)]) (fun k hk j _ => ?_) (fun j _ => ?_) (fun k hk j _ => ?_) k3
  · have : k ∈ gXL := (by decide : ∀ k, k ∈ [69, 70, 71, 72, 73] → k ∈ gXL) k hk
    exact congrFun (hφ k this) j
  · exact congrFun (hφ 75 (by decide)) j
  · have : k ∈ gXL := (by decide : ∀ k, k ∈ [77, 78, 79, 80] → k ∈ gXL) k hk
    exact congrFun (hφ k this) j
theorem gWd.cg (hφ : ∀ k, k ∈ gWL → φ' k = φ k) (hℓ : ∀ k, k ∈ [55, 61, 87] → ℓ' k = ℓ k) (hν : ∀ j, j ∈ [30, 43, 47, 53, 58, 88] → ν' j = ν j) (q3 : gWd ad H W mc M φ ℓ ν DM) : gWd ad H W mc M φ' ℓ' ν' DM := by
  obtain ⟨c1, c2, c3, c4⟩ := q3
  have vn : ∀ j, j ∈ [30, 43, 47, 53, 58, 88] → vN ν' j = vN ν j := fun j hj => by unfold vN; rw [hν j hj]
  have hk : ∀ k, k ∈ gWL → φ' (id k) = φ (id k) := hφ
  refine ⟨by rw [vn 30 (by decide), vn 43 (by decide), vn 58 (by decide), vn 47 (by decide)]; exact c1, by rw [hφ 31 (by decide)]; exact c2, by rw [hℓ 55 (by decide)]; exact c3.cgW hk, ?_⟩
  rw [gmV_cgW hk, hℓ 61 (by decide), hφ 57 (by decide), hφ 54 (by decide), hφ 56 (by decide), hν 53 (by decide), hν 88 (by decide), hℓ 87 (by decide)]
  exact c4
theorem gRn.cg (hφ : ∀ k, k ∈ gXL → φ' k = φ k) (hℓ : ∀ k, k ∈ [67, 74] → ℓ' k = ℓ k) (hν : ∀ j, j ∈ [43, 62, 63, 64, 68, 76, 81, 82] → ν' j = ν j) (q8 : gRn ad H W φ ℓ ν DM) : gRn ad H W φ' ℓ' ν' DM := by
  unfold gRn
  rw [hν 62 (by decide), hν 63 (by decide), hν 64 (by decide), hν 68 (by decide), hν 82 (by decide), hℓ 67 (by decide), hℓ 74 (by decide)]
  rcases q8 with q8 | ⟨k1, k2, k3⟩
  · exact .inl q8
  · refine .inr ⟨k1, k2, ?_⟩
    rcases k3 with ⟨k3, k4, f, k5, k6, k7, k8⟩ | ⟨k3, k4, D, gx, cs, n, r1, r2, r3⟩
    · refine .inl ⟨k3, k4, f, k5, k6, k7, fun j hj => ?_⟩
      rw [fPk.st (hφ 31 (by decide)) (hφ 44 (by decide)) (hφ 45 (by decide))]
      exact k8 j hj
    · exact .inr ⟨k3, k4, D, gx, cs, n, r1, r2.cgX hφ (fun j hj => hν j ((by decide : ∀ j, j ∈ [43, 68, 76, 81] → j ∈ [43, 62, 63, 64, 68, 76, 81, 82]) j hj)), r3.cgF (hφ 31 (by decide)) (hφ 44 (by decide))⟩
/-- what both leave alone stays alike: C what the class changes, CA CL CV what the reference changes -/
theorem gQ.stR {C CA CL CV : List Nat} {K : Nat} (hI : cI own ad H W σ ts K) (hM : cMx own ad H mc M) (s : stp C [] own ad own' ad' H H') (hC : ∀ k ∈ C, k < 41) (hφ : ∀ k, k ∈ gAL → k ∉ CA → φ' k = φ k) (hℓ : ∀ k, k ∈ gLL → k ∉ CL → ℓ' k = ℓ k) (hν : ∀ j, j ∈ gVL → j ∉ CV → ν' j = ν j) (hy : y' = y) (hQ : gQ ad H W mc M ts φ ℓ ν y DM) :
    (1 ∉ C ∧ 1 ∉ CA ∧ 2 ∉ CV → gTp ad' H' ts φ' ν') ∧ (2 ∉ C ∧ (∀ k, k ∈ [8, 12] → k ∉ CA) ∧ 5 ∉ CV → gMd ad' H' mc M φ' ν' DM) ∧ ((∀ k, k ∈ [2, 22, 24, 26, 27, 28] → k ∉ C) ∧ (∀ k, k ∈ gWL → k ∉ CA) ∧ (∀ k, k ∈ [55, 61, 87] → k ∉ CL) ∧ (∀ k, k ∈ [30, 43, 47, 53, 58, 88] → k ∉ CV) → gWd ad' H' W mc M φ' ℓ' ν' DM) ∧ ((∀ k, k ∈ [29, 30, 31] → k ∉ C) ∧ (∀ k, k ∈ [3, 39, 40, 41] → k ∉ CA) ∧ 42 ∉ CV → gNm ad' H' φ' ν') ∧ ((∀ k, k ∈ [16, 17] → k ∉ C) ∧ 65 ∉ CL ∧ 66 ∉ CV → gAr ad' H' ℓ' ν') ∧ (0 ∉ C ∧ 89 ∉ CA → gFt ad' H' φ') ∧ ((∀ k, k ∈ [15, 36] → k ∉ C) ∧ 86 ∉ CA → gRs ad' H' φ' y') ∧ ((∀ k, k ∈ [15, 37, 38] → k ∉ C) ∧ (∀ k, k ∈ gXL → k ∉ CA) ∧ (∀ k, k ∈ [67, 74] → k ∉ CL) ∧ (∀ k, k ∈ [43, 62, 63, 64, 68, 76, 81, 82] → k ∉ CV) → gRn ad' H' W φ' ℓ' ν' DM) ∧ ((∀ k, k ∈ [31, 32, 33, 37, 38, 59, 60, 75] → k ∉ CA) ∧ (∀ k, k ∈ [50, 74] → k ∉ CL) → gVm φ' ℓ' ∧ gXt H' W φ' ℓ' DM) := by
  obtain ⟨p1, p2, p3, p4, p5, p6, p7, p8, p9⟩ := hQ.st hI hM s hC
  refine ⟨fun ⟨h1, h2, h3⟩ => ?_, fun ⟨h1, h2, h3⟩ => ?_, fun ⟨h1, h2, h3, h4⟩ => ?_, fun ⟨h1, h2, h3⟩ => ?_, fun ⟨h1, h2, h3⟩ => ?_, fun ⟨h1, h2⟩ => ?_, fun ⟨h1, h2⟩ => ?_, fun ⟨h1, h2, h3, h4⟩ => ?_, fun ⟨h1, h2⟩ => ?_⟩
  · have := p1 h1
    unfold gTp at *
    rw [hφ 1 (by decide) h2, hν 2 (by decide) h3]
    exact this
  · have := p2 h1
    unfold gMd vN at *
    rw [hφ 8 (by decide) (h2 8 (by decide)), hφ 12 (by decide) (h2 12 (by decide)), hν 5 (by decide) h3]
    exact this
  · exact (p3 h1).cg (fun k hk => hφ k ((by decide : ∀ k, k ∈ gWL → k ∈ gAL) k hk) (h2 k hk)) (fun k hk => hℓ k ((by decide : ∀ k, k ∈ [55, 61, 87] → k ∈ gLL) k hk) (h3 k hk)) (fun k hk => hν k ((by decide : ∀ k, k ∈ [30, 43, 47, 53, 58, 88] → k ∈ gVL) k hk) (h4 k hk))
  · have := p4 h1
    unfold gNm vN at *
    rw [hφ 3 (by decide) (h2 3 (by decide)), hφ 39 (by decide) (h2 39 (by decide)), hφ 40 (by decide) (h2 40 (by decide)), hφ 41 (by decide) (h2 41 (by decide)), hν 42 (by decide) h3]
    exact this
  · have := p5 h1
    unfold gAr at *
    rw [hℓ 65 (by decide) h2, hν 66 (by decide) h3]
    exact this
  · have := p6 h1
    unfold gFt at *
    rw [hφ 89 (by decide) h2]
    exact this
  · have := p7 h1
    unfold gRs at *
    rw [hφ 86 (by decide) h2, hy]
    exact this
  · exact (p8 h1).cg (fun k hk => hφ k ((by decide : ∀ k, k ∈ gXL → k ∈ gAL) k hk) (h2 k hk)) (fun k hk => hℓ k ((by decide : ∀ k, k ∈ [67, 74] → k ∈ gLL) k hk) (h3 k hk)) (fun k hk => hν k ((by decide : ∀ k, k ∈ [43, 62, 63, 64, 68, 76, 81, 82] → k ∈ gVL) k hk) (h4 k hk))
  · refine ⟨?_, p9.2.cg (fun k hk => hφ k ((by decide : ∀ k, k ∈ [31, 32, 33, 37, 38, 59, 60] → k ∈ gAL) k hk) (h1 k ((by decide : ∀ k, k ∈ [31, 32, 33, 37, 38, 59, 60] → k ∈ [31, 32, 33, 37, 38, 59, 60, 75]) k hk))) (hℓ 50 (by decide) (h2 50 (by decide)))⟩
    have p9' := p9.1
    unfold gVm at *
    rw [hφ 75 (by decide) (h1 75 (by decide)), hℓ 74 (by decide) (h2 74 (by decide))]
    exact p9'
end GW
section GX
variable {oc oc' or_ or' A A' : Nat → Nat} {H H1 h h2 : xb_H} {F F2 : Nat → Nat → Int32} {v v2 u : Nat → Int32} {DM DM' : Nat → zM} {len rl len' rl' : Nat} {ad ad' : Nat → Nat} {W W' : wD} {σ x1 mm x3 K ts ts' mc mc' bc bs bc1 bs1 rc rs : Nat} {M M' : Nat → mD} {Qr : Int32 → xb_H → Nat → Nat → Prop} {Qs : Int32 → xb_H → Prop} {Ql : Int64 → xb_H → Prop} {r : Int32} {y : Int64}
theorem mB.up (hB : mB or_ mm A h) {j k : Nat} {w : Nat → Int32} (hj : ∃ e ∈ aL, e.1 = j) (hk : ∃ e ∈ aL, e.1 = k) (hne : k ≠ j) : va_up F (A j) w (A k) = F (A k) := by
  have h1 := hB.o hj
  have h2 := hB.o hk
  rw [xh_up, if_neg (fun h9 => by rw [h9] at h2; omega)]
theorem jMd.rgs (hJ : jMd oc or_ H σ x1 mm x3 K bc bs A v DM len rl ad W ts mc M) : rG len rl (cC ad H W ts K) (cS_ ad H W ts K) (K + 1) bc bs := by
  have := hJ.2.2.2.2.2.1
  unfold refC refS at this
  unfold rG
  omega
/-- the reference's rows, as they were before -/
def sR (A : Nat → Nat) (mm : Nat) (H H2 : xb_H) : Prop := (∀ k, (∃ e ∈ aL, e.1 = k) → xb_i H2 (A k) = xb_i H (A k) ∧ xb_l H2 (A k) = xb_l H (A k)) ∧ xb_l H2 mm = xb_l H mm
/-- the class answered; its answer is written down; then the reference answers -/
theorem jO.chV {z : Int32} {w : xb_H → Nat → Nat → (Int32 → xb_H → Nat → Nat → Prop) → Prop} (hO : jO σ x1 mm x3 K H bc bs oc or_ A v DM len rl ad W ts mc M rc rs) (hX : jV σ x1 mm x3 K w Qr) (hr : hR oc oc' H H1) (e0 : ad' 0 = ad 0) (hI' : cI oc' ad' H1 W' σ ts' K) (hM' : cMx oc' ad' H1 mc' M') (hg' : cG ad' H1 W' ts' K rc rs bc1 bs1)
    (hw : ∀ (H2 : xb_H) (or' : Nat → Nat) (Q2 : Int32 → xb_H → Nat → Nat → Prop), rA or' mm A H2 (xb_i H2) v DM len rl (K + 1) → sR A mm H H2 → or' x3 = 500 → rG len rl (cC ad' H2 W' ts' K) (cS_ ad' H2 W' ts' K) (K + 1) bc1 bs1 → (∀ (h2 : xb_H) (F2 : Nat → Nat → Int32) (u : Nat → Int32), f0 or' H2 (xb_i H2) h2 F2 → rA or' mm A h2 F2 u DM len rl K → gQ ad' H1 W' mc' M' ts' (fun k => F2 (A k)) (fun k => xb_l h2 (A k)) u (xb_l h2 mm 85) DM → u 0 = 0 → xb_l h2 x3 = xb_l H2 x3 → Q2 z (mH h2 F2 mm u) bc1 bs1) → w (mH H2 (xb_i H2) mm v) bc1 bs1 Q2) : xb_k H1 x3 = 103 ∧ vp_in 0 (xb_n H1 x3) ∧ ∀ h6 : xb_H, h6 = xb_L H1 x3 (Int32.toNatClampNeg 0) (Int32.toInt64 z) → Qr 0 h6 bc1 bs1 := by
  obtain ⟨or', hJ, t1, t2⟩ := hO.2.2.2.2 H1 oc' ad' W' ts' mc' M' bc1 bs1 hr e0 hI' hM' hg'
  obtain ⟨k1, k2, k3, k4, k5⟩ := hJ.out (y := Int32.toInt64 z)
  have n3 := hJ.2.2.2.2.2.2.2.2.2.2
  refine ⟨hJ.2.2.2.2.2.2.2.2.2.1, by rw [n3, z_in]; decide, fun h6 e6 => ?_⟩
  subst e6
  refine hX 0 _ _ _ k1.k9 (fun Q2 hQ2 => ?_)
  show w (xb_L H1 x3 0 (Int32.toInt64 z)) bc1 bs1 _
  refine cast (congrArg (fun X => w X bc1 bs1 _) k1.2.1.symm) ?_
  refine hw _ or' _ k1.1 ⟨fun k hk => ⟨(t1 k hk).1, (k3 k hk).trans (t1 k hk).2⟩, k4.trans t2⟩ hJ.2.2.2.2.2.2.2.2.1 k1.rgs (fun h2 F2 u hf hA' hQ' h0 h3 => hQ2 _ _ _ _ ⟨k1.fin hf hA' (hQ'.fz hI' hM' k2), by rw [mH_i]; exact h0, fun _ => ?_⟩)
  have : xb_l h2 x3 0 = xb_l (xb_L H1 x3 0 (Int32.toInt64 z)) x3 0 := congrFun h3 0
  exact this.trans k5
/-- the class is done; then the reference -/
theorem jO.chU {c : Int32} {w : xb_H → Nat → Nat → (xb_H → Nat → Nat → Prop) → Prop} (hO : jO σ x1 mm x3 K H bc bs oc or_ A v DM len rl ad W ts mc M rc rs) (hX : jU σ x1 mm x3 K w Qr) (hr : hR oc oc' H H1) (e0 : ad' 0 = ad 0) (hI' : cI oc' ad' H1 W' σ ts' K) (hM' : cMx oc' ad' H1 mc' M') (hg' : cG ad' H1 W' ts' K rc rs bc1 bs1)
    (hw : ∀ (or' : Nat → Nat) (Q2 : xb_H → Nat → Nat → Prop), rA or' mm A H1 (xb_i H1) v DM len rl (K + 1) → sR A mm H H1 → rG len rl (cC ad' H1 W' ts' K) (cS_ ad' H1 W' ts' K) (K + 1) bc1 bs1 → (∀ (h2 : xb_H) (F2 : Nat → Nat → Int32) (u : Nat → Int32), f0 or' H1 (xb_i H1) h2 F2 → rA or' mm A h2 F2 u DM len rl K → gQ ad' H1 W' mc' M' ts' (fun k => F2 (A k)) (fun k => xb_l h2 (A k)) u (xb_l h2 mm 85) DM → u 0 = c → Q2 (mH h2 F2 mm u) bc1 bs1) → w (mH H1 (xb_i H1) mm v) bc1 bs1 Q2) : Qr c H1 bc1 bs1 := by
  obtain ⟨or', hJ, t1, t2⟩ := hO.2.2.2.2 H1 oc' ad' W' ts' mc' M' bc1 bs1 hr e0 hI' hM' hg'
  refine hX c _ _ _ hJ.k9 (fun Q2 hQ2 => ?_)
  refine cast (congrArg (fun X => w X bc1 bs1 _) hJ.2.1.symm) ?_
  exact hw or' _ hJ.1 ⟨t1, t2⟩ hJ.rgs (fun h2 F2 u hf hA' hQ' h0 => hQ2 _ _ _ ⟨hJ.fin hf hA' hQ', by rw [mH_i]; exact h0⟩)
/-- the class threw and changed nothing; so does the reference -/
theorem jO.twU {c : Int32} {w : xb_H → Nat → Nat → (xb_H → Nat → Nat → Prop) → Prop} (hO : jO σ x1 mm x3 K H bc bs oc or_ A v DM len rl ad W ts mc M rc rs) (hX : jU σ x1 mm x3 K w Qr)
    (hw : ∀ (or' : Nat → Nat) (rc' rs' : Nat) (Q2 : xb_H → Nat → Nat → Prop), rA or' mm A H (xb_i H) v DM len rl (K + 1) → rG len rl rc' rs' (K + 1) (bc - 1) (bs - 6) → (∀ u : Nat → Int32, rA or' mm A H (xb_i H) u DM len rl K → (∀ j, j ∈ gVL → u j = v j) → u 0 = c → Q2 (mH H (xb_i H) mm u) (bc - 1) (bs - 6)) → w (mH H (xb_i H) mm v) (bc - 1) (bs - 6) Q2) : Qr c H (bc - 1) (bs - 6) := by
  obtain ⟨or', hJ⟩ := hO.th (c := 1) (s := 6) (by omega) (by omega)
  refine hX c _ _ _ hJ.k9 (fun Q2 hQ2 => ?_)
  refine cast (congrArg (fun X => w X _ _ _) hJ.2.1.symm) ?_
  exact hw or' _ _ _ hJ.1 hJ.rgs (fun u hA' hu h0 => hQ2 _ _ _ ⟨hJ.fin f0.rf hA' (hO.2.1.cgR (fun _ _ => rfl) (fun _ _ => rfl) hu), by rw [mH_i]; exact h0⟩)
/-- so with an answer -/
theorem jO.twV {c : Int32} {w : xb_H → Nat → Nat → (Int32 → xb_H → Nat → Nat → Prop) → Prop} (hO : jO σ x1 mm x3 K H bc bs oc or_ A v DM len rl ad W ts mc M rc rs) (hX : jV σ x1 mm x3 K w Qr) (hc : c ≠ 0)
    (hw : ∀ (or' : Nat → Nat) (rc' rs' : Nat) (Q2 : Int32 → xb_H → Nat → Nat → Prop), rA or' mm A H (xb_i H) v DM len rl (K + 1) → rG len rl rc' rs' (K + 1) (bc - 1) (bs - 6) → (∀ (z : Int32) (u : Nat → Int32), rA or' mm A H (xb_i H) u DM len rl K → (∀ j, j ∈ gVL → u j = v j) → u 0 = c → Q2 z (mH H (xb_i H) mm u) (bc - 1) (bs - 6)) → w (mH H (xb_i H) mm v) (bc - 1) (bs - 6) Q2) : Qr c H (bc - 1) (bs - 6) := by
  obtain ⟨or', hJ⟩ := hO.th (c := 1) (s := 6) (by omega) (by omega)
  refine hX c _ _ _ hJ.k9 (fun Q2 hQ2 => ?_)
  refine cast (congrArg (fun X => w X _ _ _) hJ.2.1.symm) ?_
  exact hw or' _ _ _ hJ.1 hJ.rgs (fun z u hA' hu h0 => hQ2 _ _ _ _ (jE.mk0 hJ hO.2.1 hA' hu h0 (fun h9 => absurd h9 hc)))
/-- the class is done; then the reference; nothing is thrown -/
theorem jO.chW {z : Int32} {w : xb_H → (Int32 → xb_H → Prop) → Prop} (hO : jO σ x1 mm x3 K H bc bs oc or_ A v DM len rl ad W ts mc M rc rs) (hX : jW σ x1 mm x3 K bc bs w Qs) (hr : hR oc oc' H H1) (e0 : ad' 0 = ad 0) (hI' : cI oc' ad' H1 W' σ ts' K) (hM' : cMx oc' ad' H1 mc' M') (hg' : cG ad' H1 W' ts' K rc rs bc bs)
    (hw : ∀ (or' : Nat → Nat) (Q2 : Int32 → xb_H → Prop), rA or' mm A H1 (xb_i H1) v DM len rl (K + 1) → sR A mm H H1 → (∀ (h2 : xb_H) (F2 : Nat → Nat → Int32) (u : Nat → Int32), f0 or' H1 (xb_i H1) h2 F2 → rA or' mm A h2 F2 u DM len rl K → gQ ad' H1 W' mc' M' ts' (fun k => F2 (A k)) (fun k => xb_l h2 (A k)) u (xb_l h2 mm 85) DM → Q2 z (mH h2 F2 mm u)) → w (mH H1 (xb_i H1) mm v) Q2) : Qs z H1 := by
  obtain ⟨or', hJ, t1, t2⟩ := hO.2.2.2.2 H1 oc' ad' W' ts' mc' M' bc bs hr e0 hI' hM' hg'
  refine hX z _ hJ.k9 (fun Q2 hQ2 => ?_)
  refine cast (congrArg (fun X => w X Q2) hJ.2.1.symm) ?_
  exact hw or' _ hJ.1 ⟨t1, t2⟩ (fun h2 F2 u hf hA' hQ' => hQ2 _ _ rfl (hJ.fin hf hA' hQ'))
end GX
