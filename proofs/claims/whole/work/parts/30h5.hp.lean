-- equality: instantiate, a module's imports taken over in both; rows that fit
/-- what a module's imports are, in both -/
def lnQ (H : xb_H) (W : wD) (φ : Nat → Nat → Int32) (DM : Nat → zM) (D : zM) (ad1 : Nat → Nat) (h1 : xb_H) (w : Nat → Int32) : Prop :=
  (∀ j, j < iM D 0 → ∃ f : Nat, (xb_l h1 (ad1 33) j).toInt = f ∧ vf W f ∧ (w (ikx D 0 (qt D 2) j)).toInt = fmp f) ∧
  (∀ j, j < iM D 3 → ∃ g : Nat, (xb_l h1 (ad1 35) j).toInt = g ∧ g < wnv W ∧ (w (ikx D 3 (qt D 2) j)).toInt = g ∧ (φ 59 g).toInt = vty D j ∧ (φ 60 g).toInt = vmu D j) ∧
  ((0 < iM D 1 → ∃ i ta : Nat, i < wic W ∧ 0 < dn (wd W i) 3 / 3 ∧ xb_r H (wia W i) 6 = some ta ∧ xb_r h1 (ad1 14) 14 = some ta ∧ (w (ikx D 1 (qt D 2) 0)).toInt = (oV id φ DM i 1).toInt.toNat) ∧ (iM D 1 = 0 → xb_r h1 (ad1 14) 14 = none)) ∧
  ((0 < iM D 2 → ∃ i ma : Nat, i < wic W ∧ 0 < dn (wd W i) 4 / 3 ∧ xb_r H (wia W i) 7 = some ma ∧ xb_r h1 (ad1 14) 15 = some ma ∧ (w (ikx D 2 (qt D 2) 0)).toInt = gmV id φ DM i) ∧ (iM D 2 = 0 → xb_r h1 (ad1 14) 15 = none))
section HR
variable {own ad own1 ad1 A : Nat → Nat} {H h1 : xb_H} {W : wD} {σ ts K mc m k md : Nat} {M : Nat → mD} {v w : Nat → Int32} {y : Int64} {DM : Nat → zM} {len : Nat} {r r' x : Int32} {vv : Nat → Nat} {d : mD} {D : zM}
theorem mdQ.n1 (hq : mdQ d D) : dn d 1 = 7 * qt D 2 := by
  obtain ⟨b, N, cA, S, ω, hD, hL, -⟩ := hq
  obtain ⟨vs0, ν0, hE, -⟩ := hL
  have hS : qt D 2 = S.1 2 := by rw [hD]; rfl
  rw [hS]
  exact hE.2.1.1
theorem imp_ok (hI : cI own ad H W σ ts K) (hM : cMx own ad H mc M) (hQ : gQ ad H W mc M ts (fun k => xb_i H (A k)) (fun k => xb_l H (A k)) v y DM) (h2 : W2 (fun k => xb_i H (A k)) v len DM) (h3 : W3 (fun k => xb_i H (A k)) v DM) (h4 : W4 (fun k => xb_i H (A k)) v DM) (hm : m < mc) (hk : k < qt (DM m) 2) {u : Nat} (hl : luR ad H W (M m) k 0 u) (hf : foR A H (xb_i H) DM v (DM m) k r') : ∃ g : Nat, r'.toInt = g ∧ ivQ H W (fun k => xb_i H (A k)) DM (ub (qc (DM m)) (kpo (DM m) k)).toInt u g := by
  rcases imp_eq hI hM hQ h2 h3 h4 hm hk hl hf with ⟨-, h9⟩ | ⟨h9, -⟩ | ⟨h9, -⟩ | ⟨h9, -⟩
  · exact h9
  · exact absurd h9 (by decide)
  · exact absurd h9 (by decide)
  · exact absurd h9 (by decide)
theorem imp_no (hI : cI own ad H W σ ts K) (hM : cMx own ad H mc M) (hQ : gQ ad H W mc M ts (fun k => xb_i H (A k)) (fun k => xb_l H (A k)) v y DM) (h2 : W2 (fun k => xb_i H (A k)) v len DM) (h3 : W3 (fun k => xb_i H (A k)) v DM) (h4 : W4 (fun k => xb_i H (A k)) v DM) (hm : m < mc) (hk : k < qt (DM m) 2) {u : Nat} (hx : x ≠ 0) (hl : luR ad H W (M m) k x u) (hf : foR A H (xb_i H) DM v (DM m) k r') : r'.toInt < 0 ∧ -r' = x := by
  rcases imp_eq hI hM hQ h2 h3 h4 hm hk hl hf with ⟨h9, -⟩ | ⟨h9, h8⟩ | ⟨h9, h8⟩ | ⟨h9, h8⟩
  · exact absurd h9 hx
  · rw [h9, h8]; decide
  · rw [h9, h8]; decide
  · rw [h9, h8]; decide
theorem ln_imp (hI : cI own ad H W σ ts K) (hM : cMx own ad H mc M) (hQ : gQ ad H W mc M ts (fun k => xb_i H (A k)) (fun k => xb_l H (A k)) v y DM) (h2 : W2 (fun k => xb_i H (A k)) v len DM) (h3 : W3 (fun k => xb_i H (A k)) v DM) (h4 : W4 (fun k => xb_i H (A k)) v DM) (hm : m < mc) (hl : lkM own ad H W (M m) vv own1 ad1 h1) (hw : iI A H (xb_i H) v DM (DM m) (qt (DM m) 2) w) : lnQ H W (fun k => xb_i H (A k)) DM (DM m) ad1 h1 w := by
  obtain ⟨hq, -⟩ := hQ.2.1.q hm
  obtain ⟨md, hmd, hmo⟩ := hM.2.2.2 m hm
  obtain ⟨-, hS, hA⟩ := hl
  have n1 := hq.n1
  have en : dn (M m) 1 / 7 = qt (DM m) 2 := by omega
  rw [en] at hS hA
  have mcn : ∀ (κ k : Nat), k ≤ qt (DM m) 2 → mcnt (dvs (M m) 1) κ k = kcn (qc (DM m)) (qp (DM m) 2) κ k := fun κ k hk => hq.mc (κ := κ) k hk
  -- the j-th import of a kind
  have key : ∀ (κ j : Nat), j < iM (DM m) κ → ikx (DM m) κ (qt (DM m) 2) j < qt (DM m) 2 ∧ (∃ g : Nat, (w (ikx (DM m) κ (qt (DM m) 2) j)).toInt = g ∧ ivQ H W (fun k => xb_i H (A k)) DM κ (vv (ikx (DM m) κ (qt (DM m) 2) j)) g) ∧ lkI ad1 h1 (M m) κ (ikx (DM m) κ (qt (DM m) 2) j) (vv (ikx (DM m) κ (qt (DM m) 2) j)) ∧ mcnt (dvs (M m) 1) κ (ikx (DM m) κ (qt (DM m) 2) j) = j ∧ (ub (qc (DM m)) (kpo (DM m) (ikx (DM m) κ (qt (DM m) 2) j))).toInt = κ := fun κ j hj => by
    obtain ⟨g1, g2, g3⟩ := ikx_f (D := DM m) (κ := κ) (n := qt (DM m) 2) hj
    obtain ⟨a1, a2⟩ := hA _ g1
    have e1 := (hq.im g1).1
    rw [g2] at e1
    rw [e1, Int.toNat_natCast] at a2
    have := imp_ok hI hM hQ h2 h3 h4 hm g1 a1 (hw _ g1).2
    rw [g2] at this
    exact ⟨g1, this, a2, by rw [mcn κ _ (by omega)]; exact g3, g2⟩
  have n0 : ∀ κ : Nat, mcnt (dvs (M m) 1) κ (qt (DM m) 2) = iM (DM m) κ := fun κ => mcn κ _ (Nat.le_refl _)
  refine ⟨fun j hj => ?_, fun j hj => ?_, ⟨fun h9 => ?_, fun h9 => hS.2.2.1.1 ((n0 1).trans h9)⟩, fun h9 => ?_, fun h9 => hS.2.2.2.1 ((n0 2).trans h9)⟩
  · obtain ⟨g1, ⟨g, b1, b2⟩, b3, b4, -⟩ := key 0 j hj
    obtain ⟨c1, c2⟩ := b2.1 rfl
    have := b3.1 rfl
    have b4' : mcnt (dvs (M m) 1) 0 (ikx (DM m) 0 (qt (DM m) 2) j) = j := b4
    rw [b4'] at this
    exact ⟨_, this, c1, by rw [b1, c2]⟩
  · obtain ⟨g1, ⟨g, b1, b2⟩, b3, b4, b5⟩ := key 3 j hj
    have c2 := b2.2.2.2 rfl
    have c3 := b3.2.1 rfl
    have b4' : mcnt (dvs (M m) 1) 3 (ikx (DM m) 3 (qt (DM m) 2) j) = j := b4
    rw [b4'] at c3
    obtain ⟨u, u1, u2, -⟩ := hS.2.1.2 j (Nat.lt_of_lt_of_eq hj (n0 3).symm)
    have eu : vv (ikx (DM m) 3 (qt (DM m) 2) j) = u := by omega
    -- its type, by the reference's own look
    obtain ⟨is, -, hc⟩ := (hw _ g1).2
    have hfi : fiS A H (xb_i H) DM (DM m) (ikx (DM m) 3 (qt (DM m) 2) j) g := by
      rcases hc with ⟨f1, f2⟩ | ⟨g', f1, ⟨f2, f3⟩ | ⟨f2, f3⟩⟩
      · rw [← f2] at f1
        omega
      · rw [f3] at b1
        have : g' = g := by omega
        rw [← this]
        exact f2
      · rw [f3] at b1
        have : (-43 : Int32).toInt = -43 := rfl
        omega
    obtain ⟨t1, t2⟩ := hfi.2.2.2 b5
    have ev : vpo (DM m) j = kpo (DM m) (ikx (DM m) 3 (qt (DM m) 2) j) + 1 := if_pos hj
    have hjv : j < nvr (M m) := by
      have := hq.n.2.2.2.2.1
      unfold nvr
      omega
    have m2 := (hq.va hjv).2.2
    have m3 := (hmo.var hjv).2.2.2
    refine ⟨u, by rw [c3, eu], u2, by rw [b1, c2, eu], ?_, ?_⟩
    · show (xb_i H (A 59) u).toInt = (ub (qc (DM m)) (vpo (DM m) j)).toInt
      rw [ev, ← eu, ← c2, t1]
    · show (xb_i H (A 60) u).toInt = vmu (DM m) j
      rw [← eu, ← c2, t2]
      rw [m2] at m3
      unfold vmu at m3 ⊢
      rw [ev] at m3 ⊢
      have e1 : kpo (DM m) (ikx (DM m) 3 (qt (DM m) 2) j) + 1 + 1 = kpo (DM m) (ikx (DM m) 3 (qt (DM m) 2) j) + 2 := rfl
      rw [e1] at m3 ⊢
      rcases m3 with m3 | m3
      · rw [if_neg (fun e => by rw [e] at m3; exact absurd m3 (by decide)), m3]
        rfl
      · rw [if_pos (z_eq.mpr (by rw [m3]; rfl)), m3]
        rfl
  · obtain ⟨g1, ⟨g, b1, b2⟩, b3, b4, -⟩ := key 1 0 h9
    obtain ⟨i, c1, c2, c3, c4⟩ := b2.2.1 rfl
    exact ⟨i, _, c1, c2, c3, b3.2.2.1 rfl, by rw [b1, c4]⟩
  · obtain ⟨g1, ⟨g, b1, b2⟩, b3, b4, -⟩ := key 2 0 h9
    obtain ⟨i, c1, c2, c3, c4⟩ := b2.2.2.1 rfl
    exact ⟨i, _, c1, c2, c3, b3.2.2.2 rfl, by rw [b1, c4]⟩
/-- a constant's worth stays in its range -/
theorem cv_vr {p : Nat} {τ : Int} {h : xb_H} (hV : wV ad h W) (hF : fV ad h W d (ni d 3)) (hni : (div_ d 3).toInt = ni d 3) (he : ck_ex (dN d) (dcb d) (dnu d) (dvs d 5) (div_ d 3).toInt p τ) : vr τ (cv ad h d p) := by
  obtain ⟨h1, h2⟩ := he
  by_cases e : dcb d p = 35
  · have e0 : cv ad h d p = xb_l h (ad 22) (xb_l h (ad 35) (dnu d (p + 1)).toInt.toNat).toInt.toNat := if_pos e
    rw [e0]
    rcases h2 with ⟨-, i, h3, h4, h5⟩ | ⟨h2, -⟩
    · obtain ⟨v, g1, g2, g3⟩ := hF.2 i (by omega)
      rw [h3, Int.toNat_natCast, g1, Int.toNat_natCast, ← h5, ← g3]
      exact (hV.2.2 v g2).2
    · rw [e] at h2
      exact absurd h2 (by decide)
  · have e0 : cv ad h d p = kc d p := if_neg e
    rw [e0]
    rcases h2 with ⟨h2, -⟩ | ⟨h2, h3, h4⟩
    · exact absurd (z_eq.mpr h2) e
    · rw [h4]
      exact kc_vr h2 h3
/-- a constant is worth the same in both -/
theorem cv_eq {A2 : Nat → Nat} {h3 : xb_H} {G : Nat → Nat → Int32} {φ : Nat → Nat → Int32} {ip p : Nat} (hk : knQ d D p) (hw : ∀ j, j < qt D 2 → G (A2 33) (ip + j) = w j) (hl : lnQ H W φ DM D ad1 h1 w) (hv : ∀ g, g < wnv W → xb_l h3 (A2 61) g = xb_l h1 (ad1 22) g) : cv ad1 h1 d p = cnV A2 h3 G D ip (qb D + p) := by
  unfold cv cnV
  rcases hk with ⟨k1, k2, k3, k4⟩ | ⟨k1, k2, k3⟩
  · rw [if_pos k2, if_pos k1, k3, Int.toNat_natCast]
    obtain ⟨g, b1, b2, b3, -⟩ := hl.2.1 _ k4
    rw [hw _ (ikx_f (D := D) (κ := 3) (n := qt D 2) k4).1, b1, b3, Int.toNat_natCast, hv g b2]
  · rw [if_neg k2, if_neg k1, k3]
theorem Z_low4 {x : Int64} (h0 : 0 ≤ x.toInt) (h1 : x.toInt < 4294967296) : (x &&& 4294967295).toInt = x.toInt := by
  rw [Z_low]
  omega
end HR
