-- equality: instantiate, an import in both
/-- what an import is given, in both -/
def ivQ (H : xb_H) (W : wD) (φ : Nat → Nat → Int32) (DM : Nat → zM) (κ : Int) (v g : Nat) : Prop :=
  (κ = 0 → vf W v ∧ g = fmp v) ∧ (κ = 1 → ∃ i, i < wic W ∧ 0 < dn (wd W i) 3 / 3 ∧ xb_r H (wia W i) 6 = some v ∧ g = (oV id φ DM i 1).toInt.toNat) ∧ (κ = 2 → ∃ i, i < wic W ∧ 0 < dn (wd W i) 4 / 3 ∧ xb_r H (wia W i) 7 = some v ∧ g = gmV id φ DM i) ∧ (κ = 3 → g = v)
section HK0
variable {own : Nat → Nat} {h : xb_H} {md k x : Nat} {d : mD} {D : zM} {z : Int32}
theorem hoH_i : (hoH z = 0 ↔ z = 105) ∧ (hoH z = 1 ↔ z = 108) ∧ (hoH z = 2 ↔ z = 102) ∧ (hoH z = 3 ↔ z = 100) ∧ (hoH z < 0 ↔ z ≠ 105 ∧ z ≠ 108 ∧ z ≠ 102 ∧ z ≠ 100) := by
  unfold hoH
  by_cases h1 : z = 105
  · subst h1
    decide
  · by_cases h2 : z = 108
    · subst h2
      decide
    · by_cases h3 : z = 102
      · subst h3
        decide
      · by_cases h4 : z = 100
        · subst h4
          decide
        · rw [if_neg h1, if_neg h2, if_neg h3, if_neg h4]
          refine ⟨⟨fun h => (by cases h), fun h => absurd h h1⟩, ⟨fun h => (by cases h), fun h => absurd h h2⟩, ⟨fun h => (by cases h), fun h => absurd h h3⟩, ⟨fun h => (by cases h), fun h => absurd h h4⟩, ⟨fun _ => ⟨h1, h2, h3, h4⟩, fun _ => by decide⟩⟩
theorem ub_is {c : Int32} {cb : Nat → Int32} {p : Nat} (hby : -128 ≤ (cb p).toInt ∧ (cb p).toInt ≤ 127) (h1 : 0 ≤ c.toInt) (h2 : c.toInt < 128) : ub cb p = c ↔ cb p = c := by
  constructor
  · intro e
    apply Int32.toInt.inj
    have := ub_i (cb := cb) (p := p)
    rw [e] at this
    omega
  · intro e
    apply Int32.toInt.inj
    rw [ub_i, e]
    omega
theorem mdQ.hox (hq : mdQ d D) (hm : mo own h md d) (hk : k < qt D 2) (hby : ∀ j, -128 ≤ (qc D j).toInt ∧ (qc D j).toInt ≤ 127) : (∀ x, x < 4 → (hoX d k x ↔ hoH (hoC D (qN (qc D) (qp D 2 k))) = x)) ∧ (hoH (hoC D (qN (qc D) (qp D 2 k))) < 0 ↔ ∀ x, x < 4 → ¬ hoX d k x) := by
  obtain ⟨-, b2, -⟩ := hq.nb hm hk
  obtain ⟨-, -, -, -, x6⟩ := hq.im hk
  obtain ⟨g0, g1, g2, g3, g4⟩ := hoH_i (z := hoC D (qN (qc D) (qp D 2 k)))
  have hb := hby (cE (qc D) (qN (qc D) (qp D 2 k)))
  have cc : ∀ c : Int32, 0 < c.toInt → c.toInt < 128 → (hoC D (qN (qc D) (qp D 2 k)) = c ↔ (dvs d 1 (7 * k + 6)).toInt = 1 ∧ dcb d (dvs d 1 (7 * k + 5)).toInt.toNat = c) := fun c h1 h2 => by
    unfold hoC
    by_cases h9 : cV (qc D) (qN (qc D) (qp D 2 k)) = 1
    · have := b2 0 (by omega)
      rw [Nat.add_zero, Nat.add_zero] at this
      rw [if_pos h9, this, ub_is hb (by omega) h2]
      exact ⟨fun e => ⟨by omega, e⟩, fun e => e.2⟩
    · rw [if_neg h9]
      refine ⟨fun e => ?_, fun e => absurd (by omega) h9⟩
      rw [← e] at h1
      cases h1
  have key : ∀ x, x < 4 → (hoX d k x ↔ hoH (hoC D (qN (qc D) (qp D 2 k))) = x) := fun x hx => by
    unfold hoX
    rcases (show x = 0 ∨ x = 1 ∨ x = 2 ∨ x = 3 by omega) with e | e | e | e
    · subst e
      exact (g0.trans (cc 105 (by decide) (by decide))).symm
    · subst e
      exact (g1.trans (cc 108 (by decide) (by decide))).symm
    · subst e
      exact (g2.trans (cc 102 (by decide) (by decide))).symm
    · subst e
      exact (g3.trans (cc 100 (by decide) (by decide))).symm
  refine ⟨key, ⟨fun h9 x hx h8 => ?_, fun h9 => ?_⟩⟩
  · have := (key x hx).mp h8
    omega
  · refine g4.mpr ⟨fun e => h9 0 (by decide) ((key 0 (by decide)).mpr (g0.mpr e)), fun e => h9 1 (by decide) ((key 1 (by decide)).mpr (g1.mpr e)), fun e => h9 2 (by decide) ((key 2 (by decide)).mpr (g2.mpr e)), fun e => h9 3 (by decide) ((key 3 (by decide)).mpr (g3.mpr e))⟩
end HK0
section HK
variable {own ad A : Nat → Nat} {H : xb_H} {W : wD} {σ ts K mc m k md : Nat} {M : Nat → mD} {v : Nat → Int32} {y : Int64} {DM : Nat → zM} {len : Nat} {r r' : Int32} {vv : Nat}
theorem mnV_o {A : Nat → Nat} {F : Nat → Nat → Int32} {DM : Nat → zM} {i κ : Nat} (hκ : κ = 1 ∨ κ = 2) : mnV A F DM i κ 0 = (oV A F DM i κ).toInt.toNat := by
  unfold mnV oV
  rcases hκ with e | e
  · subst e
    split
    · rfl
    · rfl
  · subst e
    split
    · rfl
    · rfl
theorem imp_eq (hI : cI own ad H W σ ts K) (hM : cMx own ad H mc M) (hQ : gQ ad H W mc M ts (fun k => xb_i H (A k)) (fun k => xb_l H (A k)) v y DM) (h2 : W2 (fun k => xb_i H (A k)) v len DM) (h3 : W3 (fun k => xb_i H (A k)) v DM) (h4 : W4 (fun k => xb_i H (A k)) v DM) (hm : m < mc) (hk : k < qt (DM m) 2) (hl : luR ad H W (M m) k r vv) (hf : foR A H (xb_i H) DM v (DM m) k r') : (r = 0 ∧ ∃ g : Nat, r'.toInt = g ∧ ivQ H W (fun k => xb_i H (A k)) DM (ub (qc (DM m)) (kpo (DM m) k)).toInt vv g) ∨ (r = 41 ∧ r' = -41) ∨ (r = 42 ∧ r' = -42) ∨ (r = 43 ∧ r' = -43) := by
  have hW := hI.1.2.1
  have st := hQ.2.2.1.2.2.1
  have e5 : vN v 5 = mc := hQ.2.1.1
  have hic : vN v 30 = wic W := hQ.2.2.1.1.1
  obtain ⟨hq, -⟩ := hQ.2.1.q hm
  obtain ⟨md, hmd, hmo⟩ := hM.2.2.2 m hm
  obtain ⟨hp, hr, -⟩ := h2 m (by omega)
  have hby := hr.1
  obtain ⟨is, ⟨o1, o2, n1, n2, x, eo1, en1, hx, eo2, en2, hb⟩, hcase⟩ := hf
  subst eo1
  subst en1
  have eP : cE (qc (DM m)) (qp (DM m) 2 k) + cV (qc (DM m)) (qp (DM m) 2 k) = qN (qc (DM m)) (qp (DM m) 2 k) := rfl
  rw [eP] at eo2 en2 hb
  subst eo2
  subst en2
  obtain ⟨x1, x3, x4, x5, x6⟩ := hq.im hk
  obtain ⟨b1, b2, ⟨b3, b4⟩, b5, b6⟩ := hq.nb hmo hk
  have p3 : ∀ j, qb (DM m) ≤ j → j < qe (DM m) → xb_i H (A 3) j = qc (DM m) j := hp.2.2.2.1
  have hhs := hq.hst (F := xb_i H) (A := A) hmo hk hp hx
  obtain ⟨ho1, ho2⟩ := hq.hox hmo hk hby
  -- an import of a function: its type
  have ft0 : (ub (qc (DM m)) (kpo (DM m) k)).toInt = 0 → ftm (M m) (mcnt (dvs (M m) 1) 0 k) = (ptl (qc (DM m)) (tPa (DM m) (cV (qc (DM m)) (kpo (DM m) k + 1))) (tPn (DM m) (cV (qc (DM m)) (kpo (DM m) k + 1))), tRt (DM m) (cV (qc (DM m)) (kpo (DM m) k + 1))) := fun h0 => by
    refine hq.ift hmo hk h0 ?_
    have e1 : (dvs (M m) 2 (2 * kcn (qc (DM m)) (qp (DM m) 2) 0 k + 1)).toInt = cV (qc (DM m)) (kpo (DM m) k + 1) := ((hq.ii (κ := 0) (by decide) hk h0).1 rfl).2
    have e2 := hmo.2.1.2.2.1.2 (kcn (qc (DM m)) (qp (DM m) 2) 0 k) (by
      have n2 := hq.n.2.1
      have := kcn_mox (P := qp (DM m) 2) (κ := 0) (cA := qc (DM m)) hk h0
      have e3 : iM (DM m) 0 = kcn (qc (DM m)) (qp (DM m) 2) 0 (qt (DM m) 2) := rfl
      omega)
    have n0 := hq.n.1
    omega
  have fi0 : ∀ f, vf W f → (ub (qc (DM m)) (kpo (DM m) k)).toInt = 0 → (fiS A H (xb_i H) DM (DM m) k (fmp f) ↔ fT W f = ftm (M m) (mcnt (dvs (M m) 1) 0 k)) := fun f hf h0 => by
    obtain ⟨g1, g2⟩ := st.ft hW hf
    have g1' : fPl (fun k => xb_i H (A k)) DM (fmp f) = (fT W f).1 := g1
    have g2' : fRt (fun k => xb_i H (A k)) DM (fmp f) = (fT W f).2 := g2
    unfold fiS
    rw [ft0 h0, h0, g1', g2']
    constructor
    · intro h9
      obtain ⟨a1, a2⟩ := h9.1 rfl
      exact Prod.ext a1 a2
    · intro h9
      rw [h9]
      exact ⟨fun _ => ⟨rfl, rfl⟩, fun e => (by cases e), fun e => (by cases e), fun e => (by cases e)⟩
  rcases hl with ⟨hh, hl⟩ | ⟨hh, nn, hnn, hl⟩
  · -- of the host
    rcases hb with ⟨-, hb⟩ | ⟨h9, -⟩
    · rcases hl with ⟨l1, l2⟩ | ⟨xx, l1, l2, l3⟩
      · have hneg := ho2.mpr l2
        rcases hb with ⟨-, hb⟩ | ⟨h9, -⟩
        · right; right; left
          refine ⟨l1, ?_⟩
          rcases hcase with ⟨-, c2⟩ | ⟨g, c1, -⟩
          · rw [c2, hb]
          · rw [hb] at c1
            have : (-42 : Int32).toInt = -42 := rfl
            omega
        · omega
      · have hxx := (ho1 xx l1).mp l2
        rcases hb with ⟨h9, -⟩ | ⟨-, hb⟩
        · omega
        · rcases hb with ⟨k0, hb⟩ | ⟨k0, hb⟩
          · have kz : (ub (qc (DM m)) (kpo (DM m) k)).toInt = 0 := by rw [k0]; rfl
            have eg : is.toInt = (fmp (8192 + xx) : Nat) := by
              rw [hb, hxx]
              unfold fmp
              rw [if_pos (by omega)]
              omega
            have hvf : vf W (8192 + xx) := .inr ⟨by omega, by omega⟩
            rcases hcase with ⟨c1, -⟩ | ⟨g, c1, c2⟩
            · omega
            · have egg : g = fmp (8192 + xx) := by omega
              subst egg
              have fi := fi0 _ hvf kz
              rcases l3 with ⟨l3, l4⟩ | ⟨l3, l4, l5, l6⟩
              · rcases c2 with ⟨c2, -⟩ | ⟨-, c2⟩
                · exact absurd ⟨by rw [x1, kz], fi.mp c2⟩ l4
                · exact .inr (.inr (.inr ⟨l3, c2⟩))
              · rcases c2 with ⟨-, c2⟩ | ⟨c2, -⟩
                · refine .inl ⟨l3, _, by rw [c2]; exact c1, fun _ => ⟨by rw [l6]; exact hvf, by rw [l6]⟩, fun e => ?_, fun e => ?_, fun e => ?_⟩
                  · rw [kz] at e
                    cases e
                  · rw [kz] at e
                    cases e
                  · rw [kz] at e
                    cases e
                · exact absurd (fi.mpr l5) c2
          · rcases hcase with ⟨-, c2⟩ | ⟨g, c1, -⟩
            · rcases l3 with ⟨l3, l4⟩ | ⟨l3, l4, -⟩
              · exact .inr (.inr (.inr ⟨l3, by rw [c2, hb]⟩))
              · exfalso
                rw [x1] at l4
                exact k0 (Int32.toInt.inj l4)
            · rw [hb] at c1
              have : (-43 : Int32).toInt = -43 := rfl
              omega
    · exact absurd (hhs.mp hh) h9
  · -- of an instance
    rcases hb with ⟨h9, -⟩ | ⟨-, i', hin, hb⟩
    · exact absurd (hhs.mpr h9) hh
    have e4 : (dvs (M m) 1 (7 * k + 4)).toInt.toNat = cV (qc (DM m)) (qp (DM m) 2 k) := by rw [x4]; rfl
    have e6 : (dvs (M m) 1 (7 * k + 6)).toInt.toNat = cV (qc (DM m)) (qN (qc (DM m)) (qp (DM m) 2 k)) := by rw [x6]; rfl
    have hu1 : ∀ t, t < cV (qc (DM m)) (qp (DM m) 2 k) → xb_i H (A 3) (cE (qc (DM m)) (qp (DM m) 2 k) + t) = dcb (M m) ((dvs (M m) 1 (7 * k + 3)).toInt.toNat + t) := fun t ht => by rw [p3 _ (by omega) (by omega), b1 t ht]
    have hu2 : ∀ t, t < cV (qc (DM m)) (qN (qc (DM m)) (qp (DM m) 2 k)) → dcb (M m) ((dvs (M m) 1 (7 * k + 5)).toInt.toNat + t) = xb_i H (A 3) (cE (qc (DM m)) (qN (qc (DM m)) (qp (DM m) 2 k)) + t) := fun t ht => by rw [p3 _ (by omega) (by omega), b2 t ht]
    have z41 : (-41 : Int32).toInt = -41 := rfl
    have z42 : (-42 : Int32).toInt = -42 := rfl
    have z43 : (-43 : Int32).toInt = -43 := rfl
    have z1 : (-1 : Int32).toInt = -1 := rfl
    rw [e4, e6] at hl
    rcases hl with ⟨l1, l2⟩ | ⟨r0, i, l1, l2, l3, hl⟩
    · have ei := gNm.ix (F := xb_i H) (A := A) hQ.2.2.2.1 hnn hu1 l2 hin
      rcases hb with ⟨-, hb⟩ | ⟨iN, mo_, h1, h2', -⟩
      · rcases hcase with ⟨-, c2⟩ | ⟨g, c1, -⟩
        · exact .inr (.inl ⟨l1, by rw [c2, hb]⟩)
        · rw [hb] at c1
          omega
      · rw [ei] at h1
        omega
    have ei := gNm.ix (F := xb_i H) (A := A) hQ.2.2.2.1 hnn hu1 l3 hin
    rw [ei] at hb
    rcases hb with ⟨h9, -⟩ | ⟨iN, mo_, h1, h2', e', hrx, hb⟩
    · rw [h9] at l1
      omega
    have eiN : iN = i := by omega
    subst eiN
    obtain ⟨q1, ⟨md2, q2⟩, -⟩ := hQ.ins hI l2
    rw [h2', Int.toNat_natCast] at q1
    rcases hl with ⟨l4, l5⟩ | ⟨r1, e, l4, l5, l6, hl⟩
    · have ee := q1.exn q2 hu2 l5 hrx
      rcases hb with ⟨-, hb⟩ | ⟨ke, h1', -⟩
      · rcases hcase with ⟨-, c2⟩ | ⟨g, c1, -⟩
        · exact .inr (.inr (.inl ⟨l4, by rw [c2, hb]⟩))
        · rw [hb] at c1
          omega
      · rw [ee] at h1'
        omega
    have ee := q1.exn q2 hu2 l6 hrx
    rw [ee] at hb
    rcases hb with ⟨h9, -⟩ | ⟨ke, h1', hb⟩
    · rw [h9] at l4
      omega
    have eke : ke = e := by omega
    subst eke
    have n6 := q1.n2.2.1
    have he7 : ke < qt (DM mo_) 7 := by omega
    obtain ⟨y1, y2, -, -⟩ := q1.xp he7
    rcases hb with ⟨hb1, hb⟩ | ⟨hb1, hb⟩
    · -- another kind
      rcases hcase with ⟨-, c2⟩ | ⟨g, c1, -⟩
      · rcases hl with ⟨l7, -⟩ | ⟨l7, l8, -⟩
        · exact .inr (.inr (.inr ⟨l7, by rw [c2, hb]⟩))
        · exfalso
          rw [y1, x1] at l8
          exact hb1 (Int32.toInt.inj l8)
      · rw [hb] at c1
        omega
    · -- the same kind
      have hkd : (dvs (wd W iN) 6 (5 * ke + 1)).toInt = (dvs (M m) 1 (7 * k + 1)).toInt := by rw [y1, x1, hb1]
      have eg : ∃ g : Nat, is.toInt = g ∧ g = mnV A (xb_i H) DM iN (ub (qc (DM m)) (kpo (DM m) k)).toInt.toNat (xnu (DM mo_) ke) := ⟨_, hb, rfl⟩
      obtain ⟨g, g1, g2⟩ := eg
      have c2 : (fiS A H (xb_i H) DM (DM m) k g ∧ r' = is) ∨ (¬ fiS A H (xb_i H) DM (DM m) k g ∧ r' = -43) := by
        rcases hcase with ⟨c1, -⟩ | ⟨g', c1, c2⟩
        · omega
        · have : g' = g := by omega
          subst this
          exact c2
      -- it is enough that both look alike at it
      have fin : (∃ v0 : Nat, (∀ v, tkF H W (M m) k (dvs (M m) 1 (7 * k + 1)).toInt.toNat iN (dvs (wd W iN) 6 (5 * ke + 2)).toInt.toNat v ↔ v = v0 ∧ fiS A H (xb_i H) DM (DM m) k g) ∧ ivQ H W (fun k => xb_i H (A k)) DM (ub (qc (DM m)) (kpo (DM m) k)).toInt v0 g) → (r = 0 ∧ ∃ g : Nat, r'.toInt = g ∧ ivQ H W (fun k => xb_i H (A k)) DM (ub (qc (DM m)) (kpo (DM m) k)).toInt vv g) ∨ (r = 41 ∧ r' = -41) ∨ (r = 42 ∧ r' = -42) ∨ (r = 43 ∧ r' = -43) := by
        rintro ⟨v0, t1, t2⟩
        rcases hl with ⟨l7, l8⟩ | ⟨l7, -, l8⟩
        · rcases c2 with ⟨c2, -⟩ | ⟨-, c2⟩
          · rcases l8 with l8 | l8
            · exact absurd hkd l8
            · exact absurd ((t1 v0).mpr ⟨rfl, c2⟩) (l8 v0)
          · exact .inr (.inr (.inr ⟨l7, c2⟩))
        · obtain ⟨a1, a2⟩ := (t1 vv).mp l8
          rcases c2 with ⟨-, c2⟩ | ⟨c2, -⟩
          · exact .inl ⟨l7, g, by rw [c2]; exact g1, by rw [a1]; exact t2⟩
          · exact absurd a2 c2
      refine fin ?_
      have kb : 0 ≤ (ub (qc (DM m)) (kpo (DM m) k)).toInt ∧ (ub (qc (DM m)) (kpo (DM m) k)).toInt ≤ 3 := by
        have n1 := hq.n2.1
        obtain ⟨pj, -⟩ := hmo.2.1.2.1.1.at (by omega) (i := k) (by omega)
        dsimp only [mp1] at pj
        omega
      obtain ⟨z0, z1', z2, z3⟩ := q2.2.1.2.2.2.2.2.2.1.2 ke l5
      have ek : (dvs (wd W iN) 6 (5 * ke + 2)).toInt.toNat = xnu (DM mo_) ke := by rw [y2]; rfl
      rw [ek, x1]
      rw [hkd, x1, y2] at z0 z1' z2 z3
      rcases (show (ub (qc (DM m)) (kpo (DM m) k)).toInt = 0 ∨ (ub (qc (DM m)) (kpo (DM m) k)).toInt = 1 ∨ (ub (qc (DM m)) (kpo (DM m) k)).toInt = 2 ∨ (ub (qc (DM m)) (kpo (DM m) k)).toInt = 3 by omega) with kz | kz | kz | kz
      · -- a function
        have hnf : xnu (DM mo_) ke < nf (wd W iN) := by have := z0 kz; unfold nf; omega
        obtain ⟨f1, f2⟩ := fnI_ty hW l2 hnf
        have emn : mnV A (xb_i H) DM iN 0 (xnu (DM mo_) ke) = fmp (fnI H W iN (xnu (DM mo_) ke)) := (st.2.2.1 iN l2).1 _ hnf
        have fi := fi0 _ f1 kz
        rw [kz] at g2 ⊢
        have g2' : g = fmp (fnI H W iN (xnu (DM mo_) ke)) := g2.trans emn
        rw [g2']
        refine ⟨fnI H W iN (xnu (DM mo_) ke), fun v => ⟨fun h9 => ?_, fun h9 => ?_⟩, fun _ => ⟨f1, rfl⟩, fun e => (by cases e), fun e => (by cases e), fun e => (by cases e)⟩
        · obtain ⟨a1, a2⟩ := h9.1 rfl
          subst a1
          exact ⟨rfl, fi.mpr a2⟩
        · obtain ⟨a1, a2⟩ := h9
          subst a1
          exact ⟨fun _ => ⟨rfl, fi.mp a2⟩, fun e => (by cases e), fun e => (by cases e), fun e => (by cases e)⟩
      · -- a table
        have hn1 := z1' kz
        have hle := q2.2.1.2.2.2.1.2
        have hx0 : xnu (DM mo_) ke = 0 := by omega
        have ht : 0 < dn (wd W iN) 3 / 3 := by omega
        obtain ⟨ta, ta1, ta2, ta3, -⟩ : ∃ ta, xb_r H (wia W iN) 6 = some ta ∧ (xb_i H ta 0).toInt = tbF H W iN ∧ (xb_i H ta 1).toInt = tbZ H W iN ∧ True := by
          obtain ⟨-, -, -, -, -, q6⟩ := hQ.ins hI l2
          have nn := q1.n.2.2.1
          obtain ⟨-, -, -, ta, a1, a2, a3, -⟩ := q6 (by rw [h2', Int.toNat_natCast]; omega)
          exact ⟨ta, a1, a2, a3, trivial⟩
        obtain ⟨s1, s2⟩ := st.2.2.2.1 iN l2 ht
        obtain ⟨w1, w2⟩ := hQ.2.2.2.2.2.2.2.2.2.2 iN l2 ht
        rw [ta1, Option.getD_some] at w1 w2
        obtain ⟨-, ii, -, -⟩ := hq.ii (κ := 1) (by decide) hk kz
        obtain ⟨-, i1, i2⟩ := ii rfl
        have emc : mcnt (dvs (M m) 1) 1 k = kcn (qc (DM m)) (qp (DM m) 2) 1 k := hq.mc k (by omega)
        have i1' : (dvs (M m) 3 (3 * kcn (qc (DM m)) (qp (DM m) 2) 1 k + 1)).toInt = cV (qc (DM m)) (kpo (DM m) k + 2 + 1) := i1
        have i2' : (dvs (M m) 3 (3 * kcn (qc (DM m)) (qp (DM m) 2) 1 k + 2)).toInt = lsM (qc (DM m)) (kpo (DM m) k + 2) := i2
        rw [kz, hx0] at g2 ⊢
        have g2' : g = (oV A (xb_i H) DM iN 1).toInt.toNat := g2.trans (mnV_o (.inl rfl))
        have s2' : (xb_i H (A 49) g).toInt = tbZ H W iN := by rw [g2']; exact s2
        have w1' : (xb_l H (A 50) g).toInt = (xb_l H ta 2).toInt := by rw [g2']; exact w1
        have hls : -1 ≤ lsM (qc (DM m)) (kpo (DM m) k + 2) := by
          unfold lsM
          split
          · omega
          · omega
        have key : fiS A H (xb_i H) DM (DM m) k g ↔ wnO (M m) 3 (mcnt (dvs (M m) 1) 1 k) (xb_i H ta 1).toInt (xb_l H ta 2).toInt := by
          unfold fiS wnO lmS
          rw [emc, i1', i2', kz, s2', w1', ta3]
          constructor
          · intro h9
            obtain ⟨a1, a2⟩ := h9.2.1 rfl
            exact ⟨a1, by omega⟩
          · rintro ⟨a1, a2⟩
            exact ⟨fun e => (by cases e), fun _ => ⟨a1, by omega⟩, fun e => (by cases e), fun e => (by cases e)⟩
        refine ⟨ta, fun v => ⟨fun h9 => ?_, fun h9 => ?_⟩, fun e => (by cases e), fun _ => ⟨iN, l2, ht, ta1, g2'⟩, fun e => (by cases e), fun e => (by cases e)⟩
        · obtain ⟨a1, a2⟩ := h9.2.1 rfl
          rw [ta1] at a1
          have := Option.some.inj a1
          subst this
          exact ⟨rfl, key.mpr a2⟩
        · obtain ⟨a1, a2⟩ := h9
          subst a1
          exact ⟨fun e => (by cases e), fun _ => ⟨ta1, key.mp a2⟩, fun e => (by cases e), fun e => (by cases e)⟩
      · -- a memory
        have hn1 := z2 kz
        have hle := q2.2.1.2.2.2.2.1.2.1
        have hx0 : xnu (DM mo_) ke = 0 := by omega
        have ht : 0 < dn (wd W iN) 4 / 3 := by omega
        obtain ⟨m1, -, -, -, -, -, -, -, m9, -⟩ := hW.mm l2 ht
        obtain ⟨s1, s2, -⟩ := st.2.2.2.2.2 iN l2 ht
        have w4 := (hQ.2.2.1.2.2.2.2.2.1 iN l2 ht).1
        obtain ⟨-, -, ii, -⟩ := hq.ii (κ := 2) (by decide) hk kz
        obtain ⟨-, i1, i2⟩ := ii rfl
        have emc : mcnt (dvs (M m) 1) 2 k = kcn (qc (DM m)) (qp (DM m) 2) 2 k := hq.mc k (by omega)
        have i1' : (dvs (M m) 4 (3 * kcn (qc (DM m)) (qp (DM m) 2) 2 k + 1)).toInt = cV (qc (DM m)) (kpo (DM m) k + 1 + 1) := i1
        have i2' : (dvs (M m) 4 (3 * kcn (qc (DM m)) (qp (DM m) 2) 2 k + 2)).toInt = lsM (qc (DM m)) (kpo (DM m) k + 1) := i2
        rw [kz, hx0] at g2 ⊢
        have g2' : g = (oV A (xb_i H) DM iN 2).toInt.toNat := g2.trans (mnV_o (.inr rfl))
        have w4' : (xb_i H (A 54) g).toInt = mmP H W iN := by rw [g2']; exact w4
        have s2' : (xb_l H (A 55) g).toInt = mmX H W iN := by rw [g2']; exact s2
        have hls : -1 ≤ lsM (qc (DM m)) (kpo (DM m) k + 1) := by
          unfold lsM
          split
          · omega
          · omega
        have hmx : mmX H W iN = (xb_l H (mmA H W iN) 1).toInt ∧ -1 ≤ (xb_l H (mmA H W iN) 1).toInt := by
          obtain ⟨-, -, -, -, -, -, tm1, tm2⟩ := (hW.2.2.2.2.2.2.1.2.2.2 iN l2).2
          have hmo9 := (tm2 _ m1).2.2.2.1
          exact ⟨rfl, by omega⟩
        have key : fiS A H (xb_i H) DM (DM m) k g ↔ wnO (M m) 4 (mcnt (dvs (M m) 1) 2 k) (xb_i H (mmA H W iN) 3).toInt (xb_l H (mmA H W iN) 1).toInt := by
          unfold fiS wnO lmS
          rw [emc, i1', i2', kz, w4', s2', m9, hmx.1]
          constructor
          · intro h9
            obtain ⟨a1, a2⟩ := h9.2.2.1 rfl
            exact ⟨a1, by omega⟩
          · rintro ⟨a1, a2⟩
            exact ⟨fun e => (by cases e), fun e => (by cases e), fun _ => ⟨a1, by omega⟩, fun e => (by cases e)⟩
        refine ⟨mmA H W iN, fun v => ⟨fun h9 => ?_, fun h9 => ?_⟩, fun e => (by cases e), fun e => (by cases e), fun _ => ⟨iN, l2, ht, m1, g2'⟩, fun e => (by cases e)⟩
        · obtain ⟨a1, a2⟩ := h9.2.2.1 rfl
          rw [m1] at a1
          have := Option.some.inj a1
          subst this
          exact ⟨rfl, key.mpr a2⟩
        · obtain ⟨a1, a2⟩ := h9
          subst a1
          exact ⟨fun e => (by cases e), fun e => (by cases e), fun _ => ⟨m1, key.mp a2⟩, fun e => (by cases e)⟩
      · -- a variable
        have hnv : xnu (DM mo_) ke < nvr (wd W iN) := by have := z3 kz; unfold nvr; omega
        have emn : mnV A (xb_i H) DM iN 3 (xnu (DM mo_) ke) = vnI H W iN (xnu (DM mo_) ke) := (st.2.2.1 iN l2).2 _ hnv
        obtain ⟨w1, w2⟩ := hQ.2.2.2.2.2.2.2.2.2.1 iN l2 _ hnv
        obtain ⟨-, -, -, ii⟩ := hq.ii (κ := 3) (by decide) hk kz
        obtain ⟨-, i1, i2, -⟩ := ii rfl
        have emc : mcnt (dvs (M m) 1) 3 k = kcn (qc (DM m)) (qp (DM m) 2) 3 k := hq.mc k (by omega)
        have i1' : (dvs (M m) 5 (4 * kcn (qc (DM m)) (qp (DM m) 2) 3 k + 1)).toInt = (ub (qc (DM m)) (kpo (DM m) k + 1)).toInt := i1
        have i2' : (dvs (M m) 5 (4 * kcn (qc (DM m)) (qp (DM m) 2) 3 k + 2)).toInt = (ub (qc (DM m)) (kpo (DM m) k + 2)).toInt := i2
        have kk := kcn_mox (P := qp (DM m) 2) (κ := 3) (cA := qc (DM m)) hk kz
        have e3 : iM (DM m) 3 = kcn (qc (DM m)) (qp (DM m) 2) 3 (qt (DM m) 2) := rfl
        have n5 := hq.n.2.2.2.2.1
        obtain ⟨⟨-, -, v1⟩, -⟩ := hmo.2.1.2.2.2.2.2.1.2 (kcn (qc (DM m)) (qp (DM m) 2) 3 k) (by omega)
        obtain ⟨⟨-, -, v2⟩, -⟩ := q2.2.1.2.2.2.2.2.1.2 (xnu (DM mo_) ke) (by unfold nvr at hnv; omega)
        rw [i2'] at v1
        rw [kz] at g2 ⊢
        have g2' : g = vnI H W iN (xnu (DM mo_) ke) := g2.trans emn
        have w1' : (xb_i H (A 59) g).toInt = (dvs (wd W iN) 5 (4 * xnu (DM mo_) ke + 1)).toInt := by rw [g2']; exact w1
        have w2' : (xb_i H (A 60) g).toInt = (dvs (wd W iN) 5 (4 * xnu (DM mo_) ke + 2)).toInt := by rw [g2']; exact w2
        have hif : (if ub (qc (DM m)) (kpo (DM m) k + 2) = 1 then (1 : Int32) else 0) = ub (qc (DM m)) (kpo (DM m) k + 2) := by
          rcases v1 with e | e
          · have : ub (qc (DM m)) (kpo (DM m) k + 2) = 0 := Int32.toInt.inj e
            rw [this]
            rfl
          · have : ub (qc (DM m)) (kpo (DM m) k + 2) = 1 := Int32.toInt.inj e
            rw [this]
            rfl
        have key : fiS A H (xb_i H) DM (DM m) k g ↔ ((dvs (M m) 5 (4 * mcnt (dvs (M m) 1) 3 k + 1)).toInt = (dvs (wd W iN) 5 (4 * xnu (DM mo_) ke + 1)).toInt ∧ (dvs (M m) 5 (4 * mcnt (dvs (M m) 1) 3 k + 2)).toInt = (dvs (wd W iN) 5 (4 * xnu (DM mo_) ke + 2)).toInt) := by
          unfold fiS
          rw [emc, i1', i2', kz, hif, ← w1', ← w2']
          constructor
          · intro h9
            obtain ⟨a1, a2⟩ := h9.2.2.2 rfl
            rw [a1, a2]
            exact ⟨rfl, rfl⟩
          · rintro ⟨a1, a2⟩
            exact ⟨fun e => (by cases e), fun e => (by cases e), fun e => (by cases e), fun _ => ⟨Int32.toInt.inj a1.symm, Int32.toInt.inj a2.symm⟩⟩
        rw [g2'] at key
        rw [g2']
        refine ⟨vnI H W iN (xnu (DM mo_) ke), fun v => ⟨fun h9 => ?_, fun h9 => ?_⟩, fun e => (by cases e), fun e => (by cases e), fun e => (by cases e), fun _ => rfl⟩
        · obtain ⟨a1, a2⟩ := h9.2.2.2 rfl
          exact ⟨a1, key.mpr a2⟩
        · exact ⟨fun e => (by cases e), fun e => (by cases e), fun e => (by cases e), fun _ => ⟨h9.1, key.mp h9.2⟩⟩
end HK
