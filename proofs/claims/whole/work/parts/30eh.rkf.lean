-- equality, checking a body: flow, an instruction (the reference)
def itE (cb : Nat → Int32) : Nat → Nat → Nat
  | 0, p => p
  | k + 1, p => itE cb k (cE cb p)
/-- the k-th label of a table -/
def lbl (cb : Nat → Int32) (q k : Nat) : Nat := cV cb (itE cb k (cE cb (q + 1)))
def lty5 (fs : List s5) (l : Nat) : Int :=
  match fs[l]? with
  | some f => s5l f
  | none => 64
noncomputable def lb1 (fs : List s5) (ls : Nat → Nat) (L : Nat) : Except Nat Int :=
  @ite _ (∀ k, k ≤ L → ls k < fs.length) (Classical.propDecidable _) (@ite _ (∀ k, k ≤ L → lty5 fs (ls k) = lty5 fs (ls 0)) (Classical.propDecidable _) (.ok (lty5 fs (ls 0))) (.error 21)) (.error 20)
noncomputable def ckFl (f : s5) (cur : List Int) (g : Int) (r : List s5) (op y : Nat) (bt : Int) (ls : Nat → Nat) (rt : Int) : Except Nat cO :=
  if op = 0 then .ok (s5b f, die5 f :: r, g)
  else if op = 1 then .ok (cur, f :: r, g)
  else if op = 2 ∨ op = 3 then .ok (cur, ((op : Int), (if op = 3 then 64 else bt), bt, cur, 0) :: f :: r, g)
  else if op = 4 then (tkO f cur 127).bind (fun a => .ok (a.2, (4, bt, bt, a.2, 0) :: f :: r, g))
  else if op = 5 then (cl5 f cur).bind (fun _ => .ok (s5b f, (5, s5e f, s5e f, s5b f, 0) :: r, g))
  else if op = 11 then (cl5 f cur).bind (fun _ => if s5k f = 4 ∧ ¬ s5e f = 64 then .error 21 else .ok (ptC (s5b f) g (s5e f) r))
  else if op = 12 then (labO (f :: r) y).bind (fun l => (tkO f cur l).bind (fun _ => .ok (s5b f, die5 f :: r, g)))
  else if op = 13 then (labO (f :: r) y).bind (fun l => (tkO f cur 127).bind (fun a => (tkO f a.2 l).bind (fun b => .ok (ptC b.2 g l (f :: r)))))
  else if op = 14 then (lb1 (f :: r) ls y).bind (fun l => (tkO f cur 127).bind (fun a => (tkO f a.2 l).bind (fun _ => .ok (s5b f, die5 f :: r, g))))
  else (tkO f cur rt).bind (fun _ => .ok (s5b f, die5 f :: r, g))
/-- the check of the instruction at q -/
noncomputable def ckO (D : zM) (lt : Nat → Int) (nl : Nat) (rt : Int) (q op : Nat) (cur : List Int) (f : s5) (r : List s5) (g : Int) : Except Nat cO :=
  if 69 ≤ op then ckN f cur g (f :: r) op else if 65 ≤ op then .ok (ptC cur g (192 - (op : Int)) (f :: r)) else if 40 ≤ op then ckMm (0 < iM D 2 + qt D 5) f cur g (f :: r) op (cV (qc D) (q + 1))
  else if 32 ≤ op then ckPl nl (iM D 3 + qt D 6) lt (vty D) (vmu D) f cur g (f :: r) op (cV (qc D) (q + 1)) else if 16 ≤ op then ckCl D f cur g (f :: r) op (cV (qc D) (q + 1))
  else ckFl f cur g r op (cV (qc D) (q + 1)) (qc D (q + 1)).toInt (lbl (qc D) q) rt
section RKF
variable {own : Nat → Nat} {mm m st N b e p : Nat} {A : Nat → Nat} {h : xb_H} {F F' F2 : Nat → Nat → Int32} {v v' v2 cb lo ν ν0 : Nat → Int32} {D : zM} {cur ex : List Int} {fs r : List ckF} {f : ckF} {g : Int} {t lcn q q' op : Nat} {lv : Bool} {Qr : xb_H → Prop} {R : Except Nat cO}
theorem itE_c : ∀ {k p q : Nat}, cks cb k p = some q → itE cb k p = q
  | 0, p, q, h1 => by
    simp only [cks, Option.some.injEq] at h1
    exact h1
  | k + 1, p, q, h1 => by
    unfold cks at h1
    split at h1
    · rename_i a b e9
      show itE cb k (cE cb p) = q
      rw [(rC_E e9).1]
      exact itE_c h1
    · cases h1
theorem lty5_s {i : Nat} {f' : ckF} (h1 : fs[i]? = some f') : lty5 (fs.map sp5) i = fl_ f' := by
  unfold lty5
  rw [List.getElem?_map, h1]
  rfl
theorem lb1_g {fs : List s5} {ls : Nat → Nat} {L : Nat} (h1 : ∀ k, k ≤ L → ls k < fs.length) (h2 : ∀ k, k ≤ L → lty5 fs (ls k) = lty5 fs (ls 0)) : lb1 fs ls L = .ok (lty5 fs (ls 0)) := (if_pos h1).trans (if_pos h2)
theorem lb1_21 {fs : List s5} {ls : Nat → Nat} {L : Nat} (h1 : ∀ k, k ≤ L → ls k < fs.length) (h2 : ∃ k, k ≤ L ∧ ¬ lty5 fs (ls k) = lty5 fs (ls 0)) : lb1 fs ls L = .error 21 := (if_pos h1).trans (if_neg (fun h9 => by obtain ⟨k, k1, k2⟩ := h2; exact k2 (h9 k k1)))
theorem lb1_20 {fs : List s5} {ls : Nat → Nat} {L : Nat} (h1 : ∃ k, k ≤ L ∧ ¬ ls k < fs.length) : lb1 fs ls L = .error 20 := if_neg (fun h9 => by obtain ⟨k, k1, k2⟩ := h1; exact k2 (h9 k k1))
section
variable {f : s5} {r : List s5} {y : Nat} {bt rt : Int} {ls : Nat → Nat} {lt : Nat → Int} {nl : Nat}
theorem ckFl_23 (h : op = 2 ∨ op = 3) : ckFl f cur g r op y bt ls rt = .ok (cur, ((op : Int), (if op = 3 then 64 else bt), bt, cur, 0) :: f :: r, g) := by
  unfold ckFl
  rw [if_neg (by omega), if_neg (by omega), if_pos h]
theorem ckFl_4 (h : op = 4) : ckFl f cur g r op y bt ls rt = (tkO f cur 127).bind (fun a => .ok (a.2, (4, bt, bt, a.2, 0) :: f :: r, g)) := by
  unfold ckFl
  rw [if_neg (by omega), if_neg (by omega), if_neg (by omega), if_pos h]
theorem ckFl_5 (h : op = 5) : ckFl f cur g r op y bt ls rt = (cl5 f cur).bind (fun _ => .ok (s5b f, (5, s5e f, s5e f, s5b f, 0) :: r, g)) := by
  subst h
  rfl
theorem ckFl_11 (h : op = 11) : ckFl f cur g r op y bt ls rt = (cl5 f cur).bind (fun _ => if s5k f = 4 ∧ ¬ s5e f = 64 then .error 21 else .ok (ptC (s5b f) g (s5e f) r)) := by
  subst h
  rfl
theorem ckFl_12 (h : op = 12) : ckFl f cur g r op y bt ls rt = (labO (f :: r) y).bind (fun l => (tkO f cur l).bind (fun _ => .ok (s5b f, die5 f :: r, g))) := by
  subst h
  rfl
theorem ckFl_13 (h : op = 13) : ckFl f cur g r op y bt ls rt = (labO (f :: r) y).bind (fun l => (tkO f cur 127).bind (fun a => (tkO f a.2 l).bind (fun b => .ok (ptC b.2 g l (f :: r))))) := by
  subst h
  rfl
theorem ckFl_14 (h : op = 14) : ckFl f cur g r op y bt ls rt = (lb1 (f :: r) ls y).bind (fun l => (tkO f cur 127).bind (fun a => (tkO f a.2 l).bind (fun _ => .ok (s5b f, die5 f :: r, g)))) := by
  subst h
  rfl
theorem ckFl_15 (h : op = 15) : ckFl f cur g r op y bt ls rt = (tkO f cur rt).bind (fun _ => .ok (s5b f, die5 f :: r, g)) := by
  subst h
  rfl
theorem ckO_n (h : 69 ≤ op) : ckO D lt nl rt q op cur f r g = ckN f cur g (f :: r) op := if_pos h
theorem ckO_k (h : 65 ≤ op ∧ op ≤ 68) : ckO D lt nl rt q op cur f r g = .ok (ptC cur g (192 - (op : Int)) (f :: r)) := by
  unfold ckO
  rw [if_neg (by omega), if_pos (by omega)]
theorem ckO_m (h : 40 ≤ op ∧ op ≤ 64) : ckO D lt nl rt q op cur f r g = ckMm (0 < iM D 2 + qt D 5) f cur g (f :: r) op (cV (qc D) (q + 1)) := by
  unfold ckO
  rw [if_neg (by omega), if_neg (by omega), if_pos (by omega)]
theorem ckO_p (h : 32 ≤ op ∧ op < 40) : ckO D lt nl rt q op cur f r g = ckPl nl (iM D 3 + qt D 6) lt (vty D) (vmu D) f cur g (f :: r) op (cV (qc D) (q + 1)) := by
  unfold ckO
  rw [if_neg (by omega), if_neg (by omega), if_neg (by omega), if_pos (by omega)]
theorem ckO_c (h : 16 ≤ op ∧ op < 32) : ckO D lt nl rt q op cur f r g = ckCl D f cur g (f :: r) op (cV (qc D) (q + 1)) := by
  unfold ckO
  rw [if_neg (by omega), if_neg (by omega), if_neg (by omega), if_neg (by omega), if_pos (by omega)]
theorem ckO_f (h : op < 16) : ckO D lt nl rt q op cur f r g = ckFl f cur g r op (cV (qc D) (q + 1)) (qc D (q + 1)).toInt (lbl (qc D) q) rt := by
  unfold ckO
  rw [if_neg (by omega), if_neg (by omega), if_neg (by omega), if_neg (by omega), if_neg (by omega)]
theorem ckCl_y {y2 : Nat} {fs : List s5} (h : op ≠ 16 ∧ op ≠ 17) : ckCl D f cur g fs op y = ckCl D f cur g fs op y2 := by
  unfold ckCl
  rw [if_neg h.1, if_neg h.2, if_neg h.1, if_neg h.2]
end
theorem k_next_e {Qr : Int32 → xb_H → Prop} (hs : rdH mm st N b e cb h F) (hp : rdP v b p e) (hq : p < e) (hQ : ∀ v', ro v v' p (p + 1) e → v' 17 = v 17 → v' 18 = v 18 → Qr (ub cb p) (mH h F mm v')) : w_M_next mm (mH h F mm v) Qr := by
  obtain ⟨s1, s2, s3, s4, s5, s6, s7, s8⟩ := id hs
  obtain ⟨p1, p2, p3, p4⟩ := id hp
  unfold w_M_next
  rw [mH_i]
  refine ⟨s1, fun hl => ⟨st, s2, s3, ?_, fun v6 e6 h7 e7 => ?_⟩, fun hl => ?_⟩
  · rw [z_in, p1]
    show _ ∧ (p : Int) < xb_n h st
    omega
  · rw [mH_I] at e7
    rw [mH_o s6, z_cl, p1] at e6
    subst e7
    have e8 : v6 = ub cb p := by
      rw [e6]
      unfold ub
      rw [← s8 p p3 hq]
      rfl
    rw [e8]
    refine hQ _ ⟨fun j h1 _ _ => by rw [xh_up, if_neg h1], ?_, by omega, by omega, fun h9 => by rw [xh_up, if_neg (by omega)]; exact h9⟩ (by rw [xh_up, if_neg (by omega)]) (by rw [xh_up, if_neg (by omega)])
    rw [xh_up, if_pos rfl]
    exact z_inc p1 (by omega)
  · rw [z_lt, p1, p2] at hl
    omega
theorem x_checkTable {q1 q' : Nat} {L : Int64} (ho : op = 14) (hz : v 17 = 0) (hp : rdP v (qb D) (q + 1) (qe D)) (hc : rC (qc D) (q + 1) = some (q1, L)) (hq : q' ≤ qe D) (hν : (ν (q + 1)).toBitVec.toNat = L.toBitVec.toNat)
    (hall : ∀ k, k ≤ L.toInt.toNat → ∃ pk q2 y, cks (qc D) k q1 = some pk ∧ rC (qc D) pk = some (q2, y) ∧ q2 ≤ qe D ∧ (ν (q + 2 + k)).toBitVec.toNat = y.toBitVec.toNat) (hLq : q + 2 + L.toInt.toNat < 100000) (hfa : ∀ y ∈ f :: r, -1 ≤ fa y ∧ fa y ≤ 100000)
    (hE : bE own mm A h F v m D t lcn lo cur ex f r g) (hgd : gd D q R v) (hR : R = (lb1 ((f :: r).map sp5) (lbl (qc D) q) L.toInt.toNat).bind (fun l => (tkO (sp5 f) cur 127).bind (fun a => (tkO (sp5 f) a.2 l).bind (fun _ => (.ok (fb f, die5 (sp5 f) :: r.map sp5, g)))))) (hQ : bXq A h F mm v D lo t lcn lv q op cur f r ν g R Qr) : w_M_checkTable mm (mH h F mm v) Qr := by
  obtain ⟨⟨hX, hcf, hct, ht⟩, ⟨hS, hex, hl, hg, hfl, hty, hlb⟩, -⟩ := id hE
  have hB := hX.1
  have hs := hX.rd
  have hb := rC_b hc
  have hE2 := hX.2.2.2.2.1
  unfold w_M_checkTable
  refine ⟨hB.2.1, fun v2 e2 => m_count_k hs hp hz hc (by obtain ⟨pk, q2, y, a1, a2, a3, -⟩ := hall 0 (by omega); simp only [cks, Option.some.injEq] at a1; have := rC_b a2; omega) (fun v3 o3 z3 _ => ?_)⟩
  rw [mH_i] at e2
  have lbE : ∀ {k pk q2 : Nat} {y : Int64}, cks (qc D) k q1 = some pk → rC (qc D) pk = some (q2, y) → lbl (qc D) q k = y.toInt.toNat := fun a1 a2 => by
    unfold lbl
    rw [(rC_E hc).1, itE_c a1, (rC_E a2).2]
  have ltE : ∀ {i : Nat} {f' : ckF}, (f :: r)[i]? = some f' → lty5 ((f :: r).map sp5) i = fl_ f' := fun hi => lty5_s hi
  have lnE : ((f :: r).map sp5).length = (f :: r).length := List.length_map _
  have e2' : v2.toInt = (q + 1 : Nat) := by rw [e2]; exact hp.1
  -- the second loop: all labels are of one type
  have L87 : ∀ (lab : Int32) (n k : Nat) (x5 : Int32) (x6 : Int64) (v4 : Nat → Int32) (pk : Nat), bv v v4 → zS A F v4 cur (f :: r) g → v4 17 = 0 → x6.toInt = k → 1 ≤ k → k ≤ L.toInt.toNat + 1 → L.toInt.toNat + 1 - k ≤ n → (k ≤ L.toInt.toNat → cks (qc D) k q1 = some pk) → rdP v4 (qb D) pk (qe D) → tyl lab.toInt →
      (∀ j, j ≤ L.toInt.toNat → ∃ pj q2 y, cks (qc D) j q1 = some pj ∧ rC (qc D) pj = some (q2, y) ∧ q2 ≤ qe D ∧ y.toInt < ((f :: r).length : Nat)) →
      (x5 ≠ 0 → ∀ j, j < k → ∃ pj q2 y f', cks (qc D) j q1 = some pj ∧ rC (qc D) pj = some (q2, y) ∧ (f :: r)[y.toInt.toNat]? = some f' ∧ fl_ f' = lab.toInt) → gd D q R v4 → (x5 = 0 → ∃ j, j ≤ L.toInt.toNat ∧ ¬ lty5 ((f :: r).map sp5) (lbl (qc D) q j) = lab.toInt) → lty5 ((f :: r).map sp5) (lbl (qc D) q 0) = lab.toInt → w_M_checkTable_L87 Qr (n + 1) mm L lab x5 x6 (mH h F mm v4) := by
    intro lab n
    -- the end
    have fin : ∀ (x5 : Int32) (v4 : Nat → Int32), bv v v4 → zS A F v4 cur (f :: r) g → tyl lab.toInt → (x5 ≠ 0 → ∀ j, j ≤ L.toInt.toNat → ∃ pj q2 y f', cks (qc D) j q1 = some pj ∧ rC (qc D) pj = some (q2, y) ∧ (f :: r)[y.toInt.toNat]? = some f' ∧ fl_ f' = lab.toInt) → gd D q R v4 → (x5 = 0 → ∃ j, j ≤ L.toInt.toNat ∧ ¬ lty5 ((f :: r).map sp5) (lbl (qc D) q j) = lab.toInt) → lty5 ((f :: r).map sp5) (lbl (qc D) q 0) = lab.toInt → (∀ j, j ≤ L.toInt.toNat → lbl (qc D) q j < ((f :: r).map sp5).length) → xb_k (mH h F mm v4) mm = 9 ∧ w_M_need mm x5 21 (mH h F mm v4) (fun h3 => xb_ext (mH h F mm v4) h3 → w_M_take mm 127 h3 (fun r6 h5 => xb_ext h3 h5 → w_M_takeResult mm lab h5 (fun h7 => xb_ext h5 h7 → w_M_dead mm h7 (fun h9 => xb_ext h7 h9 → Qr h9)))) := by
      intro x5 v4 g1 g2 hlab hsame g6 hdif hl0 hth
      have hR1 : x5 ≠ 0 → R = (tkO (sp5 f) cur 127).bind (fun a => (tkO (sp5 f) a.2 lab.toInt).bind (fun _ => (.ok (fb f, die5 (sp5 f) :: r.map sp5, g)))) := fun h0 => by
        rw [hR, lb1_g hth (fun k hk => ?_), hl0]
        · rfl
        · obtain ⟨pj, q2, y, f', j1, j2, j3, j4⟩ := hsame h0 k hk
          rw [hl0, lbE j1 j2, ltE j3, j4]
      refine ⟨hB.2.1, x_need (cc := 21) hB.2.1 g6 rfl (by decide) (fun _ => ⟨hR1, fun h0 => ?_⟩) (fun v5 n1 n2 n3 ng nR _ => x_take hB ng (fun hz5 => by rw [nR hz5]; rfl) (g2.n2 n1) hex (by omega) hfl (by decide) (fun u6 v6 c6 e6 a1 a2 a3 a4 a5 _ a7 ag aR _ => x_takeResult (cur := c6) hB ag aR a2 a3 (by omega) hfl (fun rr v7 c7 e7 b1 b2 b3 b4 b5 b6 bg bR _ => m_dead hB b2 b3 hfl (fun v8 w d1 d2 _ => ?_))))⟩
      · obtain ⟨j, j1, j2⟩ := hdif h0
        rw [hR, lb1_21 hth ⟨j, j1, by rw [hl0]; exact j2⟩]
        rfl
      obtain ⟨νx, hνx⟩ : ∃ νx : Nat → Int32, ∀ j, νx j = if q + 2 ≤ j ∧ j ≤ q + 2 + L.toInt.toNat then (match (f :: r)[(ν j).toInt.toNat]? with | some f' => Int32.ofInt (fa f') | none => 0) else ν j := ⟨_, fun _ => rfl⟩
      refine hQ v8 _ (fb f) (fdie f :: r) νx g (g1.tr ((bv.n2 n1).tr ((bv.t3 a1).tr ((bv.t3 b1).tr (fun j _ _ _ _ _ j6 _ _ => d1 j j6))))) (bF.up (by decide)) (bg.fr (fun j h1 _ _ _ => d1 j h1)) (fun hz8 => ?_)
      rw [d1 17 (by decide)] at hz8
      obtain ⟨z6, t7⟩ := b6 hz8
      obtain ⟨z5, t6⟩ := a7 z6
      obtain ⟨z4, ns⟩ := n2 z5
      have hs5 := hsame ns
      refine ⟨d2, KS_7 (by omega) ⟨L.toInt.toNat, lab.toInt, c6, c7, u6.toInt, rr, nt_i hν (by omega) (by omega), fun j hj => ?_, fun k hk => ?_, t6, t7, rfl, rfl, rfl⟩, fun _ => ?_, bR hz8⟩
      · rw [hνx, if_neg (by omega)]
      · obtain ⟨pk, q2, y, k1, k2, k3, k4⟩ := hall k hk
        obtain ⟨pj, q3, y', f', j1, j2, j3, j4⟩ := hs5 k hk
        rw [k1] at j1
        simp only [Option.some.injEq] at j1
        subst j1
        obtain ⟨-, ey⟩ := rC_in k2 j2
        subst ey
        have hby := rC_b k2
        have hi : y.toInt.toNat < (f :: r).length := (List.getElem?_eq_some_iff.mp j3).1
        have ei : (ν (q + 2 + k)).toInt = (y.toInt.toNat : Nat) := nt_i k4 (by omega) (by omega)
        refine ⟨y.toInt.toNat, f', ei, j3, ?_, j4⟩
        rw [hνx, if_pos (by omega), ei, Int.toNat_natCast, j3]
        have := hfa f' (List.mem_of_getElem? j3)
        exact z_ofI (by omega) (by omega)
      · rw [hνx, if_neg (by omega)]
    induction n with
    | zero =>
      intro k x5 x6 v4 pk g1 g2 z4 e6 k1 k2 k3 k4 P4 hlab hin hsame g6 hdif hl0
      have hth : ∀ j, j ≤ L.toInt.toNat → lbl (qc D) q j < ((f :: r).map sp5).length := fun j hj => by
        obtain ⟨pj, q2, y, j1, j2, j3, j4⟩ := hin j hj
        have := rC_b j2
        rw [lbE j1 j2, lnE]
        omega
      unfold w_M_checkTable_L87
      refine ⟨fun _ => fin x5 v4 g1 g2 hlab (fun ns j hj => hsame ns j (by omega)) g6 hdif hl0 hth, fun hlt => ?_⟩
      rw [Z_lt, e6] at hlt
      omega
    | succ n ih =>
      intro k x5 x6 v4 pk g1 g2 z4 e6 k1 k2 k3 k4 P4 hlab hin hsame g6 hdif hl0
      have hth : ∀ j, j ≤ L.toInt.toNat → lbl (qc D) q j < ((f :: r).map sp5).length := fun j hj => by
        obtain ⟨pj, q2, y, j1, j2, j3, j4⟩ := hin j hj
        have := rC_b j2
        rw [lbE j1 j2, lnE]
        omega
      unfold w_M_checkTable_L87
      refine ⟨fun hlt => fin x5 v4 g1 g2 hlab (fun ns j hj => hsame ns j ?_) g6 hdif hl0 hth, fun hlt => ⟨hB.2.1, ?_⟩⟩
      · rw [Z_lt, e6] at hlt
        omega
      · rw [Z_lt, e6] at hlt
        have hkL : k ≤ L.toInt.toNat := by omega
        obtain ⟨pj, q2, y, j1, j2, j3, j4⟩ := hin k hkL
        rw [k4 hkL] at j1
        simp only [Option.some.injEq] at j1
        subst j1
        have hby := rC_b j2
        refine m_count_k hs P4 z4 j2 j3 (fun v5 o5 z5 _ => m_label_k hB z5 (g2.vg o5.vg) hfl (by omega) (fun u f' hf' hu _ => ?_))
        have e61 : (x6 + 1).toInt = (k + 1 : Nat) := by
          rw [Int64.toInt_add, e6, show (1 : Int64).toInt = 1 from rfl, Int.bmod_eq_of_le (by omega) (by omega)]
          omega
        have nx : ∀ y0 : Int32, (y0 ≠ 0 → x5 ≠ 0 ∧ u = lab) → (y0 = 0 → ∃ j, j ≤ L.toInt.toNat ∧ ¬ lty5 ((f :: r).map sp5) (lbl (qc D) q j) = lab.toInt) → w_M_checkTable_L117 (w_M_checkTable_L87 Qr (n + 1)) Qr mm L lab x6 y0 (mH h F mm v5) := fun y0 hy0 hy1 => by
          unfold w_M_checkTable_L117
          intro v1 e1
          subst e1
          refine ih (k + 1) y0 _ v5 q2 (g1.tr o5.vg.bv) (g2.vg o5.vg) z5 e61 (by omega) (by omega) (by omega) (fun _ => cks_nx (k4 hkL) j2) (o5.P P4) hlab hin (fun ny j hj => ?_) (g6.ro o5 z5) hy1 hl0
          obtain ⟨nx5, eu⟩ := hy0 ny
          rcases Nat.lt_or_ge j k with h9 | h9
          · exact hsame nx5 j h9
          · rw [show j = k by omega]
            exact ⟨pk, q2, y, f', k4 hkL, j2, hf', by rw [← hu, eu]⟩
        unfold w_M_checkTable_L116
        exact ⟨fun nu => nx 0 (fun h9 => absurd rfl h9) (fun _ => ⟨k, hkL, fun h9 => nu (by rw [z_eq, ← h9, lbE (k4 hkL) j2, ltE hf', hu])⟩), fun eu => ⟨fun h0 => nx 0 (fun h9 => absurd rfl h9) (fun _ => hdif h0), fun nx5 => nx 1 (fun _ => ⟨nx5, eu⟩) (fun h9 => absurd h9 (by decide))⟩⟩
  -- the first loop: all labels are there
  have key : ∀ (n k : Nat) (x4 : Int64) (v4 : Nat → Int32) (pk : Nat), vg v v4 → v4 17 = 0 → x4.toInt = k → k ≤ L.toInt.toNat + 1 → L.toInt.toNat + 1 - k ≤ n → (k ≤ L.toInt.toNat → cks (qc D) k q1 = some pk) → rdP v4 (qb D) pk (qe D) → gd D q R v4 → (∀ j, j < k → ∃ pj q2 y, cks (qc D) j q1 = some pj ∧ rC (qc D) pj = some (q2, y) ∧ q2 ≤ qe D ∧ y.toInt < ((f :: r).length : Nat)) → w_M_checkTable_L13 Qr (n + 1) mm v2 L x4 (mH h F mm v4) := by
    have go2 : ∀ v4 : Nat → Int32, vg v v4 → v4 17 = 0 → gd D q R v4 → (∃ p4, rdP v4 (qb D) p4 (qe D)) → (∀ j, j ≤ L.toInt.toNat → ∃ pj q2 y, cks (qc D) j q1 = some pj ∧ rC (qc D) pj = some (q2, y) ∧ q2 ≤ qe D ∧ y.toInt < ((f :: r).length : Nat)) → xb_k (mH h F mm v4) mm = 9 ∧ ∀ h3 : xb_H, h3 = xb_I (mH h F mm v4) mm 15 v2 → w_M_count mm h3 (fun r5 h4 => xb_ext h3 h4 → w_M_count mm h4 (fun r7 h6 => xb_ext h4 h6 → w_M_label mm r7 h6 (fun r9 h8 => xb_ext h6 h8 → (∃ n8 : Nat, w_M_checkTable_L87 Qr n8 mm r5 r9 1 1 h8)))) := by
      intro v4 g4 z4 gd4 ⟨p4, P4⟩ hin
      refine ⟨hB.2.1, fun h3 e3 => ?_⟩
      rw [mH_I] at e3
      subst e3
      obtain ⟨pj, q2, y, j1, j2, j3, j4⟩ := hin 0 (by omega)
      simp only [cks, Option.some.injEq] at j1
      subst j1
      have hby := rC_b j2
      obtain ⟨w, hw⟩ : ∃ w : Nat → Int32, w = va_up v4 15 v2 := ⟨_, rfl⟩
      rw [← hw]
      have wj : ∀ j, j ≠ 15 → w j = v4 j := fun j hj => by rw [hw, xh_up, if_neg hj]
      have Pw : rdP w (qb D) (q + 1) (qe D) := ⟨by rw [hw, xh_up, if_pos rfl]; exact e2', by rw [wj 16 (by decide)]; exact P4.2.1, hp.2.2.1, hp.2.2.2⟩
      have Gw : vg v w := fun j a b c d e => by rw [wj j b]; exact g4 j a b c d e
      have gdw : gd D q R w := ⟨by rw [wj 14 (by decide)]; exact gd4.1, by rw [wj 92 (by decide)]; exact gd4.2.1, gd4.2.2.1, gd4.2.2.2.1, fun hn => absurd (by rw [wj 17 (by decide)]; exact z4) hn⟩
      have Zw : w 17 = 0 := by rw [wj 17 (by decide)]; exact z4
      refine m_count_k hs Pw Zw hc (by omega) (fun v5 o5 z5 _ => m_count_k hs (o5.P Pw) z5 j2 j3 (fun v6 o6 z6 _ => ?_))
      have G6 := Gw.tr (o5.tr o6).vg
      refine m_label_k hB z6 (hS.vg G6) hfl (by omega) (fun u f' hf' hu _ => ⟨L.toInt.toNat + 1, L87 u L.toInt.toNat 1 1 1 v6 q2 G6.bv (hS.vg G6) z6 rfl (by omega) (by omega) (by omega) (fun h1 => cks_nx (k := 0) rfl j2) ((o5.tr o6).P Pw) ?_ hin (fun _ j hj => ?_) (gdw.ro (o5.tr o6) z6) (fun h9 => absurd h9 (by decide)) (by rw [lbE (k := 0) rfl j2, ltE hf', hu])⟩)
      · rw [hu]
        exact (hlb f' (List.mem_of_getElem? hf')).1
      · rw [show j = 0 by omega]
        exact ⟨q1, q2, y, f', rfl, j2, hf', hu.symm⟩
    intro n
    induction n with
    | zero =>
      intro k x4 v4 pk g4 z4 e4 k1 k2 k3 P4 gd4 hin
      unfold w_M_checkTable_L13
      refine ⟨fun _ => go2 v4 g4 z4 gd4 ⟨pk, P4⟩ (fun j hj => hin j (by omega)), fun hlt => ?_⟩
      rw [Z_lt, e4] at hlt
      omega
    | succ n ih =>
      intro k x4 v4 pk g4 z4 e4 k1 k2 k3 P4 gd4 hin
      unfold w_M_checkTable_L13
      refine ⟨fun hlt => go2 v4 g4 z4 gd4 ⟨pk, P4⟩ (fun j hj => hin j ?_), fun hlt => ⟨hB.2.1, ?_⟩⟩
      · rw [Z_lt, e4] at hlt
        omega
      · rw [Z_lt, e4] at hlt
        have hkL : k ≤ L.toInt.toNat := by omega
        obtain ⟨pj, q2, y, j1, j2, j3, -⟩ := hall k hkL
        rw [k3 hkL] at j1
        simp only [Option.some.injEq] at j1
        subst j1
        have hby := rC_b j2
        have e41 : (x4 + 1).toInt = (k + 1 : Nat) := by
          rw [Int64.toInt_add, e4, show (1 : Int64).toInt = 1 from rfl, Int.bmod_eq_of_le (by omega) (by omega)]
          omega
        refine m_count_k hs P4 z4 j2 j3 (fun v5 o5 z5 _ => ?_)
        have G5 := g4.tr o5.vg
        have L39 : ∀ y0 : Int32, (y0 ≠ 0 ↔ y.toInt < ((f :: r).length : Nat)) → w_M_checkTable_L39 (w_M_checkTable_L13 Qr (n + 1)) Qr mm v2 L x4 y0 mm (mH h F mm v5) := fun y0 hy => by
          unfold w_M_checkTable_L39
          refine ⟨hB.2.1, x_need (cc := 20) (K := R) hB.2.1 (gd4.ro o5 z5) rfl (by decide) (fun _ => ⟨fun _ => rfl, fun h0 => ?_⟩) (fun v6 n1 n2 n3 ng nR _ => ⟨hB.2.1, ?_⟩)⟩
          · rw [hR, lb1_20 ⟨k, hkL, by rw [lbE (k3 hkL) j2, lnE]; have := mt hy.mpr (fun h9 => h9 h0); omega⟩]
            rfl
          rw [mH_i]
          refine ⟨fun hz6 v7 e7 => ?_, fun hn => hQ.d (G5.bv.tr (bv.n2 n1)) bF.rf ng hn⟩
          subst e7
          have ny := (n2 hz6).2
          have e9 := n3 ny
          subst e9
          refine ih (k + 1) _ v6 q2 G5 z5 e41 (by omega) (by omega) (fun _ => cks_nx (k3 hkL) j2) (o5.P P4) ng (fun j hj => ?_)
          rcases Nat.lt_or_ge j k with h9 | h9
          · exact hin j h9
          · rw [show j = k by omega]
            exact ⟨pk, q2, y, k3 hkL, j2, j3, hy.mp ny⟩
        rw [mH_i]
        have e29 : (v5 29).toInt = (f :: r).length := by
          rw [G5 29 (by decide) (by decide) (by decide) (by decide) (by decide)]
          exact hS.2.1
        refine ⟨fun hle => L39 0 ⟨fun h9 => absurd rfl h9, fun h9 => ?_⟩, fun hle => L39 1 ⟨fun _ => ?_, fun _ => by decide⟩⟩
        all_goals
          rw [Z_le, Z_of32, e29] at hle
          omega
  exact ⟨L.toInt.toNat + 1 + 1, key (L.toInt.toNat + 1) 0 0 v3 q1 o3.vg z3 rfl (by omega) (by omega) (fun _ => rfl) (o3.P hp) (hgd.ro o3 z3) (fun j hj => by omega)⟩
theorem x_ckFlow {x : Int32} (hx : x.toInt = op) (ho : op < 16) (hz : v 17 = 0) (hp : rdP v (qb D) (q + 1) (qe D)) (hop : (qc D q).toInt % 256 = op) (hRn : nR (qc D) ν0 q q') (hq : q' ≤ qe D) (hν : ∀ j, q ≤ j → ν j = ν0 j) (hfa : ∀ y ∈ f :: r, -1 ≤ fa y ∧ fa y ≤ 100000) (h200 : 2 ≤ op → op ≤ 4 → (f :: r).length ≤ 200)
    (hE : bE own mm A h F v m D t lcn lo cur ex f r g) (hgd : gd D q R v) (hR : R = ckFl (sp5 f) cur g (r.map sp5) op (cV (qc D) (q + 1)) (qc D (q + 1)).toInt (lbl (qc D) q) (tRt D t)) (hQ : bXq A h F mm v D lo t lcn lv q op cur f r ν g R Qr) : w_M_checkFlow mm x (mH h F mm v) Qr := by
  obtain ⟨⟨hX, hcf, hct, ht⟩, ⟨hS, hex, hl, hg, hfl, hty, hlb⟩, -, -, -, hl0⟩ := id hE
  have hB := hX.1
  have hs := hX.rd
  obtain ⟨s1, s2, s3, s4, s5, s6, s7⟩ := id hS
  obtain ⟨⟨f1, f2, f3, f4, f5⟩, sr⟩ := id s5
  obtain ⟨hRw, hR1, hR2⟩ := hRn
  rw [hop] at hRw hR1 hR2
  have hqb := rW_b hRw
  have hE2 := hX.2.2.2.2.1
  have hlf := hlb f List.mem_cons_self
  have e29 : (v 29 - 1).toInt = r.length := by
    rw [z_sub, s2]
    simp only [Int32.reduceToInt, List.length_cons] at hfl ⊢
    omega
  have c29 : (v 29 - 1).toNatClampNeg = r.length := by
    rw [z_cl, e29]
    omega
  have hfl' : r.length + 1 ≤ 201 := by simp only [List.length_cons] at hfl; exact hfl
  have in29 : ∀ n : Nat, 202 = n → vp_in (v 29 - 1) n := fun n hn => by
    rw [z_in, e29]
    omega
  have dieT : ∀ {v1 v2 : Nat → Int32}, (∀ j, j ≠ 22 → v2 j = v1 j) → bv v1 v2 := fun hd j _ _ _ _ _ j6 _ _ => hd j j6
  have lit : ∀ c : Int32, x = c → (op : Int) = c.toInt := fun c hc => by rw [← hx, hc]
  have none_ : ∀ c : Int32, c.toInt = op → wk_sh op = 13 → False := fun c _ h13 => by
    rw [h13] at hRw
    exact rW_13i hRw
  have L288 : wk_sh op = 13 → w_M_checkFlow_L288 Qr (mH h F mm v) := fun h13 => by
    rw [h13] at hRw
    exact (rW_13i hRw).elim
  -- opening
  have L99 : ∀ (v1 : Nat → Int32) (cur1 : List Int), (op = 2 ∨ op = 3 ∨ op = 4) → bv v v1 → rdP v1 (qb D) (q + 1) (qe D) → zS A F v1 cur1 (f :: r) g → cur1.length ≤ cur.length → (v1 17 = 0 → (op ≠ 4 → cur1 = cur) ∧ (op = 4 → ∃ r3, ck_tk f cur 127 r3 cur1)) → gd D q R v1 → (v1 17 = 0 → R = .ok (cur1, ((op : Int), (if (op : Int) = 3 then 64 else (qc D (q + 1)).toInt), (qc D (q + 1)).toInt, cur1, 0) :: (f :: r).map sp5, g)) → w_M_checkFlow_L99 Qr mm x (mH h F mm v1) := by
    intro v1 cur1 o4 g1 P1 g2 g3 g4 g5 g6
    have sh1 : wk_sh op = 1 := wk_sh_o (by omega) (by omega)
    rw [sh1] at hRw
    obtain ⟨w1, w2⟩ := rW_1i.mp hRw
    obtain ⟨t1, t2⟩ := rb_ty (hX.2.2.1 (q + 1)) w2
    have t2' := t2.rg
    unfold w_M_checkFlow_L99
    refine ⟨hB.2.1, k_next_e hs P1 (by omega) (fun v2 o2 e17 e18 _ => ?_)⟩
    have gd2 : gd D q R v2 := by
      refine ⟨by rw [o2.e14]; exact g5.1, by rw [o2.1 92 (by decide) (by decide) (by decide)]; exact g5.2.1, g5.2.2.1, g5.2.2.2.1, ?_⟩
      rw [e17, e18]
      exact g5.2.2.2.2
    have fin : ∀ y0 : Int32, y0.toInt = (if (op : Int) = 3 then 64 else (qc D (q + 1)).toInt) → w_M_checkFlow_L117 Qr (ub (qc D) (q + 1)) y0 x mm (mH h F mm v2) := fun y0 hy => by
      unfold w_M_checkFlow_L117 w_M_checkFlow_L288
      refine ⟨hB.2.1, m_begin (o := (q : Int)) (lv := lv) hB (g2.vg o2.vg) (Nat.le_trans (h200 (by omega) (by omega)) (by omega)) (by omega) (fun v3 F3 b1 b2 b3 _ => hQ v3 F3 cur1 _ (va_up ν q (nI cur1.length)) g (g1.tr (o2.vg.bv.tr (fun j _ _ _ _ _ _ _ j8 => b1 j j8))) b2 (gd2.fr (fun j _ _ h3 _ => b1 j h3)) (fun hz3 => ⟨b3, KS_2 (by omega) (by omega) ⟨nI cur1.length, ?_, ?_, z_nI (by omega), ?_, rfl, rfl⟩, fun h9 => by rw [sh1] at h9; omega, ?_⟩))⟩
      · rw [b1 17 (by decide), e17] at hz3
        exact fun h9 => (g4 hz3).1 (by omega)
      · rw [b1 17 (by decide), e17] at hz3
        exact fun h9 => (g4 hz3).2 (by omega)
      · rw [hx, hy, t1]
      · rw [b1 17 (by decide), e17] at hz3
        rw [g6 hz3]
        show Except.ok (cur1, ((op : Int), _, (qc D (q + 1)).toInt, cur1, (0 : Int)) :: _, g) = Except.ok (cur1, (x.toInt, y0.toInt, (ub (qc D) (q + 1)).toInt, cur1, (0 : Int)) :: _, g)
        rw [hx, hy, t1]
        first | done | rfl
    refine ⟨fun n3 => fin _ ?_, fun k3 => fin 64 ?_⟩
    · rw [if_neg (fun e9 => n3 (by rw [z_eq, hx, e9]; rfl))]
      exact t1
    · have e3 := lit 3 k3
      simp only [Int32.reduceToInt] at e3
      rw [if_pos e3]
      rfl
  have L87 : (op = 2 ∨ op = 3 ∨ op = 4) → w_M_checkFlow_L87 Qr mm x (mH h F mm v) := fun o4 => by
    unfold w_M_checkFlow_L87
    refine ⟨fun n4 => L99 v cur o4 bv.rf hp hS (Nat.le_refl _) (fun _ => ⟨fun _ => rfl, fun e4 => absurd (by rw [z_eq, hx, e4]; rfl) n4⟩) hgd (fun _ => ?_), fun k4 => ⟨hB.2.1, x_take hB hgd (fun _ => by rw [hR, ckFl_4 (by have := lit 4 k4; simp only [Int32.reduceToInt] at this; omega)]; rfl) hS hex (by omega) hfl (by decide) (fun u v1 c1 e1 a1 a2 a3 a4 a5 _ a7 ag aR _ => L99 v1 c1 o4 (bv.t3 a1) ⟨by rw [a1 15 (by decide) (by decide) (by decide)]; exact hp.1, by rw [a1 16 (by decide) (by decide) (by decide)]; exact hp.2.1, hp.2.2⟩ a2 a5 (fun hz1 => ⟨fun n4 => ?_, fun _ => ⟨u.toInt, (a7 hz1).2⟩⟩) ag (fun hz1 => ?_))⟩⟩
    · rw [hR, ckFl_23 (by rcases o4 with e | e | e; exact .inl e; exact .inr e; exact absurd (by rw [z_eq, hx, e]; rfl) n4)]
      rcases o4 with e | e | e
      · subst e; rfl
      · subst e; rfl
      · exact absurd (by rw [z_eq, hx, e]; rfl) n4
    · have := lit 4 k4
      simp only [Int32.reduceToInt] at this
      omega
    · have e4 : op = 4 := by
        have := lit 4 k4
        simp only [Int32.reduceToInt] at this
        omega
      rw [aR hz1]
      subst e4
      rfl
  -- a count that is written
  have one : (op = 12 ∨ op = 13 ∨ op = 14) → ∃ q1 y, rC (qc D) (q + 1) = some (q1, y) ∧ q1 ≤ qe D ∧ (ν (q + 1)).toBitVec.toNat = y.toBitVec.toNat ∧ (op = 14 → ∀ k, k ≤ y.toInt.toNat → ∃ pk q2 z, cks (qc D) k q1 = some pk ∧ rC (qc D) pk = some (q2, z) ∧ q2 ≤ qe D ∧ (ν (q + 2 + k)).toBitVec.toNat = z.toBitVec.toNat) ∧ (op = 14 → q + 2 + y.toInt.toNat < 100000) := by
    intro o3
    have sh : wk_sh op = 4 ∨ wk_sh op = 5 := by
      rcases o3 with e | e | e <;> subst e
      · exact .inl rfl
      · exact .inl rfl
      · exact .inr rfl
    obtain ⟨q1, y, c1, c2, c3⟩ := hR2 (by omega)
    have hb := rC_b c1
    have hbig : q1 ≤ q' ∧ (op = 14 → ∃ p2 z, cks (qc D) y.toInt.toNat q1 = some p2 ∧ rC (qc D) p2 = some (q', z)) := by
      rcases o3 with e | e | e <;> subst e
      · obtain ⟨x2, w⟩ := rW_4i.mp hRw
        obtain ⟨e1, -⟩ := rC_in c1 w
        exact ⟨by omega, fun e => by omega⟩
      · obtain ⟨x2, w⟩ := rW_4i.mp hRw
        obtain ⟨e1, -⟩ := rC_in c1 w
        exact ⟨by omega, fun e => by omega⟩
      · obtain ⟨p1, L, p2, z, w1, w2, w3⟩ := rW_5i.mp hRw
        obtain ⟨e1, e2⟩ := rC_in c1 w1
        subst e1 e2
        have := cks_b w2
        have := rC_b w3
        exact ⟨by omega, fun _ => ⟨p2, z, w2, w3⟩⟩
    refine ⟨q1, y, c1, by omega, by rw [hν (q + 1) (by omega)]; exact c2, fun e14 k hk => ?_, fun e14 => ?_⟩
    · obtain ⟨p2, z2, w2, w3⟩ := hbig.2 e14
      obtain ⟨pk, q2, z, d1, d2, d3⟩ := c3 (by subst e14; rfl) k hk
      refine ⟨pk, q2, z, d1, d2, ?_, by rw [hν (q + 2 + k) (by omega)]; exact d3⟩
      rcases Nat.lt_or_ge k y.toInt.toNat with h9 | h9
      · obtain ⟨pk', g1, g2⟩ := cks_pre w2 (show k + 1 ≤ y.toInt.toNat by omega)
        have := cks_nx d1 d2
        rw [this] at g1
        simp only [Option.some.injEq] at g1
        have := cks_b g2
        have := rC_b w3
        omega
      · rw [show k = y.toInt.toNat by omega, w2] at d1
        simp only [Option.some.injEq] at d1
        subst d1
        obtain ⟨e1, -⟩ := rC_in w3 d2
        omega
    · obtain ⟨p2, z2, w2, w3⟩ := hbig.2 e14
      have := cks_b w2
      have := rC_b w3
      omega
  have kS : ∀ {v1 : Nat → Int32}, (∀ j, j ≠ 17 → j ≠ 18 → v1 j = v j) → True := fun _ => trivial
  unfold w_M_checkFlow
  refine ⟨fun k => ⟨hB.2.1, ?_⟩, fun k => ?_, fun k => L87 ?_, fun k => L87 ?_, fun k => L87 ?_, fun k => ⟨hB.2.1, ?_⟩, fun k => ?_, fun k => ?_, fun k => ?_, fun k => ?_, fun k => ?_, fun k => ⟨hB.2.1, ?_⟩, fun k => ⟨hB.2.1, ?_⟩, fun k => ⟨hB.2.1, ?_⟩, fun k => ⟨hB.2.1, ?_⟩, fun k => ⟨hB.2.1, ?_⟩, fun n0 n1 n2 n3 n4 n5 n6 n7 n8 n9 n10 n11 n12 n13 n14 n15 => ?_⟩
  · have eo := lit 0 k
    simp only [Int32.reduceToInt] at eo
    unfold w_M_checkFlow_L288
    exact m_dead hB hS hex hfl (fun v1 w d1 d2 _ => hQ v1 _ (fb f) _ ν g (dieT d1) (bF.up (by decide)) (hgd.fr (fun j h1 _ _ _ => d1 j h1)) (fun _ => ⟨d2, KS_0 (by omega) ⟨rfl, rfl, rfl, rfl⟩, fun _ => rfl, by rw [hR, show op = 0 by omega]; rfl⟩))
  · have eo := lit 1 k
    simp only [Int32.reduceToInt] at eo
    unfold w_M_checkFlow_L288
    exact hQ v F cur (f :: r) ν g bv.rf bF.rf hgd (fun _ => ⟨hS, KS_1 (by omega) ⟨rfl, rfl, rfl, rfl⟩, fun _ => rfl, by rw [hR, show op = 1 by omega]; rfl⟩)
  · have eo := lit 2 k
    simp only [Int32.reduceToInt] at eo
    omega
  · have eo := lit 3 k
    simp only [Int32.reduceToInt] at eo
    omega
  · have eo := lit 4 k
    simp only [Int32.reduceToInt] at eo
    omega
  · have eo := lit 5 k
    simp only [Int32.reduceToInt] at eo
    have e5 : op = 5 := by omega
    obtain ⟨c1, c2, c3, c4⟩ := hB.kx (k := 26) (kd := 102) (n := 202) (by decide) (by decide)
    rw [mH_i]
    refine ⟨A 26, c1, c2, in29 _ c3.symm, fun v14 e14 => ?_⟩
    rw [mH_o c4, c29] at e14
    unfold w_M_checkFlow_L288
    refine x_closeOne hB hgd (fun _ => by rw [hR, ckFl_5 e5]) hS hex (by omega) hfl (fun v1 cur1 a1 a2 a3 a4 ag aR _ => m_begin (o := fa f) (lv := lv) hB a2 (by omega) (by omega) (fun v3 F3 b1 b2 b3 _ => ?_))
    refine hQ v3 F3 cur1 ((5, fa f, fe f, fe f, cur1, 0, lv) :: r) ν g (fun j j1 j2 j3 j4 j5 j6 j7 j8 => (b1 j j8).trans (a1 j j4 j5 j6 j8)) b2 (ag.fr (fun j _ _ h3 _ => b1 j h3)) (fun hz3 => ?_)
    rw [b1 17 (by decide)] at hz3
    obtain ⟨z1, y1, rr, y2⟩ := a4 hz3
    have e9 : v14.toInt = fe f := by rw [e14]; exact f3
    refine ⟨?_, KS_3 (by omega) ⟨⟨rr, y2⟩, y1, by rw [y1], rfl, rfl⟩, fun _ => rfl, by rw [aR hz3, y1]; rfl⟩
    rw [e9] at b3
    exact b3
  · have eo := lit 6 k
    simp only [Int32.reduceToInt] at eo
    exact L288 (by rw [show op = 6 by omega]; rfl)
  · have eo := lit 7 k
    simp only [Int32.reduceToInt] at eo
    exact L288 (by rw [show op = 7 by omega]; rfl)
  · have eo := lit 8 k
    simp only [Int32.reduceToInt] at eo
    exact L288 (by rw [show op = 8 by omega]; rfl)
  · have eo := lit 9 k
    simp only [Int32.reduceToInt] at eo
    exact L288 (by rw [show op = 9 by omega]; rfl)
  · have eo := lit 10 k
    simp only [Int32.reduceToInt] at eo
    exact L288 (by rw [show op = 10 by omega]; rfl)
  · have eo := lit 11 k
    simp only [Int32.reduceToInt] at eo
    obtain ⟨b1, b2, b3, b4⟩ := hB.kx (k := 24) (kd := 102) (n := 202) (by decide) (by decide)
    obtain ⟨c1, c2, c3, c4⟩ := hB.kx (k := 26) (kd := 102) (n := 202) (by decide) (by decide)
    rw [mH_i]
    refine ⟨A 24, b1, b2, in29 _ b3.symm, fun v29 e29' => ⟨A 26, c1, c2, in29 _ c3.symm, fun v33 e33 => ?_⟩⟩
    rw [mH_o b4, c29] at e29'
    rw [mH_o c4, c29] at e33
    have e33' : v33.toInt = fe f := by rw [e33]; exact f3
    have e29'' : v29.toInt = fk f := by rw [e29']; exact f1
    have rfe := hlf.2.rg
    refine x_closeOne hB hgd (fun _ => by rw [hR, ckFl_11 (by omega)]) hS hex (by omega) hfl (fun v1 cur1 a1 a2 a3 a4 ag aR _ => ?_)
    have G1 : bv v v1 := fun j j1 j2 j3 j4 j5 j6 j7 j8 => a1 j j4 j5 j6 j8
    have L199 : ∀ y0 : Int32, (y0 ≠ 0 ↔ ¬ (fk f = 4 ∧ ¬ fe f = 64)) → w_M_checkFlow_L199 Qr mm v33 y0 mm (mH h F mm v1) := fun y0 hy => by
      unfold w_M_checkFlow_L199 w_M_checkFlow_L288
      refine ⟨hB.2.1, x_need (cc := 21) (K := .ok (ptC (fb f) g (fe f) (r.map sp5))) hB.2.1 ag rfl (by decide) (fun hz1 => ⟨fun h0 => by rw [aR hz1]; exact if_neg (hy.mp h0), fun h0 => by rw [aR hz1]; exact if_pos (Classical.byContradiction (fun h9 => hy.mpr h9 h0))⟩) (fun v2 n1 n2 n3 ng nR _ => ⟨hB.2.1, m_putResult hB (a2.n2 n1) (by omega) (by omega) (fun v3 F3 cur3 g3 p1 p2 p3 p4 _ => hQ v3 F3 cur3 r ν g3 (G1.tr ((bv.n2 n1).tr (bv.p2 p1))) p2 (ng.p2 p1) (fun hz3 => ?_))⟩)⟩
      rw [p1 17 (by decide) (by decide)] at hz3
      obtain ⟨z2, ny⟩ := n2 hz3
      obtain ⟨z1, y1, rr, y2⟩ := a4 z2
      rw [e33', y1] at p4
      exact ⟨p3, KS_4 (by omega) ⟨⟨rr, y2⟩, fun h4 => Classical.byContradiction (fun h9 => hy.mp ny ⟨h4, h9⟩), p4, rfl, rfl⟩, fun _ => rfl, by rw [nR hz3, ptC_p p4]⟩
    unfold w_M_checkFlow_L194
    refine ⟨fun n4 => L199 1 ⟨fun _ h4 => absurd (by rw [z_eq, e29'', h4.1]; rfl) n4, fun _ => by decide⟩, fun k4 => ⟨fun n64 => L199 0 ⟨fun h9 => absurd rfl h9, fun h9 => absurd ⟨by rw [← e29'', k4]; rfl, fun h8 => n64 (by rw [z_eq, e33', h8]; rfl)⟩ h9⟩, fun k64 => L199 1 ⟨fun _ h8 => h8.2 ?_, fun _ => by decide⟩⟩⟩
    rw [← e33', k64]
    rfl
  · have eo := lit 12 k
    simp only [Int32.reduceToInt] at eo
    obtain ⟨q1, y, c1, c2, c3, -, -⟩ := one (by omega)
    have hb := rC_b c1
    unfold w_M_checkFlow_L288
    refine m_count_k hs hp hz c1 c2 (fun v1 o1 z1 _ => x_label hB (hgd.ro o1 z1) (fun _ => by rw [hR, ckFl_12 (by omega), (rC_E c1).2]; rfl) (hS.vg o1.vg) hfl (by omega) (fun u v2 l1 l2 l3 lg lR _ => x_takeResult hB lg lR ((hS.vg o1.vg).n2 l1) hex (by omega) hfl (fun rr v3 cur3 ex3 a1 a2 a3 a4 a5 a6 ag aR _ => m_dead hB a2 a3 hfl (fun v4 w d1 d2 _ => ?_))))
    have gd4 := ag.fr (v' := v4) (fun j h1 _ _ _ => d1 j h1)
    have GG : bv v v4 := o1.vg.bv.tr ((bv.n2 l1).tr ((bv.t3 a1).tr (dieT d1)))
    by_cases hz4 : v4 17 = 0
    · have hz4' := hz4
      rw [d1 17 (by decide)] at hz4'
      obtain ⟨z2, t3⟩ := a6 hz4'
      obtain ⟨-, i, f', i1, i2, i3⟩ := l2 z2
      have hf := hfa f' (List.mem_of_getElem? i2)
      have hi := (s5.at i2).1
      refine hQ v4 _ (fb f) (fdie f :: r) (va_up ν (q + 1) (Int32.ofInt (fa f'))) g GG (bF.up (by decide)) gd4 (fun _ => ⟨d2, KS_5 (by omega) ⟨i, f', Int32.ofInt (fa f'), rr, cur3, nt_i c3 i1 (by omega), i2, z_ofI (by omega) (by omega), by rw [← i3]; exact t3, rfl, rfl, rfl, rfl⟩, fun _ => by rw [xh_up, if_neg (by omega)], aR hz4'⟩)
    · exact hQ.d GG (bF.up (by decide)) gd4 hz4
  · have eo := lit 13 k
    simp only [Int32.reduceToInt] at eo
    obtain ⟨q1, y, c1, c2, c3, -, -⟩ := one (by omega)
    have hb := rC_b c1
    unfold w_M_checkFlow_L288
    refine m_count_k hs hp hz c1 c2 (fun v1 o1 z1 _ => x_label hB (hgd.ro o1 z1) (fun _ => by rw [hR, ckFl_13 (by omega), (rC_E c1).2]; rfl) (hS.vg o1.vg) hfl (by omega) (fun u v2 l1 l2 l3 lg lR _ => x_take hB lg (fun hz2 => by rw [lR hz2]; rfl) ((hS.vg o1.vg).n2 l1) hex (by omega) hfl (by decide) (fun u5 v5 cur5 ex5 e1 e2 e3 e4 e5 _ e7 eg eR _ => x_takeResult (cur := cur5) hB eg eR e2 e3 (by omega) hfl (fun rr v3 cur3 ex3 a1 a2 a3 a4 a5 a6 ag aR _ => m_putResult hB a2 (by omega) ?_ (fun v4 F4 cur4 g4 p1 p2 p3 p4 _ => ?_)))))
    · by_cases hz2 : v2 17 = 0
      · obtain ⟨-, i, f', i1, i2, i3⟩ := l2 hz2
        rw [i3]
        exact (hlb f' (List.mem_of_getElem? i2)).1.rg
      · rw [l3 hz2]
        decide
    · have GG : bv v v4 := o1.vg.bv.tr ((bv.n2 l1).tr ((bv.t3 e1).tr ((bv.t3 a1).tr (bv.p2 p1))))
      by_cases hz4 : v4 17 = 0
      · have hz4' := hz4
        rw [p1 17 (by decide) (by decide)] at hz4'
        obtain ⟨z5, t3⟩ := a6 hz4'
        obtain ⟨z2, t5⟩ := e7 z5
        obtain ⟨-, i, f', i1, i2, i3⟩ := l2 z2
        have hf := hfa f' (List.mem_of_getElem? i2)
        have hi := (s5.at i2).1
        have R4 := aR hz4'
        rw [i3] at t3 p4 R4
        exact hQ v4 F4 cur4 (f :: r) (va_up ν (q + 1) (Int32.ofInt (fa f'))) g4 GG p2 (ag.p2 p1) (fun _ => ⟨p3, KS_6 (by omega) ⟨i, f', Int32.ofInt (fa f'), cur5, cur3, u5.toInt, rr, nt_i c3 i1 (by omega), i2, z_ofI (by omega) (by omega), t5, t3, p4, rfl, rfl⟩, fun _ => by rw [xh_up, if_neg (by omega)], by rw [R4]; exact congrArg Except.ok (ptC_p p4)⟩)
      · exact hQ.d GG p2 (ag.p2 p1) hz4
  · have eo := lit 14 k
    simp only [Int32.reduceToInt] at eo
    obtain ⟨q1, y, c1, c2, c3, c4, c5⟩ := one (by omega)
    unfold w_M_checkFlow_L288
    refine x_checkTable (q' := q') (q := q) (op := op) (lv := lv) (ν := ν) (lo := lo) (by omega) hz hp c1 hq c3 (c4 (by omega)) (c5 (by omega)) hfa hE hgd (by rw [hR, ckFl_14 (by omega), (rC_E c1).2]; rfl) (fun v1 F1 cur1 fs1 ν1 g1 a1 a2 a3 a4 _ => hQ v1 F1 cur1 fs1 ν1 g1 a1 a2 a3 a4)
  · have eo := lit 15 k
    simp only [Int32.reduceToInt] at eo
    obtain ⟨c1, c2, c3, c4⟩ := hB.kx (k := 25) (kd := 102) (n := 202) (by decide) (by decide)
    refine ⟨A 25, c1, c2, ?_, ?_⟩
    · rw [z_in]
      show _ ∧ _ < ((xb_n h (A 25) : Nat) : Int)
      rw [c3]
      decide
    · rw [mH_o c4]
      unfold w_M_checkFlow_L288
      obtain ⟨-, -, -, -, V4⟩ := gv_0 hX.2.2 ht
      refine x_takeResult hB hgd (fun _ => by rw [hR, ckFl_15 (by omega), ← hl0]) hS hex (by omega) hfl (fun rr v3 cur3 ex3 a1 a2 a3 a4 a5 a6 ag aR _ => m_dead hB a2 a3 hfl (fun v4 w d1 d2 _ => hQ v4 _ (fb f) (fdie f :: r) ν g ((bv.t3 a1).tr (dieT d1)) (bF.up (by decide)) (ag.fr (fun j h1 _ _ _ => d1 j h1)) (fun hz4 => ?_)))
      rw [d1 17 (by decide)] at hz4
      obtain ⟨-, t3⟩ := a6 hz4
      exact ⟨d2, KS_8 (by omega) ⟨⟨rr, cur3, by rw [V4, ← hl0]; exact t3⟩, rfl, rfl, rfl, rfl⟩, fun _ => rfl, aR hz4⟩
  · exfalso
    simp only [z_eq, hx, Int32.reduceToInt] at n0 n1 n2 n3 n4 n5 n6 n7 n8 n9 n10 n11 n12 n13 n14 n15
    omega
theorem x_checkInstruction {x1 x : Int32} (h1 : x1.toInt = m) (hx : x.toInt = op) (hz : v 17 = 0) (hp : rdP v (qb D) (q + 1) (qe D)) (hop : (qc D q).toInt % 256 = op) (hRn : nR (qc D) ν0 q q') (hq : q' ≤ qe D) (hν : ∀ j, q ≤ j → ν j = ν0 j) (hfa : ∀ y ∈ f :: r, -1 ≤ fa y ∧ fa y ≤ 100000) (h200 : 2 ≤ op → op ≤ 4 → (f :: r).length ≤ 200)
    (hE : bE own mm A h F v m D t lcn lo cur ex f r g) (hgd : gd D q R v) (hR : R = ckO D (ck_lt (qc D) lo (tPa D t) (tPn D t)) (tPn D t + lcn) (tRt D t) q op cur (sp5 f) (r.map sp5) g) (hQ : bXq A h F mm v D lo t lcn lv q op cur f r ν g R Qr) : w_M_checkInstruction mm x1 x (mH h F mm v) Qr := by
  obtain ⟨⟨hX, hcf, hct, ht⟩, ⟨hS, hex, hl, hg, hfl, hty, hlb⟩, -⟩ := id hE
  have hB := hX.1
  obtain ⟨hRw, hR1, hR2⟩ := id hRn
  rw [hop] at hRw hR1 hR2
  have h13 := hRw.2.2.2.2.2.2.2.2.2.2.2
  have hcs := wk_cases (op := (op : Int)) (by omega) (by omega) h13
  have lt : ∀ c : Int32, x < c ↔ (op : Int) < c.toInt := fun c => by rw [z_lt, hx]
  have one : ∀ _ : Unit, (wk_sh op = 4 ∨ wk_sh op = 6) → ∃ q1 y, rC (qc D) (q + 1) = some (q1, y) ∧ q1 ≤ qe D ∧ (ν (q + 1)).toBitVec.toNat = y.toBitVec.toNat := fun _ sh => by
    obtain ⟨q1, y, c1, c2, -⟩ := hR2 (by omega)
    refine ⟨q1, y, c1, ?_, by rw [hν (q + 1) (by omega)]; exact c2⟩
    rcases sh with sh | sh
    · rw [sh] at hRw
      obtain ⟨x2, w⟩ := rW_4i.mp hRw
      obtain ⟨e1, -⟩ := rC_in c1 w
      omega
    · rw [sh] at hRw
      obtain ⟨p1, x2, w, -, w3⟩ := rW_6i.mp hRw
      obtain ⟨e1, -⟩ := rC_in c1 w
      omega
  unfold w_M_checkInstruction
  refine ⟨fun l69 => ⟨fun l65 => ⟨fun l40 => ⟨fun l32 => ⟨fun l16 => ⟨hB.2.1, ?_⟩, fun l16 => ⟨hB.2.1, ?_⟩⟩, fun l32 => ⟨hB.2.1, ?_⟩⟩, fun l40 => ⟨hB.2.1, ?_⟩⟩, fun l65 => ⟨hB.2.1, ?_⟩⟩, fun l69 => ?_⟩
  all_goals simp only [lt, Int32.reduceToInt] at *
  · unfold w_M_checkInstruction_L139
    exact x_ckFlow hx (by omega) hz hp hop hRn hq hν hfa h200 hE hgd (by rw [hR, ckO_f (by omega)]) (fun v1 F1 cur1 fs1 ν1 g1 a1 a2 a3 a4 _ => hQ v1 F1 cur1 fs1 ν1 g1 a1 a2 a3 a4)
  · unfold w_M_checkInstruction_L139
    have ho : op = 16 ∨ op = 17 ∨ op = 26 ∨ op = 27 := by omega
    by_cases h16 : op = 16 ∨ op = 17
    · obtain ⟨q1, y, c1, c2, c3⟩ := one () (h16.elim (fun e => .inl (by rw [e]; rfl)) (fun e => .inr (by rw [e]; rfl)))
      exact x_ckCalls (q1 := q1) (y := y) h1 hx ho hz hp (fun _ => ⟨c1, c2, c3⟩) hE hgd (by rw [hR, ckO_c (by omega), (rC_E c1).2]; rfl) (fun v1 F1 cur1 fs1 ν1 g1 a1 a2 a3 a4 _ => hQ v1 F1 cur1 fs1 ν1 g1 a1 a2 a3 a4)
    · exact x_ckCalls (q1 := 0) (y := 0) h1 hx ho hz hp (fun h9 => absurd h9 h16) hE hgd (by rw [hR, ckO_c (by omega), ckCl_y (by omega)]; rfl) (fun v1 F1 cur1 fs1 ν1 g1 a1 a2 a3 a4 _ => hQ v1 F1 cur1 fs1 ν1 g1 a1 a2 a3 a4)
  · unfold w_M_checkInstruction_L139
    obtain ⟨q1, y, c1, c2, c3⟩ := one () (.inl (wk_sh_l (by omega) (by omega)))
    exact x_ckPlace h1 hx (by omega) (by omega) hz hp c1 c2 c3 hE hgd (by rw [hR, ckO_p (by omega), (rC_E c1).2]; rfl) (fun v1 F1 cur1 fs1 ν1 g1 a1 a2 a3 a4 _ => hQ v1 F1 cur1 fs1 ν1 g1 a1 a2 a3 a4)
  · exact x_ckMem h1 hx (by omega) (by omega) hz hp hRw hq hE hgd (by rw [hR, ckO_m (by omega)]; rfl) hQ
  · unfold w_M_checkInstruction_L139
    have e9 : (192 - x).toInt = 192 - (op : Int) := by
      rw [z_sub, hx]
      simp only [Int32.reduceToInt]
      omega
    exact m_put hB hS (by omega) (by omega) (fun v1 w p1 p2 _ => hQ v1 _ _ (f :: r) ν _ (bv.p2 p1) (bF.up (by decide)) (hgd.p2 p1) (fun _ => ⟨p2, KS_16 (by omega) (by omega) ⟨.inr ⟨by omega, by rw [e9], rfl⟩, rfl, rfl⟩, fun _ => rfl, by rw [hR, ckO_k (by omega), ptC_n (by omega), e9]; rfl⟩))
  · exact x_ckNum hx (by omega) (by omega) hE hgd (by rw [hR, ckO_n (by omega)]; rfl) hQ
end RKF
