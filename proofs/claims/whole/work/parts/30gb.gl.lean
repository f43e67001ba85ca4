-- equality: memory instructions
section GL
variable {own own' ad ad' : Nat → Nat} {h h' : xb_H} {W : wD} {σ D : Nat} {gx : Nat → fG} {t P lcn p0 E : Nat} {lo ν0 : Nat → Int32} {g : Nat} {G : ctG} {A : Nat → Nat} {F : Nat → Nat → Int32} {DM : Nat → zM} {most : Nat → Int64} {x : cX} {r : List cX} {n : Nat} {v ω : Nat → Int64} {T p0' E' : Nat} {lo' ν0' ν1' : Nat → Int32} {G' : ctG} {V' : Nat → Prop} {rm : Int} {w w' : rWd} {z : cZ} {z' : rZ} {op np i0 : Nat} {φ : Nat → Nat → Int32} {ε : wEf} {e : Option Int64} {o : Oc}
/-- a byte of a memory is the same in both -/
theorem wQ.byt {i q : Nat} (hW : wI own ad h W σ) (hw : wQ ad h W np (gmV A F DM) w) (hnp : np = wnp W) (hi : i < wic W) (hm : 0 < dn (wd W i) 4 / 3) (hq : q < 65536 * mmP h W i) : mpA (fun j => w.2.2.2.1 (16 * gmV A F DM i + j)) q = mpA (xb_i h (mmS h W i)) q ∧ mpA (xb_i h (mmS h W i)) q < 65536 * np := by
  obtain ⟨-, -, -, -, -, -, -, -, -, -, m1, -⟩ := hW.mm hi hm
  obtain ⟨-, k2⟩ := hw.2.2.1 i hi hm
  have h1 : q / 65536 < mmP h W i := by omega
  have h2 := m1 _ h1
  unfold mpA
  dsimp only
  rw [k2 _ h1]
  refine ⟨rfl, ?_⟩
  omega
theorem cq_mm {b' : Nat → Nat} (hc : cmP own ad h W σ D gx t P lcn p0 E lo ν0 g G A F DM most x r n ω T p0' E' lo' ν0' ν1' G' V' rm) (hop : (dcb (wd W (gI (gx (D - 1)))) (gA (gx (D - 1)))).toInt % 256 = op) (h1 : 40 ≤ op) (h2 : op < 63) (hw : wQ ad h W np (gmV A F DM) w) (hnp : np = wnp W)
    (hco : umC h ad W D gx (ct_B (dnu (wd W (gI (gx (D - 1))))) p0 E) op (gS (gx (D - 1))) o b')
    (hst : stR A F DM (fMo (fun k => F (A k)) DM x.1) (fTy (fun k => F (A k)) DM x.1) x.1 x.2.1 x.2.2.1 (ct_B ν1' p0' E') ν0' op x.2.2.2.1 x.2.2.2.2.1 x.2.2.2.2.2 r ω most w w' z) (htz : tzR A F x z z') :
    oQ W (fun k => F (A k)) DM o z' ∧ w'.1 = w.1 ∧ w'.2.2 = w.2.2 ∧ (∀ a, a < 65536 * np → byR w'.2.1 a = b' a) ∧ ∀ a, 65536 * np ≤ a → a < 1048576 → byR w'.2.1 a = 0 := by
  obtain ⟨hpl, hp0, h0, e1, e2, e3, e4⟩ := hc.pl
  obtain ⟨hvs, hbo, hb0, hbD, hLC, hv, -⟩ := hc.ty
  have hO := hc.2.2.2.2.2.1
  have hW := hc.2.1
  have hs := hc.2.2.2.2.1
  have hgq := hpl.2.2.2.2.2.2.2
  obtain ⟨hfM, hmQ, hmR, h44, h45, hnik, hgk, ⟨md, hmo⟩, hfT, hrT⟩ := hc.fq.md hW hs
  have hgi : gI (gx (D - 1)) < wic W := hc.fq.1.2.2.2.1
  rw [hop] at hLC
  rw [e3] at hst
  have hmem : 0 < dn (wd W (gI (gx (D - 1)))) 4 / 3 := (hLC.2.2.2.2.2.2.2.2.2.2.2.2.2.2.2.1 (by omega) (by omega)).1
  have s7 : wk_sh ((dcb (wd W (gI (gx (D - 1)))) (gA (gx (D - 1)))).toInt % 256) = 7 := by
    rw [hop]
    unfold wk_sh
    rw [if_neg (by omega), if_neg (by omega), if_pos (by omega), if_neg (by omega)]
  obtain ⟨y, rmm, ez⟩ := hst.2.2.2.1 h1 (by omega)
  obtain ⟨τ', c2, q', r1, r2, r3, r4, r5⟩ := rmm.2 (by omega)
  obtain ⟨τ, c, q, k1, k2, k3, k4, k5⟩ := hco
  have hτ : τ.length = τ'.length := by
    by_cases h54 : op < 54
    · rw [k3 h54, r2 h54]
    · rw [k4 (by omega), r3 (by omega)]
  have hl2 : c2.length = c.length := by
    rw [r1, k1, List.length_append, List.length_append, List.length_cons, List.length_cons] at e4
    omega
  have hlen : (gC (gx (D - 1))).length = τ.length + (c.length + 1) := by
    rw [k1, List.length_append, List.length_cons]
  have hvv : vr 127 (xb_l h (ad 37) (gO (gx (D - 1)) + c.length)) := by
    rw [k1] at hvs
    exact (vst.app.mp hvs).2.1
  obtain ⟨v1, v2⟩ := hvv (.inl rfl)
  obtain ⟨q9, n1, n2, n3, n4, n5, n6, n7, n8⟩ := hpl.n4 (by omega)
  have hb9 := (rW_b n1).2.2 (.inr (.inl s7))
  have ed := n8 (by omega) (gA (gx (D - 1)) + 2) (by omega) (by omega)
  have ecv := n2.2.2.2.1 s7
  have eq : q' = q := by
    rw [r4, k2, e2, hl2, ← hv _ (by omega), Z_low]
    unfold umQ
    rw [ed, ← ecv]
    have := z_nat (ν0 (gA (gx (D - 1)) + 2))
    omega
  subst eq
  have hMB := MB_r (op - 40) (by omega)
  have hg : (oV A F DM (F (A 44) x.1).toInt.toNat 2).toInt.toNat = gmV A F DM (gI (gx (D - 1))) := by
    rw [h44]
    rfl
  rw [hg] at r5
  obtain ⟨w1, ⟨w2, w3⟩, w4, w5, w6, w7⟩ := id hw
  obtain ⟨p1, p2⟩ := w4 _ hgi hmem
  have epc : (w.2.2.1 (gmV A F DM (gI (gx (D - 1))))).toInt.toNat = mmP h W (gI (gx (D - 1))) := by
    rw [p1]
    rfl
  rw [epc] at r5
  rcases k5 with ⟨k5, k6, k7⟩ | ⟨k5, xx, kb, k6⟩
  · rcases r5 with ⟨-, r6, r7⟩ | ⟨r5, -⟩
    · subst r7
      subst ez
      rw [k7, r6, k6]
      exact ⟨trQ hW hs hO (by decide) rfl htz, rfl, rfl, w2, w3⟩
    · omega
  · rcases r5 with ⟨r5, -⟩ | ⟨-, x', rb, r6⟩
    · omega
    · obtain ⟨q1, q2⟩ := hpl.nx2 (by omega) kb rb
      subst q1
      rcases k6 with ⟨k6, k7, rr, k8, k9⟩ | ⟨k6, k7, k8⟩
      · rcases r6 with ⟨-, r7, rr', ss, r8, r9, r10⟩ | ⟨r6, -⟩
        · subst r10
          subst ez
          have ez' : z' = _ := htz
          subst ez'
          have egt : gth (fun j => byR w.2.1 (mpA (fun i => w.2.2.2.1 (16 * gmV A F DM (gI (gx (D - 1))) + i)) (q' + j))) (MB (op - 40)).toNat = gth (fun j => byA (xb_l h (ad 26)) (mpA (xb_i h (mmS h W (gI (gx (D - 1))))) (q' + j))) (MB (op - 40)).toNat := by
            apply gth_cg
            intro i hi
            obtain ⟨a1, a2⟩ := wQ.byt (q := q' + i) hW hw hnp hgi hmem (by omega)
            show byR w.2.1 (mpA _ _) = _
            rw [a1]
            exact w2 _ a2
          have err : rr' = rr := by
            apply Int64.toBitVec_inj.mp
            apply BitVec.eq_of_toNat_eq
            rw [r9, k8, egt]
          subst err
          have hrr : rr'.toBitVec.toNat < 256 ^ (MB (op - 40)).toNat := by
            rw [k8]
            exact gth_lt (fun j => byA_lt _ _) _
          rw [k9, wdn_x h1 k6 hrr r8, r7, k7]
          refine ⟨oQ.go hO (by rw [hp0]; exact q2) (by rw [List.length_cons, List.length_cons, hl2]) (by rw [hp0]; exact hgq) (fun j hj => ?_), rfl, rfl, w2, w3⟩
          rw [List.length_cons] at hj
          rw [e2, hl2, xh_up, xh_up]
          split
          · rfl
          · exact hv j (by omega)
        · omega
      · rcases r6 with ⟨r6, -⟩ | ⟨-, r7, ⟨r8, r9⟩, r10⟩
        · omega
        · subst r10
          subst ez
          have ez' : z' = _ := htz
          subst ez'
          have hτ1 := k4 k6
          rw [k8, k7]
          have ead : ∀ i, i < (MB (op - 40)).toNat → mpA (fun i => w.2.2.2.1 (16 * gmV A F DM (gI (gx (D - 1))) + i)) (q' + i) = mpA (xb_i h (mmS h W (gI (gx (D - 1))))) (q' + i) ∧ mpA (xb_i h (mmS h W (gI (gx (D - 1))))) (q' + i) < 65536 * np := fun i hi => wQ.byt hW hw hnp hgi hmem (by omega)
          have evv : ω (x.2.1 + x.2.2.1 + c2.length + 1) = xb_l h (ad 37) (gO (gx (D - 1)) + c.length + 1) := by
            rw [e2, hl2]
            exact (hv _ (by omega)).symm
          refine ⟨oQ.go hO (by rw [hp0]; exact q2) hl2 (by rw [hp0]; exact hgq) (fun j hj => hv j (by omega)), r8, r9, fun a ha => ?_, fun a a1 a2 => ?_⟩
          · rw [r7, evv]
            exact sto_at _ (w2 a ha) (fun i hi => (ead i hi).1)
          · rw [r7, sto_off _ (fun i hi e9 => ?_)]
            · exact w3 a a1 a2
            · have := (ead i hi).2
              rw [(ead i hi).1] at e9
              omega
theorem cq_sz (hc : cmP own ad h W σ D gx t P lcn p0 E lo ν0 g G A F DM most x r n ω T p0' E' lo' ν0' ν1' G' V' rm) (hop : (dcb (wd W (gI (gx (D - 1)))) (gA (gx (D - 1)))).toInt % 256 = op) (h1 : 63 ≤ op) (h2 : op ≤ 64) (hw : wQ ad h W np (gmV A F DM) w) (hnp : np = wnp W)
    (hco : szC h ad W D gx (ct_B (dnu (wd W (gI (gx (D - 1))))) p0 E) op (gS (gx (D - 1))) o ε)
    (hst : stR A F DM (fMo (fun k => F (A k)) DM x.1) (fTy (fun k => F (A k)) DM x.1) x.1 x.2.1 x.2.2.1 (ct_B ν1' p0' E') ν0' op x.2.2.2.1 x.2.2.2.2.1 x.2.2.2.2.2 r ω most w w' z) (htz : tzR A F x z z') (hF : wF ad h ad' h' W (gI (gx (D - 1))) ε) (hU : oU ad h ad' h' none) (a27 : ad' 27 = ad 27) :
    oQ W (fun k => F (A k)) DM o z' ∧ wQ ad' h' W (np + ε.2.2) (gmV A F DM) w' := by
  obtain ⟨hpl, hp0, h0, e1, e2, e3, e4⟩ := hc.pl
  obtain ⟨hvs, hbo, hb0, hbD, hLC, hv, -⟩ := hc.ty
  have hO := hc.2.2.2.2.2.1
  have hW := hc.2.1
  have hs := hc.2.2.2.2.1
  have hgq := hpl.2.2.2.2.2.2.2
  obtain ⟨hfM, hmQ, hmR, h44, h45, hnik, hgk, ⟨md, hmo⟩, hfT, hrT⟩ := hc.fq.md hW hs
  have hgi : gI (gx (D - 1)) < wic W := hc.fq.1.2.2.2.1
  rw [hop] at hLC
  rw [e3] at hst
  have hmem : 0 < dn (wd W (gI (gx (D - 1)))) 4 / 3 := (hLC.2.2.2.2.2.2.2.2.2.2.2.2.2.2.2.1 (by omega) (by omega)).1
  have s8 : 4 ≤ wk_sh ((dcb (wd W (gI (gx (D - 1)))) (gA (gx (D - 1)))).toInt % 256) := by
    rw [hop]
    unfold wk_sh
    rw [if_neg (by omega), if_neg (by omega), if_pos (by omega), if_pos (by omega)]
    decide
  obtain ⟨y, rmm, ez⟩ := hst.2.2.2.1 (by omega) (by omega)
  obtain ⟨x', c', yv, x2, rb, rx2, rpg, rc63, rc64, rz⟩ := rmm.1 h1
  obtain ⟨xx, y1, kb, ksz⟩ := hco
  obtain ⟨q1, q2⟩ := hpl.nx2 s8 kb rb
  subst q1
  have hg : (oV A F DM (F (A 44) x.1).toInt.toNat 2).toInt.toNat = gmV A F DM (gI (gx (D - 1))) := by
    rw [h44]
    rfl
  rw [hg] at rpg
  obtain ⟨w1, ⟨w2, w3⟩, w4, w5, w6, w7⟩ := id hw
  obtain ⟨p1, p2⟩ := w4 _ hgi hmem
  obtain ⟨-, -, -, -, -, -, -, -, -, mp9, -, -⟩ := hW.mm hgi hmem
  have hnp16 := hW.2.2.2.1.2
  have hpc : ∀ yy : Int64, yy.toInt = mmP h W (gI (gx (D - 1))) → arV 127 (Int32.toInt64 (w.2.2.1 (gmV A F DM (gI (gx (D - 1)))))) = yy := by
    intro yy hy
    apply Int64.toInt.inj
    unfold arV
    rw [if_pos (.inl rfl), Z_low, Z_of32, p1, hy]
    omega
  subst rz
  subst ez
  have ez' : z' = _ := htz
  subst ez'
  rcases ksz with ⟨k1, k2, k3, k4⟩ | ⟨k1, c, m, k2, k3, k4, k5⟩
  · rcases rpg with ⟨-, r1, r2⟩ | ⟨r1, -⟩
    · rw [k4, r1, k2, r2, hpc y1 k3, rc63 k1]
      rw [k2] at hF
      refine ⟨oQ.go hO (by rw [hp0]; exact q2) (by rw [List.length_cons, List.length_cons, e4]) (by rw [hp0]; exact hgq) (fun j hj => ?_), wQ.ou hs hw hnp a27 hF hU hgi (.inl ⟨rfl, rfl⟩)⟩
      rw [List.length_cons] at hj
      rw [List.length_cons, e2, e4, xh_up, xh_up, show gO (gx (D - 1)) + ((gC (gx (D - 1))).length + 1) - 1 = gO (gx (D - 1)) + (gC (gx (D - 1))).length by omega]
      split
      · rfl
      · exact hv j (by omega)
    · rw [r1] at rx2
      simp only [Int32.reduceToInt] at rx2
      omega
  · rcases rpg with ⟨r1, -⟩ | ⟨-, m', pc, ps, r1, r2, r3, r4⟩
    · rw [r1] at rx2
      simp only [Int32.reduceToInt] at rx2
      omega
    · obtain ⟨rc, c2, rc2⟩ := rc64 k1
      have hl2 : c2.length = c.length := by
        rw [rc2, k2, List.length_cons, List.length_cons] at e4
        omega
      have hlen : (gC (gx (D - 1))).length = c.length + 1 := by rw [k2, List.length_cons]
      have em : m' = m := by
        rw [e4, hlen, show x.2.1 + x.2.2.1 + (c.length + 1) - 1 = gO (gx (D - 1)) + c.length by omega, ← hv _ (by omega), Z_low, k3] at r1
        have hvv : vr 127 (xb_l h (ad 37) (gO (gx (D - 1)) + c.length)) := by
          rw [k2] at hvs
          exact hvs.1
        have := hvv (.inl rfl)
        rw [k3] at this
        omega
      subst em
      have epc : pc = mmP h W (gI (gx (D - 1))) := by omega
      have eps : ps = np := by omega
      subst epc
      subst eps
      obtain ⟨ms1, ms2, ms3⟩ := hs.2.2.2.2.2 _ hgi hmem
      have hmX := (hW.2.2.2.2.2.2.1.2.2.2 _ hgi).2.2.2.2.2.2.2.2 (mmA h W (gI (gx (D - 1)))) (hW.mm hgi hmem).1
      have hmX4 := hmX.2.2.2.1
      have hcond : ((((mmP h W (gI (gx (D - 1))) + m' : Nat) : Int) ≤ (if 0 ≤ (most (gmV A F DM (gI (gx (D - 1))))).toInt then (most (gmV A F DM (gI (gx (D - 1))))).toInt else 65536) ∧ ps + m' ≤ 16)) ↔ (wnp W + m' ≤ 16 ∧ (mmX h W (gI (gx (D - 1))) ≠ -1 → ((mmP h W (gI (gx (D - 1))) + m' : Nat) : Int) ≤ mmX h W (gI (gx (D - 1))))) := by
        rw [ms2]
        have hmX5 : mmX h W (gI (gx (D - 1))) = -1 ∨ 0 ≤ mmX h W (gI (gx (D - 1))) ∧ mmX h W (gI (gx (D - 1))) ≤ 65536 := hmX4
        by_cases h9 : mmX h W (gI (gx (D - 1))) = -1
        · rw [if_neg (by omega)]
          constructor
          · intro h8
            exact ⟨by omega, fun h7 => absurd h9 h7⟩
          · intro h8
            exact ⟨by omega, by omega⟩
        · rw [if_pos (by omega)]
          constructor
          · intro h8
            exact ⟨by omega, fun _ => h8.1⟩
          · intro h8
            exact ⟨h8.2 h9, by omega⟩
      rw [hcond] at r4
      have hgo : ∀ yy : Int64, yv = yy → oQ W (fun k => F (A k)) DM (.inl (D, va_up gx (D - 1) (gT_ (gx (D - 1)) xx (127 :: c) (gS (gx (D - 1)))), va_up (xb_l h (ad 37)) (gO (gx (D - 1)) + c.length) yy)) (.inl ((x.1, x.2.1, x.2.2.1, qb (fMo (fun k => F (A k)) DM x.1) + xx, c', x.2.2.2.2.2) :: r, 0, va_up ω (x.2.1 + x.2.2.1 + c'.length - 1) yv)) := by
        intro yy hy
        subst hy
        rw [rc, rc2]
        refine oQ.go hO (by rw [hp0]; exact q2) (by rw [List.length_cons, List.length_cons, hl2]) (by rw [hp0]; exact hgq) (fun j hj => ?_)
        rw [List.length_cons] at hj
        rw [List.length_cons, e2, hl2, xh_up, xh_up, show gO (gx (D - 1)) + (c.length + 1) - 1 = gO (gx (D - 1)) + c.length by omega]
        split
        · rfl
        · exact hv j (by omega)
      rw [k4]
      rcases k5 with ⟨k5, k6, k7, k8⟩ | ⟨k5, k6, k7⟩
      · rcases r4 with ⟨-, r5, ⟨r6, r7, r8⟩, r9, r10, r11, r12, r13⟩ | ⟨r4, -⟩
        · refine ⟨hgo y1 (by rw [r5]; exact hpc y1 k8), ?_⟩
          have eε2 : ε.2.2 = m' := by rw [k7]
          have eε1 : ε.2.1 = fun a => if a < 65536 * wnp W then byA (xb_l h (ad 26)) a else 0 := by rw [k7]
          have eε0 : eV ε (xb_l h (ad 22)) = xb_l h (ad 22) := by rw [k7]; rfl
          refine wQ.nx hs hw hnp a27 hF ⟨none, hU, fun _ => r8, fun y hy => by cases hy⟩ (fun j hj => by rw [r6, eε0]; exact w1 j hj) (fun a ha => ?_) (fun a a1 a2 => ?_) (by rw [eε2]; exact r13) hgi (fun _ => hmem) (fun i hi hm => ?_)
          · rw [r7, eε1]
            show _ = if a < 65536 * wnp W then byA (xb_l h (ad 26)) a else 0
            rw [eε2] at ha
            split
            · exact w2 a (by omega)
            · exact w3 a (by omega) (by omega)
          · rw [r7]
            exact w3 a (by omega) a2
          · rw [eε2]
            obtain ⟨ii1, ii2⟩ := w4 i hi hm
            obtain ⟨-, -, -, -, -, -, -, -, -, mpi, -, -⟩ := hW.mm hi hm
            have g24 := (hs.2.2.2.2.2 i hi hm).1
            refine ⟨fun he => ?_, fun he => ?_⟩
            · have epi : mmP h W i = mmP h W (gI (gx (D - 1))) := by
                rw [he] at ii1
                omega
              rw [he, epi]
              refine ⟨r9, fun j hj => r12 _ (fun j9 hj9 => by omega), fun j j1 j2 => ?_⟩
              have := r11 (j - mmP h W (gI (gx (D - 1)))) (by omega)
              rw [show mmP h W (gI (gx (D - 1))) + (j - mmP h W (gI (gx (D - 1)))) = j by omega] at this
              exact this
            · refine ⟨r10 _ he, fun j hj => r12 _ (fun j9 hj9 => ?_)⟩
              omega
        · exact absurd ⟨k5, k6⟩ r4
      · rcases r4 with ⟨r4, -⟩ | ⟨-, r5, r6⟩
        · exfalso
          rcases k5 with k5 | ⟨k5, k8⟩
          · omega
          · have := r4.2 k5
            omega
        · rw [r5]
          rw [k6] at hF
          rw [k6]
          refine ⟨hgo y1 (by rw [r6]; apply Int64.toInt.inj; rw [k7]; rfl), wQ.ou hs hw hnp a27 hF hU hgi (.inl ⟨rfl, rfl⟩)⟩
end GL
