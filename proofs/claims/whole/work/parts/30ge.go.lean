-- equality: one instruction of a run, in both
section GO
variable {own own' ad ad' : Nat → Nat} {h h' : xb_H} {W : wD} {σ D : Nat} {gx : Nat → fG} {t P lcn p0 E : Nat} {lo ν0 : Nat → Int32} {g : Nat} {G : ctG} {A : Nat → Nat} {F : Nat → Nat → Int32} {DM : Nat → zM} {most : Nat → Int64} {x : cX} {r cs : List cX} {n : Nat} {v ω : Nat → Int64} {T p0' E' : Nat} {lo' ν0' ν1' : Nat → Int32} {G' : ctG} {V' : Nat → Prop} {rm : Int} {w w' : rWd} {z : cZ} {z' : rZ} {op np i0 : Nat} {φ : Nat → Nat → Int32} {ε : wEf} {e : Option Int64} {o : Oc}
theorem frQ.wg : ∀ {cs : List cX} {D : Nat}, frQ W φ DM gx cs D ↔ frQ (wgr W np) φ DM gx cs D
  | [], _ => Iff.rfl
  | y :: r, D => by
    constructor
    · intro ⟨D', e1, e2, e3⟩
      exact ⟨D', e1, e2, frQ.wg.mp e3⟩
    · intro ⟨D', e1, e2, e3⟩
      exact ⟨D', e1, e2, frQ.wg.mpr e3⟩
theorem oQ.wg {zz : rZ} : oQ W φ DM o zz ↔ oQ (wgr W np) φ DM o zz := by
  match o, zz with
  | .inl (D, gx, v), .inl (cs, _, ω) =>
    constructor
    · intro ⟨h1, h2, h3⟩
      exact ⟨h1, frQ.wg.mp h2, h3⟩
    · intro ⟨h1, h2, h3⟩
      exact ⟨h1, frQ.wg.mpr h2, h3⟩
  | .inr (.inl y), .inl (cs, n, ω) => exact Iff.rfl
  | .inr (.inr t), .inr s => exact Iff.rfl
  | .inl _, .inr _ => exact Iff.rfl
  | .inr (.inl _), .inr _ => exact Iff.rfl
  | .inr (.inr _), .inl _ => exact Iff.rfl
/-- a step, in both -/
theorem cq_step {n0 rc rs bc2 bs2 : Nat} (hB : cB own ad h) (hc : cmP own ad h W σ D gx t P lcn p0 E lo ν0 g G A F DM most x r n ω T p0' E' lo' ν0' ν1' G' V' rm) (hop : (dcb (wd W (gI (gx (D - 1)))) (gA (gx (D - 1)))).toInt % 256 = op) (hfn : frN op) (hw : wQ ad h W (wnp W) (gmV A F DM) w) (hn0 : (xb_i h (ad 27) 1).toInt = n0) (hq : sQ own ad h W σ rc rs own' ad' h' bc2 bs2 (gI (gx (D - 1))) o e ε) (hs : stC h ad W D gx n0 (ct_B (dnu (wd W (gI (gx (D - 1))))) p0 E) ν0 op o e ε)
    (hst : stR A F DM (fMo (fun k => F (A k)) DM x.1) (fTy (fun k => F (A k)) DM x.1) x.1 x.2.1 x.2.2.1 (ct_B ν1' p0' E') ν0' op x.2.2.2.1 x.2.2.2.2.1 x.2.2.2.2.2 r ω most w w' z) (htz : tzR A F x z z') : oQ W (fun k => F (A k)) DM o z' ∧ wQ ad' h' W (wnp W + ε.2.2) (gmV A F DM) w' ∧ stQ h' ad' W A F DM most := by
  obtain ⟨q1, q2, q3, q4, q5, q6, q7, q8⟩ := hq
  have hst9 := hc.2.2.2.2.1
  have hW := hc.2.1
  have hgi : gI (gx (D - 1)) < wic W := hc.fq.1.2.2.2.1
  have a27 : ad' 27 = ad 27 := q1.2.2.2.2.2.2 27 (by decide)
  have sx : stQ h' ad' W A F DM most := hst9.nx hB hW q1 q6
  obtain ⟨w1, ⟨w2, w3⟩, w4, w5, w6, w7⟩ := id hw
  obtain ⟨s1, s2, s3, s4, s5, s6⟩ := hs
  have hno : w.2.2.2.2.2.1.toInt = n0 := by rw [w6, hn0]
  have hsh13 : wk_sh (op : Int) < 13 := by
    obtain ⟨hpl, -⟩ := hc.pl
    obtain ⟨-, -, -, V, -, -, -, -, -, -, ⟨m, d', wc⟩, -⟩ := hpl.core
    cases m with
    | zero => exact wc.elim
    | succ m =>
      obtain ⟨-, q', hW9, -⟩ := wc
      have := hW9.2.2.2.2.2.2.2.2.2.2.2
      rw [hpl.sh, hop] at this
      exact this
  by_cases c1 : op < 32
  · obtain ⟨k1, k2⟩ := s1 c1
    obtain ⟨r1, r2⟩ := cq_co hc hop hfn c1 hno k2 hst htz
    rw [k1] at q6
    rw [k1]
    exact ⟨r1, wQ.ou hst9 hw rfl a27 q6 q5 hgi r2, sx⟩
  by_cases c2 : op ≤ 36
  · obtain ⟨k1, k2⟩ := s2 (by omega) c2
    obtain ⟨r1, r2, r3, r4⟩ := cq_un (w := w) hc hop (by omega) c2 w1 k2 hst htz
    rw [k1] at q5
    have e22 : ε.2.2 = 0 := by rw [r3]
    have e21 : ε.2.1 = byA (xb_l h (ad 26)) := by rw [r3]
    refine ⟨r1, wQ.vb hst9 hw rfl a27 q6 q5 hgi e22 (by rw [r2]) r4 (fun a ha => ?_) (fun a a1 a2 => ?_), sx⟩
    · rw [r2, e21]
      exact w2 a ha
    · rw [r2]
      exact w3 a a1 a2
  by_cases c3 : op < 40
  · exfalso
    have : ∀ k : Nat, k < 40 → k < 37 ∨ 13 ≤ wk_sh (k : Int) := by decide
    have := this op c3
    omega
  by_cases c4 : op < 63
  · obtain ⟨k1, b', k2, k3⟩ := s3 (by omega) c4
    obtain ⟨r1, r2, r3, r4, r5⟩ := cq_mm hc hop (by omega) c4 hw rfl k2 hst htz
    rw [k1] at q5
    refine ⟨r1, wQ.vb hst9 hw rfl a27 q6 q5 hgi (by rw [k3]) r3 (fun j hj => ?_) (fun a ha => ?_) r5, sx⟩
    · rw [r2, k3]
      exact w1 j hj
    · rw [k3]
      exact r4 a ha
  by_cases c5 : op ≤ 64
  · obtain ⟨k1, k2⟩ := s4 (by omega) c5
    rw [k1] at q5
    obtain ⟨r1, r2⟩ := cq_sz hc hop (by omega) c5 hw rfl k2 hst htz q6 q5 a27
    exact ⟨r1, r2, sx⟩
  by_cases c6 : op ≤ 68
  · obtain ⟨k1, k2, k3⟩ := s5 (by omega) c6
    obtain ⟨r1, r2⟩ := cq_kc hc hop (by omega) c6 k3 hst htz
    rw [k2] at q6
    rw [k2]
    exact ⟨r1, wQ.ou hst9 hw rfl a27 q6 q5 hgi (.inl ⟨k1, r2⟩), sx⟩
  · obtain ⟨k1, k2, k3⟩ := s6 (by omega)
    obtain ⟨r1, r2⟩ := cq_nm hc hop (by omega) k3 hst htz
    rw [k2] at q6
    rw [k2]
    exact ⟨r1, wQ.ou hst9 hw rfl a27 q6 q5 hgi (.inl ⟨k1, r2⟩), sx⟩
/-- a move of the machine alone: the world stays -/
theorem stp.wq {C : List Nat} (hB : cB own ad h) (hW : wI own ad h W σ) (s : stp C [] own ad own ad h h') (hC : ∀ k ∈ C, k = 15 ∨ k = 36 ∨ k = 37 ∨ k = 38) (hs : stQ h ad W A F DM most) (hw : wQ ad h W (wnp W) (gmV A F DM) w) (hi : i0 < wic W) : wQ ad h' W (wnp W) (gmV A F DM) w ∧ stQ h' ad W A F DM most := by
  have hC41 : ∀ k ∈ C, k < 41 := fun k hk => by rcases hC k hk with e | e | e | e <;> omega
  have nc : ∀ k, k < 41 → k ≠ 15 → k ≠ 36 → k ≠ 37 → k ≠ 38 → xh_sm h h' (ad k) := fun k k1 k2 k3 k4 k5 => (s.cm hB hC41 (fun x hx => by cases hx) k1 (fun hk => by rcases hC k hk with e | e | e | e <;> omega)).2
  have hF : wF ad h ad h' W i0 (w0 ad h) := wF.st hB hW s hC41 rfl (nc 22 (by decide) (by decide) (by decide) (by decide) (by decide)).2.1 (fun a => by rw [(nc 26 (by decide) (by decide) (by decide) (by decide) (by decide)).2.1]; rfl) rfl
  have hU : oU ad h ad h' none := ⟨(nc 27 (by decide) (by decide) (by decide) (by decide) (by decide)).1, rfl, (nc 28 (by decide) (by decide) (by decide) (by decide) (by decide)).2.1⟩
  have sg : stg own ad own ad h h' := s.sg (fun k hk => by rcases hC k hk with e | e | e | e <;> (subst e; decide))
  exact ⟨wQ.ou hs hw rfl rfl hF hU hi (.inl ⟨rfl, rfl⟩), hs.nx hB hW sg hF⟩
end GO
