-- a run: as far as its fuel goes
/-- an else that is come to leads on -/
def fwd (d : mD) : Prop := ∀ (k p0 E : Nat) (ν0 : Nat → Int32) (G : ctG), dX d k p0 E ν0 G → ∀ a c gs, G 0 a c gs → (dcb d a).toInt % 256 = 5 → (a : Int) < (dnu d a).toInt
/-- not free of charge -/
def frN (op : Nat) : Prop := op ≠ 1 ∧ op ≠ 2 ∧ op ≠ 3 ∧ op ≠ 5 ∧ op ≠ 11
/-- a move that is free of charge -/
def frC (W : wD) (D : Nat) (gx : Nat → fG) (v : Nat → Int64) (B : ctN) (op : Nat) (o : Oc) : Prop :=
  (op = 1 ∧ o = .inl (D, va_up gx (D - 1) (gT_ (gx (D - 1)) (gA (gx (D - 1)) + 1) (gC (gx (D - 1))) (gS (gx (D - 1)))), v)) ∨
  ((op = 2 ∨ op = 3) ∧ o = .inl (D, va_up gx (D - 1) (gT_ (gx (D - 1)) (gA (gx (D - 1)) + 2) (gC (gx (D - 1))) ((gA (gx (D - 1)), gC (gx (D - 1))) :: gS (gx (D - 1)))), v)) ∨
  (op = 5 ∧ ∃ y : Nat, B (gA (gx (D - 1))) y ∧ o = .inl (D, va_up gx (D - 1) (gT_ (gx (D - 1)) y (gC (gx (D - 1))) (gS (gx (D - 1)))), v)) ∨
  (op = 11 ∧ ((∃ (e : gF) (gs' : List gF), gS (gx (D - 1)) = e :: gs' ∧ o = .inl (D, va_up gx (D - 1) (gT_ (gx (D - 1)) (gA (gx (D - 1)) + 1) (gC (gx (D - 1))) gs'), v)) ∨ (gS (gx (D - 1)) = [] ∧ o = ecO W D gx v)))
/-- how far it is to the ends of all that is open -/
def fms (W : wD) (gx : Nat → fG) : Nat → Nat
  | 0 => 0
  | D + 1 => fms W gx D + (dN (wd W (gI (gx D))) - gA (gx D))
theorem fms_cg {W : wD} {gx gx' : Nat → fG} : ∀ (D : Nat), (∀ j, j < D → gI (gx' j) = gI (gx j) ∧ gA (gx' j) = gA (gx j)) → fms W gx' D = fms W gx D
  | 0, _ => rfl
  | D + 1, h => by
    unfold fms
    rw [fms_cg D (fun j hj => h j (by omega)), (h D (by omega)).1, (h D (by omega)).2]
theorem fms_up {W : wD} {gx : Nat → fG} {D a : Nat} {c : List Int} {s : List gF} (hD : 0 < D) : fms W (va_up gx (D - 1) (gT_ (gx (D - 1)) a c s)) D = fms W gx (D - 1) + (dN (wd W (gI (gx (D - 1)))) - a) := by
  obtain ⟨D', rfl⟩ : ∃ D', D = D' + 1 := ⟨D - 1, by omega⟩
  rw [Nat.add_sub_cancel]
  show fms W _ D' + _ = _
  rw [fms_cg D' (gx := gx) (fun j hj => by rw [xh_up, if_neg (by omega)]; exact ⟨rfl, rfl⟩), xh_up, if_pos rfl]
  rfl
theorem fms_eq {W : wD} {gx : Nat → fG} {D : Nat} (hD : 0 < D) : fms W gx D = fms W gx (D - 1) + (dN (wd W (gI (gx (D - 1)))) - gA (gx (D - 1))) := by
  obtain ⟨D', rfl⟩ : ∃ D', D = D' + 1 := ⟨D - 1, by omega⟩
  rfl
theorem fms_le {W : wD} {gx : Nat → fG} : ∀ (D : Nat), (∀ j, j < D → dN (wd W (gI (gx j))) ≤ 65536) → fms W gx D ≤ 65536 * D
  | 0, _ => Nat.le_refl _
  | D + 1, h => by
    have := fms_le D (fun j hj => h j (by omega))
    have := h D (by omega)
    unfold fms
    omega
def oms (W : wD) (o : Oc) : Nat := match o with
  | .inl (D, gx, _) => fms W gx D
  | _ => 0
theorem oms_ec {W : wD} {D : Nat} {gx : Nat → fG} {v : Nat → Int64} (hD : 0 < D) (ha : gA (gx (D - 1)) < dN (wd W (gI (gx (D - 1))))) : oms W (ecO W D gx v) + 1 ≤ fms W gx D := by
  rw [fms_eq hD]
  unfold ecO
  split
  · show 0 + 1 ≤ _
    omega
  · show fms W _ (D - 1) + 1 ≤ _
    rw [fms_cg (D - 1) (gx := gx) (fun j hj => ?_)]
    · omega
    · rw [xh_up]
      split
      · rename_i e9
        rw [e9]
        exact ⟨rfl, rfl⟩
      · exact ⟨rfl, rfl⟩
section GO1
variable {own own' own1 own2 ad ad' ad1 ad2 : Nat → Nat} {h h' h1 h2 : xb_H} {W : wD} {σ D : Nat} {gx : Nat → fG}
theorem oR.run {o : Oc} (hr : oR ad h ad' h' W o) (h3 : ¬ xb_i h' (ad 15) 3 = 0) : ∃ D gx v, o = .inl (D, gx, v) := by
  match o, hr with
  | .inl (D, gx, v), _ => exact ⟨D, gx, v, rfl⟩
  | .inr (.inl y), hr => exact absurd (z_eq.mpr hr.1.1) h3
  | .inr (.inr z), hr => exact absurd (z_eq.mpr hr.1.1) h3
theorem oR.kp {o : Oc} {D : Nat} {gx : Nat → fG} {v : Nat → Int64} (h1r : oR ad h ad1 h1 W (.inl (D, gx, v))) (a15 : ad1 15 = ad 15) (a36 : ad1 36 = ad 36) (hr : oR ad1 h1 ad' h' W o) : oR ad h ad' h' W o :=
  hr.cg a15 a36 h1r.2.2.1 h1r.2.2.2.1 h1r.2.2.2.2
theorem mc_passFree {Qr : xb_H → Prop} {I : xb_H → Oc → Prop} {o0 : Oc} (hB : cB own ad h) (hW : wI own ad h W σ) (hS : mS ad h) (hX : ∀ i, i < wic W → fwd (wd W i)) (hR : oR ad h ad h W o0) (hI : I h o0)
    (hs : ∀ (h1 h2 : xb_H) (D : Nat) (gx : Nat → fG) (v : Nat → Int64) (t P lcn p0 E : Nat) (lo ν0 : Nat → Int32) (g : Nat) (G : ctG) (o2 : Oc), stp [15, 37] [] own ad own ad h h1 → rX ad h1 W D gx t P lcn p0 E lo ν0 g G → G 0 (gA (gx (D - 1))) (gC (gx (D - 1))) (gS (gx (D - 1))) → (∀ j, j < gO (gx (D - 1)) + (gC (gx (D - 1))).length → xb_l h1 (ad 37) j = v j) → I h1 (.inl (D, gx, v)) → frC W D gx (xb_l h1 (ad 37)) (ct_B (dnu (wd W (gI (gx (D - 1))))) p0 E) ((dcb (wd W (gI (gx (D - 1)))) (gA (gx (D - 1)))).toInt % 256).toNat o2 → stp [15, 37] [] own ad own ad h1 h2 → oR ad h1 ad h2 W o2 → I h2 o2)
    (hQ : ∀ (h' : xb_H) (o' : Oc), stp [15, 37] [] own ad own ad h h' → oR ad h ad h' W o' → I h' o' → (∀ D gx v, o' = .inl (D, gx, v) → frN ((dcb (wd W (gI (gx (D - 1)))) (gA (gx (D - 1)))).toInt % 256).toNat) → Qr h') : w_Machine_passFree (ad 15) h Qr := by
  have key : ∀ (m : Nat) (x1 : Int32) (k : Nat) (h1 : xb_H) (o1 : Oc), x1.toInt = k → k + m = 20000000 → k + oms W o1 ≤ 13107200 → stp [15, 37] [] own ad own ad h h1 → oR ad h ad h1 W o1 → I h1 o1 → w_Machine_passFree_L2 Qr (m + 1) (ad 15) x1 h1 := by
    intro m
    induction m with
    | zero =>
      intro x1 k h1 o1 e1 e2 e3 s r hI1
      omega
    | succ m ih =>
      intro x1 k h1 o1 e1 e2 e3 s r hI1
      have hW1 : wI own ad h1 W σ := hW.mc hB s (by simp) (fun h9 => by simp at h9)
      have hS1 := hS.st hB s
      have k15 : xb_k h1 (ad 15) = 8 := s.1.k 15 (by omega)
      unfold w_Machine_passFree_L2 w_Machine_passFree_L166
      refine ⟨fun e => ?_, fun _ => ⟨k15, fun e => hQ h1 o1 s r hI1 (fun D gx v e9 => ?_), fun e => ?_⟩⟩
      · rw [z_le, e1, show (20000000 : Int32).toInt = 20000000 from rfl] at e
        omega
      · rw [e9] at r
        have := r.1.1.2.2.1
        rw [e] at this
        cases this
      obtain ⟨D, gx, v, eo⟩ := r.run e
      subst eo
      obtain ⟨t, P, lcn, p0, E, lo, ν0, g, G, hr, hG⟩ := r.1.op
      obtain ⟨⟨y0, -⟩, ⟨t1, t2, t3, t4, t5, t6, t7⟩, -, ⟨a, a5, b1, b2, b3, b7, b5, b6⟩, -, -⟩ := id hr
      obtain ⟨l5, hiO⟩ := hW1.2.2.2.2.2.2.1.2.2.2 _ a5
      obtain ⟨⟨q1, q2, q3, q4, q5⟩, -⟩ := id hiO
      obtain ⟨⟨m1, m2, m3, m4, m5⟩, ⟨m6, m7, m8, m9⟩, -, -, m10⟩ := id q5.1
      have hby := q5.2.1.2.2.2.2.2.2.2.2.2.2.2.2.2 (gA (gx (D - 1)))
      obtain ⟨-, ⟨f1, f2, f3, f4, f5, -⟩, -, g0, g1, g2, g3, g4⟩ := id b1
      obtain ⟨⟨d1, d2, d3, d4, d5⟩, hl⟩ := g0 _ _ _ hG
      have cat : (xb_i h1 (ad 15) 15).toNatClampNeg = gA (gx (D - 1)) := by rw [z_cl, t2, Int.toNat_natCast]
      have e3' : k + fms W gx D ≤ 13107200 := e3
      rw [fms_eq y0] at e3'
      have nx : ∀ (h2 : xb_H) (o2 : Oc), stp [15, 37] [] own ad own ad h1 h2 → oR ad h1 ad h2 W o2 → frC W D gx (xb_l h1 (ad 37)) (ct_B (dnu (wd W (gI (gx (D - 1))))) p0 E) ((dcb (wd W (gI (gx (D - 1)))) (gA (gx (D - 1)))).toInt % 256).toNat o2 → oms W o2 + 1 ≤ fms W gx D → w_Machine_passFree_L160 (w_Machine_passFree_L2 Qr (m + 1)) Qr (ad 15) x1 h2 := by
        intro h2 o2 s2 r2 hf hm
        rw [fms_eq y0] at hm
        unfold w_Machine_passFree_L160
        exact ih (x1 + 1) (k + 1) h2 o2 (by rw [z_add, e1, show (1 : Int32).toInt = 1 from rfl]; omega) (by omega) (by omega) ((s.tr s2).mono (by decide) (fun k hk => by simpa using hk)) (r.kp rfl rfl r2) (hs h1 h2 D gx v t P lcn p0 E lo ν0 g G o2 s hr hG r.2.1 hI1 hf s2 r2)
      have up : ∀ (a' : Nat) (c' : List Int) (s' : List gF) (v' : Nat → Int64), gA (gx (D - 1)) < a' → a' < E → oms W (.inl (D, va_up gx (D - 1) (gT_ (gx (D - 1)) a' c' s'), v')) + 1 ≤ fms W gx D := by
        intro a' c' s' v' h1 h2
        show fms W _ D + 1 ≤ _
        rw [fms_up y0, fms_eq y0]
        omega
      have K : frN ((dcb (wd W (gI (gx (D - 1)))) (gA (gx (D - 1)))).toInt % 256).toNat → w_Machine_passFree_L159 (w_Machine_passFree_L2 Qr (m + 1)) Qr h1 := by
        intro hn
        unfold w_Machine_passFree_L159
        refine hQ h1 _ s r hI1 (fun D' gx' v' e9 => ?_)
        cases e9
        exact hn
      have op : ∀ (y : Int32) (z : Nat), y.toInt = z → z < 256 → dcb (wd W (gI (gx (D - 1)))) (gA (gx (D - 1))) = y → (dcb (wd W (gI (gx (D - 1)))) (gA (gx (D - 1)))).toInt % 256 = z ∧ ((dcb (wd W (gI (gx (D - 1)))) (gA (gx (D - 1)))).toInt % 256).toNat = z := by
        intro y z hy z2 e9
        rw [e9, hy]
        omega
      have KO : ∀ (y : Int32) (z : Nat), y.toInt = z → z < 256 → frN z → dcb (wd W (gI (gx (D - 1)))) (gA (gx (D - 1))) = y → w_Machine_passFree_L159 (w_Machine_passFree_L2 Qr (m + 1)) Qr h1 := fun y z hy z2 hz e9 => K (by rw [(op y z hy z2 e9).2]; exact hz)
      have L97 : ∀ (y : Int32) (z : Nat), y.toInt = z → z = 2 ∨ z = 3 → dcb (wd W (gI (gx (D - 1)))) (gA (gx (D - 1))) = y → w_Machine_passFree_L97 (w_Machine_passFree_L2 Qr (m + 1)) Qr (ad 15) x1 h1 := by
        intro y z hy hz e9
        obtain ⟨o1, o2⟩ := op y z hy (by omega) e9
        have hG' := (hl.2.1 (by rw [o1]; omega)).2.2
        unfold w_Machine_passFree_L97
        refine ⟨k15, fun h2 e2' => ?_⟩
        rw [e2']
        refine nx _ _ ((stp.Ic s.1).mono (by decide) (fun k hk => hk)) (hr.at s.1 hG' ?_) (.inr (.inl ⟨by rw [o2]; exact hz, rfl⟩)) (up _ _ _ _ (by omega) (g0 _ _ _ hG').1.2.1)
        rw [z_add, t2, show (2 : Int32).toInt = 2 from rfl]
        omega
      refine ⟨_, t6, m3, by rw [z_in, t2, m4]; omega, ?_⟩
      rw [cat, m5]
      refine ⟨fun e9 h8 e8 => ?_, fun e9 => L97 2 2 rfl (by omega) e9, fun e9 => L97 3 3 rfl (by omega) e9, KO 4 4 rfl (by omega) ⟨by omega, by omega, by omega, by omega, by omega⟩, fun e9 => ?_, KO 6 6 rfl (by omega) ⟨by omega, by omega, by omega, by omega, by omega⟩, KO 7 7 rfl (by omega) ⟨by omega, by omega, by omega, by omega, by omega⟩, KO 8 8 rfl (by omega) ⟨by omega, by omega, by omega, by omega, by omega⟩, KO 9 9 rfl (by omega) ⟨by omega, by omega, by omega, by omega, by omega⟩, KO 10 10 rfl (by omega) ⟨by omega, by omega, by omega, by omega, by omega⟩, fun e9 => ?_, fun z1 z2 z3 _ z5 _ _ _ _ _ z11 => K ?_⟩
      · obtain ⟨o1, o2⟩ := op 1 1 rfl (by omega) e9
        have hG' := hl.1 o1
        rw [e8]
        exact nx _ _ ((stp.Ic s.1).mono (by decide) (fun k hk => hk)) (hr.at s.1 hG' (z_inc t2 (by omega))) (.inl ⟨o2, rfl⟩) (up _ _ _ _ (by omega) (g0 _ _ _ hG').1.2.1)
      · obtain ⟨o1, o2⟩ := op 5 5 rfl (by omega) e9
        obtain ⟨oo, b, gs', h2, h3, h4, h5⟩ := hl.2.2.2.1 o1
        obtain ⟨en, x, u1, u2, u3, u4⟩ := g3 _ _ _ h5
        have een : en = gA (gx (D - 1)) := by
          have y1 := h3.2.2
          have y2 := u1.2.2
          omega
        subst een
        have hfw := hX _ a5 _ _ _ _ _ g4 _ _ _ hG o1
        rw [u3.2.2] at hfw
        refine ⟨_, t7, m7, by rw [z_in, t2, m8]; omega, fun h16 e16 => ?_⟩
        rw [m9] at e16
        rw [e16]
        exact nx _ _ ((stp.Ic s.1).mono (by decide) (fun k hk => hk)) (hr.at s.1 u4 u3.2.2) (.inr (.inr (.inl ⟨o2, x, u3, rfl⟩))) (up _ _ _ _ (by omega) (g0 _ _ _ u4).1.2.1)
      · obtain ⟨o1, o2⟩ := op 11 11 rfl (by omega) e9
        have h11 := hl.2.2.2.2.1 o1
        refine ⟨_, t7, m7, by rw [z_in, t2, m8]; omega, ?_⟩
        rw [m9]
        refine ⟨fun e10 h27 e27 => ?_, fun e10 => ?_⟩
        · rcases h11 with ⟨h2, -⟩ | ⟨oo, b, gs', h6, -, -, hG'⟩
          · exact absurd (z_eq.mpr h2.2.2) e10
          · rw [e27]
            exact nx _ _ ((stp.Ic s.1).mono (by decide) (fun k hk => hk)) (hr.at s.1 hG' (z_inc t2 (by omega))) (.inr (.inr (.inr ⟨o2, .inl ⟨_, gs', h6, rfl⟩⟩))) (up _ _ _ _ (by omega) (g0 _ _ _ hG').1.2.1)
        · rcases h11 with ⟨-, h6, hc⟩ | ⟨oo, b, gs', -, h3, -⟩
          · exact mc_endCall s.1 hW1 hS1 hr (c := []) (by rw [hr.rT_, hc, List.append_nil]) (fun h2 s2 r2 _ => nx h2 _ s2 r2 (.inr (.inr (.inr ⟨o2, .inr ⟨h6, rfl⟩⟩))) (oms_ec y0 (by omega)))
          · have y1 := h3.2.2
            rw [e10, show (1 : Int32).toInt = 1 from rfl] at y1
            omega
      · have ne : ∀ (y : Int32) (z : Nat), y.toInt = z → z < 128 → ¬ dcb (wd W (gI (gx (D - 1)))) (gA (gx (D - 1))) = y → ((dcb (wd W (gI (gx (D - 1)))) (gA (gx (D - 1)))).toInt % 256).toNat ≠ z := by
          intro y z hy hz e9 e10
          apply e9
          rw [z_eq, hy]
          omega
        exact ⟨ne 1 1 rfl (by omega) z1, ne 2 2 rfl (by omega) z2, ne 3 3 rfl (by omega) z3, ne 5 5 rfl (by omega) z5, ne 11 11 rfl (by omega) z11⟩
  unfold w_Machine_passFree
  refine ⟨20000001, key 20000000 0 0 h o0 rfl (by omega) ?_ ((stp.rf hB).mono (by decide) (fun k hk => hk)) hR hI⟩
  match o0, hR with
  | .inl (D, gx, v), hR =>
    show 0 + fms W gx D ≤ _
    have := hR.1.1.2.1
    have := fms_le (W := W) (gx := gx) D (fun j hj => by
      have h5 := (hR.1.2.2.1 j hj).2.1
      exact (hW.2.2.2.2.2.2.1.2.2.2 _ h5).2.1.2.2.2.2.1.2.2.2.2)
    omega
  | .inr _, _ =>
    show 0 + 0 ≤ _
    omega
/-- all that is kept by a run -/
def kQ (own ad : Nat → Nat) (h : xb_H) (W : wD) (σ rc rs : Nat) (own' ad' : Nat → Nat) (h' : xb_H) (bc' bs' : Nat) (np : Nat) : Prop :=
  stg own ad own' ad' h h' ∧ wI own' ad' h' (wgr W np) σ ∧ mS ad' h' ∧ fI ad' h' ∧ bgv ad' h' rc rs bc' bs'
/-- what is known stays known over a free move -/
def jFr (own ad : Nat → Nat) (h : xb_H) (W : wD) (σ rc rs : Nat) (J : Nat → (Nat → Nat) → (Nat → Nat) → xb_H → Nat → Oc → Prop) : Prop :=
  ∀ (k np bc1 bs1 : Nat) (own1 ad1 : Nat → Nat) (h1 h2 : xb_H) (D : Nat) (gx : Nat → fG) (v : Nat → Int64) (t P lcn p0 E : Nat) (lo ν0 : Nat → Int32) (g : Nat) (G : ctG) (o2 : Oc), kQ own ad h W σ rc rs own1 ad1 h1 bc1 bs1 np → rX ad1 h1 W D gx t P lcn p0 E lo ν0 g G → G 0 (gA (gx (D - 1))) (gC (gx (D - 1))) (gS (gx (D - 1))) → (∀ j, j < gO (gx (D - 1)) + (gC (gx (D - 1))).length → xb_l h1 (ad1 37) j = v j) → J k own1 ad1 h1 np (.inl (D, gx, v)) → frC W D gx (xb_l h1 (ad1 37)) (ct_B (dnu (wd W (gI (gx (D - 1))))) p0 E) ((dcb (wd W (gI (gx (D - 1)))) (gA (gx (D - 1)))).toInt % 256).toNat o2 → stp [15, 37] [] own1 ad1 own1 ad1 h1 h2 → oR ad1 h1 ad1 h2 W o2 → J k own1 ad1 h2 np o2
/-- what is known stays known over a step -/
def jSt (own ad : Nat → Nat) (h : xb_H) (W : wD) (σ rc rs : Nat) (J : Nat → (Nat → Nat) → (Nat → Nat) → xb_H → Nat → Oc → Prop) : Prop :=
  ∀ (k np n0 bc1 bs1 bc2 bs2 : Nat) (own1 ad1 own2 ad2 : Nat → Nat) (h1 h2 : xb_H) (D : Nat) (gx : Nat → fG) (v : Nat → Int64) (t P lcn p0 E : Nat) (lo ν0 : Nat → Int32) (g : Nat) (G : ctG) (o2 : Oc) (e : Option Int64) (ε : wEf), kQ own ad h W σ rc rs own1 ad1 h1 bc1 bs1 np → rX ad1 h1 W D gx t P lcn p0 E lo ν0 g G → G 0 (gA (gx (D - 1))) (gC (gx (D - 1))) (gS (gx (D - 1))) → (∀ j, j < gO (gx (D - 1)) + (gC (gx (D - 1))).length → xb_l h1 (ad1 37) j = v j) → J (k + 1) own1 ad1 h1 np (.inl (D, gx, v)) → frN ((dcb (wd W (gI (gx (D - 1)))) (gA (gx (D - 1)))).toInt % 256).toNat → (xb_i h1 (ad1 27) 1).toInt = n0 → sQ own1 ad1 h1 (wgr W np) σ rc rs own2 ad2 h2 bc2 bs2 (gI (gx (D - 1))) o2 e ε → stC h1 ad1 (wgr W np) D gx n0 (ct_B (dnu (wd W (gI (gx (D - 1))))) p0 E) ν0 ((dcb (wd W (gI (gx (D - 1)))) (gA (gx (D - 1)))).toInt % 256).toNat o2 e ε → J k own2 ad2 h2 (np + ε.2.2) o2
/-- how a run answers -/
def goA (r : Int32) (k : Nat) (W : wD) (o : Oc) : Prop := match o with
  | .inl (D, gx, _) => r = 2 ∧ k = 0 ∧ frN ((dcb (wd W (gI (gx (D - 1)))) (gA (gx (D - 1)))).toInt % 256).toNat
  | .inr (.inl _) => r = 0
  | .inr (.inr _) => r = 1
theorem mc_goL {x1 : Int32} {rc rs bc bs k0 np0 : Nat} {o0 : Oc} {Qr : Int32 → xb_H → Nat → Nat → Prop} {J : Nat → (Nat → Nat) → (Nat → Nat) → xb_H → Nat → Oc → Prop} (h7 : xb_i h (ad 15) 7 = 0) (hX : ∀ i, i < wic W → moB (wd W i)) (hF : ∀ i, i < wic W → fwd (wd W i)) (hx : x1.toInt = k0) (hq : kQ own ad h W σ rc rs own' ad' h' bc bs np0) (hR : oR ad h ad' h' W o0) (hJ : J k0 own' ad' h' np0 o0) (hfr : jFr own ad h W σ rc rs J) (hst : jSt own ad h W σ rc rs J)
    (hQ : ∀ (r : Int32) (h' : xb_H) (own' ad' : Nat → Nat) (bc' bs' np k : Nat) (o : Oc), kQ own ad h W σ rc rs own' ad' h' bc' bs' np → oR ad h ad' h' W o → J k own' ad' h' np o → goA r k W o → Qr r h' bc' bs') : w_Machine_go_L29 Qr (ad 15) x1 h' bc bs := by
  have L76 : ∀ (own1 ad1 : Nat → Nat) (h1 : xb_H) (bc1 bs1 np k : Nat) (o : Oc), kQ own ad h W σ rc rs own1 ad1 h1 bc1 bs1 np → oR ad h ad1 h1 W o → J k own1 ad1 h1 np o → (∀ D gx v, o ≠ .inl (D, gx, v)) → w_Machine_go_L76 Qr (ad 15) h1 bc1 bs1 := by
    intro own1 ad1 h1 bc1 bs1 np k o q r j hno
    have a15 : ad1 15 = ad 15 := q.1.2.2.2.2.2.2 15 (by decide)
    unfold w_Machine_go_L76 w_Machine_go_L88
    refine ⟨by rw [← a15]; exact q.1.1.k 15 (by omega), fun e => ?_, fun e => ?_⟩
    · match o, r, j, hno with
      | .inl (D, gx, v), _, _, hno => exact absurd rfl (hno D gx v)
      | .inr (.inl y), r, j, _ => exact hQ _ _ _ _ _ _ _ _ _ q r j rfl
      | .inr (.inr z), r, j, _ =>
        have := r.2.2.1
        rw [e] at this
        cases this
    · match o, r, j, hno with
      | .inl (D, gx, v), _, _, hno => exact absurd rfl (hno D gx v)
      | .inr (.inl y), r, j, _ =>
        have := r.2.2.1
        rw [h7] at this
        exact absurd this e
      | .inr (.inr z), r, j, _ => exact hQ _ _ _ _ _ _ _ _ _ q r j rfl
  have key : ∀ (m : Nat) (x2 : Int32) (own1 ad1 : Nat → Nat) (h1 : xb_H) (bc1 bs1 np : Nat) (o : Oc), x2.toInt < m → ((∃ k : Nat, x2.toInt = k ∧ J k own1 ad1 h1 np o) ∨ (x2.toInt = -1 ∧ J 0 own1 ad1 h1 np o ∧ ∀ D gx v, o ≠ .inl (D, gx, v))) → kQ own ad h W σ rc rs own1 ad1 h1 bc1 bs1 np → oR ad h ad1 h1 W o → w_Machine_go_L31 Qr (m + 1) (ad 15) x2 h1 bc1 bs1 := by
    intro m
    induction m with
    | zero =>
      intro x2 own1 ad1 h1 bc1 bs1 np o e1 hk q r
      unfold w_Machine_go_L31
      rcases hk with ⟨k, hk, -⟩ | ⟨hk, hj, hno⟩
      · omega
      · refine ⟨fun _ => L76 _ _ _ _ _ _ _ _ q r hj hno, fun e => ?_⟩
        rw [z_lt, show (0 : Int32).toInt = 0 from rfl] at e
        omega
    | succ m ih =>
      intro x2 own1 ad1 h1 bc1 bs1 np o e1 hk q r
      have a15 : ad1 15 = ad 15 := q.1.2.2.2.2.2.2 15 (by decide)
      have a36 : ad1 36 = ad 36 := q.1.2.2.2.2.2.2 36 (by decide)
      obtain ⟨q1, q2, q3, q5, q6⟩ := id q
      unfold w_Machine_go_L31
      rcases hk with ⟨k, hk, hj⟩ | ⟨hk, hj, hno⟩
      rotate_left
      · refine ⟨fun _ => L76 _ _ _ _ _ _ _ _ q r hj hno, fun e => ?_⟩
        rw [z_lt, show (0 : Int32).toInt = 0 from rfl] at e
        omega
      refine ⟨fun e => ?_, fun e => ⟨by rw [← a15]; exact q1.1.k 15 (by omega), fun e3 => ?_, fun e3 => ?_⟩⟩
      · rw [z_lt, show (0 : Int32).toInt = 0 from rfl] at e
        omega
      · refine L76 _ _ _ _ _ _ _ _ q r hj (fun D gx v e9 => ?_)
        rw [e9] at r
        have := r.1.1.2.2.1
        rw [a15, e3] at this
        cases this
      rw [z_lt, show (0 : Int32).toInt = 0 from rfl] at e
      obtain ⟨D, gx, v, eo⟩ := r.run e3
      subst eo
      rw [← a15]
      refine mc_passFree (W := wgr W np) (I := fun hh oo => J k own1 ad1 hh np oo ∧ oR ad h ad1 hh W oo) (o0 := .inl (D, gx, v)) q1.1 q2 q3 hF ⟨r.1, r.2.1, rfl, rfl, rfl⟩ ⟨hj, r⟩ (fun hh1 hh2 D1 gx1 v1 t P lcn p0 E lo ν0 g G o2 s1 hr1 hG1 hv1 hj1 hf1 s2 hr2 => ?_) (fun h4 o4 s4 r4 j4 n4 _ => ?_)
      · refine ⟨hfr k np bc1 bs1 own1 ad1 hh1 hh2 D1 gx1 v1 t P lcn p0 E lo ν0 g G o2 ⟨q1.tr (s1.sg (by decide)), ?_, q3.st q1.1 s1, ?_, q6.st q1.1 s1⟩ hr1 hG1 hv1 hj1.1 hf1 s2 hr2, hj1.2.kp a15 a36 hr2⟩
        · exact q2.mc q1.1 s1 (by simp) (fun h9 => by simp at h9)
        · exact q5.st q1.1 s1 (by decide) (fun x hx => by cases hx) (by decide) (by decide)
      have hW4 : wI own1 ad1 h4 (wgr W np) σ := q2.mc q1.1 s4 (by simp) (fun h9 => by simp at h9)
      have hf4 : fI ad1 h4 := q5.st q1.1 s4 (by decide) (fun x hx => by cases hx) (by decide) (by decide)
      have qq : kQ own ad h W σ rc rs own1 ad1 h4 bc1 bs1 np := ⟨q1.tr (s4.sg (by decide)), hW4, q3.st q1.1 s4, hf4, q6.st q1.1 s4⟩
      have nx : ∀ (own2 ad2 : Nat → Nat) (h3 : xb_H) (bc2 bs2 np2 : Nat) (o2 : Oc), kQ own ad h W σ rc rs own2 ad2 h3 bc2 bs2 np2 → oR ad h ad2 h3 W o2 → ((∃ k' : Nat, x2.toInt - 1 = k' ∧ J k' own2 ad2 h3 np2 o2) ∨ (x2.toInt - 1 = -1 ∧ J 0 own2 ad2 h3 np2 o2 ∧ ∀ D gx v, o2 ≠ .inl (D, gx, v))) → w_Machine_go_L70 (w_Machine_go_L31 Qr (m + 1)) Qr (ad1 15) x2 h3 bc2 bs2 := by
        intro own2 ad2 h3 bc2 bs2 np2 o2 q7 r7 hk7
        unfold w_Machine_go_L70
        rw [a15]
        have := z_rg x2
        have ex : (x2 + -1).toInt = x2.toInt - 1 := by
          rw [z_add, show (-1 : Int32).toInt = -1 from rfl]
          omega
        exact ih (x2 + -1) own2 ad2 h3 bc2 bs2 np2 o2 (by rw [ex]; omega) (by rw [ex]; exact hk7) q7 r7
      -- the run is over: what stays of the fuel
      have over : (∀ D gx v, o4 ≠ .inl (D, gx, v)) → w_Machine_go_L70 (w_Machine_go_L31 Qr (m + 1)) Qr (ad1 15) x2 h4 bc1 bs1 := by
        intro hno
        unfold w_Machine_go_L70
        rw [a15]
        have := z_rg x2
        have ex : (x2 + -1).toInt = x2.toInt - 1 := by
          rw [z_add, show (-1 : Int32).toInt = -1 from rfl]
          omega
        have k3 : (xb_i h4 (ad 15) 3) = 0 := by
          match o4, j4.2, hno with
          | .inl (D, gx, v), _, hno => exact absurd rfl (hno D gx v)
          | .inr (.inl y), r, _ => exact z_eq.mpr r.1.1
          | .inr (.inr z), r, _ => exact z_eq.mpr r.1.1
        unfold w_Machine_go_L31
        refine ⟨fun _ => L76 _ _ _ _ _ _ _ _ qq j4.2 j4.1 hno, fun _ => ⟨by rw [← a15]; exact qq.1.1.k 15 (by omega), fun _ => L76 _ _ _ _ _ _ _ _ qq j4.2 j4.1 hno, fun e9 => absurd k3 e9⟩⟩
      have stopped : (xb_i h4 (ad1 15) 3) = 0 → ∀ D gx v, o4 ≠ .inl (D, gx, v) := fun e9 D' gx' v' e10 => by
        have h9 := j4.2
        rw [e10] at h9
        have := h9.1.1.2.2.1
        rw [e9] at this
        cases this
      have L59 : x2 ≠ 0 ∨ (xb_i h4 (ad1 15) 3) = 0 → w_Machine_go_L59 (w_Machine_go_L31 Qr (m + 1)) Qr (ad1 15) x2 h4 bc1 bs1 := by
        intro hx2
        unfold w_Machine_go_L59
        refine ⟨s4.1.k 15 (by omega), fun e9 => over (stopped e9), fun e9 => ?_⟩
        obtain ⟨k', hk'⟩ : ∃ k', k = k' + 1 := by
          rcases hx2 with h9 | h9
          · rw [ne_eq, z_eq, hk, show (0 : Int32).toInt = 0 from rfl] at h9
            exact ⟨k - 1, by omega⟩
          · exact absurd h9 e9
        obtain ⟨D4, gx4, v4, eo⟩ := j4.2.run (by rw [← a15]; exact e9)
        subst eo
        subst hk'
        obtain ⟨t, P, lcn, p0, E, lo, ν0, g, G, hr, hG⟩ := j4.2.1.op
        obtain ⟨n0, hn0⟩ : ∃ n0 : Nat, (xb_i h4 (ad1 27) 1).toInt = n0 := by
          obtain ⟨un, u1, u2⟩ := hW4.2.2.2.2.1
          exact ⟨_, u1.2.2.1⟩
        refine mc_step (W := wgr W np) (n0 := n0) s4.1 hW4 (q3.st q1.1 s4) hf4 (q6.st q1.1 s4) hr hG hX hn0 (fun h3 own2 ad2 bc2 bs2 oc e ε q7 c7 _ => ?_)
        have j7 := hst k' np n0 bc1 bs1 bc2 bs2 own1 ad1 own2 ad2 h4 h3 D4 gx4 v4 t P lcn p0 E lo ν0 g G oc e ε qq hr hG j4.2.2.1 j4.1 (n4 _ _ _ rfl) hn0 q7 c7
        obtain ⟨y1, y2, y3, y4, y5, y6, y7, y8⟩ := q7
        exact nx _ _ _ _ _ _ _ ⟨qq.1.tr y1, y2, y3, y7, y8⟩ (j4.2.kp a15 a36 y4) (.inl ⟨k', by omega, j7⟩)
      refine ⟨fun e9 => L59 (.inr e9), fun e9 => ⟨fun e0 => L59 (.inl e0), fun e0 => ?_⟩⟩
      obtain ⟨D4, gx4, v4, eo⟩ := j4.2.run (by rw [← a15]; exact e9)
      subst eo
      rw [e0, show (0 : Int32).toInt = 0 from rfl] at hk
      exact hQ _ _ _ _ _ _ _ _ _ qq j4.2 j4.1 ⟨rfl, by omega, n4 _ _ _ rfl⟩
  unfold w_Machine_go_L29
  exact ⟨x1.toInt.toNat + 1 + 1, key (x1.toInt.toNat + 1) x1 own' ad' h' bc bs np0 o0 (by omega) (.inl ⟨k0, hx, hJ⟩) hq hR⟩
theorem rI.sm7 {z : Int32} (hB : cB own ad h) (hr : rI ad h W D gx) : rI ad (xb_I h (ad 15) 7 z) W D gx := by
  have n15 : ad 38 ≠ ad 15 := hB.ne (by omega) (by omega) (by omega)
  have j : ∀ k, k ≠ 7 → xb_i (xb_I h (ad 15) 7 z) (ad 15) k = xb_i h (ad 15) k := fun k hk => by rw [xh_iI, if_pos rfl, xh_up, if_neg hk]
  have j38 : xb_i (xb_I h (ad 15) 7 z) (ad 38) = xb_i h (ad 38) := by rw [xh_iI, if_neg n15]
  unfold rI mT at *
  rw [j 3 (by omega), j 4 (by omega), j 8 (by omega), j 10 (by omega), j 15 (by omega), j 16 (by omega), j 17 (by omega), j38]
  exact hr
/-- what is known where a run begins or goes on -/
def jGo (own ad : Nat → Nat) (h : xb_H) (W : wD) (σ rc rs k0 : Nat) (J : Nat → (Nat → Nat) → (Nat → Nat) → xb_H → Nat → Oc → Prop) : Prop :=
  ((∃ (D : Nat) (gx : Nat → fG), rI ad h W D gx) → ∃ (D : Nat) (gx : Nat → fG), rI ad h W D gx ∧ J k0 own ad (xb_I h (ad 15) 7 0) (wnp W) (.inl (D, gx, xb_l h (ad 37)))) ∧
  ∀ (f n0 bc' bs' : Nat) (own' ad' : Nat → Nat) (h' : xb_H) (o : Oc) (e : Option Int64), (xb_i h (ad 15) 8).toInt = f → (xb_i h (ad 15) 4).toInt = 0 → vf W f → (xb_i h (ad 27) 1).toInt = n0 → caQ own ad (xb_I h (ad 15) 7 0) W σ rc rs own' ad' h' bc' bs' o e → clR W 0 (fun _ => (0, 0, 0, 0, 0, [], [])) (xb_l h (ad 37)) f 0 n0 (-1) o e → J k0 own' ad' h' (wnp W) o
theorem mc_go {x1 : Int32} {rc rs bc bs k0 : Nat} {Qr : Int32 → xb_H → Nat → Nat → Prop} {J : Nat → (Nat → Nat) → (Nat → Nat) → xb_H → Nat → Oc → Prop} (hB : cB own ad h) (hW : wI own ad h W σ) (hS : mS ad h) (hf : fI ad h) (hg : bgv ad h rc rs bc bs) (hr : rS ad h W) (h3 : (xb_i h (ad 15) 3).toInt ≠ 0) (hX : ∀ i, i < wic W → moB (wd W i)) (hF : ∀ i, i < wic W → fwd (wd W i)) (hx : x1.toInt = k0) (hgo : jGo own ad h W σ rc rs k0 J) (hfr : jFr own ad (xb_I h (ad 15) 7 0) W σ rc rs J) (hst : jSt own ad (xb_I h (ad 15) 7 0) W σ rc rs J)
    (hQ : ∀ (r : Int32) (h' : xb_H) (own' ad' : Nat → Nat) (bc' bs' np k : Nat) (o : Oc), kQ own ad h W σ rc rs own' ad' h' bc' bs' np → oR ad (xb_I h (ad 15) 7 0) ad' h' W o → J k own' ad' h' np o → goA r k W o → Qr r h' bc' bs') : w_Machine_go (ad 15) x1 h bc bs Qr := by
  unfold w_Machine_go
  refine ⟨hB.k 15 (by omega), fun h2 e2 => ?_⟩
  have s2 : stp [15] [] own ad own ad h h2 := by rw [e2]; exact stp.Ic hB
  have n15 : ad 38 ≠ ad 15 := hB.ne (by omega) (by omega) (by omega)
  have n36 : ad 36 ≠ ad 15 := hB.ne (by omega) (by omega) (by omega)
  have j2 : ∀ k, k ≠ 7 → xb_i h2 (ad 15) k = xb_i h (ad 15) k := fun k hk => by rw [e2, xh_iI, if_pos rfl, xh_up, if_neg hk]
  have h27 : xb_i h2 (ad 15) 7 = 0 := by rw [e2, xh_iI, if_pos rfl, xh_up, if_pos rfl]
  have hW2 : wI own ad h2 W σ := hW.mc hB s2 (by simp) (fun h9 => by simp at h9)
  have hf2 : fI ad h2 := hf.st hB s2 (by decide) (fun x hx => by cases hx) (by decide) (by decide)
  rw [← e2] at hfr hst hQ
  unfold jGo at hgo
  rw [← e2] at hgo
  have hQ2 : ∀ (r : Int32) (h' : xb_H) (own' ad' : Nat → Nat) (bc' bs' np k : Nat) (o : Oc), kQ own ad h2 W σ rc rs own' ad' h' bc' bs' np → oR ad h2 ad' h' W o → J k own' ad' h' np o → goA r k W o → Qr r h' bc' bs' := fun r h' own' ad' bc' bs' np k o q => hQ r h' own' ad' bc' bs' np k o ⟨(s2.sg (by decide)).tr q.1, q.2⟩
  rcases hr with ⟨r1, -⟩ | ⟨f, r1, r2, r3, r4, r5, r6, r7⟩ | ⟨D, gx, hI⟩
  · exact absurd r1 h3
  · refine ⟨fun e => ?_, fun e v4 e4 h5 e5 => ?_⟩
    · rw [j2 8 (by omega), z_eq, r3, show (-1 : Int32).toInt = -1 from rfl] at e
      omega
    · have s5 : stp [15] [] own ad own ad h2 h5 := by rw [e5]; exact stp.Ic s2.1
      have sA : stp [15] [] own ad own ad h h5 := (s2.tr s5).mono (by decide) (fun k hk => by simpa using hk)
      have j5 : ∀ k, k ≠ 7 → k ≠ 8 → xb_i h5 (ad 15) k = xb_i h (ad 15) k := fun k h7 h8 => by rw [e5, xh_iI, if_pos rfl, xh_up, if_neg h8, j2 k h7]
      have l5 : xb_l h5 = xb_l h := by rw [e5, xh_lI, e2, xh_lI]
      have n5 : xb_n h5 = xb_n h := by rw [e5, xh_nI, e2, xh_nI]
      have hc : cP ad h5 W 0 (fun _ => (0, 0, 0, 0, 0, [], [])) f 0 := by
        refine ⟨⟨by omega, by rw [j5 3 (by omega) (by omega)]; exact r1, by rw [j5 4 (by omega) (by omega)]; exact r2, by rw [e5, xh_iI, if_pos rfl, xh_up, if_pos rfl]; rfl⟩, ⟨?_, ?_, by rw [l5]; exact r7⟩, ⟨fun _ => rfl, fun h9 => by omega⟩, fun j hj => by omega, fun j hj => by omega⟩
        · rw [j5 10 (by omega) (by omega), Nat.zero_add]
          exact r5
        · rw [n5, Nat.zero_add]
          exact r6
      have hW5 : wI own ad h5 W σ := hW.mc hB sA (by simp) (fun h9 => by simp at h9)
      obtain ⟨n0, hn0⟩ : ∃ n0 : Nat, (xb_i h (ad 27) 1).toInt = n0 := by
        obtain ⟨un, u1, u2⟩ := hW.2.2.2.2.1
        exact ⟨_, u1.2.2.1⟩
      have hn5 : (xb_i h5 (ad 27) 1).toInt = n0 := by
        rw [(sA.cm hB (by decide) (fun x hx => by cases hx) (k := 27) (by omega) (by decide)).2.1]
        exact hn0
      refine mc_call (n0 := n0) (A0 := -1) sA.1 hW5 (hS.st hB sA) hc hX hn5 (fun h9 => by omega) r4 (by rw [e4, j2 8 (by omega)]; exact r3) (fun h9 => by omega) (hg.st hB sA) (fun h6 own6 ad6 bc6 bs6 o6 e6 hq hcl _ => ?_)
      have nk : nK ad h2 h5 := ⟨by rw [e5, xh_lI], by rw [e5, xh_iI, if_pos rfl, xh_up, if_neg (by omega)], by rw [e5, xh_iI, if_neg n36]⟩
      have hq2 := hq.pre s2.1 s5 (by decide) nk
      have hq3 := hq2.s (i0 := 0) s2.1 hW2 hf2
      rw [l5] at hcl
      have hj := hgo.2 f n0 bc6 bs6 own6 ad6 h6 o6 e6 r3 r2 r4 hn0 hq2 hcl
      obtain ⟨y1, y2, y3, y4, y5, y6, y7, y8⟩ := hq3
      exact mc_goL h27 hX hF hx ⟨y1, y2, y3, y7, y8⟩ y4 hj hfr hst hQ2
  · obtain ⟨D, gx, hI, hj9⟩ := hgo.1 ⟨D, gx, hI⟩
    refine ⟨fun e => ?_, fun e => ?_⟩
    · have hI2 := hI.sm7 (z := 0) hB
      rw [← e2] at hI2
      exact mc_goL h27 hX hF hx (o0 := .inl (D, gx, xb_l h (ad 37))) (np0 := wnp W) ⟨stg.rf s2.1, hW2, hS.st hB s2, hf2, hg.st hB s2⟩ ⟨hI2, fun j _ => by rw [e2, xh_lI], rfl, rfl, rfl⟩ hj9 hfr hst hQ2
    · refine absurd ?_ e
      rw [j2 8 (by omega), z_eq, hI.1.2.2.2.2]
      rfl
end GO1
