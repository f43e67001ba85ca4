-- the class from outside: calls that use its rows
section HO3
variable {own own' own2 ad ad' : Nat → Nat} {h h' h2 : xb_H} {W W' : wD} {σ ts ts' K rc rs bc bs bc' bs' : Nat}
theorem cI.sg (hI : cI own ad h W σ ts K) (s : stg own ad own' ad' h h') (hW' : wI own' ad' h' W' σ) (hS' : mS ad' h') (hr' : rS ad' h' W') (hf : fI ad' h') : cI own' ad' h' W' σ ts K := by
  obtain ⟨⟨hB, hW, hS, hr, -⟩, ⟨t1, t2, t3, t4, t5⟩, ⟨m1, mc, m2, m3, m4⟩, ⟨r1, r2, r3⟩, ⟨na, a1, a2⟩, n1, n2, n3, n4⟩ := hI
  have hx : ∀ k ∈ hN, k ∉ goC := by decide
  have cm : ∀ k, k ∈ hN → ad' k = ad k ∧ xh_sm h h' (ad k) := fun k hk => s.cm hB (hN_lt k hk) (hx k hk)
  have e := s.2.2.2.1
  have nn : ∀ k, k ∈ hN → xb_n h' (ad' k) = xb_n h (ad k) := fun k hk => by
    rw [(cm k hk).1]
    exact (e _ (hB.z k (hN_lt k hk))).2
  obtain ⟨a0, s0⟩ := s.cm hB (k := 0) (by omega) (by decide)
  obtain ⟨a14, s14⟩ := s.cm hB (k := 14) (by omega) (by decide)
  refine ⟨⟨s.1, hW', hS', hr', hf⟩, ⟨by rw [a0, s0.1]; exact t1, by rw [nn 1 (by decide)]; omega, by rw [nn 1 (by decide)]; exact t3, by rw [nn 1 (by decide)]; exact t4, fun j => by rw [(cm 1 (by decide)).1, (cm 1 (by decide)).2.1]; exact t5 j⟩, ⟨by rw [nn 2 (by decide)]; exact m1, mc, by rw [a0, s0.1]; exact m2, m3, fun i hi => ?_⟩, ⟨by rw [nn 4 (by decide)]; exact r1, by rw [nn 6 (by decide)]; exact r2, fun k hk => ?_⟩, ⟨na, ?_, a2⟩, ?_, ?_, by rw [nn 31 (by decide)]; exact n3, by rw [nn 31 (by decide)]; exact n4⟩
  · obtain ⟨md, d, j1, j2⟩ := m4 i hi
    exact ⟨md, d, by rw [(cm 2 (by decide)).1, (cm 2 (by decide)).2.2.2]; exact j1, j2.fr (fun a h1 h2 => s.2.2.2.2.1 a h1 (by omega) (by omega) (fun k hk => hB.n1 (goC_lt k hk) h2)) e (fun a h1 h2 => by rw [s.2.2.1 a h1]; exact h2)⟩
  · have : k + 7 ∈ hN := by
      have : ∀ k, k < 7 → k + 7 ∈ hN := by decide
      exact this k hk
    rw [nn _ this]
    exact r3 k hk
  · rw [(cm 16 (by decide)).1, (cm 17 (by decide)).1]
    exact a1.fr (cm 16 (by decide)).2 e
  · rw [(cm 29 (by decide)).1, (cm 29 (by decide)).2.1]
    exact n1
  · rw [a14, s14.1]
    exact n2
theorem ho_run {x1 : Int32} {Qr : Int32 → xb_H → Nat → Nat → Prop} {Qt : String → xb_H → Nat → Nat → Prop} {J : Nat → (Nat → Nat) → (Nat → Nat) → xb_H → Nat → Oc → Prop} (hI : cI own ad h W σ ts (K + 1)) (hg : cG ad h W ts (K + 1) rc rs bc bs) (hX : ∀ i, i < wic W → moB (wd W i)) (hF : ∀ i, i < wic W → fwd (wd W i))
    (hgo : ∀ k0 : Nat, x1.toInt = k0 → k0 ≤ 1000000 → xb_i h (ad 15) 3 ≠ 0 → jGo own ad h W σ (rc + xC ad h W ts (K + 1)) (rs + xS ad h W ts (K + 1)) k0 J) (hfr : jFr own ad (xb_I h (ad 15) 7 0) W σ (rc + xC ad h W ts (K + 1)) (rs + xS ad h W ts (K + 1)) J) (hst : jSt own ad (xb_I h (ad 15) 7 0) W σ (rc + xC ad h W ts (K + 1)) (rs + xS ad h W ts (K + 1)) J)
    (hQ : ∀ (r : Int32) (h' : xb_H) (own' ad' : Nat → Nat) (bc' bs' np k : Nat) (o : Oc), stg own ad own' ad' h h' → oR ad (xb_I h (ad 15) 7 0) ad' h' W o → J k own' ad' h' np o → goA r k W o → cI own' ad' h' (wgr W np) σ ts K → cG ad' h' (wgr W np) ts K rc rs bc' bs' → Qr r h' bc' bs') (hQt1 : byd 1000001 x1 → Qt "java/lang/IllegalArgumentException" h (bc - 1) (bs - 6)) (hQt2 : ¬ byd 1000001 x1 → xb_i h (ad 15) 3 = 0 → Qt "java/lang/IllegalStateException" h (bc - 1) (bs - 6)) : w_H_run (ad 0) x1 h bc bs Qr Qt := by
  obtain ⟨hB, hW, hS, hr, hf⟩ := hI.1
  unfold w_H_run w_H_run_L11
  refine ⟨fun e => ho_ex hg (hQt1 (.inl (z_lt.mp e))), fun e0 => ⟨fun e1 => ⟨hB.k 0 (by omega), ad 15, hB.r (0, 7, 15) (by decide), hB.k 15 (by omega), fun e => ⟨ad 15, hB.r (0, 7, 15) (by decide), hB.k 15 (by omega), ?_⟩, fun e => ho_ex hg (hQt2 ?_ e)⟩, fun e1 => ho_ex hg (hQt1 (.inr ?_))⟩⟩
  · rw [z_lt, show (0 : Int32).toInt = 0 from rfl] at e0
    rw [z_le, show (1000000 : Int32).toInt = 1000000 from rfl] at e1
    obtain ⟨k0, hk0⟩ : ∃ k : Nat, x1.toInt = k := ⟨_, (Int.toNat_of_nonneg (by omega)).symm⟩
    refine mc_go (J := J) hB hW hS hf hg hr (fun h9 => e (z_eq.mpr h9)) hX hF hk0 (hgo k0 hk0 (by omega) e) hfr hst (fun r h' own' ad' bc' bs' np k o q qo qj qa _ => ?_)
    obtain ⟨s, w, m, f, g⟩ := q
    have rr : rS ad' h' (wgr W np) := by
      have a15 : ad' 15 = ad 15 := s.2.2.2.2.2.2 15 (by decide)
      match o, qo with
      | .inl (D, gx, v), qo => exact .inr (.inr ⟨D, gx, qo.1⟩)
      | .inr (.inl y), qo => exact .inl (by rw [a15]; exact qo.1)
      | .inr (.inr z), qo => exact .inl (by rw [a15]; exact qo.1)
    have a0 := (s.cm hB (k := 0) (by omega) (by decide)).1
    refine hQ r h' own' ad' bc' bs' np k o s qo qj qa (hI.dn.sg s w m rr f) (hg.st g ?_ ?_ (Nat.le_refl _) (Nat.le_refl _))
    · rw [(s.cm hB (k := 1) (by omega) (by decide)).1]
      exact (s.2.2.2.1 _ (hB.z 1 (by omega))).2
    · rw [(s.cm hB (k := 31) (by omega) (by decide)).1]
      exact (s.2.2.2.1 _ (hB.z 31 (by omega))).2
  · rw [z_lt, show (0 : Int32).toInt = 0 from rfl] at e0
    rw [z_le, show (1000000 : Int32).toInt = 1000000 from rfl] at e1
    unfold byd
    omega
  · rw [z_le, show (1000000 : Int32).toInt = 1000000 from rfl] at e1
    omega
theorem ho_push {x1 : Int64} {Qr : Int32 → xb_H → Nat → Nat → Prop} {Qt : String → xb_H → Nat → Nat → Prop} (hI : cI own ad h W σ ts (K + 1)) (hg : cG ad h W ts (K + 1) rc rs bc bs) {na : Nat} (hna : (xb_i h (ad 16) 1).toInt = na) (hQ : na < 1000 → ∀ (r : Int32) (h' : xb_H) (own' : Nat → Nat) (q bc' bs' : Nat), r.toInt = (na + 1 : Nat) → stp [16, 17] [] own ad own' (va_up ad 17 q) h h' → (xb_i h' (ad 16) 1).toInt = (na + 1 : Nat) → (∀ j, j < na → xb_l h' q j = xb_l h (ad 17) j) → xb_l h' q na = x1 → cI own' (va_up ad 17 q) h' W σ ts K → cG (va_up ad 17 q) h' W ts K rc rs bc' bs' → Qr r h' bc' bs') (hQt : 1000 ≤ na → Qt "java/lang/IllegalStateException" h (bc - 1) (bs - 6)) : w_H_push (ad 0) x1 h bc bs Qr Qt := by
  obtain ⟨⟨hB, hW, hS, hr, hf⟩, ⟨t1, t2, t3, t4, t5⟩, ⟨m1, mc, m2, m3, m4⟩, ⟨r1, r2, r3⟩, ⟨na', a1, a2⟩, n1, n2, n3, n4⟩ := id hI
  have ena : na' = na := by have := a1.2.2.1; omega
  subst ena
  unfold w_H_push
  refine ⟨hB.k 0 (by omega), ad 16, hB.r (0, 8, 16) (by decide), hB.k 16 (by omega), fun e => ⟨ad 16, hB.r (0, 8, 16) (by decide), hB.k 16 (by omega), ?_⟩, fun e => ho_ex hg (hQt ?_)⟩
  rotate_left
  · rw [z_lt, a1.2.2.1, show (1000 : Int32).toInt = 1000 from rfl] at e
    omega
  rw [z_lt, a1.2.2.1, show (1000 : Int32).toInt = 1000 from rfl] at e
  refine wr_add (r := 16) (by decide) hB a1 (by show na' < 1000; omega) hg (fun h' q bc' bs' w1 w2 w3 w4 w5 w6 w7 w8 _ => ?_)
  have s := stp.row (r := 16) (by decide) w1 w5 w6 w7
  generalize rown own h q (16 + 3) = own' at s w1
  have hQ' := fun r => hQ (by omega) r h' own' q bc' bs'
  generalize had : va_up ad (16 + 1) q = ad' at s w1 w8
  rw [show va_up ad 17 q = ad' from had] at hQ'
  have A : ∀ k, k ≠ 17 → ad' k = ad k := fun k hk => by rw [← had, xh_up, if_neg hk]
  have cm : ∀ k, k < 41 → k ≠ 16 → k ≠ 17 → xh_sm h h' (ad k) := fun k hk h1 h2 => (s.cm hB (by decide) (fun x hx => by cases hx) hk (by simp; omega)).2
  have nn : ∀ k, k < 41 → k ≠ 17 → xb_n h' (ad' k) = xb_n h (ad k) := fun k hk h1 => by rw [A k h1]; exact (w7 _ (hB.z k hk)).2
  have hW' := hW.st hB s (by decide)
  have r8 := s.1.r (0, 8, 16) (by decide)
  have a0 := A 0 (by omega)
  have a16 := A 16 (by omega)
  rw [show ((0, 8, 16) : Nat × Nat × Nat).1 = 0 from rfl, a0] at r8
  refine ⟨ad' 16, r8, s.1.k 16 (by omega), hQ' _ (by rw [a16]; exact w2.2.2.1) s w2.2.2.1 w3 w4 ⟨⟨s.1, hW', hS.st' hB s (by decide), hr.st hB s (by decide), hf.st hB s (by decide) (fun x hx => by cases hx) (by decide) (by decide)⟩, ⟨?_, ?_, ?_, ?_, fun j => ?_⟩, ⟨?_, mc, ?_, m3, fun i hi => ?_⟩, ⟨?_, ?_, fun k hk => ?_⟩, ⟨na' + 1, ?_, by omega⟩, ?_, ?_, ?_, ?_⟩ ?_⟩
  · rw [a0, (cm 0 (by omega) (by omega) (by omega)).1]; exact t1
  · rw [nn 1 (by omega) (by omega)]; exact t2
  · rw [nn 1 (by omega) (by omega)]; exact t3
  · rw [nn 1 (by omega) (by omega)]; exact t4
  · rw [A 1 (by omega), (cm 1 (by omega) (by omega) (by omega)).1]; exact t5 j
  · rw [nn 2 (by omega) (by omega)]; exact m1
  · rw [a0, (cm 0 (by omega) (by omega) (by omega)).1]; exact m2
  · obtain ⟨md, d, j1, j2⟩ := m4 i hi
    exact ⟨md, d, by rw [A 2 (by omega), (cm 2 (by omega) (by omega) (by omega)).2.2]; exact j1, j2.fr (fun a h1 h2 => s.n1 hB (by decide) h1 (by simp) h2 (by omega)) w7 (fun a h1 h2 => by rw [s.2.2.1 a h1]; exact h2)⟩
  · rw [nn 4 (by omega) (by omega)]; exact r1
  · rw [nn 6 (by omega) (by omega)]; exact r2
  · rw [nn (k + 7) (by omega) (by omega)]; exact r3 k hk
  · rw [a16, ← had, xh_up, if_pos rfl]
    exact w2
  · rw [A 29 (by omega), (cm 29 (by omega) (by omega) (by omega)).1]; omega
  · rw [A 14 (by omega), (cm 14 (by omega) (by omega) (by omega)).1]; omega
  · rw [nn 31 (by omega) (by omega)]; exact n3
  · rw [nn 31 (by omega) (by omega)]; exact n4
  · refine hg.st (s.vbg hB (by decide) ?_) (nn 1 (by omega) (by omega)) (nn 31 (by omega) (by omega)) (Nat.le_refl _) (Nat.le_refl _)
    exact w8
theorem ho_exb {md x0 : Nat} {d : mD} {x2 : Int32} {Qr : xb_H → Nat → Nat → Prop} {Qt : String → xb_H → Nat → Nat → Prop} (hm : mo own h md d) (hQ : ∀ i : Nat, x2.toInt = i → i < dn d 6 / 5 → Qr h bc bs) (hT : byd (dn d 6 / 5) x2 → 1 ≤ bc ∧ 6 ≤ bs ∧ Qt "java/lang/IndexOutOfBoundsException" h (bc - 1) (bs - 6)) : w_H_refuseExportBeyond x0 md x2 h bc bs Qr Qt := by
  unfold w_H_refuseExportBeyond w_H_refuseExportBeyond_L15
  refine ⟨fun e => hT (.inl (z_lt.mp e)), fun e => ⟨hm.1.k, _, hm.1.row (k := 6) (by omega), hm.1.krow (by omega), md_lines hm.1 (k := 6) (c := 5) (by omega) rfl (by omega) (fun r6 e6 _ => ⟨fun e2 => ?_, fun e2 => hT (.inr ?_)⟩)⟩⟩
  · rw [z_lt, show (0 : Int32).toInt = 0 from rfl] at e
    rw [z_lt, e6] at e2
    obtain ⟨i, hi⟩ : ∃ i : Nat, x2.toInt = i := ⟨_, (Int.toNat_of_nonneg (by omega)).symm⟩
    exact hQ i hi (by omega)
  · rw [z_lt, e6] at e2
    omega
/-- what is exported under a number -/
theorem mo.xp {md i : Nat} {d : mD} (hm : mo own h md d) (hi : i < dn d 6 / 5) : 5 * i + 5 ≤ dn d 6 ∧ (0 ≤ (dvs d 6 (5 * i + 1)).toInt ∧ (dvs d 6 (5 * i + 1)).toInt ≤ 3) ∧ (0 ≤ (dvs d 6 (5 * i + 2)).toInt ∧ (dvs d 6 (5 * i + 2)).toInt < 4294967296) ∧ ((dvs d 6 (5 * i + 1)).toInt = 0 → (dvs d 6 (5 * i + 2)).toInt < (nf d : Nat)) := by
  obtain ⟨h1, h2⟩ := hm.2.1.2.2.2.2.2.2.1
  obtain ⟨⟨p1, p2, p3, p4, p5, p6, p7, p8, p9⟩, p10⟩ := h1.at (by omega) hi
  dsimp only at p3 p4 p5 p6
  exact ⟨p10, ⟨p3, p4⟩, ⟨p5, p6⟩, (h2 i hi).1⟩
/-- what is told of an export: its kind, its number, how many parameters, whether a result -/
def exV (d : mD) (j k : Nat) (r : Int32) : Prop :=
  (k = 0 → r.toInt = (dvs d 6 (5 * j + 1)).toInt) ∧ (k = 1 → r = Int64.toInt32 (dvs d 6 (5 * j + 2))) ∧
  (k = 2 → r.toInt = if (dvs d 6 (5 * j + 1)).toInt = 0 then (dvs d 0 (5 * (dvs d 2 (2 * (dvs d 6 (5 * j + 2)).toInt.toNat + 1)).toInt.toNat + 2)).toInt else 0) ∧
  (k = 3 → r.toInt = if (dvs d 6 (5 * j + 1)).toInt = 0 ∧ (dvs d 0 (5 * (dvs d 2 (2 * (dvs d 6 (5 * j + 2)).toInt.toNat + 1)).toInt.toNat + 4)).toInt ≠ 64 then 1 else 0)
theorem ho_exported {x1 x2 x3 : Int32} {Qr : Int32 → xb_H → Nat → Nat → Prop} {Qt : String → xb_H → Nat → Nat → Prop} (hI : cI own ad h W σ ts (K + 1)) (hg : cG ad h W ts (K + 1) rc rs bc bs) (hQ : ∀ (i j k : Nat) (r : Int32), x1.toInt = i → i < wic W → x2.toInt = j → j < dn (wd W i) 6 / 5 → x3.toInt = k → k < 4 → exV (wd W i) j k r → Qr r h bc bs) (hQt : (byd (wic W) x1 ∨ (∃ i : Nat, x1.toInt = i ∧ i < wic W ∧ byd (dn (wd W i) 6 / 5) x2) ∨ byd 4 x3) → Qt "java/lang/IndexOutOfBoundsException" h (bc - 1) (bs - 6)) : w_H_exported (ad 0) x1 x2 x3 h bc bs Qr Qt := by
  have hB := hI.1.1
  have hW := hI.1.2.1
  unfold w_H_exported
  refine ⟨hB.k 0 (by omega), ho_inst hB hW (fun i hi hi2 _ => ?_) (fun e => ho_ex hg (hQt (.inl e)))⟩
  obtain ⟨-, hiO⟩ := hW.2.2.2.2.2.2.1.2.2.2 i hi2
  obtain ⟨a1, a2, a3, a4, hm⟩ := hiO.1
  refine ⟨a1, _, a4, ho_exb hm (fun j hj hj2 _ => ?_) (fun e => ho_ex hg (hQt (.inr (.inl ⟨i, hi, hi2, e⟩))))⟩
  obtain ⟨p1, p2, p3, p4⟩ := hm.xp hj2
  refine ⟨hm.1.k, _, hm.1.row (k := 6) (by omega), hm.1.krow (by omega), md_at (c := 5) hm.1 (i := j) (j := 1) (by omega) rfl hj rfl (by omega) p1 (fun r12 e12 _ => ⟨_, hm.1.row (k := 6) (by omega), hm.1.krow (by omega), md_at (c := 5) hm.1 (i := j) (j := 2) (by omega) rfl hj rfl (by omega) p1 (fun r16 e16 _ => ?_)⟩)⟩
  unfold w_H_exported_L99 w_H_exported_L124 w_H_exported_L125
  have z12 : r12 = 0 ↔ (dvs (wd W i) 6 (5 * j + 1)).toInt = 0 := by
    rw [z_eq, e12, show (0 : Int32).toInt = 0 from rfl]
    omega
  have ty : r12 = 0 → r16.toInt = (dvs (wd W i) 6 (5 * j + 2)).toInt.toNat ∧ (dvs (wd W i) 6 (5 * j + 2)).toInt.toNat < nf (wd W i) := fun e => by
    rw [z_eq, e12, show (0 : Int32).toInt = 0 from rfl] at e
    have h9 := p4 (by omega)
    have := hm.nn.2.2.1
    exact ⟨by omega, by omega⟩
  have Q : ∀ (y : Int32) (k : Nat) (r : Int32), y.toInt = k → k < 4 → x3 = y → exV (wd W i) j k r → Qr r h bc bs := fun y k r hy hk e hv => hQ i j k r hi hi2 hj hj2 (by rw [e, hy]) hk hv
  refine ⟨fun e => Q 0 0 _ rfl (by omega) e ⟨fun _ => by omega, fun h9 => by omega, fun h9 => by omega, fun h9 => by omega⟩, fun e => Q 1 1 _ rfl (by omega) e ⟨fun h9 => by omega, fun _ => z_eq.mpr (by rw [z_of64]; exact e16), fun h9 => by omega, fun h9 => by omega⟩, fun e3 => ⟨fun e => Q 2 2 _ rfl (by omega) e3 ⟨fun h9 => by omega, fun h9 => by omega, fun _ => by rw [if_neg (fun h9 => e (z12.mpr h9))]; rfl, fun h9 => by omega⟩, fun e => ?_⟩, fun e3 => ⟨fun e => Q 3 3 _ rfl (by omega) e3 ⟨fun h9 => by omega, fun h9 => by omega, fun h9 => by omega, fun _ => by rw [if_neg (fun h9 => e (z12.mpr h9.1))]; rfl⟩, fun e => ?_⟩, fun z0 z1 z2 z3 => ho_ex hg (hQt (.inr (.inr ?_)))⟩
  · obtain ⟨y1, y2⟩ := ty e
    exact mo_typeOf hm y1 y2 (fun r22 e22 _ => md_parameters hm.1 hm.2.1.1.1 e22 (hm.fn y2).2.2.1 (fun r24 e24 _ _ _ => Q 2 2 _ rfl (by omega) e3 ⟨fun h9 => by omega, fun h9 => by omega, fun _ => by rw [if_pos (z12.mp e)]; exact e24, fun h9 => by omega⟩))
  · obtain ⟨y1, y2⟩ := ty e
    refine mo_typeOf hm y1 y2 (fun r28 e28 _ => md_hasResult hm.1 hm.2.1.1.1 e28 (hm.fn y2).2.2.1 (fun r30 e30 _ => ⟨fun e9 => Q 3 3 _ rfl (by omega) e3 ⟨fun h9 => by omega, fun h9 => by omega, fun h9 => by omega, fun _ => ?_⟩, fun e9 => Q 3 3 _ rfl (by omega) e3 ⟨fun h9 => by omega, fun h9 => by omega, fun h9 => by omega, fun _ => ?_⟩⟩))
    · rw [if_neg]
      · rfl
      · intro h9
        rcases e30 with ⟨-, h8⟩ | ⟨h8, -⟩
        · exact h9.2 h8
        · rw [e9] at h8
          exact absurd h8 (by decide)
    · rw [if_pos]
      · rfl
      · rcases e30 with ⟨h8, -⟩ | ⟨-, h8⟩
        · exact absurd h8 e9
        · exact ⟨z12.mp e, h8⟩
  · rw [z_eq] at z0 z1 z2 z3
    simp only [Int32.reduceToInt] at z0 z1 z2 z3
    unfold byd
    omega
/-- what is told of an element -/
def elV (W : wD) (x : Int64) (r : Int32) : Prop :=
  (x.toInt = -1 ∧ r = -1) ∨ (∃ f : Nat, x.toInt = f ∧ f < wno W ∧ r.toInt = (65536 * wfo W f + (f - wff W (wfo W f) + ni (wd W (wfo W f)) 0) : Nat)) ∨ ∃ f : Nat, x.toInt = f ∧ 8192 ≤ f ∧ r.toInt = (2147418112 + (f - 8192) : Nat)
theorem ho_element {x1 x2 : Int32} {Qr : Int32 → xb_H → Nat → Nat → Prop} {Qt : String → xb_H → Nat → Nat → Prop} (hI : cI own ad h W σ ts (K + 1)) (hg : cG ad h W ts (K + 1) rc rs bc bs) (hQ : ∀ (i ta j fr : Nat) (r : Int32), x1.toInt = i → i < wic W → xb_r h (wia W i) 6 = some ta → (xb_i h ta 0).toInt = fr → x2.toInt = j → (j : Int) < (xb_i h ta 1).toInt → elV W (xb_l h (ad 24) (fr + j)) r → Qr r h bc bs) (hQt : (byd (wic W) x1 ∨ ∃ i : Nat, x1.toInt = i ∧ i < wic W ∧ (xb_r h (wia W i) 6 = none ∨ ∃ ta : Nat, xb_r h (wia W i) 6 = some ta ∧ byd (xb_i h ta 1).toInt.toNat x2)) → Qt "java/lang/IndexOutOfBoundsException" h (bc - 1) (bs - 6)) : w_H_element (ad 0) x1 x2 h bc bs Qr Qt := by
  have hB := hI.1.1
  have hW := hI.1.2.1
  unfold w_H_element w_H_element_L25
  refine ⟨hB.k 0 (by omega), ho_inst hB hW (fun i hi hi2 _ => ?_) (fun e => ho_ex hg (hQt (.inl e)))⟩
  obtain ⟨-, hiO⟩ := hW.2.2.2.2.2.2.1.2.2.2 i hi2
  refine ⟨hiO.1.1, fun e => ho_ex hg (hQt (.inr ⟨i, hi, hi2, .inl e⟩)), fun ta e5 => ⟨fun e => ho_ex hg (hQt (.inr ⟨i, hi, hi2, .inr ⟨ta, e5, .inl (z_lt.mp e)⟩⟩)), fun e => ?_⟩⟩
  obtain ⟨k1, k2, fr, sz, k3, k4, k5⟩ := hiO.2.2.2.2.2.1.2 ta e5
  refine ⟨k1, fun e2 => ?_, fun e2 => ho_ex hg (hQt (.inr ⟨i, hi, hi2, .inr ⟨ta, e5, .inr ?_⟩⟩))⟩
  rotate_left
  · rw [z_lt, k4] at e2
    rw [k4]
    omega
  rw [z_lt, show (0 : Int32).toInt = 0 from rfl] at e
  rw [z_lt, k4] at e2
  obtain ⟨v1, v2, v3⟩ := hW.2.2.1
  obtain ⟨y1, y2, y3, y4, y5, y6, y7, y8⟩ := v1
  obtain ⟨j, hj⟩ : ∃ j : Nat, x2.toInt = j := ⟨_, (Int.toNat_of_nonneg (by omega)).symm⟩
  have ej : (xb_i h ta 0 + x2).toInt = (fr + j : Nat) := by
    rw [z_add, k3, hj]
    omega
  have e1 : ((xb_i h ta 0 + x2) * xb_i h (ad 23) 2 + 0).toInt = (fr + j : Nat) := z_row1 ej (by rw [y2]; rfl) (by omega)
  refine ⟨ad 14, hB.r (0, 6, 14) (by decide), hB.k 14 (by omega), ad 23, hB.r (14, 4, 23) (by decide), hB.k 23 (by omega), ?_⟩
  unfold w_Row_at
  refine ⟨y1, ad 24, y4, y5, by rw [z_in, e1]; omega, fun _ => ?_⟩
  rw [z_cl, e1, Int.toNat_natCast]
  have hel := v3 (fr + j) (by omega)
  generalize hel2 : Int64.toInt32 (xb_l h (ad 24) (fr + j)) = r14
  have hno := hW.1.2.1
  have Q : ∀ r : Int32, elV W (xb_l h (ad 24) (fr + j)) r → Qr r h bc bs := fun r hv => hQ i ta j fr r hi hi2 e5 k3 hj (by rw [k4]; omega) hv
  refine ⟨fun e14 => ?_, fun e14 => Q _ (.inl ⟨?_, rfl⟩)⟩
  rotate_left
  · rcases hel with h9 | ⟨f, h9, h8⟩
    · exact h9
    · exfalso
      have h7 : (Int64.toInt32 (xb_l h (ad 24) (fr + j))).toInt = f := z_l2i h9 (by rcases h8 with h8 | h8 <;> omega)
      rw [hel2, e14] at h7
      have : (-1 : Int32).toInt = -1 := rfl
      omega
  have hf : ∃ f : Nat, r14.toInt = f ∧ vf W f ∧ (xb_l h (ad 24) (fr + j)).toInt = f := by
    rcases hel with h9 | ⟨f, h9, h8⟩
    · refine absurd (z_eq.mpr ?_) e14
      rw [← hel2, z_of64, h9]
      rfl
    · refine ⟨f, ?_, h8, h9⟩
      rw [← hel2]
      refine z_l2i h9 ?_
      rcases h8 with h8 | h8 <;> omega
  obtain ⟨f, f1, f2, f3⟩ := hf
  refine ⟨fun e15 => ?_, fun e15 => Q _ (.inr (.inr ⟨f, f3, ?_, ?_⟩))⟩
  rotate_left
  · rw [z_lt, f1, show (8192 : Int32).toInt = 8192 from rfl] at e15
    omega
  · rw [z_lt, f1, show (8192 : Int32).toInt = 8192 from rfl] at e15
    have hb : f < 8192 + 4096 := by rcases f2 with h9 | h9 <;> omega
    have e1 : (r14 - 8192).toInt = (f - 8192 : Nat) := by
      rw [z_sub, f1, show (8192 : Int32).toInt = 8192 from rfl]
      omega
    rw [z_add, e1, show (2147418112 : Int32).toInt = 2147418112 from rfl]
    omega
  rw [z_lt, f1, show (8192 : Int32).toInt = 8192 from rfl] at e15
  have hfo : f < wno W := by
    rcases f2 with h9 | h9
    · exact h9
    · omega
  obtain ⟨p1, p2, p3, p4⟩ := hW.1.2.2 f hfo
  have hi3 := (hW.2.2.2.2.2.2.1.2.2.2 _ p2).2
  refine ⟨ad 14, hB.r (0, 6, 14) (by decide), hB.k 14 (by omega), wI_ownerOf hB hW.1 hW.2.2.2.2.2.2.1 f1 hfo (fun _ => ⟨hi3.1.1, iO_numberOf hi3 hno f1 p3 p4 (fun r er _ => ?_)⟩)⟩
  have y1 := hi3.1.2.2.2.2.nn.2.2.1
  have y2 := hW.2.2.2.2.2.2.1.2.1
  have y3 : (65536 * xb_i h (wia W (wfo W f)) 0).toInt = (65536 * wfo W f : Nat) := by
    rw [z_mul, hi3.1.2.2.1, show (65536 : Int32).toInt = 65536 from rfl]
    omega
  have y4 : (65536 * xb_i h (wia W (wfo W f)) 0 + r).toInt = (65536 * wfo W f + (f - wff W (wfo W f) + ni (wd W (wfo W f)) 0) : Nat) := by
    rw [z_add, y3, er]
    omega
  exact Q _ (.inr (.inl ⟨f, f3, hfo, y4⟩))
end HO3
