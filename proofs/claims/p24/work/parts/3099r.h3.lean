-- the class from outside: calls that use its rows
section HO3
variable {own own' own2 ad ad' : Nat → Nat} {h h' h2 : xb_H} {W W' : wD} {σ ts ts' K rc rs bc bs bc' bs' : Nat}
theorem cI.sg (hI : cI own ad h W σ ts K) (s : stg own ad own' ad' h h') (hW' : wI own' ad' h' W' σ) (hS' : mS ad' h') (hr' : rS ad' h' W') (hf : fI ad' h') : cI own' ad' h' W' σ ts K := by
  obtain ⟨⟨hB, hW, hS, hr, -⟩, ⟨t1, t2, t3, t4, t5⟩, ⟨m1, mc, m2, m3, m4⟩, ⟨r1, r2, r3⟩, ⟨na, a1, a2⟩, n1, n2, n3, n4⟩ := hI
  have hx : ∀ k ∈ hN, k ∉ goC := by decide
  have cm : ∀ k, k ∈ hN → ad' k = ad k ∧ xh_sm h h' (ad k) := fun k hk => s.cm hB (hN_lt k hk) (hx k hk)
  have e := s.2.2.2.1
  have nn : ∀ k, k ∈ hN → xb_n h' (ad' k) = xb_n h (ad k) := fun k hk => by
    rw [(cm k hk).1]
    exact (e _ (hB.z k (hN_lt k hk))).2
  obtain ⟨a0, s0⟩ := s.cm hB (k := 0) (by omega) (by decide)
  obtain ⟨a14, s14⟩ := s.cm hB (k := 14) (by omega) (by decide)
  refine ⟨⟨s.1, hW', hS', hr', hf⟩, ⟨by rw [a0, s0.1]; exact t1, by rw [nn 1 (by decide)]; omega, by rw [nn 1 (by decide)]; exact t3, by rw [nn 1 (by decide)]; exact t4, fun j => by rw [(cm 1 (by decide)).1, (cm 1 (by decide)).2.1]; exact t5 j⟩, ⟨by rw [nn 2 (by decide)]; exact m1, mc, by rw [a0, s0.1]; exact m2, m3, fun i hi => ?_⟩, ⟨by rw [nn 4 (by decide)]; exact r1, by rw [nn 6 (by decide)]; exact r2, fun k hk => ?_⟩, ⟨na, ?_, a2⟩, ?_, ?_, by rw [nn 31 (by decide)]; exact n3, by rw [nn 31 (by decide)]; exact n4⟩
  · obtain ⟨md, d, j1, j2⟩ := m4 i hi
    exact ⟨md, d, by rw [(cm 2 (by decide)).1, (cm 2 (by decide)).2.2.2]; exact j1, j2.fr (fun a h1 h2 => s.2.2.2.2.1 a h1 (by omega) (by omega) (fun k hk => hB.n1 (goC_lt k hk) h2)) e (fun a h1 h2 => by rw [s.2.2.1 a h1]; exact h2)⟩
  · have : k + 7 ∈ hN := by
      have : ∀ k, k < 7 → k + 7 ∈ hN := by decide
      exact this k hk
    rw [nn _ this]
    exact r3 k hk
  · rw [(cm 16 (by decide)).1, (cm 17 (by decide)).1]
    exact a1.fr (cm 16 (by decide)).2 e
  · rw [(cm 29 (by decide)).1, (cm 29 (by decide)).2.1]
    exact n1
  · rw [a14, s14.1]
    exact n2
theorem ho_run {x1 : Int32} {Qr : Int32 → xb_H → Nat → Nat → Prop} {Qt : String → xb_H → Nat → Nat → Prop} (hI : cI own ad h W σ ts (K + 1)) (hg : cG ad h W ts (K + 1) rc rs bc bs) (hQ : ∀ (r : Int32) (h' : xb_H) (bc' bs' : Nat), cQ own h σ (ad 0) K rc rs h' bc' bs' → Qr r h' bc' bs') (hQt : ∀ X : String, X = "java/lang/IllegalArgumentException" ∨ X = "java/lang/IllegalStateException" → ∀ (h' : xb_H) (bc' bs' : Nat), cQ own h σ (ad 0) K rc rs h' bc' bs' → Qt X h' bc' bs') : w_H_run (ad 0) x1 h bc bs Qr Qt := by
  obtain ⟨hB, hW, hS, hr, hf⟩ := hI.1
  unfold w_H_run w_H_run_L11
  refine ⟨fun _ => ho_ex hI hg (hQt _ (.inl rfl)), fun _ => ⟨fun _ => ⟨hB.k 0 (by omega), ad 15, hB.r (0, 7, 15) (by decide), hB.k 15 (by omega), fun e => ⟨ad 15, hB.r (0, 7, 15) (by decide), hB.k 15 (by omega), ?_⟩, fun _ => ho_ex hI hg (hQt _ (.inr rfl))⟩, fun _ => ho_ex hI hg (hQt _ (.inl rfl))⟩⟩
  refine mc_go hB hW hS hf hg hr (fun h9 => e (z_eq.mpr h9)) (fun r h' own' ad' bc' bs' q _ => hQ _ _ _ _ ?_)
  obtain ⟨s, ⟨np, w⟩, m, r', f, g⟩ := q
  have rr : rS ad' h' (wgr W np) := by
    rcases r' with h9 | ⟨D, gx, h9⟩
    · exact .inl h9
    · exact .inr (.inr ⟨D, gx, h9⟩)
  have hx : ∀ k ∈ hN, k ∉ goC := by decide
  have a0 := (s.cm hB (k := 0) (by omega) (by decide)).1
  refine ⟨own', s.hR hB, ad', wgr W np, ts, a0, hI.dn.sg s w m rr f, hg.st g ?_ ?_ (Nat.le_refl _) (Nat.le_refl _)⟩
  · rw [(s.cm hB (k := 1) (by omega) (by decide)).1]
    exact (s.2.2.2.1 _ (hB.z 1 (by omega))).2
  · rw [(s.cm hB (k := 31) (by omega) (by decide)).1]
    exact (s.2.2.2.1 _ (hB.z 31 (by omega))).2
theorem ho_push {x1 : Int64} {Qr : Int32 → xb_H → Nat → Nat → Prop} {Qt : String → xb_H → Nat → Nat → Prop} (hI : cI own ad h W σ ts (K + 1)) (hg : cG ad h W ts (K + 1) rc rs bc bs) (hQ : ∀ (r : Int32) (h' : xb_H) (bc' bs' : Nat), cQ own h σ (ad 0) K rc rs h' bc' bs' → Qr r h' bc' bs') (hQt : ∀ (h' : xb_H) (bc' bs' : Nat), cQ own h σ (ad 0) K rc rs h' bc' bs' → Qt "java/lang/IllegalStateException" h' bc' bs') : w_H_push (ad 0) x1 h bc bs Qr Qt := by
  obtain ⟨⟨hB, hW, hS, hr, hf⟩, ⟨t1, t2, t3, t4, t5⟩, ⟨m1, mc, m2, m3, m4⟩, ⟨r1, r2, r3⟩, ⟨na, a1, a2⟩, n1, n2, n3, n4⟩ := id hI
  unfold w_H_push
  refine ⟨hB.k 0 (by omega), ad 16, hB.r (0, 8, 16) (by decide), hB.k 16 (by omega), fun e => ⟨ad 16, hB.r (0, 8, 16) (by decide), hB.k 16 (by omega), ?_⟩, fun _ => ho_ex hI hg hQt⟩
  rw [z_lt, a1.2.2.1, show (1000 : Int32).toInt = 1000 from rfl] at e
  refine wr_add (r := 16) (by decide) hB a1 (by show na < 1000; omega) hg (fun h' q bc' bs' w1 w2 w3 w4 w5 w6 w7 w8 _ => ?_)
  have s := stp.row (r := 16) (by decide) w1 w5 w6 w7
  generalize rown own h q (16 + 3) = own' at s w1
  generalize had : va_up ad (16 + 1) q = ad' at s w1 w8
  have A : ∀ k, k ≠ 17 → ad' k = ad k := fun k hk => by rw [← had, xh_up, if_neg hk]
  have cm : ∀ k, k < 41 → k ≠ 16 → k ≠ 17 → xh_sm h h' (ad k) := fun k hk h1 h2 => (s.cm hB (by decide) (fun x hx => by cases hx) hk (by simp; omega)).2
  have nn : ∀ k, k < 41 → k ≠ 17 → xb_n h' (ad' k) = xb_n h (ad k) := fun k hk h1 => by rw [A k h1]; exact (w7 _ (hB.z k hk)).2
  have hW' := hW.st hB s (by decide)
  have r8 := s.1.r (0, 8, 16) (by decide)
  have a0 := A 0 (by omega)
  have a16 := A 16 (by omega)
  rw [show ((0, 8, 16) : Nat × Nat × Nat).1 = 0 from rfl, a0] at r8
  refine ⟨ad' 16, r8, s.1.k 16 (by omega), hQ _ _ _ _ ⟨own', s.hR hB (by decide), ad', W, ts, a0, ⟨⟨s.1, hW', hS.st' hB s (by decide), hr.st hB s (by decide), hf.st hB s (by decide) (fun x hx => by cases hx) (by decide) (by decide)⟩, ⟨?_, ?_, ?_, ?_, fun j => ?_⟩, ⟨?_, mc, ?_, m3, fun i hi => ?_⟩, ⟨?_, ?_, fun k hk => ?_⟩, ⟨na + 1, ?_, by omega⟩, ?_, ?_, ?_, ?_⟩, ?_⟩⟩
  · rw [a0, (cm 0 (by omega) (by omega) (by omega)).1]; exact t1
  · rw [nn 1 (by omega) (by omega)]; exact t2
  · rw [nn 1 (by omega) (by omega)]; exact t3
  · rw [nn 1 (by omega) (by omega)]; exact t4
  · rw [A 1 (by omega), (cm 1 (by omega) (by omega) (by omega)).1]; exact t5 j
  · rw [nn 2 (by omega) (by omega)]; exact m1
  · rw [a0, (cm 0 (by omega) (by omega) (by omega)).1]; exact m2
  · obtain ⟨md, d, j1, j2⟩ := m4 i hi
    exact ⟨md, d, by rw [A 2 (by omega), (cm 2 (by omega) (by omega) (by omega)).2.2]; exact j1, j2.fr (fun a h1 h2 => s.n1 hB (by decide) h1 (by simp) h2 (by omega)) w7 (fun a h1 h2 => by rw [s.2.2.1 a h1]; exact h2)⟩
  · rw [nn 4 (by omega) (by omega)]; exact r1
  · rw [nn 6 (by omega) (by omega)]; exact r2
  · rw [nn (k + 7) (by omega) (by omega)]; exact r3 k hk
  · rw [a16, ← had, xh_up, if_pos rfl]
    exact w2
  · rw [A 29 (by omega), (cm 29 (by omega) (by omega) (by omega)).1]; omega
  · rw [A 14 (by omega), (cm 14 (by omega) (by omega) (by omega)).1]; omega
  · rw [nn 31 (by omega) (by omega)]; exact n3
  · rw [nn 31 (by omega) (by omega)]; exact n4
  · refine hg.st (s.vbg hB (by decide) ?_) (nn 1 (by omega) (by omega)) (nn 31 (by omega) (by omega)) (Nat.le_refl _) (Nat.le_refl _)
    exact w8
theorem ho_exb {md x0 : Nat} {d : mD} {x2 : Int32} {Qr : xb_H → Nat → Nat → Prop} {Qt : String → xb_H → Nat → Nat → Prop} (hm : mo own h md d) (hQ : ∀ i : Nat, x2.toInt = i → i < dn d 6 / 5 → Qr h bc bs) (hT : 1 ≤ bc ∧ 6 ≤ bs ∧ Qt "java/lang/IndexOutOfBoundsException" h (bc - 1) (bs - 6)) : w_H_refuseExportBeyond x0 md x2 h bc bs Qr Qt := by
  unfold w_H_refuseExportBeyond w_H_refuseExportBeyond_L15
  refine ⟨fun _ => hT, fun e => ⟨hm.1.k, _, hm.1.row (k := 6) (by omega), hm.1.krow (by omega), md_lines hm.1 (k := 6) (c := 5) (by omega) rfl (by omega) (fun r6 e6 _ => ⟨fun e2 => ?_, fun _ => hT⟩)⟩⟩
  rw [z_lt, show (0 : Int32).toInt = 0 from rfl] at e
  rw [z_lt, e6] at e2
  obtain ⟨i, hi⟩ : ∃ i : Nat, x2.toInt = i := ⟨_, (Int.toNat_of_nonneg (by omega)).symm⟩
  exact hQ i hi (by omega)
/-- what is exported under a number -/
theorem mo.xp {md i : Nat} {d : mD} (hm : mo own h md d) (hi : i < dn d 6 / 5) : 5 * i + 5 ≤ dn d 6 ∧ (0 ≤ (dvs d 6 (5 * i + 1)).toInt ∧ (dvs d 6 (5 * i + 1)).toInt ≤ 3) ∧ (0 ≤ (dvs d 6 (5 * i + 2)).toInt ∧ (dvs d 6 (5 * i + 2)).toInt < 4294967296) ∧ ((dvs d 6 (5 * i + 1)).toInt = 0 → (dvs d 6 (5 * i + 2)).toInt < (nf d : Nat)) := by
  obtain ⟨h1, h2⟩ := hm.2.1.2.2.2.2.2.2.1
  obtain ⟨⟨p1, p2, p3, p4, p5, p6, p7, p8, p9⟩, p10⟩ := h1.at (by omega) hi
  dsimp only at p3 p4 p5 p6
  exact ⟨p10, ⟨p3, p4⟩, ⟨p5, p6⟩, (h2 i hi).1⟩
theorem ho_exported {x1 x2 x3 : Int32} {Qr : Int32 → xb_H → Nat → Nat → Prop} {Qt : String → xb_H → Nat → Nat → Prop} (hI : cI own ad h W σ ts (K + 1)) (hg : cG ad h W ts (K + 1) rc rs bc bs) (hQ : ∀ (r : Int32) (h' : xb_H) (bc' bs' : Nat), cQ own h σ (ad 0) K rc rs h' bc' bs' → Qr r h' bc' bs') (hQt : ∀ (h' : xb_H) (bc' bs' : Nat), cQ own h σ (ad 0) K rc rs h' bc' bs' → Qt "java/lang/IndexOutOfBoundsException" h' bc' bs') : w_H_exported (ad 0) x1 x2 x3 h bc bs Qr Qt := by
  have q0 : cQ own h σ (ad 0) K rc rs h bc bs := cQ.no (c := 0) (s := 0) hI hg (by omega) (by omega)
  have hB := hI.1.1
  have hW := hI.1.2.1
  unfold w_H_exported
  refine ⟨hB.k 0 (by omega), ho_inst hB hW (fun i hi hi2 _ => ?_) (ho_ex hI hg hQt)⟩
  obtain ⟨-, hiO⟩ := hW.2.2.2.2.2.2.1.2.2.2 i hi2
  obtain ⟨a1, a2, a3, a4, hm⟩ := hiO.1
  refine ⟨a1, _, a4, ho_exb hm (fun j hj hj2 _ => ?_) (ho_ex hI hg hQt)⟩
  obtain ⟨p1, p2, p3, p4⟩ := hm.xp hj2
  refine ⟨hm.1.k, _, hm.1.row (k := 6) (by omega), hm.1.krow (by omega), md_at (c := 5) hm.1 (i := j) (j := 1) (by omega) rfl hj rfl (by omega) p1 (fun r12 e12 _ => ⟨_, hm.1.row (k := 6) (by omega), hm.1.krow (by omega), md_at (c := 5) hm.1 (i := j) (j := 2) (by omega) rfl hj rfl (by omega) p1 (fun r16 e16 _ => ?_)⟩)⟩
  unfold w_H_exported_L99 w_H_exported_L124 w_H_exported_L125
  have ty : r12 = 0 → r16.toInt = (dvs (wd W i) 6 (5 * j + 2)).toInt.toNat ∧ (dvs (wd W i) 6 (5 * j + 2)).toInt.toNat < nf (wd W i) := fun e => by
    rw [z_eq, e12, show (0 : Int32).toInt = 0 from rfl] at e
    have h9 := p4 (by omega)
    have := hm.nn.2.2.1
    exact ⟨by omega, by omega⟩
  refine ⟨fun _ => hQ _ _ _ _ q0, fun _ => hQ _ _ _ _ q0, fun _ => ⟨fun _ => hQ _ _ _ _ q0, fun e => ?_⟩, fun _ => ⟨fun _ => hQ _ _ _ _ q0, fun e => ?_⟩, fun _ _ _ _ => ho_ex hI hg hQt⟩
  · obtain ⟨y1, y2⟩ := ty e
    exact mo_typeOf hm y1 y2 (fun r22 e22 _ => md_parameters hm.1 hm.2.1.1.1 e22 (hm.fn y2).2.2.1 (fun r24 _ _ _ _ => hQ _ _ _ _ q0))
  · obtain ⟨y1, y2⟩ := ty e
    exact mo_typeOf hm y1 y2 (fun r28 e28 _ => md_hasResult hm.1 hm.2.1.1.1 e28 (hm.fn y2).2.2.1 (fun r30 _ _ => ⟨fun _ => hQ _ _ _ _ q0, fun _ => hQ _ _ _ _ q0⟩))
theorem ho_element {x1 x2 : Int32} {Qr : Int32 → xb_H → Nat → Nat → Prop} {Qt : String → xb_H → Nat → Nat → Prop} (hI : cI own ad h W σ ts (K + 1)) (hg : cG ad h W ts (K + 1) rc rs bc bs) (hQ : ∀ (r : Int32) (h' : xb_H) (bc' bs' : Nat), cQ own h σ (ad 0) K rc rs h' bc' bs' → Qr r h' bc' bs') (hQt : ∀ (h' : xb_H) (bc' bs' : Nat), cQ own h σ (ad 0) K rc rs h' bc' bs' → Qt "java/lang/IndexOutOfBoundsException" h' bc' bs') : w_H_element (ad 0) x1 x2 h bc bs Qr Qt := by
  have q0 : cQ own h σ (ad 0) K rc rs h bc bs := cQ.no (c := 0) (s := 0) hI hg (by omega) (by omega)
  have hB := hI.1.1
  have hW := hI.1.2.1
  unfold w_H_element w_H_element_L25
  refine ⟨hB.k 0 (by omega), ho_inst hB hW (fun i hi hi2 _ => ?_) (ho_ex hI hg hQt)⟩
  obtain ⟨-, hiO⟩ := hW.2.2.2.2.2.2.1.2.2.2 i hi2
  refine ⟨hiO.1.1, fun _ => ho_ex hI hg hQt, fun ta e5 => ⟨fun _ => ho_ex hI hg hQt, fun e => ?_⟩⟩
  obtain ⟨k1, k2, fr, sz, k3, k4, k5⟩ := hiO.2.2.2.2.2.1.2 ta e5
  refine ⟨k1, fun e2 => ?_, fun _ => ho_ex hI hg hQt⟩
  rw [z_lt, show (0 : Int32).toInt = 0 from rfl] at e
  rw [z_lt, k4] at e2
  obtain ⟨v1, v2, v3⟩ := hW.2.2.1
  obtain ⟨y1, y2, y3, y4, y5, y6, y7, y8⟩ := v1
  obtain ⟨j, hj⟩ : ∃ j : Nat, x2.toInt = j := ⟨_, (Int.toNat_of_nonneg (by omega)).symm⟩
  have ej : (xb_i h ta 0 + x2).toInt = (fr + j : Nat) := by
    rw [z_add, k3, hj]
    omega
  have e1 : ((xb_i h ta 0 + x2) * xb_i h (ad 23) 2 + 0).toInt = (fr + j : Nat) := z_row1 ej (by rw [y2]; rfl) (by omega)
  refine ⟨ad 14, hB.r (0, 6, 14) (by decide), hB.k 14 (by omega), ad 23, hB.r (14, 4, 23) (by decide), hB.k 23 (by omega), ?_⟩
  unfold w_Row_at
  refine ⟨y1, ad 24, y4, y5, by rw [z_in, e1]; omega, fun _ => ?_⟩
  rw [z_cl, e1, Int.toNat_natCast]
  have hel := v3 (fr + j) (by omega)
  generalize hel2 : Int64.toInt32 (xb_l h (ad 24) (fr + j)) = r14
  have hno := hW.1.2.1
  refine ⟨fun e14 => ⟨fun e15 => ?_, fun _ => hQ _ _ _ _ q0⟩, fun _ => hQ _ _ _ _ q0⟩
  have hf : ∃ f : Nat, r14.toInt = f ∧ vf W f := by
    rcases hel with h9 | ⟨f, h9, h8⟩
    · refine absurd (z_eq.mpr ?_) e14
      rw [← hel2, z_of64, h9]
      rfl
    · refine ⟨f, ?_, h8⟩
      rw [← hel2]
      refine z_l2i h9 ?_
      rcases h8 with h8 | h8 <;> omega
  obtain ⟨f, f1, f2⟩ := hf
  rw [z_lt, f1, show (8192 : Int32).toInt = 8192 from rfl] at e15
  have hfo : f < wno W := by
    rcases f2 with h9 | h9
    · exact h9
    · omega
  obtain ⟨p1, p2, p3, p4⟩ := hW.1.2.2 f hfo
  have hi3 := (hW.2.2.2.2.2.2.1.2.2.2 _ p2).2
  refine ⟨ad 14, hB.r (0, 6, 14) (by decide), hB.k 14 (by omega), wI_ownerOf hB hW.1 hW.2.2.2.2.2.2.1 f1 hfo (fun _ => ⟨hi3.1.1, iO_numberOf hi3 hno f1 p3 p4 (fun r _ _ => hQ _ _ _ _ q0)⟩)⟩
end HO3
