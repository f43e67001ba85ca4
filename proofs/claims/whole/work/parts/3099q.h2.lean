-- the class from outside: calls that change little
/-- components that no call but few touches -/
def hN : List Nat := [1, 2, 4, 6, 7, 8, 9, 10, 11, 12, 13, 16, 17, 29, 31]
theorem hN_lt : ∀ k ∈ hN, k < 41 := by decide
section HO2
variable {own own' own2 ad ad' : Nat → Nat} {h h' h2 : xb_H} {W W' : wD} {σ ts ts' K rc rs bc bs bc' bs' : Nat}
theorem wI.st {C : List Nat} (hW : wI own ad h W σ) (hB : cB own ad h) (s : stp C [] own ad own' ad' h h') (hC : ∀ k ∈ C, k < 41 ∧ k ≠ 14 ∧ (k < 18 ∨ 35 < k)) : wI own' ad' h' W σ :=
  hW.fr hB (fun a ha h9 => s.2.2.2.2.1 a ha (by simp) (fun k hk e => by
    obtain ⟨h1, h2, h3⟩ := hC k hk
    rw [e, hB.o k h1] at h9
    unfold wtg at h9
    omega)) s.2.2.2.1 s.2.2.1 (fun k hk => s.2.1 k (fun h9 => by have := hC k h9; omega))
theorem rS.cg (hr : rS ad h W) (a15 : ad' 15 = ad 15) (a37 : ad' 37 = ad 37) (a38 : ad' 38 = ad 38) (s15 : xh_sm h h' (ad 15)) (s37 : xh_sm h h' (ad 37)) (s38 : xh_sm h h' (ad 38)) (n37 : xb_n h' (ad 37) = xb_n h (ad 37)) : rS ad' h' W := by
  unfold rS rI mT at *
  rw [a15, a37, a38, s15.1, s15.2.2, s37.2.1, s38.1, n37]
  exact hr
theorem rS.st {C : List Nat} (hr : rS ad h W) (hB : cB own ad h) (s : stp C [] own ad own' ad' h h') (hC : ∀ k ∈ C, k < 41 ∧ k ≠ 15 ∧ k ≠ 37 ∧ k ≠ 38) : rS ad' h' W := by
  have c41 : ∀ k ∈ C, k < 41 := fun k hk => (hC k hk).1
  have cm : ∀ k, k < 41 → (k = 15 ∨ k = 37 ∨ k = 38) → ad' k = ad k ∧ xh_sm h h' (ad k) := fun k hk h9 => s.cm hB c41 (fun x hx => by cases hx) hk (fun h8 => by have := hC k h8; omega)
  exact hr.cg (cm 15 (by omega) (by omega)).1 (cm 37 (by omega) (by omega)).1 (cm 38 (by omega) (by omega)).1 (cm 15 (by omega) (by omega)).2 (cm 37 (by omega) (by omega)).2 (cm 38 (by omega) (by omega)).2 (s.2.2.2.1 _ (hB.z 37 (by omega))).2
theorem mS.st' {C : List Nat} (hS : mS ad h) (hB : cB own ad h) (s : stp C [] own ad own' ad' h h') (hC : ∀ k ∈ C, k ≠ 36 ∧ k ≠ 37 ∧ k ≠ 38) : mS ad' h' := by
  obtain ⟨S1, S2, S3, S4⟩ := hS
  have e := s.2.2.2.1
  unfold mS
  rw [s.2.1 36 (fun h9 => (hC 36 h9).1 rfl), s.2.1 37 (fun h9 => (hC 37 h9).2.1 rfl), s.2.1 38 (fun h9 => (hC 38 h9).2.2 rfl), (e _ (hB.z 36 (by omega))).2, (e _ (hB.z 37 (by omega))).2, (e _ (hB.z 38 (by omega))).2]
  exact ⟨S1, S2, S3, S4⟩
/-- the rest of the invariant, from what a call may change -/
theorem cI.st {C : List Nat} (hI : cI own ad h W σ ts K) (s : stp C [] own ad own' ad' h h') (hC : ∀ k ∈ C, k < 41 ∧ k ∉ hN) (i01 : (xb_i h' (ad 0) 1).toInt = ts') (hts : ts' ≤ ts) (i03 : xb_i h' (ad 0) 3 = xb_i h (ad 0) 3) (i14 : xb_i h' (ad 14) 11 = xb_i h (ad 14) 11) (hW' : wI own' ad' h' W' σ) (hS' : mS ad' h') (hr' : rS ad' h' W') (hf : fI ad' h') : cI own' ad' h' W' σ ts' K := by
  obtain ⟨⟨hB, hW, hS, hr, -⟩, ⟨t1, t2, t3, t4, t5⟩, ⟨m1, mc, m2, m3, m4⟩, ⟨r1, r2, r3⟩, ⟨na, a1, a2⟩, n1, n2, n3, n4⟩ := hI
  have c41 : ∀ k ∈ C, k < 41 := fun k hk => (hC k hk).1
  have cm : ∀ k, k ∈ hN → ad' k = ad k ∧ xh_sm h h' (ad k) := fun k hk => s.cm hB c41 (fun x hx => by cases hx) (hN_lt k hk) (fun h9 => (hC k h9).2 hk)
  have e := s.2.2.2.1
  have nn : ∀ k, k ∈ hN → xb_n h' (ad' k) = xb_n h (ad k) := fun k hk => by
    rw [(cm k hk).1]
    exact (e _ (hB.z k (hN_lt k hk))).2
  have a0 : ad' 0 = ad 0 := s.2.2.2.2.2.2 0 (by decide)
  have a14 : ad' 14 = ad 14 := s.2.2.2.2.2.2 14 (by decide)
  refine ⟨⟨s.1, hW', hS', hr', hf⟩, ⟨by rw [a0]; exact i01, by rw [nn 1 (by decide)]; omega, by rw [nn 1 (by decide)]; exact t3, by rw [nn 1 (by decide)]; exact t4, fun j => by rw [(cm 1 (by decide)).1, (cm 1 (by decide)).2.1]; exact t5 j⟩, ⟨by rw [nn 2 (by decide)]; exact m1, mc, by rw [a0, i03]; exact m2, m3, fun i hi => ?_⟩, ⟨by rw [nn 4 (by decide)]; exact r1, by rw [nn 6 (by decide)]; exact r2, fun k hk => ?_⟩, ⟨na, ?_, a2⟩, ?_, ?_, by rw [nn 31 (by decide)]; exact n3, by rw [nn 31 (by decide)]; exact n4⟩
  · obtain ⟨md, d, j1, j2⟩ := m4 i hi
    exact ⟨md, d, by rw [(cm 2 (by decide)).1, (cm 2 (by decide)).2.2.2]; exact j1, j2.fr (fun a h1 h2 => s.n1 hB c41 h1 (by simp) h2 (by omega)) e (fun a h1 h2 => by rw [s.2.2.1 a h1]; exact h2)⟩
  · have : k + 7 ∈ hN := by
      have : ∀ k, k < 7 → k + 7 ∈ hN := by decide
      exact this k hk
    rw [nn _ this]
    exact r3 k hk
  · rw [(cm 16 (by decide)).1, (cm 17 (by decide)).1]
    exact a1.fr (cm 16 (by decide)).2 e
  · rw [(cm 29 (by decide)).1, (cm 29 (by decide)).2.1]
    exact n1
  · rw [a14, i14]
    omega
theorem cG.st (hg : cG ad h W ts (K + 1) rc rs bc bs) (hb : bgv ad' h' (rc + xC ad h W ts (K + 1)) (rs + xS ad h W ts (K + 1)) bc' bs') (n1 : xb_n h' (ad' 1) = xb_n h (ad 1)) (n31 : xb_n h' (ad' 31) = xb_n h (ad 31)) (hw : wic W ≤ wic W') (hts : ts' ≤ ts) : cG ad' h' W' ts' K rc rs bc' bs' := by
  obtain ⟨g1, g2⟩ := hb
  unfold cG bgv bg
  unfold xC at *
  unfold xS at *
  rw [n1, n31]
  omega
/-- a call that changes a few of the components, and no addresses -/
theorem cI.s2 {C : List Nat} (hI : cI own ad h W σ ts (K + 1)) (hg : cG ad h W ts (K + 1) rc rs bc bs) (s : stp C [] own ad own ad h h') (hC : ∀ k ∈ C, k < 41 ∧ k ∉ hN) (i01 : (xb_i h' (ad 0) 1).toInt = ts') (hts : ts' ≤ ts) (i03 : xb_i h' (ad 0) 3 = xb_i h (ad 0) 3) (i14 : xb_i h' (ad 14) 11 = xb_i h (ad 14) 11) (hW' : wI own ad h' W σ) (hr' : rS ad h' W) (hf : 39 ∉ C ∧ 40 ∉ C) : cI own ad h' W σ ts' K ∧ cG ad h' W ts' K rc rs bc bs := by
  have hB := hI.1.1
  have c41 : ∀ k ∈ C, k < 41 := fun k hk => (hC k hk).1
  refine ⟨hI.dn.st s hC i01 hts i03 i14 hW' (hI.1.2.2.1.st hB s) hr' (hI.1.2.2.2.2.st hB s c41 (fun x hx => by cases hx) hf.1 hf.2), hg.st ?_ ?_ ?_ (Nat.le_refl _) hts⟩
  · have hg' : bgv ad h (rc + xC ad h W ts (K + 1)) (rs + xS ad h W ts (K + 1)) bc bs := hg
    exact hg'.st hB s
  · exact (s.2.2.2.1 _ (hB.z 1 (by omega))).2
  · exact (s.2.2.2.1 _ (hB.z 31 (by omega))).2
theorem ho_end {x1 : Int32} {Qr : xb_H → Nat → Nat → Prop} {Qt : String → xb_H → Nat → Nat → Prop} (hI : cI own ad h W σ ts (K + 1)) (hg : cG ad h W ts (K + 1) rc rs bc bs) (hQ : ∀ (t : Nat) (h' : xb_H), x1.toInt = t → t ≤ ts → h' = xb_I h (ad 0) 1 x1 → stp [0] [] own ad own ad h h' → cI own ad h' W σ t K → cG ad h' W t K rc rs bc bs → Qr h' bc bs) (hQt : x1.toInt < 0 ∨ (ts : Int) < x1.toInt → Qt "java/lang/IllegalArgumentException" h (bc - 1) (bs - 6)) : w_H_end (ad 0) x1 h bc bs Qr Qt := by
  have hB := hI.1.1
  unfold w_H_end w_H_end_L12
  refine ⟨fun e => ho_ex hg (hQt (.inl (z_lt.mp e))), fun e => ⟨hB.k 0 (by omega), fun e2 h4 e4 => ?_, fun e2 => ho_ex hg (hQt (.inr ?_))⟩⟩
  · rw [z_lt, show (0 : Int32).toInt = 0 from rfl] at e
    rw [z_le, hI.2.1.1] at e2
    have s4 : stp [0] [] own ad own ad h h4 := by rw [e4]; exact stp.Ic hB
    have n14 : ad 14 ≠ ad 0 := hB.ne (by omega) (by omega) (by omega)
    obtain ⟨y1, y2⟩ := cI.s2 (ts' := x1.toInt.toNat) hI hg s4 (by decide) (by rw [e4, xh_iI, if_pos rfl, xh_up, if_pos rfl]; omega) (by omega) (by rw [e4, xh_iI, if_pos rfl, xh_up, if_neg (by omega)]) (by rw [e4, xh_iI, if_neg n14]) (hI.1.2.1.st hB s4 (by decide)) (hI.1.2.2.2.1.st hB s4 (by decide)) (by decide)
    exact hQ x1.toInt.toNat h4 (by omega) (by omega) e4 s4 y1 y2
  · rw [z_le, hI.2.1.1] at e2
    omega
theorem ho_find {x1 : Int32} {Qr : Int32 → xb_H → Nat → Nat → Prop} {Qt : String → xb_H → Nat → Nat → Prop} (hI : cI own ad h W σ ts (K + 1)) (hg : cG ad h W ts (K + 1) rc rs bc bs) (hQ : ∀ (i : Nat) (r : Int32) (h' : xb_H), x1.toInt = i → i < wic W → exN (wd W i) (xb_i h (ad 1)) 0 ts r → h' = xb_I h (ad 0) 1 0 → stp [0] [] own ad own ad h h' → cI own ad h' W σ 0 K → cG ad h' W 0 K rc rs bc bs → Qr r h' bc bs) (hQt : byd (wic W) x1 → Qt "java/lang/IndexOutOfBoundsException" h (bc - 1) (bs - 6)) : w_H_find (ad 0) x1 h bc bs Qr Qt := by
  have hB := hI.1.1
  have hW := hI.1.2.1
  obtain ⟨t1, t2, t3, t4, t5⟩ := hI.2.1
  unfold w_H_find
  refine ⟨hB.k 0 (by omega), ho_inst hB hW (fun i hi hi2 _ v4 e4 h5 e5 => ?_) (fun e => ho_ex hg (hQt e))⟩
  have s5 : stp [0] [] own ad own ad h h5 := by rw [e5]; exact stp.Ic hB
  have hW5 := hW.st hB s5 (by decide)
  obtain ⟨-, hiO⟩ := hW5.2.2.2.2.2.2.1.2.2.2 i hi2
  obtain ⟨a1, a2, a3, a4, hm⟩ := hiO.1
  have n14 : ad 14 ≠ ad 0 := hB.ne (by omega) (by omega) (by omega)
  have n1 : ad 1 ≠ ad 0 := hB.ne (by omega) (by omega) (by omega)
  refine ⟨a1, _, a4, ad 1, s5.1.r (0, 0, 1) (by decide), hm.1.k, mo_exportNamed (at_ := 0) (ln := ts) hm (s5.1.k 1 (by omega)) rfl (by rw [e4]; exact t1) ?_ ?_ (fun r hr _ => ?_)⟩
  · rw [e5, xh_nI]
    omega
  · rw [e5, xh_nI]
    omega
  · obtain ⟨y1, y2⟩ := cI.s2 (ts' := 0) hI hg s5 (by decide) (by rw [e5, xh_iI, if_pos rfl, xh_up, if_pos rfl]; rfl) (by omega) (by rw [e5, xh_iI, if_pos rfl, xh_up, if_neg (by omega)]) (by rw [e5, xh_iI, if_neg n14]) hW5 (hI.1.2.2.2.1.st hB s5 (by decide)) (by decide)
    rw [show xb_i h5 (ad 1) = xb_i h (ad 1) by rw [e5, xh_iI, if_neg n1]] at hr
    exact hQ i r h5 hi hi2 hr e5 s5 y1 y2
theorem ho_out {x1 : Int32} {Qr : Int64 → xb_H → Nat → Nat → Prop} {Qt : String → xb_H → Nat → Nat → Prop} {un : Nat} (hI : cI own ad h W σ ts (K + 1)) (hg : cG ad h W ts (K + 1) rc rs bc bs) (hun : (xb_i h (ad 27) 1).toInt = un) (hQ : ∀ j : Nat, x1.toInt = j → j < un → Qr (xb_l h (ad 28) j) h bc bs) (hQt : byd un x1 → Qt "java/lang/IndexOutOfBoundsException" h (bc - 1) (bs - 6)) : w_H_out (ad 0) x1 h bc bs Qr Qt := by
  have hB := hI.1.1
  obtain ⟨un', ⟨u1, u2, u3, u4, u5, u6, u7, u8⟩, -⟩ := hI.1.2.1.2.2.2.2.1
  unfold w_H_out w_H_out_L18
  refine ⟨fun e => ho_ex hg (hQt (.inl (z_lt.mp e))), fun e => ⟨hB.k 0 (by omega), ad 14, hB.r (0, 6, 14) (by decide), hB.k 14 (by omega), ad 27, hB.r (14, 6, 27) (by decide), u1, fun e2 => ⟨ad 14, hB.r (0, 6, 14) (by decide), hB.k 14 (by omega), ad 27, hB.r (14, 6, 27) (by decide), u1, ad 28, u4, u5, ?_, ?_⟩, fun e2 => ho_ex hg (hQt (.inr ?_))⟩⟩
  · rw [z_lt, show (0 : Int32).toInt = 0 from rfl] at e
    rw [z_lt, u3] at e2
    rw [z_in]
    omega
  · rw [z_lt, show (0 : Int32).toInt = 0 from rfl] at e
    rw [z_lt, u3] at e2
    obtain ⟨j, hj⟩ : ∃ j : Nat, x1.toInt = j := ⟨_, (Int.toNat_of_nonneg (by omega)).symm⟩
    rw [z_cl, hj, Int.toNat_natCast]
    exact hQ j hj (by omega)
  · rw [z_lt] at e2
    omega
theorem ho_outs {Qr : Int32 → xb_H → Prop} (hI : cI own ad h W σ ts (K + 1)) (hQ : Qr (xb_i h (ad 27) 1) h) : w_H_outs (ad 0) h Qr := by
  have hB := hI.1.1
  unfold w_H_outs
  exact ⟨hB.k 0 (by omega), ad 14, hB.r (0, 6, 14) (by decide), hB.k 14 (by omega), ad 27, hB.r (14, 6, 27) (by decide), hB.k 27 (by omega), hQ⟩
theorem ho_clear {Qr : Int32 → xb_H → Prop} (hI : cI own ad h W σ ts (K + 1)) (hg : cG ad h W ts (K + 1) rc rs bc bs) (hQ : ∀ h' : xb_H, h' = xb_I h (ad 27) 1 0 → stp [27] [] own ad own ad h h' → cI own ad h' W σ ts K → cG ad h' W ts K rc rs bc bs → Qr (xb_i h (ad 27) 1) h') : w_H_clear (ad 0) h Qr := by
  have hB := hI.1.1
  have hW := hI.1.2.1
  obtain ⟨un, ⟨u1, u2, u3, u4, u5, u6, u7, u8⟩, -⟩ := hW.2.2.2.2.1
  unfold w_H_clear
  refine ⟨hB.k 0 (by omega), ad 14, hB.r (0, 6, 14) (by decide), hB.k 14 (by omega), ad 27, hB.r (14, 6, 27) (by decide), hB.k 27 (by omega), fun v6 e6 => ⟨ad 14, hB.r (0, 6, 14) (by decide), hB.k 14 (by omega), ad 27, hB.r (14, 6, 27) (by decide), hB.k 27 (by omega), fun h11 e11 => ?_⟩⟩
  have s11 : stp [27] [] own ad own ad h h11 := by rw [e11]; exact stp.Ic hB
  have n0 : ad 0 ≠ ad 27 := hB.ne (by omega) (by omega) (by omega)
  have n14 : ad 14 ≠ ad 27 := hB.ne (by omega) (by omega) (by omega)
  have hU : wU ad h11 := by
    refine ⟨0, ⟨by rw [e11, xh_kI]; exact u1, by rw [e11, xh_iI, if_pos rfl, xh_up, if_neg (by omega)]; exact u2, by rw [e11, xh_iI, if_pos rfl, xh_up, if_pos rfl]; rfl, by rw [e11, xh_rI]; exact u4, by rw [e11, xh_kI]; exact u5, by omega, by rw [e11, xh_nI]; exact u7, by rw [e11, xh_nI]; exact u8⟩, by omega⟩
  obtain ⟨y1, y2⟩ := cI.s2 (ts' := ts) hI hg s11 (by decide) (by rw [e11, xh_iI, if_neg n0]; exact hI.2.1.1) (Nat.le_refl _) (by rw [e11, xh_iI, if_neg n0]) (by rw [e11, xh_iI, if_neg n14]) (hW.ca hB (s11.mono (by decide) (fun k hk => hk)) hU) (hI.1.2.2.2.1.st hB s11 (by decide)) (by decide)
  rw [e6]
  exact hQ h11 e11 s11 y1 y2
theorem ho_calls {Qr : Int32 → xb_H → Prop} (hI : cI own ad h W σ ts (K + 1)) (hQ : Qr (xb_i h (ad 15) 4) h) : w_H_calls (ad 0) h Qr := by
  have hB := hI.1.1
  unfold w_H_calls
  exact ⟨hB.k 0 (by omega), ad 15, hB.r (0, 7, 15) (by decide), hB.k 15 (by omega), hQ⟩
theorem ho_result {Qr : Int64 → xb_H → Prop} (hI : cI own ad h W σ ts (K + 1)) (hQ : Qr (xb_l h (ad 15) 5) h) : w_H_result (ad 0) h Qr := by
  have hB := hI.1.1
  unfold w_H_result
  exact ⟨hB.k 0 (by omega), ad 15, hB.r (0, 7, 15) (by decide), hB.k 15 (by omega), hQ⟩
theorem ho_trap {x1 : Int32} {Qr : Int32 → xb_H → Nat → Nat → Prop} {Qt : String → xb_H → Nat → Nat → Prop} (hI : cI own ad h W σ ts (K + 1)) (hg : cG ad h W ts (K + 1) rc rs bc bs) (hQ : ∀ j : Nat, x1.toInt = j → j < 4 → Qr (xb_i h (ad 36) j) h bc bs) (hQt : byd 4 x1 → Qt "java/lang/IndexOutOfBoundsException" h (bc - 1) (bs - 6)) : w_H_trap (ad 0) x1 h bc bs Qr Qt := by
  have hB := hI.1.1
  have n36 := hI.1.2.2.1.1
  unfold w_H_trap w_H_trap_L16
  refine ⟨fun e => ho_ex hg (hQt (.inl (z_lt.mp e))), fun e => ⟨hB.k 0 (by omega), ad 15, hB.r (0, 7, 15) (by decide), hB.k 15 (by omega), ad 36, hB.r (15, 6, 36) (by decide), hB.k 36 (by omega), fun e2 => ⟨ad 15, hB.r (0, 7, 15) (by decide), hB.k 15 (by omega), ad 36, hB.r (15, 6, 36) (by decide), hB.k 36 (by omega), ?_, ?_⟩, fun e2 => ho_ex hg (hQt (.inr ?_))⟩⟩
  · rw [z_lt, show (0 : Int32).toInt = 0 from rfl] at e
    rw [z_lt, n36, z_nI (n := 4) (by omega)] at e2
    rw [z_in, n36]
    omega
  · rw [z_lt, show (0 : Int32).toInt = 0 from rfl] at e
    rw [z_lt, n36, z_nI (n := 4) (by omega)] at e2
    obtain ⟨j, hj⟩ : ∃ j : Nat, x1.toInt = j := ⟨_, (Int.toNat_of_nonneg (by omega)).symm⟩
    rw [z_cl, hj, Int.toNat_natCast]
    exact hQ j hj (by omega)
  · rw [z_lt, n36, z_nI (n := 4) (by omega)] at e2
    omega
theorem ho_stop {Qr : Int32 → xb_H → Prop} (hI : cI own ad h W σ ts (K + 1)) (hg : cG ad h W ts (K + 1) rc rs bc bs) (hQ : ∀ h' : xb_H, stp [15] [] own ad own ad h h' → (xb_i h' (ad 15) 3).toInt = 0 → (xb_i h' (ad 15) 4).toInt = 0 → (∀ k, k ≠ 3 → k ≠ 4 → xb_i h' (ad 15) k = xb_i h (ad 15) k) → xb_l h' = xb_l h → cI own ad h' W σ ts K → cG ad h' W ts K rc rs bc bs → Qr (xb_i h (ad 15) 4) h') : w_H_stop (ad 0) h Qr := by
  have hB := hI.1.1
  unfold w_H_stop
  refine ⟨hB.k 0 (by omega), ad 15, hB.r (0, 7, 15) (by decide), hB.k 15 (by omega), mc_giveUp hB (fun h' s f1 f2 f3 f4 _ => ?_)⟩
  have c0 := (s.cm hB (by decide) (fun x hx => by cases hx) (k := 0) (by omega) (by decide)).2
  have c14 := (s.cm hB (by decide) (fun x hx => by cases hx) (k := 14) (by omega) (by decide)).2
  obtain ⟨y1, y2⟩ := cI.s2 (ts' := ts) hI hg s (by decide) (by rw [c0.1]; exact hI.2.1.1) (Nat.le_refl _) (by rw [c0.1]) (by rw [c14.1]) (hI.1.2.1.st hB s (by decide)) (.inl ⟨f1, f2⟩) (by decide)
  exact hQ h' s f1 f2 f3 f4 y1 y2
/-- a byte of an instance's memory is not there -/
def mwT (h : xb_H) (W : wD) (x1 x2 : Int32) : Prop := byd (wic W) x1 ∨ ∃ i : Nat, x1.toInt = i ∧ i < wic W ∧ (xb_r h (wia W i) 7 = none ∨ ∃ ma : Nat, xb_r h (wia W i) 7 = some ma ∧ byd (65536 * (xb_i h ma 3).toInt.toNat) x2)
theorem ho_memoryWith {x1 x2 : Int32} {Qr : Nat → xb_H → Nat → Nat → Prop} {Qt : String → xb_H → Nat → Nat → Prop} (hB : cB own ad h) (hW : wI own ad h W σ) (hQ : ∀ i ma : Nat, x1.toInt = i → i < wic W → xb_r h (wia W i) 7 = some ma → mO own ad h W ma → ∀ p : Nat, x2.toInt = p → (p : Int) < 65536 * (xb_i h ma 3).toInt → Qr ma h bc bs) (hT : mwT h W x1 x2 → 1 ≤ bc ∧ 6 ≤ bs ∧ Qt "java/lang/IndexOutOfBoundsException" h (bc - 1) (bs - 6)) : w_H_memoryWith (ad 0) x1 x2 h bc bs Qr Qt := by
  have hnp := hW.2.2.2.1.2
  unfold w_H_memoryWith w_H_memoryWith_L25
  refine ⟨hB.k 0 (by omega), ho_inst hB hW (fun i hi hi2 _ => ?_) (fun e => hT (.inl e))⟩
  obtain ⟨-, ⟨⟨a1, -⟩, -, -, -, -, -, -, j2⟩⟩ := hW.2.2.2.2.2.2.1.2.2.2 i hi2
  refine ⟨a1, fun e => hT (.inr ⟨i, hi, hi2, .inl e⟩), fun ma e5 => ⟨fun e => hT (.inr ⟨i, hi, hi2, .inr ⟨ma, e5, .inl (z_lt.mp e)⟩⟩), fun e => ?_⟩⟩
  have hm := j2 ma e5
  obtain ⟨k1, k2, k3, k4, sl, pc, k5, k6, k7, k8, k9, k10, k11, k12⟩ := id hm
  unfold w_Memory_bytes
  refine ⟨k1, k1, fun _ => ⟨fun e2 => ?_, fun e2 => hT (.inr ⟨i, hi, hi2, .inr ⟨ma, e5, .inr ?_⟩⟩)⟩⟩
  · rw [z_lt, show (0 : Int32).toInt = 0 from rfl] at e
    rw [z_lt, z_mul, k10, show (65536 : Int32).toInt = 65536 from rfl] at e2
    obtain ⟨p, hp⟩ : ∃ p : Nat, x2.toInt = p := ⟨_, (Int.toNat_of_nonneg (by omega)).symm⟩
    exact hQ i ma hi hi2 e5 hm p hp (by rw [k10]; omega)
  · rw [z_lt, z_mul, k10, show (65536 : Int32).toInt = 65536 from rfl] at e2
    rw [k10]
    omega
theorem ho_peek {x1 x2 : Int32} {Qr : Int32 → xb_H → Nat → Nat → Prop} {Qt : String → xb_H → Nat → Nat → Prop} (hI : cI own ad h W σ ts (K + 1)) (hg : cG ad h W ts (K + 1) rc rs bc bs) (hQ : ∀ (i ma sl p : Nat) (r : Int32), x1.toInt = i → i < wic W → xb_r h (wia W i) 7 = some ma → xb_r h ma 2 = some sl → x2.toInt = p → (p : Int) < 65536 * (xb_i h ma 3).toInt → r.toInt = byA (xb_l h (ad 26)) (mpA (xb_i h sl) p) → Qr r h bc bs) (hQt : mwT h W x1 x2 → Qt "java/lang/IndexOutOfBoundsException" h (bc - 1) (bs - 6)) : w_H_peek (ad 0) x1 x2 h bc bs Qr Qt := by
  have hB := hI.1.1
  have hW := hI.1.2.1
  have hnp := hW.2.2.2.1.2
  unfold w_H_peek
  refine ⟨hB.k 0 (by omega), ho_memoryWith hB hW (fun i ma hi hi2 hr hm p hp hp2 _ => ?_) (fun e => ho_ex hg (hQt e))⟩
  obtain ⟨k1, k2, k3, k4, sl, pc, k5, k6, k7, k8, k9, k10, k11, k12⟩ := id hm
  exact ⟨k1, mO_byteAt (ad := ad) k1 k3 k5 k6 k9 k12 (by omega) hnp hW.2.2.2.1.1 hp (by omega) (fun r _ _ e9 _ => hQ i ma sl p r hi hi2 hr k5 hp hp2 e9)⟩
theorem ho_poke {x1 x2 x3 : Int32} {Qr : xb_H → Nat → Nat → Prop} {Qt : String → xb_H → Nat → Nat → Prop} (hI : cI own ad h W σ ts (K + 1)) (hg : cG ad h W ts (K + 1) rc rs bc bs) (hQ : ∀ (i ma sl p w : Nat) (y : Int64) (h' : xb_H), x1.toInt = i → i < wic W → xb_r h (wia W i) 7 = some ma → xb_r h ma 2 = some sl → x2.toInt = p → (p : Int) < 65536 * (xb_i h ma 3).toInt → h' = xb_L h (ad 26) w y → (∀ b, byA (xb_l h' (ad 26)) b = if b = mpA (xb_i h sl) p then (x3.toInt % 256).toNat else byA (xb_l h (ad 26)) b) → stp [26] [] own ad own ad h h' → cI own ad h' W σ ts K → cG ad h' W ts K rc rs bc bs → Qr h' bc bs) (hQt : mwT h W x1 x2 → Qt "java/lang/IndexOutOfBoundsException" h (bc - 1) (bs - 6)) : w_H_poke (ad 0) x1 x2 x3 h bc bs Qr Qt := by
  have hB := hI.1.1
  have hW := hI.1.2.1
  have hnp := hW.2.2.2.1.2
  unfold w_H_poke
  refine ⟨hB.k 0 (by omega), ho_memoryWith hB hW (fun i ma hi hi2 hr hm p hp hp2 _ => ?_) (fun e => ho_ex hg (hQt e))⟩
  obtain ⟨k1, k2, k3, k4, sl, pc, k5, k6, k7, k8, k9, k10, k11, k12⟩ := id hm
  refine ⟨k1, mO_setByte hB k1 k3 k5 k6 k9 k12 (by omega) hnp hW.2.2.2.1.1 hp (by omega) (fun w y e9 _ => ?_)⟩
  have s : stp [26] [] own ad own ad h (xb_L h (ad 26) w y) := stp.Lc hB
  obtain ⟨y1, y2⟩ := cI.s2 (ts' := ts) hI hg s (by decide) hI.2.1.1 (Nat.le_refl _) rfl rfl (hW.L26 hB) (hI.1.2.2.2.1.st hB s (by decide)) (by decide)
  exact hQ i ma sl p w y _ hi hi2 hr k5 hp hp2 rfl (fun b => by rw [xh_lL, if_pos rfl]; exact e9 b) s y1 y2
end HO2
