-- a run: a step
/-- a memory's size is told or grows: the outcome, what it does to the world -/
def szC (h : xb_H) (ad : Nat → Nat) (W : wD) (D : Nat) (gx : Nat → fG) (B : ctN) (op : Nat) (gs : List gF) (o : Oc) (ε : wEf) : Prop :=
  ∃ (x : Nat) (y : Int64), B (gA (gx (D - 1))) x ∧
  ((op = 63 ∧ ε = w0 ad h ∧ y.toInt = mmP h W (gI (gx (D - 1))) ∧ o = .inl (D, va_up gx (D - 1) (gT_ (gx (D - 1)) x (127 :: gC (gx (D - 1))) gs), va_up (xb_l h (ad 37)) (gO (gx (D - 1)) + (gC (gx (D - 1))).length) y)) ∨
   (op = 64 ∧ ∃ (c : List Int) (n : Nat), gC (gx (D - 1)) = 127 :: c ∧ (xb_l h (ad 37) (gO (gx (D - 1)) + c.length)).toInt = n ∧ o = .inl (D, va_up gx (D - 1) (gT_ (gx (D - 1)) x (127 :: c) gs), va_up (xb_l h (ad 37)) (gO (gx (D - 1)) + c.length) y) ∧
    ((wnp W + n ≤ 16 ∧ (mmX h W (gI (gx (D - 1))) ≠ -1 → ((mmP h W (gI (gx (D - 1))) + n : Nat) : Int) ≤ mmX h W (gI (gx (D - 1)))) ∧ ε = (none, fun a => if a < 65536 * wnp W then byA (xb_l h (ad 26)) a else 0, n) ∧ y.toInt = mmP h W (gI (gx (D - 1)))) ∨
     ((16 < wnp W + n ∨ (mmX h W (gI (gx (D - 1))) ≠ -1 ∧ mmX h W (gI (gx (D - 1))) < ((mmP h W (gI (gx (D - 1))) + n : Nat) : Int))) ∧ ε = w0 ad h ∧ y.toInt = 4294967295))))
/-- a step: the outcome, what is put out, what it does to the world -/
def stC (h : xb_H) (ad : Nat → Nat) (W : wD) (D : Nat) (gx : Nat → fG) (n : Nat) (B : ctN) (ν0 : Nat → Int32) (op : Nat) (o : Oc) (e : Option Int64) (ε : wEf) : Prop :=
  (op < 32 → ε = w0 ad h ∧ coC h ad W D gx n B ν0 op (gS (gx (D - 1))) o e) ∧
  (32 ≤ op → op ≤ 36 → e = none ∧ ∃ (i x : Nat) (c' : List Int) (v' u' : Nat → Int64), (ν0 (gA (gx (D - 1)) + 1)).toInt = i ∧ B (gA (gx (D - 1))) x ∧ unC op (gx (D - 1)) (xb_l h (ad 37)) v' (xb_l h (ad 22)) u' i (vnI h W (gI (gx (D - 1))) i) c' ∧ o = .inl (D, va_up gx (D - 1) (gT_ (gx (D - 1)) x c' (gS (gx (D - 1)))), v') ∧ ε = (if op = 36 then some (vnI h W (gI (gx (D - 1))) i, xb_l h (ad 37) (gO (gx (D - 1)) + (gC (gx (D - 1))).length - 1)) else none, byA (xb_l h (ad 26)), 0)) ∧
  (40 ≤ op → op < 63 → e = none ∧ ∃ b' : Nat → Nat, umC h ad W D gx B op (gS (gx (D - 1))) o b' ∧ ε = (none, b', 0)) ∧
  (63 ≤ op → op ≤ 64 → e = none ∧ szC h ad W D gx B op (gS (gx (D - 1))) o ε) ∧
  (65 ≤ op → op ≤ 68 → e = none ∧ ε = w0 ad h ∧ ∃ x : Nat, B (gA (gx (D - 1))) x ∧ o = .inl (D, va_up gx (D - 1) (gT_ (gx (D - 1)) x ((192 - op) :: gC (gx (D - 1))) (gS (gx (D - 1)))), va_up (xb_l h (ad 37)) (gO (gx (D - 1)) + (gC (gx (D - 1))).length) (kc (wd W (gI (gx (D - 1)))) (gA (gx (D - 1)))))) ∧
  (69 ≤ op → e = none ∧ ε = w0 ad h ∧ ∃ (c : List Int) (κ : Nat), gC (gx (D - 1)) = List.replicate (sgN op) (sgA op) ++ c ∧ κ = nmt op (nVa (xb_l h (ad 37)) (gO (gx (D - 1)) + c.length)) (nVb op (xb_l h (ad 37)) (gO (gx (D - 1)) + c.length)) ∧ ((κ ≠ 0 ∧ o = trD κ D gx (gA (gx (D - 1)))) ∨ (κ = 0 ∧ o = .inl (D, va_up gx (D - 1) (gT_ (gx (D - 1)) (gA (gx (D - 1)) + 1) (sgR op :: c) (gS (gx (D - 1)))), va_up (xb_l h (ad 37)) (gO (gx (D - 1)) + c.length) (nmI op (nVa (xb_l h (ad 37)) (gO (gx (D - 1)) + c.length)) (nVb op (xb_l h (ad 37)) (gO (gx (D - 1)) + c.length)))))))
section ST1
variable {own own' ad ad' : Nat → Nat} {h h' h1 : xb_H} {W : wD} {σ D : Nat} {gx : Nat → fG} {t P lcn p0 E g : Nat} {lo ν0 : Nat → Int32} {G : ctG}
theorem rR.wg {np : Nat} (hr : rR ad h (wgr W np)) : rR ad h W := hr
theorem rX.wg {np : Nat} (hr : rX ad h W D gx t P lcn p0 E lo ν0 g G) : rX ad h (wgr W np) D gx t P lcn p0 E lo ν0 g G := hr
theorem rX.ad_ (hr : rX ad h W D gx t P lcn p0 E lo ν0 g G) (a15 : ad' 15 = ad 15) (a37 : ad' 37 = ad 37) (a38 : ad' 38 = ad 38) : rX ad' h W D gx t P lcn p0 E lo ν0 g G := by
  unfold rX mT at *
  rw [a15, a37, a38]
  exact hr
theorem oR.wg {np : Nat} {oc : Oc} (hr : oR ad h ad' h' (wgr W np) oc) : oR ad h ad' h' W oc := hr
theorem gxu {x : fG} {a' : Nat} {c' : List Int} {gs : List gF} : va_up (va_up gx (D - 1) x) (D - 1) (gT_ (va_up gx (D - 1) x (D - 1)) a' c' gs) = va_up gx (D - 1) (gT_ x a' c' gs) := by
  rw [up_up, xh_up, if_pos rfl]
theorem sQ.of {C : List Nat} {rc rs bc bs i0 : Nat} {oc : Oc} {ε : wEf} (hB : cB own ad h) (hW : wI own ad h W σ) (hS : mS ad h) (hf : fI ad h) (hg : bgv ad h rc rs bc bs) (s : stp C [] own ad own ad h h') (hC : ∀ k ∈ C, k = 15 ∨ k = 22 ∨ k = 26 ∨ k = 36 ∨ k = 37 ∨ k = 38) (hW' : 22 ∈ C → wI own ad h' W σ) (hr : oR ad h ad h' W oc) (h22 : xb_l h' (ad 22) = eV ε (xb_l h (ad 22))) (h26 : ∀ a, byA (xb_l h' (ad 26)) a = ε.2.1 a) (h0 : ε.2.2 = 0) : sQ own ad h W σ rc rs own ad h' bc bs i0 oc none ε := by
  have hC2 : ∀ k ∈ C, k ∈ goC := fun k hk => by
    rcases hC k hk with e | e | e | e | e | e <;> rw [e] <;> decide
  have c41 : ∀ k ∈ C, k < 41 := fun k hk => goC_lt k (hC2 k hk)
  refine ⟨s.sg hC2, ?_, hS.st hB s, hr, ⟨(s.cm hB c41 (fun x hx => by cases hx) (k := 27) (by omega) (fun h9 => by have := hC 27 h9; omega)).2.1, rfl, (s.cm hB c41 (fun x hx => by cases hx) (k := 28) (by omega) (fun h9 => by have := hC 28 h9; omega)).2.2.1⟩, wF.st hB hW s c41 rfl h22 h26 h0, hf.st hB s (fun k hk => goC_lt k (hC2 k hk)) (fun x hx => by cases hx) (fun h9 => by have := hC 39 h9; omega) (fun h9 => by have := hC 40 h9; omega), hg.st hB s⟩
  rw [h0]
  by_cases h9 : 22 ∈ C
  · exact hW' h9
  · exact hW.mc hB s hC (fun h8 => absurd h8 h9)
theorem mc_sizeMemory {x1 : Int32} {o rc rs bc bs : Nat} {gs : List gF} {Qr : xb_H → Nat → Nat → Prop} (hB : cB own ad h) (hW : wI own ad h W σ) (hS : mS ad h) (hf : fI ad h) (hg : bgv ad h rc rs bc bs) (hr : rX ad h W D gx t P lcn p0 E lo ν0 g G) (hx : x1.toInt = o) (h1 : 63 ≤ o) (h2 : o ≤ 64) (hl : ct_LC (dn (wd W (gI (gx (D - 1))))) (dvs (wd W (gI (gx (D - 1))))) (dcb (wd W (gI (gx (D - 1))))) lo t lcn ν0 G (ct_B (dnu (wd W (gI (gx (D - 1))))) p0 E) o (gA (gx (D - 1))) (gC (gx (D - 1))) gs)
    (hQ : ∀ (h' : xb_H) (own' ad' : Nat → Nat) (bc' bs' : Nat) (oc : Oc) (ε : wEf), sQ own ad h W σ rc rs own' ad' h' bc' bs' (gI (gx (D - 1))) oc none ε → szC h ad W D gx (ct_B (dnu (wd W (gI (gx (D - 1))))) p0 E) o gs oc ε → Qr h' bc' bs') : w_Machine_sizeMemory (ad 15) x1 h bc bs Qr := by
  obtain ⟨-, ⟨t1, t2, t3, t4, t5, t6, t7⟩, -, ⟨a, a5, b1, b2, b3, b7, b5, b6⟩, -, -⟩ := id hr
  obtain ⟨l5, hiO⟩ := hW.2.2.2.2.2.2.1.2.2.2 _ a5
  obtain ⟨⟨q1, q2, q3, q4, q5⟩, -, -, -, -, -, tm1, tm2⟩ := id hiO
  obtain ⟨-, ⟨e1, e2, e3, e4, e5, -⟩, -, g0, -⟩ := id b1
  obtain ⟨f1, x, f2, f3, f4, f7, f8, f5, f6⟩ := hl.2.2.2.2.2.2.2.2.2.2.2.2.2.2.2.1 (by omega) (by omega)
  obtain ⟨ma, hma⟩ := tm1 f1
  obtain ⟨k1, k2, k3, k4, sl, pc, k5, k6, k7, k8, k9, k10, k11, k12⟩ := tm2 ma hma
  have hnp := hW.2.2.2.1.2
  have hRow := hW.2.2.2.1.1
  have k15 : xb_k h (ad 15) = 8 := hB.k 15 (by omega)
  have k37 : xb_k h (ad 37) = 103 := hB.k 37 (by omega)
  have r9 : xb_r h (ad 15) 9 = some (ad 37) := hB.r (15, 9, 37) (by decide)
  have S4 := hS.2.2.2
  have eA : mmA h W (gI (gx (D - 1))) = ma := by
    unfold mmA
    rw [hma, Option.getD_some]
  have eS : mmS h W (gI (gx (D - 1))) = sl := by
    unfold mmS
    rw [eA, k5, Option.getD_some]
  have eP : mmP h W (gI (gx (D - 1))) = pc := by
    unfold mmP
    rw [eA, k10, Int.toNat_natCast]
  have eX : mmX h W (gI (gx (D - 1))) = (xb_l h ma 1).toInt := by
    unfold mmX
    rw [eA]
  unfold w_Machine_sizeMemory
  refine ⟨fun e => ?_, fun e => ⟨k15, _, t5, q1, ma, hma, k1, ?_⟩⟩
  · have o64 : o = 64 := by
      rw [z_eq, hx, show (63 : Int32).toInt = 63 from rfl] at e
      omega
    obtain ⟨c, hc, hG⟩ := f8 (by omega)
    obtain ⟨p1, p2, p3, p4⟩ := hr.tp1 hS hc
    -- the end, from what the growth left
    have fin : ∀ (own1 ad1 : Nat → Nat) (h12 : xb_H) (bc1 bs1 : Nat) (r13 : Int32) (ε : wEf), stg own ad own1 ad1 h h12 → ad1 37 = ad 37 → ad1 38 = ad 38 → xh_sm h h12 (ad 15) → xh_sm h h12 (ad 37) → xh_sm h h12 (ad 38) → xh_sm h h12 (ad 36) → ad1 27 = ad 27 → ad1 28 = ad 28 → xh_sm h h12 (ad 27) → xh_sm h h12 (ad 28) → wF ad h ad1 h12 W (gI (gx (D - 1))) ε → (∀ (oc : Oc) (y : Int64), y.toInt = r13.toInt % 4294967296 → oc = .inl (D, va_up gx (D - 1) (gT_ (gx (D - 1)) x (127 :: c) gs), va_up (xb_l h (ad 37)) (gO (gx (D - 1)) + c.length) y) → szC h ad W D gx (ct_B (dnu (wd W (gI (gx (D - 1))))) p0 E) o gs oc ε) → wI own1 ad1 h12 (wgr W (wnp W + ε.2.2)) σ → bg ad1 h12 (rc + vP (xb_n h (ad 37)) / 8) (rs + vP (xb_n h (ad 37))) bc1 bs1 → xb_k h12 (ad 37) = 103 ∧ vp_in (xb_i h (ad 15) 10 - 1) (xb_n h12 (ad 37)) ∧ ∀ h16 : xb_H, h16 = xb_L h12 (ad 37) (Int32.toNatClampNeg (xb_i h (ad 15) 10 - 1)) ((Int32.toInt64 r13) &&& 4294967295) → w_Machine_sizeMemory_L65 Qr (ad 15) h16 bc1 bs1 := by
      intro own1 ad1 h12 bc1 bs1 r13 ε sg a37 a38 s15 s37 s38 s36 a27 a28 s27 s28 hF hsz hW12 hg12
      obtain ⟨np, hnpe⟩ : ∃ np, np = wnp W + ε.2.2 := ⟨_, rfl⟩
      rw [← hnpe] at hW12
      have a15 : ad1 15 = ad 15 := sg.2.2.2.2.2.2 15 (by decide)
      have a36 : ad1 36 = ad 36 := sg.2.2.2.2.2.2 36 (by decide)
      have hB1 := sg.1
      have n37 : xb_n h12 (ad 37) = xb_n h (ad 37) := (sg.2.2.2.1 _ (hB.z 37 (by omega))).2
      refine ⟨by rw [← a37]; exact hB1.k 37 (by omega), by rw [n37]; exact p1, fun h16 e16 => ?_⟩
      have hX1 : rX ad1 h12 (wgr W np) D gx t P lcn p0 E lo ν0 g G := ((hr.cg s15.1 s15.2.2 s38.1 n37 s37.2.1).ad_ a15 a37 a38).wg
      have hh := hX1.n1 (τ := 127) hB1 hc (p := Int32.toNatClampNeg (xb_i h (ad 15) 10 - 1)) p3 (v := (Int32.toInt64 r13) &&& 4294967295) vr_low
      rw [a37, ← e16] at hh
      have hS12 : mS ad1 h12 := by
        obtain ⟨S1, S2, S3, S4⟩ := hS
        unfold mS
        rw [a36, a37, a38, (sg.2.2.2.1 _ (hB.z 36 (by omega))).2, (sg.2.2.2.1 _ (hB.z 37 (by omega))).2, (sg.2.2.2.1 _ (hB.z 38 (by omega))).2]
        exact ⟨S1, S2, S3, S4⟩
      have hf12 : fI ad1 h12 := by
        obtain ⟨c39, s39⟩ := sg.cm hB (k := 39) (by omega) (by decide)
        obtain ⟨c40, s40⟩ := sg.cm hB (k := 40) (by omega) (by decide)
        exact ⟨by rw [c39]; exact hf.1.sm s39 sg.2.2.2.1, by rw [c40]; exact hf.2.sm s40 sg.2.2.2.1⟩
      have hgv : bgv ad1 h12 rc rs bc1 bs1 := by
        unfold bgv
        rw [a37, n37]
        exact hg12
      unfold w_Machine_sizeMemory_L65
      rcases hh.2 with h9 | h9
      · exact absurd rfl h9.1
      · obtain ⟨-, h9, h8, h7⟩ := h9
        have hW16 : wI own1 ad1 h16 (wgr W np) σ := hW12.mc hB1 hh.1 (by simp) (fun h8 => by simp at h8)
        rw [← a15]
        refine ⟨hh.1.1.k 15 (by omega), h9.nt (a' := x) (gs := gs) hh.1.1 hW16 (by rw [gup.1, gup.2.2.1]; exact f2) (by rw [gup.2.1]; rw [hc] at hG; exact hG) (fun h' s hR => hQ h' own1 ad1 bc1 bs1 (.inl (D, va_up gx (D - 1) (gT_ (gx (D - 1)) x (127 :: c) gs), va_up (xb_l h (ad 37)) (gO (gx (D - 1)) + c.length) ((Int32.toInt64 r13) &&& 4294967295))) ε ?_ (hsz _ _ (by rw [Z_low, Z_of32]) rfl))⟩
        have sA := hh.1.tr s
        have e37 : xb_l h16 (ad1 37) = va_up (xb_l h (ad 37)) (gO (gx (D - 1)) + c.length) ((Int32.toInt64 r13) &&& 4294967295) := by
          rw [a37, e16, xh_lL, if_pos rfl, p3, s37.2.1]
        rw [gup.2.1, gxu, e37] at hR
        have c41 : ∀ k ∈ [15, 36, 37] ++ [15], k < 41 := by decide
        have cm : ∀ k, k < 41 → k ∉ [15, 36, 37] ++ [15] → xh_sm h12 h' (ad1 k) := fun k hk hn => (sA.cm hB1 c41 (fun x hx => by cases hx) hk hn).2
        have hR2 : oR ad1 h12 ad1 h' W (.inl (D, va_up gx (D - 1) (gT_ (gx (D - 1)) x (127 :: c) gs), va_up (xb_l h (ad 37)) (gO (gx (D - 1)) + c.length) ((Int32.toInt64 r13) &&& 4294967295))) := hR.nk h8
        refine ⟨sg.tr (sA.sg (by decide)), ?_, hS12.st hB1 sA, hR2.cg a15 a36 (by rw [s15.2.1]) (by rw [s15.1]) (by rw [s36.1]), ?_, ?_, hf12.st hB1 sA c41 (fun x hx => by cases hx) (by decide) (by decide), hgv.st hB1 sA⟩
        · rw [← hnpe]
          exact hW12.mc hB1 sA (by decide) (fun h8 => by simp at h8)
        · have c27 := cm 27 (by omega) (by decide)
          have c28 := cm 28 (by omega) (by decide)
          rw [a27] at c27
          rw [a28] at c28
          exact ⟨by rw [c27.1, s27.1], a28, by rw [c28.2.1, s28.2.1]⟩
        · refine hF.pre hW (by rw [← hnpe]; exact hW12) (fun a ha ho => sA.n1 hB1 c41 ha (by simp) rfl (by omega)) rfl rfl (cm 22 (by omega) (by decide)).2.1 (cm 26 (by omega) (by decide)).2.1
    refine ⟨k15, ad 37, r9, ad 14, hB.r (15, 0, 14) (by decide), _, t5, q1, ma, hma, ad 37, r9, k37, p1, hB.k 14 (by omega), ?_⟩
    rw [p3]
    refine wI_grow (np := wnp W) (pc := pc) hB hRow hnp k1 k2 k4 k5 k6 k7 k9 k10 k11 (p4 (.inl rfl)) hg (fun h12 own1 ad1 more bc1 bs1 r13 y1 y2 y3 y4 y5 y6 y7 y8 y10 y11 y9 _ => ?_) (fun hno _ => ?_)
    · have sg := y4.sg hB k2 k7
      have cm : ∀ k, k < 41 → k ≠ 25 → k ≠ 26 → xh_sm h h12 (ad k) := fun k hk h1 h2 => y4.2.2.2.2.1 _ (hB.z k hk) (hB.ne hk (by omega) h1) (hB.ne hk (by omega) h2) (fun e => hB.nk hk k2 (by omega) e.symm) (fun e => hB.nk hk k7 (by omega) e.symm)
      rw [← p3]
      refine fin own1 ad1 h12 bc1 bs1 r13 (none, fun a => if a < 65536 * wnp W then byA (xb_l h (ad 26)) a else 0, more) sg (y4.2.1 37 (by omega)) (y4.2.1 38 (by omega)) (cm 15 (by omega) (by omega) (by omega)) (cm 37 (by omega) (by omega) (by omega)) (cm 38 (by omega) (by omega) (by omega)) (cm 36 (by omega) (by omega) (by omega)) (y4.2.1 27 (by omega)) (y4.2.1 28 (by omega)) (cm 27 (by omega) (by omega) (by omega)) (cm 28 (by omega) (by omega) (by omega)) (wF.gr hB hW a5 f1 eA eS eP y4 y6 y7 y10 k2 k7) (fun oc y hy hoc => ⟨x, y, f2, .inr ⟨o64, c, more, hc, y1, hoc, .inl ⟨y2, by rw [eX, eP]; exact y11, rfl, by rw [hy, y3, eP]; omega⟩⟩⟩) (wI_grown hB hW y4 k1 k2 k5 k6 k7 k8 k10 k11 k12 y2 y5 y6 y7 y8) y9
    · rw [← p3]
      obtain ⟨n, hn⟩ : ∃ n : Nat, (xb_l h (ad 37) (gO (gx (D - 1)) + c.length)).toInt = n := ⟨_, (Int.toNat_of_nonneg (p4 (.inl rfl)).1).symm⟩
      rw [hn] at hno
      refine fin own ad h bc bs (-1) (w0 ad h) (stg.rf hB) rfl rfl (xh_sm.rf _ _) (xh_sm.rf _ _) (xh_sm.rf _ _) (xh_sm.rf _ _) rfl rfl (xh_sm.rf _ _) (xh_sm.rf _ _) (wF.st (C := []) hB hW (stp.rf hB) (fun k hk => by cases hk) rfl rfl (fun _ => rfl) rfl) (fun oc y hy hoc => ⟨x, y, f2, .inr ⟨o64, c, n, hc, hn, hoc, .inr ⟨?_, rfl, hy⟩⟩⟩) hW hg
      rw [eX, eP]
      omega
  · have o63 : o = 63 := by
      rw [z_eq, hx, show (63 : Int32).toInt = 63 from rfl] at e
      omega
    have hG := f7 (by omega)
    have hlen := (g0 _ _ _ hG).1.2.2.1
    simp only [List.length_cons] at hlen
    refine hr.pu (τ := 127) hB hS (by omega) (fun _ => by rw [Z_of32, k10]; omega) (fun h' s hX rv rk _ => ?_)
    have hW' : wI own ad h' W σ := hW.mc hB s (by simp) (fun h8 => by simp at h8)
    unfold w_Machine_sizeMemory_L65
    refine ⟨s.1.k 15 (by omega), hX.nt (a' := x) (gs := gs) s.1 hW' (by rw [gup.1, gup.2.2.1]; exact f2) (by rw [gup.2.1]; exact hG) (fun h2 s2 hR => ?_)⟩
    rw [gup.2.1, gxu, rv] at hR
    have sA := s.tr s2
    have cm : ∀ k, k < 41 → k ∉ [15, 37] ++ [15] → xh_sm h h2 (ad k) := fun k hk hn => (sA.cm hB (by decide) (fun x hx => by cases hx) hk hn).2
    exact hQ h2 own ad bc bs _ (w0 ad h) (sQ.of hB hW hS hf hg sA (by simp) (fun h8 => by simp at h8) (hR.nk rk) (cm 22 (by omega) (by decide)).2.1 (fun a => by rw [(cm 26 (by omega) (by decide)).2.1]; rfl) rfl) ⟨x, _, f2, .inl ⟨o63, rfl, by rw [Z_of32, k10, eP], rfl⟩⟩
theorem ct_w.sh {cb : Nat → Int32} {a : Nat} {gs : List gF} (hw : ct_w cb ν0 E a gs) : wk_sh ((cb a).toInt % 256) < 13 := by
  obtain ⟨m, st, h1, -⟩ := hw
  cases m with
  | zero => exact h1.elim
  | succ m =>
    by_cases h9 : 4 ≤ wk_sh ((cb a).toInt % 256)
    · obtain ⟨q, -, h8, -⟩ := h1.2.2.2.2.2 h9
      exact h8.2.2.2
    · omega
theorem caQ.s {rc rs bc' bs' i0 : Nat} {oc : Oc} {e : Option Int64} (hB : cB own ad h) (hW : wI own ad h W σ) (hf : fI ad h) (hq : caQ own ad h W σ rc rs own' ad' h' bc' bs' oc e) : sQ own ad h W σ rc rs own' ad' h' bc' bs' i0 oc e (w0 ad h) := by
  obtain ⟨c1, c2, c3, c4, c6, c5⟩ := hq
  have cm : ∀ k, k < 41 → k ∉ caC → ad' k = ad k ∧ xh_sm h h' (ad k) := fun k hk hn => c1.cm hB (by decide) (fun x hx => by cases hx) hk hn
  exact ⟨c1.sg (by decide), c2, c3, c4, c6, wF.st hB hW c1 (by decide) (cm 22 (by omega) (by decide)).1 (cm 22 (by omega) (by decide)).2.2.1 (fun a => by rw [(cm 26 (by omega) (by decide)).1, (cm 26 (by omega) (by decide)).2.2.1]; rfl) rfl, hf.st hB c1 (by decide) (fun x hx => by cases hx) (by decide) (by decide), c5⟩
theorem mc_step {rc rs bc bs n0 : Nat} {Qr : xb_H → Nat → Nat → Prop} (hB : cB own ad h) (hW : wI own ad h W σ) (hS : mS ad h) (hf : fI ad h) (hg : bgv ad h rc rs bc bs) (hr : rX ad h W D gx t P lcn p0 E lo ν0 g G) (hG : G 0 (gA (gx (D - 1))) (gC (gx (D - 1))) (gS (gx (D - 1)))) (hX : ∀ i, i < wic W → moB (wd W i)) (hn0 : (xb_i h (ad 27) 1).toInt = n0)
    (hQ : ∀ (h' : xb_H) (own' ad' : Nat → Nat) (bc' bs' : Nat) (oc : Oc) (e : Option Int64) (ε : wEf), sQ own ad h W σ rc rs own' ad' h' bc' bs' (gI (gx (D - 1))) oc e ε → stC h ad W D gx n0 (ct_B (dnu (wd W (gI (gx (D - 1))))) p0 E) ν0 ((dcb (wd W (gI (gx (D - 1)))) (gA (gx (D - 1)))).toInt % 256).toNat oc e ε → Qr h' bc' bs') : w_Machine_step (ad 15) h bc bs Qr := by
  obtain ⟨gs, hgs⟩ : ∃ gs, gs = gS (gx (D - 1)) := ⟨_, rfl⟩
  rw [← hgs] at hG
  obtain ⟨-, ⟨t1, t2, t3, t4, t5, t6, t7⟩, -, ⟨a, a5, b1, b2, b3, b7, b5, b6⟩, -, -⟩ := id hr
  obtain ⟨l5, hiO⟩ := hW.2.2.2.2.2.2.1.2.2.2 _ a5
  obtain ⟨⟨q1, q2, q3, q4, q5⟩, -⟩ := id hiO
  obtain ⟨⟨m1, m2, m3, m4, m5⟩, ⟨m6, m7, m8, m9⟩, -, -, m10⟩ := id q5.1
  have hby := q5.2.1.2.2.2.2.2.2.2.2.2.2.2.2.2
  obtain ⟨-, ⟨e1, e2, e3, e4, e5, -⟩, -, g0, -⟩ := id b1
  obtain ⟨⟨d1, d2, d3, d4, d5⟩, hl⟩ := g0 _ _ _ hG
  have hsh := d5.sh
  have k15 : xb_k h (ad 15) = 8 := hB.k 15 (by omega)
  have cat : (xb_i h (ad 15) 15).toNatClampNeg = gA (gx (D - 1)) := by rw [z_cl, t2, Int.toNat_natCast]
  unfold w_Machine_step w_Machine_step_L188
  refine ⟨k15, _, t6, m3, by rw [z_in, t2, m4]; omega, fun v5 e5' => ?_⟩
  rw [cat, m5] at e5'
  obtain ⟨o, ho⟩ : ∃ o : Nat, ((dcb (wd W (gI (gx (D - 1)))) (gA (gx (D - 1)))).toInt % 256) = o := ⟨_, (Int.toNat_of_nonneg (by omega)).symm⟩
  have hv5 : v5.toInt = o := by rw [e5', z_255, ho]
  rw [ho] at hl hsh
  rw [ho, Int.toNat_natCast] at hQ
  -- numeric instructions
  have num : ∀ (h1 : xb_H) (c : List Int), 69 ≤ o → gC (gx (D - 1)) = List.replicate (sgN o) (sgA o) ++ c → G 0 (gA (gx (D - 1)) + 1) (sgR o :: c) gs → nX own ad h W D gx t P lcn p0 E lo ν0 g G (nmt o (nVa (xb_l h (ad 37)) (gO (gx (D - 1)) + c.length)) (nVb o (xb_l h (ad 37)) (gO (gx (D - 1)) + c.length))) (nmI o (nVa (xb_l h (ad 37)) (gO (gx (D - 1)) + c.length)) (nVb o (xb_l h (ad 37)) (gO (gx (D - 1)) + c.length))) (sgR o :: c) h1 → ∀ h2 : xb_H, h2 = xb_I h1 (ad 15) 15 ((xb_i h1 (ad 15) 15) + 1) → Qr h2 bc bs := by
    intro h1 c h69 hcc hG2 hn h2 e2'
    have s2 : stp [15] [] own ad own ad h1 h2 := by rw [e2']; exact stp.Ic hn.1.1
    have sA := hn.1.tr s2
    have cm : ∀ k, k < 41 → k ∉ [15, 36, 37] ++ [15] → xh_sm h h2 (ad k) := fun k hk hn => (sA.cm hB (by decide) (fun x hx => by cases hx) hk hn).2
    have fin : ∀ oc : Oc, oR ad h ad h2 W oc → stC h ad W D gx n0 (ct_B (dnu (wd W (gI (gx (D - 1))))) p0 E) ν0 o oc none (w0 ad h) → Qr h2 bc bs := fun oc y1 y2 => hQ h2 own ad bc bs oc none (w0 ad h) (sQ.of hB hW hS hf hg sA (by simp) (fun h8 => by simp at h8) y1 (cm 22 (by omega) (by decide)).2.1 (fun a => by rw [(cm 26 (by omega) (by decide)).2.1]; rfl) rfl) y2
    have n1 : ad 36 ≠ ad 15 := hB.ne (by omega) (by omega) (by omega)
    rcases hn.2 with h9 | ⟨h9, h8, h7, h6⟩
    · refine fin _ ?_ ⟨fun h5 => by omega, fun _ h5 => by omega, fun _ h5 => by omega, fun _ h5 => by omega, fun _ h5 => by omega, fun _ => ⟨rfl, rfl, c, _, hcc, rfl, .inl ⟨h9.1, rfl⟩⟩⟩
      obtain ⟨⟨z1, z2⟩, z3, z4, z5⟩ := h9.2
      rw [e2']
      refine ⟨⟨?_, ?_⟩, z3, ?_, ?_⟩
      · rw [xh_iI, if_pos rfl, xh_up, if_neg (by omega)]; exact z1
      · rw [xh_iI, if_pos rfl, xh_up, if_neg (by omega)]; exact z2
      · rw [xh_iI, if_pos rfl, xh_up, if_neg (by omega)]; exact z4
      · rw [xh_iI, if_neg n1]; exact z5
    · have hz : (xb_i h1 (ad 15) 15 + 1).toInt = (gA (gx (D - 1)) + 1 : Nat) := by
        have := h8.2.1.2.1
        rw [gup.1] at this
        exact z_inc this (by have := (g0 _ _ _ hG2).1.2.1; omega)
      have hA := h8.at (gs := gs) hn.1.1 (by rw [gup.2.1]; exact hG2) hz
      rw [← e2', gup.2.1, gxu, h6] at hA
      refine fin _ (hA.nk h7) ⟨fun h5 => by omega, fun _ h5 => by omega, fun _ h5 => by omega, fun _ h5 => by omega, fun _ h5 => by omega, fun _ => ⟨rfl, rfl, c, _, hcc, rfl, .inr ⟨h9, ?_⟩⟩⟩
      rw [← hgs]
      simp only [List.length_cons]
      rfl
  have c1 : ∀ (y : Int32) (m : Int), y.toInt = m → (v5 < y ↔ (o : Int) < m) := fun y m hy => by rw [z_lt, hv5, hy]
  rw [c1 167 167 rfl, c1 139 139 rfl, c1 69 69 rfl, c1 65 65 rfl, c1 63 63 rfl, c1 40 40 rfl, c1 32 32 rfl]
  refine ⟨fun h167 => ⟨fun h139 => ⟨fun h69 => ⟨fun h65 => ⟨fun h63 => ⟨fun h40 => ⟨fun h32 => ?_, fun h32 => ?_⟩, fun h40 => ?_⟩, fun h63 => ?_⟩, fun h65 => ?_⟩, fun h69 => ?_⟩, fun h139 => ?_⟩, fun h167 => ?_⟩
  · exact mc_control hB hW hS hg hr hX hn0 hv5 hl (fun h' own' ad' bc' bs' oc e hq hco _ => hQ h' own' ad' bc' bs' oc e (w0 ad h) (hq.s hB hW hf) ⟨fun _ => ⟨rfl, by rw [← hgs]; exact hco⟩, fun h5 => by omega, fun h5 => by omega, fun h5 => by omega, fun h5 => by omega, fun h5 => by omega⟩)
  · have h36 : o ≤ 36 := by
      have : ∀ o, o < 40 → (32 ≤ o ∧ wk_sh ((o : Nat) : Int) < 13 → o ≤ 36) := by decide
      exact this o (by omega) ⟨by omega, hsh⟩
    refine mc_useNamed hB hW hS hr hv5 (by omega) h36 hl (fun h' c' a' s hW' hX hb hG2 hk ⟨i, hi, hu⟩ _ => ?_)
    refine hX.nt (a' := a') (gs := gs) s.1 hW' (by rw [gup.1, gup.2.2.1]; exact hb) (by rw [gup.2.1]; exact hG2) (fun h2 s2 hR => ?_)
    rw [gup.2.1, gxu] at hR
    have c2 : ∀ k, k < 41 → k ∉ [15] → xh_sm h' h2 (ad k) := fun k hk hn => (s2.cm s.1 (by decide) (fun x hx => by cases hx) hk hn).2
    have c26 := (s.cm hB (by decide) (fun x hx => by cases hx) (k := 26) (by omega) (by decide)).2
    refine hQ h2 own ad bc bs _ none (if o = 36 then some (vnI h W (gI (gx (D - 1))) i, xb_l h (ad 37) (gO (gx (D - 1)) + (gC (gx (D - 1))).length - 1)) else none, byA (xb_l h (ad 26)), 0) (sQ.of hB hW hS hf hg (s.tr s2) (by simp) (fun _ => hW'.mc s.1 s2 (by simp) (fun h8 => by simp at h8)) (hR.nk hk) ?_ (fun a => by rw [(c2 26 (by omega) (by decide)).2.1, c26.2.1]) rfl) ⟨fun h5 => by omega, fun _ _ => ⟨rfl, i, a', c', _, _, hi, hb, hu, by rw [← hgs]; rfl, rfl⟩, fun h5 => by omega, fun h5 => by omega, fun h5 => by omega, fun h5 => by omega⟩
    rw [(c2 22 (by omega) (by decide)).2.1]
    unfold eV
    by_cases o36 : o = 36
    · rw [if_pos o36]
      rcases hu with h8 | h8 | h8 | h8 | h8
      · omega
      · omega
      · omega
      · omega
      · exact h8.2.2.1
    · rw [if_neg o36]
      rcases hu with h8 | h8 | h8 | h8 | h8
      · exact h8.2.2.1
      · exact h8.2.2.1
      · exact h8.2.2.1
      · exact h8.2.2.1
      · exact absurd h8.1 o36
  · exact mc_useMemory hB hW hS hr hv5 (by omega) (by omega) hl (fun h' oc s hR hu _ => hQ h' own ad bc bs oc none (none, byA (xb_l h' (ad 26)), 0) (sQ.of hB hW hS hf hg s (by simp) (fun h8 => by simp at h8) hR (s.cm hB (by decide) (fun x hx => by cases hx) (k := 22) (by omega) (by decide)).2.2.1 (fun _ => rfl) rfl) ⟨fun h5 => by omega, fun _ h5 => by omega, fun _ _ => ⟨rfl, _, by rw [← hgs]; exact hu, rfl⟩, fun h5 => by omega, fun h5 => by omega, fun h5 => by omega⟩)
  · exact mc_sizeMemory hB hW hS hf hg hr hv5 (by omega) (by omega) hl (fun h' own' ad' bc' bs' oc ε hq hu _ => hQ h' own' ad' bc' bs' oc none ε hq ⟨fun h5 => by omega, fun _ h5 => by omega, fun _ h5 => by omega, fun _ _ => ⟨rfl, by rw [← hgs]; exact hu⟩, fun h5 => by omega, fun h5 => by omega⟩)
  · obtain ⟨x, f1, f2, f3⟩ := hl.2.2.2.2.2.2.2.2.2.2.2.2.2.2.2.2.1 (by omega) (by omega)
    have hlen := (g0 _ _ _ f3).1
    have hb := hby (gA (gx (D - 1)))
    have hdc : (dcb (wd W (gI (gx (D - 1)))) (gA (gx (D - 1)))).toInt = o := by omega
    refine ⟨_, t5, q1, _, q4, q5.1.k, mo_constantAt q5 t2 (by omega) (fun _ => by omega) (fun _ => ?_)⟩
    have hlg := hlen.2.2.1
    simp only [List.length_cons] at hlg
    refine hr.pu (τ := 192 - o) hB hS (by omega) (by rw [← hdc]; exact kc_vr (by omega) (by omega)) (fun h' s hX rv rk _ => ?_)
    have hW' : wI own ad h' W σ := hW.mc hB s (by simp) (fun h8 => by simp at h8)
    refine hX.nt (a' := x) (gs := gs) s.1 hW' (by rw [gup.1, gup.2.2.1]; exact f1) (by rw [gup.2.1]; exact f3) (fun h2 s2 hR => ?_)
    rw [gup.2.1, gxu, rv] at hR
    have sA := s.tr s2
    have cm : ∀ k, k < 41 → k ∉ [15, 37] ++ [15] → xh_sm h h2 (ad k) := fun k hk hn => (sA.cm hB (by decide) (fun x hx => by cases hx) hk hn).2
    exact hQ h2 own ad bc bs _ none (w0 ad h) (sQ.of hB hW hS hf hg sA (by simp) (fun h8 => by simp at h8) (hR.nk rk) (cm 22 (by omega) (by decide)).2.1 (fun a => by rw [(cm 26 (by omega) (by decide)).2.1]; rfl) rfl) ⟨fun h5 => by omega, fun _ h5 => by omega, fun _ h5 => by omega, fun _ h5 => by omega, fun _ _ => ⟨rfl, rfl, x, f1, by rw [← hgs]; rfl⟩, fun h5 => by omega⟩
  · obtain ⟨n1, c, n2, n3⟩ := hl.nm (by omega)
    exact mc_reckonWhole hB hW hS hf hr hv5 (by omega) (by omega) n2 (fun h' hn _ => num h' c (by omega) n2 n3 hn)
  · obtain ⟨n1, c, n2, n3⟩ := hl.nm (by omega)
    exact mc_reckonFloating hB hS hf hr hv5 (by omega) (by omega) n2 (fun h' hn _ => num h' c (by omega) n2 n3 (by rw [nmt_z (by omega)]; exact hn))
  · obtain ⟨n1, c, n2, n3⟩ := hl.nm (by omega)
    exact mc_convert hB hW hS hf hr hv5 (by omega) (by omega) n2 (fun h' hn _ => num h' c (by omega) n2 n3 hn)
end ST1
