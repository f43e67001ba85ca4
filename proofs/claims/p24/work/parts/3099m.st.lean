-- a run: a step
section ST1
variable {own own' ad ad' : Nat → Nat} {h h' h1 : xb_H} {W : wD} {σ D : Nat} {gx : Nat → fG} {t P lcn p0 E g : Nat} {lo ν0 : Nat → Int32} {G : ctG}
theorem rR.wg {np : Nat} (hr : rR ad h (wgr W np)) : rR ad h W := hr
theorem rX.wg {np : Nat} (hr : rX ad h W D gx t P lcn p0 E lo ν0 g G) : rX ad h (wgr W np) D gx t P lcn p0 E lo ν0 g G := hr
theorem rX.ad_ (hr : rX ad h W D gx t P lcn p0 E lo ν0 g G) (a15 : ad' 15 = ad 15) (a37 : ad' 37 = ad 37) (a38 : ad' 38 = ad 38) : rX ad' h W D gx t P lcn p0 E lo ν0 g G := by
  unfold rX mT at *
  rw [a15, a37, a38]
  exact hr
theorem sQ.of {C : List Nat} {rc rs bc bs : Nat} (hB : cB own ad h) (hW : wI own ad h W σ) (hS : mS ad h) (hf : fI ad h) (hg : bgv ad h rc rs bc bs) (s : stp C [] own ad own ad h h') (hC : ∀ k ∈ C, k = 15 ∨ k = 22 ∨ k = 26 ∨ k = 36 ∨ k = 37 ∨ k = 38) (hW' : 22 ∈ C → wI own ad h' W σ) (hr : rR ad h' W) : sQ own ad h W σ rc rs own ad h' bc bs := by
  have hC2 : ∀ k ∈ C, k ∈ goC := fun k hk => by
    rcases hC k hk with e | e | e | e | e | e <;> rw [e] <;> decide
  refine ⟨s.sg hC2, ⟨wnp W, ?_⟩, hS.st hB s, hr, hf.st hB s (fun k hk => goC_lt k (hC2 k hk)) (fun x hx => by cases hx) (fun h9 => by have := hC 39 h9; omega) (fun h9 => by have := hC 40 h9; omega), hg.st hB s⟩
  by_cases h9 : 22 ∈ C
  · exact hW' h9
  · exact hW.mc hB s hC (fun h8 => absurd h8 h9)
theorem mc_sizeMemory {x1 : Int32} {o rc rs bc bs : Nat} {gs : List gF} {Qr : xb_H → Nat → Nat → Prop} (hB : cB own ad h) (hW : wI own ad h W σ) (hS : mS ad h) (hf : fI ad h) (hg : bgv ad h rc rs bc bs) (hr : rX ad h W D gx t P lcn p0 E lo ν0 g G) (hx : x1.toInt = o) (h1 : 63 ≤ o) (h2 : o ≤ 64) (hl : ct_LC (dn (wd W (gI (gx (D - 1))))) (dvs (wd W (gI (gx (D - 1))))) (dcb (wd W (gI (gx (D - 1))))) lo t lcn ν0 G (ct_B (dnu (wd W (gI (gx (D - 1))))) p0 E) o (gA (gx (D - 1))) (gC (gx (D - 1))) gs)
    (hQ : ∀ (h' : xb_H) (own' ad' : Nat → Nat) (bc' bs' : Nat), sQ own ad h W σ rc rs own' ad' h' bc' bs' → Qr h' bc' bs') : w_Machine_sizeMemory (ad 15) x1 h bc bs Qr := by
  obtain ⟨-, ⟨t1, t2, t3, t4, t5, t6, t7⟩, -, ⟨a, a5, b1, b2, b3, b7, b5, b6⟩, -, -⟩ := id hr
  obtain ⟨l5, hiO⟩ := hW.2.2.2.2.2.2.1.2.2.2 _ a5
  obtain ⟨⟨q1, q2, q3, q4, q5⟩, -, -, -, -, -, tm1, tm2⟩ := id hiO
  obtain ⟨-, ⟨e1, e2, e3, e4, e5, -⟩, -, g0, -⟩ := id b1
  obtain ⟨f1, x, f2, f3, f4, f7, f8, f5, f6⟩ := hl.2.2.2.2.2.2.2.2.2.2.2.2.2.2.2.1 (by omega) (by omega)
  obtain ⟨ma, hma⟩ := tm1 f1
  obtain ⟨k1, k2, k3, k4, sl, pc, k5, k6, k7, k8, k9, k10, k11, k12⟩ := tm2 ma hma
  have hnp := hW.2.2.2.1.2
  have hRow := hW.2.2.2.1.1
  have k15 : xb_k h (ad 15) = 8 := hB.k 15 (by omega)
  have k37 : xb_k h (ad 37) = 103 := hB.k 37 (by omega)
  have r9 : xb_r h (ad 15) 9 = some (ad 37) := hB.r (15, 9, 37) (by decide)
  have S4 := hS.2.2.2
  unfold w_Machine_sizeMemory
  refine ⟨fun e => ?_, fun e => ⟨k15, _, t5, q1, ma, hma, k1, ?_⟩⟩
  · have o64 : o = 64 := by
      rw [z_eq, hx, show (63 : Int32).toInt = 63 from rfl] at e
      omega
    obtain ⟨c, hc, hG⟩ := f8 (by omega)
    obtain ⟨p1, p2, p3, p4⟩ := hr.tp1 hS hc
    -- the end, from what the growth left
    have fin : ∀ (own1 ad1 : Nat → Nat) (h12 : xb_H) (np bc1 bs1 : Nat) (r13 : Int32), stg own ad own1 ad1 h h12 → ad1 37 = ad 37 → ad1 38 = ad 38 → xh_sm h h12 (ad 15) → xh_sm h h12 (ad 37) → xh_sm h h12 (ad 38) → wI own1 ad1 h12 (wgr W np) σ → bg ad1 h12 (rc + vP (xb_n h (ad 37)) / 8) (rs + vP (xb_n h (ad 37))) bc1 bs1 → xb_k h12 (ad 37) = 103 ∧ vp_in (xb_i h (ad 15) 10 - 1) (xb_n h12 (ad 37)) ∧ ∀ h16 : xb_H, h16 = xb_L h12 (ad 37) (Int32.toNatClampNeg (xb_i h (ad 15) 10 - 1)) ((Int32.toInt64 r13) &&& 4294967295) → w_Machine_sizeMemory_L65 Qr (ad 15) h16 bc1 bs1 := by
      intro own1 ad1 h12 np bc1 bs1 r13 sg a37 a38 s15 s37 s38 hW12 hg12
      have a15 : ad1 15 = ad 15 := sg.2.2.2.2.2.2 15 (by decide)
      have a36 : ad1 36 = ad 36 := sg.2.2.2.2.2.2 36 (by decide)
      have hB1 := sg.1
      have n37 : xb_n h12 (ad 37) = xb_n h (ad 37) := (sg.2.2.2.1 _ (hB.z 37 (by omega))).2
      refine ⟨by rw [← a37]; exact hB1.k 37 (by omega), by rw [n37]; exact p1, fun h16 e16 => ?_⟩
      have hX1 : rX ad1 h12 (wgr W np) D gx t P lcn p0 E lo ν0 g G := ((hr.cg s15.1 s15.2.2 s38.1 n37 s37.2.1).ad_ a15 a37 a38).wg
      have hh := hX1.n1 (τ := 127) hB1 hc (p := Int32.toNatClampNeg (xb_i h (ad 15) 10 - 1)) p3 (v := (Int32.toInt64 r13) &&& 4294967295) vr_low
      rw [a37, ← e16] at hh
      have hS12 : mS ad1 h12 := by
        obtain ⟨S1, S2, S3, S4⟩ := hS
        unfold mS
        rw [a36, a37, a38, (sg.2.2.2.1 _ (hB.z 36 (by omega))).2, (sg.2.2.2.1 _ (hB.z 37 (by omega))).2, (sg.2.2.2.1 _ (hB.z 38 (by omega))).2]
        exact ⟨S1, S2, S3, S4⟩
      have hf12 : fI ad1 h12 := by
        obtain ⟨c39, s39⟩ := sg.cm hB (k := 39) (by omega) (by decide)
        obtain ⟨c40, s40⟩ := sg.cm hB (k := 40) (by omega) (by decide)
        exact ⟨by rw [c39]; exact hf.1.sm s39 sg.2.2.2.1, by rw [c40]; exact hf.2.sm s40 sg.2.2.2.1⟩
      have hgv : bgv ad1 h12 rc rs bc1 bs1 := by
        unfold bgv
        rw [a37, n37]
        exact hg12
      unfold w_Machine_sizeMemory_L65
      rcases hh.2 with h9 | h9
      · exfalso
        have := hX1.1.2.2.1
        rw [e16, xh_iL] at h9
        omega
      · have hW16 : wI own1 ad1 h16 (wgr W np) σ := hW12.mc hB1 hh.1 (by simp) (fun h8 => by simp at h8)
        rw [← a15]
        refine ⟨hh.1.1.k 15 (by omega), h9.nt (a' := x) (gs := gs) hh.1.1 hW16 (by rw [gup.1, gup.2.2.1]; exact f2) (by rw [gup.2.1]; rw [hc] at hG; exact hG) (fun h' s hR => hQ h' own1 ad1 bc1 bs1 ?_)⟩
        have sA := hh.1.tr s
        obtain ⟨y1, ⟨np', y2⟩, y3, y4, y5, y6⟩ := sQ.of hB1 hW12 hS12 hf12 hgv sA (by simp) (fun h8 => by simp at h8) hR
        exact ⟨sg.tr y1, ⟨np', y2⟩, y3, y4, y5, y6⟩
    refine ⟨k15, ad 37, r9, ad 14, hB.r (15, 0, 14) (by decide), _, t5, q1, ma, hma, ad 37, r9, k37, p1, hB.k 14 (by omega), ?_⟩
    rw [p3]
    refine wI_grow (np := wnp W) (pc := pc) hB hRow hnp k1 k2 k4 k5 k6 k7 k9 k10 k11 (p4 (.inl rfl)) hg (fun h12 own1 ad1 more bc1 bs1 r13 y1 y2 y3 y4 y5 y6 y7 y8 y9 _ => ?_) (fun _ _ => ?_)
    · have sg := y4.sg hB k2 k7
      have cm : ∀ k, k < 41 → k ≠ 25 → k ≠ 26 → xh_sm h h12 (ad k) := fun k hk h1 h2 => y4.2.2.2.2.1 _ (hB.z k hk) (hB.ne hk (by omega) h1) (hB.ne hk (by omega) h2) (fun e => hB.nk hk k2 (by omega) e.symm) (fun e => hB.nk hk k7 (by omega) e.symm)
      rw [← p3]
      exact fin own1 ad1 h12 (wnp W + more) bc1 bs1 r13 sg (y4.2.1 37 (by omega)) (y4.2.1 38 (by omega)) (cm 15 (by omega) (by omega) (by omega)) (cm 37 (by omega) (by omega) (by omega)) (cm 38 (by omega) (by omega) (by omega)) (wI_grown hB hW y4 k1 k2 k5 k6 k7 k8 k10 k11 k12 y2 y5 y6 y7 y8) y9
    · rw [← p3]
      exact fin own ad h (wnp W) bc bs (-1) (stg.rf hB) rfl rfl (xh_sm.rf _ _) (xh_sm.rf _ _) (xh_sm.rf _ _) hW hg
  · have o63 : o = 63 := by
      rw [z_eq, hx, show (63 : Int32).toInt = 63 from rfl] at e
      omega
    have hG := f7 (by omega)
    have hlen := (g0 _ _ _ hG).1.2.2.1
    simp only [List.length_cons] at hlen
    refine hr.pu (τ := 127) hB hS (by omega) (fun _ => by rw [Z_of32, k10]; omega) (fun h' s hX _ => ?_)
    have hW' : wI own ad h' W σ := hW.mc hB s (by simp) (fun h8 => by simp at h8)
    unfold w_Machine_sizeMemory_L65
    refine ⟨s.1.k 15 (by omega), hX.nt (a' := x) (gs := gs) s.1 hW' (by rw [gup.1, gup.2.2.1]; exact f2) (by rw [gup.2.1]; exact hG) (fun h2 s2 hR => hQ h2 own ad bc bs (sQ.of hB hW hS hf hg (s.tr s2) (by simp) (fun h8 => by simp at h8) hR))⟩
theorem ct_w.sh {cb : Nat → Int32} {a : Nat} {gs : List gF} (hw : ct_w cb ν0 E a gs) : wk_sh ((cb a).toInt % 256) < 13 := by
  obtain ⟨m, st, h1, -⟩ := hw
  cases m with
  | zero => exact h1.elim
  | succ m =>
    by_cases h9 : 4 ≤ wk_sh ((cb a).toInt % 256)
    · obtain ⟨q, -, h8, -⟩ := h1.2.2.2.2.2 h9
      exact h8.2.2.2
    · omega
theorem caQ.s {rc rs bc' bs' : Nat} (hB : cB own ad h) (hf : fI ad h) (hq : caQ own ad h W σ rc rs own' ad' h' bc' bs') : sQ own ad h W σ rc rs own' ad' h' bc' bs' := by
  obtain ⟨c1, c2, c3, c4, c5⟩ := hq
  exact ⟨c1.sg (by decide), ⟨wnp W, c2⟩, c3, c4, hf.st hB c1 (by decide) (fun x hx => by cases hx) (by decide) (by decide), c5⟩
theorem mc_step {rc rs bc bs : Nat} {Qr : xb_H → Nat → Nat → Prop} (hB : cB own ad h) (hW : wI own ad h W σ) (hS : mS ad h) (hf : fI ad h) (hg : bgv ad h rc rs bc bs) (hI : rI ad h W D gx)
    (hQ : ∀ (h' : xb_H) (own' ad' : Nat → Nat) (bc' bs' : Nat), sQ own ad h W σ rc rs own' ad' h' bc' bs' → Qr h' bc' bs') : w_Machine_step (ad 15) h bc bs Qr := by
  obtain ⟨t, P, lcn, p0, E, lo, ν0, g, G, gs, hr, hG⟩ := hI.op
  obtain ⟨-, ⟨t1, t2, t3, t4, t5, t6, t7⟩, -, ⟨a, a5, b1, b2, b3, b7, b5, b6⟩, -, -⟩ := id hr
  obtain ⟨l5, hiO⟩ := hW.2.2.2.2.2.2.1.2.2.2 _ a5
  obtain ⟨⟨q1, q2, q3, q4, q5⟩, -⟩ := id hiO
  obtain ⟨⟨m1, m2, m3, m4, m5⟩, ⟨m6, m7, m8, m9⟩, -, -, m10⟩ := id q5.1
  have hby := q5.2.1.2.2.2.2.2.2.2.2.2.2.2.2.2
  obtain ⟨-, ⟨e1, e2, e3, e4, e5, -⟩, -, g0, -⟩ := id b1
  obtain ⟨⟨d1, d2, d3, d4, d5⟩, hl⟩ := g0 _ _ _ hG
  have hsh := d5.sh
  have k15 : xb_k h (ad 15) = 8 := hB.k 15 (by omega)
  have cat : (xb_i h (ad 15) 15).toNatClampNeg = gA (gx (D - 1)) := by rw [z_cl, t2, Int.toNat_natCast]
  unfold w_Machine_step w_Machine_step_L188
  refine ⟨k15, _, t6, m3, by rw [z_in, t2, m4]; omega, fun v5 e5' => ?_⟩
  rw [cat, m5] at e5'
  obtain ⟨o, ho⟩ : ∃ o : Nat, ((dcb (wd W (gI (gx (D - 1)))) (gA (gx (D - 1)))).toInt % 256) = o := ⟨_, (Int.toNat_of_nonneg (by omega)).symm⟩
  have hv5 : v5.toInt = o := by rw [e5', z_255, ho]
  rw [ho] at hl hsh
  -- numeric instructions
  have num : ∀ (h1 : xb_H) (c : List Int), 69 ≤ o → G 0 (gA (gx (D - 1)) + 1) (sgR o :: c) gs → nX own ad h W D gx t P lcn p0 E lo ν0 g G (sgR o :: c) h1 → ∀ h2 : xb_H, h2 = xb_I h1 (ad 15) 15 ((xb_i h1 (ad 15) 15) + 1) → Qr h2 bc bs := by
    intro h1 c h69 hG2 hn h2 e2'
    have s2 : stp [15] [] own ad own ad h1 h2 := by rw [e2']; exact stp.Ic hn.1.1
    refine hQ h2 own ad bc bs (sQ.of hB hW hS hf hg (hn.1.tr s2) (by simp) (fun h8 => by simp at h8) ?_)
    rcases hn.2 with h9 | h9
    · left
      rw [e2', xh_iI, if_pos rfl, xh_up, if_neg (by omega), xh_up, if_neg (by omega)]
      exact h9
    · rw [e2']
      refine h9.at (gs := gs) hn.1.1 (by rw [gup.2.1]; exact hG2) ?_
      have := h9.2.1.2.1
      rw [gup.1] at this
      exact z_inc this (by have := (g0 _ _ _ hG2).1.2.1; omega)
  have c1 : ∀ (y : Int32) (m : Int), y.toInt = m → (v5 < y ↔ (o : Int) < m) := fun y m hy => by rw [z_lt, hv5, hy]
  rw [c1 167 167 rfl, c1 139 139 rfl, c1 69 69 rfl, c1 65 65 rfl, c1 63 63 rfl, c1 40 40 rfl, c1 32 32 rfl]
  refine ⟨fun h167 => ⟨fun h139 => ⟨fun h69 => ⟨fun h65 => ⟨fun h63 => ⟨fun h40 => ⟨fun h32 => ?_, fun h32 => ?_⟩, fun h40 => ?_⟩, fun h63 => ?_⟩, fun h65 => ?_⟩, fun h69 => ?_⟩, fun h139 => ?_⟩, fun h167 => ?_⟩
  · exact mc_control hB hW hS hg hr hv5 hl (fun h' own' ad' bc' bs' hq _ => hQ h' own' ad' bc' bs' (hq.s hB hf))
  · have h36 : o ≤ 36 := by
      have : ∀ o, o < 40 → (32 ≤ o ∧ wk_sh ((o : Nat) : Int) < 13 → o ≤ 36) := by decide
      exact this o (by omega) ⟨by omega, hsh⟩
    refine mc_useNamed hB hW hS hr hv5 (by omega) h36 hl (fun h' c' a' s hW' hX hb hG2 _ => ?_)
    exact hX.nt (a' := a') (gs := gs) s.1 hW' (by rw [gup.1, gup.2.2.1]; exact hb) (by rw [gup.2.1]; exact hG2) (fun h2 s2 hR => hQ h2 own ad bc bs (sQ.of hB hW hS hf hg (s.tr s2) (by simp) (fun _ => hW'.mc s.1 s2 (by simp) (fun h8 => by simp at h8)) hR))
  · exact mc_useMemory hB hW hS hr hv5 (by omega) (by omega) hl (fun h' s hR _ => hQ h' own ad bc bs (sQ.of hB hW hS hf hg s (by simp) (fun h8 => by simp at h8) hR))
  · exact mc_sizeMemory hB hW hS hf hg hr hv5 (by omega) (by omega) hl (fun h' own' ad' bc' bs' hq _ => hQ h' own' ad' bc' bs' hq)
  · obtain ⟨x, f1, f2, f3⟩ := hl.2.2.2.2.2.2.2.2.2.2.2.2.2.2.2.2.1 (by omega) (by omega)
    have hlen := (g0 _ _ _ f3).1
    have hb := hby (gA (gx (D - 1)))
    have hdc : (dcb (wd W (gI (gx (D - 1)))) (gA (gx (D - 1)))).toInt = o := by omega
    refine ⟨_, t5, q1, _, q4, q5.1.k, mo_constantAt q5 t2 (by omega) (fun _ => by omega) (fun _ => ?_)⟩
    have hlg := hlen.2.2.1
    simp only [List.length_cons] at hlg
    refine hr.pu (τ := 192 - o) hB hS (by omega) (by rw [← hdc]; exact kc_vr (by omega) (by omega)) (fun h' s hX _ => ?_)
    have hW' : wI own ad h' W σ := hW.mc hB s (by simp) (fun h8 => by simp at h8)
    exact hX.nt (a' := x) (gs := gs) s.1 hW' (by rw [gup.1, gup.2.2.1]; exact f1) (by rw [gup.2.1]; exact f3) (fun h2 s2 hR => hQ h2 own ad bc bs (sQ.of hB hW hS hf hg (s.tr s2) (by simp) (fun h8 => by simp at h8) hR))
  · obtain ⟨n1, c, n2, n3⟩ := hl.nm (by omega)
    exact mc_reckonWhole hB hW hS hf hr hv5 (by omega) (by omega) n2 (fun h' hn _ => num h' c (by omega) n3 hn)
  · obtain ⟨n1, c, n2, n3⟩ := hl.nm (by omega)
    exact mc_reckonFloating hB hS hf hr hv5 (by omega) (by omega) n2 (fun h' hn _ => num h' c (by omega) n3 hn)
  · obtain ⟨n1, c, n2, n3⟩ := hl.nm (by omega)
    exact mc_convert hB hW hS hf hr hv5 (by omega) (by omega) n2 (fun h' hn _ => num h' c (by omega) n3 hn)
end ST1
