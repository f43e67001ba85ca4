-- equality: feed, end, push, stop, clear
section GY
variable {oc oc' or_ or' A A' : Nat → Nat} {H H1 H2 h h2 : xb_H} {F F2 : Nat → Nat → Int32} {v v2 u : Nat → Int32} {DM DM' : Nat → zM} {len rl len' rl' : Nat} {ad ad' : Nat → Nat} {W W' : wD} {σ x1 mm x3 K ts ts' mc mc' bc bs bc1 bs1 rc rs : Nat} {M M' : Nat → mD} {Qr : Int32 → xb_H → Nat → Nat → Prop} {Qs : Int32 → xb_H → Prop} {Ql : Int64 → xb_H → Prop} {r : Int32} {y : Int64} {φ : Nat → Nat → Int32} {ℓ : Nat → Nat → Int64} {ν : Nat → Int32}
theorem sR.i {CA : List Nat} (h9 : sR A mm H H2) : ∀ k, k ∈ gAL → k ∉ CA → xb_i H2 (A k) = xb_i H (A k) := fun k hk _ => (h9.1 k (gAL_aL k (List.mem_append_left _ hk))).1
theorem sR.l {CL : List Nat} (h9 : sR A mm H H2) : ∀ k, k ∈ gLL → k ∉ CL → xb_l H2 (A k) = xb_l H (A k) := fun k hk _ => (h9.1 k (gAL_aL k (List.mem_append_right _ hk))).2
theorem sR.up {j : Nat} {w : Nat → Int32} (h9 : sR A mm H H2) (hB : mB or_ mm A h) (hj : ∃ e ∈ aL, e.1 = j) : ∀ k, k ∈ gAL → k ∉ [j] → va_up (xb_i H2) (A j) w (A k) = xb_i H (A k) := fun k hk hn => by
  rw [hB.up hj (gAL_aL k (List.mem_append_left _ hk)) (fun e => hn (by rw [e]; exact List.mem_singleton.mpr rfl))]
  exact h9.i (CA := []) k hk (by simp)
theorem vu2_gVL {j0 : Nat} {x y : Int32} : ∀ j, j ∈ gVL → j ∉ [j0] → va_up (va_up v 0 x) j0 y j = v j := fun j hj hn => by
  rw [xh_up, if_neg (fun e => hn (by rw [e]; exact List.mem_singleton.mpr rfl))]
  exact vu_gVL j hj
theorem stp.a0 {C : List Nat} (s : stp C [] oc ad oc' ad' H H1) : ad' 0 = ad 0 := s.2.2.2.2.2.2 0 (by decide)
theorem gw_feed {a1 a2 a3 a4 a5 : Int32} (hP : jG σ x1 mm x3 (K + 1) H bc bs) (hX : jV σ x1 mm x3 K (fun H1 b1 s1 Q2 => w_M_feed mm a1 a2 a3 a4 a5 H1 (fun r2 H2 => Q2 r2 H2 b1 s1)) Qr) : w_Law_feed x1 a1 a2 a3 a4 a5 x3 H bc bs Qr := by
  obtain ⟨oc, or_, A, v, DM, len, rl, ad, W, ts, mc, M, rc, rs, hO⟩ := hP.op
  obtain ⟨⟨e0, hI, hg, hM⟩, hQ, hA, eH, nx⟩ := id hO
  subst e0
  have hB := hI.1.1
  unfold w_Law_feed
  refine ⟨hB.k 0 (by omega), ho_feed hI hg (fun hts z H1 oc' ad' bc1 bs1 hz s h0 hlo hhi hI' hg' _ => ?_) (fun h9 _ _ => ⟨rfl, ?_⟩)⟩
  · refine jO.chV (w := fun H1 b1 s1 Q2 => w_M_feed mm a1 a2 a3 a4 a5 H1 (fun r2 H2 => Q2 r2 H2 b1 s1)) hO hX (s.hR hB (by decide)) s.a0 hI' (hM.st hB s (by decide) (by decide) (h0 3 (by decide))) hg' (fun H2 or' Q2 hA1 hs o3 hg2 hQ2 => r_feed hA1 (fun w hw1 hw2 hf hA' => ?_))
    obtain ⟨t2, t1⟩ := hQ.1
    have t3 : vN v 2 = ts := by unfold vN; rw [t2]; rfl
    have e2 : (v 2 + 20).toInt = (ts + 20 : Nat) := by
      rw [z_add, t2]
      simp only [Int32.reduceToInt]
      omega
    have ez : v 2 + 20 = z := Int32.toInt.inj (e2.trans hz.symm)
    rw [ez] at hA' ⊢
    obtain ⟨p1, p2, p3, p4, p5, p6, p7, p8, p9⟩ := hQ.stR hI hM s (by decide) (CA := [1]) (CL := []) (CV := [2]) (φ' := fun k => va_up (xb_i H2) (A 1) w (A k)) (ℓ' := fun k => xb_l H2 (A k)) (ν' := va_up (va_up v 0 0) 2 z) (y' := xb_l H2 mm 85) (hs.up hA1.1 (by decide)) hs.l vu2_gVL (congrFun hs.2 85)
    refine hQ2 _ _ _ hf hA' ⟨⟨?_, fun j hj => ?_⟩, p2 (by decide), p3 (by decide), p4 (by decide), p5 (by decide), ?_, p7 (by decide), p8 (by decide), p9 (by decide)⟩ (by rw [xh_up, if_neg (by decide)]; exact u0) rfl
    · rw [xh_up, if_pos rfl]
      exact hz
    · show (va_up (xb_i H2) (A 1) w (A 1) j).toInt = _
      rw [xh_up, if_pos rfl]
      by_cases h9 : j < ts
      · rw [hw1 j (by omega), hlo j h9, (hs.1 1 (by decide)).1]
        exact t1 j h9
      · have := hw2 (j - ts) (by omega)
        rw [t3] at this
        have e : ts + (j - ts) = j := by omega
        rw [e] at this
        have h8 := hhi (j - ts) (by omega)
        rw [e] at h8
        rw [this, h8]
    · obtain ⟨f1, f2⟩ := hQ.2.2.2.2.2.1
      unfold gFt
      rw [s.a0, h0 9 (by decide), h0 10 (by decide)]
      refine ⟨?_, ?_⟩
      · rw [← f1]
        exact congrFun (hs.up hA1.1 (by decide) 89 (by decide) (by decide)) 0
      · rw [← f2]
        exact congrFun (hs.up hA1.1 (by decide) 89 (by decide) (by decide)) 1
  · exfalso
    have t2 := hQ.1.1
    have := (hA.n (k := 2) (b := 10240) (by decide))
    omega
theorem gw_end {a1 : Int32} (hP : jG σ x1 mm x3 (K + 1) H bc bs) (hX : jU σ x1 mm x3 K (fun H1 b1 s1 Q2 => w_M_end mm a1 H1 (fun H2 => Q2 H2 b1 s1)) Qr) : w_Law_end x1 a1 H bc bs Qr := by
  obtain ⟨oc, or_, A, v, DM, len, rl, ad, W, ts, mc, M, rc, rs, hO⟩ := hP.op
  obtain ⟨⟨e0, hI, hg, hM⟩, hQ, hA, eH, nx⟩ := id hO
  subst e0
  have hB := hI.1.1
  obtain ⟨t2, t1⟩ := hQ.1
  have t3 : vN v 2 = ts := by unfold vN; rw [t2]; rfl
  unfold w_Law_end
  refine ⟨hB.k 0 (by omega), ho_end hI hg (fun t H1 ht htt e1 s hI' hg' _ => ?_) (fun h9 _ _ => ⟨rfl, ?_⟩)⟩
  · have i0 : ∀ j, j ≠ 1 → xb_i H1 (ad 0) j = xb_i H (ad 0) j := fun j hj => by
      rw [e1, xh_iI, if_pos rfl, xh_up, if_neg hj]
    refine jO.chU (w := fun H1 b1 s1 Q2 => w_M_end mm a1 H1 (fun H2 => Q2 H2 b1 s1)) hO hX (s.hR hB (by decide)) s.a0 hI' (hM.st hB s (by decide) (by decide) (i0 3 (by decide))) hg' (fun or' Q2 hA1 hs hg2 hQ2 => r_end hA1 (fun t' ht' _ hA' => ?_) (fun h9 => ?_))
    · have et : t' = t := by omega
      subst et
      obtain ⟨p1, p2, p3, p4, p5, p6, p7, p8, p9⟩ := hQ.stR hI hM s (by decide) (CA := []) (CL := []) (CV := [2]) (φ' := fun k => xb_i H1 (A k)) (ℓ' := fun k => xb_l H1 (A k)) (ν' := va_up (va_up v 0 0) 2 a1) (y' := xb_l H1 mm 85) hs.i hs.l vu2_gVL (congrFun hs.2 85)
      refine hQ2 _ _ _ f0.rf hA' ⟨⟨?_, fun j hj => ?_⟩, p2 (by decide), p3 (by decide), p4 (by decide), p5 (by decide), ?_, p7 (by decide), p8 (by decide), p9 (by decide)⟩ (by rw [xh_up, if_neg (by decide)]; exact u0)
      · rw [xh_up, if_pos rfl]
        exact ht
      · have a1' := (s.cm hB (by decide) (fun x hx => by cases hx) (k := 1) (by decide) (by decide)).2.1
        show (xb_i H1 (A 1) j).toInt = _
        rw [a1', (hs.1 1 (by decide)).1]
        exact t1 j (by omega)
      · obtain ⟨f1, f2⟩ := hQ.2.2.2.2.2.1
        unfold gFt
        rw [i0 9 (by decide), i0 10 (by decide)]
        have e89 := (hs.1 89 (by decide)).1
        exact ⟨(congrFun e89 0).trans f1, (congrFun e89 1).trans f2⟩
    · exfalso
      omega
  · refine jO.twU (w := fun H1 b1 s1 Q2 => w_M_end mm a1 H1 (fun H2 => Q2 H2 b1 s1)) hO hX (fun or' rc' rs' Q2 hA1 hg1 hQ2 => r_end hA1 (fun t' ht' _ hA' => ?_) (fun h9 hA' => ?_))
    · exfalso
      omega
    · refine hQ2 _ hA' (fun j hj => ?_) (by rw [xh_up, if_neg (by decide)]; exact u0)
      by_cases h2 : j = 2
      · rw [h2, xh_up, if_pos rfl]
      · exact vu2_gVL j hj (by simpa using h2)
theorem gw_push {a1 : Int64} (hP : jG σ x1 mm x3 (K + 1) H bc bs) (hX : jV σ x1 mm x3 K (fun H1 b1 s1 Q2 => w_M_push mm a1 H1 (fun r2 H2 => Q2 r2 H2 b1 s1)) Qr) : w_Law_push x1 a1 x3 H bc bs Qr := by
  obtain ⟨oc, or_, A, v, DM, len, rl, ad, W, ts, mc, M, rc, rs, hO⟩ := hP.op
  obtain ⟨⟨e0, hI, hg, hM⟩, hQ, hA, eH, nx⟩ := id hO
  subst e0
  have hB := hI.1.1
  obtain ⟨n66, n66b⟩ := hA.n (k := 66) (b := 1000) (by decide)
  obtain ⟨r1, r2⟩ := hQ.2.2.2.2.1
  unfold w_Law_push
  refine ⟨hB.k 0 (by omega), ho_push hI hg (r1.trans n66) (fun hna z H1 oc' q bc1 bs1 hz s i1 hlo hhi hI' hg' _ => ?_) (fun h9 _ _ => ⟨rfl, ?_⟩)⟩
  · have a16 : va_up ad 17 q 16 = ad 16 := by rw [xh_up, if_neg (by decide)]
    have a17 : va_up ad 17 q 17 = q := by rw [xh_up, if_pos rfl]
    have i03 : xb_i H1 (ad 0) 3 = xb_i H (ad 0) 3 := by rw [(s.cm hB (by decide) (fun x hx => by cases hx) (k := 0) (by decide) (by decide)).2.1]
    refine jO.chV (w := fun H1 b1 s1 Q2 => w_M_push mm a1 H1 (fun r2 H2 => Q2 r2 H2 b1 s1)) hO hX (s.hR hB (by decide)) s.a0 hI' (hM.st hB s (by decide) (by decide) i03) hg' (fun H2 or' Q2 hA1 hs o3 hg2 hQ2 => r_push hA1 (fun _ hf hA' => ?_) (fun h9 => absurd h9 (by omega)))
    have e66 : (v 66 + 1).toInt = (vN v 66 + 1 : Nat) := by
      rw [z_add, n66]
      simp only [Int32.reduceToInt]
      omega
    have ez : v 66 + 1 = z := Int32.toInt.inj (e66.trans hz.symm)
    rw [ez] at hA' ⊢
    have o65 := hA1.1.o (k := 65) (by decide)
    have hl : ∀ k, k ∈ gLL → k ∉ [65] → xb_l (xb_L H2 (A 65) (vN v 66) a1) (A k) = xb_l H (A k) := fun k hk hn => by
      have ok := hA1.1.o (gAL_aL k (List.mem_append_right _ hk))
      have hne : k ≠ 65 := fun e => hn (by rw [e]; exact List.mem_singleton.mpr rfl)
      rw [xh_lL, if_neg (fun h9 => by rw [h9] at ok; omega)]
      exact hs.l (CL := []) k hk (by simp)
    have hm : xb_l (xb_L H2 (A 65) (vN v 66) a1) mm 85 = xb_l H mm 85 := by
      have om := hA1.1.1
      rw [xh_lL, if_neg (fun h9 => by rw [h9] at om; omega)]
      exact congrFun hs.2 85
    obtain ⟨p1, p2, p3, p4, p5, p6, p7, p8, p9⟩ := hQ.stR hI hM s (by decide) (CA := []) (CL := [65]) (CV := [66]) (φ' := fun k => xb_i H2 (A k)) (ℓ' := fun k => xb_l (xb_L H2 (A 65) (vN v 66) a1) (A k)) (ν' := va_up (va_up v 0 0) 66 z) (y' := xb_l (xb_L H2 (A 65) (vN v 66) a1) mm 85) hs.i hl vu2_gVL hm
    refine hQ2 _ _ _ hf hA' ⟨p1 (by decide), p2 (by decide), p3 (by decide), p4 (by decide), ⟨?_, fun j hj => ?_⟩, p6 (by decide), p7 (by decide), p8 (by decide), p9 (by decide)⟩ (by rw [xh_up, if_neg (by decide)]; exact u0) ?_
    · rw [a16, i1, xh_up, if_pos rfl, hz]
    · rw [xh_up, if_pos rfl, hz] at hj
      show xb_l (xb_L H2 (A 65) (vN v 66) a1) (A 65) j = _
      rw [a17, xh_lL, if_pos rfl, xh_up]
      by_cases h9 : j = vN v 66
      · rw [if_pos h9, h9, hhi]
      · rw [if_neg h9, (hs.1 65 (by decide)).2, hlo j (by omega)]
        exact r2 j (by omega)
    · rw [xh_lL, if_neg (fun h9 => by rw [h9] at o3; omega)]
  · refine jO.twV (w := fun H1 b1 s1 Q2 => w_M_push mm a1 H1 (fun r2 H2 => Q2 r2 H2 b1 s1)) hO hX (by decide) (fun or' rc' rs' Q2 hA1 hg1 hQ2 => r_push hA1 (fun h8 => absurd h8 (by omega)) (fun _ hA' => hQ2 _ _ hA' vu_gVL u0))
theorem gw_stop (hP : jG σ x1 mm x3 (K + 1) H bc bs) (hX : jW σ x1 mm x3 K bc bs (fun H1 Q2 => w_M_stop mm H1 Q2) Qs) : xb_k H x1 = 1 ∧ w_H_stop x1 H Qs := by
  obtain ⟨oc, or_, A, v, DM, len, rl, ad, W, ts, mc, M, rc, rs, hO⟩ := hP.op
  obtain ⟨⟨e0, hI, hg, hM⟩, hQ, hA, eH, nx⟩ := id hO
  subst e0
  have hB := hI.1.1
  refine ⟨hB.k 0 (by omega), ho_stop hI hg (fun H1 s i3 i4 ik el hI' hg' => ?_)⟩
  have i03 : xb_i H1 (ad 0) 3 = xb_i H (ad 0) 3 := by rw [(s.cm hB (by decide) (fun x hx => by cases hx) (k := 0) (by decide) (by decide)).2.1]
  refine jO.chW (w := fun H1 Q2 => w_M_stop mm H1 Q2) hO hX (s.hR hB (by decide)) s.a0 hI' (hM.st hB s (by decide) (by decide) i03) hg' (fun or' Q2 hA1 hs hQ2 => r_stop hA1 (fun hA' => ?_))
  obtain ⟨d1, d2, d3⟩ := hQ.2.2.2.2.2.2.2.1.dp hI
  have e9 : (if v 62 = 0 then 0 else v 68) = xb_i H (ad 15) 4 := by
    by_cases h62 : v 62 = 0
    · rw [if_pos h62, (d1 h62).1]
    · by_cases h63 : v 63 = 0
      · rw [if_neg h62, (d2 h62 h63).1, (d2 h62 h63).2]
      · rw [if_neg h62, d3 h62 h63]
  rw [e9]
  have hv : ∀ j, j ∈ gVL → j ∉ [62, 68] → va_up (va_up (va_up v 0 0) 62 0) 68 0 j = v j := fun j hj hn => by
    have : j ≠ 62 ∧ j ≠ 68 := by simpa using hn
    rw [xh_up, if_neg this.2, xh_up, if_neg this.1]
    exact vu_gVL j hj
  obtain ⟨p1, p2, p3, p4, p5, p6, p7, p8, p9⟩ := hQ.stR hI hM s (by decide) (CA := []) (CL := []) (CV := [62, 68]) (φ' := fun k => xb_i H1 (A k)) (ℓ' := fun k => xb_l H1 (A k)) (ν' := va_up (va_up (va_up v 0 0) 62 0) 68 0) (y' := xb_l H1 mm 85) hs.i hs.l hv (congrFun hs.2 85)
  refine hQ2 _ _ _ f0.rf hA' ⟨p1 (by decide), p2 (by decide), p3 (by decide), p4 (by decide), p5 (by decide), p6 (by decide), ?_, .inl ⟨Int32.toInt.inj i3, ?_, ?_⟩, p9 (by decide)⟩
  · obtain ⟨g1, g2⟩ := hQ.2.2.2.2.2.2.1
    have s36 := (s.cm hB (by decide) (fun x hx => by cases hx) (k := 36) (by decide) (by decide)).2
    unfold gRs
    rw [hs.2, el, s36.1]
    exact ⟨g1, fun j hj => (congrFun (hs.1 86 (by decide)).1 j).trans (g2 j hj)⟩
  · rw [xh_up, if_neg (by decide), xh_up, if_pos rfl]
  · rw [xh_up, if_pos rfl]
/-- parts of the world that stay -/
theorem gWd.part {C : List Nat} (hI : cI oc ad H W σ ts K) (s : stp C [] oc ad oc' ad' H H1) (hC : ∀ k ∈ C, k < 41) (h3 : ∀ k, k ∈ [2, 22, 24] → k ∉ C) (q3 : gWd ad H W mc M φ ℓ ν DM) : (∀ i, i < wic W → (φ 31 i).toInt.toNat < mc ∧ wd W i = M (φ 31 i).toInt.toNat ∧ xb_r H1 (ad' 2) (φ 31 i).toInt.toNat = some (wim W i) ∧ (dn (wd W i) 3 / 3 = 0 → xb_r H1 (wia W i) 6 = none) ∧ (dn (wd W i) 4 / 3 = 0 → xb_r H1 (wia W i) 7 = none)) ∧ stQ H1 ad' W id φ DM (ℓ 55) ∧ (∀ j, j < wnv W → ℓ 61 j = xb_l H1 (ad' 22) j) ∧ (∀ i, i < wic W → 0 < dn (wd W i) 4 / 3 → (φ 54 (gmV id φ DM i)).toInt = mmP H1 W i ∧ ∀ j, j < mmP H1 W i → φ 56 (16 * gmV id φ DM i + j) = xb_i H1 (mmS H1 W i) j) := by
  obtain ⟨⟨hB, hW, -⟩, -⟩ := hI
  have cm : ∀ k, k < 41 → k ∉ C → ad' k = ad k ∧ xh_sm H H1 (ad k) := fun k hk hn => s.cm hB hC (fun x hx => by cases hx) hk hn
  have s1 : ∀ a, xb_k H a ≠ 0 → oc a = 1 ∨ oc a = 50 ∨ oc a = 51 → xh_sm H H1 a := fun a ha ho => s.n1 hB hC ha (fun h9 => by cases h9) rfl (by omega)
  obtain ⟨c1, c2, c3, ⟨w1, w2, w4, w5, w6, w7⟩⟩ := q3
  obtain ⟨a2, s2⟩ := cm 2 (by decide) (h3 2 (by decide))
  obtain ⟨a22, s22⟩ := cm 22 (by decide) (h3 22 (by decide))
  obtain ⟨a24, s24⟩ := cm 24 (by decide) (h3 24 (by decide))
  refine ⟨fun i hi => ?_, c3.sm hW s1 a24 s24.2.1, ?_, fun i hi hm => ?_⟩
  · rw [(smI hW s1 hi).2.2.2.1, a2, s2.2.2]
    exact c2 i hi
  · rw [a22, s22.2.1]
    exact w1
  · obtain ⟨k1, k2, k3, k4, k5⟩ := (smI hW s1 hi).2.2.2.2 hm
    rw [k4, k2, k5]
    exact w4 i hi hm
theorem gw_clear (hP : jG σ x1 mm x3 (K + 1) H bc bs) (hX : jW σ x1 mm x3 K bc bs (fun H1 Q2 => w_M_clear mm H1 Q2) Qs) : xb_k H x1 = 1 ∧ w_H_clear x1 H Qs := by
  obtain ⟨oc, or_, A, v, DM, len, rl, ad, W, ts, mc, M, rc, rs, hO⟩ := hP.op
  obtain ⟨⟨e0, hI, hg, hM⟩, hQ, hA, eH, nx⟩ := id hO
  subst e0
  have hB := hI.1.1
  refine ⟨hB.k 0 (by omega), ho_clear hI hg (fun H1 e1 s hI' hg' => ?_)⟩
  have i03 : xb_i H1 (ad 0) 3 = xb_i H (ad 0) 3 := by rw [(s.cm hB (by decide) (fun x hx => by cases hx) (k := 0) (by decide) (by decide)).2.1]
  refine jO.chW (w := fun H1 Q2 => w_M_clear mm H1 Q2) hO hX (s.hR hB (by decide)) s.a0 hI' (hM.st hB s (by decide) (by decide) i03) hg' (fun or' Q2 hA1 hs hQ2 => r_clear hA1 (fun hA' => ?_))
  have e9 : v 88 = xb_i H (ad 27) 1 := hQ.2.2.1.2.2.2.2.2.2.2.1
  rw [e9]
  obtain ⟨p1, p2, p3, p4, p5, p6, p7, p8, p9⟩ := hQ.stR hI hM s (by decide) (CA := []) (CL := []) (CV := [88]) (φ' := fun k => xb_i H1 (A k)) (ℓ' := fun k => xb_l H1 (A k)) (ν' := va_up (va_up v 0 0) 88 0) (y' := xb_l H1 mm 85) hs.i hs.l vu2_gVL (congrFun hs.2 85)
  refine hQ2 _ _ _ f0.rf hA' ⟨p1 (by decide), p2 (by decide), ?_, p4 (by decide), p5 (by decide), p6 (by decide), p7 (by decide), p8 (by decide), p9 (by decide)⟩
  obtain ⟨g2, g3, g4, g5⟩ := gWd.part hI s (by decide) (by decide) hQ.2.2.1
  obtain ⟨⟨c1, c1b, c1c, c1d⟩, -, -, ⟨w1, w2, w4, w5, w6, w7⟩⟩ := hQ.2.2.1
  have hn : gWd ad H1 W mc M (fun k => xb_i H (A k)) (fun k => xb_l H (A k)) (va_up v 88 0) DM := by
    have vn : ∀ j, j ≠ 88 → vN (va_up v 88 0) j = vN v j := fun j hj => by unfold vN; rw [xh_up, if_neg hj]
    have s26 := (s.cm hB (by decide) (fun x hx => by cases hx) (k := 26) (by decide) (by decide)).2
    refine ⟨⟨by rw [vn 30 (by decide)]; exact c1, by rw [vn 43 (by decide)]; exact c1b, by rw [vn 58 (by decide)]; exact c1c, by rw [vn 47 (by decide)]; exact c1d⟩, g2, g3, g4, ?_, g5, ?_, ?_, fun j hj => ?_⟩
    · rw [s26.2.1]
      exact w2
    · show (va_up v 88 0 53).toInt = _
      rw [xh_up, if_neg (by decide)]
      exact w5
    · show va_up v 88 0 88 = _
      rw [xh_up, if_pos rfl, e1, xh_iI, if_pos rfl, xh_up, if_pos rfl]
    · rw [e1, xh_iI, if_pos rfl, xh_up, if_pos rfl] at hj
      exact absurd hj (by simp only [Int32.reduceToInt]; omega)
  refine hn.cg (fun k hk => hs.i (CA := []) k ((by decide : ∀ k, k ∈ gWL → k ∈ gAL) k hk) (by simp)) (fun k hk => hs.l (CL := []) k ((by decide : ∀ k, k ∈ [55, 61, 87] → k ∈ gLL) k hk) (by simp)) (fun j hj => ?_)
  by_cases h88 : j = 88
  · rw [h88, xh_up, if_pos rfl, xh_up, if_pos rfl]
  · rw [xh_up, if_neg h88, xh_up v 88, if_neg h88]
    exact vu_gVL j ((by decide : ∀ k, k ∈ [30, 43, 47, 53, 58, 88] → k ∈ gVL) j hj)
end GY
