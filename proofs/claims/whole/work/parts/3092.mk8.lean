-- a module becomes an instance
/-- how many elements and bytes a module's instance would have -/
def eS (ad : Nat → Nat) (h : xb_H) (d : mD) : Int := match xb_r h (ad 14) 14 with | some ta => (xb_i h ta 1).toInt | none => ol d 3 1
def bS (ad : Nat → Nat) (h : xb_H) (d : mD) : Int := match xb_r h (ad 14) 15 with | some ma => 65536 * (xb_i h ma 3).toInt | none => 65536 * ol d 4 2
/-- what is made of a module, its elements and data written -/
def mkG (own ad : Nat → Nat) (h : xb_H) (W : wD) (md : Nat) (d : mD) (q : Nat) (ms : Nat → Nat) (own' ad' : Nat → Nat) (h' : xb_H) : Prop :=
  ∃ h1 h2 : xb_H, mkF own ad h W md d q own' ad' h1 ∧ wrR ad' 24 h1 h2 ∧ wrR ad' 26 h2 h' ∧
  (∀ e, (xb_l h2 (ad' 24) e).toInt = wrr (elL d) (elA ad' h1 (wN1 W md d q ms) (wic W)) (elX h1 (wN1 W md d q ms) (wic W)) (fun e => (xb_l h1 (ad' 24) e).toInt) (dn d 7 / 5) e) ∧
  (∀ b, byA (xb_l h' (ad' 26)) b = wrr (daL d) (daA ad' h2 (wN1 W md d q ms) (wic W)) (daX d) (byA (xb_l h2 (ad' 26))) (dn d 11 / 5) b)
section MK8
variable {own own' own2 ad ad' ad2 : Nat → Nat} {h h' h2 : xb_H} {W : wD} {σ : Nat}
theorem wrR.stp {c : Nat} (hr : wrR ad c h h') (hB : cB own ad h) : stp [c] [] own ad own ad h h' := ⟨hr.B hB, fun _ _ => rfl, fun _ _ => rfl, hr.ex, fun a _ _ hc => hr.sm (hc c (by simp)), fun _ => .inl rfl, fun _ _ => rfl⟩
theorem wI_make {md rc rs bc bs : Nat} {d : mD} {Qr : Int32 → xb_H → Nat → Nat → Prop} (hB : cB own ad h) (hW : wI own ad h W σ) (hm : mo own h md d) (hS : lkS own ad h W d (dn d 1 / 7)) (hic : wic W < 24) (hno : wno W + (nf d - ni d 0) ≤ 8192) (hnv : wnv W + (nvr d - ni d 3) ≤ 4096) (hne : (wne W : Int) + ol d 3 1 ≤ 16384) (hnp : (wnp W : Int) + ol d 4 2 ≤ 16) (hg : bg ad h (rc + 6) (rs + (31 + (ni d 0 + ni d 3))) bc bs)
    (hbE : ∀ j, j < dn d 7 / 5 → (cv ad h d (dvs d 7 (5 * j + 2)).toInt.toNat).toInt + (dvs d 7 (5 * j + 4)).toInt ≤ eS ad h d)
    (hbD : ∀ j, j < dn d 11 / 5 → (cv ad h d (dvs d 11 (5 * j + 2)).toInt.toNat).toInt + (dvs d 11 (5 * j + 4)).toInt ≤ bS ad h d)
    (hQ : ∀ (q : Nat) (ms : Nat → Nat) (h' : xb_H) (own' ad' : Nat → Nat) (bc' bs' : Nat) (r : Int32), stp mkC [] own ad own' ad' h h' → mkG own ad h W md d q ms own' ad' h' → wI own' ad' h' (wN1 W md d q ms) σ → (∀ a, xb_k h a ≠ 0 → ms a = wms W a) → r.toInt = wic W → xb_i h' (ad 14) 11 = xb_i h (ad 14) 11 → bg ad' h' rc rs bc' bs' → Qr r h' bc' bs') : w_World_make (ad 14) md h bc bs Qr := by
  obtain ⟨n1, n2, n3, n4, n5, n6, n7, n8⟩ := hm.nn
  refine wI_mkA hB hW hm hS hic hno hnv hne hnp hg (fun q h' own' ad' bc' bs' hF hg' => ?_)
  have hF0 := hF
  obtain ⟨s, hO, hV, -, hE, ⟨hP, -⟩, hI, hA, ⟨zq, kq, oq, i0, r1⟩, ⟨fa, fa1, fa2, fa3, fa4, fa5⟩, ⟨va, va1, va2, va3, va4, va5⟩, i4, i5, hT, hM⟩ := hF
  have hm' := hm.st hB s mkC_lt (fun x hx => by cases hx)
  obtain ⟨S1, S2, S3, S4⟩ := id hS
  have c0 : ni d 0 = mcnt (dvs d 1) 0 (dn d 1 / 7) := n8 0 (by omega)
  have c1 : ni d 1 = mcnt (dvs d 1) 1 (dn d 1 / 7) := n8 1 (by omega)
  have c2 : ni d 2 = mcnt (dvs d 1) 2 (dn d 1 / 7) := n8 2 (by omega)
  have c3 : ni d 3 = mcnt (dvs d 1) 3 (dn d 1 / 7) := n8 3 (by omega)
  rw [← c0] at S1
  rw [← c1] at S3
  rw [← c2] at S4
  rw [← c3] at S2
  clear c0 c1 c2 c3
  have sm1 : ∀ a t, xb_k h a ≠ 0 → own a = t → t < 2 ∨ 42 < t → xh_sm h h' a := fun a t ha h1 h2 => s.n1 hB mkC_lt ha (by simp) h1 h2
  have he := s.2.2.2.1
  have ho := s.2.2.1
  have A : ∀ j, j ∉ itl → ad' j = ad j := s.2.2.2.2.2.2
  have a14 := A 14 (by decide)
  have a25 := A 25 (by decide)
  have cm : ∀ k, k < 41 → k ∉ mkC → ad' k = ad k ∧ xh_sm h h' (ad k) := fun k hk hn => s.cm hB mkC_lt (fun x hx => by cases hx) hk hn
  obtain ⟨b34, c34⟩ := cm 34 (by omega) (by decide)
  obtain ⟨b35, c35⟩ := cm 35 (by omega) (by decide)
  have l35 : xb_l h' (ad' 35) = xb_l h (ad 35) := by rw [b35, c35.2.1]
  have p3 := (ol_rg hm (.inl ⟨rfl, rfl⟩)).1
  have p4 := (ol_rg hm (.inr ⟨rfl, rfl⟩)).1
  obtain ⟨ms, hms, hmq⟩ : ∃ ms : Nat → Nat, (∀ a, xb_k h a ≠ 0 → ms a = wms W a) ∧ ∀ ma sl, xb_r h' q 7 = some ma → xb_k h sl = 0 → xb_r h' ma 2 = some sl → ms sl = ma := by
    rcases hM with ⟨f1, f2⟩ | ⟨f0, ma, sl, f1, f2, f3, f4, f5, f6, f7, f8, f9⟩
    · refine ⟨wms W, fun _ _ => rfl, fun ma sl g1 g2 g3 => ?_⟩
      exfalso
      rw [f2] at g1
      by_cases h9 : ni d 2 = 0
      · rw [S4.1 h9] at g1
        cases g1
      · obtain ⟨ma2, k1, k2⟩ := S4.2 (by omega)
        rw [k1] at g1
        injection g1 with g1
        subst g1
        obtain ⟨m1, m2, m3, m4, sl2, pc, m5, m6, m7⟩ := k2
        rw [(sm1 ma2 50 (by omega) m2 (by omega)).2.2, m5] at g3
        injection g3 with g3
        rw [g3, g2] at m6
        cases m6
    · refine ⟨va_up (wms W) sl ma, fun a ha => by rw [xh_up, if_neg (fun (e : a = sl) => ha (e ▸ f3))], fun ma2 sl2 g1 g2 g3 => ?_⟩
      rw [f1] at g1
      injection g1 with g1
      subst g1
      rw [f8] at g3
      injection g3 with g3
      rw [← g3, xh_up, if_pos rfl]
  obtain ⟨W2, hW2⟩ : ∃ W2, W2 = wN1 W md d q ms := ⟨_, rfl⟩
  have hle : wle h W W2 := by rw [hW2]; exact wN1_le hW hms
  have wiaq : wia W2 (wic W) = q := by rw [hW2]; show va_up _ _ _ _ = _; rw [xh_up, if_pos rfl]
  have wimq : wim W2 (wic W) = md := by rw [hW2]; show va_up _ _ _ _ = _; rw [xh_up, if_pos rfl]
  have wdq : wd W2 (wic W) = d := by rw [hW2]; show va_up (wMD W) (wic W) d (wic W) = d; rw [xh_up, if_pos rfl]
  have wffq : wff W2 (wic W) = wno W := by rw [hW2]; show va_up _ _ _ _ = _; rw [xh_up, if_pos rfl]
  have wfvq : wfv W2 (wic W) = wnv W := by rw [hW2]; show va_up _ _ _ _ = _; rw [xh_up, if_pos rfl]
  have e_no : wno W2 = wno W + (nf d - ni d 0) := by rw [hW2]; rfl
  have e_nv : wnv W2 = wnv W + (nvr d - ni d 3) := by rw [hW2]; rfl
  have e_ne : wne W2 = wne W + (ol d 3 1).toNat := by rw [hW2]; rfl
  have e_np : wnp W2 = wnp W + (ol d 4 2).toNat := by rw [hW2]; rfl
  have e_ic : wic W2 = wic W + 1 := by rw [hW2]; rfl
  have e_ms : wms W2 = ms := by rw [hW2]; rfl
  -- its table and memory
  have gT : (0 < dn d 3 / 3 → ∃ ta, xb_r h' q 6 = some ta ∧ (xb_i h' ta 1).toInt = eS ad h d) ∧ ∀ ta, xb_r h' q 6 = some ta → tO own' h' W2 ta := by
    have l2 := hm.2.1.2.2.2.1.2
    rcases hT with ⟨f1, f2⟩ | ⟨f0, ta, f1, f2, f3, f4, f5, -⟩
    · rw [f2]
      by_cases h9 : ni d 1 = 0
      · rw [S3.1 h9]
        exact ⟨fun h8 => by omega, fun ta h8 => by cases h8⟩
      · obtain ⟨ta, k1, k2⟩ := S3.2 (by omega)
        rw [k1]
        refine ⟨fun _ => ⟨ta, rfl, ?_⟩, fun ta2 h8 => ?_⟩
        · unfold eS
          rw [k1, (sm1 ta 1 (by have := k2.1; omega) k2.2.1 (by omega)).1]
        · injection h8 with h8
          subst h8
          exact (k2.fr (fun a ha h9 => sm1 a 1 ha h9 (by omega)) he ho).mono hle
    · refine ⟨fun h8 => ⟨ta, f1, ?_⟩, fun ta2 h8 => ?_⟩
      · unfold eS
        rw [S3.1 (by omega), f5]
        show _ = ol d 3 1
        omega
      · rw [f1] at h8
        injection h8 with h8
        subst h8
        exact ⟨f2, f3, wne W, (ol d 3 1).toNat, f4, f5, by omega⟩
  have gM : (0 < dn d 4 / 3 → ∃ ma pc : Nat, xb_r h' q 7 = some ma ∧ (xb_i h' ma 3).toInt = pc ∧ 65536 * (pc : Int) = bS ad h d) ∧ ∀ ma, xb_r h' q 7 = some ma → mO own' ad' h' W2 ma := by
    have l2 := hm.2.1.2.2.2.2.1.2.1
    rcases hM with ⟨f1, f2⟩ | ⟨f0, ma, sl, f1, f2, f3, f4, f5, f6, f7, f8, f9, f10, f11, f12, f13, -⟩
    · rw [f2]
      by_cases h9 : ni d 2 = 0
      · rw [S4.1 h9]
        exact ⟨fun h8 => by omega, fun ta h8 => by cases h8⟩
      · obtain ⟨ma, k1, k2⟩ := S4.2 (by omega)
        rw [k1]
        refine ⟨fun _ => ?_, fun ta2 h8 => ?_⟩
        · obtain ⟨m1, m2, m3, m4, sl2, pc, m5, m6, m7, m8, m9, m10, m11, m12⟩ := k2
          refine ⟨ma, pc, rfl, by rw [(sm1 ma 50 (by omega) m2 (by omega)).1]; exact m10, ?_⟩
          unfold bS
          rw [k1]
          show _ = 65536 * (xb_i h ma 3).toInt
          rw [m10]
        · injection h8 with h8
          subst h8
          exact (k2.mono hle).fr (fun a ha h9 => sm1 a (own a) ha rfl (by omega)) he ho a25
    · refine ⟨fun h8 => ⟨ma, (ol d 4 2).toNat, f1, f12, ?_⟩, fun ta2 h8 => ?_⟩
      · unfold bS
        rw [S4.1 (by omega)]
        show _ = 65536 * ol d 4 2
        rw [Int.toNat_of_nonneg p4]
      · rw [f1] at h8
        injection h8 with h8
        subst h8
        refine ⟨f4, f5, by rw [a25]; exact f6, f7, sl, (ol d 4 2).toNat, f8, f9, f10, by rw [e_ms]; exact hmq ma sl f1 f3 f8, f11, f12, by omega, fun j hj => ?_⟩
        rw [e_np]
        exact f13 j hj
  have hN : iO own' ad' h' W2 (wic W) := by
    unfold iO
    rw [wiaq, wimq, wdq, wffq, wfvq]
    refine ⟨⟨kq, oq, i0, r1, hm'⟩, ⟨fa, fa1, fa2, fa3, fa4, fun k hk => ?_⟩, ⟨va, va1, va2, va3, va4, fun k hk => ?_⟩, ⟨i4, by omega, fun k hk => ?_⟩, ⟨i5, by omega, fun k hk => ?_⟩, ⟨fun h9 => ?_, gT.2⟩, fun h9 => ?_, gM.2⟩
    · obtain ⟨f, x1, x2, x3⟩ := S1.2 k hk
      exact ⟨f, by rw [fa5 k hk]; exact x1, x2.mono hle, by rw [fT_mono hle x2]; exact x3⟩
    · obtain ⟨v, x1, x2, x3⟩ := S2.2 k hk
      exact ⟨v, by rw [va5 k hk]; exact x1, by omega, by rw [hle.2.2.2.2.1 v x2]; exact x3⟩
    · rw [hW2]
      exact if_neg (by omega)
    · rw [hW2]
      show (if _ then _ else _) = _
      rw [if_neg (by omega), show wnv W + k - wnv W = k by omega]
    · obtain ⟨ta, x1, -⟩ := gT.1 h9
      exact ⟨ta, x1⟩
    · obtain ⟨ma, pc, x1, -⟩ := gM.1 h9
      exact ⟨ma, x1⟩
  have hWn : wI own' ad' h' W2 σ := by
    rw [hW2] at hN ⊢
    exact mk_asm hB hW hm hms s hic hno hnv hne hnp hO hV hE hP ⟨hI.1, hI.2.1⟩ hA hN
  have hFV : ∀ h'' : xb_H, xb_ext h' h'' → xh_sm h' h'' (ad 34) → xb_l h'' (ad 35) = xb_l h' (ad 35) → fV ad' h'' W2 d (ni d 3) := by
    intro h'' x1 x2 x3
    refine ⟨by rw [b34, b35]; exact (S2.1.fr c34 he).fr x2 x1, fun j hj => ?_⟩
    obtain ⟨v, y1, y2, y3⟩ := S2.2 j hj
    exact ⟨v, by rw [b35, x3, c35.2.1]; exact y1, by omega, by rw [hle.2.2.2.2.1 v y2]; exact y3⟩
  have hcv : ∀ (h'' : xb_H) (p : Nat) (τ : Int), xb_l h'' (ad' 22) = xb_l h' (ad' 22) → xb_l h'' (ad' 35) = xb_l h' (ad' 35) → ck_ex (dN d) (dcb d) (dnu d) (dvs d 5) (div_ d 3).toInt p τ → cv ad' h'' d p = cv ad h d p := by
    intro h'' p τ x1 x2 x3
    exact cv_le S2 (n5 3 (by omega)) x3 (fun v hv => by rw [x1]; exact hV.2.1 v hv) (by rw [x2, l35])
  have k14 : xb_k h' (ad 14) = 7 := by rw [← a14]; exact s.1.k 14 (by omega)
  have o22 : ∀ c, c = 24 ∨ c = 26 → ∀ k, k < 41 → k ≠ c → ad' k ≠ ad' c := fun c hc k hk h9 => s.1.ne hk (by omega) h9
  have lw : ∀ (c : Nat) (h1 h2 : xb_H), c = 24 ∨ c = 26 → wrR ad' c h1 h2 → ∀ k, k < 41 → k ≠ c → xb_l h2 (ad' k) = xb_l h1 (ad' k) := fun c h1 h2 hc hr k hk h9 => (hr.sm (o22 c hc k hk h9)).2.1
  have key := mk_elements (i := wic W) (Qr := fun (h2 : xb_H) => xb_ext h' h2 → w_World_writeData (ad 14) q h2 (fun (h4 : xb_H) => xb_ext h2 h4 → xb_k h4 q = 11 ∧ Qr (xb_i h4 q 0) h4 bc' bs')) s.1 hWn (by omega) (by rw [wdq]; exact hFV h' (xb_ext.rf h') (xh_sm.rf h' _) rfl) (fun j hj => ?_) (fun h2 wr2 hW3 hel _ => ?_)
  · rw [wiaq, a14] at key
    unfold w_World_make_L229
    exact ⟨k14, key⟩
  · rw [wdq] at hj ⊢
    rw [wiaq]
    obtain ⟨e1, ⟨p, e2, e3⟩, e4, -⟩ := hm.2.1.2.2.2.2.2.2.2.1.2 j hj
    obtain ⟨ta, x1, x2⟩ := gT.1 (by omega)
    obtain ⟨-, -, fr, sz, y1, y2, y3⟩ := gT.2 ta x1
    have hb := hbE j hj
    rw [e2, Int.toNat_natCast] at hb ⊢
    rw [hcv h' p 127 rfl rfl e3]
    exact ⟨ta, sz, x1, y2, by rw [← x2] at hb; omega⟩
  · have hB2 := wr2.B s.1
    have key2 := mk_data (i := wic W) (Qr := fun (h4 : xb_H) => xb_ext h2 h4 → xb_k h4 q = 11 ∧ Qr (xb_i h4 q 0) h4 bc' bs') hB2 hW3 (by omega) (by rw [wdq]; exact hFV h2 wr2.ex (wr2.sm (by rw [← b34]; exact o22 24 (by omega) 34 (by omega) (by omega))) (by rw [← b35]; exact lw 24 h' h2 (by omega) wr2 35 (by omega) (by omega))) (fun j hj => ?_) (fun h4 wr4 hW4 hda _ => ?_)
    · rw [wiaq, a14] at key2
      exact key2
    · rw [wdq] at hj ⊢
      rw [wiaq]
      obtain ⟨e1, ⟨p, e2, e3⟩, e4, e5, e6⟩ := hm.2.1.2.2.2.2.2.2.2.2.2.1.2 j hj
      obtain ⟨ma, pc, x1, x2, x3⟩ := gM.1 (by omega)
      obtain ⟨m1, m2, -⟩ := gM.2 ma x1
      have hb := hbD j hj
      rw [e2, Int.toNat_natCast] at hb ⊢
      rw [hcv h2 p 127 (lw 24 h' h2 (by omega) wr2 22 (by omega) (by omega)) (lw 24 h' h2 (by omega) wr2 35 (by omega) (by omega)) e3]
      have sq := wr2.sm (s.1.nk (i := 24) (by omega) oq (by omega))
      have smm := wr2.sm (s.1.nk (i := 24) (by omega) m2 (by omega))
      exact ⟨ma, pc, by rw [sq.2.2]; exact x1, by rw [smm.1]; exact x2, by rw [← x3] at hb; exact hb⟩
    · have t2 := wr2.stp s.1
      have t4 := wr4.stp hB2
      have sq2 := wr2.sm (s.1.nk (i := 24) (by omega) oq (by omega))
      have sq4 := wr4.sm (hB2.nk (i := 26) (by omega) oq (by omega))
      refine ⟨wr4.ex.k (c := 10) (wr2.ex.k (c := 10) kq), hQ q ms h4 own' ad' bc' bs' _ (((s.tr t2).tr t4).mono (by decide) (fun k hk => by simpa using hk)) ⟨h', h2, hF0, wr2, wr4, by rw [← hW2]; rw [wdq] at hel; exact hel, by rw [← hW2]; rw [wdq] at hda; exact hda⟩ (by rw [← hW2]; exact hW4) hms ?_ ?_ ?_⟩
      · rw [sq4.1, sq2.1]
        exact i0
      · have u2 := wr2.sm (o22 24 (by omega) 14 (by omega) (by omega))
        have u4 := wr4.sm (o22 26 (by omega) 14 (by omega) (by omega))
        rw [a14] at u2 u4
        rw [u4.1, u2.1]
        exact hI.2.1
      · exact ((hg'.sp (c := 0) (s := 0) (ad' := ad') (h' := h4) (fun k hk => ⟨rfl, ((wr2.ex.tr wr4.ex) _ (s.1.z k hk)).2⟩))).2.2
end MK8
