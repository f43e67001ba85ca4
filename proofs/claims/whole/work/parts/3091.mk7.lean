-- a module becomes an instance: all that is made
def mkF (own ad : Nat → Nat) (h : xb_H) (W : wD) (md : Nat) (d : mD) (q : Nat) (own' ad' : Nat → Nat) (h' : xb_H) : Prop :=
  stp mkC [] own ad own' ad' h h' ∧
  (xr_row h' (ad' 19) 1 (wno W + (nf d - ni d 0)) (ad' 20) ∧ (∀ f, f < wno W → xb_l h' (ad' 20) f = xb_l h (ad 20) f) ∧ ∀ f, wno W ≤ f → f < wno W + (nf d - ni d 0) → (xb_l h' (ad' 20) f).toInt = wic W) ∧
  (xr_row h' (ad' 21) 1 (wnv W + (nvr d - ni d 3)) (ad' 22) ∧ (∀ v, v < wnv W → xb_l h' (ad' 22) v = xb_l h (ad 22) v) ∧ ∀ j, j < nvr d - ni d 3 → vr (dvs d 5 (4 * (ni d 3 + j) + 1)).toInt (xb_l h' (ad' 22) (wnv W + j))) ∧
  (∀ j, j < nvr d - ni d 3 → xb_l h' (ad' 22) (wnv W + j) = cv ad h d (dvs d 5 (4 * (ni d 3 + j) + 3)).toInt.toNat) ∧
  (xr_row h' (ad' 23) 1 (wne W + (ol d 3 1).toNat) (ad' 24) ∧ (∀ e, e < wne W → xb_l h' (ad' 24) e = xb_l h (ad 24) e) ∧ ∀ e, wne W ≤ e → e < wne W + (ol d 3 1).toNat → (xb_l h' (ad' 24) e).toInt = -1) ∧
  (xr_row h' (ad' 25) 1 (8192 * (wnp W + (ol d 4 2).toNat)) (ad' 26) ∧ (∀ j, j < 8192 * wnp W → xb_l h' (ad' 26) j = xb_l h (ad 26) j) ∧ ∀ j, 8192 * wnp W ≤ j → j < 8192 * (wnp W + (ol d 4 2).toNat) → xb_l h' (ad' 26) j = 0) ∧
  ((xb_i h' (ad 14) 1).toInt = (wic W + 1 : Nat) ∧ xb_i h' (ad 14) 11 = xb_i h (ad 14) 11 ∧ ∀ k, k ≠ 1 → xb_i h' (ad 14) k = xb_i h (ad 14) k) ∧
  xb_r h' (ad 18) = va_up (xb_r h (ad 18)) (wic W) (some q) ∧
  (xb_k h q = 0 ∧ xb_k h' q = 11 ∧ own' q = 1 ∧ (xb_i h' q 0).toInt = wic W ∧ xb_r h' q 1 = some md) ∧
  (∃ fa, xb_r h' q 2 = some fa ∧ xb_k h' fa = 103 ∧ own' fa = 1 ∧ xb_n h' fa = ni d 0 ∧ ∀ j, j < ni d 0 → xb_l h' fa j = xb_l h (ad 33) j) ∧
  (∃ va, xb_r h' q 3 = some va ∧ xb_k h' va = 103 ∧ own' va = 1 ∧ xb_n h' va = ni d 3 ∧ ∀ j, j < ni d 3 → xb_l h' va j = xb_l h (ad 35) j) ∧
  (xb_i h' q 4).toInt = wno W ∧ (xb_i h' q 5).toInt = wnv W ∧
  ((dn d 3 / 3 ≤ ni d 1 ∧ xb_r h' q 6 = xb_r h (ad 14) 14) ∨ ni d 1 < dn d 3 / 3 ∧ ∃ ta, xb_r h' q 6 = some ta ∧ xb_k h' ta = 12 ∧ own' ta = 1 ∧ (xb_i h' ta 0).toInt = wne W ∧ (xb_i h' ta 1).toInt = (ol d 3 1).toNat ∧ xb_l h' ta 2 = dvs d 3 2) ∧
  ((dn d 4 / 3 ≤ ni d 2 ∧ xb_r h' q 7 = xb_r h (ad 14) 15) ∨ ni d 2 < dn d 4 / 3 ∧ ∃ ma sl, xb_r h' q 7 = some ma ∧ xb_k h ma = 0 ∧ xb_k h sl = 0 ∧ xb_k h' ma = 13 ∧ own' ma = 50 ∧ xb_r h' ma 0 = some (ad 25) ∧ ((xb_l h' ma 1).toInt = -1 ∨ 0 ≤ (xb_l h' ma 1).toInt ∧ (xb_l h' ma 1).toInt ≤ 65536) ∧ xb_r h' ma 2 = some sl ∧ xb_k h' sl = 102 ∧ own' sl = 51 ∧ xb_n h' sl = 16 ∧ (xb_i h' ma 3).toInt = (ol d 4 2).toNat ∧ (∀ j, j < (ol d 4 2).toNat → 0 ≤ (xb_i h' sl j).toInt ∧ (xb_i h' sl j).toInt < (wnp W + (ol d 4 2).toNat : Nat)) ∧ xb_l h' ma 1 = dvs d 4 2 ∧ ∀ j, j < (ol d 4 2).toNat → (xb_i h' sl j).toInt = (wnp W + j : Nat))
section MK7
variable {own own' own2 ad ad' ad2 : Nat → Nat} {h h' h2 : xb_H} {W : wD} {σ : Nat}
theorem stp.Pc {c k : Nat} {x : Option Nat} (hB : cB own ad h) (hc : c < 41) (hn : ∀ e ∈ cRl, e.1 ≠ c) : stp [c] [] own ad own ad h (xb_P h (ad c) k x) := by
  refine ⟨⟨hB.1, fun e he => ?_⟩, fun _ _ => rfl, fun _ _ => rfl, fun _ _ => ⟨rfl, rfl⟩, fun b _ _ hb => xh_smP _ _ _ (hb c (by simp)), fun _ => .inl rfl, fun _ _ => rfl⟩
  rw [xh_rP, if_neg (hB.ne (cRl_lt e he).1 hc (hn e he))]
  exact hB.r e he
theorem stp.sm {C X : List Nat} (s : stp C X own ad own' ad' h h') (hB : cB own ad h) (hC : ∀ k ∈ C, k < 41) {a : Nat} (ha : xb_k h a ≠ 0) (ho : own a = 1) (hx : a ∉ X) : xh_sm h h' a := s.n1 hB hC ha hx ho (by omega)
theorem wI_mkA {md rc rs bc bs : Nat} {d : mD} {Qr : Int32 → xb_H → Nat → Nat → Prop} (hB : cB own ad h) (hW : wI own ad h W σ) (hm : mo own h md d) (hS : lkS own ad h W d (dn d 1 / 7)) (hic : wic W < 24) (hno : wno W + (nf d - ni d 0) ≤ 8192) (hnv : wnv W + (nvr d - ni d 3) ≤ 4096) (hne : (wne W : Int) + ol d 3 1 ≤ 16384) (hnp : (wnp W : Int) + ol d 4 2 ≤ 16) (hg : bg ad h (rc + 6) (rs + (31 + (ni d 0 + ni d 3))) bc bs)
    (hK : ∀ (q : Nat) (h' : xb_H) (own' ad' : Nat → Nat) (bc' bs' : Nat), mkF own ad h W md d q own' ad' h' → bg ad' h' rc rs bc' bs' → w_World_make_L229 Qr (ad 14) q h' bc' bs') : w_World_make (ad 14) md h bc bs Qr := by
  obtain ⟨n1, n2, n3, n4, n5, n6, n7, n8⟩ := hm.nn
  obtain ⟨⟨o1, o2, o3⟩, ⟨v1, v2, v3⟩, ⟨e1, e2, e3⟩, ⟨w1, w2⟩, ⟨un, u1, u2⟩, ⟨nn, ns, m1, m2, m3, m4, m5⟩, ⟨l1, l2, l3, l4⟩, -, -⟩ := id hW
  obtain ⟨S1, S2, -, -⟩ := id hS
  have c0 : ni d 0 = mcnt (dvs d 1) 0 (dn d 1 / 7) := n8 0 (by omega)
  have c3 : ni d 3 = mcnt (dvs d 1) 3 (dn d 1 / 7) := n8 3 (by omega)
  rw [← c0] at S1
  rw [← c3] at S2
  clear c0 c3
  unfold w_World_make
  refine ⟨?_, ?_, fun q zq h2 e2' => ?_⟩
  · have := hg.1; omega
  · have := hg.2; omega
  have s2 : stp [] [] own ad (nown own q 1) ad h h2 := by rw [e2']; exact stp.new hB zq
  obtain ⟨-, -, g2⟩ := s2.bud (rc := rc + 5) (c := 1) (rs := rs + (23 + (ni d 0 + ni d 3))) (s := 8) hB (by rw [show rs + (23 + (ni d 0 + ni d 3)) + 8 = rs + (31 + (ni d 0 + ni d 3)) by omega]; exact hg)
  have kq2 : xb_k h2 q = 11 := by rw [e2', xh_kN, if_pos rfl]
  have oq2 : nown own q 1 q = 1 := nown_eq
  have cm2 : ∀ k, k < 41 → xh_sm h h2 (ad k) := fun k hk => (s2.cm hB (fun k hk => by cases hk) (fun x hx => by cases hx) hk (by simp)).2
  have hF2 := S1.1.fr (cm2 32 (by omega)) s2.2.2.2.1
  have hV2 := S2.1.fr (cm2 34 (by omega)) s2.2.2.2.1
  have hO2 := o1.fr (cm2 19 (by omega)) s2.2.2.2.1
  have hX2 := v1.fr (cm2 21 (by omega)) s2.2.2.2.1
  clear e2'
  refine ⟨s2.1.k 14 (by omega), mk_init (rc := 0) (rs := 0) s2.1 kq2 oq2 hF2 hV2 hO2 hX2 ?_ ?_ (fun h5 own5 fa va s5 ko5 i50 r51 F5 V5 i54 i55 r56 r57 zz _ => ?_)⟩
  · have := g2.1; omega
  · have := g2.2; omega
  obtain ⟨kq5, oq5⟩ := ko5
  obtain ⟨-, -, g5⟩ := s5.bud (rc := rc + 3) (c := 2) (rs := rs + 23) (s := ni d 0 + ni d 3) s2.1 (by rw [show rs + 23 + (ni d 0 + ni d 3) = rs + (23 + (ni d 0 + ni d 3)) by omega]; exact g2)
  have F := s2.tr s5
  have hBf : ∀ {own' ad' : Nat → Nat} {h' : xb_H}, cB own' ad' h' → own' q = 1 → ∀ x ∈ [q], ∀ k, k < 41 → x ≠ ad' k := fun hb ho x hx k hk => by
    have : x = q := by simpa using hx
    rw [this]
    exact hb.n1 hk ho
  have cm5 : ∀ k, k < 41 → xh_sm h h5 (ad k) := fun k hk => (F.cm hB (fun k hk => by simp at hk) (fun x hx k hk e => by
    have : x = q := by simpa using hx
    rw [this] at e
    rw [e] at zq
    exact hB.z k hk zq) hk (by simp)).2
  have i5 : xb_i h5 (ad 14) 1 = xb_i h (ad 14) 1 := by rw [(cm5 14 (by omega)).1]
  have c5 : (xb_i h5 (ad 14) 1).toNatClampNeg = wic W := by rw [z_cl, i5, l3, Int.toNat_natCast]
  have n18 : xb_n h5 (ad 18) = 24 := by rw [(F.2.2.2.1 _ (hB.z 18 (by omega))).2]; exact l1
  refine ⟨ad 18, s5.1.r (14, 0, 18) (by decide), s5.1.k 18 (by omega), by rw [z_in, i5, l3, n18]; omega, fun h10 e10 h11 e11 => ?_⟩
  rw [c5] at e10
  have s10 : stp [18] [] own5 ad own5 ad h5 h10 := by rw [e10]; exact stp.Pc s5.1 (by omega) (by decide)
  have s11 : stp [14] [] own5 ad own5 ad h10 h11 := by rw [e11]; exact stp.Ic s10.1
  have T11 := (F.tr s10).tr s11
  have fq : ∀ {C X : List Nat} {own' ad' : Nat → Nat} {h' : xb_H}, stp C X own ad own' ad' h h' → (∀ x ∈ X, x = q) → stp C [] own ad own' ad' h h' := fun s hx => s.dr (fun x h9 => by rw [hx x h9]; exact zq)
  have S11 : stp [18, 14] [] own ad own5 ad h h11 := fq T11 (fun x hx => by simpa using hx)
  have hm11 := hm.st hB S11 (by decide) (fun x hx => by cases hx)
  have cm11 : ∀ k, k < 41 → k ≠ 18 → k ≠ 14 → xh_sm h h11 (ad k) := fun k hk h1 h2 => (S11.cm hB (by decide) (fun x hx => by cases hx) hk (by simp; omega)).2
  have hO11 := o1.fr (cm11 19 (by omega) (by omega) (by omega)) S11.2.2.2.1
  have s511 := s10.tr s11
  have z5 : ∀ a, xb_k h5 a ≠ 0 → xb_k h11 a ≠ 0 := fun a ha => ext_nz s511.2.2.2.1 ha
  have sq511 := s511.sm s5.1 (by decide) (a := q) (by omega) oq5 (by simp)
  have g11 : bg ad h11 (rc + 3) (rs + 23) (bc - 1 - 2) (bs - 8 - (ni d 0 + ni d 3)) := by
    have := g5.sp (c := 0) (s := 0) (ad' := ad) (h' := h11) (fun k hk => ⟨rfl, (s511.2.2.2.1 _ (s5.1.z k hk)).2⟩)
    exact this.2.2
  obtain ⟨a1, a2, a3, ⟨i1, i2, i3, i4⟩, a5⟩ := hm11.1
  refine ⟨ad 19, s11.1.r (14, 2, 19) (by decide), hm11.1.k, _, hm11.1.row (k := 2) (by omega), hm11.1.krow (by omega), md_lines hm11.1 (k := 2) (c := 2) (by omega) rfl (by omega) (fun r17 e17 _ => ⟨_, i1, i2, by rw [z_in, i3]; decide, s11.1.k 19 (by omega), ?_⟩)⟩
  have ex : (r17 - xb_i h11 (dim d) 0).toInt = (nf d - ni d 0 : Nat) := by
    rw [z_sub, e17, i4, n5 0 (by omega)]
    unfold nf at *
    omega
  refine wr_many (r := 19) (by decide) s11.1 hO11 ex (by show _ ≤ 8192; omega) g11 (fun h22 q2 bc2 bs2 x1 x2 x3 x4 x5 x6 x7 x8 _ => ?_)
  have s22 := stp.row (r := 19) (by decide) x1 x5 x6 x7
  have S22 : stp [18, 14, 19, 20] [] own ad _ _ h h22 := S11.tr s22
  generalize hown22 : rown own5 h11 q2 (19 + 3) = own22 at s22 S22 x1
  generalize had22 : va_up ad (19 + 1) q2 = ad22 at s22 S22 x1 x8
  have hm22 := hm.st hB S22 (by decide) (fun x hx => by cases hx)
  obtain ⟨-, -, -, ⟨j1, j2, j3, j4⟩, -⟩ := hm22.1
  refine ⟨_, j1, j2, by rw [z_in, j3]; decide, fun v27 e27 => ?_⟩
  have A22 : ∀ j, j ∉ itl → ad22 j = ad j := S22.2.2.2.2.2.2
  have cm22 : ∀ k, k < 41 → k ∉ [18, 14, 19, 20] → ad22 k = ad k ∧ xh_sm h h22 (ad k) := fun k hk h1 => S22.cm hB (by decide) (fun x hx => by cases hx) hk h1
  have hV22 : wV ad22 h22 W := by
    refine ⟨by rw [(cm22 21 (by omega) (by decide)).1, (cm22 22 (by omega) (by decide)).1]; exact v1.fr (cm22 21 (by omega) (by decide)).2 S22.2.2.2.1, v2, fun v hv => ?_⟩
    rw [(cm22 22 (by omega) (by decide)).1, (cm22 22 (by omega) (by decide)).2.2.1]
    exact v3 v hv
  have hF22 : fV ad22 h22 W d (ni d 3) := by
    refine ⟨by rw [(cm22 34 (by omega) (by decide)).1, (cm22 35 (by omega) (by decide)).1]; exact S2.1.fr (cm22 34 (by omega) (by decide)).2 S22.2.2.2.1, fun v hv => ?_⟩
    rw [(cm22 35 (by omega) (by decide)).1, (cm22 35 (by omega) (by decide)).2.2.1]
    exact S2.2 v hv
  have key := mk_vars (q := q) (x3 := v27) (Qr := Qr) S22.1 hm22 hV22 hF22 hnv x8 (by rw [e27, j4]; exact n5 3 (by omega)) (fun h1 own1 ad1 bc1 bs1 s1 y1 y2 y3 y4 y5 => ?_)
  · rw [A22 14 (by decide)] at key
    exact key
  rw [A22 14 (by decide)]
  have S1' : stp [18, 14, 19, 20, 21, 22] [] own ad own1 ad1 h h1 := S22.tr s1
  have hm1 := hm.st hB S1' (by decide) (fun x hx => by cases hx)
  have A1 : ∀ j, j ∉ itl → ad1 j = ad j := S1'.2.2.2.2.2.2
  have s51 : stp [18, 14, 19, 20, 21, 22] [] own5 ad own1 ad1 h5 h1 := (s511.tr s22).tr s1
  have sq1 := s51.sm s5.1 (by decide) (a := q) (by omega) oq5 (by simp)
  have kq1 : xb_k h1 q = 11 := s51.2.2.2.1.k (c := 10) kq5
  have oq1 : own1 q = 1 := by rw [s51.2.2.1 q (by omega)]; exact oq5
  have cm1 : ∀ k, k < 41 → k ∉ [18, 14, 19, 20, 21, 22] → ad1 k = ad k ∧ xh_sm h h1 (ad k) := fun k hk h1 => S1'.cm hB (by decide) (fun x hx => by cases hx) hk h1
  have hE1 : xr_row h1 (ad1 23) 1 (wne W) (ad1 24) := by
    rw [(cm1 23 (by omega) (by decide)).1, (cm1 24 (by omega) (by decide)).1]
    exact e1.fr (cm1 23 (by omega) (by decide)).2 S1'.2.2.2.1
  have key2 := mk_tab (rc := rc + 2) (rs := rs + 20) (Qr := Qr) s1.1 hm1 kq1 oq1 hE1 hne y4 (fun h3 own3 ad3 bc3 bs3 s3 t1 t2 t3 t4 t5 t6 t7 => ?_)
  · rw [A1 14 (by decide)] at key2
    exact key2
  rw [A1 14 (by decide)]
  have S3' : stp [18, 14, 19, 20, 21, 22, 23, 24] [] own ad own3 ad3 h h3 := fq (S1'.tr s3) (fun x hx => by simpa using hx)
  have hm3 := hm.st hB S3' (by decide) (fun x hx => by cases hx)
  have A3 : ∀ j, j ∉ itl → ad3 j = ad j := S3'.2.2.2.2.2.2
  have kq3 : xb_k h3 q = 11 := s3.2.2.2.1.k (c := 10) kq1
  have oq3 : own3 q = 1 := by rw [s3.2.2.1 q (by omega)]; exact oq1
  have cm3 : ∀ k, k < 41 → k ∉ [18, 14, 19, 20, 21, 22, 23, 24] → ad3 k = ad k ∧ xh_sm h h3 (ad k) := fun k hk h1 => S3'.cm hB (by decide) (fun x hx => by cases hx) hk h1
  have hR3 : xr_row h3 (ad3 25) 1 (8192 * wnp W) (ad3 26) := by
    rw [(cm3 25 (by omega) (by decide)).1, (cm3 26 (by omega) (by decide)).1]
    exact w1.fr (cm3 25 (by omega) (by decide)).2 S3'.2.2.2.1
  have key3 := mk_mem (rc := rc) (rs := rs) (Qr := Qr) s3.1 hm3 kq3 oq3 hR3 hnp t7 (fun h4 own4 ad4 bc4 bs4 s4 u1 u2 u3 u4 u5 u6 => ?_)
  · rw [A3 14 (by decide)] at key3
    exact key3
  rw [A3 14 (by decide)]
  refine hK q h4 own4 ad4 bc4 bs4 ?_ u5
  -- from each place to the end
  have s34 := s3.tr s4
  have s14 := s1.tr s34
  have s224 := s22.tr s14
  have s114 := s11.tr s224
  have s54 := s10.tr s114
  have S4 : stp [18, 14, 19, 20, 21, 22, 23, 24, 25, 26] [] own ad own4 ad4 h h4 := fq (S3'.tr s4) (fun x hx => by simpa using hx)
  have A4 : ∀ j, j ∉ itl → ad4 j = ad j := S4.2.2.2.2.2.2
  have oq22 : own22 q = 1 := by
    rw [s22.2.2.1 q (z5 q (by omega))]
    exact oq5
  have hx22 : ∀ x ∈ [] ++ ([q] ++ [q]), ∀ k, k < 41 → x ≠ ad22 k := fun x hx => hBf s22.1 oq22 x (by simpa using hx)
  have hx1 : ∀ x ∈ [q] ++ [q], ∀ k, k < 41 → x ≠ ad1 k := fun x hx => hBf s1.1 oq1 x (by simpa using hx)
  have hx3 : ∀ x ∈ [q], ∀ k, k < 41 → x ≠ ad3 k := hBf s3.1 oq3
  have hx11 : ∀ x ∈ [] ++ ([] ++ ([q] ++ [q])), ∀ k, k < 41 → x ≠ ad k := fun x hx => hBf s11.1 oq5 x (by simpa using hx)
  have hx10 : ∀ x ∈ [] ++ ([] ++ ([] ++ ([q] ++ [q]))), ∀ k, k < 41 → x ≠ ad k := fun x hx => hBf s10.1 oq5 x (by simpa using hx)
  have kq4 : xb_k h4 q = 11 := s4.2.2.2.1.k (c := 10) kq3
  have oq4 : own4 q = 1 := by rw [s4.2.2.1 q (by omega)]; exact oq3
  have iq4 : xb_i h4 q = xb_i h5 q := by rw [u2, t4, sq1.1]
  have rq4 : ∀ j, j ≠ 6 → j ≠ 7 → xb_r h4 q j = xb_r h5 q j := fun j h6 h7 => by rw [u3 j h7, t5 j h6, sq1.2.2]
  have i19 := s14.cm s22.1 (by decide) hx22 (k := 19) (by omega) (by decide)
  have i20 := s14.cm s22.1 (by decide) hx22 (k := 20) (by omega) (by decide)
  have i21 := s34.cm s1.1 (by decide) hx1 (k := 21) (by omega) (by decide)
  have i22 := s34.cm s1.1 (by decide) hx1 (k := 22) (by omega) (by decide)
  have i23 := s4.cm s3.1 (by decide) hx3 (k := 23) (by omega) (by decide)
  have i24 := s4.cm s3.1 (by decide) hx3 (k := 24) (by omega) (by decide)
  have i14 := s224.cm s11.1 (by decide) hx11 (k := 14) (by omega) (by decide)
  have i18 := s114.cm s10.1 (by decide) hx10 (k := 18) (by omega) (by decide)
  have b19 : ad22 19 = ad 19 := A22 19 (by decide)
  have b20 : ad22 20 = q2 := by rw [← had22, xh_up, if_pos rfl]
  have c22 := cm22 22 (by omega) (by decide)
  have c24 := cm1 24 (by omega) (by decide)
  have sF : ∀ a, xb_k h5 a = 103 → own5 a = 1 → xh_sm h5 h4 a := fun a ha ho => s54.sm s5.1 (by decide) (by omega) ho (fun h9 => by
    have e9 : a = q := by simpa using h9
    rw [e9, kq5] at ha
    cases ha)
  refine ⟨S4.mono (by decide) (fun k hk => hk), ⟨?_, fun f hf => ?_, fun f h1 h2 => ?_⟩, ⟨?_, fun v hv => ?_, fun j hj => ?_⟩, fun j hj => ?_, ⟨?_, fun e he => ?_, fun e h1 h2 => ?_⟩, ⟨u1, fun j hj => ?_, u6.2⟩, ⟨?_, ?_, fun k hk => ?_⟩, ?_, ⟨zq, kq4, oq4, ?_, ?_⟩, ⟨fa, ?_, ?_, ?_, ?_, fun j hj => ?_⟩, ⟨va, ?_, ?_, ?_, ?_, fun j hj => ?_⟩, ?_, ?_, ?_, ?_⟩
  · rw [i19.1, i20.1, b19, b20]
    rw [b19] at i19
    exact x2.fr i19.2 s14.2.2.2.1
  · rw [i20.1, i20.2.2.1, b20, x3 f hf]
    rw [(cm11 20 (by omega) (by omega) (by omega)).2.1]
  · rw [i20.1, i20.2.2.1, b20, x4 f h1 h2, Z_of32, sq511.1, i50, (cm2 14 (by omega)).1]
    exact l3
  · rw [i21.1, i22.1]
    exact y1.fr i21.2 s34.2.2.2.1
  · rw [i22.1, i22.2.2.1, y2 v hv, c22.1, c22.2.2.1]
  · rw [i22.1, i22.2.2.1]
    exact y3 j hj
  · rw [i22.1, i22.2.2.1, y5 j hj]
    exact cv_cg (by rw [c22.1, c22.2.2.1]) (by rw [(cm22 35 (by omega) (by decide)).1, (cm22 35 (by omega) (by decide)).2.2.1])
  · rw [i23.1, i24.1]
    exact t1.fr i23.2 s4.2.2.2.1
  · rw [i24.1, i24.2.2.1, t2 e he, c24.1, c24.2.2.1]
  · rw [i24.1, i24.2.2.1]
    exact t3 e h1 h2
  · rw [u6.1 j hj, (cm3 26 (by omega) (by decide)).1, (cm3 26 (by omega) (by decide)).2.2.1]
  · rw [i14.2.1, e11, xh_iI, if_pos rfl, xh_up, if_pos rfl]
    have e9 : xb_i h10 (ad 14) 1 = xb_i h (ad 14) 1 := by rw [e10, xh_iP]; exact i5
    rw [e9]
    exact z_inc l3 (by omega)
  · rw [i14.2.1, e11, xh_iI, if_pos rfl, xh_up, if_neg (by omega), e10, xh_iP, (cm5 14 (by omega)).1]
  · rw [i14.2.1, e11, xh_iI, if_pos rfl, xh_up, if_neg hk, e10, xh_iP, (cm5 14 (by omega)).1]
  · rw [i18.2.2.2, e10, xh_rP, if_pos rfl, (cm5 18 (by omega)).2.2]
  · rw [iq4, i50, (cm2 14 (by omega)).1]
    exact l3
  · rw [rq4 1 (by omega) (by omega)]
    exact r51
  · rw [rq4 2 (by omega) (by omega)]
    exact F5.1
  · exact s54.2.2.2.1.k (c := 102) F5.2.1
  · rw [s54.2.2.1 fa (by omega)]
    exact F5.2.2.1
  · rw [s54.2.2.2.1.n (c := 102) F5.2.1]
    exact F5.2.2.2.1
  · rw [(sF fa F5.2.1 F5.2.2.1).2.1, F5.2.2.2.2 j hj, (cm2 33 (by omega)).2.1]
  · rw [rq4 3 (by omega) (by omega)]
    exact V5.1
  · exact s54.2.2.2.1.k (c := 102) V5.2.1
  · rw [s54.2.2.1 va (by omega)]
    exact V5.2.2.1
  · rw [s54.2.2.2.1.n (c := 102) V5.2.1]
    exact V5.2.2.2.1
  · rw [(sF va V5.2.1 V5.2.2.1).2.1, V5.2.2.2.2 j hj, (cm2 35 (by omega)).2.1]
  · rw [iq4]
    exact i54
  · rw [iq4]
    exact i55
  · rw [u3 6 (by omega)]
    rcases t6 with ⟨f1, f2⟩ | ⟨f0, ta, f1, f2, f3, f4, f5, f6, f7⟩
    · exact .inl ⟨f1, by rw [f2, sq1.2.2, r56, (cm2 14 (by omega)).2.2]⟩
    · have st := s4.sm s3.1 (by decide) (a := ta) (by omega) f4 (fun h9 => by rw [List.mem_singleton.mp h9, kq3] at f3; cases f3)
      exact .inr ⟨f0, ta, f1, s4.2.2.2.1.k (c := 11) f3, by rw [s4.2.2.1 ta (by omega)]; exact f4, by rw [st.1]; exact f5, by rw [st.1]; exact f6, by rw [st.2.1]; exact f7⟩
  · rcases u4 with ⟨f1, f2⟩ | ⟨f0, ma, sl, f1, f2, f3, f4, f5, f6, f7⟩
    · exact .inl ⟨f1, by rw [f2, t5 7 (by omega), sq1.2.2, r57, (cm2 14 (by omega)).2.2]⟩
    · exact .inr ⟨f0, ma, sl, f1, ext_z S3'.2.2.2.1 f2, ext_z S3'.2.2.2.1 f3, f4, f5, by rw [f6, A3 25 (by decide)], f7⟩
end MK7
