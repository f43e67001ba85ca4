-- equality: calls that look at instances
/-- both answer with a number, none throws -/
def jW (σ x1 mm x3 K bc bs : Nat) (w : xb_H → (Int32 → xb_H → Prop) → Prop) (Qr : Int32 → xb_H → Prop) : Prop := ∀ (r : Int32) (H1 : xb_H), xb_k H1 mm = 9 → (∀ Q2 : Int32 → xb_H → Prop, (∀ (r2 : Int32) (H2 : xb_H), r2 = r → jG σ x1 mm x3 K H2 bc bs → Q2 r2 H2) → w H1 Q2) → Qr r H1
def jWl (σ x1 mm x3 K bc bs : Nat) (w : xb_H → (Int64 → xb_H → Prop) → Prop) (Qr : Int64 → xb_H → Prop) : Prop := ∀ (r : Int64) (H1 : xb_H), xb_k H1 mm = 9 → (∀ Q2 : Int64 → xb_H → Prop, (∀ (r2 : Int64) (H2 : xb_H), r2 = r → jG σ x1 mm x3 K H2 bc bs → Q2 r2 H2) → w H1 Q2) → Qr r H1
theorem z_el {x y z : Int32} {i n b : Nat} (hx : x.toInt = i) (hy : y.toInt = n) (hz : z.toInt = b) (hi : i < 24) (hn : n ≤ 65536) (hb : b ≤ 8192) : (65536 * x + y + z).toInt = (65536 * i + (b + n) : Nat) := by
  have h1 : (65536 * x).toInt = (65536 * i : Nat) := by
    rw [z_mul, hx]
    simp only [Int32.reduceToInt]
    omega
  have h2 : (65536 * x + y).toInt = (65536 * i + n : Nat) := by
    rw [z_add, h1, hy]
    omega
  rw [z_add, h2, hz]
  omega
section GU
variable {oc oc' or_ or' A A' : Nat → Nat} {H H1 h h2 : xb_H} {F F2 : Nat → Nat → Int32} {v v2 u : Nat → Int32} {DM DM' : Nat → zM} {len rl len' rl' : Nat} {ad ad' : Nat → Nat} {W W' : wD} {σ x1 mm x3 K ts ts' mc mc' bc bs bc1 bs1 rc rs : Nat} {M M' : Nat → mD} {Qr : Int32 → xb_H → Nat → Nat → Prop} {Qs : Int32 → xb_H → Prop} {Ql : Int64 → xb_H → Prop} {r : Int32} {y : Int64}
/-- what is known of an instance in both -/
theorem gQ.ins (hI : cI oc ad H W σ ts K) (hQ : gQ ad H W mc M ts (fun k => xb_i H (A k)) (fun k => xb_l H (A k)) v y DM) {i : Nat} (hi : i < wic W) : mdQ (wd W i) (DM (xb_i H (A 31) i).toInt.toNat) ∧ (∃ md, mo oc H md (wd W i)) ∧ (iM (DM (xb_i H (A 31) i).toInt.toNat) 2 + qt (DM (xb_i H (A 31) i).toInt.toNat) 5 = 0 → xb_r H (wia W i) 7 = none) ∧ (iM (DM (xb_i H (A 31) i).toInt.toNat) 1 + qt (DM (xb_i H (A 31) i).toInt.toNat) 4 = 0 → xb_r H (wia W i) 6 = none) ∧ (0 < iM (DM (xb_i H (A 31) i).toInt.toNat) 2 + qt (DM (xb_i H (A 31) i).toInt.toNat) 5 → 0 < dn (wd W i) 4 / 3 ∧ xb_r H (wia W i) 7 = some (mmA H W i) ∧ (xb_i H (mmA H W i) 3).toInt = mmP H W i ∧ (xb_i H (A 54) (oV A (xb_i H) DM i 2).toInt.toNat).toInt = mmP H W i ∧ xb_r H (mmA H W i) 2 = some (mmS H W i)) ∧ (0 < iM (DM (xb_i H (A 31) i).toInt.toNat) 1 + qt (DM (xb_i H (A 31) i).toInt.toNat) 4 → 0 < dn (wd W i) 3 / 3 ∧ (xb_i H (A 48) (oV A (xb_i H) DM i 1).toInt.toNat).toInt = tbF H W i ∧ (xb_i H (A 49) (oV A (xb_i H) DM i 1).toInt.toNat).toInt = tbZ H W i ∧ ∃ ta, xb_r H (wia W i) 6 = some ta ∧ (xb_i H ta 0).toInt = tbF H W i ∧ (xb_i H ta 1).toInt = tbZ H W i ∧ tbF H W i + tbZ H W i ≤ wne W) := by
  have hW := hI.1.2.1
  obtain ⟨c1, c2, c3, c4⟩ := hQ.2.2.1
  obtain ⟨d1, d2, d3, d4, d5⟩ := c2 i hi
  have q1 : mdQ (wd W i) (DM (xb_i H (A 31) i).toInt.toNat) := (c3.1 i hi).1
  have n1 := q1.n
  have hO := (hW.2.2.2.2.2.2.1.2.2.2 i hi).2
  refine ⟨q1, ⟨_, hO.1.2.2.2.2⟩, fun h9 => d5 (by omega), fun h9 => d4 (by omega), fun h9 => ?_, fun h9 => ?_⟩
  · have hm : 0 < dn (wd W i) 4 / 3 := by omega
    obtain ⟨m1, -, -, -, -, m6, -, -, m9, -⟩ := hW.mm hi hm
    exact ⟨hm, m1, m9, (c4.2.2.1 i hi hm).1, m6⟩
  · have ht : 0 < dn (wd W i) 3 / 3 := by omega
    obtain ⟨t1, t2⟩ := c3.2.2.2.1 i hi ht
    obtain ⟨-, -, -, -, -, ⟨e1, e2⟩, -⟩ := hO
    obtain ⟨ta, ta1⟩ := e1 ht
    obtain ⟨ta2, ta3, fr, sz, ta4, ta5, ta6⟩ := e2 ta ta1
    have f1 : tbF H W i = fr := by
      unfold tbF
      rw [ta1, Option.getD_some, ta4]
      rfl
    have f2 : tbZ H W i = sz := by
      unfold tbZ
      rw [ta1, Option.getD_some, ta5]
      rfl
    refine ⟨ht, t1, t2, ta, ta1, by rw [f1]; exact ta4, by rw [f2]; exact ta5, by omega⟩
theorem gw_pages {a1 : Int32} (hP : jG σ x1 mm x3 (K + 1) H bc bs) (hR : jV σ x1 mm x3 K (fun H1 b1 s1 Q2 => w_M_pages mm a1 H1 (fun r2 H2 => Q2 r2 H2 b1 s1)) Qr) : w_Law_pages x1 a1 x3 H bc bs Qr := by
  obtain ⟨oc, or_, A, v, DM, len, rl, ad, W, ts, mc, M, rc, rs, hO⟩ := hP.op
  obtain ⟨⟨e0, hI, hg, hM⟩, hQ, hA, eH, nx⟩ := id hO
  subst e0
  have hic : vN v 30 = wic W := hQ.2.2.1.1.1
  unfold w_Law_pages
  refine ⟨hI.1.1.k 0 (by omega), ho_pages hI hg (fun i z hi hi2 hz1 hz2 _ => ?_) (fun h9 _ _ => ⟨rfl, ?_⟩)⟩
  · obtain ⟨q1, q2, q3, q4, q5, q6⟩ := hQ.ins hI hi2
    refine jO.an (w := fun H1 Q2 => w_M_pages mm a1 H1 Q2) hO hR (fun H1 or' Q2 hA1 t1 hi9 hQ2 => r_pages hA1 (fun i' z' hi' _ hz u hu hA' => ?_) (fun h9 => (byd_1 h9 hi (by omega)).elim))
    have ei : i' = i := by omega
    subst ei
    rw [hi9] at hz
    have m9 : 0 ≤ (xb_i H (A 31) i').toInt := by
      obtain ⟨m', -, -, -, -, -, ⟨dm, -⟩, -⟩ := hA.io (by rw [hic]; exact hi2)
      have dm' : (xb_i H (A 31) i').toInt = m' := dm
      omega
    have ez : z' = z := by
      rcases hz with ⟨h1, h2⟩ | ⟨g, h1, h2, h3⟩
      · rw [h2, hz1 (q3 (h1 _ (by omega)))]
      · obtain ⟨k1, k2, k3, k4, -⟩ := q5 (h2 _ (by omega))
        rw [h3, hz2 _ k2]
        apply Int32.toInt.inj
        rw [k3, ← k4, h1]
        rfl
    rw [ez]
    exact hQ2 _ hA' (vz_gVL hu) hu.2.1
  · exact jO.tw (w := fun H1 Q2 => w_M_pages mm a1 H1 Q2) hO hR (by decide) (fun or' Q2 hA1 hQ2 => r_pages hA1 (fun i' z' hi' hi2 _ => (byd_1 h9 hi' (by omega)).elim) (fun _ u hu hA' => hQ2 _ _ hA' (vz_gVL hu) hu.2.1))
theorem gw_peek {a1 a2 : Int32} (hP : jG σ x1 mm x3 (K + 1) H bc bs) (hR : jV σ x1 mm x3 K (fun H1 b1 s1 Q2 => w_M_peek mm a1 a2 H1 (fun r2 H2 => Q2 r2 H2 b1 s1)) Qr) : w_Law_peek x1 a1 a2 x3 H bc bs Qr := by
  obtain ⟨oc, or_, A, v, DM, len, rl, ad, W, ts, mc, M, rc, rs, hO⟩ := hP.op
  obtain ⟨⟨e0, hI, hg, hM⟩, hQ, hA, eH, nx⟩ := id hO
  subst e0
  have hW := hI.1.2.1
  have hic : vN v 30 = wic W := hQ.2.2.1.1.1
  have m9 : ∀ i, i < wic W → 0 ≤ (xb_i H (A 31) i).toInt := by
    intro i hi
    obtain ⟨m', -, -, -, -, -, ⟨dm, -⟩, -⟩ := hA.io (by rw [hic]; exact hi)
    have dm' : (xb_i H (A 31) i).toInt = m' := dm
    omega
  unfold w_Law_peek
  refine ⟨hI.1.1.k 0 (by omega), ho_peek hI hg (fun i ma sl p z hi hi2 hma hsl hp hp2 hz _ => ?_) (fun h9 _ _ => ⟨rfl, ?_⟩)⟩
  · obtain ⟨q1, q2, q3, q4, q5, q6⟩ := hQ.ins hI hi2
    have hpos : 0 < iM (DM (xb_i H (A 31) i).toInt.toNat) 2 + qt (DM (xb_i H (A 31) i).toInt.toNat) 5 := by
      apply Nat.pos_of_ne_zero
      intro h9
      rw [q3 h9] at hma
      cases hma
    obtain ⟨k1, k2, k3, k4, k5⟩ := q5 hpos
    rw [k2] at hma
    have ema := Option.some.inj hma
    subst ema
    rw [k5] at hsl
    have esl := Option.some.inj hsl
    subst esl
    rw [k3] at hp2
    have hpp : p < 65536 * mmP H W i := by omega
    refine jO.an (w := fun H1 Q2 => w_M_peek mm a1 a2 H1 Q2) hO hR (fun H1 or' Q2 hA1 t1 hi9 hQ2 => r_peek hA1 (fun i' w g pc z' hi' _ hw hg' hpc hwp _ hz' u hu hA' => ?_) (fun h9 => ?_))
    · have ei : i' = i := by omega
      have ew : w = p := by omega
      subst ei
      subst ew
      rw [hi9] at hz' hg' hpc
      have eg : (oV A (xb_i H) DM i' 2).toInt.toNat = g := by omega
      obtain ⟨b1, b2⟩ := wQ.byt (q := w) hW hQ.2.2.1.2.2.2 rfl hi2 k1 hpp
      have egm : gmV id (fun k => xb_i H (A k)) DM i' = g := eg
      rw [egm] at b1
      have ez : z' = z := by
        apply Int32.toInt.inj
        have c1 : (xb_i H (A 57) (mpA (fun j => xb_i H (A 56) (16 * g + j)) w)).toInt % 256 = (byR (xb_i H (A 57)) (mpA (xb_i H (mmS H W i')) w) : Nat) := by
          unfold byR
          have b1' : mpA (fun j => xb_i H (A 56) (16 * g + j)) w = mpA (xb_i H (mmS H W i')) w := b1
          rw [b1']
          omega
        rw [hz', hz, c1]
        congr 1
        exact hQ.2.2.1.2.2.2.2.1.1 _ b2
      rw [ez]
      exact hQ2 _ hA' (vz_gVL hu) hu.2.1
    · exfalso
      rcases h9 with h9 | ⟨i', hi', -, h9⟩
      · exact byd_1 h9 hi (by omega)
      · have ei : i' = i := by omega
        subst ei
        rw [hi9] at h9
        rcases h9 with h9 | ⟨g, pc, g1, g2, -, g3⟩
        · have := h9 (xb_i H (A 31) i').toInt.toNat (by have := m9 i' hi2; omega)
          have h44 : qt (DM (xb_i H (A 31) i').toInt.toNat) (3 + 2) = qt (DM (xb_i H (A 31) i').toInt.toNat) 5 := rfl
          omega
        · have eg : (oV A (xb_i H) DM i' 2).toInt.toNat = g := by omega
          rw [eg] at k4
          omega
  · refine jO.tw (w := fun H1 Q2 => w_M_peek mm a1 a2 H1 Q2) hO hR (by decide) (fun or' Q2 hA1 hQ2 => r_peek hA1 (fun i' w g pc z' hi' hi2 hw hg' hpc hwp hpos _ _ _ _ => ?_) (fun _ u hu hA' => hQ2 _ _ hA' (vz_gVL hu) hu.2.1))
    exfalso
    rcases h9 with h9 | ⟨i, hi, hic2, h9⟩
    · exact byd_1 h9 hi' (by omega)
    · have ei : i' = i := by omega
      subst ei
      obtain ⟨q1, q2, q3, q4, q5, q6⟩ := hQ.ins hI hic2
      obtain ⟨k1, k2, k3, k4, k5⟩ := q5 (hpos _ (by have := m9 i' hic2; omega))
      rcases h9 with h9 | ⟨ma, h9, h8⟩
      · rw [k2] at h9
        cases h9
      · rw [k2] at h9
        have ema := Option.some.inj h9
        subst ema
        have eg : (oV A (xb_i H) DM i' 2).toInt.toNat = g := by omega
        rw [eg] at k4
        rw [k3, Int.toNat_natCast] at h8
        exact byd_1 h8 hw (by omega)
theorem gw_variable {a1 a2 : Int32} (hP : jG σ x1 mm x3 (K + 1) H bc bs) (hR : jVl σ x1 mm x3 K (fun H1 b1 s1 Q2 => w_M_variable mm a1 a2 H1 (fun r2 H2 => Q2 r2 H2 b1 s1)) Qr) : w_Law_variable x1 a1 a2 x3 H bc bs Qr := by
  obtain ⟨oc, or_, A, v, DM, len, rl, ad, W, ts, mc, M, rc, rs, hO⟩ := hP.op
  obtain ⟨⟨e0, hI, hg, hM⟩, hQ, hA, eH, nx⟩ := id hO
  subst e0
  have hW := hI.1.2.1
  have hic : vN v 30 = wic W := hQ.2.2.1.1.1
  unfold w_Law_variable
  refine ⟨hI.1.1.k 0 (by omega), ho_variable hI hg (fun i k hi hi2 hk hk2 _ => ?_) (fun h9 _ _ => ⟨rfl, ?_⟩)⟩
  · obtain ⟨q1, -⟩ := hQ.ins hI hi2
    have hva := (q1.va hk2).1
    refine jO.anl (w := fun H1 Q2 => w_M_variable mm a1 a2 H1 Q2) hO hR (fun H1 or' Q2 hA1 t1 hi9 hQ2 => r_variable hA1 (fun i' m k' hi' _ hm hk' _ u hu hA' => ?_) (fun h9 => ?_))
    · have ei : i' = i := by omega
      have ek : k' = k := by omega
      subst ei
      subst ek
      have ez : xb_l H1 (A 61) (mnV A (xb_i H1) DM i' 3 k') = xb_l H (ad 22) (vnI H W i' k') := by
        rw [(t1 61 (by decide)).2, hi9]
        have e1 : mnV A (xb_i H) DM i' 3 k' = vnI H W i' k' := (hQ.2.2.1.2.2.1.2.2.1 i' hi2).2 k' hk2
        rw [e1]
        exact hQ.2.2.1.2.2.2.1 _ (vnI_ty hW hi2 hk2).1
      rw [ez]
      exact hQ2 _ hA' (vz_gVL hu) hu.2.1
    · exfalso
      rcases h9 with h9 | ⟨i', m, hi', -, hm, h9⟩
      · exact byd_1 h9 hi (by omega)
      · have ei : i' = i := by omega
        subst ei
        rw [hi9] at hm
        rw [hm, Int.toNat_natCast] at hva
        exact byd_1 h9 hk hva
  · refine jO.twl (w := fun H1 Q2 => w_M_variable mm a1 a2 H1 Q2) hO hR (by decide) (fun or' Q2 hA1 hQ2 => r_variable hA1 (fun i' m k' hi' hi2 hm hk' hk2 _ _ _ => ?_) (fun _ u hu hA' => hQ2 _ _ hA' (vz_gVL hu) hu.2.1))
    exfalso
    rcases h9 with h9 | ⟨i, hi, hic2, h9⟩
    · exact byd_1 h9 hi' (by omega)
    · have ei : i' = i := by omega
      subst ei
      obtain ⟨q1, -⟩ := hQ.ins hI hic2
      have n5 := q1.n.2.2.2.2.1
      rw [hm, Int.toNat_natCast] at n5
      refine byd_1 h9 hk' ?_
      unfold nvr
      have : iM (DM m) 3 + qt (DM m) (3 + 3) = iM (DM m) 3 + qt (DM m) 6 := rfl
      omega
theorem gw_element {a1 a2 : Int32} (hP : jG σ x1 mm x3 (K + 1) H bc bs) (hR : jV σ x1 mm x3 K (fun H1 b1 s1 Q2 => w_M_element mm a1 a2 H1 (fun r2 H2 => Q2 r2 H2 b1 s1)) Qr) : w_Law_element x1 a1 a2 x3 H bc bs Qr := by
  obtain ⟨oc, or_, A, v, DM, len, rl, ad, W, ts, mc, M, rc, rs, hO⟩ := hP.op
  obtain ⟨⟨e0, hI, hg, hM⟩, hQ, hA, eH, nx⟩ := id hO
  subst e0
  have hW := hI.1.2.1
  have hic : vN v 30 = wic W := hQ.2.2.1.1.1
  have m9 : ∀ i, i < wic W → 0 ≤ (xb_i H (A 31) i).toInt := by
    intro i hi
    obtain ⟨m', -, -, -, -, -, ⟨dm, -⟩, -⟩ := hA.io (by rw [hic]; exact hi)
    have dm' : (xb_i H (A 31) i).toInt = m' := dm
    omega
  have st := hQ.2.2.1.2.2.1
  unfold w_Law_element
  refine ⟨hI.1.1.k 0 (by omega), ho_element hI hg (fun i ta j fr z hi hi2 hta hfr hj hj2 hz _ => ?_) (fun h9 _ _ => ⟨rfl, ?_⟩)⟩
  · obtain ⟨q1, q2, q3, q4, q5, q6⟩ := hQ.ins hI hi2
    have hpos : 0 < iM (DM (xb_i H (A 31) i).toInt.toNat) 1 + qt (DM (xb_i H (A 31) i).toInt.toNat) 4 := by
      apply Nat.pos_of_ne_zero
      intro h9
      rw [q4 h9] at hta
      cases hta
    obtain ⟨k1, k2, k3, ta', k4, k5, k6, k7⟩ := q6 hpos
    rw [k4] at hta
    have eta := Option.some.inj hta
    subst eta
    have efr : fr = tbF H W i := by omega
    subst efr
    rw [k6] at hj2
    refine jO.an (w := fun H1 Q2 => w_M_element mm a1 a2 H1 Q2) hO hR (fun H1 or' Q2 hA1 t1 hi9 hQ2 => r_element hA1 (fun i' t k tf tz z' hi' _ ht _ hk htf htz hkz hz' u hu hA' => ?_) (fun h9 => ?_))
    · have ei : i' = i := by omega
      have ek : k = j := by omega
      subst ei
      subst ek
      rw [hi9] at hz' ht htf htz
      have et : (oV A (xb_i H) DM i' 1).toInt.toNat = t := by omega
      rw [et] at k2 k3
      have etf : tf = tbF H W i' := by omega
      subst etf
      have ez : z' = z := by
        apply Int32.toInt.inj
        rcases st.2.2.2.2.1 (tbF H W i' + k) (by omega) with ⟨s1, s2⟩ | ⟨f, s1, s2, s3⟩
        · have s2' : xb_i H (A 51) (tbF H W i' + k) = 0 := s2
          rw [s2'] at hz'
          rcases hz with ⟨z1, z2⟩ | ⟨f, z1, -⟩ | ⟨f, z1, -⟩
          · rcases hz' with ⟨-, y2⟩ | ⟨f, y1, -⟩
            · rw [y2, z2]
            · simp at y1
              omega
          · omega
          · omega
        · have s3' : (xb_i H (A 51) (tbF H W i' + k)).toInt = (fmp f + 1 : Nat) := s3
          rcases hz' with ⟨y1, -⟩ | ⟨f', y1, y2⟩
          · rw [y1] at s3'
            simp at s3'
            omega
          · have ef : f' = fmp f := by omega
            subst ef
            rcases hz with ⟨z1, -⟩ | ⟨f9, z1, z2, z3⟩ | ⟨f9, z1, z2, z3⟩
            · omega
            · have ef9 : f9 = f := by omega
              subst ef9
              have h8 := hW.1.2.1
              have efm : fmp f9 = f9 := by unfold fmp; rw [if_neg (by omega)]
              rw [efm] at y2
              rcases y2 with ⟨-, i2, m2, y3, y4, y5⟩ | ⟨y2, -⟩
              · obtain ⟨o1, o2, o3, o4⟩ := hW.1.2.2 f9 z2
                obtain ⟨u1, u2⟩ := st.2.1 f9 z2
                have u1' : (xb_i H (A 44) f9).toInt = wfo W f9 := u1
                have u2' : (xb_i H (A 45) f9).toInt = (f9 - wff W (wfo W f9) : Nat) := u2
                have ei2 : i2 = wfo W f9 := by omega
                subst ei2
                obtain ⟨q9, -, -, q10, -⟩ := st.1 _ o2
                have em2 : (xb_i H (A 31) (wfo W f9)).toInt.toNat = m2 := by omega
                have q10' : (xb_i H (A 10) (4 * (xb_i H (A 31) (wfo W f9)).toInt.toNat)).toInt = iM (DM (xb_i H (A 31) (wfo W f9)).toInt.toNat) 0 := q10
                have q9' : ni (wd W (wfo W f9)) 0 = iM (DM (xb_i H (A 31) (wfo W f9)).toInt.toNat) 0 := q9.n.2.2.2.2.2.1 0 (by omega)
                rw [em2] at q10' q9'
                have hni : ni (wd W (wfo W f9)) 0 ≤ 65536 := by
                  have := (hW.2.2.2.2.2.2.1.2.2.2 _ o2).2.1.2.2.2.2.nn
                  omega
                have hic24 := hW.2.2.2.2.2.2.1.2.1
                rw [y5, z3]
                rw [← q9'] at q10'
                exact z_el u1' q10' u2' (by omega) hni (by omega)
              · omega
            · have ef9 : f9 = f := by omega
              subst ef9
              have efm : fmp f9 = f9 - 8192 + 100000 := by unfold fmp; rw [if_pos z2]
              rw [efm] at y2
              rcases y2 with ⟨y2, -⟩ | ⟨-, y3⟩
              · omega
              · rw [y3, z3]
                omega
      rw [ez]
      exact hQ2 _ hA' (vz_gVL hu) hu.2.1
    · exfalso
      rcases h9 with h9 | ⟨i', hi', -, h9⟩
      · exact byd_1 h9 hi (by omega)
      · have ei : i' = i := by omega
        subst ei
        rw [hi9] at h9
        rcases h9 with h9 | ⟨t, tz, g1, g2, -, g3⟩
        · have := h9 (xb_i H (A 31) i').toInt.toNat (by have := m9 i' hi2; omega)
          have h44 : qt (DM (xb_i H (A 31) i').toInt.toNat) (3 + 1) = qt (DM (xb_i H (A 31) i').toInt.toNat) 4 := rfl
          omega
        · have et : (oV A (xb_i H) DM i' 1).toInt.toNat = t := by omega
          rw [et] at k3
          exact byd_1 g3 hj (by omega)
  · refine jO.tw (w := fun H1 Q2 => w_M_element mm a1 a2 H1 Q2) hO hR (by decide) (fun or' Q2 hA1 hQ2 => r_element hA1 (fun i' t k tf tz z' hi' hi2 ht hpos hk htf htz hkz _ _ _ _ => ?_) (fun _ u hu hA' => hQ2 _ _ hA' (vz_gVL hu) hu.2.1))
    exfalso
    rcases h9 with h9 | ⟨i, hi, hic2, h9⟩
    · exact byd_1 h9 hi' (by omega)
    · have ei : i' = i := by omega
      subst ei
      obtain ⟨q1, q2, q3, q4, q5, q6⟩ := hQ.ins hI hic2
      obtain ⟨k1, k2, k3, ta', k4, k5, k6, k7⟩ := q6 (hpos _ (by have := m9 i' hic2; omega))
      rcases h9 with h9 | ⟨ta, h9, h8⟩
      · rw [k4] at h9
        cases h9
      · rw [k4] at h9
        have eta := Option.some.inj h9
        subst eta
        have et : (oV A (xb_i H) DM i' 1).toInt.toNat = t := by omega
        rw [et] at k3
        rw [k6, Int.toNat_natCast] at h8
        exact byd_1 h8 hk (by omega)
end GU
