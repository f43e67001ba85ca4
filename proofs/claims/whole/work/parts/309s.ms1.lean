-- the reference's reader: sections
/-- how many of the first n imports are of a kind -/
def kcn (cb : Nat → Int32) (P2 : Nat → Nat) (κ : Nat) : Nat → Nat
  | 0 => 0
  | n + 1 => kcn cb P2 κ n + if (ub cb (qN cb (qN cb (P2 n)))).toInt = κ then 1 else 0
/-- entries of the module that is read, so far: how many of each section, where they are noted, where they stand -/
def mE (A : Nat → Nat) (nm en0 en b e : Nat) (cb : Nat → Int32) (F : Nat → Nat → Int32) (ct fs : Nat → Nat) (P : Nat → Nat → Nat) : Prop :=
  (∀ s, s < 12 → (F (A 9) (12 * nm + s)).toInt = ct s ∧ (F (A 8) (12 * nm + s)).toInt = fs s ∧ (0 < ct s → en0 ≤ fs s ∧ fs s + ct s ≤ en) ∧ ∀ k, k < ct s → (F (A 11) (fs s + k)).toInt = P s k ∧ b ≤ P s k ∧ ∃ q, RS cb s (P s k) q ∧ q ≤ e) ∧
  ∀ κ, κ < 4 → (F (A 10) (4 * nm + κ)).toInt = kcn cb (P 2) κ (ct 2)
section MS1
variable {own own' own2 : Nat → Nat} {mm nm en0 en b e E p : Nat} {A A' A2 : Nat → Nat} {h h' h2 : xb_H} {F F' F2 : Nat → Nat → Int32} {v v' cb : Nat → Int32} {ct fs : Nat → Nat} {P : Nat → Nat → Nat}
theorem kcn_cg {P2 P3 : Nat → Nat} {κ : Nat} : ∀ {n : Nat}, (∀ k, k < n → P3 k = P2 k) → kcn cb P3 κ n = kcn cb P2 κ n
  | 0, _ => rfl
  | n + 1, h => by
    unfold kcn
    rw [kcn_cg (fun k hk => h k (by omega)), h n (by omega)]
theorem mB.k24 (hB : mB own mm A h) : xb_r h mm 24 = some (A 24) ∧ xb_k h (A 24) = 102 ∧ xb_n h (A 24) = 202 ∧ A 24 ≠ mm ∧ A 3 ≠ A 24 := by
  obtain ⟨g1, g2, -, g4⟩ := hB.g (k := 24) (kd := 102) (n := 202) (by decide)
  exact ⟨g1, g2, g4.elim (fun h => by omega) id, hB.nm (by decide), hB.ne (by decide) (by decide) (by decide)⟩
theorem mB.k10 (hB : mB own mm A h) : xb_r h mm 10 = some (A 10) ∧ xb_k h (A 10) = 102 ∧ xb_n h (A 10) = 256 ∧ A 10 ≠ mm := by
  obtain ⟨g1, g2, -, g4⟩ := hB.g (k := 10) (kd := 102) (n := 256) (by decide)
  exact ⟨g1, g2, g4.elim (fun h => by omega) id, hB.nm (by decide)⟩
theorem ldF.rd (hB : mB own mm A h) (hL : ldF mm nm en0 own A h F own' A' h' F') (hs : rdH mm (A 3) 16384 b e cb h F) : rdH mm (A' 3) 16384 b e cb h' F' := by
  obtain ⟨s1, s2, s3, s4, s5, s6, s7, s8⟩ := hs
  have e3 : A' 3 = A 3 := hL.2.2.1 3 (by decide) (by decide)
  obtain ⟨g1, g2, g3, g4⟩ := hL.2.1.g (k := 3) (kd := 100) (n := 16384) (by decide)
  refine ⟨hL.2.1.2.1, g1, g2, g4.elim (fun h => by omega) id, s5, by rw [e3]; exact s6, s7, fun j j1 j2 => ?_⟩
  rw [e3, hL.2.2.2.1 (A 3) (by rw [s3]; decide) s6 (fun k hk => ?_)]
  · exact s8 j j1 j2
  · have : ∀ k, k ∈ ldl → (∃ e ∈ aL, e.1 = k) ∧ 3 ≠ k := by decide
    exact hB.ne (by decide) (this k hk).1 (this k hk).2
/-- one entry more -/
theorem mE.one {s pp pq : Nat} (hE : mE A nm en0 en b E cb F ct fs P) (h8 : F' (A' 8) = F (A 8)) (h9 : F' (A' 9) = va_up (F (A 9)) (12 * nm + s) (F (A 9) (12 * nm + s) + 1)) (h11 : ∀ j, j < en → F' (A' 11) j = F (A 11) j) (h11e : (F' (A' 11) en).toInt = pp) (hs : s < 12) (hfs : fs s + ct s = en) (hen0 : en0 ≤ en) (hen : en ≤ 100000) (he0 : en0 ≤ fs s)
    (hR : RS cb s pp pq) (hpb : b ≤ pp) (hpq : pq ≤ E) (h10 : ∀ κ, κ < 4 → (F' (A' 10) (4 * nm + κ)).toInt = kcn cb (va_up P s (va_up (P s) (ct s) pp) 2) κ (va_up ct s (ct s + 1) 2)) : mE A' nm en0 (en + 1) b E cb F' (va_up ct s (ct s + 1)) fs (va_up P s (va_up (P s) (ct s) pp)) := by
  refine ⟨fun i hi => ?_, h10⟩
  obtain ⟨a1, a2, a3, a4⟩ := hE.1 i hi
  rw [h8, h9]
  by_cases his : i = s
  · subst his
    simp only [xh_up, if_true]
    refine ⟨?_, a2, fun _ => ⟨he0, by omega⟩, fun k hk => ?_⟩
    · rw [z_add, a1]
      simp only [Int32.reduceToInt]
      omega
    · by_cases hkc : k = ct i
      · subst hkc
        simp only [if_true]
        rw [hfs]
        exact ⟨h11e, hpb, pq, hR, hpq⟩
      · simp only [if_neg hkc]
        rw [h11 _ (by omega)]
        exact a4 k (by omega)
  · have hne : 12 * nm + i ≠ 12 * nm + s := by omega
    simp only [xh_up, if_neg his, if_neg hne]
    refine ⟨a1, a2, fun h0 => ⟨(a3 h0).1, by have := (a3 h0).2; omega⟩, fun k hk => ?_⟩
    rw [h11 _ (by have := (a3 (by omega)).2; omega)]
    exact a4 k hk
/-- after a step of reading: heap, numbers and what is left -/
def rdQ (mm nm en0 b e E : Nat) (own A : Nat → Nat) (h : xb_H) (F : Nat → Nat → Int32) (v : Nat → Int32) (p rc rs : Nat) (G : (Nat → Nat) → (Nat → Nat → Int32) → Nat → Nat → Prop) (Qr : xb_H → Nat → Nat → Prop) : Prop :=
  ∀ (own' A' : Nat → Nat) (h' : xb_H) (F' : Nat → Nat → Int32) (v' : Nat → Int32) (p' en' len' bc' bs' : Nat), ldF mm nm en0 own A h F own' A' h' F' → lenE A' h' len' → bgE len' rc rs bc' bs' → (∀ j, j ≠ 13 → j ≠ 15 → j ≠ 17 → j ≠ 18 → v' j = v j) → (v' 15).toInt = p' → p ≤ p' → p' ≤ e → (v' 13).toInt = en' → en' ≤ len' → (v' 17 = 0 → en0 ≤ en' ∧ en' ≤ p' ∧ G A' F' p' en') → Qr (mH h' F' mm v') bc' bs'
theorem m_sectionEntry {x1 : Int32} {s len rc rs bc bs : Nat} {Qr : xb_H → Nat → Nat → Prop} (hB : mB own mm A h) (hs : rdH mm (A 3) 16384 b e cb h F) (hby : ∀ j, -128 ≤ (cb j).toInt ∧ (cb j).toInt ≤ 127) (hp : rdP v b p e) (h1 : x1.toInt = s) (hs1 : 1 ≤ s) (hs2 : s < 12) (hs8 : s ≠ 8) (h5 : (v 5).toInt = nm) (hnm : nm < 64) (h13 : (v 13).toInt = en) (hl : lenE A h len) (hen : en ≤ len) (hep : en ≤ p) (he2 : e ≤ 12000) (heE : e ≤ E) (hen0 : en0 ≤ en) (hb : bgE len rc rs bc bs)
    (hE : mE A nm en0 en b E cb F ct fs P) (hfs : fs s + ct s = en) (he0 : en0 ≤ fs s)
    (hQ : rdQ mm nm en0 b e E own A h F v p rc rs (fun A' F' p' en' => p < p' ∧ en' = en + 1 ∧ ∃ P', mE A' nm en0 en' b E cb F' (va_up ct s (ct s + 1)) fs P') Qr) : w_M_sectionEntry mm x1 (mH h F mm v) bc bs Qr := by
  have p4 := hp.2.2.2
  unfold w_M_sectionEntry
  refine ⟨hB.2.1, m_note (en0 := en0) hB h1 hs2 h5 hnm h13 hl hen (by omega) hen0 hb (fun own1 A1 g F1 len1 bc1 bs1 L1 hl1 hb1 hen1 n9 n8 n10 n11 n11e _ => ?_)⟩
  obtain ⟨w, hw⟩ : ∃ w : Nat → Int32, w = va_up v 13 (v 13 + 1) := ⟨_, rfl⟩
  rw [← hw]
  have B1 := L1.2.1
  have S1 : rdH mm (A1 3) 16384 b e cb g F1 := L1.rd hB hs
  have w13 : (w 13).toInt = (en + 1 : Nat) := by rw [hw, xh_up, if_pos rfl]; exact z_inc h13 (by omega)
  have Pw : rdP w b p e := ⟨by rw [hw, xh_up, if_neg (by omega)]; exact hp.1, by rw [hw, xh_up, if_neg (by omega)]; exact hp.2.1, hp.2.2.1, hp.2.2.2⟩
  have a8 : A1 8 = A 8 := L1.2.2.1 8 (by decide) (by decide)
  have a9 : A1 9 = A 9 := L1.2.2.1 9 (by decide) (by decide)
  have a10 : A1 10 = A 10 := L1.2.2.1 10 (by decide) (by decide)
  -- the end of an entry
  have fin : ∀ (v2 : Nat → Int32) (p2 : Nat) (F2 : Nat → Nat → Int32), ro w v2 p p2 e → ldF mm nm en0 own1 A1 g F1 own1 A1 g F2 → (v2 17 = 0 → RS cb s p p2 ∧ p < p2 ∧ F2 (A1 8) = F1 (A1 8) ∧ F2 (A1 9) = F1 (A1 9) ∧ F2 (A1 11) = F1 (A1 11) ∧ ∀ κ, κ < 4 → (F2 (A1 10) (4 * nm + κ)).toInt = kcn cb (va_up P s (va_up (P s) (ct s) p) 2) κ (va_up ct s (ct s + 1) 2)) → w_M_sectionEntry_L180 Qr (mH g F2 mm v2) bc1 bs1 := by
    intro v2 p2 F2 o2 L2 hok
    unfold w_M_sectionEntry_L180
    refine hQ own1 A1 g F2 v2 p2 (en + 1) len1 bc1 bs1 (ldF.tr hB L1 L2) hl1 hb1 (fun j j1 j2 j3 j4 => ?_) o2.2.1 o2.2.2.1 o2.2.2.2.1 ?_ hen1 (fun hz => ?_)
    · rw [o2.1 j j2 j3 j4, hw, xh_up, if_neg j1]
    · rw [o2.1 13 (by decide) (by decide) (by decide)]
      exact w13
    · obtain ⟨c1, c2, c3, c4, c5, c6⟩ := hok hz
      refine ⟨by omega, by omega, c2, rfl, _, hE.one (pp := p) (pq := p2) (by rw [c3, a8, n8]) (by rw [c4, a9, n9]) (fun j hj => by rw [c5]; exact n11 j hj) (by rw [c5, n11e]; exact hp.1) hs2 hfs hen0 (by omega) he0 c1 hp.2.2.1 (by have := o2.2.2.2.1; omega) c6⟩
  have keep : s ≠ 2 → ∀ κ, κ < 4 → (F1 (A1 10) (4 * nm + κ)).toInt = kcn cb (va_up P s (va_up (P s) (ct s) p) 2) κ (va_up ct s (ct s + 1) 2) := fun hs2 κ hκ => by
    rw [a10, n10, xh_up (f := P), if_neg (Ne.symm hs2), xh_up (f := ct), if_neg (Ne.symm hs2)]
    exact hE.2 κ hκ
  have n24 : ∀ k, k ∈ [8, 9, 10, 11] → A1 k ≠ A1 24 := fun k hk => by
    have : ∀ k, k ∈ [8, 9, 10, 11] → (∃ e ∈ aL, e.1 = k) ∧ k ≠ 24 := by decide
    exact B1.ne (this k hk).1 (by decide) (this k hk).2
  -- the end of an entry that has written no array, or what is open alone
  have fin0 : s ≠ 2 → ∀ (v2 : Nat → Int32) (p2 : Nat), ro w v2 p p2 e → (v2 17 = 0 → RS cb s p p2 ∧ p < p2) → w_M_sectionEntry_L180 Qr (mH g F1 mm v2) bc1 bs1 := fun h2 v2 p2 o2 hok => fin v2 p2 F1 o2 (ldF.rf B1) (fun hz => ⟨(hok hz).1, (hok hz).2, rfl, rfl, rfl, keep h2⟩)
  have fin1 : s ≠ 2 → ∀ (v2 : Nat → Int32) (p2 : Nat) (f : Nat → Int32), ro w v2 p p2 e → (v2 17 = 0 → RS cb s p p2 ∧ p < p2) → w_M_sectionEntry_L180 Qr (mH g (va_up F1 (A1 24) f) mm v2) bc1 bs1 := fun h2 v2 p2 f o2 hok => fin v2 p2 _ o2 (ldF.up B1 (by decide) (fun e => by omega) (fun e => by omega) (fun e => by omega)) (fun hz => ⟨(hok hz).1, (hok hz).2, by rw [xh_up, if_neg (n24 8 (by decide))], by rw [xh_up, if_neg (n24 9 (by decide))], by rw [xh_up, if_neg (n24 11 (by decide))], by rw [xh_up, if_neg (n24 10 (by decide))]; exact keep h2⟩)
  have k24 := B1.k24
  have lit : ∀ (c : Int32) (n : Nat), c.toInt = n → x1 = c → s = n := fun c n hc hx => by
    rw [z_eq, h1, hc] at hx
    omega
  have L163 : s = 11 → w_M_sectionEntry_L163 Qr mm (mH g F1 mm w) bc1 bs1 := fun e11 => by
    subst e11
    unfold w_M_sectionEntry_L163
    refine ⟨B1.2.1, m_count S1 Pw (fun r3 v3 p3 o3 f3 _ _ => m_expression S1 hby k24 (o3.P Pw) (fun v4 p4 f' o4 x4 _ => ?_))⟩
    have S2 := S1.up (a := A1 24) (f := f') k24.2.2.2.2
    refine m_count S2 ((o3.tr o4).P Pw) (fun r7 v5 p5 o5 f5 _ _ => m_skip S2 ((o3.tr (o4.tr o5)).P Pw) (fun hz => ?_) (fun v6 p6 o6 f6 _ _ => fin1 (by omega) v6 p6 f' (o3.tr (o4.tr (o5.tr o6))) (fun hz => ?_)))
    · have := rC_b (f5 hz)
      omega
    · have z5 := o6.z hz
      have z4 := o5.z z5
      have z3 := o4.z z4
      have b3 := rC_b (f3 z3)
      have := (x4 z4).1
      have := o5.2.2.1
      have := o6.2.2.1
      exact ⟨⟨p3, r3, p4, p5, r7, f3 z3, x4 z4, f5 z5, f6 hz⟩, by omega⟩
  refine ⟨fun k => ?_, fun k => ?_, fun k => ?_, fun k => ?_, fun k => ?_, fun k => ?_, fun k => ?_, fun k => ?_, fun k => ?_, fun k => ?_, fun k1 k2 k3 k4 k5 k6 k7 k8 k9 k10 => ?_⟩
  · have es := lit 1 1 rfl k
    subst es
    refine m_wanted S1 Pw (fun v2 p2 o2 f2 _ _ => m_row S1 (o2.P Pw) (fun v3 p3 o3 f3 _ _ => m_row S1 ((o2.tr o3).P Pw) (fun v4 p4 o4 f4 _ _ => fin0 (by omega) v4 p4 (o2.tr (o3.tr o4)) (fun hz => ?_))))
    have z3 := o4.z hz
    have z2 := o3.z z3
    obtain ⟨c1, c2, c3⟩ := f2 z2
    obtain ⟨q1, n1, d1, d2⟩ := f3 z3
    obtain ⟨q2, n2, d3, d4⟩ := f4 hz
    obtain ⟨g1, g2⟩ := d2.2 (by decide)
    obtain ⟨g3, g4⟩ := d4.2 (by decide)
    have b1 := rC_b d1
    have b3 := rC_b d3
    refine ⟨⟨?_, q1, n1, q2, n2, by rw [← c1]; exact d1, by rw [← g1]; exact g2, by rw [← g1]; exact d3, g3, g4⟩, by omega⟩
    rw [z_lt] at c2
    rw [z_le] at c3
    rw [z_eq]
    simp only [Int32.reduceToInt] at c2 c3 ⊢
    omega
  · have es := lit 2 2 rfl k
    subst es
    refine m_importEntry S1 hby B1.k10 (by rw [hw, xh_up, if_neg (by decide)]; exact h5) hnm Pw (fun v2 p2 F2 o2 hc _ => ?_)
    rcases hc with ⟨c1, c2⟩ | ⟨c1, κ, c2, c3, c4, c5⟩
    · rw [c2]
      exact fin v2 p2 F1 o2 (ldF.rf B1) (fun hz => absurd hz c1)
    · subst c5
      have n10' : ∀ k, k ∈ [8, 9, 11] → A1 k ≠ A1 10 := fun k hk => by
        have : ∀ k, k ∈ [8, 9, 11] → (∃ e ∈ aL, e.1 = k) ∧ k ≠ 10 := by decide
        exact B1.ne (this k hk).1 (by decide) (this k hk).2
      refine fin v2 p2 _ o2 (ldF.up B1 (by decide) (fun e => by omega) (fun _ j hj => by rw [xh_up, if_neg (by omega)]) (fun e => by omega)) (fun hz => ⟨c3, ?_, by rw [xh_up, if_neg (n10' 8 (by decide))], by rw [xh_up, if_neg (n10' 9 (by decide))], by rw [xh_up, if_neg (n10' 11 (by decide))], fun i hi => ?_⟩)
      · obtain ⟨q1, q2, d1, d2, d3⟩ := c3
        obtain ⟨a, x, d4, d5, -⟩ := d1
        obtain ⟨a2, x2, d6, d7, -⟩ := d2
        have b1 := rC_b d4
        have b2 := rC_b d6
        rcases d3 with ⟨-, x3, d8⟩ | ⟨-, -, d8⟩ | ⟨-, d8⟩ | ⟨-, -, -, d8⟩
        · have := rC_b d8
          omega
        · obtain ⟨-, a3, x3, d9, d10⟩ := d8
          have := rC_b d9
          rcases d10 with ⟨-, d10⟩ | ⟨-, y, d10⟩
          · omega
          · have := rC_b d10
            omega
        · obtain ⟨-, a3, x3, d9, d10⟩ := d8
          have := rC_b d9
          rcases d10 with ⟨-, d10⟩ | ⟨-, y, d10⟩
          · omega
          · have := rC_b d10
            omega
        · omega
      · have g1 := hE.2 i hi
        have e1 : kcn cb (va_up P 2 (va_up (P 2) (ct 2) p) 2) i (va_up ct 2 (ct 2 + 1) 2) = kcn cb (P 2) i (ct 2) + if κ = i then 1 else 0 := by
          simp only [xh_up, if_true]
          rw [kcn, kcn_cg (P2 := P 2) (fun k hk => by rw [xh_up, if_neg (by omega)]), xh_up, if_pos rfl, c4]
          congr 1
          by_cases hκ : κ = i
          · rw [if_pos hκ, if_pos (by omega)]
          · rw [if_neg hκ, if_neg (by omega)]
        have cb2 : kcn cb (P 2) i (ct 2) ≤ ct 2 := by
          have : ∀ n, kcn cb (P 2) i n ≤ n := by
            intro n
            induction n with
            | zero => exact Nat.le_refl 0
            | succ n ih =>
              unfold kcn
              split <;> omega
          exact this _
        rw [e1, xh_up, if_pos rfl, xh_up]
        by_cases hκ : κ = i
        · subst hκ
          rw [if_pos rfl, if_pos rfl, a10, n10, z_add, g1]
          simp only [Int32.reduceToInt]
          omega
        · rw [if_neg (by omega), if_neg hκ, a10, n10]
          exact g1
  · have es := lit 3 3 rfl k
    subst es
    exact m_count S1 Pw (fun r v2 p2 o2 f2 _ _ => fin0 (by omega) v2 p2 o2 (fun hz => ⟨⟨r, f2 hz⟩, (rC_b (f2 hz)).1⟩))
  · have es := lit 4 4 rfl k
    subst es
    refine m_tableType S1 hby Pw (fun v2 p2 o2 f2 _ => fin0 (by omega) v2 p2 o2 (fun hz => ⟨f2 hz, ?_⟩))
    obtain ⟨-, -, a3, x3, d9, d10⟩ := f2 hz
    have := rC_b d9
    rcases d10 with ⟨-, d10⟩ | ⟨-, y, d10⟩
    · omega
    · have := rC_b d10
      omega
  · have es := lit 5 5 rfl k
    subst es
    refine m_limits S1 hby Pw (fun v2 p2 o2 f2 _ => fin0 (by omega) v2 p2 o2 (fun hz => ⟨f2 hz, ?_⟩))
    obtain ⟨-, a3, x3, d9, d10⟩ := f2 hz
    have := rC_b d9
    rcases d10 with ⟨-, d10⟩ | ⟨-, y, d10⟩
    · omega
    · have := rC_b d10
      omega
  · have es := lit 6 6 rfl k
    subst es
    refine m_variableKind S1 Pw (fun v2 p2 o2 f2 _ => m_expression S1 hby k24 (o2.P Pw) (fun v3 p3 f' o3 f3 _ => fin1 (by omega) v3 p3 f' (o2.tr o3) (fun hz => ⟨⟨p2, f2 (o3.z hz), f3 hz⟩, ?_⟩)))
    have := (f3 hz).1
    have := (f2 (o3.z hz)).2.2
    omega
  · have es := lit 7 7 rfl k
    subst es
    refine m_name S1 Pw (fun v2 p2 o2 f2 _ _ => m_wanted S1 (o2.P Pw) (fun v3 p3 o3 f3 _ _ => m_count S1 ((o2.tr o3).P Pw) (fun r v4 p4 o4 f4 _ _ => fin0 (by omega) v4 p4 (o2.tr (o3.tr o4)) (fun hz => ?_))))
    have z3 := o4.z hz
    have z2 := o3.z z3
    obtain ⟨c1, c2, c3⟩ := f3 z3
    have b4 := rC_b (f4 hz)
    have := o2.2.2.1
    exact ⟨⟨p2, r, f2 z2, c3, by rw [← c1]; exact f4 hz⟩, by omega⟩
  · exact absurd (lit 8 8 rfl k) hs8
  · have es := lit 9 9 rfl k
    subst es
    refine m_count S1 Pw (fun r3 v3 p3 o3 f3 _ _ => m_expression S1 hby k24 (o3.P Pw) (fun v4 p4 f' o4 x4 _ => m_row (S1.up (a := A1 24) (f := f') k24.2.2.2.2) ((o3.tr o4).P Pw) (fun v5 p5 o5 f5 _ _ => fin1 (by omega) v5 p5 f' (o3.tr (o4.tr o5)) (fun hz => ?_))))
    have z4 := o5.z hz
    have z3 := o4.z z4
    obtain ⟨q1, L, d1, d2⟩ := f5 hz
    have b3 := rC_b (f3 z3)
    have := (x4 z4).1
    have := o5.2.2.1
    exact ⟨⟨p3, r3, p4, q1, L, f3 z3, x4 z4, d1, d2.1 rfl⟩, by omega⟩
  · have es := lit 10 10 rfl k
    subst es
    refine m_body S1 hby k24 Pw (fun v2 p2 f' o2 f2 _ => fin1 (by omega) v2 p2 f' o2 (fun hz => ⟨f2 hz, ?_⟩))
    obtain ⟨q1, n, q2, gg, q3, T, d1, d2, -⟩ := f2 hz
    have := rC_b d1
    omega
  · refine L163 ?_
    simp only [z_eq, h1, Int32.reduceToInt] at k1 k2 k3 k4 k5 k6 k7 k8 k9 k10
    omega
end MS1
