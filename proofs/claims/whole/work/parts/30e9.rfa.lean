-- equality, reading: sections' entries (the reference)
noncomputable def pRw (cb : Nat → Int32) (e : Nat) (x1 : Int32) (p : Nat) : Rs := mkP (fun q => ∃ p1 L, rC cb p = some (p1, L) ∧ rRow cb x1 L.toInt.toNat p1 q) e (thC cb e p (fun p1 _ => fRow cb e x1 (e - p1 + 1) p1))
noncomputable def pSk (e x p : Nat) : Rs := mkP (fun q => q = p + x) e (2, e)
/-- an entry of section s -/
noncomputable def pEnt (cb : Nat → Int32) (e : Nat) : Nat → Nat → Rs
  | 1, p => (pW cb e 96 96 p).bind (fun q => (pRw cb e 1 q).bind (fun q2 => pRw cb e 1 q2))
  | 2, p => pImp cb e p
  | 3, p => pCx cb e p
  | 4, p => pTab cb e p
  | 5, p => pLim cb e p
  | 6, p => (pVar cb e p).bind (fun q => pExp cb e q)
  | 7, p => (pNm cb e p).bind (fun q => (pW cb e 0 3 q).bind (fun q2 => pCx cb e q2))
  | 9, p => (pCx cb e p).bind (fun q => (pExp cb e q).bind (fun q2 => pRw cb e 0 q2))
  | 10, p => pBd cb e p
  | 11, p => (pCx cb e p).bind (fun q => (pExp cb e q).bind (fun q2 => (pCx cb e q2).bind (fun q3 => pSk e (cV cb q2) q3)))
  | _, p => .ok p
/-- after a step of reading, exactly -/
def rdX (mm nm en0 e : Nat) (own A : Nat → Nat) (h : xb_H) (F : Nat → Nat → Int32) (v : Nat → Int32) (p rc rs : Nat) (G : (Nat → Nat) → (Nat → Nat → Int32) → (Nat → Int32) → Nat → Nat → Prop) (Qr : xb_H → Nat → Nat → Prop) : Prop :=
  ∀ (own' A' : Nat → Nat) (h' : xb_H) (F' : Nat → Nat → Int32) (v' : Nat → Int32) (p' en' len' bc' bs' : Nat), ldF mm nm en0 own A h F own' A' h' F' → lenE A' h' len' → bgE len' rc rs bc' bs' → (∀ j, j ≠ 13 → j ≠ 15 → j ≠ 17 → j ≠ 18 → v' j = v j) → (v' 15).toInt = p' → p ≤ p' → p' ≤ e → (v' 13).toInt = en' → en' ≤ len' → G A' F' v' p' en' → Qr (mH h' F' mm v') bc' bs'
section RFA
variable {own own' own2 : Nat → Nat} {mm nm en0 en b e E p p1 q st N : Nat} {A A' A2 : Nat → Nat} {h h' h2 : xb_H} {F F' F2 : Nat → Nat → Int32} {v v' v1 w cb : Nat → Int32} {ct fs : Nat → Nat} {P : Nat → Nat → Nat} {Q : Rs}
theorem xk.wv (hk : xk w v' p Q) (h1 : w 14 = v 14) (h2 : w 17 = v 17) (h3 : w 18 = v 18) : xk v v' p Q := by
  unfold xk at hk ⊢
  rw [h1, h2, h3] at hk
  exact hk
theorem rRw_fn {x1 : Int32} : ∀ q q', (∃ p1 L, rC cb p = some (p1, L) ∧ rRow cb x1 L.toInt.toNat p1 q) → (∃ p1 L, rC cb p = some (p1, L) ∧ rRow cb x1 L.toInt.toNat p1 q') → q = q' := by
  rintro q q' ⟨p1, L, a1, a2⟩ ⟨p1', L', b1, b2⟩
  rw [a1] at b1
  simp only [Option.some.injEq, Prod.mk.injEq] at b1
  obtain ⟨e1, e2⟩ := b1
  subst e1 e2
  by_cases hx : x1 = 0
  · have c1 := a2.1 hx
    have c2 := b2.1 hx
    rw [c1] at c2
    simpa using c2
  · rw [(a2.2 hx).1, (b2.2 hx).1]
theorem x_row {x1 : Int32} {Qr : xb_H → Prop} (hs : rdH mm st N b e cb h F) (hp : rdP v b p e) (hb : bs_ v e) (hQ : ∀ (v' : Nat → Int32) (p' : Nat), ro v v' p p' e → (v' 17 = 0 → ∃ p1 L, rC cb p = some (p1, L) ∧ rRow cb x1 L.toInt.toNat p1 p') → xk v v' p' (pRw cb e x1 p) → Qr (mH h F mm v')) : w_M_row mm x1 (mH h F mm v) Qr :=
  f_row hs hp hb (fun v1 p1 o1 f1 b1 k1 => hQ v1 p1 o1 f1 (xk_of rRw_fn o1 f1 b1 k1))
theorem x_skip {x : Int64} {Qr : xb_H → Prop} (hs : rdH mm st N b e cb h F) (hp : rdP v b p e) (hb : bs_ v e) (hx : v 17 = 0 → 0 ≤ x.toInt ∧ x.toInt < 4294967296) (hQ : ∀ (v' : Nat → Int32) (p' : Nat), ro v v' p p' e → (v' 17 = 0 → p' = p + x.toInt.toNat) → xk v v' p' (pSk e x.toInt.toNat p) → Qr (mH h F mm v')) : w_M_skip mm x (mH h F mm v) Qr :=
  f_skip hs hp hb hx (fun v1 p1 o1 f1 b1 k1 => hQ v1 p1 o1 f1 (xk_of (fun q q' h1 h2 => h1.trans h2.symm) o1 f1 b1 k1))
theorem x_sectionEntry {x1 : Int32} {s len rc rs bc bs : Nat} {Qr : xb_H → Nat → Nat → Prop} (hB : mB own mm A h) (hs : rdH mm (A 3) 16384 b e cb h F) (hby : ∀ j, -128 ≤ (cb j).toInt ∧ (cb j).toInt ≤ 127) (hp : rdP v b p e) (hbs : bs_ v e) (h1 : x1.toInt = s) (hs1 : 1 ≤ s) (hs2 : s < 12) (hs8 : s ≠ 8) (h5 : (v 5).toInt = nm) (hnm : nm < 64) (h13 : (v 13).toInt = en) (hl : lenE A h len) (hen : en ≤ len) (hep : en ≤ p) (he2 : e ≤ 12000) (heE : e ≤ E) (hen0 : en0 ≤ en) (hb : bgE len rc rs bc bs)
    (hE : mE A nm en0 en b E cb F ct fs P) (hfs : fs s + ct s = en) (he0 : en0 ≤ fs s)
    (hQ : rdX mm nm en0 e own A h F v p rc rs (fun A' F' v' p' en' => (v' 17 = 0 → en0 ≤ en' ∧ en' ≤ p' ∧ p < p' ∧ en' = en + 1 ∧ mE A' nm en0 en' b E cb F' (va_up ct s (ct s + 1)) fs (va_up P s (va_up (P s) (ct s) p))) ∧ xk v v' p' (pEnt cb e s p)) Qr) : w_M_sectionEntry mm x1 (mH h F mm v) bc bs Qr := by
  have p4 := hp.2.2.2
  unfold w_M_sectionEntry
  refine ⟨hB.2.1, m_note (en0 := en0) hB h1 hs2 h5 hnm h13 hl hen (by omega) hen0 hb (fun own1 A1 g F1 len1 bc1 bs1 L1 hl1 hb1 hen1 n9 n8 n10 n11 n11e _ => ?_)⟩
  obtain ⟨w, hw⟩ : ∃ w : Nat → Int32, w = va_up v 13 (v 13 + 1) := ⟨_, rfl⟩
  rw [← hw]
  have B1 := L1.2.1
  have S1 : rdH mm (A1 3) 16384 b e cb g F1 := L1.rd hB hs
  have w13 : (w 13).toInt = (en + 1 : Nat) := by rw [hw, xh_up, if_pos rfl]; exact z_inc h13 (by omega)
  have Pw : rdP w b p e := ⟨by rw [hw, xh_up, if_neg (by omega)]; exact hp.1, by rw [hw, xh_up, if_neg (by omega)]; exact hp.2.1, hp.2.2.1, hp.2.2.2⟩
  have Bw : bs_ w e := by
    rw [hw]
    unfold bs_
    rw [xh_up, if_neg (by decide)]
    exact hbs
  have kw : ∀ {v2 : Nat → Int32} {p2 : Nat} {Q : Rs}, xk w v2 p2 Q → xk v v2 p2 Q := fun hk => hk.wv (by rw [hw, xh_up, if_neg (by decide)]) (by rw [hw, xh_up, if_neg (by decide)]) (by rw [hw, xh_up, if_neg (by decide)])
  have a8 : A1 8 = A 8 := L1.2.2.1 8 (by decide) (by decide)
  have a9 : A1 9 = A 9 := L1.2.2.1 9 (by decide) (by decide)
  have a10 : A1 10 = A 10 := L1.2.2.1 10 (by decide) (by decide)
  -- the end of an entry
  have fin : ∀ (v2 : Nat → Int32) (p2 : Nat) (F2 : Nat → Nat → Int32), ro w v2 p p2 e → ldF mm nm en0 own1 A1 g F1 own1 A1 g F2 → (v2 17 = 0 → RS cb s p p2 ∧ p < p2 ∧ F2 (A1 8) = F1 (A1 8) ∧ F2 (A1 9) = F1 (A1 9) ∧ F2 (A1 11) = F1 (A1 11) ∧ ∀ κ, κ < 4 → (F2 (A1 10) (4 * nm + κ)).toInt = kcn cb (va_up P s (va_up (P s) (ct s) p) 2) κ (va_up ct s (ct s + 1) 2)) → xk w v2 p2 (pEnt cb e s p) → w_M_sectionEntry_L180 Qr (mH g F2 mm v2) bc1 bs1 := by
    intro v2 p2 F2 o2 L2 hok hkx
    unfold w_M_sectionEntry_L180
    refine hQ own1 A1 g F2 v2 p2 (en + 1) len1 bc1 bs1 (ldF.tr hB L1 L2) hl1 hb1 (fun j j1 j2 j3 j4 => ?_) o2.2.1 o2.2.2.1 o2.2.2.2.1 ?_ hen1 ⟨fun hz => ?_, kw hkx⟩
    · rw [o2.1 j j2 j3 j4, hw, xh_up, if_neg j1]
    · rw [o2.1 13 (by decide) (by decide) (by decide)]
      exact w13
    · obtain ⟨c1, c2, c3, c4, c5, c6⟩ := hok hz
      refine ⟨by omega, by omega, c2, rfl, hE.one (pp := p) (pq := p2) (by rw [c3, a8, n8]) (by rw [c4, a9, n9]) (fun j hj => by rw [c5]; exact n11 j hj) (by rw [c5, n11e]; exact hp.1) hs2 hfs hen0 (by omega) he0 c1 hp.2.2.1 (by have := o2.2.2.2.1; omega) c6⟩
  have keep : s ≠ 2 → ∀ κ, κ < 4 → (F1 (A1 10) (4 * nm + κ)).toInt = kcn cb (va_up P s (va_up (P s) (ct s) p) 2) κ (va_up ct s (ct s + 1) 2) := fun hs2 κ hκ => by
    rw [a10, n10, xh_up (f := P), if_neg (Ne.symm hs2), xh_up (f := ct), if_neg (Ne.symm hs2)]
    exact hE.2 κ hκ
  have n24 : ∀ k, k ∈ [8, 9, 10, 11] → A1 k ≠ A1 24 := fun k hk => by
    have : ∀ k, k ∈ [8, 9, 10, 11] → (∃ e ∈ aL, e.1 = k) ∧ k ≠ 24 := by decide
    exact B1.ne (this k hk).1 (by decide) (this k hk).2
  -- the end of an entry that has written no array, or what is open alone
  have fin0 : s ≠ 2 → ∀ (v2 : Nat → Int32) (p2 : Nat), ro w v2 p p2 e → (v2 17 = 0 → RS cb s p p2 ∧ p < p2) → xk w v2 p2 (pEnt cb e s p) → w_M_sectionEntry_L180 Qr (mH g F1 mm v2) bc1 bs1 := fun h2 v2 p2 o2 hok hkx => fin v2 p2 F1 o2 (ldF.rf B1) (fun hz => ⟨(hok hz).1, (hok hz).2, rfl, rfl, rfl, keep h2⟩) hkx
  have fin1 : s ≠ 2 → ∀ (v2 : Nat → Int32) (p2 : Nat) (f : Nat → Int32), ro w v2 p p2 e → (v2 17 = 0 → RS cb s p p2 ∧ p < p2) → xk w v2 p2 (pEnt cb e s p) → w_M_sectionEntry_L180 Qr (mH g (va_up F1 (A1 24) f) mm v2) bc1 bs1 := fun h2 v2 p2 f o2 hok hkx => fin v2 p2 _ o2 (ldF.up B1 (by decide) (fun e => by omega) (fun e => by omega) (fun e => by omega)) (fun hz => ⟨(hok hz).1, (hok hz).2, by rw [xh_up, if_neg (n24 8 (by decide))], by rw [xh_up, if_neg (n24 9 (by decide))], by rw [xh_up, if_neg (n24 11 (by decide))], by rw [xh_up, if_neg (n24 10 (by decide))]; exact keep h2⟩) hkx
  have k24 := B1.k24
  have lit : ∀ (c : Int32) (n : Nat), c.toInt = n → x1 = c → s = n := fun c n hc hx => by
    rw [z_eq, h1, hc] at hx
    omega
  have L163 : s = 11 → w_M_sectionEntry_L163 Qr mm (mH g F1 mm w) bc1 bs1 := fun e11 => by
    subst e11
    unfold w_M_sectionEntry_L163
    refine ⟨B1.2.1, x_count S1 Pw Bw (fun r3 v3 p3 o3 f3 q3 _ => x_expression S1 hby k24 (o3.P Pw) (o3.bs Bw) (fun v4 p4 f' o4 x4 q4 _ => ?_))⟩
    have S2 := S1.up (a := A1 24) (f := f') k24.2.2.2.2
    refine x_count S2 ((o3.tr o4).P Pw) ((o3.tr o4).bs Bw) (fun r7 v5 p5 o5 f5 q5 _ => x_skip S2 ((o3.tr (o4.tr o5)).P Pw) ((o3.tr (o4.tr o5)).bs Bw) (fun hz => ?_) (fun v6 p6 o6 f6 q6 _ => fin1 (by omega) v6 p6 f' (o3.tr (o4.tr (o5.tr o6))) (fun hz => ?_) (q3.tr o3.e14 (q4.pr (q5.pr q6.1)) (fun _ => q4.tr o4.e14 (q5.pr q6.1) (fun _ => q5.tr o5.e14 q6.1 (fun hz5 => by rw [(rC_E (f5 hz5)).2]; exact q6))))))
    · have := rC_b (f5 hz)
      omega
    · have z5 := o6.z hz
      have z4 := o5.z z5
      have z3 := o4.z z4
      have b3 := rC_b (f3 z3)
      have := (x4 z4).1
      have := o5.2.2.1
      have := o6.2.2.1
      exact ⟨⟨p3, r3, p4, p5, r7, f3 z3, x4 z4, f5 z5, f6 hz⟩, by omega⟩
  refine ⟨fun k => ?_, fun k => ?_, fun k => ?_, fun k => ?_, fun k => ?_, fun k => ?_, fun k => ?_, fun k => ?_, fun k => ?_, fun k => ?_, fun k1 k2 k3 k4 k5 k6 k7 k8 k9 k10 => ?_⟩
  · have es := lit 1 1 rfl k
    subst es
    refine x_wanted S1 Pw Bw (fun v2 p2 o2 f2 q2 _ => x_row S1 (o2.P Pw) (o2.bs Bw) (fun v3 p3 o3 f3 q3 _ => x_row S1 ((o2.tr o3).P Pw) ((o2.tr o3).bs Bw) (fun v4 p4 o4 f4 q4 _ => fin0 (by omega) v4 p4 (o2.tr (o3.tr o4)) (fun hz => ?_) (q2.tr o2.e14 (q3.pr q4.1) (fun _ => q3.tr o3.e14 q4.1 (fun _ => q4))))))
    have z3 := o4.z hz
    have z2 := o3.z z3
    obtain ⟨c1, c2, c3⟩ := f2 z2
    obtain ⟨q1, n1, d1, d2⟩ := f3 z3
    obtain ⟨q2, n2, d3, d4⟩ := f4 hz
    obtain ⟨g1, g2⟩ := d2.2 (by decide)
    obtain ⟨g3, g4⟩ := d4.2 (by decide)
    have b1 := rC_b d1
    have b3 := rC_b d3
    refine ⟨⟨?_, q1, n1, q2, n2, by rw [← c1]; exact d1, by rw [← g1]; exact g2, by rw [← g1]; exact d3, g3, g4⟩, by omega⟩
    rw [z_lt] at c2
    rw [z_le] at c3
    rw [z_eq]
    simp only [Int32.reduceToInt] at c2 c3 ⊢
    omega
  · have es := lit 2 2 rfl k
    subst es
    refine x_importEntry S1 hby B1.k10 (by rw [hw, xh_up, if_neg (by decide)]; exact h5) hnm Pw Bw (fun v2 p2 F2 o2 hc q2 _ => ?_)
    rcases hc with ⟨c1, c2⟩ | ⟨c1, κ, c2, c3, c4, c5⟩
    · rw [c2]
      exact fin v2 p2 F1 o2 (ldF.rf B1) (fun hz => absurd hz c1) q2
    · subst c5
      have n10' : ∀ k, k ∈ [8, 9, 11] → A1 k ≠ A1 10 := fun k hk => by
        have : ∀ k, k ∈ [8, 9, 11] → (∃ e ∈ aL, e.1 = k) ∧ k ≠ 10 := by decide
        exact B1.ne (this k hk).1 (by decide) (this k hk).2
      refine fin v2 p2 _ o2 (ldF.up B1 (by decide) (fun e => by omega) (fun _ j hj => by rw [xh_up, if_neg (by omega)]) (fun e => by omega)) (fun hz => ⟨c3, ?_, by rw [xh_up, if_neg (n10' 8 (by decide))], by rw [xh_up, if_neg (n10' 9 (by decide))], by rw [xh_up, if_neg (n10' 11 (by decide))], fun i hi => ?_⟩) q2
      · obtain ⟨q1, q2, d1, d2, d3⟩ := c3
        obtain ⟨a, x, d4, d5, -⟩ := d1
        obtain ⟨a2, x2, d6, d7, -⟩ := d2
        have b1 := rC_b d4
        have b2 := rC_b d6
        rcases d3 with ⟨-, x3, d8⟩ | ⟨-, -, d8⟩ | ⟨-, d8⟩ | ⟨-, -, -, d8⟩
        · have := rC_b d8
          omega
        · obtain ⟨-, a3, x3, d9, d10⟩ := d8
          have := rC_b d9
          rcases d10 with ⟨-, d10⟩ | ⟨-, y, d10⟩
          · omega
          · have := rC_b d10
            omega
        · obtain ⟨-, a3, x3, d9, d10⟩ := d8
          have := rC_b d9
          rcases d10 with ⟨-, d10⟩ | ⟨-, y, d10⟩
          · omega
          · have := rC_b d10
            omega
        · omega
      · have g1 := hE.2 i hi
        have e1 : kcn cb (va_up P 2 (va_up (P 2) (ct 2) p) 2) i (va_up ct 2 (ct 2 + 1) 2) = kcn cb (P 2) i (ct 2) + if κ = i then 1 else 0 := by
          simp only [xh_up, if_true]
          rw [kcn, kcn_cg (P2 := P 2) (fun k hk => by rw [xh_up, if_neg (by omega)]), xh_up, if_pos rfl, c4]
          congr 1
          by_cases hκ : κ = i
          · rw [if_pos hκ, if_pos (by omega)]
          · rw [if_neg hκ, if_neg (by omega)]
        have cb2 : kcn cb (P 2) i (ct 2) ≤ ct 2 := by
          have : ∀ n, kcn cb (P 2) i n ≤ n := by
            intro n
            induction n with
            | zero => exact Nat.le_refl 0
            | succ n ih =>
              unfold kcn
              split <;> omega
          exact this _
        rw [e1, xh_up, if_pos rfl, xh_up]
        by_cases hκ : κ = i
        · subst hκ
          rw [if_pos rfl, if_pos rfl, a10, n10, z_add, g1]
          simp only [Int32.reduceToInt]
          omega
        · rw [if_neg (by omega), if_neg hκ, a10, n10]
          exact g1
  · have es := lit 3 3 rfl k
    subst es
    exact x_count S1 Pw Bw (fun r v2 p2 o2 f2 q2 _ => fin0 (by omega) v2 p2 o2 (fun hz => ⟨⟨r, f2 hz⟩, (rC_b (f2 hz)).1⟩) q2)
  · have es := lit 4 4 rfl k
    subst es
    refine x_tableType S1 hby Pw Bw (fun v2 p2 o2 f2 q2 _ => fin0 (by omega) v2 p2 o2 (fun hz => ⟨f2 hz, ?_⟩) q2)
    obtain ⟨-, -, a3, x3, d9, d10⟩ := f2 hz
    have := rC_b d9
    rcases d10 with ⟨-, d10⟩ | ⟨-, y, d10⟩
    · omega
    · have := rC_b d10
      omega
  · have es := lit 5 5 rfl k
    subst es
    refine x_limits S1 hby Pw Bw (fun v2 p2 o2 f2 q2 _ => fin0 (by omega) v2 p2 o2 (fun hz => ⟨f2 hz, ?_⟩) q2)
    obtain ⟨-, a3, x3, d9, d10⟩ := f2 hz
    have := rC_b d9
    rcases d10 with ⟨-, d10⟩ | ⟨-, y, d10⟩
    · omega
    · have := rC_b d10
      omega
  · have es := lit 6 6 rfl k
    subst es
    refine x_variableKind S1 Pw Bw (fun v2 p2 o2 f2 q2 _ => x_expression S1 hby k24 (o2.P Pw) (o2.bs Bw) (fun v3 p3 f' o3 f3 q3 _ => fin1 (by omega) v3 p3 f' (o2.tr o3) (fun hz => ⟨⟨p2, f2 (o3.z hz), f3 hz⟩, ?_⟩) (q2.tr o2.e14 q3.1 (fun _ => q3))))
    have := (f3 hz).1
    have := (f2 (o3.z hz)).2.2
    omega
  · have es := lit 7 7 rfl k
    subst es
    refine x_name S1 Pw Bw (fun v2 p2 o2 f2 q2 _ => x_wanted S1 (o2.P Pw) (o2.bs Bw) (fun v3 p3 o3 f3 q3 _ => x_count S1 ((o2.tr o3).P Pw) ((o2.tr o3).bs Bw) (fun r v4 p4 o4 f4 q4 _ => fin0 (by omega) v4 p4 (o2.tr (o3.tr o4)) (fun hz => ?_) (q2.tr o2.e14 (q3.pr q4.1) (fun _ => q3.tr o3.e14 q4.1 (fun _ => q4))))))
    have z3 := o4.z hz
    have z2 := o3.z z3
    obtain ⟨c1, c2, c3⟩ := f3 z3
    have b4 := rC_b (f4 hz)
    have := o2.2.2.1
    exact ⟨⟨p2, r, f2 z2, c3, by rw [← c1]; exact f4 hz⟩, by omega⟩
  · exact absurd (lit 8 8 rfl k) hs8
  · have es := lit 9 9 rfl k
    subst es
    refine x_count S1 Pw Bw (fun r3 v3 p3 o3 f3 q3 _ => x_expression S1 hby k24 (o3.P Pw) (o3.bs Bw) (fun v4 p4 f' o4 x4 q4 _ => x_row (S1.up (a := A1 24) (f := f') k24.2.2.2.2) ((o3.tr o4).P Pw) ((o3.tr o4).bs Bw) (fun v5 p5 o5 f5 q5 _ => fin1 (by omega) v5 p5 f' (o3.tr (o4.tr o5)) (fun hz => ?_) (q3.tr o3.e14 (q4.pr q5.1) (fun _ => q4.tr o4.e14 q5.1 (fun _ => q5))))))
    have z4 := o5.z hz
    have z3 := o4.z z4
    obtain ⟨q1, L, d1, d2⟩ := f5 hz
    have b3 := rC_b (f3 z3)
    have := (x4 z4).1
    have := o5.2.2.1
    exact ⟨⟨p3, r3, p4, q1, L, f3 z3, x4 z4, d1, d2.1 rfl⟩, by omega⟩
  · have es := lit 10 10 rfl k
    subst es
    refine x_body S1 hby k24 Pw Bw (fun v2 p2 f' o2 f2 q2 _ => fin1 (by omega) v2 p2 f' o2 (fun hz => ⟨f2 hz, ?_⟩) q2)
    obtain ⟨q1, n, q2, gg, q3, T, d1, d2, -⟩ := f2 hz
    have := rC_b d1
    omega
  · refine L163 ?_
    simp only [z_eq, h1, Int32.reduceToInt] at k1 k2 k3 k4 k5 k6 k7 k8 k9 k10
    omega
end RFA
