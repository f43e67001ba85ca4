-- equality, reading: sections (the reference)
/-- entries so far: how many of each section, where they stand -/
abbrev Sm : Type := (Nat → Nat) × (Nat → Nat → Nat)
def Sm.ad (S : Sm) (s p : Nat) : Sm := (va_up S.1 s (S.1 s + 1), va_up S.2 s (va_up (S.2 s) (S.1 s) p))
noncomputable def pEts (cb : Nat → Int32) (e s : Nat) : Nat → Nat → Nat → Sm → Except (Nat × Nat) (Nat × Sm)
  | _, 0, p, S => .ok (p, S)
  | 0, _ + 1, _, _ => .error (0, 0)
  | m + 1, k + 1, p, S => (pEnt cb e s p).bind (fun q => pEts cb e s m k q (S.ad s p))
/-- a section's end -/
def pSf (e : Nat) (T : Nat × Sm) : Except (Nat × Nat) Sm := if T.1 < e then .error (7, T.1) else .ok T.2
noncomputable def pSec (cb : Nat → Int32) (e s p : Nat) (S : Sm) : Except (Nat × Nat) Sm :=
  if s = 0 then (pNm cb e p).bind (fun _ => .ok S)
  else if s = 8 then (pCx cb e p).bind (fun q => pSf e (q, S.ad 8 p))
  else (pCx cb e p).bind (fun p1 => (pEts cb e s (e - p1 + 2) (cV cb p) p1 S).bind (pSf e))
def xy {α : Type} (v v' : Nat → Int32) (a : α) (P : Except (Nat × Nat) α) : Prop := (v 17 ≠ 0 → v' 17 = v 17 ∧ v' 18 = v 18) ∧ (v 17 = 0 → (P = .ok a ∧ v' 17 = 0) ∨ (∃ Fl : Nat × Nat, P = .error Fl ∧ v' 17 ≠ 0 ∧ (v' 17).toInt = Fl.1 ∧ (v' 18).toInt + (v 14).toInt = Fl.2))
section RFB0
variable {α β : Type} {v v1 v2 : Nat → Int32} {a : α} {c : β} {P : Except (Nat × Nat) α} {G : α → Except (Nat × Nat) β}
theorem xy.tr (h1 : xy v v1 a P) (he : v1 14 = v 14) (h2 : v1 17 ≠ 0 → v2 17 = v1 17 ∧ v2 18 = v1 18) (h3 : v1 17 = 0 → xy v1 v2 c (G a)) : xy v v2 c (P.bind G) := by
  refine ⟨fun h0 => ?_, fun h0 => ?_⟩
  · obtain ⟨a1, a2⟩ := h1.1 h0
    have : v1 17 ≠ 0 := by rw [a1]; exact h0
    obtain ⟨b1, b2⟩ := h2 this
    exact ⟨b1.trans a1, b2.trans a2⟩
  · rcases h1.2 h0 with ⟨a1, a2⟩ | ⟨Fl, a1, a2, a3, a4⟩
    · rw [a1]
      show _ ∨ _
      rcases (h3 a2).2 a2 with ⟨b1, b2⟩ | ⟨Fl, b1, b2, b3, b4⟩
      · exact .inl ⟨b1, b2⟩
      · exact .inr ⟨Fl, b1, b2, b3, by rw [← he]; exact b4⟩
    · obtain ⟨b1, b2⟩ := h2 a2
      rw [a1]
      exact .inr ⟨Fl, rfl, by rw [b1]; exact a2, by rw [b1]; exact a3, by rw [b2]; exact a4⟩
theorem xy.er (h1 : xy v v1 a P) (hn : v1 17 ≠ 0) : xy v v1 c (P.bind G) := by
  refine ⟨h1.1, fun h0 => ?_⟩
  rcases h1.2 h0 with ⟨a1, a2⟩ | ⟨Fl, a1, a2, a3, a4⟩
  · exact absurd a2 hn
  · rw [a1]
    exact .inr ⟨Fl, rfl, a2, a3, a4⟩
theorem xk.ty {p1 : Nat} {P : Rs} {G : Nat → Except (Nat × Nat) β} (h1 : xk v v1 p1 P) (he : v1 14 = v 14) (h2 : v1 17 ≠ 0 → v2 17 = v1 17 ∧ v2 18 = v1 18) (h3 : v1 17 = 0 → xy v1 v2 c (G p1)) : xy v v2 c (P.bind G) := xy.tr (a := p1) h1 he h2 h3
theorem xk.ey {p1 : Nat} {P : Rs} {G : Nat → Except (Nat × Nat) β} (h1 : xk v v1 p1 P) (hn : v1 17 ≠ 0) : xy v v1 c (P.bind G) := xy.er (a := p1) h1 hn
theorem xy.rf : xy v v a (.ok a) := ⟨fun _ => ⟨rfl, rfl⟩, fun h0 => .inl ⟨rfl, h0⟩⟩
theorem pSec_n {cb : Nat → Int32} {e s p : Nat} {S : Sm} (h0 : s ≠ 0) (h8 : s ≠ 8) : pSec cb e s p S = (pCx cb e p).bind (fun p1 => (pEts cb e s (e - p1 + 2) (cV cb p) p1 S).bind (pSf e)) := by
  unfold pSec
  rw [if_neg h0, if_neg h8]
theorem pSec_8 {cb : Nat → Int32} {e p : Nat} {S : Sm} : pSec cb e 8 p S = (pCx cb e p).bind (fun q => pSf e (q, S.ad 8 p)) := rfl
end RFB0
section RFB
variable {own own' own2 : Nat → Nat} {mm nm en0 en b e E p : Nat} {A A' A2 : Nat → Nat} {h h' h2 : xb_H} {F F' F2 : Nat → Nat → Int32} {v v' cb : Nat → Int32} {ct fs : Nat → Nat} {P : Nat → Nat → Nat}
theorem x_sectionL {x1 x2 : Int32} {x3 : Int64} {s n : Nat} {Qr : xb_H → Nat → Nat → Prop} (hby : ∀ j, -128 ≤ (cb j).toInt ∧ (cb j).toInt ≤ 127) (h1 : x1.toInt = s) (hs1 : 1 ≤ s) (hs2 : s < 12) (hs8 : s ≠ 8) (h3 : x3.toInt = n) (hn : n < 4294967296) (hnm : nm < 64) (he2 : e ≤ 12000) (heE : e ≤ E) (rc rs : Nat) :
    ∀ (m k : Nat) (x5 : Int64) (own A : Nat → Nat) (h : xb_H) (F : Nat → Nat → Int32) (v : Nat → Int32) (p en len bc bs : Nat) (ct : Nat → Nat) (P : Nat → Nat → Nat), x5.toInt = k → mB own mm A h → rdH mm (A 3) 16384 b e cb h F → rdP v b p e → bs_ v e → (v 5).toInt = nm → (v 13).toInt = en → lenE A h len → en ≤ len → bgE len rc rs bc bs → e - p + 2 ≤ m → (v 17 = 0 → k ≤ n ∧ en ≤ p ∧ en0 ≤ en ∧ mE A nm en0 en b E cb F ct fs P ∧ fs s + ct s = en ∧ en0 ≤ fs s) →
      (∀ (own' A' : Nat → Nat) (h' : xb_H) (F' : Nat → Nat → Int32) (v' : Nat → Int32) (p' en' len' bc' bs' : Nat), ldF mm nm en0 own A h F own' A' h' F' → lenE A' h' len' → bgE len' rc rs bc' bs' → (∀ j, j ≠ 13 → j ≠ 15 → j ≠ 17 → j ≠ 18 → v' j = v j) → (v' 15).toInt = p' → p ≤ p' → p' ≤ e → (v' 13).toInt = en' → en' ≤ len' → (∃ S' : Sm, (v' 17 = 0 → en0 ≤ en' ∧ en' ≤ p' ∧ mE A' nm en0 en' b E cb F' S'.1 fs S'.2 ∧ ∀ j, j ≠ s → S'.1 j = ct j) ∧ xy v v' (p', S') (pEts cb e s m (n - k) p (ct, P))) → w_M_section_L91 Qr mm x2 (mH h' F' mm v') bc' bs') →
      w_M_section_L63 Qr (m + 1) mm x1 x2 x3 x5 (mH h F mm v) bc bs := by
  intro m
  induction m with
  | zero => intro k x5 own A h F v p en len bc bs ct P _ _ _ _ _ _ _ _ _ _ hm; omega
  | succ m ih =>
    intro k x5 own A h F v p en len bc bs ct P e5 hB hs hp hbs h5 h13 hl hen hb hm hk hQ
    have p4 := hp.2.2.2
    have out : v 17 ≠ 0 → w_M_section_L91 Qr mm x2 (mH h F mm v) bc bs := fun hn => hQ own A h F v p en len bc bs (ldF.rf hB) hl hb (fun _ _ _ _ _ => rfl) hp.1 (Nat.le_refl p) p4 h13 hen ⟨(ct, P), fun hz => absurd hz hn, ⟨fun _ => ⟨rfl, rfl⟩, fun hz => absurd hz hn⟩⟩
    unfold w_M_section_L63
    rw [mH_i]
    refine ⟨fun hle => ?_, fun hle => ⟨hB.2.1, out, fun hz => ?_⟩⟩
    · refine hQ own A h F v p en len bc bs (ldF.rf hB) hl hb (fun _ _ _ _ _ => rfl) hp.1 (Nat.le_refl p) p4 h13 hen ⟨(ct, P), fun hz => ?_, ⟨fun _ => ⟨rfl, rfl⟩, fun hz => .inl ⟨?_, hz⟩⟩⟩
      · obtain ⟨c1, c2, c3, c4, -, -⟩ := hk hz
        exact ⟨c3, c2, c4, fun _ _ => rfl⟩
      · obtain ⟨c1, -⟩ := hk hz
        rw [Z_le, h3, e5] at hle
        rw [show n - k = 0 by omega]
        unfold pEts
        rfl
    · obtain ⟨c1, c2, c3, c4, c5, c6⟩ := hk hz
      rw [Z_le, h3, e5] at hle
      have e51 : (x5 + 1).toInt = (k + 1 : Nat) := by
        rw [Int64.toInt_add, e5, show (1 : Int64).toInt = 1 from rfl, Int.bmod_eq_of_le (by omega) (by omega)]
        omega
      refine x_sectionEntry hB hs hby hp hbs h1 hs1 hs2 hs8 h5 hnm h13 hl hen c2 he2 heE c3 hb c4 c5 c6 (fun own1 A1 g F1 v1 p1 en1 len1 bc1 bs1 L1 hl1 hb1 hf1 h15 hp1 hp2 h13' hen1 ⟨hok, kx⟩ _ v6 e6 => ?_)
      subst e6
      have P1 := hp.of hf1 h15 hp1 hp2
      have S1 := L1.rd hB hs
      have B1 := L1.2.1
      have e14 := hf1 14 (by decide) (by decide) (by decide) (by decide)
      have bs1' : bs_ v1 e := by unfold bs_; rw [e14]; exact hbs
      have hnk : n - k = (n - (k + 1)) + 1 := by omega
      by_cases hz1 : v1 17 = 0
      · obtain ⟨d1, d2, d3, d4, d5⟩ := hok hz1
        refine ih (k + 1) _ own1 A1 g F1 v1 p1 en1 len1 bc1 bs1 (va_up ct s (ct s + 1)) (va_up P s (va_up (P s) (ct s) p)) e51 B1 S1 P1 bs1' (by rw [hf1 5 (by decide) (by decide) (by decide) (by decide)]; exact h5) h13' hl1 hen1 hb1 (by omega) (fun _ => ⟨by omega, d2, d1, d5, by rw [xh_up, if_pos rfl]; omega, c6⟩) (fun own2 A2 g2 F2 v2 p2 en2 len2 bc2 bs2 L2 hl2 hb2 hf2 h15' hp1' hp2' h13'' hen2 ⟨S', hok2, kx2⟩ => hQ own2 A2 g2 F2 v2 p2 en2 len2 bc2 bs2 (ldF.tr hB L1 L2) hl2 hb2 (fun j j1 j2 j3 j4 => (hf2 j j1 j2 j3 j4).trans (hf1 j j1 j2 j3 j4)) h15' (by omega) hp2' h13'' hen2 ⟨S', fun hz2 => ?_, ?_⟩)
        · obtain ⟨f1, f2, f3, f4⟩ := hok2 hz2
          exact ⟨f1, f2, f3, fun j hj => by rw [f4 j hj, xh_up, if_neg hj]⟩
        · rw [hnk]
          exact kx.ty e14 (fun hn => absurd hz1 hn) (fun _ => kx2)
      · -- one turn more, and out
        have hq := hQ own1 A1 g F1 v1 p1 en1 len1 bc1 bs1 L1 hl1 hb1 hf1 h15 hp1 hp2 h13' hen1 ⟨(ct, P), fun hz2 => absurd hz2 hz1, by rw [hnk]; exact kx.ey hz1⟩
        match m with
        | 0 => omega
        | m + 1 =>
        unfold w_M_section_L63
        rw [mH_i]
        exact ⟨fun _ => hq, fun _ => ⟨B1.2.1, fun _ => hq, fun h9 => absurd h9 hz1⟩⟩
theorem x_section {x1 : Int32} {s len rc rs bc bs : Nat} {Qr : xb_H → Nat → Nat → Prop} (hB : mB own mm A h) (hs : rdH mm (A 3) 16384 b e cb h F) (hby : ∀ j, -128 ≤ (cb j).toInt ∧ (cb j).toInt ≤ 127) (hp : rdP v b p e) (hbs : bs_ v e) (h1 : x1.toInt = s) (hs2 : s < 12) (h5 : (v 5).toInt = nm) (hnm : nm < 64) (h13 : (v 13).toInt = en) (hl : lenE A h len) (hen : en ≤ len) (hep : en ≤ p) (he2 : e ≤ 12000) (heE : e ≤ E) (hen0 : en0 ≤ en) (hb : bgE len rc rs bc bs) (hz0 : v 17 = 0)
    (hE : mE A nm en0 en b E cb F ct fs P) (hfs : fs s = en) (hct : ct s = 0)
    (hQ : rdX mm nm en0 e own A h F v p rc rs (fun A' F' v' p' en' => ∃ S' : Sm, (v' 17 = 0 → en0 ≤ en' ∧ en' ≤ p' ∧ p' = e ∧ mE A' nm en0 en' b E cb F' S'.1 fs S'.2 ∧ ∀ j, j ≠ s → S'.1 j = ct j) ∧ xy v v' S' (pSec cb e s p (ct, P))) Qr) : w_M_section mm x1 (mH h F mm v) bc bs Qr := by
  have p4 := hp.2.2.2
  unfold w_M_section
  rw [mH_i]
  refine ⟨hB.2.1, fun v2 e2 => ?_⟩
  have e2' : v2.toInt = e := by rw [e2]; exact hp.2.1
  -- the section's end
  have L91 : ∀ (own1 A1 : Nat → Nat) (g : xb_H) (F1 : Nat → Nat → Int32) (v1 : Nat → Int32) (p1 en1 len1 bc1 bs1 : Nat), ldF mm nm en0 own A h F own1 A1 g F1 → lenE A1 g len1 → bgE len1 rc rs bc1 bs1 → (∀ j, j ≠ 13 → j ≠ 15 → j ≠ 17 → j ≠ 18 → v1 j = v j) → (v1 15).toInt = p1 → p ≤ p1 → p1 ≤ e → (v1 13).toInt = en1 → en1 ≤ len1 → ∀ S' : Sm, (v1 17 = 0 → en0 ≤ en1 ∧ en1 ≤ p1 ∧ mE A1 nm en0 en1 b E cb F1 S'.1 fs S'.2 ∧ ∀ j, j ≠ s → S'.1 j = ct j) → (∀ v' : Nat → Int32, xy v1 v' S' (pSf e (p1, S')) → xy v v' S' (pSec cb e s p (ct, P))) → w_M_section_L91 Qr mm v2 (mH g F1 mm v1) bc1 bs1 := by
    intro own1 A1 g F1 v1 p1 en1 len1 bc1 bs1 L1 hl1 hb1 hf1 h15 hp1 hp2 h13' hen1 S' hok hx
    have e14 := hf1 14 (by decide) (by decide) (by decide) (by decide)
    have bs1' : bs_ v1 e := by unfold bs_; rw [e14]; exact hbs
    have B1 := L1.2.1
    have P1 := hp.of hf1 h15 hp1 hp2
    unfold w_M_section_L91 w_M_section_L116
    rw [mH_i]
    refine ⟨B1.2.1, fun hn => hQ own1 A1 g F1 v1 p1 en1 len1 bc1 bs1 L1 hl1 hb1 hf1 h15 hp1 hp2 h13' hen1 ⟨S', fun hz => absurd hz hn, hx v1 ⟨fun _ => ⟨rfl, rfl⟩, fun hz => absurd hz hn⟩⟩, fun hz => ⟨fun hle => hQ own1 A1 g F1 v1 p1 en1 len1 bc1 bs1 L1 hl1 hb1 hf1 h15 hp1 hp2 h13' hen1 ⟨S', fun _ => ?_, hx v1 ⟨fun _ => ⟨rfl, rfl⟩, fun _ => .inl ⟨?_, hz⟩⟩⟩, fun hle => f_fail (Fl := (7, p1)) B1.2.1 P1 bs1' (by decide) h15 (by have := hbs.2.2; omega) ⟨rfl, rfl⟩ (fun v' g1 g2 g3 _ => hQ own1 A1 g F1 v' p1 en1 len1 bc1 bs1 L1 hl1 hb1 (fun j j1 j2 j3 j4 => (g1.1 j j2 j3 j4).trans (hf1 j j1 j2 j3 j4)) g1.2.1 hp1 hp2 (by rw [g1.1 13 (by decide) (by decide) (by decide)]; exact h13') hen1 ⟨S', fun h9 => absurd h9 g2, hx v' ⟨fun h9 => absurd hz h9, fun _ => .inr ⟨(7, p1), ?_, g2, g3.2 hz g2⟩⟩⟩)⟩⟩
    · obtain ⟨f1, f2, f3⟩ := hok hz
      rw [z_le, e2', h15] at hle
      exact ⟨f1, f2, by omega, f3⟩
    · rw [z_le, e2', h15] at hle
      unfold pSf
      rw [if_neg (by show ¬ p1 < e; omega)]
    · rw [z_le, e2', h15] at hle
      unfold pSf
      rw [if_pos (by show p1 < e; omega)]
  refine ⟨fun n0 => ⟨fun n8 => ?_, fun k8 => ?_⟩, fun k0 => ?_⟩
  · refine x_count hs hp hbs (fun r v1 p1 o1 f1 kc _ => ?_)
    have hs1 : 1 ≤ s := by
      rw [z_eq, h1] at n0
      simp only [Int32.reduceToInt] at n0
      omega
    have hs8 : s ≠ 8 := fun e9 => n8 (by rw [z_eq, h1, e9]; rfl)
    have hf1 : ∀ j, j ≠ 13 → j ≠ 15 → j ≠ 17 → j ≠ 18 → v1 j = v j := fun j _ j2 j3 j4 => o1.1 j j2 j3 j4
    have h13' : (v1 13).toInt = en := by rw [o1.1 13 (by decide) (by decide) (by decide)]; exact h13
    by_cases hz1 : v1 17 = 0
    · have hb1 := rC_b (f1 hz1)
      refine ⟨e - p1 + 2 + 1, x_sectionL (n := r.toInt.toNat) (e := e) (E := E) (b := b) (cb := cb) (fs := fs) hby h1 hs1 hs2 hs8 (by omega) (by omega) hnm he2 heE rc rs (e - p1 + 2) 0 0 own A h F v1 p1 en len bc bs ct P rfl hB hs (o1.P hp) (o1.bs hbs) (by rw [hf1 5 (by decide) (by decide) (by decide) (by decide)]; exact h5) h13' hl hen hb (Nat.le_refl _) (fun _ => ⟨by omega, by have := o1.2.2.1; omega, hen0, hE, by omega, by omega⟩) (fun own2 A2 g2 F2 v2 p2 en2 len2 bc2 bs2 L2 hl2 hb2 hf2 h15' hp1' hp2' h13'' hen2 ⟨S', hok2, kx2⟩ => L91 own2 A2 g2 F2 v2 p2 en2 len2 bc2 bs2 L2 hl2 hb2 (fun j j1 j2 j3 j4 => (hf2 j j1 j2 j3 j4).trans (hf1 j j1 j2 j3 j4)) h15' (by have := o1.2.2.1; omega) hp2' h13'' hen2 S' hok2 (fun v' hx => ?_))⟩
      rw [pSec_n (by omega) hs8]
      refine kc.ty o1.e14 (fun hn => absurd hz1 hn) (fun _ => ?_)
      rw [(rC_E (f1 hz1)).2]
      exact kx2.tr (hf2 14 (by decide) (by decide) (by decide) (by decide)) hx.1 (fun _ => hx)
    · refine ⟨0 + 1, ?_⟩
      have hq := L91 own A h F v1 p1 en len bc bs (ldF.rf hB) hl hb hf1 o1.2.1 o1.2.2.1 o1.2.2.2.1 h13' hen (ct, P) (fun hz => absurd hz hz1) (fun v' hx => by rw [pSec_n (by omega) hs8]; exact kc.ty o1.e14 hx.1 (fun hz => absurd hz hz1))
      unfold w_M_section_L63
      rw [mH_i]
      exact ⟨fun _ => hq, fun _ => ⟨hB.2.1, fun _ => hq, fun h9 => absurd h9 hz1⟩⟩
  · have es : s = 8 := by
      rw [z_eq, h1] at k8
      simp only [Int32.reduceToInt] at k8
      omega
    subst es
    refine m_note (en0 := en0) (s := 8) hB rfl (by decide) h5 hnm h13 hl hen (by omega) hen0 hb (fun own1 A1 g F1 len1 bc1 bs1 L1 hl1 hb1 hen1 n9 n8 n10 n11 n11e _ => ?_)
    obtain ⟨w, hw⟩ : ∃ w : Nat → Int32, w = va_up v 13 (v 13 + 1) := ⟨_, rfl⟩
    rw [← hw]
    have B1 := L1.2.1
    have S1 : rdH mm (A1 3) 16384 b e cb g F1 := L1.rd hB hs
    have w13 : (w 13).toInt = (en + 1 : Nat) := by rw [hw, xh_up, if_pos rfl]; exact z_inc h13 (by omega)
    have Pw : rdP w b p e := ⟨by rw [hw, xh_up, if_neg (by omega)]; exact hp.1, by rw [hw, xh_up, if_neg (by omega)]; exact hp.2.1, hp.2.2.1, hp.2.2.2⟩
    have a8 : A1 8 = A 8 := L1.2.2.1 8 (by decide) (by decide)
    have a9 : A1 9 = A 9 := L1.2.2.1 9 (by decide) (by decide)
    have a10 : A1 10 = A 10 := L1.2.2.1 10 (by decide) (by decide)
    have Bw : bs_ w e := by
      rw [hw]
      unfold bs_
      rw [xh_up, if_neg (by decide)]
      exact hbs
    refine x_count S1 Pw Bw (fun r v3 p3 o3 f3 kc _ => L91 own1 A1 g F1 v3 p3 (en + 1) len1 bc1 bs1 L1 hl1 hb1 (fun j j1 j2 j3 j4 => by rw [o3.1 j j2 j3 j4, hw, xh_up, if_neg j1]) o3.2.1 o3.2.2.1 o3.2.2.2.1 (by rw [o3.1 13 (by decide) (by decide) (by decide)]; exact w13) hen1 (va_up ct 8 (ct 8 + 1), va_up P 8 (va_up (P 8) (ct 8) p)) (fun hz => ?_) (fun v' hx => ?_))
    rotate_left
    · rw [pSec_8]
      exact (kc.wv (by rw [hw, xh_up, if_neg (by decide)]) (by rw [hw, xh_up, if_neg (by decide)]) (by rw [hw, xh_up, if_neg (by decide)])).ty (by rw [o3.e14, hw, xh_up, if_neg (by decide)]) hx.1 (fun _ => hx)
    have hb3 := rC_b (f3 hz)
    refine ⟨by omega, by omega, hE.one (s := 8) (pp := p) (pq := p3) (by rw [a8, n8]) (by rw [a9, n9]) n11 (by rw [n11e]; exact hp.1) (by decide) (by omega) hen0 (by omega) (by omega) ⟨r, f3 hz⟩ hp.2.2.1 (by have := o3.2.2.2.1; omega) (fun κ hκ => ?_), fun j hj => by show va_up ct 8 (ct 8 + 1) j = ct j; rw [xh_up, if_neg hj]⟩
    rw [a10, n10, xh_up (f := P), if_neg (by decide), xh_up (f := ct), if_neg (by decide)]
    exact hE.2 κ hκ
  · have es : s = 0 := by
      rw [z_eq, h1] at k0
      simp only [Int32.reduceToInt] at k0
      omega
    subst es
    refine x_name hs hp hbs (fun v1 p1 o1 f1 kc _ => ?_)
    have hf1 : ∀ j, j ≠ 13 → j ≠ 15 → j ≠ 17 → j ≠ 18 → v1 j = v j := fun j _ j2 j3 j4 => o1.1 j j2 j3 j4
    have h13' : (v1 13).toInt = en := by rw [o1.1 13 (by decide) (by decide) (by decide)]; exact h13
    unfold w_M_section_L29
    rw [mH_i]
    refine ⟨fun hn => ⟨hB.2.1, fun g2 e9 => ?_⟩, fun hz => ⟨hB.2.1, fun g2 e9 => ?_⟩⟩
    · rw [mH_I, va_id] at e9
      subst e9
      exact L91 own A h F v1 p1 en len bc bs (ldF.rf hB) hl hb hf1 o1.2.1 o1.2.2.1 o1.2.2.2.1 h13' hen (ct, P) (fun hz => absurd hz hn) (fun v' hx => kc.ty o1.e14 hx.1 (fun hz => absurd hz hn))
    · rw [mH_I] at e9
      subst e9
      refine L91 own A h F _ e en len bc bs (ldF.rf hB) hl hb (fun j j1 j2 j3 j4 => by rw [xh_up, if_neg j2]; exact hf1 j j1 j2 j3 j4) (by rw [xh_up, if_pos rfl]; exact e2') p4 (Nat.le_refl e) (by rw [xh_up, if_neg (by decide)]; exact h13') hen (ct, P) (fun _ => ⟨hen0, by omega, hE, fun _ _ => rfl⟩) (fun v' hx => ?_)
      refine kc.ty o1.e14 (fun hn => absurd hz hn) (fun _ => ?_)
      have hx2 := hx.2 (by rw [xh_up, if_neg (by decide)]; exact hz)
      rw [xh_up, if_neg (by decide), show pSf e (e, (ct, P)) = .ok (ct, P) from if_neg (Nat.lt_irrefl e)] at hx2
      exact ⟨fun hn => absurd hz hn, fun _ => hx2⟩
end RFB
