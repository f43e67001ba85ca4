-- equality, reading: a module (the reference)
/-- the code section has as many entries as the function section -/
def pMf (E : Nat) (S : Sm) : Except (Nat × Nat) Sm := if S.1 10 = S.1 3 then .ok S else .error (8, E)
/-- the sections from p on -/
noncomputable def pML (cb : Nat → Int32) (E : Nat) : Nat → Nat → Nat → Sm → Except (Nat × Nat) Sm
  | 0, _, _, _ => .error (0, 0)
  | m + 1, p, last, S => if E ≤ p then pMf E S else if 11 < (ub cb p).toInt.toNat then .error (5, p) else if (ub cb p).toInt.toNat ≠ 0 ∧ (ub cb p).toInt.toNat ≤ last then .error (6, p) else
    (pCx cb E (p + 1)).bind (fun p2 => if E < p2 + cV cb (p + 1) then .error (2, E) else (pSec cb (p2 + cV cb (p + 1)) (ub cb p).toInt.toNat p2 S).bind (pML cb E m (p2 + cV cb (p + 1)) (if (ub cb p).toInt.toNat = 0 then last else (ub cb p).toInt.toNat)))
def mgk : Nat → Int32
  | 1 => 97
  | 2 => 115
  | 3 => 109
  | 4 => 1
  | _ => 0
def pHd (cb : Nat → Int32) (b E : Nat) : Nat → Nat → Except (Nat × Nat) Unit
  | 0, _ => .ok ()
  | m + 1, k => if E ≤ b + k ∨ ¬ ub cb (b + k) = mgk k then .error (1, b + k) else pHd cb b E m (k + 1)
/-- a module's bytes: its entries, or the first fault -/
noncomputable def pMod (cb : Nat → Int32) (b E : Nat) : Except (Nat × Nat) Sm := (pHd cb b E 8 0).bind (fun _ => pML cb E (E + 2) (b + 8) 0 (fun _ => 0, fun _ _ => 0))
def rmT (A : Nat → Nat) (nm en0 en b E m : Nat) (cb : Nat → Int32) (F : Nat → Nat → Int32) (v : Nat → Int32) (last : Int) (K : (Nat → Int32) → Sm → Prop) : Prop :=
  ∃ (p : Nat) (ct fs : Nat → Nat) (P : Nat → Nat → Nat), (v 15).toInt = p ∧ b ≤ p ∧ p ≤ E ∧ en0 ≤ en ∧ en ≤ p ∧ 0 ≤ last ∧ mE A nm en0 en b E cb F ct fs P ∧ (∀ j : Nat, last < j → ct j = 0) ∧ ∀ v' S', xy v v' S' (pML cb E m p last.toNat (ct, P)) → K v' S'
/-- what reading a module leaves -/
def rmX (mm nm en0 b E : Nat) (cb : Nat → Int32) (own A : Nat → Nat) (h : xb_H) (F : Nat → Nat → Int32) (v : Nat → Int32) (rc rs : Nat) (K : (Nat → Int32) → Sm → Prop) (Qr : xb_H → Nat → Nat → Prop) : Prop :=
  ∀ (own' A' : Nat → Nat) (h' : xb_H) (F' : Nat → Nat → Int32) (v' : Nat → Int32) (en' len' bc' bs' : Nat), ldF mm nm en0 own A h F own' A' h' F' → lenE A' h' len' → bgE len' rc rs bc' bs' → (∀ j, j ≠ 13 → j ≠ 15 → j ≠ 16 → j ≠ 17 → j ≠ 18 → v' j = v j) → (v' 13).toInt = en' → en' ≤ len' → (∃ S' : Sm, (v' 17 = 0 → en0 ≤ en' ∧ en' ≤ E ∧ ∃ fs, mE A' nm en0 en' b E cb F' S'.1 fs S'.2 ∧ S'.1 10 = S'.1 3) ∧ K v' S') → Qr (mH h' F' mm v') bc' bs'
section RFC
variable {own own' own2 : Nat → Nat} {mm nm en0 en b e E p m s last : Nat} {A A' A2 : Nat → Nat} {h h' h2 : xb_H} {F F' F2 : Nat → Nat → Int32} {v v' v2 cb : Nat → Int32} {ct fs : Nat → Nat} {P : Nat → Nat → Nat} {S : Sm} {Fl : Nat × Nat}
theorem pMl_0 (h1 : E ≤ p) : pML cb E (m + 1) p last S = pMf E S := by
  conv => lhs; unfold pML
  rw [if_pos h1]
theorem pML_5 (h1 : ¬ E ≤ p) (hs : (ub cb p).toInt = s) (h2 : 11 < s) : pML cb E (m + 1) p last S = .error (5, p) := by
  conv => lhs; unfold pML
  rw [if_neg h1, if_pos (by omega)]
theorem pML_6 (h1 : ¬ E ≤ p) (hs : (ub cb p).toInt = s) (h2 : s < 12) (h3 : s ≠ 0 ∧ s ≤ last) : pML cb E (m + 1) p last S = .error (6, p) := by
  conv => lhs; unfold pML
  rw [if_neg h1, if_neg (by omega), if_pos (by omega)]
theorem pML_s (h1 : ¬ E ≤ p) (hs : (ub cb p).toInt = s) (h2 : s < 12) (h3 : ¬ (s ≠ 0 ∧ s ≤ last)) : pML cb E (m + 1) p last S = (pCx cb E (p + 1)).bind (fun p2 => if E < p2 + cV cb (p + 1) then .error (2, E) else (pSec cb (p2 + cV cb (p + 1)) s p2 S).bind (pML cb E m (p2 + cV cb (p + 1)) (if s = 0 then last else s))) := by
  conv => lhs; unfold pML
  rw [if_neg h1, if_neg (by omega), if_neg (by omega), show (ub cb p).toInt.toNat = s by omega]
theorem pHd_1 {k : Nat} (h1 : ¬ E ≤ b + k) (h2 : ub cb (b + k) = mgk k) : pHd cb b E (m + 1) k = pHd cb b E m (k + 1) := by
  conv => lhs; unfold pHd
  rw [if_neg (fun h9 => h9.elim h1 (fun h8 => h8 h2))]
/-- failing where no place within the bytes is asked for -/
theorem g_fail {c x : Int32} {w : Nat} {Qr : xb_H → Prop} (hk : xb_k h mm = 9) (hb : bs_ v e) (hc : c ≠ 0) (hx : x.toInt = w) (hw : w ≤ 1000000) (hF : c.toInt = Fl.1 ∧ w = Fl.2) (hQ : ∀ v' : Nat → Int32, (∀ j, j ≠ 17 → j ≠ 18 → v' j = v j) → v' 17 ≠ 0 → fkd v v' Fl → Qr (mH h F mm v')) : w_M_fail mm c x (mH h F mm v) Qr := by
  unfold w_M_fail w_M_fail_L22
  refine ⟨hk, ?_, ?_⟩
  · rw [mH_i]
    exact fun hn => hQ v (fun _ _ _ => rfl) hn fkd.rf
  · rw [mH_i]
    intro z h3 e3 h4 e4
    subst e3
    rw [mH_I] at e4
    subst e4
    rw [mH_i, mH_I]
    have n17 : va_up (va_up v 17 c) 18 (x - va_up v 17 c 14) 17 ≠ 0 := by
      rw [xh_up, if_neg (by decide), xh_up, if_pos rfl]
      exact hc
    refine hQ _ (fun j h1 h2 => ?_) n17 ⟨fun h9 => absurd z h9, fun _ _ => ⟨?_, ?_⟩⟩
    · rw [xh_up, if_neg h2, xh_up, if_neg h1]
    · rw [xh_up, if_neg (by decide), xh_up, if_pos rfl]
      exact hF.1
    · obtain ⟨b1, b2, b3⟩ := hb
      rw [xh_up, if_pos rfl, xh_up, if_neg (by decide), z_sub, hx, ← hF.2]
      omega
theorem xy.fl {α : Type} {a : α} (hz : v 17 = 0) (g2 : v' 17 ≠ 0) (g3 : fkd v v' Fl) : xy v v' a (.error Fl) := ⟨fun h9 => absurd hz h9, fun _ => .inr ⟨Fl, rfl, g2, g3.2 hz g2⟩⟩
/-- a fault that was told stays -/
theorem xy.ps {α : Type} {a : α} {X : Except (Nat × Nat) α} (h1 : xy v v' a X) (hz : v 17 = 0) (hn : v' 17 ≠ 0) (h2 : v2 17 = v' 17 ∧ v2 18 = v' 18) : xy v v2 a X := by
  refine ⟨fun h9 => absurd hz h9, fun _ => ?_⟩
  rcases h1.2 hz with ⟨a1, a2⟩ | ⟨Fl, a1, a2, a3, a4⟩
  · exact absurd a2 hn
  · exact .inr ⟨Fl, a1, by rw [h2.1]; exact a2, by rw [h2.1]; exact a3, by rw [h2.2]; exact a4⟩
theorem x_readModuleL {x1 : Int32} {rc rs : Nat} {Qr : xb_H → Nat → Nat → Prop} {K : (Nat → Int32) → Sm → Prop} (hby : ∀ j, -128 ≤ (cb j).toInt ∧ (cb j).toInt ≤ 127) (h1 : x1.toInt = E) (hnm : nm < 64) (hE2 : E ≤ 12000) :
    ∀ (m : Nat) (x3 : Int32) (own A : Nat → Nat) (h : xb_H) (F : Nat → Nat → Int32) (v : Nat → Int32) (en len bc bs : Nat), mB own mm A h → rdH mm (A 3) 16384 b E cb h F → bs_ v E → (v 5).toInt = nm → (v 13).toInt = en → lenE A h len → en ≤ len → bgE len rc rs bc bs → (v 17 = 0 → E - (v 15).toInt.toNat + 1 ≤ m) → (v 17 = 0 → rmT A nm en0 en b E m cb F v x3.toInt K) → (v 17 ≠ 0 → ∀ v' S', xy v v' S' (.error (0, 0)) → K v' S') → rmX mm nm en0 b E cb own A h F v rc rs K Qr → w_M_readModule_L111 Qr (m + 1) mm x1 x3 (mH h F mm v) bc bs := by
  -- the end
  have L281 : ∀ (own A : Nat → Nat) (h : xb_H) (F : Nat → Nat → Int32) (v : Nat → Int32) (en len bc bs : Nat), mB own mm A h → bs_ v E → (v 5).toInt = nm → (v 13).toInt = en → lenE A h len → en ≤ len → bgE len rc rs bc bs → (v 17 = 0 → en0 ≤ en ∧ en ≤ E ∧ ∃ ct fs P, mE A nm en0 en b E cb F ct fs P ∧ ∀ v' S', xy v v' S' (pMf E (ct, P)) → K v' S') → (v 17 ≠ 0 → ∀ v' S', xy v v' S' (.error (0, 0)) → K v' S') → rmX mm nm en0 b E cb own A h F v rc rs K Qr → w_M_readModule_L281 Qr mm x1 (mH h F mm v) bc bs := by
    intro own A h F v en len bc bs hB hbs h5 h13 hl hen hb hok hK hQ
    obtain ⟨g1, g2, -, g4⟩ := hB.g (k := 9) (kd := 102) (n := 768) (by decide)
    have g4 : xb_n h (A 9) = 768 := g4.elim (fun h => by omega) id
    have n9 : A 9 ≠ mm := hB.nm (by decide)
    have e10 : (12 * v 5 + 10).toInt = (12 * nm + 10 : Nat) := z_12 h5 rfl hnm (by decide)
    have e3 : (12 * v 5 + 3).toInt = (12 * nm + 3 : Nat) := z_12 h5 rfl hnm (by decide)
    unfold w_M_readModule_L281 w_M_readModule_L327
    rw [mH_i]
    refine ⟨hB.2.1, fun hn => hQ own A h F v en len bc bs (ldF.rf hB) hl hb (fun _ _ _ _ _ _ => rfl) h13 hen ⟨(fun _ => 0, fun _ _ => 0), fun hz => absurd hz hn, hK hn v _ ⟨fun _ => ⟨rfl, rfl⟩, fun hz => absurd hz hn⟩⟩, fun hz => ⟨A 9, g1, g2, ?_, A 9, g1, g2, ?_, ?_, fun _ => ?_⟩⟩
    · rw [z_in, e10]
      show _ ∧ _ < ((xb_n h (A 9) : Nat) : Int)
      omega
    · rw [z_in, e3]
      show _ ∧ _ < ((xb_n h (A 9) : Nat) : Int)
      omega
    · rw [mH_o n9, z_cl, z_cl, e10, e3, Int.toNat_natCast, Int.toNat_natCast]
      intro he
      obtain ⟨c1, c2, ct, fs, P, c3, c4⟩ := hok hz
      have e103 : ct 10 = ct 3 := by
        have d1 := (c3.1 10 (by decide)).1
        have d2 := (c3.1 3 (by decide)).1
        rw [he] at d1
        omega
      refine hQ own A h F v en len bc bs (ldF.rf hB) hl hb (fun _ _ _ _ _ _ => rfl) h13 hen ⟨(ct, P), fun _ => ⟨c1, c2, fs, c3, e103⟩, c4 v _ ?_⟩
      rw [show pMf E (ct, P) = .ok (ct, P) from if_pos e103]
      exact xy.rf
    · rename_i he
      rw [mH_o n9, z_cl, z_cl, e10, e3, Int.toNat_natCast, Int.toNat_natCast] at he
      obtain ⟨c1, c2, ct, fs, P, c3, c4⟩ := hok hz
      have e103 : ¬ ct 10 = ct 3 := fun h9 => he (by
        have d1 := (c3.1 10 (by decide)).1
        have d2 := (c3.1 3 (by decide)).1
        rw [z_eq]
        omega)
      exact g_fail (Fl := (8, E)) hB.2.1 hbs (by decide) h1 hbs.2.2 ⟨rfl, rfl⟩ (fun v' g1 g2 g3 _ => hQ own A h F v' en len bc bs (ldF.rf hB) hl hb (fun j _ _ _ j4 j5 => g1 j j4 j5) (by rw [g1 13 (by decide) (by decide)]; exact h13) hen ⟨(ct, P), fun h9 => absurd h9 g2, c4 v' _ (by rw [show pMf E (ct, P) = .error (8, E) from if_neg e103]; exact xy.fl hz g2 g3)⟩)
  have dead : ∀ (m : Nat) (x3 : Int32) (own A : Nat → Nat) (h : xb_H) (F : Nat → Nat → Int32) (v : Nat → Int32) (en len bc bs : Nat), mB own mm A h → bs_ v E → (v 5).toInt = nm → (v 13).toInt = en → lenE A h len → en ≤ len → bgE len rc rs bc bs → v 17 ≠ 0 → (∀ v' S', xy v v' S' (.error (0, 0)) → K v' S') → rmX mm nm en0 b E cb own A h F v rc rs K Qr → w_M_readModule_L111 Qr (m + 1) mm x1 x3 (mH h F mm v) bc bs := by
    intro m x3 own A h F v en len bc bs hB hbs h5 h13 hl hen hb hn hK hQ
    unfold w_M_readModule_L111
    rw [mH_i]
    exact ⟨hB.2.1, fun _ => L281 own A h F v en len bc bs hB hbs h5 h13 hl hen hb (fun hz => absurd hz hn) (fun _ => hK) hQ, fun hz => absurd hz hn⟩
  intro m
  induction m with
  | zero =>
    intro x3 own A h F v en len bc bs hB hs hbs h5 h13 hl hen hb hm hS hK hQ
    by_cases hz : v 17 = 0
    · have := hm hz
      omega
    · exact dead 0 x3 own A h F v en len bc bs hB hbs h5 h13 hl hen hb hz (hK hz) hQ
  | succ m ih =>
    intro x3 own A h F v en len bc bs hB hs hbs h5 h13 hl hen hb hm hS hK hQ
    by_cases hz : v 17 = 0
    · obtain ⟨p, ct, fs, P, c1, c2, c3, c4, c5, c6, c7, c8, cK⟩ := hS hz
      have hm := hm hz
      rw [c1, Int.toNat_natCast] at hm
      unfold w_M_readModule_L111
      rw [mH_i]
      refine ⟨hB.2.1, fun hn => absurd hz hn, fun _ => ⟨fun hle => L281 own A h F v en len bc bs hB hbs h5 h13 hl hen hb (fun _ => ⟨c4, by omega, ct, fs, P, c7, fun v' S' hx => cK v' S' (by rw [pMl_0 (by rw [z_le, h1, c1] at hle; omega)]; exact hx)⟩) (fun hn => absurd hz hn) hQ, fun hle v4 e4 h5' e5 => ?_⟩⟩
      rw [z_le, h1, c1] at hle
      rw [mH_I] at e5
      subst e5
      obtain ⟨w, hw⟩ : ∃ w : Nat → Int32, w = va_up v 16 x1 := ⟨_, rfl⟩
      rw [← hw]
      have wj : ∀ j, j ≠ 16 → w j = v j := fun j hj => by rw [hw, xh_up, if_neg hj]
      have Pw : rdP w b p E := ⟨by rw [wj 15 (by decide)]; exact c1, by rw [hw, xh_up, if_pos rfl]; exact h1, c2, c3⟩
      have wbs : bs_ w E := by unfold bs_; rw [wj 14 (by decide)]; exact hbs
      refine m_next hs Pw (fun r v1 p1 o1 f1 b1 _ => ?_)
      have z1 : v1 17 = 0 := b1 (by rw [wj 17 (by decide)]; exact hz) ⟨p + 1, _, ⟨rfl, rfl⟩, by omega⟩
      obtain ⟨f2, f3⟩ := f1 z1
      subst f2 f3
      have hr := ub_r (cb := cb) (p := p)
      have P1 := o1.P Pw
      have b1s : bs_ v1 E := o1.bs wbs
      have v114 : v1 14 = v 14 := by rw [o1.e14, wj 14 (by decide)]
      -- frames from v on
      have fr : ∀ v2 : Nat → Int32, (∀ j, j ≠ 15 → j ≠ 17 → j ≠ 18 → v2 j = v1 j) → ∀ j, j ≠ 13 → j ≠ 15 → j ≠ 16 → j ≠ 17 → j ≠ 18 → v2 j = v j := fun v2 h9 j j1 j2 j3 j4 j5 => by rw [h9 j j2 j4 j5, o1.1 j j2 j4 j5, wj j j3]
      have v15 : (v1 5).toInt = nm := by rw [o1.1 5 (by decide) (by decide) (by decide), wj 5 (by decide)]; exact h5
      have v113 : (v1 13).toInt = en := by rw [o1.1 13 (by decide) (by decide) (by decide), wj 13 (by decide)]; exact h13
      have hQv : ∀ v2 : Nat → Int32, (∀ j, j ≠ 13 → j ≠ 15 → j ≠ 16 → j ≠ 17 → j ≠ 18 → v2 j = v j) → rmX mm nm en0 b E cb own A h F v2 rc rs K Qr := fun v2 hv2 own' A' h' F' v' en' len' bc' bs' L hl' hb' hf' => hQ own' A' h' F' v' en' len' bc' bs' L hl' hb' (fun j j1 j2 j3 j4 j5 => (hf' j j1 j2 j3 j4 j5).trans (hv2 j j1 j2 j3 j4 j5))
      have die : ∀ v2 : Nat → Int32, (∀ j, j ≠ 15 → j ≠ 17 → j ≠ 18 → v2 j = v1 j) → v2 17 ≠ 0 → (∀ S', xy v v2 S' (pML cb E (m + 1) p x3.toInt.toNat (ct, P))) → w_M_readModule_L278 (w_M_readModule_L111 Qr (m + 1)) Qr mm x1 x3 (mH h F mm v2) bc bs := fun v2 h9 hn hy => by
        unfold w_M_readModule_L278
        exact dead m x3 own A h F v2 en len bc bs hB (by unfold bs_; rw [h9 14 (by decide) (by decide) (by decide)]; exact b1s) (by rw [h9 5 (by decide) (by decide) (by decide)]; exact v15) (by rw [h9 13 (by decide) (by decide) (by decide)]; exact v113) hl hen hb hn (fun v' S' hx => cK v' S' ((hy S').ps hz hn (hx.1 hn))) (hQv v2 (fr v2 h9))
      have die222 : ∀ (v2 : Nat → Int32) (y : Int64), (∀ j, j ≠ 15 → j ≠ 17 → j ≠ 18 → v2 j = v1 j) → v2 17 ≠ 0 → (∀ S', xy v v2 S' (pML cb E (m + 1) p x3.toInt.toNat (ct, P))) → w_M_readModule_L222 (w_M_readModule_L111 Qr (m + 1)) Qr mm x1 x3 (ub cb p) y (mH h F mm v2) bc bs := fun v2 y h9 hn hy => by
        unfold w_M_readModule_L222
        rw [mH_i]
        exact ⟨hB.2.1, fun _ => die v2 h9 hn hy, fun hz => absurd hz hn⟩
      have die179 : ∀ v2 : Nat → Int32, (∀ j, j ≠ 15 → j ≠ 17 → j ≠ 18 → v2 j = v1 j) → v2 17 ≠ 0 → (∀ S', xy v v2 S' (pML cb E (m + 1) p x3.toInt.toNat (ct, P))) → w_M_readModule_L179 (w_M_readModule_L111 Qr (m + 1)) Qr mm x1 x3 (ub cb p) (mH h F mm v2) bc bs := fun v2 h9 hn hy => by
        unfold w_M_readModule_L179 w_M_readModule_L194
        rw [mH_i]
        exact ⟨hB.2.1, fun _ => ⟨hB.2.1, fun _ => die222 v2 _ h9 hn hy, fun hz => absurd hz hn⟩, fun hz => absurd hz hn⟩
      have v117 : v1 17 = v 17 := by rw [z1, hz]
      have xv : ∀ {α : Type} {v2 : Nat → Int32} {S' : α} {X : Except (Nat × Nat) α}, xy v1 v2 S' X → xy v v2 S' X := fun hx => ⟨fun h9 => absurd hz h9, fun _ => by rw [← v114]; exact hx.2 z1⟩
      have L179 : ∀ s : Nat, (ub cb p).toInt = s → s < 12 → (s = 0 ∨ x3.toInt < s) → w_M_readModule_L179 (w_M_readModule_L111 Qr (m + 1)) Qr mm x1 x3 (ub cb p) (mH h F mm v1) bc bs := by
        intro s hs1 hs2 hs3
        have eM := pML_s (cb := cb) (E := E) (m := m) (last := x3.toInt.toNat) (S := (ct, P)) (by omega : ¬ E ≤ p) hs1 hs2 (by omega)
        have cs0 : ct s = 0 := by
          rcases hs3 with e9 | e9
          · subst e9
            exact c7.z0
          · exact c8 s e9
        unfold w_M_readModule_L179
        rw [mH_i]
        refine ⟨hB.2.1, fun hn => absurd z1 hn, fun _ => x_count hs P1 b1s (fun n v2 p2 o2 f2 kc _ => ?_)⟩
        have h9 : ∀ j, j ≠ 15 → j ≠ 17 → j ≠ 18 → v2 j = v1 j := o2.1
        have P2 := o2.P P1
        have ez : (x1 - v2 15).toInt = (E : Int) - p2 := by
          rw [z_sub, h1, P2.1]
          have := P2.2.2.2
          omega
        unfold w_M_readModule_L194
        rw [mH_i]
        refine ⟨hB.2.1, fun hn => die222 v2 _ h9 hn (fun S' => by rw [eM]; exact xv (kc.ey hn)), fun hz2 => ⟨fun hle2 => ?_, fun hle2 => g_fail (Fl := (2, E)) hB.2.1 (o2.bs b1s) (by decide) h1 hbs.2.2 ⟨rfl, rfl⟩ (fun v' g1 g2 g3 _ => die222 v' _ (fun j j1 j2 j3 => (g1 j j2 j3).trans (h9 j j1 j2 j3)) g2 (fun S' => ?_))⟩⟩
        rotate_left
        · rw [eM]
          refine xv (kc.ty o2.e14 (fun hn => absurd hz2 hn) (fun _ => ?_))
          have hb2 := rC_b (f2 hz2)
          rw [Z_lim, ez] at hle2
          rw [(rC_E (f2 hz2)).2, if_pos (by omega)]
          exact xy.fl hz2 g2 g3
        have hb2 := rC_b (f2 hz2)
        rw [Z_lim, ez] at hle2
        obtain ⟨e', he'⟩ : ∃ e' : Nat, e' = p2 + n.toInt.toNat := ⟨_, rfl⟩
        have hee : e' ≤ E := by omega
        unfold w_M_readModule_L222
        rw [mH_i]
        refine ⟨hB.2.1, fun hn => absurd hz2 hn, fun _ h3 e3 => ?_⟩
        rw [mH_I] at e3
        subst e3
        have e16 : (v2 15 + Int64.toInt32 n).toInt = e' := by
          have e4 : (Int64.toInt32 n).toInt = n.toInt := by
            rw [z_of64]
            omega
          rw [z_add, P2.1, e4]
          have := P2.2.2.2
          omega
        obtain ⟨u, hu⟩ : ∃ u : Nat → Int32, u = va_up v2 16 (v2 15 + Int64.toInt32 n) := ⟨_, rfl⟩
        rw [← hu]
        have uj : ∀ j, j ≠ 16 → u j = v2 j := fun j hj => by rw [hu, xh_up, if_neg hj]
        have u5 : (u 5).toInt = nm := by rw [uj 5 (by decide), h9 5 (by decide) (by decide) (by decide)]; exact v15
        have u13 : (u 13).toInt = en := by rw [uj 13 (by decide), h9 13 (by decide) (by decide) (by decide)]; exact v113
        have Pu : rdP u b p2 e' := ⟨by rw [uj 15 (by decide)]; exact P2.1, by rw [hu, xh_up, if_pos rfl]; exact e16, P2.2.2.1, by omega⟩
        have uf : ∀ j, j ≠ 13 → j ≠ 15 → j ≠ 16 → j ≠ 17 → j ≠ 18 → u j = v j := fun j j1 j2 j3 j4 j5 => by rw [uj j j3]; exact fr v2 h9 j j1 j2 j3 j4 j5
        obtain ⟨g1, g2, -, g4⟩ := hB.g (k := 8) (kd := 102) (n := 768) (by decide)
        have g4 : xb_n h (A 8) = 768 := g4.elim (fun h => by omega) id
        have n8 : A 8 ≠ mm := hB.nm (by decide)
        have e12 : (12 * u 5 + ub cb p).toInt = (12 * nm + s : Nat) := z_12 u5 hs1 hnm hs2
        rw [mH_i]
        refine ⟨A 8, g1, g2, ?_, fun h7 e7 => ?_⟩
        · rw [z_in, e12]
          show _ ∧ _ < ((xb_n h (A 8) : Nat) : Int)
          omega
        rw [mH_A n8, show (12 * u 5 + ub cb p).toNatClampNeg = 12 * nm + s from by rw [z_cl, e12]; omega] at e7
        subst e7
        have E1 := c7.sF (s := s) (w := u 13) hB hs2 cs0 u13
        have L0 := ldF.up (nm := nm) (en0 := en0) (F := F) hB (k := 8) (f := va_up (F (A 8)) (12 * nm + s) (u 13)) (by decide) (fun _ j hj => by rw [xh_up, if_neg (by omega)]) (fun e => by omega) (fun e => by omega)
        have ubs : bs_ u e' := by
          obtain ⟨x1, x2, x3⟩ := o2.bs b1s
          exact ⟨by rw [uj 14 (by decide)]; exact x1, by rw [uj 14 (by decide)]; exact x2, by omega⟩
        refine x_section (en := en) hB ((L0.rd hB hs).sub hee) hby Pu ubs hs1 hs2 u5 hnm u13 hl hen (by omega) (by omega) hee c4 hb (by rw [uj 17 (by decide)]; exact hz2) E1 (by rw [xh_up, if_pos rfl]) cs0 (fun own1 A1 g F1 v3 p3 en1 len1 bc1 bs1 L1 hl1 hb1 hf1 h15 hp1 hp2 h13' hen1 hSx _ => ?_)
        obtain ⟨S', hok, kx⟩ := hSx
        have u14 : u 14 = v2 14 := uj 14 (by decide)
        have v314 : v3 14 = u 14 := hf1 14 (by decide) (by decide) (by decide) (by decide)
        have u17 : u 17 = 0 := by rw [uj 17 (by decide)]; exact hz2
        -- what the rest tells
        have full : ∀ (v' : Nat → Int32) (S2 : Sm), (v3 17 ≠ 0 → v' 17 = v3 17 ∧ v' 18 = v3 18) → (v3 17 = 0 → xy v3 v' S2 (pML cb E m e' (if s = 0 then x3.toInt.toNat else s) S')) → xy v v' S2 (pML cb E (m + 1) p x3.toInt.toNat (ct, P)) := fun v' S2 a1 a2 => by
          rw [eM]
          refine xv (kc.ty o2.e14 (fun hn => absurd hz2 hn) (fun _ => ?_))
          rw [(rC_E (f2 hz2)).2, if_neg (by omega), ← he']
          have := kx.tr (G := pML cb E m e' (if s = 0 then x3.toInt.toNat else s)) v314 a1 a2
          exact ⟨fun hn => absurd hz2 hn, fun _ => by rw [← u14]; exact this.2 u17⟩
        have B1 := L1.2.1
        have LL := ldF.tr hB L0 L1
        have v3f : ∀ j, j ≠ 13 → j ≠ 15 → j ≠ 16 → j ≠ 17 → j ≠ 18 → v3 j = v j := fun j j1 j2 j3 j4 j5 => (hf1 j j1 j2 j4 j5).trans (uf j j1 j2 j3 j4 j5)
        have hQ1 : rmX mm nm en0 b E cb own1 A1 g F1 v3 rc rs K Qr := fun own' A' h' F' v' en' len' bc' bs' L hl' hb' hf' => hQ own' A' h' F' v' en' len' bc' bs' (ldF.tr hB LL L) hl' hb' (fun j j1 j2 j3 j4 j5 => (hf' j j1 j2 j3 j4 j5).trans (v3f j j1 j2 j3 j4 j5))
        have K1 : ∀ y : Int32, y.toInt.toNat = (if s = 0 then x3.toInt.toNat else s) → (∀ ct' : Nat → Nat, (∀ j, j ≠ s → ct' j = ct j) → ct' 0 = 0 → 0 ≤ y.toInt ∧ ∀ j : Nat, y.toInt < j → ct' j = 0) → w_M_readModule_L277 (w_M_readModule_L111 Qr (m + 1)) Qr mm x1 y (mH g F1 mm v3) bc1 bs1 := by
          intro y ey hy
          unfold w_M_readModule_L277 w_M_readModule_L278
          refine ih y own1 A1 g F1 v3 en1 len1 bc1 bs1 B1 (LL.rd hB hs) (by unfold bs_; rw [v314, u14]; exact o2.bs b1s) (by rw [hf1 5 (by decide) (by decide) (by decide) (by decide)]; exact u5) h13' hl1 hen1 hb1 (fun hz3 => ?_) (fun hz3 => ?_) (fun hn3 v' S2 hx => cK v' S2 (full v' S2 hx.1 (fun hz3 => absurd hz3 hn3))) hQ1
          · rw [h15, Int.toNat_natCast]
            omega
          · obtain ⟨d1, d2, d3, d4, d5⟩ := hok hz3
            obtain ⟨y1, y2⟩ := hy S'.1 d5 d4.z0
            refine ⟨p3, S'.1, _, S'.2, h15, by have := P2.2.2.1; omega, by omega, d1, d2, y1, d4, y2, fun v' S2 hx => cK v' S2 (full v' S2 (fun hn3 => absurd hz3 hn3) (fun _ => ?_))⟩
            rw [ey, d3] at hx
            exact hx
        refine ⟨fun hle3 => K1 x3 (if_pos (by rw [z_le, hs1] at hle3; simp only [Int32.reduceToInt] at hle3; omega)).symm (fun ct' d5 d6 => ⟨c6, fun j hj => ?_⟩), fun hle3 => K1 (ub cb p) (by rw [z_le, hs1] at hle3; simp only [Int32.reduceToInt] at hle3; rw [if_neg (by omega), hs1]; rfl) (fun ct' d5 d6 => ⟨by omega, fun j hj => ?_⟩)⟩
        · rw [z_le, hs1] at hle3
          simp only [Int32.reduceToInt] at hle3
          rw [d5 j (by omega)]
          exact c8 j hj
        · rw [z_le, hs1] at hle3
          simp only [Int32.reduceToInt] at hle3
          rw [d5 j (by omega)]
          exact c8 j (by omega)
      obtain ⟨s, hsu⟩ : ∃ s : Nat, (ub cb p).toInt = s := ⟨(ub cb p).toInt.toNat, by omega⟩
      refine ⟨fun k11 => ⟨fun k0 => L179 s hsu ?_ ?_, fun k0 => ⟨fun kl => L179 s hsu ?_ ?_, fun kl => g_fail (Fl := (6, p)) hB.2.1 b1s (by decide) (by rw [e4]; exact c1) (by have := hbs.2.2; omega) ⟨rfl, rfl⟩ (fun v' g1 g2 g3 _ => die179 v' (fun j _ j2 j3 => g1 j j2 j3) g2 (fun S' => ?_))⟩⟩, fun k11 => g_fail (Fl := (5, p)) hB.2.1 b1s (by decide) (by rw [e4]; exact c1) (by have := hbs.2.2; omega) ⟨rfl, rfl⟩ (fun v' g1 g2 g3 _ => die179 v' (fun j _ j2 j3 => g1 j j2 j3) g2 (fun S' => ?_))⟩
      rotate_right 2
      · rw [z_le, hsu] at k11 k0
        rw [z_lt, hsu] at kl
        simp only [Int32.reduceToInt] at k11 k0
        rw [pML_6 (by omega) hsu (by omega) (by omega)]
        exact xv (xy.fl z1 g2 g3)
      · rw [z_le, hsu] at k11
        simp only [Int32.reduceToInt] at k11
        rw [pML_5 (by omega) hsu (by omega)]
        exact xv (xy.fl z1 g2 g3)
      all_goals
        simp only [z_le, z_lt, hsu, Int32.reduceToInt] at *
        omega
    · exact dead (m + 1) x3 own A h F v en len bc bs hB hbs h5 h13 hl hen hb hz (hK hz) hQ
theorem x_readModule {x1 : Int32} {len rc rs bc bs : Nat} {Qr : xb_H → Nat → Nat → Prop} (hby : ∀ j, -128 ≤ (cb j).toInt ∧ (cb j).toInt ≤ 127) (h1 : x1.toInt = E) (hnm : nm < 64) (hE2 : E ≤ 12000) (hB : mB own mm A h) (hs : rdH mm (A 3) 16384 b E cb h F) (h5 : (v 5).toInt = nm) (h13 : (v 13).toInt = en0) (h14 : (v 14).toInt = b) (hl : lenE A h len) (hen : en0 ≤ len) (hb : bgE len (rc + 1) (rs + 8) bc bs) (hen0 : en0 ≤ b) (hbE : b ≤ E) (hbs : bs_ v E) (hv0 : v 17 = 0) (hE : mE A nm en0 en0 b E cb F (fun _ => 0) fs (fun _ _ => 0))
    (hQ : rmX mm nm en0 b E cb own A h F v rc rs (fun v' S' => xy v v' S' (pMod cb b E)) Qr) : w_M_readModule mm x1 (mH h F mm v) bc bs Qr := by
  obtain ⟨b1, b2⟩ := id hb
  unfold w_M_readModule
  refine ⟨by omega, by omega, fun q1 hq1 h2 e2 => ?_⟩
  have hq : xb_k h q1 = 0 := hq1
  have qm : q1 ≠ mm := fun e => by rw [e, hB.2.1] at hq; omega
  rw [mH_N qm] at e2
  subst e2
  have hn : xb_n (xb_new h q1 102 8) q1 = 8 := by rw [xh_nN, if_pos rfl]
  have hk : xb_k (xb_new h q1 102 8) q1 = 102 := by rw [xh_kN, if_pos rfl]
  have inn : ∀ (f : Nat → Int32) (c : Int32), 0 ≤ c.toInt → c.toInt < 8 → vp_in c (xb_n (mH (xb_new h q1 102 8) (va_up F q1 f) mm v) q1) := fun f c c1 c2 => by
    rw [z_in]
    show _ ∧ _ < ((xb_n (xb_new h q1 102 8) q1 : Nat) : Int)
    rw [hn]
    exact ⟨c1, c2⟩
  refine ⟨inn _ 0 (by decide) (by decide), fun h5' e5 => ?_⟩
  rw [mH_AA qm] at e5; subst e5
  refine ⟨inn _ 1 (by decide) (by decide), fun h7 e7 => ?_⟩
  rw [mH_AA qm] at e7; subst e7
  refine ⟨inn _ 2 (by decide) (by decide), fun h9 e9 => ?_⟩
  rw [mH_AA qm] at e9; subst e9
  refine ⟨inn _ 3 (by decide) (by decide), fun h11 e11 => ?_⟩
  rw [mH_AA qm] at e11; subst e11
  refine ⟨inn _ 4 (by decide) (by decide), fun h13' e13 => ?_⟩
  rw [mH_AA qm] at e13; subst e13
  refine ⟨inn _ 5 (by decide) (by decide), fun h15 e15 => ?_⟩
  rw [mH_AA qm] at e15; subst e15
  refine ⟨inn _ 6 (by decide) (by decide), fun h17 e17 => ?_⟩
  rw [mH_AA qm] at e17; subst e17
  refine ⟨inn _ 7 (by decide) (by decide), fun h19 e19 => ?_⟩
  rw [mH_AA qm] at e19; subst e19
  have hmg : ∀ k, k < 8 → va_up (va_up (va_up (va_up (va_up (va_up (va_up (va_up (fun _ => (0 : Int32)) (Int32.toNatClampNeg 0) 0) (Int32.toNatClampNeg 1) 97) (Int32.toNatClampNeg 2) 115) (Int32.toNatClampNeg 3) 109) (Int32.toNatClampNeg 4) 1) (Int32.toNatClampNeg 5) 0) (Int32.toNatClampNeg 6) 0) (Int32.toNatClampNeg 7) 0 k = mgk k := by decide
  revert hmg
  generalize va_up (va_up (va_up (va_up (va_up (va_up (va_up (va_up (fun _ => (0 : Int32)) _ _) _ _) _ _) _ _) _ _) _ _) _ _) _ _ = f
  intro hmg
  have L0 := ldF.new (nm := nm) (en0 := en0) (F := F) hB (n := 8) (f := f) hq
  have B1 := L0.2.1
  have S1 : rdH mm (A 3) 16384 b E cb (xb_new h q1 102 8) (va_up F q1 f) := L0.rd hB hs
  have nq : ∀ k, (∃ e ∈ aL, e.1 = k) → A k ≠ q1 := fun k ⟨e, he1, he2⟩ e9 => by
    have := hB.pk e he1
    rw [he2, e9] at this
    exact this hq
  have E1 : mE A nm en0 en0 b E cb (va_up F q1 f) (fun _ => 0) fs (fun _ _ => 0) := by
    refine ⟨fun i hi => ?_, fun κ hκ => ?_⟩
    · rw [xh_up F, if_neg (nq 9 (by decide)), xh_up F, if_neg (nq 8 (by decide)), xh_up F, if_neg (nq 11 (by decide))]
      exact hE.1 i hi
    · rw [xh_up F, if_neg (nq 10 (by decide))]
      exact hE.2 κ hκ
  have hl1 : lenE A (xb_new h q1 102 8) len := by
    obtain ⟨l1, l2, l3⟩ := hl
    refine ⟨?_, ?_, l3⟩
    · rw [xh_nN, if_neg (nq 11 (by decide))]; exact l1
    · rw [xh_nN, if_neg (nq 12 (by decide))]; exact l2
  have hQ1 : ∀ v2 : Nat → Int32, (∀ j, j ≠ 15 → j ≠ 17 → j ≠ 18 → v2 j = v j) → rmX mm nm en0 b E cb _ A (xb_new h q1 102 8) (va_up F q1 f) v2 rc rs (fun v' S' => xy v v' S' (pMod cb b E)) Qr := fun v2 hv2 own' A' h' F' v' en' len' bc' bs' L hl' hb' hf' => hQ own' A' h' F' v' en' len' bc' bs' (ldF.tr hB L0 L) hl' hb' (fun j j1 j2 j3 j4 j5 => (hf' j j1 j2 j3 j4 j5).trans (hv2 j j2 j4 j5))
  have key : ∀ (m k : Nat) (x3 : Int32) (v2 : Nat → Int32), x3.toInt = k → k + m = 8 → (∀ j, j ≠ 15 → j ≠ 17 → j ≠ 18 → v2 j = v j) → (v2 17 = 0 → b + k ≤ E) → (v2 17 = 0 → pHd cb b E 8 0 = pHd cb b E m k) → (v2 17 ≠ 0 → ∀ S', xy v v2 S' (pMod cb b E)) → w_M_readModule_L44 Qr (m + 1) mm x1 q1 x3 (mH (xb_new h q1 102 8) (va_up F q1 f) mm v2) (bc - 1) (bs - 8) := by
    intro m
    induction m with
    | zero =>
      intro k x3 v2 e3 hk8 hv2 hbk hpd hdd
      unfold w_M_readModule_L44
      rw [mH_i]
      refine ⟨fun _ => ⟨B1.2.1, fun h3 e4 => ⟨E + 2 + 1, ?_⟩⟩, fun h9 => ?_⟩
      · rw [mH_I] at e4
        subst e4
        have e15 : (v2 14 + 8).toInt = (b + 8 : Nat) := by
          rw [hv2 14 (by decide) (by decide) (by decide), z_add, h14]
          simp only [Int32.reduceToInt]
          omega
        refine x_readModuleL (en0 := en0) hby h1 hnm hE2 (E + 2) 0 _ A _ _ _ en0 len _ _ B1 S1 (by unfold bs_; rw [xh_up, if_neg (by decide), hv2 14 (by decide) (by decide) (by decide)]; exact hbs) (by rw [xh_up, if_neg (by decide), hv2 5 (by decide) (by decide) (by decide)]; exact h5) (by rw [xh_up, if_neg (by decide), hv2 13 (by decide) (by decide) (by decide)]; exact h13) hl1 hen ⟨by omega, by omega⟩ (fun _ => by omega) (fun hz => ⟨b + 8, fun _ => 0, fs, fun _ _ => 0, by rw [xh_up, if_pos rfl]; exact e15, by omega, ?_, Nat.le_refl _, by omega, by decide, E1, fun _ _ => rfl, fun v' S' hx => ?_⟩) (fun hn v' S' hx => ?_) (hQ1 _ (fun j j1 j2 j3 => by rw [xh_up, if_neg j1]; exact hv2 j j1 j2 j3))
        · rw [xh_up, if_neg (by decide)] at hz
          have := hbk hz
          omega
        · rw [xh_up, if_neg (by decide)] at hz
          refine ⟨fun h9 => absurd hv0 h9, fun _ => ?_⟩
          have h2 := hx.2 (by rw [xh_up, if_neg (by decide)]; exact hz)
          rw [xh_up, if_neg (by decide), hv2 14 (by decide) (by decide) (by decide)] at h2
          rw [show pMod cb b E = pML cb E (E + 2) (b + 8) 0 (fun _ => 0, fun _ _ => 0) from by unfold pMod; rw [hpd hz]; rfl]
          exact h2
        · rw [xh_up, if_neg (by decide)] at hn
          have h2 := hx.1 (by rw [xh_up, if_neg (by decide)]; exact hn)
          rw [xh_up, if_neg (by decide), xh_up, if_neg (by decide)] at h2
          exact (hdd hn S').ps hv0 hn h2
      · rw [z_le, e3] at h9
        simp only [Int32.reduceToInt] at h9
        omega
    | succ m ih =>
      intro k x3 v2 e3 hk8 hv2 hbk hpd hdd
      have e31 : (x3 + 1).toInt = (k + 1 : Nat) := z_inc e3 (by omega)
      have e14 : ∀ v3 : Nat → Int32, (∀ j, j ≠ 15 → j ≠ 17 → j ≠ 18 → v3 j = v j) → b ≤ 1000000 → (v3 14 + x3).toInt = (b + k : Nat) := fun v3 hv3 hb9 => by
        rw [hv3 14 (by decide) (by decide) (by decide)]
        exact z_ad2 h14 e3 hb9 (by omega)
      have L81 : (v2 17 = 0 → E ≤ b + k ∨ ¬ ub cb (b + k) = mgk k) → w_M_readModule_L81 (w_M_readModule_L44 Qr (m + 1)) Qr mm x1 q1 x3 (mH (xb_new h q1 102 8) (va_up F q1 f) mm v2) (bc - 1) (bs - 8) := by
        intro hbad
        unfold w_M_readModule_L81 w_M_readModule_L92
        rw [mH_i]
        refine ⟨B1.2.1, g_fail (Fl := (1, b + k)) B1.2.1 (by unfold bs_; rw [hv2 14 (by decide) (by decide) (by decide)]; exact hbs) (by decide) (e14 v2 hv2 (by have := hbs.2.2; omega)) (by have := hbs.2.2; omega) ⟨rfl, rfl⟩ (fun v' g1 g2 g3 _ => ih (k + 1) (x3 + 1) v' e31 (by omega) (fun j j1 j2 j3 => (g1 j j2 j3).trans (hv2 j j1 j2 j3)) (fun h9 => absurd h9 g2) (fun h9 => absurd h9 g2) (fun _ S' => ?_))⟩
        by_cases hz : v2 17 = 0
        · refine ⟨fun h9 => absurd hv0 h9, fun _ => .inr ⟨(1, b + k), ?_, g2, ?_⟩⟩
          · unfold pMod
            rw [hpd hz]
            unfold pHd
            rw [if_pos (hbad hz)]
            rfl
          · have := g3.2 hz g2
            rw [hv2 14 (by decide) (by decide) (by decide)] at this
            exact this
        · exact (hdd hz S').ps hv0 hz (g3.1 hz)
      unfold w_M_readModule_L44 w_M_readModule_L92
      rw [mH_i]
      refine ⟨fun h9 => ?_, fun h9 => ⟨B1.2.1, fun hlt => L81 (fun _ => .inl ?_), fun hlt => ?_⟩⟩
      · rw [z_le, e3] at h9
        simp only [Int32.reduceToInt] at h9
        omega
      · rw [z_le, h1, e14 v2 hv2 (by have := hbs.2.2; omega)] at hlt
        omega
      · have hbb : b ≤ 1000000 := by omega
        rw [z_le, h1, e14 v2 hv2 hbb] at hlt
        obtain ⟨g1, g2, -, g4⟩ := B1.g (k := 3) (kd := 100) (n := 16384) (by decide)
        have n3 : A 3 ≠ mm := hB.nm (by decide)
        have eub : xb_i (mH (xb_new h q1 102 8) (va_up F q1 f) mm v2) (A 3) (v2 14 + x3).toNatClampNeg &&& 255 = ub cb (b + k) := by
          rw [mH_o n3, z_cl, e14 v2 hv2 hbb, Int.toNat_natCast, S1.2.2.2.2.2.2.2 (b + k) (by omega) (by omega)]
          rfl
        have emg : xb_i (mH (xb_new h q1 102 8) (va_up F q1 f) mm v2) q1 x3.toNatClampNeg = mgk k := by
          rw [mH_o qm, xh_up, if_pos rfl, z_cl, e3, Int.toNat_natCast]
          exact hmg k (by omega)
        refine ⟨A 3, g1, g2, ?_, hk, inn f x3 (by omega) (by omega), ?_, ?_⟩
        rotate_left
        · rw [eub, emg]
          exact fun hq => ih (k + 1) (x3 + 1) v2 e31 (by omega) hv2 (fun _ => by omega) (fun hz => by rw [hpd hz, pHd_1 (by omega) hq]) hdd
        · rw [eub, emg]
          exact fun hq => L81 (fun _ => .inr hq)
        rw [z_in, e14 v2 hv2 hbb]
        have g4 : xb_n (xb_new h q1 102 8) (A 3) = 16384 := g4.elim (fun h => by omega) id
        show _ ∧ _ < ((xb_n (xb_new h q1 102 8) (A 3) : Nat) : Int)
        omega
  refine ⟨8 + 1, key 8 0 0 v rfl rfl (fun _ _ _ _ => rfl) (fun _ => by omega) (fun _ => rfl) (fun hn => absurd hv0 hn)⟩
end RFC
