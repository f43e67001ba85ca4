-- class and reference under the law's calls
/-- both hold: Kr and K calls are left -/
def jL (oc or_ : Nat → Nat) (H : xb_H) (σ x1 mm x3 Kr K bc bs : Nat) : Prop :=
  ∃ (A : Nat → Nat) (h : xb_H) (F : Nat → Nat → Int32) (v : Nat → Int32) (DM : Nat → zM) (len rl : Nat) (ad : Nat → Nat) (W : wD) (ts : Nat), H = mH h F mm v ∧ rA or_ mm A h F v DM len rl Kr ∧ ad 0 = x1 ∧ cI oc ad H W σ ts K ∧ (refC len rl Kr + cC ad H W ts K ≤ bc ∧ refS len rl Kr + cS_ ad H W ts K ≤ bs) ∧
  (∀ a, xb_k H a ≠ 0 → oc a < 60 → or_ a < 60) ∧ (oc x3 = 500 ∧ or_ x3 = 500 ∧ xb_k H x3 = 103 ∧ xb_n H x3 = 1)
def jP (σ x1 mm x3 Kr K : Nat) (H : xb_H) (bc bs : Nat) : Prop := ∃ oc or_ : Nat → Nat, jL oc or_ H σ x1 mm x3 Kr K bc bs
section LW1
variable {H : xb_H} {σ x1 mm x3 Kr K bc bs : Nat}
/-- what a call of the class may do to both -/
theorem jL_cl {oc or_ : Nat → Nat} (hJ : jL oc or_ H σ x1 mm x3 (K + 1) (K + 1) bc bs) : ∃ (ad : Nat → Nat) (W : wD) (ts rc rs : Nat), ad 0 = x1 ∧ cI oc ad H W σ ts (K + 1) ∧ cG ad H W ts (K + 1) rc rs bc bs ∧ ∀ (H' : xb_H) (bc' bs' : Nat), cQ oc H σ (ad 0) K rc rs H' bc' bs' → jP σ x1 mm x3 (K + 1) K H' bc' bs' := by
  obtain ⟨A, h, F, v, DM, len, rl, ad, W, ts, eH, hA, e0, hI, hg, agr, ⟨o3, p3, k3, n3⟩⟩ := hJ
  refine ⟨ad, W, ts, refC len rl (K + 1), refS len rl (K + 1), e0, hI, cG_cC.mpr hg, fun H' bc' bs' hQ => ?_⟩
  obtain ⟨oc', ⟨g1, g2, g3⟩, ad', W', ts', e0', hI', hg'⟩ := hQ
  have gn : ∀ a, xb_k H a ≠ 0 → (if xb_k H a = 0 then 0 else or_ a) = or_ a := fun a ha => if_neg ha
  obtain ⟨q1, q2⟩ := rA_hR (own' := fun a => if xb_k H a = 0 then 0 else or_ a) hA (fun a ha => by rw [← eH] at ha; exact gn a ha) (by rw [← eH]; exact g2) (fun a ha h6 => by
    rw [← eH] at ha ⊢
    exact g3 a ha (.inl (Nat.le_of_not_lt (fun h9 => absurd (agr a ha h9) (Nat.not_lt.mpr h6)))))
  have z3 : xb_k H x3 ≠ 0 := by rw [k3]; omega
  refine ⟨oc', _, A, H', xb_i H', v, DM, len, rl, ad', W', ts', q2, q1, e0'.trans e0, hI', cG_cC.mp hg', fun a ha h6 => ?_, ⟨by rw [g1 x3 z3]; exact o3, (gn x3 z3).trans p3, by rw [(g2 x3 z3).1]; exact k3, by rw [(g2 x3 z3).2]; exact n3⟩⟩
  · show (if xb_k H a = 0 then 0 else or_ a) < 60
    split
    · omega
    · rename_i h9
      rw [g1 a h9] at h6
      exact agr a h9 h6
/-- the law's own array gets a number -/
theorem jP_out {y : Int64} {Q : xb_H → Prop} (hP : jP σ x1 mm x3 Kr K H bc bs) (hQ : ∀ H' : xb_H, jP σ x1 mm x3 Kr K H' bc bs → Q H') : xb_k H x3 = 103 ∧ vp_in 0 (xb_n H x3) ∧ ∀ h6 : xb_H, h6 = xb_L H x3 (Int32.toNatClampNeg 0) y → Q h6 := by
  obtain ⟨oc, or_, A, h, F, v, DM, len, rl, ad, W, ts, eH, hA, e0, hI, hg, agr, ⟨o3, p3, k3, n3⟩⟩ := hP
  refine ⟨k3, by rw [n3, z_in]; decide, fun h6 e6 => hQ h6 ?_⟩
  have cl := cC_ln (ad := ad) (h := H) (h' := h6) (W := W) (ts := ts) (K := K) (fun k hk => by rw [e6]; rfl)
  refine ⟨oc, or_, A, xb_L h x3 (Int32.toNatClampNeg 0) y, F, v, DM, len, rl, ad, W, ts, by rw [e6, eH]; rfl, hA.L (by omega), e0, ?_, by rw [cl.1, cl.2]; exact hg, fun a ha => ?_, ⟨o3, p3, by rw [e6]; exact k3, by rw [e6]; exact n3⟩⟩
  · rw [e6]
    exact cI_fz hI (fz_L (by omega))
  · rw [e6] at ha
    exact agr a ha
/-- what a call of the reference may do to both -/
theorem jL_ref {oc or_ or' A A' : Nat → Nat} {h h' : xb_H} {F F' : Nat → Nat → Int32} {v v' : Nat → Int32} {DM DM' : Nat → zM} {len rl len' rl' ts bc' bs' : Nat} {ad : Nat → Nat} {W : wD} (hA : rA or_ mm A h F v DM len rl (K + 1)) (e0 : ad 0 = x1) (hI : cI oc ad (mH h F mm v) W σ ts K)
    (agr : ∀ a, xb_k (mH h F mm v) a ≠ 0 → oc a < 60 → or_ a < 60) (h3 : oc x3 = 500 ∧ or_ x3 = 500 ∧ xb_k (mH h F mm v) x3 = 103 ∧ xb_n (mH h F mm v) x3 = 1)
    (hT : zT or_ or' h F h' F') (hA' : rA or' mm A' h' F' v' DM' len' rl' K) (hg' : rG len' rl' (cC ad (mH h F mm v) W ts K) (cS_ ad (mH h F mm v) W ts K) K bc' bs') (he : xb_ext (mH h F mm v) (mH h' F' mm v')) : jP σ x1 mm x3 K K (mH h' F' mm v') bc' bs' := by
  obtain ⟨o3, p3, k3, n3⟩ := h3
  have gn : ∀ a, xb_k (mH h F mm v) a ≠ 0 → (if xb_k (mH h F mm v) a = 0 then 600 else oc a) = oc a := fun a ha => if_neg ha
  have sm : ∀ a, xb_k (mH h F mm v) a ≠ 0 → or_ a < 60 → xh_sm (mH h F mm v) (mH h' F' mm v') a := (zT_fz hT hA.1.1 he).2.2
  have hf : fz oc (fun a => if xb_k (mH h F mm v) a = 0 then 600 else oc a) (mH h F mm v) (mH h' F' mm v') := ⟨gn, he, fun a ha h6 => sm a ha (agr a ha h6)⟩
  have hI' := cI_fz hI hf
  have cl := cC_ln (ad := ad) (h := mH h F mm v) (h' := mH h' F' mm v') (W := W) (ts := ts) (K := K) (fun k hk => (he _ (hI.1.1.z k hk)).2)
  have z3 : xb_k (mH h F mm v) x3 ≠ 0 := by rw [k3]; omega
  refine ⟨_, or', A', h', F', v', DM', len', rl', ad, W, ts, rfl, hA', e0, hI', ?_, fun a ha h6 => ?_, ⟨(gn x3 z3).trans o3, (hT.1 x3 z3).2.trans p3, by rw [(he x3 z3).1]; exact k3, by rw [(he x3 z3).2]; exact n3⟩⟩
  · rw [cl.1, cl.2]
    unfold rG at hg'
    unfold refC refS
    omega
  · by_cases h9 : xb_k (mH h F mm v) a = 0
    · have : (if xb_k (mH h F mm v) a = 0 then 600 else oc a) < 60 := h6
      rw [if_pos h9] at this
      omega
    · rw [(hT.1 a h9).2]
      have : (if xb_k (mH h F mm v) a = 0 then 600 else oc a) < 60 := h6
      rw [if_neg h9] at this
      exact agr a h9 this
theorem refG {len rl c s : Nat} (h : refC len rl K + c ≤ bc ∧ refS len rl K + s ≤ bs) : rG len rl c s K bc bs := by
  unfold refC refS at h
  unfold rG
  omega
/-- nothing was called -/
theorem jP_dn (hP : jP σ x1 mm x3 (K + 1) (K + 1) H bc bs) : jP σ x1 mm x3 (K + 1) K H bc bs := by
  obtain ⟨oc, or_, hJ⟩ := hP
  obtain ⟨ad, W, ts, rc, rs, e0, hI, hg, hc⟩ := jL_cl hJ
  have := cQ.no (c := 0) (s := 0) hI hg (by omega) (by omega)
  exact hc _ _ _ this
theorem jP_dr (hP : jP σ x1 mm x3 (K + 1) K H bc bs) : jP σ x1 mm x3 K K H bc bs := by
  obtain ⟨oc, or_, A, h, F, v, DM, len, rl, ad, W, ts, eH, hA, e0, hI, hg, agr, h3⟩ := hP
  refine ⟨oc, or_, A, h, F, v, DM, len, rl, ad, W, ts, eH, hA.dn, e0, hI, ?_, agr, h3⟩
  unfold refC refS at *
  omega
theorem jP_k (hP : jP σ x1 mm x3 Kr K H bc bs) : xb_k H x1 = 1 ∧ xb_k H mm = 9 := by
  obtain ⟨oc, or_, A, h, F, v, DM, len, rl, ad, W, ts, eH, hA, e0, hI, hg, agr, h3⟩ := hP
  exact ⟨by rw [← e0]; exact hI.1.1.k 0 (by omega), by rw [eH]; exact hA.1.2.1⟩

theorem lw_feed {a1 a2 a3 a4 a5 : Int32} {Qr : Int32 → xb_H → Nat → Nat → Prop} (hP : jP σ x1 mm x3 (K + 1) (K + 1) H bc bs) (hQ : ∀ (r : Int32) (H' : xb_H) (bc' bs' : Nat), jP σ x1 mm x3 (K + 1) K H' bc' bs' → Qr r H' bc' bs') : w_Law_feed x1 a1 a2 a3 a4 a5 x3 H bc bs Qr := by
  obtain ⟨oc, or_, hJ⟩ := hP
  obtain ⟨ad, W, ts, rc, rs, e0, hI, hg, hc⟩ := jL_cl hJ
  subst e0
  unfold w_Law_feed
  exact ⟨hI.1.1.k 0 (by omega), ho_feed hI hg (fun r h' bc' bs' q _ => jP_out (hc _ _ _ q) (fun H' p => hQ _ _ _ _ p)) (fun h' bc' bs' q _ _ => ⟨rfl, hQ _ _ _ _ (hc _ _ _ q)⟩)⟩
theorem lw_end {a1 : Int32} {Qr : Int32 → xb_H → Nat → Nat → Prop} (hP : jP σ x1 mm x3 (K + 1) (K + 1) H bc bs) (hQ : ∀ (r : Int32) (H' : xb_H) (bc' bs' : Nat), jP σ x1 mm x3 (K + 1) K H' bc' bs' → Qr r H' bc' bs') : w_Law_end x1 a1  H bc bs Qr := by
  obtain ⟨oc, or_, hJ⟩ := hP
  obtain ⟨ad, W, ts, rc, rs, e0, hI, hg, hc⟩ := jL_cl hJ
  subst e0
  unfold w_Law_end
  exact ⟨hI.1.1.k 0 (by omega), ho_end hI hg (fun h' bc' bs' q _ => hQ _ _ _ _ (hc _ _ _ q)) (fun h' bc' bs' q _ _ => ⟨rfl, hQ _ _ _ _ (hc _ _ _ q)⟩)⟩
theorem lw_load {Qr : Int32 → xb_H → Nat → Nat → Prop} (hP : jP σ x1 mm x3 (K + 1) (K + 1) H bc bs) (hQ : ∀ (r : Int32) (H' : xb_H) (bc' bs' : Nat), jP σ x1 mm x3 (K + 1) K H' bc' bs' → Qr r H' bc' bs') : w_Law_load x1 x3 H bc bs Qr := by
  obtain ⟨oc, or_, hJ⟩ := hP
  obtain ⟨ad, W, ts, rc, rs, e0, hI, hg, hc⟩ := jL_cl hJ
  subst e0
  unfold w_Law_load
  exact ⟨hI.1.1.k 0 (by omega), ho_load hI hg (fun r h' bc' bs' q _ => jP_out (hc _ _ _ q) (fun H' p => hQ _ _ _ _ p)) (fun h' bc' bs' q _ _ => ⟨rfl, hQ _ _ _ _ (hc _ _ _ q)⟩)⟩
theorem lw_fault {a1 : Int32} {Qr : Int32 → xb_H → Nat → Nat → Prop} (hP : jP σ x1 mm x3 (K + 1) (K + 1) H bc bs) (hQ : ∀ (r : Int32) (H' : xb_H) (bc' bs' : Nat), jP σ x1 mm x3 (K + 1) K H' bc' bs' → Qr r H' bc' bs') : w_Law_fault x1 a1 x3 H bc bs Qr := by
  obtain ⟨oc, or_, hJ⟩ := hP
  obtain ⟨ad, W, ts, rc, rs, e0, hI, hg, hc⟩ := jL_cl hJ
  subst e0
  unfold w_Law_fault
  exact ⟨hI.1.1.k 0 (by omega), ho_fault hI hg (fun r h' bc' bs' q _ => jP_out (hc _ _ _ q) (fun H' p => hQ _ _ _ _ p)) (fun h' bc' bs' q _ _ => ⟨rfl, hQ _ _ _ _ (hc _ _ _ q)⟩)⟩
theorem lw_module {a1 a2 : Int32} {Qr : Int32 → xb_H → Nat → Nat → Prop} (hP : jP σ x1 mm x3 (K + 1) (K + 1) H bc bs) (hQ : ∀ (r : Int32) (H' : xb_H) (bc' bs' : Nat), jP σ x1 mm x3 (K + 1) K H' bc' bs' → Qr r H' bc' bs') : w_Law_module x1 a1 a2 x3 H bc bs Qr := by
  obtain ⟨oc, or_, hJ⟩ := hP
  obtain ⟨ad, W, ts, rc, rs, e0, hI, hg, hc⟩ := jL_cl hJ
  subst e0
  unfold w_Law_module
  exact ⟨hI.1.1.k 0 (by omega), ho_module hI hg (fun r h' bc' bs' q _ => jP_out (hc _ _ _ q) (fun H' p => hQ _ _ _ _ p)) (fun h' bc' bs' q _ _ => ⟨rfl, hQ _ _ _ _ (hc _ _ _ q)⟩)⟩
theorem lw_room {a1 a2 : Int32} {Qr : Int32 → xb_H → Nat → Nat → Prop} (hP : jP σ x1 mm x3 (K + 1) (K + 1) H bc bs) (hQ : ∀ (r : Int32) (H' : xb_H) (bc' bs' : Nat), jP σ x1 mm x3 (K + 1) K H' bc' bs' → Qr r H' bc' bs') : w_Law_room x1 a1 a2 x3 H bc bs Qr := by
  obtain ⟨oc, or_, hJ⟩ := hP
  obtain ⟨ad, W, ts, rc, rs, e0, hI, hg, hc⟩ := jL_cl hJ
  subst e0
  unfold w_Law_room
  exact ⟨hI.1.1.k 0 (by omega), ho_room hI hg (fun r h' bc' bs' q _ => jP_out (hc _ _ _ q) (fun H' p => hQ _ _ _ _ p)) (fun h' bc' bs' q _ _ => ⟨rfl, hQ _ _ _ _ (hc _ _ _ q)⟩)⟩
theorem lw_instantiate {a1 : Int32} {Qr : Int32 → xb_H → Nat → Nat → Prop} (hP : jP σ x1 mm x3 (K + 1) (K + 1) H bc bs) (hQ : ∀ (r : Int32) (H' : xb_H) (bc' bs' : Nat), jP σ x1 mm x3 (K + 1) K H' bc' bs' → Qr r H' bc' bs') : w_Law_instantiate σ x1 a1 x3 H bc bs Qr := by
  obtain ⟨oc, or_, hJ⟩ := hP
  obtain ⟨ad, W, ts, rc, rs, e0, hI, hg, hc⟩ := jL_cl hJ
  subst e0
  unfold w_Law_instantiate
  exact ⟨hI.1.1.k 0 (by omega), ho_instantiate hI hg (fun r h' bc' bs' q _ => jP_out (hc _ _ _ q) (fun H' p => hQ _ _ _ _ p)) (fun X hX h' bc' bs' q _ _ => hX.elim (fun e => .inr ⟨e, hQ _ _ _ _ (hc _ _ _ q)⟩) (fun e => .inl ⟨e, hQ _ _ _ _ (hc _ _ _ q)⟩))⟩
theorem lw_name {a1 : Int32} {Qr : Int32 → xb_H → Nat → Nat → Prop} (hP : jP σ x1 mm x3 (K + 1) (K + 1) H bc bs) (hQ : ∀ (r : Int32) (H' : xb_H) (bc' bs' : Nat), jP σ x1 mm x3 (K + 1) K H' bc' bs' → Qr r H' bc' bs') : w_Law_name x1 a1  H bc bs Qr := by
  obtain ⟨oc, or_, hJ⟩ := hP
  obtain ⟨ad, W, ts, rc, rs, e0, hI, hg, hc⟩ := jL_cl hJ
  subst e0
  unfold w_Law_name
  exact ⟨hI.1.1.k 0 (by omega), ho_name hI hg (fun h' bc' bs' q _ => hQ _ _ _ _ (hc _ _ _ q)) (fun h' bc' bs' q _ _ => ⟨rfl, hQ _ _ _ _ (hc _ _ _ q)⟩)⟩
theorem lw_find {a1 : Int32} {Qr : Int32 → xb_H → Nat → Nat → Prop} (hP : jP σ x1 mm x3 (K + 1) (K + 1) H bc bs) (hQ : ∀ (r : Int32) (H' : xb_H) (bc' bs' : Nat), jP σ x1 mm x3 (K + 1) K H' bc' bs' → Qr r H' bc' bs') : w_Law_find x1 a1 x3 H bc bs Qr := by
  obtain ⟨oc, or_, hJ⟩ := hP
  obtain ⟨ad, W, ts, rc, rs, e0, hI, hg, hc⟩ := jL_cl hJ
  subst e0
  unfold w_Law_find
  exact ⟨hI.1.1.k 0 (by omega), ho_find hI hg (fun r h' bc' bs' q _ => jP_out (hc _ _ _ q) (fun H' p => hQ _ _ _ _ p)) (fun h' bc' bs' q _ _ => ⟨rfl, hQ _ _ _ _ (hc _ _ _ q)⟩)⟩
theorem lw_exported {a1 a2 a3 : Int32} {Qr : Int32 → xb_H → Nat → Nat → Prop} (hP : jP σ x1 mm x3 (K + 1) (K + 1) H bc bs) (hQ : ∀ (r : Int32) (H' : xb_H) (bc' bs' : Nat), jP σ x1 mm x3 (K + 1) K H' bc' bs' → Qr r H' bc' bs') : w_Law_exported x1 a1 a2 a3 x3 H bc bs Qr := by
  obtain ⟨oc, or_, hJ⟩ := hP
  obtain ⟨ad, W, ts, rc, rs, e0, hI, hg, hc⟩ := jL_cl hJ
  subst e0
  unfold w_Law_exported
  exact ⟨hI.1.1.k 0 (by omega), ho_exported hI hg (fun r h' bc' bs' q _ => jP_out (hc _ _ _ q) (fun H' p => hQ _ _ _ _ p)) (fun h' bc' bs' q _ _ => ⟨rfl, hQ _ _ _ _ (hc _ _ _ q)⟩)⟩
theorem lw_push {a1 : Int64} {Qr : Int32 → xb_H → Nat → Nat → Prop} (hP : jP σ x1 mm x3 (K + 1) (K + 1) H bc bs) (hQ : ∀ (r : Int32) (H' : xb_H) (bc' bs' : Nat), jP σ x1 mm x3 (K + 1) K H' bc' bs' → Qr r H' bc' bs') : w_Law_push x1 a1 x3 H bc bs Qr := by
  obtain ⟨oc, or_, hJ⟩ := hP
  obtain ⟨ad, W, ts, rc, rs, e0, hI, hg, hc⟩ := jL_cl hJ
  subst e0
  unfold w_Law_push
  exact ⟨hI.1.1.k 0 (by omega), ho_push hI hg (fun r h' bc' bs' q _ => jP_out (hc _ _ _ q) (fun H' p => hQ _ _ _ _ p)) (fun h' bc' bs' q _ _ => ⟨rfl, hQ _ _ _ _ (hc _ _ _ q)⟩)⟩
theorem lw_invoke {a1 a2 : Int32} {Qr : Int32 → xb_H → Nat → Nat → Prop} (hP : jP σ x1 mm x3 (K + 1) (K + 1) H bc bs) (hQ : ∀ (r : Int32) (H' : xb_H) (bc' bs' : Nat), jP σ x1 mm x3 (K + 1) K H' bc' bs' → Qr r H' bc' bs') : w_Law_invoke x1 a1 a2  H bc bs Qr := by
  obtain ⟨oc, or_, hJ⟩ := hP
  obtain ⟨ad, W, ts, rc, rs, e0, hI, hg, hc⟩ := jL_cl hJ
  subst e0
  unfold w_Law_invoke
  exact ⟨hI.1.1.k 0 (by omega), ho_invoke hI hg (fun h' bc' bs' q _ => hQ _ _ _ _ (hc _ _ _ q)) (fun X hX h' bc' bs' q _ _ => hX.elim (fun e => .inr (.inr ⟨e, hQ _ _ _ _ (hc _ _ _ q)⟩)) (fun hY => hY.elim (fun e => .inr (.inl ⟨e, hQ _ _ _ _ (hc _ _ _ q)⟩)) (fun e => .inl ⟨e, hQ _ _ _ _ (hc _ _ _ q)⟩)))⟩
theorem lw_run {a1 : Int32} {Qr : Int32 → xb_H → Nat → Nat → Prop} (hP : jP σ x1 mm x3 (K + 1) (K + 1) H bc bs) (hQ : ∀ (r : Int32) (H' : xb_H) (bc' bs' : Nat), jP σ x1 mm x3 (K + 1) K H' bc' bs' → Qr r H' bc' bs') : w_Law_run x1 a1 x3 H bc bs Qr := by
  obtain ⟨oc, or_, hJ⟩ := hP
  obtain ⟨ad, W, ts, rc, rs, e0, hI, hg, hc⟩ := jL_cl hJ
  subst e0
  unfold w_Law_run
  exact ⟨hI.1.1.k 0 (by omega), ho_run hI hg (fun r h' bc' bs' q _ => jP_out (hc _ _ _ q) (fun H' p => hQ _ _ _ _ p)) (fun X hX h' bc' bs' q _ _ => hX.elim (fun e => .inl ⟨e, hQ _ _ _ _ (hc _ _ _ q)⟩) (fun e => .inr ⟨e, hQ _ _ _ _ (hc _ _ _ q)⟩))⟩
theorem lw_trap {a1 : Int32} {Qr : Int32 → xb_H → Nat → Nat → Prop} (hP : jP σ x1 mm x3 (K + 1) (K + 1) H bc bs) (hQ : ∀ (r : Int32) (H' : xb_H) (bc' bs' : Nat), jP σ x1 mm x3 (K + 1) K H' bc' bs' → Qr r H' bc' bs') : w_Law_trap x1 a1 x3 H bc bs Qr := by
  obtain ⟨oc, or_, hJ⟩ := hP
  obtain ⟨ad, W, ts, rc, rs, e0, hI, hg, hc⟩ := jL_cl hJ
  subst e0
  unfold w_Law_trap
  exact ⟨hI.1.1.k 0 (by omega), ho_trap hI hg (fun r h' bc' bs' q _ => jP_out (hc _ _ _ q) (fun H' p => hQ _ _ _ _ p)) (fun h' bc' bs' q _ _ => ⟨rfl, hQ _ _ _ _ (hc _ _ _ q)⟩)⟩
theorem lw_pages {a1 : Int32} {Qr : Int32 → xb_H → Nat → Nat → Prop} (hP : jP σ x1 mm x3 (K + 1) (K + 1) H bc bs) (hQ : ∀ (r : Int32) (H' : xb_H) (bc' bs' : Nat), jP σ x1 mm x3 (K + 1) K H' bc' bs' → Qr r H' bc' bs') : w_Law_pages x1 a1 x3 H bc bs Qr := by
  obtain ⟨oc, or_, hJ⟩ := hP
  obtain ⟨ad, W, ts, rc, rs, e0, hI, hg, hc⟩ := jL_cl hJ
  subst e0
  unfold w_Law_pages
  exact ⟨hI.1.1.k 0 (by omega), ho_pages hI hg (fun r h' bc' bs' q _ => jP_out (hc _ _ _ q) (fun H' p => hQ _ _ _ _ p)) (fun h' bc' bs' q _ _ => ⟨rfl, hQ _ _ _ _ (hc _ _ _ q)⟩)⟩
theorem lw_peek {a1 a2 : Int32} {Qr : Int32 → xb_H → Nat → Nat → Prop} (hP : jP σ x1 mm x3 (K + 1) (K + 1) H bc bs) (hQ : ∀ (r : Int32) (H' : xb_H) (bc' bs' : Nat), jP σ x1 mm x3 (K + 1) K H' bc' bs' → Qr r H' bc' bs') : w_Law_peek x1 a1 a2 x3 H bc bs Qr := by
  obtain ⟨oc, or_, hJ⟩ := hP
  obtain ⟨ad, W, ts, rc, rs, e0, hI, hg, hc⟩ := jL_cl hJ
  subst e0
  unfold w_Law_peek
  exact ⟨hI.1.1.k 0 (by omega), ho_peek hI hg (fun r h' bc' bs' q _ => jP_out (hc _ _ _ q) (fun H' p => hQ _ _ _ _ p)) (fun h' bc' bs' q _ _ => ⟨rfl, hQ _ _ _ _ (hc _ _ _ q)⟩)⟩
theorem lw_poke {a1 a2 a3 : Int32} {Qr : Int32 → xb_H → Nat → Nat → Prop} (hP : jP σ x1 mm x3 (K + 1) (K + 1) H bc bs) (hQ : ∀ (r : Int32) (H' : xb_H) (bc' bs' : Nat), jP σ x1 mm x3 (K + 1) K H' bc' bs' → Qr r H' bc' bs') : w_Law_poke x1 a1 a2 a3  H bc bs Qr := by
  obtain ⟨oc, or_, hJ⟩ := hP
  obtain ⟨ad, W, ts, rc, rs, e0, hI, hg, hc⟩ := jL_cl hJ
  subst e0
  unfold w_Law_poke
  exact ⟨hI.1.1.k 0 (by omega), ho_poke hI hg (fun h' bc' bs' q _ => hQ _ _ _ _ (hc _ _ _ q)) (fun h' bc' bs' q _ _ => ⟨rfl, hQ _ _ _ _ (hc _ _ _ q)⟩)⟩
theorem lw_variable {a1 a2 : Int32} {Qr : Int32 → xb_H → Nat → Nat → Prop} (hP : jP σ x1 mm x3 (K + 1) (K + 1) H bc bs) (hQ : ∀ (r : Int32) (H' : xb_H) (bc' bs' : Nat), jP σ x1 mm x3 (K + 1) K H' bc' bs' → Qr r H' bc' bs') : w_Law_variable x1 a1 a2 x3 H bc bs Qr := by
  obtain ⟨oc, or_, hJ⟩ := hP
  obtain ⟨ad, W, ts, rc, rs, e0, hI, hg, hc⟩ := jL_cl hJ
  subst e0
  unfold w_Law_variable
  exact ⟨hI.1.1.k 0 (by omega), ho_variable hI hg (fun r h' bc' bs' q _ => jP_out (hc _ _ _ q) (fun H' p => hQ _ _ _ _ p)) (fun h' bc' bs' q _ _ => ⟨rfl, hQ _ _ _ _ (hc _ _ _ q)⟩)⟩
theorem lw_element {a1 a2 : Int32} {Qr : Int32 → xb_H → Nat → Nat → Prop} (hP : jP σ x1 mm x3 (K + 1) (K + 1) H bc bs) (hQ : ∀ (r : Int32) (H' : xb_H) (bc' bs' : Nat), jP σ x1 mm x3 (K + 1) K H' bc' bs' → Qr r H' bc' bs') : w_Law_element x1 a1 a2 x3 H bc bs Qr := by
  obtain ⟨oc, or_, hJ⟩ := hP
  obtain ⟨ad, W, ts, rc, rs, e0, hI, hg, hc⟩ := jL_cl hJ
  subst e0
  unfold w_Law_element
  exact ⟨hI.1.1.k 0 (by omega), ho_element hI hg (fun r h' bc' bs' q _ => jP_out (hc _ _ _ q) (fun H' p => hQ _ _ _ _ p)) (fun h' bc' bs' q _ _ => ⟨rfl, hQ _ _ _ _ (hc _ _ _ q)⟩)⟩
theorem lw_out {a1 : Int32} {Qr : Int32 → xb_H → Nat → Nat → Prop} (hP : jP σ x1 mm x3 (K + 1) (K + 1) H bc bs) (hQ : ∀ (r : Int32) (H' : xb_H) (bc' bs' : Nat), jP σ x1 mm x3 (K + 1) K H' bc' bs' → Qr r H' bc' bs') : w_Law_out x1 a1 x3 H bc bs Qr := by
  obtain ⟨oc, or_, hJ⟩ := hP
  obtain ⟨ad, W, ts, rc, rs, e0, hI, hg, hc⟩ := jL_cl hJ
  subst e0
  unfold w_Law_out
  exact ⟨hI.1.1.k 0 (by omega), ho_out hI hg (fun r h' bc' bs' q _ => jP_out (hc _ _ _ q) (fun H' p => hQ _ _ _ _ p)) (fun h' bc' bs' q _ _ => ⟨rfl, hQ _ _ _ _ (hc _ _ _ q)⟩)⟩
theorem lh_stop {Qr : Int32 → xb_H → Prop} (hP : jP σ x1 mm x3 (K + 1) (K + 1) H bc bs) (hQ : ∀ (r : Int32) (H' : xb_H), jP σ x1 mm x3 (K + 1) K H' bc bs → Qr r H') : w_H_stop x1 H Qr := by
  obtain ⟨oc, or_, hJ⟩ := hP
  obtain ⟨ad, W, ts, rc, rs, e0, hI, hg, hc⟩ := jL_cl hJ
  subst e0
  exact ho_stop hI hg (fun r h' q => hQ _ _ (hc _ _ _ q))
theorem lh_calls {Qr : Int32 → xb_H → Prop} (hP : jP σ x1 mm x3 (K + 1) (K + 1) H bc bs) (hQ : ∀ (r : Int32) (H' : xb_H), jP σ x1 mm x3 (K + 1) K H' bc bs → Qr r H') : w_H_calls x1 H Qr := by
  obtain ⟨oc, or_, hJ⟩ := hP
  obtain ⟨ad, W, ts, rc, rs, e0, hI, hg, hc⟩ := jL_cl hJ
  subst e0
  exact ho_calls hI hg (fun r h' q => hQ _ _ (hc _ _ _ q))
theorem lh_result {Qr : Int64 → xb_H → Prop} (hP : jP σ x1 mm x3 (K + 1) (K + 1) H bc bs) (hQ : ∀ (r : Int64) (H' : xb_H), jP σ x1 mm x3 (K + 1) K H' bc bs → Qr r H') : w_H_result x1 H Qr := by
  obtain ⟨oc, or_, hJ⟩ := hP
  obtain ⟨ad, W, ts, rc, rs, e0, hI, hg, hc⟩ := jL_cl hJ
  subst e0
  exact ho_result hI hg (fun r h' q => hQ _ _ (hc _ _ _ q))
theorem lh_outs {Qr : Int32 → xb_H → Prop} (hP : jP σ x1 mm x3 (K + 1) (K + 1) H bc bs) (hQ : ∀ (r : Int32) (H' : xb_H), jP σ x1 mm x3 (K + 1) K H' bc bs → Qr r H') : w_H_outs x1 H Qr := by
  obtain ⟨oc, or_, hJ⟩ := hP
  obtain ⟨ad, W, ts, rc, rs, e0, hI, hg, hc⟩ := jL_cl hJ
  subst e0
  exact ho_outs hI hg (fun r h' q => hQ _ _ (hc _ _ _ q))
theorem lh_clear {Qr : Int32 → xb_H → Prop} (hP : jP σ x1 mm x3 (K + 1) (K + 1) H bc bs) (hQ : ∀ (r : Int32) (H' : xb_H), jP σ x1 mm x3 (K + 1) K H' bc bs → Qr r H') : w_H_clear x1 H Qr := by
  obtain ⟨oc, or_, hJ⟩ := hP
  obtain ⟨ad, W, ts, rc, rs, e0, hI, hg, hc⟩ := jL_cl hJ
  subst e0
  exact ho_clear hI hg (fun r h' q => hQ _ _ (hc _ _ _ q))
theorem mw_feed {a1 a2 a3 a4 a5 : Int32} {Q : Int32 → xb_H → Prop} (hP : jP σ x1 mm x3 (K + 1) K H bc bs) (hQ : ∀ (r : Int32) (H' : xb_H), jP σ x1 mm x3 K K H' bc bs → Q r H') : w_M_feed mm a1 a2 a3 a4 a5 H (fun (r : Int32) (H' : xb_H) => xb_ext H H' → Q r H') := by
  obtain ⟨oc, or_, A, h, F, v, DM, len, rl, ad, W, ts, rfl, hA, e0, hI, hg, agr, h3⟩ := hP
  exact r_feed hA (fun r h' F' v' hf hA' he => hQ _ _ (jL_ref hA e0 hI agr h3 hf.z hA' (refG hg).dn he))
theorem mw_end {a1 : Int32} {Q : xb_H → Prop} (hP : jP σ x1 mm x3 (K + 1) K H bc bs) (hQ : ∀ (H' : xb_H), jP σ x1 mm x3 K K H' bc bs → Q H') : w_M_end mm a1 H (fun (H' : xb_H) => xb_ext H H' → Q H') := by
  obtain ⟨oc, or_, A, h, F, v, DM, len, rl, ad, W, ts, rfl, hA, e0, hI, hg, agr, h3⟩ := hP
  exact r_end hA (fun h' F' v' hf hA' he => hQ _ (jL_ref hA e0 hI agr h3 hf.z hA' (refG hg).dn he))
theorem mw_load {Q : Int32 → xb_H → Nat → Nat → Prop} (hP : jP σ x1 mm x3 (K + 1) K H bc bs) (hQ : ∀ (r : Int32) (H' : xb_H) (bc' bs' : Nat), jP σ x1 mm x3 K K H' bc' bs' → Q r H' bc' bs') : w_M_load mm  H bc bs (fun (r : Int32) (H' : xb_H) (bc' bs' : Nat) => xb_ext H H' → Q r H' bc' bs') := by
  obtain ⟨oc, or_, A, h, F, v, DM, len, rl, ad, W, ts, rfl, hA, e0, hI, hg, agr, h3⟩ := hP
  exact r_load hA (refG hg) (fun r or' A' h' F' v' DM' len' rl' bc' bs' hT hA' hg' he => hQ _ _ _ _ (jL_ref hA e0 hI agr h3 hT hA' hg' he))
theorem mw_fault {a1 : Int32} {Q : Int32 → xb_H → Prop} (hP : jP σ x1 mm x3 (K + 1) K H bc bs) (hQ : ∀ (r : Int32) (H' : xb_H), jP σ x1 mm x3 K K H' bc bs → Q r H') : w_M_fault mm a1 H (fun (r : Int32) (H' : xb_H) => xb_ext H H' → Q r H') := by
  obtain ⟨oc, or_, A, h, F, v, DM, len, rl, ad, W, ts, rfl, hA, e0, hI, hg, agr, h3⟩ := hP
  exact r_fault hA (fun r h' F' v' hf hA' he => hQ _ _ (jL_ref hA e0 hI agr h3 hf.z hA' (refG hg).dn he))
theorem mw_module {a1 a2 : Int32} {Q : Int32 → xb_H → Prop} (hP : jP σ x1 mm x3 (K + 1) K H bc bs) (hQ : ∀ (r : Int32) (H' : xb_H), jP σ x1 mm x3 K K H' bc bs → Q r H') : w_M_module mm a1 a2 H (fun (r : Int32) (H' : xb_H) => xb_ext H H' → Q r H') := by
  obtain ⟨oc, or_, A, h, F, v, DM, len, rl, ad, W, ts, rfl, hA, e0, hI, hg, agr, h3⟩ := hP
  exact r_module hA (fun r h' F' v' hf hA' he => hQ _ _ (jL_ref hA e0 hI agr h3 hf.z hA' (refG hg).dn he))
theorem mw_room {a1 a2 : Int32} {Q : Int32 → xb_H → Prop} (hP : jP σ x1 mm x3 (K + 1) K H bc bs) (hQ : ∀ (r : Int32) (H' : xb_H), jP σ x1 mm x3 K K H' bc bs → Q r H') : w_M_room mm a1 a2 H (fun (r : Int32) (H' : xb_H) => xb_ext H H' → Q r H') := by
  obtain ⟨oc, or_, A, h, F, v, DM, len, rl, ad, W, ts, rfl, hA, e0, hI, hg, agr, h3⟩ := hP
  exact r_room hA (fun r h' F' v' hf hA' he => hQ _ _ (jL_ref hA e0 hI agr h3 hf.z hA' (refG hg).dn he))
theorem mw_instantiate {a1 : Int32} {Q : Int32 → xb_H → Nat → Nat → Prop} (hP : jP σ x1 mm x3 (K + 1) K H bc bs) (hQ : ∀ (r : Int32) (H' : xb_H) (bc' bs' : Nat), jP σ x1 mm x3 K K H' bc' bs' → Q r H' bc' bs') : w_M_instantiate mm a1 H bc bs (fun (r : Int32) (H' : xb_H) (bc' bs' : Nat) => xb_ext H H' → Q r H' bc' bs') := by
  obtain ⟨oc, or_, A, h, F, v, DM, len, rl, ad, W, ts, rfl, hA, e0, hI, hg, agr, h3⟩ := hP
  exact r_instantiate hA (refG hg) (fun r or' A' h' F' v' DM' len' rl' bc' bs' hT hA' hg' he => hQ _ _ _ _ (jL_ref hA e0 hI agr h3 hT hA' hg' he))
theorem mw_name1 {a1 : Int32} {Q : xb_H → Nat → Nat → Prop} (hP : jP σ x1 mm x3 (K + 1) K H bc bs) (hQ : ∀ (H' : xb_H) (bc' bs' : Nat), jP σ x1 mm x3 K K H' bc' bs' → Q H' bc' bs') : w_M_name1 mm a1 H bc bs (fun (H' : xb_H) (bc' bs' : Nat) => xb_ext H H' → Q H' bc' bs') := by
  obtain ⟨oc, or_, A, h, F, v, DM, len, rl, ad, W, ts, rfl, hA, e0, hI, hg, agr, h3⟩ := hP
  exact r_name hA (refG hg) (fun or' A' h' F' v' DM' len' rl' bc' bs' hT hA' hg' he => hQ _ _ _ (jL_ref hA e0 hI agr h3 hT hA' hg' he))
theorem mw_find {a1 : Int32} {Q : Int32 → xb_H → Nat → Nat → Prop} (hP : jP σ x1 mm x3 (K + 1) K H bc bs) (hQ : ∀ (r : Int32) (H' : xb_H) (bc' bs' : Nat), jP σ x1 mm x3 K K H' bc' bs' → Q r H' bc' bs') : w_M_find mm a1 H bc bs (fun (r : Int32) (H' : xb_H) (bc' bs' : Nat) => xb_ext H H' → Q r H' bc' bs') := by
  obtain ⟨oc, or_, A, h, F, v, DM, len, rl, ad, W, ts, rfl, hA, e0, hI, hg, agr, h3⟩ := hP
  exact r_find hA (refG hg) (fun r or' A' h' F' v' DM' len' rl' bc' bs' hT hA' hg' he => hQ _ _ _ _ (jL_ref hA e0 hI agr h3 hT hA' hg' he))
theorem mw_exported {a1 a2 a3 : Int32} {Q : Int32 → xb_H → Prop} (hP : jP σ x1 mm x3 (K + 1) K H bc bs) (hQ : ∀ (r : Int32) (H' : xb_H), jP σ x1 mm x3 K K H' bc bs → Q r H') : w_M_exported mm a1 a2 a3 H (fun (r : Int32) (H' : xb_H) => xb_ext H H' → Q r H') := by
  obtain ⟨oc, or_, A, h, F, v, DM, len, rl, ad, W, ts, rfl, hA, e0, hI, hg, agr, h3⟩ := hP
  exact r_exported hA (fun r h' F' v' hf hA' he => hQ _ _ (jL_ref hA e0 hI agr h3 hf.z hA' (refG hg).dn he))
theorem mw_push {a1 : Int64} {Q : Int32 → xb_H → Prop} (hP : jP σ x1 mm x3 (K + 1) K H bc bs) (hQ : ∀ (r : Int32) (H' : xb_H), jP σ x1 mm x3 K K H' bc bs → Q r H') : w_M_push mm a1 H (fun (r : Int32) (H' : xb_H) => xb_ext H H' → Q r H') := by
  obtain ⟨oc, or_, A, h, F, v, DM, len, rl, ad, W, ts, rfl, hA, e0, hI, hg, agr, h3⟩ := hP
  exact r_push hA (fun r h' F' v' hf hA' he => hQ _ _ (jL_ref hA e0 hI agr h3 hf.z hA' (refG hg).dn he))
theorem mw_invoke {a1 a2 : Int32} {Q : xb_H → Prop} (hP : jP σ x1 mm x3 (K + 1) K H bc bs) (hQ : ∀ (H' : xb_H), jP σ x1 mm x3 K K H' bc bs → Q H') : w_M_invoke mm a1 a2 H (fun (H' : xb_H) => xb_ext H H' → Q H') := by
  obtain ⟨oc, or_, A, h, F, v, DM, len, rl, ad, W, ts, rfl, hA, e0, hI, hg, agr, h3⟩ := hP
  exact r_invoke hA (fun h' F' v' hf hA' he => hQ _ (jL_ref hA e0 hI agr h3 hf.z hA' (refG hg).dn he))
theorem mw_run {a1 : Int32} {Q : Int32 → xb_H → Prop} (hP : jP σ x1 mm x3 (K + 1) K H bc bs) (hQ : ∀ (r : Int32) (H' : xb_H), jP σ x1 mm x3 K K H' bc bs → Q r H') : w_M_run mm a1 H (fun (r : Int32) (H' : xb_H) => xb_ext H H' → Q r H') := by
  obtain ⟨oc, or_, A, h, F, v, DM, len, rl, ad, W, ts, rfl, hA, e0, hI, hg, agr, h3⟩ := hP
  exact r_run hA (fun r h' F' v' hf hA' he => hQ _ _ (jL_ref hA e0 hI agr h3 hf.z hA' (refG hg).dn he))
theorem mw_stop {Q : Int32 → xb_H → Prop} (hP : jP σ x1 mm x3 (K + 1) K H bc bs) (hQ : ∀ (r : Int32) (H' : xb_H), jP σ x1 mm x3 K K H' bc bs → Q r H') : w_M_stop mm  H (fun (r : Int32) (H' : xb_H) => xb_ext H H' → Q r H') := by
  obtain ⟨oc, or_, A, h, F, v, DM, len, rl, ad, W, ts, rfl, hA, e0, hI, hg, agr, h3⟩ := hP
  exact r_stop hA (fun r h' F' v' hf hA' he => hQ _ _ (jL_ref hA e0 hI agr h3 hf.z hA' (refG hg).dn he))
theorem mw_calls {Q : Int32 → xb_H → Prop} (hP : jP σ x1 mm x3 (K + 1) K H bc bs) (hQ : ∀ (r : Int32) (H' : xb_H), jP σ x1 mm x3 K K H' bc bs → Q r H') : w_M_calls mm  H (fun (r : Int32) (H' : xb_H) => xb_ext H H' → Q r H') := by
  obtain ⟨oc, or_, A, h, F, v, DM, len, rl, ad, W, ts, rfl, hA, e0, hI, hg, agr, h3⟩ := hP
  exact r_calls hA (fun r h' F' v' hf hA' he => hQ _ _ (jL_ref hA e0 hI agr h3 hf.z hA' (refG hg).dn he))
theorem mw_result {Q : Int64 → xb_H → Prop} (hP : jP σ x1 mm x3 (K + 1) K H bc bs) (hQ : ∀ (r : Int64) (H' : xb_H), jP σ x1 mm x3 K K H' bc bs → Q r H') : w_M_result mm  H (fun (r : Int64) (H' : xb_H) => xb_ext H H' → Q r H') := by
  obtain ⟨oc, or_, A, h, F, v, DM, len, rl, ad, W, ts, rfl, hA, e0, hI, hg, agr, h3⟩ := hP
  exact r_result hA (fun r h' F' v' hf hA' he => hQ _ _ (jL_ref hA e0 hI agr h3 hf.z hA' (refG hg).dn he))
theorem mw_trap {a1 : Int32} {Q : Int32 → xb_H → Prop} (hP : jP σ x1 mm x3 (K + 1) K H bc bs) (hQ : ∀ (r : Int32) (H' : xb_H), jP σ x1 mm x3 K K H' bc bs → Q r H') : w_M_trap mm a1 H (fun (r : Int32) (H' : xb_H) => xb_ext H H' → Q r H') := by
  obtain ⟨oc, or_, A, h, F, v, DM, len, rl, ad, W, ts, rfl, hA, e0, hI, hg, agr, h3⟩ := hP
  exact r_trap hA (fun r h' F' v' hf hA' he => hQ _ _ (jL_ref hA e0 hI agr h3 hf.z hA' (refG hg).dn he))
theorem mw_pages {a1 : Int32} {Q : Int32 → xb_H → Prop} (hP : jP σ x1 mm x3 (K + 1) K H bc bs) (hQ : ∀ (r : Int32) (H' : xb_H), jP σ x1 mm x3 K K H' bc bs → Q r H') : w_M_pages mm a1 H (fun (r : Int32) (H' : xb_H) => xb_ext H H' → Q r H') := by
  obtain ⟨oc, or_, A, h, F, v, DM, len, rl, ad, W, ts, rfl, hA, e0, hI, hg, agr, h3⟩ := hP
  exact r_pages hA (fun r h' F' v' hf hA' he => hQ _ _ (jL_ref hA e0 hI agr h3 hf.z hA' (refG hg).dn he))
theorem mw_peek {a1 a2 : Int32} {Q : Int32 → xb_H → Prop} (hP : jP σ x1 mm x3 (K + 1) K H bc bs) (hQ : ∀ (r : Int32) (H' : xb_H), jP σ x1 mm x3 K K H' bc bs → Q r H') : w_M_peek mm a1 a2 H (fun (r : Int32) (H' : xb_H) => xb_ext H H' → Q r H') := by
  obtain ⟨oc, or_, A, h, F, v, DM, len, rl, ad, W, ts, rfl, hA, e0, hI, hg, agr, h3⟩ := hP
  exact r_peek hA (fun r h' F' v' hf hA' he => hQ _ _ (jL_ref hA e0 hI agr h3 hf.z hA' (refG hg).dn he))
theorem mw_poke {a1 a2 a3 : Int32} {Q : xb_H → Prop} (hP : jP σ x1 mm x3 (K + 1) K H bc bs) (hQ : ∀ (H' : xb_H), jP σ x1 mm x3 K K H' bc bs → Q H') : w_M_poke mm a1 a2 a3 H (fun (H' : xb_H) => xb_ext H H' → Q H') := by
  obtain ⟨oc, or_, A, h, F, v, DM, len, rl, ad, W, ts, rfl, hA, e0, hI, hg, agr, h3⟩ := hP
  exact r_poke hA (fun h' F' v' hf hA' he => hQ _ (jL_ref hA e0 hI agr h3 hf.z hA' (refG hg).dn he))
theorem mw_variable {a1 a2 : Int32} {Q : Int64 → xb_H → Prop} (hP : jP σ x1 mm x3 (K + 1) K H bc bs) (hQ : ∀ (r : Int64) (H' : xb_H), jP σ x1 mm x3 K K H' bc bs → Q r H') : w_M_variable mm a1 a2 H (fun (r : Int64) (H' : xb_H) => xb_ext H H' → Q r H') := by
  obtain ⟨oc, or_, A, h, F, v, DM, len, rl, ad, W, ts, rfl, hA, e0, hI, hg, agr, h3⟩ := hP
  exact r_variable hA (fun r h' F' v' hf hA' he => hQ _ _ (jL_ref hA e0 hI agr h3 hf.z hA' (refG hg).dn he))
theorem mw_element {a1 a2 : Int32} {Q : Int32 → xb_H → Prop} (hP : jP σ x1 mm x3 (K + 1) K H bc bs) (hQ : ∀ (r : Int32) (H' : xb_H), jP σ x1 mm x3 K K H' bc bs → Q r H') : w_M_element mm a1 a2 H (fun (r : Int32) (H' : xb_H) => xb_ext H H' → Q r H') := by
  obtain ⟨oc, or_, A, h, F, v, DM, len, rl, ad, W, ts, rfl, hA, e0, hI, hg, agr, h3⟩ := hP
  exact r_element hA (fun r h' F' v' hf hA' he => hQ _ _ (jL_ref hA e0 hI agr h3 hf.z hA' (refG hg).dn he))
theorem mw_wrong {Q : Int32 → xb_H → Prop} (hP : jP σ x1 mm x3 (K + 1) K H bc bs) (hQ : ∀ (H' : xb_H), jP σ x1 mm x3 K K H' bc bs → Q 0 H') : w_M_wrong mm  H (fun (r : Int32) (H' : xb_H) => xb_ext H H' → Q r H') := by
  obtain ⟨oc, or_, A, h, F, v, DM, len, rl, ad, W, ts, rfl, hA, e0, hI, hg, agr, h3⟩ := hP
  exact r_wrong hA (fun h' F' v' hf hA' he => hQ _ (jL_ref hA e0 hI agr h3 hf.z hA' (refG hg).dn he))
theorem mw_outs {Q : Int32 → xb_H → Prop} (hP : jP σ x1 mm x3 (K + 1) K H bc bs) (hQ : ∀ (r : Int32) (H' : xb_H), jP σ x1 mm x3 K K H' bc bs → Q r H') : w_M_outs mm  H (fun (r : Int32) (H' : xb_H) => xb_ext H H' → Q r H') := by
  obtain ⟨oc, or_, A, h, F, v, DM, len, rl, ad, W, ts, rfl, hA, e0, hI, hg, agr, h3⟩ := hP
  exact r_outs hA (fun r h' F' v' hf hA' he => hQ _ _ (jL_ref hA e0 hI agr h3 hf.z hA' (refG hg).dn he))
theorem mw_out {a1 : Int32} {Q : Int64 → xb_H → Prop} (hP : jP σ x1 mm x3 (K + 1) K H bc bs) (hQ : ∀ (r : Int64) (H' : xb_H), jP σ x1 mm x3 K K H' bc bs → Q r H') : w_M_out mm a1 H (fun (r : Int64) (H' : xb_H) => xb_ext H H' → Q r H') := by
  obtain ⟨oc, or_, A, h, F, v, DM, len, rl, ad, W, ts, rfl, hA, e0, hI, hg, agr, h3⟩ := hP
  exact r_out hA (fun r h' F' v' hf hA' he => hQ _ _ (jL_ref hA e0 hI agr h3 hf.z hA' (refG hg).dn he))
theorem mw_clear {Q : Int32 → xb_H → Prop} (hP : jP σ x1 mm x3 (K + 1) K H bc bs) (hQ : ∀ (r : Int32) (H' : xb_H), jP σ x1 mm x3 K K H' bc bs → Q r H') : w_M_clear mm  H (fun (r : Int32) (H' : xb_H) => xb_ext H H' → Q r H') := by
  obtain ⟨oc, or_, A, h, F, v, DM, len, rl, ad, W, ts, rfl, hA, e0, hI, hg, agr, h3⟩ := hP
  exact r_clear hA (fun r h' F' v' hf hA' he => hQ _ _ (jL_ref hA e0 hI agr h3 hf.z hA' (refG hg).dn he))
end LW1
